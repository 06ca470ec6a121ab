theorem i_X8_isCell_0 : fetch 127 0 = some (.iload_n 0, 1, 0, 0, 0, 0) := by decide +kernel
theorem i_X8_isCell_1 : fetch 127 1 = some (.iconst 0, 2, 0, 0, 0, 0) := by decide +kernel
theorem i_X8_isCell_2 : fetch 127 2 = some (.bipush 11, 4, 0, 0, 0, 0) := by decide +kernel
theorem i_X8_isCell_4 : fetch 127 4 = some (.invokestatic 112, 7, 126, 0, 0, 970) := by decide +kernel
theorem i_X8_isCell_7 : fetch 127 7 = some (.ireturn, 8, 0, 0, 0, 0) := by decide +kernel
def f_X8_isCell_0 (v0 : Int32) (h : Hp) : Option (Int32 × Hp) :=
  (f_X8_in v0 0 11 h).bind fun o1 =>
  if o1.1 = 0 ∨ o1.1 = 1 then
  some (o1.1, o1.2)
  else none
set_option maxRecDepth 100000 in
set_option maxHeartbeats 4000000 in
theorem r_X8_isCell_0 {X : Nat → Int32} {d : Nat} (hd : 1 ≤ (d + 1)) {v0 : Int32} {h : Hp} {o : (Int32 × Hp)} (hf : f_X8_isCell_0 v0 h = some o) : Run X (d + 1) 127 0 [some (.int v0)] [] h (some (.int o.1), o.2) := by
  unfold f_X8_isCell_0 at hf
  refine rs_iload_n i_X8_isCell_0 rfl ?_
  refine rs_iconst i_X8_isCell_1 (v := 0) (by decide) ?_
  refine rs_bipush i_X8_isCell_2 (v := 11) (by decide) ?_
  obtain ⟨o1, e1, hf⟩ := bind_some hf
  refine rs_inS i_X8_isCell_4 (by decide) m_X8_in rfl (As := [.int v0, .int 0, .int 11]) (rest := []) rfl rfl (Nat.le_of_ble_eq_true rfl) (c_X8_in (by omega) e1) (st' := [.int o1.1]) rfl ?_
  obtain ⟨c2, hf⟩ := ite_some hf
  have hf := Option.some.inj hf
  subst hf
  exact rs_iret i_X8_isCell_7 m_X8_isCell (decide_eq_true c2)
def f_X8_isCell (v0 : Int32) (h : Hp) : Option (Int32 × Hp) := f_X8_isCell_0 v0 h
theorem c_X8_isCell {X : Nat → Int32} {d : Nat} (hd : 1 ≤ d) {v0 : Int32} {h : Hp} {o : (Int32 × Hp)} (hf : f_X8_isCell v0 h = some o) : Calls X d 127 [.int v0] h (some (.int o.1), o.2) := by
  obtain ⟨d, rfl⟩ : ∃ z, d = z + 1 := ⟨d - 1, by omega⟩
  exact ⟨_, rfl, r_X8_isCell_0 hd hf⟩
theorem i_X8_areSteps_0 : fetch 128 0 = some (.iload_n 1, 1, 0, 0, 0, 0) := by decide +kernel
theorem i_X8_areSteps_1 : fetch 128 1 = some (.iconst 0, 2, 0, 0, 0, 0) := by decide +kernel
theorem i_X8_areSteps_2 : fetch 128 2 = some (.aload_n 0, 3, 0, 0, 0, 0) := by decide +kernel
theorem i_X8_areSteps_3 : fetch 128 3 = some (.getfield 116, 6, 8, 5, 0, 1014) := by decide +kernel
theorem i_X8_areSteps_6 : fetch 128 6 = some (.invokestatic 112, 9, 126, 0, 0, 970) := by decide +kernel
theorem i_X8_areSteps_9 : fetch 128 9 = some (.ireturn, 10, 0, 0, 0, 0) := by decide +kernel
def f_X8_areSteps_0 (v0 : Nat) (v1 : Int32) (h : Hp) : Option (Int32 × Hp) :=
  if okO h v0 8 then
  (f_X8_in v1 0 (gI h v0 5) h).bind fun o2 =>
  if o2.1 = 0 ∨ o2.1 = 1 then
  some (o2.1, o2.2)
  else none
  else none
set_option maxRecDepth 100000 in
set_option maxHeartbeats 4000000 in
theorem r_X8_areSteps_0 {X : Nat → Int32} {d : Nat} (hd : 1 ≤ (d + 1)) {v0 : Nat} {v1 : Int32} {h : Hp} {o : (Int32 × Hp)} (hf : f_X8_areSteps_0 v0 v1 h = some o) : Run X (d + 1) 128 0 [some (.ref v0), some (.int v1)] [] h (some (.int o.1), o.2) := by
  unfold f_X8_areSteps_0 at hf
  refine rs_iload_n i_X8_areSteps_0 rfl ?_
  refine rs_iconst i_X8_areSteps_1 (v := 0) (by decide) ?_
  refine rs_aload_n i_X8_areSteps_2 rfl ?_
  obtain ⟨c1, hf⟩ := ite_some hf
  refine rs_getI i_X8_areSteps_3 (by decide) (by decide) c1 ?_
  obtain ⟨o2, e2, hf⟩ := bind_some hf
  refine rs_inS i_X8_areSteps_6 (by decide) m_X8_in rfl (As := [.int v1, .int 0, .int (gI h v0 5)]) (rest := []) rfl rfl (Nat.le_of_ble_eq_true rfl) (c_X8_in (by omega) e2) (st' := [.int o2.1]) rfl ?_
  obtain ⟨c3, hf⟩ := ite_some hf
  have hf := Option.some.inj hf
  subst hf
  exact rs_iret i_X8_areSteps_9 m_X8_areSteps (decide_eq_true c3)
def f_X8_areSteps (v0 : Nat) (v1 : Int32) (h : Hp) : Option (Int32 × Hp) := f_X8_areSteps_0 v0 v1 h
theorem c_X8_areSteps {X : Nat → Int32} {d : Nat} (hd : 1 ≤ d) {v0 : Nat} {v1 : Int32} {h : Hp} {o : (Int32 × Hp)} (hf : f_X8_areSteps v0 v1 h = some o) : Calls X d 128 [.ref v0, .int v1] h (some (.int o.1), o.2) := by
  obtain ⟨d, rfl⟩ : ∃ z, d = z + 1 := ⟨d - 1, by omega⟩
  exact ⟨_, rfl, r_X8_areSteps_0 hd hf⟩
theorem i_X8_size_0 : fetch 129 0 = some (.iload_n 0, 1, 0, 0, 0, 0) := by decide +kernel
theorem i_X8_size_1 : fetch 129 1 = some (.ifCond .ge 8, 4, 0, 0, 0, 0) := by decide +kernel
theorem i_X8_size_4 : fetch 129 4 = some (.iload_n 0, 5, 0, 0, 0, 0) := by decide +kernel
theorem i_X8_size_5 : fetch 129 5 = some (.ineg, 6, 0, 0, 0, 0) := by decide +kernel
theorem i_X8_size_6 : fetch 129 6 = some (.goto 4, 9, 0, 0, 0, 0) := by decide +kernel
theorem i_X8_size_9 : fetch 129 9 = some (.iload_n 0, 10, 0, 0, 0, 0) := by decide +kernel
theorem i_X8_size_10 : fetch 129 10 = some (.ireturn, 11, 0, 0, 0, 0) := by decide +kernel
def f_X8_size_0 (v0 : Int32) (h : Hp) : Option (Int32 × Hp) :=
  if 0 ≤ v0 then
    some (v0, h)
  else
    some ((-v0), h)
set_option maxRecDepth 100000 in
set_option maxHeartbeats 4000000 in
theorem r_X8_size_0 {X : Nat → Int32} {d : Nat} (hd : 0 ≤ d) {v0 : Int32} {h : Hp} {o : (Int32 × Hp)} (hf : f_X8_size_0 v0 h = some o) : Run X d 129 0 [some (.int v0)] [] h (some (.int o.1), o.2) := by
  unfold f_X8_size_0 at hf
  refine rs_iload_n i_X8_size_0 rfl ?_
  by_cases c1 : 0 ≤ v0
  · replace hf := (if_pos c1).symm.trans hf
    refine rs_ifT i_X8_size_1 (ct_ge c1) (tg := 9) (by decide) ?_
    refine rs_iload_n i_X8_size_9 rfl ?_
    have hf := Option.some.inj hf
    subst hf
    exact rs_iret i_X8_size_10 m_X8_size rfl
  · replace hf := (if_neg c1).symm.trans hf
    refine rs_ifF i_X8_size_1 (cf_ge c1) ?_
    refine rs_iload_n i_X8_size_4 rfl ?_
    refine rs_ineg i_X8_size_5 ?_
    refine rs_goto i_X8_size_6 (tg := 10) (by decide) ?_
    have hf := Option.some.inj hf
    subst hf
    exact rs_iret i_X8_size_10 m_X8_size rfl
def f_X8_size (v0 : Int32) (h : Hp) : Option (Int32 × Hp) := f_X8_size_0 v0 h
theorem c_X8_size {X : Nat → Int32} {d : Nat} (hd : 0 ≤ d) {v0 : Int32} {h : Hp} {o : (Int32 × Hp)} (hf : f_X8_size v0 h = some o) : Calls X d 129 [.int v0] h (some (.int o.1), o.2) := by
  exact ⟨_, rfl, r_X8_size_0 hd hf⟩
theorem i_X8_within_0 : fetch 130 0 = some (.iload_n 0, 1, 0, 0, 0, 0) := by decide +kernel
theorem i_X8_within_1 : fetch 130 1 = some (.iload_n 1, 2, 0, 0, 0, 0) := by decide +kernel
theorem i_X8_within_2 : fetch 130 2 = some (.if_icmp .ge 7, 5, 0, 0, 0, 0) := by decide +kernel
theorem i_X8_within_5 : fetch 130 5 = some (.iload_n 1, 6, 0, 0, 0, 0) := by decide +kernel
theorem i_X8_within_6 : fetch 130 6 = some (.goto 13, 9, 0, 0, 0, 0) := by decide +kernel
theorem i_X8_within_9 : fetch 130 9 = some (.iload_n 0, 10, 0, 0, 0, 0) := by decide +kernel
theorem i_X8_within_10 : fetch 130 10 = some (.iload_n 2, 11, 0, 0, 0, 0) := by decide +kernel
theorem i_X8_within_11 : fetch 130 11 = some (.if_icmp .le 7, 14, 0, 0, 0, 0) := by decide +kernel
theorem i_X8_within_14 : fetch 130 14 = some (.iload_n 2, 15, 0, 0, 0, 0) := by decide +kernel
theorem i_X8_within_15 : fetch 130 15 = some (.goto 4, 18, 0, 0, 0, 0) := by decide +kernel
theorem i_X8_within_18 : fetch 130 18 = some (.iload_n 0, 19, 0, 0, 0, 0) := by decide +kernel
theorem i_X8_within_19 : fetch 130 19 = some (.ireturn, 20, 0, 0, 0, 0) := by decide +kernel
def f_X8_within_0 (v0 : Int32) (v1 : Int32) (v2 : Int32) (h : Hp) : Option (Int32 × Hp) :=
  if v1 ≤ v0 then
    if v0 ≤ v2 then
      some (v0, h)
    else
      some (v2, h)
  else
    some (v1, h)
set_option maxRecDepth 100000 in
set_option maxHeartbeats 4000000 in
theorem r_X8_within_0 {X : Nat → Int32} {d : Nat} (hd : 0 ≤ d) {v0 : Int32} {v1 : Int32} {v2 : Int32} {h : Hp} {o : (Int32 × Hp)} (hf : f_X8_within_0 v0 v1 v2 h = some o) : Run X d 130 0 [some (.int v0), some (.int v1), some (.int v2)] [] h (some (.int o.1), o.2) := by
  unfold f_X8_within_0 at hf
  refine rs_iload_n i_X8_within_0 rfl ?_
  refine rs_iload_n i_X8_within_1 rfl ?_
  by_cases c1 : v1 ≤ v0
  · replace hf := (if_pos c1).symm.trans hf
    refine rs_icT i_X8_within_2 (ct_ge c1) (tg := 9) (by decide) ?_
    refine rs_iload_n i_X8_within_9 rfl ?_
    refine rs_iload_n i_X8_within_10 rfl ?_
    by_cases c2 : v0 ≤ v2
    · replace hf := (if_pos c2).symm.trans hf
      refine rs_icT i_X8_within_11 (ct_le c2) (tg := 18) (by decide) ?_
      refine rs_iload_n i_X8_within_18 rfl ?_
      have hf := Option.some.inj hf
      subst hf
      exact rs_iret i_X8_within_19 m_X8_within rfl
    · replace hf := (if_neg c2).symm.trans hf
      refine rs_icF i_X8_within_11 (cf_le c2) ?_
      refine rs_iload_n i_X8_within_14 rfl ?_
      refine rs_goto i_X8_within_15 (tg := 19) (by decide) ?_
      have hf := Option.some.inj hf
      subst hf
      exact rs_iret i_X8_within_19 m_X8_within rfl
  · replace hf := (if_neg c1).symm.trans hf
    refine rs_icF i_X8_within_2 (cf_ge c1) ?_
    refine rs_iload_n i_X8_within_5 rfl ?_
    refine rs_goto i_X8_within_6 (tg := 19) (by decide) ?_
    have hf := Option.some.inj hf
    subst hf
    exact rs_iret i_X8_within_19 m_X8_within rfl
def f_X8_within (v0 : Int32) (v1 : Int32) (v2 : Int32) (h : Hp) : Option (Int32 × Hp) := f_X8_within_0 v0 v1 v2 h
theorem c_X8_within {X : Nat → Int32} {d : Nat} (hd : 0 ≤ d) {v0 : Int32} {v1 : Int32} {v2 : Int32} {h : Hp} {o : (Int32 × Hp)} (hf : f_X8_within v0 v1 v2 h = some o) : Calls X d 130 [.int v0, .int v1, .int v2] h (some (.int o.1), o.2) := by
  exact ⟨_, rfl, r_X8_within_0 hd hf⟩
theorem i_X8_roll_0 : fetch 131 0 = some (.iload_n 1, 1, 0, 0, 0, 0) := by decide +kernel
theorem i_X8_roll_1 : fetch 131 1 = some (.invokestatic 119, 4, 127, 0, 0, 1176) := by decide +kernel
theorem i_X8_roll_4 : fetch 131 4 = some (.ifCond .ne 6, 7, 0, 0, 0, 0) := by decide +kernel
theorem i_X8_roll_7 : fetch 131 7 = some (.bipush (-5), 9, 0, 0, 0, 0) := by decide +kernel
theorem i_X8_roll_9 : fetch 131 9 = some (.ireturn, 10, 0, 0, 0, 0) := by decide +kernel
theorem i_X8_roll_10 : fetch 131 10 = some (.iload_n 2, 11, 0, 0, 0, 0) := by decide +kernel
theorem i_X8_roll_11 : fetch 131 11 = some (.iconst 0, 12, 0, 0, 0, 0) := by decide +kernel
theorem i_X8_roll_12 : fetch 131 12 = some (.iconst 1, 13, 0, 0, 0, 0) := by decide +kernel
theorem i_X8_roll_13 : fetch 131 13 = some (.invokestatic 112, 16, 126, 0, 0, 970) := by decide +kernel
theorem i_X8_roll_16 : fetch 131 16 = some (.ifCond .eq 23, 19, 0, 0, 0, 0) := by decide +kernel
theorem i_X8_roll_19 : fetch 131 19 = some (.iload_n 3, 20, 0, 0, 0, 0) := by decide +kernel
theorem i_X8_roll_20 : fetch 131 20 = some (.iconst 1, 21, 0, 0, 0, 0) := by decide +kernel
theorem i_X8_roll_21 : fetch 131 21 = some (.iload_n 2, 22, 0, 0, 0, 0) := by decide +kernel
theorem i_X8_roll_22 : fetch 131 22 = some (.ifCond .ne 8, 25, 0, 0, 0, 0) := by decide +kernel
theorem i_X8_roll_25 : fetch 131 25 = some (.ldc 123, 27, 0, 0, 99999, 1179) := by decide +kernel
theorem i_X8_roll_27 : fetch 131 27 = some (.goto 6, 30, 0, 0, 0, 0) := by decide +kernel
theorem i_X8_roll_30 : fetch 131 30 = some (.sipush 999, 33, 0, 0, 0, 0) := by decide +kernel
theorem i_X8_roll_33 : fetch 131 33 = some (.invokestatic 112, 36, 126, 0, 0, 970) := by decide +kernel
theorem i_X8_roll_36 : fetch 131 36 = some (.ifCond .ne 6, 39, 0, 0, 0, 0) := by decide +kernel
theorem i_X8_roll_39 : fetch 131 39 = some (.bipush (-7), 41, 0, 0, 0, 0) := by decide +kernel
theorem i_X8_roll_41 : fetch 131 41 = some (.ireturn, 42, 0, 0, 0, 0) := by decide +kernel
theorem i_X8_roll_42 : fetch 131 42 = some (.iload_n 2, 43, 0, 0, 0, 0) := by decide +kernel
theorem i_X8_roll_43 : fetch 131 43 = some (.ifCond .ne 12, 46, 0, 0, 0, 0) := by decide +kernel
theorem i_X8_roll_46 : fetch 131 46 = some (.aload_n 0, 47, 0, 0, 0, 0) := by decide +kernel
theorem i_X8_roll_47 : fetch 131 47 = some (.getfield 8, 50, 8, 0, 0, 1009) := by decide +kernel
theorem i_X8_roll_50 : fetch 131 50 = some (.iload_n 1, 51, 0, 0, 0, 0) := by decide +kernel
theorem i_X8_roll_51 : fetch 131 51 = some (.iaload, 52, 0, 0, 0, 0) := by decide +kernel
theorem i_X8_roll_52 : fetch 131 52 = some (.goto 9, 55, 0, 0, 0, 0) := by decide +kernel
theorem i_X8_roll_55 : fetch 131 55 = some (.aload_n 0, 56, 0, 0, 0, 0) := by decide +kernel
theorem i_X8_roll_56 : fetch 131 56 = some (.getfield 14, 59, 8, 1, 0, 1010) := by decide +kernel
theorem i_X8_roll_59 : fetch 131 59 = some (.iload_n 1, 60, 0, 0, 0, 0) := by decide +kernel
theorem i_X8_roll_60 : fetch 131 60 = some (.iaload, 61, 0, 0, 0, 0) := by decide +kernel
theorem i_X8_roll_61 : fetch 131 61 = some (.istore 4, 63, 0, 0, 0, 0) := by decide +kernel
theorem i_X8_roll_63 : fetch 131 63 = some (.aload_n 0, 64, 0, 0, 0, 0) := by decide +kernel
theorem i_X8_roll_64 : fetch 131 64 = some (.getfield 8, 67, 8, 0, 0, 1009) := by decide +kernel
theorem i_X8_roll_67 : fetch 131 67 = some (.iload_n 1, 68, 0, 0, 0, 0) := by decide +kernel
theorem i_X8_roll_68 : fetch 131 68 = some (.iload_n 2, 69, 0, 0, 0, 0) := by decide +kernel
theorem i_X8_roll_69 : fetch 131 69 = some (.ifCond .ne 7, 72, 0, 0, 0, 0) := by decide +kernel
theorem i_X8_roll_72 : fetch 131 72 = some (.iload_n 3, 73, 0, 0, 0, 0) := by decide +kernel
theorem i_X8_roll_73 : fetch 131 73 = some (.goto 9, 76, 0, 0, 0, 0) := by decide +kernel
theorem i_X8_roll_76 : fetch 131 76 = some (.aload_n 0, 77, 0, 0, 0, 0) := by decide +kernel
theorem i_X8_roll_77 : fetch 131 77 = some (.getfield 8, 80, 8, 0, 0, 1009) := by decide +kernel
theorem i_X8_roll_80 : fetch 131 80 = some (.iload_n 1, 81, 0, 0, 0, 0) := by decide +kernel
theorem i_X8_roll_81 : fetch 131 81 = some (.iaload, 82, 0, 0, 0, 0) := by decide +kernel
theorem i_X8_roll_82 : fetch 131 82 = some (.iastore, 83, 0, 0, 0, 0) := by decide +kernel
theorem i_X8_roll_83 : fetch 131 83 = some (.aload_n 0, 84, 0, 0, 0, 0) := by decide +kernel
theorem i_X8_roll_84 : fetch 131 84 = some (.getfield 14, 87, 8, 1, 0, 1010) := by decide +kernel
theorem i_X8_roll_87 : fetch 131 87 = some (.iload_n 1, 88, 0, 0, 0, 0) := by decide +kernel
theorem i_X8_roll_88 : fetch 131 88 = some (.iload_n 2, 89, 0, 0, 0, 0) := by decide +kernel
theorem i_X8_roll_89 : fetch 131 89 = some (.iconst 1, 90, 0, 0, 0, 0) := by decide +kernel
theorem i_X8_roll_90 : fetch 131 90 = some (.if_icmp .ne 7, 93, 0, 0, 0, 0) := by decide +kernel
theorem i_X8_roll_93 : fetch 131 93 = some (.iload_n 3, 94, 0, 0, 0, 0) := by decide +kernel
theorem i_X8_roll_94 : fetch 131 94 = some (.goto 9, 97, 0, 0, 0, 0) := by decide +kernel
theorem i_X8_roll_97 : fetch 131 97 = some (.aload_n 0, 98, 0, 0, 0, 0) := by decide +kernel
theorem i_X8_roll_98 : fetch 131 98 = some (.getfield 14, 101, 8, 1, 0, 1010) := by decide +kernel
theorem i_X8_roll_101 : fetch 131 101 = some (.iload_n 1, 102, 0, 0, 0, 0) := by decide +kernel
theorem i_X8_roll_102 : fetch 131 102 = some (.iaload, 103, 0, 0, 0, 0) := by decide +kernel
theorem i_X8_roll_103 : fetch 131 103 = some (.iastore, 104, 0, 0, 0, 0) := by decide +kernel
theorem i_X8_roll_104 : fetch 131 104 = some (.iload 4, 106, 0, 0, 0, 0) := by decide +kernel
theorem i_X8_roll_106 : fetch 131 106 = some (.ireturn, 107, 0, 0, 0, 0) := by decide +kernel
def f_X8_roll_103 (v4 : Int32) (s0 : Nat) (s1 : Int32) (s2 : Int32) (h : Hp) : Option (Int32 × Hp) :=
  if okI h s0 s1 then
  some (v4, (hsi h s0 (ix s1) s2))
  else none
set_option maxRecDepth 100000 in
set_option maxHeartbeats 4000000 in
theorem r_X8_roll_103 {X : Nat → Int32} {d : Nat} (hd : 2 ≤ (d + 1)) {v4 : Int32} {s0 : Nat} {s1 : Int32} {s2 : Int32} {d0 : Nat} {d1 : Int32} {d2 : Int32} {d3 : Int32} {h : Hp} {o : (Int32 × Hp)} (hf : f_X8_roll_103 v4 s0 s1 s2 h = some o) : Run X (d + 1) 131 103 [some (.ref d0), some (.int d1), some (.int d2), some (.int d3), some (.int v4)] [.int s2, .int s1, .ref s0] h (some (.int o.1), o.2) := by
  unfold f_X8_roll_103 at hf
  obtain ⟨c1, hf⟩ := ite_some hf
  refine rs_iast i_X8_roll_103 c1 ?_
  refine rs_iload i_X8_roll_104 rfl ?_
  have hf := Option.some.inj hf
  subst hf
  exact rs_iret i_X8_roll_106 m_X8_roll rfl
def f_X8_roll_83 (v0 : Nat) (v1 : Int32) (v2 : Int32) (v3 : Int32) (v4 : Int32) (h : Hp) : Option (Int32 × Hp) :=
  if okO h v0 8 then
  (gR h v0 1).bind fun a2 =>
  if v2 ≠ 1 then
    if okI h a2 v1 then
    f_X8_roll_103 v4 a2 v1 (gI h a2 (ix v1)) h
    else none
  else
    f_X8_roll_103 v4 a2 v1 v3 h
  else none
set_option maxRecDepth 100000 in
set_option maxHeartbeats 4000000 in
theorem r_X8_roll_83 {X : Nat → Int32} {d : Nat} (hd : 2 ≤ (d + 1)) {v0 : Nat} {v1 : Int32} {v2 : Int32} {v3 : Int32} {v4 : Int32} {h : Hp} {o : (Int32 × Hp)} (hf : f_X8_roll_83 v0 v1 v2 v3 v4 h = some o) : Run X (d + 1) 131 83 [some (.ref v0), some (.int v1), some (.int v2), some (.int v3), some (.int v4)] [] h (some (.int o.1), o.2) := by
  unfold f_X8_roll_83 at hf
  refine rs_aload_n i_X8_roll_83 rfl ?_
  obtain ⟨c1, hf⟩ := ite_some hf
  obtain ⟨a2, e2, hf⟩ := bind_some hf
  refine rs_getR i_X8_roll_84 (by decide) (by decide) c1 e2 ?_
  refine rs_iload_n i_X8_roll_87 rfl ?_
  refine rs_iload_n i_X8_roll_88 rfl ?_
  refine rs_iconst i_X8_roll_89 (v := 1) (by decide) ?_
  by_cases c3 : v2 ≠ 1
  · replace hf := (if_pos c3).symm.trans hf
    refine rs_icT i_X8_roll_90 (ct_ne c3) (tg := 97) (by decide) ?_
    refine rs_aload_n i_X8_roll_97 rfl ?_
    refine rs_getR i_X8_roll_98 (by decide) (by decide) c1 e2 ?_
    refine rs_iload_n i_X8_roll_101 rfl ?_
    obtain ⟨c4, hf⟩ := ite_some hf
    refine rs_iald i_X8_roll_102 c4 ?_
    exact r_X8_roll_103 hd hf
  · replace hf := (if_neg c3).symm.trans hf
    refine rs_icF i_X8_roll_90 (cf_ne c3) ?_
    refine rs_iload_n i_X8_roll_93 rfl ?_
    refine rs_goto i_X8_roll_94 (tg := 103) (by decide) ?_
    exact r_X8_roll_103 hd hf
def f_X8_roll_82 (v0 : Nat) (v1 : Int32) (v2 : Int32) (v3 : Int32) (v4 : Int32) (s0 : Nat) (s1 : Int32) (s2 : Int32) (h : Hp) : Option (Int32 × Hp) :=
  if okI h s0 s1 then
  f_X8_roll_83 v0 v1 v2 v3 v4 (hsi h s0 (ix s1) s2)
  else none
set_option maxRecDepth 100000 in
set_option maxHeartbeats 4000000 in
theorem r_X8_roll_82 {X : Nat → Int32} {d : Nat} (hd : 2 ≤ (d + 1)) {v0 : Nat} {v1 : Int32} {v2 : Int32} {v3 : Int32} {v4 : Int32} {s0 : Nat} {s1 : Int32} {s2 : Int32} {h : Hp} {o : (Int32 × Hp)} (hf : f_X8_roll_82 v0 v1 v2 v3 v4 s0 s1 s2 h = some o) : Run X (d + 1) 131 82 [some (.ref v0), some (.int v1), some (.int v2), some (.int v3), some (.int v4)] [.int s2, .int s1, .ref s0] h (some (.int o.1), o.2) := by
  unfold f_X8_roll_82 at hf
  obtain ⟨c1, hf⟩ := ite_some hf
  refine rs_iast i_X8_roll_82 c1 ?_
  exact r_X8_roll_83 hd hf
def f_X8_roll_61 (v0 : Nat) (v1 : Int32) (v2 : Int32) (v3 : Int32) (s0 : Int32) (h : Hp) : Option (Int32 × Hp) :=
  if okO h v0 8 then
  (gR h v0 0).bind fun a2 =>
  if v2 ≠ 0 then
    if okI h a2 v1 then
    f_X8_roll_82 v0 v1 v2 v3 s0 a2 v1 (gI h a2 (ix v1)) h
    else none
  else
    f_X8_roll_82 v0 v1 v2 v3 s0 a2 v1 v3 h
  else none
set_option maxRecDepth 100000 in
set_option maxHeartbeats 4000000 in
theorem r_X8_roll_61 {X : Nat → Int32} {d : Nat} (hd : 2 ≤ (d + 1)) {v0 : Nat} {v1 : Int32} {v2 : Int32} {v3 : Int32} {s0 : Int32} {h : Hp} {o : (Int32 × Hp)} (hf : f_X8_roll_61 v0 v1 v2 v3 s0 h = some o) : Run X (d + 1) 131 61 [some (.ref v0), some (.int v1), some (.int v2), some (.int v3), none] [.int s0] h (some (.int o.1), o.2) := by
  unfold f_X8_roll_61 at hf
  refine rs_istore i_X8_roll_61 (Nat.le_of_ble_eq_true rfl) (lv' := [some (.ref v0), some (.int v1), some (.int v2), some (.int v3), some (.int s0)]) rfl ?_
  refine rs_aload_n i_X8_roll_63 rfl ?_
  obtain ⟨c1, hf⟩ := ite_some hf
  obtain ⟨a2, e2, hf⟩ := bind_some hf
  refine rs_getR i_X8_roll_64 (by decide) (by decide) c1 e2 ?_
  refine rs_iload_n i_X8_roll_67 rfl ?_
  refine rs_iload_n i_X8_roll_68 rfl ?_
  by_cases c3 : v2 ≠ 0
  · replace hf := (if_pos c3).symm.trans hf
    refine rs_ifT i_X8_roll_69 (ct_ne c3) (tg := 76) (by decide) ?_
    refine rs_aload_n i_X8_roll_76 rfl ?_
    refine rs_getR i_X8_roll_77 (by decide) (by decide) c1 e2 ?_
    refine rs_iload_n i_X8_roll_80 rfl ?_
    obtain ⟨c4, hf⟩ := ite_some hf
    refine rs_iald i_X8_roll_81 c4 ?_
    exact r_X8_roll_82 hd hf
  · replace hf := (if_neg c3).symm.trans hf
    refine rs_ifF i_X8_roll_69 (cf_ne c3) ?_
    refine rs_iload_n i_X8_roll_72 rfl ?_
    refine rs_goto i_X8_roll_73 (tg := 82) (by decide) ?_
    exact r_X8_roll_82 hd hf
def f_X8_roll_33 (v0 : Nat) (v1 : Int32) (v2 : Int32) (v3 : Int32) (s0 : Int32) (s1 : Int32) (s2 : Int32) (h : Hp) : Option (Int32 × Hp) :=
  (f_X8_in s0 s1 s2 h).bind fun o1 =>
  if o1.1 ≠ 0 then
    if v2 ≠ 0 then
      if okO o1.2 v0 8 then
      (gR o1.2 v0 1).bind fun a5 =>
      if okI o1.2 a5 v1 then
      f_X8_roll_61 v0 v1 v2 v3 (gI o1.2 a5 (ix v1)) o1.2
      else none
      else none
    else
      if okO o1.2 v0 8 then
      (gR o1.2 v0 0).bind fun a8 =>
      if okI o1.2 a8 v1 then
      f_X8_roll_61 v0 v1 v2 v3 (gI o1.2 a8 (ix v1)) o1.2
      else none
      else none
  else
    some ((-7), o1.2)
set_option maxRecDepth 100000 in
set_option maxHeartbeats 4000000 in
theorem r_X8_roll_33 {X : Nat → Int32} {d : Nat} (hd : 2 ≤ (d + 1)) {v0 : Nat} {v1 : Int32} {v2 : Int32} {v3 : Int32} {s0 : Int32} {s1 : Int32} {s2 : Int32} {h : Hp} {o : (Int32 × Hp)} (hf : f_X8_roll_33 v0 v1 v2 v3 s0 s1 s2 h = some o) : Run X (d + 1) 131 33 [some (.ref v0), some (.int v1), some (.int v2), some (.int v3), none] [.int s2, .int s1, .int s0] h (some (.int o.1), o.2) := by
  unfold f_X8_roll_33 at hf
  obtain ⟨o1, e1, hf⟩ := bind_some hf
  refine rs_inS i_X8_roll_33 (by decide) m_X8_in rfl (As := [.int s0, .int s1, .int s2]) (rest := []) rfl rfl (Nat.le_of_ble_eq_true rfl) (c_X8_in (by omega) e1) (st' := [.int o1.1]) rfl ?_
  by_cases c2 : o1.1 ≠ 0
  · replace hf := (if_pos c2).symm.trans hf
    refine rs_ifT i_X8_roll_36 (ct_ne c2) (tg := 42) (by decide) ?_
    refine rs_iload_n i_X8_roll_42 rfl ?_
    by_cases c3 : v2 ≠ 0
    · replace hf := (if_pos c3).symm.trans hf
      refine rs_ifT i_X8_roll_43 (ct_ne c3) (tg := 55) (by decide) ?_
      refine rs_aload_n i_X8_roll_55 rfl ?_
      obtain ⟨c4, hf⟩ := ite_some hf
      obtain ⟨a5, e5, hf⟩ := bind_some hf
      refine rs_getR i_X8_roll_56 (by decide) (by decide) c4 e5 ?_
      refine rs_iload_n i_X8_roll_59 rfl ?_
      obtain ⟨c6, hf⟩ := ite_some hf
      refine rs_iald i_X8_roll_60 c6 ?_
      exact r_X8_roll_61 hd hf
    · replace hf := (if_neg c3).symm.trans hf
      refine rs_ifF i_X8_roll_43 (cf_ne c3) ?_
      refine rs_aload_n i_X8_roll_46 rfl ?_
      obtain ⟨c7, hf⟩ := ite_some hf
      obtain ⟨a8, e8, hf⟩ := bind_some hf
      refine rs_getR i_X8_roll_47 (by decide) (by decide) c7 e8 ?_
      refine rs_iload_n i_X8_roll_50 rfl ?_
      obtain ⟨c9, hf⟩ := ite_some hf
      refine rs_iald i_X8_roll_51 c9 ?_
      refine rs_goto i_X8_roll_52 (tg := 61) (by decide) ?_
      exact r_X8_roll_61 hd hf
  · replace hf := (if_neg c2).symm.trans hf
    refine rs_ifF i_X8_roll_36 (cf_ne c2) ?_
    refine rs_bipush i_X8_roll_39 (v := (-7)) (by decide) ?_
    have hf := Option.some.inj hf
    subst hf
    exact rs_iret i_X8_roll_41 m_X8_roll rfl
def f_X8_roll_0 (v0 : Nat) (v1 : Int32) (v2 : Int32) (v3 : Int32) (h : Hp) : Option (Int32 × Hp) :=
  (f_X8_isCell v1 h).bind fun o1 =>
  if o1.1 ≠ 0 then
    (f_X8_in v2 0 1 o1.2).bind fun o3 =>
    if o3.1 = 0 then
      some ((-7), o3.2)
    else
      if v2 ≠ 0 then
        f_X8_roll_33 v0 v1 v2 v3 v3 1 999 o3.2
      else
        f_X8_roll_33 v0 v1 v2 v3 v3 1 99999 o3.2
  else
    some ((-5), o1.2)
set_option maxRecDepth 100000 in
set_option maxHeartbeats 4000000 in
theorem r_X8_roll_0 {X : Nat → Int32} {d : Nat} (hd : 2 ≤ (d + 1)) {v0 : Nat} {v1 : Int32} {v2 : Int32} {v3 : Int32} {h : Hp} {o : (Int32 × Hp)} (hf : f_X8_roll_0 v0 v1 v2 v3 h = some o) : Run X (d + 1) 131 0 [some (.ref v0), some (.int v1), some (.int v2), some (.int v3), none] [] h (some (.int o.1), o.2) := by
  unfold f_X8_roll_0 at hf
  refine rs_iload_n i_X8_roll_0 rfl ?_
  obtain ⟨o1, e1, hf⟩ := bind_some hf
  refine rs_inS i_X8_roll_1 (by decide) m_X8_isCell rfl (As := [.int v1]) (rest := []) rfl rfl (Nat.le_of_ble_eq_true rfl) (c_X8_isCell (by omega) e1) (st' := [.int o1.1]) rfl ?_
  by_cases c2 : o1.1 ≠ 0
  · replace hf := (if_pos c2).symm.trans hf
    refine rs_ifT i_X8_roll_4 (ct_ne c2) (tg := 10) (by decide) ?_
    refine rs_iload_n i_X8_roll_10 rfl ?_
    refine rs_iconst i_X8_roll_11 (v := 0) (by decide) ?_
    refine rs_iconst i_X8_roll_12 (v := 1) (by decide) ?_
    obtain ⟨o3, e3, hf⟩ := bind_some hf
    refine rs_inS i_X8_roll_13 (by decide) m_X8_in rfl (As := [.int v2, .int 0, .int 1]) (rest := []) rfl rfl (Nat.le_of_ble_eq_true rfl) (c_X8_in (by omega) e3) (st' := [.int o3.1]) rfl ?_
    by_cases c4 : o3.1 = 0
    · replace hf := (if_pos c4).symm.trans hf
      refine rs_ifT i_X8_roll_16 (ct_eq c4) (tg := 39) (by decide) ?_
      refine rs_bipush i_X8_roll_39 (v := (-7)) (by decide) ?_
      have hf := Option.some.inj hf
      subst hf
      exact rs_iret i_X8_roll_41 m_X8_roll rfl
    · replace hf := (if_neg c4).symm.trans hf
      refine rs_ifF i_X8_roll_16 (cf_eq c4) ?_
      refine rs_iload_n i_X8_roll_19 rfl ?_
      refine rs_iconst i_X8_roll_20 (v := 1) (by decide) ?_
      refine rs_iload_n i_X8_roll_21 rfl ?_
      by_cases c5 : v2 ≠ 0
      · replace hf := (if_pos c5).symm.trans hf
        refine rs_ifT i_X8_roll_22 (ct_ne c5) (tg := 30) (by decide) ?_
        refine rs_sipush i_X8_roll_30 (v := 999) (by decide) ?_
        exact r_X8_roll_33 hd hf
      · replace hf := (if_neg c5).symm.trans hf
        refine rs_ifF i_X8_roll_22 (cf_ne c5) ?_
        refine rs_ldc i_X8_roll_25 (v := 99999) (by decide) ?_
        refine rs_goto i_X8_roll_27 (tg := 33) (by decide) ?_
        exact r_X8_roll_33 hd hf
  · replace hf := (if_neg c2).symm.trans hf
    refine rs_ifF i_X8_roll_4 (cf_ne c2) ?_
    refine rs_bipush i_X8_roll_7 (v := (-5)) (by decide) ?_
    have hf := Option.some.inj hf
    subst hf
    exact rs_iret i_X8_roll_9 m_X8_roll rfl
def f_X8_roll (v0 : Nat) (v1 : Int32) (v2 : Int32) (v3 : Int32) (h : Hp) : Option (Int32 × Hp) := f_X8_roll_0 v0 v1 v2 v3 h
theorem c_X8_roll {X : Nat → Int32} {d : Nat} (hd : 2 ≤ d) {v0 : Nat} {v1 : Int32} {v2 : Int32} {v3 : Int32} {h : Hp} {o : (Int32 × Hp)} (hf : f_X8_roll v0 v1 v2 v3 h = some o) : Calls X d 131 [.ref v0, .int v1, .int v2, .int v3] h (some (.int o.1), o.2) := by
  obtain ⟨d, rfl⟩ : ∃ z, d = z + 1 := ⟨d - 1, by omega⟩
  exact ⟨_, rfl, r_X8_roll_0 hd hf⟩
theorem i_X8_count_0 : fetch 134 0 = some (.iload_n 1, 1, 0, 0, 0, 0) := by decide +kernel
theorem i_X8_count_1 : fetch 134 1 = some (.tableswitch 78 0 6 #[43, 48, 53, 58, 63, 68, 73], 44, 0, 0, 0, 0) := by decide +kernel
theorem i_X8_count_44 : fetch 134 44 = some (.aload_n 0, 45, 0, 0, 0, 0) := by decide +kernel
theorem i_X8_count_45 : fetch 134 45 = some (.getfield 17, 48, 8, 2, 0, 1011) := by decide +kernel
theorem i_X8_count_48 : fetch 134 48 = some (.ireturn, 49, 0, 0, 0, 0) := by decide +kernel
theorem i_X8_count_49 : fetch 134 49 = some (.aload_n 0, 50, 0, 0, 0, 0) := by decide +kernel
theorem i_X8_count_50 : fetch 134 50 = some (.getfield 21, 53, 8, 3, 0, 1012) := by decide +kernel
theorem i_X8_count_53 : fetch 134 53 = some (.ireturn, 54, 0, 0, 0, 0) := by decide +kernel
theorem i_X8_count_54 : fetch 134 54 = some (.aload_n 0, 55, 0, 0, 0, 0) := by decide +kernel
theorem i_X8_count_55 : fetch 134 55 = some (.getfield 24, 58, 8, 4, 0, 1013) := by decide +kernel
theorem i_X8_count_58 : fetch 134 58 = some (.ireturn, 59, 0, 0, 0, 0) := by decide +kernel
theorem i_X8_count_59 : fetch 134 59 = some (.aload_n 0, 60, 0, 0, 0, 0) := by decide +kernel
theorem i_X8_count_60 : fetch 134 60 = some (.getfield 116, 63, 8, 5, 0, 1014) := by decide +kernel
theorem i_X8_count_63 : fetch 134 63 = some (.ireturn, 64, 0, 0, 0, 0) := by decide +kernel
theorem i_X8_count_64 : fetch 134 64 = some (.aload_n 0, 65, 0, 0, 0, 0) := by decide +kernel
theorem i_X8_count_65 : fetch 134 65 = some (.getfield 132, 68, 8, 13, 0, 1022) := by decide +kernel
theorem i_X8_count_68 : fetch 134 68 = some (.ireturn, 69, 0, 0, 0, 0) := by decide +kernel
theorem i_X8_count_69 : fetch 134 69 = some (.aload_n 0, 70, 0, 0, 0, 0) := by decide +kernel
theorem i_X8_count_70 : fetch 134 70 = some (.getfield 135, 73, 8, 14, 0, 1023) := by decide +kernel
theorem i_X8_count_73 : fetch 134 73 = some (.ireturn, 74, 0, 0, 0, 0) := by decide +kernel
theorem i_X8_count_74 : fetch 134 74 = some (.aload_n 0, 75, 0, 0, 0, 0) := by decide +kernel
theorem i_X8_count_75 : fetch 134 75 = some (.getfield 105, 78, 8, 10, 0, 1019) := by decide +kernel
theorem i_X8_count_78 : fetch 134 78 = some (.ireturn, 79, 0, 0, 0, 0) := by decide +kernel
theorem i_X8_count_79 : fetch 134 79 = some (.bipush (-2), 81, 0, 0, 0, 0) := by decide +kernel
theorem i_X8_count_81 : fetch 134 81 = some (.ireturn, 82, 0, 0, 0, 0) := by decide +kernel
def f_X8_count_0 (v0 : Nat) (v1 : Int32) (h : Hp) : Option (Int32 × Hp) :=
  if v1 = 0 then
    if okO h v0 8 then
    some ((gI h v0 2), h)
    else none
  else
    if v1 = 1 then
      if okO h v0 8 then
      some ((gI h v0 3), h)
      else none
    else
      if v1 = 2 then
        if okO h v0 8 then
        some ((gI h v0 4), h)
        else none
      else
        if v1 = 3 then
          if okO h v0 8 then
          some ((gI h v0 5), h)
          else none
        else
          if v1 = 4 then
            if okO h v0 8 then
            some ((gI h v0 13), h)
            else none
          else
            if v1 = 5 then
              if okO h v0 8 then
              some ((gI h v0 14), h)
              else none
            else
              if v1 = 6 then
                if okO h v0 8 then
                some ((gI h v0 10), h)
                else none
              else
                some ((-2), h)
set_option maxRecDepth 100000 in
set_option maxHeartbeats 4000000 in
theorem r_X8_count_0 {X : Nat → Int32} {d : Nat} (hd : 0 ≤ d) {v0 : Nat} {v1 : Int32} {h : Hp} {o : (Int32 × Hp)} (hf : f_X8_count_0 v0 v1 h = some o) : Run X d 134 0 [some (.ref v0), some (.int v1)] [] h (some (.int o.1), o.2) := by
  unfold f_X8_count_0 at hf
  refine rs_iload_n i_X8_count_0 rfl ?_
  by_cases c1 : v1 = 0
  · replace hf := (if_pos c1).symm.trans hf
    refine rs_tsw i_X8_count_1 (off := 43) (by rw [c1]; decide) (tg := 44) (by decide) ?_
    refine rs_aload_n i_X8_count_44 rfl ?_
    obtain ⟨c14, hf⟩ := ite_some hf
    refine rs_getI i_X8_count_45 (by decide) (by decide) c14 ?_
    have hf := Option.some.inj hf
    subst hf
    exact rs_iret i_X8_count_48 m_X8_count rfl
  · replace hf := (if_neg c1).symm.trans hf
    by_cases c2 : v1 = 1
    · replace hf := (if_pos c2).symm.trans hf
      refine rs_tsw i_X8_count_1 (off := 48) (by rw [c2]; decide) (tg := 49) (by decide) ?_
      refine rs_aload_n i_X8_count_49 rfl ?_
      obtain ⟨c13, hf⟩ := ite_some hf
      refine rs_getI i_X8_count_50 (by decide) (by decide) c13 ?_
      have hf := Option.some.inj hf
      subst hf
      exact rs_iret i_X8_count_53 m_X8_count rfl
    · replace hf := (if_neg c2).symm.trans hf
      by_cases c3 : v1 = 2
      · replace hf := (if_pos c3).symm.trans hf
        refine rs_tsw i_X8_count_1 (off := 53) (by rw [c3]; decide) (tg := 54) (by decide) ?_
        refine rs_aload_n i_X8_count_54 rfl ?_
        obtain ⟨c12, hf⟩ := ite_some hf
        refine rs_getI i_X8_count_55 (by decide) (by decide) c12 ?_
        have hf := Option.some.inj hf
        subst hf
        exact rs_iret i_X8_count_58 m_X8_count rfl
      · replace hf := (if_neg c3).symm.trans hf
        by_cases c4 : v1 = 3
        · replace hf := (if_pos c4).symm.trans hf
          refine rs_tsw i_X8_count_1 (off := 58) (by rw [c4]; decide) (tg := 59) (by decide) ?_
          refine rs_aload_n i_X8_count_59 rfl ?_
          obtain ⟨c11, hf⟩ := ite_some hf
          refine rs_getI i_X8_count_60 (by decide) (by decide) c11 ?_
          have hf := Option.some.inj hf
          subst hf
          exact rs_iret i_X8_count_63 m_X8_count rfl
        · replace hf := (if_neg c4).symm.trans hf
          by_cases c5 : v1 = 4
          · replace hf := (if_pos c5).symm.trans hf
            refine rs_tsw i_X8_count_1 (off := 63) (by rw [c5]; decide) (tg := 64) (by decide) ?_
            refine rs_aload_n i_X8_count_64 rfl ?_
            obtain ⟨c10, hf⟩ := ite_some hf
            refine rs_getI i_X8_count_65 (by decide) (by decide) c10 ?_
            have hf := Option.some.inj hf
            subst hf
            exact rs_iret i_X8_count_68 m_X8_count rfl
          · replace hf := (if_neg c5).symm.trans hf
            by_cases c6 : v1 = 5
            · replace hf := (if_pos c6).symm.trans hf
              refine rs_tsw i_X8_count_1 (off := 68) (by rw [c6]; decide) (tg := 69) (by decide) ?_
              refine rs_aload_n i_X8_count_69 rfl ?_
              obtain ⟨c9, hf⟩ := ite_some hf
              refine rs_getI i_X8_count_70 (by decide) (by decide) c9 ?_
              have hf := Option.some.inj hf
              subst hf
              exact rs_iret i_X8_count_73 m_X8_count rfl
            · replace hf := (if_neg c6).symm.trans hf
              by_cases c7 : v1 = 6
              · replace hf := (if_pos c7).symm.trans hf
                refine rs_tsw i_X8_count_1 (off := 73) (by rw [c7]; decide) (tg := 74) (by decide) ?_
                refine rs_aload_n i_X8_count_74 rfl ?_
                obtain ⟨c8, hf⟩ := ite_some hf
                refine rs_getI i_X8_count_75 (by decide) (by decide) c8 ?_
                have hf := Option.some.inj hf
                subst hf
                exact rs_iret i_X8_count_78 m_X8_count rfl
              · replace hf := (if_neg c7).symm.trans hf
                refine rs_tsw i_X8_count_1 (off := 78) (swt_df (by have z0 := ne_ti c1; rw [show (0 : Int32).toInt = 0 from by decide] at z0; have z1 := ne_ti c2; rw [show (1 : Int32).toInt = 1 from by decide] at z1; have z2 := ne_ti c3; rw [show (2 : Int32).toInt = 2 from by decide] at z2; have z3 := ne_ti c4; rw [show (3 : Int32).toInt = 3 from by decide] at z3; have z4 := ne_ti c5; rw [show (4 : Int32).toInt = 4 from by decide] at z4; have z5 := ne_ti c6; rw [show (5 : Int32).toInt = 5 from by decide] at z5; have z6 := ne_ti c7; rw [show (6 : Int32).toInt = 6 from by decide] at z6; omega)) (tg := 79) (by decide) ?_
                refine rs_bipush i_X8_count_79 (v := (-2)) (by decide) ?_
                have hf := Option.some.inj hf
                subst hf
                exact rs_iret i_X8_count_81 m_X8_count rfl
def f_X8_count (v0 : Nat) (v1 : Int32) (h : Hp) : Option (Int32 × Hp) := f_X8_count_0 v0 v1 h
theorem c_X8_count {X : Nat → Int32} {d : Nat} (hd : 0 ≤ d) {v0 : Nat} {v1 : Int32} {h : Hp} {o : (Int32 × Hp)} (hf : f_X8_count v0 v1 h = some o) : Calls X d 134 [.ref v0, .int v1] h (some (.int o.1), o.2) := by
  exact ⟨_, rfl, r_X8_count_0 hd hf⟩
theorem i_X8_holds0_0 : fetch 133 0 = some (.aload_n 0, 1, 0, 0, 0, 0) := by decide +kernel
theorem i_X8_holds0_1 : fetch 133 1 = some (.iload_n 1, 2, 0, 0, 0, 0) := by decide +kernel
theorem i_X8_holds0_2 : fetch 133 2 = some (.ifCond .ne 7, 5, 0, 0, 0, 0) := by decide +kernel
theorem i_X8_holds0_5 : fetch 133 5 = some (.iload_n 2, 6, 0, 0, 0, 0) := by decide +kernel
theorem i_X8_holds0_6 : fetch 133 6 = some (.goto 7, 9, 0, 0, 0, 0) := by decide +kernel
theorem i_X8_holds0_9 : fetch 133 9 = some (.aload_n 0, 10, 0, 0, 0, 0) := by decide +kernel
theorem i_X8_holds0_10 : fetch 133 10 = some (.getfield 17, 13, 8, 2, 0, 1011) := by decide +kernel
theorem i_X8_holds0_13 : fetch 133 13 = some (.putfield 17, 16, 8, 2, 0, 1011) := by decide +kernel
theorem i_X8_holds0_16 : fetch 133 16 = some (.aload_n 0, 17, 0, 0, 0, 0) := by decide +kernel
theorem i_X8_holds0_17 : fetch 133 17 = some (.iload_n 1, 18, 0, 0, 0, 0) := by decide +kernel
theorem i_X8_holds0_18 : fetch 133 18 = some (.iconst 1, 19, 0, 0, 0, 0) := by decide +kernel
theorem i_X8_holds0_19 : fetch 133 19 = some (.if_icmp .ne 7, 22, 0, 0, 0, 0) := by decide +kernel
theorem i_X8_holds0_22 : fetch 133 22 = some (.iload_n 2, 23, 0, 0, 0, 0) := by decide +kernel
theorem i_X8_holds0_23 : fetch 133 23 = some (.goto 7, 26, 0, 0, 0, 0) := by decide +kernel
theorem i_X8_holds0_26 : fetch 133 26 = some (.aload_n 0, 27, 0, 0, 0, 0) := by decide +kernel
theorem i_X8_holds0_27 : fetch 133 27 = some (.getfield 21, 30, 8, 3, 0, 1012) := by decide +kernel
theorem i_X8_holds0_30 : fetch 133 30 = some (.putfield 21, 33, 8, 3, 0, 1012) := by decide +kernel
theorem i_X8_holds0_33 : fetch 133 33 = some (.aload_n 0, 34, 0, 0, 0, 0) := by decide +kernel
theorem i_X8_holds0_34 : fetch 133 34 = some (.iload_n 1, 35, 0, 0, 0, 0) := by decide +kernel
theorem i_X8_holds0_35 : fetch 133 35 = some (.iconst 2, 36, 0, 0, 0, 0) := by decide +kernel
theorem i_X8_holds0_36 : fetch 133 36 = some (.if_icmp .ne 7, 39, 0, 0, 0, 0) := by decide +kernel
theorem i_X8_holds0_39 : fetch 133 39 = some (.iload_n 2, 40, 0, 0, 0, 0) := by decide +kernel
theorem i_X8_holds0_40 : fetch 133 40 = some (.goto 7, 43, 0, 0, 0, 0) := by decide +kernel
theorem i_X8_holds0_43 : fetch 133 43 = some (.aload_n 0, 44, 0, 0, 0, 0) := by decide +kernel
theorem i_X8_holds0_44 : fetch 133 44 = some (.getfield 24, 47, 8, 4, 0, 1013) := by decide +kernel
theorem i_X8_holds0_47 : fetch 133 47 = some (.putfield 24, 50, 8, 4, 0, 1013) := by decide +kernel
theorem i_X8_holds0_50 : fetch 133 50 = some (.return_, 51, 0, 0, 0, 0) := by decide +kernel
def f_X8_holds0_47 (s0 : Nat) (s1 : Int32) (h : Hp) : Option Hp :=
  if okO h s0 8 then
  some (hsi h s0 4 s1)
  else none
set_option maxRecDepth 100000 in
set_option maxHeartbeats 4000000 in
theorem r_X8_holds0_47 {X : Nat → Int32} {d : Nat} (hd : 0 ≤ d) {s0 : Nat} {s1 : Int32} {d0 : Nat} {d1 : Int32} {d2 : Int32} {h : Hp} {o : Hp} (hf : f_X8_holds0_47 s0 s1 h = some o) : Run X d 133 47 [some (.ref d0), some (.int d1), some (.int d2)] [.int s1, .ref s0] h (none, o) := by
  unfold f_X8_holds0_47 at hf
  obtain ⟨c1, hf⟩ := ite_some hf
  refine rs_putI i_X8_holds0_47 (by decide) c1 ?_
  have hf := Option.some.inj hf
  subst hf
  exact rs_vret i_X8_holds0_50 m_X8_holds0 rfl
def f_X8_holds0_33 (v0 : Nat) (v1 : Int32) (v2 : Int32) (h : Hp) : Option Hp :=
  if v1 ≠ 2 then
    if okO h v0 8 then
    f_X8_holds0_47 v0 (gI h v0 4) h
    else none
  else
    f_X8_holds0_47 v0 v2 h
set_option maxRecDepth 100000 in
set_option maxHeartbeats 4000000 in
theorem r_X8_holds0_33 {X : Nat → Int32} {d : Nat} (hd : 0 ≤ d) {v0 : Nat} {v1 : Int32} {v2 : Int32} {h : Hp} {o : Hp} (hf : f_X8_holds0_33 v0 v1 v2 h = some o) : Run X d 133 33 [some (.ref v0), some (.int v1), some (.int v2)] [] h (none, o) := by
  unfold f_X8_holds0_33 at hf
  refine rs_aload_n i_X8_holds0_33 rfl ?_
  refine rs_iload_n i_X8_holds0_34 rfl ?_
  refine rs_iconst i_X8_holds0_35 (v := 2) (by decide) ?_
  by_cases c1 : v1 ≠ 2
  · replace hf := (if_pos c1).symm.trans hf
    refine rs_icT i_X8_holds0_36 (ct_ne c1) (tg := 43) (by decide) ?_
    refine rs_aload_n i_X8_holds0_43 rfl ?_
    obtain ⟨c2, hf⟩ := ite_some hf
    refine rs_getI i_X8_holds0_44 (by decide) (by decide) c2 ?_
    exact r_X8_holds0_47 hd hf
  · replace hf := (if_neg c1).symm.trans hf
    refine rs_icF i_X8_holds0_36 (cf_ne c1) ?_
    refine rs_iload_n i_X8_holds0_39 rfl ?_
    refine rs_goto i_X8_holds0_40 (tg := 47) (by decide) ?_
    exact r_X8_holds0_47 hd hf
def f_X8_holds0_30 (v0 : Nat) (v1 : Int32) (v2 : Int32) (s0 : Nat) (s1 : Int32) (h : Hp) : Option Hp :=
  if okO h s0 8 then
  f_X8_holds0_33 v0 v1 v2 (hsi h s0 3 s1)
  else none
set_option maxRecDepth 100000 in
set_option maxHeartbeats 4000000 in
theorem r_X8_holds0_30 {X : Nat → Int32} {d : Nat} (hd : 0 ≤ d) {v0 : Nat} {v1 : Int32} {v2 : Int32} {s0 : Nat} {s1 : Int32} {h : Hp} {o : Hp} (hf : f_X8_holds0_30 v0 v1 v2 s0 s1 h = some o) : Run X d 133 30 [some (.ref v0), some (.int v1), some (.int v2)] [.int s1, .ref s0] h (none, o) := by
  unfold f_X8_holds0_30 at hf
  obtain ⟨c1, hf⟩ := ite_some hf
  refine rs_putI i_X8_holds0_30 (by decide) c1 ?_
  exact r_X8_holds0_33 hd hf
def f_X8_holds0_16 (v0 : Nat) (v1 : Int32) (v2 : Int32) (h : Hp) : Option Hp :=
  if v1 ≠ 1 then
    if okO h v0 8 then
    f_X8_holds0_30 v0 v1 v2 v0 (gI h v0 3) h
    else none
  else
    f_X8_holds0_30 v0 v1 v2 v0 v2 h
set_option maxRecDepth 100000 in
set_option maxHeartbeats 4000000 in
theorem r_X8_holds0_16 {X : Nat → Int32} {d : Nat} (hd : 0 ≤ d) {v0 : Nat} {v1 : Int32} {v2 : Int32} {h : Hp} {o : Hp} (hf : f_X8_holds0_16 v0 v1 v2 h = some o) : Run X d 133 16 [some (.ref v0), some (.int v1), some (.int v2)] [] h (none, o) := by
  unfold f_X8_holds0_16 at hf
  refine rs_aload_n i_X8_holds0_16 rfl ?_
  refine rs_iload_n i_X8_holds0_17 rfl ?_
  refine rs_iconst i_X8_holds0_18 (v := 1) (by decide) ?_
  by_cases c1 : v1 ≠ 1
  · replace hf := (if_pos c1).symm.trans hf
    refine rs_icT i_X8_holds0_19 (ct_ne c1) (tg := 26) (by decide) ?_
    refine rs_aload_n i_X8_holds0_26 rfl ?_
    obtain ⟨c2, hf⟩ := ite_some hf
    refine rs_getI i_X8_holds0_27 (by decide) (by decide) c2 ?_
    exact r_X8_holds0_30 hd hf
  · replace hf := (if_neg c1).symm.trans hf
    refine rs_icF i_X8_holds0_19 (cf_ne c1) ?_
    refine rs_iload_n i_X8_holds0_22 rfl ?_
    refine rs_goto i_X8_holds0_23 (tg := 30) (by decide) ?_
    exact r_X8_holds0_30 hd hf
def f_X8_holds0_13 (v0 : Nat) (v1 : Int32) (v2 : Int32) (s0 : Nat) (s1 : Int32) (h : Hp) : Option Hp :=
  if okO h s0 8 then
  f_X8_holds0_16 v0 v1 v2 (hsi h s0 2 s1)
  else none
set_option maxRecDepth 100000 in
set_option maxHeartbeats 4000000 in
theorem r_X8_holds0_13 {X : Nat → Int32} {d : Nat} (hd : 0 ≤ d) {v0 : Nat} {v1 : Int32} {v2 : Int32} {s0 : Nat} {s1 : Int32} {h : Hp} {o : Hp} (hf : f_X8_holds0_13 v0 v1 v2 s0 s1 h = some o) : Run X d 133 13 [some (.ref v0), some (.int v1), some (.int v2)] [.int s1, .ref s0] h (none, o) := by
  unfold f_X8_holds0_13 at hf
  obtain ⟨c1, hf⟩ := ite_some hf
  refine rs_putI i_X8_holds0_13 (by decide) c1 ?_
  exact r_X8_holds0_16 hd hf
def f_X8_holds0_0 (v0 : Nat) (v1 : Int32) (v2 : Int32) (h : Hp) : Option Hp :=
  if v1 ≠ 0 then
    if okO h v0 8 then
    f_X8_holds0_13 v0 v1 v2 v0 (gI h v0 2) h
    else none
  else
    f_X8_holds0_13 v0 v1 v2 v0 v2 h
set_option maxRecDepth 100000 in
set_option maxHeartbeats 4000000 in
theorem r_X8_holds0_0 {X : Nat → Int32} {d : Nat} (hd : 0 ≤ d) {v0 : Nat} {v1 : Int32} {v2 : Int32} {h : Hp} {o : Hp} (hf : f_X8_holds0_0 v0 v1 v2 h = some o) : Run X d 133 0 [some (.ref v0), some (.int v1), some (.int v2)] [] h (none, o) := by
  unfold f_X8_holds0_0 at hf
  refine rs_aload_n i_X8_holds0_0 rfl ?_
  refine rs_iload_n i_X8_holds0_1 rfl ?_
  by_cases c1 : v1 ≠ 0
  · replace hf := (if_pos c1).symm.trans hf
    refine rs_ifT i_X8_holds0_2 (ct_ne c1) (tg := 9) (by decide) ?_
    refine rs_aload_n i_X8_holds0_9 rfl ?_
    obtain ⟨c2, hf⟩ := ite_some hf
    refine rs_getI i_X8_holds0_10 (by decide) (by decide) c2 ?_
    exact r_X8_holds0_13 hd hf
  · replace hf := (if_neg c1).symm.trans hf
    refine rs_ifF i_X8_holds0_2 (cf_ne c1) ?_
    refine rs_iload_n i_X8_holds0_5 rfl ?_
    refine rs_goto i_X8_holds0_6 (tg := 13) (by decide) ?_
    exact r_X8_holds0_13 hd hf
def f_X8_holds0 (v0 : Nat) (v1 : Int32) (v2 : Int32) (h : Hp) : Option Hp := f_X8_holds0_0 v0 v1 v2 h
theorem c_X8_holds0 {X : Nat → Int32} {d : Nat} (hd : 0 ≤ d) {v0 : Nat} {v1 : Int32} {v2 : Int32} {h : Hp} {o : Hp} (hf : f_X8_holds0 v0 v1 v2 h = some o) : Calls X d 133 [.ref v0, .int v1, .int v2] h (none, o) := by
  exact ⟨_, rfl, r_X8_holds0_0 hd hf⟩
theorem i_X8_set_0 : fetch 132 0 = some (.iload_n 1, 1, 0, 0, 0, 0) := by decide +kernel
theorem i_X8_set_1 : fetch 132 1 = some (.iconst 0, 2, 0, 0, 0, 0) := by decide +kernel
theorem i_X8_set_2 : fetch 132 2 = some (.iconst 2, 3, 0, 0, 0, 0) := by decide +kernel
theorem i_X8_set_3 : fetch 132 3 = some (.invokestatic 112, 6, 126, 0, 0, 970) := by decide +kernel
theorem i_X8_set_6 : fetch 132 6 = some (.ifCond .ne 5, 9, 0, 0, 0, 0) := by decide +kernel
theorem i_X8_set_9 : fetch 132 9 = some (.iconst (-1), 10, 0, 0, 0, 0) := by decide +kernel
theorem i_X8_set_10 : fetch 132 10 = some (.ireturn, 11, 0, 0, 0, 0) := by decide +kernel
theorem i_X8_set_11 : fetch 132 11 = some (.iload_n 2, 12, 0, 0, 0, 0) := by decide +kernel
theorem i_X8_set_12 : fetch 132 12 = some (.iconst 0, 13, 0, 0, 0, 0) := by decide +kernel
theorem i_X8_set_13 : fetch 132 13 = some (.bipush 9, 15, 0, 0, 0, 0) := by decide +kernel
theorem i_X8_set_15 : fetch 132 15 = some (.invokestatic 112, 18, 126, 0, 0, 970) := by decide +kernel
theorem i_X8_set_18 : fetch 132 18 = some (.ifCond .ne 6, 21, 0, 0, 0, 0) := by decide +kernel
theorem i_X8_set_21 : fetch 132 21 = some (.bipush (-2), 23, 0, 0, 0, 0) := by decide +kernel
theorem i_X8_set_23 : fetch 132 23 = some (.ireturn, 24, 0, 0, 0, 0) := by decide +kernel
theorem i_X8_set_24 : fetch 132 24 = some (.aload_n 0, 25, 0, 0, 0, 0) := by decide +kernel
theorem i_X8_set_25 : fetch 132 25 = some (.iload_n 1, 26, 0, 0, 0, 0) := by decide +kernel
theorem i_X8_set_26 : fetch 132 26 = some (.invokevirtual 124, 29, 134, 0, 0, 1184) := by decide +kernel
theorem i_X8_set_29 : fetch 132 29 = some (.istore_n 3, 30, 0, 0, 0, 0) := by decide +kernel
theorem i_X8_set_30 : fetch 132 30 = some (.aload_n 0, 31, 0, 0, 0, 0) := by decide +kernel
theorem i_X8_set_31 : fetch 132 31 = some (.iload_n 1, 32, 0, 0, 0, 0) := by decide +kernel
theorem i_X8_set_32 : fetch 132 32 = some (.iload_n 2, 33, 0, 0, 0, 0) := by decide +kernel
theorem i_X8_set_33 : fetch 132 33 = some (.invokevirtual 128, 36, 133, 0, 0, 1188) := by decide +kernel
theorem i_X8_set_36 : fetch 132 36 = some (.iload_n 3, 37, 0, 0, 0, 0) := by decide +kernel
theorem i_X8_set_37 : fetch 132 37 = some (.ireturn, 38, 0, 0, 0, 0) := by decide +kernel
def f_X8_set_0 (v0 : Nat) (v1 : Int32) (v2 : Int32) (h : Hp) : Option (Int32 × Hp) :=
  (f_X8_in v1 0 2 h).bind fun o1 =>
  if o1.1 ≠ 0 then
    (f_X8_in v2 0 9 o1.2).bind fun o3 =>
    if o3.1 ≠ 0 then
      if okO o3.2 v0 8 then
      (f_X8_count v0 v1 o3.2).bind fun o5 =>
      if okO o5.2 v0 8 then
      (f_X8_holds0 v0 v1 v2 o5.2).bind fun o7 =>
      some (o5.1, o7)
      else none
      else none
    else
      some ((-2), o3.2)
  else
    some ((-1), o1.2)
set_option maxRecDepth 100000 in
set_option maxHeartbeats 4000000 in
theorem r_X8_set_0 {X : Nat → Int32} {d : Nat} (hd : 1 ≤ (d + 1)) {v0 : Nat} {v1 : Int32} {v2 : Int32} {h : Hp} {o : (Int32 × Hp)} (hf : f_X8_set_0 v0 v1 v2 h = some o) : Run X (d + 1) 132 0 [some (.ref v0), some (.int v1), some (.int v2), none] [] h (some (.int o.1), o.2) := by
  unfold f_X8_set_0 at hf
  refine rs_iload_n i_X8_set_0 rfl ?_
  refine rs_iconst i_X8_set_1 (v := 0) (by decide) ?_
  refine rs_iconst i_X8_set_2 (v := 2) (by decide) ?_
  obtain ⟨o1, e1, hf⟩ := bind_some hf
  refine rs_inS i_X8_set_3 (by decide) m_X8_in rfl (As := [.int v1, .int 0, .int 2]) (rest := []) rfl rfl (Nat.le_of_ble_eq_true rfl) (c_X8_in (by omega) e1) (st' := [.int o1.1]) rfl ?_
  by_cases c2 : o1.1 ≠ 0
  · replace hf := (if_pos c2).symm.trans hf
    refine rs_ifT i_X8_set_6 (ct_ne c2) (tg := 11) (by decide) ?_
    refine rs_iload_n i_X8_set_11 rfl ?_
    refine rs_iconst i_X8_set_12 (v := 0) (by decide) ?_
    refine rs_bipush i_X8_set_13 (v := 9) (by decide) ?_
    obtain ⟨o3, e3, hf⟩ := bind_some hf
    refine rs_inS i_X8_set_15 (by decide) m_X8_in rfl (As := [.int v2, .int 0, .int 9]) (rest := []) rfl rfl (Nat.le_of_ble_eq_true rfl) (c_X8_in (by omega) e3) (st' := [.int o3.1]) rfl ?_
    by_cases c4 : o3.1 ≠ 0
    · replace hf := (if_pos c4).symm.trans hf
      refine rs_ifT i_X8_set_18 (ct_ne c4) (tg := 24) (by decide) ?_
      refine rs_aload_n i_X8_set_24 rfl ?_
      refine rs_iload_n i_X8_set_25 rfl ?_
      obtain ⟨c6, hf⟩ := ite_some hf
      obtain ⟨o5, e5, hf⟩ := bind_some hf
      refine rs_inV i_X8_set_26 m_X8_count rfl (As := [.int v1]) (rest := []) rfl rfl (Nat.le_of_ble_eq_true rfl) c6 (c_X8_count (by omega) e5) (st' := [.int o5.1]) rfl ?_
      refine rs_istore_n i_X8_set_29 (Nat.le_of_ble_eq_true rfl) (lv' := [some (.ref v0), some (.int v1), some (.int v2), some (.int o5.1)]) rfl ?_
      refine rs_aload_n i_X8_set_30 rfl ?_
      refine rs_iload_n i_X8_set_31 rfl ?_
      refine rs_iload_n i_X8_set_32 rfl ?_
      obtain ⟨c8, hf⟩ := ite_some hf
      obtain ⟨o7, e7, hf⟩ := bind_some hf
      refine rs_inV i_X8_set_33 m_X8_holds0 rfl (As := [.int v1, .int v2]) (rest := []) rfl rfl (Nat.le_of_ble_eq_true rfl) c8 (c_X8_holds0 (by omega) e7) (st' := []) rfl ?_
      refine rs_iload_n i_X8_set_36 rfl ?_
      have hf := Option.some.inj hf
      subst hf
      exact rs_iret i_X8_set_37 m_X8_set rfl
    · replace hf := (if_neg c4).symm.trans hf
      refine rs_ifF i_X8_set_18 (cf_ne c4) ?_
      refine rs_bipush i_X8_set_21 (v := (-2)) (by decide) ?_
      have hf := Option.some.inj hf
      subst hf
      exact rs_iret i_X8_set_23 m_X8_set rfl
  · replace hf := (if_neg c2).symm.trans hf
    refine rs_ifF i_X8_set_6 (cf_ne c2) ?_
    refine rs_iconst i_X8_set_9 (v := (-1)) (by decide) ?_
    have hf := Option.some.inj hf
    subst hf
    exact rs_iret i_X8_set_10 m_X8_set rfl
def f_X8_set (v0 : Nat) (v1 : Int32) (v2 : Int32) (h : Hp) : Option (Int32 × Hp) := f_X8_set_0 v0 v1 v2 h
theorem c_X8_set {X : Nat → Int32} {d : Nat} (hd : 1 ≤ d) {v0 : Nat} {v1 : Int32} {v2 : Int32} {h : Hp} {o : (Int32 × Hp)} (hf : f_X8_set v0 v1 v2 h = some o) : Calls X d 132 [.ref v0, .int v1, .int v2] h (some (.int o.1), o.2) := by
  obtain ⟨d, rfl⟩ : ∃ z, d = z + 1 := ⟨d - 1, by omega⟩
  exact ⟨_, rfl, r_X8_set_0 hd hf⟩
theorem i_X8_feed_0 : fetch 135 0 = some (.iload_n 3, 1, 0, 0, 0, 0) := by decide +kernel
theorem i_X8_feed_1 : fetch 135 1 = some (.iconst 1, 2, 0, 0, 0, 0) := by decide +kernel
theorem i_X8_feed_2 : fetch 135 2 = some (.bipush 8, 4, 0, 0, 0, 0) := by decide +kernel
theorem i_X8_feed_4 : fetch 135 4 = some (.invokestatic 112, 7, 126, 0, 0, 970) := by decide +kernel
theorem i_X8_feed_7 : fetch 135 7 = some (.ifCond .ne 6, 10, 0, 0, 0, 0) := by decide +kernel
theorem i_X8_feed_10 : fetch 135 10 = some (.bipush (-2), 12, 0, 0, 0, 0) := by decide +kernel
theorem i_X8_feed_12 : fetch 135 12 = some (.ireturn, 13, 0, 0, 0, 0) := by decide +kernel
theorem i_X8_feed_13 : fetch 135 13 = some (.aload_n 0, 14, 0, 0, 0, 0) := by decide +kernel
theorem i_X8_feed_14 : fetch 135 14 = some (.getfield 105, 17, 8, 10, 0, 1019) := by decide +kernel
theorem i_X8_feed_17 : fetch 135 17 = some (.iload_n 3, 18, 0, 0, 0, 0) := by decide +kernel
theorem i_X8_feed_18 : fetch 135 18 = some (.iadd, 19, 0, 0, 0, 0) := by decide +kernel
theorem i_X8_feed_19 : fetch 135 19 = some (.sipush 160, 22, 0, 0, 0, 0) := by decide +kernel
theorem i_X8_feed_22 : fetch 135 22 = some (.if_icmp .le 6, 25, 0, 0, 0, 0) := by decide +kernel
theorem i_X8_feed_25 : fetch 135 25 = some (.bipush (-4), 27, 0, 0, 0, 0) := by decide +kernel
theorem i_X8_feed_27 : fetch 135 27 = some (.ireturn, 28, 0, 0, 0, 0) := by decide +kernel
theorem i_X8_feed_28 : fetch 135 28 = some (.iload_n 3, 29, 0, 0, 0, 0) := by decide +kernel
theorem i_X8_feed_29 : fetch 135 29 = some (.iconst 1, 30, 0, 0, 0, 0) := by decide +kernel
theorem i_X8_feed_30 : fetch 135 30 = some (.isub, 31, 0, 0, 0, 0) := by decide +kernel
theorem i_X8_feed_31 : fetch 135 31 = some (.istore 4, 33, 0, 0, 0, 0) := by decide +kernel
theorem i_X8_feed_33 : fetch 135 33 = some (.iload 4, 35, 0, 0, 0, 0) := by decide +kernel
theorem i_X8_feed_35 : fetch 135 35 = some (.ifCond .lt 40, 38, 0, 0, 0, 0) := by decide +kernel
theorem i_X8_feed_38 : fetch 135 38 = some (.aload_n 0, 39, 0, 0, 0, 0) := by decide +kernel
theorem i_X8_feed_39 : fetch 135 39 = some (.getfield 36, 42, 8, 9, 0, 1018) := by decide +kernel
theorem i_X8_feed_42 : fetch 135 42 = some (.aload_n 0, 43, 0, 0, 0, 0) := by decide +kernel
theorem i_X8_feed_43 : fetch 135 43 = some (.getfield 105, 46, 8, 10, 0, 1019) := by decide +kernel
theorem i_X8_feed_46 : fetch 135 46 = some (.lload_n 1, 47, 0, 0, 0, 0) := by decide +kernel
theorem i_X8_feed_47 : fetch 135 47 = some (.bipush 8, 49, 0, 0, 0, 0) := by decide +kernel
theorem i_X8_feed_49 : fetch 135 49 = some (.iload 4, 51, 0, 0, 0, 0) := by decide +kernel
theorem i_X8_feed_51 : fetch 135 51 = some (.imul, 52, 0, 0, 0, 0) := by decide +kernel
theorem i_X8_feed_52 : fetch 135 52 = some (.lshr, 53, 0, 0, 0, 0) := by decide +kernel
theorem i_X8_feed_53 : fetch 135 53 = some (.ldc2_w 138, 56, 0, 0, 255, 1197) := by decide +kernel
theorem i_X8_feed_56 : fetch 135 56 = some (.land, 57, 0, 0, 0, 0) := by decide +kernel
theorem i_X8_feed_57 : fetch 135 57 = some (.l2i, 58, 0, 0, 0, 0) := by decide +kernel
theorem i_X8_feed_58 : fetch 135 58 = some (.iastore, 59, 0, 0, 0, 0) := by decide +kernel
theorem i_X8_feed_59 : fetch 135 59 = some (.aload_n 0, 60, 0, 0, 0, 0) := by decide +kernel
theorem i_X8_feed_60 : fetch 135 60 = some (.dup, 61, 0, 0, 0, 0) := by decide +kernel
theorem i_X8_feed_61 : fetch 135 61 = some (.getfield 105, 64, 8, 10, 0, 1019) := by decide +kernel
theorem i_X8_feed_64 : fetch 135 64 = some (.iconst 1, 65, 0, 0, 0, 0) := by decide +kernel
theorem i_X8_feed_65 : fetch 135 65 = some (.iadd, 66, 0, 0, 0, 0) := by decide +kernel
theorem i_X8_feed_66 : fetch 135 66 = some (.putfield 105, 69, 8, 10, 0, 1019) := by decide +kernel
theorem i_X8_feed_69 : fetch 135 69 = some (.iinc 4 (-1), 72, 0, 0, 0, 0) := by decide +kernel
theorem i_X8_feed_72 : fetch 135 72 = some (.goto (-39), 75, 0, 0, 0, 0) := by decide +kernel
theorem i_X8_feed_75 : fetch 135 75 = some (.aload_n 0, 76, 0, 0, 0, 0) := by decide +kernel
theorem i_X8_feed_76 : fetch 135 76 = some (.getfield 105, 79, 8, 10, 0, 1019) := by decide +kernel
theorem i_X8_feed_79 : fetch 135 79 = some (.ireturn, 80, 0, 0, 0, 0) := by decide +kernel
def f_X8_feed_59 (n : Nat) (K33 : Nat → Int64 → Int32 → Hp → Option (Int32 × Hp)) (v0 : Nat) (v1 : Int64) (v4 : Int32) (h : Hp) : Option (Int32 × Hp) :=
  if okO h v0 8 then
  K33 v0 v1 (v4 + (-1)) (hsi h v0 10 ((gI h v0 10) + 1))
  else none
set_option maxRecDepth 100000 in
set_option maxHeartbeats 4000000 in
theorem r_X8_feed_59 {X : Nat → Int32} {d : Nat} (hd : 1 ≤ (d + 1)) {n : Nat} {K33 : Nat → Int64 → Int32 → Hp → Option (Int32 × Hp)} (HK33 : ∀ (v0 : Nat) (v1 : Int64) (v4 : Int32) (d3 : Int32) (h : Hp) (o : (Int32 × Hp)), K33 v0 v1 v4 h = some o → Run X (d + 1) 135 33 [some (.ref v0), some (.long v1), none, some (.int d3), some (.int v4)] [] h (some (.int o.1), o.2)) {v0 : Nat} {v1 : Int64} {v4 : Int32} {d3 : Int32} {h : Hp} {o : (Int32 × Hp)} (hf : f_X8_feed_59 n K33 v0 v1 v4 h = some o) : Run X (d + 1) 135 59 [some (.ref v0), some (.long v1), none, some (.int d3), some (.int v4)] [] h (some (.int o.1), o.2) := by
  unfold f_X8_feed_59 at hf
  refine rs_aload_n i_X8_feed_59 rfl ?_
  refine rs_dup i_X8_feed_60 rfl ?_
  obtain ⟨c1, hf⟩ := ite_some hf
  refine rs_getI i_X8_feed_61 (by decide) (by decide) c1 ?_
  refine rs_iconst i_X8_feed_64 (v := 1) (by decide) ?_
  refine rs_iadd i_X8_feed_65 ?_
  refine rs_putI i_X8_feed_66 (by decide) c1 ?_
  refine rs_iinc i_X8_feed_69 rfl (v := v4 + (-1)) rfl (Nat.le_of_ble_eq_true rfl) (lv' := [some (.ref v0), some (.long v1), none, some (.int d3), some (.int (v4 + (-1)))]) rfl ?_
  refine rs_goto i_X8_feed_72 (tg := 33) (by decide) ?_
  exact HK33 _ _ _ _ _ _ hf
def f_X8_feed_33 (n : Nat) : Nat → Nat → Int64 → Int32 → Hp → Option (Int32 × Hp)
  | 0, _, _, _, _ => none
  | m + 1, v0, v1, v4, h =>
    if v4 < 0 then
      if okO h v0 8 then
      some ((gI h v0 10), h)
      else none
    else
      if okO h v0 8 then
      (gR h v0 9).bind fun a4 =>
      if okI h a4 (gI h v0 10) then
      f_X8_feed_59 n (f_X8_feed_33 n m) v0 v1 v4 (hsi h a4 (ix (gI h v0 10)) (Int64.toInt32 ((v1 >>> (Int32.toInt64 (8 * v4) &&& 63)) &&& 255)))
      else none
      else none
set_option maxRecDepth 100000 in
set_option maxHeartbeats 4000000 in
theorem r_X8_feed_33 {X : Nat → Int32} {d : Nat} (hd : 1 ≤ (d + 1)) {n : Nat} : ∀ (m : Nat) (v0 : Nat) (v1 : Int64) (v4 : Int32) (d3 : Int32) (h : Hp) (o : (Int32 × Hp)), f_X8_feed_33 n m v0 v1 v4 h = some o → Run X (d + 1) 135 33 [some (.ref v0), some (.long v1), none, some (.int d3), some (.int v4)] [] h (some (.int o.1), o.2) := by
  intro m
  induction m with
  | zero => intro v0 v1 v4 d3 h o hf; cases hf
  | succ m ih =>
    intro v0 v1 v4 d3 h o hf
    rw [f_X8_feed_33] at hf
    refine rs_iload i_X8_feed_33 rfl ?_
    by_cases c1 : v4 < 0
    · replace hf := (if_pos c1).symm.trans hf
      refine rs_ifT i_X8_feed_35 (ct_lt c1) (tg := 75) (by decide) ?_
      refine rs_aload_n i_X8_feed_75 rfl ?_
      obtain ⟨c2, hf⟩ := ite_some hf
      refine rs_getI i_X8_feed_76 (by decide) (by decide) c2 ?_
      have hf := Option.some.inj hf
      subst hf
      exact rs_iret i_X8_feed_79 m_X8_feed rfl
    · replace hf := (if_neg c1).symm.trans hf
      refine rs_ifF i_X8_feed_35 (cf_lt c1) ?_
      refine rs_aload_n i_X8_feed_38 rfl ?_
      obtain ⟨c3, hf⟩ := ite_some hf
      obtain ⟨a4, e4, hf⟩ := bind_some hf
      refine rs_getR i_X8_feed_39 (by decide) (by decide) c3 e4 ?_
      refine rs_aload_n i_X8_feed_42 rfl ?_
      refine rs_getI i_X8_feed_43 (by decide) (by decide) c3 ?_
      refine rs_lload_n i_X8_feed_46 rfl ?_
      refine rs_bipush i_X8_feed_47 (v := 8) (by decide) ?_
      refine rs_iload i_X8_feed_49 rfl ?_
      refine rs_imul i_X8_feed_51 ?_
      refine rs_lshr i_X8_feed_52 ?_
      refine rs_ldc2 i_X8_feed_53 (v := 255) (by decide) ?_
      refine rs_land i_X8_feed_56 ?_
      refine rs_l2i i_X8_feed_57 ?_
      obtain ⟨c5, hf⟩ := ite_some hf
      refine rs_iast i_X8_feed_58 c5 ?_
      exact r_X8_feed_59 hd ih hf
def f_X8_feed_0 (n : Nat) (v0 : Nat) (v1 : Int64) (v3 : Int32) (h : Hp) : Option (Int32 × Hp) :=
  (f_X8_in v3 1 8 h).bind fun o1 =>
  if o1.1 ≠ 0 then
    if okO o1.2 v0 8 then
    if ((gI o1.2 v0 10) + v3) ≤ 160 then
      f_X8_feed_33 n n v0 v1 (v3 - 1) o1.2
    else
      some ((-4), o1.2)
    else none
  else
    some ((-2), o1.2)
set_option maxRecDepth 100000 in
set_option maxHeartbeats 4000000 in
theorem r_X8_feed_0 {X : Nat → Int32} {d : Nat} (hd : 1 ≤ (d + 1)) {n : Nat} {v0 : Nat} {v1 : Int64} {v3 : Int32} {h : Hp} {o : (Int32 × Hp)} (hf : f_X8_feed_0 n v0 v1 v3 h = some o) : Run X (d + 1) 135 0 [some (.ref v0), some (.long v1), none, some (.int v3), none] [] h (some (.int o.1), o.2) := by
  unfold f_X8_feed_0 at hf
  refine rs_iload_n i_X8_feed_0 rfl ?_
  refine rs_iconst i_X8_feed_1 (v := 1) (by decide) ?_
  refine rs_bipush i_X8_feed_2 (v := 8) (by decide) ?_
  obtain ⟨o1, e1, hf⟩ := bind_some hf
  refine rs_inS i_X8_feed_4 (by decide) m_X8_in rfl (As := [.int v3, .int 1, .int 8]) (rest := []) rfl rfl (Nat.le_of_ble_eq_true rfl) (c_X8_in (by omega) e1) (st' := [.int o1.1]) rfl ?_
  by_cases c2 : o1.1 ≠ 0
  · replace hf := (if_pos c2).symm.trans hf
    refine rs_ifT i_X8_feed_7 (ct_ne c2) (tg := 13) (by decide) ?_
    refine rs_aload_n i_X8_feed_13 rfl ?_
    obtain ⟨c3, hf⟩ := ite_some hf
    refine rs_getI i_X8_feed_14 (by decide) (by decide) c3 ?_
    refine rs_iload_n i_X8_feed_17 rfl ?_
    refine rs_iadd i_X8_feed_18 ?_
    refine rs_sipush i_X8_feed_19 (v := 160) (by decide) ?_
    by_cases c4 : ((gI o1.2 v0 10) + v3) ≤ 160
    · replace hf := (if_pos c4).symm.trans hf
      refine rs_icT i_X8_feed_22 (ct_le c4) (tg := 28) (by decide) ?_
      refine rs_iload_n i_X8_feed_28 rfl ?_
      refine rs_iconst i_X8_feed_29 (v := 1) (by decide) ?_
      refine rs_isub i_X8_feed_30 ?_
      refine rs_istore i_X8_feed_31 (Nat.le_of_ble_eq_true rfl) (lv' := [some (.ref v0), some (.long v1), none, some (.int v3), some (.int (v3 - 1))]) rfl ?_
      exact r_X8_feed_33 hd _ _ _ _ _ _ _ hf
    · replace hf := (if_neg c4).symm.trans hf
      refine rs_icF i_X8_feed_22 (cf_le c4) ?_
      refine rs_bipush i_X8_feed_25 (v := (-4)) (by decide) ?_
      have hf := Option.some.inj hf
      subst hf
      exact rs_iret i_X8_feed_27 m_X8_feed rfl
  · replace hf := (if_neg c2).symm.trans hf
    refine rs_ifF i_X8_feed_7 (cf_ne c2) ?_
    refine rs_bipush i_X8_feed_10 (v := (-2)) (by decide) ?_
    have hf := Option.some.inj hf
    subst hf
    exact rs_iret i_X8_feed_12 m_X8_feed rfl
def f_X8_feed (n : Nat) (v0 : Nat) (v1 : Int64) (v3 : Int32) (h : Hp) : Option (Int32 × Hp) := f_X8_feed_0 n v0 v1 v3 h
theorem c_X8_feed {X : Nat → Int32} {d : Nat} (hd : 1 ≤ d) {n : Nat} {v0 : Nat} {v1 : Int64} {v3 : Int32} {h : Hp} {o : (Int32 × Hp)} (hf : f_X8_feed n v0 v1 v3 h = some o) : Calls X d 135 [.ref v0, .long v1, .int v3] h (some (.int o.1), o.2) := by
  obtain ⟨d, rfl⟩ : ∃ z, d = z + 1 := ⟨d - 1, by omega⟩
  exact ⟨_, rfl, r_X8_feed_0 hd hf⟩
theorem i_X8_two_0 : fetch 147 0 = some (.iload_n 0, 1, 0, 0, 0, 0) := by decide +kernel
theorem i_X8_two_1 : fetch 147 1 = some (.tableswitch 101 11 17 #[43, 57, 101, 71, 82, 93, 97], 44, 0, 0, 0, 0) := by decide +kernel
theorem i_X8_two_44 : fetch 147 44 = some (.iload_n 1, 45, 0, 0, 0, 0) := by decide +kernel
theorem i_X8_two_45 : fetch 147 45 = some (.ifCond .ne 7, 48, 0, 0, 0, 0) := by decide +kernel
theorem i_X8_two_48 : fetch 147 48 = some (.iload_n 2, 49, 0, 0, 0, 0) := by decide +kernel
theorem i_X8_two_49 : fetch 147 49 = some (.ifCond .eq 7, 52, 0, 0, 0, 0) := by decide +kernel
theorem i_X8_two_52 : fetch 147 52 = some (.iconst 1, 53, 0, 0, 0, 0) := by decide +kernel
theorem i_X8_two_53 : fetch 147 53 = some (.goto 4, 56, 0, 0, 0, 0) := by decide +kernel
theorem i_X8_two_56 : fetch 147 56 = some (.iconst 0, 57, 0, 0, 0, 0) := by decide +kernel
theorem i_X8_two_57 : fetch 147 57 = some (.ireturn, 58, 0, 0, 0, 0) := by decide +kernel
theorem i_X8_two_58 : fetch 147 58 = some (.iload_n 1, 59, 0, 0, 0, 0) := by decide +kernel
theorem i_X8_two_59 : fetch 147 59 = some (.ifCond .eq 11, 62, 0, 0, 0, 0) := by decide +kernel
theorem i_X8_two_62 : fetch 147 62 = some (.iload_n 2, 63, 0, 0, 0, 0) := by decide +kernel
theorem i_X8_two_63 : fetch 147 63 = some (.ifCond .eq 7, 66, 0, 0, 0, 0) := by decide +kernel
theorem i_X8_two_66 : fetch 147 66 = some (.iconst 1, 67, 0, 0, 0, 0) := by decide +kernel
theorem i_X8_two_67 : fetch 147 67 = some (.goto 4, 70, 0, 0, 0, 0) := by decide +kernel
theorem i_X8_two_70 : fetch 147 70 = some (.iconst 0, 71, 0, 0, 0, 0) := by decide +kernel
theorem i_X8_two_71 : fetch 147 71 = some (.ireturn, 72, 0, 0, 0, 0) := by decide +kernel
theorem i_X8_two_72 : fetch 147 72 = some (.iload_n 1, 73, 0, 0, 0, 0) := by decide +kernel
theorem i_X8_two_73 : fetch 147 73 = some (.iload_n 2, 74, 0, 0, 0, 0) := by decide +kernel
theorem i_X8_two_74 : fetch 147 74 = some (.if_icmp .ge 7, 77, 0, 0, 0, 0) := by decide +kernel
theorem i_X8_two_77 : fetch 147 77 = some (.iconst 1, 78, 0, 0, 0, 0) := by decide +kernel
theorem i_X8_two_78 : fetch 147 78 = some (.goto 4, 81, 0, 0, 0, 0) := by decide +kernel
theorem i_X8_two_81 : fetch 147 81 = some (.iconst 0, 82, 0, 0, 0, 0) := by decide +kernel
theorem i_X8_two_82 : fetch 147 82 = some (.ireturn, 83, 0, 0, 0, 0) := by decide +kernel
theorem i_X8_two_83 : fetch 147 83 = some (.iload_n 1, 84, 0, 0, 0, 0) := by decide +kernel
theorem i_X8_two_84 : fetch 147 84 = some (.iload_n 2, 85, 0, 0, 0, 0) := by decide +kernel
theorem i_X8_two_85 : fetch 147 85 = some (.if_icmp .ne 7, 88, 0, 0, 0, 0) := by decide +kernel
theorem i_X8_two_88 : fetch 147 88 = some (.iconst 1, 89, 0, 0, 0, 0) := by decide +kernel
theorem i_X8_two_89 : fetch 147 89 = some (.goto 4, 92, 0, 0, 0, 0) := by decide +kernel
theorem i_X8_two_92 : fetch 147 92 = some (.iconst 0, 93, 0, 0, 0, 0) := by decide +kernel
theorem i_X8_two_93 : fetch 147 93 = some (.ireturn, 94, 0, 0, 0, 0) := by decide +kernel
theorem i_X8_two_94 : fetch 147 94 = some (.iload_n 1, 95, 0, 0, 0, 0) := by decide +kernel
theorem i_X8_two_95 : fetch 147 95 = some (.iload_n 2, 96, 0, 0, 0, 0) := by decide +kernel
theorem i_X8_two_96 : fetch 147 96 = some (.iadd, 97, 0, 0, 0, 0) := by decide +kernel
theorem i_X8_two_97 : fetch 147 97 = some (.ireturn, 98, 0, 0, 0, 0) := by decide +kernel
theorem i_X8_two_98 : fetch 147 98 = some (.iload_n 1, 99, 0, 0, 0, 0) := by decide +kernel
theorem i_X8_two_99 : fetch 147 99 = some (.iload_n 2, 100, 0, 0, 0, 0) := by decide +kernel
theorem i_X8_two_100 : fetch 147 100 = some (.isub, 101, 0, 0, 0, 0) := by decide +kernel
theorem i_X8_two_101 : fetch 147 101 = some (.ireturn, 102, 0, 0, 0, 0) := by decide +kernel
theorem i_X8_two_102 : fetch 147 102 = some (.iload_n 1, 103, 0, 0, 0, 0) := by decide +kernel
theorem i_X8_two_103 : fetch 147 103 = some (.iload_n 2, 104, 0, 0, 0, 0) := by decide +kernel
theorem i_X8_two_104 : fetch 147 104 = some (.imul, 105, 0, 0, 0, 0) := by decide +kernel
theorem i_X8_two_105 : fetch 147 105 = some (.ireturn, 106, 0, 0, 0, 0) := by decide +kernel
def f_X8_two_52  (h : Hp) : Option (Int32 × Hp) :=
  some (1, h)
set_option maxRecDepth 100000 in
set_option maxHeartbeats 4000000 in
theorem r_X8_two_52 {X : Nat → Int32} {d : Nat} (hd : 0 ≤ d) {d0 : Int32} {d1 : Int32} {d2 : Int32} {h : Hp} {o : (Int32 × Hp)} (hf : f_X8_two_52 h = some o) : Run X d 147 52 [some (.int d0), some (.int d1), some (.int d2)] [] h (some (.int o.1), o.2) := by
  unfold f_X8_two_52 at hf
  refine rs_iconst i_X8_two_52 (v := 1) (by decide) ?_
  refine rs_goto i_X8_two_53 (tg := 57) (by decide) ?_
  have hf := Option.some.inj hf
  subst hf
  exact rs_iret i_X8_two_57 m_X8_two rfl
def f_X8_two_0 (v0 : Int32) (v1 : Int32) (v2 : Int32) (h : Hp) : Option (Int32 × Hp) :=
  if v0 = 11 then
    if v1 ≠ 0 then
      f_X8_two_52 h
    else
      if v2 = 0 then
        some (0, h)
      else
        f_X8_two_52 h
  else
    if v0 = 12 then
      if v1 = 0 then
        some (0, h)
      else
        if v2 = 0 then
          some (0, h)
        else
          some (1, h)
    else
      if v0 = 13 then
        some ((v1 * v2), h)
      else
        if v0 = 14 then
          if v2 ≤ v1 then
            some (0, h)
          else
            some (1, h)
        else
          if v0 = 15 then
            if v1 ≠ v2 then
              some (0, h)
            else
              some (1, h)
          else
            if v0 = 16 then
              some ((v1 + v2), h)
            else
              if v0 = 17 then
                some ((v1 - v2), h)
              else
                some ((v1 * v2), h)
set_option maxRecDepth 100000 in
set_option maxHeartbeats 4000000 in
theorem r_X8_two_0 {X : Nat → Int32} {d : Nat} (hd : 0 ≤ d) {v0 : Int32} {v1 : Int32} {v2 : Int32} {h : Hp} {o : (Int32 × Hp)} (hf : f_X8_two_0 v0 v1 v2 h = some o) : Run X d 147 0 [some (.int v0), some (.int v1), some (.int v2)] [] h (some (.int o.1), o.2) := by
  unfold f_X8_two_0 at hf
  refine rs_iload_n i_X8_two_0 rfl ?_
  by_cases c1 : v0 = 11
  · replace hf := (if_pos c1).symm.trans hf
    refine rs_tsw i_X8_two_1 (off := 43) (by rw [c1]; decide) (tg := 44) (by decide) ?_
    refine rs_iload_n i_X8_two_44 rfl ?_
    by_cases c12 : v1 ≠ 0
    · replace hf := (if_pos c12).symm.trans hf
      refine rs_ifT i_X8_two_45 (ct_ne c12) (tg := 52) (by decide) ?_
      exact r_X8_two_52 hd hf
    · replace hf := (if_neg c12).symm.trans hf
      refine rs_ifF i_X8_two_45 (cf_ne c12) ?_
      refine rs_iload_n i_X8_two_48 rfl ?_
      by_cases c13 : v2 = 0
      · replace hf := (if_pos c13).symm.trans hf
        refine rs_ifT i_X8_two_49 (ct_eq c13) (tg := 56) (by decide) ?_
        refine rs_iconst i_X8_two_56 (v := 0) (by decide) ?_
        have hf := Option.some.inj hf
        subst hf
        exact rs_iret i_X8_two_57 m_X8_two rfl
      · replace hf := (if_neg c13).symm.trans hf
        refine rs_ifF i_X8_two_49 (cf_eq c13) ?_
        exact r_X8_two_52 hd hf
  · replace hf := (if_neg c1).symm.trans hf
    by_cases c2 : v0 = 12
    · replace hf := (if_pos c2).symm.trans hf
      refine rs_tsw i_X8_two_1 (off := 57) (by rw [c2]; decide) (tg := 58) (by decide) ?_
      refine rs_iload_n i_X8_two_58 rfl ?_
      by_cases c10 : v1 = 0
      · replace hf := (if_pos c10).symm.trans hf
        refine rs_ifT i_X8_two_59 (ct_eq c10) (tg := 70) (by decide) ?_
        refine rs_iconst i_X8_two_70 (v := 0) (by decide) ?_
        have hf := Option.some.inj hf
        subst hf
        exact rs_iret i_X8_two_71 m_X8_two rfl
      · replace hf := (if_neg c10).symm.trans hf
        refine rs_ifF i_X8_two_59 (cf_eq c10) ?_
        refine rs_iload_n i_X8_two_62 rfl ?_
        by_cases c11 : v2 = 0
        · replace hf := (if_pos c11).symm.trans hf
          refine rs_ifT i_X8_two_63 (ct_eq c11) (tg := 70) (by decide) ?_
          refine rs_iconst i_X8_two_70 (v := 0) (by decide) ?_
          have hf := Option.some.inj hf
          subst hf
          exact rs_iret i_X8_two_71 m_X8_two rfl
        · replace hf := (if_neg c11).symm.trans hf
          refine rs_ifF i_X8_two_63 (cf_eq c11) ?_
          refine rs_iconst i_X8_two_66 (v := 1) (by decide) ?_
          refine rs_goto i_X8_two_67 (tg := 71) (by decide) ?_
          have hf := Option.some.inj hf
          subst hf
          exact rs_iret i_X8_two_71 m_X8_two rfl
    · replace hf := (if_neg c2).symm.trans hf
      by_cases c3 : v0 = 13
      · replace hf := (if_pos c3).symm.trans hf
        refine rs_tsw i_X8_two_1 (off := 101) (by rw [c3]; decide) (tg := 102) (by decide) ?_
        refine rs_iload_n i_X8_two_102 rfl ?_
        refine rs_iload_n i_X8_two_103 rfl ?_
        refine rs_imul i_X8_two_104 ?_
        have hf := Option.some.inj hf
        subst hf
        exact rs_iret i_X8_two_105 m_X8_two rfl
      · replace hf := (if_neg c3).symm.trans hf
        by_cases c4 : v0 = 14
        · replace hf := (if_pos c4).symm.trans hf
          refine rs_tsw i_X8_two_1 (off := 71) (by rw [c4]; decide) (tg := 72) (by decide) ?_
          refine rs_iload_n i_X8_two_72 rfl ?_
          refine rs_iload_n i_X8_two_73 rfl ?_
          by_cases c9 : v2 ≤ v1
          · replace hf := (if_pos c9).symm.trans hf
            refine rs_icT i_X8_two_74 (ct_ge c9) (tg := 81) (by decide) ?_
            refine rs_iconst i_X8_two_81 (v := 0) (by decide) ?_
            have hf := Option.some.inj hf
            subst hf
            exact rs_iret i_X8_two_82 m_X8_two rfl
          · replace hf := (if_neg c9).symm.trans hf
            refine rs_icF i_X8_two_74 (cf_ge c9) ?_
            refine rs_iconst i_X8_two_77 (v := 1) (by decide) ?_
            refine rs_goto i_X8_two_78 (tg := 82) (by decide) ?_
            have hf := Option.some.inj hf
            subst hf
            exact rs_iret i_X8_two_82 m_X8_two rfl
        · replace hf := (if_neg c4).symm.trans hf
          by_cases c5 : v0 = 15
          · replace hf := (if_pos c5).symm.trans hf
            refine rs_tsw i_X8_two_1 (off := 82) (by rw [c5]; decide) (tg := 83) (by decide) ?_
            refine rs_iload_n i_X8_two_83 rfl ?_
            refine rs_iload_n i_X8_two_84 rfl ?_
            by_cases c8 : v1 ≠ v2
            · replace hf := (if_pos c8).symm.trans hf
              refine rs_icT i_X8_two_85 (ct_ne c8) (tg := 92) (by decide) ?_
              refine rs_iconst i_X8_two_92 (v := 0) (by decide) ?_
              have hf := Option.some.inj hf
              subst hf
              exact rs_iret i_X8_two_93 m_X8_two rfl
            · replace hf := (if_neg c8).symm.trans hf
              refine rs_icF i_X8_two_85 (cf_ne c8) ?_
              refine rs_iconst i_X8_two_88 (v := 1) (by decide) ?_
              refine rs_goto i_X8_two_89 (tg := 93) (by decide) ?_
              have hf := Option.some.inj hf
              subst hf
              exact rs_iret i_X8_two_93 m_X8_two rfl
          · replace hf := (if_neg c5).symm.trans hf
            by_cases c6 : v0 = 16
            · replace hf := (if_pos c6).symm.trans hf
              refine rs_tsw i_X8_two_1 (off := 93) (by rw [c6]; decide) (tg := 94) (by decide) ?_
              refine rs_iload_n i_X8_two_94 rfl ?_
              refine rs_iload_n i_X8_two_95 rfl ?_
              refine rs_iadd i_X8_two_96 ?_
              have hf := Option.some.inj hf
              subst hf
              exact rs_iret i_X8_two_97 m_X8_two rfl
            · replace hf := (if_neg c6).symm.trans hf
              by_cases c7 : v0 = 17
              · replace hf := (if_pos c7).symm.trans hf
                refine rs_tsw i_X8_two_1 (off := 97) (by rw [c7]; decide) (tg := 98) (by decide) ?_
                refine rs_iload_n i_X8_two_98 rfl ?_
                refine rs_iload_n i_X8_two_99 rfl ?_
                refine rs_isub i_X8_two_100 ?_
                have hf := Option.some.inj hf
                subst hf
                exact rs_iret i_X8_two_101 m_X8_two rfl
              · replace hf := (if_neg c7).symm.trans hf
                refine rs_tsw i_X8_two_1 (off := 101) (swt_df (by have z0 := ne_ti c1; rw [show (11 : Int32).toInt = 11 from by decide] at z0; have z1 := ne_ti c2; rw [show (12 : Int32).toInt = 12 from by decide] at z1; have z2 := ne_ti c3; rw [show (13 : Int32).toInt = 13 from by decide] at z2; have z3 := ne_ti c4; rw [show (14 : Int32).toInt = 14 from by decide] at z3; have z4 := ne_ti c5; rw [show (15 : Int32).toInt = 15 from by decide] at z4; have z5 := ne_ti c6; rw [show (16 : Int32).toInt = 16 from by decide] at z5; have z6 := ne_ti c7; rw [show (17 : Int32).toInt = 17 from by decide] at z6; omega)) (tg := 102) (by decide) ?_
                refine rs_iload_n i_X8_two_102 rfl ?_
                refine rs_iload_n i_X8_two_103 rfl ?_
                refine rs_imul i_X8_two_104 ?_
                have hf := Option.some.inj hf
                subst hf
                exact rs_iret i_X8_two_105 m_X8_two rfl
def f_X8_two (v0 : Int32) (v1 : Int32) (v2 : Int32) (h : Hp) : Option (Int32 × Hp) := f_X8_two_0 v0 v1 v2 h
theorem c_X8_two {X : Nat → Int32} {d : Nat} (hd : 0 ≤ d) {v0 : Int32} {v1 : Int32} {v2 : Int32} {h : Hp} {o : (Int32 × Hp)} (hf : f_X8_two v0 v1 v2 h = some o) : Calls X d 147 [.int v0, .int v1, .int v2] h (some (.int o.1), o.2) := by
  exact ⟨_, rfl, r_X8_two_0 hd hf⟩
theorem i_X8_worth_0 : fetch 148 0 = some (.iconst 0, 1, 0, 0, 0, 0) := by decide +kernel
theorem i_X8_worth_1 : fetch 148 1 = some (.istore_n 2, 2, 0, 0, 0, 0) := by decide +kernel
theorem i_X8_worth_2 : fetch 148 2 = some (.aload_n 0, 3, 0, 0, 0, 0) := by decide +kernel
theorem i_X8_worth_3 : fetch 148 3 = some (.getfield 42, 6, 8, 12, 0, 1021) := by decide +kernel
theorem i_X8_worth_6 : fetch 148 6 = some (.iconst 4, 7, 0, 0, 0, 0) := by decide +kernel
theorem i_X8_worth_7 : fetch 148 7 = some (.aload_n 0, 8, 0, 0, 0, 0) := by decide +kernel
theorem i_X8_worth_8 : fetch 148 8 = some (.getfield 135, 11, 8, 14, 0, 1023) := by decide +kernel
theorem i_X8_worth_11 : fetch 148 11 = some (.imul, 12, 0, 0, 0, 0) := by decide +kernel
theorem i_X8_worth_12 : fetch 148 12 = some (.iload_n 1, 13, 0, 0, 0, 0) := by decide +kernel
theorem i_X8_worth_13 : fetch 148 13 = some (.iadd, 14, 0, 0, 0, 0) := by decide +kernel
theorem i_X8_worth_14 : fetch 148 14 = some (.iaload, 15, 0, 0, 0, 0) := by decide +kernel
theorem i_X8_worth_15 : fetch 148 15 = some (.istore_n 3, 16, 0, 0, 0, 0) := by decide +kernel
theorem i_X8_worth_16 : fetch 148 16 = some (.iload_n 3, 17, 0, 0, 0, 0) := by decide +kernel
theorem i_X8_worth_17 : fetch 148 17 = some (.aload_n 0, 18, 0, 0, 0, 0) := by decide +kernel
theorem i_X8_worth_18 : fetch 148 18 = some (.getfield 42, 21, 8, 12, 0, 1021) := by decide +kernel
theorem i_X8_worth_21 : fetch 148 21 = some (.iconst 4, 22, 0, 0, 0, 0) := by decide +kernel
theorem i_X8_worth_22 : fetch 148 22 = some (.aload_n 0, 23, 0, 0, 0, 0) := by decide +kernel
theorem i_X8_worth_23 : fetch 148 23 = some (.getfield 135, 26, 8, 14, 0, 1023) := by decide +kernel
theorem i_X8_worth_26 : fetch 148 26 = some (.imul, 27, 0, 0, 0, 0) := by decide +kernel
theorem i_X8_worth_27 : fetch 148 27 = some (.iload_n 1, 28, 0, 0, 0, 0) := by decide +kernel
theorem i_X8_worth_28 : fetch 148 28 = some (.iadd, 29, 0, 0, 0, 0) := by decide +kernel
theorem i_X8_worth_29 : fetch 148 29 = some (.iconst 1, 30, 0, 0, 0, 0) := by decide +kernel
theorem i_X8_worth_30 : fetch 148 30 = some (.iadd, 31, 0, 0, 0, 0) := by decide +kernel
theorem i_X8_worth_31 : fetch 148 31 = some (.iaload, 32, 0, 0, 0, 0) := by decide +kernel
theorem i_X8_worth_32 : fetch 148 32 = some (.if_icmp .ge 165, 35, 0, 0, 0, 0) := by decide +kernel
theorem i_X8_worth_35 : fetch 148 35 = some (.aload_n 0, 36, 0, 0, 0, 0) := by decide +kernel
theorem i_X8_worth_36 : fetch 148 36 = some (.getfield 39, 39, 8, 11, 0, 1020) := by decide +kernel
theorem i_X8_worth_39 : fetch 148 39 = some (.sipush 200, 42, 0, 0, 0, 0) := by decide +kernel
theorem i_X8_worth_42 : fetch 148 42 = some (.aload_n 0, 43, 0, 0, 0, 0) := by decide +kernel
theorem i_X8_worth_43 : fetch 148 43 = some (.getfield 135, 46, 8, 14, 0, 1023) := by decide +kernel
theorem i_X8_worth_46 : fetch 148 46 = some (.imul, 47, 0, 0, 0, 0) := by decide +kernel
theorem i_X8_worth_47 : fetch 148 47 = some (.iload_n 3, 48, 0, 0, 0, 0) := by decide +kernel
theorem i_X8_worth_48 : fetch 148 48 = some (.iadd, 49, 0, 0, 0, 0) := by decide +kernel
theorem i_X8_worth_49 : fetch 148 49 = some (.iaload, 50, 0, 0, 0, 0) := by decide +kernel
theorem i_X8_worth_50 : fetch 148 50 = some (.istore 4, 52, 0, 0, 0, 0) := by decide +kernel
theorem i_X8_worth_52 : fetch 148 52 = some (.iload 4, 54, 0, 0, 0, 0) := by decide +kernel
theorem i_X8_worth_54 : fetch 148 54 = some (.ldc 181, 56, 0, 0, 100000, 981) := by decide +kernel
theorem i_X8_worth_56 : fetch 148 56 = some (.if_icmp .ge 10, 59, 0, 0, 0, 0) := by decide +kernel
theorem i_X8_worth_59 : fetch 148 59 = some (.iload 4, 61, 0, 0, 0, 0) := by decide +kernel
theorem i_X8_worth_61 : fetch 148 61 = some (.bipush 11, 63, 0, 0, 0, 0) := by decide +kernel
theorem i_X8_worth_63 : fetch 148 63 = some (.if_icmp .ge 37, 66, 0, 0, 0, 0) := by decide +kernel
theorem i_X8_worth_66 : fetch 148 66 = some (.aload_n 0, 67, 0, 0, 0, 0) := by decide +kernel
theorem i_X8_worth_67 : fetch 148 67 = some (.getfield 69, 70, 8, 35, 0, 1044) := by decide +kernel
theorem i_X8_worth_70 : fetch 148 70 = some (.iload_n 2, 71, 0, 0, 0, 0) := by decide +kernel
theorem i_X8_worth_71 : fetch 148 71 = some (.iload 4, 73, 0, 0, 0, 0) := by decide +kernel
theorem i_X8_worth_73 : fetch 148 73 = some (.bipush 11, 75, 0, 0, 0, 0) := by decide +kernel
theorem i_X8_worth_75 : fetch 148 75 = some (.if_icmp .ge 13, 78, 0, 0, 0, 0) := by decide +kernel
theorem i_X8_worth_78 : fetch 148 78 = some (.aload_n 0, 79, 0, 0, 0, 0) := by decide +kernel
theorem i_X8_worth_79 : fetch 148 79 = some (.getfield 72, 82, 8, 36, 0, 1045) := by decide +kernel
theorem i_X8_worth_82 : fetch 148 82 = some (.iload 4, 84, 0, 0, 0, 0) := by decide +kernel
theorem i_X8_worth_84 : fetch 148 84 = some (.iaload, 85, 0, 0, 0, 0) := by decide +kernel
theorem i_X8_worth_85 : fetch 148 85 = some (.goto 8, 88, 0, 0, 0, 0) := by decide +kernel
theorem i_X8_worth_88 : fetch 148 88 = some (.iload 4, 90, 0, 0, 0, 0) := by decide +kernel
theorem i_X8_worth_90 : fetch 148 90 = some (.ldc 181, 92, 0, 0, 100000, 981) := by decide +kernel
theorem i_X8_worth_92 : fetch 148 92 = some (.isub, 93, 0, 0, 0, 0) := by decide +kernel
theorem i_X8_worth_93 : fetch 148 93 = some (.iastore, 94, 0, 0, 0, 0) := by decide +kernel
theorem i_X8_worth_94 : fetch 148 94 = some (.iinc 2 1, 97, 0, 0, 0, 0) := by decide +kernel
theorem i_X8_worth_97 : fetch 148 97 = some (.goto 94, 100, 0, 0, 0, 0) := by decide +kernel
theorem i_X8_worth_100 : fetch 148 100 = some (.iload 4, 102, 0, 0, 0, 0) := by decide +kernel
theorem i_X8_worth_102 : fetch 148 102 = some (.bipush 13, 104, 0, 0, 0, 0) := by decide +kernel
theorem i_X8_worth_104 : fetch 148 104 = some (.if_icmp .ne 30, 107, 0, 0, 0, 0) := by decide +kernel
theorem i_X8_worth_107 : fetch 148 107 = some (.aload_n 0, 108, 0, 0, 0, 0) := by decide +kernel
theorem i_X8_worth_108 : fetch 148 108 = some (.getfield 69, 111, 8, 35, 0, 1044) := by decide +kernel
theorem i_X8_worth_111 : fetch 148 111 = some (.iload_n 2, 112, 0, 0, 0, 0) := by decide +kernel
theorem i_X8_worth_112 : fetch 148 112 = some (.iconst 1, 113, 0, 0, 0, 0) := by decide +kernel
theorem i_X8_worth_113 : fetch 148 113 = some (.isub, 114, 0, 0, 0, 0) := by decide +kernel
theorem i_X8_worth_114 : fetch 148 114 = some (.aload_n 0, 115, 0, 0, 0, 0) := by decide +kernel
theorem i_X8_worth_115 : fetch 148 115 = some (.getfield 69, 118, 8, 35, 0, 1044) := by decide +kernel
theorem i_X8_worth_118 : fetch 148 118 = some (.iload_n 2, 119, 0, 0, 0, 0) := by decide +kernel
theorem i_X8_worth_119 : fetch 148 119 = some (.iconst 1, 120, 0, 0, 0, 0) := by decide +kernel
theorem i_X8_worth_120 : fetch 148 120 = some (.isub, 121, 0, 0, 0, 0) := by decide +kernel
theorem i_X8_worth_121 : fetch 148 121 = some (.iaload, 122, 0, 0, 0, 0) := by decide +kernel
theorem i_X8_worth_122 : fetch 148 122 = some (.ifCond .ne 7, 125, 0, 0, 0, 0) := by decide +kernel
theorem i_X8_worth_125 : fetch 148 125 = some (.iconst 1, 126, 0, 0, 0, 0) := by decide +kernel
theorem i_X8_worth_126 : fetch 148 126 = some (.goto 4, 129, 0, 0, 0, 0) := by decide +kernel
theorem i_X8_worth_129 : fetch 148 129 = some (.iconst 0, 130, 0, 0, 0, 0) := by decide +kernel
theorem i_X8_worth_130 : fetch 148 130 = some (.iastore, 131, 0, 0, 0, 0) := by decide +kernel
theorem i_X8_worth_131 : fetch 148 131 = some (.goto 60, 134, 0, 0, 0, 0) := by decide +kernel
theorem i_X8_worth_134 : fetch 148 134 = some (.iload 4, 136, 0, 0, 0, 0) := by decide +kernel
theorem i_X8_worth_136 : fetch 148 136 = some (.bipush 19, 138, 0, 0, 0, 0) := by decide +kernel
theorem i_X8_worth_138 : fetch 148 138 = some (.if_icmp .ne 23, 141, 0, 0, 0, 0) := by decide +kernel
theorem i_X8_worth_141 : fetch 148 141 = some (.aload_n 0, 142, 0, 0, 0, 0) := by decide +kernel
theorem i_X8_worth_142 : fetch 148 142 = some (.getfield 69, 145, 8, 35, 0, 1044) := by decide +kernel
theorem i_X8_worth_145 : fetch 148 145 = some (.iload_n 2, 146, 0, 0, 0, 0) := by decide +kernel
theorem i_X8_worth_146 : fetch 148 146 = some (.iconst 1, 147, 0, 0, 0, 0) := by decide +kernel
theorem i_X8_worth_147 : fetch 148 147 = some (.isub, 148, 0, 0, 0, 0) := by decide +kernel
theorem i_X8_worth_148 : fetch 148 148 = some (.aload_n 0, 149, 0, 0, 0, 0) := by decide +kernel
theorem i_X8_worth_149 : fetch 148 149 = some (.getfield 69, 152, 8, 35, 0, 1044) := by decide +kernel
theorem i_X8_worth_152 : fetch 148 152 = some (.iload_n 2, 153, 0, 0, 0, 0) := by decide +kernel
theorem i_X8_worth_153 : fetch 148 153 = some (.iconst 1, 154, 0, 0, 0, 0) := by decide +kernel
theorem i_X8_worth_154 : fetch 148 154 = some (.isub, 155, 0, 0, 0, 0) := by decide +kernel
theorem i_X8_worth_155 : fetch 148 155 = some (.iaload, 156, 0, 0, 0, 0) := by decide +kernel
theorem i_X8_worth_156 : fetch 148 156 = some (.ineg, 157, 0, 0, 0, 0) := by decide +kernel
theorem i_X8_worth_157 : fetch 148 157 = some (.iastore, 158, 0, 0, 0, 0) := by decide +kernel
theorem i_X8_worth_158 : fetch 148 158 = some (.goto 33, 161, 0, 0, 0, 0) := by decide +kernel
theorem i_X8_worth_161 : fetch 148 161 = some (.iinc 2 (-1), 164, 0, 0, 0, 0) := by decide +kernel
theorem i_X8_worth_164 : fetch 148 164 = some (.aload_n 0, 165, 0, 0, 0, 0) := by decide +kernel
theorem i_X8_worth_165 : fetch 148 165 = some (.getfield 69, 168, 8, 35, 0, 1044) := by decide +kernel
theorem i_X8_worth_168 : fetch 148 168 = some (.iload_n 2, 169, 0, 0, 0, 0) := by decide +kernel
theorem i_X8_worth_169 : fetch 148 169 = some (.iconst 1, 170, 0, 0, 0, 0) := by decide +kernel
theorem i_X8_worth_170 : fetch 148 170 = some (.isub, 171, 0, 0, 0, 0) := by decide +kernel
theorem i_X8_worth_171 : fetch 148 171 = some (.iload 4, 173, 0, 0, 0, 0) := by decide +kernel
theorem i_X8_worth_173 : fetch 148 173 = some (.aload_n 0, 174, 0, 0, 0, 0) := by decide +kernel
theorem i_X8_worth_174 : fetch 148 174 = some (.getfield 69, 177, 8, 35, 0, 1044) := by decide +kernel
theorem i_X8_worth_177 : fetch 148 177 = some (.iload_n 2, 178, 0, 0, 0, 0) := by decide +kernel
theorem i_X8_worth_178 : fetch 148 178 = some (.iconst 1, 179, 0, 0, 0, 0) := by decide +kernel
theorem i_X8_worth_179 : fetch 148 179 = some (.isub, 180, 0, 0, 0, 0) := by decide +kernel
theorem i_X8_worth_180 : fetch 148 180 = some (.iaload, 181, 0, 0, 0, 0) := by decide +kernel
theorem i_X8_worth_181 : fetch 148 181 = some (.aload_n 0, 182, 0, 0, 0, 0) := by decide +kernel
theorem i_X8_worth_182 : fetch 148 182 = some (.getfield 69, 185, 8, 35, 0, 1044) := by decide +kernel
theorem i_X8_worth_185 : fetch 148 185 = some (.iload_n 2, 186, 0, 0, 0, 0) := by decide +kernel
theorem i_X8_worth_186 : fetch 148 186 = some (.iaload, 187, 0, 0, 0, 0) := by decide +kernel
theorem i_X8_worth_187 : fetch 148 187 = some (.invokestatic 195, 190, 147, 0, 0, 1264) := by decide +kernel
theorem i_X8_worth_190 : fetch 148 190 = some (.iastore, 191, 0, 0, 0, 0) := by decide +kernel
theorem i_X8_worth_191 : fetch 148 191 = some (.iinc 3 1, 194, 0, 0, 0, 0) := by decide +kernel
theorem i_X8_worth_194 : fetch 148 194 = some (.goto (-178), 197, 0, 0, 0, 0) := by decide +kernel
theorem i_X8_worth_197 : fetch 148 197 = some (.aload_n 0, 198, 0, 0, 0, 0) := by decide +kernel
theorem i_X8_worth_198 : fetch 148 198 = some (.getfield 69, 201, 8, 35, 0, 1044) := by decide +kernel
theorem i_X8_worth_201 : fetch 148 201 = some (.iconst 0, 202, 0, 0, 0, 0) := by decide +kernel
theorem i_X8_worth_202 : fetch 148 202 = some (.iaload, 203, 0, 0, 0, 0) := by decide +kernel
theorem i_X8_worth_203 : fetch 148 203 = some (.ireturn, 204, 0, 0, 0, 0) := by decide +kernel
def f_X8_worth_191 (n : Nat) (K16 : Nat → Int32 → Int32 → Int32 → Hp → Option (Int32 × Hp)) (v0 : Nat) (v1 : Int32) (v2 : Int32) (v3 : Int32) (h : Hp) : Option (Int32 × Hp) :=
  K16 v0 v1 v2 (v3 + 1) h
set_option maxRecDepth 100000 in
set_option maxHeartbeats 4000000 in
theorem r_X8_worth_191 {X : Nat → Int32} {d : Nat} (hd : 1 ≤ (d + 1)) {n : Nat} {K16 : Nat → Int32 → Int32 → Int32 → Hp → Option (Int32 × Hp)} (HK16 : ∀ (v0 : Nat) (v1 : Int32) (v2 : Int32) (v3 : Int32) (w4 : Option Value) (h : Hp) (o : (Int32 × Hp)), K16 v0 v1 v2 v3 h = some o → Run X (d + 1) 148 16 [some (.ref v0), some (.int v1), some (.int v2), some (.int v3), w4] [] h (some (.int o.1), o.2)) {v0 : Nat} {v1 : Int32} {v2 : Int32} {v3 : Int32} {d4 : Int32} {h : Hp} {o : (Int32 × Hp)} (hf : f_X8_worth_191 n K16 v0 v1 v2 v3 h = some o) : Run X (d + 1) 148 191 [some (.ref v0), some (.int v1), some (.int v2), some (.int v3), some (.int d4)] [] h (some (.int o.1), o.2) := by
  unfold f_X8_worth_191 at hf
  refine rs_iinc i_X8_worth_191 rfl (v := v3 + 1) rfl (Nat.le_of_ble_eq_true rfl) (lv' := [some (.ref v0), some (.int v1), some (.int v2), some (.int (v3 + 1)), some (.int d4)]) rfl ?_
  refine rs_goto i_X8_worth_194 (tg := 16) (by decide) ?_
  exact HK16 _ _ _ _ _ _ _ hf
def f_X8_worth_130 (n : Nat) (K16 : Nat → Int32 → Int32 → Int32 → Hp → Option (Int32 × Hp)) (v0 : Nat) (v1 : Int32) (v2 : Int32) (v3 : Int32) (s0 : Nat) (s1 : Int32) (s2 : Int32) (h : Hp) : Option (Int32 × Hp) :=
  if okI h s0 s1 then
  f_X8_worth_191 n K16 v0 v1 v2 v3 (hsi h s0 (ix s1) s2)
  else none
set_option maxRecDepth 100000 in
set_option maxHeartbeats 4000000 in
theorem r_X8_worth_130 {X : Nat → Int32} {d : Nat} (hd : 1 ≤ (d + 1)) {n : Nat} {K16 : Nat → Int32 → Int32 → Int32 → Hp → Option (Int32 × Hp)} (HK16 : ∀ (v0 : Nat) (v1 : Int32) (v2 : Int32) (v3 : Int32) (w4 : Option Value) (h : Hp) (o : (Int32 × Hp)), K16 v0 v1 v2 v3 h = some o → Run X (d + 1) 148 16 [some (.ref v0), some (.int v1), some (.int v2), some (.int v3), w4] [] h (some (.int o.1), o.2)) {v0 : Nat} {v1 : Int32} {v2 : Int32} {v3 : Int32} {s0 : Nat} {s1 : Int32} {s2 : Int32} {d4 : Int32} {h : Hp} {o : (Int32 × Hp)} (hf : f_X8_worth_130 n K16 v0 v1 v2 v3 s0 s1 s2 h = some o) : Run X (d + 1) 148 130 [some (.ref v0), some (.int v1), some (.int v2), some (.int v3), some (.int d4)] [.int s2, .int s1, .ref s0] h (some (.int o.1), o.2) := by
  unfold f_X8_worth_130 at hf
  obtain ⟨c1, hf⟩ := ite_some hf
  refine rs_iast i_X8_worth_130 c1 ?_
  refine rs_goto i_X8_worth_131 (tg := 191) (by decide) ?_
  exact r_X8_worth_191 hd HK16 hf
def f_X8_worth_93 (n : Nat) (K16 : Nat → Int32 → Int32 → Int32 → Hp → Option (Int32 × Hp)) (v0 : Nat) (v1 : Int32) (v2 : Int32) (v3 : Int32) (s0 : Nat) (s1 : Int32) (s2 : Int32) (h : Hp) : Option (Int32 × Hp) :=
  if okI h s0 s1 then
  f_X8_worth_191 n K16 v0 v1 (v2 + 1) v3 (hsi h s0 (ix s1) s2)
  else none
set_option maxRecDepth 100000 in
set_option maxHeartbeats 4000000 in
theorem r_X8_worth_93 {X : Nat → Int32} {d : Nat} (hd : 1 ≤ (d + 1)) {n : Nat} {K16 : Nat → Int32 → Int32 → Int32 → Hp → Option (Int32 × Hp)} (HK16 : ∀ (v0 : Nat) (v1 : Int32) (v2 : Int32) (v3 : Int32) (w4 : Option Value) (h : Hp) (o : (Int32 × Hp)), K16 v0 v1 v2 v3 h = some o → Run X (d + 1) 148 16 [some (.ref v0), some (.int v1), some (.int v2), some (.int v3), w4] [] h (some (.int o.1), o.2)) {v0 : Nat} {v1 : Int32} {v2 : Int32} {v3 : Int32} {s0 : Nat} {s1 : Int32} {s2 : Int32} {d4 : Int32} {h : Hp} {o : (Int32 × Hp)} (hf : f_X8_worth_93 n K16 v0 v1 v2 v3 s0 s1 s2 h = some o) : Run X (d + 1) 148 93 [some (.ref v0), some (.int v1), some (.int v2), some (.int v3), some (.int d4)] [.int s2, .int s1, .ref s0] h (some (.int o.1), o.2) := by
  unfold f_X8_worth_93 at hf
  obtain ⟨c1, hf⟩ := ite_some hf
  refine rs_iast i_X8_worth_93 c1 ?_
  refine rs_iinc i_X8_worth_94 rfl (v := v2 + 1) rfl (Nat.le_of_ble_eq_true rfl) (lv' := [some (.ref v0), some (.int v1), some (.int (v2 + 1)), some (.int v3), some (.int d4)]) rfl ?_
  refine rs_goto i_X8_worth_97 (tg := 191) (by decide) ?_
  exact r_X8_worth_191 hd HK16 hf
def f_X8_worth_66 (n : Nat) (K16 : Nat → Int32 → Int32 → Int32 → Hp → Option (Int32 × Hp)) (v0 : Nat) (v1 : Int32) (v2 : Int32) (v3 : Int32) (v4 : Int32) (h : Hp) : Option (Int32 × Hp) :=
  if okO h v0 8 then
  (gR h v0 35).bind fun a2 =>
  if 11 ≤ v4 then
    f_X8_worth_93 n K16 v0 v1 v2 v3 a2 v2 (v4 - 100000) h
  else
    (gR h v0 36).bind fun a4 =>
    if okI h a4 v4 then
    f_X8_worth_93 n K16 v0 v1 v2 v3 a2 v2 (gI h a4 (ix v4)) h
    else none
  else none
set_option maxRecDepth 100000 in
set_option maxHeartbeats 4000000 in
theorem r_X8_worth_66 {X : Nat → Int32} {d : Nat} (hd : 1 ≤ (d + 1)) {n : Nat} {K16 : Nat → Int32 → Int32 → Int32 → Hp → Option (Int32 × Hp)} (HK16 : ∀ (v0 : Nat) (v1 : Int32) (v2 : Int32) (v3 : Int32) (w4 : Option Value) (h : Hp) (o : (Int32 × Hp)), K16 v0 v1 v2 v3 h = some o → Run X (d + 1) 148 16 [some (.ref v0), some (.int v1), some (.int v2), some (.int v3), w4] [] h (some (.int o.1), o.2)) {v0 : Nat} {v1 : Int32} {v2 : Int32} {v3 : Int32} {v4 : Int32} {h : Hp} {o : (Int32 × Hp)} (hf : f_X8_worth_66 n K16 v0 v1 v2 v3 v4 h = some o) : Run X (d + 1) 148 66 [some (.ref v0), some (.int v1), some (.int v2), some (.int v3), some (.int v4)] [] h (some (.int o.1), o.2) := by
  unfold f_X8_worth_66 at hf
  refine rs_aload_n i_X8_worth_66 rfl ?_
  obtain ⟨c1, hf⟩ := ite_some hf
  obtain ⟨a2, e2, hf⟩ := bind_some hf
  refine rs_getR i_X8_worth_67 (by decide) (by decide) c1 e2 ?_
  refine rs_iload_n i_X8_worth_70 rfl ?_
  refine rs_iload i_X8_worth_71 rfl ?_
  refine rs_bipush i_X8_worth_73 (v := 11) (by decide) ?_
  by_cases c3 : 11 ≤ v4
  · replace hf := (if_pos c3).symm.trans hf
    refine rs_icT i_X8_worth_75 (ct_ge c3) (tg := 88) (by decide) ?_
    refine rs_iload i_X8_worth_88 rfl ?_
    refine rs_ldc i_X8_worth_90 (v := 100000) (by decide) ?_
    refine rs_isub i_X8_worth_92 ?_
    exact r_X8_worth_93 hd HK16 hf
  · replace hf := (if_neg c3).symm.trans hf
    refine rs_icF i_X8_worth_75 (cf_ge c3) ?_
    refine rs_aload_n i_X8_worth_78 rfl ?_
    obtain ⟨a4, e4, hf⟩ := bind_some hf
    refine rs_getR i_X8_worth_79 (by decide) (by decide) c1 e4 ?_
    refine rs_iload i_X8_worth_82 rfl ?_
    obtain ⟨c5, hf⟩ := ite_some hf
    refine rs_iald i_X8_worth_84 c5 ?_
    refine rs_goto i_X8_worth_85 (tg := 93) (by decide) ?_
    exact r_X8_worth_93 hd HK16 hf
def f_X8_worth_16 (n : Nat) : Nat → Nat → Int32 → Int32 → Int32 → Hp → Option (Int32 × Hp)
  | 0, _, _, _, _, _ => none
  | m + 1, v0, v1, v2, v3, h =>
    if okO h v0 8 then
    (gR h v0 12).bind fun a2 =>
    if okI h a2 (((4 * (gI h v0 14)) + v1) + 1) then
    if (gI h a2 (ix (((4 * (gI h v0 14)) + v1) + 1))) ≤ v3 then
      (gR h v0 35).bind fun a5 =>
      if okI h a5 0 then
      some ((gI h a5 (ix 0)), h)
      else none
    else
      (gR h v0 11).bind fun a7 =>
      if okI h a7 ((200 * (gI h v0 14)) + v3) then
      if 100000 ≤ (gI h a7 (ix ((200 * (gI h v0 14)) + v3))) then
        f_X8_worth_66 n (f_X8_worth_16 n m) v0 v1 v2 v3 (gI h a7 (ix ((200 * (gI h v0 14)) + v3))) h
      else
        if 11 ≤ (gI h a7 (ix ((200 * (gI h v0 14)) + v3))) then
          if (gI h a7 (ix ((200 * (gI h v0 14)) + v3))) ≠ 13 then
            if (gI h a7 (ix ((200 * (gI h v0 14)) + v3))) ≠ 19 then
              (gR h v0 35).bind fun a13 =>
              if okI h a13 ((v2 + (-1)) - 1) then
              if okI h a13 (v2 + (-1)) then
              (f_X8_two (gI h a7 (ix ((200 * (gI h v0 14)) + v3))) (gI h a13 (ix ((v2 + (-1)) - 1))) (gI h a13 (ix (v2 + (-1)))) h).bind fun o16 =>
              if okI o16.2 a13 ((v2 + (-1)) - 1) then
              f_X8_worth_191 n (f_X8_worth_16 n m) v0 v1 (v2 + (-1)) v3 (hsi o16.2 a13 (ix ((v2 + (-1)) - 1)) o16.1)
              else none
              else none
              else none
            else
              (gR h v0 35).bind fun a18 =>
              if okI h a18 (v2 - 1) then
              f_X8_worth_191 n (f_X8_worth_16 n m) v0 v1 v2 v3 (hsi h a18 (ix (v2 - 1)) (-(gI h a18 (ix (v2 - 1)))))
              else none
          else
            (gR h v0 35).bind fun a20 =>
            if okI h a20 (v2 - 1) then
            if (gI h a20 (ix (v2 - 1))) ≠ 0 then
              f_X8_worth_130 n (f_X8_worth_16 n m) v0 v1 v2 v3 a20 (v2 - 1) 0 h
            else
              f_X8_worth_130 n (f_X8_worth_16 n m) v0 v1 v2 v3 a20 (v2 - 1) 1 h
            else none
        else
          f_X8_worth_66 n (f_X8_worth_16 n m) v0 v1 v2 v3 (gI h a7 (ix ((200 * (gI h v0 14)) + v3))) h
      else none
    else none
    else none
set_option maxRecDepth 100000 in
set_option maxHeartbeats 4000000 in
theorem r_X8_worth_16 {X : Nat → Int32} {d : Nat} (hd : 1 ≤ (d + 1)) {n : Nat} : ∀ (m : Nat) (v0 : Nat) (v1 : Int32) (v2 : Int32) (v3 : Int32) (w4 : Option Value) (h : Hp) (o : (Int32 × Hp)), f_X8_worth_16 n m v0 v1 v2 v3 h = some o → Run X (d + 1) 148 16 [some (.ref v0), some (.int v1), some (.int v2), some (.int v3), w4] [] h (some (.int o.1), o.2) := by
  intro m
  induction m with
  | zero => intro v0 v1 v2 v3 w4 h o hf; cases hf
  | succ m ih =>
    intro v0 v1 v2 v3 w4 h o hf
    rw [f_X8_worth_16] at hf
    refine rs_iload_n i_X8_worth_16 rfl ?_
    refine rs_aload_n i_X8_worth_17 rfl ?_
    obtain ⟨c1, hf⟩ := ite_some hf
    obtain ⟨a2, e2, hf⟩ := bind_some hf
    refine rs_getR i_X8_worth_18 (by decide) (by decide) c1 e2 ?_
    refine rs_iconst i_X8_worth_21 (v := 4) (by decide) ?_
    refine rs_aload_n i_X8_worth_22 rfl ?_
    refine rs_getI i_X8_worth_23 (by decide) (by decide) c1 ?_
    refine rs_imul i_X8_worth_26 ?_
    refine rs_iload_n i_X8_worth_27 rfl ?_
    refine rs_iadd i_X8_worth_28 ?_
    refine rs_iconst i_X8_worth_29 (v := 1) (by decide) ?_
    refine rs_iadd i_X8_worth_30 ?_
    obtain ⟨c3, hf⟩ := ite_some hf
    refine rs_iald i_X8_worth_31 c3 ?_
    by_cases c4 : (gI h a2 (ix (((4 * (gI h v0 14)) + v1) + 1))) ≤ v3
    · replace hf := (if_pos c4).symm.trans hf
      refine rs_icT i_X8_worth_32 (ct_ge c4) (tg := 197) (by decide) ?_
      refine rs_aload_n i_X8_worth_197 rfl ?_
      obtain ⟨a5, e5, hf⟩ := bind_some hf
      refine rs_getR i_X8_worth_198 (by decide) (by decide) c1 e5 ?_
      refine rs_iconst i_X8_worth_201 (v := 0) (by decide) ?_
      obtain ⟨c6, hf⟩ := ite_some hf
      refine rs_iald i_X8_worth_202 c6 ?_
      have hf := Option.some.inj hf
      subst hf
      exact rs_iret i_X8_worth_203 m_X8_worth rfl
    · replace hf := (if_neg c4).symm.trans hf
      refine rs_icF i_X8_worth_32 (cf_ge c4) ?_
      refine rs_aload_n i_X8_worth_35 rfl ?_
      obtain ⟨a7, e7, hf⟩ := bind_some hf
      refine rs_getR i_X8_worth_36 (by decide) (by decide) c1 e7 ?_
      refine rs_sipush i_X8_worth_39 (v := 200) (by decide) ?_
      refine rs_aload_n i_X8_worth_42 rfl ?_
      refine rs_getI i_X8_worth_43 (by decide) (by decide) c1 ?_
      refine rs_imul i_X8_worth_46 ?_
      refine rs_iload_n i_X8_worth_47 rfl ?_
      refine rs_iadd i_X8_worth_48 ?_
      obtain ⟨c8, hf⟩ := ite_some hf
      refine rs_iald i_X8_worth_49 c8 ?_
      refine rs_istore i_X8_worth_50 (Nat.le_of_ble_eq_true rfl) (lv' := [some (.ref v0), some (.int v1), some (.int v2), some (.int v3), some (.int (gI h a7 (ix ((200 * (gI h v0 14)) + v3))))]) rfl ?_
      refine rs_iload i_X8_worth_52 rfl ?_
      refine rs_ldc i_X8_worth_54 (v := 100000) (by decide) ?_
      by_cases c9 : 100000 ≤ (gI h a7 (ix ((200 * (gI h v0 14)) + v3)))
      · replace hf := (if_pos c9).symm.trans hf
        refine rs_icT i_X8_worth_56 (ct_ge c9) (tg := 66) (by decide) ?_
        exact r_X8_worth_66 hd ih hf
      · replace hf := (if_neg c9).symm.trans hf
        refine rs_icF i_X8_worth_56 (cf_ge c9) ?_
        refine rs_iload i_X8_worth_59 rfl ?_
        refine rs_bipush i_X8_worth_61 (v := 11) (by decide) ?_
        by_cases c10 : 11 ≤ (gI h a7 (ix ((200 * (gI h v0 14)) + v3)))
        · replace hf := (if_pos c10).symm.trans hf
          refine rs_icT i_X8_worth_63 (ct_ge c10) (tg := 100) (by decide) ?_
          refine rs_iload i_X8_worth_100 rfl ?_
          refine rs_bipush i_X8_worth_102 (v := 13) (by decide) ?_
          by_cases c11 : (gI h a7 (ix ((200 * (gI h v0 14)) + v3))) ≠ 13
          · replace hf := (if_pos c11).symm.trans hf
            refine rs_icT i_X8_worth_104 (ct_ne c11) (tg := 134) (by decide) ?_
            refine rs_iload i_X8_worth_134 rfl ?_
            refine rs_bipush i_X8_worth_136 (v := 19) (by decide) ?_
            by_cases c12 : (gI h a7 (ix ((200 * (gI h v0 14)) + v3))) ≠ 19
            · replace hf := (if_pos c12).symm.trans hf
              refine rs_icT i_X8_worth_138 (ct_ne c12) (tg := 161) (by decide) ?_
              refine rs_iinc i_X8_worth_161 rfl (v := v2 + (-1)) rfl (Nat.le_of_ble_eq_true rfl) (lv' := [some (.ref v0), some (.int v1), some (.int (v2 + (-1))), some (.int v3), some (.int (gI h a7 (ix ((200 * (gI h v0 14)) + v3))))]) rfl ?_
              refine rs_aload_n i_X8_worth_164 rfl ?_
              obtain ⟨a13, e13, hf⟩ := bind_some hf
              refine rs_getR i_X8_worth_165 (by decide) (by decide) c1 e13 ?_
              refine rs_iload_n i_X8_worth_168 rfl ?_
              refine rs_iconst i_X8_worth_169 (v := 1) (by decide) ?_
              refine rs_isub i_X8_worth_170 ?_
              refine rs_iload i_X8_worth_171 rfl ?_
              refine rs_aload_n i_X8_worth_173 rfl ?_
              refine rs_getR i_X8_worth_174 (by decide) (by decide) c1 e13 ?_
              refine rs_iload_n i_X8_worth_177 rfl ?_
              refine rs_iconst i_X8_worth_178 (v := 1) (by decide) ?_
              refine rs_isub i_X8_worth_179 ?_
              obtain ⟨c14, hf⟩ := ite_some hf
              refine rs_iald i_X8_worth_180 c14 ?_
              refine rs_aload_n i_X8_worth_181 rfl ?_
              refine rs_getR i_X8_worth_182 (by decide) (by decide) c1 e13 ?_
              refine rs_iload_n i_X8_worth_185 rfl ?_
              obtain ⟨c15, hf⟩ := ite_some hf
              refine rs_iald i_X8_worth_186 c15 ?_
              obtain ⟨o16, e16, hf⟩ := bind_some hf
              refine rs_inS i_X8_worth_187 (by decide) m_X8_two rfl (As := [.int (gI h a7 (ix ((200 * (gI h v0 14)) + v3))), .int (gI h a13 (ix ((v2 + (-1)) - 1))), .int (gI h a13 (ix (v2 + (-1))))]) (rest := [.int ((v2 + (-1)) - 1), .ref a13]) rfl rfl (Nat.le_of_ble_eq_true rfl) (c_X8_two (by omega) e16) (st' := [.int o16.1, .int ((v2 + (-1)) - 1), .ref a13]) rfl ?_
              obtain ⟨c17, hf⟩ := ite_some hf
              refine rs_iast i_X8_worth_190 c17 ?_
              exact r_X8_worth_191 hd ih hf
            · replace hf := (if_neg c12).symm.trans hf
              refine rs_icF i_X8_worth_138 (cf_ne c12) ?_
              refine rs_aload_n i_X8_worth_141 rfl ?_
              obtain ⟨a18, e18, hf⟩ := bind_some hf
              refine rs_getR i_X8_worth_142 (by decide) (by decide) c1 e18 ?_
              refine rs_iload_n i_X8_worth_145 rfl ?_
              refine rs_iconst i_X8_worth_146 (v := 1) (by decide) ?_
              refine rs_isub i_X8_worth_147 ?_
              refine rs_aload_n i_X8_worth_148 rfl ?_
              refine rs_getR i_X8_worth_149 (by decide) (by decide) c1 e18 ?_
              refine rs_iload_n i_X8_worth_152 rfl ?_
              refine rs_iconst i_X8_worth_153 (v := 1) (by decide) ?_
              refine rs_isub i_X8_worth_154 ?_
              obtain ⟨c19, hf⟩ := ite_some hf
              refine rs_iald i_X8_worth_155 c19 ?_
              refine rs_ineg i_X8_worth_156 ?_
              refine rs_iast i_X8_worth_157 c19 ?_
              refine rs_goto i_X8_worth_158 (tg := 191) (by decide) ?_
              exact r_X8_worth_191 hd ih hf
          · replace hf := (if_neg c11).symm.trans hf
            refine rs_icF i_X8_worth_104 (cf_ne c11) ?_
            refine rs_aload_n i_X8_worth_107 rfl ?_
            obtain ⟨a20, e20, hf⟩ := bind_some hf
            refine rs_getR i_X8_worth_108 (by decide) (by decide) c1 e20 ?_
            refine rs_iload_n i_X8_worth_111 rfl ?_
            refine rs_iconst i_X8_worth_112 (v := 1) (by decide) ?_
            refine rs_isub i_X8_worth_113 ?_
            refine rs_aload_n i_X8_worth_114 rfl ?_
            refine rs_getR i_X8_worth_115 (by decide) (by decide) c1 e20 ?_
            refine rs_iload_n i_X8_worth_118 rfl ?_
            refine rs_iconst i_X8_worth_119 (v := 1) (by decide) ?_
            refine rs_isub i_X8_worth_120 ?_
            obtain ⟨c21, hf⟩ := ite_some hf
            refine rs_iald i_X8_worth_121 c21 ?_
            by_cases c22 : (gI h a20 (ix (v2 - 1))) ≠ 0
            · replace hf := (if_pos c22).symm.trans hf
              refine rs_ifT i_X8_worth_122 (ct_ne c22) (tg := 129) (by decide) ?_
              refine rs_iconst i_X8_worth_129 (v := 0) (by decide) ?_
              exact r_X8_worth_130 hd ih hf
            · replace hf := (if_neg c22).symm.trans hf
              refine rs_ifF i_X8_worth_122 (cf_ne c22) ?_
              refine rs_iconst i_X8_worth_125 (v := 1) (by decide) ?_
              refine rs_goto i_X8_worth_126 (tg := 130) (by decide) ?_
              exact r_X8_worth_130 hd ih hf
        · replace hf := (if_neg c10).symm.trans hf
          refine rs_icF i_X8_worth_63 (cf_ge c10) ?_
          exact r_X8_worth_66 hd ih hf
def f_X8_worth_0 (n : Nat) (v0 : Nat) (v1 : Int32) (h : Hp) : Option (Int32 × Hp) :=
  if okO h v0 8 then
  (gR h v0 12).bind fun a2 =>
  if okI h a2 ((4 * (gI h v0 14)) + v1) then
  f_X8_worth_16 n n v0 v1 0 (gI h a2 (ix ((4 * (gI h v0 14)) + v1))) h
  else none
  else none
set_option maxRecDepth 100000 in
set_option maxHeartbeats 4000000 in
theorem r_X8_worth_0 {X : Nat → Int32} {d : Nat} (hd : 1 ≤ (d + 1)) {n : Nat} {v0 : Nat} {v1 : Int32} {h : Hp} {o : (Int32 × Hp)} (hf : f_X8_worth_0 n v0 v1 h = some o) : Run X (d + 1) 148 0 [some (.ref v0), some (.int v1), none, none, none] [] h (some (.int o.1), o.2) := by
  unfold f_X8_worth_0 at hf
  refine rs_iconst i_X8_worth_0 (v := 0) (by decide) ?_
  refine rs_istore_n i_X8_worth_1 (Nat.le_of_ble_eq_true rfl) (lv' := [some (.ref v0), some (.int v1), some (.int 0), none, none]) rfl ?_
  refine rs_aload_n i_X8_worth_2 rfl ?_
  obtain ⟨c1, hf⟩ := ite_some hf
  obtain ⟨a2, e2, hf⟩ := bind_some hf
  refine rs_getR i_X8_worth_3 (by decide) (by decide) c1 e2 ?_
  refine rs_iconst i_X8_worth_6 (v := 4) (by decide) ?_
  refine rs_aload_n i_X8_worth_7 rfl ?_
  refine rs_getI i_X8_worth_8 (by decide) (by decide) c1 ?_
  refine rs_imul i_X8_worth_11 ?_
  refine rs_iload_n i_X8_worth_12 rfl ?_
  refine rs_iadd i_X8_worth_13 ?_
  obtain ⟨c3, hf⟩ := ite_some hf
  refine rs_iald i_X8_worth_14 c3 ?_
  refine rs_istore_n i_X8_worth_15 (Nat.le_of_ble_eq_true rfl) (lv' := [some (.ref v0), some (.int v1), some (.int 0), some (.int (gI h a2 (ix ((4 * (gI h v0 14)) + v1)))), none]) rfl ?_
  exact r_X8_worth_16 hd _ _ _ _ _ _ _ _ hf
def f_X8_worth (n : Nat) (v0 : Nat) (v1 : Int32) (h : Hp) : Option (Int32 × Hp) := f_X8_worth_0 n v0 v1 h
theorem c_X8_worth {X : Nat → Int32} {d : Nat} (hd : 1 ≤ d) {n : Nat} {v0 : Nat} {v1 : Int32} {h : Hp} {o : (Int32 × Hp)} (hf : f_X8_worth n v0 v1 h = some o) : Calls X d 148 [.ref v0, .int v1] h (some (.int o.1), o.2) := by
  obtain ⟨d, rfl⟩ : ∃ z, d = z + 1 := ⟨d - 1, by omega⟩
  exact ⟨_, rfl, r_X8_worth_0 hd hf⟩
theorem i_X8_force_0 : fetch 149 0 = some (.iload_n 1, 1, 0, 0, 0, 0) := by decide +kernel
theorem i_X8_force_1 : fetch 149 1 = some (.iconst 0, 2, 0, 0, 0, 0) := by decide +kernel
theorem i_X8_force_2 : fetch 149 2 = some (.aload_n 0, 3, 0, 0, 0, 0) := by decide +kernel
theorem i_X8_force_3 : fetch 149 3 = some (.getfield 132, 6, 8, 13, 0, 1022) := by decide +kernel
theorem i_X8_force_6 : fetch 149 6 = some (.iconst 1, 7, 0, 0, 0, 0) := by decide +kernel
theorem i_X8_force_7 : fetch 149 7 = some (.isub, 8, 0, 0, 0, 0) := by decide +kernel
theorem i_X8_force_8 : fetch 149 8 = some (.invokestatic 112, 11, 126, 0, 0, 970) := by decide +kernel
theorem i_X8_force_11 : fetch 149 11 = some (.ifCond .ne 6, 14, 0, 0, 0, 0) := by decide +kernel
theorem i_X8_force_14 : fetch 149 14 = some (.bipush (-2), 16, 0, 0, 0, 0) := by decide +kernel
theorem i_X8_force_16 : fetch 149 16 = some (.ireturn, 17, 0, 0, 0, 0) := by decide +kernel
theorem i_X8_force_17 : fetch 149 17 = some (.aload_n 0, 18, 0, 0, 0, 0) := by decide +kernel
theorem i_X8_force_18 : fetch 149 18 = some (.getfield 135, 21, 8, 14, 0, 1023) := by decide +kernel
theorem i_X8_force_21 : fetch 149 21 = some (.istore_n 2, 22, 0, 0, 0, 0) := by decide +kernel
theorem i_X8_force_22 : fetch 149 22 = some (.aload_n 0, 23, 0, 0, 0, 0) := by decide +kernel
theorem i_X8_force_23 : fetch 149 23 = some (.iload_n 1, 24, 0, 0, 0, 0) := by decide +kernel
theorem i_X8_force_24 : fetch 149 24 = some (.putfield 135, 27, 8, 14, 0, 1023) := by decide +kernel
theorem i_X8_force_27 : fetch 149 27 = some (.iload_n 2, 28, 0, 0, 0, 0) := by decide +kernel
theorem i_X8_force_28 : fetch 149 28 = some (.ireturn, 29, 0, 0, 0, 0) := by decide +kernel
def f_X8_force_0 (v0 : Nat) (v1 : Int32) (h : Hp) : Option (Int32 × Hp) :=
  if okO h v0 8 then
  (f_X8_in v1 0 ((gI h v0 13) - 1) h).bind fun o2 =>
  if o2.1 ≠ 0 then
    if okO o2.2 v0 8 then
    some ((gI o2.2 v0 14), (hsi o2.2 v0 14 v1))
    else none
  else
    some ((-2), o2.2)
  else none
set_option maxRecDepth 100000 in
set_option maxHeartbeats 4000000 in
theorem r_X8_force_0 {X : Nat → Int32} {d : Nat} (hd : 1 ≤ (d + 1)) {v0 : Nat} {v1 : Int32} {h : Hp} {o : (Int32 × Hp)} (hf : f_X8_force_0 v0 v1 h = some o) : Run X (d + 1) 149 0 [some (.ref v0), some (.int v1), none] [] h (some (.int o.1), o.2) := by
  unfold f_X8_force_0 at hf
  refine rs_iload_n i_X8_force_0 rfl ?_
  refine rs_iconst i_X8_force_1 (v := 0) (by decide) ?_
  refine rs_aload_n i_X8_force_2 rfl ?_
  obtain ⟨c1, hf⟩ := ite_some hf
  refine rs_getI i_X8_force_3 (by decide) (by decide) c1 ?_
  refine rs_iconst i_X8_force_6 (v := 1) (by decide) ?_
  refine rs_isub i_X8_force_7 ?_
  obtain ⟨o2, e2, hf⟩ := bind_some hf
  refine rs_inS i_X8_force_8 (by decide) m_X8_in rfl (As := [.int v1, .int 0, .int ((gI h v0 13) - 1)]) (rest := []) rfl rfl (Nat.le_of_ble_eq_true rfl) (c_X8_in (by omega) e2) (st' := [.int o2.1]) rfl ?_
  by_cases c3 : o2.1 ≠ 0
  · replace hf := (if_pos c3).symm.trans hf
    refine rs_ifT i_X8_force_11 (ct_ne c3) (tg := 17) (by decide) ?_
    refine rs_aload_n i_X8_force_17 rfl ?_
    obtain ⟨c4, hf⟩ := ite_some hf
    refine rs_getI i_X8_force_18 (by decide) (by decide) c4 ?_
    refine rs_istore_n i_X8_force_21 (Nat.le_of_ble_eq_true rfl) (lv' := [some (.ref v0), some (.int v1), some (.int (gI o2.2 v0 14))]) rfl ?_
    refine rs_aload_n i_X8_force_22 rfl ?_
    refine rs_iload_n i_X8_force_23 rfl ?_
    refine rs_putI i_X8_force_24 (by decide) c4 ?_
    refine rs_iload_n i_X8_force_27 rfl ?_
    have hf := Option.some.inj hf
    subst hf
    exact rs_iret i_X8_force_28 m_X8_force rfl
  · replace hf := (if_neg c3).symm.trans hf
    refine rs_ifF i_X8_force_11 (cf_ne c3) ?_
    refine rs_bipush i_X8_force_14 (v := (-2)) (by decide) ?_
    have hf := Option.some.inj hf
    subst hf
    exact rs_iret i_X8_force_16 m_X8_force rfl
def f_X8_force (v0 : Nat) (v1 : Int32) (h : Hp) : Option (Int32 × Hp) := f_X8_force_0 v0 v1 h
theorem c_X8_force {X : Nat → Int32} {d : Nat} (hd : 1 ≤ d) {v0 : Nat} {v1 : Int32} {h : Hp} {o : (Int32 × Hp)} (hf : f_X8_force v0 v1 h = some o) : Calls X d 149 [.ref v0, .int v1] h (some (.int o.1), o.2) := by
  obtain ⟨d, rfl⟩ : ∃ z, d = z + 1 := ⟨d - 1, by omega⟩
  exact ⟨_, rfl, r_X8_force_0 hd hf⟩
theorem i_X8_step_0 : fetch 150 0 = some (.iload_n 1, 1, 0, 0, 0, 0) := by decide +kernel
theorem i_X8_step_1 : fetch 150 1 = some (.iconst 0, 2, 0, 0, 0, 0) := by decide +kernel
theorem i_X8_step_2 : fetch 150 2 = some (.iconst 5, 3, 0, 0, 0, 0) := by decide +kernel
theorem i_X8_step_3 : fetch 150 3 = some (.invokestatic 112, 6, 126, 0, 0, 970) := by decide +kernel
theorem i_X8_step_6 : fetch 150 6 = some (.ifCond .eq 23, 9, 0, 0, 0, 0) := by decide +kernel
theorem i_X8_step_9 : fetch 150 9 = some (.iload_n 2, 10, 0, 0, 0, 0) := by decide +kernel
theorem i_X8_step_10 : fetch 150 10 = some (.iconst 0, 11, 0, 0, 0, 0) := by decide +kernel
theorem i_X8_step_11 : fetch 150 11 = some (.bipush 9, 13, 0, 0, 0, 0) := by decide +kernel
theorem i_X8_step_13 : fetch 150 13 = some (.invokestatic 112, 16, 126, 0, 0, 970) := by decide +kernel
theorem i_X8_step_16 : fetch 150 16 = some (.ifCond .eq 13, 19, 0, 0, 0, 0) := by decide +kernel
theorem i_X8_step_19 : fetch 150 19 = some (.iload_n 3, 20, 0, 0, 0, 0) := by decide +kernel
theorem i_X8_step_20 : fetch 150 20 = some (.iconst 1, 21, 0, 0, 0, 0) := by decide +kernel
theorem i_X8_step_21 : fetch 150 21 = some (.bipush 9, 23, 0, 0, 0, 0) := by decide +kernel
theorem i_X8_step_23 : fetch 150 23 = some (.invokestatic 112, 26, 126, 0, 0, 970) := by decide +kernel
theorem i_X8_step_26 : fetch 150 26 = some (.ifCond .ne 6, 29, 0, 0, 0, 0) := by decide +kernel
theorem i_X8_step_29 : fetch 150 29 = some (.bipush (-2), 31, 0, 0, 0, 0) := by decide +kernel
theorem i_X8_step_31 : fetch 150 31 = some (.ireturn, 32, 0, 0, 0, 0) := by decide +kernel
theorem i_X8_step_32 : fetch 150 32 = some (.aload_n 0, 33, 0, 0, 0, 0) := by decide +kernel
theorem i_X8_step_33 : fetch 150 33 = some (.getfield 116, 36, 8, 5, 0, 1014) := by decide +kernel
theorem i_X8_step_36 : fetch 150 36 = some (.bipush 12, 38, 0, 0, 0, 0) := by decide +kernel
theorem i_X8_step_38 : fetch 150 38 = some (.if_icmp .ne 6, 41, 0, 0, 0, 0) := by decide +kernel
theorem i_X8_step_41 : fetch 150 41 = some (.bipush (-4), 43, 0, 0, 0, 0) := by decide +kernel
theorem i_X8_step_43 : fetch 150 43 = some (.ireturn, 44, 0, 0, 0, 0) := by decide +kernel
theorem i_X8_step_44 : fetch 150 44 = some (.aload_n 0, 45, 0, 0, 0, 0) := by decide +kernel
theorem i_X8_step_45 : fetch 150 45 = some (.getfield 27, 48, 8, 6, 0, 1015) := by decide +kernel
theorem i_X8_step_48 : fetch 150 48 = some (.aload_n 0, 49, 0, 0, 0, 0) := by decide +kernel
theorem i_X8_step_49 : fetch 150 49 = some (.getfield 116, 52, 8, 5, 0, 1014) := by decide +kernel
theorem i_X8_step_52 : fetch 150 52 = some (.iload_n 1, 53, 0, 0, 0, 0) := by decide +kernel
theorem i_X8_step_53 : fetch 150 53 = some (.iastore, 54, 0, 0, 0, 0) := by decide +kernel
theorem i_X8_step_54 : fetch 150 54 = some (.aload_n 0, 55, 0, 0, 0, 0) := by decide +kernel
theorem i_X8_step_55 : fetch 150 55 = some (.getfield 30, 58, 8, 7, 0, 1016) := by decide +kernel
theorem i_X8_step_58 : fetch 150 58 = some (.aload_n 0, 59, 0, 0, 0, 0) := by decide +kernel
theorem i_X8_step_59 : fetch 150 59 = some (.getfield 116, 62, 8, 5, 0, 1014) := by decide +kernel
theorem i_X8_step_62 : fetch 150 62 = some (.iload_n 2, 63, 0, 0, 0, 0) := by decide +kernel
theorem i_X8_step_63 : fetch 150 63 = some (.iastore, 64, 0, 0, 0, 0) := by decide +kernel
theorem i_X8_step_64 : fetch 150 64 = some (.aload_n 0, 65, 0, 0, 0, 0) := by decide +kernel
theorem i_X8_step_65 : fetch 150 65 = some (.getfield 33, 68, 8, 8, 0, 1017) := by decide +kernel
theorem i_X8_step_68 : fetch 150 68 = some (.aload_n 0, 69, 0, 0, 0, 0) := by decide +kernel
theorem i_X8_step_69 : fetch 150 69 = some (.getfield 116, 72, 8, 5, 0, 1014) := by decide +kernel
theorem i_X8_step_72 : fetch 150 72 = some (.iload_n 3, 73, 0, 0, 0, 0) := by decide +kernel
theorem i_X8_step_73 : fetch 150 73 = some (.iastore, 74, 0, 0, 0, 0) := by decide +kernel
theorem i_X8_step_74 : fetch 150 74 = some (.aload_n 0, 75, 0, 0, 0, 0) := by decide +kernel
theorem i_X8_step_75 : fetch 150 75 = some (.dup, 76, 0, 0, 0, 0) := by decide +kernel
theorem i_X8_step_76 : fetch 150 76 = some (.getfield 116, 79, 8, 5, 0, 1014) := by decide +kernel
theorem i_X8_step_79 : fetch 150 79 = some (.iconst 1, 80, 0, 0, 0, 0) := by decide +kernel
theorem i_X8_step_80 : fetch 150 80 = some (.iadd, 81, 0, 0, 0, 0) := by decide +kernel
theorem i_X8_step_81 : fetch 150 81 = some (.putfield 116, 84, 8, 5, 0, 1014) := by decide +kernel
theorem i_X8_step_84 : fetch 150 84 = some (.aload_n 0, 85, 0, 0, 0, 0) := by decide +kernel
theorem i_X8_step_85 : fetch 150 85 = some (.getfield 116, 88, 8, 5, 0, 1014) := by decide +kernel
theorem i_X8_step_88 : fetch 150 88 = some (.iconst 1, 89, 0, 0, 0, 0) := by decide +kernel
theorem i_X8_step_89 : fetch 150 89 = some (.isub, 90, 0, 0, 0, 0) := by decide +kernel
theorem i_X8_step_90 : fetch 150 90 = some (.ireturn, 91, 0, 0, 0, 0) := by decide +kernel
def f_X8_step_84 (v0 : Nat) (h : Hp) : Option (Int32 × Hp) :=
  if okO h v0 8 then
  some (((gI h v0 5) - 1), h)
  else none
set_option maxRecDepth 100000 in
set_option maxHeartbeats 4000000 in
theorem r_X8_step_84 {X : Nat → Int32} {d : Nat} (hd : 1 ≤ (d + 1)) {v0 : Nat} {d1 : Int32} {d2 : Int32} {d3 : Int32} {h : Hp} {o : (Int32 × Hp)} (hf : f_X8_step_84 v0 h = some o) : Run X (d + 1) 150 84 [some (.ref v0), some (.int d1), some (.int d2), some (.int d3)] [] h (some (.int o.1), o.2) := by
  unfold f_X8_step_84 at hf
  refine rs_aload_n i_X8_step_84 rfl ?_
  obtain ⟨c1, hf⟩ := ite_some hf
  refine rs_getI i_X8_step_85 (by decide) (by decide) c1 ?_
  refine rs_iconst i_X8_step_88 (v := 1) (by decide) ?_
  refine rs_isub i_X8_step_89 ?_
  have hf := Option.some.inj hf
  subst hf
  exact rs_iret i_X8_step_90 m_X8_step rfl
def f_X8_step_74 (v0 : Nat) (h : Hp) : Option (Int32 × Hp) :=
  if okO h v0 8 then
  f_X8_step_84 v0 (hsi h v0 5 ((gI h v0 5) + 1))
  else none
set_option maxRecDepth 100000 in
set_option maxHeartbeats 4000000 in
theorem r_X8_step_74 {X : Nat → Int32} {d : Nat} (hd : 1 ≤ (d + 1)) {v0 : Nat} {d1 : Int32} {d2 : Int32} {d3 : Int32} {h : Hp} {o : (Int32 × Hp)} (hf : f_X8_step_74 v0 h = some o) : Run X (d + 1) 150 74 [some (.ref v0), some (.int d1), some (.int d2), some (.int d3)] [] h (some (.int o.1), o.2) := by
  unfold f_X8_step_74 at hf
  refine rs_aload_n i_X8_step_74 rfl ?_
  refine rs_dup i_X8_step_75 rfl ?_
  obtain ⟨c1, hf⟩ := ite_some hf
  refine rs_getI i_X8_step_76 (by decide) (by decide) c1 ?_
  refine rs_iconst i_X8_step_79 (v := 1) (by decide) ?_
  refine rs_iadd i_X8_step_80 ?_
  refine rs_putI i_X8_step_81 (by decide) c1 ?_
  exact r_X8_step_84 hd hf
def f_X8_step_64 (v0 : Nat) (v3 : Int32) (h : Hp) : Option (Int32 × Hp) :=
  if okO h v0 8 then
  (gR h v0 8).bind fun a2 =>
  if okI h a2 (gI h v0 5) then
  f_X8_step_74 v0 (hsi h a2 (ix (gI h v0 5)) v3)
  else none
  else none
set_option maxRecDepth 100000 in
set_option maxHeartbeats 4000000 in
theorem r_X8_step_64 {X : Nat → Int32} {d : Nat} (hd : 1 ≤ (d + 1)) {v0 : Nat} {v3 : Int32} {d1 : Int32} {d2 : Int32} {h : Hp} {o : (Int32 × Hp)} (hf : f_X8_step_64 v0 v3 h = some o) : Run X (d + 1) 150 64 [some (.ref v0), some (.int d1), some (.int d2), some (.int v3)] [] h (some (.int o.1), o.2) := by
  unfold f_X8_step_64 at hf
  refine rs_aload_n i_X8_step_64 rfl ?_
  obtain ⟨c1, hf⟩ := ite_some hf
  obtain ⟨a2, e2, hf⟩ := bind_some hf
  refine rs_getR i_X8_step_65 (by decide) (by decide) c1 e2 ?_
  refine rs_aload_n i_X8_step_68 rfl ?_
  refine rs_getI i_X8_step_69 (by decide) (by decide) c1 ?_
  refine rs_iload_n i_X8_step_72 rfl ?_
  obtain ⟨c3, hf⟩ := ite_some hf
  refine rs_iast i_X8_step_73 c3 ?_
  exact r_X8_step_74 hd hf
def f_X8_step_54 (v0 : Nat) (v2 : Int32) (v3 : Int32) (h : Hp) : Option (Int32 × Hp) :=
  if okO h v0 8 then
  (gR h v0 7).bind fun a2 =>
  if okI h a2 (gI h v0 5) then
  f_X8_step_64 v0 v3 (hsi h a2 (ix (gI h v0 5)) v2)
  else none
  else none
set_option maxRecDepth 100000 in
set_option maxHeartbeats 4000000 in
theorem r_X8_step_54 {X : Nat → Int32} {d : Nat} (hd : 1 ≤ (d + 1)) {v0 : Nat} {v2 : Int32} {v3 : Int32} {d1 : Int32} {h : Hp} {o : (Int32 × Hp)} (hf : f_X8_step_54 v0 v2 v3 h = some o) : Run X (d + 1) 150 54 [some (.ref v0), some (.int d1), some (.int v2), some (.int v3)] [] h (some (.int o.1), o.2) := by
  unfold f_X8_step_54 at hf
  refine rs_aload_n i_X8_step_54 rfl ?_
  obtain ⟨c1, hf⟩ := ite_some hf
  obtain ⟨a2, e2, hf⟩ := bind_some hf
  refine rs_getR i_X8_step_55 (by decide) (by decide) c1 e2 ?_
  refine rs_aload_n i_X8_step_58 rfl ?_
  refine rs_getI i_X8_step_59 (by decide) (by decide) c1 ?_
  refine rs_iload_n i_X8_step_62 rfl ?_
  obtain ⟨c3, hf⟩ := ite_some hf
  refine rs_iast i_X8_step_63 c3 ?_
  exact r_X8_step_64 hd hf
def f_X8_step_0 (v0 : Nat) (v1 : Int32) (v2 : Int32) (v3 : Int32) (h : Hp) : Option (Int32 × Hp) :=
  (f_X8_in v1 0 5 h).bind fun o1 =>
  if o1.1 = 0 then
    some ((-2), o1.2)
  else
    (f_X8_in v2 0 9 o1.2).bind fun o3 =>
    if o3.1 = 0 then
      some ((-2), o3.2)
    else
      (f_X8_in v3 1 9 o3.2).bind fun o5 =>
      if o5.1 ≠ 0 then
        if okO o5.2 v0 8 then
        if (gI o5.2 v0 5) ≠ 12 then
          (gR o5.2 v0 6).bind fun a9 =>
          if okI o5.2 a9 (gI o5.2 v0 5) then
          f_X8_step_54 v0 v2 v3 (hsi o5.2 a9 (ix (gI o5.2 v0 5)) v1)
          else none
        else
          some ((-4), o5.2)
        else none
      else
        some ((-2), o5.2)
set_option maxRecDepth 100000 in
set_option maxHeartbeats 4000000 in
theorem r_X8_step_0 {X : Nat → Int32} {d : Nat} (hd : 1 ≤ (d + 1)) {v0 : Nat} {v1 : Int32} {v2 : Int32} {v3 : Int32} {h : Hp} {o : (Int32 × Hp)} (hf : f_X8_step_0 v0 v1 v2 v3 h = some o) : Run X (d + 1) 150 0 [some (.ref v0), some (.int v1), some (.int v2), some (.int v3)] [] h (some (.int o.1), o.2) := by
  unfold f_X8_step_0 at hf
  refine rs_iload_n i_X8_step_0 rfl ?_
  refine rs_iconst i_X8_step_1 (v := 0) (by decide) ?_
  refine rs_iconst i_X8_step_2 (v := 5) (by decide) ?_
  obtain ⟨o1, e1, hf⟩ := bind_some hf
  refine rs_inS i_X8_step_3 (by decide) m_X8_in rfl (As := [.int v1, .int 0, .int 5]) (rest := []) rfl rfl (Nat.le_of_ble_eq_true rfl) (c_X8_in (by omega) e1) (st' := [.int o1.1]) rfl ?_
  by_cases c2 : o1.1 = 0
  · replace hf := (if_pos c2).symm.trans hf
    refine rs_ifT i_X8_step_6 (ct_eq c2) (tg := 29) (by decide) ?_
    refine rs_bipush i_X8_step_29 (v := (-2)) (by decide) ?_
    have hf := Option.some.inj hf
    subst hf
    exact rs_iret i_X8_step_31 m_X8_step rfl
  · replace hf := (if_neg c2).symm.trans hf
    refine rs_ifF i_X8_step_6 (cf_eq c2) ?_
    refine rs_iload_n i_X8_step_9 rfl ?_
    refine rs_iconst i_X8_step_10 (v := 0) (by decide) ?_
    refine rs_bipush i_X8_step_11 (v := 9) (by decide) ?_
    obtain ⟨o3, e3, hf⟩ := bind_some hf
    refine rs_inS i_X8_step_13 (by decide) m_X8_in rfl (As := [.int v2, .int 0, .int 9]) (rest := []) rfl rfl (Nat.le_of_ble_eq_true rfl) (c_X8_in (by omega) e3) (st' := [.int o3.1]) rfl ?_
    by_cases c4 : o3.1 = 0
    · replace hf := (if_pos c4).symm.trans hf
      refine rs_ifT i_X8_step_16 (ct_eq c4) (tg := 29) (by decide) ?_
      refine rs_bipush i_X8_step_29 (v := (-2)) (by decide) ?_
      have hf := Option.some.inj hf
      subst hf
      exact rs_iret i_X8_step_31 m_X8_step rfl
    · replace hf := (if_neg c4).symm.trans hf
      refine rs_ifF i_X8_step_16 (cf_eq c4) ?_
      refine rs_iload_n i_X8_step_19 rfl ?_
      refine rs_iconst i_X8_step_20 (v := 1) (by decide) ?_
      refine rs_bipush i_X8_step_21 (v := 9) (by decide) ?_
      obtain ⟨o5, e5, hf⟩ := bind_some hf
      refine rs_inS i_X8_step_23 (by decide) m_X8_in rfl (As := [.int v3, .int 1, .int 9]) (rest := []) rfl rfl (Nat.le_of_ble_eq_true rfl) (c_X8_in (by omega) e5) (st' := [.int o5.1]) rfl ?_
      by_cases c6 : o5.1 ≠ 0
      · replace hf := (if_pos c6).symm.trans hf
        refine rs_ifT i_X8_step_26 (ct_ne c6) (tg := 32) (by decide) ?_
        refine rs_aload_n i_X8_step_32 rfl ?_
        obtain ⟨c7, hf⟩ := ite_some hf
        refine rs_getI i_X8_step_33 (by decide) (by decide) c7 ?_
        refine rs_bipush i_X8_step_36 (v := 12) (by decide) ?_
        by_cases c8 : (gI o5.2 v0 5) ≠ 12
        · replace hf := (if_pos c8).symm.trans hf
          refine rs_icT i_X8_step_38 (ct_ne c8) (tg := 44) (by decide) ?_
          refine rs_aload_n i_X8_step_44 rfl ?_
          obtain ⟨a9, e9, hf⟩ := bind_some hf
          refine rs_getR i_X8_step_45 (by decide) (by decide) c7 e9 ?_
          refine rs_aload_n i_X8_step_48 rfl ?_
          refine rs_getI i_X8_step_49 (by decide) (by decide) c7 ?_
          refine rs_iload_n i_X8_step_52 rfl ?_
          obtain ⟨c10, hf⟩ := ite_some hf
          refine rs_iast i_X8_step_53 c10 ?_
          exact r_X8_step_54 hd hf
        · replace hf := (if_neg c8).symm.trans hf
          refine rs_icF i_X8_step_38 (cf_ne c8) ?_
          refine rs_bipush i_X8_step_41 (v := (-4)) (by decide) ?_
          have hf := Option.some.inj hf
          subst hf
          exact rs_iret i_X8_step_43 m_X8_step rfl
      · replace hf := (if_neg c6).symm.trans hf
        refine rs_ifF i_X8_step_26 (cf_ne c6) ?_
        refine rs_bipush i_X8_step_29 (v := (-2)) (by decide) ?_
        have hf := Option.some.inj hf
        subst hf
        exact rs_iret i_X8_step_31 m_X8_step rfl
def f_X8_step (v0 : Nat) (v1 : Int32) (v2 : Int32) (v3 : Int32) (h : Hp) : Option (Int32 × Hp) := f_X8_step_0 v0 v1 v2 v3 h
theorem c_X8_step {X : Nat → Int32} {d : Nat} (hd : 1 ≤ d) {v0 : Nat} {v1 : Int32} {v2 : Int32} {v3 : Int32} {h : Hp} {o : (Int32 × Hp)} (hf : f_X8_step v0 v1 v2 v3 h = some o) : Calls X d 150 [.ref v0, .int v1, .int v2, .int v3] h (some (.int o.1), o.2) := by
  obtain ⟨d, rfl⟩ : ∃ z, d = z + 1 := ⟨d - 1, by omega⟩
  exact ⟨_, rfl, r_X8_step_0 hd hf⟩
theorem i_X8_forget_0 : fetch 151 0 = some (.aload_n 0, 1, 0, 0, 0, 0) := by decide +kernel
theorem i_X8_forget_1 : fetch 151 1 = some (.getfield 116, 4, 8, 5, 0, 1014) := by decide +kernel
theorem i_X8_forget_4 : fetch 151 4 = some (.ifCond .ne 6, 7, 0, 0, 0, 0) := by decide +kernel
theorem i_X8_forget_7 : fetch 151 7 = some (.bipush (-3), 9, 0, 0, 0, 0) := by decide +kernel
theorem i_X8_forget_9 : fetch 151 9 = some (.ireturn, 10, 0, 0, 0, 0) := by decide +kernel
theorem i_X8_forget_10 : fetch 151 10 = some (.aload_n 0, 11, 0, 0, 0, 0) := by decide +kernel
theorem i_X8_forget_11 : fetch 151 11 = some (.dup, 12, 0, 0, 0, 0) := by decide +kernel
theorem i_X8_forget_12 : fetch 151 12 = some (.getfield 116, 15, 8, 5, 0, 1014) := by decide +kernel
theorem i_X8_forget_15 : fetch 151 15 = some (.iconst 1, 16, 0, 0, 0, 0) := by decide +kernel
theorem i_X8_forget_16 : fetch 151 16 = some (.isub, 17, 0, 0, 0, 0) := by decide +kernel
theorem i_X8_forget_17 : fetch 151 17 = some (.putfield 116, 20, 8, 5, 0, 1014) := by decide +kernel
theorem i_X8_forget_20 : fetch 151 20 = some (.aload_n 0, 21, 0, 0, 0, 0) := by decide +kernel
theorem i_X8_forget_21 : fetch 151 21 = some (.getfield 116, 24, 8, 5, 0, 1014) := by decide +kernel
theorem i_X8_forget_24 : fetch 151 24 = some (.ireturn, 25, 0, 0, 0, 0) := by decide +kernel
def f_X8_forget_20 (v0 : Nat) (h : Hp) : Option (Int32 × Hp) :=
  if okO h v0 8 then
  some ((gI h v0 5), h)
  else none
set_option maxRecDepth 100000 in
set_option maxHeartbeats 4000000 in
theorem r_X8_forget_20 {X : Nat → Int32} {d : Nat} (hd : 0 ≤ d) {v0 : Nat} {h : Hp} {o : (Int32 × Hp)} (hf : f_X8_forget_20 v0 h = some o) : Run X d 151 20 [some (.ref v0)] [] h (some (.int o.1), o.2) := by
  unfold f_X8_forget_20 at hf
  refine rs_aload_n i_X8_forget_20 rfl ?_
  obtain ⟨c1, hf⟩ := ite_some hf
  refine rs_getI i_X8_forget_21 (by decide) (by decide) c1 ?_
  have hf := Option.some.inj hf
  subst hf
  exact rs_iret i_X8_forget_24 m_X8_forget rfl
def f_X8_forget_0 (v0 : Nat) (h : Hp) : Option (Int32 × Hp) :=
  if okO h v0 8 then
  if (gI h v0 5) ≠ 0 then
    f_X8_forget_20 v0 (hsi h v0 5 ((gI h v0 5) - 1))
  else
    some ((-3), h)
  else none
set_option maxRecDepth 100000 in
set_option maxHeartbeats 4000000 in
theorem r_X8_forget_0 {X : Nat → Int32} {d : Nat} (hd : 0 ≤ d) {v0 : Nat} {h : Hp} {o : (Int32 × Hp)} (hf : f_X8_forget_0 v0 h = some o) : Run X d 151 0 [some (.ref v0)] [] h (some (.int o.1), o.2) := by
  unfold f_X8_forget_0 at hf
  refine rs_aload_n i_X8_forget_0 rfl ?_
  obtain ⟨c1, hf⟩ := ite_some hf
  refine rs_getI i_X8_forget_1 (by decide) (by decide) c1 ?_
  by_cases c2 : (gI h v0 5) ≠ 0
  · replace hf := (if_pos c2).symm.trans hf
    refine rs_ifT i_X8_forget_4 (ct_ne c2) (tg := 10) (by decide) ?_
    refine rs_aload_n i_X8_forget_10 rfl ?_
    refine rs_dup i_X8_forget_11 rfl ?_
    refine rs_getI i_X8_forget_12 (by decide) (by decide) c1 ?_
    refine rs_iconst i_X8_forget_15 (v := 1) (by decide) ?_
    refine rs_isub i_X8_forget_16 ?_
    refine rs_putI i_X8_forget_17 (by decide) c1 ?_
    exact r_X8_forget_20 hd hf
  · replace hf := (if_neg c2).symm.trans hf
    refine rs_ifF i_X8_forget_4 (cf_ne c2) ?_
    refine rs_bipush i_X8_forget_7 (v := (-3)) (by decide) ?_
    have hf := Option.some.inj hf
    subst hf
    exact rs_iret i_X8_forget_9 m_X8_forget rfl
def f_X8_forget (v0 : Nat) (h : Hp) : Option (Int32 × Hp) := f_X8_forget_0 v0 h
theorem c_X8_forget {X : Nat → Int32} {d : Nat} (hd : 0 ≤ d) {v0 : Nat} {h : Hp} {o : (Int32 × Hp)} (hf : f_X8_forget v0 h = some o) : Calls X d 151 [.ref v0] h (some (.int o.1), o.2) := by
  exact ⟨_, rfl, r_X8_forget_0 hd hf⟩
theorem i_X8_takesOf_0 : fetch 152 0 = some (.aload_n 0, 1, 0, 0, 0, 0) := by decide +kernel
theorem i_X8_takesOf_1 : fetch 152 1 = some (.getfield 27, 4, 8, 6, 0, 1015) := by decide +kernel
theorem i_X8_takesOf_4 : fetch 152 4 = some (.iload_n 1, 5, 0, 0, 0, 0) := by decide +kernel
theorem i_X8_takesOf_5 : fetch 152 5 = some (.iaload, 6, 0, 0, 0, 0) := by decide +kernel
theorem i_X8_takesOf_6 : fetch 152 6 = some (.tableswitch 74 1 5 #[34, 44, 54, 56, 65], 40, 0, 0, 0, 0) := by decide +kernel
theorem i_X8_takesOf_40 : fetch 152 40 = some (.bipush 10, 42, 0, 0, 0, 0) := by decide +kernel
theorem i_X8_takesOf_42 : fetch 152 42 = some (.aload_n 0, 43, 0, 0, 0, 0) := by decide +kernel
theorem i_X8_takesOf_43 : fetch 152 43 = some (.getfield 33, 46, 8, 8, 0, 1017) := by decide +kernel
theorem i_X8_takesOf_46 : fetch 152 46 = some (.iload_n 1, 47, 0, 0, 0, 0) := by decide +kernel
theorem i_X8_takesOf_47 : fetch 152 47 = some (.iaload, 48, 0, 0, 0, 0) := by decide +kernel
theorem i_X8_takesOf_48 : fetch 152 48 = some (.isub, 49, 0, 0, 0, 0) := by decide +kernel
theorem i_X8_takesOf_49 : fetch 152 49 = some (.ireturn, 50, 0, 0, 0, 0) := by decide +kernel
theorem i_X8_takesOf_50 : fetch 152 50 = some (.bipush 12, 52, 0, 0, 0, 0) := by decide +kernel
theorem i_X8_takesOf_52 : fetch 152 52 = some (.aload_n 0, 53, 0, 0, 0, 0) := by decide +kernel
theorem i_X8_takesOf_53 : fetch 152 53 = some (.getfield 33, 56, 8, 8, 0, 1017) := by decide +kernel
theorem i_X8_takesOf_56 : fetch 152 56 = some (.iload_n 1, 57, 0, 0, 0, 0) := by decide +kernel
theorem i_X8_takesOf_57 : fetch 152 57 = some (.iaload, 58, 0, 0, 0, 0) := by decide +kernel
theorem i_X8_takesOf_58 : fetch 152 58 = some (.isub, 59, 0, 0, 0, 0) := by decide +kernel
theorem i_X8_takesOf_59 : fetch 152 59 = some (.ireturn, 60, 0, 0, 0, 0) := by decide +kernel
theorem i_X8_takesOf_60 : fetch 152 60 = some (.iconst 3, 61, 0, 0, 0, 0) := by decide +kernel
theorem i_X8_takesOf_61 : fetch 152 61 = some (.ireturn, 62, 0, 0, 0, 0) := by decide +kernel
theorem i_X8_takesOf_62 : fetch 152 62 = some (.aload_n 0, 63, 0, 0, 0, 0) := by decide +kernel
theorem i_X8_takesOf_63 : fetch 152 63 = some (.getfield 30, 66, 8, 7, 0, 1016) := by decide +kernel
theorem i_X8_takesOf_66 : fetch 152 66 = some (.iload_n 1, 67, 0, 0, 0, 0) := by decide +kernel
theorem i_X8_takesOf_67 : fetch 152 67 = some (.iaload, 68, 0, 0, 0, 0) := by decide +kernel
theorem i_X8_takesOf_68 : fetch 152 68 = some (.iconst 1, 69, 0, 0, 0, 0) := by decide +kernel
theorem i_X8_takesOf_69 : fetch 152 69 = some (.iadd, 70, 0, 0, 0, 0) := by decide +kernel
theorem i_X8_takesOf_70 : fetch 152 70 = some (.ireturn, 71, 0, 0, 0, 0) := by decide +kernel
theorem i_X8_takesOf_71 : fetch 152 71 = some (.iconst 3, 72, 0, 0, 0, 0) := by decide +kernel
theorem i_X8_takesOf_72 : fetch 152 72 = some (.aload_n 0, 73, 0, 0, 0, 0) := by decide +kernel
theorem i_X8_takesOf_73 : fetch 152 73 = some (.getfield 30, 76, 8, 7, 0, 1016) := by decide +kernel
theorem i_X8_takesOf_76 : fetch 152 76 = some (.iload_n 1, 77, 0, 0, 0, 0) := by decide +kernel
theorem i_X8_takesOf_77 : fetch 152 77 = some (.iaload, 78, 0, 0, 0, 0) := by decide +kernel
theorem i_X8_takesOf_78 : fetch 152 78 = some (.iadd, 79, 0, 0, 0, 0) := by decide +kernel
theorem i_X8_takesOf_79 : fetch 152 79 = some (.ireturn, 80, 0, 0, 0, 0) := by decide +kernel
theorem i_X8_takesOf_80 : fetch 152 80 = some (.bipush 10, 82, 0, 0, 0, 0) := by decide +kernel
theorem i_X8_takesOf_82 : fetch 152 82 = some (.aload_n 0, 83, 0, 0, 0, 0) := by decide +kernel
theorem i_X8_takesOf_83 : fetch 152 83 = some (.getfield 30, 86, 8, 7, 0, 1016) := by decide +kernel
theorem i_X8_takesOf_86 : fetch 152 86 = some (.iload_n 1, 87, 0, 0, 0, 0) := by decide +kernel
theorem i_X8_takesOf_87 : fetch 152 87 = some (.iaload, 88, 0, 0, 0, 0) := by decide +kernel
theorem i_X8_takesOf_88 : fetch 152 88 = some (.imul, 89, 0, 0, 0, 0) := by decide +kernel
theorem i_X8_takesOf_89 : fetch 152 89 = some (.ireturn, 90, 0, 0, 0, 0) := by decide +kernel
def f_X8_takesOf_0 (v0 : Nat) (v1 : Int32) (h : Hp) : Option (Int32 × Hp) :=
  if okO h v0 8 then
  (gR h v0 6).bind fun a2 =>
  if okI h a2 v1 then
  if (gI h a2 (ix v1)) = 1 then
    (gR h v0 8).bind fun a17 =>
    if okI h a17 v1 then
    some ((10 - (gI h a17 (ix v1))), h)
    else none
  else
    if (gI h a2 (ix v1)) = 2 then
      (gR h v0 8).bind fun a15 =>
      if okI h a15 v1 then
      some ((12 - (gI h a15 (ix v1))), h)
      else none
    else
      if (gI h a2 (ix v1)) = 3 then
        some (3, h)
      else
        if (gI h a2 (ix v1)) = 4 then
          (gR h v0 7).bind fun a13 =>
          if okI h a13 v1 then
          some (((gI h a13 (ix v1)) + 1), h)
          else none
        else
          if (gI h a2 (ix v1)) = 5 then
            (gR h v0 7).bind fun a11 =>
            if okI h a11 v1 then
            some ((3 + (gI h a11 (ix v1))), h)
            else none
          else
            (gR h v0 7).bind fun a9 =>
            if okI h a9 v1 then
            some ((10 * (gI h a9 (ix v1))), h)
            else none
  else none
  else none
set_option maxRecDepth 100000 in
set_option maxHeartbeats 4000000 in
theorem r_X8_takesOf_0 {X : Nat → Int32} {d : Nat} (hd : 0 ≤ d) {v0 : Nat} {v1 : Int32} {h : Hp} {o : (Int32 × Hp)} (hf : f_X8_takesOf_0 v0 v1 h = some o) : Run X d 152 0 [some (.ref v0), some (.int v1)] [] h (some (.int o.1), o.2) := by
  unfold f_X8_takesOf_0 at hf
  refine rs_aload_n i_X8_takesOf_0 rfl ?_
  obtain ⟨c1, hf⟩ := ite_some hf
  obtain ⟨a2, e2, hf⟩ := bind_some hf
  refine rs_getR i_X8_takesOf_1 (by decide) (by decide) c1 e2 ?_
  refine rs_iload_n i_X8_takesOf_4 rfl ?_
  obtain ⟨c3, hf⟩ := ite_some hf
  refine rs_iald i_X8_takesOf_5 c3 ?_
  by_cases c4 : (gI h a2 (ix v1)) = 1
  · replace hf := (if_pos c4).symm.trans hf
    refine rs_tsw i_X8_takesOf_6 (off := 34) (by rw [c4]; decide) (tg := 40) (by decide) ?_
    refine rs_bipush i_X8_takesOf_40 (v := 10) (by decide) ?_
    refine rs_aload_n i_X8_takesOf_42 rfl ?_
    obtain ⟨a17, e17, hf⟩ := bind_some hf
    refine rs_getR i_X8_takesOf_43 (by decide) (by decide) c1 e17 ?_
    refine rs_iload_n i_X8_takesOf_46 rfl ?_
    obtain ⟨c18, hf⟩ := ite_some hf
    refine rs_iald i_X8_takesOf_47 c18 ?_
    refine rs_isub i_X8_takesOf_48 ?_
    have hf := Option.some.inj hf
    subst hf
    exact rs_iret i_X8_takesOf_49 m_X8_takesOf rfl
  · replace hf := (if_neg c4).symm.trans hf
    by_cases c5 : (gI h a2 (ix v1)) = 2
    · replace hf := (if_pos c5).symm.trans hf
      refine rs_tsw i_X8_takesOf_6 (off := 44) (by rw [c5]; decide) (tg := 50) (by decide) ?_
      refine rs_bipush i_X8_takesOf_50 (v := 12) (by decide) ?_
      refine rs_aload_n i_X8_takesOf_52 rfl ?_
      obtain ⟨a15, e15, hf⟩ := bind_some hf
      refine rs_getR i_X8_takesOf_53 (by decide) (by decide) c1 e15 ?_
      refine rs_iload_n i_X8_takesOf_56 rfl ?_
      obtain ⟨c16, hf⟩ := ite_some hf
      refine rs_iald i_X8_takesOf_57 c16 ?_
      refine rs_isub i_X8_takesOf_58 ?_
      have hf := Option.some.inj hf
      subst hf
      exact rs_iret i_X8_takesOf_59 m_X8_takesOf rfl
    · replace hf := (if_neg c5).symm.trans hf
      by_cases c6 : (gI h a2 (ix v1)) = 3
      · replace hf := (if_pos c6).symm.trans hf
        refine rs_tsw i_X8_takesOf_6 (off := 54) (by rw [c6]; decide) (tg := 60) (by decide) ?_
        refine rs_iconst i_X8_takesOf_60 (v := 3) (by decide) ?_
        have hf := Option.some.inj hf
        subst hf
        exact rs_iret i_X8_takesOf_61 m_X8_takesOf rfl
      · replace hf := (if_neg c6).symm.trans hf
        by_cases c7 : (gI h a2 (ix v1)) = 4
        · replace hf := (if_pos c7).symm.trans hf
          refine rs_tsw i_X8_takesOf_6 (off := 56) (by rw [c7]; decide) (tg := 62) (by decide) ?_
          refine rs_aload_n i_X8_takesOf_62 rfl ?_
          obtain ⟨a13, e13, hf⟩ := bind_some hf
          refine rs_getR i_X8_takesOf_63 (by decide) (by decide) c1 e13 ?_
          refine rs_iload_n i_X8_takesOf_66 rfl ?_
          obtain ⟨c14, hf⟩ := ite_some hf
          refine rs_iald i_X8_takesOf_67 c14 ?_
          refine rs_iconst i_X8_takesOf_68 (v := 1) (by decide) ?_
          refine rs_iadd i_X8_takesOf_69 ?_
          have hf := Option.some.inj hf
          subst hf
          exact rs_iret i_X8_takesOf_70 m_X8_takesOf rfl
        · replace hf := (if_neg c7).symm.trans hf
          by_cases c8 : (gI h a2 (ix v1)) = 5
          · replace hf := (if_pos c8).symm.trans hf
            refine rs_tsw i_X8_takesOf_6 (off := 65) (by rw [c8]; decide) (tg := 71) (by decide) ?_
            refine rs_iconst i_X8_takesOf_71 (v := 3) (by decide) ?_
            refine rs_aload_n i_X8_takesOf_72 rfl ?_
            obtain ⟨a11, e11, hf⟩ := bind_some hf
            refine rs_getR i_X8_takesOf_73 (by decide) (by decide) c1 e11 ?_
            refine rs_iload_n i_X8_takesOf_76 rfl ?_
            obtain ⟨c12, hf⟩ := ite_some hf
            refine rs_iald i_X8_takesOf_77 c12 ?_
            refine rs_iadd i_X8_takesOf_78 ?_
            have hf := Option.some.inj hf
            subst hf
            exact rs_iret i_X8_takesOf_79 m_X8_takesOf rfl
          · replace hf := (if_neg c8).symm.trans hf
            refine rs_tsw i_X8_takesOf_6 (off := 74) (swt_df (by have z0 := ne_ti c4; rw [show (1 : Int32).toInt = 1 from by decide] at z0; have z1 := ne_ti c5; rw [show (2 : Int32).toInt = 2 from by decide] at z1; have z2 := ne_ti c6; rw [show (3 : Int32).toInt = 3 from by decide] at z2; have z3 := ne_ti c7; rw [show (4 : Int32).toInt = 4 from by decide] at z3; have z4 := ne_ti c8; rw [show (5 : Int32).toInt = 5 from by decide] at z4; omega)) (tg := 80) (by decide) ?_
            refine rs_bipush i_X8_takesOf_80 (v := 10) (by decide) ?_
            refine rs_aload_n i_X8_takesOf_82 rfl ?_
            obtain ⟨a9, e9, hf⟩ := bind_some hf
            refine rs_getR i_X8_takesOf_83 (by decide) (by decide) c1 e9 ?_
            refine rs_iload_n i_X8_takesOf_86 rfl ?_
            obtain ⟨c10, hf⟩ := ite_some hf
            refine rs_iald i_X8_takesOf_87 c10 ?_
            refine rs_imul i_X8_takesOf_88 ?_
            have hf := Option.some.inj hf
            subst hf
            exact rs_iret i_X8_takesOf_89 m_X8_takesOf rfl
def f_X8_takesOf (v0 : Nat) (v1 : Int32) (h : Hp) : Option (Int32 × Hp) := f_X8_takesOf_0 v0 v1 h
theorem c_X8_takesOf {X : Nat → Int32} {d : Nat} (hd : 0 ≤ d) {v0 : Nat} {v1 : Int32} {h : Hp} {o : (Int32 × Hp)} (hf : f_X8_takesOf v0 v1 h = some o) : Calls X d 152 [.ref v0, .int v1] h (some (.int o.1), o.2) := by
  exact ⟨_, rfl, r_X8_takesOf_0 hd hf⟩
theorem i_X8_stepTold_0 : fetch 153 0 = some (.iload_n 1, 1, 0, 0, 0, 0) := by decide +kernel
theorem i_X8_stepTold_1 : fetch 153 1 = some (.iconst 0, 2, 0, 0, 0, 0) := by decide +kernel
theorem i_X8_stepTold_2 : fetch 153 2 = some (.aload_n 0, 3, 0, 0, 0, 0) := by decide +kernel
theorem i_X8_stepTold_3 : fetch 153 3 = some (.getfield 116, 6, 8, 5, 0, 1014) := by decide +kernel
theorem i_X8_stepTold_6 : fetch 153 6 = some (.iconst 1, 7, 0, 0, 0, 0) := by decide +kernel
theorem i_X8_stepTold_7 : fetch 153 7 = some (.isub, 8, 0, 0, 0, 0) := by decide +kernel
theorem i_X8_stepTold_8 : fetch 153 8 = some (.invokestatic 112, 11, 126, 0, 0, 970) := by decide +kernel
theorem i_X8_stepTold_11 : fetch 153 11 = some (.ifCond .ne 6, 14, 0, 0, 0, 0) := by decide +kernel
theorem i_X8_stepTold_14 : fetch 153 14 = some (.bipush (-5), 16, 0, 0, 0, 0) := by decide +kernel
theorem i_X8_stepTold_16 : fetch 153 16 = some (.ireturn, 17, 0, 0, 0, 0) := by decide +kernel
theorem i_X8_stepTold_17 : fetch 153 17 = some (.iload_n 2, 18, 0, 0, 0, 0) := by decide +kernel
theorem i_X8_stepTold_18 : fetch 153 18 = some (.ifCond .ne 12, 21, 0, 0, 0, 0) := by decide +kernel
theorem i_X8_stepTold_21 : fetch 153 21 = some (.aload_n 0, 22, 0, 0, 0, 0) := by decide +kernel
theorem i_X8_stepTold_22 : fetch 153 22 = some (.getfield 27, 25, 8, 6, 0, 1015) := by decide +kernel
theorem i_X8_stepTold_25 : fetch 153 25 = some (.iload_n 1, 26, 0, 0, 0, 0) := by decide +kernel
theorem i_X8_stepTold_26 : fetch 153 26 = some (.iaload, 27, 0, 0, 0, 0) := by decide +kernel
theorem i_X8_stepTold_27 : fetch 153 27 = some (.goto 46, 30, 0, 0, 0, 0) := by decide +kernel
theorem i_X8_stepTold_30 : fetch 153 30 = some (.iload_n 2, 31, 0, 0, 0, 0) := by decide +kernel
theorem i_X8_stepTold_31 : fetch 153 31 = some (.iconst 1, 32, 0, 0, 0, 0) := by decide +kernel
theorem i_X8_stepTold_32 : fetch 153 32 = some (.if_icmp .ne 12, 35, 0, 0, 0, 0) := by decide +kernel
theorem i_X8_stepTold_35 : fetch 153 35 = some (.aload_n 0, 36, 0, 0, 0, 0) := by decide +kernel
theorem i_X8_stepTold_36 : fetch 153 36 = some (.getfield 30, 39, 8, 7, 0, 1016) := by decide +kernel
theorem i_X8_stepTold_39 : fetch 153 39 = some (.iload_n 1, 40, 0, 0, 0, 0) := by decide +kernel
theorem i_X8_stepTold_40 : fetch 153 40 = some (.iaload, 41, 0, 0, 0, 0) := by decide +kernel
theorem i_X8_stepTold_41 : fetch 153 41 = some (.goto 32, 44, 0, 0, 0, 0) := by decide +kernel
theorem i_X8_stepTold_44 : fetch 153 44 = some (.iload_n 2, 45, 0, 0, 0, 0) := by decide +kernel
theorem i_X8_stepTold_45 : fetch 153 45 = some (.iconst 2, 46, 0, 0, 0, 0) := by decide +kernel
theorem i_X8_stepTold_46 : fetch 153 46 = some (.if_icmp .ne 12, 49, 0, 0, 0, 0) := by decide +kernel
theorem i_X8_stepTold_49 : fetch 153 49 = some (.aload_n 0, 50, 0, 0, 0, 0) := by decide +kernel
theorem i_X8_stepTold_50 : fetch 153 50 = some (.getfield 33, 53, 8, 8, 0, 1017) := by decide +kernel
theorem i_X8_stepTold_53 : fetch 153 53 = some (.iload_n 1, 54, 0, 0, 0, 0) := by decide +kernel
theorem i_X8_stepTold_54 : fetch 153 54 = some (.iaload, 55, 0, 0, 0, 0) := by decide +kernel
theorem i_X8_stepTold_55 : fetch 153 55 = some (.goto 18, 58, 0, 0, 0, 0) := by decide +kernel
theorem i_X8_stepTold_58 : fetch 153 58 = some (.iload_n 2, 59, 0, 0, 0, 0) := by decide +kernel
theorem i_X8_stepTold_59 : fetch 153 59 = some (.iconst 3, 60, 0, 0, 0, 0) := by decide +kernel
theorem i_X8_stepTold_60 : fetch 153 60 = some (.if_icmp .ne 11, 63, 0, 0, 0, 0) := by decide +kernel
theorem i_X8_stepTold_63 : fetch 153 63 = some (.aload_n 0, 64, 0, 0, 0, 0) := by decide +kernel
theorem i_X8_stepTold_64 : fetch 153 64 = some (.iload_n 1, 65, 0, 0, 0, 0) := by decide +kernel
theorem i_X8_stepTold_65 : fetch 153 65 = some (.invokevirtual 199, 68, 152, 0, 0, 1215) := by decide +kernel
theorem i_X8_stepTold_68 : fetch 153 68 = some (.goto 5, 71, 0, 0, 0, 0) := by decide +kernel
theorem i_X8_stepTold_71 : fetch 153 71 = some (.bipush (-7), 73, 0, 0, 0, 0) := by decide +kernel
theorem i_X8_stepTold_73 : fetch 153 73 = some (.ireturn, 74, 0, 0, 0, 0) := by decide +kernel
def f_X8_stepTold_0 (v0 : Nat) (v1 : Int32) (v2 : Int32) (h : Hp) : Option (Int32 × Hp) :=
  if okO h v0 8 then
  (f_X8_in v1 0 ((gI h v0 5) - 1) h).bind fun o2 =>
  if o2.1 ≠ 0 then
    if v2 ≠ 0 then
      if v2 ≠ 1 then
        if v2 ≠ 2 then
          if v2 ≠ 3 then
            some ((-7), o2.2)
          else
            if okO o2.2 v0 8 then
            (f_X8_takesOf v0 v1 o2.2).bind fun o8 =>
            some (o8.1, o8.2)
            else none
        else
          if okO o2.2 v0 8 then
          (gR o2.2 v0 8).bind fun a11 =>
          if okI o2.2 a11 v1 then
          some ((gI o2.2 a11 (ix v1)), o2.2)
          else none
          else none
      else
        if okO o2.2 v0 8 then
        (gR o2.2 v0 7).bind fun a14 =>
        if okI o2.2 a14 v1 then
        some ((gI o2.2 a14 (ix v1)), o2.2)
        else none
        else none
    else
      if okO o2.2 v0 8 then
      (gR o2.2 v0 6).bind fun a17 =>
      if okI o2.2 a17 v1 then
      some ((gI o2.2 a17 (ix v1)), o2.2)
      else none
      else none
  else
    some ((-5), o2.2)
  else none
set_option maxRecDepth 100000 in
set_option maxHeartbeats 4000000 in
theorem r_X8_stepTold_0 {X : Nat → Int32} {d : Nat} (hd : 1 ≤ (d + 1)) {v0 : Nat} {v1 : Int32} {v2 : Int32} {h : Hp} {o : (Int32 × Hp)} (hf : f_X8_stepTold_0 v0 v1 v2 h = some o) : Run X (d + 1) 153 0 [some (.ref v0), some (.int v1), some (.int v2)] [] h (some (.int o.1), o.2) := by
  unfold f_X8_stepTold_0 at hf
  refine rs_iload_n i_X8_stepTold_0 rfl ?_
  refine rs_iconst i_X8_stepTold_1 (v := 0) (by decide) ?_
  refine rs_aload_n i_X8_stepTold_2 rfl ?_
  obtain ⟨c1, hf⟩ := ite_some hf
  refine rs_getI i_X8_stepTold_3 (by decide) (by decide) c1 ?_
  refine rs_iconst i_X8_stepTold_6 (v := 1) (by decide) ?_
  refine rs_isub i_X8_stepTold_7 ?_
  obtain ⟨o2, e2, hf⟩ := bind_some hf
  refine rs_inS i_X8_stepTold_8 (by decide) m_X8_in rfl (As := [.int v1, .int 0, .int ((gI h v0 5) - 1)]) (rest := []) rfl rfl (Nat.le_of_ble_eq_true rfl) (c_X8_in (by omega) e2) (st' := [.int o2.1]) rfl ?_
  by_cases c3 : o2.1 ≠ 0
  · replace hf := (if_pos c3).symm.trans hf
    refine rs_ifT i_X8_stepTold_11 (ct_ne c3) (tg := 17) (by decide) ?_
    refine rs_iload_n i_X8_stepTold_17 rfl ?_
    by_cases c4 : v2 ≠ 0
    · replace hf := (if_pos c4).symm.trans hf
      refine rs_ifT i_X8_stepTold_18 (ct_ne c4) (tg := 30) (by decide) ?_
      refine rs_iload_n i_X8_stepTold_30 rfl ?_
      refine rs_iconst i_X8_stepTold_31 (v := 1) (by decide) ?_
      by_cases c5 : v2 ≠ 1
      · replace hf := (if_pos c5).symm.trans hf
        refine rs_icT i_X8_stepTold_32 (ct_ne c5) (tg := 44) (by decide) ?_
        refine rs_iload_n i_X8_stepTold_44 rfl ?_
        refine rs_iconst i_X8_stepTold_45 (v := 2) (by decide) ?_
        by_cases c6 : v2 ≠ 2
        · replace hf := (if_pos c6).symm.trans hf
          refine rs_icT i_X8_stepTold_46 (ct_ne c6) (tg := 58) (by decide) ?_
          refine rs_iload_n i_X8_stepTold_58 rfl ?_
          refine rs_iconst i_X8_stepTold_59 (v := 3) (by decide) ?_
          by_cases c7 : v2 ≠ 3
          · replace hf := (if_pos c7).symm.trans hf
            refine rs_icT i_X8_stepTold_60 (ct_ne c7) (tg := 71) (by decide) ?_
            refine rs_bipush i_X8_stepTold_71 (v := (-7)) (by decide) ?_
            have hf := Option.some.inj hf
            subst hf
            exact rs_iret i_X8_stepTold_73 m_X8_stepTold rfl
          · replace hf := (if_neg c7).symm.trans hf
            refine rs_icF i_X8_stepTold_60 (cf_ne c7) ?_
            refine rs_aload_n i_X8_stepTold_63 rfl ?_
            refine rs_iload_n i_X8_stepTold_64 rfl ?_
            obtain ⟨c9, hf⟩ := ite_some hf
            obtain ⟨o8, e8, hf⟩ := bind_some hf
            refine rs_inV i_X8_stepTold_65 m_X8_takesOf rfl (As := [.int v1]) (rest := []) rfl rfl (Nat.le_of_ble_eq_true rfl) c9 (c_X8_takesOf (by omega) e8) (st' := [.int o8.1]) rfl ?_
            refine rs_goto i_X8_stepTold_68 (tg := 73) (by decide) ?_
            have hf := Option.some.inj hf
            subst hf
            exact rs_iret i_X8_stepTold_73 m_X8_stepTold rfl
        · replace hf := (if_neg c6).symm.trans hf
          refine rs_icF i_X8_stepTold_46 (cf_ne c6) ?_
          refine rs_aload_n i_X8_stepTold_49 rfl ?_
          obtain ⟨c10, hf⟩ := ite_some hf
          obtain ⟨a11, e11, hf⟩ := bind_some hf
          refine rs_getR i_X8_stepTold_50 (by decide) (by decide) c10 e11 ?_
          refine rs_iload_n i_X8_stepTold_53 rfl ?_
          obtain ⟨c12, hf⟩ := ite_some hf
          refine rs_iald i_X8_stepTold_54 c12 ?_
          refine rs_goto i_X8_stepTold_55 (tg := 73) (by decide) ?_
          have hf := Option.some.inj hf
          subst hf
          exact rs_iret i_X8_stepTold_73 m_X8_stepTold rfl
      · replace hf := (if_neg c5).symm.trans hf
        refine rs_icF i_X8_stepTold_32 (cf_ne c5) ?_
        refine rs_aload_n i_X8_stepTold_35 rfl ?_
        obtain ⟨c13, hf⟩ := ite_some hf
        obtain ⟨a14, e14, hf⟩ := bind_some hf
        refine rs_getR i_X8_stepTold_36 (by decide) (by decide) c13 e14 ?_
        refine rs_iload_n i_X8_stepTold_39 rfl ?_
        obtain ⟨c15, hf⟩ := ite_some hf
        refine rs_iald i_X8_stepTold_40 c15 ?_
        refine rs_goto i_X8_stepTold_41 (tg := 73) (by decide) ?_
        have hf := Option.some.inj hf
        subst hf
        exact rs_iret i_X8_stepTold_73 m_X8_stepTold rfl
    · replace hf := (if_neg c4).symm.trans hf
      refine rs_ifF i_X8_stepTold_18 (cf_ne c4) ?_
      refine rs_aload_n i_X8_stepTold_21 rfl ?_
      obtain ⟨c16, hf⟩ := ite_some hf
      obtain ⟨a17, e17, hf⟩ := bind_some hf
      refine rs_getR i_X8_stepTold_22 (by decide) (by decide) c16 e17 ?_
      refine rs_iload_n i_X8_stepTold_25 rfl ?_
      obtain ⟨c18, hf⟩ := ite_some hf
      refine rs_iald i_X8_stepTold_26 c18 ?_
      refine rs_goto i_X8_stepTold_27 (tg := 73) (by decide) ?_
      have hf := Option.some.inj hf
      subst hf
      exact rs_iret i_X8_stepTold_73 m_X8_stepTold rfl
  · replace hf := (if_neg c3).symm.trans hf
    refine rs_ifF i_X8_stepTold_11 (cf_ne c3) ?_
    refine rs_bipush i_X8_stepTold_14 (v := (-5)) (by decide) ?_
    have hf := Option.some.inj hf
    subst hf
    exact rs_iret i_X8_stepTold_16 m_X8_stepTold rfl
def f_X8_stepTold (v0 : Nat) (v1 : Int32) (v2 : Int32) (h : Hp) : Option (Int32 × Hp) := f_X8_stepTold_0 v0 v1 v2 h
theorem c_X8_stepTold {X : Nat → Int32} {d : Nat} (hd : 1 ≤ d) {v0 : Nat} {v1 : Int32} {v2 : Int32} {h : Hp} {o : (Int32 × Hp)} (hf : f_X8_stepTold v0 v1 v2 h = some o) : Calls X d 153 [.ref v0, .int v1, .int v2] h (some (.int o.1), o.2) := by
  obtain ⟨d, rfl⟩ : ∃ z, d = z + 1 := ⟨d - 1, by omega⟩
  exact ⟨_, rfl, r_X8_stepTold_0 hd hf⟩
theorem i_X8_thickOf_0 : fetch 154 0 = some (.aload_n 0, 1, 0, 0, 0, 0) := by decide +kernel
theorem i_X8_thickOf_1 : fetch 154 1 = some (.getfield 75, 4, 8, 37, 0, 1046) := by decide +kernel
theorem i_X8_thickOf_4 : fetch 154 4 = some (.iload_n 1, 5, 0, 0, 0, 0) := by decide +kernel
theorem i_X8_thickOf_5 : fetch 154 5 = some (.iaload, 6, 0, 0, 0, 0) := by decide +kernel
theorem i_X8_thickOf_6 : fetch 154 6 = some (.aload_n 0, 7, 0, 0, 0, 0) := by decide +kernel
theorem i_X8_thickOf_7 : fetch 154 7 = some (.getfield 78, 10, 8, 38, 0, 1047) := by decide +kernel
theorem i_X8_thickOf_10 : fetch 154 10 = some (.iload_n 1, 11, 0, 0, 0, 0) := by decide +kernel
theorem i_X8_thickOf_11 : fetch 154 11 = some (.iaload, 12, 0, 0, 0, 0) := by decide +kernel
theorem i_X8_thickOf_12 : fetch 154 12 = some (.idiv, 13, 0, 0, 0, 0) := by decide +kernel
theorem i_X8_thickOf_13 : fetch 154 13 = some (.ireturn, 14, 0, 0, 0, 0) := by decide +kernel
def f_X8_thickOf_0 (v0 : Nat) (v1 : Int32) (h : Hp) : Option (Int32 × Hp) :=
  if okO h v0 8 then
  (gR h v0 37).bind fun a2 =>
  if okI h a2 v1 then
  (gR h v0 38).bind fun a4 =>
  if okI h a4 v1 then
  if ¬ (gI h a4 (ix v1)) = 0 then
  some (((gI h a2 (ix v1)) / (gI h a4 (ix v1))), h)
  else none
  else none
  else none
  else none
set_option maxRecDepth 100000 in
set_option maxHeartbeats 4000000 in
theorem r_X8_thickOf_0 {X : Nat → Int32} {d : Nat} (hd : 0 ≤ d) {v0 : Nat} {v1 : Int32} {h : Hp} {o : (Int32 × Hp)} (hf : f_X8_thickOf_0 v0 v1 h = some o) : Run X d 154 0 [some (.ref v0), some (.int v1)] [] h (some (.int o.1), o.2) := by
  unfold f_X8_thickOf_0 at hf
  refine rs_aload_n i_X8_thickOf_0 rfl ?_
  obtain ⟨c1, hf⟩ := ite_some hf
  obtain ⟨a2, e2, hf⟩ := bind_some hf
  refine rs_getR i_X8_thickOf_1 (by decide) (by decide) c1 e2 ?_
  refine rs_iload_n i_X8_thickOf_4 rfl ?_
  obtain ⟨c3, hf⟩ := ite_some hf
  refine rs_iald i_X8_thickOf_5 c3 ?_
  refine rs_aload_n i_X8_thickOf_6 rfl ?_
  obtain ⟨a4, e4, hf⟩ := bind_some hf
  refine rs_getR i_X8_thickOf_7 (by decide) (by decide) c1 e4 ?_
  refine rs_iload_n i_X8_thickOf_10 rfl ?_
  obtain ⟨c5, hf⟩ := ite_some hf
  refine rs_iald i_X8_thickOf_11 c5 ?_
  obtain ⟨c6, hf⟩ := ite_some hf
  refine rs_idiv i_X8_thickOf_12 c6 ?_
  have hf := Option.some.inj hf
  subst hf
  exact rs_iret i_X8_thickOf_13 m_X8_thickOf rfl
def f_X8_thickOf (v0 : Nat) (v1 : Int32) (h : Hp) : Option (Int32 × Hp) := f_X8_thickOf_0 v0 v1 h
theorem c_X8_thickOf {X : Nat → Int32} {d : Nat} (hd : 0 ≤ d) {v0 : Nat} {v1 : Int32} {h : Hp} {o : (Int32 × Hp)} (hf : f_X8_thickOf v0 v1 h = some o) : Calls X d 154 [.ref v0, .int v1] h (some (.int o.1), o.2) := by
  exact ⟨_, rfl, r_X8_thickOf_0 hd hf⟩
theorem i_X8_asks_0 : fetch 155 0 = some (.aload_n 0, 1, 0, 0, 0, 0) := by decide +kernel
theorem i_X8_asks_1 : fetch 155 1 = some (.getfield 72, 4, 8, 36, 0, 1045) := by decide +kernel
theorem i_X8_asks_4 : fetch 155 4 = some (.iconst 0, 5, 0, 0, 0, 0) := by decide +kernel
theorem i_X8_asks_5 : fetch 155 5 = some (.aload_n 0, 6, 0, 0, 0, 0) := by decide +kernel
theorem i_X8_asks_6 : fetch 155 6 = some (.getfield 17, 9, 8, 2, 0, 1011) := by decide +kernel
theorem i_X8_asks_9 : fetch 155 9 = some (.iastore, 10, 0, 0, 0, 0) := by decide +kernel
theorem i_X8_asks_10 : fetch 155 10 = some (.aload_n 0, 11, 0, 0, 0, 0) := by decide +kernel
theorem i_X8_asks_11 : fetch 155 11 = some (.getfield 72, 14, 8, 36, 0, 1045) := by decide +kernel
theorem i_X8_asks_14 : fetch 155 14 = some (.iconst 1, 15, 0, 0, 0, 0) := by decide +kernel
theorem i_X8_asks_15 : fetch 155 15 = some (.aload_n 0, 16, 0, 0, 0, 0) := by decide +kernel
theorem i_X8_asks_16 : fetch 155 16 = some (.iload_n 2, 17, 0, 0, 0, 0) := by decide +kernel
theorem i_X8_asks_17 : fetch 155 17 = some (.invokevirtual 202, 20, 154, 0, 0, 1256) := by decide +kernel
theorem i_X8_asks_20 : fetch 155 20 = some (.iastore, 21, 0, 0, 0, 0) := by decide +kernel
theorem i_X8_asks_21 : fetch 155 21 = some (.aload_n 0, 22, 0, 0, 0, 0) := by decide +kernel
theorem i_X8_asks_22 : fetch 155 22 = some (.getfield 72, 25, 8, 36, 0, 1045) := by decide +kernel
theorem i_X8_asks_25 : fetch 155 25 = some (.iconst 2, 26, 0, 0, 0, 0) := by decide +kernel
theorem i_X8_asks_26 : fetch 155 26 = some (.aload_n 0, 27, 0, 0, 0, 0) := by decide +kernel
theorem i_X8_asks_27 : fetch 155 27 = some (.getfield 81, 30, 8, 39, 0, 1048) := by decide +kernel
theorem i_X8_asks_30 : fetch 155 30 = some (.iload_n 2, 31, 0, 0, 0, 0) := by decide +kernel
theorem i_X8_asks_31 : fetch 155 31 = some (.iaload, 32, 0, 0, 0, 0) := by decide +kernel
theorem i_X8_asks_32 : fetch 155 32 = some (.iastore, 33, 0, 0, 0, 0) := by decide +kernel
theorem i_X8_asks_33 : fetch 155 33 = some (.aload_n 0, 34, 0, 0, 0, 0) := by decide +kernel
theorem i_X8_asks_34 : fetch 155 34 = some (.getfield 72, 37, 8, 36, 0, 1045) := by decide +kernel
theorem i_X8_asks_37 : fetch 155 37 = some (.iconst 3, 38, 0, 0, 0, 0) := by decide +kernel
theorem i_X8_asks_38 : fetch 155 38 = some (.iload_n 3, 39, 0, 0, 0, 0) := by decide +kernel
theorem i_X8_asks_39 : fetch 155 39 = some (.iastore, 40, 0, 0, 0, 0) := by decide +kernel
theorem i_X8_asks_40 : fetch 155 40 = some (.aload_n 0, 41, 0, 0, 0, 0) := by decide +kernel
theorem i_X8_asks_41 : fetch 155 41 = some (.getfield 72, 44, 8, 36, 0, 1045) := by decide +kernel
theorem i_X8_asks_44 : fetch 155 44 = some (.iconst 4, 45, 0, 0, 0, 0) := by decide +kernel
theorem i_X8_asks_45 : fetch 155 45 = some (.aload_n 0, 46, 0, 0, 0, 0) := by decide +kernel
theorem i_X8_asks_46 : fetch 155 46 = some (.getfield 205, 49, 8, 40, 0, 1049) := by decide +kernel
theorem i_X8_asks_49 : fetch 155 49 = some (.iastore, 50, 0, 0, 0, 0) := by decide +kernel
theorem i_X8_asks_50 : fetch 155 50 = some (.aload_n 0, 51, 0, 0, 0, 0) := by decide +kernel
theorem i_X8_asks_51 : fetch 155 51 = some (.getfield 72, 54, 8, 36, 0, 1045) := by decide +kernel
theorem i_X8_asks_54 : fetch 155 54 = some (.iconst 5, 55, 0, 0, 0, 0) := by decide +kernel
theorem i_X8_asks_55 : fetch 155 55 = some (.aload_n 0, 56, 0, 0, 0, 0) := by decide +kernel
theorem i_X8_asks_56 : fetch 155 56 = some (.getfield 208, 59, 8, 41, 0, 1050) := by decide +kernel
theorem i_X8_asks_59 : fetch 155 59 = some (.iastore, 60, 0, 0, 0, 0) := by decide +kernel
theorem i_X8_asks_60 : fetch 155 60 = some (.aload_n 0, 61, 0, 0, 0, 0) := by decide +kernel
theorem i_X8_asks_61 : fetch 155 61 = some (.iload_n 1, 62, 0, 0, 0, 0) := by decide +kernel
theorem i_X8_asks_62 : fetch 155 62 = some (.invokevirtual 211, 65, 148, 0, 0, 1260) := by decide +kernel
theorem i_X8_asks_65 : fetch 155 65 = some (.ireturn, 66, 0, 0, 0, 0) := by decide +kernel
def f_X8_asks_60 (n : Nat) (v0 : Nat) (v1 : Int32) (h : Hp) : Option (Int32 × Hp) :=
  if okO h v0 8 then
  (f_X8_worth n v0 v1 h).bind fun o1 =>
  some (o1.1, o1.2)
  else none
set_option maxRecDepth 100000 in
set_option maxHeartbeats 4000000 in
theorem r_X8_asks_60 {X : Nat → Int32} {d : Nat} (hd : 2 ≤ (d + 1)) {n : Nat} {v0 : Nat} {v1 : Int32} {d2 : Int32} {d3 : Int32} {h : Hp} {o : (Int32 × Hp)} (hf : f_X8_asks_60 n v0 v1 h = some o) : Run X (d + 1) 155 60 [some (.ref v0), some (.int v1), some (.int d2), some (.int d3)] [] h (some (.int o.1), o.2) := by
  unfold f_X8_asks_60 at hf
  refine rs_aload_n i_X8_asks_60 rfl ?_
  refine rs_iload_n i_X8_asks_61 rfl ?_
  obtain ⟨c2, hf⟩ := ite_some hf
  obtain ⟨o1, e1, hf⟩ := bind_some hf
  refine rs_inV i_X8_asks_62 m_X8_worth rfl (As := [.int v1]) (rest := []) rfl rfl (Nat.le_of_ble_eq_true rfl) c2 (c_X8_worth (by omega) e1) (st' := [.int o1.1]) rfl ?_
  have hf := Option.some.inj hf
  subst hf
  exact rs_iret i_X8_asks_65 m_X8_asks rfl
def f_X8_asks_50 (n : Nat) (v0 : Nat) (v1 : Int32) (h : Hp) : Option (Int32 × Hp) :=
  if okO h v0 8 then
  (gR h v0 36).bind fun a2 =>
  if okI h a2 5 then
  f_X8_asks_60 n v0 v1 (hsi h a2 (ix 5) (gI h v0 41))
  else none
  else none
set_option maxRecDepth 100000 in
set_option maxHeartbeats 4000000 in
theorem r_X8_asks_50 {X : Nat → Int32} {d : Nat} (hd : 2 ≤ (d + 1)) {n : Nat} {v0 : Nat} {v1 : Int32} {d2 : Int32} {d3 : Int32} {h : Hp} {o : (Int32 × Hp)} (hf : f_X8_asks_50 n v0 v1 h = some o) : Run X (d + 1) 155 50 [some (.ref v0), some (.int v1), some (.int d2), some (.int d3)] [] h (some (.int o.1), o.2) := by
  unfold f_X8_asks_50 at hf
  refine rs_aload_n i_X8_asks_50 rfl ?_
  obtain ⟨c1, hf⟩ := ite_some hf
  obtain ⟨a2, e2, hf⟩ := bind_some hf
  refine rs_getR i_X8_asks_51 (by decide) (by decide) c1 e2 ?_
  refine rs_iconst i_X8_asks_54 (v := 5) (by decide) ?_
  refine rs_aload_n i_X8_asks_55 rfl ?_
  refine rs_getI i_X8_asks_56 (by decide) (by decide) c1 ?_
  obtain ⟨c3, hf⟩ := ite_some hf
  refine rs_iast i_X8_asks_59 c3 ?_
  exact r_X8_asks_60 hd hf
def f_X8_asks_40 (n : Nat) (v0 : Nat) (v1 : Int32) (h : Hp) : Option (Int32 × Hp) :=
  if okO h v0 8 then
  (gR h v0 36).bind fun a2 =>
  if okI h a2 4 then
  f_X8_asks_50 n v0 v1 (hsi h a2 (ix 4) (gI h v0 40))
  else none
  else none
set_option maxRecDepth 100000 in
set_option maxHeartbeats 4000000 in
theorem r_X8_asks_40 {X : Nat → Int32} {d : Nat} (hd : 2 ≤ (d + 1)) {n : Nat} {v0 : Nat} {v1 : Int32} {d2 : Int32} {d3 : Int32} {h : Hp} {o : (Int32 × Hp)} (hf : f_X8_asks_40 n v0 v1 h = some o) : Run X (d + 1) 155 40 [some (.ref v0), some (.int v1), some (.int d2), some (.int d3)] [] h (some (.int o.1), o.2) := by
  unfold f_X8_asks_40 at hf
  refine rs_aload_n i_X8_asks_40 rfl ?_
  obtain ⟨c1, hf⟩ := ite_some hf
  obtain ⟨a2, e2, hf⟩ := bind_some hf
  refine rs_getR i_X8_asks_41 (by decide) (by decide) c1 e2 ?_
  refine rs_iconst i_X8_asks_44 (v := 4) (by decide) ?_
  refine rs_aload_n i_X8_asks_45 rfl ?_
  refine rs_getI i_X8_asks_46 (by decide) (by decide) c1 ?_
  obtain ⟨c3, hf⟩ := ite_some hf
  refine rs_iast i_X8_asks_49 c3 ?_
  exact r_X8_asks_50 hd hf
def f_X8_asks_33 (n : Nat) (v0 : Nat) (v1 : Int32) (v3 : Int32) (h : Hp) : Option (Int32 × Hp) :=
  if okO h v0 8 then
  (gR h v0 36).bind fun a2 =>
  if okI h a2 3 then
  f_X8_asks_40 n v0 v1 (hsi h a2 (ix 3) v3)
  else none
  else none
set_option maxRecDepth 100000 in
set_option maxHeartbeats 4000000 in
theorem r_X8_asks_33 {X : Nat → Int32} {d : Nat} (hd : 2 ≤ (d + 1)) {n : Nat} {v0 : Nat} {v1 : Int32} {v3 : Int32} {d2 : Int32} {h : Hp} {o : (Int32 × Hp)} (hf : f_X8_asks_33 n v0 v1 v3 h = some o) : Run X (d + 1) 155 33 [some (.ref v0), some (.int v1), some (.int d2), some (.int v3)] [] h (some (.int o.1), o.2) := by
  unfold f_X8_asks_33 at hf
  refine rs_aload_n i_X8_asks_33 rfl ?_
  obtain ⟨c1, hf⟩ := ite_some hf
  obtain ⟨a2, e2, hf⟩ := bind_some hf
  refine rs_getR i_X8_asks_34 (by decide) (by decide) c1 e2 ?_
  refine rs_iconst i_X8_asks_37 (v := 3) (by decide) ?_
  refine rs_iload_n i_X8_asks_38 rfl ?_
  obtain ⟨c3, hf⟩ := ite_some hf
  refine rs_iast i_X8_asks_39 c3 ?_
  exact r_X8_asks_40 hd hf
def f_X8_asks_21 (n : Nat) (v0 : Nat) (v1 : Int32) (v2 : Int32) (v3 : Int32) (h : Hp) : Option (Int32 × Hp) :=
  if okO h v0 8 then
  (gR h v0 36).bind fun a2 =>
  (gR h v0 39).bind fun a3 =>
  if okI h a3 v2 then
  if okI h a2 2 then
  f_X8_asks_33 n v0 v1 v3 (hsi h a2 (ix 2) (gI h a3 (ix v2)))
  else none
  else none
  else none
set_option maxRecDepth 100000 in
set_option maxHeartbeats 4000000 in
theorem r_X8_asks_21 {X : Nat → Int32} {d : Nat} (hd : 2 ≤ (d + 1)) {n : Nat} {v0 : Nat} {v1 : Int32} {v2 : Int32} {v3 : Int32} {h : Hp} {o : (Int32 × Hp)} (hf : f_X8_asks_21 n v0 v1 v2 v3 h = some o) : Run X (d + 1) 155 21 [some (.ref v0), some (.int v1), some (.int v2), some (.int v3)] [] h (some (.int o.1), o.2) := by
  unfold f_X8_asks_21 at hf
  refine rs_aload_n i_X8_asks_21 rfl ?_
  obtain ⟨c1, hf⟩ := ite_some hf
  obtain ⟨a2, e2, hf⟩ := bind_some hf
  refine rs_getR i_X8_asks_22 (by decide) (by decide) c1 e2 ?_
  refine rs_iconst i_X8_asks_25 (v := 2) (by decide) ?_
  refine rs_aload_n i_X8_asks_26 rfl ?_
  obtain ⟨a3, e3, hf⟩ := bind_some hf
  refine rs_getR i_X8_asks_27 (by decide) (by decide) c1 e3 ?_
  refine rs_iload_n i_X8_asks_30 rfl ?_
  obtain ⟨c4, hf⟩ := ite_some hf
  refine rs_iald i_X8_asks_31 c4 ?_
  obtain ⟨c5, hf⟩ := ite_some hf
  refine rs_iast i_X8_asks_32 c5 ?_
  exact r_X8_asks_33 hd hf
def f_X8_asks_10 (n : Nat) (v0 : Nat) (v1 : Int32) (v2 : Int32) (v3 : Int32) (h : Hp) : Option (Int32 × Hp) :=
  if okO h v0 8 then
  (gR h v0 36).bind fun a2 =>
  (f_X8_thickOf v0 v2 h).bind fun o3 =>
  if okI o3.2 a2 1 then
  f_X8_asks_21 n v0 v1 v2 v3 (hsi o3.2 a2 (ix 1) o3.1)
  else none
  else none
set_option maxRecDepth 100000 in
set_option maxHeartbeats 4000000 in
theorem r_X8_asks_10 {X : Nat → Int32} {d : Nat} (hd : 2 ≤ (d + 1)) {n : Nat} {v0 : Nat} {v1 : Int32} {v2 : Int32} {v3 : Int32} {h : Hp} {o : (Int32 × Hp)} (hf : f_X8_asks_10 n v0 v1 v2 v3 h = some o) : Run X (d + 1) 155 10 [some (.ref v0), some (.int v1), some (.int v2), some (.int v3)] [] h (some (.int o.1), o.2) := by
  unfold f_X8_asks_10 at hf
  refine rs_aload_n i_X8_asks_10 rfl ?_
  obtain ⟨c1, hf⟩ := ite_some hf
  obtain ⟨a2, e2, hf⟩ := bind_some hf
  refine rs_getR i_X8_asks_11 (by decide) (by decide) c1 e2 ?_
  refine rs_iconst i_X8_asks_14 (v := 1) (by decide) ?_
  refine rs_aload_n i_X8_asks_15 rfl ?_
  refine rs_iload_n i_X8_asks_16 rfl ?_
  obtain ⟨o3, e3, hf⟩ := bind_some hf
  refine rs_inV i_X8_asks_17 m_X8_thickOf rfl (As := [.int v2]) (rest := [.int 1, .ref a2]) rfl rfl (Nat.le_of_ble_eq_true rfl) c1 (c_X8_thickOf (by omega) e3) (st' := [.int o3.1, .int 1, .ref a2]) rfl ?_
  obtain ⟨c4, hf⟩ := ite_some hf
  refine rs_iast i_X8_asks_20 c4 ?_
  exact r_X8_asks_21 hd hf
def f_X8_asks_0 (n : Nat) (v0 : Nat) (v1 : Int32) (v2 : Int32) (v3 : Int32) (h : Hp) : Option (Int32 × Hp) :=
  if okO h v0 8 then
  (gR h v0 36).bind fun a2 =>
  if okI h a2 0 then
  f_X8_asks_10 n v0 v1 v2 v3 (hsi h a2 (ix 0) (gI h v0 2))
  else none
  else none
set_option maxRecDepth 100000 in
set_option maxHeartbeats 4000000 in
theorem r_X8_asks_0 {X : Nat → Int32} {d : Nat} (hd : 2 ≤ (d + 1)) {n : Nat} {v0 : Nat} {v1 : Int32} {v2 : Int32} {v3 : Int32} {h : Hp} {o : (Int32 × Hp)} (hf : f_X8_asks_0 n v0 v1 v2 v3 h = some o) : Run X (d + 1) 155 0 [some (.ref v0), some (.int v1), some (.int v2), some (.int v3)] [] h (some (.int o.1), o.2) := by
  unfold f_X8_asks_0 at hf
  refine rs_aload_n i_X8_asks_0 rfl ?_
  obtain ⟨c1, hf⟩ := ite_some hf
  obtain ⟨a2, e2, hf⟩ := bind_some hf
  refine rs_getR i_X8_asks_1 (by decide) (by decide) c1 e2 ?_
  refine rs_iconst i_X8_asks_4 (v := 0) (by decide) ?_
  refine rs_aload_n i_X8_asks_5 rfl ?_
  refine rs_getI i_X8_asks_6 (by decide) (by decide) c1 ?_
  obtain ⟨c3, hf⟩ := ite_some hf
  refine rs_iast i_X8_asks_9 c3 ?_
  exact r_X8_asks_10 hd hf
def f_X8_asks (n : Nat) (v0 : Nat) (v1 : Int32) (v2 : Int32) (v3 : Int32) (h : Hp) : Option (Int32 × Hp) := f_X8_asks_0 n v0 v1 v2 v3 h
theorem c_X8_asks {X : Nat → Int32} {d : Nat} (hd : 2 ≤ d) {n : Nat} {v0 : Nat} {v1 : Int32} {v2 : Int32} {v3 : Int32} {h : Hp} {o : (Int32 × Hp)} (hf : f_X8_asks n v0 v1 v2 v3 h = some o) : Calls X d 155 [.ref v0, .int v1, .int v2, .int v3] h (some (.int o.1), o.2) := by
  obtain ⟨d, rfl⟩ : ∃ z, d = z + 1 := ⟨d - 1, by omega⟩
  exact ⟨_, rfl, r_X8_asks_0 hd hf⟩
theorem i_X8_allLength_0 : fetch 156 0 = some (.iconst 0, 1, 0, 0, 0, 0) := by decide +kernel
theorem i_X8_allLength_1 : fetch 156 1 = some (.istore_n 1, 2, 0, 0, 0, 0) := by decide +kernel
theorem i_X8_allLength_2 : fetch 156 2 = some (.iconst 0, 3, 0, 0, 0, 0) := by decide +kernel
theorem i_X8_allLength_3 : fetch 156 3 = some (.istore_n 2, 4, 0, 0, 0, 0) := by decide +kernel
theorem i_X8_allLength_4 : fetch 156 4 = some (.iload_n 2, 5, 0, 0, 0, 0) := by decide +kernel
theorem i_X8_allLength_5 : fetch 156 5 = some (.bipush 12, 7, 0, 0, 0, 0) := by decide +kernel
theorem i_X8_allLength_7 : fetch 156 7 = some (.if_icmp .ge 18, 10, 0, 0, 0, 0) := by decide +kernel
theorem i_X8_allLength_10 : fetch 156 10 = some (.iload_n 1, 11, 0, 0, 0, 0) := by decide +kernel
theorem i_X8_allLength_11 : fetch 156 11 = some (.aload_n 0, 12, 0, 0, 0, 0) := by decide +kernel
theorem i_X8_allLength_12 : fetch 156 12 = some (.getfield 78, 15, 8, 38, 0, 1047) := by decide +kernel
theorem i_X8_allLength_15 : fetch 156 15 = some (.iload_n 2, 16, 0, 0, 0, 0) := by decide +kernel
theorem i_X8_allLength_16 : fetch 156 16 = some (.iaload, 17, 0, 0, 0, 0) := by decide +kernel
theorem i_X8_allLength_17 : fetch 156 17 = some (.iadd, 18, 0, 0, 0, 0) := by decide +kernel
theorem i_X8_allLength_18 : fetch 156 18 = some (.istore_n 1, 19, 0, 0, 0, 0) := by decide +kernel
theorem i_X8_allLength_19 : fetch 156 19 = some (.iinc 2 1, 22, 0, 0, 0, 0) := by decide +kernel
theorem i_X8_allLength_22 : fetch 156 22 = some (.goto (-18), 25, 0, 0, 0, 0) := by decide +kernel
theorem i_X8_allLength_25 : fetch 156 25 = some (.iload_n 1, 26, 0, 0, 0, 0) := by decide +kernel
theorem i_X8_allLength_26 : fetch 156 26 = some (.ireturn, 27, 0, 0, 0, 0) := by decide +kernel
def f_X8_allLength_4 (n : Nat) : Nat → Nat → Int32 → Int32 → Hp → Option (Int32 × Hp)
  | 0, _, _, _, _ => none
  | m + 1, v0, v1, v2, h =>
    if 12 ≤ v2 then
      some (v1, h)
    else
      if okO h v0 8 then
      (gR h v0 38).bind fun a3 =>
      if okI h a3 v2 then
      (f_X8_allLength_4 n m) v0 (v1 + (gI h a3 (ix v2))) (v2 + 1) h
      else none
      else none
set_option maxRecDepth 100000 in
set_option maxHeartbeats 4000000 in
theorem r_X8_allLength_4 {X : Nat → Int32} {d : Nat} (hd : 0 ≤ d) {n : Nat} : ∀ (m : Nat) (v0 : Nat) (v1 : Int32) (v2 : Int32) (h : Hp) (o : (Int32 × Hp)), f_X8_allLength_4 n m v0 v1 v2 h = some o → Run X d 156 4 [some (.ref v0), some (.int v1), some (.int v2)] [] h (some (.int o.1), o.2) := by
  intro m
  induction m with
  | zero => intro v0 v1 v2 h o hf; cases hf
  | succ m ih =>
    intro v0 v1 v2 h o hf
    rw [f_X8_allLength_4] at hf
    refine rs_iload_n i_X8_allLength_4 rfl ?_
    refine rs_bipush i_X8_allLength_5 (v := 12) (by decide) ?_
    by_cases c1 : 12 ≤ v2
    · replace hf := (if_pos c1).symm.trans hf
      refine rs_icT i_X8_allLength_7 (ct_ge c1) (tg := 25) (by decide) ?_
      refine rs_iload_n i_X8_allLength_25 rfl ?_
      have hf := Option.some.inj hf
      subst hf
      exact rs_iret i_X8_allLength_26 m_X8_allLength rfl
    · replace hf := (if_neg c1).symm.trans hf
      refine rs_icF i_X8_allLength_7 (cf_ge c1) ?_
      refine rs_iload_n i_X8_allLength_10 rfl ?_
      refine rs_aload_n i_X8_allLength_11 rfl ?_
      obtain ⟨c2, hf⟩ := ite_some hf
      obtain ⟨a3, e3, hf⟩ := bind_some hf
      refine rs_getR i_X8_allLength_12 (by decide) (by decide) c2 e3 ?_
      refine rs_iload_n i_X8_allLength_15 rfl ?_
      obtain ⟨c4, hf⟩ := ite_some hf
      refine rs_iald i_X8_allLength_16 c4 ?_
      refine rs_iadd i_X8_allLength_17 ?_
      refine rs_istore_n i_X8_allLength_18 (Nat.le_of_ble_eq_true rfl) (lv' := [some (.ref v0), some (.int (v1 + (gI h a3 (ix v2)))), some (.int v2)]) rfl ?_
      refine rs_iinc i_X8_allLength_19 rfl (v := v2 + 1) rfl (Nat.le_of_ble_eq_true rfl) (lv' := [some (.ref v0), some (.int (v1 + (gI h a3 (ix v2)))), some (.int (v2 + 1))]) rfl ?_
      refine rs_goto i_X8_allLength_22 (tg := 4) (by decide) ?_
      exact ih _ _ _ _ _ hf
def f_X8_allLength_0 (n : Nat) (v0 : Nat) (h : Hp) : Option (Int32 × Hp) :=
  f_X8_allLength_4 n n v0 0 0 h
set_option maxRecDepth 100000 in
set_option maxHeartbeats 4000000 in
theorem r_X8_allLength_0 {X : Nat → Int32} {d : Nat} (hd : 0 ≤ d) {n : Nat} {v0 : Nat} {h : Hp} {o : (Int32 × Hp)} (hf : f_X8_allLength_0 n v0 h = some o) : Run X d 156 0 [some (.ref v0), none, none] [] h (some (.int o.1), o.2) := by
  unfold f_X8_allLength_0 at hf
  refine rs_iconst i_X8_allLength_0 (v := 0) (by decide) ?_
  refine rs_istore_n i_X8_allLength_1 (Nat.le_of_ble_eq_true rfl) (lv' := [some (.ref v0), some (.int 0), none]) rfl ?_
  refine rs_iconst i_X8_allLength_2 (v := 0) (by decide) ?_
  refine rs_istore_n i_X8_allLength_3 (Nat.le_of_ble_eq_true rfl) (lv' := [some (.ref v0), some (.int 0), some (.int 0)]) rfl ?_
  exact r_X8_allLength_4 hd _ _ _ _ _ _ hf
def f_X8_allLength (n : Nat) (v0 : Nat) (h : Hp) : Option (Int32 × Hp) := f_X8_allLength_0 n v0 h
theorem c_X8_allLength {X : Nat → Int32} {d : Nat} (hd : 0 ≤ d) {n : Nat} {v0 : Nat} {h : Hp} {o : (Int32 × Hp)} (hf : f_X8_allLength n v0 h = some o) : Calls X d 156 [.ref v0] h (some (.int o.1), o.2) := by
  exact ⟨_, rfl, r_X8_allLength_0 hd hf⟩
theorem i_X8_drawsMore_0 : fetch 157 0 = some (.aload_n 0, 1, 0, 0, 0, 0) := by decide +kernel
theorem i_X8_drawsMore_1 : fetch 157 1 = some (.getfield 214, 4, 8, 45, 0, 1054) := by decide +kernel
theorem i_X8_drawsMore_4 : fetch 157 4 = some (.ifCond .ne 5, 7, 0, 0, 0, 0) := by decide +kernel
theorem i_X8_drawsMore_7 : fetch 157 7 = some (.iconst 0, 8, 0, 0, 0, 0) := by decide +kernel
theorem i_X8_drawsMore_8 : fetch 157 8 = some (.ireturn, 9, 0, 0, 0, 0) := by decide +kernel
theorem i_X8_drawsMore_9 : fetch 157 9 = some (.aload_n 0, 10, 0, 0, 0, 0) := by decide +kernel
theorem i_X8_drawsMore_10 : fetch 157 10 = some (.aload_n 0, 11, 0, 0, 0, 0) := by decide +kernel
theorem i_X8_drawsMore_11 : fetch 157 11 = some (.getfield 218, 14, 8, 46, 0, 1055) := by decide +kernel
theorem i_X8_drawsMore_14 : fetch 157 14 = some (.ldc2_w 222, 17, 0, 0, 48271, 1271) := by decide +kernel
theorem i_X8_drawsMore_17 : fetch 157 17 = some (.lmul, 18, 0, 0, 0, 0) := by decide +kernel
theorem i_X8_drawsMore_18 : fetch 157 18 = some (.ldc2_w 224, 21, 0, 0, 2147483647, 1272) := by decide +kernel
theorem i_X8_drawsMore_21 : fetch 157 21 = some (.lrem, 22, 0, 0, 0, 0) := by decide +kernel
theorem i_X8_drawsMore_22 : fetch 157 22 = some (.putfield 218, 25, 8, 46, 0, 1055) := by decide +kernel
theorem i_X8_drawsMore_25 : fetch 157 25 = some (.aload_n 0, 26, 0, 0, 0, 0) := by decide +kernel
theorem i_X8_drawsMore_26 : fetch 157 26 = some (.getfield 218, 29, 8, 46, 0, 1055) := by decide +kernel
theorem i_X8_drawsMore_29 : fetch 157 29 = some (.ldc2_w 226, 32, 0, 0, 5, 1273) := by decide +kernel
theorem i_X8_drawsMore_32 : fetch 157 32 = some (.lrem, 33, 0, 0, 0, 0) := by decide +kernel
theorem i_X8_drawsMore_33 : fetch 157 33 = some (.l2i, 34, 0, 0, 0, 0) := by decide +kernel
theorem i_X8_drawsMore_34 : fetch 157 34 = some (.iconst 2, 35, 0, 0, 0, 0) := by decide +kernel
theorem i_X8_drawsMore_35 : fetch 157 35 = some (.isub, 36, 0, 0, 0, 0) := by decide +kernel
theorem i_X8_drawsMore_36 : fetch 157 36 = some (.ireturn, 37, 0, 0, 0, 0) := by decide +kernel
def f_X8_drawsMore_25 (v0 : Nat) (h : Hp) : Option (Int32 × Hp) :=
  if okO h v0 8 then
  some (((Int64.toInt32 ((gL' h v0 46) - (gL' h v0 46) / 5 * 5)) - 2), h)
  else none
set_option maxRecDepth 100000 in
set_option maxHeartbeats 4000000 in
theorem r_X8_drawsMore_25 {X : Nat → Int32} {d : Nat} (hd : 0 ≤ d) {v0 : Nat} {h : Hp} {o : (Int32 × Hp)} (hf : f_X8_drawsMore_25 v0 h = some o) : Run X d 157 25 [some (.ref v0)] [] h (some (.int o.1), o.2) := by
  unfold f_X8_drawsMore_25 at hf
  refine rs_aload_n i_X8_drawsMore_25 rfl ?_
  obtain ⟨c1, hf⟩ := ite_some hf
  refine rs_getL i_X8_drawsMore_26 (by decide) (by decide) c1 ?_
  refine rs_ldc2 i_X8_drawsMore_29 (v := 5) (by decide) ?_
  refine rs_lrem i_X8_drawsMore_32 (by decide) ?_
  refine rs_l2i i_X8_drawsMore_33 ?_
  refine rs_iconst i_X8_drawsMore_34 (v := 2) (by decide) ?_
  refine rs_isub i_X8_drawsMore_35 ?_
  have hf := Option.some.inj hf
  subst hf
  exact rs_iret i_X8_drawsMore_36 m_X8_drawsMore rfl
def f_X8_drawsMore_0 (v0 : Nat) (h : Hp) : Option (Int32 × Hp) :=
  if okO h v0 8 then
  if (gI h v0 45) ≠ 0 then
    f_X8_drawsMore_25 v0 (hsl h v0 46 (((gL' h v0 46) * 48271) - ((gL' h v0 46) * 48271) / 2147483647 * 2147483647))
  else
    some (0, h)
  else none
set_option maxRecDepth 100000 in
set_option maxHeartbeats 4000000 in
theorem r_X8_drawsMore_0 {X : Nat → Int32} {d : Nat} (hd : 0 ≤ d) {v0 : Nat} {h : Hp} {o : (Int32 × Hp)} (hf : f_X8_drawsMore_0 v0 h = some o) : Run X d 157 0 [some (.ref v0)] [] h (some (.int o.1), o.2) := by
  unfold f_X8_drawsMore_0 at hf
  refine rs_aload_n i_X8_drawsMore_0 rfl ?_
  obtain ⟨c1, hf⟩ := ite_some hf
  refine rs_getI i_X8_drawsMore_1 (by decide) (by decide) c1 ?_
  by_cases c2 : (gI h v0 45) ≠ 0
  · replace hf := (if_pos c2).symm.trans hf
    refine rs_ifT i_X8_drawsMore_4 (ct_ne c2) (tg := 9) (by decide) ?_
    refine rs_aload_n i_X8_drawsMore_9 rfl ?_
    refine rs_aload_n i_X8_drawsMore_10 rfl ?_
    refine rs_getL i_X8_drawsMore_11 (by decide) (by decide) c1 ?_
    refine rs_ldc2 i_X8_drawsMore_14 (v := 48271) (by decide) ?_
    refine rs_lmul i_X8_drawsMore_17 ?_
    refine rs_ldc2 i_X8_drawsMore_18 (v := 2147483647) (by decide) ?_
    refine rs_lrem i_X8_drawsMore_21 (by decide) ?_
    refine rs_putL i_X8_drawsMore_22 (by decide) c1 ?_
    exact r_X8_drawsMore_25 hd hf
  · replace hf := (if_neg c2).symm.trans hf
    refine rs_ifF i_X8_drawsMore_4 (cf_ne c2) ?_
    refine rs_iconst i_X8_drawsMore_7 (v := 0) (by decide) ?_
    have hf := Option.some.inj hf
    subst hf
    exact rs_iret i_X8_drawsMore_8 m_X8_drawsMore rfl
def f_X8_drawsMore (v0 : Nat) (h : Hp) : Option (Int32 × Hp) := f_X8_drawsMore_0 v0 h
theorem c_X8_drawsMore {X : Nat → Int32} {d : Nat} (hd : 0 ≤ d) {v0 : Nat} {h : Hp} {o : (Int32 × Hp)} (hf : f_X8_drawsMore v0 h = some o) : Calls X d 157 [.ref v0] h (some (.int o.1), o.2) := by
  exact ⟨_, rfl, r_X8_drawsMore_0 hd hf⟩
theorem i_X8_draws_0 : fetch 158 0 = some (.iconst 0, 1, 0, 0, 0, 0) := by decide +kernel
theorem i_X8_draws_1 : fetch 158 1 = some (.istore_n 3, 2, 0, 0, 0, 0) := by decide +kernel
theorem i_X8_draws_2 : fetch 158 2 = some (.iconst 0, 3, 0, 0, 0, 0) := by decide +kernel
theorem i_X8_draws_3 : fetch 158 3 = some (.istore 4, 5, 0, 0, 0, 0) := by decide +kernel
theorem i_X8_draws_5 : fetch 158 5 = some (.iload 4, 7, 0, 0, 0, 0) := by decide +kernel
theorem i_X8_draws_7 : fetch 158 7 = some (.bipush 12, 9, 0, 0, 0, 0) := by decide +kernel
theorem i_X8_draws_9 : fetch 158 9 = some (.if_icmp .ge 45, 12, 0, 0, 0, 0) := by decide +kernel
theorem i_X8_draws_12 : fetch 158 12 = some (.aload_n 0, 13, 0, 0, 0, 0) := by decide +kernel
theorem i_X8_draws_13 : fetch 158 13 = some (.getfield 84, 16, 8, 47, 0, 1056) := by decide +kernel
theorem i_X8_draws_16 : fetch 158 16 = some (.iload 4, 18, 0, 0, 0, 0) := by decide +kernel
theorem i_X8_draws_18 : fetch 158 18 = some (.aload_n 0, 19, 0, 0, 0, 0) := by decide +kernel
theorem i_X8_draws_19 : fetch 158 19 = some (.iconst 0, 20, 0, 0, 0, 0) := by decide +kernel
theorem i_X8_draws_20 : fetch 158 20 = some (.iload 4, 22, 0, 0, 0, 0) := by decide +kernel
theorem i_X8_draws_22 : fetch 158 22 = some (.iload_n 2, 23, 0, 0, 0, 0) := by decide +kernel
theorem i_X8_draws_23 : fetch 158 23 = some (.invokevirtual 228, 26, 155, 0, 0, 1252) := by decide +kernel
theorem i_X8_draws_26 : fetch 158 26 = some (.aload_n 0, 27, 0, 0, 0, 0) := by decide +kernel
theorem i_X8_draws_27 : fetch 158 27 = some (.invokevirtual 231, 30, 157, 0, 0, 1267) := by decide +kernel
theorem i_X8_draws_30 : fetch 158 30 = some (.iadd, 31, 0, 0, 0, 0) := by decide +kernel
theorem i_X8_draws_31 : fetch 158 31 = some (.iconst 1, 32, 0, 0, 0, 0) := by decide +kernel
theorem i_X8_draws_32 : fetch 158 32 = some (.bipush 99, 34, 0, 0, 0, 0) := by decide +kernel
theorem i_X8_draws_34 : fetch 158 34 = some (.invokestatic 234, 37, 130, 0, 0, 1274) := by decide +kernel
theorem i_X8_draws_37 : fetch 158 37 = some (.iastore, 38, 0, 0, 0, 0) := by decide +kernel
theorem i_X8_draws_38 : fetch 158 38 = some (.iload_n 3, 39, 0, 0, 0, 0) := by decide +kernel
theorem i_X8_draws_39 : fetch 158 39 = some (.aload_n 0, 40, 0, 0, 0, 0) := by decide +kernel
theorem i_X8_draws_40 : fetch 158 40 = some (.getfield 84, 43, 8, 47, 0, 1056) := by decide +kernel
theorem i_X8_draws_43 : fetch 158 43 = some (.iload 4, 45, 0, 0, 0, 0) := by decide +kernel
theorem i_X8_draws_45 : fetch 158 45 = some (.iaload, 46, 0, 0, 0, 0) := by decide +kernel
theorem i_X8_draws_46 : fetch 158 46 = some (.iadd, 47, 0, 0, 0, 0) := by decide +kernel
theorem i_X8_draws_47 : fetch 158 47 = some (.istore_n 3, 48, 0, 0, 0, 0) := by decide +kernel
theorem i_X8_draws_48 : fetch 158 48 = some (.iinc 4 1, 51, 0, 0, 0, 0) := by decide +kernel
theorem i_X8_draws_51 : fetch 158 51 = some (.goto (-46), 54, 0, 0, 0, 0) := by decide +kernel
theorem i_X8_draws_54 : fetch 158 54 = some (.iload_n 1, 55, 0, 0, 0, 0) := by decide +kernel
theorem i_X8_draws_55 : fetch 158 55 = some (.istore 4, 57, 0, 0, 0, 0) := by decide +kernel
theorem i_X8_draws_57 : fetch 158 57 = some (.iconst 0, 58, 0, 0, 0, 0) := by decide +kernel
theorem i_X8_draws_58 : fetch 158 58 = some (.istore 5, 60, 0, 0, 0, 0) := by decide +kernel
theorem i_X8_draws_60 : fetch 158 60 = some (.iload 5, 62, 0, 0, 0, 0) := by decide +kernel
theorem i_X8_draws_62 : fetch 158 62 = some (.bipush 12, 64, 0, 0, 0, 0) := by decide +kernel
theorem i_X8_draws_64 : fetch 158 64 = some (.if_icmp .ge 43, 67, 0, 0, 0, 0) := by decide +kernel
theorem i_X8_draws_67 : fetch 158 67 = some (.aload_n 0, 68, 0, 0, 0, 0) := by decide +kernel
theorem i_X8_draws_68 : fetch 158 68 = some (.getfield 87, 71, 8, 48, 0, 1057) := by decide +kernel
theorem i_X8_draws_71 : fetch 158 71 = some (.iload 5, 73, 0, 0, 0, 0) := by decide +kernel
theorem i_X8_draws_73 : fetch 158 73 = some (.iload_n 1, 74, 0, 0, 0, 0) := by decide +kernel
theorem i_X8_draws_74 : fetch 158 74 = some (.i2l, 75, 0, 0, 0, 0) := by decide +kernel
theorem i_X8_draws_75 : fetch 158 75 = some (.aload_n 0, 76, 0, 0, 0, 0) := by decide +kernel
theorem i_X8_draws_76 : fetch 158 76 = some (.getfield 84, 79, 8, 47, 0, 1056) := by decide +kernel
theorem i_X8_draws_79 : fetch 158 79 = some (.iload 5, 81, 0, 0, 0, 0) := by decide +kernel
theorem i_X8_draws_81 : fetch 158 81 = some (.iaload, 82, 0, 0, 0, 0) := by decide +kernel
theorem i_X8_draws_82 : fetch 158 82 = some (.i2l, 83, 0, 0, 0, 0) := by decide +kernel
theorem i_X8_draws_83 : fetch 158 83 = some (.lmul, 84, 0, 0, 0, 0) := by decide +kernel
theorem i_X8_draws_84 : fetch 158 84 = some (.iload_n 3, 85, 0, 0, 0, 0) := by decide +kernel
theorem i_X8_draws_85 : fetch 158 85 = some (.i2l, 86, 0, 0, 0, 0) := by decide +kernel
theorem i_X8_draws_86 : fetch 158 86 = some (.ldiv, 87, 0, 0, 0, 0) := by decide +kernel
theorem i_X8_draws_87 : fetch 158 87 = some (.l2i, 88, 0, 0, 0, 0) := by decide +kernel
theorem i_X8_draws_88 : fetch 158 88 = some (.iastore, 89, 0, 0, 0, 0) := by decide +kernel
theorem i_X8_draws_89 : fetch 158 89 = some (.iload 4, 91, 0, 0, 0, 0) := by decide +kernel
theorem i_X8_draws_91 : fetch 158 91 = some (.aload_n 0, 92, 0, 0, 0, 0) := by decide +kernel
theorem i_X8_draws_92 : fetch 158 92 = some (.getfield 87, 95, 8, 48, 0, 1057) := by decide +kernel
theorem i_X8_draws_95 : fetch 158 95 = some (.iload 5, 97, 0, 0, 0, 0) := by decide +kernel
theorem i_X8_draws_97 : fetch 158 97 = some (.iaload, 98, 0, 0, 0, 0) := by decide +kernel
theorem i_X8_draws_98 : fetch 158 98 = some (.isub, 99, 0, 0, 0, 0) := by decide +kernel
theorem i_X8_draws_99 : fetch 158 99 = some (.istore 4, 101, 0, 0, 0, 0) := by decide +kernel
theorem i_X8_draws_101 : fetch 158 101 = some (.iinc 5 1, 104, 0, 0, 0, 0) := by decide +kernel
theorem i_X8_draws_104 : fetch 158 104 = some (.goto (-44), 107, 0, 0, 0, 0) := by decide +kernel
theorem i_X8_draws_107 : fetch 158 107 = some (.iconst 0, 108, 0, 0, 0, 0) := by decide +kernel
theorem i_X8_draws_108 : fetch 158 108 = some (.istore 5, 110, 0, 0, 0, 0) := by decide +kernel
theorem i_X8_draws_110 : fetch 158 110 = some (.iload 5, 112, 0, 0, 0, 0) := by decide +kernel
theorem i_X8_draws_112 : fetch 158 112 = some (.bipush 12, 114, 0, 0, 0, 0) := by decide +kernel
theorem i_X8_draws_114 : fetch 158 114 = some (.if_icmp .ge 69, 117, 0, 0, 0, 0) := by decide +kernel
theorem i_X8_draws_117 : fetch 158 117 = some (.aload_n 0, 118, 0, 0, 0, 0) := by decide +kernel
theorem i_X8_draws_118 : fetch 158 118 = some (.getfield 87, 121, 8, 48, 0, 1057) := by decide +kernel
theorem i_X8_draws_121 : fetch 158 121 = some (.iload 5, 123, 0, 0, 0, 0) := by decide +kernel
theorem i_X8_draws_123 : fetch 158 123 = some (.dup2, 124, 0, 0, 0, 0) := by decide +kernel
theorem i_X8_draws_124 : fetch 158 124 = some (.iaload, 125, 0, 0, 0, 0) := by decide +kernel
theorem i_X8_draws_125 : fetch 158 125 = some (.iload 5, 127, 0, 0, 0, 0) := by decide +kernel
theorem i_X8_draws_127 : fetch 158 127 = some (.iload 4, 129, 0, 0, 0, 0) := by decide +kernel
theorem i_X8_draws_129 : fetch 158 129 = some (.if_icmp .ge 7, 132, 0, 0, 0, 0) := by decide +kernel
theorem i_X8_draws_132 : fetch 158 132 = some (.iconst 1, 133, 0, 0, 0, 0) := by decide +kernel
theorem i_X8_draws_133 : fetch 158 133 = some (.goto 4, 136, 0, 0, 0, 0) := by decide +kernel
theorem i_X8_draws_136 : fetch 158 136 = some (.iconst 0, 137, 0, 0, 0, 0) := by decide +kernel
theorem i_X8_draws_137 : fetch 158 137 = some (.iadd, 138, 0, 0, 0, 0) := by decide +kernel
theorem i_X8_draws_138 : fetch 158 138 = some (.iastore, 139, 0, 0, 0, 0) := by decide +kernel
theorem i_X8_draws_139 : fetch 158 139 = some (.aload_n 0, 140, 0, 0, 0, 0) := by decide +kernel
theorem i_X8_draws_140 : fetch 158 140 = some (.getfield 78, 143, 8, 38, 0, 1047) := by decide +kernel
theorem i_X8_draws_143 : fetch 158 143 = some (.iload 5, 145, 0, 0, 0, 0) := by decide +kernel
theorem i_X8_draws_145 : fetch 158 145 = some (.iaload, 146, 0, 0, 0, 0) := by decide +kernel
theorem i_X8_draws_146 : fetch 158 146 = some (.aload_n 0, 147, 0, 0, 0, 0) := by decide +kernel
theorem i_X8_draws_147 : fetch 158 147 = some (.getfield 87, 150, 8, 48, 0, 1057) := by decide +kernel
theorem i_X8_draws_150 : fetch 158 150 = some (.iload 5, 152, 0, 0, 0, 0) := by decide +kernel
theorem i_X8_draws_152 : fetch 158 152 = some (.iaload, 153, 0, 0, 0, 0) := by decide +kernel
theorem i_X8_draws_153 : fetch 158 153 = some (.iadd, 154, 0, 0, 0, 0) := by decide +kernel
theorem i_X8_draws_154 : fetch 158 154 = some (.istore 6, 156, 0, 0, 0, 0) := by decide +kernel
theorem i_X8_draws_156 : fetch 158 156 = some (.aload_n 0, 157, 0, 0, 0, 0) := by decide +kernel
theorem i_X8_draws_157 : fetch 158 157 = some (.getfield 78, 160, 8, 38, 0, 1047) := by decide +kernel
theorem i_X8_draws_160 : fetch 158 160 = some (.iload 5, 162, 0, 0, 0, 0) := by decide +kernel
theorem i_X8_draws_162 : fetch 158 162 = some (.iload 6, 164, 0, 0, 0, 0) := by decide +kernel
theorem i_X8_draws_164 : fetch 158 164 = some (.ldc 237, 166, 0, 0, 1000000, 1277) := by decide +kernel
theorem i_X8_draws_166 : fetch 158 166 = some (.if_icmp .le 8, 169, 0, 0, 0, 0) := by decide +kernel
theorem i_X8_draws_169 : fetch 158 169 = some (.ldc 237, 171, 0, 0, 1000000, 1277) := by decide +kernel
theorem i_X8_draws_171 : fetch 158 171 = some (.goto 5, 174, 0, 0, 0, 0) := by decide +kernel
theorem i_X8_draws_174 : fetch 158 174 = some (.iload 6, 176, 0, 0, 0, 0) := by decide +kernel
theorem i_X8_draws_176 : fetch 158 176 = some (.iastore, 177, 0, 0, 0, 0) := by decide +kernel
theorem i_X8_draws_177 : fetch 158 177 = some (.iinc 5 1, 180, 0, 0, 0, 0) := by decide +kernel
theorem i_X8_draws_180 : fetch 158 180 = some (.goto (-70), 183, 0, 0, 0, 0) := by decide +kernel
theorem i_X8_draws_183 : fetch 158 183 = some (.iconst 0, 184, 0, 0, 0, 0) := by decide +kernel
theorem i_X8_draws_184 : fetch 158 184 = some (.istore 5, 186, 0, 0, 0, 0) := by decide +kernel
theorem i_X8_draws_186 : fetch 158 186 = some (.iload 5, 188, 0, 0, 0, 0) := by decide +kernel
theorem i_X8_draws_188 : fetch 158 188 = some (.bipush 12, 190, 0, 0, 0, 0) := by decide +kernel
theorem i_X8_draws_190 : fetch 158 190 = some (.if_icmp .ge 65, 193, 0, 0, 0, 0) := by decide +kernel
theorem i_X8_draws_193 : fetch 158 193 = some (.aload_n 0, 194, 0, 0, 0, 0) := by decide +kernel
theorem i_X8_draws_194 : fetch 158 194 = some (.getfield 81, 197, 8, 39, 0, 1048) := by decide +kernel
theorem i_X8_draws_197 : fetch 158 197 = some (.iload 5, 199, 0, 0, 0, 0) := by decide +kernel
theorem i_X8_draws_199 : fetch 158 199 = some (.iaload, 200, 0, 0, 0, 0) := by decide +kernel
theorem i_X8_draws_200 : fetch 158 200 = some (.aload_n 0, 201, 0, 0, 0, 0) := by decide +kernel
theorem i_X8_draws_201 : fetch 158 201 = some (.getfield 87, 204, 8, 48, 0, 1057) := by decide +kernel
theorem i_X8_draws_204 : fetch 158 204 = some (.iload 5, 206, 0, 0, 0, 0) := by decide +kernel
theorem i_X8_draws_206 : fetch 158 206 = some (.iaload, 207, 0, 0, 0, 0) := by decide +kernel
theorem i_X8_draws_207 : fetch 158 207 = some (.i2l, 208, 0, 0, 0, 0) := by decide +kernel
theorem i_X8_draws_208 : fetch 158 208 = some (.iload_n 2, 209, 0, 0, 0, 0) := by decide +kernel
theorem i_X8_draws_209 : fetch 158 209 = some (.i2l, 210, 0, 0, 0, 0) := by decide +kernel
theorem i_X8_draws_210 : fetch 158 210 = some (.lmul, 211, 0, 0, 0, 0) := by decide +kernel
theorem i_X8_draws_211 : fetch 158 211 = some (.ldc2_w 238, 214, 0, 0, 10, 1278) := by decide +kernel
theorem i_X8_draws_214 : fetch 158 214 = some (.lmul, 215, 0, 0, 0, 0) := by decide +kernel
theorem i_X8_draws_215 : fetch 158 215 = some (.aload_n 0, 216, 0, 0, 0, 0) := by decide +kernel
theorem i_X8_draws_216 : fetch 158 216 = some (.getfield 78, 219, 8, 38, 0, 1047) := by decide +kernel
theorem i_X8_draws_219 : fetch 158 219 = some (.iload 5, 221, 0, 0, 0, 0) := by decide +kernel
theorem i_X8_draws_221 : fetch 158 221 = some (.iaload, 222, 0, 0, 0, 0) := by decide +kernel
theorem i_X8_draws_222 : fetch 158 222 = some (.i2l, 223, 0, 0, 0, 0) := by decide +kernel
theorem i_X8_draws_223 : fetch 158 223 = some (.ldiv, 224, 0, 0, 0, 0) := by decide +kernel
theorem i_X8_draws_224 : fetch 158 224 = some (.l2i, 225, 0, 0, 0, 0) := by decide +kernel
theorem i_X8_draws_225 : fetch 158 225 = some (.iadd, 226, 0, 0, 0, 0) := by decide +kernel
theorem i_X8_draws_226 : fetch 158 226 = some (.istore 6, 228, 0, 0, 0, 0) := by decide +kernel
theorem i_X8_draws_228 : fetch 158 228 = some (.aload_n 0, 229, 0, 0, 0, 0) := by decide +kernel
theorem i_X8_draws_229 : fetch 158 229 = some (.getfield 81, 232, 8, 39, 0, 1048) := by decide +kernel
theorem i_X8_draws_232 : fetch 158 232 = some (.iload 5, 234, 0, 0, 0, 0) := by decide +kernel
theorem i_X8_draws_234 : fetch 158 234 = some (.iload 6, 236, 0, 0, 0, 0) := by decide +kernel
theorem i_X8_draws_236 : fetch 158 236 = some (.bipush 99, 238, 0, 0, 0, 0) := by decide +kernel
theorem i_X8_draws_238 : fetch 158 238 = some (.if_icmp .le 8, 241, 0, 0, 0, 0) := by decide +kernel
theorem i_X8_draws_241 : fetch 158 241 = some (.bipush 99, 243, 0, 0, 0, 0) := by decide +kernel
theorem i_X8_draws_243 : fetch 158 243 = some (.goto 5, 246, 0, 0, 0, 0) := by decide +kernel
theorem i_X8_draws_246 : fetch 158 246 = some (.iload 6, 248, 0, 0, 0, 0) := by decide +kernel
theorem i_X8_draws_248 : fetch 158 248 = some (.iastore, 249, 0, 0, 0, 0) := by decide +kernel
theorem i_X8_draws_249 : fetch 158 249 = some (.iinc 5 1, 252, 0, 0, 0, 0) := by decide +kernel
theorem i_X8_draws_252 : fetch 158 252 = some (.goto (-66), 255, 0, 0, 0, 0) := by decide +kernel
theorem i_X8_draws_255 : fetch 158 255 = some (.iconst 0, 256, 0, 0, 0, 0) := by decide +kernel
theorem i_X8_draws_256 : fetch 158 256 = some (.istore 5, 258, 0, 0, 0, 0) := by decide +kernel
theorem i_X8_draws_258 : fetch 158 258 = some (.iload 5, 260, 0, 0, 0, 0) := by decide +kernel
theorem i_X8_draws_260 : fetch 158 260 = some (.bipush 12, 262, 0, 0, 0, 0) := by decide +kernel
theorem i_X8_draws_262 : fetch 158 262 = some (.if_icmp .ge 40, 265, 0, 0, 0, 0) := by decide +kernel
theorem i_X8_draws_265 : fetch 158 265 = some (.aload_n 0, 266, 0, 0, 0, 0) := by decide +kernel
theorem i_X8_draws_266 : fetch 158 266 = some (.aload_n 0, 267, 0, 0, 0, 0) := by decide +kernel
theorem i_X8_draws_267 : fetch 158 267 = some (.getfield 240, 270, 8, 43, 0, 1052) := by decide +kernel
theorem i_X8_draws_270 : fetch 158 270 = some (.bipush 100, 272, 0, 0, 0, 0) := by decide +kernel
theorem i_X8_draws_272 : fetch 158 272 = some (.aload_n 0, 273, 0, 0, 0, 0) := by decide +kernel
theorem i_X8_draws_273 : fetch 158 273 = some (.iconst 1, 274, 0, 0, 0, 0) := by decide +kernel
theorem i_X8_draws_274 : fetch 158 274 = some (.iload 5, 276, 0, 0, 0, 0) := by decide +kernel
theorem i_X8_draws_276 : fetch 158 276 = some (.iload_n 2, 277, 0, 0, 0, 0) := by decide +kernel
theorem i_X8_draws_277 : fetch 158 277 = some (.invokevirtual 228, 280, 155, 0, 0, 1252) := by decide +kernel
theorem i_X8_draws_280 : fetch 158 280 = some (.iconst 0, 281, 0, 0, 0, 0) := by decide +kernel
theorem i_X8_draws_281 : fetch 158 281 = some (.bipush 100, 283, 0, 0, 0, 0) := by decide +kernel
theorem i_X8_draws_283 : fetch 158 283 = some (.invokestatic 234, 286, 130, 0, 0, 1274) := by decide +kernel
theorem i_X8_draws_286 : fetch 158 286 = some (.isub, 287, 0, 0, 0, 0) := by decide +kernel
theorem i_X8_draws_287 : fetch 158 287 = some (.i2l, 288, 0, 0, 0, 0) := by decide +kernel
theorem i_X8_draws_288 : fetch 158 288 = some (.lmul, 289, 0, 0, 0, 0) := by decide +kernel
theorem i_X8_draws_289 : fetch 158 289 = some (.ldc2_w 243, 292, 0, 0, 100, 1279) := by decide +kernel
theorem i_X8_draws_292 : fetch 158 292 = some (.ldiv, 293, 0, 0, 0, 0) := by decide +kernel
theorem i_X8_draws_293 : fetch 158 293 = some (.putfield 240, 296, 8, 43, 0, 1052) := by decide +kernel
theorem i_X8_draws_296 : fetch 158 296 = some (.iinc 5 1, 299, 0, 0, 0, 0) := by decide +kernel
theorem i_X8_draws_299 : fetch 158 299 = some (.goto (-41), 302, 0, 0, 0, 0) := by decide +kernel
theorem i_X8_draws_302 : fetch 158 302 = some (.return_, 303, 0, 0, 0, 0) := by decide +kernel
def f_X8_draws_258 (n : Nat) : Nat → Nat → Int32 → Int32 → Hp → Option Hp
  | 0, _, _, _, _ => none
  | m + 1, v0, v2, v5, h =>
    if 12 ≤ v5 then
      some h
    else
      if okO h v0 8 then
      (f_X8_asks n v0 1 v5 v2 h).bind fun o3 =>
      (f_X8_within o3.1 0 100 o3.2).bind fun o4 =>
      if okO o4.2 v0 8 then
      (f_X8_draws_258 n m) v0 v2 (v5 + 1) (hsl o4.2 v0 43 (((gL' h v0 43) * (Int32.toInt64 (100 - o4.1))) / 100))
      else none
      else none
set_option maxRecDepth 100000 in
set_option maxHeartbeats 4000000 in
theorem r_X8_draws_258 {X : Nat → Int32} {d : Nat} (hd : 3 ≤ (d + 1)) {n : Nat} : ∀ (m : Nat) (v0 : Nat) (v2 : Int32) (v5 : Int32) (d1 : Int32) (d3 : Int32) (d4 : Int32) (w6 : Option Value) (h : Hp) (o : Hp), f_X8_draws_258 n m v0 v2 v5 h = some o → Run X (d + 1) 158 258 [some (.ref v0), some (.int d1), some (.int v2), some (.int d3), some (.int d4), some (.int v5), w6] [] h (none, o) := by
  intro m
  induction m with
  | zero => intro v0 v2 v5 d1 d3 d4 w6 h o hf; cases hf
  | succ m ih =>
    intro v0 v2 v5 d1 d3 d4 w6 h o hf
    rw [f_X8_draws_258] at hf
    refine rs_iload i_X8_draws_258 rfl ?_
    refine rs_bipush i_X8_draws_260 (v := 12) (by decide) ?_
    by_cases c1 : 12 ≤ v5
    · replace hf := (if_pos c1).symm.trans hf
      refine rs_icT i_X8_draws_262 (ct_ge c1) (tg := 302) (by decide) ?_
      have hf := Option.some.inj hf
      subst hf
      exact rs_vret i_X8_draws_302 m_X8_draws rfl
    · replace hf := (if_neg c1).symm.trans hf
      refine rs_icF i_X8_draws_262 (cf_ge c1) ?_
      refine rs_aload_n i_X8_draws_265 rfl ?_
      refine rs_aload_n i_X8_draws_266 rfl ?_
      obtain ⟨c2, hf⟩ := ite_some hf
      refine rs_getL i_X8_draws_267 (by decide) (by decide) c2 ?_
      refine rs_bipush i_X8_draws_270 (v := 100) (by decide) ?_
      refine rs_aload_n i_X8_draws_272 rfl ?_
      refine rs_iconst i_X8_draws_273 (v := 1) (by decide) ?_
      refine rs_iload i_X8_draws_274 rfl ?_
      refine rs_iload_n i_X8_draws_276 rfl ?_
      obtain ⟨o3, e3, hf⟩ := bind_some hf
      refine rs_inV i_X8_draws_277 m_X8_asks rfl (As := [.int 1, .int v5, .int v2]) (rest := [.int 100, .long (gL' h v0 43), .ref v0]) rfl rfl (Nat.le_of_ble_eq_true rfl) c2 (c_X8_asks (by omega) e3) (st' := [.int o3.1, .int 100, .long (gL' h v0 43), .ref v0]) rfl ?_
      refine rs_iconst i_X8_draws_280 (v := 0) (by decide) ?_
      refine rs_bipush i_X8_draws_281 (v := 100) (by decide) ?_
      obtain ⟨o4, e4, hf⟩ := bind_some hf
      refine rs_inS i_X8_draws_283 (by decide) m_X8_within rfl (As := [.int o3.1, .int 0, .int 100]) (rest := [.int 100, .long (gL' h v0 43), .ref v0]) rfl rfl (Nat.le_of_ble_eq_true rfl) (c_X8_within (by omega) e4) (st' := [.int o4.1, .int 100, .long (gL' h v0 43), .ref v0]) rfl ?_
      refine rs_isub i_X8_draws_286 ?_
      refine rs_i2l i_X8_draws_287 ?_
      refine rs_lmul i_X8_draws_288 ?_
      refine rs_ldc2 i_X8_draws_289 (v := 100) (by decide) ?_
      refine rs_ldiv i_X8_draws_292 (by decide) ?_
      obtain ⟨c5, hf⟩ := ite_some hf
      refine rs_putL i_X8_draws_293 (by decide) c5 ?_
      refine rs_iinc i_X8_draws_296 rfl (v := v5 + 1) rfl (Nat.le_of_ble_eq_true rfl) (lv' := [some (.ref v0), some (.int d1), some (.int v2), some (.int d3), some (.int d4), some (.int (v5 + 1)), w6]) rfl ?_
      refine rs_goto i_X8_draws_299 (tg := 258) (by decide) ?_
      exact ih _ _ _ _ _ _ _ _ _ hf
def f_X8_draws_248 (n : Nat) (K186 : Nat → Int32 → Int32 → Hp → Option Hp) (v0 : Nat) (v2 : Int32) (v5 : Int32) (s0 : Nat) (s1 : Int32) (s2 : Int32) (h : Hp) : Option Hp :=
  if okI h s0 s1 then
  K186 v0 v2 (v5 + 1) (hsi h s0 (ix s1) s2)
  else none
set_option maxRecDepth 100000 in
set_option maxHeartbeats 4000000 in
theorem r_X8_draws_248 {X : Nat → Int32} {d : Nat} (hd : 3 ≤ (d + 1)) {n : Nat} {K186 : Nat → Int32 → Int32 → Hp → Option Hp} (HK186 : ∀ (v0 : Nat) (v2 : Int32) (v5 : Int32) (d1 : Int32) (d3 : Int32) (d4 : Int32) (w6 : Option Value) (h : Hp) (o : Hp), K186 v0 v2 v5 h = some o → Run X (d + 1) 158 186 [some (.ref v0), some (.int d1), some (.int v2), some (.int d3), some (.int d4), some (.int v5), w6] [] h (none, o)) {v0 : Nat} {v2 : Int32} {v5 : Int32} {s0 : Nat} {s1 : Int32} {s2 : Int32} {d1 : Int32} {d3 : Int32} {d4 : Int32} {d6 : Int32} {h : Hp} {o : Hp} (hf : f_X8_draws_248 n K186 v0 v2 v5 s0 s1 s2 h = some o) : Run X (d + 1) 158 248 [some (.ref v0), some (.int d1), some (.int v2), some (.int d3), some (.int d4), some (.int v5), some (.int d6)] [.int s2, .int s1, .ref s0] h (none, o) := by
  unfold f_X8_draws_248 at hf
  obtain ⟨c1, hf⟩ := ite_some hf
  refine rs_iast i_X8_draws_248 c1 ?_
  refine rs_iinc i_X8_draws_249 rfl (v := v5 + 1) rfl (Nat.le_of_ble_eq_true rfl) (lv' := [some (.ref v0), some (.int d1), some (.int v2), some (.int d3), some (.int d4), some (.int (v5 + 1)), some (.int d6)]) rfl ?_
  refine rs_goto i_X8_draws_252 (tg := 186) (by decide) ?_
  exact HK186 _ _ _ _ _ _ _ _ _ hf
def f_X8_draws_228 (n : Nat) (K186 : Nat → Int32 → Int32 → Hp → Option Hp) (v0 : Nat) (v2 : Int32) (v5 : Int32) (v6 : Int32) (h : Hp) : Option Hp :=
  if okO h v0 8 then
  (gR h v0 39).bind fun a2 =>
  if v6 ≤ 99 then
    f_X8_draws_248 n K186 v0 v2 v5 a2 v5 v6 h
  else
    f_X8_draws_248 n K186 v0 v2 v5 a2 v5 99 h
  else none
set_option maxRecDepth 100000 in
set_option maxHeartbeats 4000000 in
theorem r_X8_draws_228 {X : Nat → Int32} {d : Nat} (hd : 3 ≤ (d + 1)) {n : Nat} {K186 : Nat → Int32 → Int32 → Hp → Option Hp} (HK186 : ∀ (v0 : Nat) (v2 : Int32) (v5 : Int32) (d1 : Int32) (d3 : Int32) (d4 : Int32) (w6 : Option Value) (h : Hp) (o : Hp), K186 v0 v2 v5 h = some o → Run X (d + 1) 158 186 [some (.ref v0), some (.int d1), some (.int v2), some (.int d3), some (.int d4), some (.int v5), w6] [] h (none, o)) {v0 : Nat} {v2 : Int32} {v5 : Int32} {v6 : Int32} {d1 : Int32} {d3 : Int32} {d4 : Int32} {h : Hp} {o : Hp} (hf : f_X8_draws_228 n K186 v0 v2 v5 v6 h = some o) : Run X (d + 1) 158 228 [some (.ref v0), some (.int d1), some (.int v2), some (.int d3), some (.int d4), some (.int v5), some (.int v6)] [] h (none, o) := by
  unfold f_X8_draws_228 at hf
  refine rs_aload_n i_X8_draws_228 rfl ?_
  obtain ⟨c1, hf⟩ := ite_some hf
  obtain ⟨a2, e2, hf⟩ := bind_some hf
  refine rs_getR i_X8_draws_229 (by decide) (by decide) c1 e2 ?_
  refine rs_iload i_X8_draws_232 rfl ?_
  refine rs_iload i_X8_draws_234 rfl ?_
  refine rs_bipush i_X8_draws_236 (v := 99) (by decide) ?_
  by_cases c3 : v6 ≤ 99
  · replace hf := (if_pos c3).symm.trans hf
    refine rs_icT i_X8_draws_238 (ct_le c3) (tg := 246) (by decide) ?_
    refine rs_iload i_X8_draws_246 rfl ?_
    exact r_X8_draws_248 hd HK186 hf
  · replace hf := (if_neg c3).symm.trans hf
    refine rs_icF i_X8_draws_238 (cf_le c3) ?_
    refine rs_bipush i_X8_draws_241 (v := 99) (by decide) ?_
    refine rs_goto i_X8_draws_243 (tg := 248) (by decide) ?_
    exact r_X8_draws_248 hd HK186 hf
def f_X8_draws_186 (n : Nat) : Nat → Nat → Int32 → Int32 → Hp → Option Hp
  | 0, _, _, _, _ => none
  | m + 1, v0, v2, v5, h =>
    if 12 ≤ v5 then
      f_X8_draws_258 n n v0 v2 0 h
    else
      if okO h v0 8 then
      (gR h v0 39).bind fun a3 =>
      if okI h a3 v5 then
      (gR h v0 48).bind fun a5 =>
      if okI h a5 v5 then
      (gR h v0 38).bind fun a7 =>
      if okI h a7 v5 then
      if ¬ (Int32.toInt64 (gI h a7 (ix v5))) = 0 then
      f_X8_draws_228 n (f_X8_draws_186 n m) v0 v2 v5 ((gI h a3 (ix v5)) + (Int64.toInt32 ((((Int32.toInt64 (gI h a5 (ix v5))) * (Int32.toInt64 v2)) * 10) / (Int32.toInt64 (gI h a7 (ix v5)))))) h
      else none
      else none
      else none
      else none
      else none
set_option maxRecDepth 100000 in
set_option maxHeartbeats 4000000 in
theorem r_X8_draws_186 {X : Nat → Int32} {d : Nat} (hd : 3 ≤ (d + 1)) {n : Nat} : ∀ (m : Nat) (v0 : Nat) (v2 : Int32) (v5 : Int32) (d1 : Int32) (d3 : Int32) (d4 : Int32) (w6 : Option Value) (h : Hp) (o : Hp), f_X8_draws_186 n m v0 v2 v5 h = some o → Run X (d + 1) 158 186 [some (.ref v0), some (.int d1), some (.int v2), some (.int d3), some (.int d4), some (.int v5), w6] [] h (none, o) := by
  intro m
  induction m with
  | zero => intro v0 v2 v5 d1 d3 d4 w6 h o hf; cases hf
  | succ m ih =>
    intro v0 v2 v5 d1 d3 d4 w6 h o hf
    rw [f_X8_draws_186] at hf
    refine rs_iload i_X8_draws_186 rfl ?_
    refine rs_bipush i_X8_draws_188 (v := 12) (by decide) ?_
    by_cases c1 : 12 ≤ v5
    · replace hf := (if_pos c1).symm.trans hf
      refine rs_icT i_X8_draws_190 (ct_ge c1) (tg := 255) (by decide) ?_
      refine rs_iconst i_X8_draws_255 (v := 0) (by decide) ?_
      refine rs_istore i_X8_draws_256 (Nat.le_of_ble_eq_true rfl) (lv' := [some (.ref v0), some (.int d1), some (.int v2), some (.int d3), some (.int d4), some (.int 0), w6]) rfl ?_
      exact r_X8_draws_258 hd _ _ _ _ _ _ _ _ _ _ hf
    · replace hf := (if_neg c1).symm.trans hf
      refine rs_icF i_X8_draws_190 (cf_ge c1) ?_
      refine rs_aload_n i_X8_draws_193 rfl ?_
      obtain ⟨c2, hf⟩ := ite_some hf
      obtain ⟨a3, e3, hf⟩ := bind_some hf
      refine rs_getR i_X8_draws_194 (by decide) (by decide) c2 e3 ?_
      refine rs_iload i_X8_draws_197 rfl ?_
      obtain ⟨c4, hf⟩ := ite_some hf
      refine rs_iald i_X8_draws_199 c4 ?_
      refine rs_aload_n i_X8_draws_200 rfl ?_
      obtain ⟨a5, e5, hf⟩ := bind_some hf
      refine rs_getR i_X8_draws_201 (by decide) (by decide) c2 e5 ?_
      refine rs_iload i_X8_draws_204 rfl ?_
      obtain ⟨c6, hf⟩ := ite_some hf
      refine rs_iald i_X8_draws_206 c6 ?_
      refine rs_i2l i_X8_draws_207 ?_
      refine rs_iload_n i_X8_draws_208 rfl ?_
      refine rs_i2l i_X8_draws_209 ?_
      refine rs_lmul i_X8_draws_210 ?_
      refine rs_ldc2 i_X8_draws_211 (v := 10) (by decide) ?_
      refine rs_lmul i_X8_draws_214 ?_
      refine rs_aload_n i_X8_draws_215 rfl ?_
      obtain ⟨a7, e7, hf⟩ := bind_some hf
      refine rs_getR i_X8_draws_216 (by decide) (by decide) c2 e7 ?_
      refine rs_iload i_X8_draws_219 rfl ?_
      obtain ⟨c8, hf⟩ := ite_some hf
      refine rs_iald i_X8_draws_221 c8 ?_
      refine rs_i2l i_X8_draws_222 ?_
      obtain ⟨c9, hf⟩ := ite_some hf
      refine rs_ldiv i_X8_draws_223 c9 ?_
      refine rs_l2i i_X8_draws_224 ?_
      refine rs_iadd i_X8_draws_225 ?_
      refine rs_istore i_X8_draws_226 (Nat.le_of_ble_eq_true rfl) (lv' := [some (.ref v0), some (.int d1), some (.int v2), some (.int d3), some (.int d4), some (.int v5), some (.int ((gI h a3 (ix v5)) + (Int64.toInt32 ((((Int32.toInt64 (gI h a5 (ix v5))) * (Int32.toInt64 v2)) * 10) / (Int32.toInt64 (gI h a7 (ix v5)))))))]) rfl ?_
      exact r_X8_draws_228 hd ih hf
def f_X8_draws_176 (n : Nat) (K110 : Nat → Int32 → Int32 → Int32 → Hp → Option Hp) (v0 : Nat) (v2 : Int32) (v4 : Int32) (v5 : Int32) (s0 : Nat) (s1 : Int32) (s2 : Int32) (h : Hp) : Option Hp :=
  if okI h s0 s1 then
  K110 v0 v2 v4 (v5 + 1) (hsi h s0 (ix s1) s2)
  else none
set_option maxRecDepth 100000 in
set_option maxHeartbeats 4000000 in
theorem r_X8_draws_176 {X : Nat → Int32} {d : Nat} (hd : 3 ≤ (d + 1)) {n : Nat} {K110 : Nat → Int32 → Int32 → Int32 → Hp → Option Hp} (HK110 : ∀ (v0 : Nat) (v2 : Int32) (v4 : Int32) (v5 : Int32) (d1 : Int32) (d3 : Int32) (w6 : Option Value) (h : Hp) (o : Hp), K110 v0 v2 v4 v5 h = some o → Run X (d + 1) 158 110 [some (.ref v0), some (.int d1), some (.int v2), some (.int d3), some (.int v4), some (.int v5), w6] [] h (none, o)) {v0 : Nat} {v2 : Int32} {v4 : Int32} {v5 : Int32} {s0 : Nat} {s1 : Int32} {s2 : Int32} {d1 : Int32} {d3 : Int32} {d6 : Int32} {h : Hp} {o : Hp} (hf : f_X8_draws_176 n K110 v0 v2 v4 v5 s0 s1 s2 h = some o) : Run X (d + 1) 158 176 [some (.ref v0), some (.int d1), some (.int v2), some (.int d3), some (.int v4), some (.int v5), some (.int d6)] [.int s2, .int s1, .ref s0] h (none, o) := by
  unfold f_X8_draws_176 at hf
  obtain ⟨c1, hf⟩ := ite_some hf
  refine rs_iast i_X8_draws_176 c1 ?_
  refine rs_iinc i_X8_draws_177 rfl (v := v5 + 1) rfl (Nat.le_of_ble_eq_true rfl) (lv' := [some (.ref v0), some (.int d1), some (.int v2), some (.int d3), some (.int v4), some (.int (v5 + 1)), some (.int d6)]) rfl ?_
  refine rs_goto i_X8_draws_180 (tg := 110) (by decide) ?_
  exact HK110 _ _ _ _ _ _ _ _ _ hf
def f_X8_draws_139 (n : Nat) (K110 : Nat → Int32 → Int32 → Int32 → Hp → Option Hp) (v0 : Nat) (v2 : Int32) (v4 : Int32) (v5 : Int32) (h : Hp) : Option Hp :=
  if okO h v0 8 then
  (gR h v0 38).bind fun a2 =>
  if okI h a2 v5 then
  (gR h v0 48).bind fun a4 =>
  if okI h a4 v5 then
  if ((gI h a2 (ix v5)) + (gI h a4 (ix v5))) ≤ 1000000 then
    f_X8_draws_176 n K110 v0 v2 v4 v5 a2 v5 ((gI h a2 (ix v5)) + (gI h a4 (ix v5))) h
  else
    f_X8_draws_176 n K110 v0 v2 v4 v5 a2 v5 1000000 h
  else none
  else none
  else none
set_option maxRecDepth 100000 in
set_option maxHeartbeats 4000000 in
theorem r_X8_draws_139 {X : Nat → Int32} {d : Nat} (hd : 3 ≤ (d + 1)) {n : Nat} {K110 : Nat → Int32 → Int32 → Int32 → Hp → Option Hp} (HK110 : ∀ (v0 : Nat) (v2 : Int32) (v4 : Int32) (v5 : Int32) (d1 : Int32) (d3 : Int32) (w6 : Option Value) (h : Hp) (o : Hp), K110 v0 v2 v4 v5 h = some o → Run X (d + 1) 158 110 [some (.ref v0), some (.int d1), some (.int v2), some (.int d3), some (.int v4), some (.int v5), w6] [] h (none, o)) {v0 : Nat} {v2 : Int32} {v4 : Int32} {v5 : Int32} {d1 : Int32} {d3 : Int32} {w6 : Option Value} {h : Hp} {o : Hp} (hf : f_X8_draws_139 n K110 v0 v2 v4 v5 h = some o) : Run X (d + 1) 158 139 [some (.ref v0), some (.int d1), some (.int v2), some (.int d3), some (.int v4), some (.int v5), w6] [] h (none, o) := by
  unfold f_X8_draws_139 at hf
  refine rs_aload_n i_X8_draws_139 rfl ?_
  obtain ⟨c1, hf⟩ := ite_some hf
  obtain ⟨a2, e2, hf⟩ := bind_some hf
  refine rs_getR i_X8_draws_140 (by decide) (by decide) c1 e2 ?_
  refine rs_iload i_X8_draws_143 rfl ?_
  obtain ⟨c3, hf⟩ := ite_some hf
  refine rs_iald i_X8_draws_145 c3 ?_
  refine rs_aload_n i_X8_draws_146 rfl ?_
  obtain ⟨a4, e4, hf⟩ := bind_some hf
  refine rs_getR i_X8_draws_147 (by decide) (by decide) c1 e4 ?_
  refine rs_iload i_X8_draws_150 rfl ?_
  obtain ⟨c5, hf⟩ := ite_some hf
  refine rs_iald i_X8_draws_152 c5 ?_
  refine rs_iadd i_X8_draws_153 ?_
  refine rs_istore i_X8_draws_154 (Nat.le_of_ble_eq_true rfl) (lv' := [some (.ref v0), some (.int d1), some (.int v2), some (.int d3), some (.int v4), some (.int v5), some (.int ((gI h a2 (ix v5)) + (gI h a4 (ix v5))))]) rfl ?_
  refine rs_aload_n i_X8_draws_156 rfl ?_
  refine rs_getR i_X8_draws_157 (by decide) (by decide) c1 e2 ?_
  refine rs_iload i_X8_draws_160 rfl ?_
  refine rs_iload i_X8_draws_162 rfl ?_
  refine rs_ldc i_X8_draws_164 (v := 1000000) (by decide) ?_
  by_cases c6 : ((gI h a2 (ix v5)) + (gI h a4 (ix v5))) ≤ 1000000
  · replace hf := (if_pos c6).symm.trans hf
    refine rs_icT i_X8_draws_166 (ct_le c6) (tg := 174) (by decide) ?_
    refine rs_iload i_X8_draws_174 rfl ?_
    exact r_X8_draws_176 hd HK110 hf
  · replace hf := (if_neg c6).symm.trans hf
    refine rs_icF i_X8_draws_166 (cf_le c6) ?_
    refine rs_ldc i_X8_draws_169 (v := 1000000) (by decide) ?_
    refine rs_goto i_X8_draws_171 (tg := 176) (by decide) ?_
    exact r_X8_draws_176 hd HK110 hf
def f_X8_draws_137 (n : Nat) (K110 : Nat → Int32 → Int32 → Int32 → Hp → Option Hp) (v0 : Nat) (v2 : Int32) (v4 : Int32) (v5 : Int32) (s0 : Nat) (s1 : Int32) (s2 : Int32) (s3 : Int32) (h : Hp) : Option Hp :=
  if okI h s0 s1 then
  f_X8_draws_139 n K110 v0 v2 v4 v5 (hsi h s0 (ix s1) (s2 + s3))
  else none
set_option maxRecDepth 100000 in
set_option maxHeartbeats 4000000 in
theorem r_X8_draws_137 {X : Nat → Int32} {d : Nat} (hd : 3 ≤ (d + 1)) {n : Nat} {K110 : Nat → Int32 → Int32 → Int32 → Hp → Option Hp} (HK110 : ∀ (v0 : Nat) (v2 : Int32) (v4 : Int32) (v5 : Int32) (d1 : Int32) (d3 : Int32) (w6 : Option Value) (h : Hp) (o : Hp), K110 v0 v2 v4 v5 h = some o → Run X (d + 1) 158 110 [some (.ref v0), some (.int d1), some (.int v2), some (.int d3), some (.int v4), some (.int v5), w6] [] h (none, o)) {v0 : Nat} {v2 : Int32} {v4 : Int32} {v5 : Int32} {s0 : Nat} {s1 : Int32} {s2 : Int32} {s3 : Int32} {d1 : Int32} {d3 : Int32} {w6 : Option Value} {h : Hp} {o : Hp} (hf : f_X8_draws_137 n K110 v0 v2 v4 v5 s0 s1 s2 s3 h = some o) : Run X (d + 1) 158 137 [some (.ref v0), some (.int d1), some (.int v2), some (.int d3), some (.int v4), some (.int v5), w6] [.int s3, .int s2, .int s1, .ref s0] h (none, o) := by
  unfold f_X8_draws_137 at hf
  refine rs_iadd i_X8_draws_137 ?_
  obtain ⟨c1, hf⟩ := ite_some hf
  refine rs_iast i_X8_draws_138 c1 ?_
  exact r_X8_draws_139 hd HK110 hf
def f_X8_draws_110 (n : Nat) : Nat → Nat → Int32 → Int32 → Int32 → Hp → Option Hp
  | 0, _, _, _, _, _ => none
  | m + 1, v0, v2, v4, v5, h =>
    if 12 ≤ v5 then
      f_X8_draws_186 n n v0 v2 0 h
    else
      if okO h v0 8 then
      (gR h v0 48).bind fun a3 =>
      if okI h a3 v5 then
      if v4 ≤ v5 then
        f_X8_draws_137 n (f_X8_draws_110 n m) v0 v2 v4 v5 a3 v5 (gI h a3 (ix v5)) 0 h
      else
        f_X8_draws_137 n (f_X8_draws_110 n m) v0 v2 v4 v5 a3 v5 (gI h a3 (ix v5)) 1 h
      else none
      else none
set_option maxRecDepth 100000 in
set_option maxHeartbeats 4000000 in
theorem r_X8_draws_110 {X : Nat → Int32} {d : Nat} (hd : 3 ≤ (d + 1)) {n : Nat} : ∀ (m : Nat) (v0 : Nat) (v2 : Int32) (v4 : Int32) (v5 : Int32) (d1 : Int32) (d3 : Int32) (w6 : Option Value) (h : Hp) (o : Hp), f_X8_draws_110 n m v0 v2 v4 v5 h = some o → Run X (d + 1) 158 110 [some (.ref v0), some (.int d1), some (.int v2), some (.int d3), some (.int v4), some (.int v5), w6] [] h (none, o) := by
  intro m
  induction m with
  | zero => intro v0 v2 v4 v5 d1 d3 w6 h o hf; cases hf
  | succ m ih =>
    intro v0 v2 v4 v5 d1 d3 w6 h o hf
    rw [f_X8_draws_110] at hf
    refine rs_iload i_X8_draws_110 rfl ?_
    refine rs_bipush i_X8_draws_112 (v := 12) (by decide) ?_
    by_cases c1 : 12 ≤ v5
    · replace hf := (if_pos c1).symm.trans hf
      refine rs_icT i_X8_draws_114 (ct_ge c1) (tg := 183) (by decide) ?_
      refine rs_iconst i_X8_draws_183 (v := 0) (by decide) ?_
      refine rs_istore i_X8_draws_184 (Nat.le_of_ble_eq_true rfl) (lv' := [some (.ref v0), some (.int d1), some (.int v2), some (.int d3), some (.int v4), some (.int 0), w6]) rfl ?_
      exact r_X8_draws_186 hd _ _ _ _ _ _ _ _ _ _ hf
    · replace hf := (if_neg c1).symm.trans hf
      refine rs_icF i_X8_draws_114 (cf_ge c1) ?_
      refine rs_aload_n i_X8_draws_117 rfl ?_
      obtain ⟨c2, hf⟩ := ite_some hf
      obtain ⟨a3, e3, hf⟩ := bind_some hf
      refine rs_getR i_X8_draws_118 (by decide) (by decide) c2 e3 ?_
      refine rs_iload i_X8_draws_121 rfl ?_
      refine rs_dup2 i_X8_draws_123 ⟨rfl, rfl⟩ ?_
      obtain ⟨c4, hf⟩ := ite_some hf
      refine rs_iald i_X8_draws_124 c4 ?_
      refine rs_iload i_X8_draws_125 rfl ?_
      refine rs_iload i_X8_draws_127 rfl ?_
      by_cases c5 : v4 ≤ v5
      · replace hf := (if_pos c5).symm.trans hf
        refine rs_icT i_X8_draws_129 (ct_ge c5) (tg := 136) (by decide) ?_
        refine rs_iconst i_X8_draws_136 (v := 0) (by decide) ?_
        exact r_X8_draws_137 hd ih hf
      · replace hf := (if_neg c5).symm.trans hf
        refine rs_icF i_X8_draws_129 (cf_ge c5) ?_
        refine rs_iconst i_X8_draws_132 (v := 1) (by decide) ?_
        refine rs_goto i_X8_draws_133 (tg := 137) (by decide) ?_
        exact r_X8_draws_137 hd ih hf
def f_X8_draws_89 (n : Nat) (K60 : Nat → Int32 → Int32 → Int32 → Int32 → Int32 → Hp → Option Hp) (v0 : Nat) (v1 : Int32) (v2 : Int32) (v3 : Int32) (v4 : Int32) (v5 : Int32) (h : Hp) : Option Hp :=
  if okO h v0 8 then
  (gR h v0 48).bind fun a2 =>
  if okI h a2 v5 then
  K60 v0 v1 v2 v3 (v4 - (gI h a2 (ix v5))) (v5 + 1) h
  else none
  else none
set_option maxRecDepth 100000 in
set_option maxHeartbeats 4000000 in
theorem r_X8_draws_89 {X : Nat → Int32} {d : Nat} (hd : 3 ≤ (d + 1)) {n : Nat} {K60 : Nat → Int32 → Int32 → Int32 → Int32 → Int32 → Hp → Option Hp} (HK60 : ∀ (v0 : Nat) (v1 : Int32) (v2 : Int32) (v3 : Int32) (v4 : Int32) (v5 : Int32) (h : Hp) (o : Hp), K60 v0 v1 v2 v3 v4 v5 h = some o → Run X (d + 1) 158 60 [some (.ref v0), some (.int v1), some (.int v2), some (.int v3), some (.int v4), some (.int v5), none] [] h (none, o)) {v0 : Nat} {v1 : Int32} {v2 : Int32} {v3 : Int32} {v4 : Int32} {v5 : Int32} {h : Hp} {o : Hp} (hf : f_X8_draws_89 n K60 v0 v1 v2 v3 v4 v5 h = some o) : Run X (d + 1) 158 89 [some (.ref v0), some (.int v1), some (.int v2), some (.int v3), some (.int v4), some (.int v5), none] [] h (none, o) := by
  unfold f_X8_draws_89 at hf
  refine rs_iload i_X8_draws_89 rfl ?_
  refine rs_aload_n i_X8_draws_91 rfl ?_
  obtain ⟨c1, hf⟩ := ite_some hf
  obtain ⟨a2, e2, hf⟩ := bind_some hf
  refine rs_getR i_X8_draws_92 (by decide) (by decide) c1 e2 ?_
  refine rs_iload i_X8_draws_95 rfl ?_
  obtain ⟨c3, hf⟩ := ite_some hf
  refine rs_iald i_X8_draws_97 c3 ?_
  refine rs_isub i_X8_draws_98 ?_
  refine rs_istore i_X8_draws_99 (Nat.le_of_ble_eq_true rfl) (lv' := [some (.ref v0), some (.int v1), some (.int v2), some (.int v3), some (.int (v4 - (gI h a2 (ix v5)))), some (.int v5), none]) rfl ?_
  refine rs_iinc i_X8_draws_101 rfl (v := v5 + 1) rfl (Nat.le_of_ble_eq_true rfl) (lv' := [some (.ref v0), some (.int v1), some (.int v2), some (.int v3), some (.int (v4 - (gI h a2 (ix v5)))), some (.int (v5 + 1)), none]) rfl ?_
  refine rs_goto i_X8_draws_104 (tg := 60) (by decide) ?_
  exact HK60 _ _ _ _ _ _ _ _ hf
def f_X8_draws_60 (n : Nat) : Nat → Nat → Int32 → Int32 → Int32 → Int32 → Int32 → Hp → Option Hp
  | 0, _, _, _, _, _, _, _ => none
  | m + 1, v0, v1, v2, v3, v4, v5, h =>
    if 12 ≤ v5 then
      f_X8_draws_110 n n v0 v2 v4 0 h
    else
      if okO h v0 8 then
      (gR h v0 48).bind fun a3 =>
      (gR h v0 47).bind fun a4 =>
      if okI h a4 v5 then
      if ¬ (Int32.toInt64 v3) = 0 then
      if okI h a3 v5 then
      f_X8_draws_89 n (f_X8_draws_60 n m) v0 v1 v2 v3 v4 v5 (hsi h a3 (ix v5) (Int64.toInt32 (((Int32.toInt64 v1) * (Int32.toInt64 (gI h a4 (ix v5)))) / (Int32.toInt64 v3))))
      else none
      else none
      else none
      else none
set_option maxRecDepth 100000 in
set_option maxHeartbeats 4000000 in
theorem r_X8_draws_60 {X : Nat → Int32} {d : Nat} (hd : 3 ≤ (d + 1)) {n : Nat} : ∀ (m : Nat) (v0 : Nat) (v1 : Int32) (v2 : Int32) (v3 : Int32) (v4 : Int32) (v5 : Int32) (h : Hp) (o : Hp), f_X8_draws_60 n m v0 v1 v2 v3 v4 v5 h = some o → Run X (d + 1) 158 60 [some (.ref v0), some (.int v1), some (.int v2), some (.int v3), some (.int v4), some (.int v5), none] [] h (none, o) := by
  intro m
  induction m with
  | zero => intro v0 v1 v2 v3 v4 v5 h o hf; cases hf
  | succ m ih =>
    intro v0 v1 v2 v3 v4 v5 h o hf
    rw [f_X8_draws_60] at hf
    refine rs_iload i_X8_draws_60 rfl ?_
    refine rs_bipush i_X8_draws_62 (v := 12) (by decide) ?_
    by_cases c1 : 12 ≤ v5
    · replace hf := (if_pos c1).symm.trans hf
      refine rs_icT i_X8_draws_64 (ct_ge c1) (tg := 107) (by decide) ?_
      refine rs_iconst i_X8_draws_107 (v := 0) (by decide) ?_
      refine rs_istore i_X8_draws_108 (Nat.le_of_ble_eq_true rfl) (lv' := [some (.ref v0), some (.int v1), some (.int v2), some (.int v3), some (.int v4), some (.int 0), none]) rfl ?_
      exact r_X8_draws_110 hd _ _ _ _ _ _ _ _ _ _ hf
    · replace hf := (if_neg c1).symm.trans hf
      refine rs_icF i_X8_draws_64 (cf_ge c1) ?_
      refine rs_aload_n i_X8_draws_67 rfl ?_
      obtain ⟨c2, hf⟩ := ite_some hf
      obtain ⟨a3, e3, hf⟩ := bind_some hf
      refine rs_getR i_X8_draws_68 (by decide) (by decide) c2 e3 ?_
      refine rs_iload i_X8_draws_71 rfl ?_
      refine rs_iload_n i_X8_draws_73 rfl ?_
      refine rs_i2l i_X8_draws_74 ?_
      refine rs_aload_n i_X8_draws_75 rfl ?_
      obtain ⟨a4, e4, hf⟩ := bind_some hf
      refine rs_getR i_X8_draws_76 (by decide) (by decide) c2 e4 ?_
      refine rs_iload i_X8_draws_79 rfl ?_
      obtain ⟨c5, hf⟩ := ite_some hf
      refine rs_iald i_X8_draws_81 c5 ?_
      refine rs_i2l i_X8_draws_82 ?_
      refine rs_lmul i_X8_draws_83 ?_
      refine rs_iload_n i_X8_draws_84 rfl ?_
      refine rs_i2l i_X8_draws_85 ?_
      obtain ⟨c6, hf⟩ := ite_some hf
      refine rs_ldiv i_X8_draws_86 c6 ?_
      refine rs_l2i i_X8_draws_87 ?_
      obtain ⟨c7, hf⟩ := ite_some hf
      refine rs_iast i_X8_draws_88 c7 ?_
      exact r_X8_draws_89 hd ih hf
def f_X8_draws_38 (n : Nat) (K5 : Nat → Int32 → Int32 → Int32 → Int32 → Hp → Option Hp) (v0 : Nat) (v1 : Int32) (v2 : Int32) (v3 : Int32) (v4 : Int32) (h : Hp) : Option Hp :=
  if okO h v0 8 then
  (gR h v0 47).bind fun a2 =>
  if okI h a2 v4 then
  K5 v0 v1 v2 (v3 + (gI h a2 (ix v4))) (v4 + 1) h
  else none
  else none
set_option maxRecDepth 100000 in
set_option maxHeartbeats 4000000 in
theorem r_X8_draws_38 {X : Nat → Int32} {d : Nat} (hd : 3 ≤ (d + 1)) {n : Nat} {K5 : Nat → Int32 → Int32 → Int32 → Int32 → Hp → Option Hp} (HK5 : ∀ (v0 : Nat) (v1 : Int32) (v2 : Int32) (v3 : Int32) (v4 : Int32) (h : Hp) (o : Hp), K5 v0 v1 v2 v3 v4 h = some o → Run X (d + 1) 158 5 [some (.ref v0), some (.int v1), some (.int v2), some (.int v3), some (.int v4), none, none] [] h (none, o)) {v0 : Nat} {v1 : Int32} {v2 : Int32} {v3 : Int32} {v4 : Int32} {h : Hp} {o : Hp} (hf : f_X8_draws_38 n K5 v0 v1 v2 v3 v4 h = some o) : Run X (d + 1) 158 38 [some (.ref v0), some (.int v1), some (.int v2), some (.int v3), some (.int v4), none, none] [] h (none, o) := by
  unfold f_X8_draws_38 at hf
  refine rs_iload_n i_X8_draws_38 rfl ?_
  refine rs_aload_n i_X8_draws_39 rfl ?_
  obtain ⟨c1, hf⟩ := ite_some hf
  obtain ⟨a2, e2, hf⟩ := bind_some hf
  refine rs_getR i_X8_draws_40 (by decide) (by decide) c1 e2 ?_
  refine rs_iload i_X8_draws_43 rfl ?_
  obtain ⟨c3, hf⟩ := ite_some hf
  refine rs_iald i_X8_draws_45 c3 ?_
  refine rs_iadd i_X8_draws_46 ?_
  refine rs_istore_n i_X8_draws_47 (Nat.le_of_ble_eq_true rfl) (lv' := [some (.ref v0), some (.int v1), some (.int v2), some (.int (v3 + (gI h a2 (ix v4)))), some (.int v4), none, none]) rfl ?_
  refine rs_iinc i_X8_draws_48 rfl (v := v4 + 1) rfl (Nat.le_of_ble_eq_true rfl) (lv' := [some (.ref v0), some (.int v1), some (.int v2), some (.int (v3 + (gI h a2 (ix v4)))), some (.int (v4 + 1)), none, none]) rfl ?_
  refine rs_goto i_X8_draws_51 (tg := 5) (by decide) ?_
  exact HK5 _ _ _ _ _ _ _ hf
def f_X8_draws_5 (n : Nat) : Nat → Nat → Int32 → Int32 → Int32 → Int32 → Hp → Option Hp
  | 0, _, _, _, _, _, _ => none
  | m + 1, v0, v1, v2, v3, v4, h =>
    if 12 ≤ v4 then
      f_X8_draws_60 n n v0 v1 v2 v3 v1 0 h
    else
      if okO h v0 8 then
      (gR h v0 47).bind fun a3 =>
      (f_X8_asks n v0 0 v4 v2 h).bind fun o4 =>
      if okO o4.2 v0 8 then
      (f_X8_drawsMore v0 o4.2).bind fun o5 =>
      (f_X8_within (o4.1 + o5.1) 1 99 o5.2).bind fun o7 =>
      if okI o7.2 a3 v4 then
      f_X8_draws_38 n (f_X8_draws_5 n m) v0 v1 v2 v3 v4 (hsi o7.2 a3 (ix v4) o7.1)
      else none
      else none
      else none
set_option maxRecDepth 100000 in
set_option maxHeartbeats 4000000 in
theorem r_X8_draws_5 {X : Nat → Int32} {d : Nat} (hd : 3 ≤ (d + 1)) {n : Nat} : ∀ (m : Nat) (v0 : Nat) (v1 : Int32) (v2 : Int32) (v3 : Int32) (v4 : Int32) (h : Hp) (o : Hp), f_X8_draws_5 n m v0 v1 v2 v3 v4 h = some o → Run X (d + 1) 158 5 [some (.ref v0), some (.int v1), some (.int v2), some (.int v3), some (.int v4), none, none] [] h (none, o) := by
  intro m
  induction m with
  | zero => intro v0 v1 v2 v3 v4 h o hf; cases hf
  | succ m ih =>
    intro v0 v1 v2 v3 v4 h o hf
    rw [f_X8_draws_5] at hf
    refine rs_iload i_X8_draws_5 rfl ?_
    refine rs_bipush i_X8_draws_7 (v := 12) (by decide) ?_
    by_cases c1 : 12 ≤ v4
    · replace hf := (if_pos c1).symm.trans hf
      refine rs_icT i_X8_draws_9 (ct_ge c1) (tg := 54) (by decide) ?_
      refine rs_iload_n i_X8_draws_54 rfl ?_
      refine rs_istore i_X8_draws_55 (Nat.le_of_ble_eq_true rfl) (lv' := [some (.ref v0), some (.int v1), some (.int v2), some (.int v3), some (.int v1), none, none]) rfl ?_
      refine rs_iconst i_X8_draws_57 (v := 0) (by decide) ?_
      refine rs_istore i_X8_draws_58 (Nat.le_of_ble_eq_true rfl) (lv' := [some (.ref v0), some (.int v1), some (.int v2), some (.int v3), some (.int v1), some (.int 0), none]) rfl ?_
      exact r_X8_draws_60 hd _ _ _ _ _ _ _ _ _ hf
    · replace hf := (if_neg c1).symm.trans hf
      refine rs_icF i_X8_draws_9 (cf_ge c1) ?_
      refine rs_aload_n i_X8_draws_12 rfl ?_
      obtain ⟨c2, hf⟩ := ite_some hf
      obtain ⟨a3, e3, hf⟩ := bind_some hf
      refine rs_getR i_X8_draws_13 (by decide) (by decide) c2 e3 ?_
      refine rs_iload i_X8_draws_16 rfl ?_
      refine rs_aload_n i_X8_draws_18 rfl ?_
      refine rs_iconst i_X8_draws_19 (v := 0) (by decide) ?_
      refine rs_iload i_X8_draws_20 rfl ?_
      refine rs_iload_n i_X8_draws_22 rfl ?_
      obtain ⟨o4, e4, hf⟩ := bind_some hf
      refine rs_inV i_X8_draws_23 m_X8_asks rfl (As := [.int 0, .int v4, .int v2]) (rest := [.int v4, .ref a3]) rfl rfl (Nat.le_of_ble_eq_true rfl) c2 (c_X8_asks (by omega) e4) (st' := [.int o4.1, .int v4, .ref a3]) rfl ?_
      refine rs_aload_n i_X8_draws_26 rfl ?_
      obtain ⟨c6, hf⟩ := ite_some hf
      obtain ⟨o5, e5, hf⟩ := bind_some hf
      refine rs_inV i_X8_draws_27 m_X8_drawsMore rfl (As := []) (rest := [.int o4.1, .int v4, .ref a3]) rfl rfl (Nat.le_of_ble_eq_true rfl) c6 (c_X8_drawsMore (by omega) e5) (st' := [.int o5.1, .int o4.1, .int v4, .ref a3]) rfl ?_
      refine rs_iadd i_X8_draws_30 ?_
      refine rs_iconst i_X8_draws_31 (v := 1) (by decide) ?_
      refine rs_bipush i_X8_draws_32 (v := 99) (by decide) ?_
      obtain ⟨o7, e7, hf⟩ := bind_some hf
      refine rs_inS i_X8_draws_34 (by decide) m_X8_within rfl (As := [.int (o4.1 + o5.1), .int 1, .int 99]) (rest := [.int v4, .ref a3]) rfl rfl (Nat.le_of_ble_eq_true rfl) (c_X8_within (by omega) e7) (st' := [.int o7.1, .int v4, .ref a3]) rfl ?_
      obtain ⟨c8, hf⟩ := ite_some hf
      refine rs_iast i_X8_draws_37 c8 ?_
      exact r_X8_draws_38 hd ih hf
def f_X8_draws_0 (n : Nat) (v0 : Nat) (v1 : Int32) (v2 : Int32) (h : Hp) : Option Hp :=
  f_X8_draws_5 n n v0 v1 v2 0 0 h
set_option maxRecDepth 100000 in
set_option maxHeartbeats 4000000 in
theorem r_X8_draws_0 {X : Nat → Int32} {d : Nat} (hd : 3 ≤ (d + 1)) {n : Nat} {v0 : Nat} {v1 : Int32} {v2 : Int32} {h : Hp} {o : Hp} (hf : f_X8_draws_0 n v0 v1 v2 h = some o) : Run X (d + 1) 158 0 [some (.ref v0), some (.int v1), some (.int v2), none, none, none, none] [] h (none, o) := by
  unfold f_X8_draws_0 at hf
  refine rs_iconst i_X8_draws_0 (v := 0) (by decide) ?_
  refine rs_istore_n i_X8_draws_1 (Nat.le_of_ble_eq_true rfl) (lv' := [some (.ref v0), some (.int v1), some (.int v2), some (.int 0), none, none, none]) rfl ?_
  refine rs_iconst i_X8_draws_2 (v := 0) (by decide) ?_
  refine rs_istore i_X8_draws_3 (Nat.le_of_ble_eq_true rfl) (lv' := [some (.ref v0), some (.int v1), some (.int v2), some (.int 0), some (.int 0), none, none]) rfl ?_
  exact r_X8_draws_5 hd _ _ _ _ _ _ _ _ hf
def f_X8_draws (n : Nat) (v0 : Nat) (v1 : Int32) (v2 : Int32) (h : Hp) : Option Hp := f_X8_draws_0 n v0 v1 v2 h
theorem c_X8_draws {X : Nat → Int32} {d : Nat} (hd : 3 ≤ d) {n : Nat} {v0 : Nat} {v1 : Int32} {v2 : Int32} {h : Hp} {o : Hp} (hf : f_X8_draws n v0 v1 v2 h = some o) : Calls X d 158 [.ref v0, .int v1, .int v2] h (none, o) := by
  obtain ⟨d, rfl⟩ : ∃ z, d = z + 1 := ⟨d - 1, by omega⟩
  exact ⟨_, rfl, r_X8_draws_0 hd hf⟩
theorem i_X8_keepsRow_0 : fetch 159 0 = some (.iconst 0, 1, 0, 0, 0, 0) := by decide +kernel
theorem i_X8_keepsRow_1 : fetch 159 1 = some (.istore_n 1, 2, 0, 0, 0, 0) := by decide +kernel
theorem i_X8_keepsRow_2 : fetch 159 2 = some (.iload_n 1, 3, 0, 0, 0, 0) := by decide +kernel
theorem i_X8_keepsRow_3 : fetch 159 3 = some (.bipush 12, 5, 0, 0, 0, 0) := by decide +kernel
theorem i_X8_keepsRow_5 : fetch 159 5 = some (.if_icmp .ge 45, 8, 0, 0, 0, 0) := by decide +kernel
theorem i_X8_keepsRow_8 : fetch 159 8 = some (.aload_n 0, 9, 0, 0, 0, 0) := by decide +kernel
theorem i_X8_keepsRow_9 : fetch 159 9 = some (.getfield 90, 12, 8, 49, 0, 1058) := by decide +kernel
theorem i_X8_keepsRow_12 : fetch 159 12 = some (.iload_n 1, 13, 0, 0, 0, 0) := by decide +kernel
theorem i_X8_keepsRow_13 : fetch 159 13 = some (.aload_n 0, 14, 0, 0, 0, 0) := by decide +kernel
theorem i_X8_keepsRow_14 : fetch 159 14 = some (.getfield 75, 17, 8, 37, 0, 1046) := by decide +kernel
theorem i_X8_keepsRow_17 : fetch 159 17 = some (.iload_n 1, 18, 0, 0, 0, 0) := by decide +kernel
theorem i_X8_keepsRow_18 : fetch 159 18 = some (.iaload, 19, 0, 0, 0, 0) := by decide +kernel
theorem i_X8_keepsRow_19 : fetch 159 19 = some (.iastore, 20, 0, 0, 0, 0) := by decide +kernel
theorem i_X8_keepsRow_20 : fetch 159 20 = some (.aload_n 0, 21, 0, 0, 0, 0) := by decide +kernel
theorem i_X8_keepsRow_21 : fetch 159 21 = some (.getfield 93, 24, 8, 50, 0, 1059) := by decide +kernel
theorem i_X8_keepsRow_24 : fetch 159 24 = some (.iload_n 1, 25, 0, 0, 0, 0) := by decide +kernel
theorem i_X8_keepsRow_25 : fetch 159 25 = some (.aload_n 0, 26, 0, 0, 0, 0) := by decide +kernel
theorem i_X8_keepsRow_26 : fetch 159 26 = some (.getfield 78, 29, 8, 38, 0, 1047) := by decide +kernel
theorem i_X8_keepsRow_29 : fetch 159 29 = some (.iload_n 1, 30, 0, 0, 0, 0) := by decide +kernel
theorem i_X8_keepsRow_30 : fetch 159 30 = some (.iaload, 31, 0, 0, 0, 0) := by decide +kernel
theorem i_X8_keepsRow_31 : fetch 159 31 = some (.iastore, 32, 0, 0, 0, 0) := by decide +kernel
theorem i_X8_keepsRow_32 : fetch 159 32 = some (.aload_n 0, 33, 0, 0, 0, 0) := by decide +kernel
theorem i_X8_keepsRow_33 : fetch 159 33 = some (.getfield 96, 36, 8, 51, 0, 1060) := by decide +kernel
theorem i_X8_keepsRow_36 : fetch 159 36 = some (.iload_n 1, 37, 0, 0, 0, 0) := by decide +kernel
theorem i_X8_keepsRow_37 : fetch 159 37 = some (.aload_n 0, 38, 0, 0, 0, 0) := by decide +kernel
theorem i_X8_keepsRow_38 : fetch 159 38 = some (.getfield 81, 41, 8, 39, 0, 1048) := by decide +kernel
theorem i_X8_keepsRow_41 : fetch 159 41 = some (.iload_n 1, 42, 0, 0, 0, 0) := by decide +kernel
theorem i_X8_keepsRow_42 : fetch 159 42 = some (.iaload, 43, 0, 0, 0, 0) := by decide +kernel
theorem i_X8_keepsRow_43 : fetch 159 43 = some (.iastore, 44, 0, 0, 0, 0) := by decide +kernel
theorem i_X8_keepsRow_44 : fetch 159 44 = some (.iinc 1 1, 47, 0, 0, 0, 0) := by decide +kernel
theorem i_X8_keepsRow_47 : fetch 159 47 = some (.goto (-45), 50, 0, 0, 0, 0) := by decide +kernel
theorem i_X8_keepsRow_50 : fetch 159 50 = some (.return_, 51, 0, 0, 0, 0) := by decide +kernel
def f_X8_keepsRow_32 (n : Nat) (K2 : Nat → Int32 → Hp → Option Hp) (v0 : Nat) (v1 : Int32) (h : Hp) : Option Hp :=
  if okO h v0 8 then
  (gR h v0 51).bind fun a2 =>
  (gR h v0 39).bind fun a3 =>
  if okI h a3 v1 then
  if okI h a2 v1 then
  K2 v0 (v1 + 1) (hsi h a2 (ix v1) (gI h a3 (ix v1)))
  else none
  else none
  else none
set_option maxRecDepth 100000 in
set_option maxHeartbeats 4000000 in
theorem r_X8_keepsRow_32 {X : Nat → Int32} {d : Nat} (hd : 0 ≤ d) {n : Nat} {K2 : Nat → Int32 → Hp → Option Hp} (HK2 : ∀ (v0 : Nat) (v1 : Int32) (h : Hp) (o : Hp), K2 v0 v1 h = some o → Run X d 159 2 [some (.ref v0), some (.int v1)] [] h (none, o)) {v0 : Nat} {v1 : Int32} {h : Hp} {o : Hp} (hf : f_X8_keepsRow_32 n K2 v0 v1 h = some o) : Run X d 159 32 [some (.ref v0), some (.int v1)] [] h (none, o) := by
  unfold f_X8_keepsRow_32 at hf
  refine rs_aload_n i_X8_keepsRow_32 rfl ?_
  obtain ⟨c1, hf⟩ := ite_some hf
  obtain ⟨a2, e2, hf⟩ := bind_some hf
  refine rs_getR i_X8_keepsRow_33 (by decide) (by decide) c1 e2 ?_
  refine rs_iload_n i_X8_keepsRow_36 rfl ?_
  refine rs_aload_n i_X8_keepsRow_37 rfl ?_
  obtain ⟨a3, e3, hf⟩ := bind_some hf
  refine rs_getR i_X8_keepsRow_38 (by decide) (by decide) c1 e3 ?_
  refine rs_iload_n i_X8_keepsRow_41 rfl ?_
  obtain ⟨c4, hf⟩ := ite_some hf
  refine rs_iald i_X8_keepsRow_42 c4 ?_
  obtain ⟨c5, hf⟩ := ite_some hf
  refine rs_iast i_X8_keepsRow_43 c5 ?_
  refine rs_iinc i_X8_keepsRow_44 rfl (v := v1 + 1) rfl (Nat.le_of_ble_eq_true rfl) (lv' := [some (.ref v0), some (.int (v1 + 1))]) rfl ?_
  refine rs_goto i_X8_keepsRow_47 (tg := 2) (by decide) ?_
  exact HK2 _ _ _ _ hf
def f_X8_keepsRow_20 (n : Nat) (K2 : Nat → Int32 → Hp → Option Hp) (v0 : Nat) (v1 : Int32) (h : Hp) : Option Hp :=
  if okO h v0 8 then
  (gR h v0 50).bind fun a2 =>
  (gR h v0 38).bind fun a3 =>
  if okI h a3 v1 then
  if okI h a2 v1 then
  f_X8_keepsRow_32 n K2 v0 v1 (hsi h a2 (ix v1) (gI h a3 (ix v1)))
  else none
  else none
  else none
set_option maxRecDepth 100000 in
set_option maxHeartbeats 4000000 in
theorem r_X8_keepsRow_20 {X : Nat → Int32} {d : Nat} (hd : 0 ≤ d) {n : Nat} {K2 : Nat → Int32 → Hp → Option Hp} (HK2 : ∀ (v0 : Nat) (v1 : Int32) (h : Hp) (o : Hp), K2 v0 v1 h = some o → Run X d 159 2 [some (.ref v0), some (.int v1)] [] h (none, o)) {v0 : Nat} {v1 : Int32} {h : Hp} {o : Hp} (hf : f_X8_keepsRow_20 n K2 v0 v1 h = some o) : Run X d 159 20 [some (.ref v0), some (.int v1)] [] h (none, o) := by
  unfold f_X8_keepsRow_20 at hf
  refine rs_aload_n i_X8_keepsRow_20 rfl ?_
  obtain ⟨c1, hf⟩ := ite_some hf
  obtain ⟨a2, e2, hf⟩ := bind_some hf
  refine rs_getR i_X8_keepsRow_21 (by decide) (by decide) c1 e2 ?_
  refine rs_iload_n i_X8_keepsRow_24 rfl ?_
  refine rs_aload_n i_X8_keepsRow_25 rfl ?_
  obtain ⟨a3, e3, hf⟩ := bind_some hf
  refine rs_getR i_X8_keepsRow_26 (by decide) (by decide) c1 e3 ?_
  refine rs_iload_n i_X8_keepsRow_29 rfl ?_
  obtain ⟨c4, hf⟩ := ite_some hf
  refine rs_iald i_X8_keepsRow_30 c4 ?_
  obtain ⟨c5, hf⟩ := ite_some hf
  refine rs_iast i_X8_keepsRow_31 c5 ?_
  exact r_X8_keepsRow_32 hd HK2 hf
def f_X8_keepsRow_2 (n : Nat) : Nat → Nat → Int32 → Hp → Option Hp
  | 0, _, _, _ => none
  | m + 1, v0, v1, h =>
    if 12 ≤ v1 then
      some h
    else
      if okO h v0 8 then
      (gR h v0 49).bind fun a3 =>
      (gR h v0 37).bind fun a4 =>
      if okI h a4 v1 then
      if okI h a3 v1 then
      f_X8_keepsRow_20 n (f_X8_keepsRow_2 n m) v0 v1 (hsi h a3 (ix v1) (gI h a4 (ix v1)))
      else none
      else none
      else none
set_option maxRecDepth 100000 in
set_option maxHeartbeats 4000000 in
theorem r_X8_keepsRow_2 {X : Nat → Int32} {d : Nat} (hd : 0 ≤ d) {n : Nat} : ∀ (m : Nat) (v0 : Nat) (v1 : Int32) (h : Hp) (o : Hp), f_X8_keepsRow_2 n m v0 v1 h = some o → Run X d 159 2 [some (.ref v0), some (.int v1)] [] h (none, o) := by
  intro m
  induction m with
  | zero => intro v0 v1 h o hf; cases hf
  | succ m ih =>
    intro v0 v1 h o hf
    rw [f_X8_keepsRow_2] at hf
    refine rs_iload_n i_X8_keepsRow_2 rfl ?_
    refine rs_bipush i_X8_keepsRow_3 (v := 12) (by decide) ?_
    by_cases c1 : 12 ≤ v1
    · replace hf := (if_pos c1).symm.trans hf
      refine rs_icT i_X8_keepsRow_5 (ct_ge c1) (tg := 50) (by decide) ?_
      have hf := Option.some.inj hf
      subst hf
      exact rs_vret i_X8_keepsRow_50 m_X8_keepsRow rfl
    · replace hf := (if_neg c1).symm.trans hf
      refine rs_icF i_X8_keepsRow_5 (cf_ge c1) ?_
      refine rs_aload_n i_X8_keepsRow_8 rfl ?_
      obtain ⟨c2, hf⟩ := ite_some hf
      obtain ⟨a3, e3, hf⟩ := bind_some hf
      refine rs_getR i_X8_keepsRow_9 (by decide) (by decide) c2 e3 ?_
      refine rs_iload_n i_X8_keepsRow_12 rfl ?_
      refine rs_aload_n i_X8_keepsRow_13 rfl ?_
      obtain ⟨a4, e4, hf⟩ := bind_some hf
      refine rs_getR i_X8_keepsRow_14 (by decide) (by decide) c2 e4 ?_
      refine rs_iload_n i_X8_keepsRow_17 rfl ?_
      obtain ⟨c5, hf⟩ := ite_some hf
      refine rs_iald i_X8_keepsRow_18 c5 ?_
      obtain ⟨c6, hf⟩ := ite_some hf
      refine rs_iast i_X8_keepsRow_19 c6 ?_
      exact r_X8_keepsRow_20 hd ih hf
def f_X8_keepsRow_0 (n : Nat) (v0 : Nat) (h : Hp) : Option Hp :=
  f_X8_keepsRow_2 n n v0 0 h
set_option maxRecDepth 100000 in
set_option maxHeartbeats 4000000 in
theorem r_X8_keepsRow_0 {X : Nat → Int32} {d : Nat} (hd : 0 ≤ d) {n : Nat} {v0 : Nat} {h : Hp} {o : Hp} (hf : f_X8_keepsRow_0 n v0 h = some o) : Run X d 159 0 [some (.ref v0), none] [] h (none, o) := by
  unfold f_X8_keepsRow_0 at hf
  refine rs_iconst i_X8_keepsRow_0 (v := 0) (by decide) ?_
  refine rs_istore_n i_X8_keepsRow_1 (Nat.le_of_ble_eq_true rfl) (lv' := [some (.ref v0), some (.int 0)]) rfl ?_
  exact r_X8_keepsRow_2 hd _ _ _ _ _ hf
def f_X8_keepsRow (n : Nat) (v0 : Nat) (h : Hp) : Option Hp := f_X8_keepsRow_0 n v0 h
theorem c_X8_keepsRow {X : Nat → Int32} {d : Nat} (hd : 0 ≤ d) {n : Nat} {v0 : Nat} {h : Hp} {o : Hp} (hf : f_X8_keepsRow n v0 h = some o) : Calls X d 159 [.ref v0] h (none, o) := by
  exact ⟨_, rfl, r_X8_keepsRow_0 hd hf⟩
theorem i_X8_bounces_0 : fetch 160 0 = some (.aload_n 0, 1, 0, 0, 0, 0) := by decide +kernel
theorem i_X8_bounces_1 : fetch 160 1 = some (.invokevirtual 245, 4, 159, 0, 0, 1284) := by decide +kernel
theorem i_X8_bounces_4 : fetch 160 4 = some (.iconst 0, 5, 0, 0, 0, 0) := by decide +kernel
theorem i_X8_bounces_5 : fetch 160 5 = some (.istore_n 1, 6, 0, 0, 0, 0) := by decide +kernel
theorem i_X8_bounces_6 : fetch 160 6 = some (.iload_n 1, 7, 0, 0, 0, 0) := by decide +kernel
theorem i_X8_bounces_7 : fetch 160 7 = some (.bipush 12, 9, 0, 0, 0, 0) := by decide +kernel
theorem i_X8_bounces_9 : fetch 160 9 = some (.if_icmp .ge 66, 12, 0, 0, 0, 0) := by decide +kernel
theorem i_X8_bounces_12 : fetch 160 12 = some (.aload_n 0, 13, 0, 0, 0, 0) := by decide +kernel
theorem i_X8_bounces_13 : fetch 160 13 = some (.getfield 93, 16, 8, 50, 0, 1059) := by decide +kernel
theorem i_X8_bounces_16 : fetch 160 16 = some (.iload_n 1, 17, 0, 0, 0, 0) := by decide +kernel
theorem i_X8_bounces_17 : fetch 160 17 = some (.ifCond .ne 7, 20, 0, 0, 0, 0) := by decide +kernel
theorem i_X8_bounces_20 : fetch 160 20 = some (.iconst 0, 21, 0, 0, 0, 0) := by decide +kernel
theorem i_X8_bounces_21 : fetch 160 21 = some (.goto 6, 24, 0, 0, 0, 0) := by decide +kernel
theorem i_X8_bounces_24 : fetch 160 24 = some (.iload_n 1, 25, 0, 0, 0, 0) := by decide +kernel
theorem i_X8_bounces_25 : fetch 160 25 = some (.iconst 1, 26, 0, 0, 0, 0) := by decide +kernel
theorem i_X8_bounces_26 : fetch 160 26 = some (.isub, 27, 0, 0, 0, 0) := by decide +kernel
theorem i_X8_bounces_27 : fetch 160 27 = some (.iaload, 28, 0, 0, 0, 0) := by decide +kernel
theorem i_X8_bounces_28 : fetch 160 28 = some (.istore_n 2, 29, 0, 0, 0, 0) := by decide +kernel
theorem i_X8_bounces_29 : fetch 160 29 = some (.aload_n 0, 30, 0, 0, 0, 0) := by decide +kernel
theorem i_X8_bounces_30 : fetch 160 30 = some (.getfield 93, 33, 8, 50, 0, 1059) := by decide +kernel
theorem i_X8_bounces_33 : fetch 160 33 = some (.iload_n 1, 34, 0, 0, 0, 0) := by decide +kernel
theorem i_X8_bounces_34 : fetch 160 34 = some (.bipush 11, 36, 0, 0, 0, 0) := by decide +kernel
theorem i_X8_bounces_36 : fetch 160 36 = some (.if_icmp .ne 8, 39, 0, 0, 0, 0) := by decide +kernel
theorem i_X8_bounces_39 : fetch 160 39 = some (.bipush 11, 41, 0, 0, 0, 0) := by decide +kernel
theorem i_X8_bounces_41 : fetch 160 41 = some (.goto 6, 44, 0, 0, 0, 0) := by decide +kernel
theorem i_X8_bounces_44 : fetch 160 44 = some (.iload_n 1, 45, 0, 0, 0, 0) := by decide +kernel
theorem i_X8_bounces_45 : fetch 160 45 = some (.iconst 1, 46, 0, 0, 0, 0) := by decide +kernel
theorem i_X8_bounces_46 : fetch 160 46 = some (.iadd, 47, 0, 0, 0, 0) := by decide +kernel
theorem i_X8_bounces_47 : fetch 160 47 = some (.iaload, 48, 0, 0, 0, 0) := by decide +kernel
theorem i_X8_bounces_48 : fetch 160 48 = some (.istore_n 3, 49, 0, 0, 0, 0) := by decide +kernel
theorem i_X8_bounces_49 : fetch 160 49 = some (.aload_n 0, 50, 0, 0, 0, 0) := by decide +kernel
theorem i_X8_bounces_50 : fetch 160 50 = some (.getfield 78, 53, 8, 38, 0, 1047) := by decide +kernel
theorem i_X8_bounces_53 : fetch 160 53 = some (.iload_n 1, 54, 0, 0, 0, 0) := by decide +kernel
theorem i_X8_bounces_54 : fetch 160 54 = some (.iconst 2, 55, 0, 0, 0, 0) := by decide +kernel
theorem i_X8_bounces_55 : fetch 160 55 = some (.aload_n 0, 56, 0, 0, 0, 0) := by decide +kernel
theorem i_X8_bounces_56 : fetch 160 56 = some (.getfield 93, 59, 8, 50, 0, 1059) := by decide +kernel
theorem i_X8_bounces_59 : fetch 160 59 = some (.iload_n 1, 60, 0, 0, 0, 0) := by decide +kernel
theorem i_X8_bounces_60 : fetch 160 60 = some (.iaload, 61, 0, 0, 0, 0) := by decide +kernel
theorem i_X8_bounces_61 : fetch 160 61 = some (.imul, 62, 0, 0, 0, 0) := by decide +kernel
theorem i_X8_bounces_62 : fetch 160 62 = some (.iload_n 2, 63, 0, 0, 0, 0) := by decide +kernel
theorem i_X8_bounces_63 : fetch 160 63 = some (.iadd, 64, 0, 0, 0, 0) := by decide +kernel
theorem i_X8_bounces_64 : fetch 160 64 = some (.iload_n 3, 65, 0, 0, 0, 0) := by decide +kernel
theorem i_X8_bounces_65 : fetch 160 65 = some (.iadd, 66, 0, 0, 0, 0) := by decide +kernel
theorem i_X8_bounces_66 : fetch 160 66 = some (.iconst 4, 67, 0, 0, 0, 0) := by decide +kernel
theorem i_X8_bounces_67 : fetch 160 67 = some (.idiv, 68, 0, 0, 0, 0) := by decide +kernel
theorem i_X8_bounces_68 : fetch 160 68 = some (.iastore, 69, 0, 0, 0, 0) := by decide +kernel
theorem i_X8_bounces_69 : fetch 160 69 = some (.iinc 1 1, 72, 0, 0, 0, 0) := by decide +kernel
theorem i_X8_bounces_72 : fetch 160 72 = some (.goto (-66), 75, 0, 0, 0, 0) := by decide +kernel
theorem i_X8_bounces_75 : fetch 160 75 = some (.return_, 76, 0, 0, 0, 0) := by decide +kernel
def f_X8_bounces_47 (n : Nat) (K6 : Nat → Int32 → Hp → Option Hp) (v0 : Nat) (v1 : Int32) (v2 : Int32) (s0 : Nat) (s1 : Int32) (h : Hp) : Option Hp :=
  if okI h s0 s1 then
  if okO h v0 8 then
  (gR h v0 38).bind fun a3 =>
  (gR h v0 50).bind fun a4 =>
  if okI h a4 v1 then
  if okI h a3 v1 then
  K6 v0 (v1 + 1) (hsi h a3 (ix v1) ((((2 * (gI h a4 (ix v1))) + v2) + (gI h s0 (ix s1))) / 4))
  else none
  else none
  else none
  else none
set_option maxRecDepth 100000 in
set_option maxHeartbeats 4000000 in
theorem r_X8_bounces_47 {X : Nat → Int32} {d : Nat} (hd : 1 ≤ (d + 1)) {n : Nat} {K6 : Nat → Int32 → Hp → Option Hp} (HK6 : ∀ (v0 : Nat) (v1 : Int32) (w2 : Option Value) (w3 : Option Value) (h : Hp) (o : Hp), K6 v0 v1 h = some o → Run X (d + 1) 160 6 [some (.ref v0), some (.int v1), w2, w3] [] h (none, o)) {v0 : Nat} {v1 : Int32} {v2 : Int32} {s0 : Nat} {s1 : Int32} {w3 : Option Value} {h : Hp} {o : Hp} (hf : f_X8_bounces_47 n K6 v0 v1 v2 s0 s1 h = some o) : Run X (d + 1) 160 47 [some (.ref v0), some (.int v1), some (.int v2), w3] [.int s1, .ref s0] h (none, o) := by
  unfold f_X8_bounces_47 at hf
  obtain ⟨c1, hf⟩ := ite_some hf
  refine rs_iald i_X8_bounces_47 c1 ?_
  refine rs_istore_n i_X8_bounces_48 (Nat.le_of_ble_eq_true rfl) (lv' := [some (.ref v0), some (.int v1), some (.int v2), some (.int (gI h s0 (ix s1)))]) rfl ?_
  refine rs_aload_n i_X8_bounces_49 rfl ?_
  obtain ⟨c2, hf⟩ := ite_some hf
  obtain ⟨a3, e3, hf⟩ := bind_some hf
  refine rs_getR i_X8_bounces_50 (by decide) (by decide) c2 e3 ?_
  refine rs_iload_n i_X8_bounces_53 rfl ?_
  refine rs_iconst i_X8_bounces_54 (v := 2) (by decide) ?_
  refine rs_aload_n i_X8_bounces_55 rfl ?_
  obtain ⟨a4, e4, hf⟩ := bind_some hf
  refine rs_getR i_X8_bounces_56 (by decide) (by decide) c2 e4 ?_
  refine rs_iload_n i_X8_bounces_59 rfl ?_
  obtain ⟨c5, hf⟩ := ite_some hf
  refine rs_iald i_X8_bounces_60 c5 ?_
  refine rs_imul i_X8_bounces_61 ?_
  refine rs_iload_n i_X8_bounces_62 rfl ?_
  refine rs_iadd i_X8_bounces_63 ?_
  refine rs_iload_n i_X8_bounces_64 rfl ?_
  refine rs_iadd i_X8_bounces_65 ?_
  refine rs_iconst i_X8_bounces_66 (v := 4) (by decide) ?_
  refine rs_idiv i_X8_bounces_67 (by decide) ?_
  obtain ⟨c6, hf⟩ := ite_some hf
  refine rs_iast i_X8_bounces_68 c6 ?_
  refine rs_iinc i_X8_bounces_69 rfl (v := v1 + 1) rfl (Nat.le_of_ble_eq_true rfl) (lv' := [some (.ref v0), some (.int (v1 + 1)), some (.int v2), some (.int (gI h s0 (ix s1)))]) rfl ?_
  refine rs_goto i_X8_bounces_72 (tg := 6) (by decide) ?_
  exact HK6 _ _ _ _ _ _ hf
def f_X8_bounces_27 (n : Nat) (K6 : Nat → Int32 → Hp → Option Hp) (v0 : Nat) (v1 : Int32) (s0 : Nat) (s1 : Int32) (h : Hp) : Option Hp :=
  if okI h s0 s1 then
  if okO h v0 8 then
  (gR h v0 50).bind fun a3 =>
  if v1 ≠ 11 then
    f_X8_bounces_47 n K6 v0 v1 (gI h s0 (ix s1)) a3 (v1 + 1) h
  else
    f_X8_bounces_47 n K6 v0 v1 (gI h s0 (ix s1)) a3 11 h
  else none
  else none
set_option maxRecDepth 100000 in
set_option maxHeartbeats 4000000 in
theorem r_X8_bounces_27 {X : Nat → Int32} {d : Nat} (hd : 1 ≤ (d + 1)) {n : Nat} {K6 : Nat → Int32 → Hp → Option Hp} (HK6 : ∀ (v0 : Nat) (v1 : Int32) (w2 : Option Value) (w3 : Option Value) (h : Hp) (o : Hp), K6 v0 v1 h = some o → Run X (d + 1) 160 6 [some (.ref v0), some (.int v1), w2, w3] [] h (none, o)) {v0 : Nat} {v1 : Int32} {s0 : Nat} {s1 : Int32} {w2 : Option Value} {w3 : Option Value} {h : Hp} {o : Hp} (hf : f_X8_bounces_27 n K6 v0 v1 s0 s1 h = some o) : Run X (d + 1) 160 27 [some (.ref v0), some (.int v1), w2, w3] [.int s1, .ref s0] h (none, o) := by
  unfold f_X8_bounces_27 at hf
  obtain ⟨c1, hf⟩ := ite_some hf
  refine rs_iald i_X8_bounces_27 c1 ?_
  refine rs_istore_n i_X8_bounces_28 (Nat.le_of_ble_eq_true rfl) (lv' := [some (.ref v0), some (.int v1), some (.int (gI h s0 (ix s1))), w3]) rfl ?_
  refine rs_aload_n i_X8_bounces_29 rfl ?_
  obtain ⟨c2, hf⟩ := ite_some hf
  obtain ⟨a3, e3, hf⟩ := bind_some hf
  refine rs_getR i_X8_bounces_30 (by decide) (by decide) c2 e3 ?_
  refine rs_iload_n i_X8_bounces_33 rfl ?_
  refine rs_bipush i_X8_bounces_34 (v := 11) (by decide) ?_
  by_cases c4 : v1 ≠ 11
  · replace hf := (if_pos c4).symm.trans hf
    refine rs_icT i_X8_bounces_36 (ct_ne c4) (tg := 44) (by decide) ?_
    refine rs_iload_n i_X8_bounces_44 rfl ?_
    refine rs_iconst i_X8_bounces_45 (v := 1) (by decide) ?_
    refine rs_iadd i_X8_bounces_46 ?_
    exact r_X8_bounces_47 hd HK6 hf
  · replace hf := (if_neg c4).symm.trans hf
    refine rs_icF i_X8_bounces_36 (cf_ne c4) ?_
    refine rs_bipush i_X8_bounces_39 (v := 11) (by decide) ?_
    refine rs_goto i_X8_bounces_41 (tg := 47) (by decide) ?_
    exact r_X8_bounces_47 hd HK6 hf
def f_X8_bounces_6 (n : Nat) : Nat → Nat → Int32 → Hp → Option Hp
  | 0, _, _, _ => none
  | m + 1, v0, v1, h =>
    if 12 ≤ v1 then
      some h
    else
      if okO h v0 8 then
      (gR h v0 50).bind fun a3 =>
      if v1 ≠ 0 then
        f_X8_bounces_27 n (f_X8_bounces_6 n m) v0 v1 a3 (v1 - 1) h
      else
        f_X8_bounces_27 n (f_X8_bounces_6 n m) v0 v1 a3 0 h
      else none
set_option maxRecDepth 100000 in
set_option maxHeartbeats 4000000 in
theorem r_X8_bounces_6 {X : Nat → Int32} {d : Nat} (hd : 1 ≤ (d + 1)) {n : Nat} : ∀ (m : Nat) (v0 : Nat) (v1 : Int32) (w2 : Option Value) (w3 : Option Value) (h : Hp) (o : Hp), f_X8_bounces_6 n m v0 v1 h = some o → Run X (d + 1) 160 6 [some (.ref v0), some (.int v1), w2, w3] [] h (none, o) := by
  intro m
  induction m with
  | zero => intro v0 v1 w2 w3 h o hf; cases hf
  | succ m ih =>
    intro v0 v1 w2 w3 h o hf
    rw [f_X8_bounces_6] at hf
    refine rs_iload_n i_X8_bounces_6 rfl ?_
    refine rs_bipush i_X8_bounces_7 (v := 12) (by decide) ?_
    by_cases c1 : 12 ≤ v1
    · replace hf := (if_pos c1).symm.trans hf
      refine rs_icT i_X8_bounces_9 (ct_ge c1) (tg := 75) (by decide) ?_
      have hf := Option.some.inj hf
      subst hf
      exact rs_vret i_X8_bounces_75 m_X8_bounces rfl
    · replace hf := (if_neg c1).symm.trans hf
      refine rs_icF i_X8_bounces_9 (cf_ge c1) ?_
      refine rs_aload_n i_X8_bounces_12 rfl ?_
      obtain ⟨c2, hf⟩ := ite_some hf
      obtain ⟨a3, e3, hf⟩ := bind_some hf
      refine rs_getR i_X8_bounces_13 (by decide) (by decide) c2 e3 ?_
      refine rs_iload_n i_X8_bounces_16 rfl ?_
      by_cases c4 : v1 ≠ 0
      · replace hf := (if_pos c4).symm.trans hf
        refine rs_ifT i_X8_bounces_17 (ct_ne c4) (tg := 24) (by decide) ?_
        refine rs_iload_n i_X8_bounces_24 rfl ?_
        refine rs_iconst i_X8_bounces_25 (v := 1) (by decide) ?_
        refine rs_isub i_X8_bounces_26 ?_
        exact r_X8_bounces_27 hd ih hf
      · replace hf := (if_neg c4).symm.trans hf
        refine rs_ifF i_X8_bounces_17 (cf_ne c4) ?_
        refine rs_iconst i_X8_bounces_20 (v := 0) (by decide) ?_
        refine rs_goto i_X8_bounces_21 (tg := 27) (by decide) ?_
        exact r_X8_bounces_27 hd ih hf
def f_X8_bounces_0 (n : Nat) (v0 : Nat) (h : Hp) : Option Hp :=
  if okO h v0 8 then
  (f_X8_keepsRow n v0 h).bind fun o1 =>
  f_X8_bounces_6 n n v0 0 o1
  else none
set_option maxRecDepth 100000 in
set_option maxHeartbeats 4000000 in
theorem r_X8_bounces_0 {X : Nat → Int32} {d : Nat} (hd : 1 ≤ (d + 1)) {n : Nat} {v0 : Nat} {h : Hp} {o : Hp} (hf : f_X8_bounces_0 n v0 h = some o) : Run X (d + 1) 160 0 [some (.ref v0), none, none, none] [] h (none, o) := by
  unfold f_X8_bounces_0 at hf
  refine rs_aload_n i_X8_bounces_0 rfl ?_
  obtain ⟨c2, hf⟩ := ite_some hf
  obtain ⟨o1, e1, hf⟩ := bind_some hf
  refine rs_inV i_X8_bounces_1 m_X8_keepsRow rfl (As := []) (rest := []) rfl rfl (Nat.le_of_ble_eq_true rfl) c2 (c_X8_keepsRow (by omega) e1) (st' := []) rfl ?_
  refine rs_iconst i_X8_bounces_4 (v := 0) (by decide) ?_
  refine rs_istore_n i_X8_bounces_5 (Nat.le_of_ble_eq_true rfl) (lv' := [some (.ref v0), some (.int 0), none, none]) rfl ?_
  exact r_X8_bounces_6 hd _ _ _ _ _ _ _ hf
def f_X8_bounces (n : Nat) (v0 : Nat) (h : Hp) : Option Hp := f_X8_bounces_0 n v0 h
theorem c_X8_bounces {X : Nat → Int32} {d : Nat} (hd : 1 ≤ d) {n : Nat} {v0 : Nat} {h : Hp} {o : Hp} (hf : f_X8_bounces n v0 h = some o) : Calls X d 160 [.ref v0] h (none, o) := by
  obtain ⟨d, rfl⟩ : ∃ z, d = z + 1 := ⟨d - 1, by omega⟩
  exact ⟨_, rfl, r_X8_bounces_0 hd hf⟩
theorem i_X8_doubles_0 : fetch 161 0 = some (.aload_n 0, 1, 0, 0, 0, 0) := by decide +kernel
theorem i_X8_doubles_1 : fetch 161 1 = some (.invokevirtual 245, 4, 159, 0, 0, 1284) := by decide +kernel
theorem i_X8_doubles_4 : fetch 161 4 = some (.iconst 0, 5, 0, 0, 0, 0) := by decide +kernel
theorem i_X8_doubles_5 : fetch 161 5 = some (.istore_n 1, 6, 0, 0, 0, 0) := by decide +kernel
theorem i_X8_doubles_6 : fetch 161 6 = some (.iload_n 1, 7, 0, 0, 0, 0) := by decide +kernel
theorem i_X8_doubles_7 : fetch 161 7 = some (.bipush 12, 9, 0, 0, 0, 0) := by decide +kernel
theorem i_X8_doubles_9 : fetch 161 9 = some (.if_icmp .ge 95, 12, 0, 0, 0, 0) := by decide +kernel
theorem i_X8_doubles_12 : fetch 161 12 = some (.iload_n 1, 13, 0, 0, 0, 0) := by decide +kernel
theorem i_X8_doubles_13 : fetch 161 13 = some (.iconst 2, 14, 0, 0, 0, 0) := by decide +kernel
theorem i_X8_doubles_14 : fetch 161 14 = some (.idiv, 15, 0, 0, 0, 0) := by decide +kernel
theorem i_X8_doubles_15 : fetch 161 15 = some (.istore_n 2, 16, 0, 0, 0, 0) := by decide +kernel
theorem i_X8_doubles_16 : fetch 161 16 = some (.bipush 11, 18, 0, 0, 0, 0) := by decide +kernel
theorem i_X8_doubles_18 : fetch 161 18 = some (.iload_n 2, 19, 0, 0, 0, 0) := by decide +kernel
theorem i_X8_doubles_19 : fetch 161 19 = some (.isub, 20, 0, 0, 0, 0) := by decide +kernel
theorem i_X8_doubles_20 : fetch 161 20 = some (.istore_n 3, 21, 0, 0, 0, 0) := by decide +kernel
theorem i_X8_doubles_21 : fetch 161 21 = some (.aload_n 0, 22, 0, 0, 0, 0) := by decide +kernel
theorem i_X8_doubles_22 : fetch 161 22 = some (.getfield 75, 25, 8, 37, 0, 1046) := by decide +kernel
theorem i_X8_doubles_25 : fetch 161 25 = some (.iload_n 1, 26, 0, 0, 0, 0) := by decide +kernel
theorem i_X8_doubles_26 : fetch 161 26 = some (.aload_n 0, 27, 0, 0, 0, 0) := by decide +kernel
theorem i_X8_doubles_27 : fetch 161 27 = some (.getfield 90, 30, 8, 49, 0, 1058) := by decide +kernel
theorem i_X8_doubles_30 : fetch 161 30 = some (.iload_n 2, 31, 0, 0, 0, 0) := by decide +kernel
theorem i_X8_doubles_31 : fetch 161 31 = some (.iaload, 32, 0, 0, 0, 0) := by decide +kernel
theorem i_X8_doubles_32 : fetch 161 32 = some (.aload_n 0, 33, 0, 0, 0, 0) := by decide +kernel
theorem i_X8_doubles_33 : fetch 161 33 = some (.getfield 90, 36, 8, 49, 0, 1058) := by decide +kernel
theorem i_X8_doubles_36 : fetch 161 36 = some (.iload_n 3, 37, 0, 0, 0, 0) := by decide +kernel
theorem i_X8_doubles_37 : fetch 161 37 = some (.iaload, 38, 0, 0, 0, 0) := by decide +kernel
theorem i_X8_doubles_38 : fetch 161 38 = some (.iadd, 39, 0, 0, 0, 0) := by decide +kernel
theorem i_X8_doubles_39 : fetch 161 39 = some (.iconst 4, 40, 0, 0, 0, 0) := by decide +kernel
theorem i_X8_doubles_40 : fetch 161 40 = some (.idiv, 41, 0, 0, 0, 0) := by decide +kernel
theorem i_X8_doubles_41 : fetch 161 41 = some (.iastore, 42, 0, 0, 0, 0) := by decide +kernel
theorem i_X8_doubles_42 : fetch 161 42 = some (.aload_n 0, 43, 0, 0, 0, 0) := by decide +kernel
theorem i_X8_doubles_43 : fetch 161 43 = some (.getfield 93, 46, 8, 50, 0, 1059) := by decide +kernel
theorem i_X8_doubles_46 : fetch 161 46 = some (.iload_n 2, 47, 0, 0, 0, 0) := by decide +kernel
theorem i_X8_doubles_47 : fetch 161 47 = some (.iaload, 48, 0, 0, 0, 0) := by decide +kernel
theorem i_X8_doubles_48 : fetch 161 48 = some (.aload_n 0, 49, 0, 0, 0, 0) := by decide +kernel
theorem i_X8_doubles_49 : fetch 161 49 = some (.getfield 93, 52, 8, 50, 0, 1059) := by decide +kernel
theorem i_X8_doubles_52 : fetch 161 52 = some (.iload_n 3, 53, 0, 0, 0, 0) := by decide +kernel
theorem i_X8_doubles_53 : fetch 161 53 = some (.iaload, 54, 0, 0, 0, 0) := by decide +kernel
theorem i_X8_doubles_54 : fetch 161 54 = some (.iadd, 55, 0, 0, 0, 0) := by decide +kernel
theorem i_X8_doubles_55 : fetch 161 55 = some (.iconst 4, 56, 0, 0, 0, 0) := by decide +kernel
theorem i_X8_doubles_56 : fetch 161 56 = some (.idiv, 57, 0, 0, 0, 0) := by decide +kernel
theorem i_X8_doubles_57 : fetch 161 57 = some (.istore 4, 59, 0, 0, 0, 0) := by decide +kernel
theorem i_X8_doubles_59 : fetch 161 59 = some (.aload_n 0, 60, 0, 0, 0, 0) := by decide +kernel
theorem i_X8_doubles_60 : fetch 161 60 = some (.getfield 78, 63, 8, 38, 0, 1047) := by decide +kernel
theorem i_X8_doubles_63 : fetch 161 63 = some (.iload_n 1, 64, 0, 0, 0, 0) := by decide +kernel
theorem i_X8_doubles_64 : fetch 161 64 = some (.iload 4, 66, 0, 0, 0, 0) := by decide +kernel
theorem i_X8_doubles_66 : fetch 161 66 = some (.iconst 1, 67, 0, 0, 0, 0) := by decide +kernel
theorem i_X8_doubles_67 : fetch 161 67 = some (.if_icmp .ge 7, 70, 0, 0, 0, 0) := by decide +kernel
theorem i_X8_doubles_70 : fetch 161 70 = some (.iconst 1, 71, 0, 0, 0, 0) := by decide +kernel
theorem i_X8_doubles_71 : fetch 161 71 = some (.goto 5, 74, 0, 0, 0, 0) := by decide +kernel
theorem i_X8_doubles_74 : fetch 161 74 = some (.iload 4, 76, 0, 0, 0, 0) := by decide +kernel
theorem i_X8_doubles_76 : fetch 161 76 = some (.iastore, 77, 0, 0, 0, 0) := by decide +kernel
theorem i_X8_doubles_77 : fetch 161 77 = some (.aload_n 0, 78, 0, 0, 0, 0) := by decide +kernel
theorem i_X8_doubles_78 : fetch 161 78 = some (.getfield 81, 81, 8, 39, 0, 1048) := by decide +kernel
theorem i_X8_doubles_81 : fetch 161 81 = some (.iload_n 1, 82, 0, 0, 0, 0) := by decide +kernel
theorem i_X8_doubles_82 : fetch 161 82 = some (.aload_n 0, 83, 0, 0, 0, 0) := by decide +kernel
theorem i_X8_doubles_83 : fetch 161 83 = some (.getfield 96, 86, 8, 51, 0, 1060) := by decide +kernel
theorem i_X8_doubles_86 : fetch 161 86 = some (.iload_n 2, 87, 0, 0, 0, 0) := by decide +kernel
theorem i_X8_doubles_87 : fetch 161 87 = some (.iaload, 88, 0, 0, 0, 0) := by decide +kernel
theorem i_X8_doubles_88 : fetch 161 88 = some (.aload_n 0, 89, 0, 0, 0, 0) := by decide +kernel
theorem i_X8_doubles_89 : fetch 161 89 = some (.getfield 96, 92, 8, 51, 0, 1060) := by decide +kernel
theorem i_X8_doubles_92 : fetch 161 92 = some (.iload_n 3, 93, 0, 0, 0, 0) := by decide +kernel
theorem i_X8_doubles_93 : fetch 161 93 = some (.iaload, 94, 0, 0, 0, 0) := by decide +kernel
theorem i_X8_doubles_94 : fetch 161 94 = some (.iadd, 95, 0, 0, 0, 0) := by decide +kernel
theorem i_X8_doubles_95 : fetch 161 95 = some (.iconst 2, 96, 0, 0, 0, 0) := by decide +kernel
theorem i_X8_doubles_96 : fetch 161 96 = some (.idiv, 97, 0, 0, 0, 0) := by decide +kernel
theorem i_X8_doubles_97 : fetch 161 97 = some (.iastore, 98, 0, 0, 0, 0) := by decide +kernel
theorem i_X8_doubles_98 : fetch 161 98 = some (.iinc 1 1, 101, 0, 0, 0, 0) := by decide +kernel
theorem i_X8_doubles_101 : fetch 161 101 = some (.goto (-95), 104, 0, 0, 0, 0) := by decide +kernel
theorem i_X8_doubles_104 : fetch 161 104 = some (.aload_n 0, 105, 0, 0, 0, 0) := by decide +kernel
theorem i_X8_doubles_105 : fetch 161 105 = some (.dup, 106, 0, 0, 0, 0) := by decide +kernel
theorem i_X8_doubles_106 : fetch 161 106 = some (.getfield 205, 109, 8, 40, 0, 1049) := by decide +kernel
theorem i_X8_doubles_109 : fetch 161 109 = some (.iconst 1, 110, 0, 0, 0, 0) := by decide +kernel
theorem i_X8_doubles_110 : fetch 161 110 = some (.iadd, 111, 0, 0, 0, 0) := by decide +kernel
theorem i_X8_doubles_111 : fetch 161 111 = some (.putfield 205, 114, 8, 40, 0, 1049) := by decide +kernel
theorem i_X8_doubles_114 : fetch 161 114 = some (.aload_n 0, 115, 0, 0, 0, 0) := by decide +kernel
theorem i_X8_doubles_115 : fetch 161 115 = some (.aload_n 0, 116, 0, 0, 0, 0) := by decide +kernel
theorem i_X8_doubles_116 : fetch 161 116 = some (.getfield 248, 119, 8, 44, 0, 1053) := by decide +kernel
theorem i_X8_doubles_119 : fetch 161 119 = some (.bipush 100, 121, 0, 0, 0, 0) := by decide +kernel
theorem i_X8_doubles_121 : fetch 161 121 = some (.aload_n 0, 122, 0, 0, 0, 0) := by decide +kernel
theorem i_X8_doubles_122 : fetch 161 122 = some (.iconst 2, 123, 0, 0, 0, 0) := by decide +kernel
theorem i_X8_doubles_123 : fetch 161 123 = some (.iconst 0, 124, 0, 0, 0, 0) := by decide +kernel
theorem i_X8_doubles_124 : fetch 161 124 = some (.iconst 0, 125, 0, 0, 0, 0) := by decide +kernel
theorem i_X8_doubles_125 : fetch 161 125 = some (.invokevirtual 228, 128, 155, 0, 0, 1252) := by decide +kernel
theorem i_X8_doubles_128 : fetch 161 128 = some (.iconst 0, 129, 0, 0, 0, 0) := by decide +kernel
theorem i_X8_doubles_129 : fetch 161 129 = some (.bipush 100, 131, 0, 0, 0, 0) := by decide +kernel
theorem i_X8_doubles_131 : fetch 161 131 = some (.invokestatic 234, 134, 130, 0, 0, 1274) := by decide +kernel
theorem i_X8_doubles_134 : fetch 161 134 = some (.isub, 135, 0, 0, 0, 0) := by decide +kernel
theorem i_X8_doubles_135 : fetch 161 135 = some (.i2l, 136, 0, 0, 0, 0) := by decide +kernel
theorem i_X8_doubles_136 : fetch 161 136 = some (.lmul, 137, 0, 0, 0, 0) := by decide +kernel
theorem i_X8_doubles_137 : fetch 161 137 = some (.ldc2_w 243, 140, 0, 0, 100, 1279) := by decide +kernel
theorem i_X8_doubles_140 : fetch 161 140 = some (.ldiv, 141, 0, 0, 0, 0) := by decide +kernel
theorem i_X8_doubles_141 : fetch 161 141 = some (.putfield 248, 144, 8, 44, 0, 1053) := by decide +kernel
theorem i_X8_doubles_144 : fetch 161 144 = some (.return_, 145, 0, 0, 0, 0) := by decide +kernel
def f_X8_doubles_114 (n : Nat) (v0 : Nat) (h : Hp) : Option Hp :=
  if okO h v0 8 then
  (f_X8_asks n v0 2 0 0 h).bind fun o2 =>
  (f_X8_within o2.1 0 100 o2.2).bind fun o3 =>
  if okO o3.2 v0 8 then
  some (hsl o3.2 v0 44 (((gL' h v0 44) * (Int32.toInt64 (100 - o3.1))) / 100))
  else none
  else none
set_option maxRecDepth 100000 in
set_option maxHeartbeats 4000000 in
theorem r_X8_doubles_114 {X : Nat → Int32} {d : Nat} (hd : 3 ≤ (d + 1)) {n : Nat} {v0 : Nat} {d1 : Int32} {w2 : Option Value} {w3 : Option Value} {w4 : Option Value} {h : Hp} {o : Hp} (hf : f_X8_doubles_114 n v0 h = some o) : Run X (d + 1) 161 114 [some (.ref v0), some (.int d1), w2, w3, w4] [] h (none, o) := by
  unfold f_X8_doubles_114 at hf
  refine rs_aload_n i_X8_doubles_114 rfl ?_
  refine rs_aload_n i_X8_doubles_115 rfl ?_
  obtain ⟨c1, hf⟩ := ite_some hf
  refine rs_getL i_X8_doubles_116 (by decide) (by decide) c1 ?_
  refine rs_bipush i_X8_doubles_119 (v := 100) (by decide) ?_
  refine rs_aload_n i_X8_doubles_121 rfl ?_
  refine rs_iconst i_X8_doubles_122 (v := 2) (by decide) ?_
  refine rs_iconst i_X8_doubles_123 (v := 0) (by decide) ?_
  refine rs_iconst i_X8_doubles_124 (v := 0) (by decide) ?_
  obtain ⟨o2, e2, hf⟩ := bind_some hf
  refine rs_inV i_X8_doubles_125 m_X8_asks rfl (As := [.int 2, .int 0, .int 0]) (rest := [.int 100, .long (gL' h v0 44), .ref v0]) rfl rfl (Nat.le_of_ble_eq_true rfl) c1 (c_X8_asks (by omega) e2) (st' := [.int o2.1, .int 100, .long (gL' h v0 44), .ref v0]) rfl ?_
  refine rs_iconst i_X8_doubles_128 (v := 0) (by decide) ?_
  refine rs_bipush i_X8_doubles_129 (v := 100) (by decide) ?_
  obtain ⟨o3, e3, hf⟩ := bind_some hf
  refine rs_inS i_X8_doubles_131 (by decide) m_X8_within rfl (As := [.int o2.1, .int 0, .int 100]) (rest := [.int 100, .long (gL' h v0 44), .ref v0]) rfl rfl (Nat.le_of_ble_eq_true rfl) (c_X8_within (by omega) e3) (st' := [.int o3.1, .int 100, .long (gL' h v0 44), .ref v0]) rfl ?_
  refine rs_isub i_X8_doubles_134 ?_
  refine rs_i2l i_X8_doubles_135 ?_
  refine rs_lmul i_X8_doubles_136 ?_
  refine rs_ldc2 i_X8_doubles_137 (v := 100) (by decide) ?_
  refine rs_ldiv i_X8_doubles_140 (by decide) ?_
  obtain ⟨c4, hf⟩ := ite_some hf
  refine rs_putL i_X8_doubles_141 (by decide) c4 ?_
  have hf := Option.some.inj hf
  subst hf
  exact rs_vret i_X8_doubles_144 m_X8_doubles rfl
def f_X8_doubles_77 (n : Nat) (K6 : Nat → Int32 → Hp → Option Hp) (v0 : Nat) (v1 : Int32) (v2 : Int32) (v3 : Int32) (h : Hp) : Option Hp :=
  if okO h v0 8 then
  (gR h v0 39).bind fun a2 =>
  (gR h v0 51).bind fun a3 =>
  if okI h a3 v2 then
  if okI h a3 v3 then
  if okI h a2 v1 then
  K6 v0 (v1 + 1) (hsi h a2 (ix v1) (((gI h a3 (ix v2)) + (gI h a3 (ix v3))) / 2))
  else none
  else none
  else none
  else none
set_option maxRecDepth 100000 in
set_option maxHeartbeats 4000000 in
theorem r_X8_doubles_77 {X : Nat → Int32} {d : Nat} (hd : 3 ≤ (d + 1)) {n : Nat} {K6 : Nat → Int32 → Hp → Option Hp} (HK6 : ∀ (v0 : Nat) (v1 : Int32) (w2 : Option Value) (w3 : Option Value) (w4 : Option Value) (h : Hp) (o : Hp), K6 v0 v1 h = some o → Run X (d + 1) 161 6 [some (.ref v0), some (.int v1), w2, w3, w4] [] h (none, o)) {v0 : Nat} {v1 : Int32} {v2 : Int32} {v3 : Int32} {d4 : Int32} {h : Hp} {o : Hp} (hf : f_X8_doubles_77 n K6 v0 v1 v2 v3 h = some o) : Run X (d + 1) 161 77 [some (.ref v0), some (.int v1), some (.int v2), some (.int v3), some (.int d4)] [] h (none, o) := by
  unfold f_X8_doubles_77 at hf
  refine rs_aload_n i_X8_doubles_77 rfl ?_
  obtain ⟨c1, hf⟩ := ite_some hf
  obtain ⟨a2, e2, hf⟩ := bind_some hf
  refine rs_getR i_X8_doubles_78 (by decide) (by decide) c1 e2 ?_
  refine rs_iload_n i_X8_doubles_81 rfl ?_
  refine rs_aload_n i_X8_doubles_82 rfl ?_
  obtain ⟨a3, e3, hf⟩ := bind_some hf
  refine rs_getR i_X8_doubles_83 (by decide) (by decide) c1 e3 ?_
  refine rs_iload_n i_X8_doubles_86 rfl ?_
  obtain ⟨c4, hf⟩ := ite_some hf
  refine rs_iald i_X8_doubles_87 c4 ?_
  refine rs_aload_n i_X8_doubles_88 rfl ?_
  refine rs_getR i_X8_doubles_89 (by decide) (by decide) c1 e3 ?_
  refine rs_iload_n i_X8_doubles_92 rfl ?_
  obtain ⟨c5, hf⟩ := ite_some hf
  refine rs_iald i_X8_doubles_93 c5 ?_
  refine rs_iadd i_X8_doubles_94 ?_
  refine rs_iconst i_X8_doubles_95 (v := 2) (by decide) ?_
  refine rs_idiv i_X8_doubles_96 (by decide) ?_
  obtain ⟨c6, hf⟩ := ite_some hf
  refine rs_iast i_X8_doubles_97 c6 ?_
  refine rs_iinc i_X8_doubles_98 rfl (v := v1 + 1) rfl (Nat.le_of_ble_eq_true rfl) (lv' := [some (.ref v0), some (.int (v1 + 1)), some (.int v2), some (.int v3), some (.int d4)]) rfl ?_
  refine rs_goto i_X8_doubles_101 (tg := 6) (by decide) ?_
  exact HK6 _ _ _ _ _ _ _ hf
def f_X8_doubles_76 (n : Nat) (K6 : Nat → Int32 → Hp → Option Hp) (v0 : Nat) (v1 : Int32) (v2 : Int32) (v3 : Int32) (s0 : Nat) (s1 : Int32) (s2 : Int32) (h : Hp) : Option Hp :=
  if okI h s0 s1 then
  f_X8_doubles_77 n K6 v0 v1 v2 v3 (hsi h s0 (ix s1) s2)
  else none
set_option maxRecDepth 100000 in
set_option maxHeartbeats 4000000 in
theorem r_X8_doubles_76 {X : Nat → Int32} {d : Nat} (hd : 3 ≤ (d + 1)) {n : Nat} {K6 : Nat → Int32 → Hp → Option Hp} (HK6 : ∀ (v0 : Nat) (v1 : Int32) (w2 : Option Value) (w3 : Option Value) (w4 : Option Value) (h : Hp) (o : Hp), K6 v0 v1 h = some o → Run X (d + 1) 161 6 [some (.ref v0), some (.int v1), w2, w3, w4] [] h (none, o)) {v0 : Nat} {v1 : Int32} {v2 : Int32} {v3 : Int32} {s0 : Nat} {s1 : Int32} {s2 : Int32} {d4 : Int32} {h : Hp} {o : Hp} (hf : f_X8_doubles_76 n K6 v0 v1 v2 v3 s0 s1 s2 h = some o) : Run X (d + 1) 161 76 [some (.ref v0), some (.int v1), some (.int v2), some (.int v3), some (.int d4)] [.int s2, .int s1, .ref s0] h (none, o) := by
  unfold f_X8_doubles_76 at hf
  obtain ⟨c1, hf⟩ := ite_some hf
  refine rs_iast i_X8_doubles_76 c1 ?_
  exact r_X8_doubles_77 hd HK6 hf
def f_X8_doubles_59 (n : Nat) (K6 : Nat → Int32 → Hp → Option Hp) (v0 : Nat) (v1 : Int32) (v2 : Int32) (v3 : Int32) (v4 : Int32) (h : Hp) : Option Hp :=
  if okO h v0 8 then
  (gR h v0 38).bind fun a2 =>
  if 1 ≤ v4 then
    f_X8_doubles_76 n K6 v0 v1 v2 v3 a2 v1 v4 h
  else
    f_X8_doubles_76 n K6 v0 v1 v2 v3 a2 v1 1 h
  else none
set_option maxRecDepth 100000 in
set_option maxHeartbeats 4000000 in
theorem r_X8_doubles_59 {X : Nat → Int32} {d : Nat} (hd : 3 ≤ (d + 1)) {n : Nat} {K6 : Nat → Int32 → Hp → Option Hp} (HK6 : ∀ (v0 : Nat) (v1 : Int32) (w2 : Option Value) (w3 : Option Value) (w4 : Option Value) (h : Hp) (o : Hp), K6 v0 v1 h = some o → Run X (d + 1) 161 6 [some (.ref v0), some (.int v1), w2, w3, w4] [] h (none, o)) {v0 : Nat} {v1 : Int32} {v2 : Int32} {v3 : Int32} {v4 : Int32} {h : Hp} {o : Hp} (hf : f_X8_doubles_59 n K6 v0 v1 v2 v3 v4 h = some o) : Run X (d + 1) 161 59 [some (.ref v0), some (.int v1), some (.int v2), some (.int v3), some (.int v4)] [] h (none, o) := by
  unfold f_X8_doubles_59 at hf
  refine rs_aload_n i_X8_doubles_59 rfl ?_
  obtain ⟨c1, hf⟩ := ite_some hf
  obtain ⟨a2, e2, hf⟩ := bind_some hf
  refine rs_getR i_X8_doubles_60 (by decide) (by decide) c1 e2 ?_
  refine rs_iload_n i_X8_doubles_63 rfl ?_
  refine rs_iload i_X8_doubles_64 rfl ?_
  refine rs_iconst i_X8_doubles_66 (v := 1) (by decide) ?_
  by_cases c3 : 1 ≤ v4
  · replace hf := (if_pos c3).symm.trans hf
    refine rs_icT i_X8_doubles_67 (ct_ge c3) (tg := 74) (by decide) ?_
    refine rs_iload i_X8_doubles_74 rfl ?_
    exact r_X8_doubles_76 hd HK6 hf
  · replace hf := (if_neg c3).symm.trans hf
    refine rs_icF i_X8_doubles_67 (cf_ge c3) ?_
    refine rs_iconst i_X8_doubles_70 (v := 1) (by decide) ?_
    refine rs_goto i_X8_doubles_71 (tg := 76) (by decide) ?_
    exact r_X8_doubles_76 hd HK6 hf
def f_X8_doubles_42 (n : Nat) (K6 : Nat → Int32 → Hp → Option Hp) (v0 : Nat) (v1 : Int32) (v2 : Int32) (v3 : Int32) (h : Hp) : Option Hp :=
  if okO h v0 8 then
  (gR h v0 50).bind fun a2 =>
  if okI h a2 v2 then
  if okI h a2 v3 then
  f_X8_doubles_59 n K6 v0 v1 v2 v3 (((gI h a2 (ix v2)) + (gI h a2 (ix v3))) / 4) h
  else none
  else none
  else none
set_option maxRecDepth 100000 in
set_option maxHeartbeats 4000000 in
theorem r_X8_doubles_42 {X : Nat → Int32} {d : Nat} (hd : 3 ≤ (d + 1)) {n : Nat} {K6 : Nat → Int32 → Hp → Option Hp} (HK6 : ∀ (v0 : Nat) (v1 : Int32) (w2 : Option Value) (w3 : Option Value) (w4 : Option Value) (h : Hp) (o : Hp), K6 v0 v1 h = some o → Run X (d + 1) 161 6 [some (.ref v0), some (.int v1), w2, w3, w4] [] h (none, o)) {v0 : Nat} {v1 : Int32} {v2 : Int32} {v3 : Int32} {w4 : Option Value} {h : Hp} {o : Hp} (hf : f_X8_doubles_42 n K6 v0 v1 v2 v3 h = some o) : Run X (d + 1) 161 42 [some (.ref v0), some (.int v1), some (.int v2), some (.int v3), w4] [] h (none, o) := by
  unfold f_X8_doubles_42 at hf
  refine rs_aload_n i_X8_doubles_42 rfl ?_
  obtain ⟨c1, hf⟩ := ite_some hf
  obtain ⟨a2, e2, hf⟩ := bind_some hf
  refine rs_getR i_X8_doubles_43 (by decide) (by decide) c1 e2 ?_
  refine rs_iload_n i_X8_doubles_46 rfl ?_
  obtain ⟨c3, hf⟩ := ite_some hf
  refine rs_iald i_X8_doubles_47 c3 ?_
  refine rs_aload_n i_X8_doubles_48 rfl ?_
  refine rs_getR i_X8_doubles_49 (by decide) (by decide) c1 e2 ?_
  refine rs_iload_n i_X8_doubles_52 rfl ?_
  obtain ⟨c4, hf⟩ := ite_some hf
  refine rs_iald i_X8_doubles_53 c4 ?_
  refine rs_iadd i_X8_doubles_54 ?_
  refine rs_iconst i_X8_doubles_55 (v := 4) (by decide) ?_
  refine rs_idiv i_X8_doubles_56 (by decide) ?_
  refine rs_istore i_X8_doubles_57 (Nat.le_of_ble_eq_true rfl) (lv' := [some (.ref v0), some (.int v1), some (.int v2), some (.int v3), some (.int (((gI h a2 (ix v2)) + (gI h a2 (ix v3))) / 4))]) rfl ?_
  exact r_X8_doubles_59 hd HK6 hf
def f_X8_doubles_6 (n : Nat) : Nat → Nat → Int32 → Hp → Option Hp
  | 0, _, _, _ => none
  | m + 1, v0, v1, h =>
    if 12 ≤ v1 then
      if okO h v0 8 then
      f_X8_doubles_114 n v0 (hsi h v0 40 ((gI h v0 40) + 1))
      else none
    else
      if okO h v0 8 then
      (gR h v0 37).bind fun a4 =>
      (gR h v0 49).bind fun a5 =>
      if okI h a5 (v1 / 2) then
      if okI h a5 (11 - (v1 / 2)) then
      if okI h a4 v1 then
      f_X8_doubles_42 n (f_X8_doubles_6 n m) v0 v1 (v1 / 2) (11 - (v1 / 2)) (hsi h a4 (ix v1) (((gI h a5 (ix (v1 / 2))) + (gI h a5 (ix (11 - (v1 / 2))))) / 4))
      else none
      else none
      else none
      else none
set_option maxRecDepth 100000 in
set_option maxHeartbeats 4000000 in
theorem r_X8_doubles_6 {X : Nat → Int32} {d : Nat} (hd : 3 ≤ (d + 1)) {n : Nat} : ∀ (m : Nat) (v0 : Nat) (v1 : Int32) (w2 : Option Value) (w3 : Option Value) (w4 : Option Value) (h : Hp) (o : Hp), f_X8_doubles_6 n m v0 v1 h = some o → Run X (d + 1) 161 6 [some (.ref v0), some (.int v1), w2, w3, w4] [] h (none, o) := by
  intro m
  induction m with
  | zero => intro v0 v1 w2 w3 w4 h o hf; cases hf
  | succ m ih =>
    intro v0 v1 w2 w3 w4 h o hf
    rw [f_X8_doubles_6] at hf
    refine rs_iload_n i_X8_doubles_6 rfl ?_
    refine rs_bipush i_X8_doubles_7 (v := 12) (by decide) ?_
    by_cases c1 : 12 ≤ v1
    · replace hf := (if_pos c1).symm.trans hf
      refine rs_icT i_X8_doubles_9 (ct_ge c1) (tg := 104) (by decide) ?_
      refine rs_aload_n i_X8_doubles_104 rfl ?_
      refine rs_dup i_X8_doubles_105 rfl ?_
      obtain ⟨c2, hf⟩ := ite_some hf
      refine rs_getI i_X8_doubles_106 (by decide) (by decide) c2 ?_
      refine rs_iconst i_X8_doubles_109 (v := 1) (by decide) ?_
      refine rs_iadd i_X8_doubles_110 ?_
      refine rs_putI i_X8_doubles_111 (by decide) c2 ?_
      exact r_X8_doubles_114 hd hf
    · replace hf := (if_neg c1).symm.trans hf
      refine rs_icF i_X8_doubles_9 (cf_ge c1) ?_
      refine rs_iload_n i_X8_doubles_12 rfl ?_
      refine rs_iconst i_X8_doubles_13 (v := 2) (by decide) ?_
      refine rs_idiv i_X8_doubles_14 (by decide) ?_
      refine rs_istore_n i_X8_doubles_15 (Nat.le_of_ble_eq_true rfl) (lv' := [some (.ref v0), some (.int v1), some (.int (v1 / 2)), w3, w4]) rfl ?_
      refine rs_bipush i_X8_doubles_16 (v := 11) (by decide) ?_
      refine rs_iload_n i_X8_doubles_18 rfl ?_
      refine rs_isub i_X8_doubles_19 ?_
      refine rs_istore_n i_X8_doubles_20 (Nat.le_of_ble_eq_true rfl) (lv' := [some (.ref v0), some (.int v1), some (.int (v1 / 2)), some (.int (11 - (v1 / 2))), w4]) rfl ?_
      refine rs_aload_n i_X8_doubles_21 rfl ?_
      obtain ⟨c3, hf⟩ := ite_some hf
      obtain ⟨a4, e4, hf⟩ := bind_some hf
      refine rs_getR i_X8_doubles_22 (by decide) (by decide) c3 e4 ?_
      refine rs_iload_n i_X8_doubles_25 rfl ?_
      refine rs_aload_n i_X8_doubles_26 rfl ?_
      obtain ⟨a5, e5, hf⟩ := bind_some hf
      refine rs_getR i_X8_doubles_27 (by decide) (by decide) c3 e5 ?_
      refine rs_iload_n i_X8_doubles_30 rfl ?_
      obtain ⟨c6, hf⟩ := ite_some hf
      refine rs_iald i_X8_doubles_31 c6 ?_
      refine rs_aload_n i_X8_doubles_32 rfl ?_
      refine rs_getR i_X8_doubles_33 (by decide) (by decide) c3 e5 ?_
      refine rs_iload_n i_X8_doubles_36 rfl ?_
      obtain ⟨c7, hf⟩ := ite_some hf
      refine rs_iald i_X8_doubles_37 c7 ?_
      refine rs_iadd i_X8_doubles_38 ?_
      refine rs_iconst i_X8_doubles_39 (v := 4) (by decide) ?_
      refine rs_idiv i_X8_doubles_40 (by decide) ?_
      obtain ⟨c8, hf⟩ := ite_some hf
      refine rs_iast i_X8_doubles_41 c8 ?_
      exact r_X8_doubles_42 hd ih hf
def f_X8_doubles_0 (n : Nat) (v0 : Nat) (h : Hp) : Option Hp :=
  if okO h v0 8 then
  (f_X8_keepsRow n v0 h).bind fun o1 =>
  f_X8_doubles_6 n n v0 0 o1
  else none
set_option maxRecDepth 100000 in
set_option maxHeartbeats 4000000 in
theorem r_X8_doubles_0 {X : Nat → Int32} {d : Nat} (hd : 3 ≤ (d + 1)) {n : Nat} {v0 : Nat} {h : Hp} {o : Hp} (hf : f_X8_doubles_0 n v0 h = some o) : Run X (d + 1) 161 0 [some (.ref v0), none, none, none, none] [] h (none, o) := by
  unfold f_X8_doubles_0 at hf
  refine rs_aload_n i_X8_doubles_0 rfl ?_
  obtain ⟨c2, hf⟩ := ite_some hf
  obtain ⟨o1, e1, hf⟩ := bind_some hf
  refine rs_inV i_X8_doubles_1 m_X8_keepsRow rfl (As := []) (rest := []) rfl rfl (Nat.le_of_ble_eq_true rfl) c2 (c_X8_keepsRow (by omega) e1) (st' := []) rfl ?_
  refine rs_iconst i_X8_doubles_4 (v := 0) (by decide) ?_
  refine rs_istore_n i_X8_doubles_5 (Nat.le_of_ble_eq_true rfl) (lv' := [some (.ref v0), some (.int 0), none, none, none]) rfl ?_
  exact r_X8_doubles_6 hd _ _ _ _ _ _ _ _ hf
def f_X8_doubles (n : Nat) (v0 : Nat) (h : Hp) : Option Hp := f_X8_doubles_0 n v0 h
theorem c_X8_doubles {X : Nat → Int32} {d : Nat} (hd : 3 ≤ d) {n : Nat} {v0 : Nat} {h : Hp} {o : Hp} (hf : f_X8_doubles n v0 h = some o) : Calls X d 161 [.ref v0] h (none, o) := by
  obtain ⟨d, rfl⟩ : ∃ z, d = z + 1 := ⟨d - 1, by omega⟩
  exact ⟨_, rfl, r_X8_doubles_0 hd hf⟩
