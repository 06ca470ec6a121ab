theorem i_X8_cuts_0 : fetch 162 0 = some (.aload_n 0, 1, 0, 0, 0, 0) := by decide +kernel
theorem i_X8_cuts_1 : fetch 162 1 = some (.getfield 75, 4, 8, 37, 0, 1046) := by decide +kernel
theorem i_X8_cuts_4 : fetch 162 4 = some (.iload_n 1, 5, 0, 0, 0, 0) := by decide +kernel
theorem i_X8_cuts_5 : fetch 162 5 = some (.iaload, 6, 0, 0, 0, 0) := by decide +kernel
theorem i_X8_cuts_6 : fetch 162 6 = some (.iload_n 2, 7, 0, 0, 0, 0) := by decide +kernel
theorem i_X8_cuts_7 : fetch 162 7 = some (.imul, 8, 0, 0, 0, 0) := by decide +kernel
theorem i_X8_cuts_8 : fetch 162 8 = some (.bipush 10, 10, 0, 0, 0, 0) := by decide +kernel
theorem i_X8_cuts_10 : fetch 162 10 = some (.idiv, 11, 0, 0, 0, 0) := by decide +kernel
theorem i_X8_cuts_11 : fetch 162 11 = some (.istore_n 3, 12, 0, 0, 0, 0) := by decide +kernel
theorem i_X8_cuts_12 : fetch 162 12 = some (.aload_n 0, 13, 0, 0, 0, 0) := by decide +kernel
theorem i_X8_cuts_13 : fetch 162 13 = some (.dup, 14, 0, 0, 0, 0) := by decide +kernel
theorem i_X8_cuts_14 : fetch 162 14 = some (.getfield 251, 17, 8, 42, 0, 1051) := by decide +kernel
theorem i_X8_cuts_17 : fetch 162 17 = some (.iload_n 3, 18, 0, 0, 0, 0) := by decide +kernel
theorem i_X8_cuts_18 : fetch 162 18 = some (.iadd, 19, 0, 0, 0, 0) := by decide +kernel
theorem i_X8_cuts_19 : fetch 162 19 = some (.putfield 251, 22, 8, 42, 0, 1051) := by decide +kernel
theorem i_X8_cuts_22 : fetch 162 22 = some (.aload_n 0, 23, 0, 0, 0, 0) := by decide +kernel
theorem i_X8_cuts_23 : fetch 162 23 = some (.getfield 75, 26, 8, 37, 0, 1046) := by decide +kernel
theorem i_X8_cuts_26 : fetch 162 26 = some (.iload_n 1, 27, 0, 0, 0, 0) := by decide +kernel
theorem i_X8_cuts_27 : fetch 162 27 = some (.aload_n 0, 28, 0, 0, 0, 0) := by decide +kernel
theorem i_X8_cuts_28 : fetch 162 28 = some (.getfield 75, 31, 8, 37, 0, 1046) := by decide +kernel
theorem i_X8_cuts_31 : fetch 162 31 = some (.iload_n 1, 32, 0, 0, 0, 0) := by decide +kernel
theorem i_X8_cuts_32 : fetch 162 32 = some (.iaload, 33, 0, 0, 0, 0) := by decide +kernel
theorem i_X8_cuts_33 : fetch 162 33 = some (.iload_n 3, 34, 0, 0, 0, 0) := by decide +kernel
theorem i_X8_cuts_34 : fetch 162 34 = some (.isub, 35, 0, 0, 0, 0) := by decide +kernel
theorem i_X8_cuts_35 : fetch 162 35 = some (.iconst 1, 36, 0, 0, 0, 0) := by decide +kernel
theorem i_X8_cuts_36 : fetch 162 36 = some (.if_icmp .ge 7, 39, 0, 0, 0, 0) := by decide +kernel
theorem i_X8_cuts_39 : fetch 162 39 = some (.iconst 1, 40, 0, 0, 0, 0) := by decide +kernel
theorem i_X8_cuts_40 : fetch 162 40 = some (.goto 11, 43, 0, 0, 0, 0) := by decide +kernel
theorem i_X8_cuts_43 : fetch 162 43 = some (.aload_n 0, 44, 0, 0, 0, 0) := by decide +kernel
theorem i_X8_cuts_44 : fetch 162 44 = some (.getfield 75, 47, 8, 37, 0, 1046) := by decide +kernel
theorem i_X8_cuts_47 : fetch 162 47 = some (.iload_n 1, 48, 0, 0, 0, 0) := by decide +kernel
theorem i_X8_cuts_48 : fetch 162 48 = some (.iaload, 49, 0, 0, 0, 0) := by decide +kernel
theorem i_X8_cuts_49 : fetch 162 49 = some (.iload_n 3, 50, 0, 0, 0, 0) := by decide +kernel
theorem i_X8_cuts_50 : fetch 162 50 = some (.isub, 51, 0, 0, 0, 0) := by decide +kernel
theorem i_X8_cuts_51 : fetch 162 51 = some (.iastore, 52, 0, 0, 0, 0) := by decide +kernel
theorem i_X8_cuts_52 : fetch 162 52 = some (.aload_n 0, 53, 0, 0, 0, 0) := by decide +kernel
theorem i_X8_cuts_53 : fetch 162 53 = some (.getfield 78, 56, 8, 38, 0, 1047) := by decide +kernel
theorem i_X8_cuts_56 : fetch 162 56 = some (.iload_n 1, 57, 0, 0, 0, 0) := by decide +kernel
theorem i_X8_cuts_57 : fetch 162 57 = some (.iaload, 58, 0, 0, 0, 0) := by decide +kernel
theorem i_X8_cuts_58 : fetch 162 58 = some (.aload_n 0, 59, 0, 0, 0, 0) := by decide +kernel
theorem i_X8_cuts_59 : fetch 162 59 = some (.getfield 78, 62, 8, 38, 0, 1047) := by decide +kernel
theorem i_X8_cuts_62 : fetch 162 62 = some (.iload_n 1, 63, 0, 0, 0, 0) := by decide +kernel
theorem i_X8_cuts_63 : fetch 162 63 = some (.iaload, 64, 0, 0, 0, 0) := by decide +kernel
theorem i_X8_cuts_64 : fetch 162 64 = some (.iload_n 2, 65, 0, 0, 0, 0) := by decide +kernel
theorem i_X8_cuts_65 : fetch 162 65 = some (.imul, 66, 0, 0, 0, 0) := by decide +kernel
theorem i_X8_cuts_66 : fetch 162 66 = some (.bipush 10, 68, 0, 0, 0, 0) := by decide +kernel
theorem i_X8_cuts_68 : fetch 162 68 = some (.idiv, 69, 0, 0, 0, 0) := by decide +kernel
theorem i_X8_cuts_69 : fetch 162 69 = some (.isub, 70, 0, 0, 0, 0) := by decide +kernel
theorem i_X8_cuts_70 : fetch 162 70 = some (.istore 4, 72, 0, 0, 0, 0) := by decide +kernel
theorem i_X8_cuts_72 : fetch 162 72 = some (.aload_n 0, 73, 0, 0, 0, 0) := by decide +kernel
theorem i_X8_cuts_73 : fetch 162 73 = some (.getfield 78, 76, 8, 38, 0, 1047) := by decide +kernel
theorem i_X8_cuts_76 : fetch 162 76 = some (.iload_n 1, 77, 0, 0, 0, 0) := by decide +kernel
theorem i_X8_cuts_77 : fetch 162 77 = some (.iload 4, 79, 0, 0, 0, 0) := by decide +kernel
theorem i_X8_cuts_79 : fetch 162 79 = some (.iconst 1, 80, 0, 0, 0, 0) := by decide +kernel
theorem i_X8_cuts_80 : fetch 162 80 = some (.if_icmp .ge 7, 83, 0, 0, 0, 0) := by decide +kernel
theorem i_X8_cuts_83 : fetch 162 83 = some (.iconst 1, 84, 0, 0, 0, 0) := by decide +kernel
theorem i_X8_cuts_84 : fetch 162 84 = some (.goto 5, 87, 0, 0, 0, 0) := by decide +kernel
theorem i_X8_cuts_87 : fetch 162 87 = some (.iload 4, 89, 0, 0, 0, 0) := by decide +kernel
theorem i_X8_cuts_89 : fetch 162 89 = some (.iastore, 90, 0, 0, 0, 0) := by decide +kernel
theorem i_X8_cuts_90 : fetch 162 90 = some (.return_, 91, 0, 0, 0, 0) := by decide +kernel
def f_X8_cuts_89 (s0 : Nat) (s1 : Int32) (s2 : Int32) (h : Hp) : Option Hp :=
  if okI h s0 s1 then
  some (hsi h s0 (ix s1) s2)
  else none
set_option maxRecDepth 100000 in
set_option maxHeartbeats 4000000 in
theorem r_X8_cuts_89 {X : Nat → Int32} {d : Nat} (hd : 0 ≤ d) {s0 : Nat} {s1 : Int32} {s2 : Int32} {d0 : Nat} {d1 : Int32} {d2 : Int32} {d3 : Int32} {d4 : Int32} {h : Hp} {o : Hp} (hf : f_X8_cuts_89 s0 s1 s2 h = some o) : Run X d 162 89 [some (.ref d0), some (.int d1), some (.int d2), some (.int d3), some (.int d4)] [.int s2, .int s1, .ref s0] h (none, o) := by
  unfold f_X8_cuts_89 at hf
  obtain ⟨c1, hf⟩ := ite_some hf
  refine rs_iast i_X8_cuts_89 c1 ?_
  have hf := Option.some.inj hf
  subst hf
  exact rs_vret i_X8_cuts_90 m_X8_cuts rfl
def f_X8_cuts_72 (v0 : Nat) (v1 : Int32) (v4 : Int32) (h : Hp) : Option Hp :=
  if okO h v0 8 then
  (gR h v0 38).bind fun a2 =>
  if 1 ≤ v4 then
    f_X8_cuts_89 a2 v1 v4 h
  else
    f_X8_cuts_89 a2 v1 1 h
  else none
set_option maxRecDepth 100000 in
set_option maxHeartbeats 4000000 in
theorem r_X8_cuts_72 {X : Nat → Int32} {d : Nat} (hd : 0 ≤ d) {v0 : Nat} {v1 : Int32} {v4 : Int32} {d2 : Int32} {d3 : Int32} {h : Hp} {o : Hp} (hf : f_X8_cuts_72 v0 v1 v4 h = some o) : Run X d 162 72 [some (.ref v0), some (.int v1), some (.int d2), some (.int d3), some (.int v4)] [] h (none, o) := by
  unfold f_X8_cuts_72 at hf
  refine rs_aload_n i_X8_cuts_72 rfl ?_
  obtain ⟨c1, hf⟩ := ite_some hf
  obtain ⟨a2, e2, hf⟩ := bind_some hf
  refine rs_getR i_X8_cuts_73 (by decide) (by decide) c1 e2 ?_
  refine rs_iload_n i_X8_cuts_76 rfl ?_
  refine rs_iload i_X8_cuts_77 rfl ?_
  refine rs_iconst i_X8_cuts_79 (v := 1) (by decide) ?_
  by_cases c3 : 1 ≤ v4
  · replace hf := (if_pos c3).symm.trans hf
    refine rs_icT i_X8_cuts_80 (ct_ge c3) (tg := 87) (by decide) ?_
    refine rs_iload i_X8_cuts_87 rfl ?_
    exact r_X8_cuts_89 hd hf
  · replace hf := (if_neg c3).symm.trans hf
    refine rs_icF i_X8_cuts_80 (cf_ge c3) ?_
    refine rs_iconst i_X8_cuts_83 (v := 1) (by decide) ?_
    refine rs_goto i_X8_cuts_84 (tg := 89) (by decide) ?_
    exact r_X8_cuts_89 hd hf
def f_X8_cuts_52 (v0 : Nat) (v1 : Int32) (v2 : Int32) (h : Hp) : Option Hp :=
  if okO h v0 8 then
  (gR h v0 38).bind fun a2 =>
  if okI h a2 v1 then
  f_X8_cuts_72 v0 v1 ((gI h a2 (ix v1)) - (((gI h a2 (ix v1)) * v2) / 10)) h
  else none
  else none
set_option maxRecDepth 100000 in
set_option maxHeartbeats 4000000 in
theorem r_X8_cuts_52 {X : Nat → Int32} {d : Nat} (hd : 0 ≤ d) {v0 : Nat} {v1 : Int32} {v2 : Int32} {d3 : Int32} {h : Hp} {o : Hp} (hf : f_X8_cuts_52 v0 v1 v2 h = some o) : Run X d 162 52 [some (.ref v0), some (.int v1), some (.int v2), some (.int d3), none] [] h (none, o) := by
  unfold f_X8_cuts_52 at hf
  refine rs_aload_n i_X8_cuts_52 rfl ?_
  obtain ⟨c1, hf⟩ := ite_some hf
  obtain ⟨a2, e2, hf⟩ := bind_some hf
  refine rs_getR i_X8_cuts_53 (by decide) (by decide) c1 e2 ?_
  refine rs_iload_n i_X8_cuts_56 rfl ?_
  obtain ⟨c3, hf⟩ := ite_some hf
  refine rs_iald i_X8_cuts_57 c3 ?_
  refine rs_aload_n i_X8_cuts_58 rfl ?_
  refine rs_getR i_X8_cuts_59 (by decide) (by decide) c1 e2 ?_
  refine rs_iload_n i_X8_cuts_62 rfl ?_
  refine rs_iald i_X8_cuts_63 c3 ?_
  refine rs_iload_n i_X8_cuts_64 rfl ?_
  refine rs_imul i_X8_cuts_65 ?_
  refine rs_bipush i_X8_cuts_66 (v := 10) (by decide) ?_
  refine rs_idiv i_X8_cuts_68 (by decide) ?_
  refine rs_isub i_X8_cuts_69 ?_
  refine rs_istore i_X8_cuts_70 (Nat.le_of_ble_eq_true rfl) (lv' := [some (.ref v0), some (.int v1), some (.int v2), some (.int d3), some (.int ((gI h a2 (ix v1)) - (((gI h a2 (ix v1)) * v2) / 10)))]) rfl ?_
  exact r_X8_cuts_72 hd hf
def f_X8_cuts_51 (v0 : Nat) (v1 : Int32) (v2 : Int32) (s0 : Nat) (s1 : Int32) (s2 : Int32) (h : Hp) : Option Hp :=
  if okI h s0 s1 then
  f_X8_cuts_52 v0 v1 v2 (hsi h s0 (ix s1) s2)
  else none
set_option maxRecDepth 100000 in
set_option maxHeartbeats 4000000 in
theorem r_X8_cuts_51 {X : Nat → Int32} {d : Nat} (hd : 0 ≤ d) {v0 : Nat} {v1 : Int32} {v2 : Int32} {s0 : Nat} {s1 : Int32} {s2 : Int32} {d3 : Int32} {h : Hp} {o : Hp} (hf : f_X8_cuts_51 v0 v1 v2 s0 s1 s2 h = some o) : Run X d 162 51 [some (.ref v0), some (.int v1), some (.int v2), some (.int d3), none] [.int s2, .int s1, .ref s0] h (none, o) := by
  unfold f_X8_cuts_51 at hf
  obtain ⟨c1, hf⟩ := ite_some hf
  refine rs_iast i_X8_cuts_51 c1 ?_
  exact r_X8_cuts_52 hd hf
def f_X8_cuts_22 (v0 : Nat) (v1 : Int32) (v2 : Int32) (v3 : Int32) (h : Hp) : Option Hp :=
  if okO h v0 8 then
  (gR h v0 37).bind fun a2 =>
  if okI h a2 v1 then
  if 1 ≤ ((gI h a2 (ix v1)) - v3) then
    f_X8_cuts_51 v0 v1 v2 a2 v1 ((gI h a2 (ix v1)) - v3) h
  else
    f_X8_cuts_51 v0 v1 v2 a2 v1 1 h
  else none
  else none
set_option maxRecDepth 100000 in
set_option maxHeartbeats 4000000 in
theorem r_X8_cuts_22 {X : Nat → Int32} {d : Nat} (hd : 0 ≤ d) {v0 : Nat} {v1 : Int32} {v2 : Int32} {v3 : Int32} {h : Hp} {o : Hp} (hf : f_X8_cuts_22 v0 v1 v2 v3 h = some o) : Run X d 162 22 [some (.ref v0), some (.int v1), some (.int v2), some (.int v3), none] [] h (none, o) := by
  unfold f_X8_cuts_22 at hf
  refine rs_aload_n i_X8_cuts_22 rfl ?_
  obtain ⟨c1, hf⟩ := ite_some hf
  obtain ⟨a2, e2, hf⟩ := bind_some hf
  refine rs_getR i_X8_cuts_23 (by decide) (by decide) c1 e2 ?_
  refine rs_iload_n i_X8_cuts_26 rfl ?_
  refine rs_aload_n i_X8_cuts_27 rfl ?_
  refine rs_getR i_X8_cuts_28 (by decide) (by decide) c1 e2 ?_
  refine rs_iload_n i_X8_cuts_31 rfl ?_
  obtain ⟨c3, hf⟩ := ite_some hf
  refine rs_iald i_X8_cuts_32 c3 ?_
  refine rs_iload_n i_X8_cuts_33 rfl ?_
  refine rs_isub i_X8_cuts_34 ?_
  refine rs_iconst i_X8_cuts_35 (v := 1) (by decide) ?_
  by_cases c4 : 1 ≤ ((gI h a2 (ix v1)) - v3)
  · replace hf := (if_pos c4).symm.trans hf
    refine rs_icT i_X8_cuts_36 (ct_ge c4) (tg := 43) (by decide) ?_
    refine rs_aload_n i_X8_cuts_43 rfl ?_
    refine rs_getR i_X8_cuts_44 (by decide) (by decide) c1 e2 ?_
    refine rs_iload_n i_X8_cuts_47 rfl ?_
    refine rs_iald i_X8_cuts_48 c3 ?_
    refine rs_iload_n i_X8_cuts_49 rfl ?_
    refine rs_isub i_X8_cuts_50 ?_
    exact r_X8_cuts_51 hd hf
  · replace hf := (if_neg c4).symm.trans hf
    refine rs_icF i_X8_cuts_36 (cf_ge c4) ?_
    refine rs_iconst i_X8_cuts_39 (v := 1) (by decide) ?_
    refine rs_goto i_X8_cuts_40 (tg := 51) (by decide) ?_
    exact r_X8_cuts_51 hd hf
def f_X8_cuts_0 (v0 : Nat) (v1 : Int32) (v2 : Int32) (h : Hp) : Option Hp :=
  if okO h v0 8 then
  (gR h v0 37).bind fun a2 =>
  if okI h a2 v1 then
  f_X8_cuts_22 v0 v1 v2 (((gI h a2 (ix v1)) * v2) / 10) (hsi h v0 42 ((gI h v0 42) + (((gI h a2 (ix v1)) * v2) / 10)))
  else none
  else none
set_option maxRecDepth 100000 in
set_option maxHeartbeats 4000000 in
theorem r_X8_cuts_0 {X : Nat → Int32} {d : Nat} (hd : 0 ≤ d) {v0 : Nat} {v1 : Int32} {v2 : Int32} {h : Hp} {o : Hp} (hf : f_X8_cuts_0 v0 v1 v2 h = some o) : Run X d 162 0 [some (.ref v0), some (.int v1), some (.int v2), none, none] [] h (none, o) := by
  unfold f_X8_cuts_0 at hf
  refine rs_aload_n i_X8_cuts_0 rfl ?_
  obtain ⟨c1, hf⟩ := ite_some hf
  obtain ⟨a2, e2, hf⟩ := bind_some hf
  refine rs_getR i_X8_cuts_1 (by decide) (by decide) c1 e2 ?_
  refine rs_iload_n i_X8_cuts_4 rfl ?_
  obtain ⟨c3, hf⟩ := ite_some hf
  refine rs_iald i_X8_cuts_5 c3 ?_
  refine rs_iload_n i_X8_cuts_6 rfl ?_
  refine rs_imul i_X8_cuts_7 ?_
  refine rs_bipush i_X8_cuts_8 (v := 10) (by decide) ?_
  refine rs_idiv i_X8_cuts_10 (by decide) ?_
  refine rs_istore_n i_X8_cuts_11 (Nat.le_of_ble_eq_true rfl) (lv' := [some (.ref v0), some (.int v1), some (.int v2), some (.int (((gI h a2 (ix v1)) * v2) / 10)), none]) rfl ?_
  refine rs_aload_n i_X8_cuts_12 rfl ?_
  refine rs_dup i_X8_cuts_13 rfl ?_
  refine rs_getI i_X8_cuts_14 (by decide) (by decide) c1 ?_
  refine rs_iload_n i_X8_cuts_17 rfl ?_
  refine rs_iadd i_X8_cuts_18 ?_
  refine rs_putI i_X8_cuts_19 (by decide) c1 ?_
  exact r_X8_cuts_22 hd hf
def f_X8_cuts (v0 : Nat) (v1 : Int32) (v2 : Int32) (h : Hp) : Option Hp := f_X8_cuts_0 v0 v1 v2 h
theorem c_X8_cuts {X : Nat → Int32} {d : Nat} (hd : 0 ≤ d) {v0 : Nat} {v1 : Int32} {v2 : Int32} {h : Hp} {o : Hp} (hf : f_X8_cuts v0 v1 v2 h = some o) : Calls X d 162 [.ref v0, .int v1, .int v2] h (none, o) := by
  exact ⟨_, rfl, r_X8_cuts_0 hd hf⟩
theorem i_X8_rests_0 : fetch 163 0 = some (.iconst 0, 1, 0, 0, 0, 0) := by decide +kernel
theorem i_X8_rests_1 : fetch 163 1 = some (.istore_n 2, 2, 0, 0, 0, 0) := by decide +kernel
theorem i_X8_rests_2 : fetch 163 2 = some (.iload_n 2, 3, 0, 0, 0, 0) := by decide +kernel
theorem i_X8_rests_3 : fetch 163 3 = some (.bipush 12, 5, 0, 0, 0, 0) := by decide +kernel
theorem i_X8_rests_5 : fetch 163 5 = some (.if_icmp .ge 40, 8, 0, 0, 0, 0) := by decide +kernel
theorem i_X8_rests_8 : fetch 163 8 = some (.aload_n 0, 9, 0, 0, 0, 0) := by decide +kernel
theorem i_X8_rests_9 : fetch 163 9 = some (.getfield 81, 12, 8, 39, 0, 1048) := by decide +kernel
theorem i_X8_rests_12 : fetch 163 12 = some (.iload_n 2, 13, 0, 0, 0, 0) := by decide +kernel
theorem i_X8_rests_13 : fetch 163 13 = some (.iaload, 14, 0, 0, 0, 0) := by decide +kernel
theorem i_X8_rests_14 : fetch 163 14 = some (.iload_n 1, 15, 0, 0, 0, 0) := by decide +kernel
theorem i_X8_rests_15 : fetch 163 15 = some (.aload_n 0, 16, 0, 0, 0, 0) := by decide +kernel
theorem i_X8_rests_16 : fetch 163 16 = some (.getfield 24, 19, 8, 4, 0, 1013) := by decide +kernel
theorem i_X8_rests_19 : fetch 163 19 = some (.iconst 1, 20, 0, 0, 0, 0) := by decide +kernel
theorem i_X8_rests_20 : fetch 163 20 = some (.iadd, 21, 0, 0, 0, 0) := by decide +kernel
theorem i_X8_rests_21 : fetch 163 21 = some (.imul, 22, 0, 0, 0, 0) := by decide +kernel
theorem i_X8_rests_22 : fetch 163 22 = some (.isub, 23, 0, 0, 0, 0) := by decide +kernel
theorem i_X8_rests_23 : fetch 163 23 = some (.istore_n 3, 24, 0, 0, 0, 0) := by decide +kernel
theorem i_X8_rests_24 : fetch 163 24 = some (.aload_n 0, 25, 0, 0, 0, 0) := by decide +kernel
theorem i_X8_rests_25 : fetch 163 25 = some (.getfield 81, 28, 8, 39, 0, 1048) := by decide +kernel
theorem i_X8_rests_28 : fetch 163 28 = some (.iload_n 2, 29, 0, 0, 0, 0) := by decide +kernel
theorem i_X8_rests_29 : fetch 163 29 = some (.iload_n 3, 30, 0, 0, 0, 0) := by decide +kernel
theorem i_X8_rests_30 : fetch 163 30 = some (.ifCond .ge 7, 33, 0, 0, 0, 0) := by decide +kernel
theorem i_X8_rests_33 : fetch 163 33 = some (.iconst 0, 34, 0, 0, 0, 0) := by decide +kernel
theorem i_X8_rests_34 : fetch 163 34 = some (.goto 4, 37, 0, 0, 0, 0) := by decide +kernel
theorem i_X8_rests_37 : fetch 163 37 = some (.iload_n 3, 38, 0, 0, 0, 0) := by decide +kernel
theorem i_X8_rests_38 : fetch 163 38 = some (.iastore, 39, 0, 0, 0, 0) := by decide +kernel
theorem i_X8_rests_39 : fetch 163 39 = some (.iinc 2 1, 42, 0, 0, 0, 0) := by decide +kernel
theorem i_X8_rests_42 : fetch 163 42 = some (.goto (-40), 45, 0, 0, 0, 0) := by decide +kernel
theorem i_X8_rests_45 : fetch 163 45 = some (.return_, 46, 0, 0, 0, 0) := by decide +kernel
def f_X8_rests_38 (n : Nat) (K2 : Nat → Int32 → Int32 → Hp → Option Hp) (v0 : Nat) (v1 : Int32) (v2 : Int32) (s0 : Nat) (s1 : Int32) (s2 : Int32) (h : Hp) : Option Hp :=
  if okI h s0 s1 then
  K2 v0 v1 (v2 + 1) (hsi h s0 (ix s1) s2)
  else none
set_option maxRecDepth 100000 in
set_option maxHeartbeats 4000000 in
theorem r_X8_rests_38 {X : Nat → Int32} {d : Nat} (hd : 0 ≤ d) {n : Nat} {K2 : Nat → Int32 → Int32 → Hp → Option Hp} (HK2 : ∀ (v0 : Nat) (v1 : Int32) (v2 : Int32) (w3 : Option Value) (h : Hp) (o : Hp), K2 v0 v1 v2 h = some o → Run X d 163 2 [some (.ref v0), some (.int v1), some (.int v2), w3] [] h (none, o)) {v0 : Nat} {v1 : Int32} {v2 : Int32} {s0 : Nat} {s1 : Int32} {s2 : Int32} {d3 : Int32} {h : Hp} {o : Hp} (hf : f_X8_rests_38 n K2 v0 v1 v2 s0 s1 s2 h = some o) : Run X d 163 38 [some (.ref v0), some (.int v1), some (.int v2), some (.int d3)] [.int s2, .int s1, .ref s0] h (none, o) := by
  unfold f_X8_rests_38 at hf
  obtain ⟨c1, hf⟩ := ite_some hf
  refine rs_iast i_X8_rests_38 c1 ?_
  refine rs_iinc i_X8_rests_39 rfl (v := v2 + 1) rfl (Nat.le_of_ble_eq_true rfl) (lv' := [some (.ref v0), some (.int v1), some (.int (v2 + 1)), some (.int d3)]) rfl ?_
  refine rs_goto i_X8_rests_42 (tg := 2) (by decide) ?_
  exact HK2 _ _ _ _ _ _ hf
def f_X8_rests_24 (n : Nat) (K2 : Nat → Int32 → Int32 → Hp → Option Hp) (v0 : Nat) (v1 : Int32) (v2 : Int32) (v3 : Int32) (h : Hp) : Option Hp :=
  if okO h v0 8 then
  (gR h v0 39).bind fun a2 =>
  if 0 ≤ v3 then
    f_X8_rests_38 n K2 v0 v1 v2 a2 v2 v3 h
  else
    f_X8_rests_38 n K2 v0 v1 v2 a2 v2 0 h
  else none
set_option maxRecDepth 100000 in
set_option maxHeartbeats 4000000 in
theorem r_X8_rests_24 {X : Nat → Int32} {d : Nat} (hd : 0 ≤ d) {n : Nat} {K2 : Nat → Int32 → Int32 → Hp → Option Hp} (HK2 : ∀ (v0 : Nat) (v1 : Int32) (v2 : Int32) (w3 : Option Value) (h : Hp) (o : Hp), K2 v0 v1 v2 h = some o → Run X d 163 2 [some (.ref v0), some (.int v1), some (.int v2), w3] [] h (none, o)) {v0 : Nat} {v1 : Int32} {v2 : Int32} {v3 : Int32} {h : Hp} {o : Hp} (hf : f_X8_rests_24 n K2 v0 v1 v2 v3 h = some o) : Run X d 163 24 [some (.ref v0), some (.int v1), some (.int v2), some (.int v3)] [] h (none, o) := by
  unfold f_X8_rests_24 at hf
  refine rs_aload_n i_X8_rests_24 rfl ?_
  obtain ⟨c1, hf⟩ := ite_some hf
  obtain ⟨a2, e2, hf⟩ := bind_some hf
  refine rs_getR i_X8_rests_25 (by decide) (by decide) c1 e2 ?_
  refine rs_iload_n i_X8_rests_28 rfl ?_
  refine rs_iload_n i_X8_rests_29 rfl ?_
  by_cases c3 : 0 ≤ v3
  · replace hf := (if_pos c3).symm.trans hf
    refine rs_ifT i_X8_rests_30 (ct_ge c3) (tg := 37) (by decide) ?_
    refine rs_iload_n i_X8_rests_37 rfl ?_
    exact r_X8_rests_38 hd HK2 hf
  · replace hf := (if_neg c3).symm.trans hf
    refine rs_ifF i_X8_rests_30 (cf_ge c3) ?_
    refine rs_iconst i_X8_rests_33 (v := 0) (by decide) ?_
    refine rs_goto i_X8_rests_34 (tg := 38) (by decide) ?_
    exact r_X8_rests_38 hd HK2 hf
def f_X8_rests_2 (n : Nat) : Nat → Nat → Int32 → Int32 → Hp → Option Hp
  | 0, _, _, _, _ => none
  | m + 1, v0, v1, v2, h =>
    if 12 ≤ v2 then
      some h
    else
      if okO h v0 8 then
      (gR h v0 39).bind fun a3 =>
      if okI h a3 v2 then
      f_X8_rests_24 n (f_X8_rests_2 n m) v0 v1 v2 ((gI h a3 (ix v2)) - (v1 * ((gI h v0 4) + 1))) h
      else none
      else none
set_option maxRecDepth 100000 in
set_option maxHeartbeats 4000000 in
theorem r_X8_rests_2 {X : Nat → Int32} {d : Nat} (hd : 0 ≤ d) {n : Nat} : ∀ (m : Nat) (v0 : Nat) (v1 : Int32) (v2 : Int32) (w3 : Option Value) (h : Hp) (o : Hp), f_X8_rests_2 n m v0 v1 v2 h = some o → Run X d 163 2 [some (.ref v0), some (.int v1), some (.int v2), w3] [] h (none, o) := by
  intro m
  induction m with
  | zero => intro v0 v1 v2 w3 h o hf; cases hf
  | succ m ih =>
    intro v0 v1 v2 w3 h o hf
    rw [f_X8_rests_2] at hf
    refine rs_iload_n i_X8_rests_2 rfl ?_
    refine rs_bipush i_X8_rests_3 (v := 12) (by decide) ?_
    by_cases c1 : 12 ≤ v2
    · replace hf := (if_pos c1).symm.trans hf
      refine rs_icT i_X8_rests_5 (ct_ge c1) (tg := 45) (by decide) ?_
      have hf := Option.some.inj hf
      subst hf
      exact rs_vret i_X8_rests_45 m_X8_rests rfl
    · replace hf := (if_neg c1).symm.trans hf
      refine rs_icF i_X8_rests_5 (cf_ge c1) ?_
      refine rs_aload_n i_X8_rests_8 rfl ?_
      obtain ⟨c2, hf⟩ := ite_some hf
      obtain ⟨a3, e3, hf⟩ := bind_some hf
      refine rs_getR i_X8_rests_9 (by decide) (by decide) c2 e3 ?_
      refine rs_iload_n i_X8_rests_12 rfl ?_
      obtain ⟨c4, hf⟩ := ite_some hf
      refine rs_iald i_X8_rests_13 c4 ?_
      refine rs_iload_n i_X8_rests_14 rfl ?_
      refine rs_aload_n i_X8_rests_15 rfl ?_
      refine rs_getI i_X8_rests_16 (by decide) (by decide) c2 ?_
      refine rs_iconst i_X8_rests_19 (v := 1) (by decide) ?_
      refine rs_iadd i_X8_rests_20 ?_
      refine rs_imul i_X8_rests_21 ?_
      refine rs_isub i_X8_rests_22 ?_
      refine rs_istore_n i_X8_rests_23 (Nat.le_of_ble_eq_true rfl) (lv' := [some (.ref v0), some (.int v1), some (.int v2), some (.int ((gI h a3 (ix v2)) - (v1 * ((gI h v0 4) + 1))))]) rfl ?_
      exact r_X8_rests_24 hd ih hf
def f_X8_rests_0 (n : Nat) (v0 : Nat) (v1 : Int32) (h : Hp) : Option Hp :=
  f_X8_rests_2 n n v0 v1 0 h
set_option maxRecDepth 100000 in
set_option maxHeartbeats 4000000 in
theorem r_X8_rests_0 {X : Nat → Int32} {d : Nat} (hd : 0 ≤ d) {n : Nat} {v0 : Nat} {v1 : Int32} {h : Hp} {o : Hp} (hf : f_X8_rests_0 n v0 v1 h = some o) : Run X d 163 0 [some (.ref v0), some (.int v1), none, none] [] h (none, o) := by
  unfold f_X8_rests_0 at hf
  refine rs_iconst i_X8_rests_0 (v := 0) (by decide) ?_
  refine rs_istore_n i_X8_rests_1 (Nat.le_of_ble_eq_true rfl) (lv' := [some (.ref v0), some (.int v1), some (.int 0), none]) rfl ?_
  exact r_X8_rests_2 hd _ _ _ _ _ _ _ hf
def f_X8_rests (n : Nat) (v0 : Nat) (v1 : Int32) (h : Hp) : Option Hp := f_X8_rests_0 n v0 v1 h
theorem c_X8_rests {X : Nat → Int32} {d : Nat} (hd : 0 ≤ d) {n : Nat} {v0 : Nat} {v1 : Int32} {h : Hp} {o : Hp} (hf : f_X8_rests n v0 v1 h = some o) : Calls X d 163 [.ref v0, .int v1] h (none, o) := by
  exact ⟨_, rfl, r_X8_rests_0 hd hf⟩
theorem i_X8_dusts_0 : fetch 164 0 = some (.aload_n 0, 1, 0, 0, 0, 0) := by decide +kernel
theorem i_X8_dusts_1 : fetch 164 1 = some (.aload_n 0, 2, 0, 0, 0, 0) := by decide +kernel
theorem i_X8_dusts_2 : fetch 164 2 = some (.getfield 208, 5, 8, 41, 0, 1050) := by decide +kernel
theorem i_X8_dusts_5 : fetch 164 5 = some (.iload_n 1, 6, 0, 0, 0, 0) := by decide +kernel
theorem i_X8_dusts_6 : fetch 164 6 = some (.iadd, 7, 0, 0, 0, 0) := by decide +kernel
theorem i_X8_dusts_7 : fetch 164 7 = some (.bipush 99, 9, 0, 0, 0, 0) := by decide +kernel
theorem i_X8_dusts_9 : fetch 164 9 = some (.if_icmp .le 8, 12, 0, 0, 0, 0) := by decide +kernel
theorem i_X8_dusts_12 : fetch 164 12 = some (.bipush 99, 14, 0, 0, 0, 0) := by decide +kernel
theorem i_X8_dusts_14 : fetch 164 14 = some (.goto 9, 17, 0, 0, 0, 0) := by decide +kernel
theorem i_X8_dusts_17 : fetch 164 17 = some (.aload_n 0, 18, 0, 0, 0, 0) := by decide +kernel
theorem i_X8_dusts_18 : fetch 164 18 = some (.getfield 208, 21, 8, 41, 0, 1050) := by decide +kernel
theorem i_X8_dusts_21 : fetch 164 21 = some (.iload_n 1, 22, 0, 0, 0, 0) := by decide +kernel
theorem i_X8_dusts_22 : fetch 164 22 = some (.iadd, 23, 0, 0, 0, 0) := by decide +kernel
theorem i_X8_dusts_23 : fetch 164 23 = some (.putfield 208, 26, 8, 41, 0, 1050) := by decide +kernel
theorem i_X8_dusts_26 : fetch 164 26 = some (.return_, 27, 0, 0, 0, 0) := by decide +kernel
def f_X8_dusts_23 (s0 : Nat) (s1 : Int32) (h : Hp) : Option Hp :=
  if okO h s0 8 then
  some (hsi h s0 41 s1)
  else none
set_option maxRecDepth 100000 in
set_option maxHeartbeats 4000000 in
theorem r_X8_dusts_23 {X : Nat → Int32} {d : Nat} (hd : 0 ≤ d) {s0 : Nat} {s1 : Int32} {d0 : Nat} {d1 : Int32} {h : Hp} {o : Hp} (hf : f_X8_dusts_23 s0 s1 h = some o) : Run X d 164 23 [some (.ref d0), some (.int d1)] [.int s1, .ref s0] h (none, o) := by
  unfold f_X8_dusts_23 at hf
  obtain ⟨c1, hf⟩ := ite_some hf
  refine rs_putI i_X8_dusts_23 (by decide) c1 ?_
  have hf := Option.some.inj hf
  subst hf
  exact rs_vret i_X8_dusts_26 m_X8_dusts rfl
def f_X8_dusts_0 (v0 : Nat) (v1 : Int32) (h : Hp) : Option Hp :=
  if okO h v0 8 then
  if ((gI h v0 41) + v1) ≤ 99 then
    f_X8_dusts_23 v0 ((gI h v0 41) + v1) h
  else
    f_X8_dusts_23 v0 99 h
  else none
set_option maxRecDepth 100000 in
set_option maxHeartbeats 4000000 in
theorem r_X8_dusts_0 {X : Nat → Int32} {d : Nat} (hd : 0 ≤ d) {v0 : Nat} {v1 : Int32} {h : Hp} {o : Hp} (hf : f_X8_dusts_0 v0 v1 h = some o) : Run X d 164 0 [some (.ref v0), some (.int v1)] [] h (none, o) := by
  unfold f_X8_dusts_0 at hf
  refine rs_aload_n i_X8_dusts_0 rfl ?_
  refine rs_aload_n i_X8_dusts_1 rfl ?_
  obtain ⟨c1, hf⟩ := ite_some hf
  refine rs_getI i_X8_dusts_2 (by decide) (by decide) c1 ?_
  refine rs_iload_n i_X8_dusts_5 rfl ?_
  refine rs_iadd i_X8_dusts_6 ?_
  refine rs_bipush i_X8_dusts_7 (v := 99) (by decide) ?_
  by_cases c2 : ((gI h v0 41) + v1) ≤ 99
  · replace hf := (if_pos c2).symm.trans hf
    refine rs_icT i_X8_dusts_9 (ct_le c2) (tg := 17) (by decide) ?_
    refine rs_aload_n i_X8_dusts_17 rfl ?_
    refine rs_getI i_X8_dusts_18 (by decide) (by decide) c1 ?_
    refine rs_iload_n i_X8_dusts_21 rfl ?_
    refine rs_iadd i_X8_dusts_22 ?_
    exact r_X8_dusts_23 hd hf
  · replace hf := (if_neg c2).symm.trans hf
    refine rs_icF i_X8_dusts_9 (cf_le c2) ?_
    refine rs_bipush i_X8_dusts_12 (v := 99) (by decide) ?_
    refine rs_goto i_X8_dusts_14 (tg := 23) (by decide) ?_
    exact r_X8_dusts_23 hd hf
def f_X8_dusts (v0 : Nat) (v1 : Int32) (h : Hp) : Option Hp := f_X8_dusts_0 v0 v1 h
theorem c_X8_dusts {X : Nat → Int32} {d : Nat} (hd : 0 ≤ d) {v0 : Nat} {v1 : Int32} {h : Hp} {o : Hp} (hf : f_X8_dusts v0 v1 h = some o) : Calls X d 164 [.ref v0, .int v1] h (none, o) := by
  exact ⟨_, rfl, r_X8_dusts_0 hd hf⟩
theorem i_X8_makes_0 : fetch 165 0 = some (.aload_n 0, 1, 0, 0, 0, 0) := by decide +kernel
theorem i_X8_makes_1 : fetch 165 1 = some (.getfield 27, 4, 8, 6, 0, 1015) := by decide +kernel
theorem i_X8_makes_4 : fetch 165 4 = some (.iload_n 1, 5, 0, 0, 0, 0) := by decide +kernel
theorem i_X8_makes_5 : fetch 165 5 = some (.iaload, 6, 0, 0, 0, 0) := by decide +kernel
theorem i_X8_makes_6 : fetch 165 6 = some (.tableswitch 142 1 5 #[34, 61, 92, 99, 112], 40, 0, 0, 0, 0) := by decide +kernel
theorem i_X8_makes_40 : fetch 165 40 = some (.aload_n 0, 41, 0, 0, 0, 0) := by decide +kernel
theorem i_X8_makes_41 : fetch 165 41 = some (.aload_n 0, 42, 0, 0, 0, 0) := by decide +kernel
theorem i_X8_makes_42 : fetch 165 42 = some (.invokevirtual 254, 45, 156, 0, 0, 1244) := by decide +kernel
theorem i_X8_makes_45 : fetch 165 45 = some (.aload_n 0, 46, 0, 0, 0, 0) := by decide +kernel
theorem i_X8_makes_46 : fetch 165 46 = some (.getfield 30, 49, 8, 7, 0, 1016) := by decide +kernel
theorem i_X8_makes_49 : fetch 165 49 = some (.iload_n 1, 50, 0, 0, 0, 0) := by decide +kernel
theorem i_X8_makes_50 : fetch 165 50 = some (.iaload, 51, 0, 0, 0, 0) := by decide +kernel
theorem i_X8_makes_51 : fetch 165 51 = some (.imul, 52, 0, 0, 0, 0) := by decide +kernel
theorem i_X8_makes_52 : fetch 165 52 = some (.bipush 10, 54, 0, 0, 0, 0) := by decide +kernel
theorem i_X8_makes_54 : fetch 165 54 = some (.idiv, 55, 0, 0, 0, 0) := by decide +kernel
theorem i_X8_makes_55 : fetch 165 55 = some (.aload_n 0, 56, 0, 0, 0, 0) := by decide +kernel
theorem i_X8_makes_56 : fetch 165 56 = some (.getfield 33, 59, 8, 8, 0, 1017) := by decide +kernel
theorem i_X8_makes_59 : fetch 165 59 = some (.iload_n 1, 60, 0, 0, 0, 0) := by decide +kernel
theorem i_X8_makes_60 : fetch 165 60 = some (.iaload, 61, 0, 0, 0, 0) := by decide +kernel
theorem i_X8_makes_61 : fetch 165 61 = some (.invokevirtual 257, 64, 158, 0, 0, 1248) := by decide +kernel
theorem i_X8_makes_64 : fetch 165 64 = some (.goto 94, 67, 0, 0, 0, 0) := by decide +kernel
theorem i_X8_makes_67 : fetch 165 67 = some (.aload_n 0, 68, 0, 0, 0, 0) := by decide +kernel
theorem i_X8_makes_68 : fetch 165 68 = some (.aload_n 0, 69, 0, 0, 0, 0) := by decide +kernel
theorem i_X8_makes_69 : fetch 165 69 = some (.invokevirtual 254, 72, 156, 0, 0, 1244) := by decide +kernel
theorem i_X8_makes_72 : fetch 165 72 = some (.aload_n 0, 73, 0, 0, 0, 0) := by decide +kernel
theorem i_X8_makes_73 : fetch 165 73 = some (.getfield 30, 76, 8, 7, 0, 1016) := by decide +kernel
theorem i_X8_makes_76 : fetch 165 76 = some (.iload_n 1, 77, 0, 0, 0, 0) := by decide +kernel
theorem i_X8_makes_77 : fetch 165 77 = some (.iaload, 78, 0, 0, 0, 0) := by decide +kernel
theorem i_X8_makes_78 : fetch 165 78 = some (.imul, 79, 0, 0, 0, 0) := by decide +kernel
theorem i_X8_makes_79 : fetch 165 79 = some (.bipush 10, 81, 0, 0, 0, 0) := by decide +kernel
theorem i_X8_makes_81 : fetch 165 81 = some (.idiv, 82, 0, 0, 0, 0) := by decide +kernel
theorem i_X8_makes_82 : fetch 165 82 = some (.aload_n 0, 83, 0, 0, 0, 0) := by decide +kernel
theorem i_X8_makes_83 : fetch 165 83 = some (.getfield 33, 86, 8, 8, 0, 1017) := by decide +kernel
theorem i_X8_makes_86 : fetch 165 86 = some (.iload_n 1, 87, 0, 0, 0, 0) := by decide +kernel
theorem i_X8_makes_87 : fetch 165 87 = some (.iaload, 88, 0, 0, 0, 0) := by decide +kernel
theorem i_X8_makes_88 : fetch 165 88 = some (.invokevirtual 257, 91, 158, 0, 0, 1248) := by decide +kernel
theorem i_X8_makes_91 : fetch 165 91 = some (.aload_n 0, 92, 0, 0, 0, 0) := by decide +kernel
theorem i_X8_makes_92 : fetch 165 92 = some (.invokevirtual 260, 95, 160, 0, 0, 1280) := by decide +kernel
theorem i_X8_makes_95 : fetch 165 95 = some (.goto 63, 98, 0, 0, 0, 0) := by decide +kernel
theorem i_X8_makes_98 : fetch 165 98 = some (.aload_n 0, 99, 0, 0, 0, 0) := by decide +kernel
theorem i_X8_makes_99 : fetch 165 99 = some (.invokevirtual 263, 102, 161, 0, 0, 1288) := by decide +kernel
theorem i_X8_makes_102 : fetch 165 102 = some (.goto 56, 105, 0, 0, 0, 0) := by decide +kernel
theorem i_X8_makes_105 : fetch 165 105 = some (.aload_n 0, 106, 0, 0, 0, 0) := by decide +kernel
theorem i_X8_makes_106 : fetch 165 106 = some (.aload_n 0, 107, 0, 0, 0, 0) := by decide +kernel
theorem i_X8_makes_107 : fetch 165 107 = some (.getfield 30, 110, 8, 7, 0, 1016) := by decide +kernel
theorem i_X8_makes_110 : fetch 165 110 = some (.iload_n 1, 111, 0, 0, 0, 0) := by decide +kernel
theorem i_X8_makes_111 : fetch 165 111 = some (.iaload, 112, 0, 0, 0, 0) := by decide +kernel
theorem i_X8_makes_112 : fetch 165 112 = some (.invokevirtual 266, 115, 164, 0, 0, 1292) := by decide +kernel
theorem i_X8_makes_115 : fetch 165 115 = some (.goto 43, 118, 0, 0, 0, 0) := by decide +kernel
theorem i_X8_makes_118 : fetch 165 118 = some (.aload_n 0, 119, 0, 0, 0, 0) := by decide +kernel
theorem i_X8_makes_119 : fetch 165 119 = some (.invokevirtual 263, 122, 161, 0, 0, 1288) := by decide +kernel
theorem i_X8_makes_122 : fetch 165 122 = some (.aload_n 0, 123, 0, 0, 0, 0) := by decide +kernel
theorem i_X8_makes_123 : fetch 165 123 = some (.iconst 0, 124, 0, 0, 0, 0) := by decide +kernel
theorem i_X8_makes_124 : fetch 165 124 = some (.aload_n 0, 125, 0, 0, 0, 0) := by decide +kernel
theorem i_X8_makes_125 : fetch 165 125 = some (.getfield 30, 128, 8, 7, 0, 1016) := by decide +kernel
theorem i_X8_makes_128 : fetch 165 128 = some (.iload_n 1, 129, 0, 0, 0, 0) := by decide +kernel
theorem i_X8_makes_129 : fetch 165 129 = some (.iaload, 130, 0, 0, 0, 0) := by decide +kernel
theorem i_X8_makes_130 : fetch 165 130 = some (.invokevirtual 269, 133, 162, 0, 0, 1296) := by decide +kernel
theorem i_X8_makes_133 : fetch 165 133 = some (.aload_n 0, 134, 0, 0, 0, 0) := by decide +kernel
theorem i_X8_makes_134 : fetch 165 134 = some (.bipush 11, 136, 0, 0, 0, 0) := by decide +kernel
theorem i_X8_makes_136 : fetch 165 136 = some (.aload_n 0, 137, 0, 0, 0, 0) := by decide +kernel
theorem i_X8_makes_137 : fetch 165 137 = some (.getfield 30, 140, 8, 7, 0, 1016) := by decide +kernel
theorem i_X8_makes_140 : fetch 165 140 = some (.iload_n 1, 141, 0, 0, 0, 0) := by decide +kernel
theorem i_X8_makes_141 : fetch 165 141 = some (.iaload, 142, 0, 0, 0, 0) := by decide +kernel
theorem i_X8_makes_142 : fetch 165 142 = some (.invokevirtual 269, 145, 162, 0, 0, 1296) := by decide +kernel
theorem i_X8_makes_145 : fetch 165 145 = some (.goto 13, 148, 0, 0, 0, 0) := by decide +kernel
theorem i_X8_makes_148 : fetch 165 148 = some (.aload_n 0, 149, 0, 0, 0, 0) := by decide +kernel
theorem i_X8_makes_149 : fetch 165 149 = some (.aload_n 0, 150, 0, 0, 0, 0) := by decide +kernel
theorem i_X8_makes_150 : fetch 165 150 = some (.getfield 30, 153, 8, 7, 0, 1016) := by decide +kernel
theorem i_X8_makes_153 : fetch 165 153 = some (.iload_n 1, 154, 0, 0, 0, 0) := by decide +kernel
theorem i_X8_makes_154 : fetch 165 154 = some (.iaload, 155, 0, 0, 0, 0) := by decide +kernel
theorem i_X8_makes_155 : fetch 165 155 = some (.invokevirtual 272, 158, 163, 0, 0, 1300) := by decide +kernel
theorem i_X8_makes_158 : fetch 165 158 = some (.return_, 159, 0, 0, 0, 0) := by decide +kernel
def f_X8_makes_0 (n : Nat) (v0 : Nat) (v1 : Int32) (h : Hp) : Option Hp :=
  if okO h v0 8 then
  (gR h v0 6).bind fun a2 =>
  if okI h a2 v1 then
  if (gI h a2 (ix v1)) = 1 then
    (f_X8_allLength n v0 h).bind fun o34 =>
    if okO o34.2 v0 8 then
    (gR o34.2 v0 7).bind fun a36 =>
    if okI o34.2 a36 v1 then
    (gR o34.2 v0 8).bind fun a38 =>
    if okI o34.2 a38 v1 then
    (f_X8_draws n v0 ((o34.1 * (gI o34.2 a36 (ix v1))) / 10) (gI o34.2 a38 (ix v1)) o34.2).bind fun o40 =>
    some o40
    else none
    else none
    else none
  else
    if (gI h a2 (ix v1)) = 2 then
      (f_X8_allLength n v0 h).bind fun o25 =>
      if okO o25.2 v0 8 then
      (gR o25.2 v0 7).bind fun a27 =>
      if okI o25.2 a27 v1 then
      (gR o25.2 v0 8).bind fun a29 =>
      if okI o25.2 a29 v1 then
      (f_X8_draws n v0 ((o25.1 * (gI o25.2 a27 (ix v1))) / 10) (gI o25.2 a29 (ix v1)) o25.2).bind fun o31 =>
      if okO o31 v0 8 then
      (f_X8_bounces n v0 o31).bind fun o32 =>
      some o32
      else none
      else none
      else none
      else none
    else
      if (gI h a2 (ix v1)) = 3 then
        (f_X8_doubles n v0 h).bind fun o24 =>
        some o24
      else
        if (gI h a2 (ix v1)) = 4 then
          (gR h v0 7).bind fun a21 =>
          if okI h a21 v1 then
          (f_X8_dusts v0 (gI h a21 (ix v1)) h).bind fun o23 =>
          some o23
          else none
        else
          if (gI h a2 (ix v1)) = 5 then
            (f_X8_doubles n v0 h).bind fun o12 =>
            if okO o12 v0 8 then
            (gR o12 v0 7).bind fun a14 =>
            if okI o12 a14 v1 then
            (f_X8_cuts v0 0 (gI o12 a14 (ix v1)) o12).bind fun o16 =>
            if okO o16 v0 8 then
            (gR o16 v0 7).bind fun a18 =>
            if okI o16 a18 v1 then
            (f_X8_cuts v0 11 (gI o16 a18 (ix v1)) o16).bind fun o20 =>
            some o20
            else none
            else none
            else none
            else none
          else
            (gR h v0 7).bind fun a9 =>
            if okI h a9 v1 then
            (f_X8_rests n v0 (gI h a9 (ix v1)) h).bind fun o11 =>
            some o11
            else none
  else none
  else none
set_option maxRecDepth 100000 in
set_option maxHeartbeats 4000000 in
theorem r_X8_makes_0 {X : Nat → Int32} {d : Nat} (hd : 4 ≤ (d + 1)) {n : Nat} {v0 : Nat} {v1 : Int32} {h : Hp} {o : Hp} (hf : f_X8_makes_0 n v0 v1 h = some o) : Run X (d + 1) 165 0 [some (.ref v0), some (.int v1)] [] h (none, o) := by
  unfold f_X8_makes_0 at hf
  refine rs_aload_n i_X8_makes_0 rfl ?_
  obtain ⟨c1, hf⟩ := ite_some hf
  obtain ⟨a2, e2, hf⟩ := bind_some hf
  refine rs_getR i_X8_makes_1 (by decide) (by decide) c1 e2 ?_
  refine rs_iload_n i_X8_makes_4 rfl ?_
  obtain ⟨c3, hf⟩ := ite_some hf
  refine rs_iald i_X8_makes_5 c3 ?_
  by_cases c4 : (gI h a2 (ix v1)) = 1
  · replace hf := (if_pos c4).symm.trans hf
    refine rs_tsw i_X8_makes_6 (off := 34) (by rw [c4]; decide) (tg := 40) (by decide) ?_
    refine rs_aload_n i_X8_makes_40 rfl ?_
    refine rs_aload_n i_X8_makes_41 rfl ?_
    obtain ⟨o34, e34, hf⟩ := bind_some hf
    refine rs_inV i_X8_makes_42 m_X8_allLength rfl (As := []) (rest := [.ref v0]) rfl rfl (Nat.le_of_ble_eq_true rfl) c1 (c_X8_allLength (by omega) e34) (st' := [.int o34.1, .ref v0]) rfl ?_
    refine rs_aload_n i_X8_makes_45 rfl ?_
    obtain ⟨c35, hf⟩ := ite_some hf
    obtain ⟨a36, e36, hf⟩ := bind_some hf
    refine rs_getR i_X8_makes_46 (by decide) (by decide) c35 e36 ?_
    refine rs_iload_n i_X8_makes_49 rfl ?_
    obtain ⟨c37, hf⟩ := ite_some hf
    refine rs_iald i_X8_makes_50 c37 ?_
    refine rs_imul i_X8_makes_51 ?_
    refine rs_bipush i_X8_makes_52 (v := 10) (by decide) ?_
    refine rs_idiv i_X8_makes_54 (by decide) ?_
    refine rs_aload_n i_X8_makes_55 rfl ?_
    obtain ⟨a38, e38, hf⟩ := bind_some hf
    refine rs_getR i_X8_makes_56 (by decide) (by decide) c35 e38 ?_
    refine rs_iload_n i_X8_makes_59 rfl ?_
    obtain ⟨c39, hf⟩ := ite_some hf
    refine rs_iald i_X8_makes_60 c39 ?_
    obtain ⟨o40, e40, hf⟩ := bind_some hf
    refine rs_inV i_X8_makes_61 m_X8_draws rfl (As := [.int ((o34.1 * (gI o34.2 a36 (ix v1))) / 10), .int (gI o34.2 a38 (ix v1))]) (rest := []) rfl rfl (Nat.le_of_ble_eq_true rfl) c35 (c_X8_draws (by omega) e40) (st' := []) rfl ?_
    refine rs_goto i_X8_makes_64 (tg := 158) (by decide) ?_
    have hf := Option.some.inj hf
    subst hf
    exact rs_vret i_X8_makes_158 m_X8_makes rfl
  · replace hf := (if_neg c4).symm.trans hf
    by_cases c5 : (gI h a2 (ix v1)) = 2
    · replace hf := (if_pos c5).symm.trans hf
      refine rs_tsw i_X8_makes_6 (off := 61) (by rw [c5]; decide) (tg := 67) (by decide) ?_
      refine rs_aload_n i_X8_makes_67 rfl ?_
      refine rs_aload_n i_X8_makes_68 rfl ?_
      obtain ⟨o25, e25, hf⟩ := bind_some hf
      refine rs_inV i_X8_makes_69 m_X8_allLength rfl (As := []) (rest := [.ref v0]) rfl rfl (Nat.le_of_ble_eq_true rfl) c1 (c_X8_allLength (by omega) e25) (st' := [.int o25.1, .ref v0]) rfl ?_
      refine rs_aload_n i_X8_makes_72 rfl ?_
      obtain ⟨c26, hf⟩ := ite_some hf
      obtain ⟨a27, e27, hf⟩ := bind_some hf
      refine rs_getR i_X8_makes_73 (by decide) (by decide) c26 e27 ?_
      refine rs_iload_n i_X8_makes_76 rfl ?_
      obtain ⟨c28, hf⟩ := ite_some hf
      refine rs_iald i_X8_makes_77 c28 ?_
      refine rs_imul i_X8_makes_78 ?_
      refine rs_bipush i_X8_makes_79 (v := 10) (by decide) ?_
      refine rs_idiv i_X8_makes_81 (by decide) ?_
      refine rs_aload_n i_X8_makes_82 rfl ?_
      obtain ⟨a29, e29, hf⟩ := bind_some hf
      refine rs_getR i_X8_makes_83 (by decide) (by decide) c26 e29 ?_
      refine rs_iload_n i_X8_makes_86 rfl ?_
      obtain ⟨c30, hf⟩ := ite_some hf
      refine rs_iald i_X8_makes_87 c30 ?_
      obtain ⟨o31, e31, hf⟩ := bind_some hf
      refine rs_inV i_X8_makes_88 m_X8_draws rfl (As := [.int ((o25.1 * (gI o25.2 a27 (ix v1))) / 10), .int (gI o25.2 a29 (ix v1))]) (rest := []) rfl rfl (Nat.le_of_ble_eq_true rfl) c26 (c_X8_draws (by omega) e31) (st' := []) rfl ?_
      refine rs_aload_n i_X8_makes_91 rfl ?_
      obtain ⟨c33, hf⟩ := ite_some hf
      obtain ⟨o32, e32, hf⟩ := bind_some hf
      refine rs_inV i_X8_makes_92 m_X8_bounces rfl (As := []) (rest := []) rfl rfl (Nat.le_of_ble_eq_true rfl) c33 (c_X8_bounces (by omega) e32) (st' := []) rfl ?_
      refine rs_goto i_X8_makes_95 (tg := 158) (by decide) ?_
      have hf := Option.some.inj hf
      subst hf
      exact rs_vret i_X8_makes_158 m_X8_makes rfl
    · replace hf := (if_neg c5).symm.trans hf
      by_cases c6 : (gI h a2 (ix v1)) = 3
      · replace hf := (if_pos c6).symm.trans hf
        refine rs_tsw i_X8_makes_6 (off := 92) (by rw [c6]; decide) (tg := 98) (by decide) ?_
        refine rs_aload_n i_X8_makes_98 rfl ?_
        obtain ⟨o24, e24, hf⟩ := bind_some hf
        refine rs_inV i_X8_makes_99 m_X8_doubles rfl (As := []) (rest := []) rfl rfl (Nat.le_of_ble_eq_true rfl) c1 (c_X8_doubles (by omega) e24) (st' := []) rfl ?_
        refine rs_goto i_X8_makes_102 (tg := 158) (by decide) ?_
        have hf := Option.some.inj hf
        subst hf
        exact rs_vret i_X8_makes_158 m_X8_makes rfl
      · replace hf := (if_neg c6).symm.trans hf
        by_cases c7 : (gI h a2 (ix v1)) = 4
        · replace hf := (if_pos c7).symm.trans hf
          refine rs_tsw i_X8_makes_6 (off := 99) (by rw [c7]; decide) (tg := 105) (by decide) ?_
          refine rs_aload_n i_X8_makes_105 rfl ?_
          refine rs_aload_n i_X8_makes_106 rfl ?_
          obtain ⟨a21, e21, hf⟩ := bind_some hf
          refine rs_getR i_X8_makes_107 (by decide) (by decide) c1 e21 ?_
          refine rs_iload_n i_X8_makes_110 rfl ?_
          obtain ⟨c22, hf⟩ := ite_some hf
          refine rs_iald i_X8_makes_111 c22 ?_
          obtain ⟨o23, e23, hf⟩ := bind_some hf
          refine rs_inV i_X8_makes_112 m_X8_dusts rfl (As := [.int (gI h a21 (ix v1))]) (rest := []) rfl rfl (Nat.le_of_ble_eq_true rfl) c1 (c_X8_dusts (by omega) e23) (st' := []) rfl ?_
          refine rs_goto i_X8_makes_115 (tg := 158) (by decide) ?_
          have hf := Option.some.inj hf
          subst hf
          exact rs_vret i_X8_makes_158 m_X8_makes rfl
        · replace hf := (if_neg c7).symm.trans hf
          by_cases c8 : (gI h a2 (ix v1)) = 5
          · replace hf := (if_pos c8).symm.trans hf
            refine rs_tsw i_X8_makes_6 (off := 112) (by rw [c8]; decide) (tg := 118) (by decide) ?_
            refine rs_aload_n i_X8_makes_118 rfl ?_
            obtain ⟨o12, e12, hf⟩ := bind_some hf
            refine rs_inV i_X8_makes_119 m_X8_doubles rfl (As := []) (rest := []) rfl rfl (Nat.le_of_ble_eq_true rfl) c1 (c_X8_doubles (by omega) e12) (st' := []) rfl ?_
            refine rs_aload_n i_X8_makes_122 rfl ?_
            refine rs_iconst i_X8_makes_123 (v := 0) (by decide) ?_
            refine rs_aload_n i_X8_makes_124 rfl ?_
            obtain ⟨c13, hf⟩ := ite_some hf
            obtain ⟨a14, e14, hf⟩ := bind_some hf
            refine rs_getR i_X8_makes_125 (by decide) (by decide) c13 e14 ?_
            refine rs_iload_n i_X8_makes_128 rfl ?_
            obtain ⟨c15, hf⟩ := ite_some hf
            refine rs_iald i_X8_makes_129 c15 ?_
            obtain ⟨o16, e16, hf⟩ := bind_some hf
            refine rs_inV i_X8_makes_130 m_X8_cuts rfl (As := [.int 0, .int (gI o12 a14 (ix v1))]) (rest := []) rfl rfl (Nat.le_of_ble_eq_true rfl) c13 (c_X8_cuts (by omega) e16) (st' := []) rfl ?_
            refine rs_aload_n i_X8_makes_133 rfl ?_
            refine rs_bipush i_X8_makes_134 (v := 11) (by decide) ?_
            refine rs_aload_n i_X8_makes_136 rfl ?_
            obtain ⟨c17, hf⟩ := ite_some hf
            obtain ⟨a18, e18, hf⟩ := bind_some hf
            refine rs_getR i_X8_makes_137 (by decide) (by decide) c17 e18 ?_
            refine rs_iload_n i_X8_makes_140 rfl ?_
            obtain ⟨c19, hf⟩ := ite_some hf
            refine rs_iald i_X8_makes_141 c19 ?_
            obtain ⟨o20, e20, hf⟩ := bind_some hf
            refine rs_inV i_X8_makes_142 m_X8_cuts rfl (As := [.int 11, .int (gI o16 a18 (ix v1))]) (rest := []) rfl rfl (Nat.le_of_ble_eq_true rfl) c17 (c_X8_cuts (by omega) e20) (st' := []) rfl ?_
            refine rs_goto i_X8_makes_145 (tg := 158) (by decide) ?_
            have hf := Option.some.inj hf
            subst hf
            exact rs_vret i_X8_makes_158 m_X8_makes rfl
          · replace hf := (if_neg c8).symm.trans hf
            refine rs_tsw i_X8_makes_6 (off := 142) (swt_df (by have z0 := ne_ti c4; rw [show (1 : Int32).toInt = 1 from by decide] at z0; have z1 := ne_ti c5; rw [show (2 : Int32).toInt = 2 from by decide] at z1; have z2 := ne_ti c6; rw [show (3 : Int32).toInt = 3 from by decide] at z2; have z3 := ne_ti c7; rw [show (4 : Int32).toInt = 4 from by decide] at z3; have z4 := ne_ti c8; rw [show (5 : Int32).toInt = 5 from by decide] at z4; omega)) (tg := 148) (by decide) ?_
            refine rs_aload_n i_X8_makes_148 rfl ?_
            refine rs_aload_n i_X8_makes_149 rfl ?_
            obtain ⟨a9, e9, hf⟩ := bind_some hf
            refine rs_getR i_X8_makes_150 (by decide) (by decide) c1 e9 ?_
            refine rs_iload_n i_X8_makes_153 rfl ?_
            obtain ⟨c10, hf⟩ := ite_some hf
            refine rs_iald i_X8_makes_154 c10 ?_
            obtain ⟨o11, e11, hf⟩ := bind_some hf
            refine rs_inV i_X8_makes_155 m_X8_rests rfl (As := [.int (gI h a9 (ix v1))]) (rest := []) rfl rfl (Nat.le_of_ble_eq_true rfl) c1 (c_X8_rests (by omega) e11) (st' := []) rfl ?_
            have hf := Option.some.inj hf
            subst hf
            exact rs_vret i_X8_makes_158 m_X8_makes rfl
def f_X8_makes (n : Nat) (v0 : Nat) (v1 : Int32) (h : Hp) : Option Hp := f_X8_makes_0 n v0 v1 h
theorem c_X8_makes {X : Nat → Int32} {d : Nat} (hd : 4 ≤ d) {n : Nat} {v0 : Nat} {v1 : Int32} {h : Hp} {o : Hp} (hf : f_X8_makes n v0 v1 h = some o) : Calls X d 165 [.ref v0, .int v1] h (none, o) := by
  obtain ⟨d, rfl⟩ : ∃ z, d = z + 1 := ⟨d - 1, by omega⟩
  exact ⟨_, rfl, r_X8_makes_0 hd hf⟩
theorem i_X8_begins_0 : fetch 166 0 = some (.iconst 0, 1, 0, 0, 0, 0) := by decide +kernel
theorem i_X8_begins_1 : fetch 166 1 = some (.istore_n 1, 2, 0, 0, 0, 0) := by decide +kernel
theorem i_X8_begins_2 : fetch 166 2 = some (.iload_n 1, 3, 0, 0, 0, 0) := by decide +kernel
theorem i_X8_begins_3 : fetch 166 3 = some (.bipush 12, 5, 0, 0, 0, 0) := by decide +kernel
theorem i_X8_begins_5 : fetch 166 5 = some (.if_icmp .ge 40, 8, 0, 0, 0, 0) := by decide +kernel
theorem i_X8_begins_8 : fetch 166 8 = some (.aload_n 0, 9, 0, 0, 0, 0) := by decide +kernel
theorem i_X8_begins_9 : fetch 166 9 = some (.getfield 75, 12, 8, 37, 0, 1046) := by decide +kernel
theorem i_X8_begins_12 : fetch 166 12 = some (.iload_n 1, 13, 0, 0, 0, 0) := by decide +kernel
theorem i_X8_begins_13 : fetch 166 13 = some (.aload_n 0, 14, 0, 0, 0, 0) := by decide +kernel
theorem i_X8_begins_14 : fetch 166 14 = some (.getfield 8, 17, 8, 0, 0, 1009) := by decide +kernel
theorem i_X8_begins_17 : fetch 166 17 = some (.iload_n 1, 18, 0, 0, 0, 0) := by decide +kernel
theorem i_X8_begins_18 : fetch 166 18 = some (.iaload, 19, 0, 0, 0, 0) := by decide +kernel
theorem i_X8_begins_19 : fetch 166 19 = some (.iastore, 20, 0, 0, 0, 0) := by decide +kernel
theorem i_X8_begins_20 : fetch 166 20 = some (.aload_n 0, 21, 0, 0, 0, 0) := by decide +kernel
theorem i_X8_begins_21 : fetch 166 21 = some (.getfield 78, 24, 8, 38, 0, 1047) := by decide +kernel
theorem i_X8_begins_24 : fetch 166 24 = some (.iload_n 1, 25, 0, 0, 0, 0) := by decide +kernel
theorem i_X8_begins_25 : fetch 166 25 = some (.aload_n 0, 26, 0, 0, 0, 0) := by decide +kernel
theorem i_X8_begins_26 : fetch 166 26 = some (.getfield 14, 29, 8, 1, 0, 1010) := by decide +kernel
theorem i_X8_begins_29 : fetch 166 29 = some (.iload_n 1, 30, 0, 0, 0, 0) := by decide +kernel
theorem i_X8_begins_30 : fetch 166 30 = some (.iaload, 31, 0, 0, 0, 0) := by decide +kernel
theorem i_X8_begins_31 : fetch 166 31 = some (.iastore, 32, 0, 0, 0, 0) := by decide +kernel
theorem i_X8_begins_32 : fetch 166 32 = some (.aload_n 0, 33, 0, 0, 0, 0) := by decide +kernel
theorem i_X8_begins_33 : fetch 166 33 = some (.getfield 81, 36, 8, 39, 0, 1048) := by decide +kernel
theorem i_X8_begins_36 : fetch 166 36 = some (.iload_n 1, 37, 0, 0, 0, 0) := by decide +kernel
theorem i_X8_begins_37 : fetch 166 37 = some (.iconst 0, 38, 0, 0, 0, 0) := by decide +kernel
theorem i_X8_begins_38 : fetch 166 38 = some (.iastore, 39, 0, 0, 0, 0) := by decide +kernel
theorem i_X8_begins_39 : fetch 166 39 = some (.iinc 1 1, 42, 0, 0, 0, 0) := by decide +kernel
theorem i_X8_begins_42 : fetch 166 42 = some (.goto (-40), 45, 0, 0, 0, 0) := by decide +kernel
theorem i_X8_begins_45 : fetch 166 45 = some (.aload_n 0, 46, 0, 0, 0, 0) := by decide +kernel
theorem i_X8_begins_46 : fetch 166 46 = some (.iconst 0, 47, 0, 0, 0, 0) := by decide +kernel
theorem i_X8_begins_47 : fetch 166 47 = some (.putfield 205, 50, 8, 40, 0, 1049) := by decide +kernel
theorem i_X8_begins_50 : fetch 166 50 = some (.aload_n 0, 51, 0, 0, 0, 0) := by decide +kernel
theorem i_X8_begins_51 : fetch 166 51 = some (.iconst 0, 52, 0, 0, 0, 0) := by decide +kernel
theorem i_X8_begins_52 : fetch 166 52 = some (.putfield 208, 55, 8, 41, 0, 1050) := by decide +kernel
theorem i_X8_begins_55 : fetch 166 55 = some (.aload_n 0, 56, 0, 0, 0, 0) := by decide +kernel
theorem i_X8_begins_56 : fetch 166 56 = some (.iconst 0, 57, 0, 0, 0, 0) := by decide +kernel
theorem i_X8_begins_57 : fetch 166 57 = some (.putfield 251, 60, 8, 42, 0, 1051) := by decide +kernel
theorem i_X8_begins_60 : fetch 166 60 = some (.aload_n 0, 61, 0, 0, 0, 0) := by decide +kernel
theorem i_X8_begins_61 : fetch 166 61 = some (.ldc2_w 275, 64, 0, 0, 1000000000, 1239) := by decide +kernel
theorem i_X8_begins_64 : fetch 166 64 = some (.putfield 240, 67, 8, 43, 0, 1052) := by decide +kernel
theorem i_X8_begins_67 : fetch 166 67 = some (.aload_n 0, 68, 0, 0, 0, 0) := by decide +kernel
theorem i_X8_begins_68 : fetch 166 68 = some (.ldc2_w 275, 71, 0, 0, 1000000000, 1239) := by decide +kernel
theorem i_X8_begins_71 : fetch 166 71 = some (.putfield 248, 74, 8, 44, 0, 1053) := by decide +kernel
theorem i_X8_begins_74 : fetch 166 74 = some (.return_, 75, 0, 0, 0, 0) := by decide +kernel
def f_X8_begins_67 (n : Nat) (v0 : Nat) (h : Hp) : Option Hp :=
  if okO h v0 8 then
  some (hsl h v0 44 1000000000)
  else none
set_option maxRecDepth 100000 in
set_option maxHeartbeats 4000000 in
theorem r_X8_begins_67 {X : Nat → Int32} {d : Nat} (hd : 0 ≤ d) {n : Nat} {v0 : Nat} {d1 : Int32} {h : Hp} {o : Hp} (hf : f_X8_begins_67 n v0 h = some o) : Run X d 166 67 [some (.ref v0), some (.int d1)] [] h (none, o) := by
  unfold f_X8_begins_67 at hf
  refine rs_aload_n i_X8_begins_67 rfl ?_
  refine rs_ldc2 i_X8_begins_68 (v := 1000000000) (by decide) ?_
  obtain ⟨c1, hf⟩ := ite_some hf
  refine rs_putL i_X8_begins_71 (by decide) c1 ?_
  have hf := Option.some.inj hf
  subst hf
  exact rs_vret i_X8_begins_74 m_X8_begins rfl
def f_X8_begins_60 (n : Nat) (v0 : Nat) (h : Hp) : Option Hp :=
  if okO h v0 8 then
  f_X8_begins_67 n v0 (hsl h v0 43 1000000000)
  else none
set_option maxRecDepth 100000 in
set_option maxHeartbeats 4000000 in
theorem r_X8_begins_60 {X : Nat → Int32} {d : Nat} (hd : 0 ≤ d) {n : Nat} {v0 : Nat} {d1 : Int32} {h : Hp} {o : Hp} (hf : f_X8_begins_60 n v0 h = some o) : Run X d 166 60 [some (.ref v0), some (.int d1)] [] h (none, o) := by
  unfold f_X8_begins_60 at hf
  refine rs_aload_n i_X8_begins_60 rfl ?_
  refine rs_ldc2 i_X8_begins_61 (v := 1000000000) (by decide) ?_
  obtain ⟨c1, hf⟩ := ite_some hf
  refine rs_putL i_X8_begins_64 (by decide) c1 ?_
  exact r_X8_begins_67 hd hf
def f_X8_begins_55 (n : Nat) (v0 : Nat) (h : Hp) : Option Hp :=
  if okO h v0 8 then
  f_X8_begins_60 n v0 (hsi h v0 42 0)
  else none
set_option maxRecDepth 100000 in
set_option maxHeartbeats 4000000 in
theorem r_X8_begins_55 {X : Nat → Int32} {d : Nat} (hd : 0 ≤ d) {n : Nat} {v0 : Nat} {d1 : Int32} {h : Hp} {o : Hp} (hf : f_X8_begins_55 n v0 h = some o) : Run X d 166 55 [some (.ref v0), some (.int d1)] [] h (none, o) := by
  unfold f_X8_begins_55 at hf
  refine rs_aload_n i_X8_begins_55 rfl ?_
  refine rs_iconst i_X8_begins_56 (v := 0) (by decide) ?_
  obtain ⟨c1, hf⟩ := ite_some hf
  refine rs_putI i_X8_begins_57 (by decide) c1 ?_
  exact r_X8_begins_60 hd hf
def f_X8_begins_50 (n : Nat) (v0 : Nat) (h : Hp) : Option Hp :=
  if okO h v0 8 then
  f_X8_begins_55 n v0 (hsi h v0 41 0)
  else none
set_option maxRecDepth 100000 in
set_option maxHeartbeats 4000000 in
theorem r_X8_begins_50 {X : Nat → Int32} {d : Nat} (hd : 0 ≤ d) {n : Nat} {v0 : Nat} {d1 : Int32} {h : Hp} {o : Hp} (hf : f_X8_begins_50 n v0 h = some o) : Run X d 166 50 [some (.ref v0), some (.int d1)] [] h (none, o) := by
  unfold f_X8_begins_50 at hf
  refine rs_aload_n i_X8_begins_50 rfl ?_
  refine rs_iconst i_X8_begins_51 (v := 0) (by decide) ?_
  obtain ⟨c1, hf⟩ := ite_some hf
  refine rs_putI i_X8_begins_52 (by decide) c1 ?_
  exact r_X8_begins_55 hd hf
def f_X8_begins_32 (n : Nat) (K2 : Nat → Int32 → Hp → Option Hp) (v0 : Nat) (v1 : Int32) (h : Hp) : Option Hp :=
  if okO h v0 8 then
  (gR h v0 39).bind fun a2 =>
  if okI h a2 v1 then
  K2 v0 (v1 + 1) (hsi h a2 (ix v1) 0)
  else none
  else none
set_option maxRecDepth 100000 in
set_option maxHeartbeats 4000000 in
theorem r_X8_begins_32 {X : Nat → Int32} {d : Nat} (hd : 0 ≤ d) {n : Nat} {K2 : Nat → Int32 → Hp → Option Hp} (HK2 : ∀ (v0 : Nat) (v1 : Int32) (h : Hp) (o : Hp), K2 v0 v1 h = some o → Run X d 166 2 [some (.ref v0), some (.int v1)] [] h (none, o)) {v0 : Nat} {v1 : Int32} {h : Hp} {o : Hp} (hf : f_X8_begins_32 n K2 v0 v1 h = some o) : Run X d 166 32 [some (.ref v0), some (.int v1)] [] h (none, o) := by
  unfold f_X8_begins_32 at hf
  refine rs_aload_n i_X8_begins_32 rfl ?_
  obtain ⟨c1, hf⟩ := ite_some hf
  obtain ⟨a2, e2, hf⟩ := bind_some hf
  refine rs_getR i_X8_begins_33 (by decide) (by decide) c1 e2 ?_
  refine rs_iload_n i_X8_begins_36 rfl ?_
  refine rs_iconst i_X8_begins_37 (v := 0) (by decide) ?_
  obtain ⟨c3, hf⟩ := ite_some hf
  refine rs_iast i_X8_begins_38 c3 ?_
  refine rs_iinc i_X8_begins_39 rfl (v := v1 + 1) rfl (Nat.le_of_ble_eq_true rfl) (lv' := [some (.ref v0), some (.int (v1 + 1))]) rfl ?_
  refine rs_goto i_X8_begins_42 (tg := 2) (by decide) ?_
  exact HK2 _ _ _ _ hf
def f_X8_begins_20 (n : Nat) (K2 : Nat → Int32 → Hp → Option Hp) (v0 : Nat) (v1 : Int32) (h : Hp) : Option Hp :=
  if okO h v0 8 then
  (gR h v0 38).bind fun a2 =>
  (gR h v0 1).bind fun a3 =>
  if okI h a3 v1 then
  if okI h a2 v1 then
  f_X8_begins_32 n K2 v0 v1 (hsi h a2 (ix v1) (gI h a3 (ix v1)))
  else none
  else none
  else none
set_option maxRecDepth 100000 in
set_option maxHeartbeats 4000000 in
theorem r_X8_begins_20 {X : Nat → Int32} {d : Nat} (hd : 0 ≤ d) {n : Nat} {K2 : Nat → Int32 → Hp → Option Hp} (HK2 : ∀ (v0 : Nat) (v1 : Int32) (h : Hp) (o : Hp), K2 v0 v1 h = some o → Run X d 166 2 [some (.ref v0), some (.int v1)] [] h (none, o)) {v0 : Nat} {v1 : Int32} {h : Hp} {o : Hp} (hf : f_X8_begins_20 n K2 v0 v1 h = some o) : Run X d 166 20 [some (.ref v0), some (.int v1)] [] h (none, o) := by
  unfold f_X8_begins_20 at hf
  refine rs_aload_n i_X8_begins_20 rfl ?_
  obtain ⟨c1, hf⟩ := ite_some hf
  obtain ⟨a2, e2, hf⟩ := bind_some hf
  refine rs_getR i_X8_begins_21 (by decide) (by decide) c1 e2 ?_
  refine rs_iload_n i_X8_begins_24 rfl ?_
  refine rs_aload_n i_X8_begins_25 rfl ?_
  obtain ⟨a3, e3, hf⟩ := bind_some hf
  refine rs_getR i_X8_begins_26 (by decide) (by decide) c1 e3 ?_
  refine rs_iload_n i_X8_begins_29 rfl ?_
  obtain ⟨c4, hf⟩ := ite_some hf
  refine rs_iald i_X8_begins_30 c4 ?_
  obtain ⟨c5, hf⟩ := ite_some hf
  refine rs_iast i_X8_begins_31 c5 ?_
  exact r_X8_begins_32 hd HK2 hf
def f_X8_begins_2 (n : Nat) : Nat → Nat → Int32 → Hp → Option Hp
  | 0, _, _, _ => none
  | m + 1, v0, v1, h =>
    if 12 ≤ v1 then
      if okO h v0 8 then
      f_X8_begins_50 n v0 (hsi h v0 40 0)
      else none
    else
      if okO h v0 8 then
      (gR h v0 37).bind fun a4 =>
      (gR h v0 0).bind fun a5 =>
      if okI h a5 v1 then
      if okI h a4 v1 then
      f_X8_begins_20 n (f_X8_begins_2 n m) v0 v1 (hsi h a4 (ix v1) (gI h a5 (ix v1)))
      else none
      else none
      else none
set_option maxRecDepth 100000 in
set_option maxHeartbeats 4000000 in
theorem r_X8_begins_2 {X : Nat → Int32} {d : Nat} (hd : 0 ≤ d) {n : Nat} : ∀ (m : Nat) (v0 : Nat) (v1 : Int32) (h : Hp) (o : Hp), f_X8_begins_2 n m v0 v1 h = some o → Run X d 166 2 [some (.ref v0), some (.int v1)] [] h (none, o) := by
  intro m
  induction m with
  | zero => intro v0 v1 h o hf; cases hf
  | succ m ih =>
    intro v0 v1 h o hf
    rw [f_X8_begins_2] at hf
    refine rs_iload_n i_X8_begins_2 rfl ?_
    refine rs_bipush i_X8_begins_3 (v := 12) (by decide) ?_
    by_cases c1 : 12 ≤ v1
    · replace hf := (if_pos c1).symm.trans hf
      refine rs_icT i_X8_begins_5 (ct_ge c1) (tg := 45) (by decide) ?_
      refine rs_aload_n i_X8_begins_45 rfl ?_
      refine rs_iconst i_X8_begins_46 (v := 0) (by decide) ?_
      obtain ⟨c2, hf⟩ := ite_some hf
      refine rs_putI i_X8_begins_47 (by decide) c2 ?_
      exact r_X8_begins_50 hd hf
    · replace hf := (if_neg c1).symm.trans hf
      refine rs_icF i_X8_begins_5 (cf_ge c1) ?_
      refine rs_aload_n i_X8_begins_8 rfl ?_
      obtain ⟨c3, hf⟩ := ite_some hf
      obtain ⟨a4, e4, hf⟩ := bind_some hf
      refine rs_getR i_X8_begins_9 (by decide) (by decide) c3 e4 ?_
      refine rs_iload_n i_X8_begins_12 rfl ?_
      refine rs_aload_n i_X8_begins_13 rfl ?_
      obtain ⟨a5, e5, hf⟩ := bind_some hf
      refine rs_getR i_X8_begins_14 (by decide) (by decide) c3 e5 ?_
      refine rs_iload_n i_X8_begins_17 rfl ?_
      obtain ⟨c6, hf⟩ := ite_some hf
      refine rs_iald i_X8_begins_18 c6 ?_
      obtain ⟨c7, hf⟩ := ite_some hf
      refine rs_iast i_X8_begins_19 c7 ?_
      exact r_X8_begins_20 hd ih hf
def f_X8_begins_0 (n : Nat) (v0 : Nat) (h : Hp) : Option Hp :=
  f_X8_begins_2 n n v0 0 h
set_option maxRecDepth 100000 in
set_option maxHeartbeats 4000000 in
theorem r_X8_begins_0 {X : Nat → Int32} {d : Nat} (hd : 0 ≤ d) {n : Nat} {v0 : Nat} {h : Hp} {o : Hp} (hf : f_X8_begins_0 n v0 h = some o) : Run X d 166 0 [some (.ref v0), none] [] h (none, o) := by
  unfold f_X8_begins_0 at hf
  refine rs_iconst i_X8_begins_0 (v := 0) (by decide) ?_
  refine rs_istore_n i_X8_begins_1 (Nat.le_of_ble_eq_true rfl) (lv' := [some (.ref v0), some (.int 0)]) rfl ?_
  exact r_X8_begins_2 hd _ _ _ _ _ hf
def f_X8_begins (n : Nat) (v0 : Nat) (h : Hp) : Option Hp := f_X8_begins_0 n v0 h
theorem c_X8_begins {X : Nat → Int32} {d : Nat} (hd : 0 ≤ d) {n : Nat} {v0 : Nat} {h : Hp} {o : Hp} (hf : f_X8_begins n v0 h = some o) : Calls X d 166 [.ref v0] h (none, o) := by
  exact ⟨_, rfl, r_X8_begins_0 hd hf⟩
theorem i_X8_goesBut_0 : fetch 167 0 = some (.aload_n 0, 1, 0, 0, 0, 0) := by decide +kernel
theorem i_X8_goesBut_1 : fetch 167 1 = some (.invokevirtual 277, 4, 166, 0, 0, 1235) := by decide +kernel
theorem i_X8_goesBut_4 : fetch 167 4 = some (.iconst 0, 5, 0, 0, 0, 0) := by decide +kernel
theorem i_X8_goesBut_5 : fetch 167 5 = some (.istore_n 3, 6, 0, 0, 0, 0) := by decide +kernel
theorem i_X8_goesBut_6 : fetch 167 6 = some (.iload_n 3, 7, 0, 0, 0, 0) := by decide +kernel
theorem i_X8_goesBut_7 : fetch 167 7 = some (.iload_n 1, 8, 0, 0, 0, 0) := by decide +kernel
theorem i_X8_goesBut_8 : fetch 167 8 = some (.if_icmp .ge 19, 11, 0, 0, 0, 0) := by decide +kernel
theorem i_X8_goesBut_11 : fetch 167 11 = some (.iload_n 3, 12, 0, 0, 0, 0) := by decide +kernel
theorem i_X8_goesBut_12 : fetch 167 12 = some (.iload_n 2, 13, 0, 0, 0, 0) := by decide +kernel
theorem i_X8_goesBut_13 : fetch 167 13 = some (.if_icmp .eq 8, 16, 0, 0, 0, 0) := by decide +kernel
theorem i_X8_goesBut_16 : fetch 167 16 = some (.aload_n 0, 17, 0, 0, 0, 0) := by decide +kernel
theorem i_X8_goesBut_17 : fetch 167 17 = some (.iload_n 3, 18, 0, 0, 0, 0) := by decide +kernel
theorem i_X8_goesBut_18 : fetch 167 18 = some (.invokevirtual 280, 21, 165, 0, 0, 1240) := by decide +kernel
theorem i_X8_goesBut_21 : fetch 167 21 = some (.iinc 3 1, 24, 0, 0, 0, 0) := by decide +kernel
theorem i_X8_goesBut_24 : fetch 167 24 = some (.goto (-18), 27, 0, 0, 0, 0) := by decide +kernel
theorem i_X8_goesBut_27 : fetch 167 27 = some (.return_, 28, 0, 0, 0, 0) := by decide +kernel
def f_X8_goesBut_21 (n : Nat) (K6 : Nat → Int32 → Int32 → Int32 → Hp → Option Hp) (v0 : Nat) (v1 : Int32) (v2 : Int32) (v3 : Int32) (h : Hp) : Option Hp :=
  K6 v0 v1 v2 (v3 + 1) h
set_option maxRecDepth 100000 in
set_option maxHeartbeats 4000000 in
theorem r_X8_goesBut_21 {X : Nat → Int32} {d : Nat} (hd : 5 ≤ (d + 1)) {n : Nat} {K6 : Nat → Int32 → Int32 → Int32 → Hp → Option Hp} (HK6 : ∀ (v0 : Nat) (v1 : Int32) (v2 : Int32) (v3 : Int32) (h : Hp) (o : Hp), K6 v0 v1 v2 v3 h = some o → Run X (d + 1) 167 6 [some (.ref v0), some (.int v1), some (.int v2), some (.int v3)] [] h (none, o)) {v0 : Nat} {v1 : Int32} {v2 : Int32} {v3 : Int32} {h : Hp} {o : Hp} (hf : f_X8_goesBut_21 n K6 v0 v1 v2 v3 h = some o) : Run X (d + 1) 167 21 [some (.ref v0), some (.int v1), some (.int v2), some (.int v3)] [] h (none, o) := by
  unfold f_X8_goesBut_21 at hf
  refine rs_iinc i_X8_goesBut_21 rfl (v := v3 + 1) rfl (Nat.le_of_ble_eq_true rfl) (lv' := [some (.ref v0), some (.int v1), some (.int v2), some (.int (v3 + 1))]) rfl ?_
  refine rs_goto i_X8_goesBut_24 (tg := 6) (by decide) ?_
  exact HK6 _ _ _ _ _ _ hf
def f_X8_goesBut_6 (n : Nat) : Nat → Nat → Int32 → Int32 → Int32 → Hp → Option Hp
  | 0, _, _, _, _, _ => none
  | m + 1, v0, v1, v2, v3, h =>
    if v1 ≤ v3 then
      some h
    else
      if v3 = v2 then
        f_X8_goesBut_21 n (f_X8_goesBut_6 n m) v0 v1 v2 v3 h
      else
        if okO h v0 8 then
        (f_X8_makes n v0 v3 h).bind fun o3 =>
        f_X8_goesBut_21 n (f_X8_goesBut_6 n m) v0 v1 v2 v3 o3
        else none
set_option maxRecDepth 100000 in
set_option maxHeartbeats 4000000 in
theorem r_X8_goesBut_6 {X : Nat → Int32} {d : Nat} (hd : 5 ≤ (d + 1)) {n : Nat} : ∀ (m : Nat) (v0 : Nat) (v1 : Int32) (v2 : Int32) (v3 : Int32) (h : Hp) (o : Hp), f_X8_goesBut_6 n m v0 v1 v2 v3 h = some o → Run X (d + 1) 167 6 [some (.ref v0), some (.int v1), some (.int v2), some (.int v3)] [] h (none, o) := by
  intro m
  induction m with
  | zero => intro v0 v1 v2 v3 h o hf; cases hf
  | succ m ih =>
    intro v0 v1 v2 v3 h o hf
    rw [f_X8_goesBut_6] at hf
    refine rs_iload_n i_X8_goesBut_6 rfl ?_
    refine rs_iload_n i_X8_goesBut_7 rfl ?_
    by_cases c1 : v1 ≤ v3
    · replace hf := (if_pos c1).symm.trans hf
      refine rs_icT i_X8_goesBut_8 (ct_ge c1) (tg := 27) (by decide) ?_
      have hf := Option.some.inj hf
      subst hf
      exact rs_vret i_X8_goesBut_27 m_X8_goesBut rfl
    · replace hf := (if_neg c1).symm.trans hf
      refine rs_icF i_X8_goesBut_8 (cf_ge c1) ?_
      refine rs_iload_n i_X8_goesBut_11 rfl ?_
      refine rs_iload_n i_X8_goesBut_12 rfl ?_
      by_cases c2 : v3 = v2
      · replace hf := (if_pos c2).symm.trans hf
        refine rs_icT i_X8_goesBut_13 (ct_eq c2) (tg := 21) (by decide) ?_
        exact r_X8_goesBut_21 hd ih hf
      · replace hf := (if_neg c2).symm.trans hf
        refine rs_icF i_X8_goesBut_13 (cf_eq c2) ?_
        refine rs_aload_n i_X8_goesBut_16 rfl ?_
        refine rs_iload_n i_X8_goesBut_17 rfl ?_
        obtain ⟨c4, hf⟩ := ite_some hf
        obtain ⟨o3, e3, hf⟩ := bind_some hf
        refine rs_inV i_X8_goesBut_18 m_X8_makes rfl (As := [.int v3]) (rest := []) rfl rfl (Nat.le_of_ble_eq_true rfl) c4 (c_X8_makes (by omega) e3) (st' := []) rfl ?_
        exact r_X8_goesBut_21 hd ih hf
def f_X8_goesBut_0 (n : Nat) (v0 : Nat) (v1 : Int32) (v2 : Int32) (h : Hp) : Option Hp :=
  if okO h v0 8 then
  (f_X8_begins n v0 h).bind fun o1 =>
  f_X8_goesBut_6 n n v0 v1 v2 0 o1
  else none
set_option maxRecDepth 100000 in
set_option maxHeartbeats 4000000 in
theorem r_X8_goesBut_0 {X : Nat → Int32} {d : Nat} (hd : 5 ≤ (d + 1)) {n : Nat} {v0 : Nat} {v1 : Int32} {v2 : Int32} {h : Hp} {o : Hp} (hf : f_X8_goesBut_0 n v0 v1 v2 h = some o) : Run X (d + 1) 167 0 [some (.ref v0), some (.int v1), some (.int v2), none] [] h (none, o) := by
  unfold f_X8_goesBut_0 at hf
  refine rs_aload_n i_X8_goesBut_0 rfl ?_
  obtain ⟨c2, hf⟩ := ite_some hf
  obtain ⟨o1, e1, hf⟩ := bind_some hf
  refine rs_inV i_X8_goesBut_1 m_X8_begins rfl (As := []) (rest := []) rfl rfl (Nat.le_of_ble_eq_true rfl) c2 (c_X8_begins (by omega) e1) (st' := []) rfl ?_
  refine rs_iconst i_X8_goesBut_4 (v := 0) (by decide) ?_
  refine rs_istore_n i_X8_goesBut_5 (Nat.le_of_ble_eq_true rfl) (lv' := [some (.ref v0), some (.int v1), some (.int v2), some (.int 0)]) rfl ?_
  exact r_X8_goesBut_6 hd _ _ _ _ _ _ _ hf
def f_X8_goesBut (n : Nat) (v0 : Nat) (v1 : Int32) (v2 : Int32) (h : Hp) : Option Hp := f_X8_goesBut_0 n v0 v1 v2 h
theorem c_X8_goesBut {X : Nat → Int32} {d : Nat} (hd : 5 ≤ d) {n : Nat} {v0 : Nat} {v1 : Int32} {v2 : Int32} {h : Hp} {o : Hp} (hf : f_X8_goesBut n v0 v1 v2 h = some o) : Calls X d 167 [.ref v0, .int v1, .int v2] h (none, o) := by
  obtain ⟨d, rfl⟩ : ∃ z, d = z + 1 := ⟨d - 1, by omega⟩
  exact ⟨_, rfl, r_X8_goesBut_0 hd hf⟩
theorem i_X8_goes_0 : fetch 168 0 = some (.aload_n 0, 1, 0, 0, 0, 0) := by decide +kernel
theorem i_X8_goes_1 : fetch 168 1 = some (.iload_n 1, 2, 0, 0, 0, 0) := by decide +kernel
theorem i_X8_goes_2 : fetch 168 2 = some (.iconst (-1), 3, 0, 0, 0, 0) := by decide +kernel
theorem i_X8_goes_3 : fetch 168 3 = some (.invokevirtual 283, 6, 167, 0, 0, 1231) := by decide +kernel
theorem i_X8_goes_6 : fetch 168 6 = some (.return_, 7, 0, 0, 0, 0) := by decide +kernel
def f_X8_goes_0 (n : Nat) (v0 : Nat) (v1 : Int32) (h : Hp) : Option Hp :=
  if okO h v0 8 then
  (f_X8_goesBut n v0 v1 (-1) h).bind fun o1 =>
  some o1
  else none
set_option maxRecDepth 100000 in
set_option maxHeartbeats 4000000 in
theorem r_X8_goes_0 {X : Nat → Int32} {d : Nat} (hd : 6 ≤ (d + 1)) {n : Nat} {v0 : Nat} {v1 : Int32} {h : Hp} {o : Hp} (hf : f_X8_goes_0 n v0 v1 h = some o) : Run X (d + 1) 168 0 [some (.ref v0), some (.int v1)] [] h (none, o) := by
  unfold f_X8_goes_0 at hf
  refine rs_aload_n i_X8_goes_0 rfl ?_
  refine rs_iload_n i_X8_goes_1 rfl ?_
  refine rs_iconst i_X8_goes_2 (v := (-1)) (by decide) ?_
  obtain ⟨c2, hf⟩ := ite_some hf
  obtain ⟨o1, e1, hf⟩ := bind_some hf
  refine rs_inV i_X8_goes_3 m_X8_goesBut rfl (As := [.int v1, .int (-1)]) (rest := []) rfl rfl (Nat.le_of_ble_eq_true rfl) c2 (c_X8_goesBut (by omega) e1) (st' := []) rfl ?_
  have hf := Option.some.inj hf
  subst hf
  exact rs_vret i_X8_goes_6 m_X8_goes rfl
def f_X8_goes (n : Nat) (v0 : Nat) (v1 : Int32) (h : Hp) : Option Hp := f_X8_goes_0 n v0 v1 h
theorem c_X8_goes {X : Nat → Int32} {d : Nat} (hd : 6 ≤ d) {n : Nat} {v0 : Nat} {v1 : Int32} {h : Hp} {o : Hp} (hf : f_X8_goes n v0 v1 h = some o) : Calls X d 168 [.ref v0, .int v1] h (none, o) := by
  obtain ⟨d, rfl⟩ : ∃ z, d = z + 1 := ⟨d - 1, by omega⟩
  exact ⟨_, rfl, r_X8_goes_0 hd hf⟩
theorem i_X8_rope_0 : fetch 169 0 = some (.aload_n 0, 1, 0, 0, 0, 0) := by decide +kernel
theorem i_X8_rope_1 : fetch 169 1 = some (.iload_n 1, 2, 0, 0, 0, 0) := by decide +kernel
theorem i_X8_rope_2 : fetch 169 2 = some (.invokevirtual 286, 5, 128, 0, 0, 1223) := by decide +kernel
theorem i_X8_rope_5 : fetch 169 5 = some (.ifCond .ne 6, 8, 0, 0, 0, 0) := by decide +kernel
theorem i_X8_rope_8 : fetch 169 8 = some (.bipush (-5), 10, 0, 0, 0, 0) := by decide +kernel
theorem i_X8_rope_10 : fetch 169 10 = some (.ireturn, 11, 0, 0, 0, 0) := by decide +kernel
theorem i_X8_rope_11 : fetch 169 11 = some (.iload_n 2, 12, 0, 0, 0, 0) := by decide +kernel
theorem i_X8_rope_12 : fetch 169 12 = some (.invokestatic 119, 15, 127, 0, 0, 1176) := by decide +kernel
theorem i_X8_rope_15 : fetch 169 15 = some (.ifCond .eq 12, 18, 0, 0, 0, 0) := by decide +kernel
theorem i_X8_rope_18 : fetch 169 18 = some (.iload_n 3, 19, 0, 0, 0, 0) := by decide +kernel
theorem i_X8_rope_19 : fetch 169 19 = some (.iconst 0, 20, 0, 0, 0, 0) := by decide +kernel
theorem i_X8_rope_20 : fetch 169 20 = some (.iconst 2, 21, 0, 0, 0, 0) := by decide +kernel
theorem i_X8_rope_21 : fetch 169 21 = some (.invokestatic 112, 24, 126, 0, 0, 970) := by decide +kernel
theorem i_X8_rope_24 : fetch 169 24 = some (.ifCond .ne 6, 27, 0, 0, 0, 0) := by decide +kernel
theorem i_X8_rope_27 : fetch 169 27 = some (.bipush (-7), 29, 0, 0, 0, 0) := by decide +kernel
theorem i_X8_rope_29 : fetch 169 29 = some (.ireturn, 30, 0, 0, 0, 0) := by decide +kernel
theorem i_X8_rope_30 : fetch 169 30 = some (.aload_n 0, 31, 0, 0, 0, 0) := by decide +kernel
theorem i_X8_rope_31 : fetch 169 31 = some (.iload_n 1, 32, 0, 0, 0, 0) := by decide +kernel
theorem i_X8_rope_32 : fetch 169 32 = some (.invokevirtual 289, 35, 168, 0, 0, 1227) := by decide +kernel
theorem i_X8_rope_35 : fetch 169 35 = some (.iload_n 3, 36, 0, 0, 0, 0) := by decide +kernel
theorem i_X8_rope_36 : fetch 169 36 = some (.ifCond .ne 11, 39, 0, 0, 0, 0) := by decide +kernel
theorem i_X8_rope_39 : fetch 169 39 = some (.aload_n 0, 40, 0, 0, 0, 0) := by decide +kernel
theorem i_X8_rope_40 : fetch 169 40 = some (.iload_n 2, 41, 0, 0, 0, 0) := by decide +kernel
theorem i_X8_rope_41 : fetch 169 41 = some (.invokevirtual 202, 44, 154, 0, 0, 1256) := by decide +kernel
theorem i_X8_rope_44 : fetch 169 44 = some (.goto 23, 47, 0, 0, 0, 0) := by decide +kernel
theorem i_X8_rope_47 : fetch 169 47 = some (.iload_n 3, 48, 0, 0, 0, 0) := by decide +kernel
theorem i_X8_rope_48 : fetch 169 48 = some (.iconst 1, 49, 0, 0, 0, 0) := by decide +kernel
theorem i_X8_rope_49 : fetch 169 49 = some (.if_icmp .ne 12, 52, 0, 0, 0, 0) := by decide +kernel
theorem i_X8_rope_52 : fetch 169 52 = some (.aload_n 0, 53, 0, 0, 0, 0) := by decide +kernel
theorem i_X8_rope_53 : fetch 169 53 = some (.getfield 78, 56, 8, 38, 0, 1047) := by decide +kernel
theorem i_X8_rope_56 : fetch 169 56 = some (.iload_n 2, 57, 0, 0, 0, 0) := by decide +kernel
theorem i_X8_rope_57 : fetch 169 57 = some (.iaload, 58, 0, 0, 0, 0) := by decide +kernel
theorem i_X8_rope_58 : fetch 169 58 = some (.goto 9, 61, 0, 0, 0, 0) := by decide +kernel
theorem i_X8_rope_61 : fetch 169 61 = some (.aload_n 0, 62, 0, 0, 0, 0) := by decide +kernel
theorem i_X8_rope_62 : fetch 169 62 = some (.getfield 81, 65, 8, 39, 0, 1048) := by decide +kernel
theorem i_X8_rope_65 : fetch 169 65 = some (.iload_n 2, 66, 0, 0, 0, 0) := by decide +kernel
theorem i_X8_rope_66 : fetch 169 66 = some (.iaload, 67, 0, 0, 0, 0) := by decide +kernel
theorem i_X8_rope_67 : fetch 169 67 = some (.ireturn, 68, 0, 0, 0, 0) := by decide +kernel
def f_X8_rope_0 (n : Nat) (v0 : Nat) (v1 : Int32) (v2 : Int32) (v3 : Int32) (h : Hp) : Option (Int32 × Hp) :=
  if okO h v0 8 then
  (f_X8_areSteps v0 v1 h).bind fun o1 =>
  if o1.1 ≠ 0 then
    (f_X8_isCell v2 o1.2).bind fun o4 =>
    if o4.1 = 0 then
      some ((-7), o4.2)
    else
      (f_X8_in v3 0 2 o4.2).bind fun o6 =>
      if o6.1 ≠ 0 then
        if okO o6.2 v0 8 then
        (f_X8_goes n v0 v1 o6.2).bind fun o8 =>
        if v3 ≠ 0 then
          if v3 ≠ 1 then
            if okO o8 v0 8 then
            (gR o8 v0 39).bind fun a13 =>
            if okI o8 a13 v2 then
            some ((gI o8 a13 (ix v2)), o8)
            else none
            else none
          else
            if okO o8 v0 8 then
            (gR o8 v0 38).bind fun a16 =>
            if okI o8 a16 v2 then
            some ((gI o8 a16 (ix v2)), o8)
            else none
            else none
        else
          if okO o8 v0 8 then
          (f_X8_thickOf v0 v2 o8).bind fun o18 =>
          some (o18.1, o18.2)
          else none
        else none
      else
        some ((-7), o6.2)
  else
    some ((-5), o1.2)
  else none
set_option maxRecDepth 100000 in
set_option maxHeartbeats 4000000 in
theorem r_X8_rope_0 {X : Nat → Int32} {d : Nat} (hd : 7 ≤ (d + 1)) {n : Nat} {v0 : Nat} {v1 : Int32} {v2 : Int32} {v3 : Int32} {h : Hp} {o : (Int32 × Hp)} (hf : f_X8_rope_0 n v0 v1 v2 v3 h = some o) : Run X (d + 1) 169 0 [some (.ref v0), some (.int v1), some (.int v2), some (.int v3)] [] h (some (.int o.1), o.2) := by
  unfold f_X8_rope_0 at hf
  refine rs_aload_n i_X8_rope_0 rfl ?_
  refine rs_iload_n i_X8_rope_1 rfl ?_
  obtain ⟨c2, hf⟩ := ite_some hf
  obtain ⟨o1, e1, hf⟩ := bind_some hf
  refine rs_inV i_X8_rope_2 m_X8_areSteps rfl (As := [.int v1]) (rest := []) rfl rfl (Nat.le_of_ble_eq_true rfl) c2 (c_X8_areSteps (by omega) e1) (st' := [.int o1.1]) rfl ?_
  by_cases c3 : o1.1 ≠ 0
  · replace hf := (if_pos c3).symm.trans hf
    refine rs_ifT i_X8_rope_5 (ct_ne c3) (tg := 11) (by decide) ?_
    refine rs_iload_n i_X8_rope_11 rfl ?_
    obtain ⟨o4, e4, hf⟩ := bind_some hf
    refine rs_inS i_X8_rope_12 (by decide) m_X8_isCell rfl (As := [.int v2]) (rest := []) rfl rfl (Nat.le_of_ble_eq_true rfl) (c_X8_isCell (by omega) e4) (st' := [.int o4.1]) rfl ?_
    by_cases c5 : o4.1 = 0
    · replace hf := (if_pos c5).symm.trans hf
      refine rs_ifT i_X8_rope_15 (ct_eq c5) (tg := 27) (by decide) ?_
      refine rs_bipush i_X8_rope_27 (v := (-7)) (by decide) ?_
      have hf := Option.some.inj hf
      subst hf
      exact rs_iret i_X8_rope_29 m_X8_rope rfl
    · replace hf := (if_neg c5).symm.trans hf
      refine rs_ifF i_X8_rope_15 (cf_eq c5) ?_
      refine rs_iload_n i_X8_rope_18 rfl ?_
      refine rs_iconst i_X8_rope_19 (v := 0) (by decide) ?_
      refine rs_iconst i_X8_rope_20 (v := 2) (by decide) ?_
      obtain ⟨o6, e6, hf⟩ := bind_some hf
      refine rs_inS i_X8_rope_21 (by decide) m_X8_in rfl (As := [.int v3, .int 0, .int 2]) (rest := []) rfl rfl (Nat.le_of_ble_eq_true rfl) (c_X8_in (by omega) e6) (st' := [.int o6.1]) rfl ?_
      by_cases c7 : o6.1 ≠ 0
      · replace hf := (if_pos c7).symm.trans hf
        refine rs_ifT i_X8_rope_24 (ct_ne c7) (tg := 30) (by decide) ?_
        refine rs_aload_n i_X8_rope_30 rfl ?_
        refine rs_iload_n i_X8_rope_31 rfl ?_
        obtain ⟨c9, hf⟩ := ite_some hf
        obtain ⟨o8, e8, hf⟩ := bind_some hf
        refine rs_inV i_X8_rope_32 m_X8_goes rfl (As := [.int v1]) (rest := []) rfl rfl (Nat.le_of_ble_eq_true rfl) c9 (c_X8_goes (by omega) e8) (st' := []) rfl ?_
        refine rs_iload_n i_X8_rope_35 rfl ?_
        by_cases c10 : v3 ≠ 0
        · replace hf := (if_pos c10).symm.trans hf
          refine rs_ifT i_X8_rope_36 (ct_ne c10) (tg := 47) (by decide) ?_
          refine rs_iload_n i_X8_rope_47 rfl ?_
          refine rs_iconst i_X8_rope_48 (v := 1) (by decide) ?_
          by_cases c11 : v3 ≠ 1
          · replace hf := (if_pos c11).symm.trans hf
            refine rs_icT i_X8_rope_49 (ct_ne c11) (tg := 61) (by decide) ?_
            refine rs_aload_n i_X8_rope_61 rfl ?_
            obtain ⟨c12, hf⟩ := ite_some hf
            obtain ⟨a13, e13, hf⟩ := bind_some hf
            refine rs_getR i_X8_rope_62 (by decide) (by decide) c12 e13 ?_
            refine rs_iload_n i_X8_rope_65 rfl ?_
            obtain ⟨c14, hf⟩ := ite_some hf
            refine rs_iald i_X8_rope_66 c14 ?_
            have hf := Option.some.inj hf
            subst hf
            exact rs_iret i_X8_rope_67 m_X8_rope rfl
          · replace hf := (if_neg c11).symm.trans hf
            refine rs_icF i_X8_rope_49 (cf_ne c11) ?_
            refine rs_aload_n i_X8_rope_52 rfl ?_
            obtain ⟨c15, hf⟩ := ite_some hf
            obtain ⟨a16, e16, hf⟩ := bind_some hf
            refine rs_getR i_X8_rope_53 (by decide) (by decide) c15 e16 ?_
            refine rs_iload_n i_X8_rope_56 rfl ?_
            obtain ⟨c17, hf⟩ := ite_some hf
            refine rs_iald i_X8_rope_57 c17 ?_
            refine rs_goto i_X8_rope_58 (tg := 67) (by decide) ?_
            have hf := Option.some.inj hf
            subst hf
            exact rs_iret i_X8_rope_67 m_X8_rope rfl
        · replace hf := (if_neg c10).symm.trans hf
          refine rs_ifF i_X8_rope_36 (cf_ne c10) ?_
          refine rs_aload_n i_X8_rope_39 rfl ?_
          refine rs_iload_n i_X8_rope_40 rfl ?_
          obtain ⟨c19, hf⟩ := ite_some hf
          obtain ⟨o18, e18, hf⟩ := bind_some hf
          refine rs_inV i_X8_rope_41 m_X8_thickOf rfl (As := [.int v2]) (rest := []) rfl rfl (Nat.le_of_ble_eq_true rfl) c19 (c_X8_thickOf (by omega) e18) (st' := [.int o18.1]) rfl ?_
          refine rs_goto i_X8_rope_44 (tg := 67) (by decide) ?_
          have hf := Option.some.inj hf
          subst hf
          exact rs_iret i_X8_rope_67 m_X8_rope rfl
      · replace hf := (if_neg c7).symm.trans hf
        refine rs_ifF i_X8_rope_24 (cf_ne c7) ?_
        refine rs_bipush i_X8_rope_27 (v := (-7)) (by decide) ?_
        have hf := Option.some.inj hf
        subst hf
        exact rs_iret i_X8_rope_29 m_X8_rope rfl
  · replace hf := (if_neg c3).symm.trans hf
    refine rs_ifF i_X8_rope_5 (cf_ne c3) ?_
    refine rs_bipush i_X8_rope_8 (v := (-5)) (by decide) ?_
    have hf := Option.some.inj hf
    subst hf
    exact rs_iret i_X8_rope_10 m_X8_rope rfl
def f_X8_rope (n : Nat) (v0 : Nat) (v1 : Int32) (v2 : Int32) (v3 : Int32) (h : Hp) : Option (Int32 × Hp) := f_X8_rope_0 n v0 v1 v2 v3 h
theorem c_X8_rope {X : Nat → Int32} {d : Nat} (hd : 7 ≤ d) {n : Nat} {v0 : Nat} {v1 : Int32} {v2 : Int32} {v3 : Int32} {h : Hp} {o : (Int32 × Hp)} (hf : f_X8_rope n v0 v1 v2 v3 h = some o) : Calls X d 169 [.ref v0, .int v1, .int v2, .int v3] h (some (.int o.1), o.2) := by
  obtain ⟨d, rfl⟩ : ∃ z, d = z + 1 := ⟨d - 1, by omega⟩
  exact ⟨_, rfl, r_X8_rope_0 hd hf⟩
theorem i_X8_least_0 : fetch 170 0 = some (.iconst 0, 1, 0, 0, 0, 0) := by decide +kernel
theorem i_X8_least_1 : fetch 170 1 = some (.istore_n 1, 2, 0, 0, 0, 0) := by decide +kernel
theorem i_X8_least_2 : fetch 170 2 = some (.iconst 1, 3, 0, 0, 0, 0) := by decide +kernel
theorem i_X8_least_3 : fetch 170 3 = some (.istore_n 2, 4, 0, 0, 0, 0) := by decide +kernel
theorem i_X8_least_4 : fetch 170 4 = some (.iload_n 2, 5, 0, 0, 0, 0) := by decide +kernel
theorem i_X8_least_5 : fetch 170 5 = some (.bipush 12, 7, 0, 0, 0, 0) := by decide +kernel
theorem i_X8_least_7 : fetch 170 7 = some (.if_icmp .ge 28, 10, 0, 0, 0, 0) := by decide +kernel
theorem i_X8_least_10 : fetch 170 10 = some (.aload_n 0, 11, 0, 0, 0, 0) := by decide +kernel
theorem i_X8_least_11 : fetch 170 11 = some (.iload_n 2, 12, 0, 0, 0, 0) := by decide +kernel
theorem i_X8_least_12 : fetch 170 12 = some (.invokevirtual 202, 15, 154, 0, 0, 1256) := by decide +kernel
theorem i_X8_least_15 : fetch 170 15 = some (.aload_n 0, 16, 0, 0, 0, 0) := by decide +kernel
theorem i_X8_least_16 : fetch 170 16 = some (.iload_n 1, 17, 0, 0, 0, 0) := by decide +kernel
theorem i_X8_least_17 : fetch 170 17 = some (.invokevirtual 202, 20, 154, 0, 0, 1256) := by decide +kernel
theorem i_X8_least_20 : fetch 170 20 = some (.if_icmp .ge 7, 23, 0, 0, 0, 0) := by decide +kernel
theorem i_X8_least_23 : fetch 170 23 = some (.iload_n 2, 24, 0, 0, 0, 0) := by decide +kernel
theorem i_X8_least_24 : fetch 170 24 = some (.goto 4, 27, 0, 0, 0, 0) := by decide +kernel
theorem i_X8_least_27 : fetch 170 27 = some (.iload_n 1, 28, 0, 0, 0, 0) := by decide +kernel
theorem i_X8_least_28 : fetch 170 28 = some (.istore_n 1, 29, 0, 0, 0, 0) := by decide +kernel
theorem i_X8_least_29 : fetch 170 29 = some (.iinc 2 1, 32, 0, 0, 0, 0) := by decide +kernel
theorem i_X8_least_32 : fetch 170 32 = some (.goto (-28), 35, 0, 0, 0, 0) := by decide +kernel
theorem i_X8_least_35 : fetch 170 35 = some (.iload_n 1, 36, 0, 0, 0, 0) := by decide +kernel
theorem i_X8_least_36 : fetch 170 36 = some (.ireturn, 37, 0, 0, 0, 0) := by decide +kernel
def f_X8_least_28 (n : Nat) (K4 : Nat → Int32 → Int32 → Hp → Option (Int32 × Hp)) (v0 : Nat) (v2 : Int32) (s0 : Int32) (h : Hp) : Option (Int32 × Hp) :=
  K4 v0 s0 (v2 + 1) h
set_option maxRecDepth 100000 in
set_option maxHeartbeats 4000000 in
theorem r_X8_least_28 {X : Nat → Int32} {d : Nat} (hd : 1 ≤ (d + 1)) {n : Nat} {K4 : Nat → Int32 → Int32 → Hp → Option (Int32 × Hp)} (HK4 : ∀ (v0 : Nat) (v1 : Int32) (v2 : Int32) (h : Hp) (o : (Int32 × Hp)), K4 v0 v1 v2 h = some o → Run X (d + 1) 170 4 [some (.ref v0), some (.int v1), some (.int v2)] [] h (some (.int o.1), o.2)) {v0 : Nat} {v2 : Int32} {s0 : Int32} {d1 : Int32} {h : Hp} {o : (Int32 × Hp)} (hf : f_X8_least_28 n K4 v0 v2 s0 h = some o) : Run X (d + 1) 170 28 [some (.ref v0), some (.int d1), some (.int v2)] [.int s0] h (some (.int o.1), o.2) := by
  unfold f_X8_least_28 at hf
  refine rs_istore_n i_X8_least_28 (Nat.le_of_ble_eq_true rfl) (lv' := [some (.ref v0), some (.int s0), some (.int v2)]) rfl ?_
  refine rs_iinc i_X8_least_29 rfl (v := v2 + 1) rfl (Nat.le_of_ble_eq_true rfl) (lv' := [some (.ref v0), some (.int s0), some (.int (v2 + 1))]) rfl ?_
  refine rs_goto i_X8_least_32 (tg := 4) (by decide) ?_
  exact HK4 _ _ _ _ _ hf
def f_X8_least_4 (n : Nat) : Nat → Nat → Int32 → Int32 → Hp → Option (Int32 × Hp)
  | 0, _, _, _, _ => none
  | m + 1, v0, v1, v2, h =>
    if 12 ≤ v2 then
      some (v1, h)
    else
      if okO h v0 8 then
      (f_X8_thickOf v0 v2 h).bind fun o2 =>
      if okO o2.2 v0 8 then
      (f_X8_thickOf v0 v1 o2.2).bind fun o4 =>
      if o4.1 ≤ o2.1 then
        f_X8_least_28 n (f_X8_least_4 n m) v0 v2 v1 o4.2
      else
        f_X8_least_28 n (f_X8_least_4 n m) v0 v2 v2 o4.2
      else none
      else none
set_option maxRecDepth 100000 in
set_option maxHeartbeats 4000000 in
theorem r_X8_least_4 {X : Nat → Int32} {d : Nat} (hd : 1 ≤ (d + 1)) {n : Nat} : ∀ (m : Nat) (v0 : Nat) (v1 : Int32) (v2 : Int32) (h : Hp) (o : (Int32 × Hp)), f_X8_least_4 n m v0 v1 v2 h = some o → Run X (d + 1) 170 4 [some (.ref v0), some (.int v1), some (.int v2)] [] h (some (.int o.1), o.2) := by
  intro m
  induction m with
  | zero => intro v0 v1 v2 h o hf; cases hf
  | succ m ih =>
    intro v0 v1 v2 h o hf
    rw [f_X8_least_4] at hf
    refine rs_iload_n i_X8_least_4 rfl ?_
    refine rs_bipush i_X8_least_5 (v := 12) (by decide) ?_
    by_cases c1 : 12 ≤ v2
    · replace hf := (if_pos c1).symm.trans hf
      refine rs_icT i_X8_least_7 (ct_ge c1) (tg := 35) (by decide) ?_
      refine rs_iload_n i_X8_least_35 rfl ?_
      have hf := Option.some.inj hf
      subst hf
      exact rs_iret i_X8_least_36 m_X8_least rfl
    · replace hf := (if_neg c1).symm.trans hf
      refine rs_icF i_X8_least_7 (cf_ge c1) ?_
      refine rs_aload_n i_X8_least_10 rfl ?_
      refine rs_iload_n i_X8_least_11 rfl ?_
      obtain ⟨c3, hf⟩ := ite_some hf
      obtain ⟨o2, e2, hf⟩ := bind_some hf
      refine rs_inV i_X8_least_12 m_X8_thickOf rfl (As := [.int v2]) (rest := []) rfl rfl (Nat.le_of_ble_eq_true rfl) c3 (c_X8_thickOf (by omega) e2) (st' := [.int o2.1]) rfl ?_
      refine rs_aload_n i_X8_least_15 rfl ?_
      refine rs_iload_n i_X8_least_16 rfl ?_
      obtain ⟨c5, hf⟩ := ite_some hf
      obtain ⟨o4, e4, hf⟩ := bind_some hf
      refine rs_inV i_X8_least_17 m_X8_thickOf rfl (As := [.int v1]) (rest := [.int o2.1]) rfl rfl (Nat.le_of_ble_eq_true rfl) c5 (c_X8_thickOf (by omega) e4) (st' := [.int o4.1, .int o2.1]) rfl ?_
      by_cases c6 : o4.1 ≤ o2.1
      · replace hf := (if_pos c6).symm.trans hf
        refine rs_icT i_X8_least_20 (ct_ge c6) (tg := 27) (by decide) ?_
        refine rs_iload_n i_X8_least_27 rfl ?_
        exact r_X8_least_28 hd ih hf
      · replace hf := (if_neg c6).symm.trans hf
        refine rs_icF i_X8_least_20 (cf_ge c6) ?_
        refine rs_iload_n i_X8_least_23 rfl ?_
        refine rs_goto i_X8_least_24 (tg := 28) (by decide) ?_
        exact r_X8_least_28 hd ih hf
def f_X8_least_0 (n : Nat) (v0 : Nat) (h : Hp) : Option (Int32 × Hp) :=
  f_X8_least_4 n n v0 0 1 h
set_option maxRecDepth 100000 in
set_option maxHeartbeats 4000000 in
theorem r_X8_least_0 {X : Nat → Int32} {d : Nat} (hd : 1 ≤ (d + 1)) {n : Nat} {v0 : Nat} {h : Hp} {o : (Int32 × Hp)} (hf : f_X8_least_0 n v0 h = some o) : Run X (d + 1) 170 0 [some (.ref v0), none, none] [] h (some (.int o.1), o.2) := by
  unfold f_X8_least_0 at hf
  refine rs_iconst i_X8_least_0 (v := 0) (by decide) ?_
  refine rs_istore_n i_X8_least_1 (Nat.le_of_ble_eq_true rfl) (lv' := [some (.ref v0), some (.int 0), none]) rfl ?_
  refine rs_iconst i_X8_least_2 (v := 1) (by decide) ?_
  refine rs_istore_n i_X8_least_3 (Nat.le_of_ble_eq_true rfl) (lv' := [some (.ref v0), some (.int 0), some (.int 1)]) rfl ?_
  exact r_X8_least_4 hd _ _ _ _ _ _ hf
def f_X8_least (n : Nat) (v0 : Nat) (h : Hp) : Option (Int32 × Hp) := f_X8_least_0 n v0 h
theorem c_X8_least {X : Nat → Int32} {d : Nat} (hd : 1 ≤ d) {n : Nat} {v0 : Nat} {h : Hp} {o : (Int32 × Hp)} (hf : f_X8_least n v0 h = some o) : Calls X d 170 [.ref v0] h (some (.int o.1), o.2) := by
  obtain ⟨d, rfl⟩ : ∃ z, d = z + 1 := ⟨d - 1, by omega⟩
  exact ⟨_, rfl, r_X8_least_0 hd hf⟩
theorem i_X8_greatest_0 : fetch 171 0 = some (.iconst 0, 1, 0, 0, 0, 0) := by decide +kernel
theorem i_X8_greatest_1 : fetch 171 1 = some (.istore_n 1, 2, 0, 0, 0, 0) := by decide +kernel
theorem i_X8_greatest_2 : fetch 171 2 = some (.iconst 1, 3, 0, 0, 0, 0) := by decide +kernel
theorem i_X8_greatest_3 : fetch 171 3 = some (.istore_n 2, 4, 0, 0, 0, 0) := by decide +kernel
theorem i_X8_greatest_4 : fetch 171 4 = some (.iload_n 2, 5, 0, 0, 0, 0) := by decide +kernel
theorem i_X8_greatest_5 : fetch 171 5 = some (.bipush 12, 7, 0, 0, 0, 0) := by decide +kernel
theorem i_X8_greatest_7 : fetch 171 7 = some (.if_icmp .ge 28, 10, 0, 0, 0, 0) := by decide +kernel
theorem i_X8_greatest_10 : fetch 171 10 = some (.aload_n 0, 11, 0, 0, 0, 0) := by decide +kernel
theorem i_X8_greatest_11 : fetch 171 11 = some (.iload_n 2, 12, 0, 0, 0, 0) := by decide +kernel
theorem i_X8_greatest_12 : fetch 171 12 = some (.invokevirtual 202, 15, 154, 0, 0, 1256) := by decide +kernel
theorem i_X8_greatest_15 : fetch 171 15 = some (.aload_n 0, 16, 0, 0, 0, 0) := by decide +kernel
theorem i_X8_greatest_16 : fetch 171 16 = some (.iload_n 1, 17, 0, 0, 0, 0) := by decide +kernel
theorem i_X8_greatest_17 : fetch 171 17 = some (.invokevirtual 202, 20, 154, 0, 0, 1256) := by decide +kernel
theorem i_X8_greatest_20 : fetch 171 20 = some (.if_icmp .le 7, 23, 0, 0, 0, 0) := by decide +kernel
theorem i_X8_greatest_23 : fetch 171 23 = some (.iload_n 2, 24, 0, 0, 0, 0) := by decide +kernel
theorem i_X8_greatest_24 : fetch 171 24 = some (.goto 4, 27, 0, 0, 0, 0) := by decide +kernel
theorem i_X8_greatest_27 : fetch 171 27 = some (.iload_n 1, 28, 0, 0, 0, 0) := by decide +kernel
theorem i_X8_greatest_28 : fetch 171 28 = some (.istore_n 1, 29, 0, 0, 0, 0) := by decide +kernel
theorem i_X8_greatest_29 : fetch 171 29 = some (.iinc 2 1, 32, 0, 0, 0, 0) := by decide +kernel
theorem i_X8_greatest_32 : fetch 171 32 = some (.goto (-28), 35, 0, 0, 0, 0) := by decide +kernel
theorem i_X8_greatest_35 : fetch 171 35 = some (.iload_n 1, 36, 0, 0, 0, 0) := by decide +kernel
theorem i_X8_greatest_36 : fetch 171 36 = some (.ireturn, 37, 0, 0, 0, 0) := by decide +kernel
def f_X8_greatest_28 (n : Nat) (K4 : Nat → Int32 → Int32 → Hp → Option (Int32 × Hp)) (v0 : Nat) (v2 : Int32) (s0 : Int32) (h : Hp) : Option (Int32 × Hp) :=
  K4 v0 s0 (v2 + 1) h
set_option maxRecDepth 100000 in
set_option maxHeartbeats 4000000 in
theorem r_X8_greatest_28 {X : Nat → Int32} {d : Nat} (hd : 1 ≤ (d + 1)) {n : Nat} {K4 : Nat → Int32 → Int32 → Hp → Option (Int32 × Hp)} (HK4 : ∀ (v0 : Nat) (v1 : Int32) (v2 : Int32) (h : Hp) (o : (Int32 × Hp)), K4 v0 v1 v2 h = some o → Run X (d + 1) 171 4 [some (.ref v0), some (.int v1), some (.int v2)] [] h (some (.int o.1), o.2)) {v0 : Nat} {v2 : Int32} {s0 : Int32} {d1 : Int32} {h : Hp} {o : (Int32 × Hp)} (hf : f_X8_greatest_28 n K4 v0 v2 s0 h = some o) : Run X (d + 1) 171 28 [some (.ref v0), some (.int d1), some (.int v2)] [.int s0] h (some (.int o.1), o.2) := by
  unfold f_X8_greatest_28 at hf
  refine rs_istore_n i_X8_greatest_28 (Nat.le_of_ble_eq_true rfl) (lv' := [some (.ref v0), some (.int s0), some (.int v2)]) rfl ?_
  refine rs_iinc i_X8_greatest_29 rfl (v := v2 + 1) rfl (Nat.le_of_ble_eq_true rfl) (lv' := [some (.ref v0), some (.int s0), some (.int (v2 + 1))]) rfl ?_
  refine rs_goto i_X8_greatest_32 (tg := 4) (by decide) ?_
  exact HK4 _ _ _ _ _ hf
def f_X8_greatest_4 (n : Nat) : Nat → Nat → Int32 → Int32 → Hp → Option (Int32 × Hp)
  | 0, _, _, _, _ => none
  | m + 1, v0, v1, v2, h =>
    if 12 ≤ v2 then
      some (v1, h)
    else
      if okO h v0 8 then
      (f_X8_thickOf v0 v2 h).bind fun o2 =>
      if okO o2.2 v0 8 then
      (f_X8_thickOf v0 v1 o2.2).bind fun o4 =>
      if o2.1 ≤ o4.1 then
        f_X8_greatest_28 n (f_X8_greatest_4 n m) v0 v2 v1 o4.2
      else
        f_X8_greatest_28 n (f_X8_greatest_4 n m) v0 v2 v2 o4.2
      else none
      else none
set_option maxRecDepth 100000 in
set_option maxHeartbeats 4000000 in
theorem r_X8_greatest_4 {X : Nat → Int32} {d : Nat} (hd : 1 ≤ (d + 1)) {n : Nat} : ∀ (m : Nat) (v0 : Nat) (v1 : Int32) (v2 : Int32) (h : Hp) (o : (Int32 × Hp)), f_X8_greatest_4 n m v0 v1 v2 h = some o → Run X (d + 1) 171 4 [some (.ref v0), some (.int v1), some (.int v2)] [] h (some (.int o.1), o.2) := by
  intro m
  induction m with
  | zero => intro v0 v1 v2 h o hf; cases hf
  | succ m ih =>
    intro v0 v1 v2 h o hf
    rw [f_X8_greatest_4] at hf
    refine rs_iload_n i_X8_greatest_4 rfl ?_
    refine rs_bipush i_X8_greatest_5 (v := 12) (by decide) ?_
    by_cases c1 : 12 ≤ v2
    · replace hf := (if_pos c1).symm.trans hf
      refine rs_icT i_X8_greatest_7 (ct_ge c1) (tg := 35) (by decide) ?_
      refine rs_iload_n i_X8_greatest_35 rfl ?_
      have hf := Option.some.inj hf
      subst hf
      exact rs_iret i_X8_greatest_36 m_X8_greatest rfl
    · replace hf := (if_neg c1).symm.trans hf
      refine rs_icF i_X8_greatest_7 (cf_ge c1) ?_
      refine rs_aload_n i_X8_greatest_10 rfl ?_
      refine rs_iload_n i_X8_greatest_11 rfl ?_
      obtain ⟨c3, hf⟩ := ite_some hf
      obtain ⟨o2, e2, hf⟩ := bind_some hf
      refine rs_inV i_X8_greatest_12 m_X8_thickOf rfl (As := [.int v2]) (rest := []) rfl rfl (Nat.le_of_ble_eq_true rfl) c3 (c_X8_thickOf (by omega) e2) (st' := [.int o2.1]) rfl ?_
      refine rs_aload_n i_X8_greatest_15 rfl ?_
      refine rs_iload_n i_X8_greatest_16 rfl ?_
      obtain ⟨c5, hf⟩ := ite_some hf
      obtain ⟨o4, e4, hf⟩ := bind_some hf
      refine rs_inV i_X8_greatest_17 m_X8_thickOf rfl (As := [.int v1]) (rest := [.int o2.1]) rfl rfl (Nat.le_of_ble_eq_true rfl) c5 (c_X8_thickOf (by omega) e4) (st' := [.int o4.1, .int o2.1]) rfl ?_
      by_cases c6 : o2.1 ≤ o4.1
      · replace hf := (if_pos c6).symm.trans hf
        refine rs_icT i_X8_greatest_20 (ct_le c6) (tg := 27) (by decide) ?_
        refine rs_iload_n i_X8_greatest_27 rfl ?_
        exact r_X8_greatest_28 hd ih hf
      · replace hf := (if_neg c6).symm.trans hf
        refine rs_icF i_X8_greatest_20 (cf_le c6) ?_
        refine rs_iload_n i_X8_greatest_23 rfl ?_
        refine rs_goto i_X8_greatest_24 (tg := 28) (by decide) ?_
        exact r_X8_greatest_28 hd ih hf
def f_X8_greatest_0 (n : Nat) (v0 : Nat) (h : Hp) : Option (Int32 × Hp) :=
  f_X8_greatest_4 n n v0 0 1 h
set_option maxRecDepth 100000 in
set_option maxHeartbeats 4000000 in
theorem r_X8_greatest_0 {X : Nat → Int32} {d : Nat} (hd : 1 ≤ (d + 1)) {n : Nat} {v0 : Nat} {h : Hp} {o : (Int32 × Hp)} (hf : f_X8_greatest_0 n v0 h = some o) : Run X (d + 1) 171 0 [some (.ref v0), none, none] [] h (some (.int o.1), o.2) := by
  unfold f_X8_greatest_0 at hf
  refine rs_iconst i_X8_greatest_0 (v := 0) (by decide) ?_
  refine rs_istore_n i_X8_greatest_1 (Nat.le_of_ble_eq_true rfl) (lv' := [some (.ref v0), some (.int 0), none]) rfl ?_
  refine rs_iconst i_X8_greatest_2 (v := 1) (by decide) ?_
  refine rs_istore_n i_X8_greatest_3 (Nat.le_of_ble_eq_true rfl) (lv' := [some (.ref v0), some (.int 0), some (.int 1)]) rfl ?_
  exact r_X8_greatest_4 hd _ _ _ _ _ _ hf
def f_X8_greatest (n : Nat) (v0 : Nat) (h : Hp) : Option (Int32 × Hp) := f_X8_greatest_0 n v0 h
theorem c_X8_greatest {X : Nat → Int32} {d : Nat} (hd : 1 ≤ d) {n : Nat} {v0 : Nat} {h : Hp} {o : (Int32 × Hp)} (hf : f_X8_greatest n v0 h = some o) : Calls X d 171 [.ref v0] h (some (.int o.1), o.2) := by
  obtain ⟨d, rfl⟩ : ∃ z, d = z + 1 := ⟨d - 1, by omega⟩
  exact ⟨_, rfl, r_X8_greatest_0 hd hf⟩
theorem i_X8_spread_0 : fetch 172 0 = some (.aload_n 0, 1, 0, 0, 0, 0) := by decide +kernel
theorem i_X8_spread_1 : fetch 172 1 = some (.aload_n 0, 2, 0, 0, 0, 0) := by decide +kernel
theorem i_X8_spread_2 : fetch 172 2 = some (.invokevirtual 292, 5, 171, 0, 0, 1314) := by decide +kernel
theorem i_X8_spread_5 : fetch 172 5 = some (.invokevirtual 202, 8, 154, 0, 0, 1256) := by decide +kernel
theorem i_X8_spread_8 : fetch 172 8 = some (.aload_n 0, 9, 0, 0, 0, 0) := by decide +kernel
theorem i_X8_spread_9 : fetch 172 9 = some (.aload_n 0, 10, 0, 0, 0, 0) := by decide +kernel
theorem i_X8_spread_10 : fetch 172 10 = some (.invokevirtual 295, 13, 170, 0, 0, 1310) := by decide +kernel
theorem i_X8_spread_13 : fetch 172 13 = some (.invokevirtual 202, 16, 154, 0, 0, 1256) := by decide +kernel
theorem i_X8_spread_16 : fetch 172 16 = some (.isub, 17, 0, 0, 0, 0) := by decide +kernel
theorem i_X8_spread_17 : fetch 172 17 = some (.ireturn, 18, 0, 0, 0, 0) := by decide +kernel
def f_X8_spread_0 (n : Nat) (v0 : Nat) (h : Hp) : Option (Int32 × Hp) :=
  if okO h v0 8 then
  (f_X8_greatest n v0 h).bind fun o1 =>
  if okO o1.2 v0 8 then
  (f_X8_thickOf v0 o1.1 o1.2).bind fun o3 =>
  if okO o3.2 v0 8 then
  (f_X8_least n v0 o3.2).bind fun o5 =>
  if okO o5.2 v0 8 then
  (f_X8_thickOf v0 o5.1 o5.2).bind fun o7 =>
  some ((o3.1 - o7.1), o7.2)
  else none
  else none
  else none
  else none
set_option maxRecDepth 100000 in
set_option maxHeartbeats 4000000 in
theorem r_X8_spread_0 {X : Nat → Int32} {d : Nat} (hd : 2 ≤ (d + 1)) {n : Nat} {v0 : Nat} {h : Hp} {o : (Int32 × Hp)} (hf : f_X8_spread_0 n v0 h = some o) : Run X (d + 1) 172 0 [some (.ref v0)] [] h (some (.int o.1), o.2) := by
  unfold f_X8_spread_0 at hf
  refine rs_aload_n i_X8_spread_0 rfl ?_
  refine rs_aload_n i_X8_spread_1 rfl ?_
  obtain ⟨c2, hf⟩ := ite_some hf
  obtain ⟨o1, e1, hf⟩ := bind_some hf
  refine rs_inV i_X8_spread_2 m_X8_greatest rfl (As := []) (rest := [.ref v0]) rfl rfl (Nat.le_of_ble_eq_true rfl) c2 (c_X8_greatest (by omega) e1) (st' := [.int o1.1, .ref v0]) rfl ?_
  obtain ⟨c4, hf⟩ := ite_some hf
  obtain ⟨o3, e3, hf⟩ := bind_some hf
  refine rs_inV i_X8_spread_5 m_X8_thickOf rfl (As := [.int o1.1]) (rest := []) rfl rfl (Nat.le_of_ble_eq_true rfl) c4 (c_X8_thickOf (by omega) e3) (st' := [.int o3.1]) rfl ?_
  refine rs_aload_n i_X8_spread_8 rfl ?_
  refine rs_aload_n i_X8_spread_9 rfl ?_
  obtain ⟨c6, hf⟩ := ite_some hf
  obtain ⟨o5, e5, hf⟩ := bind_some hf
  refine rs_inV i_X8_spread_10 m_X8_least rfl (As := []) (rest := [.ref v0, .int o3.1]) rfl rfl (Nat.le_of_ble_eq_true rfl) c6 (c_X8_least (by omega) e5) (st' := [.int o5.1, .ref v0, .int o3.1]) rfl ?_
  obtain ⟨c8, hf⟩ := ite_some hf
  obtain ⟨o7, e7, hf⟩ := bind_some hf
  refine rs_inV i_X8_spread_13 m_X8_thickOf rfl (As := [.int o5.1]) (rest := [.int o3.1]) rfl rfl (Nat.le_of_ble_eq_true rfl) c8 (c_X8_thickOf (by omega) e7) (st' := [.int o7.1, .int o3.1]) rfl ?_
  refine rs_isub i_X8_spread_16 ?_
  have hf := Option.some.inj hf
  subst hf
  exact rs_iret i_X8_spread_17 m_X8_spread rfl
def f_X8_spread (n : Nat) (v0 : Nat) (h : Hp) : Option (Int32 × Hp) := f_X8_spread_0 n v0 h
theorem c_X8_spread {X : Nat → Int32} {d : Nat} (hd : 2 ≤ d) {n : Nat} {v0 : Nat} {h : Hp} {o : (Int32 × Hp)} (hf : f_X8_spread n v0 h = some o) : Calls X d 172 [.ref v0] h (some (.int o.1), o.2) := by
  obtain ⟨d, rfl⟩ : ∃ z, d = z + 1 := ⟨d - 1, by omega⟩
  exact ⟨_, rfl, r_X8_spread_0 hd hf⟩
theorem i_X8_doubled_0 : fetch 173 0 = some (.aload_n 0, 1, 0, 0, 0, 0) := by decide +kernel
theorem i_X8_doubled_1 : fetch 173 1 = some (.invokevirtual 254, 4, 156, 0, 0, 1244) := by decide +kernel
theorem i_X8_doubled_4 : fetch 173 4 = some (.i2l, 5, 0, 0, 0, 0) := by decide +kernel
theorem i_X8_doubled_5 : fetch 173 5 = some (.lstore_n 1, 6, 0, 0, 0, 0) := by decide +kernel
theorem i_X8_doubled_6 : fetch 173 6 = some (.iconst 0, 7, 0, 0, 0, 0) := by decide +kernel
theorem i_X8_doubled_7 : fetch 173 7 = some (.istore_n 3, 8, 0, 0, 0, 0) := by decide +kernel
theorem i_X8_doubled_8 : fetch 173 8 = some (.iload_n 3, 9, 0, 0, 0, 0) := by decide +kernel
theorem i_X8_doubled_9 : fetch 173 9 = some (.aload_n 0, 10, 0, 0, 0, 0) := by decide +kernel
theorem i_X8_doubled_10 : fetch 173 10 = some (.getfield 205, 13, 8, 40, 0, 1049) := by decide +kernel
theorem i_X8_doubled_13 : fetch 173 13 = some (.if_icmp .ge 15, 16, 0, 0, 0, 0) := by decide +kernel
theorem i_X8_doubled_16 : fetch 173 16 = some (.lload_n 1, 17, 0, 0, 0, 0) := by decide +kernel
theorem i_X8_doubled_17 : fetch 173 17 = some (.ldc2_w 298, 20, 0, 0, 2, 1326) := by decide +kernel
theorem i_X8_doubled_20 : fetch 173 20 = some (.lmul, 21, 0, 0, 0, 0) := by decide +kernel
theorem i_X8_doubled_21 : fetch 173 21 = some (.lstore_n 1, 22, 0, 0, 0, 0) := by decide +kernel
theorem i_X8_doubled_22 : fetch 173 22 = some (.iinc 3 1, 25, 0, 0, 0, 0) := by decide +kernel
theorem i_X8_doubled_25 : fetch 173 25 = some (.goto (-17), 28, 0, 0, 0, 0) := by decide +kernel
theorem i_X8_doubled_28 : fetch 173 28 = some (.lload_n 1, 29, 0, 0, 0, 0) := by decide +kernel
theorem i_X8_doubled_29 : fetch 173 29 = some (.lreturn, 30, 0, 0, 0, 0) := by decide +kernel
def f_X8_doubled_8 (n : Nat) : Nat → Nat → Int64 → Int32 → Hp → Option (Int64 × Hp)
  | 0, _, _, _, _ => none
  | m + 1, v0, v1, v3, h =>
    if okO h v0 8 then
    if (gI h v0 40) ≤ v3 then
      some (v1, h)
    else
      (f_X8_doubled_8 n m) v0 (v1 * 2) (v3 + 1) h
    else none
set_option maxRecDepth 100000 in
set_option maxHeartbeats 4000000 in
theorem r_X8_doubled_8 {X : Nat → Int32} {d : Nat} (hd : 1 ≤ (d + 1)) {n : Nat} : ∀ (m : Nat) (v0 : Nat) (v1 : Int64) (v3 : Int32) (h : Hp) (o : (Int64 × Hp)), f_X8_doubled_8 n m v0 v1 v3 h = some o → Run X (d + 1) 173 8 [some (.ref v0), some (.long v1), none, some (.int v3)] [] h (some (.long o.1), o.2) := by
  intro m
  induction m with
  | zero => intro v0 v1 v3 h o hf; cases hf
  | succ m ih =>
    intro v0 v1 v3 h o hf
    rw [f_X8_doubled_8] at hf
    refine rs_iload_n i_X8_doubled_8 rfl ?_
    refine rs_aload_n i_X8_doubled_9 rfl ?_
    obtain ⟨c1, hf⟩ := ite_some hf
    refine rs_getI i_X8_doubled_10 (by decide) (by decide) c1 ?_
    by_cases c2 : (gI h v0 40) ≤ v3
    · replace hf := (if_pos c2).symm.trans hf
      refine rs_icT i_X8_doubled_13 (ct_ge c2) (tg := 28) (by decide) ?_
      refine rs_lload_n i_X8_doubled_28 rfl ?_
      have hf := Option.some.inj hf
      subst hf
      exact rs_lret i_X8_doubled_29 m_X8_doubled rfl
    · replace hf := (if_neg c2).symm.trans hf
      refine rs_icF i_X8_doubled_13 (cf_ge c2) ?_
      refine rs_lload_n i_X8_doubled_16 rfl ?_
      refine rs_ldc2 i_X8_doubled_17 (v := 2) (by decide) ?_
      refine rs_lmul i_X8_doubled_20 ?_
      refine rs_lstore_n i_X8_doubled_21 (Nat.le_of_ble_eq_true rfl) (lv' := [some (.ref v0), some (.long (v1 * 2)), none, some (.int v3)]) rfl ?_
      refine rs_iinc i_X8_doubled_22 rfl (v := v3 + 1) rfl (Nat.le_of_ble_eq_true rfl) (lv' := [some (.ref v0), some (.long (v1 * 2)), none, some (.int (v3 + 1))]) rfl ?_
      refine rs_goto i_X8_doubled_25 (tg := 8) (by decide) ?_
      exact ih _ _ _ _ _ hf
def f_X8_doubled_0 (n : Nat) (v0 : Nat) (h : Hp) : Option (Int64 × Hp) :=
  if okO h v0 8 then
  (f_X8_allLength n v0 h).bind fun o1 =>
  f_X8_doubled_8 n n v0 (Int32.toInt64 o1.1) 0 o1.2
  else none
set_option maxRecDepth 100000 in
set_option maxHeartbeats 4000000 in
theorem r_X8_doubled_0 {X : Nat → Int32} {d : Nat} (hd : 1 ≤ (d + 1)) {n : Nat} {v0 : Nat} {h : Hp} {o : (Int64 × Hp)} (hf : f_X8_doubled_0 n v0 h = some o) : Run X (d + 1) 173 0 [some (.ref v0), none, none, none] [] h (some (.long o.1), o.2) := by
  unfold f_X8_doubled_0 at hf
  refine rs_aload_n i_X8_doubled_0 rfl ?_
  obtain ⟨c2, hf⟩ := ite_some hf
  obtain ⟨o1, e1, hf⟩ := bind_some hf
  refine rs_inV i_X8_doubled_1 m_X8_allLength rfl (As := []) (rest := []) rfl rfl (Nat.le_of_ble_eq_true rfl) c2 (c_X8_allLength (by omega) e1) (st' := [.int o1.1]) rfl ?_
  refine rs_i2l i_X8_doubled_4 ?_
  refine rs_lstore_n i_X8_doubled_5 (Nat.le_of_ble_eq_true rfl) (lv' := [some (.ref v0), some (.long (Int32.toInt64 o1.1)), none, none]) rfl ?_
  refine rs_iconst i_X8_doubled_6 (v := 0) (by decide) ?_
  refine rs_istore_n i_X8_doubled_7 (Nat.le_of_ble_eq_true rfl) (lv' := [some (.ref v0), some (.long (Int32.toInt64 o1.1)), none, some (.int 0)]) rfl ?_
  exact r_X8_doubled_8 hd _ _ _ _ _ _ hf
def f_X8_doubled (n : Nat) (v0 : Nat) (h : Hp) : Option (Int64 × Hp) := f_X8_doubled_0 n v0 h
theorem c_X8_doubled {X : Nat → Int32} {d : Nat} (hd : 1 ≤ d) {n : Nat} {v0 : Nat} {h : Hp} {o : (Int64 × Hp)} (hf : f_X8_doubled n v0 h = some o) : Calls X d 173 [.ref v0] h (some (.long o.1), o.2) := by
  obtain ⟨d, rfl⟩ : ∃ z, d = z + 1 := ⟨d - 1, by omega⟩
  exact ⟨_, rfl, r_X8_doubled_0 hd hf⟩
theorem i_X8_state_0 : fetch 174 0 = some (.aload_n 0, 1, 0, 0, 0, 0) := by decide +kernel
theorem i_X8_state_1 : fetch 174 1 = some (.iload_n 1, 2, 0, 0, 0, 0) := by decide +kernel
theorem i_X8_state_2 : fetch 174 2 = some (.invokevirtual 286, 5, 128, 0, 0, 1223) := by decide +kernel
theorem i_X8_state_5 : fetch 174 5 = some (.ifCond .ne 7, 8, 0, 0, 0, 0) := by decide +kernel
theorem i_X8_state_8 : fetch 174 8 = some (.ldc2_w 300, 11, 0, 0, (-5), 1308) := by decide +kernel
theorem i_X8_state_11 : fetch 174 11 = some (.lreturn, 12, 0, 0, 0, 0) := by decide +kernel
theorem i_X8_state_12 : fetch 174 12 = some (.iload_n 2, 13, 0, 0, 0, 0) := by decide +kernel
theorem i_X8_state_13 : fetch 174 13 = some (.iconst 0, 14, 0, 0, 0, 0) := by decide +kernel
theorem i_X8_state_14 : fetch 174 14 = some (.bipush 7, 16, 0, 0, 0, 0) := by decide +kernel
theorem i_X8_state_16 : fetch 174 16 = some (.invokestatic 112, 19, 126, 0, 0, 970) := by decide +kernel
theorem i_X8_state_19 : fetch 174 19 = some (.ifCond .ne 7, 22, 0, 0, 0, 0) := by decide +kernel
theorem i_X8_state_22 : fetch 174 22 = some (.ldc2_w 302, 25, 0, 0, (-7), 1309) := by decide +kernel
theorem i_X8_state_25 : fetch 174 25 = some (.lreturn, 26, 0, 0, 0, 0) := by decide +kernel
theorem i_X8_state_26 : fetch 174 26 = some (.aload_n 0, 27, 0, 0, 0, 0) := by decide +kernel
theorem i_X8_state_27 : fetch 174 27 = some (.iload_n 1, 28, 0, 0, 0, 0) := by decide +kernel
theorem i_X8_state_28 : fetch 174 28 = some (.invokevirtual 289, 31, 168, 0, 0, 1227) := by decide +kernel
theorem i_X8_state_31 : fetch 174 31 = some (.iconst 0, 32, 0, 0, 0, 0) := by decide +kernel
theorem i_X8_state_32 : fetch 174 32 = some (.istore_n 3, 33, 0, 0, 0, 0) := by decide +kernel
theorem i_X8_state_33 : fetch 174 33 = some (.iconst 0, 34, 0, 0, 0, 0) := by decide +kernel
theorem i_X8_state_34 : fetch 174 34 = some (.istore 4, 36, 0, 0, 0, 0) := by decide +kernel
theorem i_X8_state_36 : fetch 174 36 = some (.iload 4, 38, 0, 0, 0, 0) := by decide +kernel
theorem i_X8_state_38 : fetch 174 38 = some (.iload_n 1, 39, 0, 0, 0, 0) := by decide +kernel
theorem i_X8_state_39 : fetch 174 39 = some (.if_icmp .ge 18, 42, 0, 0, 0, 0) := by decide +kernel
theorem i_X8_state_42 : fetch 174 42 = some (.iload_n 3, 43, 0, 0, 0, 0) := by decide +kernel
theorem i_X8_state_43 : fetch 174 43 = some (.aload_n 0, 44, 0, 0, 0, 0) := by decide +kernel
theorem i_X8_state_44 : fetch 174 44 = some (.iload 4, 46, 0, 0, 0, 0) := by decide +kernel
theorem i_X8_state_46 : fetch 174 46 = some (.invokevirtual 199, 49, 152, 0, 0, 1215) := by decide +kernel
theorem i_X8_state_49 : fetch 174 49 = some (.iadd, 50, 0, 0, 0, 0) := by decide +kernel
theorem i_X8_state_50 : fetch 174 50 = some (.istore_n 3, 51, 0, 0, 0, 0) := by decide +kernel
theorem i_X8_state_51 : fetch 174 51 = some (.iinc 4 1, 54, 0, 0, 0, 0) := by decide +kernel
theorem i_X8_state_54 : fetch 174 54 = some (.goto (-18), 57, 0, 0, 0, 0) := by decide +kernel
theorem i_X8_state_57 : fetch 174 57 = some (.iload_n 2, 58, 0, 0, 0, 0) := by decide +kernel
theorem i_X8_state_58 : fetch 174 58 = some (.tableswitch 83 0 6 #[42, 48, 54, 60, 66, 71, 77], 100, 0, 0, 0, 0) := by decide +kernel
theorem i_X8_state_100 : fetch 174 100 = some (.aload_n 0, 101, 0, 0, 0, 0) := by decide +kernel
theorem i_X8_state_101 : fetch 174 101 = some (.invokevirtual 295, 104, 170, 0, 0, 1310) := by decide +kernel
theorem i_X8_state_104 : fetch 174 104 = some (.i2l, 105, 0, 0, 0, 0) := by decide +kernel
theorem i_X8_state_105 : fetch 174 105 = some (.lreturn, 106, 0, 0, 0, 0) := by decide +kernel
theorem i_X8_state_106 : fetch 174 106 = some (.aload_n 0, 107, 0, 0, 0, 0) := by decide +kernel
theorem i_X8_state_107 : fetch 174 107 = some (.invokevirtual 292, 110, 171, 0, 0, 1314) := by decide +kernel
theorem i_X8_state_110 : fetch 174 110 = some (.i2l, 111, 0, 0, 0, 0) := by decide +kernel
theorem i_X8_state_111 : fetch 174 111 = some (.lreturn, 112, 0, 0, 0, 0) := by decide +kernel
theorem i_X8_state_112 : fetch 174 112 = some (.aload_n 0, 113, 0, 0, 0, 0) := by decide +kernel
theorem i_X8_state_113 : fetch 174 113 = some (.invokevirtual 304, 116, 172, 0, 0, 1318) := by decide +kernel
theorem i_X8_state_116 : fetch 174 116 = some (.i2l, 117, 0, 0, 0, 0) := by decide +kernel
theorem i_X8_state_117 : fetch 174 117 = some (.lreturn, 118, 0, 0, 0, 0) := by decide +kernel
theorem i_X8_state_118 : fetch 174 118 = some (.aload_n 0, 119, 0, 0, 0, 0) := by decide +kernel
theorem i_X8_state_119 : fetch 174 119 = some (.getfield 205, 122, 8, 40, 0, 1049) := by decide +kernel
theorem i_X8_state_122 : fetch 174 122 = some (.i2l, 123, 0, 0, 0, 0) := by decide +kernel
theorem i_X8_state_123 : fetch 174 123 = some (.lreturn, 124, 0, 0, 0, 0) := by decide +kernel
theorem i_X8_state_124 : fetch 174 124 = some (.aload_n 0, 125, 0, 0, 0, 0) := by decide +kernel
theorem i_X8_state_125 : fetch 174 125 = some (.invokevirtual 307, 128, 173, 0, 0, 1322) := by decide +kernel
theorem i_X8_state_128 : fetch 174 128 = some (.lreturn, 129, 0, 0, 0, 0) := by decide +kernel
theorem i_X8_state_129 : fetch 174 129 = some (.aload_n 0, 130, 0, 0, 0, 0) := by decide +kernel
theorem i_X8_state_130 : fetch 174 130 = some (.getfield 208, 133, 8, 41, 0, 1050) := by decide +kernel
theorem i_X8_state_133 : fetch 174 133 = some (.i2l, 134, 0, 0, 0, 0) := by decide +kernel
theorem i_X8_state_134 : fetch 174 134 = some (.lreturn, 135, 0, 0, 0, 0) := by decide +kernel
theorem i_X8_state_135 : fetch 174 135 = some (.aload_n 0, 136, 0, 0, 0, 0) := by decide +kernel
theorem i_X8_state_136 : fetch 174 136 = some (.getfield 251, 139, 8, 42, 0, 1051) := by decide +kernel
theorem i_X8_state_139 : fetch 174 139 = some (.i2l, 140, 0, 0, 0, 0) := by decide +kernel
theorem i_X8_state_140 : fetch 174 140 = some (.lreturn, 141, 0, 0, 0, 0) := by decide +kernel
theorem i_X8_state_141 : fetch 174 141 = some (.iload_n 3, 142, 0, 0, 0, 0) := by decide +kernel
theorem i_X8_state_142 : fetch 174 142 = some (.i2l, 143, 0, 0, 0, 0) := by decide +kernel
theorem i_X8_state_143 : fetch 174 143 = some (.lreturn, 144, 0, 0, 0, 0) := by decide +kernel
def f_X8_state_36 (n : Nat) : Nat → Nat → Int32 → Int32 → Int32 → Int32 → Hp → Option (Int64 × Hp)
  | 0, _, _, _, _, _, _ => none
  | m + 1, v0, v1, v2, v3, v4, h =>
    if v1 ≤ v4 then
      if v2 = 0 then
        if okO h v0 8 then
        (f_X8_least n v0 h).bind fun o18 =>
        some ((Int32.toInt64 o18.1), o18.2)
        else none
      else
        if v2 = 1 then
          if okO h v0 8 then
          (f_X8_greatest n v0 h).bind fun o16 =>
          some ((Int32.toInt64 o16.1), o16.2)
          else none
        else
          if v2 = 2 then
            if okO h v0 8 then
            (f_X8_spread n v0 h).bind fun o14 =>
            some ((Int32.toInt64 o14.1), o14.2)
            else none
          else
            if v2 = 3 then
              if okO h v0 8 then
              some ((Int32.toInt64 (gI h v0 40)), h)
              else none
            else
              if v2 = 4 then
                if okO h v0 8 then
                (f_X8_doubled n v0 h).bind fun o11 =>
                some (o11.1, o11.2)
                else none
              else
                if v2 = 5 then
                  if okO h v0 8 then
                  some ((Int32.toInt64 (gI h v0 41)), h)
                  else none
                else
                  if v2 = 6 then
                    if okO h v0 8 then
                    some ((Int32.toInt64 (gI h v0 42)), h)
                    else none
                  else
                    some ((Int32.toInt64 v3), h)
    else
      if okO h v0 8 then
      (f_X8_takesOf v0 v4 h).bind fun o20 =>
      (f_X8_state_36 n m) v0 v1 v2 (v3 + o20.1) (v4 + 1) o20.2
      else none
set_option maxRecDepth 100000 in
set_option maxHeartbeats 4000000 in
theorem r_X8_state_36 {X : Nat → Int32} {d : Nat} (hd : 7 ≤ (d + 1)) {n : Nat} : ∀ (m : Nat) (v0 : Nat) (v1 : Int32) (v2 : Int32) (v3 : Int32) (v4 : Int32) (h : Hp) (o : (Int64 × Hp)), f_X8_state_36 n m v0 v1 v2 v3 v4 h = some o → Run X (d + 1) 174 36 [some (.ref v0), some (.int v1), some (.int v2), some (.int v3), some (.int v4)] [] h (some (.long o.1), o.2) := by
  intro m
  induction m with
  | zero => intro v0 v1 v2 v3 v4 h o hf; cases hf
  | succ m ih =>
    intro v0 v1 v2 v3 v4 h o hf
    rw [f_X8_state_36] at hf
    refine rs_iload i_X8_state_36 rfl ?_
    refine rs_iload_n i_X8_state_38 rfl ?_
    by_cases c1 : v1 ≤ v4
    · replace hf := (if_pos c1).symm.trans hf
      refine rs_icT i_X8_state_39 (ct_ge c1) (tg := 57) (by decide) ?_
      refine rs_iload_n i_X8_state_57 rfl ?_
      by_cases c2 : v2 = 0
      · replace hf := (if_pos c2).symm.trans hf
        refine rs_tsw i_X8_state_58 (off := 42) (by rw [c2]; decide) (tg := 100) (by decide) ?_
        refine rs_aload_n i_X8_state_100 rfl ?_
        obtain ⟨c19, hf⟩ := ite_some hf
        obtain ⟨o18, e18, hf⟩ := bind_some hf
        refine rs_inV i_X8_state_101 m_X8_least rfl (As := []) (rest := []) rfl rfl (Nat.le_of_ble_eq_true rfl) c19 (c_X8_least (by omega) e18) (st' := [.int o18.1]) rfl ?_
        refine rs_i2l i_X8_state_104 ?_
        have hf := Option.some.inj hf
        subst hf
        exact rs_lret i_X8_state_105 m_X8_state rfl
      · replace hf := (if_neg c2).symm.trans hf
        by_cases c3 : v2 = 1
        · replace hf := (if_pos c3).symm.trans hf
          refine rs_tsw i_X8_state_58 (off := 48) (by rw [c3]; decide) (tg := 106) (by decide) ?_
          refine rs_aload_n i_X8_state_106 rfl ?_
          obtain ⟨c17, hf⟩ := ite_some hf
          obtain ⟨o16, e16, hf⟩ := bind_some hf
          refine rs_inV i_X8_state_107 m_X8_greatest rfl (As := []) (rest := []) rfl rfl (Nat.le_of_ble_eq_true rfl) c17 (c_X8_greatest (by omega) e16) (st' := [.int o16.1]) rfl ?_
          refine rs_i2l i_X8_state_110 ?_
          have hf := Option.some.inj hf
          subst hf
          exact rs_lret i_X8_state_111 m_X8_state rfl
        · replace hf := (if_neg c3).symm.trans hf
          by_cases c4 : v2 = 2
          · replace hf := (if_pos c4).symm.trans hf
            refine rs_tsw i_X8_state_58 (off := 54) (by rw [c4]; decide) (tg := 112) (by decide) ?_
            refine rs_aload_n i_X8_state_112 rfl ?_
            obtain ⟨c15, hf⟩ := ite_some hf
            obtain ⟨o14, e14, hf⟩ := bind_some hf
            refine rs_inV i_X8_state_113 m_X8_spread rfl (As := []) (rest := []) rfl rfl (Nat.le_of_ble_eq_true rfl) c15 (c_X8_spread (by omega) e14) (st' := [.int o14.1]) rfl ?_
            refine rs_i2l i_X8_state_116 ?_
            have hf := Option.some.inj hf
            subst hf
            exact rs_lret i_X8_state_117 m_X8_state rfl
          · replace hf := (if_neg c4).symm.trans hf
            by_cases c5 : v2 = 3
            · replace hf := (if_pos c5).symm.trans hf
              refine rs_tsw i_X8_state_58 (off := 60) (by rw [c5]; decide) (tg := 118) (by decide) ?_
              refine rs_aload_n i_X8_state_118 rfl ?_
              obtain ⟨c13, hf⟩ := ite_some hf
              refine rs_getI i_X8_state_119 (by decide) (by decide) c13 ?_
              refine rs_i2l i_X8_state_122 ?_
              have hf := Option.some.inj hf
              subst hf
              exact rs_lret i_X8_state_123 m_X8_state rfl
            · replace hf := (if_neg c5).symm.trans hf
              by_cases c6 : v2 = 4
              · replace hf := (if_pos c6).symm.trans hf
                refine rs_tsw i_X8_state_58 (off := 66) (by rw [c6]; decide) (tg := 124) (by decide) ?_
                refine rs_aload_n i_X8_state_124 rfl ?_
                obtain ⟨c12, hf⟩ := ite_some hf
                obtain ⟨o11, e11, hf⟩ := bind_some hf
                refine rs_inV i_X8_state_125 m_X8_doubled rfl (As := []) (rest := []) rfl rfl (Nat.le_of_ble_eq_true rfl) c12 (c_X8_doubled (by omega) e11) (st' := [.long o11.1]) rfl ?_
                have hf := Option.some.inj hf
                subst hf
                exact rs_lret i_X8_state_128 m_X8_state rfl
              · replace hf := (if_neg c6).symm.trans hf
                by_cases c7 : v2 = 5
                · replace hf := (if_pos c7).symm.trans hf
                  refine rs_tsw i_X8_state_58 (off := 71) (by rw [c7]; decide) (tg := 129) (by decide) ?_
                  refine rs_aload_n i_X8_state_129 rfl ?_
                  obtain ⟨c10, hf⟩ := ite_some hf
                  refine rs_getI i_X8_state_130 (by decide) (by decide) c10 ?_
                  refine rs_i2l i_X8_state_133 ?_
                  have hf := Option.some.inj hf
                  subst hf
                  exact rs_lret i_X8_state_134 m_X8_state rfl
                · replace hf := (if_neg c7).symm.trans hf
                  by_cases c8 : v2 = 6
                  · replace hf := (if_pos c8).symm.trans hf
                    refine rs_tsw i_X8_state_58 (off := 77) (by rw [c8]; decide) (tg := 135) (by decide) ?_
                    refine rs_aload_n i_X8_state_135 rfl ?_
                    obtain ⟨c9, hf⟩ := ite_some hf
                    refine rs_getI i_X8_state_136 (by decide) (by decide) c9 ?_
                    refine rs_i2l i_X8_state_139 ?_
                    have hf := Option.some.inj hf
                    subst hf
                    exact rs_lret i_X8_state_140 m_X8_state rfl
                  · replace hf := (if_neg c8).symm.trans hf
                    refine rs_tsw i_X8_state_58 (off := 83) (swt_df (by have z0 := ne_ti c2; rw [show (0 : Int32).toInt = 0 from by decide] at z0; have z1 := ne_ti c3; rw [show (1 : Int32).toInt = 1 from by decide] at z1; have z2 := ne_ti c4; rw [show (2 : Int32).toInt = 2 from by decide] at z2; have z3 := ne_ti c5; rw [show (3 : Int32).toInt = 3 from by decide] at z3; have z4 := ne_ti c6; rw [show (4 : Int32).toInt = 4 from by decide] at z4; have z5 := ne_ti c7; rw [show (5 : Int32).toInt = 5 from by decide] at z5; have z6 := ne_ti c8; rw [show (6 : Int32).toInt = 6 from by decide] at z6; omega)) (tg := 141) (by decide) ?_
                    refine rs_iload_n i_X8_state_141 rfl ?_
                    refine rs_i2l i_X8_state_142 ?_
                    have hf := Option.some.inj hf
                    subst hf
                    exact rs_lret i_X8_state_143 m_X8_state rfl
    · replace hf := (if_neg c1).symm.trans hf
      refine rs_icF i_X8_state_39 (cf_ge c1) ?_
      refine rs_iload_n i_X8_state_42 rfl ?_
      refine rs_aload_n i_X8_state_43 rfl ?_
      refine rs_iload i_X8_state_44 rfl ?_
      obtain ⟨c21, hf⟩ := ite_some hf
      obtain ⟨o20, e20, hf⟩ := bind_some hf
      refine rs_inV i_X8_state_46 m_X8_takesOf rfl (As := [.int v4]) (rest := [.int v3]) rfl rfl (Nat.le_of_ble_eq_true rfl) c21 (c_X8_takesOf (by omega) e20) (st' := [.int o20.1, .int v3]) rfl ?_
      refine rs_iadd i_X8_state_49 ?_
      refine rs_istore_n i_X8_state_50 (Nat.le_of_ble_eq_true rfl) (lv' := [some (.ref v0), some (.int v1), some (.int v2), some (.int (v3 + o20.1)), some (.int v4)]) rfl ?_
      refine rs_iinc i_X8_state_51 rfl (v := v4 + 1) rfl (Nat.le_of_ble_eq_true rfl) (lv' := [some (.ref v0), some (.int v1), some (.int v2), some (.int (v3 + o20.1)), some (.int (v4 + 1))]) rfl ?_
      refine rs_goto i_X8_state_54 (tg := 36) (by decide) ?_
      exact ih _ _ _ _ _ _ _ hf
def f_X8_state_0 (n : Nat) (v0 : Nat) (v1 : Int32) (v2 : Int32) (h : Hp) : Option (Int64 × Hp) :=
  if okO h v0 8 then
  (f_X8_areSteps v0 v1 h).bind fun o1 =>
  if o1.1 ≠ 0 then
    (f_X8_in v2 0 7 o1.2).bind fun o4 =>
    if o4.1 ≠ 0 then
      if okO o4.2 v0 8 then
      (f_X8_goes n v0 v1 o4.2).bind fun o6 =>
      f_X8_state_36 n n v0 v1 v2 0 0 o6
      else none
    else
      some ((-7), o4.2)
  else
    some ((-5), o1.2)
  else none
set_option maxRecDepth 100000 in
set_option maxHeartbeats 4000000 in
theorem r_X8_state_0 {X : Nat → Int32} {d : Nat} (hd : 7 ≤ (d + 1)) {n : Nat} {v0 : Nat} {v1 : Int32} {v2 : Int32} {h : Hp} {o : (Int64 × Hp)} (hf : f_X8_state_0 n v0 v1 v2 h = some o) : Run X (d + 1) 174 0 [some (.ref v0), some (.int v1), some (.int v2), none, none] [] h (some (.long o.1), o.2) := by
  unfold f_X8_state_0 at hf
  refine rs_aload_n i_X8_state_0 rfl ?_
  refine rs_iload_n i_X8_state_1 rfl ?_
  obtain ⟨c2, hf⟩ := ite_some hf
  obtain ⟨o1, e1, hf⟩ := bind_some hf
  refine rs_inV i_X8_state_2 m_X8_areSteps rfl (As := [.int v1]) (rest := []) rfl rfl (Nat.le_of_ble_eq_true rfl) c2 (c_X8_areSteps (by omega) e1) (st' := [.int o1.1]) rfl ?_
  by_cases c3 : o1.1 ≠ 0
  · replace hf := (if_pos c3).symm.trans hf
    refine rs_ifT i_X8_state_5 (ct_ne c3) (tg := 12) (by decide) ?_
    refine rs_iload_n i_X8_state_12 rfl ?_
    refine rs_iconst i_X8_state_13 (v := 0) (by decide) ?_
    refine rs_bipush i_X8_state_14 (v := 7) (by decide) ?_
    obtain ⟨o4, e4, hf⟩ := bind_some hf
    refine rs_inS i_X8_state_16 (by decide) m_X8_in rfl (As := [.int v2, .int 0, .int 7]) (rest := []) rfl rfl (Nat.le_of_ble_eq_true rfl) (c_X8_in (by omega) e4) (st' := [.int o4.1]) rfl ?_
    by_cases c5 : o4.1 ≠ 0
    · replace hf := (if_pos c5).symm.trans hf
      refine rs_ifT i_X8_state_19 (ct_ne c5) (tg := 26) (by decide) ?_
      refine rs_aload_n i_X8_state_26 rfl ?_
      refine rs_iload_n i_X8_state_27 rfl ?_
      obtain ⟨c7, hf⟩ := ite_some hf
      obtain ⟨o6, e6, hf⟩ := bind_some hf
      refine rs_inV i_X8_state_28 m_X8_goes rfl (As := [.int v1]) (rest := []) rfl rfl (Nat.le_of_ble_eq_true rfl) c7 (c_X8_goes (by omega) e6) (st' := []) rfl ?_
      refine rs_iconst i_X8_state_31 (v := 0) (by decide) ?_
      refine rs_istore_n i_X8_state_32 (Nat.le_of_ble_eq_true rfl) (lv' := [some (.ref v0), some (.int v1), some (.int v2), some (.int 0), none]) rfl ?_
      refine rs_iconst i_X8_state_33 (v := 0) (by decide) ?_
      refine rs_istore i_X8_state_34 (Nat.le_of_ble_eq_true rfl) (lv' := [some (.ref v0), some (.int v1), some (.int v2), some (.int 0), some (.int 0)]) rfl ?_
      exact r_X8_state_36 hd _ _ _ _ _ _ _ _ hf
    · replace hf := (if_neg c5).symm.trans hf
      refine rs_ifF i_X8_state_19 (cf_ne c5) ?_
      refine rs_ldc2 i_X8_state_22 (v := (-7)) (by decide) ?_
      have hf := Option.some.inj hf
      subst hf
      exact rs_lret i_X8_state_25 m_X8_state rfl
  · replace hf := (if_neg c3).symm.trans hf
    refine rs_ifF i_X8_state_5 (cf_ne c3) ?_
    refine rs_ldc2 i_X8_state_8 (v := (-5)) (by decide) ?_
    have hf := Option.some.inj hf
    subst hf
    exact rs_lret i_X8_state_11 m_X8_state rfl
def f_X8_state (n : Nat) (v0 : Nat) (v1 : Int32) (v2 : Int32) (h : Hp) : Option (Int64 × Hp) := f_X8_state_0 n v0 v1 v2 h
theorem c_X8_state {X : Nat → Int32} {d : Nat} (hd : 7 ≤ d) {n : Nat} {v0 : Nat} {v1 : Int32} {v2 : Int32} {h : Hp} {o : (Int64 × Hp)} (hf : f_X8_state n v0 v1 v2 h = some o) : Calls X d 174 [.ref v0, .int v1, .int v2] h (some (.long o.1), o.2) := by
  obtain ⟨d, rfl⟩ : ∃ z, d = z + 1 := ⟨d - 1, by omega⟩
  exact ⟨_, rfl, r_X8_state_0 hd hf⟩
theorem i_X8_both_0 : fetch 175 0 = some (.aload_n 0, 1, 0, 0, 0, 0) := by decide +kernel
theorem i_X8_both_1 : fetch 175 1 = some (.iload_n 1, 2, 0, 0, 0, 0) := by decide +kernel
theorem i_X8_both_2 : fetch 175 2 = some (.invokevirtual 289, 5, 168, 0, 0, 1227) := by decide +kernel
theorem i_X8_both_5 : fetch 175 5 = some (.aload_n 0, 6, 0, 0, 0, 0) := by decide +kernel
theorem i_X8_both_6 : fetch 175 6 = some (.getfield 240, 9, 8, 43, 0, 1052) := by decide +kernel
theorem i_X8_both_9 : fetch 175 9 = some (.aload_n 0, 10, 0, 0, 0, 0) := by decide +kernel
theorem i_X8_both_10 : fetch 175 10 = some (.getfield 248, 13, 8, 44, 0, 1053) := by decide +kernel
theorem i_X8_both_13 : fetch 175 13 = some (.lmul, 14, 0, 0, 0, 0) := by decide +kernel
theorem i_X8_both_14 : fetch 175 14 = some (.ldc2_w 275, 17, 0, 0, 1000000000, 1239) := by decide +kernel
theorem i_X8_both_17 : fetch 175 17 = some (.ldiv, 18, 0, 0, 0, 0) := by decide +kernel
theorem i_X8_both_18 : fetch 175 18 = some (.lreturn, 19, 0, 0, 0, 0) := by decide +kernel
def f_X8_both_0 (n : Nat) (v0 : Nat) (v1 : Int32) (h : Hp) : Option (Int64 × Hp) :=
  if okO h v0 8 then
  (f_X8_goes n v0 v1 h).bind fun o1 =>
  if okO o1 v0 8 then
  some ((((gL' o1 v0 43) * (gL' o1 v0 44)) / 1000000000), o1)
  else none
  else none
set_option maxRecDepth 100000 in
set_option maxHeartbeats 4000000 in
theorem r_X8_both_0 {X : Nat → Int32} {d : Nat} (hd : 7 ≤ (d + 1)) {n : Nat} {v0 : Nat} {v1 : Int32} {h : Hp} {o : (Int64 × Hp)} (hf : f_X8_both_0 n v0 v1 h = some o) : Run X (d + 1) 175 0 [some (.ref v0), some (.int v1)] [] h (some (.long o.1), o.2) := by
  unfold f_X8_both_0 at hf
  refine rs_aload_n i_X8_both_0 rfl ?_
  refine rs_iload_n i_X8_both_1 rfl ?_
  obtain ⟨c2, hf⟩ := ite_some hf
  obtain ⟨o1, e1, hf⟩ := bind_some hf
  refine rs_inV i_X8_both_2 m_X8_goes rfl (As := [.int v1]) (rest := []) rfl rfl (Nat.le_of_ble_eq_true rfl) c2 (c_X8_goes (by omega) e1) (st' := []) rfl ?_
  refine rs_aload_n i_X8_both_5 rfl ?_
  obtain ⟨c3, hf⟩ := ite_some hf
  refine rs_getL i_X8_both_6 (by decide) (by decide) c3 ?_
  refine rs_aload_n i_X8_both_9 rfl ?_
  refine rs_getL i_X8_both_10 (by decide) (by decide) c3 ?_
  refine rs_lmul i_X8_both_13 ?_
  refine rs_ldc2 i_X8_both_14 (v := 1000000000) (by decide) ?_
  refine rs_ldiv i_X8_both_17 (by decide) ?_
  have hf := Option.some.inj hf
  subst hf
  exact rs_lret i_X8_both_18 m_X8_both rfl
def f_X8_both (n : Nat) (v0 : Nat) (v1 : Int32) (h : Hp) : Option (Int64 × Hp) := f_X8_both_0 n v0 v1 h
theorem c_X8_both {X : Nat → Int32} {d : Nat} (hd : 7 ≤ d) {n : Nat} {v0 : Nat} {v1 : Int32} {h : Hp} {o : (Int64 × Hp)} (hf : f_X8_both n v0 v1 h = some o) : Calls X d 175 [.ref v0, .int v1] h (some (.long o.1), o.2) := by
  obtain ⟨d, rfl⟩ : ∃ z, d = z + 1 := ⟨d - 1, by omega⟩
  exact ⟨_, rfl, r_X8_both_0 hd hf⟩
theorem i_X8_whole_0 : fetch 176 0 = some (.aload_n 0, 1, 0, 0, 0, 0) := by decide +kernel
theorem i_X8_whole_1 : fetch 176 1 = some (.iload_n 1, 2, 0, 0, 0, 0) := by decide +kernel
theorem i_X8_whole_2 : fetch 176 2 = some (.invokevirtual 286, 5, 128, 0, 0, 1223) := by decide +kernel
theorem i_X8_whole_5 : fetch 176 5 = some (.ifCond .eq 12, 8, 0, 0, 0, 0) := by decide +kernel
theorem i_X8_whole_8 : fetch 176 8 = some (.iload_n 2, 9, 0, 0, 0, 0) := by decide +kernel
theorem i_X8_whole_9 : fetch 176 9 = some (.iconst 0, 10, 0, 0, 0, 0) := by decide +kernel
theorem i_X8_whole_10 : fetch 176 10 = some (.iconst 2, 11, 0, 0, 0, 0) := by decide +kernel
theorem i_X8_whole_11 : fetch 176 11 = some (.invokestatic 112, 14, 126, 0, 0, 970) := by decide +kernel
theorem i_X8_whole_14 : fetch 176 14 = some (.ifCond .ne 7, 17, 0, 0, 0, 0) := by decide +kernel
theorem i_X8_whole_17 : fetch 176 17 = some (.ldc2_w 311, 20, 0, 0, (-4611686018427387904), 1331) := by decide +kernel
theorem i_X8_whole_20 : fetch 176 20 = some (.lreturn, 21, 0, 0, 0, 0) := by decide +kernel
theorem i_X8_whole_21 : fetch 176 21 = some (.aload_n 0, 22, 0, 0, 0, 0) := by decide +kernel
theorem i_X8_whole_22 : fetch 176 22 = some (.iload_n 1, 23, 0, 0, 0, 0) := by decide +kernel
theorem i_X8_whole_23 : fetch 176 23 = some (.invokevirtual 313, 26, 175, 0, 0, 1332) := by decide +kernel
theorem i_X8_whole_26 : fetch 176 26 = some (.lstore_n 3, 27, 0, 0, 0, 0) := by decide +kernel
theorem i_X8_whole_27 : fetch 176 27 = some (.iload_n 2, 28, 0, 0, 0, 0) := by decide +kernel
theorem i_X8_whole_28 : fetch 176 28 = some (.ifCond .ne 10, 31, 0, 0, 0, 0) := by decide +kernel
theorem i_X8_whole_31 : fetch 176 31 = some (.aload_n 0, 32, 0, 0, 0, 0) := by decide +kernel
theorem i_X8_whole_32 : fetch 176 32 = some (.getfield 240, 35, 8, 43, 0, 1052) := by decide +kernel
theorem i_X8_whole_35 : fetch 176 35 = some (.goto 16, 38, 0, 0, 0, 0) := by decide +kernel
theorem i_X8_whole_38 : fetch 176 38 = some (.iload_n 2, 39, 0, 0, 0, 0) := by decide +kernel
theorem i_X8_whole_39 : fetch 176 39 = some (.iconst 1, 40, 0, 0, 0, 0) := by decide +kernel
theorem i_X8_whole_40 : fetch 176 40 = some (.if_icmp .ne 10, 43, 0, 0, 0, 0) := by decide +kernel
theorem i_X8_whole_43 : fetch 176 43 = some (.aload_n 0, 44, 0, 0, 0, 0) := by decide +kernel
theorem i_X8_whole_44 : fetch 176 44 = some (.getfield 248, 47, 8, 44, 0, 1053) := by decide +kernel
theorem i_X8_whole_47 : fetch 176 47 = some (.goto 4, 50, 0, 0, 0, 0) := by decide +kernel
theorem i_X8_whole_50 : fetch 176 50 = some (.lload_n 3, 51, 0, 0, 0, 0) := by decide +kernel
theorem i_X8_whole_51 : fetch 176 51 = some (.lreturn, 52, 0, 0, 0, 0) := by decide +kernel
def f_X8_whole_0 (n : Nat) (v0 : Nat) (v1 : Int32) (v2 : Int32) (h : Hp) : Option (Int64 × Hp) :=
  if okO h v0 8 then
  (f_X8_areSteps v0 v1 h).bind fun o1 =>
  if o1.1 = 0 then
    some ((-4611686018427387904), o1.2)
  else
    (f_X8_in v2 0 2 o1.2).bind fun o4 =>
    if o4.1 ≠ 0 then
      if okO o4.2 v0 8 then
      (f_X8_both n v0 v1 o4.2).bind fun o6 =>
      if v2 ≠ 0 then
        if v2 ≠ 1 then
          some (o6.1, o6.2)
        else
          if okO o6.2 v0 8 then
          some ((gL' o6.2 v0 44), o6.2)
          else none
      else
        if okO o6.2 v0 8 then
        some ((gL' o6.2 v0 43), o6.2)
        else none
      else none
    else
      some ((-4611686018427387904), o4.2)
  else none
set_option maxRecDepth 100000 in
set_option maxHeartbeats 4000000 in
theorem r_X8_whole_0 {X : Nat → Int32} {d : Nat} (hd : 8 ≤ (d + 1)) {n : Nat} {v0 : Nat} {v1 : Int32} {v2 : Int32} {h : Hp} {o : (Int64 × Hp)} (hf : f_X8_whole_0 n v0 v1 v2 h = some o) : Run X (d + 1) 176 0 [some (.ref v0), some (.int v1), some (.int v2), none, none] [] h (some (.long o.1), o.2) := by
  unfold f_X8_whole_0 at hf
  refine rs_aload_n i_X8_whole_0 rfl ?_
  refine rs_iload_n i_X8_whole_1 rfl ?_
  obtain ⟨c2, hf⟩ := ite_some hf
  obtain ⟨o1, e1, hf⟩ := bind_some hf
  refine rs_inV i_X8_whole_2 m_X8_areSteps rfl (As := [.int v1]) (rest := []) rfl rfl (Nat.le_of_ble_eq_true rfl) c2 (c_X8_areSteps (by omega) e1) (st' := [.int o1.1]) rfl ?_
  by_cases c3 : o1.1 = 0
  · replace hf := (if_pos c3).symm.trans hf
    refine rs_ifT i_X8_whole_5 (ct_eq c3) (tg := 17) (by decide) ?_
    refine rs_ldc2 i_X8_whole_17 (v := (-4611686018427387904)) (by decide) ?_
    have hf := Option.some.inj hf
    subst hf
    exact rs_lret i_X8_whole_20 m_X8_whole rfl
  · replace hf := (if_neg c3).symm.trans hf
    refine rs_ifF i_X8_whole_5 (cf_eq c3) ?_
    refine rs_iload_n i_X8_whole_8 rfl ?_
    refine rs_iconst i_X8_whole_9 (v := 0) (by decide) ?_
    refine rs_iconst i_X8_whole_10 (v := 2) (by decide) ?_
    obtain ⟨o4, e4, hf⟩ := bind_some hf
    refine rs_inS i_X8_whole_11 (by decide) m_X8_in rfl (As := [.int v2, .int 0, .int 2]) (rest := []) rfl rfl (Nat.le_of_ble_eq_true rfl) (c_X8_in (by omega) e4) (st' := [.int o4.1]) rfl ?_
    by_cases c5 : o4.1 ≠ 0
    · replace hf := (if_pos c5).symm.trans hf
      refine rs_ifT i_X8_whole_14 (ct_ne c5) (tg := 21) (by decide) ?_
      refine rs_aload_n i_X8_whole_21 rfl ?_
      refine rs_iload_n i_X8_whole_22 rfl ?_
      obtain ⟨c7, hf⟩ := ite_some hf
      obtain ⟨o6, e6, hf⟩ := bind_some hf
      refine rs_inV i_X8_whole_23 m_X8_both rfl (As := [.int v1]) (rest := []) rfl rfl (Nat.le_of_ble_eq_true rfl) c7 (c_X8_both (by omega) e6) (st' := [.long o6.1]) rfl ?_
      refine rs_lstore_n i_X8_whole_26 (Nat.le_of_ble_eq_true rfl) (lv' := [some (.ref v0), some (.int v1), some (.int v2), some (.long o6.1), none]) rfl ?_
      refine rs_iload_n i_X8_whole_27 rfl ?_
      by_cases c8 : v2 ≠ 0
      · replace hf := (if_pos c8).symm.trans hf
        refine rs_ifT i_X8_whole_28 (ct_ne c8) (tg := 38) (by decide) ?_
        refine rs_iload_n i_X8_whole_38 rfl ?_
        refine rs_iconst i_X8_whole_39 (v := 1) (by decide) ?_
        by_cases c9 : v2 ≠ 1
        · replace hf := (if_pos c9).symm.trans hf
          refine rs_icT i_X8_whole_40 (ct_ne c9) (tg := 50) (by decide) ?_
          refine rs_lload_n i_X8_whole_50 rfl ?_
          have hf := Option.some.inj hf
          subst hf
          exact rs_lret i_X8_whole_51 m_X8_whole rfl
        · replace hf := (if_neg c9).symm.trans hf
          refine rs_icF i_X8_whole_40 (cf_ne c9) ?_
          refine rs_aload_n i_X8_whole_43 rfl ?_
          obtain ⟨c10, hf⟩ := ite_some hf
          refine rs_getL i_X8_whole_44 (by decide) (by decide) c10 ?_
          refine rs_goto i_X8_whole_47 (tg := 51) (by decide) ?_
          have hf := Option.some.inj hf
          subst hf
          exact rs_lret i_X8_whole_51 m_X8_whole rfl
      · replace hf := (if_neg c8).symm.trans hf
        refine rs_ifF i_X8_whole_28 (cf_ne c8) ?_
        refine rs_aload_n i_X8_whole_31 rfl ?_
        obtain ⟨c11, hf⟩ := ite_some hf
        refine rs_getL i_X8_whole_32 (by decide) (by decide) c11 ?_
        refine rs_goto i_X8_whole_35 (tg := 51) (by decide) ?_
        have hf := Option.some.inj hf
        subst hf
        exact rs_lret i_X8_whole_51 m_X8_whole rfl
    · replace hf := (if_neg c5).symm.trans hf
      refine rs_ifF i_X8_whole_14 (cf_ne c5) ?_
      refine rs_ldc2 i_X8_whole_17 (v := (-4611686018427387904)) (by decide) ?_
      have hf := Option.some.inj hf
      subst hf
      exact rs_lret i_X8_whole_20 m_X8_whole rfl
def f_X8_whole (n : Nat) (v0 : Nat) (v1 : Int32) (v2 : Int32) (h : Hp) : Option (Int64 × Hp) := f_X8_whole_0 n v0 v1 v2 h
theorem c_X8_whole {X : Nat → Int32} {d : Nat} (hd : 8 ≤ d) {n : Nat} {v0 : Nat} {v1 : Int32} {v2 : Int32} {h : Hp} {o : (Int64 × Hp)} (hf : f_X8_whole n v0 v1 v2 h = some o) : Calls X d 176 [.ref v0, .int v1, .int v2] h (some (.long o.1), o.2) := by
  obtain ⟨d, rfl⟩ : ∃ z, d = z + 1 := ⟨d - 1, by omega⟩
  exact ⟨_, rfl, r_X8_whole_0 hd hf⟩
theorem i_X8_stop_0 : fetch 177 0 = some (.iload_n 1, 1, 0, 0, 0, 0) := by decide +kernel
theorem i_X8_stop_1 : fetch 177 1 = some (.iconst 0, 2, 0, 0, 0, 0) := by decide +kernel
theorem i_X8_stop_2 : fetch 177 2 = some (.bipush 100, 4, 0, 0, 0, 0) := by decide +kernel
theorem i_X8_stop_4 : fetch 177 4 = some (.invokestatic 112, 7, 126, 0, 0, 970) := by decide +kernel
theorem i_X8_stop_7 : fetch 177 7 = some (.ifCond .ne 6, 10, 0, 0, 0, 0) := by decide +kernel
theorem i_X8_stop_10 : fetch 177 10 = some (.bipush (-2), 12, 0, 0, 0, 0) := by decide +kernel
theorem i_X8_stop_12 : fetch 177 12 = some (.ireturn, 13, 0, 0, 0, 0) := by decide +kernel
theorem i_X8_stop_13 : fetch 177 13 = some (.aload_n 0, 14, 0, 0, 0, 0) := by decide +kernel
theorem i_X8_stop_14 : fetch 177 14 = some (.getfield 116, 17, 8, 5, 0, 1014) := by decide +kernel
theorem i_X8_stop_17 : fetch 177 17 = some (.istore_n 2, 18, 0, 0, 0, 0) := by decide +kernel
theorem i_X8_stop_18 : fetch 177 18 = some (.iload_n 2, 19, 0, 0, 0, 0) := by decide +kernel
theorem i_X8_stop_19 : fetch 177 19 = some (.ifCond .le 30, 22, 0, 0, 0, 0) := by decide +kernel
theorem i_X8_stop_22 : fetch 177 22 = some (.aload_n 0, 23, 0, 0, 0, 0) := by decide +kernel
theorem i_X8_stop_23 : fetch 177 23 = some (.iload_n 2, 24, 0, 0, 0, 0) := by decide +kernel
theorem i_X8_stop_24 : fetch 177 24 = some (.invokevirtual 313, 27, 175, 0, 0, 1332) := by decide +kernel
theorem i_X8_stop_27 : fetch 177 27 = some (.ldc2_w 243, 30, 0, 0, 100, 1279) := by decide +kernel
theorem i_X8_stop_30 : fetch 177 30 = some (.lmul, 31, 0, 0, 0, 0) := by decide +kernel
theorem i_X8_stop_31 : fetch 177 31 = some (.iload_n 1, 32, 0, 0, 0, 0) := by decide +kernel
theorem i_X8_stop_32 : fetch 177 32 = some (.i2l, 33, 0, 0, 0, 0) := by decide +kernel
theorem i_X8_stop_33 : fetch 177 33 = some (.ldc2_w 275, 36, 0, 0, 1000000000, 1239) := by decide +kernel
theorem i_X8_stop_36 : fetch 177 36 = some (.lmul, 37, 0, 0, 0, 0) := by decide +kernel
theorem i_X8_stop_37 : fetch 177 37 = some (.lcmp, 38, 0, 0, 0, 0) := by decide +kernel
theorem i_X8_stop_38 : fetch 177 38 = some (.ifCond .lt 5, 41, 0, 0, 0, 0) := by decide +kernel
theorem i_X8_stop_41 : fetch 177 41 = some (.iload_n 2, 42, 0, 0, 0, 0) := by decide +kernel
theorem i_X8_stop_42 : fetch 177 42 = some (.ireturn, 43, 0, 0, 0, 0) := by decide +kernel
theorem i_X8_stop_43 : fetch 177 43 = some (.iinc 2 (-1), 46, 0, 0, 0, 0) := by decide +kernel
theorem i_X8_stop_46 : fetch 177 46 = some (.goto (-28), 49, 0, 0, 0, 0) := by decide +kernel
theorem i_X8_stop_49 : fetch 177 49 = some (.iconst 0, 50, 0, 0, 0, 0) := by decide +kernel
theorem i_X8_stop_50 : fetch 177 50 = some (.ireturn, 51, 0, 0, 0, 0) := by decide +kernel
def f_X8_stop_18 (n : Nat) : Nat → Nat → Int32 → Int32 → Hp → Option (Int32 × Hp)
  | 0, _, _, _, _ => none
  | m + 1, v0, v1, v2, h =>
    if v2 ≤ 0 then
      some (0, h)
    else
      if okO h v0 8 then
      (f_X8_both n v0 v2 h).bind fun o2 =>
      if (o2.1 * 100) < ((Int32.toInt64 v1) * 1000000000) then
        (f_X8_stop_18 n m) v0 v1 (v2 + (-1)) o2.2
      else
        some (v2, o2.2)
      else none
set_option maxRecDepth 100000 in
set_option maxHeartbeats 4000000 in
theorem r_X8_stop_18 {X : Nat → Int32} {d : Nat} (hd : 8 ≤ (d + 1)) {n : Nat} : ∀ (m : Nat) (v0 : Nat) (v1 : Int32) (v2 : Int32) (h : Hp) (o : (Int32 × Hp)), f_X8_stop_18 n m v0 v1 v2 h = some o → Run X (d + 1) 177 18 [some (.ref v0), some (.int v1), some (.int v2)] [] h (some (.int o.1), o.2) := by
  intro m
  induction m with
  | zero => intro v0 v1 v2 h o hf; cases hf
  | succ m ih =>
    intro v0 v1 v2 h o hf
    rw [f_X8_stop_18] at hf
    refine rs_iload_n i_X8_stop_18 rfl ?_
    by_cases c1 : v2 ≤ 0
    · replace hf := (if_pos c1).symm.trans hf
      refine rs_ifT i_X8_stop_19 (ct_le c1) (tg := 49) (by decide) ?_
      refine rs_iconst i_X8_stop_49 (v := 0) (by decide) ?_
      have hf := Option.some.inj hf
      subst hf
      exact rs_iret i_X8_stop_50 m_X8_stop rfl
    · replace hf := (if_neg c1).symm.trans hf
      refine rs_ifF i_X8_stop_19 (cf_le c1) ?_
      refine rs_aload_n i_X8_stop_22 rfl ?_
      refine rs_iload_n i_X8_stop_23 rfl ?_
      obtain ⟨c3, hf⟩ := ite_some hf
      obtain ⟨o2, e2, hf⟩ := bind_some hf
      refine rs_inV i_X8_stop_24 m_X8_both rfl (As := [.int v2]) (rest := []) rfl rfl (Nat.le_of_ble_eq_true rfl) c3 (c_X8_both (by omega) e2) (st' := [.long o2.1]) rfl ?_
      refine rs_ldc2 i_X8_stop_27 (v := 100) (by decide) ?_
      refine rs_lmul i_X8_stop_30 ?_
      refine rs_iload_n i_X8_stop_31 rfl ?_
      refine rs_i2l i_X8_stop_32 ?_
      refine rs_ldc2 i_X8_stop_33 (v := 1000000000) (by decide) ?_
      refine rs_lmul i_X8_stop_36 ?_
      refine rs_lcmp i_X8_stop_37 ?_
      by_cases c4 : (o2.1 * 100) < ((Int32.toInt64 v1) * 1000000000)
      · replace hf := (if_pos c4).symm.trans hf
        refine rs_ifT i_X8_stop_38 (by rw [lc_lt]; exact decide_eq_true c4) (tg := 43) (by decide) ?_
        refine rs_iinc i_X8_stop_43 rfl (v := v2 + (-1)) rfl (Nat.le_of_ble_eq_true rfl) (lv' := [some (.ref v0), some (.int v1), some (.int (v2 + (-1)))]) rfl ?_
        refine rs_goto i_X8_stop_46 (tg := 18) (by decide) ?_
        exact ih _ _ _ _ _ hf
      · replace hf := (if_neg c4).symm.trans hf
        refine rs_ifF i_X8_stop_38 (by rw [lc_lt]; exact decide_eq_false c4) ?_
        refine rs_iload_n i_X8_stop_41 rfl ?_
        have hf := Option.some.inj hf
        subst hf
        exact rs_iret i_X8_stop_42 m_X8_stop rfl
def f_X8_stop_0 (n : Nat) (v0 : Nat) (v1 : Int32) (h : Hp) : Option (Int32 × Hp) :=
  (f_X8_in v1 0 100 h).bind fun o1 =>
  if o1.1 ≠ 0 then
    if okO o1.2 v0 8 then
    f_X8_stop_18 n n v0 v1 (gI o1.2 v0 5) o1.2
    else none
  else
    some ((-2), o1.2)
set_option maxRecDepth 100000 in
set_option maxHeartbeats 4000000 in
theorem r_X8_stop_0 {X : Nat → Int32} {d : Nat} (hd : 8 ≤ (d + 1)) {n : Nat} {v0 : Nat} {v1 : Int32} {h : Hp} {o : (Int32 × Hp)} (hf : f_X8_stop_0 n v0 v1 h = some o) : Run X (d + 1) 177 0 [some (.ref v0), some (.int v1), none] [] h (some (.int o.1), o.2) := by
  unfold f_X8_stop_0 at hf
  refine rs_iload_n i_X8_stop_0 rfl ?_
  refine rs_iconst i_X8_stop_1 (v := 0) (by decide) ?_
  refine rs_bipush i_X8_stop_2 (v := 100) (by decide) ?_
  obtain ⟨o1, e1, hf⟩ := bind_some hf
  refine rs_inS i_X8_stop_4 (by decide) m_X8_in rfl (As := [.int v1, .int 0, .int 100]) (rest := []) rfl rfl (Nat.le_of_ble_eq_true rfl) (c_X8_in (by omega) e1) (st' := [.int o1.1]) rfl ?_
  by_cases c2 : o1.1 ≠ 0
  · replace hf := (if_pos c2).symm.trans hf
    refine rs_ifT i_X8_stop_7 (ct_ne c2) (tg := 13) (by decide) ?_
    refine rs_aload_n i_X8_stop_13 rfl ?_
    obtain ⟨c3, hf⟩ := ite_some hf
    refine rs_getI i_X8_stop_14 (by decide) (by decide) c3 ?_
    refine rs_istore_n i_X8_stop_17 (Nat.le_of_ble_eq_true rfl) (lv' := [some (.ref v0), some (.int v1), some (.int (gI o1.2 v0 5))]) rfl ?_
    exact r_X8_stop_18 hd _ _ _ _ _ _ hf
  · replace hf := (if_neg c2).symm.trans hf
    refine rs_ifF i_X8_stop_7 (cf_ne c2) ?_
    refine rs_bipush i_X8_stop_10 (v := (-2)) (by decide) ?_
    have hf := Option.some.inj hf
    subst hf
    exact rs_iret i_X8_stop_12 m_X8_stop rfl
def f_X8_stop (n : Nat) (v0 : Nat) (v1 : Int32) (h : Hp) : Option (Int32 × Hp) := f_X8_stop_0 n v0 v1 h
theorem c_X8_stop {X : Nat → Int32} {d : Nat} (hd : 8 ≤ d) {n : Nat} {v0 : Nat} {v1 : Int32} {h : Hp} {o : (Int32 × Hp)} (hf : f_X8_stop n v0 v1 h = some o) : Calls X d 177 [.ref v0, .int v1] h (some (.int o.1), o.2) := by
  obtain ⟨d, rfl⟩ : ∃ z, d = z + 1 := ⟨d - 1, by omega⟩
  exact ⟨_, rfl, r_X8_stop_0 hd hf⟩
theorem i_X8_worst_0 : fetch 178 0 = some (.iconst (-1), 1, 0, 0, 0, 0) := by decide +kernel
theorem i_X8_worst_1 : fetch 178 1 = some (.istore_n 1, 2, 0, 0, 0, 0) := by decide +kernel
theorem i_X8_worst_2 : fetch 178 2 = some (.lconst 0, 3, 0, 0, 0, 0) := by decide +kernel
theorem i_X8_worst_3 : fetch 178 3 = some (.lstore_n 2, 4, 0, 0, 0, 0) := by decide +kernel
theorem i_X8_worst_4 : fetch 178 4 = some (.iconst 0, 5, 0, 0, 0, 0) := by decide +kernel
theorem i_X8_worst_5 : fetch 178 5 = some (.istore 4, 7, 0, 0, 0, 0) := by decide +kernel
theorem i_X8_worst_7 : fetch 178 7 = some (.iload 4, 9, 0, 0, 0, 0) := by decide +kernel
theorem i_X8_worst_9 : fetch 178 9 = some (.aload_n 0, 10, 0, 0, 0, 0) := by decide +kernel
theorem i_X8_worst_10 : fetch 178 10 = some (.getfield 116, 13, 8, 5, 0, 1014) := by decide +kernel
theorem i_X8_worst_13 : fetch 178 13 = some (.if_icmp .ge 54, 16, 0, 0, 0, 0) := by decide +kernel
theorem i_X8_worst_16 : fetch 178 16 = some (.aload_n 0, 17, 0, 0, 0, 0) := by decide +kernel
theorem i_X8_worst_17 : fetch 178 17 = some (.iload 4, 19, 0, 0, 0, 0) := by decide +kernel
theorem i_X8_worst_19 : fetch 178 19 = some (.invokevirtual 313, 22, 175, 0, 0, 1332) := by decide +kernel
theorem i_X8_worst_22 : fetch 178 22 = some (.aload_n 0, 23, 0, 0, 0, 0) := by decide +kernel
theorem i_X8_worst_23 : fetch 178 23 = some (.iload 4, 25, 0, 0, 0, 0) := by decide +kernel
theorem i_X8_worst_25 : fetch 178 25 = some (.iconst 1, 26, 0, 0, 0, 0) := by decide +kernel
theorem i_X8_worst_26 : fetch 178 26 = some (.iadd, 27, 0, 0, 0, 0) := by decide +kernel
theorem i_X8_worst_27 : fetch 178 27 = some (.invokevirtual 313, 30, 175, 0, 0, 1332) := by decide +kernel
theorem i_X8_worst_30 : fetch 178 30 = some (.lsub, 31, 0, 0, 0, 0) := by decide +kernel
theorem i_X8_worst_31 : fetch 178 31 = some (.lstore 5, 33, 0, 0, 0, 0) := by decide +kernel
theorem i_X8_worst_33 : fetch 178 33 = some (.lload 5, 35, 0, 0, 0, 0) := by decide +kernel
theorem i_X8_worst_35 : fetch 178 35 = some (.lload_n 2, 36, 0, 0, 0, 0) := by decide +kernel
theorem i_X8_worst_36 : fetch 178 36 = some (.lcmp, 37, 0, 0, 0, 0) := by decide +kernel
theorem i_X8_worst_37 : fetch 178 37 = some (.ifCond .le 8, 40, 0, 0, 0, 0) := by decide +kernel
theorem i_X8_worst_40 : fetch 178 40 = some (.iload 4, 42, 0, 0, 0, 0) := by decide +kernel
theorem i_X8_worst_42 : fetch 178 42 = some (.goto 4, 45, 0, 0, 0, 0) := by decide +kernel
theorem i_X8_worst_45 : fetch 178 45 = some (.iload_n 1, 46, 0, 0, 0, 0) := by decide +kernel
theorem i_X8_worst_46 : fetch 178 46 = some (.istore_n 1, 47, 0, 0, 0, 0) := by decide +kernel
theorem i_X8_worst_47 : fetch 178 47 = some (.lload 5, 49, 0, 0, 0, 0) := by decide +kernel
theorem i_X8_worst_49 : fetch 178 49 = some (.lload_n 2, 50, 0, 0, 0, 0) := by decide +kernel
theorem i_X8_worst_50 : fetch 178 50 = some (.lcmp, 51, 0, 0, 0, 0) := by decide +kernel
theorem i_X8_worst_51 : fetch 178 51 = some (.ifCond .le 8, 54, 0, 0, 0, 0) := by decide +kernel
theorem i_X8_worst_54 : fetch 178 54 = some (.lload 5, 56, 0, 0, 0, 0) := by decide +kernel
theorem i_X8_worst_56 : fetch 178 56 = some (.goto 4, 59, 0, 0, 0, 0) := by decide +kernel
theorem i_X8_worst_59 : fetch 178 59 = some (.lload_n 2, 60, 0, 0, 0, 0) := by decide +kernel
theorem i_X8_worst_60 : fetch 178 60 = some (.lstore_n 2, 61, 0, 0, 0, 0) := by decide +kernel
theorem i_X8_worst_61 : fetch 178 61 = some (.iinc 4 1, 64, 0, 0, 0, 0) := by decide +kernel
theorem i_X8_worst_64 : fetch 178 64 = some (.goto (-57), 67, 0, 0, 0, 0) := by decide +kernel
theorem i_X8_worst_67 : fetch 178 67 = some (.iload_n 1, 68, 0, 0, 0, 0) := by decide +kernel
theorem i_X8_worst_68 : fetch 178 68 = some (.ireturn, 69, 0, 0, 0, 0) := by decide +kernel
def f_X8_worst_60 (n : Nat) (K7 : Nat → Int32 → Int64 → Int32 → Hp → Option (Int32 × Hp)) (v0 : Nat) (v1 : Int32) (v4 : Int32) (s0 : Int64) (h : Hp) : Option (Int32 × Hp) :=
  K7 v0 v1 s0 (v4 + 1) h
set_option maxRecDepth 100000 in
set_option maxHeartbeats 4000000 in
theorem r_X8_worst_60 {X : Nat → Int32} {d : Nat} (hd : 8 ≤ (d + 1)) {n : Nat} {K7 : Nat → Int32 → Int64 → Int32 → Hp → Option (Int32 × Hp)} (HK7 : ∀ (v0 : Nat) (v1 : Int32) (v2 : Int64) (v4 : Int32) (w5 : Option Value) (w6 : Option Value) (h : Hp) (o : (Int32 × Hp)), K7 v0 v1 v2 v4 h = some o → Run X (d + 1) 178 7 [some (.ref v0), some (.int v1), some (.long v2), none, some (.int v4), w5, w6] [] h (some (.int o.1), o.2)) {v0 : Nat} {v1 : Int32} {v4 : Int32} {s0 : Int64} {d2 : Int64} {d5 : Int64} {h : Hp} {o : (Int32 × Hp)} (hf : f_X8_worst_60 n K7 v0 v1 v4 s0 h = some o) : Run X (d + 1) 178 60 [some (.ref v0), some (.int v1), some (.long d2), none, some (.int v4), some (.long d5), none] [.long s0] h (some (.int o.1), o.2) := by
  unfold f_X8_worst_60 at hf
  refine rs_lstore_n i_X8_worst_60 (Nat.le_of_ble_eq_true rfl) (lv' := [some (.ref v0), some (.int v1), some (.long s0), none, some (.int v4), some (.long d5), none]) rfl ?_
  refine rs_iinc i_X8_worst_61 rfl (v := v4 + 1) rfl (Nat.le_of_ble_eq_true rfl) (lv' := [some (.ref v0), some (.int v1), some (.long s0), none, some (.int (v4 + 1)), some (.long d5), none]) rfl ?_
  refine rs_goto i_X8_worst_64 (tg := 7) (by decide) ?_
  exact HK7 _ _ _ _ _ _ _ _ hf
def f_X8_worst_46 (n : Nat) (K7 : Nat → Int32 → Int64 → Int32 → Hp → Option (Int32 × Hp)) (v0 : Nat) (v2 : Int64) (v4 : Int32) (v5 : Int64) (s0 : Int32) (h : Hp) : Option (Int32 × Hp) :=
  if v5 ≤ v2 then
    f_X8_worst_60 n K7 v0 s0 v4 v2 h
  else
    f_X8_worst_60 n K7 v0 s0 v4 v5 h
set_option maxRecDepth 100000 in
set_option maxHeartbeats 4000000 in
theorem r_X8_worst_46 {X : Nat → Int32} {d : Nat} (hd : 8 ≤ (d + 1)) {n : Nat} {K7 : Nat → Int32 → Int64 → Int32 → Hp → Option (Int32 × Hp)} (HK7 : ∀ (v0 : Nat) (v1 : Int32) (v2 : Int64) (v4 : Int32) (w5 : Option Value) (w6 : Option Value) (h : Hp) (o : (Int32 × Hp)), K7 v0 v1 v2 v4 h = some o → Run X (d + 1) 178 7 [some (.ref v0), some (.int v1), some (.long v2), none, some (.int v4), w5, w6] [] h (some (.int o.1), o.2)) {v0 : Nat} {v2 : Int64} {v4 : Int32} {v5 : Int64} {s0 : Int32} {d1 : Int32} {h : Hp} {o : (Int32 × Hp)} (hf : f_X8_worst_46 n K7 v0 v2 v4 v5 s0 h = some o) : Run X (d + 1) 178 46 [some (.ref v0), some (.int d1), some (.long v2), none, some (.int v4), some (.long v5), none] [.int s0] h (some (.int o.1), o.2) := by
  unfold f_X8_worst_46 at hf
  refine rs_istore_n i_X8_worst_46 (Nat.le_of_ble_eq_true rfl) (lv' := [some (.ref v0), some (.int s0), some (.long v2), none, some (.int v4), some (.long v5), none]) rfl ?_
  refine rs_lload i_X8_worst_47 rfl ?_
  refine rs_lload_n i_X8_worst_49 rfl ?_
  refine rs_lcmp i_X8_worst_50 ?_
  by_cases c1 : v5 ≤ v2
  · replace hf := (if_pos c1).symm.trans hf
    refine rs_ifT i_X8_worst_51 (by rw [lc_le]; exact decide_eq_true c1) (tg := 59) (by decide) ?_
    refine rs_lload_n i_X8_worst_59 rfl ?_
    exact r_X8_worst_60 hd HK7 hf
  · replace hf := (if_neg c1).symm.trans hf
    refine rs_ifF i_X8_worst_51 (by rw [lc_le]; exact decide_eq_false c1) ?_
    refine rs_lload i_X8_worst_54 rfl ?_
    refine rs_goto i_X8_worst_56 (tg := 60) (by decide) ?_
    exact r_X8_worst_60 hd HK7 hf
def f_X8_worst_7 (n : Nat) : Nat → Nat → Int32 → Int64 → Int32 → Hp → Option (Int32 × Hp)
  | 0, _, _, _, _, _ => none
  | m + 1, v0, v1, v2, v4, h =>
    if okO h v0 8 then
    if (gI h v0 5) ≤ v4 then
      some (v1, h)
    else
      (f_X8_both n v0 v4 h).bind fun o3 =>
      if okO o3.2 v0 8 then
      (f_X8_both n v0 (v4 + 1) o3.2).bind fun o4 =>
      if (o3.1 - o4.1) ≤ v2 then
        f_X8_worst_46 n (f_X8_worst_7 n m) v0 v2 v4 (o3.1 - o4.1) v1 o4.2
      else
        f_X8_worst_46 n (f_X8_worst_7 n m) v0 v2 v4 (o3.1 - o4.1) v4 o4.2
      else none
    else none
set_option maxRecDepth 100000 in
set_option maxHeartbeats 4000000 in
theorem r_X8_worst_7 {X : Nat → Int32} {d : Nat} (hd : 8 ≤ (d + 1)) {n : Nat} : ∀ (m : Nat) (v0 : Nat) (v1 : Int32) (v2 : Int64) (v4 : Int32) (w5 : Option Value) (w6 : Option Value) (h : Hp) (o : (Int32 × Hp)), f_X8_worst_7 n m v0 v1 v2 v4 h = some o → Run X (d + 1) 178 7 [some (.ref v0), some (.int v1), some (.long v2), none, some (.int v4), w5, w6] [] h (some (.int o.1), o.2) := by
  intro m
  induction m with
  | zero => intro v0 v1 v2 v4 w5 w6 h o hf; cases hf
  | succ m ih =>
    intro v0 v1 v2 v4 w5 w6 h o hf
    rw [f_X8_worst_7] at hf
    refine rs_iload i_X8_worst_7 rfl ?_
    refine rs_aload_n i_X8_worst_9 rfl ?_
    obtain ⟨c1, hf⟩ := ite_some hf
    refine rs_getI i_X8_worst_10 (by decide) (by decide) c1 ?_
    by_cases c2 : (gI h v0 5) ≤ v4
    · replace hf := (if_pos c2).symm.trans hf
      refine rs_icT i_X8_worst_13 (ct_ge c2) (tg := 67) (by decide) ?_
      refine rs_iload_n i_X8_worst_67 rfl ?_
      have hf := Option.some.inj hf
      subst hf
      exact rs_iret i_X8_worst_68 m_X8_worst rfl
    · replace hf := (if_neg c2).symm.trans hf
      refine rs_icF i_X8_worst_13 (cf_ge c2) ?_
      refine rs_aload_n i_X8_worst_16 rfl ?_
      refine rs_iload i_X8_worst_17 rfl ?_
      obtain ⟨o3, e3, hf⟩ := bind_some hf
      refine rs_inV i_X8_worst_19 m_X8_both rfl (As := [.int v4]) (rest := []) rfl rfl (Nat.le_of_ble_eq_true rfl) c1 (c_X8_both (by omega) e3) (st' := [.long o3.1]) rfl ?_
      refine rs_aload_n i_X8_worst_22 rfl ?_
      refine rs_iload i_X8_worst_23 rfl ?_
      refine rs_iconst i_X8_worst_25 (v := 1) (by decide) ?_
      refine rs_iadd i_X8_worst_26 ?_
      obtain ⟨c5, hf⟩ := ite_some hf
      obtain ⟨o4, e4, hf⟩ := bind_some hf
      refine rs_inV i_X8_worst_27 m_X8_both rfl (As := [.int (v4 + 1)]) (rest := [.long o3.1]) rfl rfl (Nat.le_of_ble_eq_true rfl) c5 (c_X8_both (by omega) e4) (st' := [.long o4.1, .long o3.1]) rfl ?_
      refine rs_lsub i_X8_worst_30 ?_
      refine rs_lstore i_X8_worst_31 (Nat.le_of_ble_eq_true rfl) (lv' := [some (.ref v0), some (.int v1), some (.long v2), none, some (.int v4), some (.long (o3.1 - o4.1)), none]) rfl ?_
      refine rs_lload i_X8_worst_33 rfl ?_
      refine rs_lload_n i_X8_worst_35 rfl ?_
      refine rs_lcmp i_X8_worst_36 ?_
      by_cases c6 : (o3.1 - o4.1) ≤ v2
      · replace hf := (if_pos c6).symm.trans hf
        refine rs_ifT i_X8_worst_37 (by rw [lc_le]; exact decide_eq_true c6) (tg := 45) (by decide) ?_
        refine rs_iload_n i_X8_worst_45 rfl ?_
        exact r_X8_worst_46 hd ih hf
      · replace hf := (if_neg c6).symm.trans hf
        refine rs_ifF i_X8_worst_37 (by rw [lc_le]; exact decide_eq_false c6) ?_
        refine rs_iload i_X8_worst_40 rfl ?_
        refine rs_goto i_X8_worst_42 (tg := 46) (by decide) ?_
        exact r_X8_worst_46 hd ih hf
def f_X8_worst_0 (n : Nat) (v0 : Nat) (h : Hp) : Option (Int32 × Hp) :=
  f_X8_worst_7 n n v0 (-1) 0 0 h
set_option maxRecDepth 100000 in
set_option maxHeartbeats 4000000 in
theorem r_X8_worst_0 {X : Nat → Int32} {d : Nat} (hd : 8 ≤ (d + 1)) {n : Nat} {v0 : Nat} {h : Hp} {o : (Int32 × Hp)} (hf : f_X8_worst_0 n v0 h = some o) : Run X (d + 1) 178 0 [some (.ref v0), none, none, none, none, none, none] [] h (some (.int o.1), o.2) := by
  unfold f_X8_worst_0 at hf
  refine rs_iconst i_X8_worst_0 (v := (-1)) (by decide) ?_
  refine rs_istore_n i_X8_worst_1 (Nat.le_of_ble_eq_true rfl) (lv' := [some (.ref v0), some (.int (-1)), none, none, none, none, none]) rfl ?_
  refine rs_lconst i_X8_worst_2 (v := 0) (by decide) ?_
  refine rs_lstore_n i_X8_worst_3 (Nat.le_of_ble_eq_true rfl) (lv' := [some (.ref v0), some (.int (-1)), some (.long 0), none, none, none, none]) rfl ?_
  refine rs_iconst i_X8_worst_4 (v := 0) (by decide) ?_
  refine rs_istore i_X8_worst_5 (Nat.le_of_ble_eq_true rfl) (lv' := [some (.ref v0), some (.int (-1)), some (.long 0), none, some (.int 0), none, none]) rfl ?_
  exact r_X8_worst_7 hd _ _ _ _ _ _ _ _ _ hf
def f_X8_worst (n : Nat) (v0 : Nat) (h : Hp) : Option (Int32 × Hp) := f_X8_worst_0 n v0 h
theorem c_X8_worst {X : Nat → Int32} {d : Nat} (hd : 8 ≤ d) {n : Nat} {v0 : Nat} {h : Hp} {o : (Int32 × Hp)} (hf : f_X8_worst n v0 h = some o) : Calls X d 178 [.ref v0] h (some (.int o.1), o.2) := by
  obtain ⟨d, rfl⟩ : ∃ z, d = z + 1 := ⟨d - 1, by omega⟩
  exact ⟨_, rfl, r_X8_worst_0 hd hf⟩
theorem i_X8_some_0 : fetch 179 0 = some (.iload_n 0, 1, 0, 0, 0, 0) := by decide +kernel
theorem i_X8_some_1 : fetch 179 1 = some (.iconst 1, 2, 0, 0, 0, 0) := by decide +kernel
theorem i_X8_some_2 : fetch 179 2 = some (.if_icmp .ge 7, 5, 0, 0, 0, 0) := by decide +kernel
theorem i_X8_some_5 : fetch 179 5 = some (.lconst 1, 6, 0, 0, 0, 0) := by decide +kernel
theorem i_X8_some_6 : fetch 179 6 = some (.goto 5, 9, 0, 0, 0, 0) := by decide +kernel
theorem i_X8_some_9 : fetch 179 9 = some (.iload_n 0, 10, 0, 0, 0, 0) := by decide +kernel
theorem i_X8_some_10 : fetch 179 10 = some (.i2l, 11, 0, 0, 0, 0) := by decide +kernel
theorem i_X8_some_11 : fetch 179 11 = some (.lreturn, 12, 0, 0, 0, 0) := by decide +kernel
def f_X8_some_0 (v0 : Int32) (h : Hp) : Option (Int64 × Hp) :=
  if 1 ≤ v0 then
    some ((Int32.toInt64 v0), h)
  else
    some (1, h)
set_option maxRecDepth 100000 in
set_option maxHeartbeats 4000000 in
theorem r_X8_some_0 {X : Nat → Int32} {d : Nat} (hd : 0 ≤ d) {v0 : Int32} {h : Hp} {o : (Int64 × Hp)} (hf : f_X8_some_0 v0 h = some o) : Run X d 179 0 [some (.int v0)] [] h (some (.long o.1), o.2) := by
  unfold f_X8_some_0 at hf
  refine rs_iload_n i_X8_some_0 rfl ?_
  refine rs_iconst i_X8_some_1 (v := 1) (by decide) ?_
  by_cases c1 : 1 ≤ v0
  · replace hf := (if_pos c1).symm.trans hf
    refine rs_icT i_X8_some_2 (ct_ge c1) (tg := 9) (by decide) ?_
    refine rs_iload_n i_X8_some_9 rfl ?_
    refine rs_i2l i_X8_some_10 ?_
    have hf := Option.some.inj hf
    subst hf
    exact rs_lret i_X8_some_11 m_X8_some rfl
  · replace hf := (if_neg c1).symm.trans hf
    refine rs_icF i_X8_some_2 (cf_ge c1) ?_
    refine rs_lconst i_X8_some_5 (v := 1) (by decide) ?_
    refine rs_goto i_X8_some_6 (tg := 11) (by decide) ?_
    have hf := Option.some.inj hf
    subst hf
    exact rs_lret i_X8_some_11 m_X8_some rfl
def f_X8_some (v0 : Int32) (h : Hp) : Option (Int64 × Hp) := f_X8_some_0 v0 h
theorem c_X8_some {X : Nat → Int32} {d : Nat} (hd : 0 ≤ d) {v0 : Int32} {h : Hp} {o : (Int64 × Hp)} (hf : f_X8_some v0 h = some o) : Calls X d 179 [.int v0] h (some (.long o.1), o.2) := by
  exact ⟨_, rfl, r_X8_some_0 hd hf⟩
theorem i_X8_window_0 : fetch 180 0 = some (.aload_n 0, 1, 0, 0, 0, 0) := by decide +kernel
theorem i_X8_window_1 : fetch 180 1 = some (.iload_n 1, 2, 0, 0, 0, 0) := by decide +kernel
theorem i_X8_window_2 : fetch 180 2 = some (.invokevirtual 286, 5, 128, 0, 0, 1223) := by decide +kernel
theorem i_X8_window_5 : fetch 180 5 = some (.ifCond .ne 6, 8, 0, 0, 0, 0) := by decide +kernel
theorem i_X8_window_8 : fetch 180 8 = some (.bipush (-5), 10, 0, 0, 0, 0) := by decide +kernel
theorem i_X8_window_10 : fetch 180 10 = some (.ireturn, 11, 0, 0, 0, 0) := by decide +kernel
theorem i_X8_window_11 : fetch 180 11 = some (.iload_n 2, 12, 0, 0, 0, 0) := by decide +kernel
theorem i_X8_window_12 : fetch 180 12 = some (.iconst 0, 13, 0, 0, 0, 0) := by decide +kernel
theorem i_X8_window_13 : fetch 180 13 = some (.bipush 9, 15, 0, 0, 0, 0) := by decide +kernel
theorem i_X8_window_15 : fetch 180 15 = some (.invokestatic 112, 18, 126, 0, 0, 970) := by decide +kernel
theorem i_X8_window_18 : fetch 180 18 = some (.ifCond .ne 6, 21, 0, 0, 0, 0) := by decide +kernel
theorem i_X8_window_21 : fetch 180 21 = some (.bipush (-7), 23, 0, 0, 0, 0) := by decide +kernel
theorem i_X8_window_23 : fetch 180 23 = some (.ireturn, 24, 0, 0, 0, 0) := by decide +kernel
theorem i_X8_window_24 : fetch 180 24 = some (.aload_n 0, 25, 0, 0, 0, 0) := by decide +kernel
theorem i_X8_window_25 : fetch 180 25 = some (.iload_n 1, 26, 0, 0, 0, 0) := by decide +kernel
theorem i_X8_window_26 : fetch 180 26 = some (.invokevirtual 289, 29, 168, 0, 0, 1227) := by decide +kernel
theorem i_X8_window_29 : fetch 180 29 = some (.aload_n 0, 30, 0, 0, 0, 0) := by decide +kernel
theorem i_X8_window_30 : fetch 180 30 = some (.aload_n 0, 31, 0, 0, 0, 0) := by decide +kernel
theorem i_X8_window_31 : fetch 180 31 = some (.invokevirtual 292, 34, 171, 0, 0, 1314) := by decide +kernel
theorem i_X8_window_34 : fetch 180 34 = some (.invokevirtual 202, 37, 154, 0, 0, 1256) := by decide +kernel
theorem i_X8_window_37 : fetch 180 37 = some (.istore_n 3, 38, 0, 0, 0, 0) := by decide +kernel
theorem i_X8_window_38 : fetch 180 38 = some (.aload_n 0, 39, 0, 0, 0, 0) := by decide +kernel
theorem i_X8_window_39 : fetch 180 39 = some (.aload_n 0, 40, 0, 0, 0, 0) := by decide +kernel
theorem i_X8_window_40 : fetch 180 40 = some (.invokevirtual 295, 43, 170, 0, 0, 1310) := by decide +kernel
theorem i_X8_window_43 : fetch 180 43 = some (.invokevirtual 202, 46, 154, 0, 0, 1256) := by decide +kernel
theorem i_X8_window_46 : fetch 180 46 = some (.istore 4, 48, 0, 0, 0, 0) := by decide +kernel
theorem i_X8_window_48 : fetch 180 48 = some (.iconst 0, 49, 0, 0, 0, 0) := by decide +kernel
theorem i_X8_window_49 : fetch 180 49 = some (.istore 5, 51, 0, 0, 0, 0) := by decide +kernel
theorem i_X8_window_51 : fetch 180 51 = some (.iconst 1, 52, 0, 0, 0, 0) := by decide +kernel
theorem i_X8_window_52 : fetch 180 52 = some (.istore 6, 54, 0, 0, 0, 0) := by decide +kernel
theorem i_X8_window_54 : fetch 180 54 = some (.iload 6, 56, 0, 0, 0, 0) := by decide +kernel
theorem i_X8_window_56 : fetch 180 56 = some (.bipush 9, 58, 0, 0, 0, 0) := by decide +kernel
theorem i_X8_window_58 : fetch 180 58 = some (.if_icmp .gt 75, 61, 0, 0, 0, 0) := by decide +kernel
theorem i_X8_window_61 : fetch 180 61 = some (.aload_n 0, 62, 0, 0, 0, 0) := by decide +kernel
theorem i_X8_window_62 : fetch 180 62 = some (.iload_n 1, 63, 0, 0, 0, 0) := by decide +kernel
theorem i_X8_window_63 : fetch 180 63 = some (.invokevirtual 289, 66, 168, 0, 0, 1227) := by decide +kernel
theorem i_X8_window_66 : fetch 180 66 = some (.aload_n 0, 67, 0, 0, 0, 0) := by decide +kernel
theorem i_X8_window_67 : fetch 180 67 = some (.aload_n 0, 68, 0, 0, 0, 0) := by decide +kernel
theorem i_X8_window_68 : fetch 180 68 = some (.invokevirtual 254, 71, 156, 0, 0, 1244) := by decide +kernel
theorem i_X8_window_71 : fetch 180 71 = some (.iload_n 2, 72, 0, 0, 0, 0) := by decide +kernel
theorem i_X8_window_72 : fetch 180 72 = some (.imul, 73, 0, 0, 0, 0) := by decide +kernel
theorem i_X8_window_73 : fetch 180 73 = some (.bipush 10, 75, 0, 0, 0, 0) := by decide +kernel
theorem i_X8_window_75 : fetch 180 75 = some (.idiv, 76, 0, 0, 0, 0) := by decide +kernel
theorem i_X8_window_76 : fetch 180 76 = some (.iload 6, 78, 0, 0, 0, 0) := by decide +kernel
theorem i_X8_window_78 : fetch 180 78 = some (.invokevirtual 257, 81, 158, 0, 0, 1248) := by decide +kernel
theorem i_X8_window_81 : fetch 180 81 = some (.iload 5, 83, 0, 0, 0, 0) := by decide +kernel
theorem i_X8_window_83 : fetch 180 83 = some (.aload_n 0, 84, 0, 0, 0, 0) := by decide +kernel
theorem i_X8_window_84 : fetch 180 84 = some (.aload_n 0, 85, 0, 0, 0, 0) := by decide +kernel
theorem i_X8_window_85 : fetch 180 85 = some (.invokevirtual 292, 88, 171, 0, 0, 1314) := by decide +kernel
theorem i_X8_window_88 : fetch 180 88 = some (.invokevirtual 202, 91, 154, 0, 0, 1256) := by decide +kernel
theorem i_X8_window_91 : fetch 180 91 = some (.i2l, 92, 0, 0, 0, 0) := by decide +kernel
theorem i_X8_window_92 : fetch 180 92 = some (.iload 4, 94, 0, 0, 0, 0) := by decide +kernel
theorem i_X8_window_94 : fetch 180 94 = some (.invokestatic 317, 97, 179, 0, 0, 1348) := by decide +kernel
theorem i_X8_window_97 : fetch 180 97 = some (.lmul, 98, 0, 0, 0, 0) := by decide +kernel
theorem i_X8_window_98 : fetch 180 98 = some (.iload_n 3, 99, 0, 0, 0, 0) := by decide +kernel
theorem i_X8_window_99 : fetch 180 99 = some (.i2l, 100, 0, 0, 0, 0) := by decide +kernel
theorem i_X8_window_100 : fetch 180 100 = some (.aload_n 0, 101, 0, 0, 0, 0) := by decide +kernel
theorem i_X8_window_101 : fetch 180 101 = some (.aload_n 0, 102, 0, 0, 0, 0) := by decide +kernel
theorem i_X8_window_102 : fetch 180 102 = some (.invokevirtual 295, 105, 170, 0, 0, 1310) := by decide +kernel
theorem i_X8_window_105 : fetch 180 105 = some (.invokevirtual 202, 108, 154, 0, 0, 1256) := by decide +kernel
theorem i_X8_window_108 : fetch 180 108 = some (.invokestatic 317, 111, 179, 0, 0, 1348) := by decide +kernel
theorem i_X8_window_111 : fetch 180 111 = some (.lmul, 112, 0, 0, 0, 0) := by decide +kernel
theorem i_X8_window_112 : fetch 180 112 = some (.lcmp, 113, 0, 0, 0, 0) := by decide +kernel
theorem i_X8_window_113 : fetch 180 113 = some (.ifCond .ge 10, 116, 0, 0, 0, 0) := by decide +kernel
theorem i_X8_window_116 : fetch 180 116 = some (.iconst 1, 117, 0, 0, 0, 0) := by decide +kernel
theorem i_X8_window_117 : fetch 180 117 = some (.iload 6, 119, 0, 0, 0, 0) := by decide +kernel
theorem i_X8_window_119 : fetch 180 119 = some (.ishl, 120, 0, 0, 0, 0) := by decide +kernel
theorem i_X8_window_120 : fetch 180 120 = some (.goto 4, 123, 0, 0, 0, 0) := by decide +kernel
theorem i_X8_window_123 : fetch 180 123 = some (.iconst 0, 124, 0, 0, 0, 0) := by decide +kernel
theorem i_X8_window_124 : fetch 180 124 = some (.ior, 125, 0, 0, 0, 0) := by decide +kernel
theorem i_X8_window_125 : fetch 180 125 = some (.istore 5, 127, 0, 0, 0, 0) := by decide +kernel
theorem i_X8_window_127 : fetch 180 127 = some (.iinc 6 1, 130, 0, 0, 0, 0) := by decide +kernel
theorem i_X8_window_130 : fetch 180 130 = some (.goto (-76), 133, 0, 0, 0, 0) := by decide +kernel
theorem i_X8_window_133 : fetch 180 133 = some (.iload 5, 135, 0, 0, 0, 0) := by decide +kernel
theorem i_X8_window_135 : fetch 180 135 = some (.ireturn, 136, 0, 0, 0, 0) := by decide +kernel
def f_X8_window_124 (n : Nat) (K54 : Nat → Int32 → Int32 → Int32 → Int32 → Int32 → Int32 → Hp → Option (Int32 × Hp)) (v0 : Nat) (v1 : Int32) (v2 : Int32) (v3 : Int32) (v4 : Int32) (v6 : Int32) (s0 : Int32) (s1 : Int32) (h : Hp) : Option (Int32 × Hp) :=
  K54 v0 v1 v2 v3 v4 (s0 ||| s1) (v6 + 1) h
set_option maxRecDepth 100000 in
set_option maxHeartbeats 4000000 in
theorem r_X8_window_124 {X : Nat → Int32} {d : Nat} (hd : 7 ≤ (d + 1)) {n : Nat} {K54 : Nat → Int32 → Int32 → Int32 → Int32 → Int32 → Int32 → Hp → Option (Int32 × Hp)} (HK54 : ∀ (v0 : Nat) (v1 : Int32) (v2 : Int32) (v3 : Int32) (v4 : Int32) (v5 : Int32) (v6 : Int32) (h : Hp) (o : (Int32 × Hp)), K54 v0 v1 v2 v3 v4 v5 v6 h = some o → Run X (d + 1) 180 54 [some (.ref v0), some (.int v1), some (.int v2), some (.int v3), some (.int v4), some (.int v5), some (.int v6)] [] h (some (.int o.1), o.2)) {v0 : Nat} {v1 : Int32} {v2 : Int32} {v3 : Int32} {v4 : Int32} {v6 : Int32} {s0 : Int32} {s1 : Int32} {d5 : Int32} {h : Hp} {o : (Int32 × Hp)} (hf : f_X8_window_124 n K54 v0 v1 v2 v3 v4 v6 s0 s1 h = some o) : Run X (d + 1) 180 124 [some (.ref v0), some (.int v1), some (.int v2), some (.int v3), some (.int v4), some (.int d5), some (.int v6)] [.int s1, .int s0] h (some (.int o.1), o.2) := by
  unfold f_X8_window_124 at hf
  refine rs_ior i_X8_window_124 ?_
  refine rs_istore i_X8_window_125 (Nat.le_of_ble_eq_true rfl) (lv' := [some (.ref v0), some (.int v1), some (.int v2), some (.int v3), some (.int v4), some (.int (s0 ||| s1)), some (.int v6)]) rfl ?_
  refine rs_iinc i_X8_window_127 rfl (v := v6 + 1) rfl (Nat.le_of_ble_eq_true rfl) (lv' := [some (.ref v0), some (.int v1), some (.int v2), some (.int v3), some (.int v4), some (.int (s0 ||| s1)), some (.int (v6 + 1))]) rfl ?_
  refine rs_goto i_X8_window_130 (tg := 54) (by decide) ?_
  exact HK54 _ _ _ _ _ _ _ _ _ hf
def f_X8_window_54 (n : Nat) : Nat → Nat → Int32 → Int32 → Int32 → Int32 → Int32 → Int32 → Hp → Option (Int32 × Hp)
  | 0, _, _, _, _, _, _, _, _ => none
  | m + 1, v0, v1, v2, v3, v4, v5, v6, h =>
    if 9 < v6 then
      some (v5, h)
    else
      if okO h v0 8 then
      (f_X8_goes n v0 v1 h).bind fun o2 =>
      if okO o2 v0 8 then
      (f_X8_allLength n v0 o2).bind fun o4 =>
      if okO o4.2 v0 8 then
      (f_X8_draws n v0 ((o4.1 * v2) / 10) v6 o4.2).bind fun o6 =>
      if okO o6 v0 8 then
      (f_X8_greatest n v0 o6).bind fun o8 =>
      if okO o8.2 v0 8 then
      (f_X8_thickOf v0 o8.1 o8.2).bind fun o10 =>
      (f_X8_some v4 o10.2).bind fun o12 =>
      if okO o12.2 v0 8 then
      (f_X8_least n v0 o12.2).bind fun o13 =>
      if okO o13.2 v0 8 then
      (f_X8_thickOf v0 o13.1 o13.2).bind fun o15 =>
      (f_X8_some o15.1 o15.2).bind fun o17 =>
      if ((Int32.toInt64 v3) * o17.1) ≤ ((Int32.toInt64 o10.1) * o12.1) then
        f_X8_window_124 n (f_X8_window_54 n m) v0 v1 v2 v3 v4 v6 v5 0 o17.2
      else
        f_X8_window_124 n (f_X8_window_54 n m) v0 v1 v2 v3 v4 v6 v5 (1 <<< (v6 &&& 31)) o17.2
      else none
      else none
      else none
      else none
      else none
      else none
      else none
set_option maxRecDepth 100000 in
set_option maxHeartbeats 4000000 in
theorem r_X8_window_54 {X : Nat → Int32} {d : Nat} (hd : 7 ≤ (d + 1)) {n : Nat} : ∀ (m : Nat) (v0 : Nat) (v1 : Int32) (v2 : Int32) (v3 : Int32) (v4 : Int32) (v5 : Int32) (v6 : Int32) (h : Hp) (o : (Int32 × Hp)), f_X8_window_54 n m v0 v1 v2 v3 v4 v5 v6 h = some o → Run X (d + 1) 180 54 [some (.ref v0), some (.int v1), some (.int v2), some (.int v3), some (.int v4), some (.int v5), some (.int v6)] [] h (some (.int o.1), o.2) := by
  intro m
  induction m with
  | zero => intro v0 v1 v2 v3 v4 v5 v6 h o hf; cases hf
  | succ m ih =>
    intro v0 v1 v2 v3 v4 v5 v6 h o hf
    rw [f_X8_window_54] at hf
    refine rs_iload i_X8_window_54 rfl ?_
    refine rs_bipush i_X8_window_56 (v := 9) (by decide) ?_
    by_cases c1 : 9 < v6
    · replace hf := (if_pos c1).symm.trans hf
      refine rs_icT i_X8_window_58 (ct_gt c1) (tg := 133) (by decide) ?_
      refine rs_iload i_X8_window_133 rfl ?_
      have hf := Option.some.inj hf
      subst hf
      exact rs_iret i_X8_window_135 m_X8_window rfl
    · replace hf := (if_neg c1).symm.trans hf
      refine rs_icF i_X8_window_58 (cf_gt c1) ?_
      refine rs_aload_n i_X8_window_61 rfl ?_
      refine rs_iload_n i_X8_window_62 rfl ?_
      obtain ⟨c3, hf⟩ := ite_some hf
      obtain ⟨o2, e2, hf⟩ := bind_some hf
      refine rs_inV i_X8_window_63 m_X8_goes rfl (As := [.int v1]) (rest := []) rfl rfl (Nat.le_of_ble_eq_true rfl) c3 (c_X8_goes (by omega) e2) (st' := []) rfl ?_
      refine rs_aload_n i_X8_window_66 rfl ?_
      refine rs_aload_n i_X8_window_67 rfl ?_
      obtain ⟨c5, hf⟩ := ite_some hf
      obtain ⟨o4, e4, hf⟩ := bind_some hf
      refine rs_inV i_X8_window_68 m_X8_allLength rfl (As := []) (rest := [.ref v0]) rfl rfl (Nat.le_of_ble_eq_true rfl) c5 (c_X8_allLength (by omega) e4) (st' := [.int o4.1, .ref v0]) rfl ?_
      refine rs_iload_n i_X8_window_71 rfl ?_
      refine rs_imul i_X8_window_72 ?_
      refine rs_bipush i_X8_window_73 (v := 10) (by decide) ?_
      refine rs_idiv i_X8_window_75 (by decide) ?_
      refine rs_iload i_X8_window_76 rfl ?_
      obtain ⟨c7, hf⟩ := ite_some hf
      obtain ⟨o6, e6, hf⟩ := bind_some hf
      refine rs_inV i_X8_window_78 m_X8_draws rfl (As := [.int ((o4.1 * v2) / 10), .int v6]) (rest := []) rfl rfl (Nat.le_of_ble_eq_true rfl) c7 (c_X8_draws (by omega) e6) (st' := []) rfl ?_
      refine rs_iload i_X8_window_81 rfl ?_
      refine rs_aload_n i_X8_window_83 rfl ?_
      refine rs_aload_n i_X8_window_84 rfl ?_
      obtain ⟨c9, hf⟩ := ite_some hf
      obtain ⟨o8, e8, hf⟩ := bind_some hf
      refine rs_inV i_X8_window_85 m_X8_greatest rfl (As := []) (rest := [.ref v0, .int v5]) rfl rfl (Nat.le_of_ble_eq_true rfl) c9 (c_X8_greatest (by omega) e8) (st' := [.int o8.1, .ref v0, .int v5]) rfl ?_
      obtain ⟨c11, hf⟩ := ite_some hf
      obtain ⟨o10, e10, hf⟩ := bind_some hf
      refine rs_inV i_X8_window_88 m_X8_thickOf rfl (As := [.int o8.1]) (rest := [.int v5]) rfl rfl (Nat.le_of_ble_eq_true rfl) c11 (c_X8_thickOf (by omega) e10) (st' := [.int o10.1, .int v5]) rfl ?_
      refine rs_i2l i_X8_window_91 ?_
      refine rs_iload i_X8_window_92 rfl ?_
      obtain ⟨o12, e12, hf⟩ := bind_some hf
      refine rs_inS i_X8_window_94 (by decide) m_X8_some rfl (As := [.int v4]) (rest := [.long (Int32.toInt64 o10.1), .int v5]) rfl rfl (Nat.le_of_ble_eq_true rfl) (c_X8_some (by omega) e12) (st' := [.long o12.1, .long (Int32.toInt64 o10.1), .int v5]) rfl ?_
      refine rs_lmul i_X8_window_97 ?_
      refine rs_iload_n i_X8_window_98 rfl ?_
      refine rs_i2l i_X8_window_99 ?_
      refine rs_aload_n i_X8_window_100 rfl ?_
      refine rs_aload_n i_X8_window_101 rfl ?_
      obtain ⟨c14, hf⟩ := ite_some hf
      obtain ⟨o13, e13, hf⟩ := bind_some hf
      refine rs_inV i_X8_window_102 m_X8_least rfl (As := []) (rest := [.ref v0, .long (Int32.toInt64 v3), .long ((Int32.toInt64 o10.1) * o12.1), .int v5]) rfl rfl (Nat.le_of_ble_eq_true rfl) c14 (c_X8_least (by omega) e13) (st' := [.int o13.1, .ref v0, .long (Int32.toInt64 v3), .long ((Int32.toInt64 o10.1) * o12.1), .int v5]) rfl ?_
      obtain ⟨c16, hf⟩ := ite_some hf
      obtain ⟨o15, e15, hf⟩ := bind_some hf
      refine rs_inV i_X8_window_105 m_X8_thickOf rfl (As := [.int o13.1]) (rest := [.long (Int32.toInt64 v3), .long ((Int32.toInt64 o10.1) * o12.1), .int v5]) rfl rfl (Nat.le_of_ble_eq_true rfl) c16 (c_X8_thickOf (by omega) e15) (st' := [.int o15.1, .long (Int32.toInt64 v3), .long ((Int32.toInt64 o10.1) * o12.1), .int v5]) rfl ?_
      obtain ⟨o17, e17, hf⟩ := bind_some hf
      refine rs_inS i_X8_window_108 (by decide) m_X8_some rfl (As := [.int o15.1]) (rest := [.long (Int32.toInt64 v3), .long ((Int32.toInt64 o10.1) * o12.1), .int v5]) rfl rfl (Nat.le_of_ble_eq_true rfl) (c_X8_some (by omega) e17) (st' := [.long o17.1, .long (Int32.toInt64 v3), .long ((Int32.toInt64 o10.1) * o12.1), .int v5]) rfl ?_
      refine rs_lmul i_X8_window_111 ?_
      refine rs_lcmp i_X8_window_112 ?_
      by_cases c18 : ((Int32.toInt64 v3) * o17.1) ≤ ((Int32.toInt64 o10.1) * o12.1)
      · replace hf := (if_pos c18).symm.trans hf
        refine rs_ifT i_X8_window_113 (by rw [lc_ge]; exact decide_eq_true c18) (tg := 123) (by decide) ?_
        refine rs_iconst i_X8_window_123 (v := 0) (by decide) ?_
        exact r_X8_window_124 hd ih hf
      · replace hf := (if_neg c18).symm.trans hf
        refine rs_ifF i_X8_window_113 (by rw [lc_ge]; exact decide_eq_false c18) ?_
        refine rs_iconst i_X8_window_116 (v := 1) (by decide) ?_
        refine rs_iload i_X8_window_117 rfl ?_
        refine rs_ishl i_X8_window_119 ?_
        refine rs_goto i_X8_window_120 (tg := 124) (by decide) ?_
        exact r_X8_window_124 hd ih hf
def f_X8_window_0 (n : Nat) (v0 : Nat) (v1 : Int32) (v2 : Int32) (h : Hp) : Option (Int32 × Hp) :=
  if okO h v0 8 then
  (f_X8_areSteps v0 v1 h).bind fun o1 =>
  if o1.1 ≠ 0 then
    (f_X8_in v2 0 9 o1.2).bind fun o4 =>
    if o4.1 ≠ 0 then
      if okO o4.2 v0 8 then
      (f_X8_goes n v0 v1 o4.2).bind fun o6 =>
      if okO o6 v0 8 then
      (f_X8_greatest n v0 o6).bind fun o8 =>
      if okO o8.2 v0 8 then
      (f_X8_thickOf v0 o8.1 o8.2).bind fun o10 =>
      if okO o10.2 v0 8 then
      (f_X8_least n v0 o10.2).bind fun o12 =>
      if okO o12.2 v0 8 then
      (f_X8_thickOf v0 o12.1 o12.2).bind fun o14 =>
      f_X8_window_54 n n v0 v1 v2 o10.1 o14.1 0 1 o14.2
      else none
      else none
      else none
      else none
      else none
    else
      some ((-7), o4.2)
  else
    some ((-5), o1.2)
  else none
set_option maxRecDepth 100000 in
set_option maxHeartbeats 4000000 in
theorem r_X8_window_0 {X : Nat → Int32} {d : Nat} (hd : 7 ≤ (d + 1)) {n : Nat} {v0 : Nat} {v1 : Int32} {v2 : Int32} {h : Hp} {o : (Int32 × Hp)} (hf : f_X8_window_0 n v0 v1 v2 h = some o) : Run X (d + 1) 180 0 [some (.ref v0), some (.int v1), some (.int v2), none, none, none, none] [] h (some (.int o.1), o.2) := by
  unfold f_X8_window_0 at hf
  refine rs_aload_n i_X8_window_0 rfl ?_
  refine rs_iload_n i_X8_window_1 rfl ?_
  obtain ⟨c2, hf⟩ := ite_some hf
  obtain ⟨o1, e1, hf⟩ := bind_some hf
  refine rs_inV i_X8_window_2 m_X8_areSteps rfl (As := [.int v1]) (rest := []) rfl rfl (Nat.le_of_ble_eq_true rfl) c2 (c_X8_areSteps (by omega) e1) (st' := [.int o1.1]) rfl ?_
  by_cases c3 : o1.1 ≠ 0
  · replace hf := (if_pos c3).symm.trans hf
    refine rs_ifT i_X8_window_5 (ct_ne c3) (tg := 11) (by decide) ?_
    refine rs_iload_n i_X8_window_11 rfl ?_
    refine rs_iconst i_X8_window_12 (v := 0) (by decide) ?_
    refine rs_bipush i_X8_window_13 (v := 9) (by decide) ?_
    obtain ⟨o4, e4, hf⟩ := bind_some hf
    refine rs_inS i_X8_window_15 (by decide) m_X8_in rfl (As := [.int v2, .int 0, .int 9]) (rest := []) rfl rfl (Nat.le_of_ble_eq_true rfl) (c_X8_in (by omega) e4) (st' := [.int o4.1]) rfl ?_
    by_cases c5 : o4.1 ≠ 0
    · replace hf := (if_pos c5).symm.trans hf
      refine rs_ifT i_X8_window_18 (ct_ne c5) (tg := 24) (by decide) ?_
      refine rs_aload_n i_X8_window_24 rfl ?_
      refine rs_iload_n i_X8_window_25 rfl ?_
      obtain ⟨c7, hf⟩ := ite_some hf
      obtain ⟨o6, e6, hf⟩ := bind_some hf
      refine rs_inV i_X8_window_26 m_X8_goes rfl (As := [.int v1]) (rest := []) rfl rfl (Nat.le_of_ble_eq_true rfl) c7 (c_X8_goes (by omega) e6) (st' := []) rfl ?_
      refine rs_aload_n i_X8_window_29 rfl ?_
      refine rs_aload_n i_X8_window_30 rfl ?_
      obtain ⟨c9, hf⟩ := ite_some hf
      obtain ⟨o8, e8, hf⟩ := bind_some hf
      refine rs_inV i_X8_window_31 m_X8_greatest rfl (As := []) (rest := [.ref v0]) rfl rfl (Nat.le_of_ble_eq_true rfl) c9 (c_X8_greatest (by omega) e8) (st' := [.int o8.1, .ref v0]) rfl ?_
      obtain ⟨c11, hf⟩ := ite_some hf
      obtain ⟨o10, e10, hf⟩ := bind_some hf
      refine rs_inV i_X8_window_34 m_X8_thickOf rfl (As := [.int o8.1]) (rest := []) rfl rfl (Nat.le_of_ble_eq_true rfl) c11 (c_X8_thickOf (by omega) e10) (st' := [.int o10.1]) rfl ?_
      refine rs_istore_n i_X8_window_37 (Nat.le_of_ble_eq_true rfl) (lv' := [some (.ref v0), some (.int v1), some (.int v2), some (.int o10.1), none, none, none]) rfl ?_
      refine rs_aload_n i_X8_window_38 rfl ?_
      refine rs_aload_n i_X8_window_39 rfl ?_
      obtain ⟨c13, hf⟩ := ite_some hf
      obtain ⟨o12, e12, hf⟩ := bind_some hf
      refine rs_inV i_X8_window_40 m_X8_least rfl (As := []) (rest := [.ref v0]) rfl rfl (Nat.le_of_ble_eq_true rfl) c13 (c_X8_least (by omega) e12) (st' := [.int o12.1, .ref v0]) rfl ?_
      obtain ⟨c15, hf⟩ := ite_some hf
      obtain ⟨o14, e14, hf⟩ := bind_some hf
      refine rs_inV i_X8_window_43 m_X8_thickOf rfl (As := [.int o12.1]) (rest := []) rfl rfl (Nat.le_of_ble_eq_true rfl) c15 (c_X8_thickOf (by omega) e14) (st' := [.int o14.1]) rfl ?_
      refine rs_istore i_X8_window_46 (Nat.le_of_ble_eq_true rfl) (lv' := [some (.ref v0), some (.int v1), some (.int v2), some (.int o10.1), some (.int o14.1), none, none]) rfl ?_
      refine rs_iconst i_X8_window_48 (v := 0) (by decide) ?_
      refine rs_istore i_X8_window_49 (Nat.le_of_ble_eq_true rfl) (lv' := [some (.ref v0), some (.int v1), some (.int v2), some (.int o10.1), some (.int o14.1), some (.int 0), none]) rfl ?_
      refine rs_iconst i_X8_window_51 (v := 1) (by decide) ?_
      refine rs_istore i_X8_window_52 (Nat.le_of_ble_eq_true rfl) (lv' := [some (.ref v0), some (.int v1), some (.int v2), some (.int o10.1), some (.int o14.1), some (.int 0), some (.int 1)]) rfl ?_
      exact r_X8_window_54 hd _ _ _ _ _ _ _ _ _ _ hf
    · replace hf := (if_neg c5).symm.trans hf
      refine rs_ifF i_X8_window_18 (cf_ne c5) ?_
      refine rs_bipush i_X8_window_21 (v := (-7)) (by decide) ?_
      have hf := Option.some.inj hf
      subst hf
      exact rs_iret i_X8_window_23 m_X8_window rfl
  · replace hf := (if_neg c3).symm.trans hf
    refine rs_ifF i_X8_window_5 (cf_ne c3) ?_
    refine rs_bipush i_X8_window_8 (v := (-5)) (by decide) ?_
    have hf := Option.some.inj hf
    subst hf
    exact rs_iret i_X8_window_10 m_X8_window rfl
def f_X8_window (n : Nat) (v0 : Nat) (v1 : Int32) (v2 : Int32) (h : Hp) : Option (Int32 × Hp) := f_X8_window_0 n v0 v1 v2 h
theorem c_X8_window {X : Nat → Int32} {d : Nat} (hd : 7 ≤ d) {n : Nat} {v0 : Nat} {v1 : Int32} {v2 : Int32} {h : Hp} {o : (Int32 × Hp)} (hf : f_X8_window n v0 v1 v2 h = some o) : Calls X d 180 [.ref v0, .int v1, .int v2] h (some (.int o.1), o.2) := by
  obtain ⟨d, rfl⟩ : ∃ z, d = z + 1 := ⟨d - 1, by omega⟩
  exact ⟨_, rfl, r_X8_window_0 hd hf⟩
theorem i_X8_pace_0 : fetch 181 0 = some (.aload_n 0, 1, 0, 0, 0, 0) := by decide +kernel
theorem i_X8_pace_1 : fetch 181 1 = some (.iload_n 1, 2, 0, 0, 0, 0) := by decide +kernel
theorem i_X8_pace_2 : fetch 181 2 = some (.invokevirtual 286, 5, 128, 0, 0, 1223) := by decide +kernel
theorem i_X8_pace_5 : fetch 181 5 = some (.ifCond .ne 6, 8, 0, 0, 0, 0) := by decide +kernel
theorem i_X8_pace_8 : fetch 181 8 = some (.bipush (-5), 10, 0, 0, 0, 0) := by decide +kernel
theorem i_X8_pace_10 : fetch 181 10 = some (.ireturn, 11, 0, 0, 0, 0) := by decide +kernel
theorem i_X8_pace_11 : fetch 181 11 = some (.iload_n 2, 12, 0, 0, 0, 0) := by decide +kernel
theorem i_X8_pace_12 : fetch 181 12 = some (.iconst 0, 13, 0, 0, 0, 0) := by decide +kernel
theorem i_X8_pace_13 : fetch 181 13 = some (.bipush 9, 15, 0, 0, 0, 0) := by decide +kernel
theorem i_X8_pace_15 : fetch 181 15 = some (.invokestatic 112, 18, 126, 0, 0, 970) := by decide +kernel
theorem i_X8_pace_18 : fetch 181 18 = some (.ifCond .eq 12, 21, 0, 0, 0, 0) := by decide +kernel
theorem i_X8_pace_21 : fetch 181 21 = some (.iload_n 3, 22, 0, 0, 0, 0) := by decide +kernel
theorem i_X8_pace_22 : fetch 181 22 = some (.iconst 0, 23, 0, 0, 0, 0) := by decide +kernel
theorem i_X8_pace_23 : fetch 181 23 = some (.iconst 1, 24, 0, 0, 0, 0) := by decide +kernel
theorem i_X8_pace_24 : fetch 181 24 = some (.invokestatic 112, 27, 126, 0, 0, 970) := by decide +kernel
theorem i_X8_pace_27 : fetch 181 27 = some (.ifCond .ne 6, 30, 0, 0, 0, 0) := by decide +kernel
theorem i_X8_pace_30 : fetch 181 30 = some (.bipush (-7), 32, 0, 0, 0, 0) := by decide +kernel
theorem i_X8_pace_32 : fetch 181 32 = some (.ireturn, 33, 0, 0, 0, 0) := by decide +kernel
theorem i_X8_pace_33 : fetch 181 33 = some (.iconst 0, 34, 0, 0, 0, 0) := by decide +kernel
theorem i_X8_pace_34 : fetch 181 34 = some (.istore 4, 36, 0, 0, 0, 0) := by decide +kernel
theorem i_X8_pace_36 : fetch 181 36 = some (.lconst 0, 37, 0, 0, 0, 0) := by decide +kernel
theorem i_X8_pace_37 : fetch 181 37 = some (.lstore 5, 39, 0, 0, 0, 0) := by decide +kernel
theorem i_X8_pace_39 : fetch 181 39 = some (.iconst 1, 40, 0, 0, 0, 0) := by decide +kernel
theorem i_X8_pace_40 : fetch 181 40 = some (.istore 7, 42, 0, 0, 0, 0) := by decide +kernel
theorem i_X8_pace_42 : fetch 181 42 = some (.iload 7, 44, 0, 0, 0, 0) := by decide +kernel
theorem i_X8_pace_44 : fetch 181 44 = some (.bipush 9, 46, 0, 0, 0, 0) := by decide +kernel
theorem i_X8_pace_46 : fetch 181 46 = some (.if_icmp .gt 69, 49, 0, 0, 0, 0) := by decide +kernel
theorem i_X8_pace_49 : fetch 181 49 = some (.aload_n 0, 50, 0, 0, 0, 0) := by decide +kernel
theorem i_X8_pace_50 : fetch 181 50 = some (.iload_n 1, 51, 0, 0, 0, 0) := by decide +kernel
theorem i_X8_pace_51 : fetch 181 51 = some (.invokevirtual 289, 54, 168, 0, 0, 1227) := by decide +kernel
theorem i_X8_pace_54 : fetch 181 54 = some (.aload_n 0, 55, 0, 0, 0, 0) := by decide +kernel
theorem i_X8_pace_55 : fetch 181 55 = some (.aload_n 0, 56, 0, 0, 0, 0) := by decide +kernel
theorem i_X8_pace_56 : fetch 181 56 = some (.invokevirtual 254, 59, 156, 0, 0, 1244) := by decide +kernel
theorem i_X8_pace_59 : fetch 181 59 = some (.iload_n 2, 60, 0, 0, 0, 0) := by decide +kernel
theorem i_X8_pace_60 : fetch 181 60 = some (.imul, 61, 0, 0, 0, 0) := by decide +kernel
theorem i_X8_pace_61 : fetch 181 61 = some (.bipush 10, 63, 0, 0, 0, 0) := by decide +kernel
theorem i_X8_pace_63 : fetch 181 63 = some (.idiv, 64, 0, 0, 0, 0) := by decide +kernel
theorem i_X8_pace_64 : fetch 181 64 = some (.iload 7, 66, 0, 0, 0, 0) := by decide +kernel
theorem i_X8_pace_66 : fetch 181 66 = some (.invokevirtual 257, 69, 158, 0, 0, 1248) := by decide +kernel
theorem i_X8_pace_69 : fetch 181 69 = some (.iload_n 3, 70, 0, 0, 0, 0) := by decide +kernel
theorem i_X8_pace_70 : fetch 181 70 = some (.ifCond .ne 10, 73, 0, 0, 0, 0) := by decide +kernel
theorem i_X8_pace_73 : fetch 181 73 = some (.aload_n 0, 74, 0, 0, 0, 0) := by decide +kernel
theorem i_X8_pace_74 : fetch 181 74 = some (.getfield 240, 77, 8, 43, 0, 1052) := by decide +kernel
theorem i_X8_pace_77 : fetch 181 77 = some (.goto 9, 80, 0, 0, 0, 0) := by decide +kernel
theorem i_X8_pace_80 : fetch 181 80 = some (.aload_n 0, 81, 0, 0, 0, 0) := by decide +kernel
theorem i_X8_pace_81 : fetch 181 81 = some (.invokevirtual 304, 84, 172, 0, 0, 1318) := by decide +kernel
theorem i_X8_pace_84 : fetch 181 84 = some (.ineg, 85, 0, 0, 0, 0) := by decide +kernel
theorem i_X8_pace_85 : fetch 181 85 = some (.i2l, 86, 0, 0, 0, 0) := by decide +kernel
theorem i_X8_pace_86 : fetch 181 86 = some (.lstore 8, 88, 0, 0, 0, 0) := by decide +kernel
theorem i_X8_pace_88 : fetch 181 88 = some (.iload 4, 90, 0, 0, 0, 0) := by decide +kernel
theorem i_X8_pace_90 : fetch 181 90 = some (.ifCond .eq 11, 93, 0, 0, 0, 0) := by decide +kernel
theorem i_X8_pace_93 : fetch 181 93 = some (.lload 8, 95, 0, 0, 0, 0) := by decide +kernel
theorem i_X8_pace_95 : fetch 181 95 = some (.lload 5, 97, 0, 0, 0, 0) := by decide +kernel
theorem i_X8_pace_97 : fetch 181 97 = some (.lcmp, 98, 0, 0, 0, 0) := by decide +kernel
theorem i_X8_pace_98 : fetch 181 98 = some (.ifCond .le 11, 101, 0, 0, 0, 0) := by decide +kernel
theorem i_X8_pace_101 : fetch 181 101 = some (.iload 7, 103, 0, 0, 0, 0) := by decide +kernel
theorem i_X8_pace_103 : fetch 181 103 = some (.istore 4, 105, 0, 0, 0, 0) := by decide +kernel
theorem i_X8_pace_105 : fetch 181 105 = some (.lload 8, 107, 0, 0, 0, 0) := by decide +kernel
theorem i_X8_pace_107 : fetch 181 107 = some (.lstore 5, 109, 0, 0, 0, 0) := by decide +kernel
theorem i_X8_pace_109 : fetch 181 109 = some (.iinc 7 1, 112, 0, 0, 0, 0) := by decide +kernel
theorem i_X8_pace_112 : fetch 181 112 = some (.goto (-70), 115, 0, 0, 0, 0) := by decide +kernel
theorem i_X8_pace_115 : fetch 181 115 = some (.iload 4, 117, 0, 0, 0, 0) := by decide +kernel
theorem i_X8_pace_117 : fetch 181 117 = some (.ireturn, 118, 0, 0, 0, 0) := by decide +kernel
def f_X8_pace_109 (n : Nat) (K42 : Nat → Int32 → Int32 → Int32 → Int32 → Int64 → Int32 → Hp → Option (Int32 × Hp)) (v0 : Nat) (v1 : Int32) (v2 : Int32) (v3 : Int32) (v4 : Int32) (v5 : Int64) (v7 : Int32) (h : Hp) : Option (Int32 × Hp) :=
  K42 v0 v1 v2 v3 v4 v5 (v7 + 1) h
set_option maxRecDepth 100000 in
set_option maxHeartbeats 4000000 in
theorem r_X8_pace_109 {X : Nat → Int32} {d : Nat} (hd : 7 ≤ (d + 1)) {n : Nat} {K42 : Nat → Int32 → Int32 → Int32 → Int32 → Int64 → Int32 → Hp → Option (Int32 × Hp)} (HK42 : ∀ (v0 : Nat) (v1 : Int32) (v2 : Int32) (v3 : Int32) (v4 : Int32) (v5 : Int64) (v7 : Int32) (w8 : Option Value) (w9 : Option Value) (h : Hp) (o : (Int32 × Hp)), K42 v0 v1 v2 v3 v4 v5 v7 h = some o → Run X (d + 1) 181 42 [some (.ref v0), some (.int v1), some (.int v2), some (.int v3), some (.int v4), some (.long v5), none, some (.int v7), w8, w9] [] h (some (.int o.1), o.2)) {v0 : Nat} {v1 : Int32} {v2 : Int32} {v3 : Int32} {v4 : Int32} {v5 : Int64} {v7 : Int32} {d8 : Int64} {h : Hp} {o : (Int32 × Hp)} (hf : f_X8_pace_109 n K42 v0 v1 v2 v3 v4 v5 v7 h = some o) : Run X (d + 1) 181 109 [some (.ref v0), some (.int v1), some (.int v2), some (.int v3), some (.int v4), some (.long v5), none, some (.int v7), some (.long d8), none] [] h (some (.int o.1), o.2) := by
  unfold f_X8_pace_109 at hf
  refine rs_iinc i_X8_pace_109 rfl (v := v7 + 1) rfl (Nat.le_of_ble_eq_true rfl) (lv' := [some (.ref v0), some (.int v1), some (.int v2), some (.int v3), some (.int v4), some (.long v5), none, some (.int (v7 + 1)), some (.long d8), none]) rfl ?_
  refine rs_goto i_X8_pace_112 (tg := 42) (by decide) ?_
  exact HK42 _ _ _ _ _ _ _ _ _ _ _ hf
def f_X8_pace_101 (n : Nat) (K42 : Nat → Int32 → Int32 → Int32 → Int32 → Int64 → Int32 → Hp → Option (Int32 × Hp)) (v0 : Nat) (v1 : Int32) (v2 : Int32) (v3 : Int32) (v7 : Int32) (v8 : Int64) (h : Hp) : Option (Int32 × Hp) :=
  f_X8_pace_109 n K42 v0 v1 v2 v3 v7 v8 v7 h
set_option maxRecDepth 100000 in
set_option maxHeartbeats 4000000 in
theorem r_X8_pace_101 {X : Nat → Int32} {d : Nat} (hd : 7 ≤ (d + 1)) {n : Nat} {K42 : Nat → Int32 → Int32 → Int32 → Int32 → Int64 → Int32 → Hp → Option (Int32 × Hp)} (HK42 : ∀ (v0 : Nat) (v1 : Int32) (v2 : Int32) (v3 : Int32) (v4 : Int32) (v5 : Int64) (v7 : Int32) (w8 : Option Value) (w9 : Option Value) (h : Hp) (o : (Int32 × Hp)), K42 v0 v1 v2 v3 v4 v5 v7 h = some o → Run X (d + 1) 181 42 [some (.ref v0), some (.int v1), some (.int v2), some (.int v3), some (.int v4), some (.long v5), none, some (.int v7), w8, w9] [] h (some (.int o.1), o.2)) {v0 : Nat} {v1 : Int32} {v2 : Int32} {v3 : Int32} {v7 : Int32} {v8 : Int64} {d4 : Int32} {d5 : Int64} {h : Hp} {o : (Int32 × Hp)} (hf : f_X8_pace_101 n K42 v0 v1 v2 v3 v7 v8 h = some o) : Run X (d + 1) 181 101 [some (.ref v0), some (.int v1), some (.int v2), some (.int v3), some (.int d4), some (.long d5), none, some (.int v7), some (.long v8), none] [] h (some (.int o.1), o.2) := by
  unfold f_X8_pace_101 at hf
  refine rs_iload i_X8_pace_101 rfl ?_
  refine rs_istore i_X8_pace_103 (Nat.le_of_ble_eq_true rfl) (lv' := [some (.ref v0), some (.int v1), some (.int v2), some (.int v3), some (.int v7), some (.long d5), none, some (.int v7), some (.long v8), none]) rfl ?_
  refine rs_lload i_X8_pace_105 rfl ?_
  refine rs_lstore i_X8_pace_107 (Nat.le_of_ble_eq_true rfl) (lv' := [some (.ref v0), some (.int v1), some (.int v2), some (.int v3), some (.int v7), some (.long v8), none, some (.int v7), some (.long v8), none]) rfl ?_
  exact r_X8_pace_109 hd HK42 hf
def f_X8_pace_86 (n : Nat) (K42 : Nat → Int32 → Int32 → Int32 → Int32 → Int64 → Int32 → Hp → Option (Int32 × Hp)) (v0 : Nat) (v1 : Int32) (v2 : Int32) (v3 : Int32) (v4 : Int32) (v5 : Int64) (v7 : Int32) (s0 : Int64) (h : Hp) : Option (Int32 × Hp) :=
  if v4 = 0 then
    f_X8_pace_101 n K42 v0 v1 v2 v3 v7 s0 h
  else
    if s0 ≤ v5 then
      f_X8_pace_109 n K42 v0 v1 v2 v3 v4 v5 v7 h
    else
      f_X8_pace_101 n K42 v0 v1 v2 v3 v7 s0 h
set_option maxRecDepth 100000 in
set_option maxHeartbeats 4000000 in
theorem r_X8_pace_86 {X : Nat → Int32} {d : Nat} (hd : 7 ≤ (d + 1)) {n : Nat} {K42 : Nat → Int32 → Int32 → Int32 → Int32 → Int64 → Int32 → Hp → Option (Int32 × Hp)} (HK42 : ∀ (v0 : Nat) (v1 : Int32) (v2 : Int32) (v3 : Int32) (v4 : Int32) (v5 : Int64) (v7 : Int32) (w8 : Option Value) (w9 : Option Value) (h : Hp) (o : (Int32 × Hp)), K42 v0 v1 v2 v3 v4 v5 v7 h = some o → Run X (d + 1) 181 42 [some (.ref v0), some (.int v1), some (.int v2), some (.int v3), some (.int v4), some (.long v5), none, some (.int v7), w8, w9] [] h (some (.int o.1), o.2)) {v0 : Nat} {v1 : Int32} {v2 : Int32} {v3 : Int32} {v4 : Int32} {v5 : Int64} {v7 : Int32} {s0 : Int64} {w8 : Option Value} {w9 : Option Value} {h : Hp} {o : (Int32 × Hp)} (hf : f_X8_pace_86 n K42 v0 v1 v2 v3 v4 v5 v7 s0 h = some o) : Run X (d + 1) 181 86 [some (.ref v0), some (.int v1), some (.int v2), some (.int v3), some (.int v4), some (.long v5), none, some (.int v7), w8, w9] [.long s0] h (some (.int o.1), o.2) := by
  unfold f_X8_pace_86 at hf
  refine rs_lstore i_X8_pace_86 (Nat.le_of_ble_eq_true rfl) (lv' := [some (.ref v0), some (.int v1), some (.int v2), some (.int v3), some (.int v4), some (.long v5), none, some (.int v7), some (.long s0), none]) rfl ?_
  refine rs_iload i_X8_pace_88 rfl ?_
  by_cases c1 : v4 = 0
  · replace hf := (if_pos c1).symm.trans hf
    refine rs_ifT i_X8_pace_90 (ct_eq c1) (tg := 101) (by decide) ?_
    exact r_X8_pace_101 hd HK42 hf
  · replace hf := (if_neg c1).symm.trans hf
    refine rs_ifF i_X8_pace_90 (cf_eq c1) ?_
    refine rs_lload i_X8_pace_93 rfl ?_
    refine rs_lload i_X8_pace_95 rfl ?_
    refine rs_lcmp i_X8_pace_97 ?_
    by_cases c2 : s0 ≤ v5
    · replace hf := (if_pos c2).symm.trans hf
      refine rs_ifT i_X8_pace_98 (by rw [lc_le]; exact decide_eq_true c2) (tg := 109) (by decide) ?_
      exact r_X8_pace_109 hd HK42 hf
    · replace hf := (if_neg c2).symm.trans hf
      refine rs_ifF i_X8_pace_98 (by rw [lc_le]; exact decide_eq_false c2) ?_
      exact r_X8_pace_101 hd HK42 hf
def f_X8_pace_42 (n : Nat) : Nat → Nat → Int32 → Int32 → Int32 → Int32 → Int64 → Int32 → Hp → Option (Int32 × Hp)
  | 0, _, _, _, _, _, _, _, _ => none
  | m + 1, v0, v1, v2, v3, v4, v5, v7, h =>
    if 9 < v7 then
      some (v4, h)
    else
      if okO h v0 8 then
      (f_X8_goes n v0 v1 h).bind fun o2 =>
      if okO o2 v0 8 then
      (f_X8_allLength n v0 o2).bind fun o4 =>
      if okO o4.2 v0 8 then
      (f_X8_draws n v0 ((o4.1 * v2) / 10) v7 o4.2).bind fun o6 =>
      if v3 ≠ 0 then
        if okO o6 v0 8 then
        (f_X8_spread n v0 o6).bind fun o9 =>
        f_X8_pace_86 n (f_X8_pace_42 n m) v0 v1 v2 v3 v4 v5 v7 (Int32.toInt64 (-o9.1)) o9.2
        else none
      else
        if okO o6 v0 8 then
        f_X8_pace_86 n (f_X8_pace_42 n m) v0 v1 v2 v3 v4 v5 v7 (gL' o6 v0 43) o6
        else none
      else none
      else none
      else none
set_option maxRecDepth 100000 in
set_option maxHeartbeats 4000000 in
theorem r_X8_pace_42 {X : Nat → Int32} {d : Nat} (hd : 7 ≤ (d + 1)) {n : Nat} : ∀ (m : Nat) (v0 : Nat) (v1 : Int32) (v2 : Int32) (v3 : Int32) (v4 : Int32) (v5 : Int64) (v7 : Int32) (w8 : Option Value) (w9 : Option Value) (h : Hp) (o : (Int32 × Hp)), f_X8_pace_42 n m v0 v1 v2 v3 v4 v5 v7 h = some o → Run X (d + 1) 181 42 [some (.ref v0), some (.int v1), some (.int v2), some (.int v3), some (.int v4), some (.long v5), none, some (.int v7), w8, w9] [] h (some (.int o.1), o.2) := by
  intro m
  induction m with
  | zero => intro v0 v1 v2 v3 v4 v5 v7 w8 w9 h o hf; cases hf
  | succ m ih =>
    intro v0 v1 v2 v3 v4 v5 v7 w8 w9 h o hf
    rw [f_X8_pace_42] at hf
    refine rs_iload i_X8_pace_42 rfl ?_
    refine rs_bipush i_X8_pace_44 (v := 9) (by decide) ?_
    by_cases c1 : 9 < v7
    · replace hf := (if_pos c1).symm.trans hf
      refine rs_icT i_X8_pace_46 (ct_gt c1) (tg := 115) (by decide) ?_
      refine rs_iload i_X8_pace_115 rfl ?_
      have hf := Option.some.inj hf
      subst hf
      exact rs_iret i_X8_pace_117 m_X8_pace rfl
    · replace hf := (if_neg c1).symm.trans hf
      refine rs_icF i_X8_pace_46 (cf_gt c1) ?_
      refine rs_aload_n i_X8_pace_49 rfl ?_
      refine rs_iload_n i_X8_pace_50 rfl ?_
      obtain ⟨c3, hf⟩ := ite_some hf
      obtain ⟨o2, e2, hf⟩ := bind_some hf
      refine rs_inV i_X8_pace_51 m_X8_goes rfl (As := [.int v1]) (rest := []) rfl rfl (Nat.le_of_ble_eq_true rfl) c3 (c_X8_goes (by omega) e2) (st' := []) rfl ?_
      refine rs_aload_n i_X8_pace_54 rfl ?_
      refine rs_aload_n i_X8_pace_55 rfl ?_
      obtain ⟨c5, hf⟩ := ite_some hf
      obtain ⟨o4, e4, hf⟩ := bind_some hf
      refine rs_inV i_X8_pace_56 m_X8_allLength rfl (As := []) (rest := [.ref v0]) rfl rfl (Nat.le_of_ble_eq_true rfl) c5 (c_X8_allLength (by omega) e4) (st' := [.int o4.1, .ref v0]) rfl ?_
      refine rs_iload_n i_X8_pace_59 rfl ?_
      refine rs_imul i_X8_pace_60 ?_
      refine rs_bipush i_X8_pace_61 (v := 10) (by decide) ?_
      refine rs_idiv i_X8_pace_63 (by decide) ?_
      refine rs_iload i_X8_pace_64 rfl ?_
      obtain ⟨c7, hf⟩ := ite_some hf
      obtain ⟨o6, e6, hf⟩ := bind_some hf
      refine rs_inV i_X8_pace_66 m_X8_draws rfl (As := [.int ((o4.1 * v2) / 10), .int v7]) (rest := []) rfl rfl (Nat.le_of_ble_eq_true rfl) c7 (c_X8_draws (by omega) e6) (st' := []) rfl ?_
      refine rs_iload_n i_X8_pace_69 rfl ?_
      by_cases c8 : v3 ≠ 0
      · replace hf := (if_pos c8).symm.trans hf
        refine rs_ifT i_X8_pace_70 (ct_ne c8) (tg := 80) (by decide) ?_
        refine rs_aload_n i_X8_pace_80 rfl ?_
        obtain ⟨c10, hf⟩ := ite_some hf
        obtain ⟨o9, e9, hf⟩ := bind_some hf
        refine rs_inV i_X8_pace_81 m_X8_spread rfl (As := []) (rest := []) rfl rfl (Nat.le_of_ble_eq_true rfl) c10 (c_X8_spread (by omega) e9) (st' := [.int o9.1]) rfl ?_
        refine rs_ineg i_X8_pace_84 ?_
        refine rs_i2l i_X8_pace_85 ?_
        exact r_X8_pace_86 hd ih hf
      · replace hf := (if_neg c8).symm.trans hf
        refine rs_ifF i_X8_pace_70 (cf_ne c8) ?_
        refine rs_aload_n i_X8_pace_73 rfl ?_
        obtain ⟨c11, hf⟩ := ite_some hf
        refine rs_getL i_X8_pace_74 (by decide) (by decide) c11 ?_
        refine rs_goto i_X8_pace_77 (tg := 86) (by decide) ?_
        exact r_X8_pace_86 hd ih hf
def f_X8_pace_0 (n : Nat) (v0 : Nat) (v1 : Int32) (v2 : Int32) (v3 : Int32) (h : Hp) : Option (Int32 × Hp) :=
  if okO h v0 8 then
  (f_X8_areSteps v0 v1 h).bind fun o1 =>
  if o1.1 ≠ 0 then
    (f_X8_in v2 0 9 o1.2).bind fun o4 =>
    if o4.1 = 0 then
      some ((-7), o4.2)
    else
      (f_X8_in v3 0 1 o4.2).bind fun o6 =>
      if o6.1 ≠ 0 then
        f_X8_pace_42 n n v0 v1 v2 v3 0 0 1 o6.2
      else
        some ((-7), o6.2)
  else
    some ((-5), o1.2)
  else none
set_option maxRecDepth 100000 in
set_option maxHeartbeats 4000000 in
theorem r_X8_pace_0 {X : Nat → Int32} {d : Nat} (hd : 7 ≤ (d + 1)) {n : Nat} {v0 : Nat} {v1 : Int32} {v2 : Int32} {v3 : Int32} {h : Hp} {o : (Int32 × Hp)} (hf : f_X8_pace_0 n v0 v1 v2 v3 h = some o) : Run X (d + 1) 181 0 [some (.ref v0), some (.int v1), some (.int v2), some (.int v3), none, none, none, none, none, none] [] h (some (.int o.1), o.2) := by
  unfold f_X8_pace_0 at hf
  refine rs_aload_n i_X8_pace_0 rfl ?_
  refine rs_iload_n i_X8_pace_1 rfl ?_
  obtain ⟨c2, hf⟩ := ite_some hf
  obtain ⟨o1, e1, hf⟩ := bind_some hf
  refine rs_inV i_X8_pace_2 m_X8_areSteps rfl (As := [.int v1]) (rest := []) rfl rfl (Nat.le_of_ble_eq_true rfl) c2 (c_X8_areSteps (by omega) e1) (st' := [.int o1.1]) rfl ?_
  by_cases c3 : o1.1 ≠ 0
  · replace hf := (if_pos c3).symm.trans hf
    refine rs_ifT i_X8_pace_5 (ct_ne c3) (tg := 11) (by decide) ?_
    refine rs_iload_n i_X8_pace_11 rfl ?_
    refine rs_iconst i_X8_pace_12 (v := 0) (by decide) ?_
    refine rs_bipush i_X8_pace_13 (v := 9) (by decide) ?_
    obtain ⟨o4, e4, hf⟩ := bind_some hf
    refine rs_inS i_X8_pace_15 (by decide) m_X8_in rfl (As := [.int v2, .int 0, .int 9]) (rest := []) rfl rfl (Nat.le_of_ble_eq_true rfl) (c_X8_in (by omega) e4) (st' := [.int o4.1]) rfl ?_
    by_cases c5 : o4.1 = 0
    · replace hf := (if_pos c5).symm.trans hf
      refine rs_ifT i_X8_pace_18 (ct_eq c5) (tg := 30) (by decide) ?_
      refine rs_bipush i_X8_pace_30 (v := (-7)) (by decide) ?_
      have hf := Option.some.inj hf
      subst hf
      exact rs_iret i_X8_pace_32 m_X8_pace rfl
    · replace hf := (if_neg c5).symm.trans hf
      refine rs_ifF i_X8_pace_18 (cf_eq c5) ?_
      refine rs_iload_n i_X8_pace_21 rfl ?_
      refine rs_iconst i_X8_pace_22 (v := 0) (by decide) ?_
      refine rs_iconst i_X8_pace_23 (v := 1) (by decide) ?_
      obtain ⟨o6, e6, hf⟩ := bind_some hf
      refine rs_inS i_X8_pace_24 (by decide) m_X8_in rfl (As := [.int v3, .int 0, .int 1]) (rest := []) rfl rfl (Nat.le_of_ble_eq_true rfl) (c_X8_in (by omega) e6) (st' := [.int o6.1]) rfl ?_
      by_cases c7 : o6.1 ≠ 0
      · replace hf := (if_pos c7).symm.trans hf
        refine rs_ifT i_X8_pace_27 (ct_ne c7) (tg := 33) (by decide) ?_
        refine rs_iconst i_X8_pace_33 (v := 0) (by decide) ?_
        refine rs_istore i_X8_pace_34 (Nat.le_of_ble_eq_true rfl) (lv' := [some (.ref v0), some (.int v1), some (.int v2), some (.int v3), some (.int 0), none, none, none, none, none]) rfl ?_
        refine rs_lconst i_X8_pace_36 (v := 0) (by decide) ?_
        refine rs_lstore i_X8_pace_37 (Nat.le_of_ble_eq_true rfl) (lv' := [some (.ref v0), some (.int v1), some (.int v2), some (.int v3), some (.int 0), some (.long 0), none, none, none, none]) rfl ?_
        refine rs_iconst i_X8_pace_39 (v := 1) (by decide) ?_
        refine rs_istore i_X8_pace_40 (Nat.le_of_ble_eq_true rfl) (lv' := [some (.ref v0), some (.int v1), some (.int v2), some (.int v3), some (.int 0), some (.long 0), none, some (.int 1), none, none]) rfl ?_
        exact r_X8_pace_42 hd _ _ _ _ _ _ _ _ _ _ _ _ hf
      · replace hf := (if_neg c7).symm.trans hf
        refine rs_ifF i_X8_pace_27 (cf_ne c7) ?_
        refine rs_bipush i_X8_pace_30 (v := (-7)) (by decide) ?_
        have hf := Option.some.inj hf
        subst hf
        exact rs_iret i_X8_pace_32 m_X8_pace rfl
  · replace hf := (if_neg c3).symm.trans hf
    refine rs_ifF i_X8_pace_5 (cf_ne c3) ?_
    refine rs_bipush i_X8_pace_8 (v := (-5)) (by decide) ?_
    have hf := Option.some.inj hf
    subst hf
    exact rs_iret i_X8_pace_10 m_X8_pace rfl
def f_X8_pace (n : Nat) (v0 : Nat) (v1 : Int32) (v2 : Int32) (v3 : Int32) (h : Hp) : Option (Int32 × Hp) := f_X8_pace_0 n v0 v1 v2 v3 h
theorem c_X8_pace {X : Nat → Int32} {d : Nat} (hd : 7 ≤ d) {n : Nat} {v0 : Nat} {v1 : Int32} {v2 : Int32} {v3 : Int32} {h : Hp} {o : (Int32 × Hp)} (hf : f_X8_pace n v0 v1 v2 v3 h = some o) : Calls X d 181 [.ref v0, .int v1, .int v2, .int v3] h (some (.int o.1), o.2) := by
  obtain ⟨d, rfl⟩ : ∃ z, d = z + 1 := ⟨d - 1, by omega⟩
  exact ⟨_, rfl, r_X8_pace_0 hd hf⟩
theorem i_X8_rest_0 : fetch 182 0 = some (.aload_n 0, 1, 0, 0, 0, 0) := by decide +kernel
theorem i_X8_rest_1 : fetch 182 1 = some (.iload_n 1, 2, 0, 0, 0, 0) := by decide +kernel
theorem i_X8_rest_2 : fetch 182 2 = some (.invokevirtual 286, 5, 128, 0, 0, 1223) := by decide +kernel
theorem i_X8_rest_5 : fetch 182 5 = some (.ifCond .ne 6, 8, 0, 0, 0, 0) := by decide +kernel
theorem i_X8_rest_8 : fetch 182 8 = some (.bipush (-5), 10, 0, 0, 0, 0) := by decide +kernel
theorem i_X8_rest_10 : fetch 182 10 = some (.ireturn, 11, 0, 0, 0, 0) := by decide +kernel
theorem i_X8_rest_11 : fetch 182 11 = some (.iload_n 2, 12, 0, 0, 0, 0) := by decide +kernel
theorem i_X8_rest_12 : fetch 182 12 = some (.iconst 0, 13, 0, 0, 0, 0) := by decide +kernel
theorem i_X8_rest_13 : fetch 182 13 = some (.bipush 99, 15, 0, 0, 0, 0) := by decide +kernel
theorem i_X8_rest_15 : fetch 182 15 = some (.invokestatic 112, 18, 126, 0, 0, 970) := by decide +kernel
theorem i_X8_rest_18 : fetch 182 18 = some (.ifCond .eq 20, 21, 0, 0, 0, 0) := by decide +kernel
theorem i_X8_rest_21 : fetch 182 21 = some (.iload_n 2, 22, 0, 0, 0, 0) := by decide +kernel
theorem i_X8_rest_22 : fetch 182 22 = some (.bipush 10, 24, 0, 0, 0, 0) := by decide +kernel
theorem i_X8_rest_24 : fetch 182 24 = some (.irem, 25, 0, 0, 0, 0) := by decide +kernel
theorem i_X8_rest_25 : fetch 182 25 = some (.ifCond .eq 13, 28, 0, 0, 0, 0) := by decide +kernel
theorem i_X8_rest_28 : fetch 182 28 = some (.iload_n 3, 29, 0, 0, 0, 0) := by decide +kernel
theorem i_X8_rest_29 : fetch 182 29 = some (.iconst 0, 30, 0, 0, 0, 0) := by decide +kernel
theorem i_X8_rest_30 : fetch 182 30 = some (.bipush 100, 32, 0, 0, 0, 0) := by decide +kernel
theorem i_X8_rest_32 : fetch 182 32 = some (.invokestatic 112, 35, 126, 0, 0, 970) := by decide +kernel
theorem i_X8_rest_35 : fetch 182 35 = some (.ifCond .ne 6, 38, 0, 0, 0, 0) := by decide +kernel
theorem i_X8_rest_38 : fetch 182 38 = some (.bipush (-7), 40, 0, 0, 0, 0) := by decide +kernel
theorem i_X8_rest_40 : fetch 182 40 = some (.ireturn, 41, 0, 0, 0, 0) := by decide +kernel
theorem i_X8_rest_41 : fetch 182 41 = some (.iconst 0, 42, 0, 0, 0, 0) := by decide +kernel
theorem i_X8_rest_42 : fetch 182 42 = some (.istore 4, 44, 0, 0, 0, 0) := by decide +kernel
theorem i_X8_rest_44 : fetch 182 44 = some (.iload 4, 46, 0, 0, 0, 0) := by decide +kernel
theorem i_X8_rest_46 : fetch 182 46 = some (.bipush 30, 48, 0, 0, 0, 0) := by decide +kernel
theorem i_X8_rest_48 : fetch 182 48 = some (.if_icmp .gt 66, 51, 0, 0, 0, 0) := by decide +kernel
theorem i_X8_rest_51 : fetch 182 51 = some (.aload_n 0, 52, 0, 0, 0, 0) := by decide +kernel
theorem i_X8_rest_52 : fetch 182 52 = some (.iload_n 1, 53, 0, 0, 0, 0) := by decide +kernel
theorem i_X8_rest_53 : fetch 182 53 = some (.invokevirtual 289, 56, 168, 0, 0, 1227) := by decide +kernel
theorem i_X8_rest_56 : fetch 182 56 = some (.aload_n 0, 57, 0, 0, 0, 0) := by decide +kernel
theorem i_X8_rest_57 : fetch 182 57 = some (.getfield 240, 60, 8, 43, 0, 1052) := by decide +kernel
theorem i_X8_rest_60 : fetch 182 60 = some (.lstore 5, 62, 0, 0, 0, 0) := by decide +kernel
theorem i_X8_rest_62 : fetch 182 62 = some (.aload_n 0, 63, 0, 0, 0, 0) := by decide +kernel
theorem i_X8_rest_63 : fetch 182 63 = some (.iload 4, 65, 0, 0, 0, 0) := by decide +kernel
theorem i_X8_rest_65 : fetch 182 65 = some (.invokevirtual 272, 68, 163, 0, 0, 1300) := by decide +kernel
theorem i_X8_rest_68 : fetch 182 68 = some (.aload_n 0, 69, 0, 0, 0, 0) := by decide +kernel
theorem i_X8_rest_69 : fetch 182 69 = some (.aload_n 0, 70, 0, 0, 0, 0) := by decide +kernel
theorem i_X8_rest_70 : fetch 182 70 = some (.invokevirtual 254, 73, 156, 0, 0, 1244) := by decide +kernel
theorem i_X8_rest_73 : fetch 182 73 = some (.iload_n 2, 74, 0, 0, 0, 0) := by decide +kernel
theorem i_X8_rest_74 : fetch 182 74 = some (.bipush 10, 76, 0, 0, 0, 0) := by decide +kernel
theorem i_X8_rest_76 : fetch 182 76 = some (.idiv, 77, 0, 0, 0, 0) := by decide +kernel
theorem i_X8_rest_77 : fetch 182 77 = some (.imul, 78, 0, 0, 0, 0) := by decide +kernel
theorem i_X8_rest_78 : fetch 182 78 = some (.bipush 10, 80, 0, 0, 0, 0) := by decide +kernel
theorem i_X8_rest_80 : fetch 182 80 = some (.idiv, 81, 0, 0, 0, 0) := by decide +kernel
theorem i_X8_rest_81 : fetch 182 81 = some (.iload_n 2, 82, 0, 0, 0, 0) := by decide +kernel
theorem i_X8_rest_82 : fetch 182 82 = some (.bipush 10, 84, 0, 0, 0, 0) := by decide +kernel
theorem i_X8_rest_84 : fetch 182 84 = some (.irem, 85, 0, 0, 0, 0) := by decide +kernel
theorem i_X8_rest_85 : fetch 182 85 = some (.invokevirtual 257, 88, 158, 0, 0, 1248) := by decide +kernel
theorem i_X8_rest_88 : fetch 182 88 = some (.aload_n 0, 89, 0, 0, 0, 0) := by decide +kernel
theorem i_X8_rest_89 : fetch 182 89 = some (.getfield 240, 92, 8, 43, 0, 1052) := by decide +kernel
theorem i_X8_rest_92 : fetch 182 92 = some (.ldc2_w 243, 95, 0, 0, 100, 1279) := by decide +kernel
theorem i_X8_rest_95 : fetch 182 95 = some (.lmul, 96, 0, 0, 0, 0) := by decide +kernel
theorem i_X8_rest_96 : fetch 182 96 = some (.iload_n 3, 97, 0, 0, 0, 0) := by decide +kernel
theorem i_X8_rest_97 : fetch 182 97 = some (.i2l, 98, 0, 0, 0, 0) := by decide +kernel
theorem i_X8_rest_98 : fetch 182 98 = some (.lload 5, 100, 0, 0, 0, 0) := by decide +kernel
theorem i_X8_rest_100 : fetch 182 100 = some (.lmul, 101, 0, 0, 0, 0) := by decide +kernel
theorem i_X8_rest_101 : fetch 182 101 = some (.lcmp, 102, 0, 0, 0, 0) := by decide +kernel
theorem i_X8_rest_102 : fetch 182 102 = some (.ifCond .lt 6, 105, 0, 0, 0, 0) := by decide +kernel
theorem i_X8_rest_105 : fetch 182 105 = some (.iload 4, 107, 0, 0, 0, 0) := by decide +kernel
theorem i_X8_rest_107 : fetch 182 107 = some (.ireturn, 108, 0, 0, 0, 0) := by decide +kernel
theorem i_X8_rest_108 : fetch 182 108 = some (.iinc 4 1, 111, 0, 0, 0, 0) := by decide +kernel
theorem i_X8_rest_111 : fetch 182 111 = some (.goto (-67), 114, 0, 0, 0, 0) := by decide +kernel
theorem i_X8_rest_114 : fetch 182 114 = some (.iconst (-1), 115, 0, 0, 0, 0) := by decide +kernel
theorem i_X8_rest_115 : fetch 182 115 = some (.ireturn, 116, 0, 0, 0, 0) := by decide +kernel
def f_X8_rest_44 (n : Nat) : Nat → Nat → Int32 → Int32 → Int32 → Int32 → Hp → Option (Int32 × Hp)
  | 0, _, _, _, _, _, _ => none
  | m + 1, v0, v1, v2, v3, v4, h =>
    if 30 < v4 then
      some ((-1), h)
    else
      if okO h v0 8 then
      (f_X8_goes n v0 v1 h).bind fun o2 =>
      if okO o2 v0 8 then
      (f_X8_rests n v0 v4 o2).bind fun o5 =>
      if okO o5 v0 8 then
      (f_X8_allLength n v0 o5).bind fun o6 =>
      if okO o6.2 v0 8 then
      (f_X8_draws n v0 ((o6.1 * (v2 / 10)) / 10) (v2 - v2 / 10 * 10) o6.2).bind fun o8 =>
      if okO o8 v0 8 then
      if ((gL' o8 v0 43) * 100) < ((Int32.toInt64 v3) * (gL' o2 v0 43)) then
        (f_X8_rest_44 n m) v0 v1 v2 v3 (v4 + 1) o8
      else
        some (v4, o8)
      else none
      else none
      else none
      else none
      else none
set_option maxRecDepth 100000 in
set_option maxHeartbeats 4000000 in
theorem r_X8_rest_44 {X : Nat → Int32} {d : Nat} (hd : 7 ≤ (d + 1)) {n : Nat} : ∀ (m : Nat) (v0 : Nat) (v1 : Int32) (v2 : Int32) (v3 : Int32) (v4 : Int32) (w5 : Option Value) (w6 : Option Value) (h : Hp) (o : (Int32 × Hp)), f_X8_rest_44 n m v0 v1 v2 v3 v4 h = some o → Run X (d + 1) 182 44 [some (.ref v0), some (.int v1), some (.int v2), some (.int v3), some (.int v4), w5, w6] [] h (some (.int o.1), o.2) := by
  intro m
  induction m with
  | zero => intro v0 v1 v2 v3 v4 w5 w6 h o hf; cases hf
  | succ m ih =>
    intro v0 v1 v2 v3 v4 w5 w6 h o hf
    rw [f_X8_rest_44] at hf
    refine rs_iload i_X8_rest_44 rfl ?_
    refine rs_bipush i_X8_rest_46 (v := 30) (by decide) ?_
    by_cases c1 : 30 < v4
    · replace hf := (if_pos c1).symm.trans hf
      refine rs_icT i_X8_rest_48 (ct_gt c1) (tg := 114) (by decide) ?_
      refine rs_iconst i_X8_rest_114 (v := (-1)) (by decide) ?_
      have hf := Option.some.inj hf
      subst hf
      exact rs_iret i_X8_rest_115 m_X8_rest rfl
    · replace hf := (if_neg c1).symm.trans hf
      refine rs_icF i_X8_rest_48 (cf_gt c1) ?_
      refine rs_aload_n i_X8_rest_51 rfl ?_
      refine rs_iload_n i_X8_rest_52 rfl ?_
      obtain ⟨c3, hf⟩ := ite_some hf
      obtain ⟨o2, e2, hf⟩ := bind_some hf
      refine rs_inV i_X8_rest_53 m_X8_goes rfl (As := [.int v1]) (rest := []) rfl rfl (Nat.le_of_ble_eq_true rfl) c3 (c_X8_goes (by omega) e2) (st' := []) rfl ?_
      refine rs_aload_n i_X8_rest_56 rfl ?_
      obtain ⟨c4, hf⟩ := ite_some hf
      refine rs_getL i_X8_rest_57 (by decide) (by decide) c4 ?_
      refine rs_lstore i_X8_rest_60 (Nat.le_of_ble_eq_true rfl) (lv' := [some (.ref v0), some (.int v1), some (.int v2), some (.int v3), some (.int v4), some (.long (gL' o2 v0 43)), none]) rfl ?_
      refine rs_aload_n i_X8_rest_62 rfl ?_
      refine rs_iload i_X8_rest_63 rfl ?_
      obtain ⟨o5, e5, hf⟩ := bind_some hf
      refine rs_inV i_X8_rest_65 m_X8_rests rfl (As := [.int v4]) (rest := []) rfl rfl (Nat.le_of_ble_eq_true rfl) c4 (c_X8_rests (by omega) e5) (st' := []) rfl ?_
      refine rs_aload_n i_X8_rest_68 rfl ?_
      refine rs_aload_n i_X8_rest_69 rfl ?_
      obtain ⟨c7, hf⟩ := ite_some hf
      obtain ⟨o6, e6, hf⟩ := bind_some hf
      refine rs_inV i_X8_rest_70 m_X8_allLength rfl (As := []) (rest := [.ref v0]) rfl rfl (Nat.le_of_ble_eq_true rfl) c7 (c_X8_allLength (by omega) e6) (st' := [.int o6.1, .ref v0]) rfl ?_
      refine rs_iload_n i_X8_rest_73 rfl ?_
      refine rs_bipush i_X8_rest_74 (v := 10) (by decide) ?_
      refine rs_idiv i_X8_rest_76 (by decide) ?_
      refine rs_imul i_X8_rest_77 ?_
      refine rs_bipush i_X8_rest_78 (v := 10) (by decide) ?_
      refine rs_idiv i_X8_rest_80 (by decide) ?_
      refine rs_iload_n i_X8_rest_81 rfl ?_
      refine rs_bipush i_X8_rest_82 (v := 10) (by decide) ?_
      refine rs_irem i_X8_rest_84 (by decide) ?_
      obtain ⟨c9, hf⟩ := ite_some hf
      obtain ⟨o8, e8, hf⟩ := bind_some hf
      refine rs_inV i_X8_rest_85 m_X8_draws rfl (As := [.int ((o6.1 * (v2 / 10)) / 10), .int (v2 - v2 / 10 * 10)]) (rest := []) rfl rfl (Nat.le_of_ble_eq_true rfl) c9 (c_X8_draws (by omega) e8) (st' := []) rfl ?_
      refine rs_aload_n i_X8_rest_88 rfl ?_
      obtain ⟨c10, hf⟩ := ite_some hf
      refine rs_getL i_X8_rest_89 (by decide) (by decide) c10 ?_
      refine rs_ldc2 i_X8_rest_92 (v := 100) (by decide) ?_
      refine rs_lmul i_X8_rest_95 ?_
      refine rs_iload_n i_X8_rest_96 rfl ?_
      refine rs_i2l i_X8_rest_97 ?_
      refine rs_lload i_X8_rest_98 rfl ?_
      refine rs_lmul i_X8_rest_100 ?_
      refine rs_lcmp i_X8_rest_101 ?_
      by_cases c11 : ((gL' o8 v0 43) * 100) < ((Int32.toInt64 v3) * (gL' o2 v0 43))
      · replace hf := (if_pos c11).symm.trans hf
        refine rs_ifT i_X8_rest_102 (by rw [lc_lt]; exact decide_eq_true c11) (tg := 108) (by decide) ?_
        refine rs_iinc i_X8_rest_108 rfl (v := v4 + 1) rfl (Nat.le_of_ble_eq_true rfl) (lv' := [some (.ref v0), some (.int v1), some (.int v2), some (.int v3), some (.int (v4 + 1)), some (.long (gL' o2 v0 43)), none]) rfl ?_
        refine rs_goto i_X8_rest_111 (tg := 44) (by decide) ?_
        exact ih _ _ _ _ _ _ _ _ _ hf
      · replace hf := (if_neg c11).symm.trans hf
        refine rs_ifF i_X8_rest_102 (by rw [lc_lt]; exact decide_eq_false c11) ?_
        refine rs_iload i_X8_rest_105 rfl ?_
        have hf := Option.some.inj hf
        subst hf
        exact rs_iret i_X8_rest_107 m_X8_rest rfl
def f_X8_rest_0 (n : Nat) (v0 : Nat) (v1 : Int32) (v2 : Int32) (v3 : Int32) (h : Hp) : Option (Int32 × Hp) :=
  if okO h v0 8 then
  (f_X8_areSteps v0 v1 h).bind fun o1 =>
  if o1.1 ≠ 0 then
    (f_X8_in v2 0 99 o1.2).bind fun o4 =>
    if o4.1 = 0 then
      some ((-7), o4.2)
    else
      if (v2 - v2 / 10 * 10) = 0 then
        some ((-7), o4.2)
      else
        (f_X8_in v3 0 100 o4.2).bind fun o7 =>
        if o7.1 ≠ 0 then
          f_X8_rest_44 n n v0 v1 v2 v3 0 o7.2
        else
          some ((-7), o7.2)
  else
    some ((-5), o1.2)
  else none
set_option maxRecDepth 100000 in
set_option maxHeartbeats 4000000 in
theorem r_X8_rest_0 {X : Nat → Int32} {d : Nat} (hd : 7 ≤ (d + 1)) {n : Nat} {v0 : Nat} {v1 : Int32} {v2 : Int32} {v3 : Int32} {h : Hp} {o : (Int32 × Hp)} (hf : f_X8_rest_0 n v0 v1 v2 v3 h = some o) : Run X (d + 1) 182 0 [some (.ref v0), some (.int v1), some (.int v2), some (.int v3), none, none, none] [] h (some (.int o.1), o.2) := by
  unfold f_X8_rest_0 at hf
  refine rs_aload_n i_X8_rest_0 rfl ?_
  refine rs_iload_n i_X8_rest_1 rfl ?_
  obtain ⟨c2, hf⟩ := ite_some hf
  obtain ⟨o1, e1, hf⟩ := bind_some hf
  refine rs_inV i_X8_rest_2 m_X8_areSteps rfl (As := [.int v1]) (rest := []) rfl rfl (Nat.le_of_ble_eq_true rfl) c2 (c_X8_areSteps (by omega) e1) (st' := [.int o1.1]) rfl ?_
  by_cases c3 : o1.1 ≠ 0
  · replace hf := (if_pos c3).symm.trans hf
    refine rs_ifT i_X8_rest_5 (ct_ne c3) (tg := 11) (by decide) ?_
    refine rs_iload_n i_X8_rest_11 rfl ?_
    refine rs_iconst i_X8_rest_12 (v := 0) (by decide) ?_
    refine rs_bipush i_X8_rest_13 (v := 99) (by decide) ?_
    obtain ⟨o4, e4, hf⟩ := bind_some hf
    refine rs_inS i_X8_rest_15 (by decide) m_X8_in rfl (As := [.int v2, .int 0, .int 99]) (rest := []) rfl rfl (Nat.le_of_ble_eq_true rfl) (c_X8_in (by omega) e4) (st' := [.int o4.1]) rfl ?_
    by_cases c5 : o4.1 = 0
    · replace hf := (if_pos c5).symm.trans hf
      refine rs_ifT i_X8_rest_18 (ct_eq c5) (tg := 38) (by decide) ?_
      refine rs_bipush i_X8_rest_38 (v := (-7)) (by decide) ?_
      have hf := Option.some.inj hf
      subst hf
      exact rs_iret i_X8_rest_40 m_X8_rest rfl
    · replace hf := (if_neg c5).symm.trans hf
      refine rs_ifF i_X8_rest_18 (cf_eq c5) ?_
      refine rs_iload_n i_X8_rest_21 rfl ?_
      refine rs_bipush i_X8_rest_22 (v := 10) (by decide) ?_
      refine rs_irem i_X8_rest_24 (by decide) ?_
      by_cases c6 : (v2 - v2 / 10 * 10) = 0
      · replace hf := (if_pos c6).symm.trans hf
        refine rs_ifT i_X8_rest_25 (ct_eq c6) (tg := 38) (by decide) ?_
        refine rs_bipush i_X8_rest_38 (v := (-7)) (by decide) ?_
        have hf := Option.some.inj hf
        subst hf
        exact rs_iret i_X8_rest_40 m_X8_rest rfl
      · replace hf := (if_neg c6).symm.trans hf
        refine rs_ifF i_X8_rest_25 (cf_eq c6) ?_
        refine rs_iload_n i_X8_rest_28 rfl ?_
        refine rs_iconst i_X8_rest_29 (v := 0) (by decide) ?_
        refine rs_bipush i_X8_rest_30 (v := 100) (by decide) ?_
        obtain ⟨o7, e7, hf⟩ := bind_some hf
        refine rs_inS i_X8_rest_32 (by decide) m_X8_in rfl (As := [.int v3, .int 0, .int 100]) (rest := []) rfl rfl (Nat.le_of_ble_eq_true rfl) (c_X8_in (by omega) e7) (st' := [.int o7.1]) rfl ?_
        by_cases c8 : o7.1 ≠ 0
        · replace hf := (if_pos c8).symm.trans hf
          refine rs_ifT i_X8_rest_35 (ct_ne c8) (tg := 41) (by decide) ?_
          refine rs_iconst i_X8_rest_41 (v := 0) (by decide) ?_
          refine rs_istore i_X8_rest_42 (Nat.le_of_ble_eq_true rfl) (lv' := [some (.ref v0), some (.int v1), some (.int v2), some (.int v3), some (.int 0), none, none]) rfl ?_
          exact r_X8_rest_44 hd _ _ _ _ _ _ _ _ _ _ hf
        · replace hf := (if_neg c8).symm.trans hf
          refine rs_ifF i_X8_rest_35 (cf_ne c8) ?_
          refine rs_bipush i_X8_rest_38 (v := (-7)) (by decide) ?_
          have hf := Option.some.inj hf
          subst hf
          exact rs_iret i_X8_rest_40 m_X8_rest rfl
  · replace hf := (if_neg c3).symm.trans hf
    refine rs_ifF i_X8_rest_5 (cf_ne c3) ?_
    refine rs_bipush i_X8_rest_8 (v := (-5)) (by decide) ?_
    have hf := Option.some.inj hf
    subst hf
    exact rs_iret i_X8_rest_10 m_X8_rest rfl
def f_X8_rest (n : Nat) (v0 : Nat) (v1 : Int32) (v2 : Int32) (v3 : Int32) (h : Hp) : Option (Int32 × Hp) := f_X8_rest_0 n v0 v1 v2 v3 h
theorem c_X8_rest {X : Nat → Int32} {d : Nat} (hd : 7 ≤ d) {n : Nat} {v0 : Nat} {v1 : Int32} {v2 : Int32} {v3 : Int32} {h : Hp} {o : (Int32 × Hp)} (hf : f_X8_rest n v0 v1 v2 v3 h = some o) : Calls X d 182 [.ref v0, .int v1, .int v2, .int v3] h (some (.int o.1), o.2) := by
  obtain ⟨d, rfl⟩ : ∃ z, d = z + 1 := ⟨d - 1, by omega⟩
  exact ⟨_, rfl, r_X8_rest_0 hd hf⟩
theorem i_X8_dust_0 : fetch 183 0 = some (.aload_n 0, 1, 0, 0, 0, 0) := by decide +kernel
theorem i_X8_dust_1 : fetch 183 1 = some (.iload_n 1, 2, 0, 0, 0, 0) := by decide +kernel
theorem i_X8_dust_2 : fetch 183 2 = some (.invokevirtual 286, 5, 128, 0, 0, 1223) := by decide +kernel
theorem i_X8_dust_5 : fetch 183 5 = some (.ifCond .ne 6, 8, 0, 0, 0, 0) := by decide +kernel
theorem i_X8_dust_8 : fetch 183 8 = some (.bipush (-5), 10, 0, 0, 0, 0) := by decide +kernel
theorem i_X8_dust_10 : fetch 183 10 = some (.ireturn, 11, 0, 0, 0, 0) := by decide +kernel
theorem i_X8_dust_11 : fetch 183 11 = some (.iload_n 2, 12, 0, 0, 0, 0) := by decide +kernel
theorem i_X8_dust_12 : fetch 183 12 = some (.iconst 0, 13, 0, 0, 0, 0) := by decide +kernel
theorem i_X8_dust_13 : fetch 183 13 = some (.bipush 100, 15, 0, 0, 0, 0) := by decide +kernel
theorem i_X8_dust_15 : fetch 183 15 = some (.invokestatic 112, 18, 126, 0, 0, 970) := by decide +kernel
theorem i_X8_dust_18 : fetch 183 18 = some (.ifCond .ne 6, 21, 0, 0, 0, 0) := by decide +kernel
theorem i_X8_dust_21 : fetch 183 21 = some (.bipush (-7), 23, 0, 0, 0, 0) := by decide +kernel
theorem i_X8_dust_23 : fetch 183 23 = some (.ireturn, 24, 0, 0, 0, 0) := by decide +kernel
theorem i_X8_dust_24 : fetch 183 24 = some (.iconst 0, 25, 0, 0, 0, 0) := by decide +kernel
theorem i_X8_dust_25 : fetch 183 25 = some (.istore_n 3, 26, 0, 0, 0, 0) := by decide +kernel
theorem i_X8_dust_26 : fetch 183 26 = some (.iload_n 3, 27, 0, 0, 0, 0) := by decide +kernel
theorem i_X8_dust_27 : fetch 183 27 = some (.bipush 99, 29, 0, 0, 0, 0) := by decide +kernel
theorem i_X8_dust_29 : fetch 183 29 = some (.if_icmp .gt 51, 32, 0, 0, 0, 0) := by decide +kernel
theorem i_X8_dust_32 : fetch 183 32 = some (.aload_n 0, 33, 0, 0, 0, 0) := by decide +kernel
theorem i_X8_dust_33 : fetch 183 33 = some (.iload_n 1, 34, 0, 0, 0, 0) := by decide +kernel
theorem i_X8_dust_34 : fetch 183 34 = some (.invokevirtual 289, 37, 168, 0, 0, 1227) := by decide +kernel
theorem i_X8_dust_37 : fetch 183 37 = some (.aload_n 0, 38, 0, 0, 0, 0) := by decide +kernel
theorem i_X8_dust_38 : fetch 183 38 = some (.getfield 248, 41, 8, 44, 0, 1053) := by decide +kernel
theorem i_X8_dust_41 : fetch 183 41 = some (.lstore 4, 43, 0, 0, 0, 0) := by decide +kernel
theorem i_X8_dust_43 : fetch 183 43 = some (.aload_n 0, 44, 0, 0, 0, 0) := by decide +kernel
theorem i_X8_dust_44 : fetch 183 44 = some (.iload_n 3, 45, 0, 0, 0, 0) := by decide +kernel
theorem i_X8_dust_45 : fetch 183 45 = some (.invokevirtual 266, 48, 164, 0, 0, 1292) := by decide +kernel
theorem i_X8_dust_48 : fetch 183 48 = some (.aload_n 0, 49, 0, 0, 0, 0) := by decide +kernel
theorem i_X8_dust_49 : fetch 183 49 = some (.invokevirtual 263, 52, 161, 0, 0, 1288) := by decide +kernel
theorem i_X8_dust_52 : fetch 183 52 = some (.lload 4, 54, 0, 0, 0, 0) := by decide +kernel
theorem i_X8_dust_54 : fetch 183 54 = some (.aload_n 0, 55, 0, 0, 0, 0) := by decide +kernel
theorem i_X8_dust_55 : fetch 183 55 = some (.getfield 248, 58, 8, 44, 0, 1053) := by decide +kernel
theorem i_X8_dust_58 : fetch 183 58 = some (.lsub, 59, 0, 0, 0, 0) := by decide +kernel
theorem i_X8_dust_59 : fetch 183 59 = some (.ldc2_w 243, 62, 0, 0, 100, 1279) := by decide +kernel
theorem i_X8_dust_62 : fetch 183 62 = some (.lmul, 63, 0, 0, 0, 0) := by decide +kernel
theorem i_X8_dust_63 : fetch 183 63 = some (.iload_n 2, 64, 0, 0, 0, 0) := by decide +kernel
theorem i_X8_dust_64 : fetch 183 64 = some (.i2l, 65, 0, 0, 0, 0) := by decide +kernel
theorem i_X8_dust_65 : fetch 183 65 = some (.lload 4, 67, 0, 0, 0, 0) := by decide +kernel
theorem i_X8_dust_67 : fetch 183 67 = some (.lmul, 68, 0, 0, 0, 0) := by decide +kernel
theorem i_X8_dust_68 : fetch 183 68 = some (.lcmp, 69, 0, 0, 0, 0) := by decide +kernel
theorem i_X8_dust_69 : fetch 183 69 = some (.ifCond .gt 5, 72, 0, 0, 0, 0) := by decide +kernel
theorem i_X8_dust_72 : fetch 183 72 = some (.iload_n 3, 73, 0, 0, 0, 0) := by decide +kernel
theorem i_X8_dust_73 : fetch 183 73 = some (.ireturn, 74, 0, 0, 0, 0) := by decide +kernel
theorem i_X8_dust_74 : fetch 183 74 = some (.iinc 3 1, 77, 0, 0, 0, 0) := by decide +kernel
theorem i_X8_dust_77 : fetch 183 77 = some (.goto (-51), 80, 0, 0, 0, 0) := by decide +kernel
theorem i_X8_dust_80 : fetch 183 80 = some (.iconst (-1), 81, 0, 0, 0, 0) := by decide +kernel
theorem i_X8_dust_81 : fetch 183 81 = some (.ireturn, 82, 0, 0, 0, 0) := by decide +kernel
def f_X8_dust_26 (n : Nat) : Nat → Nat → Int32 → Int32 → Int32 → Hp → Option (Int32 × Hp)
  | 0, _, _, _, _, _ => none
  | m + 1, v0, v1, v2, v3, h =>
    if 99 < v3 then
      some ((-1), h)
    else
      if okO h v0 8 then
      (f_X8_goes n v0 v1 h).bind fun o2 =>
      if okO o2 v0 8 then
      (f_X8_dusts v0 v3 o2).bind fun o5 =>
      if okO o5 v0 8 then
      (f_X8_doubles n v0 o5).bind fun o6 =>
      if okO o6 v0 8 then
      if ((Int32.toInt64 v2) * (gL' o2 v0 44)) < (((gL' o2 v0 44) - (gL' o6 v0 44)) * 100) then
        (f_X8_dust_26 n m) v0 v1 v2 (v3 + 1) o6
      else
        some (v3, o6)
      else none
      else none
      else none
      else none
set_option maxRecDepth 100000 in
set_option maxHeartbeats 4000000 in
theorem r_X8_dust_26 {X : Nat → Int32} {d : Nat} (hd : 7 ≤ (d + 1)) {n : Nat} : ∀ (m : Nat) (v0 : Nat) (v1 : Int32) (v2 : Int32) (v3 : Int32) (w4 : Option Value) (w5 : Option Value) (h : Hp) (o : (Int32 × Hp)), f_X8_dust_26 n m v0 v1 v2 v3 h = some o → Run X (d + 1) 183 26 [some (.ref v0), some (.int v1), some (.int v2), some (.int v3), w4, w5] [] h (some (.int o.1), o.2) := by
  intro m
  induction m with
  | zero => intro v0 v1 v2 v3 w4 w5 h o hf; cases hf
  | succ m ih =>
    intro v0 v1 v2 v3 w4 w5 h o hf
    rw [f_X8_dust_26] at hf
    refine rs_iload_n i_X8_dust_26 rfl ?_
    refine rs_bipush i_X8_dust_27 (v := 99) (by decide) ?_
    by_cases c1 : 99 < v3
    · replace hf := (if_pos c1).symm.trans hf
      refine rs_icT i_X8_dust_29 (ct_gt c1) (tg := 80) (by decide) ?_
      refine rs_iconst i_X8_dust_80 (v := (-1)) (by decide) ?_
      have hf := Option.some.inj hf
      subst hf
      exact rs_iret i_X8_dust_81 m_X8_dust rfl
    · replace hf := (if_neg c1).symm.trans hf
      refine rs_icF i_X8_dust_29 (cf_gt c1) ?_
      refine rs_aload_n i_X8_dust_32 rfl ?_
      refine rs_iload_n i_X8_dust_33 rfl ?_
      obtain ⟨c3, hf⟩ := ite_some hf
      obtain ⟨o2, e2, hf⟩ := bind_some hf
      refine rs_inV i_X8_dust_34 m_X8_goes rfl (As := [.int v1]) (rest := []) rfl rfl (Nat.le_of_ble_eq_true rfl) c3 (c_X8_goes (by omega) e2) (st' := []) rfl ?_
      refine rs_aload_n i_X8_dust_37 rfl ?_
      obtain ⟨c4, hf⟩ := ite_some hf
      refine rs_getL i_X8_dust_38 (by decide) (by decide) c4 ?_
      refine rs_lstore i_X8_dust_41 (Nat.le_of_ble_eq_true rfl) (lv' := [some (.ref v0), some (.int v1), some (.int v2), some (.int v3), some (.long (gL' o2 v0 44)), none]) rfl ?_
      refine rs_aload_n i_X8_dust_43 rfl ?_
      refine rs_iload_n i_X8_dust_44 rfl ?_
      obtain ⟨o5, e5, hf⟩ := bind_some hf
      refine rs_inV i_X8_dust_45 m_X8_dusts rfl (As := [.int v3]) (rest := []) rfl rfl (Nat.le_of_ble_eq_true rfl) c4 (c_X8_dusts (by omega) e5) (st' := []) rfl ?_
      refine rs_aload_n i_X8_dust_48 rfl ?_
      obtain ⟨c7, hf⟩ := ite_some hf
      obtain ⟨o6, e6, hf⟩ := bind_some hf
      refine rs_inV i_X8_dust_49 m_X8_doubles rfl (As := []) (rest := []) rfl rfl (Nat.le_of_ble_eq_true rfl) c7 (c_X8_doubles (by omega) e6) (st' := []) rfl ?_
      refine rs_lload i_X8_dust_52 rfl ?_
      refine rs_aload_n i_X8_dust_54 rfl ?_
      obtain ⟨c8, hf⟩ := ite_some hf
      refine rs_getL i_X8_dust_55 (by decide) (by decide) c8 ?_
      refine rs_lsub i_X8_dust_58 ?_
      refine rs_ldc2 i_X8_dust_59 (v := 100) (by decide) ?_
      refine rs_lmul i_X8_dust_62 ?_
      refine rs_iload_n i_X8_dust_63 rfl ?_
      refine rs_i2l i_X8_dust_64 ?_
      refine rs_lload i_X8_dust_65 rfl ?_
      refine rs_lmul i_X8_dust_67 ?_
      refine rs_lcmp i_X8_dust_68 ?_
      by_cases c9 : ((Int32.toInt64 v2) * (gL' o2 v0 44)) < (((gL' o2 v0 44) - (gL' o6 v0 44)) * 100)
      · replace hf := (if_pos c9).symm.trans hf
        refine rs_ifT i_X8_dust_69 (by rw [lc_gt]; exact decide_eq_true c9) (tg := 74) (by decide) ?_
        refine rs_iinc i_X8_dust_74 rfl (v := v3 + 1) rfl (Nat.le_of_ble_eq_true rfl) (lv' := [some (.ref v0), some (.int v1), some (.int v2), some (.int (v3 + 1)), some (.long (gL' o2 v0 44)), none]) rfl ?_
        refine rs_goto i_X8_dust_77 (tg := 26) (by decide) ?_
        exact ih _ _ _ _ _ _ _ _ hf
      · replace hf := (if_neg c9).symm.trans hf
        refine rs_ifF i_X8_dust_69 (by rw [lc_gt]; exact decide_eq_false c9) ?_
        refine rs_iload_n i_X8_dust_72 rfl ?_
        have hf := Option.some.inj hf
        subst hf
        exact rs_iret i_X8_dust_73 m_X8_dust rfl
def f_X8_dust_0 (n : Nat) (v0 : Nat) (v1 : Int32) (v2 : Int32) (h : Hp) : Option (Int32 × Hp) :=
  if okO h v0 8 then
  (f_X8_areSteps v0 v1 h).bind fun o1 =>
  if o1.1 ≠ 0 then
    (f_X8_in v2 0 100 o1.2).bind fun o4 =>
    if o4.1 ≠ 0 then
      f_X8_dust_26 n n v0 v1 v2 0 o4.2
    else
      some ((-7), o4.2)
  else
    some ((-5), o1.2)
  else none
set_option maxRecDepth 100000 in
set_option maxHeartbeats 4000000 in
theorem r_X8_dust_0 {X : Nat → Int32} {d : Nat} (hd : 7 ≤ (d + 1)) {n : Nat} {v0 : Nat} {v1 : Int32} {v2 : Int32} {h : Hp} {o : (Int32 × Hp)} (hf : f_X8_dust_0 n v0 v1 v2 h = some o) : Run X (d + 1) 183 0 [some (.ref v0), some (.int v1), some (.int v2), none, none, none] [] h (some (.int o.1), o.2) := by
  unfold f_X8_dust_0 at hf
  refine rs_aload_n i_X8_dust_0 rfl ?_
  refine rs_iload_n i_X8_dust_1 rfl ?_
  obtain ⟨c2, hf⟩ := ite_some hf
  obtain ⟨o1, e1, hf⟩ := bind_some hf
  refine rs_inV i_X8_dust_2 m_X8_areSteps rfl (As := [.int v1]) (rest := []) rfl rfl (Nat.le_of_ble_eq_true rfl) c2 (c_X8_areSteps (by omega) e1) (st' := [.int o1.1]) rfl ?_
  by_cases c3 : o1.1 ≠ 0
  · replace hf := (if_pos c3).symm.trans hf
    refine rs_ifT i_X8_dust_5 (ct_ne c3) (tg := 11) (by decide) ?_
    refine rs_iload_n i_X8_dust_11 rfl ?_
    refine rs_iconst i_X8_dust_12 (v := 0) (by decide) ?_
    refine rs_bipush i_X8_dust_13 (v := 100) (by decide) ?_
    obtain ⟨o4, e4, hf⟩ := bind_some hf
    refine rs_inS i_X8_dust_15 (by decide) m_X8_in rfl (As := [.int v2, .int 0, .int 100]) (rest := []) rfl rfl (Nat.le_of_ble_eq_true rfl) (c_X8_in (by omega) e4) (st' := [.int o4.1]) rfl ?_
    by_cases c5 : o4.1 ≠ 0
    · replace hf := (if_pos c5).symm.trans hf
      refine rs_ifT i_X8_dust_18 (ct_ne c5) (tg := 24) (by decide) ?_
      refine rs_iconst i_X8_dust_24 (v := 0) (by decide) ?_
      refine rs_istore_n i_X8_dust_25 (Nat.le_of_ble_eq_true rfl) (lv' := [some (.ref v0), some (.int v1), some (.int v2), some (.int 0), none, none]) rfl ?_
      exact r_X8_dust_26 hd _ _ _ _ _ _ _ _ _ hf
    · replace hf := (if_neg c5).symm.trans hf
      refine rs_ifF i_X8_dust_18 (cf_ne c5) ?_
      refine rs_bipush i_X8_dust_21 (v := (-7)) (by decide) ?_
      have hf := Option.some.inj hf
      subst hf
      exact rs_iret i_X8_dust_23 m_X8_dust rfl
  · replace hf := (if_neg c3).symm.trans hf
    refine rs_ifF i_X8_dust_5 (cf_ne c3) ?_
    refine rs_bipush i_X8_dust_8 (v := (-5)) (by decide) ?_
    have hf := Option.some.inj hf
    subst hf
    exact rs_iret i_X8_dust_10 m_X8_dust rfl
def f_X8_dust (n : Nat) (v0 : Nat) (v1 : Int32) (v2 : Int32) (h : Hp) : Option (Int32 × Hp) := f_X8_dust_0 n v0 v1 v2 h
theorem c_X8_dust {X : Nat → Int32} {d : Nat} (hd : 7 ≤ d) {n : Nat} {v0 : Nat} {v1 : Int32} {v2 : Int32} {h : Hp} {o : (Int32 × Hp)} (hf : f_X8_dust n v0 v1 v2 h = some o) : Calls X d 183 [.ref v0, .int v1, .int v2] h (some (.int o.1), o.2) := by
  obtain ⟨d, rfl⟩ : ∃ z, d = z + 1 := ⟨d - 1, by omega⟩
  exact ⟨_, rfl, r_X8_dust_0 hd hf⟩
theorem i_X8_doublings_0 : fetch 184 0 = some (.aload_n 0, 1, 0, 0, 0, 0) := by decide +kernel
theorem i_X8_doublings_1 : fetch 184 1 = some (.iload_n 1, 2, 0, 0, 0, 0) := by decide +kernel
theorem i_X8_doublings_2 : fetch 184 2 = some (.invokevirtual 286, 5, 128, 0, 0, 1223) := by decide +kernel
theorem i_X8_doublings_5 : fetch 184 5 = some (.ifCond .ne 6, 8, 0, 0, 0, 0) := by decide +kernel
theorem i_X8_doublings_8 : fetch 184 8 = some (.bipush (-5), 10, 0, 0, 0, 0) := by decide +kernel
theorem i_X8_doublings_10 : fetch 184 10 = some (.ireturn, 11, 0, 0, 0, 0) := by decide +kernel
theorem i_X8_doublings_11 : fetch 184 11 = some (.iload_n 2, 12, 0, 0, 0, 0) := by decide +kernel
theorem i_X8_doublings_12 : fetch 184 12 = some (.iconst 1, 13, 0, 0, 0, 0) := by decide +kernel
theorem i_X8_doublings_13 : fetch 184 13 = some (.bipush 9, 15, 0, 0, 0, 0) := by decide +kernel
theorem i_X8_doublings_15 : fetch 184 15 = some (.invokestatic 112, 18, 126, 0, 0, 970) := by decide +kernel
theorem i_X8_doublings_18 : fetch 184 18 = some (.ifCond .eq 14, 21, 0, 0, 0, 0) := by decide +kernel
theorem i_X8_doublings_21 : fetch 184 21 = some (.iload_n 3, 22, 0, 0, 0, 0) := by decide +kernel
theorem i_X8_doublings_22 : fetch 184 22 = some (.iconst 1, 23, 0, 0, 0, 0) := by decide +kernel
theorem i_X8_doublings_23 : fetch 184 23 = some (.sipush 9999, 26, 0, 0, 0, 0) := by decide +kernel
theorem i_X8_doublings_26 : fetch 184 26 = some (.invokestatic 112, 29, 126, 0, 0, 970) := by decide +kernel
theorem i_X8_doublings_29 : fetch 184 29 = some (.ifCond .ne 6, 32, 0, 0, 0, 0) := by decide +kernel
theorem i_X8_doublings_32 : fetch 184 32 = some (.bipush (-7), 34, 0, 0, 0, 0) := by decide +kernel
theorem i_X8_doublings_34 : fetch 184 34 = some (.ireturn, 35, 0, 0, 0, 0) := by decide +kernel
theorem i_X8_doublings_35 : fetch 184 35 = some (.aload_n 0, 36, 0, 0, 0, 0) := by decide +kernel
theorem i_X8_doublings_36 : fetch 184 36 = some (.iload_n 1, 37, 0, 0, 0, 0) := by decide +kernel
theorem i_X8_doublings_37 : fetch 184 37 = some (.invokevirtual 289, 40, 168, 0, 0, 1227) := by decide +kernel
theorem i_X8_doublings_40 : fetch 184 40 = some (.iconst 0, 41, 0, 0, 0, 0) := by decide +kernel
theorem i_X8_doublings_41 : fetch 184 41 = some (.istore 4, 43, 0, 0, 0, 0) := by decide +kernel
theorem i_X8_doublings_43 : fetch 184 43 = some (.iload 4, 45, 0, 0, 0, 0) := by decide +kernel
theorem i_X8_doublings_45 : fetch 184 45 = some (.bipush 20, 47, 0, 0, 0, 0) := by decide +kernel
theorem i_X8_doublings_47 : fetch 184 47 = some (.if_icmp .ge 37, 50, 0, 0, 0, 0) := by decide +kernel
theorem i_X8_doublings_50 : fetch 184 50 = some (.aload_n 0, 51, 0, 0, 0, 0) := by decide +kernel
theorem i_X8_doublings_51 : fetch 184 51 = some (.aload_n 0, 52, 0, 0, 0, 0) := by decide +kernel
theorem i_X8_doublings_52 : fetch 184 52 = some (.invokevirtual 254, 55, 156, 0, 0, 1244) := by decide +kernel
theorem i_X8_doublings_55 : fetch 184 55 = some (.iload_n 2, 56, 0, 0, 0, 0) := by decide +kernel
theorem i_X8_doublings_56 : fetch 184 56 = some (.invokevirtual 257, 59, 158, 0, 0, 1248) := by decide +kernel
theorem i_X8_doublings_59 : fetch 184 59 = some (.aload_n 0, 60, 0, 0, 0, 0) := by decide +kernel
theorem i_X8_doublings_60 : fetch 184 60 = some (.invokevirtual 263, 63, 161, 0, 0, 1288) := by decide +kernel
theorem i_X8_doublings_63 : fetch 184 63 = some (.aload_n 0, 64, 0, 0, 0, 0) := by decide +kernel
theorem i_X8_doublings_64 : fetch 184 64 = some (.aload_n 0, 65, 0, 0, 0, 0) := by decide +kernel
theorem i_X8_doublings_65 : fetch 184 65 = some (.invokevirtual 295, 68, 170, 0, 0, 1310) := by decide +kernel
theorem i_X8_doublings_68 : fetch 184 68 = some (.invokevirtual 202, 71, 154, 0, 0, 1256) := by decide +kernel
theorem i_X8_doublings_71 : fetch 184 71 = some (.iload_n 3, 72, 0, 0, 0, 0) := by decide +kernel
theorem i_X8_doublings_72 : fetch 184 72 = some (.if_icmp .ge 6, 75, 0, 0, 0, 0) := by decide +kernel
theorem i_X8_doublings_75 : fetch 184 75 = some (.iload 4, 77, 0, 0, 0, 0) := by decide +kernel
theorem i_X8_doublings_77 : fetch 184 77 = some (.ireturn, 78, 0, 0, 0, 0) := by decide +kernel
theorem i_X8_doublings_78 : fetch 184 78 = some (.iinc 4 1, 81, 0, 0, 0, 0) := by decide +kernel
theorem i_X8_doublings_81 : fetch 184 81 = some (.goto (-38), 84, 0, 0, 0, 0) := by decide +kernel
theorem i_X8_doublings_84 : fetch 184 84 = some (.bipush 20, 86, 0, 0, 0, 0) := by decide +kernel
theorem i_X8_doublings_86 : fetch 184 86 = some (.ireturn, 87, 0, 0, 0, 0) := by decide +kernel
def f_X8_doublings_43 (n : Nat) : Nat → Nat → Int32 → Int32 → Int32 → Hp → Option (Int32 × Hp)
  | 0, _, _, _, _, _ => none
  | m + 1, v0, v2, v3, v4, h =>
    if 20 ≤ v4 then
      some (20, h)
    else
      if okO h v0 8 then
      (f_X8_allLength n v0 h).bind fun o2 =>
      if okO o2.2 v0 8 then
      (f_X8_draws n v0 o2.1 v2 o2.2).bind fun o4 =>
      if okO o4 v0 8 then
      (f_X8_doubles n v0 o4).bind fun o6 =>
      if okO o6 v0 8 then
      (f_X8_least n v0 o6).bind fun o8 =>
      if okO o8.2 v0 8 then
      (f_X8_thickOf v0 o8.1 o8.2).bind fun o10 =>
      if v3 ≤ o10.1 then
        (f_X8_doublings_43 n m) v0 v2 v3 (v4 + 1) o10.2
      else
        some (v4, o10.2)
      else none
      else none
      else none
      else none
      else none
set_option maxRecDepth 100000 in
set_option maxHeartbeats 4000000 in
theorem r_X8_doublings_43 {X : Nat → Int32} {d : Nat} (hd : 7 ≤ (d + 1)) {n : Nat} : ∀ (m : Nat) (v0 : Nat) (v2 : Int32) (v3 : Int32) (v4 : Int32) (d1 : Int32) (h : Hp) (o : (Int32 × Hp)), f_X8_doublings_43 n m v0 v2 v3 v4 h = some o → Run X (d + 1) 184 43 [some (.ref v0), some (.int d1), some (.int v2), some (.int v3), some (.int v4)] [] h (some (.int o.1), o.2) := by
  intro m
  induction m with
  | zero => intro v0 v2 v3 v4 d1 h o hf; cases hf
  | succ m ih =>
    intro v0 v2 v3 v4 d1 h o hf
    rw [f_X8_doublings_43] at hf
    refine rs_iload i_X8_doublings_43 rfl ?_
    refine rs_bipush i_X8_doublings_45 (v := 20) (by decide) ?_
    by_cases c1 : 20 ≤ v4
    · replace hf := (if_pos c1).symm.trans hf
      refine rs_icT i_X8_doublings_47 (ct_ge c1) (tg := 84) (by decide) ?_
      refine rs_bipush i_X8_doublings_84 (v := 20) (by decide) ?_
      have hf := Option.some.inj hf
      subst hf
      exact rs_iret i_X8_doublings_86 m_X8_doublings rfl
    · replace hf := (if_neg c1).symm.trans hf
      refine rs_icF i_X8_doublings_47 (cf_ge c1) ?_
      refine rs_aload_n i_X8_doublings_50 rfl ?_
      refine rs_aload_n i_X8_doublings_51 rfl ?_
      obtain ⟨c3, hf⟩ := ite_some hf
      obtain ⟨o2, e2, hf⟩ := bind_some hf
      refine rs_inV i_X8_doublings_52 m_X8_allLength rfl (As := []) (rest := [.ref v0]) rfl rfl (Nat.le_of_ble_eq_true rfl) c3 (c_X8_allLength (by omega) e2) (st' := [.int o2.1, .ref v0]) rfl ?_
      refine rs_iload_n i_X8_doublings_55 rfl ?_
      obtain ⟨c5, hf⟩ := ite_some hf
      obtain ⟨o4, e4, hf⟩ := bind_some hf
      refine rs_inV i_X8_doublings_56 m_X8_draws rfl (As := [.int o2.1, .int v2]) (rest := []) rfl rfl (Nat.le_of_ble_eq_true rfl) c5 (c_X8_draws (by omega) e4) (st' := []) rfl ?_
      refine rs_aload_n i_X8_doublings_59 rfl ?_
      obtain ⟨c7, hf⟩ := ite_some hf
      obtain ⟨o6, e6, hf⟩ := bind_some hf
      refine rs_inV i_X8_doublings_60 m_X8_doubles rfl (As := []) (rest := []) rfl rfl (Nat.le_of_ble_eq_true rfl) c7 (c_X8_doubles (by omega) e6) (st' := []) rfl ?_
      refine rs_aload_n i_X8_doublings_63 rfl ?_
      refine rs_aload_n i_X8_doublings_64 rfl ?_
      obtain ⟨c9, hf⟩ := ite_some hf
      obtain ⟨o8, e8, hf⟩ := bind_some hf
      refine rs_inV i_X8_doublings_65 m_X8_least rfl (As := []) (rest := [.ref v0]) rfl rfl (Nat.le_of_ble_eq_true rfl) c9 (c_X8_least (by omega) e8) (st' := [.int o8.1, .ref v0]) rfl ?_
      obtain ⟨c11, hf⟩ := ite_some hf
      obtain ⟨o10, e10, hf⟩ := bind_some hf
      refine rs_inV i_X8_doublings_68 m_X8_thickOf rfl (As := [.int o8.1]) (rest := []) rfl rfl (Nat.le_of_ble_eq_true rfl) c11 (c_X8_thickOf (by omega) e10) (st' := [.int o10.1]) rfl ?_
      refine rs_iload_n i_X8_doublings_71 rfl ?_
      by_cases c12 : v3 ≤ o10.1
      · replace hf := (if_pos c12).symm.trans hf
        refine rs_icT i_X8_doublings_72 (ct_ge c12) (tg := 78) (by decide) ?_
        refine rs_iinc i_X8_doublings_78 rfl (v := v4 + 1) rfl (Nat.le_of_ble_eq_true rfl) (lv' := [some (.ref v0), some (.int d1), some (.int v2), some (.int v3), some (.int (v4 + 1))]) rfl ?_
        refine rs_goto i_X8_doublings_81 (tg := 43) (by decide) ?_
        exact ih _ _ _ _ _ _ _ hf
      · replace hf := (if_neg c12).symm.trans hf
        refine rs_icF i_X8_doublings_72 (cf_ge c12) ?_
        refine rs_iload i_X8_doublings_75 rfl ?_
        have hf := Option.some.inj hf
        subst hf
        exact rs_iret i_X8_doublings_77 m_X8_doublings rfl
def f_X8_doublings_0 (n : Nat) (v0 : Nat) (v1 : Int32) (v2 : Int32) (v3 : Int32) (h : Hp) : Option (Int32 × Hp) :=
  if okO h v0 8 then
  (f_X8_areSteps v0 v1 h).bind fun o1 =>
  if o1.1 ≠ 0 then
    (f_X8_in v2 1 9 o1.2).bind fun o4 =>
    if o4.1 = 0 then
      some ((-7), o4.2)
    else
      (f_X8_in v3 1 9999 o4.2).bind fun o6 =>
      if o6.1 ≠ 0 then
        if okO o6.2 v0 8 then
        (f_X8_goes n v0 v1 o6.2).bind fun o8 =>
        f_X8_doublings_43 n n v0 v2 v3 0 o8
        else none
      else
        some ((-7), o6.2)
  else
    some ((-5), o1.2)
  else none
set_option maxRecDepth 100000 in
set_option maxHeartbeats 4000000 in
theorem r_X8_doublings_0 {X : Nat → Int32} {d : Nat} (hd : 7 ≤ (d + 1)) {n : Nat} {v0 : Nat} {v1 : Int32} {v2 : Int32} {v3 : Int32} {h : Hp} {o : (Int32 × Hp)} (hf : f_X8_doublings_0 n v0 v1 v2 v3 h = some o) : Run X (d + 1) 184 0 [some (.ref v0), some (.int v1), some (.int v2), some (.int v3), none] [] h (some (.int o.1), o.2) := by
  unfold f_X8_doublings_0 at hf
  refine rs_aload_n i_X8_doublings_0 rfl ?_
  refine rs_iload_n i_X8_doublings_1 rfl ?_
  obtain ⟨c2, hf⟩ := ite_some hf
  obtain ⟨o1, e1, hf⟩ := bind_some hf
  refine rs_inV i_X8_doublings_2 m_X8_areSteps rfl (As := [.int v1]) (rest := []) rfl rfl (Nat.le_of_ble_eq_true rfl) c2 (c_X8_areSteps (by omega) e1) (st' := [.int o1.1]) rfl ?_
  by_cases c3 : o1.1 ≠ 0
  · replace hf := (if_pos c3).symm.trans hf
    refine rs_ifT i_X8_doublings_5 (ct_ne c3) (tg := 11) (by decide) ?_
    refine rs_iload_n i_X8_doublings_11 rfl ?_
    refine rs_iconst i_X8_doublings_12 (v := 1) (by decide) ?_
    refine rs_bipush i_X8_doublings_13 (v := 9) (by decide) ?_
    obtain ⟨o4, e4, hf⟩ := bind_some hf
    refine rs_inS i_X8_doublings_15 (by decide) m_X8_in rfl (As := [.int v2, .int 1, .int 9]) (rest := []) rfl rfl (Nat.le_of_ble_eq_true rfl) (c_X8_in (by omega) e4) (st' := [.int o4.1]) rfl ?_
    by_cases c5 : o4.1 = 0
    · replace hf := (if_pos c5).symm.trans hf
      refine rs_ifT i_X8_doublings_18 (ct_eq c5) (tg := 32) (by decide) ?_
      refine rs_bipush i_X8_doublings_32 (v := (-7)) (by decide) ?_
      have hf := Option.some.inj hf
      subst hf
      exact rs_iret i_X8_doublings_34 m_X8_doublings rfl
    · replace hf := (if_neg c5).symm.trans hf
      refine rs_ifF i_X8_doublings_18 (cf_eq c5) ?_
      refine rs_iload_n i_X8_doublings_21 rfl ?_
      refine rs_iconst i_X8_doublings_22 (v := 1) (by decide) ?_
      refine rs_sipush i_X8_doublings_23 (v := 9999) (by decide) ?_
      obtain ⟨o6, e6, hf⟩ := bind_some hf
      refine rs_inS i_X8_doublings_26 (by decide) m_X8_in rfl (As := [.int v3, .int 1, .int 9999]) (rest := []) rfl rfl (Nat.le_of_ble_eq_true rfl) (c_X8_in (by omega) e6) (st' := [.int o6.1]) rfl ?_
      by_cases c7 : o6.1 ≠ 0
      · replace hf := (if_pos c7).symm.trans hf
        refine rs_ifT i_X8_doublings_29 (ct_ne c7) (tg := 35) (by decide) ?_
        refine rs_aload_n i_X8_doublings_35 rfl ?_
        refine rs_iload_n i_X8_doublings_36 rfl ?_
        obtain ⟨c9, hf⟩ := ite_some hf
        obtain ⟨o8, e8, hf⟩ := bind_some hf
        refine rs_inV i_X8_doublings_37 m_X8_goes rfl (As := [.int v1]) (rest := []) rfl rfl (Nat.le_of_ble_eq_true rfl) c9 (c_X8_goes (by omega) e8) (st' := []) rfl ?_
        refine rs_iconst i_X8_doublings_40 (v := 0) (by decide) ?_
        refine rs_istore i_X8_doublings_41 (Nat.le_of_ble_eq_true rfl) (lv' := [some (.ref v0), some (.int v1), some (.int v2), some (.int v3), some (.int 0)]) rfl ?_
        exact r_X8_doublings_43 hd _ _ _ _ _ _ _ _ hf
      · replace hf := (if_neg c7).symm.trans hf
        refine rs_ifF i_X8_doublings_29 (cf_ne c7) ?_
        refine rs_bipush i_X8_doublings_32 (v := (-7)) (by decide) ?_
        have hf := Option.some.inj hf
        subst hf
        exact rs_iret i_X8_doublings_34 m_X8_doublings rfl
  · replace hf := (if_neg c3).symm.trans hf
    refine rs_ifF i_X8_doublings_5 (cf_ne c3) ?_
    refine rs_bipush i_X8_doublings_8 (v := (-5)) (by decide) ?_
    have hf := Option.some.inj hf
    subst hf
    exact rs_iret i_X8_doublings_10 m_X8_doublings rfl
def f_X8_doublings (n : Nat) (v0 : Nat) (v1 : Int32) (v2 : Int32) (v3 : Int32) (h : Hp) : Option (Int32 × Hp) := f_X8_doublings_0 n v0 v1 v2 v3 h
theorem c_X8_doublings {X : Nat → Int32} {d : Nat} (hd : 7 ≤ d) {n : Nat} {v0 : Nat} {v1 : Int32} {v2 : Int32} {v3 : Int32} {h : Hp} {o : (Int32 × Hp)} (hf : f_X8_doublings n v0 v1 v2 v3 h = some o) : Calls X d 184 [.ref v0, .int v1, .int v2, .int v3] h (some (.int o.1), o.2) := by
  obtain ⟨d, rfl⟩ : ∃ z, d = z + 1 := ⟨d - 1, by omega⟩
  exact ⟨_, rfl, r_X8_doublings_0 hd hf⟩
theorem i_X8_sheetWrong_0 : fetch 185 0 = some (.iload_n 1, 1, 0, 0, 0, 0) := by decide +kernel
theorem i_X8_sheetWrong_1 : fetch 185 1 = some (.iconst 0, 2, 0, 0, 0, 0) := by decide +kernel
theorem i_X8_sheetWrong_2 : fetch 185 2 = some (.iconst 3, 3, 0, 0, 0, 0) := by decide +kernel
theorem i_X8_sheetWrong_3 : fetch 185 3 = some (.invokestatic 112, 6, 126, 0, 0, 970) := by decide +kernel
theorem i_X8_sheetWrong_6 : fetch 185 6 = some (.ifCond .ne 6, 9, 0, 0, 0, 0) := by decide +kernel
theorem i_X8_sheetWrong_9 : fetch 185 9 = some (.bipush (-2), 11, 0, 0, 0, 0) := by decide +kernel
theorem i_X8_sheetWrong_11 : fetch 185 11 = some (.ireturn, 12, 0, 0, 0, 0) := by decide +kernel
theorem i_X8_sheetWrong_12 : fetch 185 12 = some (.aload_n 0, 13, 0, 0, 0, 0) := by decide +kernel
theorem i_X8_sheetWrong_13 : fetch 185 13 = some (.getfield 51, 16, 8, 22, 0, 1031) := by decide +kernel
theorem i_X8_sheetWrong_16 : fetch 185 16 = some (.iload_n 1, 17, 0, 0, 0, 0) := by decide +kernel
theorem i_X8_sheetWrong_17 : fetch 185 17 = some (.iaload, 18, 0, 0, 0, 0) := by decide +kernel
theorem i_X8_sheetWrong_18 : fetch 185 18 = some (.iconst (-1), 19, 0, 0, 0, 0) := by decide +kernel
theorem i_X8_sheetWrong_19 : fetch 185 19 = some (.if_icmp .ne 6, 22, 0, 0, 0, 0) := by decide +kernel
theorem i_X8_sheetWrong_22 : fetch 185 22 = some (.bipush (-11), 24, 0, 0, 0, 0) := by decide +kernel
theorem i_X8_sheetWrong_24 : fetch 185 24 = some (.ireturn, 25, 0, 0, 0, 0) := by decide +kernel
theorem i_X8_sheetWrong_25 : fetch 185 25 = some (.aload_n 0, 26, 0, 0, 0, 0) := by decide +kernel
theorem i_X8_sheetWrong_26 : fetch 185 26 = some (.getfield 54, 29, 8, 23, 0, 1032) := by decide +kernel
theorem i_X8_sheetWrong_29 : fetch 185 29 = some (.iload_n 1, 30, 0, 0, 0, 0) := by decide +kernel
theorem i_X8_sheetWrong_30 : fetch 185 30 = some (.iaload, 31, 0, 0, 0, 0) := by decide +kernel
theorem i_X8_sheetWrong_31 : fetch 185 31 = some (.bipush 12, 33, 0, 0, 0, 0) := by decide +kernel
theorem i_X8_sheetWrong_33 : fetch 185 33 = some (.if_icmp .ne 7, 36, 0, 0, 0, 0) := by decide +kernel
theorem i_X8_sheetWrong_36 : fetch 185 36 = some (.iconst 0, 37, 0, 0, 0, 0) := by decide +kernel
theorem i_X8_sheetWrong_37 : fetch 185 37 = some (.goto 5, 40, 0, 0, 0, 0) := by decide +kernel
theorem i_X8_sheetWrong_40 : fetch 185 40 = some (.bipush (-2), 42, 0, 0, 0, 0) := by decide +kernel
theorem i_X8_sheetWrong_42 : fetch 185 42 = some (.ireturn, 43, 0, 0, 0, 0) := by decide +kernel
def f_X8_sheetWrong_0 (v0 : Nat) (v1 : Int32) (h : Hp) : Option (Int32 × Hp) :=
  (f_X8_in v1 0 3 h).bind fun o1 =>
  if o1.1 ≠ 0 then
    if okO o1.2 v0 8 then
    (gR o1.2 v0 22).bind fun a4 =>
    if okI o1.2 a4 v1 then
    if (gI o1.2 a4 (ix v1)) ≠ (-1) then
      (gR o1.2 v0 23).bind fun a7 =>
      if okI o1.2 a7 v1 then
      if (gI o1.2 a7 (ix v1)) ≠ 12 then
        some ((-2), o1.2)
      else
        some (0, o1.2)
      else none
    else
      some ((-11), o1.2)
    else none
    else none
  else
    some ((-2), o1.2)
set_option maxRecDepth 100000 in
set_option maxHeartbeats 4000000 in
theorem r_X8_sheetWrong_0 {X : Nat → Int32} {d : Nat} (hd : 1 ≤ (d + 1)) {v0 : Nat} {v1 : Int32} {h : Hp} {o : (Int32 × Hp)} (hf : f_X8_sheetWrong_0 v0 v1 h = some o) : Run X (d + 1) 185 0 [some (.ref v0), some (.int v1)] [] h (some (.int o.1), o.2) := by
  unfold f_X8_sheetWrong_0 at hf
  refine rs_iload_n i_X8_sheetWrong_0 rfl ?_
  refine rs_iconst i_X8_sheetWrong_1 (v := 0) (by decide) ?_
  refine rs_iconst i_X8_sheetWrong_2 (v := 3) (by decide) ?_
  obtain ⟨o1, e1, hf⟩ := bind_some hf
  refine rs_inS i_X8_sheetWrong_3 (by decide) m_X8_in rfl (As := [.int v1, .int 0, .int 3]) (rest := []) rfl rfl (Nat.le_of_ble_eq_true rfl) (c_X8_in (by omega) e1) (st' := [.int o1.1]) rfl ?_
  by_cases c2 : o1.1 ≠ 0
  · replace hf := (if_pos c2).symm.trans hf
    refine rs_ifT i_X8_sheetWrong_6 (ct_ne c2) (tg := 12) (by decide) ?_
    refine rs_aload_n i_X8_sheetWrong_12 rfl ?_
    obtain ⟨c3, hf⟩ := ite_some hf
    obtain ⟨a4, e4, hf⟩ := bind_some hf
    refine rs_getR i_X8_sheetWrong_13 (by decide) (by decide) c3 e4 ?_
    refine rs_iload_n i_X8_sheetWrong_16 rfl ?_
    obtain ⟨c5, hf⟩ := ite_some hf
    refine rs_iald i_X8_sheetWrong_17 c5 ?_
    refine rs_iconst i_X8_sheetWrong_18 (v := (-1)) (by decide) ?_
    by_cases c6 : (gI o1.2 a4 (ix v1)) ≠ (-1)
    · replace hf := (if_pos c6).symm.trans hf
      refine rs_icT i_X8_sheetWrong_19 (ct_ne c6) (tg := 25) (by decide) ?_
      refine rs_aload_n i_X8_sheetWrong_25 rfl ?_
      obtain ⟨a7, e7, hf⟩ := bind_some hf
      refine rs_getR i_X8_sheetWrong_26 (by decide) (by decide) c3 e7 ?_
      refine rs_iload_n i_X8_sheetWrong_29 rfl ?_
      obtain ⟨c8, hf⟩ := ite_some hf
      refine rs_iald i_X8_sheetWrong_30 c8 ?_
      refine rs_bipush i_X8_sheetWrong_31 (v := 12) (by decide) ?_
      by_cases c9 : (gI o1.2 a7 (ix v1)) ≠ 12
      · replace hf := (if_pos c9).symm.trans hf
        refine rs_icT i_X8_sheetWrong_33 (ct_ne c9) (tg := 40) (by decide) ?_
        refine rs_bipush i_X8_sheetWrong_40 (v := (-2)) (by decide) ?_
        have hf := Option.some.inj hf
        subst hf
        exact rs_iret i_X8_sheetWrong_42 m_X8_sheetWrong rfl
      · replace hf := (if_neg c9).symm.trans hf
        refine rs_icF i_X8_sheetWrong_33 (cf_ne c9) ?_
        refine rs_iconst i_X8_sheetWrong_36 (v := 0) (by decide) ?_
        refine rs_goto i_X8_sheetWrong_37 (tg := 42) (by decide) ?_
        have hf := Option.some.inj hf
        subst hf
        exact rs_iret i_X8_sheetWrong_42 m_X8_sheetWrong rfl
    · replace hf := (if_neg c6).symm.trans hf
      refine rs_icF i_X8_sheetWrong_19 (cf_ne c6) ?_
      refine rs_bipush i_X8_sheetWrong_22 (v := (-11)) (by decide) ?_
      have hf := Option.some.inj hf
      subst hf
      exact rs_iret i_X8_sheetWrong_24 m_X8_sheetWrong rfl
  · replace hf := (if_neg c2).symm.trans hf
    refine rs_ifF i_X8_sheetWrong_6 (cf_ne c2) ?_
    refine rs_bipush i_X8_sheetWrong_9 (v := (-2)) (by decide) ?_
    have hf := Option.some.inj hf
    subst hf
    exact rs_iret i_X8_sheetWrong_11 m_X8_sheetWrong rfl
def f_X8_sheetWrong (v0 : Nat) (v1 : Int32) (h : Hp) : Option (Int32 × Hp) := f_X8_sheetWrong_0 v0 v1 h
theorem c_X8_sheetWrong {X : Nat → Int32} {d : Nat} (hd : 1 ≤ d) {v0 : Nat} {v1 : Int32} {h : Hp} {o : (Int32 × Hp)} (hf : f_X8_sheetWrong v0 v1 h = some o) : Calls X d 185 [.ref v0, .int v1] h (some (.int o.1), o.2) := by
  obtain ⟨d, rfl⟩ : ∃ z, d = z + 1 := ⟨d - 1, by omega⟩
  exact ⟨_, rfl, r_X8_sheetWrong_0 hd hf⟩
theorem i_X8_offFrom_0 : fetch 186 0 = some (.iconst 0, 1, 0, 0, 0, 0) := by decide +kernel
theorem i_X8_offFrom_1 : fetch 186 1 = some (.istore_n 3, 2, 0, 0, 0, 0) := by decide +kernel
theorem i_X8_offFrom_2 : fetch 186 2 = some (.iload_n 3, 3, 0, 0, 0, 0) := by decide +kernel
theorem i_X8_offFrom_3 : fetch 186 3 = some (.bipush 12, 5, 0, 0, 0, 0) := by decide +kernel
theorem i_X8_offFrom_5 : fetch 186 5 = some (.if_icmp .ge 49, 8, 0, 0, 0, 0) := by decide +kernel
theorem i_X8_offFrom_8 : fetch 186 8 = some (.aload_n 0, 9, 0, 0, 0, 0) := by decide +kernel
theorem i_X8_offFrom_9 : fetch 186 9 = some (.iload_n 3, 10, 0, 0, 0, 0) := by decide +kernel
theorem i_X8_offFrom_10 : fetch 186 10 = some (.invokevirtual 202, 13, 154, 0, 0, 1256) := by decide +kernel
theorem i_X8_offFrom_13 : fetch 186 13 = some (.i2l, 14, 0, 0, 0, 0) := by decide +kernel
theorem i_X8_offFrom_14 : fetch 186 14 = some (.aload_n 0, 15, 0, 0, 0, 0) := by decide +kernel
theorem i_X8_offFrom_15 : fetch 186 15 = some (.getfield 57, 18, 8, 24, 0, 1033) := by decide +kernel
theorem i_X8_offFrom_18 : fetch 186 18 = some (.bipush 40, 20, 0, 0, 0, 0) := by decide +kernel
theorem i_X8_offFrom_20 : fetch 186 20 = some (.iload_n 1, 21, 0, 0, 0, 0) := by decide +kernel
theorem i_X8_offFrom_21 : fetch 186 21 = some (.imul, 22, 0, 0, 0, 0) := by decide +kernel
theorem i_X8_offFrom_22 : fetch 186 22 = some (.iload_n 3, 23, 0, 0, 0, 0) := by decide +kernel
theorem i_X8_offFrom_23 : fetch 186 23 = some (.iadd, 24, 0, 0, 0, 0) := by decide +kernel
theorem i_X8_offFrom_24 : fetch 186 24 = some (.iaload, 25, 0, 0, 0, 0) := by decide +kernel
theorem i_X8_offFrom_25 : fetch 186 25 = some (.i2l, 26, 0, 0, 0, 0) := by decide +kernel
theorem i_X8_offFrom_26 : fetch 186 26 = some (.lsub, 27, 0, 0, 0, 0) := by decide +kernel
theorem i_X8_offFrom_27 : fetch 186 27 = some (.lstore 4, 29, 0, 0, 0, 0) := by decide +kernel
theorem i_X8_offFrom_29 : fetch 186 29 = some (.lload 4, 31, 0, 0, 0, 0) := by decide +kernel
theorem i_X8_offFrom_31 : fetch 186 31 = some (.iload_n 2, 32, 0, 0, 0, 0) := by decide +kernel
theorem i_X8_offFrom_32 : fetch 186 32 = some (.i2l, 33, 0, 0, 0, 0) := by decide +kernel
theorem i_X8_offFrom_33 : fetch 186 33 = some (.lcmp, 34, 0, 0, 0, 0) := by decide +kernel
theorem i_X8_offFrom_34 : fetch 186 34 = some (.ifCond .gt 12, 37, 0, 0, 0, 0) := by decide +kernel
theorem i_X8_offFrom_37 : fetch 186 37 = some (.lload 4, 39, 0, 0, 0, 0) := by decide +kernel
theorem i_X8_offFrom_39 : fetch 186 39 = some (.lneg, 40, 0, 0, 0, 0) := by decide +kernel
theorem i_X8_offFrom_40 : fetch 186 40 = some (.iload_n 2, 41, 0, 0, 0, 0) := by decide +kernel
theorem i_X8_offFrom_41 : fetch 186 41 = some (.i2l, 42, 0, 0, 0, 0) := by decide +kernel
theorem i_X8_offFrom_42 : fetch 186 42 = some (.lcmp, 43, 0, 0, 0, 0) := by decide +kernel
theorem i_X8_offFrom_43 : fetch 186 43 = some (.ifCond .le 5, 46, 0, 0, 0, 0) := by decide +kernel
theorem i_X8_offFrom_46 : fetch 186 46 = some (.iload_n 3, 47, 0, 0, 0, 0) := by decide +kernel
theorem i_X8_offFrom_47 : fetch 186 47 = some (.ireturn, 48, 0, 0, 0, 0) := by decide +kernel
theorem i_X8_offFrom_48 : fetch 186 48 = some (.iinc 3 1, 51, 0, 0, 0, 0) := by decide +kernel
theorem i_X8_offFrom_51 : fetch 186 51 = some (.goto (-49), 54, 0, 0, 0, 0) := by decide +kernel
theorem i_X8_offFrom_54 : fetch 186 54 = some (.iconst (-1), 55, 0, 0, 0, 0) := by decide +kernel
theorem i_X8_offFrom_55 : fetch 186 55 = some (.ireturn, 56, 0, 0, 0, 0) := by decide +kernel
def f_X8_offFrom_29 (n : Nat) (K2 : Nat → Int32 → Int32 → Int32 → Hp → Option (Int32 × Hp)) (v0 : Nat) (v1 : Int32) (v2 : Int32) (v3 : Int32) (v4 : Int64) (h : Hp) : Option (Int32 × Hp) :=
  if (Int32.toInt64 v2) < v4 then
    some (v3, h)
  else
    if (-v4) ≤ (Int32.toInt64 v2) then
      K2 v0 v1 v2 (v3 + 1) h
    else
      some (v3, h)
set_option maxRecDepth 100000 in
set_option maxHeartbeats 4000000 in
theorem r_X8_offFrom_29 {X : Nat → Int32} {d : Nat} (hd : 1 ≤ (d + 1)) {n : Nat} {K2 : Nat → Int32 → Int32 → Int32 → Hp → Option (Int32 × Hp)} (HK2 : ∀ (v0 : Nat) (v1 : Int32) (v2 : Int32) (v3 : Int32) (w4 : Option Value) (w5 : Option Value) (h : Hp) (o : (Int32 × Hp)), K2 v0 v1 v2 v3 h = some o → Run X (d + 1) 186 2 [some (.ref v0), some (.int v1), some (.int v2), some (.int v3), w4, w5] [] h (some (.int o.1), o.2)) {v0 : Nat} {v1 : Int32} {v2 : Int32} {v3 : Int32} {v4 : Int64} {h : Hp} {o : (Int32 × Hp)} (hf : f_X8_offFrom_29 n K2 v0 v1 v2 v3 v4 h = some o) : Run X (d + 1) 186 29 [some (.ref v0), some (.int v1), some (.int v2), some (.int v3), some (.long v4), none] [] h (some (.int o.1), o.2) := by
  unfold f_X8_offFrom_29 at hf
  refine rs_lload i_X8_offFrom_29 rfl ?_
  refine rs_iload_n i_X8_offFrom_31 rfl ?_
  refine rs_i2l i_X8_offFrom_32 ?_
  refine rs_lcmp i_X8_offFrom_33 ?_
  by_cases c1 : (Int32.toInt64 v2) < v4
  · replace hf := (if_pos c1).symm.trans hf
    refine rs_ifT i_X8_offFrom_34 (by rw [lc_gt]; exact decide_eq_true c1) (tg := 46) (by decide) ?_
    refine rs_iload_n i_X8_offFrom_46 rfl ?_
    have hf := Option.some.inj hf
    subst hf
    exact rs_iret i_X8_offFrom_47 m_X8_offFrom rfl
  · replace hf := (if_neg c1).symm.trans hf
    refine rs_ifF i_X8_offFrom_34 (by rw [lc_gt]; exact decide_eq_false c1) ?_
    refine rs_lload i_X8_offFrom_37 rfl ?_
    refine rs_lneg i_X8_offFrom_39 ?_
    refine rs_iload_n i_X8_offFrom_40 rfl ?_
    refine rs_i2l i_X8_offFrom_41 ?_
    refine rs_lcmp i_X8_offFrom_42 ?_
    by_cases c2 : (-v4) ≤ (Int32.toInt64 v2)
    · replace hf := (if_pos c2).symm.trans hf
      refine rs_ifT i_X8_offFrom_43 (by rw [lc_le]; exact decide_eq_true c2) (tg := 48) (by decide) ?_
      refine rs_iinc i_X8_offFrom_48 rfl (v := v3 + 1) rfl (Nat.le_of_ble_eq_true rfl) (lv' := [some (.ref v0), some (.int v1), some (.int v2), some (.int (v3 + 1)), some (.long v4), none]) rfl ?_
      refine rs_goto i_X8_offFrom_51 (tg := 2) (by decide) ?_
      exact HK2 _ _ _ _ _ _ _ _ hf
    · replace hf := (if_neg c2).symm.trans hf
      refine rs_ifF i_X8_offFrom_43 (by rw [lc_le]; exact decide_eq_false c2) ?_
      refine rs_iload_n i_X8_offFrom_46 rfl ?_
      have hf := Option.some.inj hf
      subst hf
      exact rs_iret i_X8_offFrom_47 m_X8_offFrom rfl
def f_X8_offFrom_2 (n : Nat) : Nat → Nat → Int32 → Int32 → Int32 → Hp → Option (Int32 × Hp)
  | 0, _, _, _, _, _ => none
  | m + 1, v0, v1, v2, v3, h =>
    if 12 ≤ v3 then
      some ((-1), h)
    else
      if okO h v0 8 then
      (f_X8_thickOf v0 v3 h).bind fun o2 =>
      if okO o2.2 v0 8 then
      (gR o2.2 v0 24).bind fun a5 =>
      if okI o2.2 a5 ((40 * v1) + v3) then
      f_X8_offFrom_29 n (f_X8_offFrom_2 n m) v0 v1 v2 v3 ((Int32.toInt64 o2.1) - (Int32.toInt64 (gI o2.2 a5 (ix ((40 * v1) + v3))))) o2.2
      else none
      else none
      else none
set_option maxRecDepth 100000 in
set_option maxHeartbeats 4000000 in
theorem r_X8_offFrom_2 {X : Nat → Int32} {d : Nat} (hd : 1 ≤ (d + 1)) {n : Nat} : ∀ (m : Nat) (v0 : Nat) (v1 : Int32) (v2 : Int32) (v3 : Int32) (w4 : Option Value) (w5 : Option Value) (h : Hp) (o : (Int32 × Hp)), f_X8_offFrom_2 n m v0 v1 v2 v3 h = some o → Run X (d + 1) 186 2 [some (.ref v0), some (.int v1), some (.int v2), some (.int v3), w4, w5] [] h (some (.int o.1), o.2) := by
  intro m
  induction m with
  | zero => intro v0 v1 v2 v3 w4 w5 h o hf; cases hf
  | succ m ih =>
    intro v0 v1 v2 v3 w4 w5 h o hf
    rw [f_X8_offFrom_2] at hf
    refine rs_iload_n i_X8_offFrom_2 rfl ?_
    refine rs_bipush i_X8_offFrom_3 (v := 12) (by decide) ?_
    by_cases c1 : 12 ≤ v3
    · replace hf := (if_pos c1).symm.trans hf
      refine rs_icT i_X8_offFrom_5 (ct_ge c1) (tg := 54) (by decide) ?_
      refine rs_iconst i_X8_offFrom_54 (v := (-1)) (by decide) ?_
      have hf := Option.some.inj hf
      subst hf
      exact rs_iret i_X8_offFrom_55 m_X8_offFrom rfl
    · replace hf := (if_neg c1).symm.trans hf
      refine rs_icF i_X8_offFrom_5 (cf_ge c1) ?_
      refine rs_aload_n i_X8_offFrom_8 rfl ?_
      refine rs_iload_n i_X8_offFrom_9 rfl ?_
      obtain ⟨c3, hf⟩ := ite_some hf
      obtain ⟨o2, e2, hf⟩ := bind_some hf
      refine rs_inV i_X8_offFrom_10 m_X8_thickOf rfl (As := [.int v3]) (rest := []) rfl rfl (Nat.le_of_ble_eq_true rfl) c3 (c_X8_thickOf (by omega) e2) (st' := [.int o2.1]) rfl ?_
      refine rs_i2l i_X8_offFrom_13 ?_
      refine rs_aload_n i_X8_offFrom_14 rfl ?_
      obtain ⟨c4, hf⟩ := ite_some hf
      obtain ⟨a5, e5, hf⟩ := bind_some hf
      refine rs_getR i_X8_offFrom_15 (by decide) (by decide) c4 e5 ?_
      refine rs_bipush i_X8_offFrom_18 (v := 40) (by decide) ?_
      refine rs_iload_n i_X8_offFrom_20 rfl ?_
      refine rs_imul i_X8_offFrom_21 ?_
      refine rs_iload_n i_X8_offFrom_22 rfl ?_
      refine rs_iadd i_X8_offFrom_23 ?_
      obtain ⟨c6, hf⟩ := ite_some hf
      refine rs_iald i_X8_offFrom_24 c6 ?_
      refine rs_i2l i_X8_offFrom_25 ?_
      refine rs_lsub i_X8_offFrom_26 ?_
      refine rs_lstore i_X8_offFrom_27 (Nat.le_of_ble_eq_true rfl) (lv' := [some (.ref v0), some (.int v1), some (.int v2), some (.int v3), some (.long ((Int32.toInt64 o2.1) - (Int32.toInt64 (gI o2.2 a5 (ix ((40 * v1) + v3)))))), none]) rfl ?_
      exact r_X8_offFrom_29 hd ih hf
def f_X8_offFrom_0 (n : Nat) (v0 : Nat) (v1 : Int32) (v2 : Int32) (h : Hp) : Option (Int32 × Hp) :=
  f_X8_offFrom_2 n n v0 v1 v2 0 h
set_option maxRecDepth 100000 in
set_option maxHeartbeats 4000000 in
theorem r_X8_offFrom_0 {X : Nat → Int32} {d : Nat} (hd : 1 ≤ (d + 1)) {n : Nat} {v0 : Nat} {v1 : Int32} {v2 : Int32} {h : Hp} {o : (Int32 × Hp)} (hf : f_X8_offFrom_0 n v0 v1 v2 h = some o) : Run X (d + 1) 186 0 [some (.ref v0), some (.int v1), some (.int v2), none, none, none] [] h (some (.int o.1), o.2) := by
  unfold f_X8_offFrom_0 at hf
  refine rs_iconst i_X8_offFrom_0 (v := 0) (by decide) ?_
  refine rs_istore_n i_X8_offFrom_1 (Nat.le_of_ble_eq_true rfl) (lv' := [some (.ref v0), some (.int v1), some (.int v2), some (.int 0), none, none]) rfl ?_
  exact r_X8_offFrom_2 hd _ _ _ _ _ _ _ _ _ hf
def f_X8_offFrom (n : Nat) (v0 : Nat) (v1 : Int32) (v2 : Int32) (h : Hp) : Option (Int32 × Hp) := f_X8_offFrom_0 n v0 v1 v2 h
theorem c_X8_offFrom {X : Nat → Int32} {d : Nat} (hd : 1 ≤ d) {n : Nat} {v0 : Nat} {v1 : Int32} {v2 : Int32} {h : Hp} {o : (Int32 × Hp)} (hf : f_X8_offFrom n v0 v1 v2 h = some o) : Calls X d 186 [.ref v0, .int v1, .int v2] h (some (.int o.1), o.2) := by
  obtain ⟨d, rfl⟩ : ∃ z, d = z + 1 := ⟨d - 1, by omega⟩
  exact ⟨_, rfl, r_X8_offFrom_0 hd hf⟩
