theorem i_X6_add_0 : fetch 61 0 = some (.aload_n 0, 1, 0, 0, 0, 0) := by decide +kernel
theorem i_X6_add_1 : fetch 61 1 = some (.getfield 21, 4, 6, 3, 0, 173) := by decide +kernel
theorem i_X6_add_4 : fetch 61 4 = some (.sipush 160, 7, 0, 0, 0, 0) := by decide +kernel
theorem i_X6_add_7 : fetch 61 7 = some (.if_icmp .ge 23, 10, 0, 0, 0, 0) := by decide +kernel
theorem i_X6_add_10 : fetch 61 10 = some (.aload_n 0, 11, 0, 0, 0, 0) := by decide +kernel
theorem i_X6_add_11 : fetch 61 11 = some (.getfield 9, 14, 6, 0, 0, 170) := by decide +kernel
theorem i_X6_add_14 : fetch 61 14 = some (.aload_n 0, 15, 0, 0, 0, 0) := by decide +kernel
theorem i_X6_add_15 : fetch 61 15 = some (.getfield 21, 18, 6, 3, 0, 173) := by decide +kernel
theorem i_X6_add_18 : fetch 61 18 = some (.iload_n 1, 19, 0, 0, 0, 0) := by decide +kernel
theorem i_X6_add_19 : fetch 61 19 = some (.iastore, 20, 0, 0, 0, 0) := by decide +kernel
theorem i_X6_add_20 : fetch 61 20 = some (.aload_n 0, 21, 0, 0, 0, 0) := by decide +kernel
theorem i_X6_add_21 : fetch 61 21 = some (.dup, 22, 0, 0, 0, 0) := by decide +kernel
theorem i_X6_add_22 : fetch 61 22 = some (.getfield 21, 25, 6, 3, 0, 173) := by decide +kernel
theorem i_X6_add_25 : fetch 61 25 = some (.iconst 1, 26, 0, 0, 0, 0) := by decide +kernel
theorem i_X6_add_26 : fetch 61 26 = some (.iadd, 27, 0, 0, 0, 0) := by decide +kernel
theorem i_X6_add_27 : fetch 61 27 = some (.putfield 21, 30, 6, 3, 0, 173) := by decide +kernel
theorem i_X6_add_30 : fetch 61 30 = some (.return_, 31, 0, 0, 0, 0) := by decide +kernel
def f_X6_add_20 (v0 : Nat) (h : Hp) : Option Hp :=
  if okO h v0 6 then
  some (hsi h v0 3 ((gI h v0 3) + 1))
  else none
set_option maxRecDepth 100000 in
set_option maxHeartbeats 4000000 in
theorem r_X6_add_20 {X : Nat → Int32} {d : Nat} (hd : 0 ≤ d) {v0 : Nat} {d1 : Int32} {h : Hp} {o : Hp} (hf : f_X6_add_20 v0 h = some o) : Run X d 61 20 [some (.ref v0), some (.int d1)] [] h (none, o) := by
  unfold f_X6_add_20 at hf
  refine rs_aload_n i_X6_add_20 rfl ?_
  refine rs_dup i_X6_add_21 rfl ?_
  obtain ⟨c1, hf⟩ := ite_some hf
  refine rs_getI i_X6_add_22 (by decide) (by decide) c1 ?_
  refine rs_iconst i_X6_add_25 (v := 1) (by decide) ?_
  refine rs_iadd i_X6_add_26 ?_
  refine rs_putI i_X6_add_27 (by decide) c1 ?_
  have hf := Option.some.inj hf
  subst hf
  exact rs_vret i_X6_add_30 m_X6_add rfl
def f_X6_add_0 (v0 : Nat) (v1 : Int32) (h : Hp) : Option Hp :=
  if okO h v0 6 then
  if 160 ≤ (gI h v0 3) then
    some h
  else
    (gR h v0 0).bind fun a3 =>
    if okI h a3 (gI h v0 3) then
    f_X6_add_20 v0 (hsi h a3 (ix (gI h v0 3)) v1)
    else none
  else none
set_option maxRecDepth 100000 in
set_option maxHeartbeats 4000000 in
theorem r_X6_add_0 {X : Nat → Int32} {d : Nat} (hd : 0 ≤ d) {v0 : Nat} {v1 : Int32} {h : Hp} {o : Hp} (hf : f_X6_add_0 v0 v1 h = some o) : Run X d 61 0 [some (.ref v0), some (.int v1)] [] h (none, o) := by
  unfold f_X6_add_0 at hf
  refine rs_aload_n i_X6_add_0 rfl ?_
  obtain ⟨c1, hf⟩ := ite_some hf
  refine rs_getI i_X6_add_1 (by decide) (by decide) c1 ?_
  refine rs_sipush i_X6_add_4 (v := 160) (by decide) ?_
  by_cases c2 : 160 ≤ (gI h v0 3)
  · replace hf := (if_pos c2).symm.trans hf
    refine rs_icT i_X6_add_7 (ct_ge c2) (tg := 30) (by decide) ?_
    have hf := Option.some.inj hf
    subst hf
    exact rs_vret i_X6_add_30 m_X6_add rfl
  · replace hf := (if_neg c2).symm.trans hf
    refine rs_icF i_X6_add_7 (cf_ge c2) ?_
    refine rs_aload_n i_X6_add_10 rfl ?_
    obtain ⟨a3, e3, hf⟩ := bind_some hf
    refine rs_getR i_X6_add_11 (by decide) (by decide) c1 e3 ?_
    refine rs_aload_n i_X6_add_14 rfl ?_
    refine rs_getI i_X6_add_15 (by decide) (by decide) c1 ?_
    refine rs_iload_n i_X6_add_18 rfl ?_
    obtain ⟨c4, hf⟩ := ite_some hf
    refine rs_iast i_X6_add_19 c4 ?_
    exact r_X6_add_20 hd hf
def f_X6_add (v0 : Nat) (v1 : Int32) (h : Hp) : Option Hp := f_X6_add_0 v0 v1 h
theorem c_X6_add {X : Nat → Int32} {d : Nat} (hd : 0 ≤ d) {v0 : Nat} {v1 : Int32} {h : Hp} {o : Hp} (hf : f_X6_add v0 v1 h = some o) : Calls X d 61 [.ref v0, .int v1] h (none, o) := by
  exact ⟨_, rfl, r_X6_add_0 hd hf⟩
theorem i_X6_nameCode_0 : fetch 60 0 = some (.iconst (-1), 1, 0, 0, 0, 0) := by decide +kernel
theorem i_X6_nameCode_1 : fetch 60 1 = some (.iload_n 0, 2, 0, 0, 0, 0) := by decide +kernel
theorem i_X6_nameCode_2 : fetch 60 2 = some (.isub, 3, 0, 0, 0, 0) := by decide +kernel
theorem i_X6_nameCode_3 : fetch 60 3 = some (.ireturn, 4, 0, 0, 0, 0) := by decide +kernel
def f_X6_nameCode_0 (v0 : Int32) (h : Hp) : Option (Int32 × Hp) :=
  some (((-1) - v0), h)
set_option maxRecDepth 100000 in
set_option maxHeartbeats 4000000 in
theorem r_X6_nameCode_0 {X : Nat → Int32} {d : Nat} (hd : 0 ≤ d) {v0 : Int32} {h : Hp} {o : (Int32 × Hp)} (hf : f_X6_nameCode_0 v0 h = some o) : Run X d 60 0 [some (.int v0)] [] h (some (.int o.1), o.2) := by
  unfold f_X6_nameCode_0 at hf
  refine rs_iconst i_X6_nameCode_0 (v := (-1)) (by decide) ?_
  refine rs_iload_n i_X6_nameCode_1 rfl ?_
  refine rs_isub i_X6_nameCode_2 ?_
  have hf := Option.some.inj hf
  subst hf
  exact rs_iret i_X6_nameCode_3 m_X6_nameCode rfl
def f_X6_nameCode (v0 : Int32) (h : Hp) : Option (Int32 × Hp) := f_X6_nameCode_0 v0 h
theorem c_X6_nameCode {X : Nat → Int32} {d : Nat} (hd : 0 ≤ d) {v0 : Int32} {h : Hp} {o : (Int32 × Hp)} (hf : f_X6_nameCode v0 h = some o) : Calls X d 60 [.int v0] h (some (.int o.1), o.2) := by
  exact ⟨_, rfl, r_X6_nameCode_0 hd hf⟩
theorem i_X2_readOne_0 : fetch 19 0 = some (.aload_n 0, 1, 0, 0, 0, 0) := by decide +kernel
theorem i_X2_readOne_1 : fetch 19 1 = some (.getfield 22, 4, 2, 3, 0, 126) := by decide +kernel
theorem i_X2_readOne_4 : fetch 19 4 = some (.iconst 2, 5, 0, 0, 0, 0) := by decide +kernel
theorem i_X2_readOne_5 : fetch 19 5 = some (.if_icmp .eq 11, 8, 0, 0, 0, 0) := by decide +kernel
theorem i_X2_readOne_8 : fetch 19 8 = some (.aload_n 0, 9, 0, 0, 0, 0) := by decide +kernel
theorem i_X2_readOne_9 : fetch 19 9 = some (.getfield 22, 12, 2, 3, 0, 126) := by decide +kernel
theorem i_X2_readOne_12 : fetch 19 12 = some (.iconst 3, 13, 0, 0, 0, 0) := by decide +kernel
theorem i_X2_readOne_13 : fetch 19 13 = some (.if_icmp .ne 35, 16, 0, 0, 0, 0) := by decide +kernel
theorem i_X2_readOne_16 : fetch 19 16 = some (.aload_n 1, 17, 0, 0, 0, 0) := by decide +kernel
theorem i_X2_readOne_17 : fetch 19 17 = some (.aload_n 0, 18, 0, 0, 0, 0) := by decide +kernel
theorem i_X2_readOne_18 : fetch 19 18 = some (.getfield 22, 21, 2, 3, 0, 126) := by decide +kernel
theorem i_X2_readOne_21 : fetch 19 21 = some (.iconst 2, 22, 0, 0, 0, 0) := by decide +kernel
theorem i_X2_readOne_22 : fetch 19 22 = some (.if_icmp .ne 10, 25, 0, 0, 0, 0) := by decide +kernel
theorem i_X2_readOne_25 : fetch 19 25 = some (.aload_n 0, 26, 0, 0, 0, 0) := by decide +kernel
theorem i_X2_readOne_26 : fetch 19 26 = some (.getfield 28, 29, 2, 5, 0, 128) := by decide +kernel
theorem i_X2_readOne_29 : fetch 19 29 = some (.goto 10, 32, 0, 0, 0, 0) := by decide +kernel
theorem i_X2_readOne_32 : fetch 19 32 = some (.aload_n 0, 33, 0, 0, 0, 0) := by decide +kernel
theorem i_X2_readOne_33 : fetch 19 33 = some (.getfield 28, 36, 2, 5, 0, 128) := by decide +kernel
theorem i_X2_readOne_36 : fetch 19 36 = some (.invokestatic 68, 39, 60, 0, 0, 467) := by decide +kernel
theorem i_X2_readOne_39 : fetch 19 39 = some (.invokevirtual 50, 42, 61, 0, 0, 470) := by decide +kernel
theorem i_X2_readOne_42 : fetch 19 42 = some (.aload_n 0, 43, 0, 0, 0, 0) := by decide +kernel
theorem i_X2_readOne_43 : fetch 19 43 = some (.invokevirtual 36, 46, 20, 0, 0, 347) := by decide +kernel
theorem i_X2_readOne_46 : fetch 19 46 = some (.iconst 1, 47, 0, 0, 0, 0) := by decide +kernel
theorem i_X2_readOne_47 : fetch 19 47 = some (.ireturn, 48, 0, 0, 0, 0) := by decide +kernel
theorem i_X2_readOne_48 : fetch 19 48 = some (.aload_n 0, 49, 0, 0, 0, 0) := by decide +kernel
theorem i_X2_readOne_49 : fetch 19 49 = some (.getfield 22, 52, 2, 3, 0, 126) := by decide +kernel
theorem i_X2_readOne_52 : fetch 19 52 = some (.bipush 45, 54, 0, 0, 0, 0) := by decide +kernel
theorem i_X2_readOne_54 : fetch 19 54 = some (.if_icmp .eq 12, 57, 0, 0, 0, 0) := by decide +kernel
theorem i_X2_readOne_57 : fetch 19 57 = some (.aload_n 0, 58, 0, 0, 0, 0) := by decide +kernel
theorem i_X2_readOne_58 : fetch 19 58 = some (.getfield 22, 61, 2, 3, 0, 126) := by decide +kernel
theorem i_X2_readOne_61 : fetch 19 61 = some (.bipush 40, 63, 0, 0, 0, 0) := by decide +kernel
theorem i_X2_readOne_63 : fetch 19 63 = some (.if_icmp .ne 8, 66, 0, 0, 0, 0) := by decide +kernel
theorem i_X2_readOne_66 : fetch 19 66 = some (.iload_n 2, 67, 0, 0, 0, 0) := by decide +kernel
theorem i_X2_readOne_67 : fetch 19 67 = some (.iconst 5, 68, 0, 0, 0, 0) := by decide +kernel
theorem i_X2_readOne_68 : fetch 19 68 = some (.if_icmp .lt 5, 71, 0, 0, 0, 0) := by decide +kernel
theorem i_X2_readOne_71 : fetch 19 71 = some (.iconst 0, 72, 0, 0, 0, 0) := by decide +kernel
theorem i_X2_readOne_72 : fetch 19 72 = some (.ireturn, 73, 0, 0, 0, 0) := by decide +kernel
theorem i_X2_readOne_73 : fetch 19 73 = some (.aload_n 0, 74, 0, 0, 0, 0) := by decide +kernel
theorem i_X2_readOne_74 : fetch 19 74 = some (.getfield 22, 77, 2, 3, 0, 126) := by decide +kernel
theorem i_X2_readOne_77 : fetch 19 77 = some (.bipush 45, 79, 0, 0, 0, 0) := by decide +kernel
theorem i_X2_readOne_79 : fetch 19 79 = some (.if_icmp .ne 7, 82, 0, 0, 0, 0) := by decide +kernel
theorem i_X2_readOne_82 : fetch 19 82 = some (.iconst 1, 83, 0, 0, 0, 0) := by decide +kernel
theorem i_X2_readOne_83 : fetch 19 83 = some (.goto 4, 86, 0, 0, 0, 0) := by decide +kernel
theorem i_X2_readOne_86 : fetch 19 86 = some (.iconst 0, 87, 0, 0, 0, 0) := by decide +kernel
theorem i_X2_readOne_87 : fetch 19 87 = some (.istore_n 3, 88, 0, 0, 0, 0) := by decide +kernel
theorem i_X2_readOne_88 : fetch 19 88 = some (.aload_n 0, 89, 0, 0, 0, 0) := by decide +kernel
theorem i_X2_readOne_89 : fetch 19 89 = some (.invokevirtual 36, 92, 20, 0, 0, 347) := by decide +kernel
theorem i_X2_readOne_92 : fetch 19 92 = some (.iload_n 3, 93, 0, 0, 0, 0) := by decide +kernel
theorem i_X2_readOne_93 : fetch 19 93 = some (.ifCond .eq 24, 96, 0, 0, 0, 0) := by decide +kernel
theorem i_X2_readOne_96 : fetch 19 96 = some (.aload_n 0, 97, 0, 0, 0, 0) := by decide +kernel
theorem i_X2_readOne_97 : fetch 19 97 = some (.aload_n 1, 98, 0, 0, 0, 0) := by decide +kernel
theorem i_X2_readOne_98 : fetch 19 98 = some (.iload_n 2, 99, 0, 0, 0, 0) := by decide +kernel
theorem i_X2_readOne_99 : fetch 19 99 = some (.iconst 1, 100, 0, 0, 0, 0) := by decide +kernel
theorem i_X2_readOne_100 : fetch 19 100 = some (.iadd, 101, 0, 0, 0, 0) := by decide +kernel
theorem i_X2_readOne_101 : fetch 19 101 = some (.invokevirtual 65, 104, 19, 0, 0, 463) := by decide +kernel
theorem i_X2_readOne_104 : fetch 19 104 = some (.ifCond .ne 5, 107, 0, 0, 0, 0) := by decide +kernel
theorem i_X2_readOne_107 : fetch 19 107 = some (.iconst 0, 108, 0, 0, 0, 0) := by decide +kernel
theorem i_X2_readOne_108 : fetch 19 108 = some (.ireturn, 109, 0, 0, 0, 0) := by decide +kernel
theorem i_X2_readOne_109 : fetch 19 109 = some (.aload_n 1, 110, 0, 0, 0, 0) := by decide +kernel
theorem i_X2_readOne_110 : fetch 19 110 = some (.bipush (-19), 112, 0, 0, 0, 0) := by decide +kernel
theorem i_X2_readOne_112 : fetch 19 112 = some (.invokevirtual 50, 115, 61, 0, 0, 470) := by decide +kernel
theorem i_X2_readOne_115 : fetch 19 115 = some (.iconst 1, 116, 0, 0, 0, 0) := by decide +kernel
theorem i_X2_readOne_116 : fetch 19 116 = some (.ireturn, 117, 0, 0, 0, 0) := by decide +kernel
theorem i_X2_readOne_117 : fetch 19 117 = some (.aload_n 0, 118, 0, 0, 0, 0) := by decide +kernel
theorem i_X2_readOne_118 : fetch 19 118 = some (.aload_n 1, 119, 0, 0, 0, 0) := by decide +kernel
theorem i_X2_readOne_119 : fetch 19 119 = some (.iload_n 2, 120, 0, 0, 0, 0) := by decide +kernel
theorem i_X2_readOne_120 : fetch 19 120 = some (.iconst 1, 121, 0, 0, 0, 0) := by decide +kernel
theorem i_X2_readOne_121 : fetch 19 121 = some (.iadd, 122, 0, 0, 0, 0) := by decide +kernel
theorem i_X2_readOne_122 : fetch 19 122 = some (.invokevirtual 39, 125, 13, 0, 0, 439) := by decide +kernel
theorem i_X2_readOne_125 : fetch 19 125 = some (.ifCond .eq 12, 128, 0, 0, 0, 0) := by decide +kernel
theorem i_X2_readOne_128 : fetch 19 128 = some (.aload_n 0, 129, 0, 0, 0, 0) := by decide +kernel
theorem i_X2_readOne_129 : fetch 19 129 = some (.getfield 22, 132, 2, 3, 0, 126) := by decide +kernel
theorem i_X2_readOne_132 : fetch 19 132 = some (.bipush 41, 134, 0, 0, 0, 0) := by decide +kernel
theorem i_X2_readOne_134 : fetch 19 134 = some (.if_icmp .eq 5, 137, 0, 0, 0, 0) := by decide +kernel
theorem i_X2_readOne_137 : fetch 19 137 = some (.iconst 0, 138, 0, 0, 0, 0) := by decide +kernel
theorem i_X2_readOne_138 : fetch 19 138 = some (.ireturn, 139, 0, 0, 0, 0) := by decide +kernel
theorem i_X2_readOne_139 : fetch 19 139 = some (.aload_n 0, 140, 0, 0, 0, 0) := by decide +kernel
theorem i_X2_readOne_140 : fetch 19 140 = some (.invokevirtual 36, 143, 20, 0, 0, 347) := by decide +kernel
theorem i_X2_readOne_143 : fetch 19 143 = some (.iconst 1, 144, 0, 0, 0, 0) := by decide +kernel
theorem i_X2_readOne_144 : fetch 19 144 = some (.ireturn, 145, 0, 0, 0, 0) := by decide +kernel
def f_X2_readOne_87 (n : Nat) (S : Nat → Nat → Nat → Int32 → Hp → Option (Int32 × Hp)) (v0 : Nat) (v1 : Nat) (v2 : Int32) (s0 : Int32) (h : Hp) : Option (Int32 × Hp) :=
  if okO h v0 2 then
  (f_X2_advance n v0 h).bind fun o1 =>
  if s0 = 0 then
    if okO o1 v0 2 then
    (S 13 v0 v1 (v2 + 1) o1).bind fun o4 =>
    if o4.1 = 0 then
      some (0, o4.2)
    else
      if okO o4.2 v0 2 then
      if (gI o4.2 v0 3) = 41 then
        (f_X2_advance n v0 o4.2).bind fun o9 =>
        some (1, o9)
      else
        some (0, o4.2)
      else none
    else none
  else
    if okO o1 v0 2 then
    (S 19 v0 v1 (v2 + 1) o1).bind fun o10 =>
    if o10.1 ≠ 0 then
      if okO o10.2 v1 6 then
      (f_X6_add v1 (-19) o10.2).bind fun o13 =>
      some (1, o13)
      else none
    else
      some (0, o10.2)
    else none
  else none
set_option maxRecDepth 100000 in
set_option maxHeartbeats 4000000 in
theorem r_X2_readOne_87 {X : Nat → Int32} {d : Nat} (hd : 7 ≤ (d + 1)) {n : Nat} {S : Nat → Nat → Nat → Int32 → Hp → Option (Int32 × Hp)} (HS : ∀ (tg v0 v1 : Nat) (v2 : Int32) (h : Hp) (o : Int32 × Hp), S tg v0 v1 v2 h = some o → Calls X d tg [.ref v0, .ref v1, .int v2] h (some (.int o.1), o.2)) {v0 : Nat} {v1 : Nat} {v2 : Int32} {s0 : Int32} {h : Hp} {o : (Int32 × Hp)} (hf : f_X2_readOne_87 n S v0 v1 v2 s0 h = some o) : Run X (d + 1) 19 87 [some (.ref v0), some (.ref v1), some (.int v2), none] [.int s0] h (some (.int o.1), o.2) := by
  unfold f_X2_readOne_87 at hf
  refine rs_istore_n i_X2_readOne_87 (Nat.le_of_ble_eq_true rfl) (lv' := [some (.ref v0), some (.ref v1), some (.int v2), some (.int s0)]) rfl ?_
  refine rs_aload_n i_X2_readOne_88 rfl ?_
  obtain ⟨c2, hf⟩ := ite_some hf
  obtain ⟨o1, e1, hf⟩ := bind_some hf
  refine rs_inV i_X2_readOne_89 m_X2_advance rfl (As := []) (rest := []) rfl rfl (Nat.le_of_ble_eq_true rfl) c2 (c_X2_advance (by omega) e1) (st' := []) rfl ?_
  refine rs_iload_n i_X2_readOne_92 rfl ?_
  by_cases c3 : s0 = 0
  · replace hf := (if_pos c3).symm.trans hf
    refine rs_ifT i_X2_readOne_93 (ct_eq c3) (tg := 117) (by decide) ?_
    refine rs_aload_n i_X2_readOne_117 rfl ?_
    refine rs_aload_n i_X2_readOne_118 rfl ?_
    refine rs_iload_n i_X2_readOne_119 rfl ?_
    refine rs_iconst i_X2_readOne_120 (v := 1) (by decide) ?_
    refine rs_iadd i_X2_readOne_121 ?_
    obtain ⟨c5, hf⟩ := ite_some hf
    obtain ⟨o4, e4, hf⟩ := bind_some hf
    refine rs_inV i_X2_readOne_122 m_X2_readEither rfl (As := [.ref v1, .int (v2 + 1)]) (rest := []) rfl rfl (Nat.le_of_ble_eq_true rfl) c5 (HS _ _ _ _ _ _ e4) (st' := [.int o4.1]) rfl ?_
    by_cases c6 : o4.1 = 0
    · replace hf := (if_pos c6).symm.trans hf
      refine rs_ifT i_X2_readOne_125 (ct_eq c6) (tg := 137) (by decide) ?_
      refine rs_iconst i_X2_readOne_137 (v := 0) (by decide) ?_
      have hf := Option.some.inj hf
      subst hf
      exact rs_iret i_X2_readOne_138 m_X2_readOne (by decide)
    · replace hf := (if_neg c6).symm.trans hf
      refine rs_ifF i_X2_readOne_125 (cf_eq c6) ?_
      refine rs_aload_n i_X2_readOne_128 rfl ?_
      obtain ⟨c7, hf⟩ := ite_some hf
      refine rs_getI i_X2_readOne_129 (by decide) (by decide) c7 ?_
      refine rs_bipush i_X2_readOne_132 (v := 41) (by decide) ?_
      by_cases c8 : (gI o4.2 v0 3) = 41
      · replace hf := (if_pos c8).symm.trans hf
        refine rs_icT i_X2_readOne_134 (ct_eq c8) (tg := 139) (by decide) ?_
        refine rs_aload_n i_X2_readOne_139 rfl ?_
        obtain ⟨o9, e9, hf⟩ := bind_some hf
        refine rs_inV i_X2_readOne_140 m_X2_advance rfl (As := []) (rest := []) rfl rfl (Nat.le_of_ble_eq_true rfl) c7 (c_X2_advance (by omega) e9) (st' := []) rfl ?_
        refine rs_iconst i_X2_readOne_143 (v := 1) (by decide) ?_
        have hf := Option.some.inj hf
        subst hf
        exact rs_iret i_X2_readOne_144 m_X2_readOne (by decide)
      · replace hf := (if_neg c8).symm.trans hf
        refine rs_icF i_X2_readOne_134 (cf_eq c8) ?_
        refine rs_iconst i_X2_readOne_137 (v := 0) (by decide) ?_
        have hf := Option.some.inj hf
        subst hf
        exact rs_iret i_X2_readOne_138 m_X2_readOne (by decide)
  · replace hf := (if_neg c3).symm.trans hf
    refine rs_ifF i_X2_readOne_93 (cf_eq c3) ?_
    refine rs_aload_n i_X2_readOne_96 rfl ?_
    refine rs_aload_n i_X2_readOne_97 rfl ?_
    refine rs_iload_n i_X2_readOne_98 rfl ?_
    refine rs_iconst i_X2_readOne_99 (v := 1) (by decide) ?_
    refine rs_iadd i_X2_readOne_100 ?_
    obtain ⟨c11, hf⟩ := ite_some hf
    obtain ⟨o10, e10, hf⟩ := bind_some hf
    refine rs_inV i_X2_readOne_101 m_X2_readOne rfl (As := [.ref v1, .int (v2 + 1)]) (rest := []) rfl rfl (Nat.le_of_ble_eq_true rfl) c11 (HS _ _ _ _ _ _ e10) (st' := [.int o10.1]) rfl ?_
    by_cases c12 : o10.1 ≠ 0
    · replace hf := (if_pos c12).symm.trans hf
      refine rs_ifT i_X2_readOne_104 (ct_ne c12) (tg := 109) (by decide) ?_
      refine rs_aload_n i_X2_readOne_109 rfl ?_
      refine rs_bipush i_X2_readOne_110 (v := (-19)) (by decide) ?_
      obtain ⟨c14, hf⟩ := ite_some hf
      obtain ⟨o13, e13, hf⟩ := bind_some hf
      refine rs_inV i_X2_readOne_112 m_X6_add rfl (As := [.int (-19)]) (rest := []) rfl rfl (Nat.le_of_ble_eq_true rfl) c14 (c_X6_add (by omega) e13) (st' := []) rfl ?_
      refine rs_iconst i_X2_readOne_115 (v := 1) (by decide) ?_
      have hf := Option.some.inj hf
      subst hf
      exact rs_iret i_X2_readOne_116 m_X2_readOne (by decide)
    · replace hf := (if_neg c12).symm.trans hf
      refine rs_ifF i_X2_readOne_104 (cf_ne c12) ?_
      refine rs_iconst i_X2_readOne_107 (v := 0) (by decide) ?_
      have hf := Option.some.inj hf
      subst hf
      exact rs_iret i_X2_readOne_108 m_X2_readOne (by decide)
def f_X2_readOne_66 (n : Nat) (S : Nat → Nat → Nat → Int32 → Hp → Option (Int32 × Hp)) (v0 : Nat) (v1 : Nat) (v2 : Int32) (h : Hp) : Option (Int32 × Hp) :=
  if v2 < 5 then
    if okO h v0 2 then
    if (gI h v0 3) ≠ 45 then
      f_X2_readOne_87 n S v0 v1 v2 0 h
    else
      f_X2_readOne_87 n S v0 v1 v2 1 h
    else none
  else
    some (0, h)
set_option maxRecDepth 100000 in
set_option maxHeartbeats 4000000 in
theorem r_X2_readOne_66 {X : Nat → Int32} {d : Nat} (hd : 7 ≤ (d + 1)) {n : Nat} {S : Nat → Nat → Nat → Int32 → Hp → Option (Int32 × Hp)} (HS : ∀ (tg v0 v1 : Nat) (v2 : Int32) (h : Hp) (o : Int32 × Hp), S tg v0 v1 v2 h = some o → Calls X d tg [.ref v0, .ref v1, .int v2] h (some (.int o.1), o.2)) {v0 : Nat} {v1 : Nat} {v2 : Int32} {h : Hp} {o : (Int32 × Hp)} (hf : f_X2_readOne_66 n S v0 v1 v2 h = some o) : Run X (d + 1) 19 66 [some (.ref v0), some (.ref v1), some (.int v2), none] [] h (some (.int o.1), o.2) := by
  unfold f_X2_readOne_66 at hf
  refine rs_iload_n i_X2_readOne_66 rfl ?_
  refine rs_iconst i_X2_readOne_67 (v := 5) (by decide) ?_
  by_cases c1 : v2 < 5
  · replace hf := (if_pos c1).symm.trans hf
    refine rs_icT i_X2_readOne_68 (ct_lt c1) (tg := 73) (by decide) ?_
    refine rs_aload_n i_X2_readOne_73 rfl ?_
    obtain ⟨c2, hf⟩ := ite_some hf
    refine rs_getI i_X2_readOne_74 (by decide) (by decide) c2 ?_
    refine rs_bipush i_X2_readOne_77 (v := 45) (by decide) ?_
    by_cases c3 : (gI h v0 3) ≠ 45
    · replace hf := (if_pos c3).symm.trans hf
      refine rs_icT i_X2_readOne_79 (ct_ne c3) (tg := 86) (by decide) ?_
      refine rs_iconst i_X2_readOne_86 (v := 0) (by decide) ?_
      exact r_X2_readOne_87 hd HS hf
    · replace hf := (if_neg c3).symm.trans hf
      refine rs_icF i_X2_readOne_79 (cf_ne c3) ?_
      refine rs_iconst i_X2_readOne_82 (v := 1) (by decide) ?_
      refine rs_goto i_X2_readOne_83 (tg := 87) (by decide) ?_
      exact r_X2_readOne_87 hd HS hf
  · replace hf := (if_neg c1).symm.trans hf
    refine rs_icF i_X2_readOne_68 (cf_lt c1) ?_
    refine rs_iconst i_X2_readOne_71 (v := 0) (by decide) ?_
    have hf := Option.some.inj hf
    subst hf
    exact rs_iret i_X2_readOne_72 m_X2_readOne (by decide)
def f_X2_readOne_39 (n : Nat) (S : Nat → Nat → Nat → Int32 → Hp → Option (Int32 × Hp)) (v0 : Nat) (s0 : Nat) (s1 : Int32) (h : Hp) : Option (Int32 × Hp) :=
  if okO h s0 6 then
  (f_X6_add s0 s1 h).bind fun o1 =>
  if okO o1 v0 2 then
  (f_X2_advance n v0 o1).bind fun o3 =>
  some (1, o3)
  else none
  else none
set_option maxRecDepth 100000 in
set_option maxHeartbeats 4000000 in
theorem r_X2_readOne_39 {X : Nat → Int32} {d : Nat} (hd : 7 ≤ (d + 1)) {n : Nat} {S : Nat → Nat → Nat → Int32 → Hp → Option (Int32 × Hp)} (HS : ∀ (tg v0 v1 : Nat) (v2 : Int32) (h : Hp) (o : Int32 × Hp), S tg v0 v1 v2 h = some o → Calls X d tg [.ref v0, .ref v1, .int v2] h (some (.int o.1), o.2)) {v0 : Nat} {s0 : Nat} {s1 : Int32} {d1 : Nat} {d2 : Int32} {h : Hp} {o : (Int32 × Hp)} (hf : f_X2_readOne_39 n S v0 s0 s1 h = some o) : Run X (d + 1) 19 39 [some (.ref v0), some (.ref d1), some (.int d2), none] [.int s1, .ref s0] h (some (.int o.1), o.2) := by
  unfold f_X2_readOne_39 at hf
  obtain ⟨c2, hf⟩ := ite_some hf
  obtain ⟨o1, e1, hf⟩ := bind_some hf
  refine rs_inV i_X2_readOne_39 m_X6_add rfl (As := [.int s1]) (rest := []) rfl rfl (Nat.le_of_ble_eq_true rfl) c2 (c_X6_add (by omega) e1) (st' := []) rfl ?_
  refine rs_aload_n i_X2_readOne_42 rfl ?_
  obtain ⟨c4, hf⟩ := ite_some hf
  obtain ⟨o3, e3, hf⟩ := bind_some hf
  refine rs_inV i_X2_readOne_43 m_X2_advance rfl (As := []) (rest := []) rfl rfl (Nat.le_of_ble_eq_true rfl) c4 (c_X2_advance (by omega) e3) (st' := []) rfl ?_
  refine rs_iconst i_X2_readOne_46 (v := 1) (by decide) ?_
  have hf := Option.some.inj hf
  subst hf
  exact rs_iret i_X2_readOne_47 m_X2_readOne (by decide)
def f_X2_readOne_16 (n : Nat) (S : Nat → Nat → Nat → Int32 → Hp → Option (Int32 × Hp)) (v0 : Nat) (v1 : Nat) (h : Hp) : Option (Int32 × Hp) :=
  if okO h v0 2 then
  if (gI h v0 3) ≠ 2 then
    (f_X6_nameCode (gI h v0 5) h).bind fun o3 =>
    f_X2_readOne_39 n S v0 v1 o3.1 o3.2
  else
    f_X2_readOne_39 n S v0 v1 (gI h v0 5) h
  else none
set_option maxRecDepth 100000 in
set_option maxHeartbeats 4000000 in
theorem r_X2_readOne_16 {X : Nat → Int32} {d : Nat} (hd : 7 ≤ (d + 1)) {n : Nat} {S : Nat → Nat → Nat → Int32 → Hp → Option (Int32 × Hp)} (HS : ∀ (tg v0 v1 : Nat) (v2 : Int32) (h : Hp) (o : Int32 × Hp), S tg v0 v1 v2 h = some o → Calls X d tg [.ref v0, .ref v1, .int v2] h (some (.int o.1), o.2)) {v0 : Nat} {v1 : Nat} {d2 : Int32} {h : Hp} {o : (Int32 × Hp)} (hf : f_X2_readOne_16 n S v0 v1 h = some o) : Run X (d + 1) 19 16 [some (.ref v0), some (.ref v1), some (.int d2), none] [] h (some (.int o.1), o.2) := by
  unfold f_X2_readOne_16 at hf
  refine rs_aload_n i_X2_readOne_16 rfl ?_
  refine rs_aload_n i_X2_readOne_17 rfl ?_
  obtain ⟨c1, hf⟩ := ite_some hf
  refine rs_getI i_X2_readOne_18 (by decide) (by decide) c1 ?_
  refine rs_iconst i_X2_readOne_21 (v := 2) (by decide) ?_
  by_cases c2 : (gI h v0 3) ≠ 2
  · replace hf := (if_pos c2).symm.trans hf
    refine rs_icT i_X2_readOne_22 (ct_ne c2) (tg := 32) (by decide) ?_
    refine rs_aload_n i_X2_readOne_32 rfl ?_
    refine rs_getI i_X2_readOne_33 (by decide) (by decide) c1 ?_
    obtain ⟨o3, e3, hf⟩ := bind_some hf
    refine rs_inS i_X2_readOne_36 (by decide) m_X6_nameCode rfl (As := [.int (gI h v0 5)]) (rest := [.ref v1]) rfl rfl (Nat.le_of_ble_eq_true rfl) (c_X6_nameCode (by omega) e3) (st' := [.int o3.1, .ref v1]) rfl ?_
    exact r_X2_readOne_39 hd HS hf
  · replace hf := (if_neg c2).symm.trans hf
    refine rs_icF i_X2_readOne_22 (cf_ne c2) ?_
    refine rs_aload_n i_X2_readOne_25 rfl ?_
    refine rs_getI i_X2_readOne_26 (by decide) (by decide) c1 ?_
    refine rs_goto i_X2_readOne_29 (tg := 39) (by decide) ?_
    exact r_X2_readOne_39 hd HS hf
def f_X2_readOne_0 (n : Nat) (S : Nat → Nat → Nat → Int32 → Hp → Option (Int32 × Hp)) (v0 : Nat) (v1 : Nat) (v2 : Int32) (h : Hp) : Option (Int32 × Hp) :=
  if okO h v0 2 then
  if (gI h v0 3) = 2 then
    f_X2_readOne_16 n S v0 v1 h
  else
    if (gI h v0 3) ≠ 3 then
      if (gI h v0 3) = 45 then
        f_X2_readOne_66 n S v0 v1 v2 h
      else
        if (gI h v0 3) ≠ 40 then
          some (0, h)
        else
          f_X2_readOne_66 n S v0 v1 v2 h
    else
      f_X2_readOne_16 n S v0 v1 h
  else none
set_option maxRecDepth 100000 in
set_option maxHeartbeats 4000000 in
theorem r_X2_readOne_0 {X : Nat → Int32} {d : Nat} (hd : 7 ≤ (d + 1)) {n : Nat} {S : Nat → Nat → Nat → Int32 → Hp → Option (Int32 × Hp)} (HS : ∀ (tg v0 v1 : Nat) (v2 : Int32) (h : Hp) (o : Int32 × Hp), S tg v0 v1 v2 h = some o → Calls X d tg [.ref v0, .ref v1, .int v2] h (some (.int o.1), o.2)) {v0 : Nat} {v1 : Nat} {v2 : Int32} {h : Hp} {o : (Int32 × Hp)} (hf : f_X2_readOne_0 n S v0 v1 v2 h = some o) : Run X (d + 1) 19 0 [some (.ref v0), some (.ref v1), some (.int v2), none] [] h (some (.int o.1), o.2) := by
  unfold f_X2_readOne_0 at hf
  refine rs_aload_n i_X2_readOne_0 rfl ?_
  obtain ⟨c1, hf⟩ := ite_some hf
  refine rs_getI i_X2_readOne_1 (by decide) (by decide) c1 ?_
  refine rs_iconst i_X2_readOne_4 (v := 2) (by decide) ?_
  by_cases c2 : (gI h v0 3) = 2
  · replace hf := (if_pos c2).symm.trans hf
    refine rs_icT i_X2_readOne_5 (ct_eq c2) (tg := 16) (by decide) ?_
    exact r_X2_readOne_16 hd HS hf
  · replace hf := (if_neg c2).symm.trans hf
    refine rs_icF i_X2_readOne_5 (cf_eq c2) ?_
    refine rs_aload_n i_X2_readOne_8 rfl ?_
    refine rs_getI i_X2_readOne_9 (by decide) (by decide) c1 ?_
    refine rs_iconst i_X2_readOne_12 (v := 3) (by decide) ?_
    by_cases c3 : (gI h v0 3) ≠ 3
    · replace hf := (if_pos c3).symm.trans hf
      refine rs_icT i_X2_readOne_13 (ct_ne c3) (tg := 48) (by decide) ?_
      refine rs_aload_n i_X2_readOne_48 rfl ?_
      refine rs_getI i_X2_readOne_49 (by decide) (by decide) c1 ?_
      refine rs_bipush i_X2_readOne_52 (v := 45) (by decide) ?_
      by_cases c4 : (gI h v0 3) = 45
      · replace hf := (if_pos c4).symm.trans hf
        refine rs_icT i_X2_readOne_54 (ct_eq c4) (tg := 66) (by decide) ?_
        exact r_X2_readOne_66 hd HS hf
      · replace hf := (if_neg c4).symm.trans hf
        refine rs_icF i_X2_readOne_54 (cf_eq c4) ?_
        refine rs_aload_n i_X2_readOne_57 rfl ?_
        refine rs_getI i_X2_readOne_58 (by decide) (by decide) c1 ?_
        refine rs_bipush i_X2_readOne_61 (v := 40) (by decide) ?_
        by_cases c5 : (gI h v0 3) ≠ 40
        · replace hf := (if_pos c5).symm.trans hf
          refine rs_icT i_X2_readOne_63 (ct_ne c5) (tg := 71) (by decide) ?_
          refine rs_iconst i_X2_readOne_71 (v := 0) (by decide) ?_
          have hf := Option.some.inj hf
          subst hf
          exact rs_iret i_X2_readOne_72 m_X2_readOne (by decide)
        · replace hf := (if_neg c5).symm.trans hf
          refine rs_icF i_X2_readOne_63 (cf_ne c5) ?_
          exact r_X2_readOne_66 hd HS hf
    · replace hf := (if_neg c3).symm.trans hf
      refine rs_icF i_X2_readOne_13 (cf_ne c3) ?_
      exact r_X2_readOne_16 hd HS hf
def f_X2_readOne (n : Nat) (S : Nat → Nat → Nat → Int32 → Hp → Option (Int32 × Hp)) (v0 : Nat) (v1 : Nat) (v2 : Int32) (h : Hp) : Option (Int32 × Hp) := f_X2_readOne_0 n S v0 v1 v2 h
theorem c_X2_readOne {X : Nat → Int32} {d : Nat} (hd : 7 ≤ d) {n : Nat} {S : Nat → Nat → Nat → Int32 → Hp → Option (Int32 × Hp)} (HS : ∀ (tg v0 v1 : Nat) (v2 : Int32) (h : Hp) (o : Int32 × Hp), S tg v0 v1 v2 h = some o → ∀ d', d = d' + 1 → Calls X d' tg [.ref v0, .ref v1, .int v2] h (some (.int o.1), o.2)) {v0 : Nat} {v1 : Nat} {v2 : Int32} {h : Hp} {o : (Int32 × Hp)} (hf : f_X2_readOne n S v0 v1 v2 h = some o) : Calls X d 19 [.ref v0, .ref v1, .int v2] h (some (.int o.1), o.2) := by
  obtain ⟨d, rfl⟩ : ∃ z, d = z + 1 := ⟨d - 1, by omega⟩
  exact ⟨_, rfl, r_X2_readOne_0 hd (fun tg v0 v1 v2 h o hf => HS tg v0 v1 v2 h o hf d rfl) hf⟩
theorem i_X2_readProduct_0 : fetch 18 0 = some (.aload_n 0, 1, 0, 0, 0, 0) := by decide +kernel
theorem i_X2_readProduct_1 : fetch 18 1 = some (.aload_n 1, 2, 0, 0, 0, 0) := by decide +kernel
theorem i_X2_readProduct_2 : fetch 18 2 = some (.iload_n 2, 3, 0, 0, 0, 0) := by decide +kernel
theorem i_X2_readProduct_3 : fetch 18 3 = some (.invokevirtual 65, 6, 19, 0, 0, 463) := by decide +kernel
theorem i_X2_readProduct_6 : fetch 18 6 = some (.ifCond .ne 5, 9, 0, 0, 0, 0) := by decide +kernel
theorem i_X2_readProduct_9 : fetch 18 9 = some (.iconst 0, 10, 0, 0, 0, 0) := by decide +kernel
theorem i_X2_readProduct_10 : fetch 18 10 = some (.ireturn, 11, 0, 0, 0, 0) := by decide +kernel
theorem i_X2_readProduct_11 : fetch 18 11 = some (.iconst 0, 12, 0, 0, 0, 0) := by decide +kernel
theorem i_X2_readProduct_12 : fetch 18 12 = some (.istore_n 3, 13, 0, 0, 0, 0) := by decide +kernel
theorem i_X2_readProduct_13 : fetch 18 13 = some (.iload_n 3, 14, 0, 0, 0, 0) := by decide +kernel
theorem i_X2_readProduct_14 : fetch 18 14 = some (.sipush 160, 17, 0, 0, 0, 0) := by decide +kernel
theorem i_X2_readProduct_17 : fetch 18 17 = some (.if_icmp .ge 39, 20, 0, 0, 0, 0) := by decide +kernel
theorem i_X2_readProduct_20 : fetch 18 20 = some (.aload_n 0, 21, 0, 0, 0, 0) := by decide +kernel
theorem i_X2_readProduct_21 : fetch 18 21 = some (.getfield 22, 24, 2, 3, 0, 126) := by decide +kernel
theorem i_X2_readProduct_24 : fetch 18 24 = some (.bipush 42, 26, 0, 0, 0, 0) := by decide +kernel
theorem i_X2_readProduct_26 : fetch 18 26 = some (.if_icmp .ne 30, 29, 0, 0, 0, 0) := by decide +kernel
theorem i_X2_readProduct_29 : fetch 18 29 = some (.aload_n 0, 30, 0, 0, 0, 0) := by decide +kernel
theorem i_X2_readProduct_30 : fetch 18 30 = some (.invokevirtual 36, 33, 20, 0, 0, 347) := by decide +kernel
theorem i_X2_readProduct_33 : fetch 18 33 = some (.aload_n 0, 34, 0, 0, 0, 0) := by decide +kernel
theorem i_X2_readProduct_34 : fetch 18 34 = some (.aload_n 1, 35, 0, 0, 0, 0) := by decide +kernel
theorem i_X2_readProduct_35 : fetch 18 35 = some (.iload_n 2, 36, 0, 0, 0, 0) := by decide +kernel
theorem i_X2_readProduct_36 : fetch 18 36 = some (.invokevirtual 65, 39, 19, 0, 0, 463) := by decide +kernel
theorem i_X2_readProduct_39 : fetch 18 39 = some (.ifCond .ne 5, 42, 0, 0, 0, 0) := by decide +kernel
theorem i_X2_readProduct_42 : fetch 18 42 = some (.iconst 0, 43, 0, 0, 0, 0) := by decide +kernel
theorem i_X2_readProduct_43 : fetch 18 43 = some (.ireturn, 44, 0, 0, 0, 0) := by decide +kernel
theorem i_X2_readProduct_44 : fetch 18 44 = some (.aload_n 1, 45, 0, 0, 0, 0) := by decide +kernel
theorem i_X2_readProduct_45 : fetch 18 45 = some (.bipush (-18), 47, 0, 0, 0, 0) := by decide +kernel
theorem i_X2_readProduct_47 : fetch 18 47 = some (.invokevirtual 50, 50, 61, 0, 0, 470) := by decide +kernel
theorem i_X2_readProduct_50 : fetch 18 50 = some (.iinc 3 1, 53, 0, 0, 0, 0) := by decide +kernel
theorem i_X2_readProduct_53 : fetch 18 53 = some (.goto (-40), 56, 0, 0, 0, 0) := by decide +kernel
theorem i_X2_readProduct_56 : fetch 18 56 = some (.iconst 1, 57, 0, 0, 0, 0) := by decide +kernel
theorem i_X2_readProduct_57 : fetch 18 57 = some (.ireturn, 58, 0, 0, 0, 0) := by decide +kernel
def f_X2_readProduct_13 (n : Nat) (S : Nat → Nat → Nat → Int32 → Hp → Option (Int32 × Hp)) : Nat → Nat → Nat → Int32 → Int32 → Hp → Option (Int32 × Hp)
  | 0, _, _, _, _, _ => none
  | m + 1, v0, v1, v2, v3, h =>
    if 160 ≤ v3 then
      some (1, h)
    else
      if okO h v0 2 then
      if (gI h v0 3) ≠ 42 then
        some (1, h)
      else
        (f_X2_advance n v0 h).bind fun o4 =>
        if okO o4 v0 2 then
        (S 19 v0 v1 v2 o4).bind fun o5 =>
        if o5.1 ≠ 0 then
          if okO o5.2 v1 6 then
          (f_X6_add v1 (-18) o5.2).bind fun o8 =>
          (f_X2_readProduct_13 n S m) v0 v1 v2 (v3 + 1) o8
          else none
        else
          some (0, o5.2)
        else none
      else none
set_option maxRecDepth 100000 in
set_option maxHeartbeats 4000000 in
theorem r_X2_readProduct_13 {X : Nat → Int32} {d : Nat} (hd : 7 ≤ (d + 1)) {n : Nat} {S : Nat → Nat → Nat → Int32 → Hp → Option (Int32 × Hp)} (HS : ∀ (tg v0 v1 : Nat) (v2 : Int32) (h : Hp) (o : Int32 × Hp), S tg v0 v1 v2 h = some o → Calls X d tg [.ref v0, .ref v1, .int v2] h (some (.int o.1), o.2)) : ∀ (m : Nat) (v0 : Nat) (v1 : Nat) (v2 : Int32) (v3 : Int32) (h : Hp) (o : (Int32 × Hp)), f_X2_readProduct_13 n S m v0 v1 v2 v3 h = some o → Run X (d + 1) 18 13 [some (.ref v0), some (.ref v1), some (.int v2), some (.int v3)] [] h (some (.int o.1), o.2) := by
  intro m
  induction m with
  | zero => intro v0 v1 v2 v3 h o hf; cases hf
  | succ m ih =>
    intro v0 v1 v2 v3 h o hf
    rw [f_X2_readProduct_13] at hf
    refine rs_iload_n i_X2_readProduct_13 rfl ?_
    refine rs_sipush i_X2_readProduct_14 (v := 160) (by decide) ?_
    by_cases c1 : 160 ≤ v3
    · replace hf := (if_pos c1).symm.trans hf
      refine rs_icT i_X2_readProduct_17 (ct_ge c1) (tg := 56) (by decide) ?_
      refine rs_iconst i_X2_readProduct_56 (v := 1) (by decide) ?_
      have hf := Option.some.inj hf
      subst hf
      exact rs_iret i_X2_readProduct_57 m_X2_readProduct (by decide)
    · replace hf := (if_neg c1).symm.trans hf
      refine rs_icF i_X2_readProduct_17 (cf_ge c1) ?_
      refine rs_aload_n i_X2_readProduct_20 rfl ?_
      obtain ⟨c2, hf⟩ := ite_some hf
      refine rs_getI i_X2_readProduct_21 (by decide) (by decide) c2 ?_
      refine rs_bipush i_X2_readProduct_24 (v := 42) (by decide) ?_
      by_cases c3 : (gI h v0 3) ≠ 42
      · replace hf := (if_pos c3).symm.trans hf
        refine rs_icT i_X2_readProduct_26 (ct_ne c3) (tg := 56) (by decide) ?_
        refine rs_iconst i_X2_readProduct_56 (v := 1) (by decide) ?_
        have hf := Option.some.inj hf
        subst hf
        exact rs_iret i_X2_readProduct_57 m_X2_readProduct (by decide)
      · replace hf := (if_neg c3).symm.trans hf
        refine rs_icF i_X2_readProduct_26 (cf_ne c3) ?_
        refine rs_aload_n i_X2_readProduct_29 rfl ?_
        obtain ⟨o4, e4, hf⟩ := bind_some hf
        refine rs_inV i_X2_readProduct_30 m_X2_advance rfl (As := []) (rest := []) rfl rfl (Nat.le_of_ble_eq_true rfl) c2 (c_X2_advance (by omega) e4) (st' := []) rfl ?_
        refine rs_aload_n i_X2_readProduct_33 rfl ?_
        refine rs_aload_n i_X2_readProduct_34 rfl ?_
        refine rs_iload_n i_X2_readProduct_35 rfl ?_
        obtain ⟨c6, hf⟩ := ite_some hf
        obtain ⟨o5, e5, hf⟩ := bind_some hf
        refine rs_inV i_X2_readProduct_36 m_X2_readOne rfl (As := [.ref v1, .int v2]) (rest := []) rfl rfl (Nat.le_of_ble_eq_true rfl) c6 (HS _ _ _ _ _ _ e5) (st' := [.int o5.1]) rfl ?_
        by_cases c7 : o5.1 ≠ 0
        · replace hf := (if_pos c7).symm.trans hf
          refine rs_ifT i_X2_readProduct_39 (ct_ne c7) (tg := 44) (by decide) ?_
          refine rs_aload_n i_X2_readProduct_44 rfl ?_
          refine rs_bipush i_X2_readProduct_45 (v := (-18)) (by decide) ?_
          obtain ⟨c9, hf⟩ := ite_some hf
          obtain ⟨o8, e8, hf⟩ := bind_some hf
          refine rs_inV i_X2_readProduct_47 m_X6_add rfl (As := [.int (-18)]) (rest := []) rfl rfl (Nat.le_of_ble_eq_true rfl) c9 (c_X6_add (by omega) e8) (st' := []) rfl ?_
          refine rs_iinc i_X2_readProduct_50 rfl (v := v3 + 1) rfl (Nat.le_of_ble_eq_true rfl) (lv' := [some (.ref v0), some (.ref v1), some (.int v2), some (.int (v3 + 1))]) rfl ?_
          refine rs_goto i_X2_readProduct_53 (tg := 13) (by decide) ?_
          exact ih _ _ _ _ _ _ hf
        · replace hf := (if_neg c7).symm.trans hf
          refine rs_ifF i_X2_readProduct_39 (cf_ne c7) ?_
          refine rs_iconst i_X2_readProduct_42 (v := 0) (by decide) ?_
          have hf := Option.some.inj hf
          subst hf
          exact rs_iret i_X2_readProduct_43 m_X2_readProduct (by decide)
def f_X2_readProduct_0 (n : Nat) (S : Nat → Nat → Nat → Int32 → Hp → Option (Int32 × Hp)) (v0 : Nat) (v1 : Nat) (v2 : Int32) (h : Hp) : Option (Int32 × Hp) :=
  if okO h v0 2 then
  (S 19 v0 v1 v2 h).bind fun o1 =>
  if o1.1 ≠ 0 then
    f_X2_readProduct_13 n S n v0 v1 v2 0 o1.2
  else
    some (0, o1.2)
  else none
set_option maxRecDepth 100000 in
set_option maxHeartbeats 4000000 in
theorem r_X2_readProduct_0 {X : Nat → Int32} {d : Nat} (hd : 7 ≤ (d + 1)) {n : Nat} {S : Nat → Nat → Nat → Int32 → Hp → Option (Int32 × Hp)} (HS : ∀ (tg v0 v1 : Nat) (v2 : Int32) (h : Hp) (o : Int32 × Hp), S tg v0 v1 v2 h = some o → Calls X d tg [.ref v0, .ref v1, .int v2] h (some (.int o.1), o.2)) {v0 : Nat} {v1 : Nat} {v2 : Int32} {h : Hp} {o : (Int32 × Hp)} (hf : f_X2_readProduct_0 n S v0 v1 v2 h = some o) : Run X (d + 1) 18 0 [some (.ref v0), some (.ref v1), some (.int v2), none] [] h (some (.int o.1), o.2) := by
  unfold f_X2_readProduct_0 at hf
  refine rs_aload_n i_X2_readProduct_0 rfl ?_
  refine rs_aload_n i_X2_readProduct_1 rfl ?_
  refine rs_iload_n i_X2_readProduct_2 rfl ?_
  obtain ⟨c2, hf⟩ := ite_some hf
  obtain ⟨o1, e1, hf⟩ := bind_some hf
  refine rs_inV i_X2_readProduct_3 m_X2_readOne rfl (As := [.ref v1, .int v2]) (rest := []) rfl rfl (Nat.le_of_ble_eq_true rfl) c2 (HS _ _ _ _ _ _ e1) (st' := [.int o1.1]) rfl ?_
  by_cases c3 : o1.1 ≠ 0
  · replace hf := (if_pos c3).symm.trans hf
    refine rs_ifT i_X2_readProduct_6 (ct_ne c3) (tg := 11) (by decide) ?_
    refine rs_iconst i_X2_readProduct_11 (v := 0) (by decide) ?_
    refine rs_istore_n i_X2_readProduct_12 (Nat.le_of_ble_eq_true rfl) (lv' := [some (.ref v0), some (.ref v1), some (.int v2), some (.int 0)]) rfl ?_
    exact r_X2_readProduct_13 hd HS _ _ _ _ _ _ _ hf
  · replace hf := (if_neg c3).symm.trans hf
    refine rs_ifF i_X2_readProduct_6 (cf_ne c3) ?_
    refine rs_iconst i_X2_readProduct_9 (v := 0) (by decide) ?_
    have hf := Option.some.inj hf
    subst hf
    exact rs_iret i_X2_readProduct_10 m_X2_readProduct (by decide)
def f_X2_readProduct (n : Nat) (S : Nat → Nat → Nat → Int32 → Hp → Option (Int32 × Hp)) (v0 : Nat) (v1 : Nat) (v2 : Int32) (h : Hp) : Option (Int32 × Hp) := f_X2_readProduct_0 n S v0 v1 v2 h
theorem c_X2_readProduct {X : Nat → Int32} {d : Nat} (hd : 7 ≤ d) {n : Nat} {S : Nat → Nat → Nat → Int32 → Hp → Option (Int32 × Hp)} (HS : ∀ (tg v0 v1 : Nat) (v2 : Int32) (h : Hp) (o : Int32 × Hp), S tg v0 v1 v2 h = some o → ∀ d', d = d' + 1 → Calls X d' tg [.ref v0, .ref v1, .int v2] h (some (.int o.1), o.2)) {v0 : Nat} {v1 : Nat} {v2 : Int32} {h : Hp} {o : (Int32 × Hp)} (hf : f_X2_readProduct n S v0 v1 v2 h = some o) : Calls X d 18 [.ref v0, .ref v1, .int v2] h (some (.int o.1), o.2) := by
  obtain ⟨d, rfl⟩ : ∃ z, d = z + 1 := ⟨d - 1, by omega⟩
  exact ⟨_, rfl, r_X2_readProduct_0 hd (fun tg v0 v1 v2 h o hf => HS tg v0 v1 v2 h o hf d rfl) hf⟩
theorem i_X2_readSum_0 : fetch 17 0 = some (.aload_n 0, 1, 0, 0, 0, 0) := by decide +kernel
theorem i_X2_readSum_1 : fetch 17 1 = some (.aload_n 1, 2, 0, 0, 0, 0) := by decide +kernel
theorem i_X2_readSum_2 : fetch 17 2 = some (.iload_n 2, 3, 0, 0, 0, 0) := by decide +kernel
theorem i_X2_readSum_3 : fetch 17 3 = some (.invokevirtual 62, 6, 18, 0, 0, 459) := by decide +kernel
theorem i_X2_readSum_6 : fetch 17 6 = some (.ifCond .ne 5, 9, 0, 0, 0, 0) := by decide +kernel
theorem i_X2_readSum_9 : fetch 17 9 = some (.iconst 0, 10, 0, 0, 0, 0) := by decide +kernel
theorem i_X2_readSum_10 : fetch 17 10 = some (.ireturn, 11, 0, 0, 0, 0) := by decide +kernel
theorem i_X2_readSum_11 : fetch 17 11 = some (.iconst 0, 12, 0, 0, 0, 0) := by decide +kernel
theorem i_X2_readSum_12 : fetch 17 12 = some (.istore_n 3, 13, 0, 0, 0, 0) := by decide +kernel
theorem i_X2_readSum_13 : fetch 17 13 = some (.iload_n 3, 14, 0, 0, 0, 0) := by decide +kernel
theorem i_X2_readSum_14 : fetch 17 14 = some (.sipush 160, 17, 0, 0, 0, 0) := by decide +kernel
theorem i_X2_readSum_17 : fetch 17 17 = some (.if_icmp .ge 66, 20, 0, 0, 0, 0) := by decide +kernel
theorem i_X2_readSum_20 : fetch 17 20 = some (.aload_n 0, 21, 0, 0, 0, 0) := by decide +kernel
theorem i_X2_readSum_21 : fetch 17 21 = some (.getfield 22, 24, 2, 3, 0, 126) := by decide +kernel
theorem i_X2_readSum_24 : fetch 17 24 = some (.bipush 43, 26, 0, 0, 0, 0) := by decide +kernel
theorem i_X2_readSum_26 : fetch 17 26 = some (.if_icmp .eq 12, 29, 0, 0, 0, 0) := by decide +kernel
theorem i_X2_readSum_29 : fetch 17 29 = some (.aload_n 0, 30, 0, 0, 0, 0) := by decide +kernel
theorem i_X2_readSum_30 : fetch 17 30 = some (.getfield 22, 33, 2, 3, 0, 126) := by decide +kernel
theorem i_X2_readSum_33 : fetch 17 33 = some (.bipush 45, 35, 0, 0, 0, 0) := by decide +kernel
theorem i_X2_readSum_35 : fetch 17 35 = some (.if_icmp .ne 48, 38, 0, 0, 0, 0) := by decide +kernel
theorem i_X2_readSum_38 : fetch 17 38 = some (.aload_n 0, 39, 0, 0, 0, 0) := by decide +kernel
theorem i_X2_readSum_39 : fetch 17 39 = some (.getfield 22, 42, 2, 3, 0, 126) := by decide +kernel
theorem i_X2_readSum_42 : fetch 17 42 = some (.bipush 43, 44, 0, 0, 0, 0) := by decide +kernel
theorem i_X2_readSum_44 : fetch 17 44 = some (.if_icmp .ne 8, 47, 0, 0, 0, 0) := by decide +kernel
theorem i_X2_readSum_47 : fetch 17 47 = some (.bipush (-16), 49, 0, 0, 0, 0) := by decide +kernel
theorem i_X2_readSum_49 : fetch 17 49 = some (.goto 5, 52, 0, 0, 0, 0) := by decide +kernel
theorem i_X2_readSum_52 : fetch 17 52 = some (.bipush (-17), 54, 0, 0, 0, 0) := by decide +kernel
theorem i_X2_readSum_54 : fetch 17 54 = some (.istore 4, 56, 0, 0, 0, 0) := by decide +kernel
theorem i_X2_readSum_56 : fetch 17 56 = some (.aload_n 0, 57, 0, 0, 0, 0) := by decide +kernel
theorem i_X2_readSum_57 : fetch 17 57 = some (.invokevirtual 36, 60, 20, 0, 0, 347) := by decide +kernel
theorem i_X2_readSum_60 : fetch 17 60 = some (.aload_n 0, 61, 0, 0, 0, 0) := by decide +kernel
theorem i_X2_readSum_61 : fetch 17 61 = some (.aload_n 1, 62, 0, 0, 0, 0) := by decide +kernel
theorem i_X2_readSum_62 : fetch 17 62 = some (.iload_n 2, 63, 0, 0, 0, 0) := by decide +kernel
theorem i_X2_readSum_63 : fetch 17 63 = some (.invokevirtual 62, 66, 18, 0, 0, 459) := by decide +kernel
theorem i_X2_readSum_66 : fetch 17 66 = some (.ifCond .ne 5, 69, 0, 0, 0, 0) := by decide +kernel
theorem i_X2_readSum_69 : fetch 17 69 = some (.iconst 0, 70, 0, 0, 0, 0) := by decide +kernel
theorem i_X2_readSum_70 : fetch 17 70 = some (.ireturn, 71, 0, 0, 0, 0) := by decide +kernel
theorem i_X2_readSum_71 : fetch 17 71 = some (.aload_n 1, 72, 0, 0, 0, 0) := by decide +kernel
theorem i_X2_readSum_72 : fetch 17 72 = some (.iload 4, 74, 0, 0, 0, 0) := by decide +kernel
theorem i_X2_readSum_74 : fetch 17 74 = some (.invokevirtual 50, 77, 61, 0, 0, 470) := by decide +kernel
theorem i_X2_readSum_77 : fetch 17 77 = some (.iinc 3 1, 80, 0, 0, 0, 0) := by decide +kernel
theorem i_X2_readSum_80 : fetch 17 80 = some (.goto (-67), 83, 0, 0, 0, 0) := by decide +kernel
theorem i_X2_readSum_83 : fetch 17 83 = some (.iconst 1, 84, 0, 0, 0, 0) := by decide +kernel
theorem i_X2_readSum_84 : fetch 17 84 = some (.ireturn, 85, 0, 0, 0, 0) := by decide +kernel
def f_X2_readSum_54 (n : Nat) (S : Nat → Nat → Nat → Int32 → Hp → Option (Int32 × Hp)) (K13 : Nat → Nat → Int32 → Int32 → Hp → Option (Int32 × Hp)) (v0 : Nat) (v1 : Nat) (v2 : Int32) (v3 : Int32) (s0 : Int32) (h : Hp) : Option (Int32 × Hp) :=
  if okO h v0 2 then
  (f_X2_advance n v0 h).bind fun o1 =>
  if okO o1 v0 2 then
  (S 18 v0 v1 v2 o1).bind fun o3 =>
  if o3.1 ≠ 0 then
    if okO o3.2 v1 6 then
    (f_X6_add v1 s0 o3.2).bind fun o6 =>
    K13 v0 v1 v2 (v3 + 1) o6
    else none
  else
    some (0, o3.2)
  else none
  else none
set_option maxRecDepth 100000 in
set_option maxHeartbeats 4000000 in
theorem r_X2_readSum_54 {X : Nat → Int32} {d : Nat} (hd : 7 ≤ (d + 1)) {n : Nat} {S : Nat → Nat → Nat → Int32 → Hp → Option (Int32 × Hp)} (HS : ∀ (tg v0 v1 : Nat) (v2 : Int32) (h : Hp) (o : Int32 × Hp), S tg v0 v1 v2 h = some o → Calls X d tg [.ref v0, .ref v1, .int v2] h (some (.int o.1), o.2)) {K13 : Nat → Nat → Int32 → Int32 → Hp → Option (Int32 × Hp)} (HK13 : ∀ (v0 : Nat) (v1 : Nat) (v2 : Int32) (v3 : Int32) (w4 : Option Value) (h : Hp) (o : (Int32 × Hp)), K13 v0 v1 v2 v3 h = some o → Run X (d + 1) 17 13 [some (.ref v0), some (.ref v1), some (.int v2), some (.int v3), w4] [] h (some (.int o.1), o.2)) {v0 : Nat} {v1 : Nat} {v2 : Int32} {v3 : Int32} {s0 : Int32} {w4 : Option Value} {h : Hp} {o : (Int32 × Hp)} (hf : f_X2_readSum_54 n S K13 v0 v1 v2 v3 s0 h = some o) : Run X (d + 1) 17 54 [some (.ref v0), some (.ref v1), some (.int v2), some (.int v3), w4] [.int s0] h (some (.int o.1), o.2) := by
  unfold f_X2_readSum_54 at hf
  refine rs_istore i_X2_readSum_54 (Nat.le_of_ble_eq_true rfl) (lv' := [some (.ref v0), some (.ref v1), some (.int v2), some (.int v3), some (.int s0)]) rfl ?_
  refine rs_aload_n i_X2_readSum_56 rfl ?_
  obtain ⟨c2, hf⟩ := ite_some hf
  obtain ⟨o1, e1, hf⟩ := bind_some hf
  refine rs_inV i_X2_readSum_57 m_X2_advance rfl (As := []) (rest := []) rfl rfl (Nat.le_of_ble_eq_true rfl) c2 (c_X2_advance (by omega) e1) (st' := []) rfl ?_
  refine rs_aload_n i_X2_readSum_60 rfl ?_
  refine rs_aload_n i_X2_readSum_61 rfl ?_
  refine rs_iload_n i_X2_readSum_62 rfl ?_
  obtain ⟨c4, hf⟩ := ite_some hf
  obtain ⟨o3, e3, hf⟩ := bind_some hf
  refine rs_inV i_X2_readSum_63 m_X2_readProduct rfl (As := [.ref v1, .int v2]) (rest := []) rfl rfl (Nat.le_of_ble_eq_true rfl) c4 (HS _ _ _ _ _ _ e3) (st' := [.int o3.1]) rfl ?_
  by_cases c5 : o3.1 ≠ 0
  · replace hf := (if_pos c5).symm.trans hf
    refine rs_ifT i_X2_readSum_66 (ct_ne c5) (tg := 71) (by decide) ?_
    refine rs_aload_n i_X2_readSum_71 rfl ?_
    refine rs_iload i_X2_readSum_72 rfl ?_
    obtain ⟨c7, hf⟩ := ite_some hf
    obtain ⟨o6, e6, hf⟩ := bind_some hf
    refine rs_inV i_X2_readSum_74 m_X6_add rfl (As := [.int s0]) (rest := []) rfl rfl (Nat.le_of_ble_eq_true rfl) c7 (c_X6_add (by omega) e6) (st' := []) rfl ?_
    refine rs_iinc i_X2_readSum_77 rfl (v := v3 + 1) rfl (Nat.le_of_ble_eq_true rfl) (lv' := [some (.ref v0), some (.ref v1), some (.int v2), some (.int (v3 + 1)), some (.int s0)]) rfl ?_
    refine rs_goto i_X2_readSum_80 (tg := 13) (by decide) ?_
    exact HK13 _ _ _ _ _ _ _ hf
  · replace hf := (if_neg c5).symm.trans hf
    refine rs_ifF i_X2_readSum_66 (cf_ne c5) ?_
    refine rs_iconst i_X2_readSum_69 (v := 0) (by decide) ?_
    have hf := Option.some.inj hf
    subst hf
    exact rs_iret i_X2_readSum_70 m_X2_readSum (by decide)
def f_X2_readSum_38 (n : Nat) (S : Nat → Nat → Nat → Int32 → Hp → Option (Int32 × Hp)) (K13 : Nat → Nat → Int32 → Int32 → Hp → Option (Int32 × Hp)) (v0 : Nat) (v1 : Nat) (v2 : Int32) (v3 : Int32) (h : Hp) : Option (Int32 × Hp) :=
  if okO h v0 2 then
  if (gI h v0 3) ≠ 43 then
    f_X2_readSum_54 n S K13 v0 v1 v2 v3 (-17) h
  else
    f_X2_readSum_54 n S K13 v0 v1 v2 v3 (-16) h
  else none
set_option maxRecDepth 100000 in
set_option maxHeartbeats 4000000 in
theorem r_X2_readSum_38 {X : Nat → Int32} {d : Nat} (hd : 7 ≤ (d + 1)) {n : Nat} {S : Nat → Nat → Nat → Int32 → Hp → Option (Int32 × Hp)} (HS : ∀ (tg v0 v1 : Nat) (v2 : Int32) (h : Hp) (o : Int32 × Hp), S tg v0 v1 v2 h = some o → Calls X d tg [.ref v0, .ref v1, .int v2] h (some (.int o.1), o.2)) {K13 : Nat → Nat → Int32 → Int32 → Hp → Option (Int32 × Hp)} (HK13 : ∀ (v0 : Nat) (v1 : Nat) (v2 : Int32) (v3 : Int32) (w4 : Option Value) (h : Hp) (o : (Int32 × Hp)), K13 v0 v1 v2 v3 h = some o → Run X (d + 1) 17 13 [some (.ref v0), some (.ref v1), some (.int v2), some (.int v3), w4] [] h (some (.int o.1), o.2)) {v0 : Nat} {v1 : Nat} {v2 : Int32} {v3 : Int32} {w4 : Option Value} {h : Hp} {o : (Int32 × Hp)} (hf : f_X2_readSum_38 n S K13 v0 v1 v2 v3 h = some o) : Run X (d + 1) 17 38 [some (.ref v0), some (.ref v1), some (.int v2), some (.int v3), w4] [] h (some (.int o.1), o.2) := by
  unfold f_X2_readSum_38 at hf
  refine rs_aload_n i_X2_readSum_38 rfl ?_
  obtain ⟨c1, hf⟩ := ite_some hf
  refine rs_getI i_X2_readSum_39 (by decide) (by decide) c1 ?_
  refine rs_bipush i_X2_readSum_42 (v := 43) (by decide) ?_
  by_cases c2 : (gI h v0 3) ≠ 43
  · replace hf := (if_pos c2).symm.trans hf
    refine rs_icT i_X2_readSum_44 (ct_ne c2) (tg := 52) (by decide) ?_
    refine rs_bipush i_X2_readSum_52 (v := (-17)) (by decide) ?_
    exact r_X2_readSum_54 hd HS HK13 hf
  · replace hf := (if_neg c2).symm.trans hf
    refine rs_icF i_X2_readSum_44 (cf_ne c2) ?_
    refine rs_bipush i_X2_readSum_47 (v := (-16)) (by decide) ?_
    refine rs_goto i_X2_readSum_49 (tg := 54) (by decide) ?_
    exact r_X2_readSum_54 hd HS HK13 hf
def f_X2_readSum_13 (n : Nat) (S : Nat → Nat → Nat → Int32 → Hp → Option (Int32 × Hp)) : Nat → Nat → Nat → Int32 → Int32 → Hp → Option (Int32 × Hp)
  | 0, _, _, _, _, _ => none
  | m + 1, v0, v1, v2, v3, h =>
    if 160 ≤ v3 then
      some (1, h)
    else
      if okO h v0 2 then
      if (gI h v0 3) = 43 then
        f_X2_readSum_38 n S (f_X2_readSum_13 n S m) v0 v1 v2 v3 h
      else
        if (gI h v0 3) ≠ 45 then
          some (1, h)
        else
          f_X2_readSum_38 n S (f_X2_readSum_13 n S m) v0 v1 v2 v3 h
      else none
set_option maxRecDepth 100000 in
set_option maxHeartbeats 4000000 in
theorem r_X2_readSum_13 {X : Nat → Int32} {d : Nat} (hd : 7 ≤ (d + 1)) {n : Nat} {S : Nat → Nat → Nat → Int32 → Hp → Option (Int32 × Hp)} (HS : ∀ (tg v0 v1 : Nat) (v2 : Int32) (h : Hp) (o : Int32 × Hp), S tg v0 v1 v2 h = some o → Calls X d tg [.ref v0, .ref v1, .int v2] h (some (.int o.1), o.2)) : ∀ (m : Nat) (v0 : Nat) (v1 : Nat) (v2 : Int32) (v3 : Int32) (w4 : Option Value) (h : Hp) (o : (Int32 × Hp)), f_X2_readSum_13 n S m v0 v1 v2 v3 h = some o → Run X (d + 1) 17 13 [some (.ref v0), some (.ref v1), some (.int v2), some (.int v3), w4] [] h (some (.int o.1), o.2) := by
  intro m
  induction m with
  | zero => intro v0 v1 v2 v3 w4 h o hf; cases hf
  | succ m ih =>
    intro v0 v1 v2 v3 w4 h o hf
    rw [f_X2_readSum_13] at hf
    refine rs_iload_n i_X2_readSum_13 rfl ?_
    refine rs_sipush i_X2_readSum_14 (v := 160) (by decide) ?_
    by_cases c1 : 160 ≤ v3
    · replace hf := (if_pos c1).symm.trans hf
      refine rs_icT i_X2_readSum_17 (ct_ge c1) (tg := 83) (by decide) ?_
      refine rs_iconst i_X2_readSum_83 (v := 1) (by decide) ?_
      have hf := Option.some.inj hf
      subst hf
      exact rs_iret i_X2_readSum_84 m_X2_readSum (by decide)
    · replace hf := (if_neg c1).symm.trans hf
      refine rs_icF i_X2_readSum_17 (cf_ge c1) ?_
      refine rs_aload_n i_X2_readSum_20 rfl ?_
      obtain ⟨c2, hf⟩ := ite_some hf
      refine rs_getI i_X2_readSum_21 (by decide) (by decide) c2 ?_
      refine rs_bipush i_X2_readSum_24 (v := 43) (by decide) ?_
      by_cases c3 : (gI h v0 3) = 43
      · replace hf := (if_pos c3).symm.trans hf
        refine rs_icT i_X2_readSum_26 (ct_eq c3) (tg := 38) (by decide) ?_
        exact r_X2_readSum_38 hd HS ih hf
      · replace hf := (if_neg c3).symm.trans hf
        refine rs_icF i_X2_readSum_26 (cf_eq c3) ?_
        refine rs_aload_n i_X2_readSum_29 rfl ?_
        refine rs_getI i_X2_readSum_30 (by decide) (by decide) c2 ?_
        refine rs_bipush i_X2_readSum_33 (v := 45) (by decide) ?_
        by_cases c4 : (gI h v0 3) ≠ 45
        · replace hf := (if_pos c4).symm.trans hf
          refine rs_icT i_X2_readSum_35 (ct_ne c4) (tg := 83) (by decide) ?_
          refine rs_iconst i_X2_readSum_83 (v := 1) (by decide) ?_
          have hf := Option.some.inj hf
          subst hf
          exact rs_iret i_X2_readSum_84 m_X2_readSum (by decide)
        · replace hf := (if_neg c4).symm.trans hf
          refine rs_icF i_X2_readSum_35 (cf_ne c4) ?_
          exact r_X2_readSum_38 hd HS ih hf
def f_X2_readSum_0 (n : Nat) (S : Nat → Nat → Nat → Int32 → Hp → Option (Int32 × Hp)) (v0 : Nat) (v1 : Nat) (v2 : Int32) (h : Hp) : Option (Int32 × Hp) :=
  if okO h v0 2 then
  (S 18 v0 v1 v2 h).bind fun o1 =>
  if o1.1 ≠ 0 then
    f_X2_readSum_13 n S n v0 v1 v2 0 o1.2
  else
    some (0, o1.2)
  else none
set_option maxRecDepth 100000 in
set_option maxHeartbeats 4000000 in
theorem r_X2_readSum_0 {X : Nat → Int32} {d : Nat} (hd : 7 ≤ (d + 1)) {n : Nat} {S : Nat → Nat → Nat → Int32 → Hp → Option (Int32 × Hp)} (HS : ∀ (tg v0 v1 : Nat) (v2 : Int32) (h : Hp) (o : Int32 × Hp), S tg v0 v1 v2 h = some o → Calls X d tg [.ref v0, .ref v1, .int v2] h (some (.int o.1), o.2)) {v0 : Nat} {v1 : Nat} {v2 : Int32} {h : Hp} {o : (Int32 × Hp)} (hf : f_X2_readSum_0 n S v0 v1 v2 h = some o) : Run X (d + 1) 17 0 [some (.ref v0), some (.ref v1), some (.int v2), none, none] [] h (some (.int o.1), o.2) := by
  unfold f_X2_readSum_0 at hf
  refine rs_aload_n i_X2_readSum_0 rfl ?_
  refine rs_aload_n i_X2_readSum_1 rfl ?_
  refine rs_iload_n i_X2_readSum_2 rfl ?_
  obtain ⟨c2, hf⟩ := ite_some hf
  obtain ⟨o1, e1, hf⟩ := bind_some hf
  refine rs_inV i_X2_readSum_3 m_X2_readProduct rfl (As := [.ref v1, .int v2]) (rest := []) rfl rfl (Nat.le_of_ble_eq_true rfl) c2 (HS _ _ _ _ _ _ e1) (st' := [.int o1.1]) rfl ?_
  by_cases c3 : o1.1 ≠ 0
  · replace hf := (if_pos c3).symm.trans hf
    refine rs_ifT i_X2_readSum_6 (ct_ne c3) (tg := 11) (by decide) ?_
    refine rs_iconst i_X2_readSum_11 (v := 0) (by decide) ?_
    refine rs_istore_n i_X2_readSum_12 (Nat.le_of_ble_eq_true rfl) (lv' := [some (.ref v0), some (.ref v1), some (.int v2), some (.int 0), none]) rfl ?_
    exact r_X2_readSum_13 hd HS _ _ _ _ _ _ _ _ hf
  · replace hf := (if_neg c3).symm.trans hf
    refine rs_ifF i_X2_readSum_6 (cf_ne c3) ?_
    refine rs_iconst i_X2_readSum_9 (v := 0) (by decide) ?_
    have hf := Option.some.inj hf
    subst hf
    exact rs_iret i_X2_readSum_10 m_X2_readSum (by decide)
def f_X2_readSum (n : Nat) (S : Nat → Nat → Nat → Int32 → Hp → Option (Int32 × Hp)) (v0 : Nat) (v1 : Nat) (v2 : Int32) (h : Hp) : Option (Int32 × Hp) := f_X2_readSum_0 n S v0 v1 v2 h
theorem c_X2_readSum {X : Nat → Int32} {d : Nat} (hd : 7 ≤ d) {n : Nat} {S : Nat → Nat → Nat → Int32 → Hp → Option (Int32 × Hp)} (HS : ∀ (tg v0 v1 : Nat) (v2 : Int32) (h : Hp) (o : Int32 × Hp), S tg v0 v1 v2 h = some o → ∀ d', d = d' + 1 → Calls X d' tg [.ref v0, .ref v1, .int v2] h (some (.int o.1), o.2)) {v0 : Nat} {v1 : Nat} {v2 : Int32} {h : Hp} {o : (Int32 × Hp)} (hf : f_X2_readSum n S v0 v1 v2 h = some o) : Calls X d 17 [.ref v0, .ref v1, .int v2] h (some (.int o.1), o.2) := by
  obtain ⟨d, rfl⟩ : ∃ z, d = z + 1 := ⟨d - 1, by omega⟩
  exact ⟨_, rfl, r_X2_readSum_0 hd (fun tg v0 v1 v2 h o hf => HS tg v0 v1 v2 h o hf d rfl) hf⟩
theorem i_X2_readCompared_0 : fetch 16 0 = some (.aload_n 0, 1, 0, 0, 0, 0) := by decide +kernel
theorem i_X2_readCompared_1 : fetch 16 1 = some (.aload_n 1, 2, 0, 0, 0, 0) := by decide +kernel
theorem i_X2_readCompared_2 : fetch 16 2 = some (.iload_n 2, 3, 0, 0, 0, 0) := by decide +kernel
theorem i_X2_readCompared_3 : fetch 16 3 = some (.invokevirtual 59, 6, 17, 0, 0, 455) := by decide +kernel
theorem i_X2_readCompared_6 : fetch 16 6 = some (.ifCond .ne 5, 9, 0, 0, 0, 0) := by decide +kernel
theorem i_X2_readCompared_9 : fetch 16 9 = some (.iconst 0, 10, 0, 0, 0, 0) := by decide +kernel
theorem i_X2_readCompared_10 : fetch 16 10 = some (.ireturn, 11, 0, 0, 0, 0) := by decide +kernel
theorem i_X2_readCompared_11 : fetch 16 11 = some (.aload_n 0, 12, 0, 0, 0, 0) := by decide +kernel
theorem i_X2_readCompared_12 : fetch 16 12 = some (.getfield 22, 15, 2, 3, 0, 126) := by decide +kernel
theorem i_X2_readCompared_15 : fetch 16 15 = some (.bipush 60, 17, 0, 0, 0, 0) := by decide +kernel
theorem i_X2_readCompared_17 : fetch 16 17 = some (.if_icmp .eq 14, 20, 0, 0, 0, 0) := by decide +kernel
theorem i_X2_readCompared_20 : fetch 16 20 = some (.aload_n 0, 21, 0, 0, 0, 0) := by decide +kernel
theorem i_X2_readCompared_21 : fetch 16 21 = some (.getfield 22, 24, 2, 3, 0, 126) := by decide +kernel
theorem i_X2_readCompared_24 : fetch 16 24 = some (.bipush 61, 26, 0, 0, 0, 0) := by decide +kernel
theorem i_X2_readCompared_26 : fetch 16 26 = some (.if_icmp .eq 5, 29, 0, 0, 0, 0) := by decide +kernel
theorem i_X2_readCompared_29 : fetch 16 29 = some (.iconst 1, 30, 0, 0, 0, 0) := by decide +kernel
theorem i_X2_readCompared_30 : fetch 16 30 = some (.ireturn, 31, 0, 0, 0, 0) := by decide +kernel
theorem i_X2_readCompared_31 : fetch 16 31 = some (.aload_n 0, 32, 0, 0, 0, 0) := by decide +kernel
theorem i_X2_readCompared_32 : fetch 16 32 = some (.getfield 22, 35, 2, 3, 0, 126) := by decide +kernel
theorem i_X2_readCompared_35 : fetch 16 35 = some (.bipush 60, 37, 0, 0, 0, 0) := by decide +kernel
theorem i_X2_readCompared_37 : fetch 16 37 = some (.if_icmp .ne 8, 40, 0, 0, 0, 0) := by decide +kernel
theorem i_X2_readCompared_40 : fetch 16 40 = some (.bipush (-14), 42, 0, 0, 0, 0) := by decide +kernel
theorem i_X2_readCompared_42 : fetch 16 42 = some (.goto 5, 45, 0, 0, 0, 0) := by decide +kernel
theorem i_X2_readCompared_45 : fetch 16 45 = some (.bipush (-15), 47, 0, 0, 0, 0) := by decide +kernel
theorem i_X2_readCompared_47 : fetch 16 47 = some (.istore_n 3, 48, 0, 0, 0, 0) := by decide +kernel
theorem i_X2_readCompared_48 : fetch 16 48 = some (.aload_n 0, 49, 0, 0, 0, 0) := by decide +kernel
theorem i_X2_readCompared_49 : fetch 16 49 = some (.invokevirtual 36, 52, 20, 0, 0, 347) := by decide +kernel
theorem i_X2_readCompared_52 : fetch 16 52 = some (.aload_n 0, 53, 0, 0, 0, 0) := by decide +kernel
theorem i_X2_readCompared_53 : fetch 16 53 = some (.aload_n 1, 54, 0, 0, 0, 0) := by decide +kernel
theorem i_X2_readCompared_54 : fetch 16 54 = some (.iload_n 2, 55, 0, 0, 0, 0) := by decide +kernel
theorem i_X2_readCompared_55 : fetch 16 55 = some (.invokevirtual 59, 58, 17, 0, 0, 455) := by decide +kernel
theorem i_X2_readCompared_58 : fetch 16 58 = some (.ifCond .ne 5, 61, 0, 0, 0, 0) := by decide +kernel
theorem i_X2_readCompared_61 : fetch 16 61 = some (.iconst 0, 62, 0, 0, 0, 0) := by decide +kernel
theorem i_X2_readCompared_62 : fetch 16 62 = some (.ireturn, 63, 0, 0, 0, 0) := by decide +kernel
theorem i_X2_readCompared_63 : fetch 16 63 = some (.aload_n 1, 64, 0, 0, 0, 0) := by decide +kernel
theorem i_X2_readCompared_64 : fetch 16 64 = some (.iload_n 3, 65, 0, 0, 0, 0) := by decide +kernel
theorem i_X2_readCompared_65 : fetch 16 65 = some (.invokevirtual 50, 68, 61, 0, 0, 470) := by decide +kernel
theorem i_X2_readCompared_68 : fetch 16 68 = some (.iconst 1, 69, 0, 0, 0, 0) := by decide +kernel
theorem i_X2_readCompared_69 : fetch 16 69 = some (.ireturn, 70, 0, 0, 0, 0) := by decide +kernel
def f_X2_readCompared_47 (n : Nat) (S : Nat → Nat → Nat → Int32 → Hp → Option (Int32 × Hp)) (v0 : Nat) (v1 : Nat) (v2 : Int32) (s0 : Int32) (h : Hp) : Option (Int32 × Hp) :=
  if okO h v0 2 then
  (f_X2_advance n v0 h).bind fun o1 =>
  if okO o1 v0 2 then
  (S 17 v0 v1 v2 o1).bind fun o3 =>
  if o3.1 ≠ 0 then
    if okO o3.2 v1 6 then
    (f_X6_add v1 s0 o3.2).bind fun o6 =>
    some (1, o6)
    else none
  else
    some (0, o3.2)
  else none
  else none
set_option maxRecDepth 100000 in
set_option maxHeartbeats 4000000 in
theorem r_X2_readCompared_47 {X : Nat → Int32} {d : Nat} (hd : 7 ≤ (d + 1)) {n : Nat} {S : Nat → Nat → Nat → Int32 → Hp → Option (Int32 × Hp)} (HS : ∀ (tg v0 v1 : Nat) (v2 : Int32) (h : Hp) (o : Int32 × Hp), S tg v0 v1 v2 h = some o → Calls X d tg [.ref v0, .ref v1, .int v2] h (some (.int o.1), o.2)) {v0 : Nat} {v1 : Nat} {v2 : Int32} {s0 : Int32} {h : Hp} {o : (Int32 × Hp)} (hf : f_X2_readCompared_47 n S v0 v1 v2 s0 h = some o) : Run X (d + 1) 16 47 [some (.ref v0), some (.ref v1), some (.int v2), none] [.int s0] h (some (.int o.1), o.2) := by
  unfold f_X2_readCompared_47 at hf
  refine rs_istore_n i_X2_readCompared_47 (Nat.le_of_ble_eq_true rfl) (lv' := [some (.ref v0), some (.ref v1), some (.int v2), some (.int s0)]) rfl ?_
  refine rs_aload_n i_X2_readCompared_48 rfl ?_
  obtain ⟨c2, hf⟩ := ite_some hf
  obtain ⟨o1, e1, hf⟩ := bind_some hf
  refine rs_inV i_X2_readCompared_49 m_X2_advance rfl (As := []) (rest := []) rfl rfl (Nat.le_of_ble_eq_true rfl) c2 (c_X2_advance (by omega) e1) (st' := []) rfl ?_
  refine rs_aload_n i_X2_readCompared_52 rfl ?_
  refine rs_aload_n i_X2_readCompared_53 rfl ?_
  refine rs_iload_n i_X2_readCompared_54 rfl ?_
  obtain ⟨c4, hf⟩ := ite_some hf
  obtain ⟨o3, e3, hf⟩ := bind_some hf
  refine rs_inV i_X2_readCompared_55 m_X2_readSum rfl (As := [.ref v1, .int v2]) (rest := []) rfl rfl (Nat.le_of_ble_eq_true rfl) c4 (HS _ _ _ _ _ _ e3) (st' := [.int o3.1]) rfl ?_
  by_cases c5 : o3.1 ≠ 0
  · replace hf := (if_pos c5).symm.trans hf
    refine rs_ifT i_X2_readCompared_58 (ct_ne c5) (tg := 63) (by decide) ?_
    refine rs_aload_n i_X2_readCompared_63 rfl ?_
    refine rs_iload_n i_X2_readCompared_64 rfl ?_
    obtain ⟨c7, hf⟩ := ite_some hf
    obtain ⟨o6, e6, hf⟩ := bind_some hf
    refine rs_inV i_X2_readCompared_65 m_X6_add rfl (As := [.int s0]) (rest := []) rfl rfl (Nat.le_of_ble_eq_true rfl) c7 (c_X6_add (by omega) e6) (st' := []) rfl ?_
    refine rs_iconst i_X2_readCompared_68 (v := 1) (by decide) ?_
    have hf := Option.some.inj hf
    subst hf
    exact rs_iret i_X2_readCompared_69 m_X2_readCompared (by decide)
  · replace hf := (if_neg c5).symm.trans hf
    refine rs_ifF i_X2_readCompared_58 (cf_ne c5) ?_
    refine rs_iconst i_X2_readCompared_61 (v := 0) (by decide) ?_
    have hf := Option.some.inj hf
    subst hf
    exact rs_iret i_X2_readCompared_62 m_X2_readCompared (by decide)
def f_X2_readCompared_31 (n : Nat) (S : Nat → Nat → Nat → Int32 → Hp → Option (Int32 × Hp)) (v0 : Nat) (v1 : Nat) (v2 : Int32) (h : Hp) : Option (Int32 × Hp) :=
  if okO h v0 2 then
  if (gI h v0 3) ≠ 60 then
    f_X2_readCompared_47 n S v0 v1 v2 (-15) h
  else
    f_X2_readCompared_47 n S v0 v1 v2 (-14) h
  else none
set_option maxRecDepth 100000 in
set_option maxHeartbeats 4000000 in
theorem r_X2_readCompared_31 {X : Nat → Int32} {d : Nat} (hd : 7 ≤ (d + 1)) {n : Nat} {S : Nat → Nat → Nat → Int32 → Hp → Option (Int32 × Hp)} (HS : ∀ (tg v0 v1 : Nat) (v2 : Int32) (h : Hp) (o : Int32 × Hp), S tg v0 v1 v2 h = some o → Calls X d tg [.ref v0, .ref v1, .int v2] h (some (.int o.1), o.2)) {v0 : Nat} {v1 : Nat} {v2 : Int32} {h : Hp} {o : (Int32 × Hp)} (hf : f_X2_readCompared_31 n S v0 v1 v2 h = some o) : Run X (d + 1) 16 31 [some (.ref v0), some (.ref v1), some (.int v2), none] [] h (some (.int o.1), o.2) := by
  unfold f_X2_readCompared_31 at hf
  refine rs_aload_n i_X2_readCompared_31 rfl ?_
  obtain ⟨c1, hf⟩ := ite_some hf
  refine rs_getI i_X2_readCompared_32 (by decide) (by decide) c1 ?_
  refine rs_bipush i_X2_readCompared_35 (v := 60) (by decide) ?_
  by_cases c2 : (gI h v0 3) ≠ 60
  · replace hf := (if_pos c2).symm.trans hf
    refine rs_icT i_X2_readCompared_37 (ct_ne c2) (tg := 45) (by decide) ?_
    refine rs_bipush i_X2_readCompared_45 (v := (-15)) (by decide) ?_
    exact r_X2_readCompared_47 hd HS hf
  · replace hf := (if_neg c2).symm.trans hf
    refine rs_icF i_X2_readCompared_37 (cf_ne c2) ?_
    refine rs_bipush i_X2_readCompared_40 (v := (-14)) (by decide) ?_
    refine rs_goto i_X2_readCompared_42 (tg := 47) (by decide) ?_
    exact r_X2_readCompared_47 hd HS hf
def f_X2_readCompared_0 (n : Nat) (S : Nat → Nat → Nat → Int32 → Hp → Option (Int32 × Hp)) (v0 : Nat) (v1 : Nat) (v2 : Int32) (h : Hp) : Option (Int32 × Hp) :=
  if okO h v0 2 then
  (S 17 v0 v1 v2 h).bind fun o1 =>
  if o1.1 ≠ 0 then
    if okO o1.2 v0 2 then
    if (gI o1.2 v0 3) = 60 then
      f_X2_readCompared_31 n S v0 v1 v2 o1.2
    else
      if (gI o1.2 v0 3) = 61 then
        f_X2_readCompared_31 n S v0 v1 v2 o1.2
      else
        some (1, o1.2)
    else none
  else
    some (0, o1.2)
  else none
set_option maxRecDepth 100000 in
set_option maxHeartbeats 4000000 in
theorem r_X2_readCompared_0 {X : Nat → Int32} {d : Nat} (hd : 7 ≤ (d + 1)) {n : Nat} {S : Nat → Nat → Nat → Int32 → Hp → Option (Int32 × Hp)} (HS : ∀ (tg v0 v1 : Nat) (v2 : Int32) (h : Hp) (o : Int32 × Hp), S tg v0 v1 v2 h = some o → Calls X d tg [.ref v0, .ref v1, .int v2] h (some (.int o.1), o.2)) {v0 : Nat} {v1 : Nat} {v2 : Int32} {h : Hp} {o : (Int32 × Hp)} (hf : f_X2_readCompared_0 n S v0 v1 v2 h = some o) : Run X (d + 1) 16 0 [some (.ref v0), some (.ref v1), some (.int v2), none] [] h (some (.int o.1), o.2) := by
  unfold f_X2_readCompared_0 at hf
  refine rs_aload_n i_X2_readCompared_0 rfl ?_
  refine rs_aload_n i_X2_readCompared_1 rfl ?_
  refine rs_iload_n i_X2_readCompared_2 rfl ?_
  obtain ⟨c2, hf⟩ := ite_some hf
  obtain ⟨o1, e1, hf⟩ := bind_some hf
  refine rs_inV i_X2_readCompared_3 m_X2_readSum rfl (As := [.ref v1, .int v2]) (rest := []) rfl rfl (Nat.le_of_ble_eq_true rfl) c2 (HS _ _ _ _ _ _ e1) (st' := [.int o1.1]) rfl ?_
  by_cases c3 : o1.1 ≠ 0
  · replace hf := (if_pos c3).symm.trans hf
    refine rs_ifT i_X2_readCompared_6 (ct_ne c3) (tg := 11) (by decide) ?_
    refine rs_aload_n i_X2_readCompared_11 rfl ?_
    obtain ⟨c4, hf⟩ := ite_some hf
    refine rs_getI i_X2_readCompared_12 (by decide) (by decide) c4 ?_
    refine rs_bipush i_X2_readCompared_15 (v := 60) (by decide) ?_
    by_cases c5 : (gI o1.2 v0 3) = 60
    · replace hf := (if_pos c5).symm.trans hf
      refine rs_icT i_X2_readCompared_17 (ct_eq c5) (tg := 31) (by decide) ?_
      exact r_X2_readCompared_31 hd HS hf
    · replace hf := (if_neg c5).symm.trans hf
      refine rs_icF i_X2_readCompared_17 (cf_eq c5) ?_
      refine rs_aload_n i_X2_readCompared_20 rfl ?_
      refine rs_getI i_X2_readCompared_21 (by decide) (by decide) c4 ?_
      refine rs_bipush i_X2_readCompared_24 (v := 61) (by decide) ?_
      by_cases c6 : (gI o1.2 v0 3) = 61
      · replace hf := (if_pos c6).symm.trans hf
        refine rs_icT i_X2_readCompared_26 (ct_eq c6) (tg := 31) (by decide) ?_
        exact r_X2_readCompared_31 hd HS hf
      · replace hf := (if_neg c6).symm.trans hf
        refine rs_icF i_X2_readCompared_26 (cf_eq c6) ?_
        refine rs_iconst i_X2_readCompared_29 (v := 1) (by decide) ?_
        have hf := Option.some.inj hf
        subst hf
        exact rs_iret i_X2_readCompared_30 m_X2_readCompared (by decide)
  · replace hf := (if_neg c3).symm.trans hf
    refine rs_ifF i_X2_readCompared_6 (cf_ne c3) ?_
    refine rs_iconst i_X2_readCompared_9 (v := 0) (by decide) ?_
    have hf := Option.some.inj hf
    subst hf
    exact rs_iret i_X2_readCompared_10 m_X2_readCompared (by decide)
def f_X2_readCompared (n : Nat) (S : Nat → Nat → Nat → Int32 → Hp → Option (Int32 × Hp)) (v0 : Nat) (v1 : Nat) (v2 : Int32) (h : Hp) : Option (Int32 × Hp) := f_X2_readCompared_0 n S v0 v1 v2 h
theorem c_X2_readCompared {X : Nat → Int32} {d : Nat} (hd : 7 ≤ d) {n : Nat} {S : Nat → Nat → Nat → Int32 → Hp → Option (Int32 × Hp)} (HS : ∀ (tg v0 v1 : Nat) (v2 : Int32) (h : Hp) (o : Int32 × Hp), S tg v0 v1 v2 h = some o → ∀ d', d = d' + 1 → Calls X d' tg [.ref v0, .ref v1, .int v2] h (some (.int o.1), o.2)) {v0 : Nat} {v1 : Nat} {v2 : Int32} {h : Hp} {o : (Int32 × Hp)} (hf : f_X2_readCompared n S v0 v1 v2 h = some o) : Calls X d 16 [.ref v0, .ref v1, .int v2] h (some (.int o.1), o.2) := by
  obtain ⟨d, rfl⟩ : ∃ z, d = z + 1 := ⟨d - 1, by omega⟩
  exact ⟨_, rfl, r_X2_readCompared_0 hd (fun tg v0 v1 v2 h o hf => HS tg v0 v1 v2 h o hf d rfl) hf⟩
theorem i_X2_readNot_0 : fetch 15 0 = some (.aload_n 0, 1, 0, 0, 0, 0) := by decide +kernel
theorem i_X2_readNot_1 : fetch 15 1 = some (.getfield 22, 4, 2, 3, 0, 126) := by decide +kernel
theorem i_X2_readNot_4 : fetch 15 4 = some (.bipush 15, 6, 0, 0, 0, 0) := by decide +kernel
theorem i_X2_readNot_6 : fetch 15 6 = some (.if_icmp .eq 10, 9, 0, 0, 0, 0) := by decide +kernel
theorem i_X2_readNot_9 : fetch 15 9 = some (.aload_n 0, 10, 0, 0, 0, 0) := by decide +kernel
theorem i_X2_readNot_10 : fetch 15 10 = some (.aload_n 1, 11, 0, 0, 0, 0) := by decide +kernel
theorem i_X2_readNot_11 : fetch 15 11 = some (.iload_n 2, 12, 0, 0, 0, 0) := by decide +kernel
theorem i_X2_readNot_12 : fetch 15 12 = some (.invokevirtual 56, 15, 16, 0, 0, 451) := by decide +kernel
theorem i_X2_readNot_15 : fetch 15 15 = some (.ireturn, 16, 0, 0, 0, 0) := by decide +kernel
theorem i_X2_readNot_16 : fetch 15 16 = some (.iload_n 2, 17, 0, 0, 0, 0) := by decide +kernel
theorem i_X2_readNot_17 : fetch 15 17 = some (.iconst 5, 18, 0, 0, 0, 0) := by decide +kernel
theorem i_X2_readNot_18 : fetch 15 18 = some (.if_icmp .lt 5, 21, 0, 0, 0, 0) := by decide +kernel
theorem i_X2_readNot_21 : fetch 15 21 = some (.iconst 0, 22, 0, 0, 0, 0) := by decide +kernel
theorem i_X2_readNot_22 : fetch 15 22 = some (.ireturn, 23, 0, 0, 0, 0) := by decide +kernel
theorem i_X2_readNot_23 : fetch 15 23 = some (.aload_n 0, 24, 0, 0, 0, 0) := by decide +kernel
theorem i_X2_readNot_24 : fetch 15 24 = some (.invokevirtual 36, 27, 20, 0, 0, 347) := by decide +kernel
theorem i_X2_readNot_27 : fetch 15 27 = some (.aload_n 0, 28, 0, 0, 0, 0) := by decide +kernel
theorem i_X2_readNot_28 : fetch 15 28 = some (.aload_n 1, 29, 0, 0, 0, 0) := by decide +kernel
theorem i_X2_readNot_29 : fetch 15 29 = some (.iload_n 2, 30, 0, 0, 0, 0) := by decide +kernel
theorem i_X2_readNot_30 : fetch 15 30 = some (.iconst 1, 31, 0, 0, 0, 0) := by decide +kernel
theorem i_X2_readNot_31 : fetch 15 31 = some (.iadd, 32, 0, 0, 0, 0) := by decide +kernel
theorem i_X2_readNot_32 : fetch 15 32 = some (.invokevirtual 53, 35, 15, 0, 0, 447) := by decide +kernel
theorem i_X2_readNot_35 : fetch 15 35 = some (.ifCond .ne 5, 38, 0, 0, 0, 0) := by decide +kernel
theorem i_X2_readNot_38 : fetch 15 38 = some (.iconst 0, 39, 0, 0, 0, 0) := by decide +kernel
theorem i_X2_readNot_39 : fetch 15 39 = some (.ireturn, 40, 0, 0, 0, 0) := by decide +kernel
theorem i_X2_readNot_40 : fetch 15 40 = some (.aload_n 1, 41, 0, 0, 0, 0) := by decide +kernel
theorem i_X2_readNot_41 : fetch 15 41 = some (.bipush (-13), 43, 0, 0, 0, 0) := by decide +kernel
theorem i_X2_readNot_43 : fetch 15 43 = some (.invokevirtual 50, 46, 61, 0, 0, 470) := by decide +kernel
theorem i_X2_readNot_46 : fetch 15 46 = some (.iconst 1, 47, 0, 0, 0, 0) := by decide +kernel
theorem i_X2_readNot_47 : fetch 15 47 = some (.ireturn, 48, 0, 0, 0, 0) := by decide +kernel
def f_X2_readNot_0 (n : Nat) (S : Nat → Nat → Nat → Int32 → Hp → Option (Int32 × Hp)) (v0 : Nat) (v1 : Nat) (v2 : Int32) (h : Hp) : Option (Int32 × Hp) :=
  if okO h v0 2 then
  if (gI h v0 3) = 15 then
    if v2 < 5 then
      (f_X2_advance n v0 h).bind fun o4 =>
      if okO o4 v0 2 then
      (S 15 v0 v1 (v2 + 1) o4).bind fun o5 =>
      if o5.1 ≠ 0 then
        if okO o5.2 v1 6 then
        (f_X6_add v1 (-13) o5.2).bind fun o8 =>
        some (1, o8)
        else none
      else
        some (0, o5.2)
      else none
    else
      some (0, h)
  else
    (S 16 v0 v1 v2 h).bind fun o10 =>
    if o10.1 = 0 ∨ o10.1 = 1 then
    some (o10.1, o10.2)
    else none
  else none
set_option maxRecDepth 100000 in
set_option maxHeartbeats 4000000 in
theorem r_X2_readNot_0 {X : Nat → Int32} {d : Nat} (hd : 7 ≤ (d + 1)) {n : Nat} {S : Nat → Nat → Nat → Int32 → Hp → Option (Int32 × Hp)} (HS : ∀ (tg v0 v1 : Nat) (v2 : Int32) (h : Hp) (o : Int32 × Hp), S tg v0 v1 v2 h = some o → Calls X d tg [.ref v0, .ref v1, .int v2] h (some (.int o.1), o.2)) {v0 : Nat} {v1 : Nat} {v2 : Int32} {h : Hp} {o : (Int32 × Hp)} (hf : f_X2_readNot_0 n S v0 v1 v2 h = some o) : Run X (d + 1) 15 0 [some (.ref v0), some (.ref v1), some (.int v2)] [] h (some (.int o.1), o.2) := by
  unfold f_X2_readNot_0 at hf
  refine rs_aload_n i_X2_readNot_0 rfl ?_
  obtain ⟨c1, hf⟩ := ite_some hf
  refine rs_getI i_X2_readNot_1 (by decide) (by decide) c1 ?_
  refine rs_bipush i_X2_readNot_4 (v := 15) (by decide) ?_
  by_cases c2 : (gI h v0 3) = 15
  · replace hf := (if_pos c2).symm.trans hf
    refine rs_icT i_X2_readNot_6 (ct_eq c2) (tg := 16) (by decide) ?_
    refine rs_iload_n i_X2_readNot_16 rfl ?_
    refine rs_iconst i_X2_readNot_17 (v := 5) (by decide) ?_
    by_cases c3 : v2 < 5
    · replace hf := (if_pos c3).symm.trans hf
      refine rs_icT i_X2_readNot_18 (ct_lt c3) (tg := 23) (by decide) ?_
      refine rs_aload_n i_X2_readNot_23 rfl ?_
      obtain ⟨o4, e4, hf⟩ := bind_some hf
      refine rs_inV i_X2_readNot_24 m_X2_advance rfl (As := []) (rest := []) rfl rfl (Nat.le_of_ble_eq_true rfl) c1 (c_X2_advance (by omega) e4) (st' := []) rfl ?_
      refine rs_aload_n i_X2_readNot_27 rfl ?_
      refine rs_aload_n i_X2_readNot_28 rfl ?_
      refine rs_iload_n i_X2_readNot_29 rfl ?_
      refine rs_iconst i_X2_readNot_30 (v := 1) (by decide) ?_
      refine rs_iadd i_X2_readNot_31 ?_
      obtain ⟨c6, hf⟩ := ite_some hf
      obtain ⟨o5, e5, hf⟩ := bind_some hf
      refine rs_inV i_X2_readNot_32 m_X2_readNot rfl (As := [.ref v1, .int (v2 + 1)]) (rest := []) rfl rfl (Nat.le_of_ble_eq_true rfl) c6 (HS _ _ _ _ _ _ e5) (st' := [.int o5.1]) rfl ?_
      by_cases c7 : o5.1 ≠ 0
      · replace hf := (if_pos c7).symm.trans hf
        refine rs_ifT i_X2_readNot_35 (ct_ne c7) (tg := 40) (by decide) ?_
        refine rs_aload_n i_X2_readNot_40 rfl ?_
        refine rs_bipush i_X2_readNot_41 (v := (-13)) (by decide) ?_
        obtain ⟨c9, hf⟩ := ite_some hf
        obtain ⟨o8, e8, hf⟩ := bind_some hf
        refine rs_inV i_X2_readNot_43 m_X6_add rfl (As := [.int (-13)]) (rest := []) rfl rfl (Nat.le_of_ble_eq_true rfl) c9 (c_X6_add (by omega) e8) (st' := []) rfl ?_
        refine rs_iconst i_X2_readNot_46 (v := 1) (by decide) ?_
        have hf := Option.some.inj hf
        subst hf
        exact rs_iret i_X2_readNot_47 m_X2_readNot (by decide)
      · replace hf := (if_neg c7).symm.trans hf
        refine rs_ifF i_X2_readNot_35 (cf_ne c7) ?_
        refine rs_iconst i_X2_readNot_38 (v := 0) (by decide) ?_
        have hf := Option.some.inj hf
        subst hf
        exact rs_iret i_X2_readNot_39 m_X2_readNot (by decide)
    · replace hf := (if_neg c3).symm.trans hf
      refine rs_icF i_X2_readNot_18 (cf_lt c3) ?_
      refine rs_iconst i_X2_readNot_21 (v := 0) (by decide) ?_
      have hf := Option.some.inj hf
      subst hf
      exact rs_iret i_X2_readNot_22 m_X2_readNot (by decide)
  · replace hf := (if_neg c2).symm.trans hf
    refine rs_icF i_X2_readNot_6 (cf_eq c2) ?_
    refine rs_aload_n i_X2_readNot_9 rfl ?_
    refine rs_aload_n i_X2_readNot_10 rfl ?_
    refine rs_iload_n i_X2_readNot_11 rfl ?_
    obtain ⟨o10, e10, hf⟩ := bind_some hf
    refine rs_inV i_X2_readNot_12 m_X2_readCompared rfl (As := [.ref v1, .int v2]) (rest := []) rfl rfl (Nat.le_of_ble_eq_true rfl) c1 (HS _ _ _ _ _ _ e10) (st' := [.int o10.1]) rfl ?_
    obtain ⟨c11, hf⟩ := ite_some hf
    have hf := Option.some.inj hf
    subst hf
    exact rs_iret i_X2_readNot_15 m_X2_readNot (decide_eq_true c11)
def f_X2_readNot (n : Nat) (S : Nat → Nat → Nat → Int32 → Hp → Option (Int32 × Hp)) (v0 : Nat) (v1 : Nat) (v2 : Int32) (h : Hp) : Option (Int32 × Hp) := f_X2_readNot_0 n S v0 v1 v2 h
theorem c_X2_readNot {X : Nat → Int32} {d : Nat} (hd : 7 ≤ d) {n : Nat} {S : Nat → Nat → Nat → Int32 → Hp → Option (Int32 × Hp)} (HS : ∀ (tg v0 v1 : Nat) (v2 : Int32) (h : Hp) (o : Int32 × Hp), S tg v0 v1 v2 h = some o → ∀ d', d = d' + 1 → Calls X d' tg [.ref v0, .ref v1, .int v2] h (some (.int o.1), o.2)) {v0 : Nat} {v1 : Nat} {v2 : Int32} {h : Hp} {o : (Int32 × Hp)} (hf : f_X2_readNot n S v0 v1 v2 h = some o) : Calls X d 15 [.ref v0, .ref v1, .int v2] h (some (.int o.1), o.2) := by
  obtain ⟨d, rfl⟩ : ∃ z, d = z + 1 := ⟨d - 1, by omega⟩
  exact ⟨_, rfl, r_X2_readNot_0 hd (fun tg v0 v1 v2 h o hf => HS tg v0 v1 v2 h o hf d rfl) hf⟩
theorem i_X2_readBoth_0 : fetch 14 0 = some (.aload_n 0, 1, 0, 0, 0, 0) := by decide +kernel
theorem i_X2_readBoth_1 : fetch 14 1 = some (.aload_n 1, 2, 0, 0, 0, 0) := by decide +kernel
theorem i_X2_readBoth_2 : fetch 14 2 = some (.iload_n 2, 3, 0, 0, 0, 0) := by decide +kernel
theorem i_X2_readBoth_3 : fetch 14 3 = some (.invokevirtual 53, 6, 15, 0, 0, 447) := by decide +kernel
theorem i_X2_readBoth_6 : fetch 14 6 = some (.ifCond .ne 5, 9, 0, 0, 0, 0) := by decide +kernel
theorem i_X2_readBoth_9 : fetch 14 9 = some (.iconst 0, 10, 0, 0, 0, 0) := by decide +kernel
theorem i_X2_readBoth_10 : fetch 14 10 = some (.ireturn, 11, 0, 0, 0, 0) := by decide +kernel
theorem i_X2_readBoth_11 : fetch 14 11 = some (.iconst 0, 12, 0, 0, 0, 0) := by decide +kernel
theorem i_X2_readBoth_12 : fetch 14 12 = some (.istore_n 3, 13, 0, 0, 0, 0) := by decide +kernel
theorem i_X2_readBoth_13 : fetch 14 13 = some (.iload_n 3, 14, 0, 0, 0, 0) := by decide +kernel
theorem i_X2_readBoth_14 : fetch 14 14 = some (.sipush 160, 17, 0, 0, 0, 0) := by decide +kernel
theorem i_X2_readBoth_17 : fetch 14 17 = some (.if_icmp .ge 39, 20, 0, 0, 0, 0) := by decide +kernel
theorem i_X2_readBoth_20 : fetch 14 20 = some (.aload_n 0, 21, 0, 0, 0, 0) := by decide +kernel
theorem i_X2_readBoth_21 : fetch 14 21 = some (.getfield 22, 24, 2, 3, 0, 126) := by decide +kernel
theorem i_X2_readBoth_24 : fetch 14 24 = some (.bipush 14, 26, 0, 0, 0, 0) := by decide +kernel
theorem i_X2_readBoth_26 : fetch 14 26 = some (.if_icmp .ne 30, 29, 0, 0, 0, 0) := by decide +kernel
theorem i_X2_readBoth_29 : fetch 14 29 = some (.aload_n 0, 30, 0, 0, 0, 0) := by decide +kernel
theorem i_X2_readBoth_30 : fetch 14 30 = some (.invokevirtual 36, 33, 20, 0, 0, 347) := by decide +kernel
theorem i_X2_readBoth_33 : fetch 14 33 = some (.aload_n 0, 34, 0, 0, 0, 0) := by decide +kernel
theorem i_X2_readBoth_34 : fetch 14 34 = some (.aload_n 1, 35, 0, 0, 0, 0) := by decide +kernel
theorem i_X2_readBoth_35 : fetch 14 35 = some (.iload_n 2, 36, 0, 0, 0, 0) := by decide +kernel
theorem i_X2_readBoth_36 : fetch 14 36 = some (.invokevirtual 53, 39, 15, 0, 0, 447) := by decide +kernel
theorem i_X2_readBoth_39 : fetch 14 39 = some (.ifCond .ne 5, 42, 0, 0, 0, 0) := by decide +kernel
theorem i_X2_readBoth_42 : fetch 14 42 = some (.iconst 0, 43, 0, 0, 0, 0) := by decide +kernel
theorem i_X2_readBoth_43 : fetch 14 43 = some (.ireturn, 44, 0, 0, 0, 0) := by decide +kernel
theorem i_X2_readBoth_44 : fetch 14 44 = some (.aload_n 1, 45, 0, 0, 0, 0) := by decide +kernel
theorem i_X2_readBoth_45 : fetch 14 45 = some (.bipush (-12), 47, 0, 0, 0, 0) := by decide +kernel
theorem i_X2_readBoth_47 : fetch 14 47 = some (.invokevirtual 50, 50, 61, 0, 0, 470) := by decide +kernel
theorem i_X2_readBoth_50 : fetch 14 50 = some (.iinc 3 1, 53, 0, 0, 0, 0) := by decide +kernel
theorem i_X2_readBoth_53 : fetch 14 53 = some (.goto (-40), 56, 0, 0, 0, 0) := by decide +kernel
theorem i_X2_readBoth_56 : fetch 14 56 = some (.iconst 1, 57, 0, 0, 0, 0) := by decide +kernel
theorem i_X2_readBoth_57 : fetch 14 57 = some (.ireturn, 58, 0, 0, 0, 0) := by decide +kernel
def f_X2_readBoth_13 (n : Nat) (S : Nat → Nat → Nat → Int32 → Hp → Option (Int32 × Hp)) : Nat → Nat → Nat → Int32 → Int32 → Hp → Option (Int32 × Hp)
  | 0, _, _, _, _, _ => none
  | m + 1, v0, v1, v2, v3, h =>
    if 160 ≤ v3 then
      some (1, h)
    else
      if okO h v0 2 then
      if (gI h v0 3) ≠ 14 then
        some (1, h)
      else
        (f_X2_advance n v0 h).bind fun o4 =>
        if okO o4 v0 2 then
        (S 15 v0 v1 v2 o4).bind fun o5 =>
        if o5.1 ≠ 0 then
          if okO o5.2 v1 6 then
          (f_X6_add v1 (-12) o5.2).bind fun o8 =>
          (f_X2_readBoth_13 n S m) v0 v1 v2 (v3 + 1) o8
          else none
        else
          some (0, o5.2)
        else none
      else none
set_option maxRecDepth 100000 in
set_option maxHeartbeats 4000000 in
theorem r_X2_readBoth_13 {X : Nat → Int32} {d : Nat} (hd : 7 ≤ (d + 1)) {n : Nat} {S : Nat → Nat → Nat → Int32 → Hp → Option (Int32 × Hp)} (HS : ∀ (tg v0 v1 : Nat) (v2 : Int32) (h : Hp) (o : Int32 × Hp), S tg v0 v1 v2 h = some o → Calls X d tg [.ref v0, .ref v1, .int v2] h (some (.int o.1), o.2)) : ∀ (m : Nat) (v0 : Nat) (v1 : Nat) (v2 : Int32) (v3 : Int32) (h : Hp) (o : (Int32 × Hp)), f_X2_readBoth_13 n S m v0 v1 v2 v3 h = some o → Run X (d + 1) 14 13 [some (.ref v0), some (.ref v1), some (.int v2), some (.int v3)] [] h (some (.int o.1), o.2) := by
  intro m
  induction m with
  | zero => intro v0 v1 v2 v3 h o hf; cases hf
  | succ m ih =>
    intro v0 v1 v2 v3 h o hf
    rw [f_X2_readBoth_13] at hf
    refine rs_iload_n i_X2_readBoth_13 rfl ?_
    refine rs_sipush i_X2_readBoth_14 (v := 160) (by decide) ?_
    by_cases c1 : 160 ≤ v3
    · replace hf := (if_pos c1).symm.trans hf
      refine rs_icT i_X2_readBoth_17 (ct_ge c1) (tg := 56) (by decide) ?_
      refine rs_iconst i_X2_readBoth_56 (v := 1) (by decide) ?_
      have hf := Option.some.inj hf
      subst hf
      exact rs_iret i_X2_readBoth_57 m_X2_readBoth (by decide)
    · replace hf := (if_neg c1).symm.trans hf
      refine rs_icF i_X2_readBoth_17 (cf_ge c1) ?_
      refine rs_aload_n i_X2_readBoth_20 rfl ?_
      obtain ⟨c2, hf⟩ := ite_some hf
      refine rs_getI i_X2_readBoth_21 (by decide) (by decide) c2 ?_
      refine rs_bipush i_X2_readBoth_24 (v := 14) (by decide) ?_
      by_cases c3 : (gI h v0 3) ≠ 14
      · replace hf := (if_pos c3).symm.trans hf
        refine rs_icT i_X2_readBoth_26 (ct_ne c3) (tg := 56) (by decide) ?_
        refine rs_iconst i_X2_readBoth_56 (v := 1) (by decide) ?_
        have hf := Option.some.inj hf
        subst hf
        exact rs_iret i_X2_readBoth_57 m_X2_readBoth (by decide)
      · replace hf := (if_neg c3).symm.trans hf
        refine rs_icF i_X2_readBoth_26 (cf_ne c3) ?_
        refine rs_aload_n i_X2_readBoth_29 rfl ?_
        obtain ⟨o4, e4, hf⟩ := bind_some hf
        refine rs_inV i_X2_readBoth_30 m_X2_advance rfl (As := []) (rest := []) rfl rfl (Nat.le_of_ble_eq_true rfl) c2 (c_X2_advance (by omega) e4) (st' := []) rfl ?_
        refine rs_aload_n i_X2_readBoth_33 rfl ?_
        refine rs_aload_n i_X2_readBoth_34 rfl ?_
        refine rs_iload_n i_X2_readBoth_35 rfl ?_
        obtain ⟨c6, hf⟩ := ite_some hf
        obtain ⟨o5, e5, hf⟩ := bind_some hf
        refine rs_inV i_X2_readBoth_36 m_X2_readNot rfl (As := [.ref v1, .int v2]) (rest := []) rfl rfl (Nat.le_of_ble_eq_true rfl) c6 (HS _ _ _ _ _ _ e5) (st' := [.int o5.1]) rfl ?_
        by_cases c7 : o5.1 ≠ 0
        · replace hf := (if_pos c7).symm.trans hf
          refine rs_ifT i_X2_readBoth_39 (ct_ne c7) (tg := 44) (by decide) ?_
          refine rs_aload_n i_X2_readBoth_44 rfl ?_
          refine rs_bipush i_X2_readBoth_45 (v := (-12)) (by decide) ?_
          obtain ⟨c9, hf⟩ := ite_some hf
          obtain ⟨o8, e8, hf⟩ := bind_some hf
          refine rs_inV i_X2_readBoth_47 m_X6_add rfl (As := [.int (-12)]) (rest := []) rfl rfl (Nat.le_of_ble_eq_true rfl) c9 (c_X6_add (by omega) e8) (st' := []) rfl ?_
          refine rs_iinc i_X2_readBoth_50 rfl (v := v3 + 1) rfl (Nat.le_of_ble_eq_true rfl) (lv' := [some (.ref v0), some (.ref v1), some (.int v2), some (.int (v3 + 1))]) rfl ?_
          refine rs_goto i_X2_readBoth_53 (tg := 13) (by decide) ?_
          exact ih _ _ _ _ _ _ hf
        · replace hf := (if_neg c7).symm.trans hf
          refine rs_ifF i_X2_readBoth_39 (cf_ne c7) ?_
          refine rs_iconst i_X2_readBoth_42 (v := 0) (by decide) ?_
          have hf := Option.some.inj hf
          subst hf
          exact rs_iret i_X2_readBoth_43 m_X2_readBoth (by decide)
def f_X2_readBoth_0 (n : Nat) (S : Nat → Nat → Nat → Int32 → Hp → Option (Int32 × Hp)) (v0 : Nat) (v1 : Nat) (v2 : Int32) (h : Hp) : Option (Int32 × Hp) :=
  if okO h v0 2 then
  (S 15 v0 v1 v2 h).bind fun o1 =>
  if o1.1 ≠ 0 then
    f_X2_readBoth_13 n S n v0 v1 v2 0 o1.2
  else
    some (0, o1.2)
  else none
set_option maxRecDepth 100000 in
set_option maxHeartbeats 4000000 in
theorem r_X2_readBoth_0 {X : Nat → Int32} {d : Nat} (hd : 7 ≤ (d + 1)) {n : Nat} {S : Nat → Nat → Nat → Int32 → Hp → Option (Int32 × Hp)} (HS : ∀ (tg v0 v1 : Nat) (v2 : Int32) (h : Hp) (o : Int32 × Hp), S tg v0 v1 v2 h = some o → Calls X d tg [.ref v0, .ref v1, .int v2] h (some (.int o.1), o.2)) {v0 : Nat} {v1 : Nat} {v2 : Int32} {h : Hp} {o : (Int32 × Hp)} (hf : f_X2_readBoth_0 n S v0 v1 v2 h = some o) : Run X (d + 1) 14 0 [some (.ref v0), some (.ref v1), some (.int v2), none] [] h (some (.int o.1), o.2) := by
  unfold f_X2_readBoth_0 at hf
  refine rs_aload_n i_X2_readBoth_0 rfl ?_
  refine rs_aload_n i_X2_readBoth_1 rfl ?_
  refine rs_iload_n i_X2_readBoth_2 rfl ?_
  obtain ⟨c2, hf⟩ := ite_some hf
  obtain ⟨o1, e1, hf⟩ := bind_some hf
  refine rs_inV i_X2_readBoth_3 m_X2_readNot rfl (As := [.ref v1, .int v2]) (rest := []) rfl rfl (Nat.le_of_ble_eq_true rfl) c2 (HS _ _ _ _ _ _ e1) (st' := [.int o1.1]) rfl ?_
  by_cases c3 : o1.1 ≠ 0
  · replace hf := (if_pos c3).symm.trans hf
    refine rs_ifT i_X2_readBoth_6 (ct_ne c3) (tg := 11) (by decide) ?_
    refine rs_iconst i_X2_readBoth_11 (v := 0) (by decide) ?_
    refine rs_istore_n i_X2_readBoth_12 (Nat.le_of_ble_eq_true rfl) (lv' := [some (.ref v0), some (.ref v1), some (.int v2), some (.int 0)]) rfl ?_
    exact r_X2_readBoth_13 hd HS _ _ _ _ _ _ _ hf
  · replace hf := (if_neg c3).symm.trans hf
    refine rs_ifF i_X2_readBoth_6 (cf_ne c3) ?_
    refine rs_iconst i_X2_readBoth_9 (v := 0) (by decide) ?_
    have hf := Option.some.inj hf
    subst hf
    exact rs_iret i_X2_readBoth_10 m_X2_readBoth (by decide)
def f_X2_readBoth (n : Nat) (S : Nat → Nat → Nat → Int32 → Hp → Option (Int32 × Hp)) (v0 : Nat) (v1 : Nat) (v2 : Int32) (h : Hp) : Option (Int32 × Hp) := f_X2_readBoth_0 n S v0 v1 v2 h
theorem c_X2_readBoth {X : Nat → Int32} {d : Nat} (hd : 7 ≤ d) {n : Nat} {S : Nat → Nat → Nat → Int32 → Hp → Option (Int32 × Hp)} (HS : ∀ (tg v0 v1 : Nat) (v2 : Int32) (h : Hp) (o : Int32 × Hp), S tg v0 v1 v2 h = some o → ∀ d', d = d' + 1 → Calls X d' tg [.ref v0, .ref v1, .int v2] h (some (.int o.1), o.2)) {v0 : Nat} {v1 : Nat} {v2 : Int32} {h : Hp} {o : (Int32 × Hp)} (hf : f_X2_readBoth n S v0 v1 v2 h = some o) : Calls X d 14 [.ref v0, .ref v1, .int v2] h (some (.int o.1), o.2) := by
  obtain ⟨d, rfl⟩ : ∃ z, d = z + 1 := ⟨d - 1, by omega⟩
  exact ⟨_, rfl, r_X2_readBoth_0 hd (fun tg v0 v1 v2 h o hf => HS tg v0 v1 v2 h o hf d rfl) hf⟩
theorem i_X2_readEither_0 : fetch 13 0 = some (.aload_n 0, 1, 0, 0, 0, 0) := by decide +kernel
theorem i_X2_readEither_1 : fetch 13 1 = some (.aload_n 1, 2, 0, 0, 0, 0) := by decide +kernel
theorem i_X2_readEither_2 : fetch 13 2 = some (.iload_n 2, 3, 0, 0, 0, 0) := by decide +kernel
theorem i_X2_readEither_3 : fetch 13 3 = some (.invokevirtual 47, 6, 14, 0, 0, 443) := by decide +kernel
theorem i_X2_readEither_6 : fetch 13 6 = some (.ifCond .ne 5, 9, 0, 0, 0, 0) := by decide +kernel
theorem i_X2_readEither_9 : fetch 13 9 = some (.iconst 0, 10, 0, 0, 0, 0) := by decide +kernel
theorem i_X2_readEither_10 : fetch 13 10 = some (.ireturn, 11, 0, 0, 0, 0) := by decide +kernel
theorem i_X2_readEither_11 : fetch 13 11 = some (.iconst 0, 12, 0, 0, 0, 0) := by decide +kernel
theorem i_X2_readEither_12 : fetch 13 12 = some (.istore_n 3, 13, 0, 0, 0, 0) := by decide +kernel
theorem i_X2_readEither_13 : fetch 13 13 = some (.iload_n 3, 14, 0, 0, 0, 0) := by decide +kernel
theorem i_X2_readEither_14 : fetch 13 14 = some (.sipush 160, 17, 0, 0, 0, 0) := by decide +kernel
theorem i_X2_readEither_17 : fetch 13 17 = some (.if_icmp .ge 39, 20, 0, 0, 0, 0) := by decide +kernel
theorem i_X2_readEither_20 : fetch 13 20 = some (.aload_n 0, 21, 0, 0, 0, 0) := by decide +kernel
theorem i_X2_readEither_21 : fetch 13 21 = some (.getfield 22, 24, 2, 3, 0, 126) := by decide +kernel
theorem i_X2_readEither_24 : fetch 13 24 = some (.bipush 13, 26, 0, 0, 0, 0) := by decide +kernel
theorem i_X2_readEither_26 : fetch 13 26 = some (.if_icmp .ne 30, 29, 0, 0, 0, 0) := by decide +kernel
theorem i_X2_readEither_29 : fetch 13 29 = some (.aload_n 0, 30, 0, 0, 0, 0) := by decide +kernel
theorem i_X2_readEither_30 : fetch 13 30 = some (.invokevirtual 36, 33, 20, 0, 0, 347) := by decide +kernel
theorem i_X2_readEither_33 : fetch 13 33 = some (.aload_n 0, 34, 0, 0, 0, 0) := by decide +kernel
theorem i_X2_readEither_34 : fetch 13 34 = some (.aload_n 1, 35, 0, 0, 0, 0) := by decide +kernel
theorem i_X2_readEither_35 : fetch 13 35 = some (.iload_n 2, 36, 0, 0, 0, 0) := by decide +kernel
theorem i_X2_readEither_36 : fetch 13 36 = some (.invokevirtual 47, 39, 14, 0, 0, 443) := by decide +kernel
theorem i_X2_readEither_39 : fetch 13 39 = some (.ifCond .ne 5, 42, 0, 0, 0, 0) := by decide +kernel
theorem i_X2_readEither_42 : fetch 13 42 = some (.iconst 0, 43, 0, 0, 0, 0) := by decide +kernel
theorem i_X2_readEither_43 : fetch 13 43 = some (.ireturn, 44, 0, 0, 0, 0) := by decide +kernel
theorem i_X2_readEither_44 : fetch 13 44 = some (.aload_n 1, 45, 0, 0, 0, 0) := by decide +kernel
theorem i_X2_readEither_45 : fetch 13 45 = some (.bipush (-11), 47, 0, 0, 0, 0) := by decide +kernel
theorem i_X2_readEither_47 : fetch 13 47 = some (.invokevirtual 50, 50, 61, 0, 0, 470) := by decide +kernel
theorem i_X2_readEither_50 : fetch 13 50 = some (.iinc 3 1, 53, 0, 0, 0, 0) := by decide +kernel
theorem i_X2_readEither_53 : fetch 13 53 = some (.goto (-40), 56, 0, 0, 0, 0) := by decide +kernel
theorem i_X2_readEither_56 : fetch 13 56 = some (.iconst 1, 57, 0, 0, 0, 0) := by decide +kernel
theorem i_X2_readEither_57 : fetch 13 57 = some (.ireturn, 58, 0, 0, 0, 0) := by decide +kernel
def f_X2_readEither_13 (n : Nat) (S : Nat → Nat → Nat → Int32 → Hp → Option (Int32 × Hp)) : Nat → Nat → Nat → Int32 → Int32 → Hp → Option (Int32 × Hp)
  | 0, _, _, _, _, _ => none
  | m + 1, v0, v1, v2, v3, h =>
    if 160 ≤ v3 then
      some (1, h)
    else
      if okO h v0 2 then
      if (gI h v0 3) ≠ 13 then
        some (1, h)
      else
        (f_X2_advance n v0 h).bind fun o4 =>
        if okO o4 v0 2 then
        (S 14 v0 v1 v2 o4).bind fun o5 =>
        if o5.1 ≠ 0 then
          if okO o5.2 v1 6 then
          (f_X6_add v1 (-11) o5.2).bind fun o8 =>
          (f_X2_readEither_13 n S m) v0 v1 v2 (v3 + 1) o8
          else none
        else
          some (0, o5.2)
        else none
      else none
set_option maxRecDepth 100000 in
set_option maxHeartbeats 4000000 in
theorem r_X2_readEither_13 {X : Nat → Int32} {d : Nat} (hd : 7 ≤ (d + 1)) {n : Nat} {S : Nat → Nat → Nat → Int32 → Hp → Option (Int32 × Hp)} (HS : ∀ (tg v0 v1 : Nat) (v2 : Int32) (h : Hp) (o : Int32 × Hp), S tg v0 v1 v2 h = some o → Calls X d tg [.ref v0, .ref v1, .int v2] h (some (.int o.1), o.2)) : ∀ (m : Nat) (v0 : Nat) (v1 : Nat) (v2 : Int32) (v3 : Int32) (h : Hp) (o : (Int32 × Hp)), f_X2_readEither_13 n S m v0 v1 v2 v3 h = some o → Run X (d + 1) 13 13 [some (.ref v0), some (.ref v1), some (.int v2), some (.int v3)] [] h (some (.int o.1), o.2) := by
  intro m
  induction m with
  | zero => intro v0 v1 v2 v3 h o hf; cases hf
  | succ m ih =>
    intro v0 v1 v2 v3 h o hf
    rw [f_X2_readEither_13] at hf
    refine rs_iload_n i_X2_readEither_13 rfl ?_
    refine rs_sipush i_X2_readEither_14 (v := 160) (by decide) ?_
    by_cases c1 : 160 ≤ v3
    · replace hf := (if_pos c1).symm.trans hf
      refine rs_icT i_X2_readEither_17 (ct_ge c1) (tg := 56) (by decide) ?_
      refine rs_iconst i_X2_readEither_56 (v := 1) (by decide) ?_
      have hf := Option.some.inj hf
      subst hf
      exact rs_iret i_X2_readEither_57 m_X2_readEither (by decide)
    · replace hf := (if_neg c1).symm.trans hf
      refine rs_icF i_X2_readEither_17 (cf_ge c1) ?_
      refine rs_aload_n i_X2_readEither_20 rfl ?_
      obtain ⟨c2, hf⟩ := ite_some hf
      refine rs_getI i_X2_readEither_21 (by decide) (by decide) c2 ?_
      refine rs_bipush i_X2_readEither_24 (v := 13) (by decide) ?_
      by_cases c3 : (gI h v0 3) ≠ 13
      · replace hf := (if_pos c3).symm.trans hf
        refine rs_icT i_X2_readEither_26 (ct_ne c3) (tg := 56) (by decide) ?_
        refine rs_iconst i_X2_readEither_56 (v := 1) (by decide) ?_
        have hf := Option.some.inj hf
        subst hf
        exact rs_iret i_X2_readEither_57 m_X2_readEither (by decide)
      · replace hf := (if_neg c3).symm.trans hf
        refine rs_icF i_X2_readEither_26 (cf_ne c3) ?_
        refine rs_aload_n i_X2_readEither_29 rfl ?_
        obtain ⟨o4, e4, hf⟩ := bind_some hf
        refine rs_inV i_X2_readEither_30 m_X2_advance rfl (As := []) (rest := []) rfl rfl (Nat.le_of_ble_eq_true rfl) c2 (c_X2_advance (by omega) e4) (st' := []) rfl ?_
        refine rs_aload_n i_X2_readEither_33 rfl ?_
        refine rs_aload_n i_X2_readEither_34 rfl ?_
        refine rs_iload_n i_X2_readEither_35 rfl ?_
        obtain ⟨c6, hf⟩ := ite_some hf
        obtain ⟨o5, e5, hf⟩ := bind_some hf
        refine rs_inV i_X2_readEither_36 m_X2_readBoth rfl (As := [.ref v1, .int v2]) (rest := []) rfl rfl (Nat.le_of_ble_eq_true rfl) c6 (HS _ _ _ _ _ _ e5) (st' := [.int o5.1]) rfl ?_
        by_cases c7 : o5.1 ≠ 0
        · replace hf := (if_pos c7).symm.trans hf
          refine rs_ifT i_X2_readEither_39 (ct_ne c7) (tg := 44) (by decide) ?_
          refine rs_aload_n i_X2_readEither_44 rfl ?_
          refine rs_bipush i_X2_readEither_45 (v := (-11)) (by decide) ?_
          obtain ⟨c9, hf⟩ := ite_some hf
          obtain ⟨o8, e8, hf⟩ := bind_some hf
          refine rs_inV i_X2_readEither_47 m_X6_add rfl (As := [.int (-11)]) (rest := []) rfl rfl (Nat.le_of_ble_eq_true rfl) c9 (c_X6_add (by omega) e8) (st' := []) rfl ?_
          refine rs_iinc i_X2_readEither_50 rfl (v := v3 + 1) rfl (Nat.le_of_ble_eq_true rfl) (lv' := [some (.ref v0), some (.ref v1), some (.int v2), some (.int (v3 + 1))]) rfl ?_
          refine rs_goto i_X2_readEither_53 (tg := 13) (by decide) ?_
          exact ih _ _ _ _ _ _ hf
        · replace hf := (if_neg c7).symm.trans hf
          refine rs_ifF i_X2_readEither_39 (cf_ne c7) ?_
          refine rs_iconst i_X2_readEither_42 (v := 0) (by decide) ?_
          have hf := Option.some.inj hf
          subst hf
          exact rs_iret i_X2_readEither_43 m_X2_readEither (by decide)
def f_X2_readEither_0 (n : Nat) (S : Nat → Nat → Nat → Int32 → Hp → Option (Int32 × Hp)) (v0 : Nat) (v1 : Nat) (v2 : Int32) (h : Hp) : Option (Int32 × Hp) :=
  if okO h v0 2 then
  (S 14 v0 v1 v2 h).bind fun o1 =>
  if o1.1 ≠ 0 then
    f_X2_readEither_13 n S n v0 v1 v2 0 o1.2
  else
    some (0, o1.2)
  else none
set_option maxRecDepth 100000 in
set_option maxHeartbeats 4000000 in
theorem r_X2_readEither_0 {X : Nat → Int32} {d : Nat} (hd : 7 ≤ (d + 1)) {n : Nat} {S : Nat → Nat → Nat → Int32 → Hp → Option (Int32 × Hp)} (HS : ∀ (tg v0 v1 : Nat) (v2 : Int32) (h : Hp) (o : Int32 × Hp), S tg v0 v1 v2 h = some o → Calls X d tg [.ref v0, .ref v1, .int v2] h (some (.int o.1), o.2)) {v0 : Nat} {v1 : Nat} {v2 : Int32} {h : Hp} {o : (Int32 × Hp)} (hf : f_X2_readEither_0 n S v0 v1 v2 h = some o) : Run X (d + 1) 13 0 [some (.ref v0), some (.ref v1), some (.int v2), none] [] h (some (.int o.1), o.2) := by
  unfold f_X2_readEither_0 at hf
  refine rs_aload_n i_X2_readEither_0 rfl ?_
  refine rs_aload_n i_X2_readEither_1 rfl ?_
  refine rs_iload_n i_X2_readEither_2 rfl ?_
  obtain ⟨c2, hf⟩ := ite_some hf
  obtain ⟨o1, e1, hf⟩ := bind_some hf
  refine rs_inV i_X2_readEither_3 m_X2_readBoth rfl (As := [.ref v1, .int v2]) (rest := []) rfl rfl (Nat.le_of_ble_eq_true rfl) c2 (HS _ _ _ _ _ _ e1) (st' := [.int o1.1]) rfl ?_
  by_cases c3 : o1.1 ≠ 0
  · replace hf := (if_pos c3).symm.trans hf
    refine rs_ifT i_X2_readEither_6 (ct_ne c3) (tg := 11) (by decide) ?_
    refine rs_iconst i_X2_readEither_11 (v := 0) (by decide) ?_
    refine rs_istore_n i_X2_readEither_12 (Nat.le_of_ble_eq_true rfl) (lv' := [some (.ref v0), some (.ref v1), some (.int v2), some (.int 0)]) rfl ?_
    exact r_X2_readEither_13 hd HS _ _ _ _ _ _ _ hf
  · replace hf := (if_neg c3).symm.trans hf
    refine rs_ifF i_X2_readEither_6 (cf_ne c3) ?_
    refine rs_iconst i_X2_readEither_9 (v := 0) (by decide) ?_
    have hf := Option.some.inj hf
    subst hf
    exact rs_iret i_X2_readEither_10 m_X2_readEither (by decide)
def f_X2_readEither (n : Nat) (S : Nat → Nat → Nat → Int32 → Hp → Option (Int32 × Hp)) (v0 : Nat) (v1 : Nat) (v2 : Int32) (h : Hp) : Option (Int32 × Hp) := f_X2_readEither_0 n S v0 v1 v2 h
theorem c_X2_readEither {X : Nat → Int32} {d : Nat} (hd : 7 ≤ d) {n : Nat} {S : Nat → Nat → Nat → Int32 → Hp → Option (Int32 × Hp)} (HS : ∀ (tg v0 v1 : Nat) (v2 : Int32) (h : Hp) (o : Int32 × Hp), S tg v0 v1 v2 h = some o → ∀ d', d = d' + 1 → Calls X d' tg [.ref v0, .ref v1, .int v2] h (some (.int o.1), o.2)) {v0 : Nat} {v1 : Nat} {v2 : Int32} {h : Hp} {o : (Int32 × Hp)} (hf : f_X2_readEither n S v0 v1 v2 h = some o) : Calls X d 13 [.ref v0, .ref v1, .int v2] h (some (.int o.1), o.2) := by
  obtain ⟨d, rfl⟩ : ∃ z, d = z + 1 := ⟨d - 1, by omega⟩
  exact ⟨_, rfl, r_X2_readEither_0 hd (fun tg v0 v1 v2 h o hf => HS tg v0 v1 v2 h o hf d rfl) hf⟩
def f_scc (n : Nat) : Nat → Nat → Nat → Nat → Int32 → Hp → Option (Int32 × Hp)
  | 0, _, _, _, _, _ => none
  | m + 1, tg, v0, v1, v2, h =>
    if tg = 13 then f_X2_readEither n (f_scc n m) v0 v1 v2 h else
    if tg = 14 then f_X2_readBoth n (f_scc n m) v0 v1 v2 h else
    if tg = 15 then f_X2_readNot n (f_scc n m) v0 v1 v2 h else
    if tg = 16 then f_X2_readCompared n (f_scc n m) v0 v1 v2 h else
    if tg = 17 then f_X2_readSum n (f_scc n m) v0 v1 v2 h else
    if tg = 18 then f_X2_readProduct n (f_scc n m) v0 v1 v2 h else
    if tg = 19 then f_X2_readOne n (f_scc n m) v0 v1 v2 h else
    none
theorem c_scc {X : Nat → Int32} {n : Nat} : ∀ (m d : Nat), 7 + m ≤ d → ∀ (tg v0 v1 : Nat) (v2 : Int32) (h : Hp) (o : Int32 × Hp), f_scc n m tg v0 v1 v2 h = some o → Calls X d tg [.ref v0, .ref v1, .int v2] h (some (.int o.1), o.2) := by
  intro m
  induction m with
  | zero => intro d hd tg v0 v1 v2 h o hf; cases hf
  | succ m ih =>
    intro d hd tg v0 v1 v2 h o hf
    have HS : ∀ (tg v0 v1 : Nat) (v2 : Int32) (h : Hp) (o : Int32 × Hp), f_scc n m tg v0 v1 v2 h = some o → ∀ d', d = d' + 1 → Calls X d' tg [.ref v0, .ref v1, .int v2] h (some (.int o.1), o.2) := fun tg v0 v1 v2 h o hf d' hd' => ih d' (by omega) tg v0 v1 v2 h o hf
    rw [f_scc] at hf
    by_cases c13 : tg = 13
    · replace hf := (if_pos c13).symm.trans hf
      subst c13
      exact c_X2_readEither (by omega) HS hf
    replace hf := (if_neg c13).symm.trans hf
    by_cases c14 : tg = 14
    · replace hf := (if_pos c14).symm.trans hf
      subst c14
      exact c_X2_readBoth (by omega) HS hf
    replace hf := (if_neg c14).symm.trans hf
    by_cases c15 : tg = 15
    · replace hf := (if_pos c15).symm.trans hf
      subst c15
      exact c_X2_readNot (by omega) HS hf
    replace hf := (if_neg c15).symm.trans hf
    by_cases c16 : tg = 16
    · replace hf := (if_pos c16).symm.trans hf
      subst c16
      exact c_X2_readCompared (by omega) HS hf
    replace hf := (if_neg c16).symm.trans hf
    by_cases c17 : tg = 17
    · replace hf := (if_pos c17).symm.trans hf
      subst c17
      exact c_X2_readSum (by omega) HS hf
    replace hf := (if_neg c17).symm.trans hf
    by_cases c18 : tg = 18
    · replace hf := (if_pos c18).symm.trans hf
      subst c18
      exact c_X2_readProduct (by omega) HS hf
    replace hf := (if_neg c18).symm.trans hf
    by_cases c19 : tg = 19
    · replace hf := (if_pos c19).symm.trans hf
      subst c19
      exact c_X2_readOne (by omega) HS hf
    replace hf := (if_neg c19).symm.trans hf
    cases hf
theorem c_scc_X2_readEither {X : Nat → Int32} {d : Nat} (hd : 107 ≤ d) {n v0 v1 : Nat} {v2 : Int32} {h : Hp} {o : Int32 × Hp} (hf : f_scc n 100 13 v0 v1 v2 h = some o) : Calls X d 13 [.ref v0, .ref v1, .int v2] h (some (.int o.1), o.2) := c_scc 100 d hd _ _ _ _ _ _ hf
theorem c_scc_X2_readBoth {X : Nat → Int32} {d : Nat} (hd : 107 ≤ d) {n v0 v1 : Nat} {v2 : Int32} {h : Hp} {o : Int32 × Hp} (hf : f_scc n 100 14 v0 v1 v2 h = some o) : Calls X d 14 [.ref v0, .ref v1, .int v2] h (some (.int o.1), o.2) := c_scc 100 d hd _ _ _ _ _ _ hf
theorem c_scc_X2_readNot {X : Nat → Int32} {d : Nat} (hd : 107 ≤ d) {n v0 v1 : Nat} {v2 : Int32} {h : Hp} {o : Int32 × Hp} (hf : f_scc n 100 15 v0 v1 v2 h = some o) : Calls X d 15 [.ref v0, .ref v1, .int v2] h (some (.int o.1), o.2) := c_scc 100 d hd _ _ _ _ _ _ hf
theorem c_scc_X2_readCompared {X : Nat → Int32} {d : Nat} (hd : 107 ≤ d) {n v0 v1 : Nat} {v2 : Int32} {h : Hp} {o : Int32 × Hp} (hf : f_scc n 100 16 v0 v1 v2 h = some o) : Calls X d 16 [.ref v0, .ref v1, .int v2] h (some (.int o.1), o.2) := c_scc 100 d hd _ _ _ _ _ _ hf
theorem c_scc_X2_readSum {X : Nat → Int32} {d : Nat} (hd : 107 ≤ d) {n v0 v1 : Nat} {v2 : Int32} {h : Hp} {o : Int32 × Hp} (hf : f_scc n 100 17 v0 v1 v2 h = some o) : Calls X d 17 [.ref v0, .ref v1, .int v2] h (some (.int o.1), o.2) := c_scc 100 d hd _ _ _ _ _ _ hf
theorem c_scc_X2_readProduct {X : Nat → Int32} {d : Nat} (hd : 107 ≤ d) {n v0 v1 : Nat} {v2 : Int32} {h : Hp} {o : Int32 × Hp} (hf : f_scc n 100 18 v0 v1 v2 h = some o) : Calls X d 18 [.ref v0, .ref v1, .int v2] h (some (.int o.1), o.2) := c_scc 100 d hd _ _ _ _ _ _ hf
theorem c_scc_X2_readOne {X : Nat → Int32} {d : Nat} (hd : 107 ≤ d) {n v0 v1 : Nat} {v2 : Int32} {h : Hp} {o : Int32 × Hp} (hf : f_scc n 100 19 v0 v1 v2 h = some o) : Calls X d 19 [.ref v0, .ref v1, .int v2] h (some (.int o.1), o.2) := c_scc 100 d hd _ _ _ _ _ _ hf
theorem i_X6_clear_0 : fetch 59 0 = some (.aload_n 0, 1, 0, 0, 0, 0) := by decide +kernel
theorem i_X6_clear_1 : fetch 59 1 = some (.iconst 0, 2, 0, 0, 0, 0) := by decide +kernel
theorem i_X6_clear_2 : fetch 59 2 = some (.putfield 21, 5, 6, 3, 0, 173) := by decide +kernel
theorem i_X6_clear_5 : fetch 59 5 = some (.return_, 6, 0, 0, 0, 0) := by decide +kernel
def f_X6_clear_0 (v0 : Nat) (h : Hp) : Option Hp :=
  if okO h v0 6 then
  some (hsi h v0 3 0)
  else none
set_option maxRecDepth 100000 in
set_option maxHeartbeats 4000000 in
theorem r_X6_clear_0 {X : Nat → Int32} {d : Nat} (hd : 0 ≤ d) {v0 : Nat} {h : Hp} {o : Hp} (hf : f_X6_clear_0 v0 h = some o) : Run X d 59 0 [some (.ref v0)] [] h (none, o) := by
  unfold f_X6_clear_0 at hf
  refine rs_aload_n i_X6_clear_0 rfl ?_
  refine rs_iconst i_X6_clear_1 (v := 0) (by decide) ?_
  obtain ⟨c1, hf⟩ := ite_some hf
  refine rs_putI i_X6_clear_2 (by decide) c1 ?_
  have hf := Option.some.inj hf
  subst hf
  exact rs_vret i_X6_clear_5 m_X6_clear rfl
def f_X6_clear (v0 : Nat) (h : Hp) : Option Hp := f_X6_clear_0 v0 h
theorem c_X6_clear {X : Nat → Int32} {d : Nat} (hd : 0 ≤ d) {v0 : Nat} {h : Hp} {o : Hp} (hf : f_X6_clear v0 h = some o) : Calls X d 59 [.ref v0] h (none, o) := by
  exact ⟨_, rfl, r_X6_clear_0 hd hf⟩
theorem i_X6_endSection_0 : fetch 62 0 = some (.iload_n 1, 1, 0, 0, 0, 0) := by decide +kernel
theorem i_X6_endSection_1 : fetch 62 1 = some (.iconst 0, 2, 0, 0, 0, 0) := by decide +kernel
theorem i_X6_endSection_2 : fetch 62 2 = some (.iconst 2, 3, 0, 0, 0, 0) := by decide +kernel
theorem i_X6_endSection_3 : fetch 62 3 = some (.invokestatic 25, 6, 110, 1, 0, 478) := by decide +kernel
theorem i_X6_endSection_6 : fetch 62 6 = some (.ifCond .eq 13, 9, 0, 0, 0, 0) := by decide +kernel
theorem i_X6_endSection_9 : fetch 62 9 = some (.aload_n 0, 10, 0, 0, 0, 0) := by decide +kernel
theorem i_X6_endSection_10 : fetch 62 10 = some (.getfield 15, 13, 6, 1, 0, 171) := by decide +kernel
theorem i_X6_endSection_13 : fetch 62 13 = some (.iload_n 1, 14, 0, 0, 0, 0) := by decide +kernel
theorem i_X6_endSection_14 : fetch 62 14 = some (.aload_n 0, 15, 0, 0, 0, 0) := by decide +kernel
theorem i_X6_endSection_15 : fetch 62 15 = some (.getfield 21, 18, 6, 3, 0, 173) := by decide +kernel
theorem i_X6_endSection_18 : fetch 62 18 = some (.iastore, 19, 0, 0, 0, 0) := by decide +kernel
theorem i_X6_endSection_19 : fetch 62 19 = some (.return_, 20, 0, 0, 0, 0) := by decide +kernel
def f_X6_endSection_0 (v0 : Nat) (v1 : Int32) (h : Hp) : Option Hp :=
  (f_X7_within v1 0 2 h).bind fun o1 =>
  if o1.1 = 0 then
    some o1.2
  else
    if okO o1.2 v0 6 then
    (gR o1.2 v0 1).bind fun a4 =>
    if okI o1.2 a4 v1 then
    some (hsi o1.2 a4 (ix v1) (gI o1.2 v0 3))
    else none
    else none
set_option maxRecDepth 100000 in
set_option maxHeartbeats 4000000 in
theorem r_X6_endSection_0 {X : Nat → Int32} {d : Nat} (hd : 1 ≤ (d + 1)) {v0 : Nat} {v1 : Int32} {h : Hp} {o : Hp} (hf : f_X6_endSection_0 v0 v1 h = some o) : Run X (d + 1) 62 0 [some (.ref v0), some (.int v1)] [] h (none, o) := by
  unfold f_X6_endSection_0 at hf
  refine rs_iload_n i_X6_endSection_0 rfl ?_
  refine rs_iconst i_X6_endSection_1 (v := 0) (by decide) ?_
  refine rs_iconst i_X6_endSection_2 (v := 2) (by decide) ?_
  obtain ⟨o1, e1, hf⟩ := bind_some hf
  refine rs_inS i_X6_endSection_3 (by decide) m_X7_within rfl (As := [.int v1, .int 0, .int 2]) (rest := []) rfl rfl (Nat.le_of_ble_eq_true rfl) (c_X7_within (by omega) e1) (st' := [.int o1.1]) rfl ?_
  by_cases c2 : o1.1 = 0
  · replace hf := (if_pos c2).symm.trans hf
    refine rs_ifT i_X6_endSection_6 (ct_eq c2) (tg := 19) (by decide) ?_
    have hf := Option.some.inj hf
    subst hf
    exact rs_vret i_X6_endSection_19 m_X6_endSection rfl
  · replace hf := (if_neg c2).symm.trans hf
    refine rs_ifF i_X6_endSection_6 (cf_eq c2) ?_
    refine rs_aload_n i_X6_endSection_9 rfl ?_
    obtain ⟨c3, hf⟩ := ite_some hf
    obtain ⟨a4, e4, hf⟩ := bind_some hf
    refine rs_getR i_X6_endSection_10 (by decide) (by decide) c3 e4 ?_
    refine rs_iload_n i_X6_endSection_13 rfl ?_
    refine rs_aload_n i_X6_endSection_14 rfl ?_
    refine rs_getI i_X6_endSection_15 (by decide) (by decide) c3 ?_
    obtain ⟨c5, hf⟩ := ite_some hf
    refine rs_iast i_X6_endSection_18 c5 ?_
    have hf := Option.some.inj hf
    subst hf
    exact rs_vret i_X6_endSection_19 m_X6_endSection rfl
def f_X6_endSection (v0 : Nat) (v1 : Int32) (h : Hp) : Option Hp := f_X6_endSection_0 v0 v1 h
theorem c_X6_endSection {X : Nat → Int32} {d : Nat} (hd : 1 ≤ d) {v0 : Nat} {v1 : Int32} {h : Hp} {o : Hp} (hf : f_X6_endSection v0 v1 h = some o) : Calls X d 62 [.ref v0, .int v1] h (none, o) := by
  obtain ⟨d, rfl⟩ : ∃ z, d = z + 1 := ⟨d - 1, by omega⟩
  exact ⟨_, rfl, r_X6_endSection_0 hd hf⟩
theorem i_X2_read_0 : fetch 12 0 = some (.aload_n 1, 1, 0, 0, 0, 0) := by decide +kernel
theorem i_X2_read_1 : fetch 12 1 = some (.invokevirtual 31, 4, 59, 0, 0, 343) := by decide +kernel
theorem i_X2_read_4 : fetch 12 4 = some (.aload_n 0, 5, 0, 0, 0, 0) := by decide +kernel
theorem i_X2_read_5 : fetch 12 5 = some (.iconst 0, 6, 0, 0, 0, 0) := by decide +kernel
theorem i_X2_read_6 : fetch 12 6 = some (.putfield 19, 9, 2, 2, 0, 125) := by decide +kernel
theorem i_X2_read_9 : fetch 12 9 = some (.aload_n 0, 10, 0, 0, 0, 0) := by decide +kernel
theorem i_X2_read_10 : fetch 12 10 = some (.invokevirtual 36, 13, 20, 0, 0, 347) := by decide +kernel
theorem i_X2_read_13 : fetch 12 13 = some (.iconst 0, 14, 0, 0, 0, 0) := by decide +kernel
theorem i_X2_read_14 : fetch 12 14 = some (.istore_n 2, 15, 0, 0, 0, 0) := by decide +kernel
theorem i_X2_read_15 : fetch 12 15 = some (.iload_n 2, 16, 0, 0, 0, 0) := by decide +kernel
theorem i_X2_read_16 : fetch 12 16 = some (.iconst 3, 17, 0, 0, 0, 0) := by decide +kernel
theorem i_X2_read_17 : fetch 12 17 = some (.if_icmp .ge 61, 20, 0, 0, 0, 0) := by decide +kernel
theorem i_X2_read_20 : fetch 12 20 = some (.aload_n 0, 21, 0, 0, 0, 0) := by decide +kernel
theorem i_X2_read_21 : fetch 12 21 = some (.getfield 22, 24, 2, 3, 0, 126) := by decide +kernel
theorem i_X2_read_24 : fetch 12 24 = some (.bipush 10, 26, 0, 0, 0, 0) := by decide +kernel
theorem i_X2_read_26 : fetch 12 26 = some (.iload_n 2, 27, 0, 0, 0, 0) := by decide +kernel
theorem i_X2_read_27 : fetch 12 27 = some (.iadd, 28, 0, 0, 0, 0) := by decide +kernel
theorem i_X2_read_28 : fetch 12 28 = some (.if_icmp .eq 8, 31, 0, 0, 0, 0) := by decide +kernel
theorem i_X2_read_31 : fetch 12 31 = some (.aload_n 0, 32, 0, 0, 0, 0) := by decide +kernel
theorem i_X2_read_32 : fetch 12 32 = some (.getfield 25, 35, 2, 4, 0, 127) := by decide +kernel
theorem i_X2_read_35 : fetch 12 35 = some (.ireturn, 36, 0, 0, 0, 0) := by decide +kernel
theorem i_X2_read_36 : fetch 12 36 = some (.aload_n 0, 37, 0, 0, 0, 0) := by decide +kernel
theorem i_X2_read_37 : fetch 12 37 = some (.invokevirtual 36, 40, 20, 0, 0, 347) := by decide +kernel
theorem i_X2_read_40 : fetch 12 40 = some (.aload_n 0, 41, 0, 0, 0, 0) := by decide +kernel
theorem i_X2_read_41 : fetch 12 41 = some (.aload_n 1, 42, 0, 0, 0, 0) := by decide +kernel
theorem i_X2_read_42 : fetch 12 42 = some (.iconst 0, 43, 0, 0, 0, 0) := by decide +kernel
theorem i_X2_read_43 : fetch 12 43 = some (.invokevirtual 39, 46, 13, 0, 0, 439) := by decide +kernel
theorem i_X2_read_46 : fetch 12 46 = some (.ifCond .eq 12, 49, 0, 0, 0, 0) := by decide +kernel
theorem i_X2_read_49 : fetch 12 49 = some (.aload_n 0, 50, 0, 0, 0, 0) := by decide +kernel
theorem i_X2_read_50 : fetch 12 50 = some (.getfield 22, 53, 2, 3, 0, 126) := by decide +kernel
theorem i_X2_read_53 : fetch 12 53 = some (.bipush 59, 55, 0, 0, 0, 0) := by decide +kernel
theorem i_X2_read_55 : fetch 12 55 = some (.if_icmp .eq 8, 58, 0, 0, 0, 0) := by decide +kernel
theorem i_X2_read_58 : fetch 12 58 = some (.aload_n 0, 59, 0, 0, 0, 0) := by decide +kernel
theorem i_X2_read_59 : fetch 12 59 = some (.getfield 25, 62, 2, 4, 0, 127) := by decide +kernel
theorem i_X2_read_62 : fetch 12 62 = some (.ireturn, 63, 0, 0, 0, 0) := by decide +kernel
theorem i_X2_read_63 : fetch 12 63 = some (.aload_n 0, 64, 0, 0, 0, 0) := by decide +kernel
theorem i_X2_read_64 : fetch 12 64 = some (.invokevirtual 36, 67, 20, 0, 0, 347) := by decide +kernel
theorem i_X2_read_67 : fetch 12 67 = some (.aload_n 1, 68, 0, 0, 0, 0) := by decide +kernel
theorem i_X2_read_68 : fetch 12 68 = some (.iload_n 2, 69, 0, 0, 0, 0) := by decide +kernel
theorem i_X2_read_69 : fetch 12 69 = some (.invokevirtual 43, 72, 62, 0, 0, 474) := by decide +kernel
theorem i_X2_read_72 : fetch 12 72 = some (.iinc 2 1, 75, 0, 0, 0, 0) := by decide +kernel
theorem i_X2_read_75 : fetch 12 75 = some (.goto (-60), 78, 0, 0, 0, 0) := by decide +kernel
theorem i_X2_read_78 : fetch 12 78 = some (.aload_n 0, 79, 0, 0, 0, 0) := by decide +kernel
theorem i_X2_read_79 : fetch 12 79 = some (.getfield 22, 82, 2, 3, 0, 126) := by decide +kernel
theorem i_X2_read_82 : fetch 12 82 = some (.ifCond .ne 7, 85, 0, 0, 0, 0) := by decide +kernel
theorem i_X2_read_85 : fetch 12 85 = some (.iconst (-1), 86, 0, 0, 0, 0) := by decide +kernel
theorem i_X2_read_86 : fetch 12 86 = some (.goto 7, 89, 0, 0, 0, 0) := by decide +kernel
theorem i_X2_read_89 : fetch 12 89 = some (.aload_n 0, 90, 0, 0, 0, 0) := by decide +kernel
theorem i_X2_read_90 : fetch 12 90 = some (.getfield 25, 93, 2, 4, 0, 127) := by decide +kernel
theorem i_X2_read_93 : fetch 12 93 = some (.ireturn, 94, 0, 0, 0, 0) := by decide +kernel
def f_X2_read_58 (n : Nat) (v0 : Nat) (h : Hp) : Option (Int32 × Hp) :=
  if okO h v0 2 then
  some ((gI h v0 4), h)
  else none
set_option maxRecDepth 100000 in
set_option maxHeartbeats 4000000 in
theorem r_X2_read_58 {X : Nat → Int32} {d : Nat} (hd : 108 ≤ (d + 1)) {n : Nat} {v0 : Nat} {d1 : Nat} {d2 : Int32} {h : Hp} {o : (Int32 × Hp)} (hf : f_X2_read_58 n v0 h = some o) : Run X (d + 1) 12 58 [some (.ref v0), some (.ref d1), some (.int d2)] [] h (some (.int o.1), o.2) := by
  unfold f_X2_read_58 at hf
  refine rs_aload_n i_X2_read_58 rfl ?_
  obtain ⟨c1, hf⟩ := ite_some hf
  refine rs_getI i_X2_read_59 (by decide) (by decide) c1 ?_
  have hf := Option.some.inj hf
  subst hf
  exact rs_iret i_X2_read_62 m_X2_read rfl
def f_X2_read_15 (n : Nat) : Nat → Nat → Nat → Int32 → Hp → Option (Int32 × Hp)
  | 0, _, _, _, _ => none
  | m + 1, v0, v1, v2, h =>
    if 3 ≤ v2 then
      if okO h v0 2 then
      if (gI h v0 3) ≠ 0 then
        some ((gI h v0 4), h)
      else
        some ((-1), h)
      else none
    else
      if okO h v0 2 then
      if (gI h v0 3) = (10 + v2) then
        (f_X2_advance n v0 h).bind fun o6 =>
        if okO o6 v0 2 then
        (f_scc n 100 13 v0 v1 0 o6).bind fun o7 =>
        if o7.1 = 0 then
          f_X2_read_58 n v0 o7.2
        else
          if okO o7.2 v0 2 then
          if (gI o7.2 v0 3) = 59 then
            (f_X2_advance n v0 o7.2).bind fun o12 =>
            if okO o12 v1 6 then
            (f_X6_endSection v1 v2 o12).bind fun o13 =>
            (f_X2_read_15 n m) v0 v1 (v2 + 1) o13
            else none
          else
            f_X2_read_58 n v0 o7.2
          else none
        else none
      else
        some ((gI h v0 4), h)
      else none
set_option maxRecDepth 100000 in
set_option maxHeartbeats 4000000 in
theorem r_X2_read_15 {X : Nat → Int32} {d : Nat} (hd : 108 ≤ (d + 1)) {n : Nat} : ∀ (m : Nat) (v0 : Nat) (v1 : Nat) (v2 : Int32) (h : Hp) (o : (Int32 × Hp)), f_X2_read_15 n m v0 v1 v2 h = some o → Run X (d + 1) 12 15 [some (.ref v0), some (.ref v1), some (.int v2)] [] h (some (.int o.1), o.2) := by
  intro m
  induction m with
  | zero => intro v0 v1 v2 h o hf; cases hf
  | succ m ih =>
    intro v0 v1 v2 h o hf
    rw [f_X2_read_15] at hf
    refine rs_iload_n i_X2_read_15 rfl ?_
    refine rs_iconst i_X2_read_16 (v := 3) (by decide) ?_
    by_cases c1 : 3 ≤ v2
    · replace hf := (if_pos c1).symm.trans hf
      refine rs_icT i_X2_read_17 (ct_ge c1) (tg := 78) (by decide) ?_
      refine rs_aload_n i_X2_read_78 rfl ?_
      obtain ⟨c2, hf⟩ := ite_some hf
      refine rs_getI i_X2_read_79 (by decide) (by decide) c2 ?_
      by_cases c3 : (gI h v0 3) ≠ 0
      · replace hf := (if_pos c3).symm.trans hf
        refine rs_ifT i_X2_read_82 (ct_ne c3) (tg := 89) (by decide) ?_
        refine rs_aload_n i_X2_read_89 rfl ?_
        refine rs_getI i_X2_read_90 (by decide) (by decide) c2 ?_
        have hf := Option.some.inj hf
        subst hf
        exact rs_iret i_X2_read_93 m_X2_read rfl
      · replace hf := (if_neg c3).symm.trans hf
        refine rs_ifF i_X2_read_82 (cf_ne c3) ?_
        refine rs_iconst i_X2_read_85 (v := (-1)) (by decide) ?_
        refine rs_goto i_X2_read_86 (tg := 93) (by decide) ?_
        have hf := Option.some.inj hf
        subst hf
        exact rs_iret i_X2_read_93 m_X2_read rfl
    · replace hf := (if_neg c1).symm.trans hf
      refine rs_icF i_X2_read_17 (cf_ge c1) ?_
      refine rs_aload_n i_X2_read_20 rfl ?_
      obtain ⟨c4, hf⟩ := ite_some hf
      refine rs_getI i_X2_read_21 (by decide) (by decide) c4 ?_
      refine rs_bipush i_X2_read_24 (v := 10) (by decide) ?_
      refine rs_iload_n i_X2_read_26 rfl ?_
      refine rs_iadd i_X2_read_27 ?_
      by_cases c5 : (gI h v0 3) = (10 + v2)
      · replace hf := (if_pos c5).symm.trans hf
        refine rs_icT i_X2_read_28 (ct_eq c5) (tg := 36) (by decide) ?_
        refine rs_aload_n i_X2_read_36 rfl ?_
        obtain ⟨o6, e6, hf⟩ := bind_some hf
        refine rs_inV i_X2_read_37 m_X2_advance rfl (As := []) (rest := []) rfl rfl (Nat.le_of_ble_eq_true rfl) c4 (c_X2_advance (by omega) e6) (st' := []) rfl ?_
        refine rs_aload_n i_X2_read_40 rfl ?_
        refine rs_aload_n i_X2_read_41 rfl ?_
        refine rs_iconst i_X2_read_42 (v := 0) (by decide) ?_
        obtain ⟨c8, hf⟩ := ite_some hf
        obtain ⟨o7, e7, hf⟩ := bind_some hf
        refine rs_inV i_X2_read_43 m_X2_readEither rfl (As := [.ref v1, .int 0]) (rest := []) rfl rfl (Nat.le_of_ble_eq_true rfl) c8 (c_scc_X2_readEither (by omega) e7) (st' := [.int o7.1]) rfl ?_
        by_cases c9 : o7.1 = 0
        · replace hf := (if_pos c9).symm.trans hf
          refine rs_ifT i_X2_read_46 (ct_eq c9) (tg := 58) (by decide) ?_
          exact r_X2_read_58 hd hf
        · replace hf := (if_neg c9).symm.trans hf
          refine rs_ifF i_X2_read_46 (cf_eq c9) ?_
          refine rs_aload_n i_X2_read_49 rfl ?_
          obtain ⟨c10, hf⟩ := ite_some hf
          refine rs_getI i_X2_read_50 (by decide) (by decide) c10 ?_
          refine rs_bipush i_X2_read_53 (v := 59) (by decide) ?_
          by_cases c11 : (gI o7.2 v0 3) = 59
          · replace hf := (if_pos c11).symm.trans hf
            refine rs_icT i_X2_read_55 (ct_eq c11) (tg := 63) (by decide) ?_
            refine rs_aload_n i_X2_read_63 rfl ?_
            obtain ⟨o12, e12, hf⟩ := bind_some hf
            refine rs_inV i_X2_read_64 m_X2_advance rfl (As := []) (rest := []) rfl rfl (Nat.le_of_ble_eq_true rfl) c10 (c_X2_advance (by omega) e12) (st' := []) rfl ?_
            refine rs_aload_n i_X2_read_67 rfl ?_
            refine rs_iload_n i_X2_read_68 rfl ?_
            obtain ⟨c14, hf⟩ := ite_some hf
            obtain ⟨o13, e13, hf⟩ := bind_some hf
            refine rs_inV i_X2_read_69 m_X6_endSection rfl (As := [.int v2]) (rest := []) rfl rfl (Nat.le_of_ble_eq_true rfl) c14 (c_X6_endSection (by omega) e13) (st' := []) rfl ?_
            refine rs_iinc i_X2_read_72 rfl (v := v2 + 1) rfl (Nat.le_of_ble_eq_true rfl) (lv' := [some (.ref v0), some (.ref v1), some (.int (v2 + 1))]) rfl ?_
            refine rs_goto i_X2_read_75 (tg := 15) (by decide) ?_
            exact ih _ _ _ _ _ hf
          · replace hf := (if_neg c11).symm.trans hf
            refine rs_icF i_X2_read_55 (cf_eq c11) ?_
            exact r_X2_read_58 hd hf
      · replace hf := (if_neg c5).symm.trans hf
        refine rs_icF i_X2_read_28 (cf_eq c5) ?_
        refine rs_aload_n i_X2_read_31 rfl ?_
        refine rs_getI i_X2_read_32 (by decide) (by decide) c4 ?_
        have hf := Option.some.inj hf
        subst hf
        exact rs_iret i_X2_read_35 m_X2_read rfl
def f_X2_read_9 (n : Nat) (v0 : Nat) (v1 : Nat) (h : Hp) : Option (Int32 × Hp) :=
  if okO h v0 2 then
  (f_X2_advance n v0 h).bind fun o1 =>
  f_X2_read_15 n n v0 v1 0 o1
  else none
set_option maxRecDepth 100000 in
set_option maxHeartbeats 4000000 in
theorem r_X2_read_9 {X : Nat → Int32} {d : Nat} (hd : 108 ≤ (d + 1)) {n : Nat} {v0 : Nat} {v1 : Nat} {h : Hp} {o : (Int32 × Hp)} (hf : f_X2_read_9 n v0 v1 h = some o) : Run X (d + 1) 12 9 [some (.ref v0), some (.ref v1), none] [] h (some (.int o.1), o.2) := by
  unfold f_X2_read_9 at hf
  refine rs_aload_n i_X2_read_9 rfl ?_
  obtain ⟨c2, hf⟩ := ite_some hf
  obtain ⟨o1, e1, hf⟩ := bind_some hf
  refine rs_inV i_X2_read_10 m_X2_advance rfl (As := []) (rest := []) rfl rfl (Nat.le_of_ble_eq_true rfl) c2 (c_X2_advance (by omega) e1) (st' := []) rfl ?_
  refine rs_iconst i_X2_read_13 (v := 0) (by decide) ?_
  refine rs_istore_n i_X2_read_14 (Nat.le_of_ble_eq_true rfl) (lv' := [some (.ref v0), some (.ref v1), some (.int 0)]) rfl ?_
  exact r_X2_read_15 hd _ _ _ _ _ _ hf
def f_X2_read_0 (n : Nat) (v0 : Nat) (v1 : Nat) (h : Hp) : Option (Int32 × Hp) :=
  if okO h v1 6 then
  (f_X6_clear v1 h).bind fun o1 =>
  if okO o1 v0 2 then
  f_X2_read_9 n v0 v1 (hsi o1 v0 2 0)
  else none
  else none
set_option maxRecDepth 100000 in
set_option maxHeartbeats 4000000 in
theorem r_X2_read_0 {X : Nat → Int32} {d : Nat} (hd : 108 ≤ (d + 1)) {n : Nat} {v0 : Nat} {v1 : Nat} {h : Hp} {o : (Int32 × Hp)} (hf : f_X2_read_0 n v0 v1 h = some o) : Run X (d + 1) 12 0 [some (.ref v0), some (.ref v1), none] [] h (some (.int o.1), o.2) := by
  unfold f_X2_read_0 at hf
  refine rs_aload_n i_X2_read_0 rfl ?_
  obtain ⟨c2, hf⟩ := ite_some hf
  obtain ⟨o1, e1, hf⟩ := bind_some hf
  refine rs_inV i_X2_read_1 m_X6_clear rfl (As := []) (rest := []) rfl rfl (Nat.le_of_ble_eq_true rfl) c2 (c_X6_clear (by omega) e1) (st' := []) rfl ?_
  refine rs_aload_n i_X2_read_4 rfl ?_
  refine rs_iconst i_X2_read_5 (v := 0) (by decide) ?_
  obtain ⟨c3, hf⟩ := ite_some hf
  refine rs_putI i_X2_read_6 (by decide) c3 ?_
  exact r_X2_read_9 hd hf
def f_X2_read (n : Nat) (v0 : Nat) (v1 : Nat) (h : Hp) : Option (Int32 × Hp) := f_X2_read_0 n v0 v1 h
theorem c_X2_read {X : Nat → Int32} {d : Nat} (hd : 108 ≤ d) {n : Nat} {v0 : Nat} {v1 : Nat} {h : Hp} {o : (Int32 × Hp)} (hf : f_X2_read n v0 v1 h = some o) : Calls X d 12 [.ref v0, .ref v1] h (some (.int o.1), o.2) := by
  obtain ⟨d, rfl⟩ : ∃ z, d = z + 1 := ⟨d - 1, by omega⟩
  exact ⟨_, rfl, r_X2_read_0 hd hf⟩
theorem i_X3_init_0 : fetch 27 0 = some (.aload_n 0, 1, 0, 0, 0, 0) := by decide +kernel
theorem i_X3_init_1 : fetch 27 1 = some (.invokespecial 3, 4, 1000, 0, 0, 236) := by decide +kernel
theorem i_X3_init_4 : fetch 27 4 = some (.aload_n 0, 5, 0, 0, 0, 0) := by decide +kernel
theorem i_X3_init_5 : fetch 27 5 = some (.bipush 12, 7, 0, 0, 0, 0) := by decide +kernel
theorem i_X3_init_7 : fetch 27 7 = some (.newarray .int, 9, 9, 0, 0, 0) := by decide +kernel
theorem i_X3_init_9 : fetch 27 9 = some (.putfield 9, 12, 3, 0, 0, 238) := by decide +kernel
theorem i_X3_init_12 : fetch 27 12 = some (.aload_n 0, 13, 0, 0, 0, 0) := by decide +kernel
theorem i_X3_init_13 : fetch 27 13 = some (.bipush 12, 15, 0, 0, 0, 0) := by decide +kernel
theorem i_X3_init_15 : fetch 27 15 = some (.newarray .int, 17, 9, 0, 0, 0) := by decide +kernel
theorem i_X3_init_17 : fetch 27 17 = some (.putfield 15, 20, 3, 1, 0, 239) := by decide +kernel
theorem i_X3_init_20 : fetch 27 20 = some (.aload_n 0, 21, 0, 0, 0, 0) := by decide +kernel
theorem i_X3_init_21 : fetch 27 21 = some (.bipush 12, 23, 0, 0, 0, 0) := by decide +kernel
theorem i_X3_init_23 : fetch 27 23 = some (.newarray .int, 25, 9, 0, 0, 0) := by decide +kernel
theorem i_X3_init_25 : fetch 27 25 = some (.putfield 18, 28, 3, 2, 0, 241) := by decide +kernel
theorem i_X3_init_28 : fetch 27 28 = some (.aload_n 0, 29, 0, 0, 0, 0) := by decide +kernel
theorem i_X3_init_29 : fetch 27 29 = some (.bipush 12, 31, 0, 0, 0, 0) := by decide +kernel
theorem i_X3_init_31 : fetch 27 31 = some (.newarray .int, 33, 9, 0, 0, 0) := by decide +kernel
theorem i_X3_init_33 : fetch 27 33 = some (.putfield 21, 36, 3, 3, 0, 244) := by decide +kernel
theorem i_X3_init_36 : fetch 27 36 = some (.aload_n 0, 37, 0, 0, 0, 0) := by decide +kernel
theorem i_X3_init_37 : fetch 27 37 = some (.bipush 12, 39, 0, 0, 0, 0) := by decide +kernel
theorem i_X3_init_39 : fetch 27 39 = some (.newarray .int, 41, 9, 0, 0, 0) := by decide +kernel
theorem i_X3_init_41 : fetch 27 41 = some (.putfield 24, 44, 3, 4, 0, 245) := by decide +kernel
theorem i_X3_init_44 : fetch 27 44 = some (.aload_n 0, 45, 0, 0, 0, 0) := by decide +kernel
theorem i_X3_init_45 : fetch 27 45 = some (.bipush 12, 47, 0, 0, 0, 0) := by decide +kernel
theorem i_X3_init_47 : fetch 27 47 = some (.newarray .long, 49, 10, 0, 0, 0) := by decide +kernel
theorem i_X3_init_49 : fetch 27 49 = some (.putfield 27, 52, 3, 5, 0, 246) := by decide +kernel
theorem i_X3_init_52 : fetch 27 52 = some (.aload_n 0, 53, 0, 0, 0, 0) := by decide +kernel
theorem i_X3_init_53 : fetch 27 53 = some (.iconst 0, 54, 0, 0, 0, 0) := by decide +kernel
theorem i_X3_init_54 : fetch 27 54 = some (.putfield 31, 57, 3, 7, 0, 248) := by decide +kernel
theorem i_X3_init_57 : fetch 27 57 = some (.aload_n 0, 58, 0, 0, 0, 0) := by decide +kernel
theorem i_X3_init_58 : fetch 27 58 = some (.iconst 0, 59, 0, 0, 0, 0) := by decide +kernel
theorem i_X3_init_59 : fetch 27 59 = some (.putfield 35, 62, 3, 8, 0, 251) := by decide +kernel
theorem i_X3_init_62 : fetch 27 62 = some (.aload_n 0, 63, 0, 0, 0, 0) := by decide +kernel
theorem i_X3_init_63 : fetch 27 63 = some (.iconst 0, 64, 0, 0, 0, 0) := by decide +kernel
theorem i_X3_init_64 : fetch 27 64 = some (.putfield 38, 67, 3, 9, 0, 254) := by decide +kernel
theorem i_X3_init_67 : fetch 27 67 = some (.aload_n 0, 68, 0, 0, 0, 0) := by decide +kernel
theorem i_X3_init_68 : fetch 27 68 = some (.ldc2_w 41, 71, 0, 0, 1000000000, 237) := by decide +kernel
theorem i_X3_init_71 : fetch 27 71 = some (.putfield 43, 74, 3, 10, 0, 256) := by decide +kernel
theorem i_X3_init_74 : fetch 27 74 = some (.aload_n 0, 75, 0, 0, 0, 0) := by decide +kernel
theorem i_X3_init_75 : fetch 27 75 = some (.ldc2_w 41, 78, 0, 0, 1000000000, 237) := by decide +kernel
theorem i_X3_init_78 : fetch 27 78 = some (.putfield 47, 81, 3, 11, 0, 258) := by decide +kernel
theorem i_X3_init_81 : fetch 27 81 = some (.aload_n 0, 82, 0, 0, 0, 0) := by decide +kernel
theorem i_X3_init_82 : fetch 27 82 = some (.aload_n 1, 83, 0, 0, 0, 0) := by decide +kernel
theorem i_X3_init_83 : fetch 27 83 = some (.putfield 50, 86, 3, 6, 0, 247) := by decide +kernel
theorem i_X3_init_86 : fetch 27 86 = some (.return_, 87, 0, 0, 0, 0) := by decide +kernel
def f_X3_init_81 (v0 : Nat) (v1 : Nat) (h : Hp) : Option Hp :=
  if okO h v0 3 then
  if 16 ≤ v1 then
  some (hsr h v0 6 (some v1))
  else none
  else none
set_option maxRecDepth 100000 in
set_option maxHeartbeats 4000000 in
theorem r_X3_init_81 {X : Nat → Int32} {d : Nat} (hd : 0 ≤ d) {v0 : Nat} {v1 : Nat} {h : Hp} {o : Hp} (hf : f_X3_init_81 v0 v1 h = some o) : Run X d 27 81 [some (.ref v0), some (.ref v1)] [] h (none, o) := by
  unfold f_X3_init_81 at hf
  refine rs_aload_n i_X3_init_81 rfl ?_
  refine rs_aload_n i_X3_init_82 rfl ?_
  obtain ⟨c1, hf⟩ := ite_some hf
  obtain ⟨c2, hf⟩ := ite_some hf
  refine rs_putR i_X3_init_83 (by decide) c2 c1 ?_
  have hf := Option.some.inj hf
  subst hf
  exact rs_vret i_X3_init_86 m_X3_init rfl
def f_X3_init_74 (v0 : Nat) (v1 : Nat) (h : Hp) : Option Hp :=
  if okO h v0 3 then
  f_X3_init_81 v0 v1 (hsl h v0 11 1000000000)
  else none
set_option maxRecDepth 100000 in
set_option maxHeartbeats 4000000 in
theorem r_X3_init_74 {X : Nat → Int32} {d : Nat} (hd : 0 ≤ d) {v0 : Nat} {v1 : Nat} {h : Hp} {o : Hp} (hf : f_X3_init_74 v0 v1 h = some o) : Run X d 27 74 [some (.ref v0), some (.ref v1)] [] h (none, o) := by
  unfold f_X3_init_74 at hf
  refine rs_aload_n i_X3_init_74 rfl ?_
  refine rs_ldc2 i_X3_init_75 (v := 1000000000) (by decide) ?_
  obtain ⟨c1, hf⟩ := ite_some hf
  refine rs_putL i_X3_init_78 (by decide) c1 ?_
  exact r_X3_init_81 hd hf
def f_X3_init_67 (v0 : Nat) (v1 : Nat) (h : Hp) : Option Hp :=
  if okO h v0 3 then
  f_X3_init_74 v0 v1 (hsl h v0 10 1000000000)
  else none
set_option maxRecDepth 100000 in
set_option maxHeartbeats 4000000 in
theorem r_X3_init_67 {X : Nat → Int32} {d : Nat} (hd : 0 ≤ d) {v0 : Nat} {v1 : Nat} {h : Hp} {o : Hp} (hf : f_X3_init_67 v0 v1 h = some o) : Run X d 27 67 [some (.ref v0), some (.ref v1)] [] h (none, o) := by
  unfold f_X3_init_67 at hf
  refine rs_aload_n i_X3_init_67 rfl ?_
  refine rs_ldc2 i_X3_init_68 (v := 1000000000) (by decide) ?_
  obtain ⟨c1, hf⟩ := ite_some hf
  refine rs_putL i_X3_init_71 (by decide) c1 ?_
  exact r_X3_init_74 hd hf
def f_X3_init_62 (v0 : Nat) (v1 : Nat) (h : Hp) : Option Hp :=
  if okO h v0 3 then
  f_X3_init_67 v0 v1 (hsi h v0 9 0)
  else none
set_option maxRecDepth 100000 in
set_option maxHeartbeats 4000000 in
theorem r_X3_init_62 {X : Nat → Int32} {d : Nat} (hd : 0 ≤ d) {v0 : Nat} {v1 : Nat} {h : Hp} {o : Hp} (hf : f_X3_init_62 v0 v1 h = some o) : Run X d 27 62 [some (.ref v0), some (.ref v1)] [] h (none, o) := by
  unfold f_X3_init_62 at hf
  refine rs_aload_n i_X3_init_62 rfl ?_
  refine rs_iconst i_X3_init_63 (v := 0) (by decide) ?_
  obtain ⟨c1, hf⟩ := ite_some hf
  refine rs_putI i_X3_init_64 (by decide) c1 ?_
  exact r_X3_init_67 hd hf
def f_X3_init_57 (v0 : Nat) (v1 : Nat) (h : Hp) : Option Hp :=
  if okO h v0 3 then
  f_X3_init_62 v0 v1 (hsi h v0 8 0)
  else none
set_option maxRecDepth 100000 in
set_option maxHeartbeats 4000000 in
theorem r_X3_init_57 {X : Nat → Int32} {d : Nat} (hd : 0 ≤ d) {v0 : Nat} {v1 : Nat} {h : Hp} {o : Hp} (hf : f_X3_init_57 v0 v1 h = some o) : Run X d 27 57 [some (.ref v0), some (.ref v1)] [] h (none, o) := by
  unfold f_X3_init_57 at hf
  refine rs_aload_n i_X3_init_57 rfl ?_
  refine rs_iconst i_X3_init_58 (v := 0) (by decide) ?_
  obtain ⟨c1, hf⟩ := ite_some hf
  refine rs_putI i_X3_init_59 (by decide) c1 ?_
  exact r_X3_init_62 hd hf
def f_X3_init_52 (v0 : Nat) (v1 : Nat) (h : Hp) : Option Hp :=
  if okO h v0 3 then
  f_X3_init_57 v0 v1 (hsi h v0 7 0)
  else none
set_option maxRecDepth 100000 in
set_option maxHeartbeats 4000000 in
theorem r_X3_init_52 {X : Nat → Int32} {d : Nat} (hd : 0 ≤ d) {v0 : Nat} {v1 : Nat} {h : Hp} {o : Hp} (hf : f_X3_init_52 v0 v1 h = some o) : Run X d 27 52 [some (.ref v0), some (.ref v1)] [] h (none, o) := by
  unfold f_X3_init_52 at hf
  refine rs_aload_n i_X3_init_52 rfl ?_
  refine rs_iconst i_X3_init_53 (v := 0) (by decide) ?_
  obtain ⟨c1, hf⟩ := ite_some hf
  refine rs_putI i_X3_init_54 (by decide) c1 ?_
  exact r_X3_init_57 hd hf
def f_X3_init_49 (v0 : Nat) (v1 : Nat) (s0 : Nat) (s1 : Nat) (h : Hp) : Option Hp :=
  if okO h s0 3 then
  if 16 ≤ s1 then
  f_X3_init_52 v0 v1 (hsr h s0 5 (some s1))
  else none
  else none
set_option maxRecDepth 100000 in
set_option maxHeartbeats 4000000 in
theorem r_X3_init_49 {X : Nat → Int32} {d : Nat} (hd : 0 ≤ d) {v0 : Nat} {v1 : Nat} {s0 : Nat} {s1 : Nat} {h : Hp} {o : Hp} (hf : f_X3_init_49 v0 v1 s0 s1 h = some o) : Run X d 27 49 [some (.ref v0), some (.ref v1)] [.ref s1, .ref s0] h (none, o) := by
  unfold f_X3_init_49 at hf
  obtain ⟨c1, hf⟩ := ite_some hf
  obtain ⟨c2, hf⟩ := ite_some hf
  refine rs_putR i_X3_init_49 (by decide) c2 c1 ?_
  exact r_X3_init_52 hd hf
def f_X3_init_44 (v0 : Nat) (v1 : Nat) (h : Hp) : Option Hp :=
  f_X3_init_49 v0 v1 v0 h.1.length (hnew h (10, ix 12))
set_option maxRecDepth 100000 in
set_option maxHeartbeats 4000000 in
theorem r_X3_init_44 {X : Nat → Int32} {d : Nat} (hd : 0 ≤ d) {v0 : Nat} {v1 : Nat} {h : Hp} {o : Hp} (hf : f_X3_init_44 v0 v1 h = some o) : Run X d 27 44 [some (.ref v0), some (.ref v1)] [] h (none, o) := by
  unfold f_X3_init_44 at hf
  refine rs_aload_n i_X3_init_44 rfl ?_
  refine rs_bipush i_X3_init_45 (v := 12) (by decide) ?_
  refine rs_newa i_X3_init_47 (by decide) ?_
  exact r_X3_init_49 hd hf
def f_X3_init_41 (v0 : Nat) (v1 : Nat) (s0 : Nat) (s1 : Nat) (h : Hp) : Option Hp :=
  if okO h s0 3 then
  if 16 ≤ s1 then
  f_X3_init_44 v0 v1 (hsr h s0 4 (some s1))
  else none
  else none
set_option maxRecDepth 100000 in
set_option maxHeartbeats 4000000 in
theorem r_X3_init_41 {X : Nat → Int32} {d : Nat} (hd : 0 ≤ d) {v0 : Nat} {v1 : Nat} {s0 : Nat} {s1 : Nat} {h : Hp} {o : Hp} (hf : f_X3_init_41 v0 v1 s0 s1 h = some o) : Run X d 27 41 [some (.ref v0), some (.ref v1)] [.ref s1, .ref s0] h (none, o) := by
  unfold f_X3_init_41 at hf
  obtain ⟨c1, hf⟩ := ite_some hf
  obtain ⟨c2, hf⟩ := ite_some hf
  refine rs_putR i_X3_init_41 (by decide) c2 c1 ?_
  exact r_X3_init_44 hd hf
def f_X3_init_36 (v0 : Nat) (v1 : Nat) (h : Hp) : Option Hp :=
  f_X3_init_41 v0 v1 v0 h.1.length (hnew h (9, ix 12))
set_option maxRecDepth 100000 in
set_option maxHeartbeats 4000000 in
theorem r_X3_init_36 {X : Nat → Int32} {d : Nat} (hd : 0 ≤ d) {v0 : Nat} {v1 : Nat} {h : Hp} {o : Hp} (hf : f_X3_init_36 v0 v1 h = some o) : Run X d 27 36 [some (.ref v0), some (.ref v1)] [] h (none, o) := by
  unfold f_X3_init_36 at hf
  refine rs_aload_n i_X3_init_36 rfl ?_
  refine rs_bipush i_X3_init_37 (v := 12) (by decide) ?_
  refine rs_newa i_X3_init_39 (by decide) ?_
  exact r_X3_init_41 hd hf
def f_X3_init_33 (v0 : Nat) (v1 : Nat) (s0 : Nat) (s1 : Nat) (h : Hp) : Option Hp :=
  if okO h s0 3 then
  if 16 ≤ s1 then
  f_X3_init_36 v0 v1 (hsr h s0 3 (some s1))
  else none
  else none
set_option maxRecDepth 100000 in
set_option maxHeartbeats 4000000 in
theorem r_X3_init_33 {X : Nat → Int32} {d : Nat} (hd : 0 ≤ d) {v0 : Nat} {v1 : Nat} {s0 : Nat} {s1 : Nat} {h : Hp} {o : Hp} (hf : f_X3_init_33 v0 v1 s0 s1 h = some o) : Run X d 27 33 [some (.ref v0), some (.ref v1)] [.ref s1, .ref s0] h (none, o) := by
  unfold f_X3_init_33 at hf
  obtain ⟨c1, hf⟩ := ite_some hf
  obtain ⟨c2, hf⟩ := ite_some hf
  refine rs_putR i_X3_init_33 (by decide) c2 c1 ?_
  exact r_X3_init_36 hd hf
def f_X3_init_28 (v0 : Nat) (v1 : Nat) (h : Hp) : Option Hp :=
  f_X3_init_33 v0 v1 v0 h.1.length (hnew h (9, ix 12))
set_option maxRecDepth 100000 in
set_option maxHeartbeats 4000000 in
theorem r_X3_init_28 {X : Nat → Int32} {d : Nat} (hd : 0 ≤ d) {v0 : Nat} {v1 : Nat} {h : Hp} {o : Hp} (hf : f_X3_init_28 v0 v1 h = some o) : Run X d 27 28 [some (.ref v0), some (.ref v1)] [] h (none, o) := by
  unfold f_X3_init_28 at hf
  refine rs_aload_n i_X3_init_28 rfl ?_
  refine rs_bipush i_X3_init_29 (v := 12) (by decide) ?_
  refine rs_newa i_X3_init_31 (by decide) ?_
  exact r_X3_init_33 hd hf
def f_X3_init_25 (v0 : Nat) (v1 : Nat) (s0 : Nat) (s1 : Nat) (h : Hp) : Option Hp :=
  if okO h s0 3 then
  if 16 ≤ s1 then
  f_X3_init_28 v0 v1 (hsr h s0 2 (some s1))
  else none
  else none
set_option maxRecDepth 100000 in
set_option maxHeartbeats 4000000 in
theorem r_X3_init_25 {X : Nat → Int32} {d : Nat} (hd : 0 ≤ d) {v0 : Nat} {v1 : Nat} {s0 : Nat} {s1 : Nat} {h : Hp} {o : Hp} (hf : f_X3_init_25 v0 v1 s0 s1 h = some o) : Run X d 27 25 [some (.ref v0), some (.ref v1)] [.ref s1, .ref s0] h (none, o) := by
  unfold f_X3_init_25 at hf
  obtain ⟨c1, hf⟩ := ite_some hf
  obtain ⟨c2, hf⟩ := ite_some hf
  refine rs_putR i_X3_init_25 (by decide) c2 c1 ?_
  exact r_X3_init_28 hd hf
def f_X3_init_20 (v0 : Nat) (v1 : Nat) (h : Hp) : Option Hp :=
  f_X3_init_25 v0 v1 v0 h.1.length (hnew h (9, ix 12))
set_option maxRecDepth 100000 in
set_option maxHeartbeats 4000000 in
theorem r_X3_init_20 {X : Nat → Int32} {d : Nat} (hd : 0 ≤ d) {v0 : Nat} {v1 : Nat} {h : Hp} {o : Hp} (hf : f_X3_init_20 v0 v1 h = some o) : Run X d 27 20 [some (.ref v0), some (.ref v1)] [] h (none, o) := by
  unfold f_X3_init_20 at hf
  refine rs_aload_n i_X3_init_20 rfl ?_
  refine rs_bipush i_X3_init_21 (v := 12) (by decide) ?_
  refine rs_newa i_X3_init_23 (by decide) ?_
  exact r_X3_init_25 hd hf
def f_X3_init_17 (v0 : Nat) (v1 : Nat) (s0 : Nat) (s1 : Nat) (h : Hp) : Option Hp :=
  if okO h s0 3 then
  if 16 ≤ s1 then
  f_X3_init_20 v0 v1 (hsr h s0 1 (some s1))
  else none
  else none
set_option maxRecDepth 100000 in
set_option maxHeartbeats 4000000 in
theorem r_X3_init_17 {X : Nat → Int32} {d : Nat} (hd : 0 ≤ d) {v0 : Nat} {v1 : Nat} {s0 : Nat} {s1 : Nat} {h : Hp} {o : Hp} (hf : f_X3_init_17 v0 v1 s0 s1 h = some o) : Run X d 27 17 [some (.ref v0), some (.ref v1)] [.ref s1, .ref s0] h (none, o) := by
  unfold f_X3_init_17 at hf
  obtain ⟨c1, hf⟩ := ite_some hf
  obtain ⟨c2, hf⟩ := ite_some hf
  refine rs_putR i_X3_init_17 (by decide) c2 c1 ?_
  exact r_X3_init_20 hd hf
def f_X3_init_12 (v0 : Nat) (v1 : Nat) (h : Hp) : Option Hp :=
  f_X3_init_17 v0 v1 v0 h.1.length (hnew h (9, ix 12))
set_option maxRecDepth 100000 in
set_option maxHeartbeats 4000000 in
theorem r_X3_init_12 {X : Nat → Int32} {d : Nat} (hd : 0 ≤ d) {v0 : Nat} {v1 : Nat} {h : Hp} {o : Hp} (hf : f_X3_init_12 v0 v1 h = some o) : Run X d 27 12 [some (.ref v0), some (.ref v1)] [] h (none, o) := by
  unfold f_X3_init_12 at hf
  refine rs_aload_n i_X3_init_12 rfl ?_
  refine rs_bipush i_X3_init_13 (v := 12) (by decide) ?_
  refine rs_newa i_X3_init_15 (by decide) ?_
  exact r_X3_init_17 hd hf
def f_X3_init_9 (v0 : Nat) (v1 : Nat) (s0 : Nat) (s1 : Nat) (h : Hp) : Option Hp :=
  if okO h s0 3 then
  if 16 ≤ s1 then
  f_X3_init_12 v0 v1 (hsr h s0 0 (some s1))
  else none
  else none
set_option maxRecDepth 100000 in
set_option maxHeartbeats 4000000 in
theorem r_X3_init_9 {X : Nat → Int32} {d : Nat} (hd : 0 ≤ d) {v0 : Nat} {v1 : Nat} {s0 : Nat} {s1 : Nat} {h : Hp} {o : Hp} (hf : f_X3_init_9 v0 v1 s0 s1 h = some o) : Run X d 27 9 [some (.ref v0), some (.ref v1)] [.ref s1, .ref s0] h (none, o) := by
  unfold f_X3_init_9 at hf
  obtain ⟨c1, hf⟩ := ite_some hf
  obtain ⟨c2, hf⟩ := ite_some hf
  refine rs_putR i_X3_init_9 (by decide) c2 c1 ?_
  exact r_X3_init_12 hd hf
def f_X3_init_0 (v0 : Nat) (v1 : Nat) (h : Hp) : Option Hp :=
  f_X3_init_9 v0 v1 v0 h.1.length (hnew h (9, ix 12))
set_option maxRecDepth 100000 in
set_option maxHeartbeats 4000000 in
theorem r_X3_init_0 {X : Nat → Int32} {d : Nat} (hd : 0 ≤ d) {v0 : Nat} {v1 : Nat} {h : Hp} {o : Hp} (hf : f_X3_init_0 v0 v1 h = some o) : Run X d 27 0 [some (.ref v0), some (.ref v1)] [] h (none, o) := by
  unfold f_X3_init_0 at hf
  refine rs_aload_n i_X3_init_0 rfl ?_
  refine rs_objI i_X3_init_1 (Nat.le_of_ble_eq_true rfl) ?_
  refine rs_aload_n i_X3_init_4 rfl ?_
  refine rs_bipush i_X3_init_5 (v := 12) (by decide) ?_
  refine rs_newa i_X3_init_7 (by decide) ?_
  exact r_X3_init_9 hd hf
def f_X3_init (v0 : Nat) (v1 : Nat) (h : Hp) : Option Hp := f_X3_init_0 v0 v1 h
theorem c_X3_init {X : Nat → Int32} {d : Nat} (hd : 0 ≤ d) {v0 : Nat} {v1 : Nat} {h : Hp} {o : Hp} (hf : f_X3_init v0 v1 h = some o) : Calls X d 27 [.ref v0, .ref v1] h (none, o) := by
  exact ⟨_, rfl, r_X3_init_0 hd hf⟩
theorem i_X3_begin_0 : fetch 28 0 = some (.aload_n 1, 1, 0, 0, 0, 0) := by decide +kernel
theorem i_X3_begin_1 : fetch 28 1 = some (.getfield 54, 4, 0, 0, 0, 93) := by decide +kernel
theorem i_X3_begin_4 : fetch 28 4 = some (.iconst 0, 5, 0, 0, 0, 0) := by decide +kernel
theorem i_X3_begin_5 : fetch 28 5 = some (.aload_n 0, 6, 0, 0, 0, 0) := by decide +kernel
theorem i_X3_begin_6 : fetch 28 6 = some (.getfield 9, 9, 3, 0, 0, 238) := by decide +kernel
theorem i_X3_begin_9 : fetch 28 9 = some (.iconst 0, 10, 0, 0, 0, 0) := by decide +kernel
theorem i_X3_begin_10 : fetch 28 10 = some (.bipush 12, 12, 0, 0, 0, 0) := by decide +kernel
theorem i_X3_begin_12 : fetch 28 12 = some (.invokestatic 57, 15, 1001, 0, 0, 600) := by decide +kernel
theorem i_X3_begin_15 : fetch 28 15 = some (.aload_n 1, 16, 0, 0, 0, 0) := by decide +kernel
theorem i_X3_begin_16 : fetch 28 16 = some (.getfield 63, 19, 0, 1, 0, 96) := by decide +kernel
theorem i_X3_begin_19 : fetch 28 19 = some (.iconst 0, 20, 0, 0, 0, 0) := by decide +kernel
theorem i_X3_begin_20 : fetch 28 20 = some (.aload_n 0, 21, 0, 0, 0, 0) := by decide +kernel
theorem i_X3_begin_21 : fetch 28 21 = some (.getfield 15, 24, 3, 1, 0, 239) := by decide +kernel
theorem i_X3_begin_24 : fetch 28 24 = some (.iconst 0, 25, 0, 0, 0, 0) := by decide +kernel
theorem i_X3_begin_25 : fetch 28 25 = some (.bipush 12, 27, 0, 0, 0, 0) := by decide +kernel
theorem i_X3_begin_27 : fetch 28 27 = some (.invokestatic 57, 30, 1001, 0, 0, 600) := by decide +kernel
theorem i_X3_begin_30 : fetch 28 30 = some (.iconst 0, 31, 0, 0, 0, 0) := by decide +kernel
theorem i_X3_begin_31 : fetch 28 31 = some (.istore_n 2, 32, 0, 0, 0, 0) := by decide +kernel
theorem i_X3_begin_32 : fetch 28 32 = some (.iload_n 2, 33, 0, 0, 0, 0) := by decide +kernel
theorem i_X3_begin_33 : fetch 28 33 = some (.bipush 12, 35, 0, 0, 0, 0) := by decide +kernel
theorem i_X3_begin_35 : fetch 28 35 = some (.if_icmp .ge 16, 38, 0, 0, 0, 0) := by decide +kernel
theorem i_X3_begin_38 : fetch 28 38 = some (.aload_n 0, 39, 0, 0, 0, 0) := by decide +kernel
theorem i_X3_begin_39 : fetch 28 39 = some (.getfield 18, 42, 3, 2, 0, 241) := by decide +kernel
theorem i_X3_begin_42 : fetch 28 42 = some (.iload_n 2, 43, 0, 0, 0, 0) := by decide +kernel
theorem i_X3_begin_43 : fetch 28 43 = some (.iconst 0, 44, 0, 0, 0, 0) := by decide +kernel
theorem i_X3_begin_44 : fetch 28 44 = some (.iastore, 45, 0, 0, 0, 0) := by decide +kernel
theorem i_X3_begin_45 : fetch 28 45 = some (.iinc 2 1, 48, 0, 0, 0, 0) := by decide +kernel
theorem i_X3_begin_48 : fetch 28 48 = some (.goto (-16), 51, 0, 0, 0, 0) := by decide +kernel
theorem i_X3_begin_51 : fetch 28 51 = some (.aload_n 0, 52, 0, 0, 0, 0) := by decide +kernel
theorem i_X3_begin_52 : fetch 28 52 = some (.iconst 0, 53, 0, 0, 0, 0) := by decide +kernel
theorem i_X3_begin_53 : fetch 28 53 = some (.putfield 31, 56, 3, 7, 0, 248) := by decide +kernel
theorem i_X3_begin_56 : fetch 28 56 = some (.aload_n 0, 57, 0, 0, 0, 0) := by decide +kernel
theorem i_X3_begin_57 : fetch 28 57 = some (.iconst 0, 58, 0, 0, 0, 0) := by decide +kernel
theorem i_X3_begin_58 : fetch 28 58 = some (.putfield 35, 61, 3, 8, 0, 251) := by decide +kernel
theorem i_X3_begin_61 : fetch 28 61 = some (.aload_n 0, 62, 0, 0, 0, 0) := by decide +kernel
theorem i_X3_begin_62 : fetch 28 62 = some (.iconst 0, 63, 0, 0, 0, 0) := by decide +kernel
theorem i_X3_begin_63 : fetch 28 63 = some (.putfield 38, 66, 3, 9, 0, 254) := by decide +kernel
theorem i_X3_begin_66 : fetch 28 66 = some (.aload_n 0, 67, 0, 0, 0, 0) := by decide +kernel
theorem i_X3_begin_67 : fetch 28 67 = some (.ldc2_w 41, 70, 0, 0, 1000000000, 237) := by decide +kernel
theorem i_X3_begin_70 : fetch 28 70 = some (.putfield 43, 73, 3, 10, 0, 256) := by decide +kernel
theorem i_X3_begin_73 : fetch 28 73 = some (.aload_n 0, 74, 0, 0, 0, 0) := by decide +kernel
theorem i_X3_begin_74 : fetch 28 74 = some (.ldc2_w 41, 77, 0, 0, 1000000000, 237) := by decide +kernel
theorem i_X3_begin_77 : fetch 28 77 = some (.putfield 47, 80, 3, 11, 0, 258) := by decide +kernel
theorem i_X3_begin_80 : fetch 28 80 = some (.return_, 81, 0, 0, 0, 0) := by decide +kernel
def f_X3_begin_73 (n : Nat) (v0 : Nat) (h : Hp) : Option Hp :=
  if okO h v0 3 then
  some (hsl h v0 11 1000000000)
  else none
set_option maxRecDepth 100000 in
set_option maxHeartbeats 4000000 in
theorem r_X3_begin_73 {X : Nat → Int32} {d : Nat} (hd : 0 ≤ d) {n : Nat} {v0 : Nat} {d1 : Nat} {d2 : Int32} {h : Hp} {o : Hp} (hf : f_X3_begin_73 n v0 h = some o) : Run X d 28 73 [some (.ref v0), some (.ref d1), some (.int d2)] [] h (none, o) := by
  unfold f_X3_begin_73 at hf
  refine rs_aload_n i_X3_begin_73 rfl ?_
  refine rs_ldc2 i_X3_begin_74 (v := 1000000000) (by decide) ?_
  obtain ⟨c1, hf⟩ := ite_some hf
  refine rs_putL i_X3_begin_77 (by decide) c1 ?_
  have hf := Option.some.inj hf
  subst hf
  exact rs_vret i_X3_begin_80 m_X3_begin rfl
def f_X3_begin_66 (n : Nat) (v0 : Nat) (h : Hp) : Option Hp :=
  if okO h v0 3 then
  f_X3_begin_73 n v0 (hsl h v0 10 1000000000)
  else none
set_option maxRecDepth 100000 in
set_option maxHeartbeats 4000000 in
theorem r_X3_begin_66 {X : Nat → Int32} {d : Nat} (hd : 0 ≤ d) {n : Nat} {v0 : Nat} {d1 : Nat} {d2 : Int32} {h : Hp} {o : Hp} (hf : f_X3_begin_66 n v0 h = some o) : Run X d 28 66 [some (.ref v0), some (.ref d1), some (.int d2)] [] h (none, o) := by
  unfold f_X3_begin_66 at hf
  refine rs_aload_n i_X3_begin_66 rfl ?_
  refine rs_ldc2 i_X3_begin_67 (v := 1000000000) (by decide) ?_
  obtain ⟨c1, hf⟩ := ite_some hf
  refine rs_putL i_X3_begin_70 (by decide) c1 ?_
  exact r_X3_begin_73 hd hf
def f_X3_begin_61 (n : Nat) (v0 : Nat) (h : Hp) : Option Hp :=
  if okO h v0 3 then
  f_X3_begin_66 n v0 (hsi h v0 9 0)
  else none
set_option maxRecDepth 100000 in
set_option maxHeartbeats 4000000 in
theorem r_X3_begin_61 {X : Nat → Int32} {d : Nat} (hd : 0 ≤ d) {n : Nat} {v0 : Nat} {d1 : Nat} {d2 : Int32} {h : Hp} {o : Hp} (hf : f_X3_begin_61 n v0 h = some o) : Run X d 28 61 [some (.ref v0), some (.ref d1), some (.int d2)] [] h (none, o) := by
  unfold f_X3_begin_61 at hf
  refine rs_aload_n i_X3_begin_61 rfl ?_
  refine rs_iconst i_X3_begin_62 (v := 0) (by decide) ?_
  obtain ⟨c1, hf⟩ := ite_some hf
  refine rs_putI i_X3_begin_63 (by decide) c1 ?_
  exact r_X3_begin_66 hd hf
def f_X3_begin_56 (n : Nat) (v0 : Nat) (h : Hp) : Option Hp :=
  if okO h v0 3 then
  f_X3_begin_61 n v0 (hsi h v0 8 0)
  else none
set_option maxRecDepth 100000 in
set_option maxHeartbeats 4000000 in
theorem r_X3_begin_56 {X : Nat → Int32} {d : Nat} (hd : 0 ≤ d) {n : Nat} {v0 : Nat} {d1 : Nat} {d2 : Int32} {h : Hp} {o : Hp} (hf : f_X3_begin_56 n v0 h = some o) : Run X d 28 56 [some (.ref v0), some (.ref d1), some (.int d2)] [] h (none, o) := by
  unfold f_X3_begin_56 at hf
  refine rs_aload_n i_X3_begin_56 rfl ?_
  refine rs_iconst i_X3_begin_57 (v := 0) (by decide) ?_
  obtain ⟨c1, hf⟩ := ite_some hf
  refine rs_putI i_X3_begin_58 (by decide) c1 ?_
  exact r_X3_begin_61 hd hf
def f_X3_begin_32 (n : Nat) : Nat → Nat → Int32 → Hp → Option Hp
  | 0, _, _, _ => none
  | m + 1, v0, v2, h =>
    if 12 ≤ v2 then
      if okO h v0 3 then
      f_X3_begin_56 n v0 (hsi h v0 7 0)
      else none
    else
      if okO h v0 3 then
      (gR h v0 2).bind fun a4 =>
      if okI h a4 v2 then
      (f_X3_begin_32 n m) v0 (v2 + 1) (hsi h a4 (ix v2) 0)
      else none
      else none
set_option maxRecDepth 100000 in
set_option maxHeartbeats 4000000 in
theorem r_X3_begin_32 {X : Nat → Int32} {d : Nat} (hd : 0 ≤ d) {n : Nat} : ∀ (m : Nat) (v0 : Nat) (v2 : Int32) (d1 : Nat) (h : Hp) (o : Hp), f_X3_begin_32 n m v0 v2 h = some o → Run X d 28 32 [some (.ref v0), some (.ref d1), some (.int v2)] [] h (none, o) := by
  intro m
  induction m with
  | zero => intro v0 v2 d1 h o hf; cases hf
  | succ m ih =>
    intro v0 v2 d1 h o hf
    rw [f_X3_begin_32] at hf
    refine rs_iload_n i_X3_begin_32 rfl ?_
    refine rs_bipush i_X3_begin_33 (v := 12) (by decide) ?_
    by_cases c1 : 12 ≤ v2
    · replace hf := (if_pos c1).symm.trans hf
      refine rs_icT i_X3_begin_35 (ct_ge c1) (tg := 51) (by decide) ?_
      refine rs_aload_n i_X3_begin_51 rfl ?_
      refine rs_iconst i_X3_begin_52 (v := 0) (by decide) ?_
      obtain ⟨c2, hf⟩ := ite_some hf
      refine rs_putI i_X3_begin_53 (by decide) c2 ?_
      exact r_X3_begin_56 hd hf
    · replace hf := (if_neg c1).symm.trans hf
      refine rs_icF i_X3_begin_35 (cf_ge c1) ?_
      refine rs_aload_n i_X3_begin_38 rfl ?_
      obtain ⟨c3, hf⟩ := ite_some hf
      obtain ⟨a4, e4, hf⟩ := bind_some hf
      refine rs_getR i_X3_begin_39 (by decide) (by decide) c3 e4 ?_
      refine rs_iload_n i_X3_begin_42 rfl ?_
      refine rs_iconst i_X3_begin_43 (v := 0) (by decide) ?_
      obtain ⟨c5, hf⟩ := ite_some hf
      refine rs_iast i_X3_begin_44 c5 ?_
      refine rs_iinc i_X3_begin_45 rfl (v := v2 + 1) rfl (Nat.le_of_ble_eq_true rfl) (lv' := [some (.ref v0), some (.ref d1), some (.int (v2 + 1))]) rfl ?_
      refine rs_goto i_X3_begin_48 (tg := 32) (by decide) ?_
      exact ih _ _ _ _ _ hf
def f_X3_begin_15 (n : Nat) (v0 : Nat) (v1 : Nat) (h : Hp) : Option Hp :=
  if okO h v1 0 then
  (gR h v1 1).bind fun a2 =>
  if okO h v0 3 then
  (gR h v0 1).bind fun a4 =>
  if okCp h a2 0 a4 0 12 then
  f_X3_begin_32 n n v0 0 (hcp h a2 (ix 0) a4 (ix 0) (ix 12))
  else none
  else none
  else none
set_option maxRecDepth 100000 in
set_option maxHeartbeats 4000000 in
theorem r_X3_begin_15 {X : Nat → Int32} {d : Nat} (hd : 0 ≤ d) {n : Nat} {v0 : Nat} {v1 : Nat} {h : Hp} {o : Hp} (hf : f_X3_begin_15 n v0 v1 h = some o) : Run X d 28 15 [some (.ref v0), some (.ref v1), none] [] h (none, o) := by
  unfold f_X3_begin_15 at hf
  refine rs_aload_n i_X3_begin_15 rfl ?_
  obtain ⟨c1, hf⟩ := ite_some hf
  obtain ⟨a2, e2, hf⟩ := bind_some hf
  refine rs_getR i_X3_begin_16 (by decide) (by decide) c1 e2 ?_
  refine rs_iconst i_X3_begin_19 (v := 0) (by decide) ?_
  refine rs_aload_n i_X3_begin_20 rfl ?_
  obtain ⟨c3, hf⟩ := ite_some hf
  obtain ⟨a4, e4, hf⟩ := bind_some hf
  refine rs_getR i_X3_begin_21 (by decide) (by decide) c3 e4 ?_
  refine rs_iconst i_X3_begin_24 (v := 0) (by decide) ?_
  refine rs_bipush i_X3_begin_25 (v := 12) (by decide) ?_
  obtain ⟨c5, hf⟩ := ite_some hf
  refine rs_acp i_X3_begin_27 c5 (Nat.le_of_ble_eq_true rfl) ?_
  refine rs_iconst i_X3_begin_30 (v := 0) (by decide) ?_
  refine rs_istore_n i_X3_begin_31 (Nat.le_of_ble_eq_true rfl) (lv' := [some (.ref v0), some (.ref v1), some (.int 0)]) rfl ?_
  exact r_X3_begin_32 hd _ _ _ _ _ _ hf
def f_X3_begin_0 (n : Nat) (v0 : Nat) (v1 : Nat) (h : Hp) : Option Hp :=
  if okO h v1 0 then
  (gR h v1 0).bind fun a2 =>
  if okO h v0 3 then
  (gR h v0 0).bind fun a4 =>
  if okCp h a2 0 a4 0 12 then
  f_X3_begin_15 n v0 v1 (hcp h a2 (ix 0) a4 (ix 0) (ix 12))
  else none
  else none
  else none
set_option maxRecDepth 100000 in
set_option maxHeartbeats 4000000 in
theorem r_X3_begin_0 {X : Nat → Int32} {d : Nat} (hd : 0 ≤ d) {n : Nat} {v0 : Nat} {v1 : Nat} {h : Hp} {o : Hp} (hf : f_X3_begin_0 n v0 v1 h = some o) : Run X d 28 0 [some (.ref v0), some (.ref v1), none] [] h (none, o) := by
  unfold f_X3_begin_0 at hf
  refine rs_aload_n i_X3_begin_0 rfl ?_
  obtain ⟨c1, hf⟩ := ite_some hf
  obtain ⟨a2, e2, hf⟩ := bind_some hf
  refine rs_getR i_X3_begin_1 (by decide) (by decide) c1 e2 ?_
  refine rs_iconst i_X3_begin_4 (v := 0) (by decide) ?_
  refine rs_aload_n i_X3_begin_5 rfl ?_
  obtain ⟨c3, hf⟩ := ite_some hf
  obtain ⟨a4, e4, hf⟩ := bind_some hf
  refine rs_getR i_X3_begin_6 (by decide) (by decide) c3 e4 ?_
  refine rs_iconst i_X3_begin_9 (v := 0) (by decide) ?_
  refine rs_bipush i_X3_begin_10 (v := 12) (by decide) ?_
  obtain ⟨c5, hf⟩ := ite_some hf
  refine rs_acp i_X3_begin_12 c5 (Nat.le_of_ble_eq_true rfl) ?_
  exact r_X3_begin_15 hd hf
def f_X3_begin (n : Nat) (v0 : Nat) (v1 : Nat) (h : Hp) : Option Hp := f_X3_begin_0 n v0 v1 h
theorem c_X3_begin {X : Nat → Int32} {d : Nat} (hd : 0 ≤ d) {n : Nat} {v0 : Nat} {v1 : Nat} {h : Hp} {o : Hp} (hf : f_X3_begin n v0 v1 h = some o) : Calls X d 28 [.ref v0, .ref v1] h (none, o) := by
  exact ⟨_, rfl, r_X3_begin_0 hd hf⟩
theorem i_X3_become_0 : fetch 29 0 = some (.aload_n 1, 1, 0, 0, 0, 0) := by decide +kernel
theorem i_X3_become_1 : fetch 29 1 = some (.getfield 9, 4, 3, 0, 0, 238) := by decide +kernel
theorem i_X3_become_4 : fetch 29 4 = some (.iconst 0, 5, 0, 0, 0, 0) := by decide +kernel
theorem i_X3_become_5 : fetch 29 5 = some (.aload_n 0, 6, 0, 0, 0, 0) := by decide +kernel
theorem i_X3_become_6 : fetch 29 6 = some (.getfield 9, 9, 3, 0, 0, 238) := by decide +kernel
theorem i_X3_become_9 : fetch 29 9 = some (.iconst 0, 10, 0, 0, 0, 0) := by decide +kernel
theorem i_X3_become_10 : fetch 29 10 = some (.bipush 12, 12, 0, 0, 0, 0) := by decide +kernel
theorem i_X3_become_12 : fetch 29 12 = some (.invokestatic 57, 15, 1001, 0, 0, 600) := by decide +kernel
theorem i_X3_become_15 : fetch 29 15 = some (.aload_n 1, 16, 0, 0, 0, 0) := by decide +kernel
theorem i_X3_become_16 : fetch 29 16 = some (.getfield 15, 19, 3, 1, 0, 239) := by decide +kernel
theorem i_X3_become_19 : fetch 29 19 = some (.iconst 0, 20, 0, 0, 0, 0) := by decide +kernel
theorem i_X3_become_20 : fetch 29 20 = some (.aload_n 0, 21, 0, 0, 0, 0) := by decide +kernel
theorem i_X3_become_21 : fetch 29 21 = some (.getfield 15, 24, 3, 1, 0, 239) := by decide +kernel
theorem i_X3_become_24 : fetch 29 24 = some (.iconst 0, 25, 0, 0, 0, 0) := by decide +kernel
theorem i_X3_become_25 : fetch 29 25 = some (.bipush 12, 27, 0, 0, 0, 0) := by decide +kernel
theorem i_X3_become_27 : fetch 29 27 = some (.invokestatic 57, 30, 1001, 0, 0, 600) := by decide +kernel
theorem i_X3_become_30 : fetch 29 30 = some (.aload_n 1, 31, 0, 0, 0, 0) := by decide +kernel
theorem i_X3_become_31 : fetch 29 31 = some (.getfield 18, 34, 3, 2, 0, 241) := by decide +kernel
theorem i_X3_become_34 : fetch 29 34 = some (.iconst 0, 35, 0, 0, 0, 0) := by decide +kernel
theorem i_X3_become_35 : fetch 29 35 = some (.aload_n 0, 36, 0, 0, 0, 0) := by decide +kernel
theorem i_X3_become_36 : fetch 29 36 = some (.getfield 18, 39, 3, 2, 0, 241) := by decide +kernel
theorem i_X3_become_39 : fetch 29 39 = some (.iconst 0, 40, 0, 0, 0, 0) := by decide +kernel
theorem i_X3_become_40 : fetch 29 40 = some (.bipush 12, 42, 0, 0, 0, 0) := by decide +kernel
theorem i_X3_become_42 : fetch 29 42 = some (.invokestatic 57, 45, 1001, 0, 0, 600) := by decide +kernel
theorem i_X3_become_45 : fetch 29 45 = some (.aload_n 0, 46, 0, 0, 0, 0) := by decide +kernel
theorem i_X3_become_46 : fetch 29 46 = some (.aload_n 1, 47, 0, 0, 0, 0) := by decide +kernel
theorem i_X3_become_47 : fetch 29 47 = some (.getfield 31, 50, 3, 7, 0, 248) := by decide +kernel
theorem i_X3_become_50 : fetch 29 50 = some (.putfield 31, 53, 3, 7, 0, 248) := by decide +kernel
theorem i_X3_become_53 : fetch 29 53 = some (.aload_n 0, 54, 0, 0, 0, 0) := by decide +kernel
theorem i_X3_become_54 : fetch 29 54 = some (.aload_n 1, 55, 0, 0, 0, 0) := by decide +kernel
theorem i_X3_become_55 : fetch 29 55 = some (.getfield 35, 58, 3, 8, 0, 251) := by decide +kernel
theorem i_X3_become_58 : fetch 29 58 = some (.putfield 35, 61, 3, 8, 0, 251) := by decide +kernel
theorem i_X3_become_61 : fetch 29 61 = some (.aload_n 0, 62, 0, 0, 0, 0) := by decide +kernel
theorem i_X3_become_62 : fetch 29 62 = some (.aload_n 1, 63, 0, 0, 0, 0) := by decide +kernel
theorem i_X3_become_63 : fetch 29 63 = some (.getfield 38, 66, 3, 9, 0, 254) := by decide +kernel
theorem i_X3_become_66 : fetch 29 66 = some (.putfield 38, 69, 3, 9, 0, 254) := by decide +kernel
theorem i_X3_become_69 : fetch 29 69 = some (.aload_n 0, 70, 0, 0, 0, 0) := by decide +kernel
theorem i_X3_become_70 : fetch 29 70 = some (.aload_n 1, 71, 0, 0, 0, 0) := by decide +kernel
theorem i_X3_become_71 : fetch 29 71 = some (.getfield 43, 74, 3, 10, 0, 256) := by decide +kernel
theorem i_X3_become_74 : fetch 29 74 = some (.putfield 43, 77, 3, 10, 0, 256) := by decide +kernel
theorem i_X3_become_77 : fetch 29 77 = some (.aload_n 0, 78, 0, 0, 0, 0) := by decide +kernel
theorem i_X3_become_78 : fetch 29 78 = some (.aload_n 1, 79, 0, 0, 0, 0) := by decide +kernel
theorem i_X3_become_79 : fetch 29 79 = some (.getfield 47, 82, 3, 11, 0, 258) := by decide +kernel
theorem i_X3_become_82 : fetch 29 82 = some (.putfield 47, 85, 3, 11, 0, 258) := by decide +kernel
theorem i_X3_become_85 : fetch 29 85 = some (.return_, 86, 0, 0, 0, 0) := by decide +kernel
def f_X3_become_77 (v0 : Nat) (v1 : Nat) (h : Hp) : Option Hp :=
  if okO h v1 3 then
  if okO h v0 3 then
  some (hsl h v0 11 (gL' h v1 11))
  else none
  else none
set_option maxRecDepth 100000 in
set_option maxHeartbeats 4000000 in
theorem r_X3_become_77 {X : Nat → Int32} {d : Nat} (hd : 0 ≤ d) {v0 : Nat} {v1 : Nat} {h : Hp} {o : Hp} (hf : f_X3_become_77 v0 v1 h = some o) : Run X d 29 77 [some (.ref v0), some (.ref v1)] [] h (none, o) := by
  unfold f_X3_become_77 at hf
  refine rs_aload_n i_X3_become_77 rfl ?_
  refine rs_aload_n i_X3_become_78 rfl ?_
  obtain ⟨c1, hf⟩ := ite_some hf
  refine rs_getL i_X3_become_79 (by decide) (by decide) c1 ?_
  obtain ⟨c2, hf⟩ := ite_some hf
  refine rs_putL i_X3_become_82 (by decide) c2 ?_
  have hf := Option.some.inj hf
  subst hf
  exact rs_vret i_X3_become_85 m_X3_become rfl
def f_X3_become_69 (v0 : Nat) (v1 : Nat) (h : Hp) : Option Hp :=
  if okO h v1 3 then
  if okO h v0 3 then
  f_X3_become_77 v0 v1 (hsl h v0 10 (gL' h v1 10))
  else none
  else none
set_option maxRecDepth 100000 in
set_option maxHeartbeats 4000000 in
theorem r_X3_become_69 {X : Nat → Int32} {d : Nat} (hd : 0 ≤ d) {v0 : Nat} {v1 : Nat} {h : Hp} {o : Hp} (hf : f_X3_become_69 v0 v1 h = some o) : Run X d 29 69 [some (.ref v0), some (.ref v1)] [] h (none, o) := by
  unfold f_X3_become_69 at hf
  refine rs_aload_n i_X3_become_69 rfl ?_
  refine rs_aload_n i_X3_become_70 rfl ?_
  obtain ⟨c1, hf⟩ := ite_some hf
  refine rs_getL i_X3_become_71 (by decide) (by decide) c1 ?_
  obtain ⟨c2, hf⟩ := ite_some hf
  refine rs_putL i_X3_become_74 (by decide) c2 ?_
  exact r_X3_become_77 hd hf
def f_X3_become_61 (v0 : Nat) (v1 : Nat) (h : Hp) : Option Hp :=
  if okO h v1 3 then
  if okO h v0 3 then
  f_X3_become_69 v0 v1 (hsi h v0 9 (gI h v1 9))
  else none
  else none
set_option maxRecDepth 100000 in
set_option maxHeartbeats 4000000 in
theorem r_X3_become_61 {X : Nat → Int32} {d : Nat} (hd : 0 ≤ d) {v0 : Nat} {v1 : Nat} {h : Hp} {o : Hp} (hf : f_X3_become_61 v0 v1 h = some o) : Run X d 29 61 [some (.ref v0), some (.ref v1)] [] h (none, o) := by
  unfold f_X3_become_61 at hf
  refine rs_aload_n i_X3_become_61 rfl ?_
  refine rs_aload_n i_X3_become_62 rfl ?_
  obtain ⟨c1, hf⟩ := ite_some hf
  refine rs_getI i_X3_become_63 (by decide) (by decide) c1 ?_
  obtain ⟨c2, hf⟩ := ite_some hf
  refine rs_putI i_X3_become_66 (by decide) c2 ?_
  exact r_X3_become_69 hd hf
def f_X3_become_53 (v0 : Nat) (v1 : Nat) (h : Hp) : Option Hp :=
  if okO h v1 3 then
  if okO h v0 3 then
  f_X3_become_61 v0 v1 (hsi h v0 8 (gI h v1 8))
  else none
  else none
set_option maxRecDepth 100000 in
set_option maxHeartbeats 4000000 in
theorem r_X3_become_53 {X : Nat → Int32} {d : Nat} (hd : 0 ≤ d) {v0 : Nat} {v1 : Nat} {h : Hp} {o : Hp} (hf : f_X3_become_53 v0 v1 h = some o) : Run X d 29 53 [some (.ref v0), some (.ref v1)] [] h (none, o) := by
  unfold f_X3_become_53 at hf
  refine rs_aload_n i_X3_become_53 rfl ?_
  refine rs_aload_n i_X3_become_54 rfl ?_
  obtain ⟨c1, hf⟩ := ite_some hf
  refine rs_getI i_X3_become_55 (by decide) (by decide) c1 ?_
  obtain ⟨c2, hf⟩ := ite_some hf
  refine rs_putI i_X3_become_58 (by decide) c2 ?_
  exact r_X3_become_61 hd hf
def f_X3_become_45 (v0 : Nat) (v1 : Nat) (h : Hp) : Option Hp :=
  if okO h v1 3 then
  if okO h v0 3 then
  f_X3_become_53 v0 v1 (hsi h v0 7 (gI h v1 7))
  else none
  else none
set_option maxRecDepth 100000 in
set_option maxHeartbeats 4000000 in
theorem r_X3_become_45 {X : Nat → Int32} {d : Nat} (hd : 0 ≤ d) {v0 : Nat} {v1 : Nat} {h : Hp} {o : Hp} (hf : f_X3_become_45 v0 v1 h = some o) : Run X d 29 45 [some (.ref v0), some (.ref v1)] [] h (none, o) := by
  unfold f_X3_become_45 at hf
  refine rs_aload_n i_X3_become_45 rfl ?_
  refine rs_aload_n i_X3_become_46 rfl ?_
  obtain ⟨c1, hf⟩ := ite_some hf
  refine rs_getI i_X3_become_47 (by decide) (by decide) c1 ?_
  obtain ⟨c2, hf⟩ := ite_some hf
  refine rs_putI i_X3_become_50 (by decide) c2 ?_
  exact r_X3_become_53 hd hf
def f_X3_become_30 (v0 : Nat) (v1 : Nat) (h : Hp) : Option Hp :=
  if okO h v1 3 then
  (gR h v1 2).bind fun a2 =>
  if okO h v0 3 then
  (gR h v0 2).bind fun a4 =>
  if okCp h a2 0 a4 0 12 then
  f_X3_become_45 v0 v1 (hcp h a2 (ix 0) a4 (ix 0) (ix 12))
  else none
  else none
  else none
set_option maxRecDepth 100000 in
set_option maxHeartbeats 4000000 in
theorem r_X3_become_30 {X : Nat → Int32} {d : Nat} (hd : 0 ≤ d) {v0 : Nat} {v1 : Nat} {h : Hp} {o : Hp} (hf : f_X3_become_30 v0 v1 h = some o) : Run X d 29 30 [some (.ref v0), some (.ref v1)] [] h (none, o) := by
  unfold f_X3_become_30 at hf
  refine rs_aload_n i_X3_become_30 rfl ?_
  obtain ⟨c1, hf⟩ := ite_some hf
  obtain ⟨a2, e2, hf⟩ := bind_some hf
  refine rs_getR i_X3_become_31 (by decide) (by decide) c1 e2 ?_
  refine rs_iconst i_X3_become_34 (v := 0) (by decide) ?_
  refine rs_aload_n i_X3_become_35 rfl ?_
  obtain ⟨c3, hf⟩ := ite_some hf
  obtain ⟨a4, e4, hf⟩ := bind_some hf
  refine rs_getR i_X3_become_36 (by decide) (by decide) c3 e4 ?_
  refine rs_iconst i_X3_become_39 (v := 0) (by decide) ?_
  refine rs_bipush i_X3_become_40 (v := 12) (by decide) ?_
  obtain ⟨c5, hf⟩ := ite_some hf
  refine rs_acp i_X3_become_42 c5 (Nat.le_of_ble_eq_true rfl) ?_
  exact r_X3_become_45 hd hf
def f_X3_become_15 (v0 : Nat) (v1 : Nat) (h : Hp) : Option Hp :=
  if okO h v1 3 then
  (gR h v1 1).bind fun a2 =>
  if okO h v0 3 then
  (gR h v0 1).bind fun a4 =>
  if okCp h a2 0 a4 0 12 then
  f_X3_become_30 v0 v1 (hcp h a2 (ix 0) a4 (ix 0) (ix 12))
  else none
  else none
  else none
set_option maxRecDepth 100000 in
set_option maxHeartbeats 4000000 in
theorem r_X3_become_15 {X : Nat → Int32} {d : Nat} (hd : 0 ≤ d) {v0 : Nat} {v1 : Nat} {h : Hp} {o : Hp} (hf : f_X3_become_15 v0 v1 h = some o) : Run X d 29 15 [some (.ref v0), some (.ref v1)] [] h (none, o) := by
  unfold f_X3_become_15 at hf
  refine rs_aload_n i_X3_become_15 rfl ?_
  obtain ⟨c1, hf⟩ := ite_some hf
  obtain ⟨a2, e2, hf⟩ := bind_some hf
  refine rs_getR i_X3_become_16 (by decide) (by decide) c1 e2 ?_
  refine rs_iconst i_X3_become_19 (v := 0) (by decide) ?_
  refine rs_aload_n i_X3_become_20 rfl ?_
  obtain ⟨c3, hf⟩ := ite_some hf
  obtain ⟨a4, e4, hf⟩ := bind_some hf
  refine rs_getR i_X3_become_21 (by decide) (by decide) c3 e4 ?_
  refine rs_iconst i_X3_become_24 (v := 0) (by decide) ?_
  refine rs_bipush i_X3_become_25 (v := 12) (by decide) ?_
  obtain ⟨c5, hf⟩ := ite_some hf
  refine rs_acp i_X3_become_27 c5 (Nat.le_of_ble_eq_true rfl) ?_
  exact r_X3_become_30 hd hf
def f_X3_become_0 (v0 : Nat) (v1 : Nat) (h : Hp) : Option Hp :=
  if okO h v1 3 then
  (gR h v1 0).bind fun a2 =>
  if okO h v0 3 then
  (gR h v0 0).bind fun a4 =>
  if okCp h a2 0 a4 0 12 then
  f_X3_become_15 v0 v1 (hcp h a2 (ix 0) a4 (ix 0) (ix 12))
  else none
  else none
  else none
set_option maxRecDepth 100000 in
set_option maxHeartbeats 4000000 in
theorem r_X3_become_0 {X : Nat → Int32} {d : Nat} (hd : 0 ≤ d) {v0 : Nat} {v1 : Nat} {h : Hp} {o : Hp} (hf : f_X3_become_0 v0 v1 h = some o) : Run X d 29 0 [some (.ref v0), some (.ref v1)] [] h (none, o) := by
  unfold f_X3_become_0 at hf
  refine rs_aload_n i_X3_become_0 rfl ?_
  obtain ⟨c1, hf⟩ := ite_some hf
  obtain ⟨a2, e2, hf⟩ := bind_some hf
  refine rs_getR i_X3_become_1 (by decide) (by decide) c1 e2 ?_
  refine rs_iconst i_X3_become_4 (v := 0) (by decide) ?_
  refine rs_aload_n i_X3_become_5 rfl ?_
  obtain ⟨c3, hf⟩ := ite_some hf
  obtain ⟨a4, e4, hf⟩ := bind_some hf
  refine rs_getR i_X3_become_6 (by decide) (by decide) c3 e4 ?_
  refine rs_iconst i_X3_become_9 (v := 0) (by decide) ?_
  refine rs_bipush i_X3_become_10 (v := 12) (by decide) ?_
  obtain ⟨c5, hf⟩ := ite_some hf
  refine rs_acp i_X3_become_12 c5 (Nat.le_of_ble_eq_true rfl) ?_
  exact r_X3_become_15 hd hf
def f_X3_become (v0 : Nat) (v1 : Nat) (h : Hp) : Option Hp := f_X3_become_0 v0 v1 h
theorem c_X3_become {X : Nat → Int32} {d : Nat} (hd : 0 ≤ d) {v0 : Nat} {v1 : Nat} {h : Hp} {o : Hp} (hf : f_X3_become v0 v1 h = some o) : Calls X d 29 [.ref v0, .ref v1] h (none, o) := by
  exact ⟨_, rfl, r_X3_become_0 hd hf⟩
theorem i_X3_bounce_0 : fetch 34 0 = some (.iconst 0, 1, 0, 0, 0, 0) := by decide +kernel
theorem i_X3_bounce_1 : fetch 34 1 = some (.istore_n 1, 2, 0, 0, 0, 0) := by decide +kernel
theorem i_X3_bounce_2 : fetch 34 2 = some (.iload_n 1, 3, 0, 0, 0, 0) := by decide +kernel
theorem i_X3_bounce_3 : fetch 34 3 = some (.bipush 12, 5, 0, 0, 0, 0) := by decide +kernel
theorem i_X3_bounce_5 : fetch 34 5 = some (.if_icmp .ge 75, 8, 0, 0, 0, 0) := by decide +kernel
theorem i_X3_bounce_8 : fetch 34 8 = some (.iload_n 1, 9, 0, 0, 0, 0) := by decide +kernel
theorem i_X3_bounce_9 : fetch 34 9 = some (.ifCond .le 14, 12, 0, 0, 0, 0) := by decide +kernel
theorem i_X3_bounce_12 : fetch 34 12 = some (.aload_n 0, 13, 0, 0, 0, 0) := by decide +kernel
theorem i_X3_bounce_13 : fetch 34 13 = some (.getfield 15, 16, 3, 1, 0, 239) := by decide +kernel
theorem i_X3_bounce_16 : fetch 34 16 = some (.iload_n 1, 17, 0, 0, 0, 0) := by decide +kernel
theorem i_X3_bounce_17 : fetch 34 17 = some (.iconst 1, 18, 0, 0, 0, 0) := by decide +kernel
theorem i_X3_bounce_18 : fetch 34 18 = some (.isub, 19, 0, 0, 0, 0) := by decide +kernel
theorem i_X3_bounce_19 : fetch 34 19 = some (.iaload, 20, 0, 0, 0, 0) := by decide +kernel
theorem i_X3_bounce_20 : fetch 34 20 = some (.goto 9, 23, 0, 0, 0, 0) := by decide +kernel
theorem i_X3_bounce_23 : fetch 34 23 = some (.aload_n 0, 24, 0, 0, 0, 0) := by decide +kernel
theorem i_X3_bounce_24 : fetch 34 24 = some (.getfield 15, 27, 3, 1, 0, 239) := by decide +kernel
theorem i_X3_bounce_27 : fetch 34 27 = some (.iload_n 1, 28, 0, 0, 0, 0) := by decide +kernel
theorem i_X3_bounce_28 : fetch 34 28 = some (.iaload, 29, 0, 0, 0, 0) := by decide +kernel
theorem i_X3_bounce_29 : fetch 34 29 = some (.istore_n 2, 30, 0, 0, 0, 0) := by decide +kernel
theorem i_X3_bounce_30 : fetch 34 30 = some (.iload_n 1, 31, 0, 0, 0, 0) := by decide +kernel
theorem i_X3_bounce_31 : fetch 34 31 = some (.bipush 11, 33, 0, 0, 0, 0) := by decide +kernel
theorem i_X3_bounce_33 : fetch 34 33 = some (.if_icmp .ge 14, 36, 0, 0, 0, 0) := by decide +kernel
theorem i_X3_bounce_36 : fetch 34 36 = some (.aload_n 0, 37, 0, 0, 0, 0) := by decide +kernel
theorem i_X3_bounce_37 : fetch 34 37 = some (.getfield 15, 40, 3, 1, 0, 239) := by decide +kernel
theorem i_X3_bounce_40 : fetch 34 40 = some (.iload_n 1, 41, 0, 0, 0, 0) := by decide +kernel
theorem i_X3_bounce_41 : fetch 34 41 = some (.iconst 1, 42, 0, 0, 0, 0) := by decide +kernel
theorem i_X3_bounce_42 : fetch 34 42 = some (.iadd, 43, 0, 0, 0, 0) := by decide +kernel
theorem i_X3_bounce_43 : fetch 34 43 = some (.iaload, 44, 0, 0, 0, 0) := by decide +kernel
theorem i_X3_bounce_44 : fetch 34 44 = some (.goto 9, 47, 0, 0, 0, 0) := by decide +kernel
theorem i_X3_bounce_47 : fetch 34 47 = some (.aload_n 0, 48, 0, 0, 0, 0) := by decide +kernel
theorem i_X3_bounce_48 : fetch 34 48 = some (.getfield 15, 51, 3, 1, 0, 239) := by decide +kernel
theorem i_X3_bounce_51 : fetch 34 51 = some (.iload_n 1, 52, 0, 0, 0, 0) := by decide +kernel
theorem i_X3_bounce_52 : fetch 34 52 = some (.iaload, 53, 0, 0, 0, 0) := by decide +kernel
theorem i_X3_bounce_53 : fetch 34 53 = some (.istore_n 3, 54, 0, 0, 0, 0) := by decide +kernel
theorem i_X3_bounce_54 : fetch 34 54 = some (.aload_n 0, 55, 0, 0, 0, 0) := by decide +kernel
theorem i_X3_bounce_55 : fetch 34 55 = some (.getfield 24, 58, 3, 4, 0, 245) := by decide +kernel
theorem i_X3_bounce_58 : fetch 34 58 = some (.iload_n 1, 59, 0, 0, 0, 0) := by decide +kernel
theorem i_X3_bounce_59 : fetch 34 59 = some (.iconst 2, 60, 0, 0, 0, 0) := by decide +kernel
theorem i_X3_bounce_60 : fetch 34 60 = some (.aload_n 0, 61, 0, 0, 0, 0) := by decide +kernel
theorem i_X3_bounce_61 : fetch 34 61 = some (.getfield 15, 64, 3, 1, 0, 239) := by decide +kernel
theorem i_X3_bounce_64 : fetch 34 64 = some (.iload_n 1, 65, 0, 0, 0, 0) := by decide +kernel
theorem i_X3_bounce_65 : fetch 34 65 = some (.iaload, 66, 0, 0, 0, 0) := by decide +kernel
theorem i_X3_bounce_66 : fetch 34 66 = some (.imul, 67, 0, 0, 0, 0) := by decide +kernel
theorem i_X3_bounce_67 : fetch 34 67 = some (.iload_n 2, 68, 0, 0, 0, 0) := by decide +kernel
theorem i_X3_bounce_68 : fetch 34 68 = some (.iadd, 69, 0, 0, 0, 0) := by decide +kernel
theorem i_X3_bounce_69 : fetch 34 69 = some (.iload_n 3, 70, 0, 0, 0, 0) := by decide +kernel
theorem i_X3_bounce_70 : fetch 34 70 = some (.iadd, 71, 0, 0, 0, 0) := by decide +kernel
theorem i_X3_bounce_71 : fetch 34 71 = some (.iconst 4, 72, 0, 0, 0, 0) := by decide +kernel
theorem i_X3_bounce_72 : fetch 34 72 = some (.idiv, 73, 0, 0, 0, 0) := by decide +kernel
theorem i_X3_bounce_73 : fetch 34 73 = some (.iastore, 74, 0, 0, 0, 0) := by decide +kernel
theorem i_X3_bounce_74 : fetch 34 74 = some (.iinc 1 1, 77, 0, 0, 0, 0) := by decide +kernel
theorem i_X3_bounce_77 : fetch 34 77 = some (.goto (-75), 80, 0, 0, 0, 0) := by decide +kernel
theorem i_X3_bounce_80 : fetch 34 80 = some (.aload_n 0, 81, 0, 0, 0, 0) := by decide +kernel
theorem i_X3_bounce_81 : fetch 34 81 = some (.getfield 24, 84, 3, 4, 0, 245) := by decide +kernel
theorem i_X3_bounce_84 : fetch 34 84 = some (.iconst 0, 85, 0, 0, 0, 0) := by decide +kernel
theorem i_X3_bounce_85 : fetch 34 85 = some (.aload_n 0, 86, 0, 0, 0, 0) := by decide +kernel
theorem i_X3_bounce_86 : fetch 34 86 = some (.getfield 15, 89, 3, 1, 0, 239) := by decide +kernel
theorem i_X3_bounce_89 : fetch 34 89 = some (.iconst 0, 90, 0, 0, 0, 0) := by decide +kernel
theorem i_X3_bounce_90 : fetch 34 90 = some (.bipush 12, 92, 0, 0, 0, 0) := by decide +kernel
theorem i_X3_bounce_92 : fetch 34 92 = some (.invokestatic 57, 95, 1001, 0, 0, 600) := by decide +kernel
theorem i_X3_bounce_95 : fetch 34 95 = some (.return_, 96, 0, 0, 0, 0) := by decide +kernel
def f_X3_bounce_53 (n : Nat) (K2 : Nat → Int32 → Hp → Option Hp) (v0 : Nat) (v1 : Int32) (v2 : Int32) (s0 : Int32) (h : Hp) : Option Hp :=
  if okO h v0 3 then
  (gR h v0 4).bind fun a2 =>
  (gR h v0 1).bind fun a3 =>
  if okI h a3 v1 then
  if okI h a2 v1 then
  K2 v0 (v1 + 1) (hsi h a2 (ix v1) ((((2 * (gI h a3 (ix v1))) + v2) + s0) / 4))
  else none
  else none
  else none
set_option maxRecDepth 100000 in
set_option maxHeartbeats 4000000 in
theorem r_X3_bounce_53 {X : Nat → Int32} {d : Nat} (hd : 0 ≤ d) {n : Nat} {K2 : Nat → Int32 → Hp → Option Hp} (HK2 : ∀ (v0 : Nat) (v1 : Int32) (w2 : Option Value) (w3 : Option Value) (h : Hp) (o : Hp), K2 v0 v1 h = some o → Run X d 34 2 [some (.ref v0), some (.int v1), w2, w3] [] h (none, o)) {v0 : Nat} {v1 : Int32} {v2 : Int32} {s0 : Int32} {w3 : Option Value} {h : Hp} {o : Hp} (hf : f_X3_bounce_53 n K2 v0 v1 v2 s0 h = some o) : Run X d 34 53 [some (.ref v0), some (.int v1), some (.int v2), w3] [.int s0] h (none, o) := by
  unfold f_X3_bounce_53 at hf
  refine rs_istore_n i_X3_bounce_53 (Nat.le_of_ble_eq_true rfl) (lv' := [some (.ref v0), some (.int v1), some (.int v2), some (.int s0)]) rfl ?_
  refine rs_aload_n i_X3_bounce_54 rfl ?_
  obtain ⟨c1, hf⟩ := ite_some hf
  obtain ⟨a2, e2, hf⟩ := bind_some hf
  refine rs_getR i_X3_bounce_55 (by decide) (by decide) c1 e2 ?_
  refine rs_iload_n i_X3_bounce_58 rfl ?_
  refine rs_iconst i_X3_bounce_59 (v := 2) (by decide) ?_
  refine rs_aload_n i_X3_bounce_60 rfl ?_
  obtain ⟨a3, e3, hf⟩ := bind_some hf
  refine rs_getR i_X3_bounce_61 (by decide) (by decide) c1 e3 ?_
  refine rs_iload_n i_X3_bounce_64 rfl ?_
  obtain ⟨c4, hf⟩ := ite_some hf
  refine rs_iald i_X3_bounce_65 c4 ?_
  refine rs_imul i_X3_bounce_66 ?_
  refine rs_iload_n i_X3_bounce_67 rfl ?_
  refine rs_iadd i_X3_bounce_68 ?_
  refine rs_iload_n i_X3_bounce_69 rfl ?_
  refine rs_iadd i_X3_bounce_70 ?_
  refine rs_iconst i_X3_bounce_71 (v := 4) (by decide) ?_
  refine rs_idiv i_X3_bounce_72 (by decide) ?_
  obtain ⟨c5, hf⟩ := ite_some hf
  refine rs_iast i_X3_bounce_73 c5 ?_
  refine rs_iinc i_X3_bounce_74 rfl (v := v1 + 1) rfl (Nat.le_of_ble_eq_true rfl) (lv' := [some (.ref v0), some (.int (v1 + 1)), some (.int v2), some (.int s0)]) rfl ?_
  refine rs_goto i_X3_bounce_77 (tg := 2) (by decide) ?_
  exact HK2 _ _ _ _ _ _ hf
def f_X3_bounce_29 (n : Nat) (K2 : Nat → Int32 → Hp → Option Hp) (v0 : Nat) (v1 : Int32) (s0 : Int32) (h : Hp) : Option Hp :=
  if 11 ≤ v1 then
    if okO h v0 3 then
    (gR h v0 1).bind fun a3 =>
    if okI h a3 v1 then
    f_X3_bounce_53 n K2 v0 v1 s0 (gI h a3 (ix v1)) h
    else none
    else none
  else
    if okO h v0 3 then
    (gR h v0 1).bind fun a6 =>
    if okI h a6 (v1 + 1) then
    f_X3_bounce_53 n K2 v0 v1 s0 (gI h a6 (ix (v1 + 1))) h
    else none
    else none
set_option maxRecDepth 100000 in
set_option maxHeartbeats 4000000 in
theorem r_X3_bounce_29 {X : Nat → Int32} {d : Nat} (hd : 0 ≤ d) {n : Nat} {K2 : Nat → Int32 → Hp → Option Hp} (HK2 : ∀ (v0 : Nat) (v1 : Int32) (w2 : Option Value) (w3 : Option Value) (h : Hp) (o : Hp), K2 v0 v1 h = some o → Run X d 34 2 [some (.ref v0), some (.int v1), w2, w3] [] h (none, o)) {v0 : Nat} {v1 : Int32} {s0 : Int32} {w2 : Option Value} {w3 : Option Value} {h : Hp} {o : Hp} (hf : f_X3_bounce_29 n K2 v0 v1 s0 h = some o) : Run X d 34 29 [some (.ref v0), some (.int v1), w2, w3] [.int s0] h (none, o) := by
  unfold f_X3_bounce_29 at hf
  refine rs_istore_n i_X3_bounce_29 (Nat.le_of_ble_eq_true rfl) (lv' := [some (.ref v0), some (.int v1), some (.int s0), w3]) rfl ?_
  refine rs_iload_n i_X3_bounce_30 rfl ?_
  refine rs_bipush i_X3_bounce_31 (v := 11) (by decide) ?_
  by_cases c1 : 11 ≤ v1
  · replace hf := (if_pos c1).symm.trans hf
    refine rs_icT i_X3_bounce_33 (ct_ge c1) (tg := 47) (by decide) ?_
    refine rs_aload_n i_X3_bounce_47 rfl ?_
    obtain ⟨c2, hf⟩ := ite_some hf
    obtain ⟨a3, e3, hf⟩ := bind_some hf
    refine rs_getR i_X3_bounce_48 (by decide) (by decide) c2 e3 ?_
    refine rs_iload_n i_X3_bounce_51 rfl ?_
    obtain ⟨c4, hf⟩ := ite_some hf
    refine rs_iald i_X3_bounce_52 c4 ?_
    exact r_X3_bounce_53 hd HK2 hf
  · replace hf := (if_neg c1).symm.trans hf
    refine rs_icF i_X3_bounce_33 (cf_ge c1) ?_
    refine rs_aload_n i_X3_bounce_36 rfl ?_
    obtain ⟨c5, hf⟩ := ite_some hf
    obtain ⟨a6, e6, hf⟩ := bind_some hf
    refine rs_getR i_X3_bounce_37 (by decide) (by decide) c5 e6 ?_
    refine rs_iload_n i_X3_bounce_40 rfl ?_
    refine rs_iconst i_X3_bounce_41 (v := 1) (by decide) ?_
    refine rs_iadd i_X3_bounce_42 ?_
    obtain ⟨c7, hf⟩ := ite_some hf
    refine rs_iald i_X3_bounce_43 c7 ?_
    refine rs_goto i_X3_bounce_44 (tg := 53) (by decide) ?_
    exact r_X3_bounce_53 hd HK2 hf
def f_X3_bounce_2 (n : Nat) : Nat → Nat → Int32 → Hp → Option Hp
  | 0, _, _, _ => none
  | m + 1, v0, v1, h =>
    if 12 ≤ v1 then
      if okO h v0 3 then
      (gR h v0 4).bind fun a3 =>
      (gR h v0 1).bind fun a4 =>
      if okCp h a3 0 a4 0 12 then
      some (hcp h a3 (ix 0) a4 (ix 0) (ix 12))
      else none
      else none
    else
      if v1 ≤ 0 then
        if okO h v0 3 then
        (gR h v0 1).bind fun a8 =>
        if okI h a8 v1 then
        f_X3_bounce_29 n (f_X3_bounce_2 n m) v0 v1 (gI h a8 (ix v1)) h
        else none
        else none
      else
        if okO h v0 3 then
        (gR h v0 1).bind fun a11 =>
        if okI h a11 (v1 - 1) then
        f_X3_bounce_29 n (f_X3_bounce_2 n m) v0 v1 (gI h a11 (ix (v1 - 1))) h
        else none
        else none
set_option maxRecDepth 100000 in
set_option maxHeartbeats 4000000 in
theorem r_X3_bounce_2 {X : Nat → Int32} {d : Nat} (hd : 0 ≤ d) {n : Nat} : ∀ (m : Nat) (v0 : Nat) (v1 : Int32) (w2 : Option Value) (w3 : Option Value) (h : Hp) (o : Hp), f_X3_bounce_2 n m v0 v1 h = some o → Run X d 34 2 [some (.ref v0), some (.int v1), w2, w3] [] h (none, o) := by
  intro m
  induction m with
  | zero => intro v0 v1 w2 w3 h o hf; cases hf
  | succ m ih =>
    intro v0 v1 w2 w3 h o hf
    rw [f_X3_bounce_2] at hf
    refine rs_iload_n i_X3_bounce_2 rfl ?_
    refine rs_bipush i_X3_bounce_3 (v := 12) (by decide) ?_
    by_cases c1 : 12 ≤ v1
    · replace hf := (if_pos c1).symm.trans hf
      refine rs_icT i_X3_bounce_5 (ct_ge c1) (tg := 80) (by decide) ?_
      refine rs_aload_n i_X3_bounce_80 rfl ?_
      obtain ⟨c2, hf⟩ := ite_some hf
      obtain ⟨a3, e3, hf⟩ := bind_some hf
      refine rs_getR i_X3_bounce_81 (by decide) (by decide) c2 e3 ?_
      refine rs_iconst i_X3_bounce_84 (v := 0) (by decide) ?_
      refine rs_aload_n i_X3_bounce_85 rfl ?_
      obtain ⟨a4, e4, hf⟩ := bind_some hf
      refine rs_getR i_X3_bounce_86 (by decide) (by decide) c2 e4 ?_
      refine rs_iconst i_X3_bounce_89 (v := 0) (by decide) ?_
      refine rs_bipush i_X3_bounce_90 (v := 12) (by decide) ?_
      obtain ⟨c5, hf⟩ := ite_some hf
      refine rs_acp i_X3_bounce_92 c5 (Nat.le_of_ble_eq_true rfl) ?_
      have hf := Option.some.inj hf
      subst hf
      exact rs_vret i_X3_bounce_95 m_X3_bounce rfl
    · replace hf := (if_neg c1).symm.trans hf
      refine rs_icF i_X3_bounce_5 (cf_ge c1) ?_
      refine rs_iload_n i_X3_bounce_8 rfl ?_
      by_cases c6 : v1 ≤ 0
      · replace hf := (if_pos c6).symm.trans hf
        refine rs_ifT i_X3_bounce_9 (ct_le c6) (tg := 23) (by decide) ?_
        refine rs_aload_n i_X3_bounce_23 rfl ?_
        obtain ⟨c7, hf⟩ := ite_some hf
        obtain ⟨a8, e8, hf⟩ := bind_some hf
        refine rs_getR i_X3_bounce_24 (by decide) (by decide) c7 e8 ?_
        refine rs_iload_n i_X3_bounce_27 rfl ?_
        obtain ⟨c9, hf⟩ := ite_some hf
        refine rs_iald i_X3_bounce_28 c9 ?_
        exact r_X3_bounce_29 hd ih hf
      · replace hf := (if_neg c6).symm.trans hf
        refine rs_ifF i_X3_bounce_9 (cf_le c6) ?_
        refine rs_aload_n i_X3_bounce_12 rfl ?_
        obtain ⟨c10, hf⟩ := ite_some hf
        obtain ⟨a11, e11, hf⟩ := bind_some hf
        refine rs_getR i_X3_bounce_13 (by decide) (by decide) c10 e11 ?_
        refine rs_iload_n i_X3_bounce_16 rfl ?_
        refine rs_iconst i_X3_bounce_17 (v := 1) (by decide) ?_
        refine rs_isub i_X3_bounce_18 ?_
        obtain ⟨c12, hf⟩ := ite_some hf
        refine rs_iald i_X3_bounce_19 c12 ?_
        refine rs_goto i_X3_bounce_20 (tg := 29) (by decide) ?_
        exact r_X3_bounce_29 hd ih hf
def f_X3_bounce_0 (n : Nat) (v0 : Nat) (h : Hp) : Option Hp :=
  f_X3_bounce_2 n n v0 0 h
set_option maxRecDepth 100000 in
set_option maxHeartbeats 4000000 in
theorem r_X3_bounce_0 {X : Nat → Int32} {d : Nat} (hd : 0 ≤ d) {n : Nat} {v0 : Nat} {h : Hp} {o : Hp} (hf : f_X3_bounce_0 n v0 h = some o) : Run X d 34 0 [some (.ref v0), none, none, none] [] h (none, o) := by
  unfold f_X3_bounce_0 at hf
  refine rs_iconst i_X3_bounce_0 (v := 0) (by decide) ?_
  refine rs_istore_n i_X3_bounce_1 (Nat.le_of_ble_eq_true rfl) (lv' := [some (.ref v0), some (.int 0), none, none]) rfl ?_
  exact r_X3_bounce_2 hd _ _ _ _ _ _ _ hf
def f_X3_bounce (n : Nat) (v0 : Nat) (h : Hp) : Option Hp := f_X3_bounce_0 n v0 h
theorem c_X3_bounce {X : Nat → Int32} {d : Nat} (hd : 0 ≤ d) {n : Nat} {v0 : Nat} {h : Hp} {o : Hp} (hf : f_X3_bounce n v0 h = some o) : Calls X d 34 [.ref v0] h (none, o) := by
  exact ⟨_, rfl, r_X3_bounce_0 hd hf⟩
theorem i_X3_cutEnd_0 : fetch 38 0 = some (.aload_n 0, 1, 0, 0, 0, 0) := by decide +kernel
theorem i_X3_cutEnd_1 : fetch 38 1 = some (.getfield 9, 4, 3, 0, 0, 238) := by decide +kernel
theorem i_X3_cutEnd_4 : fetch 38 4 = some (.iload_n 1, 5, 0, 0, 0, 0) := by decide +kernel
theorem i_X3_cutEnd_5 : fetch 38 5 = some (.iaload, 6, 0, 0, 0, 0) := by decide +kernel
theorem i_X3_cutEnd_6 : fetch 38 6 = some (.iload_n 2, 7, 0, 0, 0, 0) := by decide +kernel
theorem i_X3_cutEnd_7 : fetch 38 7 = some (.imul, 8, 0, 0, 0, 0) := by decide +kernel
theorem i_X3_cutEnd_8 : fetch 38 8 = some (.bipush 10, 10, 0, 0, 0, 0) := by decide +kernel
theorem i_X3_cutEnd_10 : fetch 38 10 = some (.idiv, 11, 0, 0, 0, 0) := by decide +kernel
theorem i_X3_cutEnd_11 : fetch 38 11 = some (.istore_n 3, 12, 0, 0, 0, 0) := by decide +kernel
theorem i_X3_cutEnd_12 : fetch 38 12 = some (.aload_n 0, 13, 0, 0, 0, 0) := by decide +kernel
theorem i_X3_cutEnd_13 : fetch 38 13 = some (.dup, 14, 0, 0, 0, 0) := by decide +kernel
theorem i_X3_cutEnd_14 : fetch 38 14 = some (.getfield 38, 17, 3, 9, 0, 254) := by decide +kernel
theorem i_X3_cutEnd_17 : fetch 38 17 = some (.iload_n 3, 18, 0, 0, 0, 0) := by decide +kernel
theorem i_X3_cutEnd_18 : fetch 38 18 = some (.iadd, 19, 0, 0, 0, 0) := by decide +kernel
theorem i_X3_cutEnd_19 : fetch 38 19 = some (.putfield 38, 22, 3, 9, 0, 254) := by decide +kernel
theorem i_X3_cutEnd_22 : fetch 38 22 = some (.aload_n 0, 23, 0, 0, 0, 0) := by decide +kernel
theorem i_X3_cutEnd_23 : fetch 38 23 = some (.getfield 9, 26, 3, 0, 0, 238) := by decide +kernel
theorem i_X3_cutEnd_26 : fetch 38 26 = some (.iload_n 1, 27, 0, 0, 0, 0) := by decide +kernel
theorem i_X3_cutEnd_27 : fetch 38 27 = some (.iconst 1, 28, 0, 0, 0, 0) := by decide +kernel
theorem i_X3_cutEnd_28 : fetch 38 28 = some (.aload_n 0, 29, 0, 0, 0, 0) := by decide +kernel
theorem i_X3_cutEnd_29 : fetch 38 29 = some (.getfield 9, 32, 3, 0, 0, 238) := by decide +kernel
theorem i_X3_cutEnd_32 : fetch 38 32 = some (.iload_n 1, 33, 0, 0, 0, 0) := by decide +kernel
theorem i_X3_cutEnd_33 : fetch 38 33 = some (.iaload, 34, 0, 0, 0, 0) := by decide +kernel
theorem i_X3_cutEnd_34 : fetch 38 34 = some (.iload_n 3, 35, 0, 0, 0, 0) := by decide +kernel
theorem i_X3_cutEnd_35 : fetch 38 35 = some (.isub, 36, 0, 0, 0, 0) := by decide +kernel
theorem i_X3_cutEnd_36 : fetch 38 36 = some (.invokestatic 105, 39, 1003, 0, 0, 682) := by decide +kernel
theorem i_X3_cutEnd_39 : fetch 38 39 = some (.iastore, 40, 0, 0, 0, 0) := by decide +kernel
theorem i_X3_cutEnd_40 : fetch 38 40 = some (.aload_n 0, 41, 0, 0, 0, 0) := by decide +kernel
theorem i_X3_cutEnd_41 : fetch 38 41 = some (.getfield 15, 44, 3, 1, 0, 239) := by decide +kernel
theorem i_X3_cutEnd_44 : fetch 38 44 = some (.iload_n 1, 45, 0, 0, 0, 0) := by decide +kernel
theorem i_X3_cutEnd_45 : fetch 38 45 = some (.iconst 1, 46, 0, 0, 0, 0) := by decide +kernel
theorem i_X3_cutEnd_46 : fetch 38 46 = some (.aload_n 0, 47, 0, 0, 0, 0) := by decide +kernel
theorem i_X3_cutEnd_47 : fetch 38 47 = some (.getfield 15, 50, 3, 1, 0, 239) := by decide +kernel
theorem i_X3_cutEnd_50 : fetch 38 50 = some (.iload_n 1, 51, 0, 0, 0, 0) := by decide +kernel
theorem i_X3_cutEnd_51 : fetch 38 51 = some (.iaload, 52, 0, 0, 0, 0) := by decide +kernel
theorem i_X3_cutEnd_52 : fetch 38 52 = some (.aload_n 0, 53, 0, 0, 0, 0) := by decide +kernel
theorem i_X3_cutEnd_53 : fetch 38 53 = some (.getfield 15, 56, 3, 1, 0, 239) := by decide +kernel
theorem i_X3_cutEnd_56 : fetch 38 56 = some (.iload_n 1, 57, 0, 0, 0, 0) := by decide +kernel
theorem i_X3_cutEnd_57 : fetch 38 57 = some (.iaload, 58, 0, 0, 0, 0) := by decide +kernel
theorem i_X3_cutEnd_58 : fetch 38 58 = some (.iload_n 2, 59, 0, 0, 0, 0) := by decide +kernel
theorem i_X3_cutEnd_59 : fetch 38 59 = some (.imul, 60, 0, 0, 0, 0) := by decide +kernel
theorem i_X3_cutEnd_60 : fetch 38 60 = some (.bipush 10, 62, 0, 0, 0, 0) := by decide +kernel
theorem i_X3_cutEnd_62 : fetch 38 62 = some (.idiv, 63, 0, 0, 0, 0) := by decide +kernel
theorem i_X3_cutEnd_63 : fetch 38 63 = some (.isub, 64, 0, 0, 0, 0) := by decide +kernel
theorem i_X3_cutEnd_64 : fetch 38 64 = some (.invokestatic 105, 67, 1003, 0, 0, 682) := by decide +kernel
theorem i_X3_cutEnd_67 : fetch 38 67 = some (.iastore, 68, 0, 0, 0, 0) := by decide +kernel
theorem i_X3_cutEnd_68 : fetch 38 68 = some (.return_, 69, 0, 0, 0, 0) := by decide +kernel
def f_X3_cutEnd_40 (v0 : Nat) (v1 : Int32) (v2 : Int32) (h : Hp) : Option Hp :=
  if okO h v0 3 then
  (gR h v0 1).bind fun a2 =>
  if okI h a2 v1 then
  some (hsi h a2 (ix v1) (if 1 < ((gI h a2 (ix v1)) - (((gI h a2 (ix v1)) * v2) / 10)) then ((gI h a2 (ix v1)) - (((gI h a2 (ix v1)) * v2) / 10)) else 1))
  else none
  else none
set_option maxRecDepth 100000 in
set_option maxHeartbeats 4000000 in
theorem r_X3_cutEnd_40 {X : Nat → Int32} {d : Nat} (hd : 0 ≤ d) {v0 : Nat} {v1 : Int32} {v2 : Int32} {d3 : Int32} {h : Hp} {o : Hp} (hf : f_X3_cutEnd_40 v0 v1 v2 h = some o) : Run X d 38 40 [some (.ref v0), some (.int v1), some (.int v2), some (.int d3)] [] h (none, o) := by
  unfold f_X3_cutEnd_40 at hf
  refine rs_aload_n i_X3_cutEnd_40 rfl ?_
  obtain ⟨c1, hf⟩ := ite_some hf
  obtain ⟨a2, e2, hf⟩ := bind_some hf
  refine rs_getR i_X3_cutEnd_41 (by decide) (by decide) c1 e2 ?_
  refine rs_iload_n i_X3_cutEnd_44 rfl ?_
  refine rs_iconst i_X3_cutEnd_45 (v := 1) (by decide) ?_
  refine rs_aload_n i_X3_cutEnd_46 rfl ?_
  refine rs_getR i_X3_cutEnd_47 (by decide) (by decide) c1 e2 ?_
  refine rs_iload_n i_X3_cutEnd_50 rfl ?_
  obtain ⟨c3, hf⟩ := ite_some hf
  refine rs_iald i_X3_cutEnd_51 c3 ?_
  refine rs_aload_n i_X3_cutEnd_52 rfl ?_
  refine rs_getR i_X3_cutEnd_53 (by decide) (by decide) c1 e2 ?_
  refine rs_iload_n i_X3_cutEnd_56 rfl ?_
  refine rs_iald i_X3_cutEnd_57 c3 ?_
  refine rs_iload_n i_X3_cutEnd_58 rfl ?_
  refine rs_imul i_X3_cutEnd_59 ?_
  refine rs_bipush i_X3_cutEnd_60 (v := 10) (by decide) ?_
  refine rs_idiv i_X3_cutEnd_62 (by decide) ?_
  refine rs_isub i_X3_cutEnd_63 ?_
  refine rs_max i_X3_cutEnd_64 (Nat.le_of_ble_eq_true rfl) ?_
  refine rs_iast i_X3_cutEnd_67 c3 ?_
  have hf := Option.some.inj hf
  subst hf
  exact rs_vret i_X3_cutEnd_68 m_X3_cutEnd rfl
def f_X3_cutEnd_22 (v0 : Nat) (v1 : Int32) (v2 : Int32) (v3 : Int32) (h : Hp) : Option Hp :=
  if okO h v0 3 then
  (gR h v0 0).bind fun a2 =>
  if okI h a2 v1 then
  f_X3_cutEnd_40 v0 v1 v2 (hsi h a2 (ix v1) (if 1 < ((gI h a2 (ix v1)) - v3) then ((gI h a2 (ix v1)) - v3) else 1))
  else none
  else none
set_option maxRecDepth 100000 in
set_option maxHeartbeats 4000000 in
theorem r_X3_cutEnd_22 {X : Nat → Int32} {d : Nat} (hd : 0 ≤ d) {v0 : Nat} {v1 : Int32} {v2 : Int32} {v3 : Int32} {h : Hp} {o : Hp} (hf : f_X3_cutEnd_22 v0 v1 v2 v3 h = some o) : Run X d 38 22 [some (.ref v0), some (.int v1), some (.int v2), some (.int v3)] [] h (none, o) := by
  unfold f_X3_cutEnd_22 at hf
  refine rs_aload_n i_X3_cutEnd_22 rfl ?_
  obtain ⟨c1, hf⟩ := ite_some hf
  obtain ⟨a2, e2, hf⟩ := bind_some hf
  refine rs_getR i_X3_cutEnd_23 (by decide) (by decide) c1 e2 ?_
  refine rs_iload_n i_X3_cutEnd_26 rfl ?_
  refine rs_iconst i_X3_cutEnd_27 (v := 1) (by decide) ?_
  refine rs_aload_n i_X3_cutEnd_28 rfl ?_
  refine rs_getR i_X3_cutEnd_29 (by decide) (by decide) c1 e2 ?_
  refine rs_iload_n i_X3_cutEnd_32 rfl ?_
  obtain ⟨c3, hf⟩ := ite_some hf
  refine rs_iald i_X3_cutEnd_33 c3 ?_
  refine rs_iload_n i_X3_cutEnd_34 rfl ?_
  refine rs_isub i_X3_cutEnd_35 ?_
  refine rs_max i_X3_cutEnd_36 (Nat.le_of_ble_eq_true rfl) ?_
  refine rs_iast i_X3_cutEnd_39 c3 ?_
  exact r_X3_cutEnd_40 hd hf
def f_X3_cutEnd_0 (v0 : Nat) (v1 : Int32) (v2 : Int32) (h : Hp) : Option Hp :=
  if okO h v0 3 then
  (gR h v0 0).bind fun a2 =>
  if okI h a2 v1 then
  f_X3_cutEnd_22 v0 v1 v2 (((gI h a2 (ix v1)) * v2) / 10) (hsi h v0 9 ((gI h v0 9) + (((gI h a2 (ix v1)) * v2) / 10)))
  else none
  else none
set_option maxRecDepth 100000 in
set_option maxHeartbeats 4000000 in
theorem r_X3_cutEnd_0 {X : Nat → Int32} {d : Nat} (hd : 0 ≤ d) {v0 : Nat} {v1 : Int32} {v2 : Int32} {h : Hp} {o : Hp} (hf : f_X3_cutEnd_0 v0 v1 v2 h = some o) : Run X d 38 0 [some (.ref v0), some (.int v1), some (.int v2), none] [] h (none, o) := by
  unfold f_X3_cutEnd_0 at hf
  refine rs_aload_n i_X3_cutEnd_0 rfl ?_
  obtain ⟨c1, hf⟩ := ite_some hf
  obtain ⟨a2, e2, hf⟩ := bind_some hf
  refine rs_getR i_X3_cutEnd_1 (by decide) (by decide) c1 e2 ?_
  refine rs_iload_n i_X3_cutEnd_4 rfl ?_
  obtain ⟨c3, hf⟩ := ite_some hf
  refine rs_iald i_X3_cutEnd_5 c3 ?_
  refine rs_iload_n i_X3_cutEnd_6 rfl ?_
  refine rs_imul i_X3_cutEnd_7 ?_
  refine rs_bipush i_X3_cutEnd_8 (v := 10) (by decide) ?_
  refine rs_idiv i_X3_cutEnd_10 (by decide) ?_
  refine rs_istore_n i_X3_cutEnd_11 (Nat.le_of_ble_eq_true rfl) (lv' := [some (.ref v0), some (.int v1), some (.int v2), some (.int (((gI h a2 (ix v1)) * v2) / 10))]) rfl ?_
  refine rs_aload_n i_X3_cutEnd_12 rfl ?_
  refine rs_dup i_X3_cutEnd_13 rfl ?_
  refine rs_getI i_X3_cutEnd_14 (by decide) (by decide) c1 ?_
  refine rs_iload_n i_X3_cutEnd_17 rfl ?_
  refine rs_iadd i_X3_cutEnd_18 ?_
  refine rs_putI i_X3_cutEnd_19 (by decide) c1 ?_
  exact r_X3_cutEnd_22 hd hf
def f_X3_cutEnd (v0 : Nat) (v1 : Int32) (v2 : Int32) (h : Hp) : Option Hp := f_X3_cutEnd_0 v0 v1 v2 h
theorem c_X3_cutEnd {X : Nat → Int32} {d : Nat} (hd : 0 ≤ d) {v0 : Nat} {v1 : Int32} {v2 : Int32} {h : Hp} {o : Hp} (hf : f_X3_cutEnd v0 v1 v2 h = some o) : Calls X d 38 [.ref v0, .int v1, .int v2] h (none, o) := by
  exact ⟨_, rfl, r_X3_cutEnd_0 hd hf⟩
theorem i_X7_quotient_0 : fetch 111 0 = some (.lload_n 2, 1, 0, 0, 0, 0) := by decide +kernel
theorem i_X7_quotient_1 : fetch 111 1 = some (.lconst 0, 2, 0, 0, 0, 0) := by decide +kernel
theorem i_X7_quotient_2 : fetch 111 2 = some (.lcmp, 3, 0, 0, 0, 0) := by decide +kernel
theorem i_X7_quotient_3 : fetch 111 3 = some (.ifCond .le 9, 6, 0, 0, 0, 0) := by decide +kernel
theorem i_X7_quotient_6 : fetch 111 6 = some (.lload_n 0, 7, 0, 0, 0, 0) := by decide +kernel
theorem i_X7_quotient_7 : fetch 111 7 = some (.lload_n 2, 8, 0, 0, 0, 0) := by decide +kernel
theorem i_X7_quotient_8 : fetch 111 8 = some (.ldiv, 9, 0, 0, 0, 0) := by decide +kernel
theorem i_X7_quotient_9 : fetch 111 9 = some (.goto 4, 12, 0, 0, 0, 0) := by decide +kernel
theorem i_X7_quotient_12 : fetch 111 12 = some (.lconst 0, 13, 0, 0, 0, 0) := by decide +kernel
theorem i_X7_quotient_13 : fetch 111 13 = some (.lreturn, 14, 0, 0, 0, 0) := by decide +kernel
def f_X7_quotient_0 (v0 : Int64) (v2 : Int64) (h : Hp) : Option (Int64 × Hp) :=
  if v2 ≤ 0 then
    some (0, h)
  else
    if ¬ v2 = 0 then
    some ((v0 / v2), h)
    else none
set_option maxRecDepth 100000 in
set_option maxHeartbeats 4000000 in
theorem r_X7_quotient_0 {X : Nat → Int32} {d : Nat} (hd : 0 ≤ d) {v0 : Int64} {v2 : Int64} {h : Hp} {o : (Int64 × Hp)} (hf : f_X7_quotient_0 v0 v2 h = some o) : Run X d 111 0 [some (.long v0), none, some (.long v2), none] [] h (some (.long o.1), o.2) := by
  unfold f_X7_quotient_0 at hf
  refine rs_lload_n i_X7_quotient_0 rfl ?_
  refine rs_lconst i_X7_quotient_1 (v := 0) (by decide) ?_
  refine rs_lcmp i_X7_quotient_2 ?_
  by_cases c1 : v2 ≤ 0
  · replace hf := (if_pos c1).symm.trans hf
    refine rs_ifT i_X7_quotient_3 (by rw [lc_le]; exact decide_eq_true c1) (tg := 12) (by decide) ?_
    refine rs_lconst i_X7_quotient_12 (v := 0) (by decide) ?_
    have hf := Option.some.inj hf
    subst hf
    exact rs_lret i_X7_quotient_13 m_X7_quotient rfl
  · replace hf := (if_neg c1).symm.trans hf
    refine rs_ifF i_X7_quotient_3 (by rw [lc_le]; exact decide_eq_false c1) ?_
    refine rs_lload_n i_X7_quotient_6 rfl ?_
    refine rs_lload_n i_X7_quotient_7 rfl ?_
    obtain ⟨c2, hf⟩ := ite_some hf
    refine rs_ldiv i_X7_quotient_8 c2 ?_
    refine rs_goto i_X7_quotient_9 (tg := 13) (by decide) ?_
    have hf := Option.some.inj hf
    subst hf
    exact rs_lret i_X7_quotient_13 m_X7_quotient rfl
def f_X7_quotient (v0 : Int64) (v2 : Int64) (h : Hp) : Option (Int64 × Hp) := f_X7_quotient_0 v0 v2 h
theorem c_X7_quotient {X : Nat → Int32} {d : Nat} (hd : 0 ≤ d) {v0 : Int64} {v2 : Int64} {h : Hp} {o : (Int64 × Hp)} (hf : f_X7_quotient v0 v2 h = some o) : Calls X d 111 [.long v0, .long v2] h (some (.long o.1), o.2) := by
  exact ⟨_, rfl, r_X7_quotient_0 hd hf⟩
theorem i_X3_lengthen_0 : fetch 33 0 = some (.aload_n 0, 1, 0, 0, 0, 0) := by decide +kernel
theorem i_X3_lengthen_1 : fetch 33 1 = some (.getfield 15, 4, 3, 1, 0, 239) := by decide +kernel
theorem i_X3_lengthen_4 : fetch 33 4 = some (.iload_n 1, 5, 0, 0, 0, 0) := by decide +kernel
theorem i_X3_lengthen_5 : fetch 33 5 = some (.ldc2_w 128, 8, 0, 0, 1000000, 660) := by decide +kernel
theorem i_X3_lengthen_8 : fetch 33 8 = some (.aload_n 0, 9, 0, 0, 0, 0) := by decide +kernel
theorem i_X3_lengthen_9 : fetch 33 9 = some (.getfield 15, 12, 3, 1, 0, 239) := by decide +kernel
theorem i_X3_lengthen_12 : fetch 33 12 = some (.iload_n 1, 13, 0, 0, 0, 0) := by decide +kernel
theorem i_X3_lengthen_13 : fetch 33 13 = some (.iaload, 14, 0, 0, 0, 0) := by decide +kernel
theorem i_X3_lengthen_14 : fetch 33 14 = some (.i2l, 15, 0, 0, 0, 0) := by decide +kernel
theorem i_X3_lengthen_15 : fetch 33 15 = some (.lload_n 2, 16, 0, 0, 0, 0) := by decide +kernel
theorem i_X3_lengthen_16 : fetch 33 16 = some (.ladd, 17, 0, 0, 0, 0) := by decide +kernel
theorem i_X3_lengthen_17 : fetch 33 17 = some (.invokestatic 130, 20, 1006, 0, 0, 661) := by decide +kernel
theorem i_X3_lengthen_20 : fetch 33 20 = some (.l2i, 21, 0, 0, 0, 0) := by decide +kernel
theorem i_X3_lengthen_21 : fetch 33 21 = some (.iastore, 22, 0, 0, 0, 0) := by decide +kernel
theorem i_X3_lengthen_22 : fetch 33 22 = some (.aload_n 0, 23, 0, 0, 0, 0) := by decide +kernel
theorem i_X3_lengthen_23 : fetch 33 23 = some (.getfield 18, 26, 3, 2, 0, 241) := by decide +kernel
theorem i_X3_lengthen_26 : fetch 33 26 = some (.iload_n 1, 27, 0, 0, 0, 0) := by decide +kernel
theorem i_X3_lengthen_27 : fetch 33 27 = some (.ldc2_w 133, 30, 0, 0, 99, 662) := by decide +kernel
theorem i_X3_lengthen_30 : fetch 33 30 = some (.aload_n 0, 31, 0, 0, 0, 0) := by decide +kernel
theorem i_X3_lengthen_31 : fetch 33 31 = some (.getfield 18, 34, 3, 2, 0, 241) := by decide +kernel
theorem i_X3_lengthen_34 : fetch 33 34 = some (.iload_n 1, 35, 0, 0, 0, 0) := by decide +kernel
theorem i_X3_lengthen_35 : fetch 33 35 = some (.iaload, 36, 0, 0, 0, 0) := by decide +kernel
theorem i_X3_lengthen_36 : fetch 33 36 = some (.i2l, 37, 0, 0, 0, 0) := by decide +kernel
theorem i_X3_lengthen_37 : fetch 33 37 = some (.lload_n 2, 38, 0, 0, 0, 0) := by decide +kernel
theorem i_X3_lengthen_38 : fetch 33 38 = some (.iload 4, 40, 0, 0, 0, 0) := by decide +kernel
theorem i_X3_lengthen_40 : fetch 33 40 = some (.i2l, 41, 0, 0, 0, 0) := by decide +kernel
theorem i_X3_lengthen_41 : fetch 33 41 = some (.lmul, 42, 0, 0, 0, 0) := by decide +kernel
theorem i_X3_lengthen_42 : fetch 33 42 = some (.ldc2_w 135, 45, 0, 0, 10, 615) := by decide +kernel
theorem i_X3_lengthen_45 : fetch 33 45 = some (.lmul, 46, 0, 0, 0, 0) := by decide +kernel
theorem i_X3_lengthen_46 : fetch 33 46 = some (.aload_n 0, 47, 0, 0, 0, 0) := by decide +kernel
theorem i_X3_lengthen_47 : fetch 33 47 = some (.getfield 15, 50, 3, 1, 0, 239) := by decide +kernel
theorem i_X3_lengthen_50 : fetch 33 50 = some (.iload_n 1, 51, 0, 0, 0, 0) := by decide +kernel
theorem i_X3_lengthen_51 : fetch 33 51 = some (.iaload, 52, 0, 0, 0, 0) := by decide +kernel
theorem i_X3_lengthen_52 : fetch 33 52 = some (.i2l, 53, 0, 0, 0, 0) := by decide +kernel
theorem i_X3_lengthen_53 : fetch 33 53 = some (.invokestatic 115, 56, 111, 1, 0, 653) := by decide +kernel
theorem i_X3_lengthen_56 : fetch 33 56 = some (.ladd, 57, 0, 0, 0, 0) := by decide +kernel
theorem i_X3_lengthen_57 : fetch 33 57 = some (.invokestatic 130, 60, 1006, 0, 0, 661) := by decide +kernel
theorem i_X3_lengthen_60 : fetch 33 60 = some (.l2i, 61, 0, 0, 0, 0) := by decide +kernel
theorem i_X3_lengthen_61 : fetch 33 61 = some (.iastore, 62, 0, 0, 0, 0) := by decide +kernel
theorem i_X3_lengthen_62 : fetch 33 62 = some (.return_, 63, 0, 0, 0, 0) := by decide +kernel
def f_X3_lengthen_22 (v0 : Nat) (v1 : Int32) (v2 : Int64) (v4 : Int32) (h : Hp) : Option Hp :=
  if okO h v0 3 then
  (gR h v0 2).bind fun a2 =>
  if okI h a2 v1 then
  (gR h v0 1).bind fun a4 =>
  if okI h a4 v1 then
  (f_X7_quotient ((v2 * (Int32.toInt64 v4)) * 10) (Int32.toInt64 (gI h a4 (ix v1))) h).bind fun o6 =>
  if okI o6.2 a2 v1 then
  some (hsi o6.2 a2 (ix v1) (Int64.toInt32 (if ((Int32.toInt64 (gI h a2 (ix v1))) + o6.1) < 99 then ((Int32.toInt64 (gI h a2 (ix v1))) + o6.1) else 99)))
  else none
  else none
  else none
  else none
set_option maxRecDepth 100000 in
set_option maxHeartbeats 4000000 in
theorem r_X3_lengthen_22 {X : Nat → Int32} {d : Nat} (hd : 1 ≤ (d + 1)) {v0 : Nat} {v1 : Int32} {v2 : Int64} {v4 : Int32} {h : Hp} {o : Hp} (hf : f_X3_lengthen_22 v0 v1 v2 v4 h = some o) : Run X (d + 1) 33 22 [some (.ref v0), some (.int v1), some (.long v2), none, some (.int v4)] [] h (none, o) := by
  unfold f_X3_lengthen_22 at hf
  refine rs_aload_n i_X3_lengthen_22 rfl ?_
  obtain ⟨c1, hf⟩ := ite_some hf
  obtain ⟨a2, e2, hf⟩ := bind_some hf
  refine rs_getR i_X3_lengthen_23 (by decide) (by decide) c1 e2 ?_
  refine rs_iload_n i_X3_lengthen_26 rfl ?_
  refine rs_ldc2 i_X3_lengthen_27 (v := 99) (by decide) ?_
  refine rs_aload_n i_X3_lengthen_30 rfl ?_
  refine rs_getR i_X3_lengthen_31 (by decide) (by decide) c1 e2 ?_
  refine rs_iload_n i_X3_lengthen_34 rfl ?_
  obtain ⟨c3, hf⟩ := ite_some hf
  refine rs_iald i_X3_lengthen_35 c3 ?_
  refine rs_i2l i_X3_lengthen_36 ?_
  refine rs_lload_n i_X3_lengthen_37 rfl ?_
  refine rs_iload i_X3_lengthen_38 rfl ?_
  refine rs_i2l i_X3_lengthen_40 ?_
  refine rs_lmul i_X3_lengthen_41 ?_
  refine rs_ldc2 i_X3_lengthen_42 (v := 10) (by decide) ?_
  refine rs_lmul i_X3_lengthen_45 ?_
  refine rs_aload_n i_X3_lengthen_46 rfl ?_
  obtain ⟨a4, e4, hf⟩ := bind_some hf
  refine rs_getR i_X3_lengthen_47 (by decide) (by decide) c1 e4 ?_
  refine rs_iload_n i_X3_lengthen_50 rfl ?_
  obtain ⟨c5, hf⟩ := ite_some hf
  refine rs_iald i_X3_lengthen_51 c5 ?_
  refine rs_i2l i_X3_lengthen_52 ?_
  obtain ⟨o6, e6, hf⟩ := bind_some hf
  refine rs_inS i_X3_lengthen_53 (by decide) m_X7_quotient rfl (As := [.long ((v2 * (Int32.toInt64 v4)) * 10), .long (Int32.toInt64 (gI h a4 (ix v1)))]) (rest := [.long (Int32.toInt64 (gI h a2 (ix v1))), .long 99, .int v1, .ref a2]) rfl rfl (Nat.le_of_ble_eq_true rfl) (c_X7_quotient (by omega) e6) (st' := [.long o6.1, .long (Int32.toInt64 (gI h a2 (ix v1))), .long 99, .int v1, .ref a2]) rfl ?_
  refine rs_ladd i_X3_lengthen_56 ?_
  refine rs_minl i_X3_lengthen_57 (Nat.le_of_ble_eq_true rfl) ?_
  refine rs_l2i i_X3_lengthen_60 ?_
  obtain ⟨c7, hf⟩ := ite_some hf
  refine rs_iast i_X3_lengthen_61 c7 ?_
  have hf := Option.some.inj hf
  subst hf
  exact rs_vret i_X3_lengthen_62 m_X3_lengthen rfl
def f_X3_lengthen_0 (v0 : Nat) (v1 : Int32) (v2 : Int64) (v4 : Int32) (h : Hp) : Option Hp :=
  if okO h v0 3 then
  (gR h v0 1).bind fun a2 =>
  if okI h a2 v1 then
  f_X3_lengthen_22 v0 v1 v2 v4 (hsi h a2 (ix v1) (Int64.toInt32 (if ((Int32.toInt64 (gI h a2 (ix v1))) + v2) < 1000000 then ((Int32.toInt64 (gI h a2 (ix v1))) + v2) else 1000000)))
  else none
  else none
set_option maxRecDepth 100000 in
set_option maxHeartbeats 4000000 in
theorem r_X3_lengthen_0 {X : Nat → Int32} {d : Nat} (hd : 1 ≤ (d + 1)) {v0 : Nat} {v1 : Int32} {v2 : Int64} {v4 : Int32} {h : Hp} {o : Hp} (hf : f_X3_lengthen_0 v0 v1 v2 v4 h = some o) : Run X (d + 1) 33 0 [some (.ref v0), some (.int v1), some (.long v2), none, some (.int v4)] [] h (none, o) := by
  unfold f_X3_lengthen_0 at hf
  refine rs_aload_n i_X3_lengthen_0 rfl ?_
  obtain ⟨c1, hf⟩ := ite_some hf
  obtain ⟨a2, e2, hf⟩ := bind_some hf
  refine rs_getR i_X3_lengthen_1 (by decide) (by decide) c1 e2 ?_
  refine rs_iload_n i_X3_lengthen_4 rfl ?_
  refine rs_ldc2 i_X3_lengthen_5 (v := 1000000) (by decide) ?_
  refine rs_aload_n i_X3_lengthen_8 rfl ?_
  refine rs_getR i_X3_lengthen_9 (by decide) (by decide) c1 e2 ?_
  refine rs_iload_n i_X3_lengthen_12 rfl ?_
  obtain ⟨c3, hf⟩ := ite_some hf
  refine rs_iald i_X3_lengthen_13 c3 ?_
  refine rs_i2l i_X3_lengthen_14 ?_
  refine rs_lload_n i_X3_lengthen_15 rfl ?_
  refine rs_ladd i_X3_lengthen_16 ?_
  refine rs_minl i_X3_lengthen_17 (Nat.le_of_ble_eq_true rfl) ?_
  refine rs_l2i i_X3_lengthen_20 ?_
  refine rs_iast i_X3_lengthen_21 c3 ?_
  exact r_X3_lengthen_22 hd hf
def f_X3_lengthen (v0 : Nat) (v1 : Int32) (v2 : Int64) (v4 : Int32) (h : Hp) : Option Hp := f_X3_lengthen_0 v0 v1 v2 v4 h
theorem c_X3_lengthen {X : Nat → Int32} {d : Nat} (hd : 1 ≤ d) {v0 : Nat} {v1 : Int32} {v2 : Int64} {v4 : Int32} {h : Hp} {o : Hp} (hf : f_X3_lengthen v0 v1 v2 v4 h = some o) : Calls X d 33 [.ref v0, .int v1, .long v2, .int v4] h (none, o) := by
  obtain ⟨d, rfl⟩ : ∃ z, d = z + 1 := ⟨d - 1, by omega⟩
  exact ⟨_, rfl, r_X3_lengthen_0 hd hf⟩
theorem i_X3_draw_0 : fetch 32 0 = some (.lconst 0, 1, 0, 0, 0, 0) := by decide +kernel
theorem i_X3_draw_1 : fetch 32 1 = some (.lstore 4, 3, 0, 0, 0, 0) := by decide +kernel
theorem i_X3_draw_3 : fetch 32 3 = some (.iconst 0, 4, 0, 0, 0, 0) := by decide +kernel
theorem i_X3_draw_4 : fetch 32 4 = some (.istore 6, 6, 0, 0, 0, 0) := by decide +kernel
theorem i_X3_draw_6 : fetch 32 6 = some (.iload 6, 8, 0, 0, 0, 0) := by decide +kernel
theorem i_X3_draw_8 : fetch 32 8 = some (.bipush 12, 10, 0, 0, 0, 0) := by decide +kernel
theorem i_X3_draw_10 : fetch 32 10 = some (.if_icmp .ge 40, 13, 0, 0, 0, 0) := by decide +kernel
theorem i_X3_draw_13 : fetch 32 13 = some (.aload_n 0, 14, 0, 0, 0, 0) := by decide +kernel
theorem i_X3_draw_14 : fetch 32 14 = some (.getfield 21, 17, 3, 3, 0, 244) := by decide +kernel
theorem i_X3_draw_17 : fetch 32 17 = some (.iload 6, 19, 0, 0, 0, 0) := by decide +kernel
theorem i_X3_draw_19 : fetch 32 19 = some (.aload_n 0, 20, 0, 0, 0, 0) := by decide +kernel
theorem i_X3_draw_20 : fetch 32 20 = some (.getfield 50, 23, 3, 6, 0, 247) := by decide +kernel
theorem i_X3_draw_23 : fetch 32 23 = some (.aload_n 0, 24, 0, 0, 0, 0) := by decide +kernel
theorem i_X3_draw_24 : fetch 32 24 = some (.iload 6, 26, 0, 0, 0, 0) := by decide +kernel
theorem i_X3_draw_26 : fetch 32 26 = some (.iload_n 3, 27, 0, 0, 0, 0) := by decide +kernel
theorem i_X3_draw_27 : fetch 32 27 = some (.invokevirtual 111, 30, 5, 0, 0, 620) := by decide +kernel
theorem i_X3_draw_30 : fetch 32 30 = some (.iastore, 31, 0, 0, 0, 0) := by decide +kernel
theorem i_X3_draw_31 : fetch 32 31 = some (.lload 4, 33, 0, 0, 0, 0) := by decide +kernel
theorem i_X3_draw_33 : fetch 32 33 = some (.aload_n 0, 34, 0, 0, 0, 0) := by decide +kernel
theorem i_X3_draw_34 : fetch 32 34 = some (.getfield 21, 37, 3, 3, 0, 244) := by decide +kernel
theorem i_X3_draw_37 : fetch 32 37 = some (.iload 6, 39, 0, 0, 0, 0) := by decide +kernel
theorem i_X3_draw_39 : fetch 32 39 = some (.iaload, 40, 0, 0, 0, 0) := by decide +kernel
theorem i_X3_draw_40 : fetch 32 40 = some (.i2l, 41, 0, 0, 0, 0) := by decide +kernel
theorem i_X3_draw_41 : fetch 32 41 = some (.ladd, 42, 0, 0, 0, 0) := by decide +kernel
theorem i_X3_draw_42 : fetch 32 42 = some (.lstore 4, 44, 0, 0, 0, 0) := by decide +kernel
theorem i_X3_draw_44 : fetch 32 44 = some (.iinc 6 1, 47, 0, 0, 0, 0) := by decide +kernel
theorem i_X3_draw_47 : fetch 32 47 = some (.goto (-41), 50, 0, 0, 0, 0) := by decide +kernel
theorem i_X3_draw_50 : fetch 32 50 = some (.lload_n 1, 51, 0, 0, 0, 0) := by decide +kernel
theorem i_X3_draw_51 : fetch 32 51 = some (.lstore 6, 53, 0, 0, 0, 0) := by decide +kernel
theorem i_X3_draw_53 : fetch 32 53 = some (.iconst 0, 54, 0, 0, 0, 0) := by decide +kernel
theorem i_X3_draw_54 : fetch 32 54 = some (.istore 8, 56, 0, 0, 0, 0) := by decide +kernel
theorem i_X3_draw_56 : fetch 32 56 = some (.iload 8, 58, 0, 0, 0, 0) := by decide +kernel
theorem i_X3_draw_58 : fetch 32 58 = some (.bipush 12, 60, 0, 0, 0, 0) := by decide +kernel
theorem i_X3_draw_60 : fetch 32 60 = some (.if_icmp .ge 43, 63, 0, 0, 0, 0) := by decide +kernel
theorem i_X3_draw_63 : fetch 32 63 = some (.aload_n 0, 64, 0, 0, 0, 0) := by decide +kernel
theorem i_X3_draw_64 : fetch 32 64 = some (.getfield 27, 67, 3, 5, 0, 246) := by decide +kernel
theorem i_X3_draw_67 : fetch 32 67 = some (.iload 8, 69, 0, 0, 0, 0) := by decide +kernel
theorem i_X3_draw_69 : fetch 32 69 = some (.lload_n 1, 70, 0, 0, 0, 0) := by decide +kernel
theorem i_X3_draw_70 : fetch 32 70 = some (.aload_n 0, 71, 0, 0, 0, 0) := by decide +kernel
theorem i_X3_draw_71 : fetch 32 71 = some (.getfield 21, 74, 3, 3, 0, 244) := by decide +kernel
theorem i_X3_draw_74 : fetch 32 74 = some (.iload 8, 76, 0, 0, 0, 0) := by decide +kernel
theorem i_X3_draw_76 : fetch 32 76 = some (.iaload, 77, 0, 0, 0, 0) := by decide +kernel
theorem i_X3_draw_77 : fetch 32 77 = some (.i2l, 78, 0, 0, 0, 0) := by decide +kernel
theorem i_X3_draw_78 : fetch 32 78 = some (.lmul, 79, 0, 0, 0, 0) := by decide +kernel
theorem i_X3_draw_79 : fetch 32 79 = some (.lload 4, 81, 0, 0, 0, 0) := by decide +kernel
theorem i_X3_draw_81 : fetch 32 81 = some (.invokestatic 115, 84, 111, 1, 0, 653) := by decide +kernel
theorem i_X3_draw_84 : fetch 32 84 = some (.lastore, 85, 0, 0, 0, 0) := by decide +kernel
theorem i_X3_draw_85 : fetch 32 85 = some (.lload 6, 87, 0, 0, 0, 0) := by decide +kernel
theorem i_X3_draw_87 : fetch 32 87 = some (.aload_n 0, 88, 0, 0, 0, 0) := by decide +kernel
theorem i_X3_draw_88 : fetch 32 88 = some (.getfield 27, 91, 3, 5, 0, 246) := by decide +kernel
theorem i_X3_draw_91 : fetch 32 91 = some (.iload 8, 93, 0, 0, 0, 0) := by decide +kernel
theorem i_X3_draw_93 : fetch 32 93 = some (.laload, 94, 0, 0, 0, 0) := by decide +kernel
theorem i_X3_draw_94 : fetch 32 94 = some (.lsub, 95, 0, 0, 0, 0) := by decide +kernel
theorem i_X3_draw_95 : fetch 32 95 = some (.lstore 6, 97, 0, 0, 0, 0) := by decide +kernel
theorem i_X3_draw_97 : fetch 32 97 = some (.iinc 8 1, 100, 0, 0, 0, 0) := by decide +kernel
theorem i_X3_draw_100 : fetch 32 100 = some (.goto (-44), 103, 0, 0, 0, 0) := by decide +kernel
theorem i_X3_draw_103 : fetch 32 103 = some (.iconst 0, 104, 0, 0, 0, 0) := by decide +kernel
theorem i_X3_draw_104 : fetch 32 104 = some (.istore 8, 106, 0, 0, 0, 0) := by decide +kernel
theorem i_X3_draw_106 : fetch 32 106 = some (.iload 8, 108, 0, 0, 0, 0) := by decide +kernel
theorem i_X3_draw_108 : fetch 32 108 = some (.bipush 12, 110, 0, 0, 0, 0) := by decide +kernel
theorem i_X3_draw_110 : fetch 32 110 = some (.if_icmp .ge 44, 113, 0, 0, 0, 0) := by decide +kernel
theorem i_X3_draw_113 : fetch 32 113 = some (.aload_n 0, 114, 0, 0, 0, 0) := by decide +kernel
theorem i_X3_draw_114 : fetch 32 114 = some (.iload 8, 116, 0, 0, 0, 0) := by decide +kernel
theorem i_X3_draw_116 : fetch 32 116 = some (.iload 8, 118, 0, 0, 0, 0) := by decide +kernel
theorem i_X3_draw_118 : fetch 32 118 = some (.i2l, 119, 0, 0, 0, 0) := by decide +kernel
theorem i_X3_draw_119 : fetch 32 119 = some (.lload 6, 121, 0, 0, 0, 0) := by decide +kernel
theorem i_X3_draw_121 : fetch 32 121 = some (.lcmp, 122, 0, 0, 0, 0) := by decide +kernel
theorem i_X3_draw_122 : fetch 32 122 = some (.ifCond .ge 15, 125, 0, 0, 0, 0) := by decide +kernel
theorem i_X3_draw_125 : fetch 32 125 = some (.aload_n 0, 126, 0, 0, 0, 0) := by decide +kernel
theorem i_X3_draw_126 : fetch 32 126 = some (.getfield 27, 129, 3, 5, 0, 246) := by decide +kernel
theorem i_X3_draw_129 : fetch 32 129 = some (.iload 8, 131, 0, 0, 0, 0) := by decide +kernel
theorem i_X3_draw_131 : fetch 32 131 = some (.laload, 132, 0, 0, 0, 0) := by decide +kernel
theorem i_X3_draw_132 : fetch 32 132 = some (.lconst 1, 133, 0, 0, 0, 0) := by decide +kernel
theorem i_X3_draw_133 : fetch 32 133 = some (.ladd, 134, 0, 0, 0, 0) := by decide +kernel
theorem i_X3_draw_134 : fetch 32 134 = some (.goto 10, 137, 0, 0, 0, 0) := by decide +kernel
theorem i_X3_draw_137 : fetch 32 137 = some (.aload_n 0, 138, 0, 0, 0, 0) := by decide +kernel
theorem i_X3_draw_138 : fetch 32 138 = some (.getfield 27, 141, 3, 5, 0, 246) := by decide +kernel
theorem i_X3_draw_141 : fetch 32 141 = some (.iload 8, 143, 0, 0, 0, 0) := by decide +kernel
theorem i_X3_draw_143 : fetch 32 143 = some (.laload, 144, 0, 0, 0, 0) := by decide +kernel
theorem i_X3_draw_144 : fetch 32 144 = some (.iload_n 3, 145, 0, 0, 0, 0) := by decide +kernel
theorem i_X3_draw_145 : fetch 32 145 = some (.invokevirtual 119, 148, 33, 0, 0, 656) := by decide +kernel
theorem i_X3_draw_148 : fetch 32 148 = some (.iinc 8 1, 151, 0, 0, 0, 0) := by decide +kernel
theorem i_X3_draw_151 : fetch 32 151 = some (.goto (-45), 154, 0, 0, 0, 0) := by decide +kernel
theorem i_X3_draw_154 : fetch 32 154 = some (.iconst 0, 155, 0, 0, 0, 0) := by decide +kernel
theorem i_X3_draw_155 : fetch 32 155 = some (.istore 8, 157, 0, 0, 0, 0) := by decide +kernel
theorem i_X3_draw_157 : fetch 32 157 = some (.iload 8, 159, 0, 0, 0, 0) := by decide +kernel
theorem i_X3_draw_159 : fetch 32 159 = some (.bipush 12, 161, 0, 0, 0, 0) := by decide +kernel
theorem i_X3_draw_161 : fetch 32 161 = some (.if_icmp .ge 37, 164, 0, 0, 0, 0) := by decide +kernel
theorem i_X3_draw_164 : fetch 32 164 = some (.aload_n 0, 165, 0, 0, 0, 0) := by decide +kernel
theorem i_X3_draw_165 : fetch 32 165 = some (.aload_n 0, 166, 0, 0, 0, 0) := by decide +kernel
theorem i_X3_draw_166 : fetch 32 166 = some (.getfield 43, 169, 3, 10, 0, 256) := by decide +kernel
theorem i_X3_draw_169 : fetch 32 169 = some (.bipush 100, 171, 0, 0, 0, 0) := by decide +kernel
theorem i_X3_draw_171 : fetch 32 171 = some (.aload_n 0, 172, 0, 0, 0, 0) := by decide +kernel
theorem i_X3_draw_172 : fetch 32 172 = some (.getfield 50, 175, 3, 6, 0, 247) := by decide +kernel
theorem i_X3_draw_175 : fetch 32 175 = some (.aload_n 0, 176, 0, 0, 0, 0) := by decide +kernel
theorem i_X3_draw_176 : fetch 32 176 = some (.iload 8, 178, 0, 0, 0, 0) := by decide +kernel
theorem i_X3_draw_178 : fetch 32 178 = some (.iload_n 3, 179, 0, 0, 0, 0) := by decide +kernel
theorem i_X3_draw_179 : fetch 32 179 = some (.invokevirtual 123, 182, 6, 0, 0, 663) := by decide +kernel
theorem i_X3_draw_182 : fetch 32 182 = some (.isub, 183, 0, 0, 0, 0) := by decide +kernel
theorem i_X3_draw_183 : fetch 32 183 = some (.i2l, 184, 0, 0, 0, 0) := by decide +kernel
theorem i_X3_draw_184 : fetch 32 184 = some (.lmul, 185, 0, 0, 0, 0) := by decide +kernel
theorem i_X3_draw_185 : fetch 32 185 = some (.ldc2_w 126, 188, 0, 0, 100, 669) := by decide +kernel
theorem i_X3_draw_188 : fetch 32 188 = some (.ldiv, 189, 0, 0, 0, 0) := by decide +kernel
theorem i_X3_draw_189 : fetch 32 189 = some (.putfield 43, 192, 3, 10, 0, 256) := by decide +kernel
theorem i_X3_draw_192 : fetch 32 192 = some (.iinc 8 1, 195, 0, 0, 0, 0) := by decide +kernel
theorem i_X3_draw_195 : fetch 32 195 = some (.goto (-38), 198, 0, 0, 0, 0) := by decide +kernel
theorem i_X3_draw_198 : fetch 32 198 = some (.return_, 199, 0, 0, 0, 0) := by decide +kernel
def f_X3_draw_157 (n : Nat) : Nat → Nat → Int32 → Int32 → Hp → Option Hp
  | 0, _, _, _, _ => none
  | m + 1, v0, v3, v8, h =>
    if 12 ≤ v8 then
      some h
    else
      if okO h v0 3 then
      (gR h v0 6).bind fun a3 =>
      if okO h a3 1 then
      (f_X1_tears n a3 v0 v8 v3 h).bind fun o4 =>
      if okO o4.2 v0 3 then
      (f_X3_draw_157 n m) v0 v3 (v8 + 1) (hsl o4.2 v0 10 (((gL' h v0 10) * (Int32.toInt64 (100 - o4.1))) / 100))
      else none
      else none
      else none
set_option maxRecDepth 100000 in
set_option maxHeartbeats 4000000 in
theorem r_X3_draw_157 {X : Nat → Int32} {d : Nat} (hd : 4 ≤ (d + 1)) {n : Nat} : ∀ (m : Nat) (v0 : Nat) (v3 : Int32) (v8 : Int32) (d1 : Int64) (d4 : Int64) (d6 : Int64) (h : Hp) (o : Hp), f_X3_draw_157 n m v0 v3 v8 h = some o → Run X (d + 1) 32 157 [some (.ref v0), some (.long d1), none, some (.int v3), some (.long d4), none, some (.long d6), none, some (.int v8)] [] h (none, o) := by
  intro m
  induction m with
  | zero => intro v0 v3 v8 d1 d4 d6 h o hf; cases hf
  | succ m ih =>
    intro v0 v3 v8 d1 d4 d6 h o hf
    rw [f_X3_draw_157] at hf
    refine rs_iload i_X3_draw_157 rfl ?_
    refine rs_bipush i_X3_draw_159 (v := 12) (by decide) ?_
    by_cases c1 : 12 ≤ v8
    · replace hf := (if_pos c1).symm.trans hf
      refine rs_icT i_X3_draw_161 (ct_ge c1) (tg := 198) (by decide) ?_
      have hf := Option.some.inj hf
      subst hf
      exact rs_vret i_X3_draw_198 m_X3_draw rfl
    · replace hf := (if_neg c1).symm.trans hf
      refine rs_icF i_X3_draw_161 (cf_ge c1) ?_
      refine rs_aload_n i_X3_draw_164 rfl ?_
      refine rs_aload_n i_X3_draw_165 rfl ?_
      obtain ⟨c2, hf⟩ := ite_some hf
      refine rs_getL i_X3_draw_166 (by decide) (by decide) c2 ?_
      refine rs_bipush i_X3_draw_169 (v := 100) (by decide) ?_
      refine rs_aload_n i_X3_draw_171 rfl ?_
      obtain ⟨a3, e3, hf⟩ := bind_some hf
      refine rs_getR i_X3_draw_172 (by decide) (by decide) c2 e3 ?_
      refine rs_aload_n i_X3_draw_175 rfl ?_
      refine rs_iload i_X3_draw_176 rfl ?_
      refine rs_iload_n i_X3_draw_178 rfl ?_
      obtain ⟨c5, hf⟩ := ite_some hf
      obtain ⟨o4, e4, hf⟩ := bind_some hf
      refine rs_inV i_X3_draw_179 m_X1_tears rfl (As := [.ref v0, .int v8, .int v3]) (rest := [.int 100, .long (gL' h v0 10), .ref v0]) rfl rfl (Nat.le_of_ble_eq_true rfl) c5 (c_X1_tears (by omega) e4) (st' := [.int o4.1, .int 100, .long (gL' h v0 10), .ref v0]) rfl ?_
      refine rs_isub i_X3_draw_182 ?_
      refine rs_i2l i_X3_draw_183 ?_
      refine rs_lmul i_X3_draw_184 ?_
      refine rs_ldc2 i_X3_draw_185 (v := 100) (by decide) ?_
      refine rs_ldiv i_X3_draw_188 (by decide) ?_
      obtain ⟨c6, hf⟩ := ite_some hf
      refine rs_putL i_X3_draw_189 (by decide) c6 ?_
      refine rs_iinc i_X3_draw_192 rfl (v := v8 + 1) rfl (Nat.le_of_ble_eq_true rfl) (lv' := [some (.ref v0), some (.long d1), none, some (.int v3), some (.long d4), none, some (.long d6), none, some (.int (v8 + 1))]) rfl ?_
      refine rs_goto i_X3_draw_195 (tg := 157) (by decide) ?_
      exact ih _ _ _ _ _ _ _ _ hf
def f_X3_draw_144 (n : Nat) (K106 : Nat → Int32 → Int64 → Int32 → Hp → Option Hp) (v0 : Nat) (v3 : Int32) (v6 : Int64) (v8 : Int32) (s0 : Nat) (s1 : Int32) (s2 : Int64) (h : Hp) : Option Hp :=
  if okO h s0 3 then
  (f_X3_lengthen s0 s1 s2 v3 h).bind fun o1 =>
  K106 v0 v3 v6 (v8 + 1) o1
  else none
set_option maxRecDepth 100000 in
set_option maxHeartbeats 4000000 in
theorem r_X3_draw_144 {X : Nat → Int32} {d : Nat} (hd : 4 ≤ (d + 1)) {n : Nat} {K106 : Nat → Int32 → Int64 → Int32 → Hp → Option Hp} (HK106 : ∀ (v0 : Nat) (v3 : Int32) (v6 : Int64) (v8 : Int32) (d1 : Int64) (d4 : Int64) (h : Hp) (o : Hp), K106 v0 v3 v6 v8 h = some o → Run X (d + 1) 32 106 [some (.ref v0), some (.long d1), none, some (.int v3), some (.long d4), none, some (.long v6), none, some (.int v8)] [] h (none, o)) {v0 : Nat} {v3 : Int32} {v6 : Int64} {v8 : Int32} {s0 : Nat} {s1 : Int32} {s2 : Int64} {d1 : Int64} {d4 : Int64} {h : Hp} {o : Hp} (hf : f_X3_draw_144 n K106 v0 v3 v6 v8 s0 s1 s2 h = some o) : Run X (d + 1) 32 144 [some (.ref v0), some (.long d1), none, some (.int v3), some (.long d4), none, some (.long v6), none, some (.int v8)] [.long s2, .int s1, .ref s0] h (none, o) := by
  unfold f_X3_draw_144 at hf
  refine rs_iload_n i_X3_draw_144 rfl ?_
  obtain ⟨c2, hf⟩ := ite_some hf
  obtain ⟨o1, e1, hf⟩ := bind_some hf
  refine rs_inV i_X3_draw_145 m_X3_lengthen rfl (As := [.int s1, .long s2, .int v3]) (rest := []) rfl rfl (Nat.le_of_ble_eq_true rfl) c2 (c_X3_lengthen (by omega) e1) (st' := []) rfl ?_
  refine rs_iinc i_X3_draw_148 rfl (v := v8 + 1) rfl (Nat.le_of_ble_eq_true rfl) (lv' := [some (.ref v0), some (.long d1), none, some (.int v3), some (.long d4), none, some (.long v6), none, some (.int (v8 + 1))]) rfl ?_
  refine rs_goto i_X3_draw_151 (tg := 106) (by decide) ?_
  exact HK106 _ _ _ _ _ _ _ _ hf
def f_X3_draw_106 (n : Nat) : Nat → Nat → Int32 → Int64 → Int32 → Hp → Option Hp
  | 0, _, _, _, _, _ => none
  | m + 1, v0, v3, v6, v8, h =>
    if 12 ≤ v8 then
      f_X3_draw_157 n n v0 v3 0 h
    else
      if v6 ≤ (Int32.toInt64 v8) then
        if okO h v0 3 then
        (gR h v0 5).bind fun a4 =>
        if okL h a4 v8 then
        f_X3_draw_144 n (f_X3_draw_106 n m) v0 v3 v6 v8 v0 v8 (gL' h a4 (ix v8)) h
        else none
        else none
      else
        if okO h v0 3 then
        (gR h v0 5).bind fun a7 =>
        if okL h a7 v8 then
        f_X3_draw_144 n (f_X3_draw_106 n m) v0 v3 v6 v8 v0 v8 ((gL' h a7 (ix v8)) + 1) h
        else none
        else none
set_option maxRecDepth 100000 in
set_option maxHeartbeats 4000000 in
theorem r_X3_draw_106 {X : Nat → Int32} {d : Nat} (hd : 4 ≤ (d + 1)) {n : Nat} : ∀ (m : Nat) (v0 : Nat) (v3 : Int32) (v6 : Int64) (v8 : Int32) (d1 : Int64) (d4 : Int64) (h : Hp) (o : Hp), f_X3_draw_106 n m v0 v3 v6 v8 h = some o → Run X (d + 1) 32 106 [some (.ref v0), some (.long d1), none, some (.int v3), some (.long d4), none, some (.long v6), none, some (.int v8)] [] h (none, o) := by
  intro m
  induction m with
  | zero => intro v0 v3 v6 v8 d1 d4 h o hf; cases hf
  | succ m ih =>
    intro v0 v3 v6 v8 d1 d4 h o hf
    rw [f_X3_draw_106] at hf
    refine rs_iload i_X3_draw_106 rfl ?_
    refine rs_bipush i_X3_draw_108 (v := 12) (by decide) ?_
    by_cases c1 : 12 ≤ v8
    · replace hf := (if_pos c1).symm.trans hf
      refine rs_icT i_X3_draw_110 (ct_ge c1) (tg := 154) (by decide) ?_
      refine rs_iconst i_X3_draw_154 (v := 0) (by decide) ?_
      refine rs_istore i_X3_draw_155 (Nat.le_of_ble_eq_true rfl) (lv' := [some (.ref v0), some (.long d1), none, some (.int v3), some (.long d4), none, some (.long v6), none, some (.int 0)]) rfl ?_
      exact r_X3_draw_157 hd _ _ _ _ _ _ _ _ _ hf
    · replace hf := (if_neg c1).symm.trans hf
      refine rs_icF i_X3_draw_110 (cf_ge c1) ?_
      refine rs_aload_n i_X3_draw_113 rfl ?_
      refine rs_iload i_X3_draw_114 rfl ?_
      refine rs_iload i_X3_draw_116 rfl ?_
      refine rs_i2l i_X3_draw_118 ?_
      refine rs_lload i_X3_draw_119 rfl ?_
      refine rs_lcmp i_X3_draw_121 ?_
      by_cases c2 : v6 ≤ (Int32.toInt64 v8)
      · replace hf := (if_pos c2).symm.trans hf
        refine rs_ifT i_X3_draw_122 (by rw [lc_ge]; exact decide_eq_true c2) (tg := 137) (by decide) ?_
        refine rs_aload_n i_X3_draw_137 rfl ?_
        obtain ⟨c3, hf⟩ := ite_some hf
        obtain ⟨a4, e4, hf⟩ := bind_some hf
        refine rs_getR i_X3_draw_138 (by decide) (by decide) c3 e4 ?_
        refine rs_iload i_X3_draw_141 rfl ?_
        obtain ⟨c5, hf⟩ := ite_some hf
        refine rs_lald i_X3_draw_143 c5 ?_
        exact r_X3_draw_144 hd ih hf
      · replace hf := (if_neg c2).symm.trans hf
        refine rs_ifF i_X3_draw_122 (by rw [lc_ge]; exact decide_eq_false c2) ?_
        refine rs_aload_n i_X3_draw_125 rfl ?_
        obtain ⟨c6, hf⟩ := ite_some hf
        obtain ⟨a7, e7, hf⟩ := bind_some hf
        refine rs_getR i_X3_draw_126 (by decide) (by decide) c6 e7 ?_
        refine rs_iload i_X3_draw_129 rfl ?_
        obtain ⟨c8, hf⟩ := ite_some hf
        refine rs_lald i_X3_draw_131 c8 ?_
        refine rs_lconst i_X3_draw_132 (v := 1) (by decide) ?_
        refine rs_ladd i_X3_draw_133 ?_
        refine rs_goto i_X3_draw_134 (tg := 144) (by decide) ?_
        exact r_X3_draw_144 hd ih hf
def f_X3_draw_85 (n : Nat) (K56 : Nat → Int64 → Int32 → Int64 → Int64 → Int32 → Hp → Option Hp) (v0 : Nat) (v1 : Int64) (v3 : Int32) (v4 : Int64) (v6 : Int64) (v8 : Int32) (h : Hp) : Option Hp :=
  if okO h v0 3 then
  (gR h v0 5).bind fun a2 =>
  if okL h a2 v8 then
  K56 v0 v1 v3 v4 (v6 - (gL' h a2 (ix v8))) (v8 + 1) h
  else none
  else none
set_option maxRecDepth 100000 in
set_option maxHeartbeats 4000000 in
theorem r_X3_draw_85 {X : Nat → Int32} {d : Nat} (hd : 4 ≤ (d + 1)) {n : Nat} {K56 : Nat → Int64 → Int32 → Int64 → Int64 → Int32 → Hp → Option Hp} (HK56 : ∀ (v0 : Nat) (v1 : Int64) (v3 : Int32) (v4 : Int64) (v6 : Int64) (v8 : Int32) (h : Hp) (o : Hp), K56 v0 v1 v3 v4 v6 v8 h = some o → Run X (d + 1) 32 56 [some (.ref v0), some (.long v1), none, some (.int v3), some (.long v4), none, some (.long v6), none, some (.int v8)] [] h (none, o)) {v0 : Nat} {v1 : Int64} {v3 : Int32} {v4 : Int64} {v6 : Int64} {v8 : Int32} {h : Hp} {o : Hp} (hf : f_X3_draw_85 n K56 v0 v1 v3 v4 v6 v8 h = some o) : Run X (d + 1) 32 85 [some (.ref v0), some (.long v1), none, some (.int v3), some (.long v4), none, some (.long v6), none, some (.int v8)] [] h (none, o) := by
  unfold f_X3_draw_85 at hf
  refine rs_lload i_X3_draw_85 rfl ?_
  refine rs_aload_n i_X3_draw_87 rfl ?_
  obtain ⟨c1, hf⟩ := ite_some hf
  obtain ⟨a2, e2, hf⟩ := bind_some hf
  refine rs_getR i_X3_draw_88 (by decide) (by decide) c1 e2 ?_
  refine rs_iload i_X3_draw_91 rfl ?_
  obtain ⟨c3, hf⟩ := ite_some hf
  refine rs_lald i_X3_draw_93 c3 ?_
  refine rs_lsub i_X3_draw_94 ?_
  refine rs_lstore i_X3_draw_95 (Nat.le_of_ble_eq_true rfl) (lv' := [some (.ref v0), some (.long v1), none, some (.int v3), some (.long v4), none, some (.long (v6 - (gL' h a2 (ix v8)))), none, some (.int v8)]) rfl ?_
  refine rs_iinc i_X3_draw_97 rfl (v := v8 + 1) rfl (Nat.le_of_ble_eq_true rfl) (lv' := [some (.ref v0), some (.long v1), none, some (.int v3), some (.long v4), none, some (.long (v6 - (gL' h a2 (ix v8)))), none, some (.int (v8 + 1))]) rfl ?_
  refine rs_goto i_X3_draw_100 (tg := 56) (by decide) ?_
  exact HK56 _ _ _ _ _ _ _ _ hf
def f_X3_draw_56 (n : Nat) : Nat → Nat → Int64 → Int32 → Int64 → Int64 → Int32 → Hp → Option Hp
  | 0, _, _, _, _, _, _, _ => none
  | m + 1, v0, v1, v3, v4, v6, v8, h =>
    if 12 ≤ v8 then
      f_X3_draw_106 n n v0 v3 v6 0 h
    else
      if okO h v0 3 then
      (gR h v0 5).bind fun a3 =>
      (gR h v0 3).bind fun a4 =>
      if okI h a4 v8 then
      (f_X7_quotient (v1 * (Int32.toInt64 (gI h a4 (ix v8)))) v4 h).bind fun o6 =>
      if okL o6.2 a3 v8 then
      f_X3_draw_85 n (f_X3_draw_56 n m) v0 v1 v3 v4 v6 v8 (hsl o6.2 a3 (ix v8) o6.1)
      else none
      else none
      else none
set_option maxRecDepth 100000 in
set_option maxHeartbeats 4000000 in
theorem r_X3_draw_56 {X : Nat → Int32} {d : Nat} (hd : 4 ≤ (d + 1)) {n : Nat} : ∀ (m : Nat) (v0 : Nat) (v1 : Int64) (v3 : Int32) (v4 : Int64) (v6 : Int64) (v8 : Int32) (h : Hp) (o : Hp), f_X3_draw_56 n m v0 v1 v3 v4 v6 v8 h = some o → Run X (d + 1) 32 56 [some (.ref v0), some (.long v1), none, some (.int v3), some (.long v4), none, some (.long v6), none, some (.int v8)] [] h (none, o) := by
  intro m
  induction m with
  | zero => intro v0 v1 v3 v4 v6 v8 h o hf; cases hf
  | succ m ih =>
    intro v0 v1 v3 v4 v6 v8 h o hf
    rw [f_X3_draw_56] at hf
    refine rs_iload i_X3_draw_56 rfl ?_
    refine rs_bipush i_X3_draw_58 (v := 12) (by decide) ?_
    by_cases c1 : 12 ≤ v8
    · replace hf := (if_pos c1).symm.trans hf
      refine rs_icT i_X3_draw_60 (ct_ge c1) (tg := 103) (by decide) ?_
      refine rs_iconst i_X3_draw_103 (v := 0) (by decide) ?_
      refine rs_istore i_X3_draw_104 (Nat.le_of_ble_eq_true rfl) (lv' := [some (.ref v0), some (.long v1), none, some (.int v3), some (.long v4), none, some (.long v6), none, some (.int 0)]) rfl ?_
      exact r_X3_draw_106 hd _ _ _ _ _ _ _ _ _ hf
    · replace hf := (if_neg c1).symm.trans hf
      refine rs_icF i_X3_draw_60 (cf_ge c1) ?_
      refine rs_aload_n i_X3_draw_63 rfl ?_
      obtain ⟨c2, hf⟩ := ite_some hf
      obtain ⟨a3, e3, hf⟩ := bind_some hf
      refine rs_getR i_X3_draw_64 (by decide) (by decide) c2 e3 ?_
      refine rs_iload i_X3_draw_67 rfl ?_
      refine rs_lload_n i_X3_draw_69 rfl ?_
      refine rs_aload_n i_X3_draw_70 rfl ?_
      obtain ⟨a4, e4, hf⟩ := bind_some hf
      refine rs_getR i_X3_draw_71 (by decide) (by decide) c2 e4 ?_
      refine rs_iload i_X3_draw_74 rfl ?_
      obtain ⟨c5, hf⟩ := ite_some hf
      refine rs_iald i_X3_draw_76 c5 ?_
      refine rs_i2l i_X3_draw_77 ?_
      refine rs_lmul i_X3_draw_78 ?_
      refine rs_lload i_X3_draw_79 rfl ?_
      obtain ⟨o6, e6, hf⟩ := bind_some hf
      refine rs_inS i_X3_draw_81 (by decide) m_X7_quotient rfl (As := [.long (v1 * (Int32.toInt64 (gI h a4 (ix v8)))), .long v4]) (rest := [.int v8, .ref a3]) rfl rfl (Nat.le_of_ble_eq_true rfl) (c_X7_quotient (by omega) e6) (st' := [.long o6.1, .int v8, .ref a3]) rfl ?_
      obtain ⟨c7, hf⟩ := ite_some hf
      refine rs_last i_X3_draw_84 c7 ?_
      exact r_X3_draw_85 hd ih hf
def f_X3_draw_31 (n : Nat) (K6 : Nat → Int64 → Int32 → Int64 → Int32 → Hp → Option Hp) (v0 : Nat) (v1 : Int64) (v3 : Int32) (v4 : Int64) (v6 : Int32) (h : Hp) : Option Hp :=
  if okO h v0 3 then
  (gR h v0 3).bind fun a2 =>
  if okI h a2 v6 then
  K6 v0 v1 v3 (v4 + (Int32.toInt64 (gI h a2 (ix v6)))) (v6 + 1) h
  else none
  else none
set_option maxRecDepth 100000 in
set_option maxHeartbeats 4000000 in
theorem r_X3_draw_31 {X : Nat → Int32} {d : Nat} (hd : 4 ≤ (d + 1)) {n : Nat} {K6 : Nat → Int64 → Int32 → Int64 → Int32 → Hp → Option Hp} (HK6 : ∀ (v0 : Nat) (v1 : Int64) (v3 : Int32) (v4 : Int64) (v6 : Int32) (h : Hp) (o : Hp), K6 v0 v1 v3 v4 v6 h = some o → Run X (d + 1) 32 6 [some (.ref v0), some (.long v1), none, some (.int v3), some (.long v4), none, some (.int v6), none, none] [] h (none, o)) {v0 : Nat} {v1 : Int64} {v3 : Int32} {v4 : Int64} {v6 : Int32} {h : Hp} {o : Hp} (hf : f_X3_draw_31 n K6 v0 v1 v3 v4 v6 h = some o) : Run X (d + 1) 32 31 [some (.ref v0), some (.long v1), none, some (.int v3), some (.long v4), none, some (.int v6), none, none] [] h (none, o) := by
  unfold f_X3_draw_31 at hf
  refine rs_lload i_X3_draw_31 rfl ?_
  refine rs_aload_n i_X3_draw_33 rfl ?_
  obtain ⟨c1, hf⟩ := ite_some hf
  obtain ⟨a2, e2, hf⟩ := bind_some hf
  refine rs_getR i_X3_draw_34 (by decide) (by decide) c1 e2 ?_
  refine rs_iload i_X3_draw_37 rfl ?_
  obtain ⟨c3, hf⟩ := ite_some hf
  refine rs_iald i_X3_draw_39 c3 ?_
  refine rs_i2l i_X3_draw_40 ?_
  refine rs_ladd i_X3_draw_41 ?_
  refine rs_lstore i_X3_draw_42 (Nat.le_of_ble_eq_true rfl) (lv' := [some (.ref v0), some (.long v1), none, some (.int v3), some (.long (v4 + (Int32.toInt64 (gI h a2 (ix v6))))), none, some (.int v6), none, none]) rfl ?_
  refine rs_iinc i_X3_draw_44 rfl (v := v6 + 1) rfl (Nat.le_of_ble_eq_true rfl) (lv' := [some (.ref v0), some (.long v1), none, some (.int v3), some (.long (v4 + (Int32.toInt64 (gI h a2 (ix v6))))), none, some (.int (v6 + 1)), none, none]) rfl ?_
  refine rs_goto i_X3_draw_47 (tg := 6) (by decide) ?_
  exact HK6 _ _ _ _ _ _ _ hf
def f_X3_draw_6 (n : Nat) : Nat → Nat → Int64 → Int32 → Int64 → Int32 → Hp → Option Hp
  | 0, _, _, _, _, _, _ => none
  | m + 1, v0, v1, v3, v4, v6, h =>
    if 12 ≤ v6 then
      f_X3_draw_56 n n v0 v1 v3 v4 v1 0 h
    else
      if okO h v0 3 then
      (gR h v0 3).bind fun a3 =>
      (gR h v0 6).bind fun a4 =>
      if okO h a4 1 then
      (f_X1_ease n a4 v0 v6 v3 h).bind fun o5 =>
      if okI o5.2 a3 v6 then
      f_X3_draw_31 n (f_X3_draw_6 n m) v0 v1 v3 v4 v6 (hsi o5.2 a3 (ix v6) o5.1)
      else none
      else none
      else none
set_option maxRecDepth 100000 in
set_option maxHeartbeats 4000000 in
theorem r_X3_draw_6 {X : Nat → Int32} {d : Nat} (hd : 4 ≤ (d + 1)) {n : Nat} : ∀ (m : Nat) (v0 : Nat) (v1 : Int64) (v3 : Int32) (v4 : Int64) (v6 : Int32) (h : Hp) (o : Hp), f_X3_draw_6 n m v0 v1 v3 v4 v6 h = some o → Run X (d + 1) 32 6 [some (.ref v0), some (.long v1), none, some (.int v3), some (.long v4), none, some (.int v6), none, none] [] h (none, o) := by
  intro m
  induction m with
  | zero => intro v0 v1 v3 v4 v6 h o hf; cases hf
  | succ m ih =>
    intro v0 v1 v3 v4 v6 h o hf
    rw [f_X3_draw_6] at hf
    refine rs_iload i_X3_draw_6 rfl ?_
    refine rs_bipush i_X3_draw_8 (v := 12) (by decide) ?_
    by_cases c1 : 12 ≤ v6
    · replace hf := (if_pos c1).symm.trans hf
      refine rs_icT i_X3_draw_10 (ct_ge c1) (tg := 50) (by decide) ?_
      refine rs_lload_n i_X3_draw_50 rfl ?_
      refine rs_lstore i_X3_draw_51 (Nat.le_of_ble_eq_true rfl) (lv' := [some (.ref v0), some (.long v1), none, some (.int v3), some (.long v4), none, some (.long v1), none, none]) rfl ?_
      refine rs_iconst i_X3_draw_53 (v := 0) (by decide) ?_
      refine rs_istore i_X3_draw_54 (Nat.le_of_ble_eq_true rfl) (lv' := [some (.ref v0), some (.long v1), none, some (.int v3), some (.long v4), none, some (.long v1), none, some (.int 0)]) rfl ?_
      exact r_X3_draw_56 hd _ _ _ _ _ _ _ _ _ hf
    · replace hf := (if_neg c1).symm.trans hf
      refine rs_icF i_X3_draw_10 (cf_ge c1) ?_
      refine rs_aload_n i_X3_draw_13 rfl ?_
      obtain ⟨c2, hf⟩ := ite_some hf
      obtain ⟨a3, e3, hf⟩ := bind_some hf
      refine rs_getR i_X3_draw_14 (by decide) (by decide) c2 e3 ?_
      refine rs_iload i_X3_draw_17 rfl ?_
      refine rs_aload_n i_X3_draw_19 rfl ?_
      obtain ⟨a4, e4, hf⟩ := bind_some hf
      refine rs_getR i_X3_draw_20 (by decide) (by decide) c2 e4 ?_
      refine rs_aload_n i_X3_draw_23 rfl ?_
      refine rs_iload i_X3_draw_24 rfl ?_
      refine rs_iload_n i_X3_draw_26 rfl ?_
      obtain ⟨c6, hf⟩ := ite_some hf
      obtain ⟨o5, e5, hf⟩ := bind_some hf
      refine rs_inV i_X3_draw_27 m_X1_ease rfl (As := [.ref v0, .int v6, .int v3]) (rest := [.int v6, .ref a3]) rfl rfl (Nat.le_of_ble_eq_true rfl) c6 (c_X1_ease (by omega) e5) (st' := [.int o5.1, .int v6, .ref a3]) rfl ?_
      obtain ⟨c7, hf⟩ := ite_some hf
      refine rs_iast i_X3_draw_30 c7 ?_
      exact r_X3_draw_31 hd ih hf
def f_X3_draw_0 (n : Nat) (v0 : Nat) (v1 : Int64) (v3 : Int32) (h : Hp) : Option Hp :=
  f_X3_draw_6 n n v0 v1 v3 0 0 h
set_option maxRecDepth 100000 in
set_option maxHeartbeats 4000000 in
theorem r_X3_draw_0 {X : Nat → Int32} {d : Nat} (hd : 4 ≤ (d + 1)) {n : Nat} {v0 : Nat} {v1 : Int64} {v3 : Int32} {h : Hp} {o : Hp} (hf : f_X3_draw_0 n v0 v1 v3 h = some o) : Run X (d + 1) 32 0 [some (.ref v0), some (.long v1), none, some (.int v3), none, none, none, none, none] [] h (none, o) := by
  unfold f_X3_draw_0 at hf
  refine rs_lconst i_X3_draw_0 (v := 0) (by decide) ?_
  refine rs_lstore i_X3_draw_1 (Nat.le_of_ble_eq_true rfl) (lv' := [some (.ref v0), some (.long v1), none, some (.int v3), some (.long 0), none, none, none, none]) rfl ?_
  refine rs_iconst i_X3_draw_3 (v := 0) (by decide) ?_
  refine rs_istore i_X3_draw_4 (Nat.le_of_ble_eq_true rfl) (lv' := [some (.ref v0), some (.long v1), none, some (.int v3), some (.long 0), none, some (.int 0), none, none]) rfl ?_
  exact r_X3_draw_6 hd _ _ _ _ _ _ _ _ hf
def f_X3_draw (n : Nat) (v0 : Nat) (v1 : Int64) (v3 : Int32) (h : Hp) : Option Hp := f_X3_draw_0 n v0 v1 v3 h
theorem c_X3_draw {X : Nat → Int32} {d : Nat} (hd : 4 ≤ d) {n : Nat} {v0 : Nat} {v1 : Int64} {v3 : Int32} {h : Hp} {o : Hp} (hf : f_X3_draw n v0 v1 v3 h = some o) : Calls X d 32 [.ref v0, .long v1, .int v3] h (none, o) := by
  obtain ⟨d, rfl⟩ : ∃ z, d = z + 1 := ⟨d - 1, by omega⟩
  exact ⟨_, rfl, r_X3_draw_0 hd hf⟩
theorem i_X3_foldRow_0 : fetch 36 0 = some (.iconst 0, 1, 0, 0, 0, 0) := by decide +kernel
theorem i_X3_foldRow_1 : fetch 36 1 = some (.istore 4, 3, 0, 0, 0, 0) := by decide +kernel
theorem i_X3_foldRow_3 : fetch 36 3 = some (.iload 4, 5, 0, 0, 0, 0) := by decide +kernel
theorem i_X3_foldRow_5 : fetch 36 5 = some (.bipush 6, 7, 0, 0, 0, 0) := by decide +kernel
theorem i_X3_foldRow_7 : fetch 36 7 = some (.if_icmp .ge 43, 10, 0, 0, 0, 0) := by decide +kernel
theorem i_X3_foldRow_10 : fetch 36 10 = some (.aload_n 1, 11, 0, 0, 0, 0) := by decide +kernel
theorem i_X3_foldRow_11 : fetch 36 11 = some (.iload 4, 13, 0, 0, 0, 0) := by decide +kernel
theorem i_X3_foldRow_13 : fetch 36 13 = some (.iaload, 14, 0, 0, 0, 0) := by decide +kernel
theorem i_X3_foldRow_14 : fetch 36 14 = some (.aload_n 1, 15, 0, 0, 0, 0) := by decide +kernel
theorem i_X3_foldRow_15 : fetch 36 15 = some (.bipush 11, 17, 0, 0, 0, 0) := by decide +kernel
theorem i_X3_foldRow_17 : fetch 36 17 = some (.iload 4, 19, 0, 0, 0, 0) := by decide +kernel
theorem i_X3_foldRow_19 : fetch 36 19 = some (.isub, 20, 0, 0, 0, 0) := by decide +kernel
theorem i_X3_foldRow_20 : fetch 36 20 = some (.iaload, 21, 0, 0, 0, 0) := by decide +kernel
theorem i_X3_foldRow_21 : fetch 36 21 = some (.iadd, 22, 0, 0, 0, 0) := by decide +kernel
theorem i_X3_foldRow_22 : fetch 36 22 = some (.istore 5, 24, 0, 0, 0, 0) := by decide +kernel
theorem i_X3_foldRow_24 : fetch 36 24 = some (.aload_n 0, 25, 0, 0, 0, 0) := by decide +kernel
theorem i_X3_foldRow_25 : fetch 36 25 = some (.getfield 24, 28, 3, 4, 0, 245) := by decide +kernel
theorem i_X3_foldRow_28 : fetch 36 28 = some (.iload 4, 30, 0, 0, 0, 0) := by decide +kernel
theorem i_X3_foldRow_30 : fetch 36 30 = some (.iload_n 3, 31, 0, 0, 0, 0) := by decide +kernel
theorem i_X3_foldRow_31 : fetch 36 31 = some (.iload 5, 33, 0, 0, 0, 0) := by decide +kernel
theorem i_X3_foldRow_33 : fetch 36 33 = some (.i2l, 34, 0, 0, 0, 0) := by decide +kernel
theorem i_X3_foldRow_34 : fetch 36 34 = some (.iload_n 2, 35, 0, 0, 0, 0) := by decide +kernel
theorem i_X3_foldRow_35 : fetch 36 35 = some (.i2l, 36, 0, 0, 0, 0) := by decide +kernel
theorem i_X3_foldRow_36 : fetch 36 36 = some (.invokestatic 115, 39, 111, 1, 0, 653) := by decide +kernel
theorem i_X3_foldRow_39 : fetch 36 39 = some (.l2i, 40, 0, 0, 0, 0) := by decide +kernel
theorem i_X3_foldRow_40 : fetch 36 40 = some (.invokestatic 105, 43, 1003, 0, 0, 682) := by decide +kernel
theorem i_X3_foldRow_43 : fetch 36 43 = some (.iastore, 44, 0, 0, 0, 0) := by decide +kernel
theorem i_X3_foldRow_44 : fetch 36 44 = some (.iinc 4 1, 47, 0, 0, 0, 0) := by decide +kernel
theorem i_X3_foldRow_47 : fetch 36 47 = some (.goto (-44), 50, 0, 0, 0, 0) := by decide +kernel
theorem i_X3_foldRow_50 : fetch 36 50 = some (.iconst 0, 51, 0, 0, 0, 0) := by decide +kernel
theorem i_X3_foldRow_51 : fetch 36 51 = some (.istore 4, 53, 0, 0, 0, 0) := by decide +kernel
theorem i_X3_foldRow_53 : fetch 36 53 = some (.iload 4, 55, 0, 0, 0, 0) := by decide +kernel
theorem i_X3_foldRow_55 : fetch 36 55 = some (.bipush 12, 57, 0, 0, 0, 0) := by decide +kernel
theorem i_X3_foldRow_57 : fetch 36 57 = some (.if_icmp .ge 22, 60, 0, 0, 0, 0) := by decide +kernel
theorem i_X3_foldRow_60 : fetch 36 60 = some (.aload_n 1, 61, 0, 0, 0, 0) := by decide +kernel
theorem i_X3_foldRow_61 : fetch 36 61 = some (.iload 4, 63, 0, 0, 0, 0) := by decide +kernel
theorem i_X3_foldRow_63 : fetch 36 63 = some (.aload_n 0, 64, 0, 0, 0, 0) := by decide +kernel
theorem i_X3_foldRow_64 : fetch 36 64 = some (.getfield 24, 67, 3, 4, 0, 245) := by decide +kernel
theorem i_X3_foldRow_67 : fetch 36 67 = some (.iload 4, 69, 0, 0, 0, 0) := by decide +kernel
theorem i_X3_foldRow_69 : fetch 36 69 = some (.iconst 2, 70, 0, 0, 0, 0) := by decide +kernel
theorem i_X3_foldRow_70 : fetch 36 70 = some (.idiv, 71, 0, 0, 0, 0) := by decide +kernel
theorem i_X3_foldRow_71 : fetch 36 71 = some (.iaload, 72, 0, 0, 0, 0) := by decide +kernel
theorem i_X3_foldRow_72 : fetch 36 72 = some (.iastore, 73, 0, 0, 0, 0) := by decide +kernel
theorem i_X3_foldRow_73 : fetch 36 73 = some (.iinc 4 1, 76, 0, 0, 0, 0) := by decide +kernel
theorem i_X3_foldRow_76 : fetch 36 76 = some (.goto (-23), 79, 0, 0, 0, 0) := by decide +kernel
theorem i_X3_foldRow_79 : fetch 36 79 = some (.return_, 80, 0, 0, 0, 0) := by decide +kernel
def f_X3_foldRow_53 (n : Nat) : Nat → Nat → Nat → Int32 → Hp → Option Hp
  | 0, _, _, _, _ => none
  | m + 1, v0, v1, v4, h =>
    if 12 ≤ v4 then
      some h
    else
      if okO h v0 3 then
      (gR h v0 4).bind fun a3 =>
      if okI h a3 (v4 / 2) then
      if okI h v1 v4 then
      (f_X3_foldRow_53 n m) v0 v1 (v4 + 1) (hsi h v1 (ix v4) (gI h a3 (ix (v4 / 2))))
      else none
      else none
      else none
set_option maxRecDepth 100000 in
set_option maxHeartbeats 4000000 in
theorem r_X3_foldRow_53 {X : Nat → Int32} {d : Nat} (hd : 1 ≤ (d + 1)) {n : Nat} : ∀ (m : Nat) (v0 : Nat) (v1 : Nat) (v4 : Int32) (d2 : Int32) (d3 : Int32) (w5 : Option Value) (h : Hp) (o : Hp), f_X3_foldRow_53 n m v0 v1 v4 h = some o → Run X (d + 1) 36 53 [some (.ref v0), some (.ref v1), some (.int d2), some (.int d3), some (.int v4), w5] [] h (none, o) := by
  intro m
  induction m with
  | zero => intro v0 v1 v4 d2 d3 w5 h o hf; cases hf
  | succ m ih =>
    intro v0 v1 v4 d2 d3 w5 h o hf
    rw [f_X3_foldRow_53] at hf
    refine rs_iload i_X3_foldRow_53 rfl ?_
    refine rs_bipush i_X3_foldRow_55 (v := 12) (by decide) ?_
    by_cases c1 : 12 ≤ v4
    · replace hf := (if_pos c1).symm.trans hf
      refine rs_icT i_X3_foldRow_57 (ct_ge c1) (tg := 79) (by decide) ?_
      have hf := Option.some.inj hf
      subst hf
      exact rs_vret i_X3_foldRow_79 m_X3_foldRow rfl
    · replace hf := (if_neg c1).symm.trans hf
      refine rs_icF i_X3_foldRow_57 (cf_ge c1) ?_
      refine rs_aload_n i_X3_foldRow_60 rfl ?_
      refine rs_iload i_X3_foldRow_61 rfl ?_
      refine rs_aload_n i_X3_foldRow_63 rfl ?_
      obtain ⟨c2, hf⟩ := ite_some hf
      obtain ⟨a3, e3, hf⟩ := bind_some hf
      refine rs_getR i_X3_foldRow_64 (by decide) (by decide) c2 e3 ?_
      refine rs_iload i_X3_foldRow_67 rfl ?_
      refine rs_iconst i_X3_foldRow_69 (v := 2) (by decide) ?_
      refine rs_idiv i_X3_foldRow_70 (by decide) ?_
      obtain ⟨c4, hf⟩ := ite_some hf
      refine rs_iald i_X3_foldRow_71 c4 ?_
      obtain ⟨c5, hf⟩ := ite_some hf
      refine rs_iast i_X3_foldRow_72 c5 ?_
      refine rs_iinc i_X3_foldRow_73 rfl (v := v4 + 1) rfl (Nat.le_of_ble_eq_true rfl) (lv' := [some (.ref v0), some (.ref v1), some (.int d2), some (.int d3), some (.int (v4 + 1)), w5]) rfl ?_
      refine rs_goto i_X3_foldRow_76 (tg := 53) (by decide) ?_
      exact ih _ _ _ _ _ _ _ _ hf
def f_X3_foldRow_24 (n : Nat) (K3 : Nat → Nat → Int32 → Int32 → Int32 → Hp → Option Hp) (v0 : Nat) (v1 : Nat) (v2 : Int32) (v3 : Int32) (v4 : Int32) (v5 : Int32) (h : Hp) : Option Hp :=
  if okO h v0 3 then
  (gR h v0 4).bind fun a2 =>
  (f_X7_quotient (Int32.toInt64 v5) (Int32.toInt64 v2) h).bind fun o3 =>
  if okI o3.2 a2 v4 then
  K3 v0 v1 v2 v3 (v4 + 1) (hsi o3.2 a2 (ix v4) (if v3 < (Int64.toInt32 o3.1) then (Int64.toInt32 o3.1) else v3))
  else none
  else none
set_option maxRecDepth 100000 in
set_option maxHeartbeats 4000000 in
theorem r_X3_foldRow_24 {X : Nat → Int32} {d : Nat} (hd : 1 ≤ (d + 1)) {n : Nat} {K3 : Nat → Nat → Int32 → Int32 → Int32 → Hp → Option Hp} (HK3 : ∀ (v0 : Nat) (v1 : Nat) (v2 : Int32) (v3 : Int32) (v4 : Int32) (w5 : Option Value) (h : Hp) (o : Hp), K3 v0 v1 v2 v3 v4 h = some o → Run X (d + 1) 36 3 [some (.ref v0), some (.ref v1), some (.int v2), some (.int v3), some (.int v4), w5] [] h (none, o)) {v0 : Nat} {v1 : Nat} {v2 : Int32} {v3 : Int32} {v4 : Int32} {v5 : Int32} {h : Hp} {o : Hp} (hf : f_X3_foldRow_24 n K3 v0 v1 v2 v3 v4 v5 h = some o) : Run X (d + 1) 36 24 [some (.ref v0), some (.ref v1), some (.int v2), some (.int v3), some (.int v4), some (.int v5)] [] h (none, o) := by
  unfold f_X3_foldRow_24 at hf
  refine rs_aload_n i_X3_foldRow_24 rfl ?_
  obtain ⟨c1, hf⟩ := ite_some hf
  obtain ⟨a2, e2, hf⟩ := bind_some hf
  refine rs_getR i_X3_foldRow_25 (by decide) (by decide) c1 e2 ?_
  refine rs_iload i_X3_foldRow_28 rfl ?_
  refine rs_iload_n i_X3_foldRow_30 rfl ?_
  refine rs_iload i_X3_foldRow_31 rfl ?_
  refine rs_i2l i_X3_foldRow_33 ?_
  refine rs_iload_n i_X3_foldRow_34 rfl ?_
  refine rs_i2l i_X3_foldRow_35 ?_
  obtain ⟨o3, e3, hf⟩ := bind_some hf
  refine rs_inS i_X3_foldRow_36 (by decide) m_X7_quotient rfl (As := [.long (Int32.toInt64 v5), .long (Int32.toInt64 v2)]) (rest := [.int v3, .int v4, .ref a2]) rfl rfl (Nat.le_of_ble_eq_true rfl) (c_X7_quotient (by omega) e3) (st' := [.long o3.1, .int v3, .int v4, .ref a2]) rfl ?_
  refine rs_l2i i_X3_foldRow_39 ?_
  refine rs_max i_X3_foldRow_40 (Nat.le_of_ble_eq_true rfl) ?_
  obtain ⟨c4, hf⟩ := ite_some hf
  refine rs_iast i_X3_foldRow_43 c4 ?_
  refine rs_iinc i_X3_foldRow_44 rfl (v := v4 + 1) rfl (Nat.le_of_ble_eq_true rfl) (lv' := [some (.ref v0), some (.ref v1), some (.int v2), some (.int v3), some (.int (v4 + 1)), some (.int v5)]) rfl ?_
  refine rs_goto i_X3_foldRow_47 (tg := 3) (by decide) ?_
  exact HK3 _ _ _ _ _ _ _ _ hf
def f_X3_foldRow_3 (n : Nat) : Nat → Nat → Nat → Int32 → Int32 → Int32 → Hp → Option Hp
  | 0, _, _, _, _, _, _ => none
  | m + 1, v0, v1, v2, v3, v4, h =>
    if 6 ≤ v4 then
      f_X3_foldRow_53 n n v0 v1 0 h
    else
      if okI h v1 v4 then
      if okI h v1 (11 - v4) then
      f_X3_foldRow_24 n (f_X3_foldRow_3 n m) v0 v1 v2 v3 v4 ((gI h v1 (ix v4)) + (gI h v1 (ix (11 - v4)))) h
      else none
      else none
set_option maxRecDepth 100000 in
set_option maxHeartbeats 4000000 in
theorem r_X3_foldRow_3 {X : Nat → Int32} {d : Nat} (hd : 1 ≤ (d + 1)) {n : Nat} : ∀ (m : Nat) (v0 : Nat) (v1 : Nat) (v2 : Int32) (v3 : Int32) (v4 : Int32) (w5 : Option Value) (h : Hp) (o : Hp), f_X3_foldRow_3 n m v0 v1 v2 v3 v4 h = some o → Run X (d + 1) 36 3 [some (.ref v0), some (.ref v1), some (.int v2), some (.int v3), some (.int v4), w5] [] h (none, o) := by
  intro m
  induction m with
  | zero => intro v0 v1 v2 v3 v4 w5 h o hf; cases hf
  | succ m ih =>
    intro v0 v1 v2 v3 v4 w5 h o hf
    rw [f_X3_foldRow_3] at hf
    refine rs_iload i_X3_foldRow_3 rfl ?_
    refine rs_bipush i_X3_foldRow_5 (v := 6) (by decide) ?_
    by_cases c1 : 6 ≤ v4
    · replace hf := (if_pos c1).symm.trans hf
      refine rs_icT i_X3_foldRow_7 (ct_ge c1) (tg := 50) (by decide) ?_
      refine rs_iconst i_X3_foldRow_50 (v := 0) (by decide) ?_
      refine rs_istore i_X3_foldRow_51 (Nat.le_of_ble_eq_true rfl) (lv' := [some (.ref v0), some (.ref v1), some (.int v2), some (.int v3), some (.int 0), w5]) rfl ?_
      exact r_X3_foldRow_53 hd _ _ _ _ _ _ _ _ _ hf
    · replace hf := (if_neg c1).symm.trans hf
      refine rs_icF i_X3_foldRow_7 (cf_ge c1) ?_
      refine rs_aload_n i_X3_foldRow_10 rfl ?_
      refine rs_iload i_X3_foldRow_11 rfl ?_
      obtain ⟨c2, hf⟩ := ite_some hf
      refine rs_iald i_X3_foldRow_13 c2 ?_
      refine rs_aload_n i_X3_foldRow_14 rfl ?_
      refine rs_bipush i_X3_foldRow_15 (v := 11) (by decide) ?_
      refine rs_iload i_X3_foldRow_17 rfl ?_
      refine rs_isub i_X3_foldRow_19 ?_
      obtain ⟨c3, hf⟩ := ite_some hf
      refine rs_iald i_X3_foldRow_20 c3 ?_
      refine rs_iadd i_X3_foldRow_21 ?_
      refine rs_istore i_X3_foldRow_22 (Nat.le_of_ble_eq_true rfl) (lv' := [some (.ref v0), some (.ref v1), some (.int v2), some (.int v3), some (.int v4), some (.int ((gI h v1 (ix v4)) + (gI h v1 (ix (11 - v4)))))]) rfl ?_
      exact r_X3_foldRow_24 hd ih hf
def f_X3_foldRow_0 (n : Nat) (v0 : Nat) (v1 : Nat) (v2 : Int32) (v3 : Int32) (h : Hp) : Option Hp :=
  f_X3_foldRow_3 n n v0 v1 v2 v3 0 h
set_option maxRecDepth 100000 in
set_option maxHeartbeats 4000000 in
theorem r_X3_foldRow_0 {X : Nat → Int32} {d : Nat} (hd : 1 ≤ (d + 1)) {n : Nat} {v0 : Nat} {v1 : Nat} {v2 : Int32} {v3 : Int32} {h : Hp} {o : Hp} (hf : f_X3_foldRow_0 n v0 v1 v2 v3 h = some o) : Run X (d + 1) 36 0 [some (.ref v0), some (.ref v1), some (.int v2), some (.int v3), none, none] [] h (none, o) := by
  unfold f_X3_foldRow_0 at hf
  refine rs_iconst i_X3_foldRow_0 (v := 0) (by decide) ?_
  refine rs_istore i_X3_foldRow_1 (Nat.le_of_ble_eq_true rfl) (lv' := [some (.ref v0), some (.ref v1), some (.int v2), some (.int v3), some (.int 0), none]) rfl ?_
  exact r_X3_foldRow_3 hd _ _ _ _ _ _ _ _ _ hf
def f_X3_foldRow (n : Nat) (v0 : Nat) (v1 : Nat) (v2 : Int32) (v3 : Int32) (h : Hp) : Option Hp := f_X3_foldRow_0 n v0 v1 v2 v3 h
theorem c_X3_foldRow {X : Nat → Int32} {d : Nat} (hd : 1 ≤ d) {n : Nat} {v0 : Nat} {v1 : Nat} {v2 : Int32} {v3 : Int32} {h : Hp} {o : Hp} (hf : f_X3_foldRow n v0 v1 v2 v3 h = some o) : Calls X d 36 [.ref v0, .ref v1, .int v2, .int v3] h (none, o) := by
  obtain ⟨d, rfl⟩ : ∃ z, d = z + 1 := ⟨d - 1, by omega⟩
  exact ⟨_, rfl, r_X3_foldRow_0 hd hf⟩
theorem i_X3_fold_0 : fetch 35 0 = some (.aload_n 0, 1, 0, 0, 0, 0) := by decide +kernel
theorem i_X3_fold_1 : fetch 35 1 = some (.aload_n 0, 2, 0, 0, 0, 0) := by decide +kernel
theorem i_X3_fold_2 : fetch 35 2 = some (.getfield 9, 5, 3, 0, 0, 238) := by decide +kernel
theorem i_X3_fold_5 : fetch 35 5 = some (.iconst 4, 6, 0, 0, 0, 0) := by decide +kernel
theorem i_X3_fold_6 : fetch 35 6 = some (.iconst 0, 7, 0, 0, 0, 0) := by decide +kernel
theorem i_X3_fold_7 : fetch 35 7 = some (.invokevirtual 137, 10, 36, 0, 0, 678) := by decide +kernel
theorem i_X3_fold_10 : fetch 35 10 = some (.aload_n 0, 11, 0, 0, 0, 0) := by decide +kernel
theorem i_X3_fold_11 : fetch 35 11 = some (.aload_n 0, 12, 0, 0, 0, 0) := by decide +kernel
theorem i_X3_fold_12 : fetch 35 12 = some (.getfield 15, 15, 3, 1, 0, 239) := by decide +kernel
theorem i_X3_fold_15 : fetch 35 15 = some (.iconst 4, 16, 0, 0, 0, 0) := by decide +kernel
theorem i_X3_fold_16 : fetch 35 16 = some (.iconst 1, 17, 0, 0, 0, 0) := by decide +kernel
theorem i_X3_fold_17 : fetch 35 17 = some (.invokevirtual 137, 20, 36, 0, 0, 678) := by decide +kernel
theorem i_X3_fold_20 : fetch 35 20 = some (.aload_n 0, 21, 0, 0, 0, 0) := by decide +kernel
theorem i_X3_fold_21 : fetch 35 21 = some (.aload_n 0, 22, 0, 0, 0, 0) := by decide +kernel
theorem i_X3_fold_22 : fetch 35 22 = some (.getfield 18, 25, 3, 2, 0, 241) := by decide +kernel
theorem i_X3_fold_25 : fetch 35 25 = some (.iconst 2, 26, 0, 0, 0, 0) := by decide +kernel
theorem i_X3_fold_26 : fetch 35 26 = some (.iconst 0, 27, 0, 0, 0, 0) := by decide +kernel
theorem i_X3_fold_27 : fetch 35 27 = some (.invokevirtual 137, 30, 36, 0, 0, 678) := by decide +kernel
theorem i_X3_fold_30 : fetch 35 30 = some (.aload_n 0, 31, 0, 0, 0, 0) := by decide +kernel
theorem i_X3_fold_31 : fetch 35 31 = some (.dup, 32, 0, 0, 0, 0) := by decide +kernel
theorem i_X3_fold_32 : fetch 35 32 = some (.getfield 31, 35, 3, 7, 0, 248) := by decide +kernel
theorem i_X3_fold_35 : fetch 35 35 = some (.iconst 1, 36, 0, 0, 0, 0) := by decide +kernel
theorem i_X3_fold_36 : fetch 35 36 = some (.iadd, 37, 0, 0, 0, 0) := by decide +kernel
theorem i_X3_fold_37 : fetch 35 37 = some (.putfield 31, 40, 3, 7, 0, 248) := by decide +kernel
theorem i_X3_fold_40 : fetch 35 40 = some (.aload_n 0, 41, 0, 0, 0, 0) := by decide +kernel
theorem i_X3_fold_41 : fetch 35 41 = some (.aload_n 0, 42, 0, 0, 0, 0) := by decide +kernel
theorem i_X3_fold_42 : fetch 35 42 = some (.getfield 47, 45, 3, 11, 0, 258) := by decide +kernel
theorem i_X3_fold_45 : fetch 35 45 = some (.bipush 100, 47, 0, 0, 0, 0) := by decide +kernel
theorem i_X3_fold_47 : fetch 35 47 = some (.aload_n 0, 48, 0, 0, 0, 0) := by decide +kernel
theorem i_X3_fold_48 : fetch 35 48 = some (.getfield 50, 51, 3, 6, 0, 247) := by decide +kernel
theorem i_X3_fold_51 : fetch 35 51 = some (.aload_n 0, 52, 0, 0, 0, 0) := by decide +kernel
theorem i_X3_fold_52 : fetch 35 52 = some (.invokevirtual 141, 55, 7, 0, 0, 683) := by decide +kernel
theorem i_X3_fold_55 : fetch 35 55 = some (.isub, 56, 0, 0, 0, 0) := by decide +kernel
theorem i_X3_fold_56 : fetch 35 56 = some (.i2l, 57, 0, 0, 0, 0) := by decide +kernel
theorem i_X3_fold_57 : fetch 35 57 = some (.lmul, 58, 0, 0, 0, 0) := by decide +kernel
theorem i_X3_fold_58 : fetch 35 58 = some (.ldc2_w 126, 61, 0, 0, 100, 669) := by decide +kernel
theorem i_X3_fold_61 : fetch 35 61 = some (.ldiv, 62, 0, 0, 0, 0) := by decide +kernel
theorem i_X3_fold_62 : fetch 35 62 = some (.putfield 47, 65, 3, 11, 0, 258) := by decide +kernel
theorem i_X3_fold_65 : fetch 35 65 = some (.return_, 66, 0, 0, 0, 0) := by decide +kernel
def f_X3_fold_40 (n : Nat) (v0 : Nat) (h : Hp) : Option Hp :=
  if okO h v0 3 then
  (gR h v0 6).bind fun a2 =>
  if okO h a2 1 then
  (f_X1_sticks n a2 v0 h).bind fun o3 =>
  if okO o3.2 v0 3 then
  some (hsl o3.2 v0 11 (((gL' h v0 11) * (Int32.toInt64 (100 - o3.1))) / 100))
  else none
  else none
  else none
set_option maxRecDepth 100000 in
set_option maxHeartbeats 4000000 in
theorem r_X3_fold_40 {X : Nat → Int32} {d : Nat} (hd : 4 ≤ (d + 1)) {n : Nat} {v0 : Nat} {h : Hp} {o : Hp} (hf : f_X3_fold_40 n v0 h = some o) : Run X (d + 1) 35 40 [some (.ref v0)] [] h (none, o) := by
  unfold f_X3_fold_40 at hf
  refine rs_aload_n i_X3_fold_40 rfl ?_
  refine rs_aload_n i_X3_fold_41 rfl ?_
  obtain ⟨c1, hf⟩ := ite_some hf
  refine rs_getL i_X3_fold_42 (by decide) (by decide) c1 ?_
  refine rs_bipush i_X3_fold_45 (v := 100) (by decide) ?_
  refine rs_aload_n i_X3_fold_47 rfl ?_
  obtain ⟨a2, e2, hf⟩ := bind_some hf
  refine rs_getR i_X3_fold_48 (by decide) (by decide) c1 e2 ?_
  refine rs_aload_n i_X3_fold_51 rfl ?_
  obtain ⟨c4, hf⟩ := ite_some hf
  obtain ⟨o3, e3, hf⟩ := bind_some hf
  refine rs_inV i_X3_fold_52 m_X1_sticks rfl (As := [.ref v0]) (rest := [.int 100, .long (gL' h v0 11), .ref v0]) rfl rfl (Nat.le_of_ble_eq_true rfl) c4 (c_X1_sticks (by omega) e3) (st' := [.int o3.1, .int 100, .long (gL' h v0 11), .ref v0]) rfl ?_
  refine rs_isub i_X3_fold_55 ?_
  refine rs_i2l i_X3_fold_56 ?_
  refine rs_lmul i_X3_fold_57 ?_
  refine rs_ldc2 i_X3_fold_58 (v := 100) (by decide) ?_
  refine rs_ldiv i_X3_fold_61 (by decide) ?_
  obtain ⟨c5, hf⟩ := ite_some hf
  refine rs_putL i_X3_fold_62 (by decide) c5 ?_
  have hf := Option.some.inj hf
  subst hf
  exact rs_vret i_X3_fold_65 m_X3_fold rfl
def f_X3_fold_0 (n : Nat) (v0 : Nat) (h : Hp) : Option Hp :=
  if okO h v0 3 then
  (gR h v0 0).bind fun a2 =>
  (f_X3_foldRow n v0 a2 4 0 h).bind fun o3 =>
  if okO o3 v0 3 then
  (gR o3 v0 1).bind fun a5 =>
  (f_X3_foldRow n v0 a5 4 1 o3).bind fun o6 =>
  if okO o6 v0 3 then
  (gR o6 v0 2).bind fun a8 =>
  (f_X3_foldRow n v0 a8 2 0 o6).bind fun o9 =>
  if okO o9 v0 3 then
  f_X3_fold_40 n v0 (hsi o9 v0 7 ((gI o9 v0 7) + 1))
  else none
  else none
  else none
  else none
set_option maxRecDepth 100000 in
set_option maxHeartbeats 4000000 in
theorem r_X3_fold_0 {X : Nat → Int32} {d : Nat} (hd : 4 ≤ (d + 1)) {n : Nat} {v0 : Nat} {h : Hp} {o : Hp} (hf : f_X3_fold_0 n v0 h = some o) : Run X (d + 1) 35 0 [some (.ref v0)] [] h (none, o) := by
  unfold f_X3_fold_0 at hf
  refine rs_aload_n i_X3_fold_0 rfl ?_
  refine rs_aload_n i_X3_fold_1 rfl ?_
  obtain ⟨c1, hf⟩ := ite_some hf
  obtain ⟨a2, e2, hf⟩ := bind_some hf
  refine rs_getR i_X3_fold_2 (by decide) (by decide) c1 e2 ?_
  refine rs_iconst i_X3_fold_5 (v := 4) (by decide) ?_
  refine rs_iconst i_X3_fold_6 (v := 0) (by decide) ?_
  obtain ⟨o3, e3, hf⟩ := bind_some hf
  refine rs_inV i_X3_fold_7 m_X3_foldRow rfl (As := [.ref a2, .int 4, .int 0]) (rest := []) rfl rfl (Nat.le_of_ble_eq_true rfl) c1 (c_X3_foldRow (by omega) e3) (st' := []) rfl ?_
  refine rs_aload_n i_X3_fold_10 rfl ?_
  refine rs_aload_n i_X3_fold_11 rfl ?_
  obtain ⟨c4, hf⟩ := ite_some hf
  obtain ⟨a5, e5, hf⟩ := bind_some hf
  refine rs_getR i_X3_fold_12 (by decide) (by decide) c4 e5 ?_
  refine rs_iconst i_X3_fold_15 (v := 4) (by decide) ?_
  refine rs_iconst i_X3_fold_16 (v := 1) (by decide) ?_
  obtain ⟨o6, e6, hf⟩ := bind_some hf
  refine rs_inV i_X3_fold_17 m_X3_foldRow rfl (As := [.ref a5, .int 4, .int 1]) (rest := []) rfl rfl (Nat.le_of_ble_eq_true rfl) c4 (c_X3_foldRow (by omega) e6) (st' := []) rfl ?_
  refine rs_aload_n i_X3_fold_20 rfl ?_
  refine rs_aload_n i_X3_fold_21 rfl ?_
  obtain ⟨c7, hf⟩ := ite_some hf
  obtain ⟨a8, e8, hf⟩ := bind_some hf
  refine rs_getR i_X3_fold_22 (by decide) (by decide) c7 e8 ?_
  refine rs_iconst i_X3_fold_25 (v := 2) (by decide) ?_
  refine rs_iconst i_X3_fold_26 (v := 0) (by decide) ?_
  obtain ⟨o9, e9, hf⟩ := bind_some hf
  refine rs_inV i_X3_fold_27 m_X3_foldRow rfl (As := [.ref a8, .int 2, .int 0]) (rest := []) rfl rfl (Nat.le_of_ble_eq_true rfl) c7 (c_X3_foldRow (by omega) e9) (st' := []) rfl ?_
  refine rs_aload_n i_X3_fold_30 rfl ?_
  refine rs_dup i_X3_fold_31 rfl ?_
  obtain ⟨c10, hf⟩ := ite_some hf
  refine rs_getI i_X3_fold_32 (by decide) (by decide) c10 ?_
  refine rs_iconst i_X3_fold_35 (v := 1) (by decide) ?_
  refine rs_iadd i_X3_fold_36 ?_
  refine rs_putI i_X3_fold_37 (by decide) c10 ?_
  exact r_X3_fold_40 hd hf
def f_X3_fold (n : Nat) (v0 : Nat) (h : Hp) : Option Hp := f_X3_fold_0 n v0 h
theorem c_X3_fold {X : Nat → Int32} {d : Nat} (hd : 4 ≤ d) {n : Nat} {v0 : Nat} {h : Hp} {o : Hp} (hf : f_X3_fold n v0 h = some o) : Calls X d 35 [.ref v0] h (none, o) := by
  obtain ⟨d, rfl⟩ : ∃ z, d = z + 1 := ⟨d - 1, by omega⟩
  exact ⟨_, rfl, r_X3_fold_0 hd hf⟩
theorem i_X3_powder_0 : fetch 37 0 = some (.aload_n 0, 1, 0, 0, 0, 0) := by decide +kernel
theorem i_X3_powder_1 : fetch 37 1 = some (.bipush 99, 3, 0, 0, 0, 0) := by decide +kernel
theorem i_X3_powder_3 : fetch 37 3 = some (.aload_n 0, 4, 0, 0, 0, 0) := by decide +kernel
theorem i_X3_powder_4 : fetch 37 4 = some (.getfield 35, 7, 3, 8, 0, 251) := by decide +kernel
theorem i_X3_powder_7 : fetch 37 7 = some (.iload_n 1, 8, 0, 0, 0, 0) := by decide +kernel
theorem i_X3_powder_8 : fetch 37 8 = some (.iadd, 9, 0, 0, 0, 0) := by decide +kernel
theorem i_X3_powder_9 : fetch 37 9 = some (.invokestatic 145, 12, 1005, 0, 0, 691) := by decide +kernel
theorem i_X3_powder_12 : fetch 37 12 = some (.putfield 35, 15, 3, 8, 0, 251) := by decide +kernel
theorem i_X3_powder_15 : fetch 37 15 = some (.return_, 16, 0, 0, 0, 0) := by decide +kernel
def f_X3_powder_0 (v0 : Nat) (v1 : Int32) (h : Hp) : Option Hp :=
  if okO h v0 3 then
  some (hsi h v0 8 (if ((gI h v0 8) + v1) < 99 then ((gI h v0 8) + v1) else 99))
  else none
set_option maxRecDepth 100000 in
set_option maxHeartbeats 4000000 in
theorem r_X3_powder_0 {X : Nat → Int32} {d : Nat} (hd : 0 ≤ d) {v0 : Nat} {v1 : Int32} {h : Hp} {o : Hp} (hf : f_X3_powder_0 v0 v1 h = some o) : Run X d 37 0 [some (.ref v0), some (.int v1)] [] h (none, o) := by
  unfold f_X3_powder_0 at hf
  refine rs_aload_n i_X3_powder_0 rfl ?_
  refine rs_bipush i_X3_powder_1 (v := 99) (by decide) ?_
  refine rs_aload_n i_X3_powder_3 rfl ?_
  obtain ⟨c1, hf⟩ := ite_some hf
  refine rs_getI i_X3_powder_4 (by decide) (by decide) c1 ?_
  refine rs_iload_n i_X3_powder_7 rfl ?_
  refine rs_iadd i_X3_powder_8 ?_
  refine rs_min i_X3_powder_9 (Nat.le_of_ble_eq_true rfl) ?_
  refine rs_putI i_X3_powder_12 (by decide) c1 ?_
  have hf := Option.some.inj hf
  subst hf
  exact rs_vret i_X3_powder_15 m_X3_powder rfl
def f_X3_powder (v0 : Nat) (v1 : Int32) (h : Hp) : Option Hp := f_X3_powder_0 v0 v1 h
theorem c_X3_powder {X : Nat → Int32} {d : Nat} (hd : 0 ≤ d) {v0 : Nat} {v1 : Int32} {h : Hp} {o : Hp} (hf : f_X3_powder v0 v1 h = some o) : Calls X d 37 [.ref v0, .int v1] h (none, o) := by
  exact ⟨_, rfl, r_X3_powder_0 hd hf⟩
theorem i_X3_relax_0 : fetch 31 0 = some (.iconst 0, 1, 0, 0, 0, 0) := by decide +kernel
theorem i_X3_relax_1 : fetch 31 1 = some (.istore_n 2, 2, 0, 0, 0, 0) := by decide +kernel
theorem i_X3_relax_2 : fetch 31 2 = some (.iload_n 2, 3, 0, 0, 0, 0) := by decide +kernel
theorem i_X3_relax_3 : fetch 31 3 = some (.bipush 12, 5, 0, 0, 0, 0) := by decide +kernel
theorem i_X3_relax_5 : fetch 31 5 = some (.if_icmp .ge 37, 8, 0, 0, 0, 0) := by decide +kernel
theorem i_X3_relax_8 : fetch 31 8 = some (.aload_n 0, 9, 0, 0, 0, 0) := by decide +kernel
theorem i_X3_relax_9 : fetch 31 9 = some (.getfield 18, 12, 3, 2, 0, 241) := by decide +kernel
theorem i_X3_relax_12 : fetch 31 12 = some (.iload_n 2, 13, 0, 0, 0, 0) := by decide +kernel
theorem i_X3_relax_13 : fetch 31 13 = some (.iconst 0, 14, 0, 0, 0, 0) := by decide +kernel
theorem i_X3_relax_14 : fetch 31 14 = some (.aload_n 0, 15, 0, 0, 0, 0) := by decide +kernel
theorem i_X3_relax_15 : fetch 31 15 = some (.getfield 18, 18, 3, 2, 0, 241) := by decide +kernel
theorem i_X3_relax_18 : fetch 31 18 = some (.iload_n 2, 19, 0, 0, 0, 0) := by decide +kernel
theorem i_X3_relax_19 : fetch 31 19 = some (.iaload, 20, 0, 0, 0, 0) := by decide +kernel
theorem i_X3_relax_20 : fetch 31 20 = some (.iload_n 1, 21, 0, 0, 0, 0) := by decide +kernel
theorem i_X3_relax_21 : fetch 31 21 = some (.aload_n 0, 22, 0, 0, 0, 0) := by decide +kernel
theorem i_X3_relax_22 : fetch 31 22 = some (.getfield 50, 25, 3, 6, 0, 247) := by decide +kernel
theorem i_X3_relax_25 : fetch 31 25 = some (.getfield 100, 28, 1, 3, 0, 214) := by decide +kernel
theorem i_X3_relax_28 : fetch 31 28 = some (.iconst 1, 29, 0, 0, 0, 0) := by decide +kernel
theorem i_X3_relax_29 : fetch 31 29 = some (.iadd, 30, 0, 0, 0, 0) := by decide +kernel
theorem i_X3_relax_30 : fetch 31 30 = some (.imul, 31, 0, 0, 0, 0) := by decide +kernel
theorem i_X3_relax_31 : fetch 31 31 = some (.isub, 32, 0, 0, 0, 0) := by decide +kernel
theorem i_X3_relax_32 : fetch 31 32 = some (.invokestatic 105, 35, 1003, 0, 0, 682) := by decide +kernel
theorem i_X3_relax_35 : fetch 31 35 = some (.iastore, 36, 0, 0, 0, 0) := by decide +kernel
theorem i_X3_relax_36 : fetch 31 36 = some (.iinc 2 1, 39, 0, 0, 0, 0) := by decide +kernel
theorem i_X3_relax_39 : fetch 31 39 = some (.goto (-37), 42, 0, 0, 0, 0) := by decide +kernel
theorem i_X3_relax_42 : fetch 31 42 = some (.return_, 43, 0, 0, 0, 0) := by decide +kernel
def f_X3_relax_2 (n : Nat) : Nat → Nat → Int32 → Int32 → Hp → Option Hp
  | 0, _, _, _, _ => none
  | m + 1, v0, v1, v2, h =>
    if 12 ≤ v2 then
      some h
    else
      if okO h v0 3 then
      (gR h v0 2).bind fun a3 =>
      if okI h a3 v2 then
      (gR h v0 6).bind fun a5 =>
      if okO h a5 1 then
      (f_X3_relax_2 n m) v0 v1 (v2 + 1) (hsi h a3 (ix v2) (if 0 < ((gI h a3 (ix v2)) - (v1 * ((gI h a5 3) + 1))) then ((gI h a3 (ix v2)) - (v1 * ((gI h a5 3) + 1))) else 0))
      else none
      else none
      else none
set_option maxRecDepth 100000 in
set_option maxHeartbeats 4000000 in
theorem r_X3_relax_2 {X : Nat → Int32} {d : Nat} (hd : 0 ≤ d) {n : Nat} : ∀ (m : Nat) (v0 : Nat) (v1 : Int32) (v2 : Int32) (h : Hp) (o : Hp), f_X3_relax_2 n m v0 v1 v2 h = some o → Run X d 31 2 [some (.ref v0), some (.int v1), some (.int v2)] [] h (none, o) := by
  intro m
  induction m with
  | zero => intro v0 v1 v2 h o hf; cases hf
  | succ m ih =>
    intro v0 v1 v2 h o hf
    rw [f_X3_relax_2] at hf
    refine rs_iload_n i_X3_relax_2 rfl ?_
    refine rs_bipush i_X3_relax_3 (v := 12) (by decide) ?_
    by_cases c1 : 12 ≤ v2
    · replace hf := (if_pos c1).symm.trans hf
      refine rs_icT i_X3_relax_5 (ct_ge c1) (tg := 42) (by decide) ?_
      have hf := Option.some.inj hf
      subst hf
      exact rs_vret i_X3_relax_42 m_X3_relax rfl
    · replace hf := (if_neg c1).symm.trans hf
      refine rs_icF i_X3_relax_5 (cf_ge c1) ?_
      refine rs_aload_n i_X3_relax_8 rfl ?_
      obtain ⟨c2, hf⟩ := ite_some hf
      obtain ⟨a3, e3, hf⟩ := bind_some hf
      refine rs_getR i_X3_relax_9 (by decide) (by decide) c2 e3 ?_
      refine rs_iload_n i_X3_relax_12 rfl ?_
      refine rs_iconst i_X3_relax_13 (v := 0) (by decide) ?_
      refine rs_aload_n i_X3_relax_14 rfl ?_
      refine rs_getR i_X3_relax_15 (by decide) (by decide) c2 e3 ?_
      refine rs_iload_n i_X3_relax_18 rfl ?_
      obtain ⟨c4, hf⟩ := ite_some hf
      refine rs_iald i_X3_relax_19 c4 ?_
      refine rs_iload_n i_X3_relax_20 rfl ?_
      refine rs_aload_n i_X3_relax_21 rfl ?_
      obtain ⟨a5, e5, hf⟩ := bind_some hf
      refine rs_getR i_X3_relax_22 (by decide) (by decide) c2 e5 ?_
      obtain ⟨c6, hf⟩ := ite_some hf
      refine rs_getI i_X3_relax_25 (by decide) (by decide) c6 ?_
      refine rs_iconst i_X3_relax_28 (v := 1) (by decide) ?_
      refine rs_iadd i_X3_relax_29 ?_
      refine rs_imul i_X3_relax_30 ?_
      refine rs_isub i_X3_relax_31 ?_
      refine rs_max i_X3_relax_32 (Nat.le_of_ble_eq_true rfl) ?_
      refine rs_iast i_X3_relax_35 c4 ?_
      refine rs_iinc i_X3_relax_36 rfl (v := v2 + 1) rfl (Nat.le_of_ble_eq_true rfl) (lv' := [some (.ref v0), some (.int v1), some (.int (v2 + 1))]) rfl ?_
      refine rs_goto i_X3_relax_39 (tg := 2) (by decide) ?_
      exact ih _ _ _ _ _ hf
def f_X3_relax_0 (n : Nat) (v0 : Nat) (v1 : Int32) (h : Hp) : Option Hp :=
  f_X3_relax_2 n n v0 v1 0 h
set_option maxRecDepth 100000 in
set_option maxHeartbeats 4000000 in
theorem r_X3_relax_0 {X : Nat → Int32} {d : Nat} (hd : 0 ≤ d) {n : Nat} {v0 : Nat} {v1 : Int32} {h : Hp} {o : Hp} (hf : f_X3_relax_0 n v0 v1 h = some o) : Run X d 31 0 [some (.ref v0), some (.int v1), none] [] h (none, o) := by
  unfold f_X3_relax_0 at hf
  refine rs_iconst i_X3_relax_0 (v := 0) (by decide) ?_
  refine rs_istore_n i_X3_relax_1 (Nat.le_of_ble_eq_true rfl) (lv' := [some (.ref v0), some (.int v1), some (.int 0)]) rfl ?_
  exact r_X3_relax_2 hd _ _ _ _ _ _ hf
def f_X3_relax (n : Nat) (v0 : Nat) (v1 : Int32) (h : Hp) : Option Hp := f_X3_relax_0 n v0 v1 h
theorem c_X3_relax {X : Nat → Int32} {d : Nat} (hd : 0 ≤ d) {n : Nat} {v0 : Nat} {v1 : Int32} {h : Hp} {o : Hp} (hf : f_X3_relax n v0 v1 h = some o) : Calls X d 31 [.ref v0, .int v1] h (none, o) := by
  exact ⟨_, rfl, r_X3_relax_0 hd hf⟩
