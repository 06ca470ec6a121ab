theorem i_X7_areSteps_0 : fetch 113 0 = some (.iload_n 1, 1, 0, 0, 0, 0) := by decide +kernel
theorem i_X7_areSteps_1 : fetch 113 1 = some (.iconst 0, 2, 0, 0, 0, 0) := by decide +kernel
theorem i_X7_areSteps_2 : fetch 113 2 = some (.aload_n 0, 3, 0, 0, 0, 0) := by decide +kernel
theorem i_X7_areSteps_3 : fetch 113 3 = some (.getfield 54, 6, 7, 12, 0, 495) := by decide +kernel
theorem i_X7_areSteps_6 : fetch 113 6 = some (.invokestatic 112, 9, 110, 0, 0, 534) := by decide +kernel
theorem i_X7_areSteps_9 : fetch 113 9 = some (.ifCond .eq 13, 12, 0, 0, 0, 0) := by decide +kernel
theorem i_X7_areSteps_12 : fetch 113 12 = some (.iload_n 1, 13, 0, 0, 0, 0) := by decide +kernel
theorem i_X7_areSteps_13 : fetch 113 13 = some (.bipush 12, 15, 0, 0, 0, 0) := by decide +kernel
theorem i_X7_areSteps_15 : fetch 113 15 = some (.if_icmp .gt 7, 18, 0, 0, 0, 0) := by decide +kernel
theorem i_X7_areSteps_18 : fetch 113 18 = some (.iconst 1, 19, 0, 0, 0, 0) := by decide +kernel
theorem i_X7_areSteps_19 : fetch 113 19 = some (.goto 4, 22, 0, 0, 0, 0) := by decide +kernel
theorem i_X7_areSteps_22 : fetch 113 22 = some (.iconst 0, 23, 0, 0, 0, 0) := by decide +kernel
theorem i_X7_areSteps_23 : fetch 113 23 = some (.ireturn, 24, 0, 0, 0, 0) := by decide +kernel
def f_X7_areSteps_0 (v0 : Nat) (v1 : Int32) (h : Hp) : Option (Int32 × Hp) :=
  if okO h v0 7 then
  (f_X7_within v1 0 (gI h v0 12) h).bind fun o2 =>
  if o2.1 = 0 then
    some (0, o2.2)
  else
    if 12 < v1 then
      some (0, o2.2)
    else
      some (1, o2.2)
  else none
set_option maxRecDepth 100000 in
set_option maxHeartbeats 4000000 in
theorem r_X7_areSteps_0 {X : Nat → Int32} {d : Nat} (hd : 1 ≤ (d + 1)) {v0 : Nat} {v1 : Int32} {h : Hp} {o : (Int32 × Hp)} (hf : f_X7_areSteps_0 v0 v1 h = some o) : Run X (d + 1) 113 0 [some (.ref v0), some (.int v1)] [] h (some (.int o.1), o.2) := by
  unfold f_X7_areSteps_0 at hf
  refine rs_iload_n i_X7_areSteps_0 rfl ?_
  refine rs_iconst i_X7_areSteps_1 (v := 0) (by decide) ?_
  refine rs_aload_n i_X7_areSteps_2 rfl ?_
  obtain ⟨c1, hf⟩ := ite_some hf
  refine rs_getI i_X7_areSteps_3 (by decide) (by decide) c1 ?_
  obtain ⟨o2, e2, hf⟩ := bind_some hf
  refine rs_inS i_X7_areSteps_6 (by decide) m_X7_within rfl (As := [.int v1, .int 0, .int (gI h v0 12)]) (rest := []) rfl rfl (Nat.le_of_ble_eq_true rfl) (c_X7_within (by omega) e2) (st' := [.int o2.1]) rfl ?_
  by_cases c3 : o2.1 = 0
  · replace hf := (if_pos c3).symm.trans hf
    refine rs_ifT i_X7_areSteps_9 (ct_eq c3) (tg := 22) (by decide) ?_
    refine rs_iconst i_X7_areSteps_22 (v := 0) (by decide) ?_
    have hf := Option.some.inj hf
    subst hf
    exact rs_iret i_X7_areSteps_23 m_X7_areSteps (by decide)
  · replace hf := (if_neg c3).symm.trans hf
    refine rs_ifF i_X7_areSteps_9 (cf_eq c3) ?_
    refine rs_iload_n i_X7_areSteps_12 rfl ?_
    refine rs_bipush i_X7_areSteps_13 (v := 12) (by decide) ?_
    by_cases c4 : 12 < v1
    · replace hf := (if_pos c4).symm.trans hf
      refine rs_icT i_X7_areSteps_15 (ct_gt c4) (tg := 22) (by decide) ?_
      refine rs_iconst i_X7_areSteps_22 (v := 0) (by decide) ?_
      have hf := Option.some.inj hf
      subst hf
      exact rs_iret i_X7_areSteps_23 m_X7_areSteps (by decide)
    · replace hf := (if_neg c4).symm.trans hf
      refine rs_icF i_X7_areSteps_15 (cf_gt c4) ?_
      refine rs_iconst i_X7_areSteps_18 (v := 1) (by decide) ?_
      refine rs_goto i_X7_areSteps_19 (tg := 23) (by decide) ?_
      have hf := Option.some.inj hf
      subst hf
      exact rs_iret i_X7_areSteps_23 m_X7_areSteps (by decide)
def f_X7_areSteps (v0 : Nat) (v1 : Int32) (h : Hp) : Option (Int32 × Hp) := f_X7_areSteps_0 v0 v1 h
theorem c_X7_areSteps {X : Nat → Int32} {d : Nat} (hd : 1 ≤ d) {v0 : Nat} {v1 : Int32} {h : Hp} {o : (Int32 × Hp)} (hf : f_X7_areSteps v0 v1 h = some o) : Calls X d 113 [.ref v0, .int v1] h (some (.int o.1), o.2) := by
  obtain ⟨d, rfl⟩ : ∃ z, d = z + 1 := ⟨d - 1, by omega⟩
  exact ⟨_, rfl, r_X7_areSteps_0 hd hf⟩
theorem i_X7_make_0 : fetch 118 0 = some (.aload_n 1, 1, 0, 0, 0, 0) := by decide +kernel
theorem i_X7_make_1 : fetch 118 1 = some (.getfield 125, 4, 0, 3, 0, 101) := by decide +kernel
theorem i_X7_make_4 : fetch 118 4 = some (.iconst 0, 5, 0, 0, 0, 0) := by decide +kernel
theorem i_X7_make_5 : fetch 118 5 = some (.iconst 5, 6, 0, 0, 0, 0) := by decide +kernel
theorem i_X7_make_6 : fetch 118 6 = some (.invokestatic 112, 9, 110, 0, 0, 534) := by decide +kernel
theorem i_X7_make_9 : fetch 118 9 = some (.ifCond .eq 19, 12, 0, 0, 0, 0) := by decide +kernel
theorem i_X7_make_12 : fetch 118 12 = some (.aload_n 0, 13, 0, 0, 0, 0) := by decide +kernel
theorem i_X7_make_13 : fetch 118 13 = some (.getfield 73, 16, 7, 6, 0, 489) := by decide +kernel
theorem i_X7_make_16 : fetch 118 16 = some (.aload_n 0, 17, 0, 0, 0, 0) := by decide +kernel
theorem i_X7_make_17 : fetch 118 17 = some (.getfield 30, 20, 7, 4, 0, 487) := by decide +kernel
theorem i_X7_make_20 : fetch 118 20 = some (.aload_n 1, 21, 0, 0, 0, 0) := by decide +kernel
theorem i_X7_make_21 : fetch 118 21 = some (.getfield 125, 24, 0, 3, 0, 101) := by decide +kernel
theorem i_X7_make_24 : fetch 118 24 = some (.aaload, 25, 0, 0, 0, 0) := by decide +kernel
theorem i_X7_make_25 : fetch 118 25 = some (.putfield 325, 28, 1, 1, 0, 210) := by decide +kernel
theorem i_X7_make_28 : fetch 118 28 = some (.aload_n 0, 29, 0, 0, 0, 0) := by decide +kernel
theorem i_X7_make_29 : fetch 118 29 = some (.getfield 73, 32, 7, 6, 0, 489) := by decide +kernel
theorem i_X7_make_32 : fetch 118 32 = some (.aload_n 1, 33, 0, 0, 0, 0) := by decide +kernel
theorem i_X7_make_33 : fetch 118 33 = some (.getfield 122, 36, 0, 2, 0, 99) := by decide +kernel
theorem i_X7_make_36 : fetch 118 36 = some (.iconst 0, 37, 0, 0, 0, 0) := by decide +kernel
theorem i_X7_make_37 : fetch 118 37 = some (.iaload, 38, 0, 0, 0, 0) := by decide +kernel
theorem i_X7_make_38 : fetch 118 38 = some (.putfield 328, 41, 1, 2, 0, 212) := by decide +kernel
theorem i_X7_make_41 : fetch 118 41 = some (.aload_n 0, 42, 0, 0, 0, 0) := by decide +kernel
theorem i_X7_make_42 : fetch 118 42 = some (.getfield 73, 45, 7, 6, 0, 489) := by decide +kernel
theorem i_X7_make_45 : fetch 118 45 = some (.aload_n 1, 46, 0, 0, 0, 0) := by decide +kernel
theorem i_X7_make_46 : fetch 118 46 = some (.getfield 122, 49, 0, 2, 0, 99) := by decide +kernel
theorem i_X7_make_49 : fetch 118 49 = some (.iconst 2, 50, 0, 0, 0, 0) := by decide +kernel
theorem i_X7_make_50 : fetch 118 50 = some (.iaload, 51, 0, 0, 0, 0) := by decide +kernel
theorem i_X7_make_51 : fetch 118 51 = some (.putfield 331, 54, 1, 3, 0, 215) := by decide +kernel
theorem i_X7_make_54 : fetch 118 54 = some (.aload_n 0, 55, 0, 0, 0, 0) := by decide +kernel
theorem i_X7_make_55 : fetch 118 55 = some (.getfield 73, 58, 7, 6, 0, 489) := by decide +kernel
theorem i_X7_make_58 : fetch 118 58 = some (.iload 4, 60, 0, 0, 0, 0) := by decide +kernel
theorem i_X7_make_60 : fetch 118 60 = some (.invokevirtual 334, 63, 4, 0, 0, 592) := by decide +kernel
theorem i_X7_make_63 : fetch 118 63 = some (.aload_n 0, 64, 0, 0, 0, 0) := by decide +kernel
theorem i_X7_make_64 : fetch 118 64 = some (.getfield 82, 67, 7, 7, 0, 490) := by decide +kernel
theorem i_X7_make_67 : fetch 118 67 = some (.aload_n 1, 68, 0, 0, 0, 0) := by decide +kernel
theorem i_X7_make_68 : fetch 118 68 = some (.invokevirtual 337, 71, 28, 0, 0, 596) := by decide +kernel
theorem i_X7_make_71 : fetch 118 71 = some (.iconst 0, 72, 0, 0, 0, 0) := by decide +kernel
theorem i_X7_make_72 : fetch 118 72 = some (.istore 5, 74, 0, 0, 0, 0) := by decide +kernel
theorem i_X7_make_74 : fetch 118 74 = some (.iload 5, 76, 0, 0, 0, 0) := by decide +kernel
theorem i_X7_make_76 : fetch 118 76 = some (.iload_n 2, 77, 0, 0, 0, 0) := by decide +kernel
theorem i_X7_make_77 : fetch 118 77 = some (.if_icmp .ge 36, 80, 0, 0, 0, 0) := by decide +kernel
theorem i_X7_make_80 : fetch 118 80 = some (.iload 5, 82, 0, 0, 0, 0) := by decide +kernel
theorem i_X7_make_82 : fetch 118 82 = some (.bipush 12, 84, 0, 0, 0, 0) := by decide +kernel
theorem i_X7_make_84 : fetch 118 84 = some (.if_icmp .ge 29, 87, 0, 0, 0, 0) := by decide +kernel
theorem i_X7_make_87 : fetch 118 87 = some (.iload 5, 89, 0, 0, 0, 0) := by decide +kernel
theorem i_X7_make_89 : fetch 118 89 = some (.iload_n 3, 90, 0, 0, 0, 0) := by decide +kernel
theorem i_X7_make_90 : fetch 118 90 = some (.if_icmp .eq 17, 93, 0, 0, 0, 0) := by decide +kernel
theorem i_X7_make_93 : fetch 118 93 = some (.aload_n 0, 94, 0, 0, 0, 0) := by decide +kernel
theorem i_X7_make_94 : fetch 118 94 = some (.getfield 82, 97, 7, 7, 0, 490) := by decide +kernel
theorem i_X7_make_97 : fetch 118 97 = some (.aload_n 0, 98, 0, 0, 0, 0) := by decide +kernel
theorem i_X7_make_98 : fetch 118 98 = some (.getfield 24, 101, 7, 3, 0, 486) := by decide +kernel
theorem i_X7_make_101 : fetch 118 101 = some (.iload 5, 103, 0, 0, 0, 0) := by decide +kernel
theorem i_X7_make_103 : fetch 118 103 = some (.aaload, 104, 0, 0, 0, 0) := by decide +kernel
theorem i_X7_make_104 : fetch 118 104 = some (.invokevirtual 207, 107, 30, 0, 0, 603) := by decide +kernel
theorem i_X7_make_107 : fetch 118 107 = some (.iinc 5 1, 110, 0, 0, 0, 0) := by decide +kernel
theorem i_X7_make_110 : fetch 118 110 = some (.goto (-36), 113, 0, 0, 0, 0) := by decide +kernel
theorem i_X7_make_113 : fetch 118 113 = some (.return_, 114, 0, 0, 0, 0) := by decide +kernel
def f_X7_make_107 (n : Nat) (K74 : Nat → Int32 → Int32 → Int32 → Hp → Option Hp) (v0 : Nat) (v2 : Int32) (v3 : Int32) (v5 : Int32) (h : Hp) : Option Hp :=
  K74 v0 v2 v3 (v5 + 1) h
set_option maxRecDepth 100000 in
set_option maxHeartbeats 4000000 in
theorem r_X7_make_107 {X : Nat → Int32} {d : Nat} (hd : 6 ≤ (d + 1)) {n : Nat} {K74 : Nat → Int32 → Int32 → Int32 → Hp → Option Hp} (HK74 : ∀ (v0 : Nat) (v2 : Int32) (v3 : Int32) (v5 : Int32) (d1 : Nat) (d4 : Int32) (h : Hp) (o : Hp), K74 v0 v2 v3 v5 h = some o → Run X (d + 1) 118 74 [some (.ref v0), some (.ref d1), some (.int v2), some (.int v3), some (.int d4), some (.int v5)] [] h (none, o)) {v0 : Nat} {v2 : Int32} {v3 : Int32} {v5 : Int32} {d1 : Nat} {d4 : Int32} {h : Hp} {o : Hp} (hf : f_X7_make_107 n K74 v0 v2 v3 v5 h = some o) : Run X (d + 1) 118 107 [some (.ref v0), some (.ref d1), some (.int v2), some (.int v3), some (.int d4), some (.int v5)] [] h (none, o) := by
  unfold f_X7_make_107 at hf
  refine rs_iinc i_X7_make_107 rfl (v := v5 + 1) rfl (Nat.le_of_ble_eq_true rfl) (lv' := [some (.ref v0), some (.ref d1), some (.int v2), some (.int v3), some (.int d4), some (.int (v5 + 1))]) rfl ?_
  refine rs_goto i_X7_make_110 (tg := 74) (by decide) ?_
  exact HK74 _ _ _ _ _ _ _ _ hf
def f_X7_make_74 (n : Nat) : Nat → Nat → Int32 → Int32 → Int32 → Hp → Option Hp
  | 0, _, _, _, _, _ => none
  | m + 1, v0, v2, v3, v5, h =>
    if v2 ≤ v5 then
      some h
    else
      if 12 ≤ v5 then
        some h
      else
        if v5 = v3 then
          f_X7_make_107 n (f_X7_make_74 n m) v0 v2 v3 v5 h
        else
          if okO h v0 7 then
          (gR h v0 7).bind fun a5 =>
          (gR h v0 3).bind fun a6 =>
          if okR h a6 v5 then
          (gR h a6 (ix v5)).bind fun a8 =>
          if okO h a5 3 then
          (f_X3_make n a5 a8 h).bind fun o9 =>
          f_X7_make_107 n (f_X7_make_74 n m) v0 v2 v3 v5 o9
          else none
          else none
          else none
set_option maxRecDepth 100000 in
set_option maxHeartbeats 4000000 in
theorem r_X7_make_74 {X : Nat → Int32} {d : Nat} (hd : 6 ≤ (d + 1)) {n : Nat} : ∀ (m : Nat) (v0 : Nat) (v2 : Int32) (v3 : Int32) (v5 : Int32) (d1 : Nat) (d4 : Int32) (h : Hp) (o : Hp), f_X7_make_74 n m v0 v2 v3 v5 h = some o → Run X (d + 1) 118 74 [some (.ref v0), some (.ref d1), some (.int v2), some (.int v3), some (.int d4), some (.int v5)] [] h (none, o) := by
  intro m
  induction m with
  | zero => intro v0 v2 v3 v5 d1 d4 h o hf; cases hf
  | succ m ih =>
    intro v0 v2 v3 v5 d1 d4 h o hf
    rw [f_X7_make_74] at hf
    refine rs_iload i_X7_make_74 rfl ?_
    refine rs_iload_n i_X7_make_76 rfl ?_
    by_cases c1 : v2 ≤ v5
    · replace hf := (if_pos c1).symm.trans hf
      refine rs_icT i_X7_make_77 (ct_ge c1) (tg := 113) (by decide) ?_
      have hf := Option.some.inj hf
      subst hf
      exact rs_vret i_X7_make_113 m_X7_make rfl
    · replace hf := (if_neg c1).symm.trans hf
      refine rs_icF i_X7_make_77 (cf_ge c1) ?_
      refine rs_iload i_X7_make_80 rfl ?_
      refine rs_bipush i_X7_make_82 (v := 12) (by decide) ?_
      by_cases c2 : 12 ≤ v5
      · replace hf := (if_pos c2).symm.trans hf
        refine rs_icT i_X7_make_84 (ct_ge c2) (tg := 113) (by decide) ?_
        have hf := Option.some.inj hf
        subst hf
        exact rs_vret i_X7_make_113 m_X7_make rfl
      · replace hf := (if_neg c2).symm.trans hf
        refine rs_icF i_X7_make_84 (cf_ge c2) ?_
        refine rs_iload i_X7_make_87 rfl ?_
        refine rs_iload_n i_X7_make_89 rfl ?_
        by_cases c3 : v5 = v3
        · replace hf := (if_pos c3).symm.trans hf
          refine rs_icT i_X7_make_90 (ct_eq c3) (tg := 107) (by decide) ?_
          exact r_X7_make_107 hd ih hf
        · replace hf := (if_neg c3).symm.trans hf
          refine rs_icF i_X7_make_90 (cf_eq c3) ?_
          refine rs_aload_n i_X7_make_93 rfl ?_
          obtain ⟨c4, hf⟩ := ite_some hf
          obtain ⟨a5, e5, hf⟩ := bind_some hf
          refine rs_getR i_X7_make_94 (by decide) (by decide) c4 e5 ?_
          refine rs_aload_n i_X7_make_97 rfl ?_
          obtain ⟨a6, e6, hf⟩ := bind_some hf
          refine rs_getR i_X7_make_98 (by decide) (by decide) c4 e6 ?_
          refine rs_iload i_X7_make_101 rfl ?_
          obtain ⟨c7, hf⟩ := ite_some hf
          obtain ⟨a8, e8, hf⟩ := bind_some hf
          refine rs_aald i_X7_make_103 c7 e8 ?_
          obtain ⟨c10, hf⟩ := ite_some hf
          obtain ⟨o9, e9, hf⟩ := bind_some hf
          refine rs_inV i_X7_make_104 m_X3_make rfl (As := [.ref a8]) (rest := []) rfl rfl (Nat.le_of_ble_eq_true rfl) c10 (c_X3_make (by omega) e9) (st' := []) rfl ?_
          exact r_X7_make_107 hd ih hf
def f_X7_make_54 (n : Nat) (v0 : Nat) (v1 : Nat) (v2 : Int32) (v3 : Int32) (v4 : Int32) (h : Hp) : Option Hp :=
  if okO h v0 7 then
  (gR h v0 6).bind fun a2 =>
  if okO h a2 1 then
  (f_X1_wander a2 v4 h).bind fun o3 =>
  if okO o3 v0 7 then
  (gR o3 v0 7).bind fun a6 =>
  if okO o3 a6 3 then
  (f_X3_begin n a6 v1 o3).bind fun o7 =>
  f_X7_make_74 n n v0 v2 v3 0 o7
  else none
  else none
  else none
  else none
set_option maxRecDepth 100000 in
set_option maxHeartbeats 4000000 in
theorem r_X7_make_54 {X : Nat → Int32} {d : Nat} (hd : 6 ≤ (d + 1)) {n : Nat} {v0 : Nat} {v1 : Nat} {v2 : Int32} {v3 : Int32} {v4 : Int32} {h : Hp} {o : Hp} (hf : f_X7_make_54 n v0 v1 v2 v3 v4 h = some o) : Run X (d + 1) 118 54 [some (.ref v0), some (.ref v1), some (.int v2), some (.int v3), some (.int v4), none] [] h (none, o) := by
  unfold f_X7_make_54 at hf
  refine rs_aload_n i_X7_make_54 rfl ?_
  obtain ⟨c1, hf⟩ := ite_some hf
  obtain ⟨a2, e2, hf⟩ := bind_some hf
  refine rs_getR i_X7_make_55 (by decide) (by decide) c1 e2 ?_
  refine rs_iload i_X7_make_58 rfl ?_
  obtain ⟨c4, hf⟩ := ite_some hf
  obtain ⟨o3, e3, hf⟩ := bind_some hf
  refine rs_inV i_X7_make_60 m_X1_wander rfl (As := [.int v4]) (rest := []) rfl rfl (Nat.le_of_ble_eq_true rfl) c4 (c_X1_wander (by omega) e3) (st' := []) rfl ?_
  refine rs_aload_n i_X7_make_63 rfl ?_
  obtain ⟨c5, hf⟩ := ite_some hf
  obtain ⟨a6, e6, hf⟩ := bind_some hf
  refine rs_getR i_X7_make_64 (by decide) (by decide) c5 e6 ?_
  refine rs_aload_n i_X7_make_67 rfl ?_
  obtain ⟨c8, hf⟩ := ite_some hf
  obtain ⟨o7, e7, hf⟩ := bind_some hf
  refine rs_inV i_X7_make_68 m_X3_begin rfl (As := [.ref v1]) (rest := []) rfl rfl (Nat.le_of_ble_eq_true rfl) c8 (c_X3_begin (by omega) e7) (st' := []) rfl ?_
  refine rs_iconst i_X7_make_71 (v := 0) (by decide) ?_
  refine rs_istore i_X7_make_72 (Nat.le_of_ble_eq_true rfl) (lv' := [some (.ref v0), some (.ref v1), some (.int v2), some (.int v3), some (.int v4), some (.int 0)]) rfl ?_
  exact r_X7_make_74 hd _ _ _ _ _ _ _ _ _ hf
def f_X7_make_41 (n : Nat) (v0 : Nat) (v1 : Nat) (v2 : Int32) (v3 : Int32) (v4 : Int32) (h : Hp) : Option Hp :=
  if okO h v0 7 then
  (gR h v0 6).bind fun a2 =>
  if okO h v1 0 then
  (gR h v1 2).bind fun a4 =>
  if okI h a4 2 then
  if okO h a2 1 then
  f_X7_make_54 n v0 v1 v2 v3 v4 (hsi h a2 3 (gI h a4 (ix 2)))
  else none
  else none
  else none
  else none
set_option maxRecDepth 100000 in
set_option maxHeartbeats 4000000 in
theorem r_X7_make_41 {X : Nat → Int32} {d : Nat} (hd : 6 ≤ (d + 1)) {n : Nat} {v0 : Nat} {v1 : Nat} {v2 : Int32} {v3 : Int32} {v4 : Int32} {h : Hp} {o : Hp} (hf : f_X7_make_41 n v0 v1 v2 v3 v4 h = some o) : Run X (d + 1) 118 41 [some (.ref v0), some (.ref v1), some (.int v2), some (.int v3), some (.int v4), none] [] h (none, o) := by
  unfold f_X7_make_41 at hf
  refine rs_aload_n i_X7_make_41 rfl ?_
  obtain ⟨c1, hf⟩ := ite_some hf
  obtain ⟨a2, e2, hf⟩ := bind_some hf
  refine rs_getR i_X7_make_42 (by decide) (by decide) c1 e2 ?_
  refine rs_aload_n i_X7_make_45 rfl ?_
  obtain ⟨c3, hf⟩ := ite_some hf
  obtain ⟨a4, e4, hf⟩ := bind_some hf
  refine rs_getR i_X7_make_46 (by decide) (by decide) c3 e4 ?_
  refine rs_iconst i_X7_make_49 (v := 2) (by decide) ?_
  obtain ⟨c5, hf⟩ := ite_some hf
  refine rs_iald i_X7_make_50 c5 ?_
  obtain ⟨c6, hf⟩ := ite_some hf
  refine rs_putI i_X7_make_51 (by decide) c6 ?_
  exact r_X7_make_54 hd hf
def f_X7_make_28 (n : Nat) (v0 : Nat) (v1 : Nat) (v2 : Int32) (v3 : Int32) (v4 : Int32) (h : Hp) : Option Hp :=
  if okO h v0 7 then
  (gR h v0 6).bind fun a2 =>
  if okO h v1 0 then
  (gR h v1 2).bind fun a4 =>
  if okI h a4 0 then
  if okO h a2 1 then
  f_X7_make_41 n v0 v1 v2 v3 v4 (hsi h a2 2 (gI h a4 (ix 0)))
  else none
  else none
  else none
  else none
set_option maxRecDepth 100000 in
set_option maxHeartbeats 4000000 in
theorem r_X7_make_28 {X : Nat → Int32} {d : Nat} (hd : 6 ≤ (d + 1)) {n : Nat} {v0 : Nat} {v1 : Nat} {v2 : Int32} {v3 : Int32} {v4 : Int32} {h : Hp} {o : Hp} (hf : f_X7_make_28 n v0 v1 v2 v3 v4 h = some o) : Run X (d + 1) 118 28 [some (.ref v0), some (.ref v1), some (.int v2), some (.int v3), some (.int v4), none] [] h (none, o) := by
  unfold f_X7_make_28 at hf
  refine rs_aload_n i_X7_make_28 rfl ?_
  obtain ⟨c1, hf⟩ := ite_some hf
  obtain ⟨a2, e2, hf⟩ := bind_some hf
  refine rs_getR i_X7_make_29 (by decide) (by decide) c1 e2 ?_
  refine rs_aload_n i_X7_make_32 rfl ?_
  obtain ⟨c3, hf⟩ := ite_some hf
  obtain ⟨a4, e4, hf⟩ := bind_some hf
  refine rs_getR i_X7_make_33 (by decide) (by decide) c3 e4 ?_
  refine rs_iconst i_X7_make_36 (v := 0) (by decide) ?_
  obtain ⟨c5, hf⟩ := ite_some hf
  refine rs_iald i_X7_make_37 c5 ?_
  obtain ⟨c6, hf⟩ := ite_some hf
  refine rs_putI i_X7_make_38 (by decide) c6 ?_
  exact r_X7_make_41 hd hf
def f_X7_make_0 (n : Nat) (v0 : Nat) (v1 : Nat) (v2 : Int32) (v3 : Int32) (v4 : Int32) (h : Hp) : Option Hp :=
  if okO h v1 0 then
  (f_X7_within (gI h v1 3) 0 5 h).bind fun o2 =>
  if o2.1 = 0 then
    f_X7_make_28 n v0 v1 v2 v3 v4 o2.2
  else
    if okO o2.2 v0 7 then
    (gR o2.2 v0 6).bind fun a5 =>
    (gR o2.2 v0 4).bind fun a6 =>
    if okO o2.2 v1 0 then
    if okR o2.2 a6 (gI o2.2 v1 3) then
    (gR o2.2 a6 (ix (gI o2.2 v1 3))).bind fun a9 =>
    if okO o2.2 a5 1 then
    if 16 ≤ a9 then
    f_X7_make_28 n v0 v1 v2 v3 v4 (hsr o2.2 a5 1 (some a9))
    else none
    else none
    else none
    else none
    else none
  else none
set_option maxRecDepth 100000 in
set_option maxHeartbeats 4000000 in
theorem r_X7_make_0 {X : Nat → Int32} {d : Nat} (hd : 6 ≤ (d + 1)) {n : Nat} {v0 : Nat} {v1 : Nat} {v2 : Int32} {v3 : Int32} {v4 : Int32} {h : Hp} {o : Hp} (hf : f_X7_make_0 n v0 v1 v2 v3 v4 h = some o) : Run X (d + 1) 118 0 [some (.ref v0), some (.ref v1), some (.int v2), some (.int v3), some (.int v4), none] [] h (none, o) := by
  unfold f_X7_make_0 at hf
  refine rs_aload_n i_X7_make_0 rfl ?_
  obtain ⟨c1, hf⟩ := ite_some hf
  refine rs_getI i_X7_make_1 (by decide) (by decide) c1 ?_
  refine rs_iconst i_X7_make_4 (v := 0) (by decide) ?_
  refine rs_iconst i_X7_make_5 (v := 5) (by decide) ?_
  obtain ⟨o2, e2, hf⟩ := bind_some hf
  refine rs_inS i_X7_make_6 (by decide) m_X7_within rfl (As := [.int (gI h v1 3), .int 0, .int 5]) (rest := []) rfl rfl (Nat.le_of_ble_eq_true rfl) (c_X7_within (by omega) e2) (st' := [.int o2.1]) rfl ?_
  by_cases c3 : o2.1 = 0
  · replace hf := (if_pos c3).symm.trans hf
    refine rs_ifT i_X7_make_9 (ct_eq c3) (tg := 28) (by decide) ?_
    exact r_X7_make_28 hd hf
  · replace hf := (if_neg c3).symm.trans hf
    refine rs_ifF i_X7_make_9 (cf_eq c3) ?_
    refine rs_aload_n i_X7_make_12 rfl ?_
    obtain ⟨c4, hf⟩ := ite_some hf
    obtain ⟨a5, e5, hf⟩ := bind_some hf
    refine rs_getR i_X7_make_13 (by decide) (by decide) c4 e5 ?_
    refine rs_aload_n i_X7_make_16 rfl ?_
    obtain ⟨a6, e6, hf⟩ := bind_some hf
    refine rs_getR i_X7_make_17 (by decide) (by decide) c4 e6 ?_
    refine rs_aload_n i_X7_make_20 rfl ?_
    obtain ⟨c7, hf⟩ := ite_some hf
    refine rs_getI i_X7_make_21 (by decide) (by decide) c7 ?_
    obtain ⟨c8, hf⟩ := ite_some hf
    obtain ⟨a9, e9, hf⟩ := bind_some hf
    refine rs_aald i_X7_make_24 c8 e9 ?_
    obtain ⟨c10, hf⟩ := ite_some hf
    obtain ⟨c11, hf⟩ := ite_some hf
    refine rs_putR i_X7_make_25 (by decide) c11 c10 ?_
    exact r_X7_make_28 hd hf
def f_X7_make (n : Nat) (v0 : Nat) (v1 : Nat) (v2 : Int32) (v3 : Int32) (v4 : Int32) (h : Hp) : Option Hp := f_X7_make_0 n v0 v1 v2 v3 v4 h
theorem c_X7_make {X : Nat → Int32} {d : Nat} (hd : 6 ≤ d) {n : Nat} {v0 : Nat} {v1 : Nat} {v2 : Int32} {v3 : Int32} {v4 : Int32} {h : Hp} {o : Hp} (hf : f_X7_make n v0 v1 v2 v3 v4 h = some o) : Calls X d 118 [.ref v0, .ref v1, .int v2, .int v3, .int v4] h (none, o) := by
  obtain ⟨d, rfl⟩ : ∃ z, d = z + 1 := ⟨d - 1, by omega⟩
  exact ⟨_, rfl, r_X7_make_0 hd hf⟩
theorem i_X7_rope_0 : fetch 76 0 = some (.aload_n 0, 1, 0, 0, 0, 0) := by decide +kernel
theorem i_X7_rope_1 : fetch 76 1 = some (.iload_n 1, 2, 0, 0, 0, 0) := by decide +kernel
theorem i_X7_rope_2 : fetch 76 2 = some (.invokevirtual 151, 5, 113, 0, 0, 584) := by decide +kernel
theorem i_X7_rope_5 : fetch 76 5 = some (.ifCond .ne 6, 8, 0, 0, 0, 0) := by decide +kernel
theorem i_X7_rope_8 : fetch 76 8 = some (.bipush (-5), 10, 0, 0, 0, 0) := by decide +kernel
theorem i_X7_rope_10 : fetch 76 10 = some (.ireturn, 11, 0, 0, 0, 0) := by decide +kernel
theorem i_X7_rope_11 : fetch 76 11 = some (.iload_n 2, 12, 0, 0, 0, 0) := by decide +kernel
theorem i_X7_rope_12 : fetch 76 12 = some (.iconst 0, 13, 0, 0, 0, 0) := by decide +kernel
theorem i_X7_rope_13 : fetch 76 13 = some (.bipush 11, 15, 0, 0, 0, 0) := by decide +kernel
theorem i_X7_rope_15 : fetch 76 15 = some (.invokestatic 112, 18, 110, 0, 0, 534) := by decide +kernel
theorem i_X7_rope_18 : fetch 76 18 = some (.ifCond .eq 12, 21, 0, 0, 0, 0) := by decide +kernel
theorem i_X7_rope_21 : fetch 76 21 = some (.iload_n 3, 22, 0, 0, 0, 0) := by decide +kernel
theorem i_X7_rope_22 : fetch 76 22 = some (.iconst 0, 23, 0, 0, 0, 0) := by decide +kernel
theorem i_X7_rope_23 : fetch 76 23 = some (.iconst 2, 24, 0, 0, 0, 0) := by decide +kernel
theorem i_X7_rope_24 : fetch 76 24 = some (.invokestatic 112, 27, 110, 0, 0, 534) := by decide +kernel
theorem i_X7_rope_27 : fetch 76 27 = some (.ifCond .ne 6, 30, 0, 0, 0, 0) := by decide +kernel
theorem i_X7_rope_30 : fetch 76 30 = some (.bipush (-7), 32, 0, 0, 0, 0) := by decide +kernel
theorem i_X7_rope_32 : fetch 76 32 = some (.ireturn, 33, 0, 0, 0, 0) := by decide +kernel
theorem i_X7_rope_33 : fetch 76 33 = some (.aload_n 0, 34, 0, 0, 0, 0) := by decide +kernel
theorem i_X7_rope_34 : fetch 76 34 = some (.aload_n 0, 35, 0, 0, 0, 0) := by decide +kernel
theorem i_X7_rope_35 : fetch 76 35 = some (.getfield 10, 38, 7, 0, 0, 483) := by decide +kernel
theorem i_X7_rope_38 : fetch 76 38 = some (.iload_n 1, 39, 0, 0, 0, 0) := by decide +kernel
theorem i_X7_rope_39 : fetch 76 39 = some (.iconst (-1), 40, 0, 0, 0, 0) := by decide +kernel
theorem i_X7_rope_40 : fetch 76 40 = some (.iconst (-1), 41, 0, 0, 0, 0) := by decide +kernel
theorem i_X7_rope_41 : fetch 76 41 = some (.invokevirtual 154, 44, 118, 0, 0, 588) := by decide +kernel
theorem i_X7_rope_44 : fetch 76 44 = some (.iload_n 3, 45, 0, 0, 0, 0) := by decide +kernel
theorem i_X7_rope_45 : fetch 76 45 = some (.lookupswitch 46 #[(0, 27), (1, 36)], 72, 0, 0, 0, 0) := by decide +kernel
theorem i_X7_rope_72 : fetch 76 72 = some (.aload_n 0, 73, 0, 0, 0, 0) := by decide +kernel
theorem i_X7_rope_73 : fetch 76 73 = some (.getfield 82, 76, 7, 7, 0, 490) := by decide +kernel
theorem i_X7_rope_76 : fetch 76 76 = some (.iload_n 2, 77, 0, 0, 0, 0) := by decide +kernel
theorem i_X7_rope_77 : fetch 76 77 = some (.invokevirtual 158, 80, 39, 0, 0, 700) := by decide +kernel
theorem i_X7_rope_80 : fetch 76 80 = some (.ireturn, 81, 0, 0, 0, 0) := by decide +kernel
theorem i_X7_rope_81 : fetch 76 81 = some (.aload_n 0, 82, 0, 0, 0, 0) := by decide +kernel
theorem i_X7_rope_82 : fetch 76 82 = some (.getfield 82, 85, 7, 7, 0, 490) := by decide +kernel
theorem i_X7_rope_85 : fetch 76 85 = some (.getfield 162, 88, 3, 1, 0, 240) := by decide +kernel
theorem i_X7_rope_88 : fetch 76 88 = some (.iload_n 2, 89, 0, 0, 0, 0) := by decide +kernel
theorem i_X7_rope_89 : fetch 76 89 = some (.iaload, 90, 0, 0, 0, 0) := by decide +kernel
theorem i_X7_rope_90 : fetch 76 90 = some (.ireturn, 91, 0, 0, 0, 0) := by decide +kernel
theorem i_X7_rope_91 : fetch 76 91 = some (.aload_n 0, 92, 0, 0, 0, 0) := by decide +kernel
theorem i_X7_rope_92 : fetch 76 92 = some (.getfield 82, 95, 7, 7, 0, 490) := by decide +kernel
theorem i_X7_rope_95 : fetch 76 95 = some (.getfield 163, 98, 3, 2, 0, 243) := by decide +kernel
theorem i_X7_rope_98 : fetch 76 98 = some (.iload_n 2, 99, 0, 0, 0, 0) := by decide +kernel
theorem i_X7_rope_99 : fetch 76 99 = some (.iaload, 100, 0, 0, 0, 0) := by decide +kernel
theorem i_X7_rope_100 : fetch 76 100 = some (.ireturn, 101, 0, 0, 0, 0) := by decide +kernel
def f_X7_rope_0 (n : Nat) (v0 : Nat) (v1 : Int32) (v2 : Int32) (v3 : Int32) (h : Hp) : Option (Int32 × Hp) :=
  if okO h v0 7 then
  (f_X7_areSteps v0 v1 h).bind fun o1 =>
  if o1.1 ≠ 0 then
    (f_X7_within v2 0 11 o1.2).bind fun o4 =>
    if o4.1 = 0 then
      some ((-7), o4.2)
    else
      (f_X7_within v3 0 2 o4.2).bind fun o6 =>
      if o6.1 ≠ 0 then
        if okO o6.2 v0 7 then
        (gR o6.2 v0 0).bind fun a9 =>
        (f_X7_make n v0 a9 v1 (-1) (-1) o6.2).bind fun o10 =>
        if v3 = 0 then
          if okO o10 v0 7 then
          (gR o10 v0 7).bind fun a24 =>
          if okO o10 a24 3 then
          (f_X3_thick a24 v2 o10).bind fun o25 =>
          some (o25.1, o25.2)
          else none
          else none
        else
          if v3 = 1 then
            if okO o10 v0 7 then
            (gR o10 v0 7).bind fun a19 =>
            if okO o10 a19 3 then
            (gR o10 a19 1).bind fun a21 =>
            if okI o10 a21 v2 then
            some ((gI o10 a21 (ix v2)), o10)
            else none
            else none
            else none
          else
            if okO o10 v0 7 then
            (gR o10 v0 7).bind fun a14 =>
            if okO o10 a14 3 then
            (gR o10 a14 2).bind fun a16 =>
            if okI o10 a16 v2 then
            some ((gI o10 a16 (ix v2)), o10)
            else none
            else none
            else none
        else none
      else
        some ((-7), o6.2)
  else
    some ((-5), o1.2)
  else none
set_option maxRecDepth 100000 in
set_option maxHeartbeats 4000000 in
theorem r_X7_rope_0 {X : Nat → Int32} {d : Nat} (hd : 7 ≤ (d + 1)) {n : Nat} {v0 : Nat} {v1 : Int32} {v2 : Int32} {v3 : Int32} {h : Hp} {o : (Int32 × Hp)} (hf : f_X7_rope_0 n v0 v1 v2 v3 h = some o) : Run X (d + 1) 76 0 [some (.ref v0), some (.int v1), some (.int v2), some (.int v3)] [] h (some (.int o.1), o.2) := by
  unfold f_X7_rope_0 at hf
  refine rs_aload_n i_X7_rope_0 rfl ?_
  refine rs_iload_n i_X7_rope_1 rfl ?_
  obtain ⟨c2, hf⟩ := ite_some hf
  obtain ⟨o1, e1, hf⟩ := bind_some hf
  refine rs_inV i_X7_rope_2 m_X7_areSteps rfl (As := [.int v1]) (rest := []) rfl rfl (Nat.le_of_ble_eq_true rfl) c2 (c_X7_areSteps (by omega) e1) (st' := [.int o1.1]) rfl ?_
  by_cases c3 : o1.1 ≠ 0
  · replace hf := (if_pos c3).symm.trans hf
    refine rs_ifT i_X7_rope_5 (ct_ne c3) (tg := 11) (by decide) ?_
    refine rs_iload_n i_X7_rope_11 rfl ?_
    refine rs_iconst i_X7_rope_12 (v := 0) (by decide) ?_
    refine rs_bipush i_X7_rope_13 (v := 11) (by decide) ?_
    obtain ⟨o4, e4, hf⟩ := bind_some hf
    refine rs_inS i_X7_rope_15 (by decide) m_X7_within rfl (As := [.int v2, .int 0, .int 11]) (rest := []) rfl rfl (Nat.le_of_ble_eq_true rfl) (c_X7_within (by omega) e4) (st' := [.int o4.1]) rfl ?_
    by_cases c5 : o4.1 = 0
    · replace hf := (if_pos c5).symm.trans hf
      refine rs_ifT i_X7_rope_18 (ct_eq c5) (tg := 30) (by decide) ?_
      refine rs_bipush i_X7_rope_30 (v := (-7)) (by decide) ?_
      have hf := Option.some.inj hf
      subst hf
      exact rs_iret i_X7_rope_32 m_X7_rope rfl
    · replace hf := (if_neg c5).symm.trans hf
      refine rs_ifF i_X7_rope_18 (cf_eq c5) ?_
      refine rs_iload_n i_X7_rope_21 rfl ?_
      refine rs_iconst i_X7_rope_22 (v := 0) (by decide) ?_
      refine rs_iconst i_X7_rope_23 (v := 2) (by decide) ?_
      obtain ⟨o6, e6, hf⟩ := bind_some hf
      refine rs_inS i_X7_rope_24 (by decide) m_X7_within rfl (As := [.int v3, .int 0, .int 2]) (rest := []) rfl rfl (Nat.le_of_ble_eq_true rfl) (c_X7_within (by omega) e6) (st' := [.int o6.1]) rfl ?_
      by_cases c7 : o6.1 ≠ 0
      · replace hf := (if_pos c7).symm.trans hf
        refine rs_ifT i_X7_rope_27 (ct_ne c7) (tg := 33) (by decide) ?_
        refine rs_aload_n i_X7_rope_33 rfl ?_
        refine rs_aload_n i_X7_rope_34 rfl ?_
        obtain ⟨c8, hf⟩ := ite_some hf
        obtain ⟨a9, e9, hf⟩ := bind_some hf
        refine rs_getR i_X7_rope_35 (by decide) (by decide) c8 e9 ?_
        refine rs_iload_n i_X7_rope_38 rfl ?_
        refine rs_iconst i_X7_rope_39 (v := (-1)) (by decide) ?_
        refine rs_iconst i_X7_rope_40 (v := (-1)) (by decide) ?_
        obtain ⟨o10, e10, hf⟩ := bind_some hf
        refine rs_inV i_X7_rope_41 m_X7_make rfl (As := [.ref a9, .int v1, .int (-1), .int (-1)]) (rest := []) rfl rfl (Nat.le_of_ble_eq_true rfl) c8 (c_X7_make (by omega) e10) (st' := []) rfl ?_
        refine rs_iload_n i_X7_rope_44 rfl ?_
        by_cases c11 : v3 = 0
        · replace hf := (if_pos c11).symm.trans hf
          refine rs_lsw i_X7_rope_45 (off := 27) (by rw [c11]; decide) (tg := 72) (by decide) ?_
          refine rs_aload_n i_X7_rope_72 rfl ?_
          obtain ⟨c23, hf⟩ := ite_some hf
          obtain ⟨a24, e24, hf⟩ := bind_some hf
          refine rs_getR i_X7_rope_73 (by decide) (by decide) c23 e24 ?_
          refine rs_iload_n i_X7_rope_76 rfl ?_
          obtain ⟨c26, hf⟩ := ite_some hf
          obtain ⟨o25, e25, hf⟩ := bind_some hf
          refine rs_inV i_X7_rope_77 m_X3_thick rfl (As := [.int v2]) (rest := []) rfl rfl (Nat.le_of_ble_eq_true rfl) c26 (c_X3_thick (by omega) e25) (st' := [.int o25.1]) rfl ?_
          have hf := Option.some.inj hf
          subst hf
          exact rs_iret i_X7_rope_80 m_X7_rope rfl
        · replace hf := (if_neg c11).symm.trans hf
          by_cases c12 : v3 = 1
          · replace hf := (if_pos c12).symm.trans hf
            refine rs_lsw i_X7_rope_45 (off := 36) (by rw [c12]; decide) (tg := 81) (by decide) ?_
            refine rs_aload_n i_X7_rope_81 rfl ?_
            obtain ⟨c18, hf⟩ := ite_some hf
            obtain ⟨a19, e19, hf⟩ := bind_some hf
            refine rs_getR i_X7_rope_82 (by decide) (by decide) c18 e19 ?_
            obtain ⟨c20, hf⟩ := ite_some hf
            obtain ⟨a21, e21, hf⟩ := bind_some hf
            refine rs_getR i_X7_rope_85 (by decide) (by decide) c20 e21 ?_
            refine rs_iload_n i_X7_rope_88 rfl ?_
            obtain ⟨c22, hf⟩ := ite_some hf
            refine rs_iald i_X7_rope_89 c22 ?_
            have hf := Option.some.inj hf
            subst hf
            exact rs_iret i_X7_rope_90 m_X7_rope rfl
          · replace hf := (if_neg c12).symm.trans hf
            refine rs_lsw i_X7_rope_45 (off := 46) (by have z0 := ne_ti c11; rw [show (0 : Int32).toInt = 0 from by decide] at z0; have z1 := ne_ti c12; rw [show (1 : Int32).toInt = 1 from by decide] at z1; simp [Op.lookupswitch.offset, Ne.symm z0, z0, Ne.symm z1, z1]) (tg := 91) (by decide) ?_
            refine rs_aload_n i_X7_rope_91 rfl ?_
            obtain ⟨c13, hf⟩ := ite_some hf
            obtain ⟨a14, e14, hf⟩ := bind_some hf
            refine rs_getR i_X7_rope_92 (by decide) (by decide) c13 e14 ?_
            obtain ⟨c15, hf⟩ := ite_some hf
            obtain ⟨a16, e16, hf⟩ := bind_some hf
            refine rs_getR i_X7_rope_95 (by decide) (by decide) c15 e16 ?_
            refine rs_iload_n i_X7_rope_98 rfl ?_
            obtain ⟨c17, hf⟩ := ite_some hf
            refine rs_iald i_X7_rope_99 c17 ?_
            have hf := Option.some.inj hf
            subst hf
            exact rs_iret i_X7_rope_100 m_X7_rope rfl
      · replace hf := (if_neg c7).symm.trans hf
        refine rs_ifF i_X7_rope_27 (cf_ne c7) ?_
        refine rs_bipush i_X7_rope_30 (v := (-7)) (by decide) ?_
        have hf := Option.some.inj hf
        subst hf
        exact rs_iret i_X7_rope_32 m_X7_rope rfl
  · replace hf := (if_neg c3).symm.trans hf
    refine rs_ifF i_X7_rope_5 (cf_ne c3) ?_
    refine rs_bipush i_X7_rope_8 (v := (-5)) (by decide) ?_
    have hf := Option.some.inj hf
    subst hf
    exact rs_iret i_X7_rope_10 m_X7_rope rfl
def f_X7_rope (n : Nat) (v0 : Nat) (v1 : Int32) (v2 : Int32) (v3 : Int32) (h : Hp) : Option (Int32 × Hp) := f_X7_rope_0 n v0 v1 v2 v3 h
theorem c_X7_rope {X : Nat → Int32} {d : Nat} (hd : 7 ≤ d) {n : Nat} {v0 : Nat} {v1 : Int32} {v2 : Int32} {v3 : Int32} {h : Hp} {o : (Int32 × Hp)} (hf : f_X7_rope n v0 v1 v2 v3 h = some o) : Calls X d 76 [.ref v0, .int v1, .int v2, .int v3] h (some (.int o.1), o.2) := by
  obtain ⟨d, rfl⟩ : ∃ z, d = z + 1 := ⟨d - 1, by omega⟩
  exact ⟨_, rfl, r_X7_rope_0 hd hf⟩
theorem i_X7_allTake_0 : fetch 120 0 = some (.iconst 0, 1, 0, 0, 0, 0) := by decide +kernel
theorem i_X7_allTake_1 : fetch 120 1 = some (.istore_n 2, 2, 0, 0, 0, 0) := by decide +kernel
theorem i_X7_allTake_2 : fetch 120 2 = some (.iconst 0, 3, 0, 0, 0, 0) := by decide +kernel
theorem i_X7_allTake_3 : fetch 120 3 = some (.istore_n 3, 4, 0, 0, 0, 0) := by decide +kernel
theorem i_X7_allTake_4 : fetch 120 4 = some (.iload_n 3, 5, 0, 0, 0, 0) := by decide +kernel
theorem i_X7_allTake_5 : fetch 120 5 = some (.iload_n 1, 6, 0, 0, 0, 0) := by decide +kernel
theorem i_X7_allTake_6 : fetch 120 6 = some (.if_icmp .ge 27, 9, 0, 0, 0, 0) := by decide +kernel
theorem i_X7_allTake_9 : fetch 120 9 = some (.iload_n 3, 10, 0, 0, 0, 0) := by decide +kernel
theorem i_X7_allTake_10 : fetch 120 10 = some (.bipush 12, 12, 0, 0, 0, 0) := by decide +kernel
theorem i_X7_allTake_12 : fetch 120 12 = some (.if_icmp .ge 21, 15, 0, 0, 0, 0) := by decide +kernel
theorem i_X7_allTake_15 : fetch 120 15 = some (.iload_n 2, 16, 0, 0, 0, 0) := by decide +kernel
theorem i_X7_allTake_16 : fetch 120 16 = some (.aload_n 0, 17, 0, 0, 0, 0) := by decide +kernel
theorem i_X7_allTake_17 : fetch 120 17 = some (.getfield 24, 20, 7, 3, 0, 486) := by decide +kernel
theorem i_X7_allTake_20 : fetch 120 20 = some (.iload_n 3, 21, 0, 0, 0, 0) := by decide +kernel
theorem i_X7_allTake_21 : fetch 120 21 = some (.aaload, 22, 0, 0, 0, 0) := by decide +kernel
theorem i_X7_allTake_22 : fetch 120 22 = some (.invokevirtual 148, 25, 56, 0, 0, 576) := by decide +kernel
theorem i_X7_allTake_25 : fetch 120 25 = some (.iadd, 26, 0, 0, 0, 0) := by decide +kernel
theorem i_X7_allTake_26 : fetch 120 26 = some (.istore_n 2, 27, 0, 0, 0, 0) := by decide +kernel
theorem i_X7_allTake_27 : fetch 120 27 = some (.iinc 3 1, 30, 0, 0, 0, 0) := by decide +kernel
theorem i_X7_allTake_30 : fetch 120 30 = some (.goto (-26), 33, 0, 0, 0, 0) := by decide +kernel
theorem i_X7_allTake_33 : fetch 120 33 = some (.iload_n 2, 34, 0, 0, 0, 0) := by decide +kernel
theorem i_X7_allTake_34 : fetch 120 34 = some (.ireturn, 35, 0, 0, 0, 0) := by decide +kernel
def f_X7_allTake_4 (n : Nat) : Nat → Nat → Int32 → Int32 → Int32 → Hp → Option (Int32 × Hp)
  | 0, _, _, _, _, _ => none
  | m + 1, v0, v1, v2, v3, h =>
    if v1 ≤ v3 then
      some (v2, h)
    else
      if 12 ≤ v3 then
        some (v2, h)
      else
        if okO h v0 7 then
        (gR h v0 3).bind fun a4 =>
        if okR h a4 v3 then
        (gR h a4 (ix v3)).bind fun a6 =>
        if okO h a6 5 then
        (f_X5_takes a6 h).bind fun o7 =>
        (f_X7_allTake_4 n m) v0 v1 (v2 + o7.1) (v3 + 1) o7.2
        else none
        else none
        else none
set_option maxRecDepth 100000 in
set_option maxHeartbeats 4000000 in
theorem r_X7_allTake_4 {X : Nat → Int32} {d : Nat} (hd : 1 ≤ (d + 1)) {n : Nat} : ∀ (m : Nat) (v0 : Nat) (v1 : Int32) (v2 : Int32) (v3 : Int32) (h : Hp) (o : (Int32 × Hp)), f_X7_allTake_4 n m v0 v1 v2 v3 h = some o → Run X (d + 1) 120 4 [some (.ref v0), some (.int v1), some (.int v2), some (.int v3)] [] h (some (.int o.1), o.2) := by
  intro m
  induction m with
  | zero => intro v0 v1 v2 v3 h o hf; cases hf
  | succ m ih =>
    intro v0 v1 v2 v3 h o hf
    rw [f_X7_allTake_4] at hf
    refine rs_iload_n i_X7_allTake_4 rfl ?_
    refine rs_iload_n i_X7_allTake_5 rfl ?_
    by_cases c1 : v1 ≤ v3
    · replace hf := (if_pos c1).symm.trans hf
      refine rs_icT i_X7_allTake_6 (ct_ge c1) (tg := 33) (by decide) ?_
      refine rs_iload_n i_X7_allTake_33 rfl ?_
      have hf := Option.some.inj hf
      subst hf
      exact rs_iret i_X7_allTake_34 m_X7_allTake rfl
    · replace hf := (if_neg c1).symm.trans hf
      refine rs_icF i_X7_allTake_6 (cf_ge c1) ?_
      refine rs_iload_n i_X7_allTake_9 rfl ?_
      refine rs_bipush i_X7_allTake_10 (v := 12) (by decide) ?_
      by_cases c2 : 12 ≤ v3
      · replace hf := (if_pos c2).symm.trans hf
        refine rs_icT i_X7_allTake_12 (ct_ge c2) (tg := 33) (by decide) ?_
        refine rs_iload_n i_X7_allTake_33 rfl ?_
        have hf := Option.some.inj hf
        subst hf
        exact rs_iret i_X7_allTake_34 m_X7_allTake rfl
      · replace hf := (if_neg c2).symm.trans hf
        refine rs_icF i_X7_allTake_12 (cf_ge c2) ?_
        refine rs_iload_n i_X7_allTake_15 rfl ?_
        refine rs_aload_n i_X7_allTake_16 rfl ?_
        obtain ⟨c3, hf⟩ := ite_some hf
        obtain ⟨a4, e4, hf⟩ := bind_some hf
        refine rs_getR i_X7_allTake_17 (by decide) (by decide) c3 e4 ?_
        refine rs_iload_n i_X7_allTake_20 rfl ?_
        obtain ⟨c5, hf⟩ := ite_some hf
        obtain ⟨a6, e6, hf⟩ := bind_some hf
        refine rs_aald i_X7_allTake_21 c5 e6 ?_
        obtain ⟨c8, hf⟩ := ite_some hf
        obtain ⟨o7, e7, hf⟩ := bind_some hf
        refine rs_inV i_X7_allTake_22 m_X5_takes rfl (As := []) (rest := [.int v2]) rfl rfl (Nat.le_of_ble_eq_true rfl) c8 (c_X5_takes (by omega) e7) (st' := [.int o7.1, .int v2]) rfl ?_
        refine rs_iadd i_X7_allTake_25 ?_
        refine rs_istore_n i_X7_allTake_26 (Nat.le_of_ble_eq_true rfl) (lv' := [some (.ref v0), some (.int v1), some (.int (v2 + o7.1)), some (.int v3)]) rfl ?_
        refine rs_iinc i_X7_allTake_27 rfl (v := v3 + 1) rfl (Nat.le_of_ble_eq_true rfl) (lv' := [some (.ref v0), some (.int v1), some (.int (v2 + o7.1)), some (.int (v3 + 1))]) rfl ?_
        refine rs_goto i_X7_allTake_30 (tg := 4) (by decide) ?_
        exact ih _ _ _ _ _ _ hf
def f_X7_allTake_0 (n : Nat) (v0 : Nat) (v1 : Int32) (h : Hp) : Option (Int32 × Hp) :=
  f_X7_allTake_4 n n v0 v1 0 0 h
set_option maxRecDepth 100000 in
set_option maxHeartbeats 4000000 in
theorem r_X7_allTake_0 {X : Nat → Int32} {d : Nat} (hd : 1 ≤ (d + 1)) {n : Nat} {v0 : Nat} {v1 : Int32} {h : Hp} {o : (Int32 × Hp)} (hf : f_X7_allTake_0 n v0 v1 h = some o) : Run X (d + 1) 120 0 [some (.ref v0), some (.int v1), none, none] [] h (some (.int o.1), o.2) := by
  unfold f_X7_allTake_0 at hf
  refine rs_iconst i_X7_allTake_0 (v := 0) (by decide) ?_
  refine rs_istore_n i_X7_allTake_1 (Nat.le_of_ble_eq_true rfl) (lv' := [some (.ref v0), some (.int v1), some (.int 0), none]) rfl ?_
  refine rs_iconst i_X7_allTake_2 (v := 0) (by decide) ?_
  refine rs_istore_n i_X7_allTake_3 (Nat.le_of_ble_eq_true rfl) (lv' := [some (.ref v0), some (.int v1), some (.int 0), some (.int 0)]) rfl ?_
  exact r_X7_allTake_4 hd _ _ _ _ _ _ _ hf
def f_X7_allTake (n : Nat) (v0 : Nat) (v1 : Int32) (h : Hp) : Option (Int32 × Hp) := f_X7_allTake_0 n v0 v1 h
theorem c_X7_allTake {X : Nat → Int32} {d : Nat} (hd : 1 ≤ d) {n : Nat} {v0 : Nat} {v1 : Int32} {h : Hp} {o : (Int32 × Hp)} (hf : f_X7_allTake n v0 v1 h = some o) : Calls X d 120 [.ref v0, .int v1] h (some (.int o.1), o.2) := by
  obtain ⟨d, rfl⟩ : ∃ z, d = z + 1 := ⟨d - 1, by omega⟩
  exact ⟨_, rfl, r_X7_allTake_0 hd hf⟩
theorem i_X7_state_0 : fetch 77 0 = some (.aload_n 0, 1, 0, 0, 0, 0) := by decide +kernel
theorem i_X7_state_1 : fetch 77 1 = some (.iload_n 1, 2, 0, 0, 0, 0) := by decide +kernel
theorem i_X7_state_2 : fetch 77 2 = some (.invokevirtual 151, 5, 113, 0, 0, 584) := by decide +kernel
theorem i_X7_state_5 : fetch 77 5 = some (.ifCond .ne 7, 8, 0, 0, 0, 0) := by decide +kernel
theorem i_X7_state_8 : fetch 77 8 = some (.ldc2_w 166, 11, 0, 0, (-5), 705) := by decide +kernel
theorem i_X7_state_11 : fetch 77 11 = some (.lreturn, 12, 0, 0, 0, 0) := by decide +kernel
theorem i_X7_state_12 : fetch 77 12 = some (.iload_n 2, 13, 0, 0, 0, 0) := by decide +kernel
theorem i_X7_state_13 : fetch 77 13 = some (.iconst 0, 14, 0, 0, 0, 0) := by decide +kernel
theorem i_X7_state_14 : fetch 77 14 = some (.bipush 7, 16, 0, 0, 0, 0) := by decide +kernel
theorem i_X7_state_16 : fetch 77 16 = some (.invokestatic 112, 19, 110, 0, 0, 534) := by decide +kernel
theorem i_X7_state_19 : fetch 77 19 = some (.ifCond .ne 7, 22, 0, 0, 0, 0) := by decide +kernel
theorem i_X7_state_22 : fetch 77 22 = some (.ldc2_w 168, 25, 0, 0, (-7), 706) := by decide +kernel
theorem i_X7_state_25 : fetch 77 25 = some (.lreturn, 26, 0, 0, 0, 0) := by decide +kernel
theorem i_X7_state_26 : fetch 77 26 = some (.aload_n 0, 27, 0, 0, 0, 0) := by decide +kernel
theorem i_X7_state_27 : fetch 77 27 = some (.aload_n 0, 28, 0, 0, 0, 0) := by decide +kernel
theorem i_X7_state_28 : fetch 77 28 = some (.getfield 10, 31, 7, 0, 0, 483) := by decide +kernel
theorem i_X7_state_31 : fetch 77 31 = some (.iload_n 1, 32, 0, 0, 0, 0) := by decide +kernel
theorem i_X7_state_32 : fetch 77 32 = some (.iconst (-1), 33, 0, 0, 0, 0) := by decide +kernel
theorem i_X7_state_33 : fetch 77 33 = some (.iconst (-1), 34, 0, 0, 0, 0) := by decide +kernel
theorem i_X7_state_34 : fetch 77 34 = some (.invokevirtual 154, 37, 118, 0, 0, 588) := by decide +kernel
theorem i_X7_state_37 : fetch 77 37 = some (.iload_n 2, 38, 0, 0, 0, 0) := by decide +kernel
theorem i_X7_state_38 : fetch 77 38 = some (.tableswitch 112 0 6 #[42, 51, 60, 69, 78, 94, 103], 80, 0, 0, 0, 0) := by decide +kernel
theorem i_X7_state_80 : fetch 77 80 = some (.aload_n 0, 81, 0, 0, 0, 0) := by decide +kernel
theorem i_X7_state_81 : fetch 77 81 = some (.getfield 82, 84, 7, 7, 0, 490) := by decide +kernel
theorem i_X7_state_84 : fetch 77 84 = some (.invokevirtual 170, 87, 40, 0, 0, 707) := by decide +kernel
theorem i_X7_state_87 : fetch 77 87 = some (.i2l, 88, 0, 0, 0, 0) := by decide +kernel
theorem i_X7_state_88 : fetch 77 88 = some (.lreturn, 89, 0, 0, 0, 0) := by decide +kernel
theorem i_X7_state_89 : fetch 77 89 = some (.aload_n 0, 90, 0, 0, 0, 0) := by decide +kernel
theorem i_X7_state_90 : fetch 77 90 = some (.getfield 82, 93, 7, 7, 0, 490) := by decide +kernel
theorem i_X7_state_93 : fetch 77 93 = some (.invokevirtual 173, 96, 41, 0, 0, 712) := by decide +kernel
theorem i_X7_state_96 : fetch 77 96 = some (.i2l, 97, 0, 0, 0, 0) := by decide +kernel
theorem i_X7_state_97 : fetch 77 97 = some (.lreturn, 98, 0, 0, 0, 0) := by decide +kernel
theorem i_X7_state_98 : fetch 77 98 = some (.aload_n 0, 99, 0, 0, 0, 0) := by decide +kernel
theorem i_X7_state_99 : fetch 77 99 = some (.getfield 82, 102, 7, 7, 0, 490) := by decide +kernel
theorem i_X7_state_102 : fetch 77 102 = some (.invokevirtual 176, 105, 42, 0, 0, 716) := by decide +kernel
theorem i_X7_state_105 : fetch 77 105 = some (.i2l, 106, 0, 0, 0, 0) := by decide +kernel
theorem i_X7_state_106 : fetch 77 106 = some (.lreturn, 107, 0, 0, 0, 0) := by decide +kernel
theorem i_X7_state_107 : fetch 77 107 = some (.aload_n 0, 108, 0, 0, 0, 0) := by decide +kernel
theorem i_X7_state_108 : fetch 77 108 = some (.getfield 82, 111, 7, 7, 0, 490) := by decide +kernel
theorem i_X7_state_111 : fetch 77 111 = some (.getfield 179, 114, 3, 7, 0, 250) := by decide +kernel
theorem i_X7_state_114 : fetch 77 114 = some (.i2l, 115, 0, 0, 0, 0) := by decide +kernel
theorem i_X7_state_115 : fetch 77 115 = some (.lreturn, 116, 0, 0, 0, 0) := by decide +kernel
theorem i_X7_state_116 : fetch 77 116 = some (.aload_n 0, 117, 0, 0, 0, 0) := by decide +kernel
theorem i_X7_state_117 : fetch 77 117 = some (.getfield 82, 120, 7, 7, 0, 490) := by decide +kernel
theorem i_X7_state_120 : fetch 77 120 = some (.invokevirtual 182, 123, 44, 0, 0, 722) := by decide +kernel
theorem i_X7_state_123 : fetch 77 123 = some (.aload_n 0, 124, 0, 0, 0, 0) := by decide +kernel
theorem i_X7_state_124 : fetch 77 124 = some (.getfield 82, 127, 7, 7, 0, 490) := by decide +kernel
theorem i_X7_state_127 : fetch 77 127 = some (.getfield 179, 130, 3, 7, 0, 250) := by decide +kernel
theorem i_X7_state_130 : fetch 77 130 = some (.lshl, 131, 0, 0, 0, 0) := by decide +kernel
theorem i_X7_state_131 : fetch 77 131 = some (.lreturn, 132, 0, 0, 0, 0) := by decide +kernel
theorem i_X7_state_132 : fetch 77 132 = some (.aload_n 0, 133, 0, 0, 0, 0) := by decide +kernel
theorem i_X7_state_133 : fetch 77 133 = some (.getfield 82, 136, 7, 7, 0, 490) := by decide +kernel
theorem i_X7_state_136 : fetch 77 136 = some (.getfield 186, 139, 3, 8, 0, 253) := by decide +kernel
theorem i_X7_state_139 : fetch 77 139 = some (.i2l, 140, 0, 0, 0, 0) := by decide +kernel
theorem i_X7_state_140 : fetch 77 140 = some (.lreturn, 141, 0, 0, 0, 0) := by decide +kernel
theorem i_X7_state_141 : fetch 77 141 = some (.aload_n 0, 142, 0, 0, 0, 0) := by decide +kernel
theorem i_X7_state_142 : fetch 77 142 = some (.getfield 82, 145, 7, 7, 0, 490) := by decide +kernel
theorem i_X7_state_145 : fetch 77 145 = some (.getfield 189, 148, 3, 9, 0, 255) := by decide +kernel
theorem i_X7_state_148 : fetch 77 148 = some (.i2l, 149, 0, 0, 0, 0) := by decide +kernel
theorem i_X7_state_149 : fetch 77 149 = some (.lreturn, 150, 0, 0, 0, 0) := by decide +kernel
theorem i_X7_state_150 : fetch 77 150 = some (.aload_n 0, 151, 0, 0, 0, 0) := by decide +kernel
theorem i_X7_state_151 : fetch 77 151 = some (.iload_n 1, 152, 0, 0, 0, 0) := by decide +kernel
theorem i_X7_state_152 : fetch 77 152 = some (.invokevirtual 192, 155, 120, 0, 0, 723) := by decide +kernel
theorem i_X7_state_155 : fetch 77 155 = some (.i2l, 156, 0, 0, 0, 0) := by decide +kernel
theorem i_X7_state_156 : fetch 77 156 = some (.lreturn, 157, 0, 0, 0, 0) := by decide +kernel
def f_X7_state_0 (n : Nat) (v0 : Nat) (v1 : Int32) (v2 : Int32) (h : Hp) : Option (Int64 × Hp) :=
  if okO h v0 7 then
  (f_X7_areSteps v0 v1 h).bind fun o1 =>
  if o1.1 ≠ 0 then
    (f_X7_within v2 0 7 o1.2).bind fun o4 =>
    if o4.1 ≠ 0 then
      if okO o4.2 v0 7 then
      (gR o4.2 v0 0).bind fun a7 =>
      (f_X7_make n v0 a7 v1 (-1) (-1) o4.2).bind fun o8 =>
      if v2 = 0 then
        if okO o8 v0 7 then
        (gR o8 v0 7).bind fun a43 =>
        if okO o8 a43 3 then
        (f_X3_thinnest n a43 o8).bind fun o44 =>
        some ((Int32.toInt64 o44.1), o44.2)
        else none
        else none
      else
        if v2 = 1 then
          if okO o8 v0 7 then
          (gR o8 v0 7).bind fun a39 =>
          if okO o8 a39 3 then
          (f_X3_thickest n a39 o8).bind fun o40 =>
          some ((Int32.toInt64 o40.1), o40.2)
          else none
          else none
        else
          if v2 = 2 then
            if okO o8 v0 7 then
            (gR o8 v0 7).bind fun a35 =>
            if okO o8 a35 3 then
            (f_X3_spread n a35 o8).bind fun o36 =>
            some ((Int32.toInt64 o36.1), o36.2)
            else none
            else none
          else
            if v2 = 3 then
              if okO o8 v0 7 then
              (gR o8 v0 7).bind fun a32 =>
              if okO o8 a32 3 then
              some ((Int32.toInt64 (gI o8 a32 7)), o8)
              else none
              else none
            else
              if v2 = 4 then
                if okO o8 v0 7 then
                (gR o8 v0 7).bind fun a25 =>
                if okO o8 a25 3 then
                (f_X3_allLength n a25 o8).bind fun o26 =>
                if okO o26.2 v0 7 then
                (gR o26.2 v0 7).bind fun a29 =>
                if okO o26.2 a29 3 then
                some ((o26.1 <<< (Int32.toInt64 (gI o26.2 a29 7) &&& 63)), o26.2)
                else none
                else none
                else none
                else none
              else
                if v2 = 5 then
                  if okO o8 v0 7 then
                  (gR o8 v0 7).bind fun a22 =>
                  if okO o8 a22 3 then
                  some ((Int32.toInt64 (gI o8 a22 8)), o8)
                  else none
                  else none
                else
                  if v2 = 6 then
                    if okO o8 v0 7 then
                    (gR o8 v0 7).bind fun a19 =>
                    if okO o8 a19 3 then
                    some ((Int32.toInt64 (gI o8 a19 9)), o8)
                    else none
                    else none
                  else
                    if okO o8 v0 7 then
                    (f_X7_allTake n v0 v1 o8).bind fun o16 =>
                    some ((Int32.toInt64 o16.1), o16.2)
                    else none
      else none
    else
      some ((-7), o4.2)
  else
    some ((-5), o1.2)
  else none
set_option maxRecDepth 100000 in
set_option maxHeartbeats 4000000 in
theorem r_X7_state_0 {X : Nat → Int32} {d : Nat} (hd : 7 ≤ (d + 1)) {n : Nat} {v0 : Nat} {v1 : Int32} {v2 : Int32} {h : Hp} {o : (Int64 × Hp)} (hf : f_X7_state_0 n v0 v1 v2 h = some o) : Run X (d + 1) 77 0 [some (.ref v0), some (.int v1), some (.int v2)] [] h (some (.long o.1), o.2) := by
  unfold f_X7_state_0 at hf
  refine rs_aload_n i_X7_state_0 rfl ?_
  refine rs_iload_n i_X7_state_1 rfl ?_
  obtain ⟨c2, hf⟩ := ite_some hf
  obtain ⟨o1, e1, hf⟩ := bind_some hf
  refine rs_inV i_X7_state_2 m_X7_areSteps rfl (As := [.int v1]) (rest := []) rfl rfl (Nat.le_of_ble_eq_true rfl) c2 (c_X7_areSteps (by omega) e1) (st' := [.int o1.1]) rfl ?_
  by_cases c3 : o1.1 ≠ 0
  · replace hf := (if_pos c3).symm.trans hf
    refine rs_ifT i_X7_state_5 (ct_ne c3) (tg := 12) (by decide) ?_
    refine rs_iload_n i_X7_state_12 rfl ?_
    refine rs_iconst i_X7_state_13 (v := 0) (by decide) ?_
    refine rs_bipush i_X7_state_14 (v := 7) (by decide) ?_
    obtain ⟨o4, e4, hf⟩ := bind_some hf
    refine rs_inS i_X7_state_16 (by decide) m_X7_within rfl (As := [.int v2, .int 0, .int 7]) (rest := []) rfl rfl (Nat.le_of_ble_eq_true rfl) (c_X7_within (by omega) e4) (st' := [.int o4.1]) rfl ?_
    by_cases c5 : o4.1 ≠ 0
    · replace hf := (if_pos c5).symm.trans hf
      refine rs_ifT i_X7_state_19 (ct_ne c5) (tg := 26) (by decide) ?_
      refine rs_aload_n i_X7_state_26 rfl ?_
      refine rs_aload_n i_X7_state_27 rfl ?_
      obtain ⟨c6, hf⟩ := ite_some hf
      obtain ⟨a7, e7, hf⟩ := bind_some hf
      refine rs_getR i_X7_state_28 (by decide) (by decide) c6 e7 ?_
      refine rs_iload_n i_X7_state_31 rfl ?_
      refine rs_iconst i_X7_state_32 (v := (-1)) (by decide) ?_
      refine rs_iconst i_X7_state_33 (v := (-1)) (by decide) ?_
      obtain ⟨o8, e8, hf⟩ := bind_some hf
      refine rs_inV i_X7_state_34 m_X7_make rfl (As := [.ref a7, .int v1, .int (-1), .int (-1)]) (rest := []) rfl rfl (Nat.le_of_ble_eq_true rfl) c6 (c_X7_make (by omega) e8) (st' := []) rfl ?_
      refine rs_iload_n i_X7_state_37 rfl ?_
      by_cases c9 : v2 = 0
      · replace hf := (if_pos c9).symm.trans hf
        refine rs_tsw i_X7_state_38 (off := 42) (by rw [c9]; decide) (tg := 80) (by decide) ?_
        refine rs_aload_n i_X7_state_80 rfl ?_
        obtain ⟨c42, hf⟩ := ite_some hf
        obtain ⟨a43, e43, hf⟩ := bind_some hf
        refine rs_getR i_X7_state_81 (by decide) (by decide) c42 e43 ?_
        obtain ⟨c45, hf⟩ := ite_some hf
        obtain ⟨o44, e44, hf⟩ := bind_some hf
        refine rs_inV i_X7_state_84 m_X3_thinnest rfl (As := []) (rest := []) rfl rfl (Nat.le_of_ble_eq_true rfl) c45 (c_X3_thinnest (by omega) e44) (st' := [.int o44.1]) rfl ?_
        refine rs_i2l i_X7_state_87 ?_
        have hf := Option.some.inj hf
        subst hf
        exact rs_lret i_X7_state_88 m_X7_state rfl
      · replace hf := (if_neg c9).symm.trans hf
        by_cases c10 : v2 = 1
        · replace hf := (if_pos c10).symm.trans hf
          refine rs_tsw i_X7_state_38 (off := 51) (by rw [c10]; decide) (tg := 89) (by decide) ?_
          refine rs_aload_n i_X7_state_89 rfl ?_
          obtain ⟨c38, hf⟩ := ite_some hf
          obtain ⟨a39, e39, hf⟩ := bind_some hf
          refine rs_getR i_X7_state_90 (by decide) (by decide) c38 e39 ?_
          obtain ⟨c41, hf⟩ := ite_some hf
          obtain ⟨o40, e40, hf⟩ := bind_some hf
          refine rs_inV i_X7_state_93 m_X3_thickest rfl (As := []) (rest := []) rfl rfl (Nat.le_of_ble_eq_true rfl) c41 (c_X3_thickest (by omega) e40) (st' := [.int o40.1]) rfl ?_
          refine rs_i2l i_X7_state_96 ?_
          have hf := Option.some.inj hf
          subst hf
          exact rs_lret i_X7_state_97 m_X7_state rfl
        · replace hf := (if_neg c10).symm.trans hf
          by_cases c11 : v2 = 2
          · replace hf := (if_pos c11).symm.trans hf
            refine rs_tsw i_X7_state_38 (off := 60) (by rw [c11]; decide) (tg := 98) (by decide) ?_
            refine rs_aload_n i_X7_state_98 rfl ?_
            obtain ⟨c34, hf⟩ := ite_some hf
            obtain ⟨a35, e35, hf⟩ := bind_some hf
            refine rs_getR i_X7_state_99 (by decide) (by decide) c34 e35 ?_
            obtain ⟨c37, hf⟩ := ite_some hf
            obtain ⟨o36, e36, hf⟩ := bind_some hf
            refine rs_inV i_X7_state_102 m_X3_spread rfl (As := []) (rest := []) rfl rfl (Nat.le_of_ble_eq_true rfl) c37 (c_X3_spread (by omega) e36) (st' := [.int o36.1]) rfl ?_
            refine rs_i2l i_X7_state_105 ?_
            have hf := Option.some.inj hf
            subst hf
            exact rs_lret i_X7_state_106 m_X7_state rfl
          · replace hf := (if_neg c11).symm.trans hf
            by_cases c12 : v2 = 3
            · replace hf := (if_pos c12).symm.trans hf
              refine rs_tsw i_X7_state_38 (off := 69) (by rw [c12]; decide) (tg := 107) (by decide) ?_
              refine rs_aload_n i_X7_state_107 rfl ?_
              obtain ⟨c31, hf⟩ := ite_some hf
              obtain ⟨a32, e32, hf⟩ := bind_some hf
              refine rs_getR i_X7_state_108 (by decide) (by decide) c31 e32 ?_
              obtain ⟨c33, hf⟩ := ite_some hf
              refine rs_getI i_X7_state_111 (by decide) (by decide) c33 ?_
              refine rs_i2l i_X7_state_114 ?_
              have hf := Option.some.inj hf
              subst hf
              exact rs_lret i_X7_state_115 m_X7_state rfl
            · replace hf := (if_neg c12).symm.trans hf
              by_cases c13 : v2 = 4
              · replace hf := (if_pos c13).symm.trans hf
                refine rs_tsw i_X7_state_38 (off := 78) (by rw [c13]; decide) (tg := 116) (by decide) ?_
                refine rs_aload_n i_X7_state_116 rfl ?_
                obtain ⟨c24, hf⟩ := ite_some hf
                obtain ⟨a25, e25, hf⟩ := bind_some hf
                refine rs_getR i_X7_state_117 (by decide) (by decide) c24 e25 ?_
                obtain ⟨c27, hf⟩ := ite_some hf
                obtain ⟨o26, e26, hf⟩ := bind_some hf
                refine rs_inV i_X7_state_120 m_X3_allLength rfl (As := []) (rest := []) rfl rfl (Nat.le_of_ble_eq_true rfl) c27 (c_X3_allLength (by omega) e26) (st' := [.long o26.1]) rfl ?_
                refine rs_aload_n i_X7_state_123 rfl ?_
                obtain ⟨c28, hf⟩ := ite_some hf
                obtain ⟨a29, e29, hf⟩ := bind_some hf
                refine rs_getR i_X7_state_124 (by decide) (by decide) c28 e29 ?_
                obtain ⟨c30, hf⟩ := ite_some hf
                refine rs_getI i_X7_state_127 (by decide) (by decide) c30 ?_
                refine rs_lshl i_X7_state_130 ?_
                have hf := Option.some.inj hf
                subst hf
                exact rs_lret i_X7_state_131 m_X7_state rfl
              · replace hf := (if_neg c13).symm.trans hf
                by_cases c14 : v2 = 5
                · replace hf := (if_pos c14).symm.trans hf
                  refine rs_tsw i_X7_state_38 (off := 94) (by rw [c14]; decide) (tg := 132) (by decide) ?_
                  refine rs_aload_n i_X7_state_132 rfl ?_
                  obtain ⟨c21, hf⟩ := ite_some hf
                  obtain ⟨a22, e22, hf⟩ := bind_some hf
                  refine rs_getR i_X7_state_133 (by decide) (by decide) c21 e22 ?_
                  obtain ⟨c23, hf⟩ := ite_some hf
                  refine rs_getI i_X7_state_136 (by decide) (by decide) c23 ?_
                  refine rs_i2l i_X7_state_139 ?_
                  have hf := Option.some.inj hf
                  subst hf
                  exact rs_lret i_X7_state_140 m_X7_state rfl
                · replace hf := (if_neg c14).symm.trans hf
                  by_cases c15 : v2 = 6
                  · replace hf := (if_pos c15).symm.trans hf
                    refine rs_tsw i_X7_state_38 (off := 103) (by rw [c15]; decide) (tg := 141) (by decide) ?_
                    refine rs_aload_n i_X7_state_141 rfl ?_
                    obtain ⟨c18, hf⟩ := ite_some hf
                    obtain ⟨a19, e19, hf⟩ := bind_some hf
                    refine rs_getR i_X7_state_142 (by decide) (by decide) c18 e19 ?_
                    obtain ⟨c20, hf⟩ := ite_some hf
                    refine rs_getI i_X7_state_145 (by decide) (by decide) c20 ?_
                    refine rs_i2l i_X7_state_148 ?_
                    have hf := Option.some.inj hf
                    subst hf
                    exact rs_lret i_X7_state_149 m_X7_state rfl
                  · replace hf := (if_neg c15).symm.trans hf
                    refine rs_tsw i_X7_state_38 (off := 112) (swt_df (by have z0 := ne_ti c9; rw [show (0 : Int32).toInt = 0 from by decide] at z0; have z1 := ne_ti c10; rw [show (1 : Int32).toInt = 1 from by decide] at z1; have z2 := ne_ti c11; rw [show (2 : Int32).toInt = 2 from by decide] at z2; have z3 := ne_ti c12; rw [show (3 : Int32).toInt = 3 from by decide] at z3; have z4 := ne_ti c13; rw [show (4 : Int32).toInt = 4 from by decide] at z4; have z5 := ne_ti c14; rw [show (5 : Int32).toInt = 5 from by decide] at z5; have z6 := ne_ti c15; rw [show (6 : Int32).toInt = 6 from by decide] at z6; omega)) (tg := 150) (by decide) ?_
                    refine rs_aload_n i_X7_state_150 rfl ?_
                    refine rs_iload_n i_X7_state_151 rfl ?_
                    obtain ⟨c17, hf⟩ := ite_some hf
                    obtain ⟨o16, e16, hf⟩ := bind_some hf
                    refine rs_inV i_X7_state_152 m_X7_allTake rfl (As := [.int v1]) (rest := []) rfl rfl (Nat.le_of_ble_eq_true rfl) c17 (c_X7_allTake (by omega) e16) (st' := [.int o16.1]) rfl ?_
                    refine rs_i2l i_X7_state_155 ?_
                    have hf := Option.some.inj hf
                    subst hf
                    exact rs_lret i_X7_state_156 m_X7_state rfl
    · replace hf := (if_neg c5).symm.trans hf
      refine rs_ifF i_X7_state_19 (cf_ne c5) ?_
      refine rs_ldc2 i_X7_state_22 (v := (-7)) (by decide) ?_
      have hf := Option.some.inj hf
      subst hf
      exact rs_lret i_X7_state_25 m_X7_state rfl
  · replace hf := (if_neg c3).symm.trans hf
    refine rs_ifF i_X7_state_5 (cf_ne c3) ?_
    refine rs_ldc2 i_X7_state_8 (v := (-5)) (by decide) ?_
    have hf := Option.some.inj hf
    subst hf
    exact rs_lret i_X7_state_11 m_X7_state rfl
def f_X7_state (n : Nat) (v0 : Nat) (v1 : Int32) (v2 : Int32) (h : Hp) : Option (Int64 × Hp) := f_X7_state_0 n v0 v1 v2 h
theorem c_X7_state {X : Nat → Int32} {d : Nat} (hd : 7 ≤ d) {n : Nat} {v0 : Nat} {v1 : Int32} {v2 : Int32} {h : Hp} {o : (Int64 × Hp)} (hf : f_X7_state n v0 v1 v2 h = some o) : Calls X d 77 [.ref v0, .int v1, .int v2] h (some (.long o.1), o.2) := by
  obtain ⟨d, rfl⟩ : ∃ z, d = z + 1 := ⟨d - 1, by omega⟩
  exact ⟨_, rfl, r_X7_state_0 hd hf⟩
theorem i_X7_whole_0 : fetch 78 0 = some (.aload_n 0, 1, 0, 0, 0, 0) := by decide +kernel
theorem i_X7_whole_1 : fetch 78 1 = some (.iload_n 1, 2, 0, 0, 0, 0) := by decide +kernel
theorem i_X7_whole_2 : fetch 78 2 = some (.invokevirtual 151, 5, 113, 0, 0, 584) := by decide +kernel
theorem i_X7_whole_5 : fetch 78 5 = some (.ifCond .eq 12, 8, 0, 0, 0, 0) := by decide +kernel
theorem i_X7_whole_8 : fetch 78 8 = some (.iload_n 2, 9, 0, 0, 0, 0) := by decide +kernel
theorem i_X7_whole_9 : fetch 78 9 = some (.iconst 0, 10, 0, 0, 0, 0) := by decide +kernel
theorem i_X7_whole_10 : fetch 78 10 = some (.iconst 2, 11, 0, 0, 0, 0) := by decide +kernel
theorem i_X7_whole_11 : fetch 78 11 = some (.invokestatic 112, 14, 110, 0, 0, 534) := by decide +kernel
theorem i_X7_whole_14 : fetch 78 14 = some (.ifCond .ne 7, 17, 0, 0, 0, 0) := by decide +kernel
theorem i_X7_whole_17 : fetch 78 17 = some (.ldc2_w 195, 20, 0, 0, (-4611686018427387904), 731) := by decide +kernel
theorem i_X7_whole_20 : fetch 78 20 = some (.lreturn, 21, 0, 0, 0, 0) := by decide +kernel
theorem i_X7_whole_21 : fetch 78 21 = some (.aload_n 0, 22, 0, 0, 0, 0) := by decide +kernel
theorem i_X7_whole_22 : fetch 78 22 = some (.aload_n 0, 23, 0, 0, 0, 0) := by decide +kernel
theorem i_X7_whole_23 : fetch 78 23 = some (.getfield 10, 26, 7, 0, 0, 483) := by decide +kernel
theorem i_X7_whole_26 : fetch 78 26 = some (.iload_n 1, 27, 0, 0, 0, 0) := by decide +kernel
theorem i_X7_whole_27 : fetch 78 27 = some (.iconst (-1), 28, 0, 0, 0, 0) := by decide +kernel
theorem i_X7_whole_28 : fetch 78 28 = some (.iconst (-1), 29, 0, 0, 0, 0) := by decide +kernel
theorem i_X7_whole_29 : fetch 78 29 = some (.invokevirtual 154, 32, 118, 0, 0, 588) := by decide +kernel
theorem i_X7_whole_32 : fetch 78 32 = some (.iload_n 2, 33, 0, 0, 0, 0) := by decide +kernel
theorem i_X7_whole_33 : fetch 78 33 = some (.lookupswitch 43 #[(0, 27), (1, 35)], 60, 0, 0, 0, 0) := by decide +kernel
theorem i_X7_whole_60 : fetch 78 60 = some (.aload_n 0, 61, 0, 0, 0, 0) := by decide +kernel
theorem i_X7_whole_61 : fetch 78 61 = some (.getfield 82, 64, 7, 7, 0, 490) := by decide +kernel
theorem i_X7_whole_64 : fetch 78 64 = some (.getfield 197, 67, 3, 10, 0, 257) := by decide +kernel
theorem i_X7_whole_67 : fetch 78 67 = some (.lreturn, 68, 0, 0, 0, 0) := by decide +kernel
theorem i_X7_whole_68 : fetch 78 68 = some (.aload_n 0, 69, 0, 0, 0, 0) := by decide +kernel
theorem i_X7_whole_69 : fetch 78 69 = some (.getfield 82, 72, 7, 7, 0, 490) := by decide +kernel
theorem i_X7_whole_72 : fetch 78 72 = some (.getfield 201, 75, 3, 11, 0, 259) := by decide +kernel
theorem i_X7_whole_75 : fetch 78 75 = some (.lreturn, 76, 0, 0, 0, 0) := by decide +kernel
theorem i_X7_whole_76 : fetch 78 76 = some (.aload_n 0, 77, 0, 0, 0, 0) := by decide +kernel
theorem i_X7_whole_77 : fetch 78 77 = some (.getfield 82, 80, 7, 7, 0, 490) := by decide +kernel
theorem i_X7_whole_80 : fetch 78 80 = some (.invokevirtual 204, 83, 46, 0, 0, 732) := by decide +kernel
theorem i_X7_whole_83 : fetch 78 83 = some (.lreturn, 84, 0, 0, 0, 0) := by decide +kernel
def f_X7_whole_0 (n : Nat) (v0 : Nat) (v1 : Int32) (v2 : Int32) (h : Hp) : Option (Int64 × Hp) :=
  if okO h v0 7 then
  (f_X7_areSteps v0 v1 h).bind fun o1 =>
  if o1.1 = 0 then
    some ((-4611686018427387904), o1.2)
  else
    (f_X7_within v2 0 2 o1.2).bind fun o4 =>
    if o4.1 ≠ 0 then
      if okO o4.2 v0 7 then
      (gR o4.2 v0 0).bind fun a7 =>
      (f_X7_make n v0 a7 v1 (-1) (-1) o4.2).bind fun o8 =>
      if v2 = 0 then
        if okO o8 v0 7 then
        (gR o8 v0 7).bind fun a19 =>
        if okO o8 a19 3 then
        some ((gL' o8 a19 10), o8)
        else none
        else none
      else
        if v2 = 1 then
          if okO o8 v0 7 then
          (gR o8 v0 7).bind fun a16 =>
          if okO o8 a16 3 then
          some ((gL' o8 a16 11), o8)
          else none
          else none
        else
          if okO o8 v0 7 then
          (gR o8 v0 7).bind fun a12 =>
          if okO o8 a12 3 then
          (f_X3_goodParts a12 o8).bind fun o13 =>
          some (o13.1, o13.2)
          else none
          else none
      else none
    else
      some ((-4611686018427387904), o4.2)
  else none
set_option maxRecDepth 100000 in
set_option maxHeartbeats 4000000 in
theorem r_X7_whole_0 {X : Nat → Int32} {d : Nat} (hd : 7 ≤ (d + 1)) {n : Nat} {v0 : Nat} {v1 : Int32} {v2 : Int32} {h : Hp} {o : (Int64 × Hp)} (hf : f_X7_whole_0 n v0 v1 v2 h = some o) : Run X (d + 1) 78 0 [some (.ref v0), some (.int v1), some (.int v2)] [] h (some (.long o.1), o.2) := by
  unfold f_X7_whole_0 at hf
  refine rs_aload_n i_X7_whole_0 rfl ?_
  refine rs_iload_n i_X7_whole_1 rfl ?_
  obtain ⟨c2, hf⟩ := ite_some hf
  obtain ⟨o1, e1, hf⟩ := bind_some hf
  refine rs_inV i_X7_whole_2 m_X7_areSteps rfl (As := [.int v1]) (rest := []) rfl rfl (Nat.le_of_ble_eq_true rfl) c2 (c_X7_areSteps (by omega) e1) (st' := [.int o1.1]) rfl ?_
  by_cases c3 : o1.1 = 0
  · replace hf := (if_pos c3).symm.trans hf
    refine rs_ifT i_X7_whole_5 (ct_eq c3) (tg := 17) (by decide) ?_
    refine rs_ldc2 i_X7_whole_17 (v := (-4611686018427387904)) (by decide) ?_
    have hf := Option.some.inj hf
    subst hf
    exact rs_lret i_X7_whole_20 m_X7_whole rfl
  · replace hf := (if_neg c3).symm.trans hf
    refine rs_ifF i_X7_whole_5 (cf_eq c3) ?_
    refine rs_iload_n i_X7_whole_8 rfl ?_
    refine rs_iconst i_X7_whole_9 (v := 0) (by decide) ?_
    refine rs_iconst i_X7_whole_10 (v := 2) (by decide) ?_
    obtain ⟨o4, e4, hf⟩ := bind_some hf
    refine rs_inS i_X7_whole_11 (by decide) m_X7_within rfl (As := [.int v2, .int 0, .int 2]) (rest := []) rfl rfl (Nat.le_of_ble_eq_true rfl) (c_X7_within (by omega) e4) (st' := [.int o4.1]) rfl ?_
    by_cases c5 : o4.1 ≠ 0
    · replace hf := (if_pos c5).symm.trans hf
      refine rs_ifT i_X7_whole_14 (ct_ne c5) (tg := 21) (by decide) ?_
      refine rs_aload_n i_X7_whole_21 rfl ?_
      refine rs_aload_n i_X7_whole_22 rfl ?_
      obtain ⟨c6, hf⟩ := ite_some hf
      obtain ⟨a7, e7, hf⟩ := bind_some hf
      refine rs_getR i_X7_whole_23 (by decide) (by decide) c6 e7 ?_
      refine rs_iload_n i_X7_whole_26 rfl ?_
      refine rs_iconst i_X7_whole_27 (v := (-1)) (by decide) ?_
      refine rs_iconst i_X7_whole_28 (v := (-1)) (by decide) ?_
      obtain ⟨o8, e8, hf⟩ := bind_some hf
      refine rs_inV i_X7_whole_29 m_X7_make rfl (As := [.ref a7, .int v1, .int (-1), .int (-1)]) (rest := []) rfl rfl (Nat.le_of_ble_eq_true rfl) c6 (c_X7_make (by omega) e8) (st' := []) rfl ?_
      refine rs_iload_n i_X7_whole_32 rfl ?_
      by_cases c9 : v2 = 0
      · replace hf := (if_pos c9).symm.trans hf
        refine rs_lsw i_X7_whole_33 (off := 27) (by rw [c9]; decide) (tg := 60) (by decide) ?_
        refine rs_aload_n i_X7_whole_60 rfl ?_
        obtain ⟨c18, hf⟩ := ite_some hf
        obtain ⟨a19, e19, hf⟩ := bind_some hf
        refine rs_getR i_X7_whole_61 (by decide) (by decide) c18 e19 ?_
        obtain ⟨c20, hf⟩ := ite_some hf
        refine rs_getL i_X7_whole_64 (by decide) (by decide) c20 ?_
        have hf := Option.some.inj hf
        subst hf
        exact rs_lret i_X7_whole_67 m_X7_whole rfl
      · replace hf := (if_neg c9).symm.trans hf
        by_cases c10 : v2 = 1
        · replace hf := (if_pos c10).symm.trans hf
          refine rs_lsw i_X7_whole_33 (off := 35) (by rw [c10]; decide) (tg := 68) (by decide) ?_
          refine rs_aload_n i_X7_whole_68 rfl ?_
          obtain ⟨c15, hf⟩ := ite_some hf
          obtain ⟨a16, e16, hf⟩ := bind_some hf
          refine rs_getR i_X7_whole_69 (by decide) (by decide) c15 e16 ?_
          obtain ⟨c17, hf⟩ := ite_some hf
          refine rs_getL i_X7_whole_72 (by decide) (by decide) c17 ?_
          have hf := Option.some.inj hf
          subst hf
          exact rs_lret i_X7_whole_75 m_X7_whole rfl
        · replace hf := (if_neg c10).symm.trans hf
          refine rs_lsw i_X7_whole_33 (off := 43) (by have z0 := ne_ti c9; rw [show (0 : Int32).toInt = 0 from by decide] at z0; have z1 := ne_ti c10; rw [show (1 : Int32).toInt = 1 from by decide] at z1; simp [Op.lookupswitch.offset, Ne.symm z0, z0, Ne.symm z1, z1]) (tg := 76) (by decide) ?_
          refine rs_aload_n i_X7_whole_76 rfl ?_
          obtain ⟨c11, hf⟩ := ite_some hf
          obtain ⟨a12, e12, hf⟩ := bind_some hf
          refine rs_getR i_X7_whole_77 (by decide) (by decide) c11 e12 ?_
          obtain ⟨c14, hf⟩ := ite_some hf
          obtain ⟨o13, e13, hf⟩ := bind_some hf
          refine rs_inV i_X7_whole_80 m_X3_goodParts rfl (As := []) (rest := []) rfl rfl (Nat.le_of_ble_eq_true rfl) c14 (c_X3_goodParts (by omega) e13) (st' := [.long o13.1]) rfl ?_
          have hf := Option.some.inj hf
          subst hf
          exact rs_lret i_X7_whole_83 m_X7_whole rfl
    · replace hf := (if_neg c5).symm.trans hf
      refine rs_ifF i_X7_whole_14 (cf_ne c5) ?_
      refine rs_ldc2 i_X7_whole_17 (v := (-4611686018427387904)) (by decide) ?_
      have hf := Option.some.inj hf
      subst hf
      exact rs_lret i_X7_whole_20 m_X7_whole rfl
def f_X7_whole (n : Nat) (v0 : Nat) (v1 : Int32) (v2 : Int32) (h : Hp) : Option (Int64 × Hp) := f_X7_whole_0 n v0 v1 v2 h
theorem c_X7_whole {X : Nat → Int32} {d : Nat} (hd : 7 ≤ d) {n : Nat} {v0 : Nat} {v1 : Int32} {v2 : Int32} {h : Hp} {o : (Int64 × Hp)} (hf : f_X7_whole n v0 v1 v2 h = some o) : Calls X d 78 [.ref v0, .int v1, .int v2] h (some (.long o.1), o.2) := by
  obtain ⟨d, rfl⟩ : ∃ z, d = z + 1 := ⟨d - 1, by omega⟩
  exact ⟨_, rfl, r_X7_whole_0 hd hf⟩
theorem i_X7_stop_0 : fetch 79 0 = some (.iload_n 1, 1, 0, 0, 0, 0) := by decide +kernel
theorem i_X7_stop_1 : fetch 79 1 = some (.iconst 0, 2, 0, 0, 0, 0) := by decide +kernel
theorem i_X7_stop_2 : fetch 79 2 = some (.bipush 100, 4, 0, 0, 0, 0) := by decide +kernel
theorem i_X7_stop_4 : fetch 79 4 = some (.invokestatic 112, 7, 110, 0, 0, 534) := by decide +kernel
theorem i_X7_stop_7 : fetch 79 7 = some (.ifCond .ne 6, 10, 0, 0, 0, 0) := by decide +kernel
theorem i_X7_stop_10 : fetch 79 10 = some (.bipush (-2), 12, 0, 0, 0, 0) := by decide +kernel
theorem i_X7_stop_12 : fetch 79 12 = some (.ireturn, 13, 0, 0, 0, 0) := by decide +kernel
theorem i_X7_stop_13 : fetch 79 13 = some (.aload_n 0, 14, 0, 0, 0, 0) := by decide +kernel
theorem i_X7_stop_14 : fetch 79 14 = some (.aload_n 0, 15, 0, 0, 0, 0) := by decide +kernel
theorem i_X7_stop_15 : fetch 79 15 = some (.getfield 10, 18, 7, 0, 0, 483) := by decide +kernel
theorem i_X7_stop_18 : fetch 79 18 = some (.iconst 0, 19, 0, 0, 0, 0) := by decide +kernel
theorem i_X7_stop_19 : fetch 79 19 = some (.iconst (-1), 20, 0, 0, 0, 0) := by decide +kernel
theorem i_X7_stop_20 : fetch 79 20 = some (.iconst (-1), 21, 0, 0, 0, 0) := by decide +kernel
theorem i_X7_stop_21 : fetch 79 21 = some (.invokevirtual 154, 24, 118, 0, 0, 588) := by decide +kernel
theorem i_X7_stop_24 : fetch 79 24 = some (.iconst 0, 25, 0, 0, 0, 0) := by decide +kernel
theorem i_X7_stop_25 : fetch 79 25 = some (.istore_n 2, 26, 0, 0, 0, 0) := by decide +kernel
theorem i_X7_stop_26 : fetch 79 26 = some (.iconst 0, 27, 0, 0, 0, 0) := by decide +kernel
theorem i_X7_stop_27 : fetch 79 27 = some (.istore_n 3, 28, 0, 0, 0, 0) := by decide +kernel
theorem i_X7_stop_28 : fetch 79 28 = some (.iload_n 3, 29, 0, 0, 0, 0) := by decide +kernel
theorem i_X7_stop_29 : fetch 79 29 = some (.aload_n 0, 30, 0, 0, 0, 0) := by decide +kernel
theorem i_X7_stop_30 : fetch 79 30 = some (.getfield 54, 33, 7, 12, 0, 495) := by decide +kernel
theorem i_X7_stop_33 : fetch 79 33 = some (.if_icmp .ge 53, 36, 0, 0, 0, 0) := by decide +kernel
theorem i_X7_stop_36 : fetch 79 36 = some (.iload_n 3, 37, 0, 0, 0, 0) := by decide +kernel
theorem i_X7_stop_37 : fetch 79 37 = some (.bipush 12, 39, 0, 0, 0, 0) := by decide +kernel
theorem i_X7_stop_39 : fetch 79 39 = some (.if_icmp .ge 47, 42, 0, 0, 0, 0) := by decide +kernel
theorem i_X7_stop_42 : fetch 79 42 = some (.aload_n 0, 43, 0, 0, 0, 0) := by decide +kernel
theorem i_X7_stop_43 : fetch 79 43 = some (.getfield 82, 46, 7, 7, 0, 490) := by decide +kernel
theorem i_X7_stop_46 : fetch 79 46 = some (.aload_n 0, 47, 0, 0, 0, 0) := by decide +kernel
theorem i_X7_stop_47 : fetch 79 47 = some (.getfield 24, 50, 7, 3, 0, 486) := by decide +kernel
theorem i_X7_stop_50 : fetch 79 50 = some (.iload_n 3, 51, 0, 0, 0, 0) := by decide +kernel
theorem i_X7_stop_51 : fetch 79 51 = some (.aaload, 52, 0, 0, 0, 0) := by decide +kernel
theorem i_X7_stop_52 : fetch 79 52 = some (.invokevirtual 207, 55, 30, 0, 0, 603) := by decide +kernel
theorem i_X7_stop_55 : fetch 79 55 = some (.aload_n 0, 56, 0, 0, 0, 0) := by decide +kernel
theorem i_X7_stop_56 : fetch 79 56 = some (.getfield 82, 59, 7, 7, 0, 490) := by decide +kernel
theorem i_X7_stop_59 : fetch 79 59 = some (.invokevirtual 204, 62, 46, 0, 0, 732) := by decide +kernel
theorem i_X7_stop_62 : fetch 79 62 = some (.ldc2_w 210, 65, 0, 0, 100, 740) := by decide +kernel
theorem i_X7_stop_65 : fetch 79 65 = some (.lmul, 66, 0, 0, 0, 0) := by decide +kernel
theorem i_X7_stop_66 : fetch 79 66 = some (.iload_n 1, 67, 0, 0, 0, 0) := by decide +kernel
theorem i_X7_stop_67 : fetch 79 67 = some (.i2l, 68, 0, 0, 0, 0) := by decide +kernel
theorem i_X7_stop_68 : fetch 79 68 = some (.ldc2_w 212, 71, 0, 0, 1000000000, 741) := by decide +kernel
theorem i_X7_stop_71 : fetch 79 71 = some (.lmul, 72, 0, 0, 0, 0) := by decide +kernel
theorem i_X7_stop_72 : fetch 79 72 = some (.lcmp, 73, 0, 0, 0, 0) := by decide +kernel
theorem i_X7_stop_73 : fetch 79 73 = some (.ifCond .lt 7, 76, 0, 0, 0, 0) := by decide +kernel
theorem i_X7_stop_76 : fetch 79 76 = some (.iload_n 3, 77, 0, 0, 0, 0) := by decide +kernel
theorem i_X7_stop_77 : fetch 79 77 = some (.iconst 1, 78, 0, 0, 0, 0) := by decide +kernel
theorem i_X7_stop_78 : fetch 79 78 = some (.iadd, 79, 0, 0, 0, 0) := by decide +kernel
theorem i_X7_stop_79 : fetch 79 79 = some (.istore_n 2, 80, 0, 0, 0, 0) := by decide +kernel
theorem i_X7_stop_80 : fetch 79 80 = some (.iinc 3 1, 83, 0, 0, 0, 0) := by decide +kernel
theorem i_X7_stop_83 : fetch 79 83 = some (.goto (-55), 86, 0, 0, 0, 0) := by decide +kernel
theorem i_X7_stop_86 : fetch 79 86 = some (.iload_n 2, 87, 0, 0, 0, 0) := by decide +kernel
theorem i_X7_stop_87 : fetch 79 87 = some (.ireturn, 88, 0, 0, 0, 0) := by decide +kernel
def f_X7_stop_80 (n : Nat) (K28 : Nat → Int32 → Int32 → Int32 → Hp → Option (Int32 × Hp)) (v0 : Nat) (v1 : Int32) (v2 : Int32) (v3 : Int32) (h : Hp) : Option (Int32 × Hp) :=
  K28 v0 v1 v2 (v3 + 1) h
set_option maxRecDepth 100000 in
set_option maxHeartbeats 4000000 in
theorem r_X7_stop_80 {X : Nat → Int32} {d : Nat} (hd : 7 ≤ (d + 1)) {n : Nat} {K28 : Nat → Int32 → Int32 → Int32 → Hp → Option (Int32 × Hp)} (HK28 : ∀ (v0 : Nat) (v1 : Int32) (v2 : Int32) (v3 : Int32) (h : Hp) (o : (Int32 × Hp)), K28 v0 v1 v2 v3 h = some o → Run X (d + 1) 79 28 [some (.ref v0), some (.int v1), some (.int v2), some (.int v3)] [] h (some (.int o.1), o.2)) {v0 : Nat} {v1 : Int32} {v2 : Int32} {v3 : Int32} {h : Hp} {o : (Int32 × Hp)} (hf : f_X7_stop_80 n K28 v0 v1 v2 v3 h = some o) : Run X (d + 1) 79 80 [some (.ref v0), some (.int v1), some (.int v2), some (.int v3)] [] h (some (.int o.1), o.2) := by
  unfold f_X7_stop_80 at hf
  refine rs_iinc i_X7_stop_80 rfl (v := v3 + 1) rfl (Nat.le_of_ble_eq_true rfl) (lv' := [some (.ref v0), some (.int v1), some (.int v2), some (.int (v3 + 1))]) rfl ?_
  refine rs_goto i_X7_stop_83 (tg := 28) (by decide) ?_
  exact HK28 _ _ _ _ _ _ hf
def f_X7_stop_28 (n : Nat) : Nat → Nat → Int32 → Int32 → Int32 → Hp → Option (Int32 × Hp)
  | 0, _, _, _, _, _ => none
  | m + 1, v0, v1, v2, v3, h =>
    if okO h v0 7 then
    if (gI h v0 12) ≤ v3 then
      some (v2, h)
    else
      if 12 ≤ v3 then
        some (v2, h)
      else
        (gR h v0 7).bind fun a4 =>
        (gR h v0 3).bind fun a5 =>
        if okR h a5 v3 then
        (gR h a5 (ix v3)).bind fun a7 =>
        if okO h a4 3 then
        (f_X3_make n a4 a7 h).bind fun o8 =>
        if okO o8 v0 7 then
        (gR o8 v0 7).bind fun a11 =>
        if okO o8 a11 3 then
        (f_X3_goodParts a11 o8).bind fun o12 =>
        if (o12.1 * 100) < ((Int32.toInt64 v1) * 1000000000) then
          f_X7_stop_80 n (f_X7_stop_28 n m) v0 v1 v2 v3 o12.2
        else
          f_X7_stop_80 n (f_X7_stop_28 n m) v0 v1 (v3 + 1) v3 o12.2
        else none
        else none
        else none
        else none
    else none
set_option maxRecDepth 100000 in
set_option maxHeartbeats 4000000 in
theorem r_X7_stop_28 {X : Nat → Int32} {d : Nat} (hd : 7 ≤ (d + 1)) {n : Nat} : ∀ (m : Nat) (v0 : Nat) (v1 : Int32) (v2 : Int32) (v3 : Int32) (h : Hp) (o : (Int32 × Hp)), f_X7_stop_28 n m v0 v1 v2 v3 h = some o → Run X (d + 1) 79 28 [some (.ref v0), some (.int v1), some (.int v2), some (.int v3)] [] h (some (.int o.1), o.2) := by
  intro m
  induction m with
  | zero => intro v0 v1 v2 v3 h o hf; cases hf
  | succ m ih =>
    intro v0 v1 v2 v3 h o hf
    rw [f_X7_stop_28] at hf
    refine rs_iload_n i_X7_stop_28 rfl ?_
    refine rs_aload_n i_X7_stop_29 rfl ?_
    obtain ⟨c1, hf⟩ := ite_some hf
    refine rs_getI i_X7_stop_30 (by decide) (by decide) c1 ?_
    by_cases c2 : (gI h v0 12) ≤ v3
    · replace hf := (if_pos c2).symm.trans hf
      refine rs_icT i_X7_stop_33 (ct_ge c2) (tg := 86) (by decide) ?_
      refine rs_iload_n i_X7_stop_86 rfl ?_
      have hf := Option.some.inj hf
      subst hf
      exact rs_iret i_X7_stop_87 m_X7_stop rfl
    · replace hf := (if_neg c2).symm.trans hf
      refine rs_icF i_X7_stop_33 (cf_ge c2) ?_
      refine rs_iload_n i_X7_stop_36 rfl ?_
      refine rs_bipush i_X7_stop_37 (v := 12) (by decide) ?_
      by_cases c3 : 12 ≤ v3
      · replace hf := (if_pos c3).symm.trans hf
        refine rs_icT i_X7_stop_39 (ct_ge c3) (tg := 86) (by decide) ?_
        refine rs_iload_n i_X7_stop_86 rfl ?_
        have hf := Option.some.inj hf
        subst hf
        exact rs_iret i_X7_stop_87 m_X7_stop rfl
      · replace hf := (if_neg c3).symm.trans hf
        refine rs_icF i_X7_stop_39 (cf_ge c3) ?_
        refine rs_aload_n i_X7_stop_42 rfl ?_
        obtain ⟨a4, e4, hf⟩ := bind_some hf
        refine rs_getR i_X7_stop_43 (by decide) (by decide) c1 e4 ?_
        refine rs_aload_n i_X7_stop_46 rfl ?_
        obtain ⟨a5, e5, hf⟩ := bind_some hf
        refine rs_getR i_X7_stop_47 (by decide) (by decide) c1 e5 ?_
        refine rs_iload_n i_X7_stop_50 rfl ?_
        obtain ⟨c6, hf⟩ := ite_some hf
        obtain ⟨a7, e7, hf⟩ := bind_some hf
        refine rs_aald i_X7_stop_51 c6 e7 ?_
        obtain ⟨c9, hf⟩ := ite_some hf
        obtain ⟨o8, e8, hf⟩ := bind_some hf
        refine rs_inV i_X7_stop_52 m_X3_make rfl (As := [.ref a7]) (rest := []) rfl rfl (Nat.le_of_ble_eq_true rfl) c9 (c_X3_make (by omega) e8) (st' := []) rfl ?_
        refine rs_aload_n i_X7_stop_55 rfl ?_
        obtain ⟨c10, hf⟩ := ite_some hf
        obtain ⟨a11, e11, hf⟩ := bind_some hf
        refine rs_getR i_X7_stop_56 (by decide) (by decide) c10 e11 ?_
        obtain ⟨c13, hf⟩ := ite_some hf
        obtain ⟨o12, e12, hf⟩ := bind_some hf
        refine rs_inV i_X7_stop_59 m_X3_goodParts rfl (As := []) (rest := []) rfl rfl (Nat.le_of_ble_eq_true rfl) c13 (c_X3_goodParts (by omega) e12) (st' := [.long o12.1]) rfl ?_
        refine rs_ldc2 i_X7_stop_62 (v := 100) (by decide) ?_
        refine rs_lmul i_X7_stop_65 ?_
        refine rs_iload_n i_X7_stop_66 rfl ?_
        refine rs_i2l i_X7_stop_67 ?_
        refine rs_ldc2 i_X7_stop_68 (v := 1000000000) (by decide) ?_
        refine rs_lmul i_X7_stop_71 ?_
        refine rs_lcmp i_X7_stop_72 ?_
        by_cases c14 : (o12.1 * 100) < ((Int32.toInt64 v1) * 1000000000)
        · replace hf := (if_pos c14).symm.trans hf
          refine rs_ifT i_X7_stop_73 (by rw [lc_lt]; exact decide_eq_true c14) (tg := 80) (by decide) ?_
          exact r_X7_stop_80 hd ih hf
        · replace hf := (if_neg c14).symm.trans hf
          refine rs_ifF i_X7_stop_73 (by rw [lc_lt]; exact decide_eq_false c14) ?_
          refine rs_iload_n i_X7_stop_76 rfl ?_
          refine rs_iconst i_X7_stop_77 (v := 1) (by decide) ?_
          refine rs_iadd i_X7_stop_78 ?_
          refine rs_istore_n i_X7_stop_79 (Nat.le_of_ble_eq_true rfl) (lv' := [some (.ref v0), some (.int v1), some (.int (v3 + 1)), some (.int v3)]) rfl ?_
          exact r_X7_stop_80 hd ih hf
def f_X7_stop_0 (n : Nat) (v0 : Nat) (v1 : Int32) (h : Hp) : Option (Int32 × Hp) :=
  (f_X7_within v1 0 100 h).bind fun o1 =>
  if o1.1 ≠ 0 then
    if okO o1.2 v0 7 then
    (gR o1.2 v0 0).bind fun a4 =>
    (f_X7_make n v0 a4 0 (-1) (-1) o1.2).bind fun o5 =>
    f_X7_stop_28 n n v0 v1 0 0 o5
    else none
  else
    some ((-2), o1.2)
set_option maxRecDepth 100000 in
set_option maxHeartbeats 4000000 in
theorem r_X7_stop_0 {X : Nat → Int32} {d : Nat} (hd : 7 ≤ (d + 1)) {n : Nat} {v0 : Nat} {v1 : Int32} {h : Hp} {o : (Int32 × Hp)} (hf : f_X7_stop_0 n v0 v1 h = some o) : Run X (d + 1) 79 0 [some (.ref v0), some (.int v1), none, none] [] h (some (.int o.1), o.2) := by
  unfold f_X7_stop_0 at hf
  refine rs_iload_n i_X7_stop_0 rfl ?_
  refine rs_iconst i_X7_stop_1 (v := 0) (by decide) ?_
  refine rs_bipush i_X7_stop_2 (v := 100) (by decide) ?_
  obtain ⟨o1, e1, hf⟩ := bind_some hf
  refine rs_inS i_X7_stop_4 (by decide) m_X7_within rfl (As := [.int v1, .int 0, .int 100]) (rest := []) rfl rfl (Nat.le_of_ble_eq_true rfl) (c_X7_within (by omega) e1) (st' := [.int o1.1]) rfl ?_
  by_cases c2 : o1.1 ≠ 0
  · replace hf := (if_pos c2).symm.trans hf
    refine rs_ifT i_X7_stop_7 (ct_ne c2) (tg := 13) (by decide) ?_
    refine rs_aload_n i_X7_stop_13 rfl ?_
    refine rs_aload_n i_X7_stop_14 rfl ?_
    obtain ⟨c3, hf⟩ := ite_some hf
    obtain ⟨a4, e4, hf⟩ := bind_some hf
    refine rs_getR i_X7_stop_15 (by decide) (by decide) c3 e4 ?_
    refine rs_iconst i_X7_stop_18 (v := 0) (by decide) ?_
    refine rs_iconst i_X7_stop_19 (v := (-1)) (by decide) ?_
    refine rs_iconst i_X7_stop_20 (v := (-1)) (by decide) ?_
    obtain ⟨o5, e5, hf⟩ := bind_some hf
    refine rs_inV i_X7_stop_21 m_X7_make rfl (As := [.ref a4, .int 0, .int (-1), .int (-1)]) (rest := []) rfl rfl (Nat.le_of_ble_eq_true rfl) c3 (c_X7_make (by omega) e5) (st' := []) rfl ?_
    refine rs_iconst i_X7_stop_24 (v := 0) (by decide) ?_
    refine rs_istore_n i_X7_stop_25 (Nat.le_of_ble_eq_true rfl) (lv' := [some (.ref v0), some (.int v1), some (.int 0), none]) rfl ?_
    refine rs_iconst i_X7_stop_26 (v := 0) (by decide) ?_
    refine rs_istore_n i_X7_stop_27 (Nat.le_of_ble_eq_true rfl) (lv' := [some (.ref v0), some (.int v1), some (.int 0), some (.int 0)]) rfl ?_
    exact r_X7_stop_28 hd _ _ _ _ _ _ _ hf
  · replace hf := (if_neg c2).symm.trans hf
    refine rs_ifF i_X7_stop_7 (cf_ne c2) ?_
    refine rs_bipush i_X7_stop_10 (v := (-2)) (by decide) ?_
    have hf := Option.some.inj hf
    subst hf
    exact rs_iret i_X7_stop_12 m_X7_stop rfl
def f_X7_stop (n : Nat) (v0 : Nat) (v1 : Int32) (h : Hp) : Option (Int32 × Hp) := f_X7_stop_0 n v0 v1 h
theorem c_X7_stop {X : Nat → Int32} {d : Nat} (hd : 7 ≤ d) {n : Nat} {v0 : Nat} {v1 : Int32} {h : Hp} {o : (Int32 × Hp)} (hf : f_X7_stop n v0 v1 h = some o) : Calls X d 79 [.ref v0, .int v1] h (some (.int o.1), o.2) := by
  obtain ⟨d, rfl⟩ : ∃ z, d = z + 1 := ⟨d - 1, by omega⟩
  exact ⟨_, rfl, r_X7_stop_0 hd hf⟩
theorem i_X7_worst_0 : fetch 80 0 = some (.aload_n 0, 1, 0, 0, 0, 0) := by decide +kernel
theorem i_X7_worst_1 : fetch 80 1 = some (.aload_n 0, 2, 0, 0, 0, 0) := by decide +kernel
theorem i_X7_worst_2 : fetch 80 2 = some (.getfield 10, 5, 7, 0, 0, 483) := by decide +kernel
theorem i_X7_worst_5 : fetch 80 5 = some (.iconst 0, 6, 0, 0, 0, 0) := by decide +kernel
theorem i_X7_worst_6 : fetch 80 6 = some (.iconst (-1), 7, 0, 0, 0, 0) := by decide +kernel
theorem i_X7_worst_7 : fetch 80 7 = some (.iconst (-1), 8, 0, 0, 0, 0) := by decide +kernel
theorem i_X7_worst_8 : fetch 80 8 = some (.invokevirtual 154, 11, 118, 0, 0, 588) := by decide +kernel
theorem i_X7_worst_11 : fetch 80 11 = some (.iconst (-1), 12, 0, 0, 0, 0) := by decide +kernel
theorem i_X7_worst_12 : fetch 80 12 = some (.istore_n 1, 13, 0, 0, 0, 0) := by decide +kernel
theorem i_X7_worst_13 : fetch 80 13 = some (.lconst 0, 14, 0, 0, 0, 0) := by decide +kernel
theorem i_X7_worst_14 : fetch 80 14 = some (.lstore_n 2, 15, 0, 0, 0, 0) := by decide +kernel
theorem i_X7_worst_15 : fetch 80 15 = some (.iconst 0, 16, 0, 0, 0, 0) := by decide +kernel
theorem i_X7_worst_16 : fetch 80 16 = some (.istore 4, 18, 0, 0, 0, 0) := by decide +kernel
theorem i_X7_worst_18 : fetch 80 18 = some (.iload 4, 20, 0, 0, 0, 0) := by decide +kernel
theorem i_X7_worst_20 : fetch 80 20 = some (.aload_n 0, 21, 0, 0, 0, 0) := by decide +kernel
theorem i_X7_worst_21 : fetch 80 21 = some (.getfield 54, 24, 7, 12, 0, 495) := by decide +kernel
theorem i_X7_worst_24 : fetch 80 24 = some (.if_icmp .ge 64, 27, 0, 0, 0, 0) := by decide +kernel
theorem i_X7_worst_27 : fetch 80 27 = some (.iload 4, 29, 0, 0, 0, 0) := by decide +kernel
theorem i_X7_worst_29 : fetch 80 29 = some (.bipush 12, 31, 0, 0, 0, 0) := by decide +kernel
theorem i_X7_worst_31 : fetch 80 31 = some (.if_icmp .ge 57, 34, 0, 0, 0, 0) := by decide +kernel
theorem i_X7_worst_34 : fetch 80 34 = some (.aload_n 0, 35, 0, 0, 0, 0) := by decide +kernel
theorem i_X7_worst_35 : fetch 80 35 = some (.getfield 82, 38, 7, 7, 0, 490) := by decide +kernel
theorem i_X7_worst_38 : fetch 80 38 = some (.invokevirtual 204, 41, 46, 0, 0, 732) := by decide +kernel
theorem i_X7_worst_41 : fetch 80 41 = some (.lstore 5, 43, 0, 0, 0, 0) := by decide +kernel
theorem i_X7_worst_43 : fetch 80 43 = some (.aload_n 0, 44, 0, 0, 0, 0) := by decide +kernel
theorem i_X7_worst_44 : fetch 80 44 = some (.getfield 82, 47, 7, 7, 0, 490) := by decide +kernel
theorem i_X7_worst_47 : fetch 80 47 = some (.aload_n 0, 48, 0, 0, 0, 0) := by decide +kernel
theorem i_X7_worst_48 : fetch 80 48 = some (.getfield 24, 51, 7, 3, 0, 486) := by decide +kernel
theorem i_X7_worst_51 : fetch 80 51 = some (.iload 4, 53, 0, 0, 0, 0) := by decide +kernel
theorem i_X7_worst_53 : fetch 80 53 = some (.aaload, 54, 0, 0, 0, 0) := by decide +kernel
theorem i_X7_worst_54 : fetch 80 54 = some (.invokevirtual 207, 57, 30, 0, 0, 603) := by decide +kernel
theorem i_X7_worst_57 : fetch 80 57 = some (.lload 5, 59, 0, 0, 0, 0) := by decide +kernel
theorem i_X7_worst_59 : fetch 80 59 = some (.aload_n 0, 60, 0, 0, 0, 0) := by decide +kernel
theorem i_X7_worst_60 : fetch 80 60 = some (.getfield 82, 63, 7, 7, 0, 490) := by decide +kernel
theorem i_X7_worst_63 : fetch 80 63 = some (.invokevirtual 204, 66, 46, 0, 0, 732) := by decide +kernel
theorem i_X7_worst_66 : fetch 80 66 = some (.lsub, 67, 0, 0, 0, 0) := by decide +kernel
theorem i_X7_worst_67 : fetch 80 67 = some (.lstore 7, 69, 0, 0, 0, 0) := by decide +kernel
theorem i_X7_worst_69 : fetch 80 69 = some (.lload 7, 71, 0, 0, 0, 0) := by decide +kernel
theorem i_X7_worst_71 : fetch 80 71 = some (.lload_n 2, 72, 0, 0, 0, 0) := by decide +kernel
theorem i_X7_worst_72 : fetch 80 72 = some (.lcmp, 73, 0, 0, 0, 0) := by decide +kernel
theorem i_X7_worst_73 : fetch 80 73 = some (.ifCond .le 9, 76, 0, 0, 0, 0) := by decide +kernel
theorem i_X7_worst_76 : fetch 80 76 = some (.lload 7, 78, 0, 0, 0, 0) := by decide +kernel
theorem i_X7_worst_78 : fetch 80 78 = some (.lstore_n 2, 79, 0, 0, 0, 0) := by decide +kernel
theorem i_X7_worst_79 : fetch 80 79 = some (.iload 4, 81, 0, 0, 0, 0) := by decide +kernel
theorem i_X7_worst_81 : fetch 80 81 = some (.istore_n 1, 82, 0, 0, 0, 0) := by decide +kernel
theorem i_X7_worst_82 : fetch 80 82 = some (.iinc 4 1, 85, 0, 0, 0, 0) := by decide +kernel
theorem i_X7_worst_85 : fetch 80 85 = some (.goto (-67), 88, 0, 0, 0, 0) := by decide +kernel
theorem i_X7_worst_88 : fetch 80 88 = some (.iload_n 1, 89, 0, 0, 0, 0) := by decide +kernel
theorem i_X7_worst_89 : fetch 80 89 = some (.ireturn, 90, 0, 0, 0, 0) := by decide +kernel
def f_X7_worst_82 (n : Nat) (K18 : Nat → Int32 → Int64 → Int32 → Hp → Option (Int32 × Hp)) (v0 : Nat) (v1 : Int32) (v2 : Int64) (v4 : Int32) (h : Hp) : Option (Int32 × Hp) :=
  K18 v0 v1 v2 (v4 + 1) h
set_option maxRecDepth 100000 in
set_option maxHeartbeats 4000000 in
theorem r_X7_worst_82 {X : Nat → Int32} {d : Nat} (hd : 7 ≤ (d + 1)) {n : Nat} {K18 : Nat → Int32 → Int64 → Int32 → Hp → Option (Int32 × Hp)} (HK18 : ∀ (v0 : Nat) (v1 : Int32) (v2 : Int64) (v4 : Int32) (w5 : Option Value) (w6 : Option Value) (w7 : Option Value) (w8 : Option Value) (h : Hp) (o : (Int32 × Hp)), K18 v0 v1 v2 v4 h = some o → Run X (d + 1) 80 18 [some (.ref v0), some (.int v1), some (.long v2), none, some (.int v4), w5, w6, w7, w8] [] h (some (.int o.1), o.2)) {v0 : Nat} {v1 : Int32} {v2 : Int64} {v4 : Int32} {d5 : Int64} {d7 : Int64} {h : Hp} {o : (Int32 × Hp)} (hf : f_X7_worst_82 n K18 v0 v1 v2 v4 h = some o) : Run X (d + 1) 80 82 [some (.ref v0), some (.int v1), some (.long v2), none, some (.int v4), some (.long d5), none, some (.long d7), none] [] h (some (.int o.1), o.2) := by
  unfold f_X7_worst_82 at hf
  refine rs_iinc i_X7_worst_82 rfl (v := v4 + 1) rfl (Nat.le_of_ble_eq_true rfl) (lv' := [some (.ref v0), some (.int v1), some (.long v2), none, some (.int (v4 + 1)), some (.long d5), none, some (.long d7), none]) rfl ?_
  refine rs_goto i_X7_worst_85 (tg := 18) (by decide) ?_
  exact HK18 _ _ _ _ _ _ _ _ _ _ hf
def f_X7_worst_18 (n : Nat) : Nat → Nat → Int32 → Int64 → Int32 → Hp → Option (Int32 × Hp)
  | 0, _, _, _, _, _ => none
  | m + 1, v0, v1, v2, v4, h =>
    if okO h v0 7 then
    if (gI h v0 12) ≤ v4 then
      some (v1, h)
    else
      if 12 ≤ v4 then
        some (v1, h)
      else
        (gR h v0 7).bind fun a4 =>
        if okO h a4 3 then
        (f_X3_goodParts a4 h).bind fun o5 =>
        if okO o5.2 v0 7 then
        (gR o5.2 v0 7).bind fun a8 =>
        (gR o5.2 v0 3).bind fun a9 =>
        if okR o5.2 a9 v4 then
        (gR o5.2 a9 (ix v4)).bind fun a11 =>
        if okO o5.2 a8 3 then
        (f_X3_make n a8 a11 o5.2).bind fun o12 =>
        if okO o12 v0 7 then
        (gR o12 v0 7).bind fun a15 =>
        if okO o12 a15 3 then
        (f_X3_goodParts a15 o12).bind fun o16 =>
        if (o5.1 - o16.1) ≤ v2 then
          f_X7_worst_82 n (f_X7_worst_18 n m) v0 v1 v2 v4 o16.2
        else
          f_X7_worst_82 n (f_X7_worst_18 n m) v0 v4 (o5.1 - o16.1) v4 o16.2
        else none
        else none
        else none
        else none
        else none
        else none
    else none
set_option maxRecDepth 100000 in
set_option maxHeartbeats 4000000 in
theorem r_X7_worst_18 {X : Nat → Int32} {d : Nat} (hd : 7 ≤ (d + 1)) {n : Nat} : ∀ (m : Nat) (v0 : Nat) (v1 : Int32) (v2 : Int64) (v4 : Int32) (w5 : Option Value) (w6 : Option Value) (w7 : Option Value) (w8 : Option Value) (h : Hp) (o : (Int32 × Hp)), f_X7_worst_18 n m v0 v1 v2 v4 h = some o → Run X (d + 1) 80 18 [some (.ref v0), some (.int v1), some (.long v2), none, some (.int v4), w5, w6, w7, w8] [] h (some (.int o.1), o.2) := by
  intro m
  induction m with
  | zero => intro v0 v1 v2 v4 w5 w6 w7 w8 h o hf; cases hf
  | succ m ih =>
    intro v0 v1 v2 v4 w5 w6 w7 w8 h o hf
    rw [f_X7_worst_18] at hf
    refine rs_iload i_X7_worst_18 rfl ?_
    refine rs_aload_n i_X7_worst_20 rfl ?_
    obtain ⟨c1, hf⟩ := ite_some hf
    refine rs_getI i_X7_worst_21 (by decide) (by decide) c1 ?_
    by_cases c2 : (gI h v0 12) ≤ v4
    · replace hf := (if_pos c2).symm.trans hf
      refine rs_icT i_X7_worst_24 (ct_ge c2) (tg := 88) (by decide) ?_
      refine rs_iload_n i_X7_worst_88 rfl ?_
      have hf := Option.some.inj hf
      subst hf
      exact rs_iret i_X7_worst_89 m_X7_worst rfl
    · replace hf := (if_neg c2).symm.trans hf
      refine rs_icF i_X7_worst_24 (cf_ge c2) ?_
      refine rs_iload i_X7_worst_27 rfl ?_
      refine rs_bipush i_X7_worst_29 (v := 12) (by decide) ?_
      by_cases c3 : 12 ≤ v4
      · replace hf := (if_pos c3).symm.trans hf
        refine rs_icT i_X7_worst_31 (ct_ge c3) (tg := 88) (by decide) ?_
        refine rs_iload_n i_X7_worst_88 rfl ?_
        have hf := Option.some.inj hf
        subst hf
        exact rs_iret i_X7_worst_89 m_X7_worst rfl
      · replace hf := (if_neg c3).symm.trans hf
        refine rs_icF i_X7_worst_31 (cf_ge c3) ?_
        refine rs_aload_n i_X7_worst_34 rfl ?_
        obtain ⟨a4, e4, hf⟩ := bind_some hf
        refine rs_getR i_X7_worst_35 (by decide) (by decide) c1 e4 ?_
        obtain ⟨c6, hf⟩ := ite_some hf
        obtain ⟨o5, e5, hf⟩ := bind_some hf
        refine rs_inV i_X7_worst_38 m_X3_goodParts rfl (As := []) (rest := []) rfl rfl (Nat.le_of_ble_eq_true rfl) c6 (c_X3_goodParts (by omega) e5) (st' := [.long o5.1]) rfl ?_
        refine rs_lstore i_X7_worst_41 (Nat.le_of_ble_eq_true rfl) (lv' := [some (.ref v0), some (.int v1), some (.long v2), none, some (.int v4), some (.long o5.1), none, w7, w8]) rfl ?_
        refine rs_aload_n i_X7_worst_43 rfl ?_
        obtain ⟨c7, hf⟩ := ite_some hf
        obtain ⟨a8, e8, hf⟩ := bind_some hf
        refine rs_getR i_X7_worst_44 (by decide) (by decide) c7 e8 ?_
        refine rs_aload_n i_X7_worst_47 rfl ?_
        obtain ⟨a9, e9, hf⟩ := bind_some hf
        refine rs_getR i_X7_worst_48 (by decide) (by decide) c7 e9 ?_
        refine rs_iload i_X7_worst_51 rfl ?_
        obtain ⟨c10, hf⟩ := ite_some hf
        obtain ⟨a11, e11, hf⟩ := bind_some hf
        refine rs_aald i_X7_worst_53 c10 e11 ?_
        obtain ⟨c13, hf⟩ := ite_some hf
        obtain ⟨o12, e12, hf⟩ := bind_some hf
        refine rs_inV i_X7_worst_54 m_X3_make rfl (As := [.ref a11]) (rest := []) rfl rfl (Nat.le_of_ble_eq_true rfl) c13 (c_X3_make (by omega) e12) (st' := []) rfl ?_
        refine rs_lload i_X7_worst_57 rfl ?_
        refine rs_aload_n i_X7_worst_59 rfl ?_
        obtain ⟨c14, hf⟩ := ite_some hf
        obtain ⟨a15, e15, hf⟩ := bind_some hf
        refine rs_getR i_X7_worst_60 (by decide) (by decide) c14 e15 ?_
        obtain ⟨c17, hf⟩ := ite_some hf
        obtain ⟨o16, e16, hf⟩ := bind_some hf
        refine rs_inV i_X7_worst_63 m_X3_goodParts rfl (As := []) (rest := [.long o5.1]) rfl rfl (Nat.le_of_ble_eq_true rfl) c17 (c_X3_goodParts (by omega) e16) (st' := [.long o16.1, .long o5.1]) rfl ?_
        refine rs_lsub i_X7_worst_66 ?_
        refine rs_lstore i_X7_worst_67 (Nat.le_of_ble_eq_true rfl) (lv' := [some (.ref v0), some (.int v1), some (.long v2), none, some (.int v4), some (.long o5.1), none, some (.long (o5.1 - o16.1)), none]) rfl ?_
        refine rs_lload i_X7_worst_69 rfl ?_
        refine rs_lload_n i_X7_worst_71 rfl ?_
        refine rs_lcmp i_X7_worst_72 ?_
        by_cases c18 : (o5.1 - o16.1) ≤ v2
        · replace hf := (if_pos c18).symm.trans hf
          refine rs_ifT i_X7_worst_73 (by rw [lc_le]; exact decide_eq_true c18) (tg := 82) (by decide) ?_
          exact r_X7_worst_82 hd ih hf
        · replace hf := (if_neg c18).symm.trans hf
          refine rs_ifF i_X7_worst_73 (by rw [lc_le]; exact decide_eq_false c18) ?_
          refine rs_lload i_X7_worst_76 rfl ?_
          refine rs_lstore_n i_X7_worst_78 (Nat.le_of_ble_eq_true rfl) (lv' := [some (.ref v0), some (.int v1), some (.long (o5.1 - o16.1)), none, some (.int v4), some (.long o5.1), none, some (.long (o5.1 - o16.1)), none]) rfl ?_
          refine rs_iload i_X7_worst_79 rfl ?_
          refine rs_istore_n i_X7_worst_81 (Nat.le_of_ble_eq_true rfl) (lv' := [some (.ref v0), some (.int v4), some (.long (o5.1 - o16.1)), none, some (.int v4), some (.long o5.1), none, some (.long (o5.1 - o16.1)), none]) rfl ?_
          exact r_X7_worst_82 hd ih hf
def f_X7_worst_0 (n : Nat) (v0 : Nat) (h : Hp) : Option (Int32 × Hp) :=
  if okO h v0 7 then
  (gR h v0 0).bind fun a2 =>
  (f_X7_make n v0 a2 0 (-1) (-1) h).bind fun o3 =>
  f_X7_worst_18 n n v0 (-1) 0 0 o3
  else none
set_option maxRecDepth 100000 in
set_option maxHeartbeats 4000000 in
theorem r_X7_worst_0 {X : Nat → Int32} {d : Nat} (hd : 7 ≤ (d + 1)) {n : Nat} {v0 : Nat} {h : Hp} {o : (Int32 × Hp)} (hf : f_X7_worst_0 n v0 h = some o) : Run X (d + 1) 80 0 [some (.ref v0), none, none, none, none, none, none, none, none] [] h (some (.int o.1), o.2) := by
  unfold f_X7_worst_0 at hf
  refine rs_aload_n i_X7_worst_0 rfl ?_
  refine rs_aload_n i_X7_worst_1 rfl ?_
  obtain ⟨c1, hf⟩ := ite_some hf
  obtain ⟨a2, e2, hf⟩ := bind_some hf
  refine rs_getR i_X7_worst_2 (by decide) (by decide) c1 e2 ?_
  refine rs_iconst i_X7_worst_5 (v := 0) (by decide) ?_
  refine rs_iconst i_X7_worst_6 (v := (-1)) (by decide) ?_
  refine rs_iconst i_X7_worst_7 (v := (-1)) (by decide) ?_
  obtain ⟨o3, e3, hf⟩ := bind_some hf
  refine rs_inV i_X7_worst_8 m_X7_make rfl (As := [.ref a2, .int 0, .int (-1), .int (-1)]) (rest := []) rfl rfl (Nat.le_of_ble_eq_true rfl) c1 (c_X7_make (by omega) e3) (st' := []) rfl ?_
  refine rs_iconst i_X7_worst_11 (v := (-1)) (by decide) ?_
  refine rs_istore_n i_X7_worst_12 (Nat.le_of_ble_eq_true rfl) (lv' := [some (.ref v0), some (.int (-1)), none, none, none, none, none, none, none]) rfl ?_
  refine rs_lconst i_X7_worst_13 (v := 0) (by decide) ?_
  refine rs_lstore_n i_X7_worst_14 (Nat.le_of_ble_eq_true rfl) (lv' := [some (.ref v0), some (.int (-1)), some (.long 0), none, none, none, none, none, none]) rfl ?_
  refine rs_iconst i_X7_worst_15 (v := 0) (by decide) ?_
  refine rs_istore i_X7_worst_16 (Nat.le_of_ble_eq_true rfl) (lv' := [some (.ref v0), some (.int (-1)), some (.long 0), none, some (.int 0), none, none, none, none]) rfl ?_
  exact r_X7_worst_18 hd _ _ _ _ _ _ _ _ _ _ _ hf
def f_X7_worst (n : Nat) (v0 : Nat) (h : Hp) : Option (Int32 × Hp) := f_X7_worst_0 n v0 h
theorem c_X7_worst {X : Nat → Int32} {d : Nat} (hd : 7 ≤ d) {n : Nat} {v0 : Nat} {h : Hp} {o : (Int32 × Hp)} (hf : f_X7_worst n v0 h = some o) : Calls X d 80 [.ref v0] h (some (.int o.1), o.2) := by
  obtain ⟨d, rfl⟩ : ∃ z, d = z + 1 := ⟨d - 1, by omega⟩
  exact ⟨_, rfl, r_X7_worst_0 hd hf⟩
theorem i_X7_tryDrawing_0 : fetch 119 0 = some (.aload_n 0, 1, 0, 0, 0, 0) := by decide +kernel
theorem i_X7_tryDrawing_1 : fetch 119 1 = some (.getfield 86, 4, 7, 8, 0, 491) := by decide +kernel
theorem i_X7_tryDrawing_4 : fetch 119 4 = some (.aload_n 0, 5, 0, 0, 0, 0) := by decide +kernel
theorem i_X7_tryDrawing_5 : fetch 119 5 = some (.getfield 82, 8, 7, 7, 0, 490) := by decide +kernel
theorem i_X7_tryDrawing_8 : fetch 119 8 = some (.invokevirtual 222, 11, 29, 0, 0, 754) := by decide +kernel
theorem i_X7_tryDrawing_11 : fetch 119 11 = some (.aload_n 0, 12, 0, 0, 0, 0) := by decide +kernel
theorem i_X7_tryDrawing_12 : fetch 119 12 = some (.getfield 86, 15, 7, 8, 0, 491) := by decide +kernel
theorem i_X7_tryDrawing_15 : fetch 119 15 = some (.aload_n 0, 16, 0, 0, 0, 0) := by decide +kernel
theorem i_X7_tryDrawing_16 : fetch 119 16 = some (.getfield 86, 19, 7, 8, 0, 491) := by decide +kernel
theorem i_X7_tryDrawing_19 : fetch 119 19 = some (.iload_n 1, 20, 0, 0, 0, 0) := by decide +kernel
theorem i_X7_tryDrawing_20 : fetch 119 20 = some (.invokevirtual 228, 23, 45, 0, 0, 758) := by decide +kernel
theorem i_X7_tryDrawing_23 : fetch 119 23 = some (.iload_n 2, 24, 0, 0, 0, 0) := by decide +kernel
theorem i_X7_tryDrawing_24 : fetch 119 24 = some (.invokevirtual 232, 27, 32, 0, 0, 759) := by decide +kernel
theorem i_X7_tryDrawing_27 : fetch 119 27 = some (.return_, 28, 0, 0, 0, 0) := by decide +kernel
def f_X7_tryDrawing_0 (n : Nat) (v0 : Nat) (v1 : Int32) (v2 : Int32) (h : Hp) : Option Hp :=
  if okO h v0 7 then
  (gR h v0 8).bind fun a2 =>
  (gR h v0 7).bind fun a3 =>
  if okO h a2 3 then
  (f_X3_become a2 a3 h).bind fun o4 =>
  if okO o4 v0 7 then
  (gR o4 v0 8).bind fun a7 =>
  if okO o4 a7 3 then
  (f_X3_tenths n a7 v1 o4).bind fun o8 =>
  if okO o8.2 a7 3 then
  (f_X3_draw n a7 o8.1 v2 o8.2).bind fun o10 =>
  some o10
  else none
  else none
  else none
  else none
  else none
set_option maxRecDepth 100000 in
set_option maxHeartbeats 4000000 in
theorem r_X7_tryDrawing_0 {X : Nat → Int32} {d : Nat} (hd : 5 ≤ (d + 1)) {n : Nat} {v0 : Nat} {v1 : Int32} {v2 : Int32} {h : Hp} {o : Hp} (hf : f_X7_tryDrawing_0 n v0 v1 v2 h = some o) : Run X (d + 1) 119 0 [some (.ref v0), some (.int v1), some (.int v2)] [] h (none, o) := by
  unfold f_X7_tryDrawing_0 at hf
  refine rs_aload_n i_X7_tryDrawing_0 rfl ?_
  obtain ⟨c1, hf⟩ := ite_some hf
  obtain ⟨a2, e2, hf⟩ := bind_some hf
  refine rs_getR i_X7_tryDrawing_1 (by decide) (by decide) c1 e2 ?_
  refine rs_aload_n i_X7_tryDrawing_4 rfl ?_
  obtain ⟨a3, e3, hf⟩ := bind_some hf
  refine rs_getR i_X7_tryDrawing_5 (by decide) (by decide) c1 e3 ?_
  obtain ⟨c5, hf⟩ := ite_some hf
  obtain ⟨o4, e4, hf⟩ := bind_some hf
  refine rs_inV i_X7_tryDrawing_8 m_X3_become rfl (As := [.ref a3]) (rest := []) rfl rfl (Nat.le_of_ble_eq_true rfl) c5 (c_X3_become (by omega) e4) (st' := []) rfl ?_
  refine rs_aload_n i_X7_tryDrawing_11 rfl ?_
  obtain ⟨c6, hf⟩ := ite_some hf
  obtain ⟨a7, e7, hf⟩ := bind_some hf
  refine rs_getR i_X7_tryDrawing_12 (by decide) (by decide) c6 e7 ?_
  refine rs_aload_n i_X7_tryDrawing_15 rfl ?_
  refine rs_getR i_X7_tryDrawing_16 (by decide) (by decide) c6 e7 ?_
  refine rs_iload_n i_X7_tryDrawing_19 rfl ?_
  obtain ⟨c9, hf⟩ := ite_some hf
  obtain ⟨o8, e8, hf⟩ := bind_some hf
  refine rs_inV i_X7_tryDrawing_20 m_X3_tenths rfl (As := [.int v1]) (rest := [.ref a7]) rfl rfl (Nat.le_of_ble_eq_true rfl) c9 (c_X3_tenths (by omega) e8) (st' := [.long o8.1, .ref a7]) rfl ?_
  refine rs_iload_n i_X7_tryDrawing_23 rfl ?_
  obtain ⟨c11, hf⟩ := ite_some hf
  obtain ⟨o10, e10, hf⟩ := bind_some hf
  refine rs_inV i_X7_tryDrawing_24 m_X3_draw rfl (As := [.long o8.1, .int v2]) (rest := []) rfl rfl (Nat.le_of_ble_eq_true rfl) c11 (c_X3_draw (by omega) e10) (st' := []) rfl ?_
  have hf := Option.some.inj hf
  subst hf
  exact rs_vret i_X7_tryDrawing_27 m_X7_tryDrawing rfl
def f_X7_tryDrawing (n : Nat) (v0 : Nat) (v1 : Int32) (v2 : Int32) (h : Hp) : Option Hp := f_X7_tryDrawing_0 n v0 v1 v2 h
theorem c_X7_tryDrawing {X : Nat → Int32} {d : Nat} (hd : 5 ≤ d) {n : Nat} {v0 : Nat} {v1 : Int32} {v2 : Int32} {h : Hp} {o : Hp} (hf : f_X7_tryDrawing n v0 v1 v2 h = some o) : Calls X d 119 [.ref v0, .int v1, .int v2] h (none, o) := by
  obtain ⟨d, rfl⟩ : ∃ z, d = z + 1 := ⟨d - 1, by omega⟩
  exact ⟨_, rfl, r_X7_tryDrawing_0 hd hf⟩
theorem i_X7_window_0 : fetch 81 0 = some (.aload_n 0, 1, 0, 0, 0, 0) := by decide +kernel
theorem i_X7_window_1 : fetch 81 1 = some (.iload_n 1, 2, 0, 0, 0, 0) := by decide +kernel
theorem i_X7_window_2 : fetch 81 2 = some (.invokevirtual 151, 5, 113, 0, 0, 584) := by decide +kernel
theorem i_X7_window_5 : fetch 81 5 = some (.ifCond .ne 6, 8, 0, 0, 0, 0) := by decide +kernel
theorem i_X7_window_8 : fetch 81 8 = some (.bipush (-5), 10, 0, 0, 0, 0) := by decide +kernel
theorem i_X7_window_10 : fetch 81 10 = some (.ireturn, 11, 0, 0, 0, 0) := by decide +kernel
theorem i_X7_window_11 : fetch 81 11 = some (.iload_n 2, 12, 0, 0, 0, 0) := by decide +kernel
theorem i_X7_window_12 : fetch 81 12 = some (.iconst 0, 13, 0, 0, 0, 0) := by decide +kernel
theorem i_X7_window_13 : fetch 81 13 = some (.bipush 9, 15, 0, 0, 0, 0) := by decide +kernel
theorem i_X7_window_15 : fetch 81 15 = some (.invokestatic 112, 18, 110, 0, 0, 534) := by decide +kernel
theorem i_X7_window_18 : fetch 81 18 = some (.ifCond .ne 6, 21, 0, 0, 0, 0) := by decide +kernel
theorem i_X7_window_21 : fetch 81 21 = some (.bipush (-7), 23, 0, 0, 0, 0) := by decide +kernel
theorem i_X7_window_23 : fetch 81 23 = some (.ireturn, 24, 0, 0, 0, 0) := by decide +kernel
theorem i_X7_window_24 : fetch 81 24 = some (.aload_n 0, 25, 0, 0, 0, 0) := by decide +kernel
theorem i_X7_window_25 : fetch 81 25 = some (.aload_n 0, 26, 0, 0, 0, 0) := by decide +kernel
theorem i_X7_window_26 : fetch 81 26 = some (.getfield 10, 29, 7, 0, 0, 483) := by decide +kernel
theorem i_X7_window_29 : fetch 81 29 = some (.iload_n 1, 30, 0, 0, 0, 0) := by decide +kernel
theorem i_X7_window_30 : fetch 81 30 = some (.iconst (-1), 31, 0, 0, 0, 0) := by decide +kernel
theorem i_X7_window_31 : fetch 81 31 = some (.iconst (-1), 32, 0, 0, 0, 0) := by decide +kernel
theorem i_X7_window_32 : fetch 81 32 = some (.invokevirtual 154, 35, 118, 0, 0, 588) := by decide +kernel
theorem i_X7_window_35 : fetch 81 35 = some (.iconst 0, 36, 0, 0, 0, 0) := by decide +kernel
theorem i_X7_window_36 : fetch 81 36 = some (.istore_n 3, 37, 0, 0, 0, 0) := by decide +kernel
theorem i_X7_window_37 : fetch 81 37 = some (.iconst 1, 38, 0, 0, 0, 0) := by decide +kernel
theorem i_X7_window_38 : fetch 81 38 = some (.istore 4, 40, 0, 0, 0, 0) := by decide +kernel
theorem i_X7_window_40 : fetch 81 40 = some (.iload 4, 42, 0, 0, 0, 0) := by decide +kernel
theorem i_X7_window_42 : fetch 81 42 = some (.bipush 9, 44, 0, 0, 0, 0) := by decide +kernel
theorem i_X7_window_44 : fetch 81 44 = some (.if_icmp .gt 37, 47, 0, 0, 0, 0) := by decide +kernel
theorem i_X7_window_47 : fetch 81 47 = some (.aload_n 0, 48, 0, 0, 0, 0) := by decide +kernel
theorem i_X7_window_48 : fetch 81 48 = some (.iload_n 2, 49, 0, 0, 0, 0) := by decide +kernel
theorem i_X7_window_49 : fetch 81 49 = some (.iload 4, 51, 0, 0, 0, 0) := by decide +kernel
theorem i_X7_window_51 : fetch 81 51 = some (.invokevirtual 214, 54, 119, 0, 0, 750) := by decide +kernel
theorem i_X7_window_54 : fetch 81 54 = some (.aload_n 0, 55, 0, 0, 0, 0) := by decide +kernel
theorem i_X7_window_55 : fetch 81 55 = some (.getfield 86, 58, 7, 8, 0, 491) := by decide +kernel
theorem i_X7_window_58 : fetch 81 58 = some (.aload_n 0, 59, 0, 0, 0, 0) := by decide +kernel
theorem i_X7_window_59 : fetch 81 59 = some (.getfield 82, 62, 7, 7, 0, 490) := by decide +kernel
theorem i_X7_window_62 : fetch 81 62 = some (.invokevirtual 218, 65, 43, 0, 0, 760) := by decide +kernel
theorem i_X7_window_65 : fetch 81 65 = some (.ifCond .eq 10, 68, 0, 0, 0, 0) := by decide +kernel
theorem i_X7_window_68 : fetch 81 68 = some (.iload_n 3, 69, 0, 0, 0, 0) := by decide +kernel
theorem i_X7_window_69 : fetch 81 69 = some (.iconst 1, 70, 0, 0, 0, 0) := by decide +kernel
theorem i_X7_window_70 : fetch 81 70 = some (.iload 4, 72, 0, 0, 0, 0) := by decide +kernel
theorem i_X7_window_72 : fetch 81 72 = some (.ishl, 73, 0, 0, 0, 0) := by decide +kernel
theorem i_X7_window_73 : fetch 81 73 = some (.ior, 74, 0, 0, 0, 0) := by decide +kernel
theorem i_X7_window_74 : fetch 81 74 = some (.istore_n 3, 75, 0, 0, 0, 0) := by decide +kernel
theorem i_X7_window_75 : fetch 81 75 = some (.iinc 4 1, 78, 0, 0, 0, 0) := by decide +kernel
theorem i_X7_window_78 : fetch 81 78 = some (.goto (-38), 81, 0, 0, 0, 0) := by decide +kernel
theorem i_X7_window_81 : fetch 81 81 = some (.iload_n 3, 82, 0, 0, 0, 0) := by decide +kernel
theorem i_X7_window_82 : fetch 81 82 = some (.ireturn, 83, 0, 0, 0, 0) := by decide +kernel
def f_X7_window_75 (n : Nat) (K40 : Nat → Int32 → Int32 → Int32 → Hp → Option (Int32 × Hp)) (v0 : Nat) (v2 : Int32) (v3 : Int32) (v4 : Int32) (h : Hp) : Option (Int32 × Hp) :=
  K40 v0 v2 v3 (v4 + 1) h
set_option maxRecDepth 100000 in
set_option maxHeartbeats 4000000 in
theorem r_X7_window_75 {X : Nat → Int32} {d : Nat} (hd : 7 ≤ (d + 1)) {n : Nat} {K40 : Nat → Int32 → Int32 → Int32 → Hp → Option (Int32 × Hp)} (HK40 : ∀ (v0 : Nat) (v2 : Int32) (v3 : Int32) (v4 : Int32) (d1 : Int32) (h : Hp) (o : (Int32 × Hp)), K40 v0 v2 v3 v4 h = some o → Run X (d + 1) 81 40 [some (.ref v0), some (.int d1), some (.int v2), some (.int v3), some (.int v4)] [] h (some (.int o.1), o.2)) {v0 : Nat} {v2 : Int32} {v3 : Int32} {v4 : Int32} {d1 : Int32} {h : Hp} {o : (Int32 × Hp)} (hf : f_X7_window_75 n K40 v0 v2 v3 v4 h = some o) : Run X (d + 1) 81 75 [some (.ref v0), some (.int d1), some (.int v2), some (.int v3), some (.int v4)] [] h (some (.int o.1), o.2) := by
  unfold f_X7_window_75 at hf
  refine rs_iinc i_X7_window_75 rfl (v := v4 + 1) rfl (Nat.le_of_ble_eq_true rfl) (lv' := [some (.ref v0), some (.int d1), some (.int v2), some (.int v3), some (.int (v4 + 1))]) rfl ?_
  refine rs_goto i_X7_window_78 (tg := 40) (by decide) ?_
  exact HK40 _ _ _ _ _ _ _ hf
def f_X7_window_40 (n : Nat) : Nat → Nat → Int32 → Int32 → Int32 → Hp → Option (Int32 × Hp)
  | 0, _, _, _, _, _ => none
  | m + 1, v0, v2, v3, v4, h =>
    if 9 < v4 then
      some (v3, h)
    else
      if okO h v0 7 then
      (f_X7_tryDrawing n v0 v2 v4 h).bind fun o2 =>
      if okO o2 v0 7 then
      (gR o2 v0 8).bind fun a5 =>
      (gR o2 v0 7).bind fun a6 =>
      if okO o2 a5 3 then
      (f_X3_isMoreEvenThan n a5 a6 o2).bind fun o7 =>
      if o7.1 = 0 then
        f_X7_window_75 n (f_X7_window_40 n m) v0 v2 v3 v4 o7.2
      else
        f_X7_window_75 n (f_X7_window_40 n m) v0 v2 (v3 ||| (1 <<< (v4 &&& 31))) v4 o7.2
      else none
      else none
      else none
set_option maxRecDepth 100000 in
set_option maxHeartbeats 4000000 in
theorem r_X7_window_40 {X : Nat → Int32} {d : Nat} (hd : 7 ≤ (d + 1)) {n : Nat} : ∀ (m : Nat) (v0 : Nat) (v2 : Int32) (v3 : Int32) (v4 : Int32) (d1 : Int32) (h : Hp) (o : (Int32 × Hp)), f_X7_window_40 n m v0 v2 v3 v4 h = some o → Run X (d + 1) 81 40 [some (.ref v0), some (.int d1), some (.int v2), some (.int v3), some (.int v4)] [] h (some (.int o.1), o.2) := by
  intro m
  induction m with
  | zero => intro v0 v2 v3 v4 d1 h o hf; cases hf
  | succ m ih =>
    intro v0 v2 v3 v4 d1 h o hf
    rw [f_X7_window_40] at hf
    refine rs_iload i_X7_window_40 rfl ?_
    refine rs_bipush i_X7_window_42 (v := 9) (by decide) ?_
    by_cases c1 : 9 < v4
    · replace hf := (if_pos c1).symm.trans hf
      refine rs_icT i_X7_window_44 (ct_gt c1) (tg := 81) (by decide) ?_
      refine rs_iload_n i_X7_window_81 rfl ?_
      have hf := Option.some.inj hf
      subst hf
      exact rs_iret i_X7_window_82 m_X7_window rfl
    · replace hf := (if_neg c1).symm.trans hf
      refine rs_icF i_X7_window_44 (cf_gt c1) ?_
      refine rs_aload_n i_X7_window_47 rfl ?_
      refine rs_iload_n i_X7_window_48 rfl ?_
      refine rs_iload i_X7_window_49 rfl ?_
      obtain ⟨c3, hf⟩ := ite_some hf
      obtain ⟨o2, e2, hf⟩ := bind_some hf
      refine rs_inV i_X7_window_51 m_X7_tryDrawing rfl (As := [.int v2, .int v4]) (rest := []) rfl rfl (Nat.le_of_ble_eq_true rfl) c3 (c_X7_tryDrawing (by omega) e2) (st' := []) rfl ?_
      refine rs_aload_n i_X7_window_54 rfl ?_
      obtain ⟨c4, hf⟩ := ite_some hf
      obtain ⟨a5, e5, hf⟩ := bind_some hf
      refine rs_getR i_X7_window_55 (by decide) (by decide) c4 e5 ?_
      refine rs_aload_n i_X7_window_58 rfl ?_
      obtain ⟨a6, e6, hf⟩ := bind_some hf
      refine rs_getR i_X7_window_59 (by decide) (by decide) c4 e6 ?_
      obtain ⟨c8, hf⟩ := ite_some hf
      obtain ⟨o7, e7, hf⟩ := bind_some hf
      refine rs_inV i_X7_window_62 m_X3_isMoreEvenThan rfl (As := [.ref a6]) (rest := []) rfl rfl (Nat.le_of_ble_eq_true rfl) c8 (c_X3_isMoreEvenThan (by omega) e7) (st' := [.int o7.1]) rfl ?_
      by_cases c9 : o7.1 = 0
      · replace hf := (if_pos c9).symm.trans hf
        refine rs_ifT i_X7_window_65 (ct_eq c9) (tg := 75) (by decide) ?_
        exact r_X7_window_75 hd ih hf
      · replace hf := (if_neg c9).symm.trans hf
        refine rs_ifF i_X7_window_65 (cf_eq c9) ?_
        refine rs_iload_n i_X7_window_68 rfl ?_
        refine rs_iconst i_X7_window_69 (v := 1) (by decide) ?_
        refine rs_iload i_X7_window_70 rfl ?_
        refine rs_ishl i_X7_window_72 ?_
        refine rs_ior i_X7_window_73 ?_
        refine rs_istore_n i_X7_window_74 (Nat.le_of_ble_eq_true rfl) (lv' := [some (.ref v0), some (.int d1), some (.int v2), some (.int (v3 ||| (1 <<< (v4 &&& 31)))), some (.int v4)]) rfl ?_
        exact r_X7_window_75 hd ih hf
def f_X7_window_0 (n : Nat) (v0 : Nat) (v1 : Int32) (v2 : Int32) (h : Hp) : Option (Int32 × Hp) :=
  if okO h v0 7 then
  (f_X7_areSteps v0 v1 h).bind fun o1 =>
  if o1.1 ≠ 0 then
    (f_X7_within v2 0 9 o1.2).bind fun o4 =>
    if o4.1 ≠ 0 then
      if okO o4.2 v0 7 then
      (gR o4.2 v0 0).bind fun a7 =>
      (f_X7_make n v0 a7 v1 (-1) (-1) o4.2).bind fun o8 =>
      f_X7_window_40 n n v0 v2 0 1 o8
      else none
    else
      some ((-7), o4.2)
  else
    some ((-5), o1.2)
  else none
set_option maxRecDepth 100000 in
set_option maxHeartbeats 4000000 in
theorem r_X7_window_0 {X : Nat → Int32} {d : Nat} (hd : 7 ≤ (d + 1)) {n : Nat} {v0 : Nat} {v1 : Int32} {v2 : Int32} {h : Hp} {o : (Int32 × Hp)} (hf : f_X7_window_0 n v0 v1 v2 h = some o) : Run X (d + 1) 81 0 [some (.ref v0), some (.int v1), some (.int v2), none, none] [] h (some (.int o.1), o.2) := by
  unfold f_X7_window_0 at hf
  refine rs_aload_n i_X7_window_0 rfl ?_
  refine rs_iload_n i_X7_window_1 rfl ?_
  obtain ⟨c2, hf⟩ := ite_some hf
  obtain ⟨o1, e1, hf⟩ := bind_some hf
  refine rs_inV i_X7_window_2 m_X7_areSteps rfl (As := [.int v1]) (rest := []) rfl rfl (Nat.le_of_ble_eq_true rfl) c2 (c_X7_areSteps (by omega) e1) (st' := [.int o1.1]) rfl ?_
  by_cases c3 : o1.1 ≠ 0
  · replace hf := (if_pos c3).symm.trans hf
    refine rs_ifT i_X7_window_5 (ct_ne c3) (tg := 11) (by decide) ?_
    refine rs_iload_n i_X7_window_11 rfl ?_
    refine rs_iconst i_X7_window_12 (v := 0) (by decide) ?_
    refine rs_bipush i_X7_window_13 (v := 9) (by decide) ?_
    obtain ⟨o4, e4, hf⟩ := bind_some hf
    refine rs_inS i_X7_window_15 (by decide) m_X7_within rfl (As := [.int v2, .int 0, .int 9]) (rest := []) rfl rfl (Nat.le_of_ble_eq_true rfl) (c_X7_within (by omega) e4) (st' := [.int o4.1]) rfl ?_
    by_cases c5 : o4.1 ≠ 0
    · replace hf := (if_pos c5).symm.trans hf
      refine rs_ifT i_X7_window_18 (ct_ne c5) (tg := 24) (by decide) ?_
      refine rs_aload_n i_X7_window_24 rfl ?_
      refine rs_aload_n i_X7_window_25 rfl ?_
      obtain ⟨c6, hf⟩ := ite_some hf
      obtain ⟨a7, e7, hf⟩ := bind_some hf
      refine rs_getR i_X7_window_26 (by decide) (by decide) c6 e7 ?_
      refine rs_iload_n i_X7_window_29 rfl ?_
      refine rs_iconst i_X7_window_30 (v := (-1)) (by decide) ?_
      refine rs_iconst i_X7_window_31 (v := (-1)) (by decide) ?_
      obtain ⟨o8, e8, hf⟩ := bind_some hf
      refine rs_inV i_X7_window_32 m_X7_make rfl (As := [.ref a7, .int v1, .int (-1), .int (-1)]) (rest := []) rfl rfl (Nat.le_of_ble_eq_true rfl) c6 (c_X7_make (by omega) e8) (st' := []) rfl ?_
      refine rs_iconst i_X7_window_35 (v := 0) (by decide) ?_
      refine rs_istore_n i_X7_window_36 (Nat.le_of_ble_eq_true rfl) (lv' := [some (.ref v0), some (.int v1), some (.int v2), some (.int 0), none]) rfl ?_
      refine rs_iconst i_X7_window_37 (v := 1) (by decide) ?_
      refine rs_istore i_X7_window_38 (Nat.le_of_ble_eq_true rfl) (lv' := [some (.ref v0), some (.int v1), some (.int v2), some (.int 0), some (.int 1)]) rfl ?_
      exact r_X7_window_40 hd _ _ _ _ _ _ _ _ hf
    · replace hf := (if_neg c5).symm.trans hf
      refine rs_ifF i_X7_window_18 (cf_ne c5) ?_
      refine rs_bipush i_X7_window_21 (v := (-7)) (by decide) ?_
      have hf := Option.some.inj hf
      subst hf
      exact rs_iret i_X7_window_23 m_X7_window rfl
  · replace hf := (if_neg c3).symm.trans hf
    refine rs_ifF i_X7_window_5 (cf_ne c3) ?_
    refine rs_bipush i_X7_window_8 (v := (-5)) (by decide) ?_
    have hf := Option.some.inj hf
    subst hf
    exact rs_iret i_X7_window_10 m_X7_window rfl
def f_X7_window (n : Nat) (v0 : Nat) (v1 : Int32) (v2 : Int32) (h : Hp) : Option (Int32 × Hp) := f_X7_window_0 n v0 v1 v2 h
theorem c_X7_window {X : Nat → Int32} {d : Nat} (hd : 7 ≤ d) {n : Nat} {v0 : Nat} {v1 : Int32} {v2 : Int32} {h : Hp} {o : (Int32 × Hp)} (hf : f_X7_window n v0 v1 v2 h = some o) : Calls X d 81 [.ref v0, .int v1, .int v2] h (some (.int o.1), o.2) := by
  obtain ⟨d, rfl⟩ : ∃ z, d = z + 1 := ⟨d - 1, by omega⟩
  exact ⟨_, rfl, r_X7_window_0 hd hf⟩
theorem i_X7_pace_0 : fetch 82 0 = some (.aload_n 0, 1, 0, 0, 0, 0) := by decide +kernel
theorem i_X7_pace_1 : fetch 82 1 = some (.iload_n 1, 2, 0, 0, 0, 0) := by decide +kernel
theorem i_X7_pace_2 : fetch 82 2 = some (.invokevirtual 151, 5, 113, 0, 0, 584) := by decide +kernel
theorem i_X7_pace_5 : fetch 82 5 = some (.ifCond .ne 6, 8, 0, 0, 0, 0) := by decide +kernel
theorem i_X7_pace_8 : fetch 82 8 = some (.bipush (-5), 10, 0, 0, 0, 0) := by decide +kernel
theorem i_X7_pace_10 : fetch 82 10 = some (.ireturn, 11, 0, 0, 0, 0) := by decide +kernel
theorem i_X7_pace_11 : fetch 82 11 = some (.iload_n 2, 12, 0, 0, 0, 0) := by decide +kernel
theorem i_X7_pace_12 : fetch 82 12 = some (.iconst 0, 13, 0, 0, 0, 0) := by decide +kernel
theorem i_X7_pace_13 : fetch 82 13 = some (.bipush 9, 15, 0, 0, 0, 0) := by decide +kernel
theorem i_X7_pace_15 : fetch 82 15 = some (.invokestatic 112, 18, 110, 0, 0, 534) := by decide +kernel
theorem i_X7_pace_18 : fetch 82 18 = some (.ifCond .eq 12, 21, 0, 0, 0, 0) := by decide +kernel
theorem i_X7_pace_21 : fetch 82 21 = some (.iload_n 3, 22, 0, 0, 0, 0) := by decide +kernel
theorem i_X7_pace_22 : fetch 82 22 = some (.iconst 0, 23, 0, 0, 0, 0) := by decide +kernel
theorem i_X7_pace_23 : fetch 82 23 = some (.iconst 1, 24, 0, 0, 0, 0) := by decide +kernel
theorem i_X7_pace_24 : fetch 82 24 = some (.invokestatic 112, 27, 110, 0, 0, 534) := by decide +kernel
theorem i_X7_pace_27 : fetch 82 27 = some (.ifCond .ne 6, 30, 0, 0, 0, 0) := by decide +kernel
theorem i_X7_pace_30 : fetch 82 30 = some (.bipush (-7), 32, 0, 0, 0, 0) := by decide +kernel
theorem i_X7_pace_32 : fetch 82 32 = some (.ireturn, 33, 0, 0, 0, 0) := by decide +kernel
theorem i_X7_pace_33 : fetch 82 33 = some (.aload_n 0, 34, 0, 0, 0, 0) := by decide +kernel
theorem i_X7_pace_34 : fetch 82 34 = some (.aload_n 0, 35, 0, 0, 0, 0) := by decide +kernel
theorem i_X7_pace_35 : fetch 82 35 = some (.getfield 10, 38, 7, 0, 0, 483) := by decide +kernel
theorem i_X7_pace_38 : fetch 82 38 = some (.iload_n 1, 39, 0, 0, 0, 0) := by decide +kernel
theorem i_X7_pace_39 : fetch 82 39 = some (.iconst (-1), 40, 0, 0, 0, 0) := by decide +kernel
theorem i_X7_pace_40 : fetch 82 40 = some (.iconst (-1), 41, 0, 0, 0, 0) := by decide +kernel
theorem i_X7_pace_41 : fetch 82 41 = some (.invokevirtual 154, 44, 118, 0, 0, 588) := by decide +kernel
theorem i_X7_pace_44 : fetch 82 44 = some (.iconst 1, 45, 0, 0, 0, 0) := by decide +kernel
theorem i_X7_pace_45 : fetch 82 45 = some (.istore 4, 47, 0, 0, 0, 0) := by decide +kernel
theorem i_X7_pace_47 : fetch 82 47 = some (.lconst 0, 48, 0, 0, 0, 0) := by decide +kernel
theorem i_X7_pace_48 : fetch 82 48 = some (.lstore 5, 50, 0, 0, 0, 0) := by decide +kernel
theorem i_X7_pace_50 : fetch 82 50 = some (.iconst 1, 51, 0, 0, 0, 0) := by decide +kernel
theorem i_X7_pace_51 : fetch 82 51 = some (.istore 7, 53, 0, 0, 0, 0) := by decide +kernel
theorem i_X7_pace_53 : fetch 82 53 = some (.iload 7, 55, 0, 0, 0, 0) := by decide +kernel
theorem i_X7_pace_55 : fetch 82 55 = some (.bipush 9, 57, 0, 0, 0, 0) := by decide +kernel
theorem i_X7_pace_57 : fetch 82 57 = some (.if_icmp .gt 63, 60, 0, 0, 0, 0) := by decide +kernel
theorem i_X7_pace_60 : fetch 82 60 = some (.aload_n 0, 61, 0, 0, 0, 0) := by decide +kernel
theorem i_X7_pace_61 : fetch 82 61 = some (.iload_n 2, 62, 0, 0, 0, 0) := by decide +kernel
theorem i_X7_pace_62 : fetch 82 62 = some (.iload 7, 64, 0, 0, 0, 0) := by decide +kernel
theorem i_X7_pace_64 : fetch 82 64 = some (.invokevirtual 214, 67, 119, 0, 0, 750) := by decide +kernel
theorem i_X7_pace_67 : fetch 82 67 = some (.iload_n 3, 68, 0, 0, 0, 0) := by decide +kernel
theorem i_X7_pace_68 : fetch 82 68 = some (.ifCond .ne 13, 71, 0, 0, 0, 0) := by decide +kernel
theorem i_X7_pace_71 : fetch 82 71 = some (.aload_n 0, 72, 0, 0, 0, 0) := by decide +kernel
theorem i_X7_pace_72 : fetch 82 72 = some (.getfield 86, 75, 7, 8, 0, 491) := by decide +kernel
theorem i_X7_pace_75 : fetch 82 75 = some (.getfield 197, 78, 3, 10, 0, 257) := by decide +kernel
theorem i_X7_pace_78 : fetch 82 78 = some (.goto 12, 81, 0, 0, 0, 0) := by decide +kernel
theorem i_X7_pace_81 : fetch 82 81 = some (.aload_n 0, 82, 0, 0, 0, 0) := by decide +kernel
theorem i_X7_pace_82 : fetch 82 82 = some (.getfield 86, 85, 7, 8, 0, 491) := by decide +kernel
theorem i_X7_pace_85 : fetch 82 85 = some (.invokevirtual 176, 88, 42, 0, 0, 716) := by decide +kernel
theorem i_X7_pace_88 : fetch 82 88 = some (.ineg, 89, 0, 0, 0, 0) := by decide +kernel
theorem i_X7_pace_89 : fetch 82 89 = some (.i2l, 90, 0, 0, 0, 0) := by decide +kernel
theorem i_X7_pace_90 : fetch 82 90 = some (.lstore 8, 92, 0, 0, 0, 0) := by decide +kernel
theorem i_X7_pace_92 : fetch 82 92 = some (.iload 7, 94, 0, 0, 0, 0) := by decide +kernel
theorem i_X7_pace_94 : fetch 82 94 = some (.iconst 1, 95, 0, 0, 0, 0) := by decide +kernel
theorem i_X7_pace_95 : fetch 82 95 = some (.if_icmp .eq 11, 98, 0, 0, 0, 0) := by decide +kernel
theorem i_X7_pace_98 : fetch 82 98 = some (.lload 8, 100, 0, 0, 0, 0) := by decide +kernel
theorem i_X7_pace_100 : fetch 82 100 = some (.lload 5, 102, 0, 0, 0, 0) := by decide +kernel
theorem i_X7_pace_102 : fetch 82 102 = some (.lcmp, 103, 0, 0, 0, 0) := by decide +kernel
theorem i_X7_pace_103 : fetch 82 103 = some (.ifCond .le 11, 106, 0, 0, 0, 0) := by decide +kernel
theorem i_X7_pace_106 : fetch 82 106 = some (.lload 8, 108, 0, 0, 0, 0) := by decide +kernel
theorem i_X7_pace_108 : fetch 82 108 = some (.lstore 5, 110, 0, 0, 0, 0) := by decide +kernel
theorem i_X7_pace_110 : fetch 82 110 = some (.iload 7, 112, 0, 0, 0, 0) := by decide +kernel
theorem i_X7_pace_112 : fetch 82 112 = some (.istore 4, 114, 0, 0, 0, 0) := by decide +kernel
theorem i_X7_pace_114 : fetch 82 114 = some (.iinc 7 1, 117, 0, 0, 0, 0) := by decide +kernel
theorem i_X7_pace_117 : fetch 82 117 = some (.goto (-64), 120, 0, 0, 0, 0) := by decide +kernel
theorem i_X7_pace_120 : fetch 82 120 = some (.iload 4, 122, 0, 0, 0, 0) := by decide +kernel
theorem i_X7_pace_122 : fetch 82 122 = some (.ireturn, 123, 0, 0, 0, 0) := by decide +kernel
def f_X7_pace_114 (n : Nat) (K53 : Nat → Int32 → Int32 → Int32 → Int64 → Int32 → Hp → Option (Int32 × Hp)) (v0 : Nat) (v2 : Int32) (v3 : Int32) (v4 : Int32) (v5 : Int64) (v7 : Int32) (h : Hp) : Option (Int32 × Hp) :=
  K53 v0 v2 v3 v4 v5 (v7 + 1) h
set_option maxRecDepth 100000 in
set_option maxHeartbeats 4000000 in
theorem r_X7_pace_114 {X : Nat → Int32} {d : Nat} (hd : 7 ≤ (d + 1)) {n : Nat} {K53 : Nat → Int32 → Int32 → Int32 → Int64 → Int32 → Hp → Option (Int32 × Hp)} (HK53 : ∀ (v0 : Nat) (v2 : Int32) (v3 : Int32) (v4 : Int32) (v5 : Int64) (v7 : Int32) (d1 : Int32) (w8 : Option Value) (w9 : Option Value) (h : Hp) (o : (Int32 × Hp)), K53 v0 v2 v3 v4 v5 v7 h = some o → Run X (d + 1) 82 53 [some (.ref v0), some (.int d1), some (.int v2), some (.int v3), some (.int v4), some (.long v5), none, some (.int v7), w8, w9] [] h (some (.int o.1), o.2)) {v0 : Nat} {v2 : Int32} {v3 : Int32} {v4 : Int32} {v5 : Int64} {v7 : Int32} {d1 : Int32} {d8 : Int64} {h : Hp} {o : (Int32 × Hp)} (hf : f_X7_pace_114 n K53 v0 v2 v3 v4 v5 v7 h = some o) : Run X (d + 1) 82 114 [some (.ref v0), some (.int d1), some (.int v2), some (.int v3), some (.int v4), some (.long v5), none, some (.int v7), some (.long d8), none] [] h (some (.int o.1), o.2) := by
  unfold f_X7_pace_114 at hf
  refine rs_iinc i_X7_pace_114 rfl (v := v7 + 1) rfl (Nat.le_of_ble_eq_true rfl) (lv' := [some (.ref v0), some (.int d1), some (.int v2), some (.int v3), some (.int v4), some (.long v5), none, some (.int (v7 + 1)), some (.long d8), none]) rfl ?_
  refine rs_goto i_X7_pace_117 (tg := 53) (by decide) ?_
  exact HK53 _ _ _ _ _ _ _ _ _ _ _ hf
def f_X7_pace_106 (n : Nat) (K53 : Nat → Int32 → Int32 → Int32 → Int64 → Int32 → Hp → Option (Int32 × Hp)) (v0 : Nat) (v2 : Int32) (v3 : Int32) (v7 : Int32) (v8 : Int64) (h : Hp) : Option (Int32 × Hp) :=
  f_X7_pace_114 n K53 v0 v2 v3 v7 v8 v7 h
set_option maxRecDepth 100000 in
set_option maxHeartbeats 4000000 in
theorem r_X7_pace_106 {X : Nat → Int32} {d : Nat} (hd : 7 ≤ (d + 1)) {n : Nat} {K53 : Nat → Int32 → Int32 → Int32 → Int64 → Int32 → Hp → Option (Int32 × Hp)} (HK53 : ∀ (v0 : Nat) (v2 : Int32) (v3 : Int32) (v4 : Int32) (v5 : Int64) (v7 : Int32) (d1 : Int32) (w8 : Option Value) (w9 : Option Value) (h : Hp) (o : (Int32 × Hp)), K53 v0 v2 v3 v4 v5 v7 h = some o → Run X (d + 1) 82 53 [some (.ref v0), some (.int d1), some (.int v2), some (.int v3), some (.int v4), some (.long v5), none, some (.int v7), w8, w9] [] h (some (.int o.1), o.2)) {v0 : Nat} {v2 : Int32} {v3 : Int32} {v7 : Int32} {v8 : Int64} {d1 : Int32} {d4 : Int32} {d5 : Int64} {h : Hp} {o : (Int32 × Hp)} (hf : f_X7_pace_106 n K53 v0 v2 v3 v7 v8 h = some o) : Run X (d + 1) 82 106 [some (.ref v0), some (.int d1), some (.int v2), some (.int v3), some (.int d4), some (.long d5), none, some (.int v7), some (.long v8), none] [] h (some (.int o.1), o.2) := by
  unfold f_X7_pace_106 at hf
  refine rs_lload i_X7_pace_106 rfl ?_
  refine rs_lstore i_X7_pace_108 (Nat.le_of_ble_eq_true rfl) (lv' := [some (.ref v0), some (.int d1), some (.int v2), some (.int v3), some (.int d4), some (.long v8), none, some (.int v7), some (.long v8), none]) rfl ?_
  refine rs_iload i_X7_pace_110 rfl ?_
  refine rs_istore i_X7_pace_112 (Nat.le_of_ble_eq_true rfl) (lv' := [some (.ref v0), some (.int d1), some (.int v2), some (.int v3), some (.int v7), some (.long v8), none, some (.int v7), some (.long v8), none]) rfl ?_
  exact r_X7_pace_114 hd HK53 hf
def f_X7_pace_90 (n : Nat) (K53 : Nat → Int32 → Int32 → Int32 → Int64 → Int32 → Hp → Option (Int32 × Hp)) (v0 : Nat) (v2 : Int32) (v3 : Int32) (v4 : Int32) (v5 : Int64) (v7 : Int32) (s0 : Int64) (h : Hp) : Option (Int32 × Hp) :=
  if v7 = 1 then
    f_X7_pace_106 n K53 v0 v2 v3 v7 s0 h
  else
    if s0 ≤ v5 then
      f_X7_pace_114 n K53 v0 v2 v3 v4 v5 v7 h
    else
      f_X7_pace_106 n K53 v0 v2 v3 v7 s0 h
set_option maxRecDepth 100000 in
set_option maxHeartbeats 4000000 in
theorem r_X7_pace_90 {X : Nat → Int32} {d : Nat} (hd : 7 ≤ (d + 1)) {n : Nat} {K53 : Nat → Int32 → Int32 → Int32 → Int64 → Int32 → Hp → Option (Int32 × Hp)} (HK53 : ∀ (v0 : Nat) (v2 : Int32) (v3 : Int32) (v4 : Int32) (v5 : Int64) (v7 : Int32) (d1 : Int32) (w8 : Option Value) (w9 : Option Value) (h : Hp) (o : (Int32 × Hp)), K53 v0 v2 v3 v4 v5 v7 h = some o → Run X (d + 1) 82 53 [some (.ref v0), some (.int d1), some (.int v2), some (.int v3), some (.int v4), some (.long v5), none, some (.int v7), w8, w9] [] h (some (.int o.1), o.2)) {v0 : Nat} {v2 : Int32} {v3 : Int32} {v4 : Int32} {v5 : Int64} {v7 : Int32} {s0 : Int64} {d1 : Int32} {w8 : Option Value} {w9 : Option Value} {h : Hp} {o : (Int32 × Hp)} (hf : f_X7_pace_90 n K53 v0 v2 v3 v4 v5 v7 s0 h = some o) : Run X (d + 1) 82 90 [some (.ref v0), some (.int d1), some (.int v2), some (.int v3), some (.int v4), some (.long v5), none, some (.int v7), w8, w9] [.long s0] h (some (.int o.1), o.2) := by
  unfold f_X7_pace_90 at hf
  refine rs_lstore i_X7_pace_90 (Nat.le_of_ble_eq_true rfl) (lv' := [some (.ref v0), some (.int d1), some (.int v2), some (.int v3), some (.int v4), some (.long v5), none, some (.int v7), some (.long s0), none]) rfl ?_
  refine rs_iload i_X7_pace_92 rfl ?_
  refine rs_iconst i_X7_pace_94 (v := 1) (by decide) ?_
  by_cases c1 : v7 = 1
  · replace hf := (if_pos c1).symm.trans hf
    refine rs_icT i_X7_pace_95 (ct_eq c1) (tg := 106) (by decide) ?_
    exact r_X7_pace_106 hd HK53 hf
  · replace hf := (if_neg c1).symm.trans hf
    refine rs_icF i_X7_pace_95 (cf_eq c1) ?_
    refine rs_lload i_X7_pace_98 rfl ?_
    refine rs_lload i_X7_pace_100 rfl ?_
    refine rs_lcmp i_X7_pace_102 ?_
    by_cases c2 : s0 ≤ v5
    · replace hf := (if_pos c2).symm.trans hf
      refine rs_ifT i_X7_pace_103 (by rw [lc_le]; exact decide_eq_true c2) (tg := 114) (by decide) ?_
      exact r_X7_pace_114 hd HK53 hf
    · replace hf := (if_neg c2).symm.trans hf
      refine rs_ifF i_X7_pace_103 (by rw [lc_le]; exact decide_eq_false c2) ?_
      exact r_X7_pace_106 hd HK53 hf
def f_X7_pace_53 (n : Nat) : Nat → Nat → Int32 → Int32 → Int32 → Int64 → Int32 → Hp → Option (Int32 × Hp)
  | 0, _, _, _, _, _, _, _ => none
  | m + 1, v0, v2, v3, v4, v5, v7, h =>
    if 9 < v7 then
      some (v4, h)
    else
      if okO h v0 7 then
      (f_X7_tryDrawing n v0 v2 v7 h).bind fun o2 =>
      if v3 ≠ 0 then
        if okO o2 v0 7 then
        (gR o2 v0 8).bind fun a6 =>
        if okO o2 a6 3 then
        (f_X3_spread n a6 o2).bind fun o7 =>
        f_X7_pace_90 n (f_X7_pace_53 n m) v0 v2 v3 v4 v5 v7 (Int32.toInt64 (-o7.1)) o7.2
        else none
        else none
      else
        if okO o2 v0 7 then
        (gR o2 v0 8).bind fun a10 =>
        if okO o2 a10 3 then
        f_X7_pace_90 n (f_X7_pace_53 n m) v0 v2 v3 v4 v5 v7 (gL' o2 a10 10) o2
        else none
        else none
      else none
set_option maxRecDepth 100000 in
set_option maxHeartbeats 4000000 in
theorem r_X7_pace_53 {X : Nat → Int32} {d : Nat} (hd : 7 ≤ (d + 1)) {n : Nat} : ∀ (m : Nat) (v0 : Nat) (v2 : Int32) (v3 : Int32) (v4 : Int32) (v5 : Int64) (v7 : Int32) (d1 : Int32) (w8 : Option Value) (w9 : Option Value) (h : Hp) (o : (Int32 × Hp)), f_X7_pace_53 n m v0 v2 v3 v4 v5 v7 h = some o → Run X (d + 1) 82 53 [some (.ref v0), some (.int d1), some (.int v2), some (.int v3), some (.int v4), some (.long v5), none, some (.int v7), w8, w9] [] h (some (.int o.1), o.2) := by
  intro m
  induction m with
  | zero => intro v0 v2 v3 v4 v5 v7 d1 w8 w9 h o hf; cases hf
  | succ m ih =>
    intro v0 v2 v3 v4 v5 v7 d1 w8 w9 h o hf
    rw [f_X7_pace_53] at hf
    refine rs_iload i_X7_pace_53 rfl ?_
    refine rs_bipush i_X7_pace_55 (v := 9) (by decide) ?_
    by_cases c1 : 9 < v7
    · replace hf := (if_pos c1).symm.trans hf
      refine rs_icT i_X7_pace_57 (ct_gt c1) (tg := 120) (by decide) ?_
      refine rs_iload i_X7_pace_120 rfl ?_
      have hf := Option.some.inj hf
      subst hf
      exact rs_iret i_X7_pace_122 m_X7_pace rfl
    · replace hf := (if_neg c1).symm.trans hf
      refine rs_icF i_X7_pace_57 (cf_gt c1) ?_
      refine rs_aload_n i_X7_pace_60 rfl ?_
      refine rs_iload_n i_X7_pace_61 rfl ?_
      refine rs_iload i_X7_pace_62 rfl ?_
      obtain ⟨c3, hf⟩ := ite_some hf
      obtain ⟨o2, e2, hf⟩ := bind_some hf
      refine rs_inV i_X7_pace_64 m_X7_tryDrawing rfl (As := [.int v2, .int v7]) (rest := []) rfl rfl (Nat.le_of_ble_eq_true rfl) c3 (c_X7_tryDrawing (by omega) e2) (st' := []) rfl ?_
      refine rs_iload_n i_X7_pace_67 rfl ?_
      by_cases c4 : v3 ≠ 0
      · replace hf := (if_pos c4).symm.trans hf
        refine rs_ifT i_X7_pace_68 (ct_ne c4) (tg := 81) (by decide) ?_
        refine rs_aload_n i_X7_pace_81 rfl ?_
        obtain ⟨c5, hf⟩ := ite_some hf
        obtain ⟨a6, e6, hf⟩ := bind_some hf
        refine rs_getR i_X7_pace_82 (by decide) (by decide) c5 e6 ?_
        obtain ⟨c8, hf⟩ := ite_some hf
        obtain ⟨o7, e7, hf⟩ := bind_some hf
        refine rs_inV i_X7_pace_85 m_X3_spread rfl (As := []) (rest := []) rfl rfl (Nat.le_of_ble_eq_true rfl) c8 (c_X3_spread (by omega) e7) (st' := [.int o7.1]) rfl ?_
        refine rs_ineg i_X7_pace_88 ?_
        refine rs_i2l i_X7_pace_89 ?_
        exact r_X7_pace_90 hd ih hf
      · replace hf := (if_neg c4).symm.trans hf
        refine rs_ifF i_X7_pace_68 (cf_ne c4) ?_
        refine rs_aload_n i_X7_pace_71 rfl ?_
        obtain ⟨c9, hf⟩ := ite_some hf
        obtain ⟨a10, e10, hf⟩ := bind_some hf
        refine rs_getR i_X7_pace_72 (by decide) (by decide) c9 e10 ?_
        obtain ⟨c11, hf⟩ := ite_some hf
        refine rs_getL i_X7_pace_75 (by decide) (by decide) c11 ?_
        refine rs_goto i_X7_pace_78 (tg := 90) (by decide) ?_
        exact r_X7_pace_90 hd ih hf
def f_X7_pace_0 (n : Nat) (v0 : Nat) (v1 : Int32) (v2 : Int32) (v3 : Int32) (h : Hp) : Option (Int32 × Hp) :=
  if okO h v0 7 then
  (f_X7_areSteps v0 v1 h).bind fun o1 =>
  if o1.1 ≠ 0 then
    (f_X7_within v2 0 9 o1.2).bind fun o4 =>
    if o4.1 = 0 then
      some ((-7), o4.2)
    else
      (f_X7_within v3 0 1 o4.2).bind fun o6 =>
      if o6.1 ≠ 0 then
        if okO o6.2 v0 7 then
        (gR o6.2 v0 0).bind fun a9 =>
        (f_X7_make n v0 a9 v1 (-1) (-1) o6.2).bind fun o10 =>
        f_X7_pace_53 n n v0 v2 v3 1 0 1 o10
        else none
      else
        some ((-7), o6.2)
  else
    some ((-5), o1.2)
  else none
set_option maxRecDepth 100000 in
set_option maxHeartbeats 4000000 in
theorem r_X7_pace_0 {X : Nat → Int32} {d : Nat} (hd : 7 ≤ (d + 1)) {n : Nat} {v0 : Nat} {v1 : Int32} {v2 : Int32} {v3 : Int32} {h : Hp} {o : (Int32 × Hp)} (hf : f_X7_pace_0 n v0 v1 v2 v3 h = some o) : Run X (d + 1) 82 0 [some (.ref v0), some (.int v1), some (.int v2), some (.int v3), none, none, none, none, none, none] [] h (some (.int o.1), o.2) := by
  unfold f_X7_pace_0 at hf
  refine rs_aload_n i_X7_pace_0 rfl ?_
  refine rs_iload_n i_X7_pace_1 rfl ?_
  obtain ⟨c2, hf⟩ := ite_some hf
  obtain ⟨o1, e1, hf⟩ := bind_some hf
  refine rs_inV i_X7_pace_2 m_X7_areSteps rfl (As := [.int v1]) (rest := []) rfl rfl (Nat.le_of_ble_eq_true rfl) c2 (c_X7_areSteps (by omega) e1) (st' := [.int o1.1]) rfl ?_
  by_cases c3 : o1.1 ≠ 0
  · replace hf := (if_pos c3).symm.trans hf
    refine rs_ifT i_X7_pace_5 (ct_ne c3) (tg := 11) (by decide) ?_
    refine rs_iload_n i_X7_pace_11 rfl ?_
    refine rs_iconst i_X7_pace_12 (v := 0) (by decide) ?_
    refine rs_bipush i_X7_pace_13 (v := 9) (by decide) ?_
    obtain ⟨o4, e4, hf⟩ := bind_some hf
    refine rs_inS i_X7_pace_15 (by decide) m_X7_within rfl (As := [.int v2, .int 0, .int 9]) (rest := []) rfl rfl (Nat.le_of_ble_eq_true rfl) (c_X7_within (by omega) e4) (st' := [.int o4.1]) rfl ?_
    by_cases c5 : o4.1 = 0
    · replace hf := (if_pos c5).symm.trans hf
      refine rs_ifT i_X7_pace_18 (ct_eq c5) (tg := 30) (by decide) ?_
      refine rs_bipush i_X7_pace_30 (v := (-7)) (by decide) ?_
      have hf := Option.some.inj hf
      subst hf
      exact rs_iret i_X7_pace_32 m_X7_pace rfl
    · replace hf := (if_neg c5).symm.trans hf
      refine rs_ifF i_X7_pace_18 (cf_eq c5) ?_
      refine rs_iload_n i_X7_pace_21 rfl ?_
      refine rs_iconst i_X7_pace_22 (v := 0) (by decide) ?_
      refine rs_iconst i_X7_pace_23 (v := 1) (by decide) ?_
      obtain ⟨o6, e6, hf⟩ := bind_some hf
      refine rs_inS i_X7_pace_24 (by decide) m_X7_within rfl (As := [.int v3, .int 0, .int 1]) (rest := []) rfl rfl (Nat.le_of_ble_eq_true rfl) (c_X7_within (by omega) e6) (st' := [.int o6.1]) rfl ?_
      by_cases c7 : o6.1 ≠ 0
      · replace hf := (if_pos c7).symm.trans hf
        refine rs_ifT i_X7_pace_27 (ct_ne c7) (tg := 33) (by decide) ?_
        refine rs_aload_n i_X7_pace_33 rfl ?_
        refine rs_aload_n i_X7_pace_34 rfl ?_
        obtain ⟨c8, hf⟩ := ite_some hf
        obtain ⟨a9, e9, hf⟩ := bind_some hf
        refine rs_getR i_X7_pace_35 (by decide) (by decide) c8 e9 ?_
        refine rs_iload_n i_X7_pace_38 rfl ?_
        refine rs_iconst i_X7_pace_39 (v := (-1)) (by decide) ?_
        refine rs_iconst i_X7_pace_40 (v := (-1)) (by decide) ?_
        obtain ⟨o10, e10, hf⟩ := bind_some hf
        refine rs_inV i_X7_pace_41 m_X7_make rfl (As := [.ref a9, .int v1, .int (-1), .int (-1)]) (rest := []) rfl rfl (Nat.le_of_ble_eq_true rfl) c8 (c_X7_make (by omega) e10) (st' := []) rfl ?_
        refine rs_iconst i_X7_pace_44 (v := 1) (by decide) ?_
        refine rs_istore i_X7_pace_45 (Nat.le_of_ble_eq_true rfl) (lv' := [some (.ref v0), some (.int v1), some (.int v2), some (.int v3), some (.int 1), none, none, none, none, none]) rfl ?_
        refine rs_lconst i_X7_pace_47 (v := 0) (by decide) ?_
        refine rs_lstore i_X7_pace_48 (Nat.le_of_ble_eq_true rfl) (lv' := [some (.ref v0), some (.int v1), some (.int v2), some (.int v3), some (.int 1), some (.long 0), none, none, none, none]) rfl ?_
        refine rs_iconst i_X7_pace_50 (v := 1) (by decide) ?_
        refine rs_istore i_X7_pace_51 (Nat.le_of_ble_eq_true rfl) (lv' := [some (.ref v0), some (.int v1), some (.int v2), some (.int v3), some (.int 1), some (.long 0), none, some (.int 1), none, none]) rfl ?_
        exact r_X7_pace_53 hd _ _ _ _ _ _ _ _ _ _ _ _ hf
      · replace hf := (if_neg c7).symm.trans hf
        refine rs_ifF i_X7_pace_27 (cf_ne c7) ?_
        refine rs_bipush i_X7_pace_30 (v := (-7)) (by decide) ?_
        have hf := Option.some.inj hf
        subst hf
        exact rs_iret i_X7_pace_32 m_X7_pace rfl
  · replace hf := (if_neg c3).symm.trans hf
    refine rs_ifF i_X7_pace_5 (cf_ne c3) ?_
    refine rs_bipush i_X7_pace_8 (v := (-5)) (by decide) ?_
    have hf := Option.some.inj hf
    subst hf
    exact rs_iret i_X7_pace_10 m_X7_pace rfl
def f_X7_pace (n : Nat) (v0 : Nat) (v1 : Int32) (v2 : Int32) (v3 : Int32) (h : Hp) : Option (Int32 × Hp) := f_X7_pace_0 n v0 v1 v2 v3 h
theorem c_X7_pace {X : Nat → Int32} {d : Nat} (hd : 7 ≤ d) {n : Nat} {v0 : Nat} {v1 : Int32} {v2 : Int32} {v3 : Int32} {h : Hp} {o : (Int32 × Hp)} (hf : f_X7_pace n v0 v1 v2 v3 h = some o) : Calls X d 82 [.ref v0, .int v1, .int v2, .int v3] h (some (.int o.1), o.2) := by
  obtain ⟨d, rfl⟩ : ∃ z, d = z + 1 := ⟨d - 1, by omega⟩
  exact ⟨_, rfl, r_X7_pace_0 hd hf⟩
theorem i_X7_rest_0 : fetch 83 0 = some (.aload_n 0, 1, 0, 0, 0, 0) := by decide +kernel
theorem i_X7_rest_1 : fetch 83 1 = some (.iload_n 1, 2, 0, 0, 0, 0) := by decide +kernel
theorem i_X7_rest_2 : fetch 83 2 = some (.invokevirtual 151, 5, 113, 0, 0, 584) := by decide +kernel
theorem i_X7_rest_5 : fetch 83 5 = some (.ifCond .ne 6, 8, 0, 0, 0, 0) := by decide +kernel
theorem i_X7_rest_8 : fetch 83 8 = some (.bipush (-5), 10, 0, 0, 0, 0) := by decide +kernel
theorem i_X7_rest_10 : fetch 83 10 = some (.ireturn, 11, 0, 0, 0, 0) := by decide +kernel
theorem i_X7_rest_11 : fetch 83 11 = some (.iload_n 2, 12, 0, 0, 0, 0) := by decide +kernel
theorem i_X7_rest_12 : fetch 83 12 = some (.iconst 1, 13, 0, 0, 0, 0) := by decide +kernel
theorem i_X7_rest_13 : fetch 83 13 = some (.bipush 99, 15, 0, 0, 0, 0) := by decide +kernel
theorem i_X7_rest_15 : fetch 83 15 = some (.invokestatic 112, 18, 110, 0, 0, 534) := by decide +kernel
theorem i_X7_rest_18 : fetch 83 18 = some (.ifCond .eq 20, 21, 0, 0, 0, 0) := by decide +kernel
theorem i_X7_rest_21 : fetch 83 21 = some (.iload_n 2, 22, 0, 0, 0, 0) := by decide +kernel
theorem i_X7_rest_22 : fetch 83 22 = some (.bipush 10, 24, 0, 0, 0, 0) := by decide +kernel
theorem i_X7_rest_24 : fetch 83 24 = some (.irem, 25, 0, 0, 0, 0) := by decide +kernel
theorem i_X7_rest_25 : fetch 83 25 = some (.ifCond .eq 13, 28, 0, 0, 0, 0) := by decide +kernel
theorem i_X7_rest_28 : fetch 83 28 = some (.iload_n 3, 29, 0, 0, 0, 0) := by decide +kernel
theorem i_X7_rest_29 : fetch 83 29 = some (.iconst 0, 30, 0, 0, 0, 0) := by decide +kernel
theorem i_X7_rest_30 : fetch 83 30 = some (.bipush 100, 32, 0, 0, 0, 0) := by decide +kernel
theorem i_X7_rest_32 : fetch 83 32 = some (.invokestatic 112, 35, 110, 0, 0, 534) := by decide +kernel
theorem i_X7_rest_35 : fetch 83 35 = some (.ifCond .ne 6, 38, 0, 0, 0, 0) := by decide +kernel
theorem i_X7_rest_38 : fetch 83 38 = some (.bipush (-7), 40, 0, 0, 0, 0) := by decide +kernel
theorem i_X7_rest_40 : fetch 83 40 = some (.ireturn, 41, 0, 0, 0, 0) := by decide +kernel
theorem i_X7_rest_41 : fetch 83 41 = some (.aload_n 0, 42, 0, 0, 0, 0) := by decide +kernel
theorem i_X7_rest_42 : fetch 83 42 = some (.aload_n 0, 43, 0, 0, 0, 0) := by decide +kernel
theorem i_X7_rest_43 : fetch 83 43 = some (.getfield 10, 46, 7, 0, 0, 483) := by decide +kernel
theorem i_X7_rest_46 : fetch 83 46 = some (.iload_n 1, 47, 0, 0, 0, 0) := by decide +kernel
theorem i_X7_rest_47 : fetch 83 47 = some (.iconst (-1), 48, 0, 0, 0, 0) := by decide +kernel
theorem i_X7_rest_48 : fetch 83 48 = some (.iconst (-1), 49, 0, 0, 0, 0) := by decide +kernel
theorem i_X7_rest_49 : fetch 83 49 = some (.invokevirtual 154, 52, 118, 0, 0, 588) := by decide +kernel
theorem i_X7_rest_52 : fetch 83 52 = some (.iconst 0, 53, 0, 0, 0, 0) := by decide +kernel
theorem i_X7_rest_53 : fetch 83 53 = some (.istore 4, 55, 0, 0, 0, 0) := by decide +kernel
theorem i_X7_rest_55 : fetch 83 55 = some (.iload 4, 57, 0, 0, 0, 0) := by decide +kernel
theorem i_X7_rest_57 : fetch 83 57 = some (.bipush 30, 59, 0, 0, 0, 0) := by decide +kernel
theorem i_X7_rest_59 : fetch 83 59 = some (.if_icmp .gt 79, 62, 0, 0, 0, 0) := by decide +kernel
theorem i_X7_rest_62 : fetch 83 62 = some (.aload_n 0, 63, 0, 0, 0, 0) := by decide +kernel
theorem i_X7_rest_63 : fetch 83 63 = some (.getfield 86, 66, 7, 8, 0, 491) := by decide +kernel
theorem i_X7_rest_66 : fetch 83 66 = some (.aload_n 0, 67, 0, 0, 0, 0) := by decide +kernel
theorem i_X7_rest_67 : fetch 83 67 = some (.getfield 82, 70, 7, 7, 0, 490) := by decide +kernel
theorem i_X7_rest_70 : fetch 83 70 = some (.invokevirtual 222, 73, 29, 0, 0, 754) := by decide +kernel
theorem i_X7_rest_73 : fetch 83 73 = some (.aload_n 0, 74, 0, 0, 0, 0) := by decide +kernel
theorem i_X7_rest_74 : fetch 83 74 = some (.getfield 86, 77, 7, 8, 0, 491) := by decide +kernel
theorem i_X7_rest_77 : fetch 83 77 = some (.iload 4, 79, 0, 0, 0, 0) := by decide +kernel
theorem i_X7_rest_79 : fetch 83 79 = some (.invokevirtual 225, 82, 31, 0, 0, 772) := by decide +kernel
theorem i_X7_rest_82 : fetch 83 82 = some (.aload_n 0, 83, 0, 0, 0, 0) := by decide +kernel
theorem i_X7_rest_83 : fetch 83 83 = some (.getfield 86, 86, 7, 8, 0, 491) := by decide +kernel
theorem i_X7_rest_86 : fetch 83 86 = some (.aload_n 0, 87, 0, 0, 0, 0) := by decide +kernel
theorem i_X7_rest_87 : fetch 83 87 = some (.getfield 86, 90, 7, 8, 0, 491) := by decide +kernel
theorem i_X7_rest_90 : fetch 83 90 = some (.iload_n 2, 91, 0, 0, 0, 0) := by decide +kernel
theorem i_X7_rest_91 : fetch 83 91 = some (.bipush 10, 93, 0, 0, 0, 0) := by decide +kernel
theorem i_X7_rest_93 : fetch 83 93 = some (.idiv, 94, 0, 0, 0, 0) := by decide +kernel
theorem i_X7_rest_94 : fetch 83 94 = some (.invokevirtual 228, 97, 45, 0, 0, 758) := by decide +kernel
theorem i_X7_rest_97 : fetch 83 97 = some (.iload_n 2, 98, 0, 0, 0, 0) := by decide +kernel
theorem i_X7_rest_98 : fetch 83 98 = some (.bipush 10, 100, 0, 0, 0, 0) := by decide +kernel
theorem i_X7_rest_100 : fetch 83 100 = some (.irem, 101, 0, 0, 0, 0) := by decide +kernel
theorem i_X7_rest_101 : fetch 83 101 = some (.invokevirtual 232, 104, 32, 0, 0, 759) := by decide +kernel
theorem i_X7_rest_104 : fetch 83 104 = some (.aload_n 0, 105, 0, 0, 0, 0) := by decide +kernel
theorem i_X7_rest_105 : fetch 83 105 = some (.getfield 86, 108, 7, 8, 0, 491) := by decide +kernel
theorem i_X7_rest_108 : fetch 83 108 = some (.getfield 197, 111, 3, 10, 0, 257) := by decide +kernel
theorem i_X7_rest_111 : fetch 83 111 = some (.ldc2_w 210, 114, 0, 0, 100, 740) := by decide +kernel
theorem i_X7_rest_114 : fetch 83 114 = some (.lmul, 115, 0, 0, 0, 0) := by decide +kernel
theorem i_X7_rest_115 : fetch 83 115 = some (.aload_n 0, 116, 0, 0, 0, 0) := by decide +kernel
theorem i_X7_rest_116 : fetch 83 116 = some (.getfield 82, 119, 7, 7, 0, 490) := by decide +kernel
theorem i_X7_rest_119 : fetch 83 119 = some (.getfield 197, 122, 3, 10, 0, 257) := by decide +kernel
theorem i_X7_rest_122 : fetch 83 122 = some (.iload_n 3, 123, 0, 0, 0, 0) := by decide +kernel
theorem i_X7_rest_123 : fetch 83 123 = some (.i2l, 124, 0, 0, 0, 0) := by decide +kernel
theorem i_X7_rest_124 : fetch 83 124 = some (.lmul, 125, 0, 0, 0, 0) := by decide +kernel
theorem i_X7_rest_125 : fetch 83 125 = some (.lcmp, 126, 0, 0, 0, 0) := by decide +kernel
theorem i_X7_rest_126 : fetch 83 126 = some (.ifCond .lt 6, 129, 0, 0, 0, 0) := by decide +kernel
theorem i_X7_rest_129 : fetch 83 129 = some (.iload 4, 131, 0, 0, 0, 0) := by decide +kernel
theorem i_X7_rest_131 : fetch 83 131 = some (.ireturn, 132, 0, 0, 0, 0) := by decide +kernel
theorem i_X7_rest_132 : fetch 83 132 = some (.iinc 4 1, 135, 0, 0, 0, 0) := by decide +kernel
theorem i_X7_rest_135 : fetch 83 135 = some (.goto (-80), 138, 0, 0, 0, 0) := by decide +kernel
theorem i_X7_rest_138 : fetch 83 138 = some (.iconst (-1), 139, 0, 0, 0, 0) := by decide +kernel
theorem i_X7_rest_139 : fetch 83 139 = some (.ireturn, 140, 0, 0, 0, 0) := by decide +kernel
def f_X7_rest_55 (n : Nat) : Nat → Nat → Int32 → Int32 → Int32 → Hp → Option (Int32 × Hp)
  | 0, _, _, _, _, _ => none
  | m + 1, v0, v2, v3, v4, h =>
    if 30 < v4 then
      some ((-1), h)
    else
      if okO h v0 7 then
      (gR h v0 8).bind fun a3 =>
      (gR h v0 7).bind fun a4 =>
      if okO h a3 3 then
      (f_X3_become a3 a4 h).bind fun o5 =>
      if okO o5 v0 7 then
      (gR o5 v0 8).bind fun a8 =>
      if okO o5 a8 3 then
      (f_X3_relax n a8 v4 o5).bind fun o9 =>
      if okO o9 v0 7 then
      (gR o9 v0 8).bind fun a12 =>
      if okO o9 a12 3 then
      (f_X3_tenths n a12 (v2 / 10) o9).bind fun o13 =>
      if okO o13.2 a12 3 then
      (f_X3_draw n a12 o13.1 (v2 - v2 / 10 * 10) o13.2).bind fun o15 =>
      if okO o15 v0 7 then
      (gR o15 v0 8).bind fun a18 =>
      if okO o15 a18 3 then
      (gR o15 v0 7).bind fun a20 =>
      if okO o15 a20 3 then
      if ((gL' o15 a18 10) * 100) < ((gL' o15 a20 10) * (Int32.toInt64 v3)) then
        (f_X7_rest_55 n m) v0 v2 v3 (v4 + 1) o15
      else
        some (v4, o15)
      else none
      else none
      else none
      else none
      else none
      else none
      else none
      else none
      else none
      else none
set_option maxRecDepth 100000 in
set_option maxHeartbeats 4000000 in
theorem r_X7_rest_55 {X : Nat → Int32} {d : Nat} (hd : 7 ≤ (d + 1)) {n : Nat} : ∀ (m : Nat) (v0 : Nat) (v2 : Int32) (v3 : Int32) (v4 : Int32) (d1 : Int32) (h : Hp) (o : (Int32 × Hp)), f_X7_rest_55 n m v0 v2 v3 v4 h = some o → Run X (d + 1) 83 55 [some (.ref v0), some (.int d1), some (.int v2), some (.int v3), some (.int v4)] [] h (some (.int o.1), o.2) := by
  intro m
  induction m with
  | zero => intro v0 v2 v3 v4 d1 h o hf; cases hf
  | succ m ih =>
    intro v0 v2 v3 v4 d1 h o hf
    rw [f_X7_rest_55] at hf
    refine rs_iload i_X7_rest_55 rfl ?_
    refine rs_bipush i_X7_rest_57 (v := 30) (by decide) ?_
    by_cases c1 : 30 < v4
    · replace hf := (if_pos c1).symm.trans hf
      refine rs_icT i_X7_rest_59 (ct_gt c1) (tg := 138) (by decide) ?_
      refine rs_iconst i_X7_rest_138 (v := (-1)) (by decide) ?_
      have hf := Option.some.inj hf
      subst hf
      exact rs_iret i_X7_rest_139 m_X7_rest rfl
    · replace hf := (if_neg c1).symm.trans hf
      refine rs_icF i_X7_rest_59 (cf_gt c1) ?_
      refine rs_aload_n i_X7_rest_62 rfl ?_
      obtain ⟨c2, hf⟩ := ite_some hf
      obtain ⟨a3, e3, hf⟩ := bind_some hf
      refine rs_getR i_X7_rest_63 (by decide) (by decide) c2 e3 ?_
      refine rs_aload_n i_X7_rest_66 rfl ?_
      obtain ⟨a4, e4, hf⟩ := bind_some hf
      refine rs_getR i_X7_rest_67 (by decide) (by decide) c2 e4 ?_
      obtain ⟨c6, hf⟩ := ite_some hf
      obtain ⟨o5, e5, hf⟩ := bind_some hf
      refine rs_inV i_X7_rest_70 m_X3_become rfl (As := [.ref a4]) (rest := []) rfl rfl (Nat.le_of_ble_eq_true rfl) c6 (c_X3_become (by omega) e5) (st' := []) rfl ?_
      refine rs_aload_n i_X7_rest_73 rfl ?_
      obtain ⟨c7, hf⟩ := ite_some hf
      obtain ⟨a8, e8, hf⟩ := bind_some hf
      refine rs_getR i_X7_rest_74 (by decide) (by decide) c7 e8 ?_
      refine rs_iload i_X7_rest_77 rfl ?_
      obtain ⟨c10, hf⟩ := ite_some hf
      obtain ⟨o9, e9, hf⟩ := bind_some hf
      refine rs_inV i_X7_rest_79 m_X3_relax rfl (As := [.int v4]) (rest := []) rfl rfl (Nat.le_of_ble_eq_true rfl) c10 (c_X3_relax (by omega) e9) (st' := []) rfl ?_
      refine rs_aload_n i_X7_rest_82 rfl ?_
      obtain ⟨c11, hf⟩ := ite_some hf
      obtain ⟨a12, e12, hf⟩ := bind_some hf
      refine rs_getR i_X7_rest_83 (by decide) (by decide) c11 e12 ?_
      refine rs_aload_n i_X7_rest_86 rfl ?_
      refine rs_getR i_X7_rest_87 (by decide) (by decide) c11 e12 ?_
      refine rs_iload_n i_X7_rest_90 rfl ?_
      refine rs_bipush i_X7_rest_91 (v := 10) (by decide) ?_
      refine rs_idiv i_X7_rest_93 (by decide) ?_
      obtain ⟨c14, hf⟩ := ite_some hf
      obtain ⟨o13, e13, hf⟩ := bind_some hf
      refine rs_inV i_X7_rest_94 m_X3_tenths rfl (As := [.int (v2 / 10)]) (rest := [.ref a12]) rfl rfl (Nat.le_of_ble_eq_true rfl) c14 (c_X3_tenths (by omega) e13) (st' := [.long o13.1, .ref a12]) rfl ?_
      refine rs_iload_n i_X7_rest_97 rfl ?_
      refine rs_bipush i_X7_rest_98 (v := 10) (by decide) ?_
      refine rs_irem i_X7_rest_100 (by decide) ?_
      obtain ⟨c16, hf⟩ := ite_some hf
      obtain ⟨o15, e15, hf⟩ := bind_some hf
      refine rs_inV i_X7_rest_101 m_X3_draw rfl (As := [.long o13.1, .int (v2 - v2 / 10 * 10)]) (rest := []) rfl rfl (Nat.le_of_ble_eq_true rfl) c16 (c_X3_draw (by omega) e15) (st' := []) rfl ?_
      refine rs_aload_n i_X7_rest_104 rfl ?_
      obtain ⟨c17, hf⟩ := ite_some hf
      obtain ⟨a18, e18, hf⟩ := bind_some hf
      refine rs_getR i_X7_rest_105 (by decide) (by decide) c17 e18 ?_
      obtain ⟨c19, hf⟩ := ite_some hf
      refine rs_getL i_X7_rest_108 (by decide) (by decide) c19 ?_
      refine rs_ldc2 i_X7_rest_111 (v := 100) (by decide) ?_
      refine rs_lmul i_X7_rest_114 ?_
      refine rs_aload_n i_X7_rest_115 rfl ?_
      obtain ⟨a20, e20, hf⟩ := bind_some hf
      refine rs_getR i_X7_rest_116 (by decide) (by decide) c17 e20 ?_
      obtain ⟨c21, hf⟩ := ite_some hf
      refine rs_getL i_X7_rest_119 (by decide) (by decide) c21 ?_
      refine rs_iload_n i_X7_rest_122 rfl ?_
      refine rs_i2l i_X7_rest_123 ?_
      refine rs_lmul i_X7_rest_124 ?_
      refine rs_lcmp i_X7_rest_125 ?_
      by_cases c22 : ((gL' o15 a18 10) * 100) < ((gL' o15 a20 10) * (Int32.toInt64 v3))
      · replace hf := (if_pos c22).symm.trans hf
        refine rs_ifT i_X7_rest_126 (by rw [lc_lt]; exact decide_eq_true c22) (tg := 132) (by decide) ?_
        refine rs_iinc i_X7_rest_132 rfl (v := v4 + 1) rfl (Nat.le_of_ble_eq_true rfl) (lv' := [some (.ref v0), some (.int d1), some (.int v2), some (.int v3), some (.int (v4 + 1))]) rfl ?_
        refine rs_goto i_X7_rest_135 (tg := 55) (by decide) ?_
        exact ih _ _ _ _ _ _ _ hf
      · replace hf := (if_neg c22).symm.trans hf
        refine rs_ifF i_X7_rest_126 (by rw [lc_lt]; exact decide_eq_false c22) ?_
        refine rs_iload i_X7_rest_129 rfl ?_
        have hf := Option.some.inj hf
        subst hf
        exact rs_iret i_X7_rest_131 m_X7_rest rfl
def f_X7_rest_0 (n : Nat) (v0 : Nat) (v1 : Int32) (v2 : Int32) (v3 : Int32) (h : Hp) : Option (Int32 × Hp) :=
  if okO h v0 7 then
  (f_X7_areSteps v0 v1 h).bind fun o1 =>
  if o1.1 ≠ 0 then
    (f_X7_within v2 1 99 o1.2).bind fun o4 =>
    if o4.1 = 0 then
      some ((-7), o4.2)
    else
      if (v2 - v2 / 10 * 10) = 0 then
        some ((-7), o4.2)
      else
        (f_X7_within v3 0 100 o4.2).bind fun o7 =>
        if o7.1 ≠ 0 then
          if okO o7.2 v0 7 then
          (gR o7.2 v0 0).bind fun a10 =>
          (f_X7_make n v0 a10 v1 (-1) (-1) o7.2).bind fun o11 =>
          f_X7_rest_55 n n v0 v2 v3 0 o11
          else none
        else
          some ((-7), o7.2)
  else
    some ((-5), o1.2)
  else none
set_option maxRecDepth 100000 in
set_option maxHeartbeats 4000000 in
theorem r_X7_rest_0 {X : Nat → Int32} {d : Nat} (hd : 7 ≤ (d + 1)) {n : Nat} {v0 : Nat} {v1 : Int32} {v2 : Int32} {v3 : Int32} {h : Hp} {o : (Int32 × Hp)} (hf : f_X7_rest_0 n v0 v1 v2 v3 h = some o) : Run X (d + 1) 83 0 [some (.ref v0), some (.int v1), some (.int v2), some (.int v3), none] [] h (some (.int o.1), o.2) := by
  unfold f_X7_rest_0 at hf
  refine rs_aload_n i_X7_rest_0 rfl ?_
  refine rs_iload_n i_X7_rest_1 rfl ?_
  obtain ⟨c2, hf⟩ := ite_some hf
  obtain ⟨o1, e1, hf⟩ := bind_some hf
  refine rs_inV i_X7_rest_2 m_X7_areSteps rfl (As := [.int v1]) (rest := []) rfl rfl (Nat.le_of_ble_eq_true rfl) c2 (c_X7_areSteps (by omega) e1) (st' := [.int o1.1]) rfl ?_
  by_cases c3 : o1.1 ≠ 0
  · replace hf := (if_pos c3).symm.trans hf
    refine rs_ifT i_X7_rest_5 (ct_ne c3) (tg := 11) (by decide) ?_
    refine rs_iload_n i_X7_rest_11 rfl ?_
    refine rs_iconst i_X7_rest_12 (v := 1) (by decide) ?_
    refine rs_bipush i_X7_rest_13 (v := 99) (by decide) ?_
    obtain ⟨o4, e4, hf⟩ := bind_some hf
    refine rs_inS i_X7_rest_15 (by decide) m_X7_within rfl (As := [.int v2, .int 1, .int 99]) (rest := []) rfl rfl (Nat.le_of_ble_eq_true rfl) (c_X7_within (by omega) e4) (st' := [.int o4.1]) rfl ?_
    by_cases c5 : o4.1 = 0
    · replace hf := (if_pos c5).symm.trans hf
      refine rs_ifT i_X7_rest_18 (ct_eq c5) (tg := 38) (by decide) ?_
      refine rs_bipush i_X7_rest_38 (v := (-7)) (by decide) ?_
      have hf := Option.some.inj hf
      subst hf
      exact rs_iret i_X7_rest_40 m_X7_rest rfl
    · replace hf := (if_neg c5).symm.trans hf
      refine rs_ifF i_X7_rest_18 (cf_eq c5) ?_
      refine rs_iload_n i_X7_rest_21 rfl ?_
      refine rs_bipush i_X7_rest_22 (v := 10) (by decide) ?_
      refine rs_irem i_X7_rest_24 (by decide) ?_
      by_cases c6 : (v2 - v2 / 10 * 10) = 0
      · replace hf := (if_pos c6).symm.trans hf
        refine rs_ifT i_X7_rest_25 (ct_eq c6) (tg := 38) (by decide) ?_
        refine rs_bipush i_X7_rest_38 (v := (-7)) (by decide) ?_
        have hf := Option.some.inj hf
        subst hf
        exact rs_iret i_X7_rest_40 m_X7_rest rfl
      · replace hf := (if_neg c6).symm.trans hf
        refine rs_ifF i_X7_rest_25 (cf_eq c6) ?_
        refine rs_iload_n i_X7_rest_28 rfl ?_
        refine rs_iconst i_X7_rest_29 (v := 0) (by decide) ?_
        refine rs_bipush i_X7_rest_30 (v := 100) (by decide) ?_
        obtain ⟨o7, e7, hf⟩ := bind_some hf
        refine rs_inS i_X7_rest_32 (by decide) m_X7_within rfl (As := [.int v3, .int 0, .int 100]) (rest := []) rfl rfl (Nat.le_of_ble_eq_true rfl) (c_X7_within (by omega) e7) (st' := [.int o7.1]) rfl ?_
        by_cases c8 : o7.1 ≠ 0
        · replace hf := (if_pos c8).symm.trans hf
          refine rs_ifT i_X7_rest_35 (ct_ne c8) (tg := 41) (by decide) ?_
          refine rs_aload_n i_X7_rest_41 rfl ?_
          refine rs_aload_n i_X7_rest_42 rfl ?_
          obtain ⟨c9, hf⟩ := ite_some hf
          obtain ⟨a10, e10, hf⟩ := bind_some hf
          refine rs_getR i_X7_rest_43 (by decide) (by decide) c9 e10 ?_
          refine rs_iload_n i_X7_rest_46 rfl ?_
          refine rs_iconst i_X7_rest_47 (v := (-1)) (by decide) ?_
          refine rs_iconst i_X7_rest_48 (v := (-1)) (by decide) ?_
          obtain ⟨o11, e11, hf⟩ := bind_some hf
          refine rs_inV i_X7_rest_49 m_X7_make rfl (As := [.ref a10, .int v1, .int (-1), .int (-1)]) (rest := []) rfl rfl (Nat.le_of_ble_eq_true rfl) c9 (c_X7_make (by omega) e11) (st' := []) rfl ?_
          refine rs_iconst i_X7_rest_52 (v := 0) (by decide) ?_
          refine rs_istore i_X7_rest_53 (Nat.le_of_ble_eq_true rfl) (lv' := [some (.ref v0), some (.int v1), some (.int v2), some (.int v3), some (.int 0)]) rfl ?_
          exact r_X7_rest_55 hd _ _ _ _ _ _ _ _ hf
        · replace hf := (if_neg c8).symm.trans hf
          refine rs_ifF i_X7_rest_35 (cf_ne c8) ?_
          refine rs_bipush i_X7_rest_38 (v := (-7)) (by decide) ?_
          have hf := Option.some.inj hf
          subst hf
          exact rs_iret i_X7_rest_40 m_X7_rest rfl
  · replace hf := (if_neg c3).symm.trans hf
    refine rs_ifF i_X7_rest_5 (cf_ne c3) ?_
    refine rs_bipush i_X7_rest_8 (v := (-5)) (by decide) ?_
    have hf := Option.some.inj hf
    subst hf
    exact rs_iret i_X7_rest_10 m_X7_rest rfl
def f_X7_rest (n : Nat) (v0 : Nat) (v1 : Int32) (v2 : Int32) (v3 : Int32) (h : Hp) : Option (Int32 × Hp) := f_X7_rest_0 n v0 v1 v2 v3 h
theorem c_X7_rest {X : Nat → Int32} {d : Nat} (hd : 7 ≤ d) {n : Nat} {v0 : Nat} {v1 : Int32} {v2 : Int32} {v3 : Int32} {h : Hp} {o : (Int32 × Hp)} (hf : f_X7_rest n v0 v1 v2 v3 h = some o) : Calls X d 83 [.ref v0, .int v1, .int v2, .int v3] h (some (.int o.1), o.2) := by
  obtain ⟨d, rfl⟩ : ∃ z, d = z + 1 := ⟨d - 1, by omega⟩
  exact ⟨_, rfl, r_X7_rest_0 hd hf⟩
theorem i_X7_dust_0 : fetch 84 0 = some (.aload_n 0, 1, 0, 0, 0, 0) := by decide +kernel
theorem i_X7_dust_1 : fetch 84 1 = some (.iload_n 1, 2, 0, 0, 0, 0) := by decide +kernel
theorem i_X7_dust_2 : fetch 84 2 = some (.invokevirtual 151, 5, 113, 0, 0, 584) := by decide +kernel
theorem i_X7_dust_5 : fetch 84 5 = some (.ifCond .ne 6, 8, 0, 0, 0, 0) := by decide +kernel
theorem i_X7_dust_8 : fetch 84 8 = some (.bipush (-5), 10, 0, 0, 0, 0) := by decide +kernel
theorem i_X7_dust_10 : fetch 84 10 = some (.ireturn, 11, 0, 0, 0, 0) := by decide +kernel
theorem i_X7_dust_11 : fetch 84 11 = some (.iload_n 2, 12, 0, 0, 0, 0) := by decide +kernel
theorem i_X7_dust_12 : fetch 84 12 = some (.iconst 0, 13, 0, 0, 0, 0) := by decide +kernel
theorem i_X7_dust_13 : fetch 84 13 = some (.bipush 100, 15, 0, 0, 0, 0) := by decide +kernel
theorem i_X7_dust_15 : fetch 84 15 = some (.invokestatic 112, 18, 110, 0, 0, 534) := by decide +kernel
theorem i_X7_dust_18 : fetch 84 18 = some (.ifCond .ne 6, 21, 0, 0, 0, 0) := by decide +kernel
theorem i_X7_dust_21 : fetch 84 21 = some (.bipush (-7), 23, 0, 0, 0, 0) := by decide +kernel
theorem i_X7_dust_23 : fetch 84 23 = some (.ireturn, 24, 0, 0, 0, 0) := by decide +kernel
theorem i_X7_dust_24 : fetch 84 24 = some (.aload_n 0, 25, 0, 0, 0, 0) := by decide +kernel
theorem i_X7_dust_25 : fetch 84 25 = some (.aload_n 0, 26, 0, 0, 0, 0) := by decide +kernel
theorem i_X7_dust_26 : fetch 84 26 = some (.getfield 10, 29, 7, 0, 0, 483) := by decide +kernel
theorem i_X7_dust_29 : fetch 84 29 = some (.iload_n 1, 30, 0, 0, 0, 0) := by decide +kernel
theorem i_X7_dust_30 : fetch 84 30 = some (.iconst (-1), 31, 0, 0, 0, 0) := by decide +kernel
theorem i_X7_dust_31 : fetch 84 31 = some (.iconst (-1), 32, 0, 0, 0, 0) := by decide +kernel
theorem i_X7_dust_32 : fetch 84 32 = some (.invokevirtual 154, 35, 118, 0, 0, 588) := by decide +kernel
theorem i_X7_dust_35 : fetch 84 35 = some (.iconst 0, 36, 0, 0, 0, 0) := by decide +kernel
theorem i_X7_dust_36 : fetch 84 36 = some (.istore_n 3, 37, 0, 0, 0, 0) := by decide +kernel
theorem i_X7_dust_37 : fetch 84 37 = some (.iload_n 3, 38, 0, 0, 0, 0) := by decide +kernel
theorem i_X7_dust_38 : fetch 84 38 = some (.bipush 99, 40, 0, 0, 0, 0) := by decide +kernel
theorem i_X7_dust_40 : fetch 84 40 = some (.if_icmp .gt 70, 43, 0, 0, 0, 0) := by decide +kernel
theorem i_X7_dust_43 : fetch 84 43 = some (.aload_n 0, 44, 0, 0, 0, 0) := by decide +kernel
theorem i_X7_dust_44 : fetch 84 44 = some (.getfield 86, 47, 7, 8, 0, 491) := by decide +kernel
theorem i_X7_dust_47 : fetch 84 47 = some (.aload_n 0, 48, 0, 0, 0, 0) := by decide +kernel
theorem i_X7_dust_48 : fetch 84 48 = some (.getfield 82, 51, 7, 7, 0, 490) := by decide +kernel
theorem i_X7_dust_51 : fetch 84 51 = some (.invokevirtual 222, 54, 29, 0, 0, 754) := by decide +kernel
theorem i_X7_dust_54 : fetch 84 54 = some (.aload_n 0, 55, 0, 0, 0, 0) := by decide +kernel
theorem i_X7_dust_55 : fetch 84 55 = some (.getfield 86, 58, 7, 8, 0, 491) := by decide +kernel
theorem i_X7_dust_58 : fetch 84 58 = some (.iload_n 3, 59, 0, 0, 0, 0) := by decide +kernel
theorem i_X7_dust_59 : fetch 84 59 = some (.invokevirtual 236, 62, 37, 0, 0, 777) := by decide +kernel
theorem i_X7_dust_62 : fetch 84 62 = some (.aload_n 0, 63, 0, 0, 0, 0) := by decide +kernel
theorem i_X7_dust_63 : fetch 84 63 = some (.getfield 86, 66, 7, 8, 0, 491) := by decide +kernel
theorem i_X7_dust_66 : fetch 84 66 = some (.invokevirtual 239, 69, 35, 0, 0, 778) := by decide +kernel
theorem i_X7_dust_69 : fetch 84 69 = some (.aload_n 0, 70, 0, 0, 0, 0) := by decide +kernel
theorem i_X7_dust_70 : fetch 84 70 = some (.getfield 82, 73, 7, 7, 0, 490) := by decide +kernel
theorem i_X7_dust_73 : fetch 84 73 = some (.getfield 201, 76, 3, 11, 0, 259) := by decide +kernel
theorem i_X7_dust_76 : fetch 84 76 = some (.aload_n 0, 77, 0, 0, 0, 0) := by decide +kernel
theorem i_X7_dust_77 : fetch 84 77 = some (.getfield 86, 80, 7, 8, 0, 491) := by decide +kernel
theorem i_X7_dust_80 : fetch 84 80 = some (.getfield 201, 83, 3, 11, 0, 259) := by decide +kernel
theorem i_X7_dust_83 : fetch 84 83 = some (.lsub, 84, 0, 0, 0, 0) := by decide +kernel
theorem i_X7_dust_84 : fetch 84 84 = some (.ldc2_w 210, 87, 0, 0, 100, 740) := by decide +kernel
theorem i_X7_dust_87 : fetch 84 87 = some (.lmul, 88, 0, 0, 0, 0) := by decide +kernel
theorem i_X7_dust_88 : fetch 84 88 = some (.aload_n 0, 89, 0, 0, 0, 0) := by decide +kernel
theorem i_X7_dust_89 : fetch 84 89 = some (.getfield 82, 92, 7, 7, 0, 490) := by decide +kernel
theorem i_X7_dust_92 : fetch 84 92 = some (.getfield 201, 95, 3, 11, 0, 259) := by decide +kernel
theorem i_X7_dust_95 : fetch 84 95 = some (.iload_n 2, 96, 0, 0, 0, 0) := by decide +kernel
theorem i_X7_dust_96 : fetch 84 96 = some (.i2l, 97, 0, 0, 0, 0) := by decide +kernel
theorem i_X7_dust_97 : fetch 84 97 = some (.lmul, 98, 0, 0, 0, 0) := by decide +kernel
theorem i_X7_dust_98 : fetch 84 98 = some (.lcmp, 99, 0, 0, 0, 0) := by decide +kernel
theorem i_X7_dust_99 : fetch 84 99 = some (.ifCond .gt 5, 102, 0, 0, 0, 0) := by decide +kernel
theorem i_X7_dust_102 : fetch 84 102 = some (.iload_n 3, 103, 0, 0, 0, 0) := by decide +kernel
theorem i_X7_dust_103 : fetch 84 103 = some (.ireturn, 104, 0, 0, 0, 0) := by decide +kernel
theorem i_X7_dust_104 : fetch 84 104 = some (.iinc 3 1, 107, 0, 0, 0, 0) := by decide +kernel
theorem i_X7_dust_107 : fetch 84 107 = some (.goto (-70), 110, 0, 0, 0, 0) := by decide +kernel
theorem i_X7_dust_110 : fetch 84 110 = some (.iconst (-1), 111, 0, 0, 0, 0) := by decide +kernel
theorem i_X7_dust_111 : fetch 84 111 = some (.ireturn, 112, 0, 0, 0, 0) := by decide +kernel
def f_X7_dust_37 (n : Nat) : Nat → Nat → Int32 → Int32 → Hp → Option (Int32 × Hp)
  | 0, _, _, _, _ => none
  | m + 1, v0, v2, v3, h =>
    if 99 < v3 then
      some ((-1), h)
    else
      if okO h v0 7 then
      (gR h v0 8).bind fun a3 =>
      (gR h v0 7).bind fun a4 =>
      if okO h a3 3 then
      (f_X3_become a3 a4 h).bind fun o5 =>
      if okO o5 v0 7 then
      (gR o5 v0 8).bind fun a8 =>
      if okO o5 a8 3 then
      (f_X3_powder a8 v3 o5).bind fun o9 =>
      if okO o9 v0 7 then
      (gR o9 v0 8).bind fun a12 =>
      if okO o9 a12 3 then
      (f_X3_fold n a12 o9).bind fun o13 =>
      if okO o13 v0 7 then
      (gR o13 v0 7).bind fun a16 =>
      if okO o13 a16 3 then
      (gR o13 v0 8).bind fun a18 =>
      if okO o13 a18 3 then
      if ((gL' o13 a16 11) * (Int32.toInt64 v2)) < (((gL' o13 a16 11) - (gL' o13 a18 11)) * 100) then
        (f_X7_dust_37 n m) v0 v2 (v3 + 1) o13
      else
        some (v3, o13)
      else none
      else none
      else none
      else none
      else none
      else none
      else none
      else none
      else none
set_option maxRecDepth 100000 in
set_option maxHeartbeats 4000000 in
theorem r_X7_dust_37 {X : Nat → Int32} {d : Nat} (hd : 7 ≤ (d + 1)) {n : Nat} : ∀ (m : Nat) (v0 : Nat) (v2 : Int32) (v3 : Int32) (d1 : Int32) (h : Hp) (o : (Int32 × Hp)), f_X7_dust_37 n m v0 v2 v3 h = some o → Run X (d + 1) 84 37 [some (.ref v0), some (.int d1), some (.int v2), some (.int v3)] [] h (some (.int o.1), o.2) := by
  intro m
  induction m with
  | zero => intro v0 v2 v3 d1 h o hf; cases hf
  | succ m ih =>
    intro v0 v2 v3 d1 h o hf
    rw [f_X7_dust_37] at hf
    refine rs_iload_n i_X7_dust_37 rfl ?_
    refine rs_bipush i_X7_dust_38 (v := 99) (by decide) ?_
    by_cases c1 : 99 < v3
    · replace hf := (if_pos c1).symm.trans hf
      refine rs_icT i_X7_dust_40 (ct_gt c1) (tg := 110) (by decide) ?_
      refine rs_iconst i_X7_dust_110 (v := (-1)) (by decide) ?_
      have hf := Option.some.inj hf
      subst hf
      exact rs_iret i_X7_dust_111 m_X7_dust rfl
    · replace hf := (if_neg c1).symm.trans hf
      refine rs_icF i_X7_dust_40 (cf_gt c1) ?_
      refine rs_aload_n i_X7_dust_43 rfl ?_
      obtain ⟨c2, hf⟩ := ite_some hf
      obtain ⟨a3, e3, hf⟩ := bind_some hf
      refine rs_getR i_X7_dust_44 (by decide) (by decide) c2 e3 ?_
      refine rs_aload_n i_X7_dust_47 rfl ?_
      obtain ⟨a4, e4, hf⟩ := bind_some hf
      refine rs_getR i_X7_dust_48 (by decide) (by decide) c2 e4 ?_
      obtain ⟨c6, hf⟩ := ite_some hf
      obtain ⟨o5, e5, hf⟩ := bind_some hf
      refine rs_inV i_X7_dust_51 m_X3_become rfl (As := [.ref a4]) (rest := []) rfl rfl (Nat.le_of_ble_eq_true rfl) c6 (c_X3_become (by omega) e5) (st' := []) rfl ?_
      refine rs_aload_n i_X7_dust_54 rfl ?_
      obtain ⟨c7, hf⟩ := ite_some hf
      obtain ⟨a8, e8, hf⟩ := bind_some hf
      refine rs_getR i_X7_dust_55 (by decide) (by decide) c7 e8 ?_
      refine rs_iload_n i_X7_dust_58 rfl ?_
      obtain ⟨c10, hf⟩ := ite_some hf
      obtain ⟨o9, e9, hf⟩ := bind_some hf
      refine rs_inV i_X7_dust_59 m_X3_powder rfl (As := [.int v3]) (rest := []) rfl rfl (Nat.le_of_ble_eq_true rfl) c10 (c_X3_powder (by omega) e9) (st' := []) rfl ?_
      refine rs_aload_n i_X7_dust_62 rfl ?_
      obtain ⟨c11, hf⟩ := ite_some hf
      obtain ⟨a12, e12, hf⟩ := bind_some hf
      refine rs_getR i_X7_dust_63 (by decide) (by decide) c11 e12 ?_
      obtain ⟨c14, hf⟩ := ite_some hf
      obtain ⟨o13, e13, hf⟩ := bind_some hf
      refine rs_inV i_X7_dust_66 m_X3_fold rfl (As := []) (rest := []) rfl rfl (Nat.le_of_ble_eq_true rfl) c14 (c_X3_fold (by omega) e13) (st' := []) rfl ?_
      refine rs_aload_n i_X7_dust_69 rfl ?_
      obtain ⟨c15, hf⟩ := ite_some hf
      obtain ⟨a16, e16, hf⟩ := bind_some hf
      refine rs_getR i_X7_dust_70 (by decide) (by decide) c15 e16 ?_
      obtain ⟨c17, hf⟩ := ite_some hf
      refine rs_getL i_X7_dust_73 (by decide) (by decide) c17 ?_
      refine rs_aload_n i_X7_dust_76 rfl ?_
      obtain ⟨a18, e18, hf⟩ := bind_some hf
      refine rs_getR i_X7_dust_77 (by decide) (by decide) c15 e18 ?_
      obtain ⟨c19, hf⟩ := ite_some hf
      refine rs_getL i_X7_dust_80 (by decide) (by decide) c19 ?_
      refine rs_lsub i_X7_dust_83 ?_
      refine rs_ldc2 i_X7_dust_84 (v := 100) (by decide) ?_
      refine rs_lmul i_X7_dust_87 ?_
      refine rs_aload_n i_X7_dust_88 rfl ?_
      refine rs_getR i_X7_dust_89 (by decide) (by decide) c15 e16 ?_
      refine rs_getL i_X7_dust_92 (by decide) (by decide) c17 ?_
      refine rs_iload_n i_X7_dust_95 rfl ?_
      refine rs_i2l i_X7_dust_96 ?_
      refine rs_lmul i_X7_dust_97 ?_
      refine rs_lcmp i_X7_dust_98 ?_
      by_cases c20 : ((gL' o13 a16 11) * (Int32.toInt64 v2)) < (((gL' o13 a16 11) - (gL' o13 a18 11)) * 100)
      · replace hf := (if_pos c20).symm.trans hf
        refine rs_ifT i_X7_dust_99 (by rw [lc_gt]; exact decide_eq_true c20) (tg := 104) (by decide) ?_
        refine rs_iinc i_X7_dust_104 rfl (v := v3 + 1) rfl (Nat.le_of_ble_eq_true rfl) (lv' := [some (.ref v0), some (.int d1), some (.int v2), some (.int (v3 + 1))]) rfl ?_
        refine rs_goto i_X7_dust_107 (tg := 37) (by decide) ?_
        exact ih _ _ _ _ _ _ hf
      · replace hf := (if_neg c20).symm.trans hf
        refine rs_ifF i_X7_dust_99 (by rw [lc_gt]; exact decide_eq_false c20) ?_
        refine rs_iload_n i_X7_dust_102 rfl ?_
        have hf := Option.some.inj hf
        subst hf
        exact rs_iret i_X7_dust_103 m_X7_dust rfl
def f_X7_dust_0 (n : Nat) (v0 : Nat) (v1 : Int32) (v2 : Int32) (h : Hp) : Option (Int32 × Hp) :=
  if okO h v0 7 then
  (f_X7_areSteps v0 v1 h).bind fun o1 =>
  if o1.1 ≠ 0 then
    (f_X7_within v2 0 100 o1.2).bind fun o4 =>
    if o4.1 ≠ 0 then
      if okO o4.2 v0 7 then
      (gR o4.2 v0 0).bind fun a7 =>
      (f_X7_make n v0 a7 v1 (-1) (-1) o4.2).bind fun o8 =>
      f_X7_dust_37 n n v0 v2 0 o8
      else none
    else
      some ((-7), o4.2)
  else
    some ((-5), o1.2)
  else none
set_option maxRecDepth 100000 in
set_option maxHeartbeats 4000000 in
theorem r_X7_dust_0 {X : Nat → Int32} {d : Nat} (hd : 7 ≤ (d + 1)) {n : Nat} {v0 : Nat} {v1 : Int32} {v2 : Int32} {h : Hp} {o : (Int32 × Hp)} (hf : f_X7_dust_0 n v0 v1 v2 h = some o) : Run X (d + 1) 84 0 [some (.ref v0), some (.int v1), some (.int v2), none] [] h (some (.int o.1), o.2) := by
  unfold f_X7_dust_0 at hf
  refine rs_aload_n i_X7_dust_0 rfl ?_
  refine rs_iload_n i_X7_dust_1 rfl ?_
  obtain ⟨c2, hf⟩ := ite_some hf
  obtain ⟨o1, e1, hf⟩ := bind_some hf
  refine rs_inV i_X7_dust_2 m_X7_areSteps rfl (As := [.int v1]) (rest := []) rfl rfl (Nat.le_of_ble_eq_true rfl) c2 (c_X7_areSteps (by omega) e1) (st' := [.int o1.1]) rfl ?_
  by_cases c3 : o1.1 ≠ 0
  · replace hf := (if_pos c3).symm.trans hf
    refine rs_ifT i_X7_dust_5 (ct_ne c3) (tg := 11) (by decide) ?_
    refine rs_iload_n i_X7_dust_11 rfl ?_
    refine rs_iconst i_X7_dust_12 (v := 0) (by decide) ?_
    refine rs_bipush i_X7_dust_13 (v := 100) (by decide) ?_
    obtain ⟨o4, e4, hf⟩ := bind_some hf
    refine rs_inS i_X7_dust_15 (by decide) m_X7_within rfl (As := [.int v2, .int 0, .int 100]) (rest := []) rfl rfl (Nat.le_of_ble_eq_true rfl) (c_X7_within (by omega) e4) (st' := [.int o4.1]) rfl ?_
    by_cases c5 : o4.1 ≠ 0
    · replace hf := (if_pos c5).symm.trans hf
      refine rs_ifT i_X7_dust_18 (ct_ne c5) (tg := 24) (by decide) ?_
      refine rs_aload_n i_X7_dust_24 rfl ?_
      refine rs_aload_n i_X7_dust_25 rfl ?_
      obtain ⟨c6, hf⟩ := ite_some hf
      obtain ⟨a7, e7, hf⟩ := bind_some hf
      refine rs_getR i_X7_dust_26 (by decide) (by decide) c6 e7 ?_
      refine rs_iload_n i_X7_dust_29 rfl ?_
      refine rs_iconst i_X7_dust_30 (v := (-1)) (by decide) ?_
      refine rs_iconst i_X7_dust_31 (v := (-1)) (by decide) ?_
      obtain ⟨o8, e8, hf⟩ := bind_some hf
      refine rs_inV i_X7_dust_32 m_X7_make rfl (As := [.ref a7, .int v1, .int (-1), .int (-1)]) (rest := []) rfl rfl (Nat.le_of_ble_eq_true rfl) c6 (c_X7_make (by omega) e8) (st' := []) rfl ?_
      refine rs_iconst i_X7_dust_35 (v := 0) (by decide) ?_
      refine rs_istore_n i_X7_dust_36 (Nat.le_of_ble_eq_true rfl) (lv' := [some (.ref v0), some (.int v1), some (.int v2), some (.int 0)]) rfl ?_
      exact r_X7_dust_37 hd _ _ _ _ _ _ _ hf
    · replace hf := (if_neg c5).symm.trans hf
      refine rs_ifF i_X7_dust_18 (cf_ne c5) ?_
      refine rs_bipush i_X7_dust_21 (v := (-7)) (by decide) ?_
      have hf := Option.some.inj hf
      subst hf
      exact rs_iret i_X7_dust_23 m_X7_dust rfl
  · replace hf := (if_neg c3).symm.trans hf
    refine rs_ifF i_X7_dust_5 (cf_ne c3) ?_
    refine rs_bipush i_X7_dust_8 (v := (-5)) (by decide) ?_
    have hf := Option.some.inj hf
    subst hf
    exact rs_iret i_X7_dust_10 m_X7_dust rfl
def f_X7_dust (n : Nat) (v0 : Nat) (v1 : Int32) (v2 : Int32) (h : Hp) : Option (Int32 × Hp) := f_X7_dust_0 n v0 v1 v2 h
theorem c_X7_dust {X : Nat → Int32} {d : Nat} (hd : 7 ≤ d) {n : Nat} {v0 : Nat} {v1 : Int32} {v2 : Int32} {h : Hp} {o : (Int32 × Hp)} (hf : f_X7_dust n v0 v1 v2 h = some o) : Calls X d 84 [.ref v0, .int v1, .int v2] h (some (.int o.1), o.2) := by
  obtain ⟨d, rfl⟩ : ∃ z, d = z + 1 := ⟨d - 1, by omega⟩
  exact ⟨_, rfl, r_X7_dust_0 hd hf⟩
theorem i_X7_doublings_0 : fetch 85 0 = some (.aload_n 0, 1, 0, 0, 0, 0) := by decide +kernel
theorem i_X7_doublings_1 : fetch 85 1 = some (.iload_n 1, 2, 0, 0, 0, 0) := by decide +kernel
theorem i_X7_doublings_2 : fetch 85 2 = some (.invokevirtual 151, 5, 113, 0, 0, 584) := by decide +kernel
theorem i_X7_doublings_5 : fetch 85 5 = some (.ifCond .ne 6, 8, 0, 0, 0, 0) := by decide +kernel
theorem i_X7_doublings_8 : fetch 85 8 = some (.bipush (-5), 10, 0, 0, 0, 0) := by decide +kernel
theorem i_X7_doublings_10 : fetch 85 10 = some (.ireturn, 11, 0, 0, 0, 0) := by decide +kernel
theorem i_X7_doublings_11 : fetch 85 11 = some (.iload_n 2, 12, 0, 0, 0, 0) := by decide +kernel
theorem i_X7_doublings_12 : fetch 85 12 = some (.iconst 1, 13, 0, 0, 0, 0) := by decide +kernel
theorem i_X7_doublings_13 : fetch 85 13 = some (.bipush 9, 15, 0, 0, 0, 0) := by decide +kernel
theorem i_X7_doublings_15 : fetch 85 15 = some (.invokestatic 112, 18, 110, 0, 0, 534) := by decide +kernel
theorem i_X7_doublings_18 : fetch 85 18 = some (.ifCond .eq 14, 21, 0, 0, 0, 0) := by decide +kernel
theorem i_X7_doublings_21 : fetch 85 21 = some (.iload_n 3, 22, 0, 0, 0, 0) := by decide +kernel
theorem i_X7_doublings_22 : fetch 85 22 = some (.iconst 1, 23, 0, 0, 0, 0) := by decide +kernel
theorem i_X7_doublings_23 : fetch 85 23 = some (.sipush 9999, 26, 0, 0, 0, 0) := by decide +kernel
theorem i_X7_doublings_26 : fetch 85 26 = some (.invokestatic 112, 29, 110, 0, 0, 534) := by decide +kernel
theorem i_X7_doublings_29 : fetch 85 29 = some (.ifCond .ne 6, 32, 0, 0, 0, 0) := by decide +kernel
theorem i_X7_doublings_32 : fetch 85 32 = some (.bipush (-7), 34, 0, 0, 0, 0) := by decide +kernel
theorem i_X7_doublings_34 : fetch 85 34 = some (.ireturn, 35, 0, 0, 0, 0) := by decide +kernel
theorem i_X7_doublings_35 : fetch 85 35 = some (.aload_n 0, 36, 0, 0, 0, 0) := by decide +kernel
theorem i_X7_doublings_36 : fetch 85 36 = some (.aload_n 0, 37, 0, 0, 0, 0) := by decide +kernel
theorem i_X7_doublings_37 : fetch 85 37 = some (.getfield 10, 40, 7, 0, 0, 483) := by decide +kernel
theorem i_X7_doublings_40 : fetch 85 40 = some (.iload_n 1, 41, 0, 0, 0, 0) := by decide +kernel
theorem i_X7_doublings_41 : fetch 85 41 = some (.iconst (-1), 42, 0, 0, 0, 0) := by decide +kernel
theorem i_X7_doublings_42 : fetch 85 42 = some (.iconst (-1), 43, 0, 0, 0, 0) := by decide +kernel
theorem i_X7_doublings_43 : fetch 85 43 = some (.invokevirtual 154, 46, 118, 0, 0, 588) := by decide +kernel
theorem i_X7_doublings_46 : fetch 85 46 = some (.iconst 0, 47, 0, 0, 0, 0) := by decide +kernel
theorem i_X7_doublings_47 : fetch 85 47 = some (.istore 4, 49, 0, 0, 0, 0) := by decide +kernel
theorem i_X7_doublings_49 : fetch 85 49 = some (.iload 4, 51, 0, 0, 0, 0) := by decide +kernel
theorem i_X7_doublings_51 : fetch 85 51 = some (.bipush 20, 53, 0, 0, 0, 0) := by decide +kernel
theorem i_X7_doublings_53 : fetch 85 53 = some (.if_icmp .ge 52, 56, 0, 0, 0, 0) := by decide +kernel
theorem i_X7_doublings_56 : fetch 85 56 = some (.aload_n 0, 57, 0, 0, 0, 0) := by decide +kernel
theorem i_X7_doublings_57 : fetch 85 57 = some (.getfield 82, 60, 7, 7, 0, 490) := by decide +kernel
theorem i_X7_doublings_60 : fetch 85 60 = some (.aload_n 0, 61, 0, 0, 0, 0) := by decide +kernel
theorem i_X7_doublings_61 : fetch 85 61 = some (.getfield 82, 64, 7, 7, 0, 490) := by decide +kernel
theorem i_X7_doublings_64 : fetch 85 64 = some (.invokevirtual 182, 67, 44, 0, 0, 722) := by decide +kernel
theorem i_X7_doublings_67 : fetch 85 67 = some (.iload_n 2, 68, 0, 0, 0, 0) := by decide +kernel
theorem i_X7_doublings_68 : fetch 85 68 = some (.invokevirtual 232, 71, 32, 0, 0, 759) := by decide +kernel
theorem i_X7_doublings_71 : fetch 85 71 = some (.aload_n 0, 72, 0, 0, 0, 0) := by decide +kernel
theorem i_X7_doublings_72 : fetch 85 72 = some (.getfield 82, 75, 7, 7, 0, 490) := by decide +kernel
theorem i_X7_doublings_75 : fetch 85 75 = some (.invokevirtual 239, 78, 35, 0, 0, 778) := by decide +kernel
theorem i_X7_doublings_78 : fetch 85 78 = some (.aload_n 0, 79, 0, 0, 0, 0) := by decide +kernel
theorem i_X7_doublings_79 : fetch 85 79 = some (.getfield 82, 82, 7, 7, 0, 490) := by decide +kernel
theorem i_X7_doublings_82 : fetch 85 82 = some (.aload_n 0, 83, 0, 0, 0, 0) := by decide +kernel
theorem i_X7_doublings_83 : fetch 85 83 = some (.getfield 82, 86, 7, 7, 0, 490) := by decide +kernel
theorem i_X7_doublings_86 : fetch 85 86 = some (.invokevirtual 170, 89, 40, 0, 0, 707) := by decide +kernel
theorem i_X7_doublings_89 : fetch 85 89 = some (.invokevirtual 158, 92, 39, 0, 0, 700) := by decide +kernel
theorem i_X7_doublings_92 : fetch 85 92 = some (.iload_n 3, 93, 0, 0, 0, 0) := by decide +kernel
theorem i_X7_doublings_93 : fetch 85 93 = some (.if_icmp .ge 6, 96, 0, 0, 0, 0) := by decide +kernel
theorem i_X7_doublings_96 : fetch 85 96 = some (.iload 4, 98, 0, 0, 0, 0) := by decide +kernel
theorem i_X7_doublings_98 : fetch 85 98 = some (.ireturn, 99, 0, 0, 0, 0) := by decide +kernel
theorem i_X7_doublings_99 : fetch 85 99 = some (.iinc 4 1, 102, 0, 0, 0, 0) := by decide +kernel
theorem i_X7_doublings_102 : fetch 85 102 = some (.goto (-53), 105, 0, 0, 0, 0) := by decide +kernel
theorem i_X7_doublings_105 : fetch 85 105 = some (.bipush 20, 107, 0, 0, 0, 0) := by decide +kernel
theorem i_X7_doublings_107 : fetch 85 107 = some (.ireturn, 108, 0, 0, 0, 0) := by decide +kernel
def f_X7_doublings_49 (n : Nat) : Nat → Nat → Int32 → Int32 → Int32 → Hp → Option (Int32 × Hp)
  | 0, _, _, _, _, _ => none
  | m + 1, v0, v2, v3, v4, h =>
    if 20 ≤ v4 then
      some (20, h)
    else
      if okO h v0 7 then
      (gR h v0 7).bind fun a3 =>
      if okO h a3 3 then
      (f_X3_allLength n a3 h).bind fun o4 =>
      if okO o4.2 a3 3 then
      (f_X3_draw n a3 o4.1 v2 o4.2).bind fun o6 =>
      if okO o6 v0 7 then
      (gR o6 v0 7).bind fun a9 =>
      if okO o6 a9 3 then
      (f_X3_fold n a9 o6).bind fun o10 =>
      if okO o10 v0 7 then
      (gR o10 v0 7).bind fun a13 =>
      if okO o10 a13 3 then
      (f_X3_thinnest n a13 o10).bind fun o14 =>
      if okO o14.2 a13 3 then
      (f_X3_thick a13 o14.1 o14.2).bind fun o16 =>
      if v3 ≤ o16.1 then
        (f_X7_doublings_49 n m) v0 v2 v3 (v4 + 1) o16.2
      else
        some (v4, o16.2)
      else none
      else none
      else none
      else none
      else none
      else none
      else none
      else none
set_option maxRecDepth 100000 in
set_option maxHeartbeats 4000000 in
theorem r_X7_doublings_49 {X : Nat → Int32} {d : Nat} (hd : 7 ≤ (d + 1)) {n : Nat} : ∀ (m : Nat) (v0 : Nat) (v2 : Int32) (v3 : Int32) (v4 : Int32) (d1 : Int32) (h : Hp) (o : (Int32 × Hp)), f_X7_doublings_49 n m v0 v2 v3 v4 h = some o → Run X (d + 1) 85 49 [some (.ref v0), some (.int d1), some (.int v2), some (.int v3), some (.int v4)] [] h (some (.int o.1), o.2) := by
  intro m
  induction m with
  | zero => intro v0 v2 v3 v4 d1 h o hf; cases hf
  | succ m ih =>
    intro v0 v2 v3 v4 d1 h o hf
    rw [f_X7_doublings_49] at hf
    refine rs_iload i_X7_doublings_49 rfl ?_
    refine rs_bipush i_X7_doublings_51 (v := 20) (by decide) ?_
    by_cases c1 : 20 ≤ v4
    · replace hf := (if_pos c1).symm.trans hf
      refine rs_icT i_X7_doublings_53 (ct_ge c1) (tg := 105) (by decide) ?_
      refine rs_bipush i_X7_doublings_105 (v := 20) (by decide) ?_
      have hf := Option.some.inj hf
      subst hf
      exact rs_iret i_X7_doublings_107 m_X7_doublings rfl
    · replace hf := (if_neg c1).symm.trans hf
      refine rs_icF i_X7_doublings_53 (cf_ge c1) ?_
      refine rs_aload_n i_X7_doublings_56 rfl ?_
      obtain ⟨c2, hf⟩ := ite_some hf
      obtain ⟨a3, e3, hf⟩ := bind_some hf
      refine rs_getR i_X7_doublings_57 (by decide) (by decide) c2 e3 ?_
      refine rs_aload_n i_X7_doublings_60 rfl ?_
      refine rs_getR i_X7_doublings_61 (by decide) (by decide) c2 e3 ?_
      obtain ⟨c5, hf⟩ := ite_some hf
      obtain ⟨o4, e4, hf⟩ := bind_some hf
      refine rs_inV i_X7_doublings_64 m_X3_allLength rfl (As := []) (rest := [.ref a3]) rfl rfl (Nat.le_of_ble_eq_true rfl) c5 (c_X3_allLength (by omega) e4) (st' := [.long o4.1, .ref a3]) rfl ?_
      refine rs_iload_n i_X7_doublings_67 rfl ?_
      obtain ⟨c7, hf⟩ := ite_some hf
      obtain ⟨o6, e6, hf⟩ := bind_some hf
      refine rs_inV i_X7_doublings_68 m_X3_draw rfl (As := [.long o4.1, .int v2]) (rest := []) rfl rfl (Nat.le_of_ble_eq_true rfl) c7 (c_X3_draw (by omega) e6) (st' := []) rfl ?_
      refine rs_aload_n i_X7_doublings_71 rfl ?_
      obtain ⟨c8, hf⟩ := ite_some hf
      obtain ⟨a9, e9, hf⟩ := bind_some hf
      refine rs_getR i_X7_doublings_72 (by decide) (by decide) c8 e9 ?_
      obtain ⟨c11, hf⟩ := ite_some hf
      obtain ⟨o10, e10, hf⟩ := bind_some hf
      refine rs_inV i_X7_doublings_75 m_X3_fold rfl (As := []) (rest := []) rfl rfl (Nat.le_of_ble_eq_true rfl) c11 (c_X3_fold (by omega) e10) (st' := []) rfl ?_
      refine rs_aload_n i_X7_doublings_78 rfl ?_
      obtain ⟨c12, hf⟩ := ite_some hf
      obtain ⟨a13, e13, hf⟩ := bind_some hf
      refine rs_getR i_X7_doublings_79 (by decide) (by decide) c12 e13 ?_
      refine rs_aload_n i_X7_doublings_82 rfl ?_
      refine rs_getR i_X7_doublings_83 (by decide) (by decide) c12 e13 ?_
      obtain ⟨c15, hf⟩ := ite_some hf
      obtain ⟨o14, e14, hf⟩ := bind_some hf
      refine rs_inV i_X7_doublings_86 m_X3_thinnest rfl (As := []) (rest := [.ref a13]) rfl rfl (Nat.le_of_ble_eq_true rfl) c15 (c_X3_thinnest (by omega) e14) (st' := [.int o14.1, .ref a13]) rfl ?_
      obtain ⟨c17, hf⟩ := ite_some hf
      obtain ⟨o16, e16, hf⟩ := bind_some hf
      refine rs_inV i_X7_doublings_89 m_X3_thick rfl (As := [.int o14.1]) (rest := []) rfl rfl (Nat.le_of_ble_eq_true rfl) c17 (c_X3_thick (by omega) e16) (st' := [.int o16.1]) rfl ?_
      refine rs_iload_n i_X7_doublings_92 rfl ?_
      by_cases c18 : v3 ≤ o16.1
      · replace hf := (if_pos c18).symm.trans hf
        refine rs_icT i_X7_doublings_93 (ct_ge c18) (tg := 99) (by decide) ?_
        refine rs_iinc i_X7_doublings_99 rfl (v := v4 + 1) rfl (Nat.le_of_ble_eq_true rfl) (lv' := [some (.ref v0), some (.int d1), some (.int v2), some (.int v3), some (.int (v4 + 1))]) rfl ?_
        refine rs_goto i_X7_doublings_102 (tg := 49) (by decide) ?_
        exact ih _ _ _ _ _ _ _ hf
      · replace hf := (if_neg c18).symm.trans hf
        refine rs_icF i_X7_doublings_93 (cf_ge c18) ?_
        refine rs_iload i_X7_doublings_96 rfl ?_
        have hf := Option.some.inj hf
        subst hf
        exact rs_iret i_X7_doublings_98 m_X7_doublings rfl
def f_X7_doublings_0 (n : Nat) (v0 : Nat) (v1 : Int32) (v2 : Int32) (v3 : Int32) (h : Hp) : Option (Int32 × Hp) :=
  if okO h v0 7 then
  (f_X7_areSteps v0 v1 h).bind fun o1 =>
  if o1.1 ≠ 0 then
    (f_X7_within v2 1 9 o1.2).bind fun o4 =>
    if o4.1 = 0 then
      some ((-7), o4.2)
    else
      (f_X7_within v3 1 9999 o4.2).bind fun o6 =>
      if o6.1 ≠ 0 then
        if okO o6.2 v0 7 then
        (gR o6.2 v0 0).bind fun a9 =>
        (f_X7_make n v0 a9 v1 (-1) (-1) o6.2).bind fun o10 =>
        f_X7_doublings_49 n n v0 v2 v3 0 o10
        else none
      else
        some ((-7), o6.2)
  else
    some ((-5), o1.2)
  else none
set_option maxRecDepth 100000 in
set_option maxHeartbeats 4000000 in
theorem r_X7_doublings_0 {X : Nat → Int32} {d : Nat} (hd : 7 ≤ (d + 1)) {n : Nat} {v0 : Nat} {v1 : Int32} {v2 : Int32} {v3 : Int32} {h : Hp} {o : (Int32 × Hp)} (hf : f_X7_doublings_0 n v0 v1 v2 v3 h = some o) : Run X (d + 1) 85 0 [some (.ref v0), some (.int v1), some (.int v2), some (.int v3), none] [] h (some (.int o.1), o.2) := by
  unfold f_X7_doublings_0 at hf
  refine rs_aload_n i_X7_doublings_0 rfl ?_
  refine rs_iload_n i_X7_doublings_1 rfl ?_
  obtain ⟨c2, hf⟩ := ite_some hf
  obtain ⟨o1, e1, hf⟩ := bind_some hf
  refine rs_inV i_X7_doublings_2 m_X7_areSteps rfl (As := [.int v1]) (rest := []) rfl rfl (Nat.le_of_ble_eq_true rfl) c2 (c_X7_areSteps (by omega) e1) (st' := [.int o1.1]) rfl ?_
  by_cases c3 : o1.1 ≠ 0
  · replace hf := (if_pos c3).symm.trans hf
    refine rs_ifT i_X7_doublings_5 (ct_ne c3) (tg := 11) (by decide) ?_
    refine rs_iload_n i_X7_doublings_11 rfl ?_
    refine rs_iconst i_X7_doublings_12 (v := 1) (by decide) ?_
    refine rs_bipush i_X7_doublings_13 (v := 9) (by decide) ?_
    obtain ⟨o4, e4, hf⟩ := bind_some hf
    refine rs_inS i_X7_doublings_15 (by decide) m_X7_within rfl (As := [.int v2, .int 1, .int 9]) (rest := []) rfl rfl (Nat.le_of_ble_eq_true rfl) (c_X7_within (by omega) e4) (st' := [.int o4.1]) rfl ?_
    by_cases c5 : o4.1 = 0
    · replace hf := (if_pos c5).symm.trans hf
      refine rs_ifT i_X7_doublings_18 (ct_eq c5) (tg := 32) (by decide) ?_
      refine rs_bipush i_X7_doublings_32 (v := (-7)) (by decide) ?_
      have hf := Option.some.inj hf
      subst hf
      exact rs_iret i_X7_doublings_34 m_X7_doublings rfl
    · replace hf := (if_neg c5).symm.trans hf
      refine rs_ifF i_X7_doublings_18 (cf_eq c5) ?_
      refine rs_iload_n i_X7_doublings_21 rfl ?_
      refine rs_iconst i_X7_doublings_22 (v := 1) (by decide) ?_
      refine rs_sipush i_X7_doublings_23 (v := 9999) (by decide) ?_
      obtain ⟨o6, e6, hf⟩ := bind_some hf
      refine rs_inS i_X7_doublings_26 (by decide) m_X7_within rfl (As := [.int v3, .int 1, .int 9999]) (rest := []) rfl rfl (Nat.le_of_ble_eq_true rfl) (c_X7_within (by omega) e6) (st' := [.int o6.1]) rfl ?_
      by_cases c7 : o6.1 ≠ 0
      · replace hf := (if_pos c7).symm.trans hf
        refine rs_ifT i_X7_doublings_29 (ct_ne c7) (tg := 35) (by decide) ?_
        refine rs_aload_n i_X7_doublings_35 rfl ?_
        refine rs_aload_n i_X7_doublings_36 rfl ?_
        obtain ⟨c8, hf⟩ := ite_some hf
        obtain ⟨a9, e9, hf⟩ := bind_some hf
        refine rs_getR i_X7_doublings_37 (by decide) (by decide) c8 e9 ?_
        refine rs_iload_n i_X7_doublings_40 rfl ?_
        refine rs_iconst i_X7_doublings_41 (v := (-1)) (by decide) ?_
        refine rs_iconst i_X7_doublings_42 (v := (-1)) (by decide) ?_
        obtain ⟨o10, e10, hf⟩ := bind_some hf
        refine rs_inV i_X7_doublings_43 m_X7_make rfl (As := [.ref a9, .int v1, .int (-1), .int (-1)]) (rest := []) rfl rfl (Nat.le_of_ble_eq_true rfl) c8 (c_X7_make (by omega) e10) (st' := []) rfl ?_
        refine rs_iconst i_X7_doublings_46 (v := 0) (by decide) ?_
        refine rs_istore i_X7_doublings_47 (Nat.le_of_ble_eq_true rfl) (lv' := [some (.ref v0), some (.int v1), some (.int v2), some (.int v3), some (.int 0)]) rfl ?_
        exact r_X7_doublings_49 hd _ _ _ _ _ _ _ _ hf
      · replace hf := (if_neg c7).symm.trans hf
        refine rs_ifF i_X7_doublings_29 (cf_ne c7) ?_
        refine rs_bipush i_X7_doublings_32 (v := (-7)) (by decide) ?_
        have hf := Option.some.inj hf
        subst hf
        exact rs_iret i_X7_doublings_34 m_X7_doublings rfl
  · replace hf := (if_neg c3).symm.trans hf
    refine rs_ifF i_X7_doublings_5 (cf_ne c3) ?_
    refine rs_bipush i_X7_doublings_8 (v := (-5)) (by decide) ?_
    have hf := Option.some.inj hf
    subst hf
    exact rs_iret i_X7_doublings_10 m_X7_doublings rfl
def f_X7_doublings (n : Nat) (v0 : Nat) (v1 : Int32) (v2 : Int32) (v3 : Int32) (h : Hp) : Option (Int32 × Hp) := f_X7_doublings_0 n v0 v1 v2 v3 h
theorem c_X7_doublings {X : Nat → Int32} {d : Nat} (hd : 7 ≤ d) {n : Nat} {v0 : Nat} {v1 : Int32} {v2 : Int32} {v3 : Int32} {h : Hp} {o : (Int32 × Hp)} (hf : f_X7_doublings n v0 v1 v2 v3 h = some o) : Calls X d 85 [.ref v0, .int v1, .int v2, .int v3] h (some (.int o.1), o.2) := by
  obtain ⟨d, rfl⟩ : ∃ z, d = z + 1 := ⟨d - 1, by omega⟩
  exact ⟨_, rfl, r_X7_doublings_0 hd hf⟩
theorem i_X7_isSheet_0 : fetch 114 0 = some (.iload_n 0, 1, 0, 0, 0, 0) := by decide +kernel
theorem i_X7_isSheet_1 : fetch 114 1 = some (.iconst 0, 2, 0, 0, 0, 0) := by decide +kernel
theorem i_X7_isSheet_2 : fetch 114 2 = some (.iconst 3, 3, 0, 0, 0, 0) := by decide +kernel
theorem i_X7_isSheet_3 : fetch 114 3 = some (.invokestatic 112, 6, 110, 0, 0, 534) := by decide +kernel
theorem i_X7_isSheet_6 : fetch 114 6 = some (.ireturn, 7, 0, 0, 0, 0) := by decide +kernel
def f_X7_isSheet_0 (v0 : Int32) (h : Hp) : Option (Int32 × Hp) :=
  (f_X7_within v0 0 3 h).bind fun o1 =>
  if o1.1 = 0 ∨ o1.1 = 1 then
  some (o1.1, o1.2)
  else none
set_option maxRecDepth 100000 in
set_option maxHeartbeats 4000000 in
theorem r_X7_isSheet_0 {X : Nat → Int32} {d : Nat} (hd : 1 ≤ (d + 1)) {v0 : Int32} {h : Hp} {o : (Int32 × Hp)} (hf : f_X7_isSheet_0 v0 h = some o) : Run X (d + 1) 114 0 [some (.int v0)] [] h (some (.int o.1), o.2) := by
  unfold f_X7_isSheet_0 at hf
  refine rs_iload_n i_X7_isSheet_0 rfl ?_
  refine rs_iconst i_X7_isSheet_1 (v := 0) (by decide) ?_
  refine rs_iconst i_X7_isSheet_2 (v := 3) (by decide) ?_
  obtain ⟨o1, e1, hf⟩ := bind_some hf
  refine rs_inS i_X7_isSheet_3 (by decide) m_X7_within rfl (As := [.int v0, .int 0, .int 3]) (rest := []) rfl rfl (Nat.le_of_ble_eq_true rfl) (c_X7_within (by omega) e1) (st' := [.int o1.1]) rfl ?_
  obtain ⟨c2, hf⟩ := ite_some hf
  have hf := Option.some.inj hf
  subst hf
  exact rs_iret i_X7_isSheet_6 m_X7_isSheet (decide_eq_true c2)
def f_X7_isSheet (v0 : Int32) (h : Hp) : Option (Int32 × Hp) := f_X7_isSheet_0 v0 h
theorem c_X7_isSheet {X : Nat → Int32} {d : Nat} (hd : 1 ≤ d) {v0 : Int32} {h : Hp} {o : (Int32 × Hp)} (hf : f_X7_isSheet v0 h = some o) : Calls X d 114 [.int v0] h (some (.int o.1), o.2) := by
  obtain ⟨d, rfl⟩ : ∃ z, d = z + 1 := ⟨d - 1, by omega⟩
  exact ⟨_, rfl, r_X7_isSheet_0 hd hf⟩
theorem i_X7_refusalOfTest_0 : fetch 117 0 = some (.aload_n 0, 1, 0, 0, 0, 0) := by decide +kernel
theorem i_X7_refusalOfTest_1 : fetch 117 1 = some (.iload_n 1, 2, 0, 0, 0, 0) := by decide +kernel
theorem i_X7_refusalOfTest_2 : fetch 117 2 = some (.invokevirtual 151, 5, 113, 0, 0, 584) := by decide +kernel
theorem i_X7_refusalOfTest_5 : fetch 117 5 = some (.ifCond .ne 6, 8, 0, 0, 0, 0) := by decide +kernel
theorem i_X7_refusalOfTest_8 : fetch 117 8 = some (.bipush (-5), 10, 0, 0, 0, 0) := by decide +kernel
theorem i_X7_refusalOfTest_10 : fetch 117 10 = some (.ireturn, 11, 0, 0, 0, 0) := by decide +kernel
theorem i_X7_refusalOfTest_11 : fetch 117 11 = some (.iload_n 2, 12, 0, 0, 0, 0) := by decide +kernel
theorem i_X7_refusalOfTest_12 : fetch 117 12 = some (.invokestatic 250, 15, 114, 0, 0, 791) := by decide +kernel
theorem i_X7_refusalOfTest_15 : fetch 117 15 = some (.ifCond .ne 6, 18, 0, 0, 0, 0) := by decide +kernel
theorem i_X7_refusalOfTest_18 : fetch 117 18 = some (.bipush (-2), 20, 0, 0, 0, 0) := by decide +kernel
theorem i_X7_refusalOfTest_20 : fetch 117 20 = some (.ireturn, 21, 0, 0, 0, 0) := by decide +kernel
theorem i_X7_refusalOfTest_21 : fetch 117 21 = some (.aload_n 0, 22, 0, 0, 0, 0) := by decide +kernel
theorem i_X7_refusalOfTest_22 : fetch 117 22 = some (.getfield 43, 25, 7, 9, 0, 492) := by decide +kernel
theorem i_X7_refusalOfTest_25 : fetch 117 25 = some (.iload_n 2, 26, 0, 0, 0, 0) := by decide +kernel
theorem i_X7_refusalOfTest_26 : fetch 117 26 = some (.aaload, 27, 0, 0, 0, 0) := by decide +kernel
theorem i_X7_refusalOfTest_27 : fetch 117 27 = some (.getfield 302, 30, 4, 1, 0, 192) := by decide +kernel
theorem i_X7_refusalOfTest_30 : fetch 117 30 = some (.iconst (-1), 31, 0, 0, 0, 0) := by decide +kernel
theorem i_X7_refusalOfTest_31 : fetch 117 31 = some (.if_icmp .ne 6, 34, 0, 0, 0, 0) := by decide +kernel
theorem i_X7_refusalOfTest_34 : fetch 117 34 = some (.bipush (-11), 36, 0, 0, 0, 0) := by decide +kernel
theorem i_X7_refusalOfTest_36 : fetch 117 36 = some (.ireturn, 37, 0, 0, 0, 0) := by decide +kernel
theorem i_X7_refusalOfTest_37 : fetch 117 37 = some (.aload_n 0, 38, 0, 0, 0, 0) := by decide +kernel
theorem i_X7_refusalOfTest_38 : fetch 117 38 = some (.getfield 43, 41, 7, 9, 0, 492) := by decide +kernel
theorem i_X7_refusalOfTest_41 : fetch 117 41 = some (.iload_n 2, 42, 0, 0, 0, 0) := by decide +kernel
theorem i_X7_refusalOfTest_42 : fetch 117 42 = some (.aaload, 43, 0, 0, 0, 0) := by decide +kernel
theorem i_X7_refusalOfTest_43 : fetch 117 43 = some (.getfield 324, 46, 4, 2, 0, 194) := by decide +kernel
theorem i_X7_refusalOfTest_46 : fetch 117 46 = some (.bipush 12, 48, 0, 0, 0, 0) := by decide +kernel
theorem i_X7_refusalOfTest_48 : fetch 117 48 = some (.if_icmp .ne 7, 51, 0, 0, 0, 0) := by decide +kernel
theorem i_X7_refusalOfTest_51 : fetch 117 51 = some (.iconst 0, 52, 0, 0, 0, 0) := by decide +kernel
theorem i_X7_refusalOfTest_52 : fetch 117 52 = some (.goto 5, 55, 0, 0, 0, 0) := by decide +kernel
theorem i_X7_refusalOfTest_55 : fetch 117 55 = some (.bipush (-2), 57, 0, 0, 0, 0) := by decide +kernel
theorem i_X7_refusalOfTest_57 : fetch 117 57 = some (.ireturn, 58, 0, 0, 0, 0) := by decide +kernel
def f_X7_refusalOfTest_0 (v0 : Nat) (v1 : Int32) (v2 : Int32) (h : Hp) : Option (Int32 × Hp) :=
  if okO h v0 7 then
  (f_X7_areSteps v0 v1 h).bind fun o1 =>
  if o1.1 ≠ 0 then
    (f_X7_isSheet v2 o1.2).bind fun o4 =>
    if o4.1 ≠ 0 then
      if okO o4.2 v0 7 then
      (gR o4.2 v0 9).bind fun a7 =>
      if okR o4.2 a7 v2 then
      (gR o4.2 a7 (ix v2)).bind fun a9 =>
      if okO o4.2 a9 4 then
      if (gI o4.2 a9 1) ≠ (-1) then
        (gR o4.2 a7 (ix v2)).bind fun a12 =>
        if okO o4.2 a12 4 then
        if (gI o4.2 a12 2) ≠ 12 then
          some ((-2), o4.2)
        else
          some (0, o4.2)
        else none
      else
        some ((-11), o4.2)
      else none
      else none
      else none
    else
      some ((-2), o4.2)
  else
    some ((-5), o1.2)
  else none
set_option maxRecDepth 100000 in
set_option maxHeartbeats 4000000 in
theorem r_X7_refusalOfTest_0 {X : Nat → Int32} {d : Nat} (hd : 2 ≤ (d + 1)) {v0 : Nat} {v1 : Int32} {v2 : Int32} {h : Hp} {o : (Int32 × Hp)} (hf : f_X7_refusalOfTest_0 v0 v1 v2 h = some o) : Run X (d + 1) 117 0 [some (.ref v0), some (.int v1), some (.int v2)] [] h (some (.int o.1), o.2) := by
  unfold f_X7_refusalOfTest_0 at hf
  refine rs_aload_n i_X7_refusalOfTest_0 rfl ?_
  refine rs_iload_n i_X7_refusalOfTest_1 rfl ?_
  obtain ⟨c2, hf⟩ := ite_some hf
  obtain ⟨o1, e1, hf⟩ := bind_some hf
  refine rs_inV i_X7_refusalOfTest_2 m_X7_areSteps rfl (As := [.int v1]) (rest := []) rfl rfl (Nat.le_of_ble_eq_true rfl) c2 (c_X7_areSteps (by omega) e1) (st' := [.int o1.1]) rfl ?_
  by_cases c3 : o1.1 ≠ 0
  · replace hf := (if_pos c3).symm.trans hf
    refine rs_ifT i_X7_refusalOfTest_5 (ct_ne c3) (tg := 11) (by decide) ?_
    refine rs_iload_n i_X7_refusalOfTest_11 rfl ?_
    obtain ⟨o4, e4, hf⟩ := bind_some hf
    refine rs_inS i_X7_refusalOfTest_12 (by decide) m_X7_isSheet rfl (As := [.int v2]) (rest := []) rfl rfl (Nat.le_of_ble_eq_true rfl) (c_X7_isSheet (by omega) e4) (st' := [.int o4.1]) rfl ?_
    by_cases c5 : o4.1 ≠ 0
    · replace hf := (if_pos c5).symm.trans hf
      refine rs_ifT i_X7_refusalOfTest_15 (ct_ne c5) (tg := 21) (by decide) ?_
      refine rs_aload_n i_X7_refusalOfTest_21 rfl ?_
      obtain ⟨c6, hf⟩ := ite_some hf
      obtain ⟨a7, e7, hf⟩ := bind_some hf
      refine rs_getR i_X7_refusalOfTest_22 (by decide) (by decide) c6 e7 ?_
      refine rs_iload_n i_X7_refusalOfTest_25 rfl ?_
      obtain ⟨c8, hf⟩ := ite_some hf
      obtain ⟨a9, e9, hf⟩ := bind_some hf
      refine rs_aald i_X7_refusalOfTest_26 c8 e9 ?_
      obtain ⟨c10, hf⟩ := ite_some hf
      refine rs_getI i_X7_refusalOfTest_27 (by decide) (by decide) c10 ?_
      refine rs_iconst i_X7_refusalOfTest_30 (v := (-1)) (by decide) ?_
      by_cases c11 : (gI o4.2 a9 1) ≠ (-1)
      · replace hf := (if_pos c11).symm.trans hf
        refine rs_icT i_X7_refusalOfTest_31 (ct_ne c11) (tg := 37) (by decide) ?_
        refine rs_aload_n i_X7_refusalOfTest_37 rfl ?_
        refine rs_getR i_X7_refusalOfTest_38 (by decide) (by decide) c6 e7 ?_
        refine rs_iload_n i_X7_refusalOfTest_41 rfl ?_
        obtain ⟨a12, e12, hf⟩ := bind_some hf
        refine rs_aald i_X7_refusalOfTest_42 c8 e12 ?_
        obtain ⟨c13, hf⟩ := ite_some hf
        refine rs_getI i_X7_refusalOfTest_43 (by decide) (by decide) c13 ?_
        refine rs_bipush i_X7_refusalOfTest_46 (v := 12) (by decide) ?_
        by_cases c14 : (gI o4.2 a12 2) ≠ 12
        · replace hf := (if_pos c14).symm.trans hf
          refine rs_icT i_X7_refusalOfTest_48 (ct_ne c14) (tg := 55) (by decide) ?_
          refine rs_bipush i_X7_refusalOfTest_55 (v := (-2)) (by decide) ?_
          have hf := Option.some.inj hf
          subst hf
          exact rs_iret i_X7_refusalOfTest_57 m_X7_refusalOfTest rfl
        · replace hf := (if_neg c14).symm.trans hf
          refine rs_icF i_X7_refusalOfTest_48 (cf_ne c14) ?_
          refine rs_iconst i_X7_refusalOfTest_51 (v := 0) (by decide) ?_
          refine rs_goto i_X7_refusalOfTest_52 (tg := 57) (by decide) ?_
          have hf := Option.some.inj hf
          subst hf
          exact rs_iret i_X7_refusalOfTest_57 m_X7_refusalOfTest rfl
      · replace hf := (if_neg c11).symm.trans hf
        refine rs_icF i_X7_refusalOfTest_31 (cf_ne c11) ?_
        refine rs_bipush i_X7_refusalOfTest_34 (v := (-11)) (by decide) ?_
        have hf := Option.some.inj hf
        subst hf
        exact rs_iret i_X7_refusalOfTest_36 m_X7_refusalOfTest rfl
    · replace hf := (if_neg c5).symm.trans hf
      refine rs_ifF i_X7_refusalOfTest_15 (cf_ne c5) ?_
      refine rs_bipush i_X7_refusalOfTest_18 (v := (-2)) (by decide) ?_
      have hf := Option.some.inj hf
      subst hf
      exact rs_iret i_X7_refusalOfTest_20 m_X7_refusalOfTest rfl
  · replace hf := (if_neg c3).symm.trans hf
    refine rs_ifF i_X7_refusalOfTest_5 (cf_ne c3) ?_
    refine rs_bipush i_X7_refusalOfTest_8 (v := (-5)) (by decide) ?_
    have hf := Option.some.inj hf
    subst hf
    exact rs_iret i_X7_refusalOfTest_10 m_X7_refusalOfTest rfl
def f_X7_refusalOfTest (v0 : Nat) (v1 : Int32) (v2 : Int32) (h : Hp) : Option (Int32 × Hp) := f_X7_refusalOfTest_0 v0 v1 v2 h
theorem c_X7_refusalOfTest {X : Nat → Int32} {d : Nat} (hd : 2 ≤ d) {v0 : Nat} {v1 : Int32} {v2 : Int32} {h : Hp} {o : (Int32 × Hp)} (hf : f_X7_refusalOfTest v0 v1 v2 h = some o) : Calls X d 117 [.ref v0, .int v1, .int v2] h (some (.int o.1), o.2) := by
  obtain ⟨d, rfl⟩ : ∃ z, d = z + 1 := ⟨d - 1, by omega⟩
  exact ⟨_, rfl, r_X7_refusalOfTest_0 hd hf⟩
theorem i_X7_judge_0 : fetch 86 0 = some (.aload_n 0, 1, 0, 0, 0, 0) := by decide +kernel
theorem i_X7_judge_1 : fetch 86 1 = some (.iload_n 1, 2, 0, 0, 0, 0) := by decide +kernel
theorem i_X7_judge_2 : fetch 86 2 = some (.iload_n 2, 3, 0, 0, 0, 0) := by decide +kernel
theorem i_X7_judge_3 : fetch 86 3 = some (.invokevirtual 242, 6, 117, 0, 0, 787) := by decide +kernel
theorem i_X7_judge_6 : fetch 86 6 = some (.istore 4, 8, 0, 0, 0, 0) := by decide +kernel
theorem i_X7_judge_8 : fetch 86 8 = some (.iload 4, 10, 0, 0, 0, 0) := by decide +kernel
theorem i_X7_judge_10 : fetch 86 10 = some (.ifCond .eq 6, 13, 0, 0, 0, 0) := by decide +kernel
theorem i_X7_judge_13 : fetch 86 13 = some (.iload 4, 15, 0, 0, 0, 0) := by decide +kernel
theorem i_X7_judge_15 : fetch 86 15 = some (.ireturn, 16, 0, 0, 0, 0) := by decide +kernel
theorem i_X7_judge_16 : fetch 86 16 = some (.iload_n 3, 17, 0, 0, 0, 0) := by decide +kernel
theorem i_X7_judge_17 : fetch 86 17 = some (.iconst 0, 18, 0, 0, 0, 0) := by decide +kernel
theorem i_X7_judge_18 : fetch 86 18 = some (.sipush 9999, 21, 0, 0, 0, 0) := by decide +kernel
theorem i_X7_judge_21 : fetch 86 21 = some (.invokestatic 112, 24, 110, 0, 0, 534) := by decide +kernel
theorem i_X7_judge_24 : fetch 86 24 = some (.ifCond .ne 6, 27, 0, 0, 0, 0) := by decide +kernel
theorem i_X7_judge_27 : fetch 86 27 = some (.bipush (-7), 29, 0, 0, 0, 0) := by decide +kernel
theorem i_X7_judge_29 : fetch 86 29 = some (.ireturn, 30, 0, 0, 0, 0) := by decide +kernel
theorem i_X7_judge_30 : fetch 86 30 = some (.aload_n 0, 31, 0, 0, 0, 0) := by decide +kernel
theorem i_X7_judge_31 : fetch 86 31 = some (.aload_n 0, 32, 0, 0, 0, 0) := by decide +kernel
theorem i_X7_judge_32 : fetch 86 32 = some (.getfield 10, 35, 7, 0, 0, 483) := by decide +kernel
theorem i_X7_judge_35 : fetch 86 35 = some (.iload_n 1, 36, 0, 0, 0, 0) := by decide +kernel
theorem i_X7_judge_36 : fetch 86 36 = some (.iconst (-1), 37, 0, 0, 0, 0) := by decide +kernel
theorem i_X7_judge_37 : fetch 86 37 = some (.iconst (-1), 38, 0, 0, 0, 0) := by decide +kernel
theorem i_X7_judge_38 : fetch 86 38 = some (.invokevirtual 154, 41, 118, 0, 0, 588) := by decide +kernel
theorem i_X7_judge_41 : fetch 86 41 = some (.aload_n 0, 42, 0, 0, 0, 0) := by decide +kernel
theorem i_X7_judge_42 : fetch 86 42 = some (.getfield 82, 45, 7, 7, 0, 490) := by decide +kernel
theorem i_X7_judge_45 : fetch 86 45 = some (.aload_n 0, 46, 0, 0, 0, 0) := by decide +kernel
theorem i_X7_judge_46 : fetch 86 46 = some (.getfield 43, 49, 7, 9, 0, 492) := by decide +kernel
theorem i_X7_judge_49 : fetch 86 49 = some (.iload_n 2, 50, 0, 0, 0, 0) := by decide +kernel
theorem i_X7_judge_50 : fetch 86 50 = some (.aaload, 51, 0, 0, 0, 0) := by decide +kernel
theorem i_X7_judge_51 : fetch 86 51 = some (.iload_n 3, 52, 0, 0, 0, 0) := by decide +kernel
theorem i_X7_judge_52 : fetch 86 52 = some (.invokevirtual 246, 55, 48, 0, 0, 794) := by decide +kernel
theorem i_X7_judge_55 : fetch 86 55 = some (.ireturn, 56, 0, 0, 0, 0) := by decide +kernel
def f_X7_judge_0 (n : Nat) (v0 : Nat) (v1 : Int32) (v2 : Int32) (v3 : Int32) (h : Hp) : Option (Int32 × Hp) :=
  if okO h v0 7 then
  (f_X7_refusalOfTest v0 v1 v2 h).bind fun o1 =>
  if o1.1 = 0 then
    (f_X7_within v3 0 9999 o1.2).bind fun o4 =>
    if o4.1 ≠ 0 then
      if okO o4.2 v0 7 then
      (gR o4.2 v0 0).bind fun a7 =>
      (f_X7_make n v0 a7 v1 (-1) (-1) o4.2).bind fun o8 =>
      if okO o8 v0 7 then
      (gR o8 v0 7).bind fun a10 =>
      (gR o8 v0 9).bind fun a11 =>
      if okR o8 a11 v2 then
      (gR o8 a11 (ix v2)).bind fun a13 =>
      if okO o8 a10 3 then
      (f_X3_firstOff n a10 a13 v3 o8).bind fun o14 =>
      some (o14.1, o14.2)
      else none
      else none
      else none
      else none
    else
      some ((-7), o4.2)
  else
    some (o1.1, o1.2)
  else none
set_option maxRecDepth 100000 in
set_option maxHeartbeats 4000000 in
theorem r_X7_judge_0 {X : Nat → Int32} {d : Nat} (hd : 7 ≤ (d + 1)) {n : Nat} {v0 : Nat} {v1 : Int32} {v2 : Int32} {v3 : Int32} {h : Hp} {o : (Int32 × Hp)} (hf : f_X7_judge_0 n v0 v1 v2 v3 h = some o) : Run X (d + 1) 86 0 [some (.ref v0), some (.int v1), some (.int v2), some (.int v3), none] [] h (some (.int o.1), o.2) := by
  unfold f_X7_judge_0 at hf
  refine rs_aload_n i_X7_judge_0 rfl ?_
  refine rs_iload_n i_X7_judge_1 rfl ?_
  refine rs_iload_n i_X7_judge_2 rfl ?_
  obtain ⟨c2, hf⟩ := ite_some hf
  obtain ⟨o1, e1, hf⟩ := bind_some hf
  refine rs_inV i_X7_judge_3 m_X7_refusalOfTest rfl (As := [.int v1, .int v2]) (rest := []) rfl rfl (Nat.le_of_ble_eq_true rfl) c2 (c_X7_refusalOfTest (by omega) e1) (st' := [.int o1.1]) rfl ?_
  refine rs_istore i_X7_judge_6 (Nat.le_of_ble_eq_true rfl) (lv' := [some (.ref v0), some (.int v1), some (.int v2), some (.int v3), some (.int o1.1)]) rfl ?_
  refine rs_iload i_X7_judge_8 rfl ?_
  by_cases c3 : o1.1 = 0
  · replace hf := (if_pos c3).symm.trans hf
    refine rs_ifT i_X7_judge_10 (ct_eq c3) (tg := 16) (by decide) ?_
    refine rs_iload_n i_X7_judge_16 rfl ?_
    refine rs_iconst i_X7_judge_17 (v := 0) (by decide) ?_
    refine rs_sipush i_X7_judge_18 (v := 9999) (by decide) ?_
    obtain ⟨o4, e4, hf⟩ := bind_some hf
    refine rs_inS i_X7_judge_21 (by decide) m_X7_within rfl (As := [.int v3, .int 0, .int 9999]) (rest := []) rfl rfl (Nat.le_of_ble_eq_true rfl) (c_X7_within (by omega) e4) (st' := [.int o4.1]) rfl ?_
    by_cases c5 : o4.1 ≠ 0
    · replace hf := (if_pos c5).symm.trans hf
      refine rs_ifT i_X7_judge_24 (ct_ne c5) (tg := 30) (by decide) ?_
      refine rs_aload_n i_X7_judge_30 rfl ?_
      refine rs_aload_n i_X7_judge_31 rfl ?_
      obtain ⟨c6, hf⟩ := ite_some hf
      obtain ⟨a7, e7, hf⟩ := bind_some hf
      refine rs_getR i_X7_judge_32 (by decide) (by decide) c6 e7 ?_
      refine rs_iload_n i_X7_judge_35 rfl ?_
      refine rs_iconst i_X7_judge_36 (v := (-1)) (by decide) ?_
      refine rs_iconst i_X7_judge_37 (v := (-1)) (by decide) ?_
      obtain ⟨o8, e8, hf⟩ := bind_some hf
      refine rs_inV i_X7_judge_38 m_X7_make rfl (As := [.ref a7, .int v1, .int (-1), .int (-1)]) (rest := []) rfl rfl (Nat.le_of_ble_eq_true rfl) c6 (c_X7_make (by omega) e8) (st' := []) rfl ?_
      refine rs_aload_n i_X7_judge_41 rfl ?_
      obtain ⟨c9, hf⟩ := ite_some hf
      obtain ⟨a10, e10, hf⟩ := bind_some hf
      refine rs_getR i_X7_judge_42 (by decide) (by decide) c9 e10 ?_
      refine rs_aload_n i_X7_judge_45 rfl ?_
      obtain ⟨a11, e11, hf⟩ := bind_some hf
      refine rs_getR i_X7_judge_46 (by decide) (by decide) c9 e11 ?_
      refine rs_iload_n i_X7_judge_49 rfl ?_
      obtain ⟨c12, hf⟩ := ite_some hf
      obtain ⟨a13, e13, hf⟩ := bind_some hf
      refine rs_aald i_X7_judge_50 c12 e13 ?_
      refine rs_iload_n i_X7_judge_51 rfl ?_
      obtain ⟨c15, hf⟩ := ite_some hf
      obtain ⟨o14, e14, hf⟩ := bind_some hf
      refine rs_inV i_X7_judge_52 m_X3_firstOff rfl (As := [.ref a13, .int v3]) (rest := []) rfl rfl (Nat.le_of_ble_eq_true rfl) c15 (c_X3_firstOff (by omega) e14) (st' := [.int o14.1]) rfl ?_
      have hf := Option.some.inj hf
      subst hf
      exact rs_iret i_X7_judge_55 m_X7_judge rfl
    · replace hf := (if_neg c5).symm.trans hf
      refine rs_ifF i_X7_judge_24 (cf_ne c5) ?_
      refine rs_bipush i_X7_judge_27 (v := (-7)) (by decide) ?_
      have hf := Option.some.inj hf
      subst hf
      exact rs_iret i_X7_judge_29 m_X7_judge rfl
  · replace hf := (if_neg c3).symm.trans hf
    refine rs_ifF i_X7_judge_10 (cf_eq c3) ?_
    refine rs_iload i_X7_judge_13 rfl ?_
    have hf := Option.some.inj hf
    subst hf
    exact rs_iret i_X7_judge_15 m_X7_judge rfl
def f_X7_judge (n : Nat) (v0 : Nat) (v1 : Int32) (v2 : Int32) (v3 : Int32) (h : Hp) : Option (Int32 × Hp) := f_X7_judge_0 n v0 v1 v2 v3 h
theorem c_X7_judge {X : Nat → Int32} {d : Nat} (hd : 7 ≤ d) {n : Nat} {v0 : Nat} {v1 : Int32} {v2 : Int32} {v3 : Int32} {h : Hp} {o : (Int32 × Hp)} (hf : f_X7_judge n v0 v1 v2 v3 h = some o) : Calls X d 86 [.ref v0, .int v1, .int v2, .int v3] h (some (.int o.1), o.2) := by
  obtain ⟨d, rfl⟩ : ∃ z, d = z + 1 := ⟨d - 1, by omega⟩
  exact ⟨_, rfl, r_X7_judge_0 hd hf⟩
theorem i_X7_film_0 : fetch 87 0 = some (.aload_n 0, 1, 0, 0, 0, 0) := by decide +kernel
theorem i_X7_film_1 : fetch 87 1 = some (.iload_n 1, 2, 0, 0, 0, 0) := by decide +kernel
theorem i_X7_film_2 : fetch 87 2 = some (.invokevirtual 151, 5, 113, 0, 0, 584) := by decide +kernel
theorem i_X7_film_5 : fetch 87 5 = some (.ifCond .ne 6, 8, 0, 0, 0, 0) := by decide +kernel
theorem i_X7_film_8 : fetch 87 8 = some (.bipush (-5), 10, 0, 0, 0, 0) := by decide +kernel
theorem i_X7_film_10 : fetch 87 10 = some (.ireturn, 11, 0, 0, 0, 0) := by decide +kernel
theorem i_X7_film_11 : fetch 87 11 = some (.iload_n 2, 12, 0, 0, 0, 0) := by decide +kernel
theorem i_X7_film_12 : fetch 87 12 = some (.invokestatic 250, 15, 114, 0, 0, 791) := by decide +kernel
theorem i_X7_film_15 : fetch 87 15 = some (.ifCond .ne 6, 18, 0, 0, 0, 0) := by decide +kernel
theorem i_X7_film_18 : fetch 87 18 = some (.bipush (-2), 20, 0, 0, 0, 0) := by decide +kernel
theorem i_X7_film_20 : fetch 87 20 = some (.ireturn, 21, 0, 0, 0, 0) := by decide +kernel
theorem i_X7_film_21 : fetch 87 21 = some (.aload_n 0, 22, 0, 0, 0, 0) := by decide +kernel
theorem i_X7_film_22 : fetch 87 22 = some (.aload_n 0, 23, 0, 0, 0, 0) := by decide +kernel
theorem i_X7_film_23 : fetch 87 23 = some (.getfield 10, 26, 7, 0, 0, 483) := by decide +kernel
theorem i_X7_film_26 : fetch 87 26 = some (.iload_n 1, 27, 0, 0, 0, 0) := by decide +kernel
theorem i_X7_film_27 : fetch 87 27 = some (.iconst (-1), 28, 0, 0, 0, 0) := by decide +kernel
theorem i_X7_film_28 : fetch 87 28 = some (.iconst (-1), 29, 0, 0, 0, 0) := by decide +kernel
theorem i_X7_film_29 : fetch 87 29 = some (.invokevirtual 154, 32, 118, 0, 0, 588) := by decide +kernel
theorem i_X7_film_32 : fetch 87 32 = some (.aload_n 0, 33, 0, 0, 0, 0) := by decide +kernel
theorem i_X7_film_33 : fetch 87 33 = some (.getfield 43, 36, 7, 9, 0, 492) := by decide +kernel
theorem i_X7_film_36 : fetch 87 36 = some (.iload_n 2, 37, 0, 0, 0, 0) := by decide +kernel
theorem i_X7_film_37 : fetch 87 37 = some (.aaload, 38, 0, 0, 0, 0) := by decide +kernel
theorem i_X7_film_38 : fetch 87 38 = some (.iconst 2, 39, 0, 0, 0, 0) := by decide +kernel
theorem i_X7_film_39 : fetch 87 39 = some (.bipush 12, 41, 0, 0, 0, 0) := by decide +kernel
theorem i_X7_film_41 : fetch 87 41 = some (.invokevirtual 253, 44, 51, 0, 0, 802) := by decide +kernel
theorem i_X7_film_44 : fetch 87 44 = some (.iconst 0, 45, 0, 0, 0, 0) := by decide +kernel
theorem i_X7_film_45 : fetch 87 45 = some (.istore_n 3, 46, 0, 0, 0, 0) := by decide +kernel
theorem i_X7_film_46 : fetch 87 46 = some (.iload_n 3, 47, 0, 0, 0, 0) := by decide +kernel
theorem i_X7_film_47 : fetch 87 47 = some (.bipush 12, 49, 0, 0, 0, 0) := by decide +kernel
theorem i_X7_film_49 : fetch 87 49 = some (.if_icmp .ge 27, 52, 0, 0, 0, 0) := by decide +kernel
theorem i_X7_film_52 : fetch 87 52 = some (.aload_n 0, 53, 0, 0, 0, 0) := by decide +kernel
theorem i_X7_film_53 : fetch 87 53 = some (.getfield 43, 56, 7, 9, 0, 492) := by decide +kernel
theorem i_X7_film_56 : fetch 87 56 = some (.iload_n 2, 57, 0, 0, 0, 0) := by decide +kernel
theorem i_X7_film_57 : fetch 87 57 = some (.aaload, 58, 0, 0, 0, 0) := by decide +kernel
theorem i_X7_film_58 : fetch 87 58 = some (.iload_n 3, 59, 0, 0, 0, 0) := by decide +kernel
theorem i_X7_film_59 : fetch 87 59 = some (.aload_n 0, 60, 0, 0, 0, 0) := by decide +kernel
theorem i_X7_film_60 : fetch 87 60 = some (.getfield 82, 63, 7, 7, 0, 490) := by decide +kernel
theorem i_X7_film_63 : fetch 87 63 = some (.iload_n 3, 64, 0, 0, 0, 0) := by decide +kernel
theorem i_X7_film_64 : fetch 87 64 = some (.invokevirtual 158, 67, 39, 0, 0, 700) := by decide +kernel
theorem i_X7_film_67 : fetch 87 67 = some (.invokevirtual 255, 70, 53, 0, 0, 808) := by decide +kernel
theorem i_X7_film_70 : fetch 87 70 = some (.iinc 3 1, 73, 0, 0, 0, 0) := by decide +kernel
theorem i_X7_film_73 : fetch 87 73 = some (.goto (-27), 76, 0, 0, 0, 0) := by decide +kernel
theorem i_X7_film_76 : fetch 87 76 = some (.bipush 12, 78, 0, 0, 0, 0) := by decide +kernel
theorem i_X7_film_78 : fetch 87 78 = some (.ireturn, 79, 0, 0, 0, 0) := by decide +kernel
def f_X7_film_46 (n : Nat) : Nat → Nat → Int32 → Int32 → Hp → Option (Int32 × Hp)
  | 0, _, _, _, _ => none
  | m + 1, v0, v2, v3, h =>
    if 12 ≤ v3 then
      some (12, h)
    else
      if okO h v0 7 then
      (gR h v0 9).bind fun a3 =>
      if okR h a3 v2 then
      (gR h a3 (ix v2)).bind fun a5 =>
      (gR h v0 7).bind fun a6 =>
      if okO h a6 3 then
      (f_X3_thick a6 v3 h).bind fun o7 =>
      if okO o7.2 a5 4 then
      (f_X4_put a5 v3 o7.1 o7.2).bind fun o9 =>
      (f_X7_film_46 n m) v0 v2 (v3 + 1) o9
      else none
      else none
      else none
      else none
set_option maxRecDepth 100000 in
set_option maxHeartbeats 4000000 in
theorem r_X7_film_46 {X : Nat → Int32} {d : Nat} (hd : 7 ≤ (d + 1)) {n : Nat} : ∀ (m : Nat) (v0 : Nat) (v2 : Int32) (v3 : Int32) (d1 : Int32) (h : Hp) (o : (Int32 × Hp)), f_X7_film_46 n m v0 v2 v3 h = some o → Run X (d + 1) 87 46 [some (.ref v0), some (.int d1), some (.int v2), some (.int v3)] [] h (some (.int o.1), o.2) := by
  intro m
  induction m with
  | zero => intro v0 v2 v3 d1 h o hf; cases hf
  | succ m ih =>
    intro v0 v2 v3 d1 h o hf
    rw [f_X7_film_46] at hf
    refine rs_iload_n i_X7_film_46 rfl ?_
    refine rs_bipush i_X7_film_47 (v := 12) (by decide) ?_
    by_cases c1 : 12 ≤ v3
    · replace hf := (if_pos c1).symm.trans hf
      refine rs_icT i_X7_film_49 (ct_ge c1) (tg := 76) (by decide) ?_
      refine rs_bipush i_X7_film_76 (v := 12) (by decide) ?_
      have hf := Option.some.inj hf
      subst hf
      exact rs_iret i_X7_film_78 m_X7_film rfl
    · replace hf := (if_neg c1).symm.trans hf
      refine rs_icF i_X7_film_49 (cf_ge c1) ?_
      refine rs_aload_n i_X7_film_52 rfl ?_
      obtain ⟨c2, hf⟩ := ite_some hf
      obtain ⟨a3, e3, hf⟩ := bind_some hf
      refine rs_getR i_X7_film_53 (by decide) (by decide) c2 e3 ?_
      refine rs_iload_n i_X7_film_56 rfl ?_
      obtain ⟨c4, hf⟩ := ite_some hf
      obtain ⟨a5, e5, hf⟩ := bind_some hf
      refine rs_aald i_X7_film_57 c4 e5 ?_
      refine rs_iload_n i_X7_film_58 rfl ?_
      refine rs_aload_n i_X7_film_59 rfl ?_
      obtain ⟨a6, e6, hf⟩ := bind_some hf
      refine rs_getR i_X7_film_60 (by decide) (by decide) c2 e6 ?_
      refine rs_iload_n i_X7_film_63 rfl ?_
      obtain ⟨c8, hf⟩ := ite_some hf
      obtain ⟨o7, e7, hf⟩ := bind_some hf
      refine rs_inV i_X7_film_64 m_X3_thick rfl (As := [.int v3]) (rest := [.int v3, .ref a5]) rfl rfl (Nat.le_of_ble_eq_true rfl) c8 (c_X3_thick (by omega) e7) (st' := [.int o7.1, .int v3, .ref a5]) rfl ?_
      obtain ⟨c10, hf⟩ := ite_some hf
      obtain ⟨o9, e9, hf⟩ := bind_some hf
      refine rs_inV i_X7_film_67 m_X4_put rfl (As := [.int v3, .int o7.1]) (rest := []) rfl rfl (Nat.le_of_ble_eq_true rfl) c10 (c_X4_put (by omega) e9) (st' := []) rfl ?_
      refine rs_iinc i_X7_film_70 rfl (v := v3 + 1) rfl (Nat.le_of_ble_eq_true rfl) (lv' := [some (.ref v0), some (.int d1), some (.int v2), some (.int (v3 + 1))]) rfl ?_
      refine rs_goto i_X7_film_73 (tg := 46) (by decide) ?_
      exact ih _ _ _ _ _ _ hf
def f_X7_film_0 (n : Nat) (v0 : Nat) (v1 : Int32) (v2 : Int32) (h : Hp) : Option (Int32 × Hp) :=
  if okO h v0 7 then
  (f_X7_areSteps v0 v1 h).bind fun o1 =>
  if o1.1 ≠ 0 then
    (f_X7_isSheet v2 o1.2).bind fun o4 =>
    if o4.1 ≠ 0 then
      if okO o4.2 v0 7 then
      (gR o4.2 v0 0).bind fun a7 =>
      (f_X7_make n v0 a7 v1 (-1) (-1) o4.2).bind fun o8 =>
      if okO o8 v0 7 then
      (gR o8 v0 9).bind fun a10 =>
      if okR o8 a10 v2 then
      (gR o8 a10 (ix v2)).bind fun a12 =>
      if okO o8 a12 4 then
      (f_X4_become n a12 2 12 o8).bind fun o13 =>
      f_X7_film_46 n n v0 v2 0 o13
      else none
      else none
      else none
      else none
    else
      some ((-2), o4.2)
  else
    some ((-5), o1.2)
  else none
set_option maxRecDepth 100000 in
set_option maxHeartbeats 4000000 in
theorem r_X7_film_0 {X : Nat → Int32} {d : Nat} (hd : 7 ≤ (d + 1)) {n : Nat} {v0 : Nat} {v1 : Int32} {v2 : Int32} {h : Hp} {o : (Int32 × Hp)} (hf : f_X7_film_0 n v0 v1 v2 h = some o) : Run X (d + 1) 87 0 [some (.ref v0), some (.int v1), some (.int v2), none] [] h (some (.int o.1), o.2) := by
  unfold f_X7_film_0 at hf
  refine rs_aload_n i_X7_film_0 rfl ?_
  refine rs_iload_n i_X7_film_1 rfl ?_
  obtain ⟨c2, hf⟩ := ite_some hf
  obtain ⟨o1, e1, hf⟩ := bind_some hf
  refine rs_inV i_X7_film_2 m_X7_areSteps rfl (As := [.int v1]) (rest := []) rfl rfl (Nat.le_of_ble_eq_true rfl) c2 (c_X7_areSteps (by omega) e1) (st' := [.int o1.1]) rfl ?_
  by_cases c3 : o1.1 ≠ 0
  · replace hf := (if_pos c3).symm.trans hf
    refine rs_ifT i_X7_film_5 (ct_ne c3) (tg := 11) (by decide) ?_
    refine rs_iload_n i_X7_film_11 rfl ?_
    obtain ⟨o4, e4, hf⟩ := bind_some hf
    refine rs_inS i_X7_film_12 (by decide) m_X7_isSheet rfl (As := [.int v2]) (rest := []) rfl rfl (Nat.le_of_ble_eq_true rfl) (c_X7_isSheet (by omega) e4) (st' := [.int o4.1]) rfl ?_
    by_cases c5 : o4.1 ≠ 0
    · replace hf := (if_pos c5).symm.trans hf
      refine rs_ifT i_X7_film_15 (ct_ne c5) (tg := 21) (by decide) ?_
      refine rs_aload_n i_X7_film_21 rfl ?_
      refine rs_aload_n i_X7_film_22 rfl ?_
      obtain ⟨c6, hf⟩ := ite_some hf
      obtain ⟨a7, e7, hf⟩ := bind_some hf
      refine rs_getR i_X7_film_23 (by decide) (by decide) c6 e7 ?_
      refine rs_iload_n i_X7_film_26 rfl ?_
      refine rs_iconst i_X7_film_27 (v := (-1)) (by decide) ?_
      refine rs_iconst i_X7_film_28 (v := (-1)) (by decide) ?_
      obtain ⟨o8, e8, hf⟩ := bind_some hf
      refine rs_inV i_X7_film_29 m_X7_make rfl (As := [.ref a7, .int v1, .int (-1), .int (-1)]) (rest := []) rfl rfl (Nat.le_of_ble_eq_true rfl) c6 (c_X7_make (by omega) e8) (st' := []) rfl ?_
      refine rs_aload_n i_X7_film_32 rfl ?_
      obtain ⟨c9, hf⟩ := ite_some hf
      obtain ⟨a10, e10, hf⟩ := bind_some hf
      refine rs_getR i_X7_film_33 (by decide) (by decide) c9 e10 ?_
      refine rs_iload_n i_X7_film_36 rfl ?_
      obtain ⟨c11, hf⟩ := ite_some hf
      obtain ⟨a12, e12, hf⟩ := bind_some hf
      refine rs_aald i_X7_film_37 c11 e12 ?_
      refine rs_iconst i_X7_film_38 (v := 2) (by decide) ?_
      refine rs_bipush i_X7_film_39 (v := 12) (by decide) ?_
      obtain ⟨c14, hf⟩ := ite_some hf
      obtain ⟨o13, e13, hf⟩ := bind_some hf
      refine rs_inV i_X7_film_41 m_X4_become rfl (As := [.int 2, .int 12]) (rest := []) rfl rfl (Nat.le_of_ble_eq_true rfl) c14 (c_X4_become (by omega) e13) (st' := []) rfl ?_
      refine rs_iconst i_X7_film_44 (v := 0) (by decide) ?_
      refine rs_istore_n i_X7_film_45 (Nat.le_of_ble_eq_true rfl) (lv' := [some (.ref v0), some (.int v1), some (.int v2), some (.int 0)]) rfl ?_
      exact r_X7_film_46 hd _ _ _ _ _ _ _ hf
    · replace hf := (if_neg c5).symm.trans hf
      refine rs_ifF i_X7_film_15 (cf_ne c5) ?_
      refine rs_bipush i_X7_film_18 (v := (-2)) (by decide) ?_
      have hf := Option.some.inj hf
      subst hf
      exact rs_iret i_X7_film_20 m_X7_film rfl
  · replace hf := (if_neg c3).symm.trans hf
    refine rs_ifF i_X7_film_5 (cf_ne c3) ?_
    refine rs_bipush i_X7_film_8 (v := (-5)) (by decide) ?_
    have hf := Option.some.inj hf
    subst hf
    exact rs_iret i_X7_film_10 m_X7_film rfl
def f_X7_film (n : Nat) (v0 : Nat) (v1 : Int32) (v2 : Int32) (h : Hp) : Option (Int32 × Hp) := f_X7_film_0 n v0 v1 v2 h
theorem c_X7_film {X : Nat → Int32} {d : Nat} (hd : 7 ≤ d) {n : Nat} {v0 : Nat} {v1 : Int32} {v2 : Int32} {h : Hp} {o : (Int32 × Hp)} (hf : f_X7_film n v0 v1 v2 h = some o) : Calls X d 87 [.ref v0, .int v1, .int v2] h (some (.int o.1), o.2) := by
  obtain ⟨d, rfl⟩ : ∃ z, d = z + 1 := ⟨d - 1, by omega⟩
  exact ⟨_, rfl, r_X7_film_0 hd hf⟩
theorem i_X7_serves_0 : fetch 88 0 = some (.aload_n 0, 1, 0, 0, 0, 0) := by decide +kernel
theorem i_X7_serves_1 : fetch 88 1 = some (.iload_n 1, 2, 0, 0, 0, 0) := by decide +kernel
theorem i_X7_serves_2 : fetch 88 2 = some (.iload_n 2, 3, 0, 0, 0, 0) := by decide +kernel
theorem i_X7_serves_3 : fetch 88 3 = some (.invokevirtual 242, 6, 117, 0, 0, 787) := by decide +kernel
theorem i_X7_serves_6 : fetch 88 6 = some (.istore 4, 8, 0, 0, 0, 0) := by decide +kernel
theorem i_X7_serves_8 : fetch 88 8 = some (.iload 4, 10, 0, 0, 0, 0) := by decide +kernel
theorem i_X7_serves_10 : fetch 88 10 = some (.ifCond .eq 6, 13, 0, 0, 0, 0) := by decide +kernel
theorem i_X7_serves_13 : fetch 88 13 = some (.iload 4, 15, 0, 0, 0, 0) := by decide +kernel
theorem i_X7_serves_15 : fetch 88 15 = some (.ireturn, 16, 0, 0, 0, 0) := by decide +kernel
theorem i_X7_serves_16 : fetch 88 16 = some (.iload_n 3, 17, 0, 0, 0, 0) := by decide +kernel
theorem i_X7_serves_17 : fetch 88 17 = some (.iconst 0, 18, 0, 0, 0, 0) := by decide +kernel
theorem i_X7_serves_18 : fetch 88 18 = some (.iconst 2, 19, 0, 0, 0, 0) := by decide +kernel
theorem i_X7_serves_19 : fetch 88 19 = some (.invokestatic 112, 22, 110, 0, 0, 534) := by decide +kernel
theorem i_X7_serves_22 : fetch 88 22 = some (.ifCond .ne 6, 25, 0, 0, 0, 0) := by decide +kernel
theorem i_X7_serves_25 : fetch 88 25 = some (.bipush (-7), 27, 0, 0, 0, 0) := by decide +kernel
theorem i_X7_serves_27 : fetch 88 27 = some (.ireturn, 28, 0, 0, 0, 0) := by decide +kernel
theorem i_X7_serves_28 : fetch 88 28 = some (.aload_n 0, 29, 0, 0, 0, 0) := by decide +kernel
theorem i_X7_serves_29 : fetch 88 29 = some (.getfield 19, 32, 7, 2, 0, 485) := by decide +kernel
theorem i_X7_serves_32 : fetch 88 32 = some (.aload_n 0, 33, 0, 0, 0, 0) := by decide +kernel
theorem i_X7_serves_33 : fetch 88 33 = some (.getfield 10, 36, 7, 0, 0, 483) := by decide +kernel
theorem i_X7_serves_36 : fetch 88 36 = some (.invokevirtual 258, 39, 2, 0, 0, 820) := by decide +kernel
theorem i_X7_serves_39 : fetch 88 39 = some (.iconst 0, 40, 0, 0, 0, 0) := by decide +kernel
theorem i_X7_serves_40 : fetch 88 40 = some (.istore 5, 42, 0, 0, 0, 0) := by decide +kernel
theorem i_X7_serves_42 : fetch 88 42 = some (.iconst 0, 43, 0, 0, 0, 0) := by decide +kernel
theorem i_X7_serves_43 : fetch 88 43 = some (.istore 6, 45, 0, 0, 0, 0) := by decide +kernel
theorem i_X7_serves_45 : fetch 88 45 = some (.iload 6, 47, 0, 0, 0, 0) := by decide +kernel
theorem i_X7_serves_47 : fetch 88 47 = some (.bipush 9, 49, 0, 0, 0, 0) := by decide +kernel
theorem i_X7_serves_49 : fetch 88 49 = some (.if_icmp .gt 56, 52, 0, 0, 0, 0) := by decide +kernel
theorem i_X7_serves_52 : fetch 88 52 = some (.aload_n 0, 53, 0, 0, 0, 0) := by decide +kernel
theorem i_X7_serves_53 : fetch 88 53 = some (.getfield 19, 56, 7, 2, 0, 485) := by decide +kernel
theorem i_X7_serves_56 : fetch 88 56 = some (.getfield 122, 59, 0, 2, 0, 99) := by decide +kernel
theorem i_X7_serves_59 : fetch 88 59 = some (.iload_n 3, 60, 0, 0, 0, 0) := by decide +kernel
theorem i_X7_serves_60 : fetch 88 60 = some (.iload 6, 62, 0, 0, 0, 0) := by decide +kernel
theorem i_X7_serves_62 : fetch 88 62 = some (.iastore, 63, 0, 0, 0, 0) := by decide +kernel
theorem i_X7_serves_63 : fetch 88 63 = some (.aload_n 0, 64, 0, 0, 0, 0) := by decide +kernel
theorem i_X7_serves_64 : fetch 88 64 = some (.aload_n 0, 65, 0, 0, 0, 0) := by decide +kernel
theorem i_X7_serves_65 : fetch 88 65 = some (.getfield 19, 68, 7, 2, 0, 485) := by decide +kernel
theorem i_X7_serves_68 : fetch 88 68 = some (.iload_n 1, 69, 0, 0, 0, 0) := by decide +kernel
theorem i_X7_serves_69 : fetch 88 69 = some (.iconst (-1), 70, 0, 0, 0, 0) := by decide +kernel
theorem i_X7_serves_70 : fetch 88 70 = some (.iconst (-1), 71, 0, 0, 0, 0) := by decide +kernel
theorem i_X7_serves_71 : fetch 88 71 = some (.invokevirtual 154, 74, 118, 0, 0, 588) := by decide +kernel
theorem i_X7_serves_74 : fetch 88 74 = some (.aload_n 0, 75, 0, 0, 0, 0) := by decide +kernel
theorem i_X7_serves_75 : fetch 88 75 = some (.getfield 82, 78, 7, 7, 0, 490) := by decide +kernel
theorem i_X7_serves_78 : fetch 88 78 = some (.aload_n 0, 79, 0, 0, 0, 0) := by decide +kernel
theorem i_X7_serves_79 : fetch 88 79 = some (.getfield 43, 82, 7, 9, 0, 492) := by decide +kernel
theorem i_X7_serves_82 : fetch 88 82 = some (.iload_n 2, 83, 0, 0, 0, 0) := by decide +kernel
theorem i_X7_serves_83 : fetch 88 83 = some (.aaload, 84, 0, 0, 0, 0) := by decide +kernel
theorem i_X7_serves_84 : fetch 88 84 = some (.invokevirtual 261, 87, 49, 0, 0, 825) := by decide +kernel
theorem i_X7_serves_87 : fetch 88 87 = some (.ifCond .eq 12, 90, 0, 0, 0, 0) := by decide +kernel
theorem i_X7_serves_90 : fetch 88 90 = some (.iload 5, 92, 0, 0, 0, 0) := by decide +kernel
theorem i_X7_serves_92 : fetch 88 92 = some (.iconst 1, 93, 0, 0, 0, 0) := by decide +kernel
theorem i_X7_serves_93 : fetch 88 93 = some (.iload 6, 95, 0, 0, 0, 0) := by decide +kernel
theorem i_X7_serves_95 : fetch 88 95 = some (.ishl, 96, 0, 0, 0, 0) := by decide +kernel
theorem i_X7_serves_96 : fetch 88 96 = some (.ior, 97, 0, 0, 0, 0) := by decide +kernel
theorem i_X7_serves_97 : fetch 88 97 = some (.istore 5, 99, 0, 0, 0, 0) := by decide +kernel
theorem i_X7_serves_99 : fetch 88 99 = some (.iinc 6 1, 102, 0, 0, 0, 0) := by decide +kernel
theorem i_X7_serves_102 : fetch 88 102 = some (.goto (-57), 105, 0, 0, 0, 0) := by decide +kernel
theorem i_X7_serves_105 : fetch 88 105 = some (.iload 5, 107, 0, 0, 0, 0) := by decide +kernel
theorem i_X7_serves_107 : fetch 88 107 = some (.ireturn, 108, 0, 0, 0, 0) := by decide +kernel
def f_X7_serves_99 (n : Nat) (K45 : Nat → Int32 → Int32 → Int32 → Int32 → Int32 → Hp → Option (Int32 × Hp)) (v0 : Nat) (v1 : Int32) (v2 : Int32) (v3 : Int32) (v5 : Int32) (v6 : Int32) (h : Hp) : Option (Int32 × Hp) :=
  K45 v0 v1 v2 v3 v5 (v6 + 1) h
set_option maxRecDepth 100000 in
set_option maxHeartbeats 4000000 in
theorem r_X7_serves_99 {X : Nat → Int32} {d : Nat} (hd : 7 ≤ (d + 1)) {n : Nat} {K45 : Nat → Int32 → Int32 → Int32 → Int32 → Int32 → Hp → Option (Int32 × Hp)} (HK45 : ∀ (v0 : Nat) (v1 : Int32) (v2 : Int32) (v3 : Int32) (v5 : Int32) (v6 : Int32) (d4 : Int32) (h : Hp) (o : (Int32 × Hp)), K45 v0 v1 v2 v3 v5 v6 h = some o → Run X (d + 1) 88 45 [some (.ref v0), some (.int v1), some (.int v2), some (.int v3), some (.int d4), some (.int v5), some (.int v6)] [] h (some (.int o.1), o.2)) {v0 : Nat} {v1 : Int32} {v2 : Int32} {v3 : Int32} {v5 : Int32} {v6 : Int32} {d4 : Int32} {h : Hp} {o : (Int32 × Hp)} (hf : f_X7_serves_99 n K45 v0 v1 v2 v3 v5 v6 h = some o) : Run X (d + 1) 88 99 [some (.ref v0), some (.int v1), some (.int v2), some (.int v3), some (.int d4), some (.int v5), some (.int v6)] [] h (some (.int o.1), o.2) := by
  unfold f_X7_serves_99 at hf
  refine rs_iinc i_X7_serves_99 rfl (v := v6 + 1) rfl (Nat.le_of_ble_eq_true rfl) (lv' := [some (.ref v0), some (.int v1), some (.int v2), some (.int v3), some (.int d4), some (.int v5), some (.int (v6 + 1))]) rfl ?_
  refine rs_goto i_X7_serves_102 (tg := 45) (by decide) ?_
  exact HK45 _ _ _ _ _ _ _ _ _ hf
def f_X7_serves_63 (n : Nat) (K45 : Nat → Int32 → Int32 → Int32 → Int32 → Int32 → Hp → Option (Int32 × Hp)) (v0 : Nat) (v1 : Int32) (v2 : Int32) (v3 : Int32) (v5 : Int32) (v6 : Int32) (h : Hp) : Option (Int32 × Hp) :=
  if okO h v0 7 then
  (gR h v0 2).bind fun a2 =>
  (f_X7_make n v0 a2 v1 (-1) (-1) h).bind fun o3 =>
  if okO o3 v0 7 then
  (gR o3 v0 7).bind fun a5 =>
  (gR o3 v0 9).bind fun a6 =>
  if okR o3 a6 v2 then
  (gR o3 a6 (ix v2)).bind fun a8 =>
  if okO o3 a5 3 then
  (f_X3_isAsTold n a5 a8 o3).bind fun o9 =>
  if o9.1 = 0 then
    f_X7_serves_99 n K45 v0 v1 v2 v3 v5 v6 o9.2
  else
    f_X7_serves_99 n K45 v0 v1 v2 v3 (v5 ||| (1 <<< (v6 &&& 31))) v6 o9.2
  else none
  else none
  else none
  else none
set_option maxRecDepth 100000 in
set_option maxHeartbeats 4000000 in
theorem r_X7_serves_63 {X : Nat → Int32} {d : Nat} (hd : 7 ≤ (d + 1)) {n : Nat} {K45 : Nat → Int32 → Int32 → Int32 → Int32 → Int32 → Hp → Option (Int32 × Hp)} (HK45 : ∀ (v0 : Nat) (v1 : Int32) (v2 : Int32) (v3 : Int32) (v5 : Int32) (v6 : Int32) (d4 : Int32) (h : Hp) (o : (Int32 × Hp)), K45 v0 v1 v2 v3 v5 v6 h = some o → Run X (d + 1) 88 45 [some (.ref v0), some (.int v1), some (.int v2), some (.int v3), some (.int d4), some (.int v5), some (.int v6)] [] h (some (.int o.1), o.2)) {v0 : Nat} {v1 : Int32} {v2 : Int32} {v3 : Int32} {v5 : Int32} {v6 : Int32} {d4 : Int32} {h : Hp} {o : (Int32 × Hp)} (hf : f_X7_serves_63 n K45 v0 v1 v2 v3 v5 v6 h = some o) : Run X (d + 1) 88 63 [some (.ref v0), some (.int v1), some (.int v2), some (.int v3), some (.int d4), some (.int v5), some (.int v6)] [] h (some (.int o.1), o.2) := by
  unfold f_X7_serves_63 at hf
  refine rs_aload_n i_X7_serves_63 rfl ?_
  refine rs_aload_n i_X7_serves_64 rfl ?_
  obtain ⟨c1, hf⟩ := ite_some hf
  obtain ⟨a2, e2, hf⟩ := bind_some hf
  refine rs_getR i_X7_serves_65 (by decide) (by decide) c1 e2 ?_
  refine rs_iload_n i_X7_serves_68 rfl ?_
  refine rs_iconst i_X7_serves_69 (v := (-1)) (by decide) ?_
  refine rs_iconst i_X7_serves_70 (v := (-1)) (by decide) ?_
  obtain ⟨o3, e3, hf⟩ := bind_some hf
  refine rs_inV i_X7_serves_71 m_X7_make rfl (As := [.ref a2, .int v1, .int (-1), .int (-1)]) (rest := []) rfl rfl (Nat.le_of_ble_eq_true rfl) c1 (c_X7_make (by omega) e3) (st' := []) rfl ?_
  refine rs_aload_n i_X7_serves_74 rfl ?_
  obtain ⟨c4, hf⟩ := ite_some hf
  obtain ⟨a5, e5, hf⟩ := bind_some hf
  refine rs_getR i_X7_serves_75 (by decide) (by decide) c4 e5 ?_
  refine rs_aload_n i_X7_serves_78 rfl ?_
  obtain ⟨a6, e6, hf⟩ := bind_some hf
  refine rs_getR i_X7_serves_79 (by decide) (by decide) c4 e6 ?_
  refine rs_iload_n i_X7_serves_82 rfl ?_
  obtain ⟨c7, hf⟩ := ite_some hf
  obtain ⟨a8, e8, hf⟩ := bind_some hf
  refine rs_aald i_X7_serves_83 c7 e8 ?_
  obtain ⟨c10, hf⟩ := ite_some hf
  obtain ⟨o9, e9, hf⟩ := bind_some hf
  refine rs_inV i_X7_serves_84 m_X3_isAsTold rfl (As := [.ref a8]) (rest := []) rfl rfl (Nat.le_of_ble_eq_true rfl) c10 (c_X3_isAsTold (by omega) e9) (st' := [.int o9.1]) rfl ?_
  by_cases c11 : o9.1 = 0
  · replace hf := (if_pos c11).symm.trans hf
    refine rs_ifT i_X7_serves_87 (ct_eq c11) (tg := 99) (by decide) ?_
    exact r_X7_serves_99 hd HK45 hf
  · replace hf := (if_neg c11).symm.trans hf
    refine rs_ifF i_X7_serves_87 (cf_eq c11) ?_
    refine rs_iload i_X7_serves_90 rfl ?_
    refine rs_iconst i_X7_serves_92 (v := 1) (by decide) ?_
    refine rs_iload i_X7_serves_93 rfl ?_
    refine rs_ishl i_X7_serves_95 ?_
    refine rs_ior i_X7_serves_96 ?_
    refine rs_istore i_X7_serves_97 (Nat.le_of_ble_eq_true rfl) (lv' := [some (.ref v0), some (.int v1), some (.int v2), some (.int v3), some (.int d4), some (.int (v5 ||| (1 <<< (v6 &&& 31)))), some (.int v6)]) rfl ?_
    exact r_X7_serves_99 hd HK45 hf
def f_X7_serves_45 (n : Nat) : Nat → Nat → Int32 → Int32 → Int32 → Int32 → Int32 → Hp → Option (Int32 × Hp)
  | 0, _, _, _, _, _, _, _ => none
  | m + 1, v0, v1, v2, v3, v5, v6, h =>
    if 9 < v6 then
      some (v5, h)
    else
      if okO h v0 7 then
      (gR h v0 2).bind fun a3 =>
      if okO h a3 0 then
      (gR h a3 2).bind fun a5 =>
      if okI h a5 v3 then
      f_X7_serves_63 n (f_X7_serves_45 n m) v0 v1 v2 v3 v5 v6 (hsi h a5 (ix v3) v6)
      else none
      else none
      else none
set_option maxRecDepth 100000 in
set_option maxHeartbeats 4000000 in
theorem r_X7_serves_45 {X : Nat → Int32} {d : Nat} (hd : 7 ≤ (d + 1)) {n : Nat} : ∀ (m : Nat) (v0 : Nat) (v1 : Int32) (v2 : Int32) (v3 : Int32) (v5 : Int32) (v6 : Int32) (d4 : Int32) (h : Hp) (o : (Int32 × Hp)), f_X7_serves_45 n m v0 v1 v2 v3 v5 v6 h = some o → Run X (d + 1) 88 45 [some (.ref v0), some (.int v1), some (.int v2), some (.int v3), some (.int d4), some (.int v5), some (.int v6)] [] h (some (.int o.1), o.2) := by
  intro m
  induction m with
  | zero => intro v0 v1 v2 v3 v5 v6 d4 h o hf; cases hf
  | succ m ih =>
    intro v0 v1 v2 v3 v5 v6 d4 h o hf
    rw [f_X7_serves_45] at hf
    refine rs_iload i_X7_serves_45 rfl ?_
    refine rs_bipush i_X7_serves_47 (v := 9) (by decide) ?_
    by_cases c1 : 9 < v6
    · replace hf := (if_pos c1).symm.trans hf
      refine rs_icT i_X7_serves_49 (ct_gt c1) (tg := 105) (by decide) ?_
      refine rs_iload i_X7_serves_105 rfl ?_
      have hf := Option.some.inj hf
      subst hf
      exact rs_iret i_X7_serves_107 m_X7_serves rfl
    · replace hf := (if_neg c1).symm.trans hf
      refine rs_icF i_X7_serves_49 (cf_gt c1) ?_
      refine rs_aload_n i_X7_serves_52 rfl ?_
      obtain ⟨c2, hf⟩ := ite_some hf
      obtain ⟨a3, e3, hf⟩ := bind_some hf
      refine rs_getR i_X7_serves_53 (by decide) (by decide) c2 e3 ?_
      obtain ⟨c4, hf⟩ := ite_some hf
      obtain ⟨a5, e5, hf⟩ := bind_some hf
      refine rs_getR i_X7_serves_56 (by decide) (by decide) c4 e5 ?_
      refine rs_iload_n i_X7_serves_59 rfl ?_
      refine rs_iload i_X7_serves_60 rfl ?_
      obtain ⟨c6, hf⟩ := ite_some hf
      refine rs_iast i_X7_serves_62 c6 ?_
      exact r_X7_serves_63 hd ih hf
def f_X7_serves_0 (n : Nat) (v0 : Nat) (v1 : Int32) (v2 : Int32) (v3 : Int32) (h : Hp) : Option (Int32 × Hp) :=
  if okO h v0 7 then
  (f_X7_refusalOfTest v0 v1 v2 h).bind fun o1 =>
  if o1.1 = 0 then
    (f_X7_within v3 0 2 o1.2).bind fun o4 =>
    if o4.1 ≠ 0 then
      if okO o4.2 v0 7 then
      (gR o4.2 v0 2).bind fun a7 =>
      (gR o4.2 v0 0).bind fun a8 =>
      if okO o4.2 a7 0 then
      (f_X0_become a7 a8 o4.2).bind fun o9 =>
      f_X7_serves_45 n n v0 v1 v2 v3 0 0 o9
      else none
      else none
    else
      some ((-7), o4.2)
  else
    some (o1.1, o1.2)
  else none
set_option maxRecDepth 100000 in
set_option maxHeartbeats 4000000 in
theorem r_X7_serves_0 {X : Nat → Int32} {d : Nat} (hd : 7 ≤ (d + 1)) {n : Nat} {v0 : Nat} {v1 : Int32} {v2 : Int32} {v3 : Int32} {h : Hp} {o : (Int32 × Hp)} (hf : f_X7_serves_0 n v0 v1 v2 v3 h = some o) : Run X (d + 1) 88 0 [some (.ref v0), some (.int v1), some (.int v2), some (.int v3), none, none, none] [] h (some (.int o.1), o.2) := by
  unfold f_X7_serves_0 at hf
  refine rs_aload_n i_X7_serves_0 rfl ?_
  refine rs_iload_n i_X7_serves_1 rfl ?_
  refine rs_iload_n i_X7_serves_2 rfl ?_
  obtain ⟨c2, hf⟩ := ite_some hf
  obtain ⟨o1, e1, hf⟩ := bind_some hf
  refine rs_inV i_X7_serves_3 m_X7_refusalOfTest rfl (As := [.int v1, .int v2]) (rest := []) rfl rfl (Nat.le_of_ble_eq_true rfl) c2 (c_X7_refusalOfTest (by omega) e1) (st' := [.int o1.1]) rfl ?_
  refine rs_istore i_X7_serves_6 (Nat.le_of_ble_eq_true rfl) (lv' := [some (.ref v0), some (.int v1), some (.int v2), some (.int v3), some (.int o1.1), none, none]) rfl ?_
  refine rs_iload i_X7_serves_8 rfl ?_
  by_cases c3 : o1.1 = 0
  · replace hf := (if_pos c3).symm.trans hf
    refine rs_ifT i_X7_serves_10 (ct_eq c3) (tg := 16) (by decide) ?_
    refine rs_iload_n i_X7_serves_16 rfl ?_
    refine rs_iconst i_X7_serves_17 (v := 0) (by decide) ?_
    refine rs_iconst i_X7_serves_18 (v := 2) (by decide) ?_
    obtain ⟨o4, e4, hf⟩ := bind_some hf
    refine rs_inS i_X7_serves_19 (by decide) m_X7_within rfl (As := [.int v3, .int 0, .int 2]) (rest := []) rfl rfl (Nat.le_of_ble_eq_true rfl) (c_X7_within (by omega) e4) (st' := [.int o4.1]) rfl ?_
    by_cases c5 : o4.1 ≠ 0
    · replace hf := (if_pos c5).symm.trans hf
      refine rs_ifT i_X7_serves_22 (ct_ne c5) (tg := 28) (by decide) ?_
      refine rs_aload_n i_X7_serves_28 rfl ?_
      obtain ⟨c6, hf⟩ := ite_some hf
      obtain ⟨a7, e7, hf⟩ := bind_some hf
      refine rs_getR i_X7_serves_29 (by decide) (by decide) c6 e7 ?_
      refine rs_aload_n i_X7_serves_32 rfl ?_
      obtain ⟨a8, e8, hf⟩ := bind_some hf
      refine rs_getR i_X7_serves_33 (by decide) (by decide) c6 e8 ?_
      obtain ⟨c10, hf⟩ := ite_some hf
      obtain ⟨o9, e9, hf⟩ := bind_some hf
      refine rs_inV i_X7_serves_36 m_X0_become rfl (As := [.ref a8]) (rest := []) rfl rfl (Nat.le_of_ble_eq_true rfl) c10 (c_X0_become (by omega) e9) (st' := []) rfl ?_
      refine rs_iconst i_X7_serves_39 (v := 0) (by decide) ?_
      refine rs_istore i_X7_serves_40 (Nat.le_of_ble_eq_true rfl) (lv' := [some (.ref v0), some (.int v1), some (.int v2), some (.int v3), some (.int o1.1), some (.int 0), none]) rfl ?_
      refine rs_iconst i_X7_serves_42 (v := 0) (by decide) ?_
      refine rs_istore i_X7_serves_43 (Nat.le_of_ble_eq_true rfl) (lv' := [some (.ref v0), some (.int v1), some (.int v2), some (.int v3), some (.int o1.1), some (.int 0), some (.int 0)]) rfl ?_
      exact r_X7_serves_45 hd _ _ _ _ _ _ _ _ _ _ hf
    · replace hf := (if_neg c5).symm.trans hf
      refine rs_ifF i_X7_serves_22 (cf_ne c5) ?_
      refine rs_bipush i_X7_serves_25 (v := (-7)) (by decide) ?_
      have hf := Option.some.inj hf
      subst hf
      exact rs_iret i_X7_serves_27 m_X7_serves rfl
  · replace hf := (if_neg c3).symm.trans hf
    refine rs_ifF i_X7_serves_10 (cf_eq c3) ?_
    refine rs_iload i_X7_serves_13 rfl ?_
    have hf := Option.some.inj hf
    subst hf
    exact rs_iret i_X7_serves_15 m_X7_serves rfl
def f_X7_serves (n : Nat) (v0 : Nat) (v1 : Int32) (v2 : Int32) (v3 : Int32) (h : Hp) : Option (Int32 × Hp) := f_X7_serves_0 n v0 v1 v2 v3 h
theorem c_X7_serves {X : Nat → Int32} {d : Nat} (hd : 7 ≤ d) {n : Nat} {v0 : Nat} {v1 : Int32} {v2 : Int32} {v3 : Int32} {h : Hp} {o : (Int32 × Hp)} (hf : f_X7_serves n v0 v1 v2 v3 h = some o) : Calls X d 88 [.ref v0, .int v1, .int v2, .int v3] h (some (.int o.1), o.2) := by
  obtain ⟨d, rfl⟩ : ∃ z, d = z + 1 := ⟨d - 1, by omega⟩
  exact ⟨_, rfl, r_X7_serves_0 hd hf⟩
theorem i_X7_which_0 : fetch 89 0 = some (.aload_n 0, 1, 0, 0, 0, 0) := by decide +kernel
theorem i_X7_which_1 : fetch 89 1 = some (.iload_n 1, 2, 0, 0, 0, 0) := by decide +kernel
theorem i_X7_which_2 : fetch 89 2 = some (.iload_n 2, 3, 0, 0, 0, 0) := by decide +kernel
theorem i_X7_which_3 : fetch 89 3 = some (.invokevirtual 242, 6, 117, 0, 0, 787) := by decide +kernel
theorem i_X7_which_6 : fetch 89 6 = some (.istore_n 3, 7, 0, 0, 0, 0) := by decide +kernel
theorem i_X7_which_7 : fetch 89 7 = some (.iload_n 3, 8, 0, 0, 0, 0) := by decide +kernel
theorem i_X7_which_8 : fetch 89 8 = some (.ifCond .eq 5, 11, 0, 0, 0, 0) := by decide +kernel
theorem i_X7_which_11 : fetch 89 11 = some (.iload_n 3, 12, 0, 0, 0, 0) := by decide +kernel
theorem i_X7_which_12 : fetch 89 12 = some (.ireturn, 13, 0, 0, 0, 0) := by decide +kernel
theorem i_X7_which_13 : fetch 89 13 = some (.aload_n 0, 14, 0, 0, 0, 0) := by decide +kernel
theorem i_X7_which_14 : fetch 89 14 = some (.getfield 19, 17, 7, 2, 0, 485) := by decide +kernel
theorem i_X7_which_17 : fetch 89 17 = some (.aload_n 0, 18, 0, 0, 0, 0) := by decide +kernel
theorem i_X7_which_18 : fetch 89 18 = some (.getfield 10, 21, 7, 0, 0, 483) := by decide +kernel
theorem i_X7_which_21 : fetch 89 21 = some (.invokevirtual 258, 24, 2, 0, 0, 820) := by decide +kernel
theorem i_X7_which_24 : fetch 89 24 = some (.iconst 0, 25, 0, 0, 0, 0) := by decide +kernel
theorem i_X7_which_25 : fetch 89 25 = some (.istore 4, 27, 0, 0, 0, 0) := by decide +kernel
theorem i_X7_which_27 : fetch 89 27 = some (.iconst 0, 28, 0, 0, 0, 0) := by decide +kernel
theorem i_X7_which_28 : fetch 89 28 = some (.istore 5, 30, 0, 0, 0, 0) := by decide +kernel
theorem i_X7_which_30 : fetch 89 30 = some (.iload 5, 32, 0, 0, 0, 0) := by decide +kernel
theorem i_X7_which_32 : fetch 89 32 = some (.aload_n 0, 33, 0, 0, 0, 0) := by decide +kernel
theorem i_X7_which_33 : fetch 89 33 = some (.getfield 58, 36, 7, 13, 0, 496) := by decide +kernel
theorem i_X7_which_36 : fetch 89 36 = some (.if_icmp .ge 61, 39, 0, 0, 0, 0) := by decide +kernel
theorem i_X7_which_39 : fetch 89 39 = some (.iload 5, 41, 0, 0, 0, 0) := by decide +kernel
theorem i_X7_which_41 : fetch 89 41 = some (.bipush 6, 43, 0, 0, 0, 0) := by decide +kernel
theorem i_X7_which_43 : fetch 89 43 = some (.if_icmp .ge 54, 46, 0, 0, 0, 0) := by decide +kernel
theorem i_X7_which_46 : fetch 89 46 = some (.aload_n 0, 47, 0, 0, 0, 0) := by decide +kernel
theorem i_X7_which_47 : fetch 89 47 = some (.getfield 19, 50, 7, 2, 0, 485) := by decide +kernel
theorem i_X7_which_50 : fetch 89 50 = some (.iload 5, 52, 0, 0, 0, 0) := by decide +kernel
theorem i_X7_which_52 : fetch 89 52 = some (.putfield 125, 55, 0, 3, 0, 101) := by decide +kernel
theorem i_X7_which_55 : fetch 89 55 = some (.aload_n 0, 56, 0, 0, 0, 0) := by decide +kernel
theorem i_X7_which_56 : fetch 89 56 = some (.aload_n 0, 57, 0, 0, 0, 0) := by decide +kernel
theorem i_X7_which_57 : fetch 89 57 = some (.getfield 19, 60, 7, 2, 0, 485) := by decide +kernel
theorem i_X7_which_60 : fetch 89 60 = some (.iload_n 1, 61, 0, 0, 0, 0) := by decide +kernel
theorem i_X7_which_61 : fetch 89 61 = some (.iconst (-1), 62, 0, 0, 0, 0) := by decide +kernel
theorem i_X7_which_62 : fetch 89 62 = some (.iconst (-1), 63, 0, 0, 0, 0) := by decide +kernel
theorem i_X7_which_63 : fetch 89 63 = some (.invokevirtual 154, 66, 118, 0, 0, 588) := by decide +kernel
theorem i_X7_which_66 : fetch 89 66 = some (.aload_n 0, 67, 0, 0, 0, 0) := by decide +kernel
theorem i_X7_which_67 : fetch 89 67 = some (.getfield 82, 70, 7, 7, 0, 490) := by decide +kernel
theorem i_X7_which_70 : fetch 89 70 = some (.aload_n 0, 71, 0, 0, 0, 0) := by decide +kernel
theorem i_X7_which_71 : fetch 89 71 = some (.getfield 43, 74, 7, 9, 0, 492) := by decide +kernel
theorem i_X7_which_74 : fetch 89 74 = some (.iload_n 2, 75, 0, 0, 0, 0) := by decide +kernel
theorem i_X7_which_75 : fetch 89 75 = some (.aaload, 76, 0, 0, 0, 0) := by decide +kernel
theorem i_X7_which_76 : fetch 89 76 = some (.invokevirtual 261, 79, 49, 0, 0, 825) := by decide +kernel
theorem i_X7_which_79 : fetch 89 79 = some (.ifCond .eq 12, 82, 0, 0, 0, 0) := by decide +kernel
theorem i_X7_which_82 : fetch 89 82 = some (.iload 4, 84, 0, 0, 0, 0) := by decide +kernel
theorem i_X7_which_84 : fetch 89 84 = some (.iconst 1, 85, 0, 0, 0, 0) := by decide +kernel
theorem i_X7_which_85 : fetch 89 85 = some (.iload 5, 87, 0, 0, 0, 0) := by decide +kernel
theorem i_X7_which_87 : fetch 89 87 = some (.ishl, 88, 0, 0, 0, 0) := by decide +kernel
theorem i_X7_which_88 : fetch 89 88 = some (.ior, 89, 0, 0, 0, 0) := by decide +kernel
theorem i_X7_which_89 : fetch 89 89 = some (.istore 4, 91, 0, 0, 0, 0) := by decide +kernel
theorem i_X7_which_91 : fetch 89 91 = some (.iinc 5 1, 94, 0, 0, 0, 0) := by decide +kernel
theorem i_X7_which_94 : fetch 89 94 = some (.goto (-64), 97, 0, 0, 0, 0) := by decide +kernel
theorem i_X7_which_97 : fetch 89 97 = some (.iload 4, 99, 0, 0, 0, 0) := by decide +kernel
theorem i_X7_which_99 : fetch 89 99 = some (.ireturn, 100, 0, 0, 0, 0) := by decide +kernel
def f_X7_which_91 (n : Nat) (K30 : Nat → Int32 → Int32 → Int32 → Int32 → Hp → Option (Int32 × Hp)) (v0 : Nat) (v1 : Int32) (v2 : Int32) (v4 : Int32) (v5 : Int32) (h : Hp) : Option (Int32 × Hp) :=
  K30 v0 v1 v2 v4 (v5 + 1) h
set_option maxRecDepth 100000 in
set_option maxHeartbeats 4000000 in
theorem r_X7_which_91 {X : Nat → Int32} {d : Nat} (hd : 7 ≤ (d + 1)) {n : Nat} {K30 : Nat → Int32 → Int32 → Int32 → Int32 → Hp → Option (Int32 × Hp)} (HK30 : ∀ (v0 : Nat) (v1 : Int32) (v2 : Int32) (v4 : Int32) (v5 : Int32) (d3 : Int32) (h : Hp) (o : (Int32 × Hp)), K30 v0 v1 v2 v4 v5 h = some o → Run X (d + 1) 89 30 [some (.ref v0), some (.int v1), some (.int v2), some (.int d3), some (.int v4), some (.int v5)] [] h (some (.int o.1), o.2)) {v0 : Nat} {v1 : Int32} {v2 : Int32} {v4 : Int32} {v5 : Int32} {d3 : Int32} {h : Hp} {o : (Int32 × Hp)} (hf : f_X7_which_91 n K30 v0 v1 v2 v4 v5 h = some o) : Run X (d + 1) 89 91 [some (.ref v0), some (.int v1), some (.int v2), some (.int d3), some (.int v4), some (.int v5)] [] h (some (.int o.1), o.2) := by
  unfold f_X7_which_91 at hf
  refine rs_iinc i_X7_which_91 rfl (v := v5 + 1) rfl (Nat.le_of_ble_eq_true rfl) (lv' := [some (.ref v0), some (.int v1), some (.int v2), some (.int d3), some (.int v4), some (.int (v5 + 1))]) rfl ?_
  refine rs_goto i_X7_which_94 (tg := 30) (by decide) ?_
  exact HK30 _ _ _ _ _ _ _ _ hf
def f_X7_which_55 (n : Nat) (K30 : Nat → Int32 → Int32 → Int32 → Int32 → Hp → Option (Int32 × Hp)) (v0 : Nat) (v1 : Int32) (v2 : Int32) (v4 : Int32) (v5 : Int32) (h : Hp) : Option (Int32 × Hp) :=
  if okO h v0 7 then
  (gR h v0 2).bind fun a2 =>
  (f_X7_make n v0 a2 v1 (-1) (-1) h).bind fun o3 =>
  if okO o3 v0 7 then
  (gR o3 v0 7).bind fun a5 =>
  (gR o3 v0 9).bind fun a6 =>
  if okR o3 a6 v2 then
  (gR o3 a6 (ix v2)).bind fun a8 =>
  if okO o3 a5 3 then
  (f_X3_isAsTold n a5 a8 o3).bind fun o9 =>
  if o9.1 = 0 then
    f_X7_which_91 n K30 v0 v1 v2 v4 v5 o9.2
  else
    f_X7_which_91 n K30 v0 v1 v2 (v4 ||| (1 <<< (v5 &&& 31))) v5 o9.2
  else none
  else none
  else none
  else none
set_option maxRecDepth 100000 in
set_option maxHeartbeats 4000000 in
theorem r_X7_which_55 {X : Nat → Int32} {d : Nat} (hd : 7 ≤ (d + 1)) {n : Nat} {K30 : Nat → Int32 → Int32 → Int32 → Int32 → Hp → Option (Int32 × Hp)} (HK30 : ∀ (v0 : Nat) (v1 : Int32) (v2 : Int32) (v4 : Int32) (v5 : Int32) (d3 : Int32) (h : Hp) (o : (Int32 × Hp)), K30 v0 v1 v2 v4 v5 h = some o → Run X (d + 1) 89 30 [some (.ref v0), some (.int v1), some (.int v2), some (.int d3), some (.int v4), some (.int v5)] [] h (some (.int o.1), o.2)) {v0 : Nat} {v1 : Int32} {v2 : Int32} {v4 : Int32} {v5 : Int32} {d3 : Int32} {h : Hp} {o : (Int32 × Hp)} (hf : f_X7_which_55 n K30 v0 v1 v2 v4 v5 h = some o) : Run X (d + 1) 89 55 [some (.ref v0), some (.int v1), some (.int v2), some (.int d3), some (.int v4), some (.int v5)] [] h (some (.int o.1), o.2) := by
  unfold f_X7_which_55 at hf
  refine rs_aload_n i_X7_which_55 rfl ?_
  refine rs_aload_n i_X7_which_56 rfl ?_
  obtain ⟨c1, hf⟩ := ite_some hf
  obtain ⟨a2, e2, hf⟩ := bind_some hf
  refine rs_getR i_X7_which_57 (by decide) (by decide) c1 e2 ?_
  refine rs_iload_n i_X7_which_60 rfl ?_
  refine rs_iconst i_X7_which_61 (v := (-1)) (by decide) ?_
  refine rs_iconst i_X7_which_62 (v := (-1)) (by decide) ?_
  obtain ⟨o3, e3, hf⟩ := bind_some hf
  refine rs_inV i_X7_which_63 m_X7_make rfl (As := [.ref a2, .int v1, .int (-1), .int (-1)]) (rest := []) rfl rfl (Nat.le_of_ble_eq_true rfl) c1 (c_X7_make (by omega) e3) (st' := []) rfl ?_
  refine rs_aload_n i_X7_which_66 rfl ?_
  obtain ⟨c4, hf⟩ := ite_some hf
  obtain ⟨a5, e5, hf⟩ := bind_some hf
  refine rs_getR i_X7_which_67 (by decide) (by decide) c4 e5 ?_
  refine rs_aload_n i_X7_which_70 rfl ?_
  obtain ⟨a6, e6, hf⟩ := bind_some hf
  refine rs_getR i_X7_which_71 (by decide) (by decide) c4 e6 ?_
  refine rs_iload_n i_X7_which_74 rfl ?_
  obtain ⟨c7, hf⟩ := ite_some hf
  obtain ⟨a8, e8, hf⟩ := bind_some hf
  refine rs_aald i_X7_which_75 c7 e8 ?_
  obtain ⟨c10, hf⟩ := ite_some hf
  obtain ⟨o9, e9, hf⟩ := bind_some hf
  refine rs_inV i_X7_which_76 m_X3_isAsTold rfl (As := [.ref a8]) (rest := []) rfl rfl (Nat.le_of_ble_eq_true rfl) c10 (c_X3_isAsTold (by omega) e9) (st' := [.int o9.1]) rfl ?_
  by_cases c11 : o9.1 = 0
  · replace hf := (if_pos c11).symm.trans hf
    refine rs_ifT i_X7_which_79 (ct_eq c11) (tg := 91) (by decide) ?_
    exact r_X7_which_91 hd HK30 hf
  · replace hf := (if_neg c11).symm.trans hf
    refine rs_ifF i_X7_which_79 (cf_eq c11) ?_
    refine rs_iload i_X7_which_82 rfl ?_
    refine rs_iconst i_X7_which_84 (v := 1) (by decide) ?_
    refine rs_iload i_X7_which_85 rfl ?_
    refine rs_ishl i_X7_which_87 ?_
    refine rs_ior i_X7_which_88 ?_
    refine rs_istore i_X7_which_89 (Nat.le_of_ble_eq_true rfl) (lv' := [some (.ref v0), some (.int v1), some (.int v2), some (.int d3), some (.int (v4 ||| (1 <<< (v5 &&& 31)))), some (.int v5)]) rfl ?_
    exact r_X7_which_91 hd HK30 hf
def f_X7_which_30 (n : Nat) : Nat → Nat → Int32 → Int32 → Int32 → Int32 → Hp → Option (Int32 × Hp)
  | 0, _, _, _, _, _, _ => none
  | m + 1, v0, v1, v2, v4, v5, h =>
    if okO h v0 7 then
    if (gI h v0 13) ≤ v5 then
      some (v4, h)
    else
      if 6 ≤ v5 then
        some (v4, h)
      else
        (gR h v0 2).bind fun a4 =>
        if okO h a4 0 then
        f_X7_which_55 n (f_X7_which_30 n m) v0 v1 v2 v4 v5 (hsi h a4 3 v5)
        else none
    else none
set_option maxRecDepth 100000 in
set_option maxHeartbeats 4000000 in
theorem r_X7_which_30 {X : Nat → Int32} {d : Nat} (hd : 7 ≤ (d + 1)) {n : Nat} : ∀ (m : Nat) (v0 : Nat) (v1 : Int32) (v2 : Int32) (v4 : Int32) (v5 : Int32) (d3 : Int32) (h : Hp) (o : (Int32 × Hp)), f_X7_which_30 n m v0 v1 v2 v4 v5 h = some o → Run X (d + 1) 89 30 [some (.ref v0), some (.int v1), some (.int v2), some (.int d3), some (.int v4), some (.int v5)] [] h (some (.int o.1), o.2) := by
  intro m
  induction m with
  | zero => intro v0 v1 v2 v4 v5 d3 h o hf; cases hf
  | succ m ih =>
    intro v0 v1 v2 v4 v5 d3 h o hf
    rw [f_X7_which_30] at hf
    refine rs_iload i_X7_which_30 rfl ?_
    refine rs_aload_n i_X7_which_32 rfl ?_
    obtain ⟨c1, hf⟩ := ite_some hf
    refine rs_getI i_X7_which_33 (by decide) (by decide) c1 ?_
    by_cases c2 : (gI h v0 13) ≤ v5
    · replace hf := (if_pos c2).symm.trans hf
      refine rs_icT i_X7_which_36 (ct_ge c2) (tg := 97) (by decide) ?_
      refine rs_iload i_X7_which_97 rfl ?_
      have hf := Option.some.inj hf
      subst hf
      exact rs_iret i_X7_which_99 m_X7_which rfl
    · replace hf := (if_neg c2).symm.trans hf
      refine rs_icF i_X7_which_36 (cf_ge c2) ?_
      refine rs_iload i_X7_which_39 rfl ?_
      refine rs_bipush i_X7_which_41 (v := 6) (by decide) ?_
      by_cases c3 : 6 ≤ v5
      · replace hf := (if_pos c3).symm.trans hf
        refine rs_icT i_X7_which_43 (ct_ge c3) (tg := 97) (by decide) ?_
        refine rs_iload i_X7_which_97 rfl ?_
        have hf := Option.some.inj hf
        subst hf
        exact rs_iret i_X7_which_99 m_X7_which rfl
      · replace hf := (if_neg c3).symm.trans hf
        refine rs_icF i_X7_which_43 (cf_ge c3) ?_
        refine rs_aload_n i_X7_which_46 rfl ?_
        obtain ⟨a4, e4, hf⟩ := bind_some hf
        refine rs_getR i_X7_which_47 (by decide) (by decide) c1 e4 ?_
        refine rs_iload i_X7_which_50 rfl ?_
        obtain ⟨c5, hf⟩ := ite_some hf
        refine rs_putI i_X7_which_52 (by decide) c5 ?_
        exact r_X7_which_55 hd ih hf
def f_X7_which_0 (n : Nat) (v0 : Nat) (v1 : Int32) (v2 : Int32) (h : Hp) : Option (Int32 × Hp) :=
  if okO h v0 7 then
  (f_X7_refusalOfTest v0 v1 v2 h).bind fun o1 =>
  if o1.1 = 0 then
    if okO o1.2 v0 7 then
    (gR o1.2 v0 2).bind fun a5 =>
    (gR o1.2 v0 0).bind fun a6 =>
    if okO o1.2 a5 0 then
    (f_X0_become a5 a6 o1.2).bind fun o7 =>
    f_X7_which_30 n n v0 v1 v2 0 0 o7
    else none
    else none
  else
    some (o1.1, o1.2)
  else none
set_option maxRecDepth 100000 in
set_option maxHeartbeats 4000000 in
theorem r_X7_which_0 {X : Nat → Int32} {d : Nat} (hd : 7 ≤ (d + 1)) {n : Nat} {v0 : Nat} {v1 : Int32} {v2 : Int32} {h : Hp} {o : (Int32 × Hp)} (hf : f_X7_which_0 n v0 v1 v2 h = some o) : Run X (d + 1) 89 0 [some (.ref v0), some (.int v1), some (.int v2), none, none, none] [] h (some (.int o.1), o.2) := by
  unfold f_X7_which_0 at hf
  refine rs_aload_n i_X7_which_0 rfl ?_
  refine rs_iload_n i_X7_which_1 rfl ?_
  refine rs_iload_n i_X7_which_2 rfl ?_
  obtain ⟨c2, hf⟩ := ite_some hf
  obtain ⟨o1, e1, hf⟩ := bind_some hf
  refine rs_inV i_X7_which_3 m_X7_refusalOfTest rfl (As := [.int v1, .int v2]) (rest := []) rfl rfl (Nat.le_of_ble_eq_true rfl) c2 (c_X7_refusalOfTest (by omega) e1) (st' := [.int o1.1]) rfl ?_
  refine rs_istore_n i_X7_which_6 (Nat.le_of_ble_eq_true rfl) (lv' := [some (.ref v0), some (.int v1), some (.int v2), some (.int o1.1), none, none]) rfl ?_
  refine rs_iload_n i_X7_which_7 rfl ?_
  by_cases c3 : o1.1 = 0
  · replace hf := (if_pos c3).symm.trans hf
    refine rs_ifT i_X7_which_8 (ct_eq c3) (tg := 13) (by decide) ?_
    refine rs_aload_n i_X7_which_13 rfl ?_
    obtain ⟨c4, hf⟩ := ite_some hf
    obtain ⟨a5, e5, hf⟩ := bind_some hf
    refine rs_getR i_X7_which_14 (by decide) (by decide) c4 e5 ?_
    refine rs_aload_n i_X7_which_17 rfl ?_
    obtain ⟨a6, e6, hf⟩ := bind_some hf
    refine rs_getR i_X7_which_18 (by decide) (by decide) c4 e6 ?_
    obtain ⟨c8, hf⟩ := ite_some hf
    obtain ⟨o7, e7, hf⟩ := bind_some hf
    refine rs_inV i_X7_which_21 m_X0_become rfl (As := [.ref a6]) (rest := []) rfl rfl (Nat.le_of_ble_eq_true rfl) c8 (c_X0_become (by omega) e7) (st' := []) rfl ?_
    refine rs_iconst i_X7_which_24 (v := 0) (by decide) ?_
    refine rs_istore i_X7_which_25 (Nat.le_of_ble_eq_true rfl) (lv' := [some (.ref v0), some (.int v1), some (.int v2), some (.int o1.1), some (.int 0), none]) rfl ?_
    refine rs_iconst i_X7_which_27 (v := 0) (by decide) ?_
    refine rs_istore i_X7_which_28 (Nat.le_of_ble_eq_true rfl) (lv' := [some (.ref v0), some (.int v1), some (.int v2), some (.int o1.1), some (.int 0), some (.int 0)]) rfl ?_
    exact r_X7_which_30 hd _ _ _ _ _ _ _ _ _ hf
  · replace hf := (if_neg c3).symm.trans hf
    refine rs_ifF i_X7_which_8 (cf_eq c3) ?_
    refine rs_iload_n i_X7_which_11 rfl ?_
    have hf := Option.some.inj hf
    subst hf
    exact rs_iret i_X7_which_12 m_X7_which rfl
def f_X7_which (n : Nat) (v0 : Nat) (v1 : Int32) (v2 : Int32) (h : Hp) : Option (Int32 × Hp) := f_X7_which_0 n v0 v1 v2 h
theorem c_X7_which {X : Nat → Int32} {d : Nat} (hd : 7 ≤ d) {n : Nat} {v0 : Nat} {v1 : Int32} {v2 : Int32} {h : Hp} {o : (Int32 × Hp)} (hf : f_X7_which n v0 v1 v2 h = some o) : Calls X d 89 [.ref v0, .int v1, .int v2] h (some (.int o.1), o.2) := by
  obtain ⟨d, rfl⟩ : ∃ z, d = z + 1 := ⟨d - 1, by omega⟩
  exact ⟨_, rfl, r_X7_which_0 hd hf⟩
theorem i_X7_fault_0 : fetch 90 0 = some (.aload_n 0, 1, 0, 0, 0, 0) := by decide +kernel
theorem i_X7_fault_1 : fetch 90 1 = some (.iload_n 1, 2, 0, 0, 0, 0) := by decide +kernel
theorem i_X7_fault_2 : fetch 90 2 = some (.iload_n 2, 3, 0, 0, 0, 0) := by decide +kernel
theorem i_X7_fault_3 : fetch 90 3 = some (.invokevirtual 242, 6, 117, 0, 0, 787) := by decide +kernel
theorem i_X7_fault_6 : fetch 90 6 = some (.istore_n 3, 7, 0, 0, 0, 0) := by decide +kernel
theorem i_X7_fault_7 : fetch 90 7 = some (.iload_n 3, 8, 0, 0, 0, 0) := by decide +kernel
theorem i_X7_fault_8 : fetch 90 8 = some (.ifCond .eq 5, 11, 0, 0, 0, 0) := by decide +kernel
theorem i_X7_fault_11 : fetch 90 11 = some (.iload_n 3, 12, 0, 0, 0, 0) := by decide +kernel
theorem i_X7_fault_12 : fetch 90 12 = some (.ireturn, 13, 0, 0, 0, 0) := by decide +kernel
theorem i_X7_fault_13 : fetch 90 13 = some (.iconst 0, 14, 0, 0, 0, 0) := by decide +kernel
theorem i_X7_fault_14 : fetch 90 14 = some (.istore 4, 16, 0, 0, 0, 0) := by decide +kernel
theorem i_X7_fault_16 : fetch 90 16 = some (.iload 4, 18, 0, 0, 0, 0) := by decide +kernel
theorem i_X7_fault_18 : fetch 90 18 = some (.iload_n 1, 19, 0, 0, 0, 0) := by decide +kernel
theorem i_X7_fault_19 : fetch 90 19 = some (.if_icmp .ge 40, 22, 0, 0, 0, 0) := by decide +kernel
theorem i_X7_fault_22 : fetch 90 22 = some (.aload_n 0, 23, 0, 0, 0, 0) := by decide +kernel
theorem i_X7_fault_23 : fetch 90 23 = some (.aload_n 0, 24, 0, 0, 0, 0) := by decide +kernel
theorem i_X7_fault_24 : fetch 90 24 = some (.getfield 10, 27, 7, 0, 0, 483) := by decide +kernel
theorem i_X7_fault_27 : fetch 90 27 = some (.iload_n 1, 28, 0, 0, 0, 0) := by decide +kernel
theorem i_X7_fault_28 : fetch 90 28 = some (.iload 4, 30, 0, 0, 0, 0) := by decide +kernel
theorem i_X7_fault_30 : fetch 90 30 = some (.iconst (-1), 31, 0, 0, 0, 0) := by decide +kernel
theorem i_X7_fault_31 : fetch 90 31 = some (.invokevirtual 154, 34, 118, 0, 0, 588) := by decide +kernel
theorem i_X7_fault_34 : fetch 90 34 = some (.aload_n 0, 35, 0, 0, 0, 0) := by decide +kernel
theorem i_X7_fault_35 : fetch 90 35 = some (.getfield 82, 38, 7, 7, 0, 490) := by decide +kernel
theorem i_X7_fault_38 : fetch 90 38 = some (.aload_n 0, 39, 0, 0, 0, 0) := by decide +kernel
theorem i_X7_fault_39 : fetch 90 39 = some (.getfield 43, 42, 7, 9, 0, 492) := by decide +kernel
theorem i_X7_fault_42 : fetch 90 42 = some (.iload_n 2, 43, 0, 0, 0, 0) := by decide +kernel
theorem i_X7_fault_43 : fetch 90 43 = some (.aaload, 44, 0, 0, 0, 0) := by decide +kernel
theorem i_X7_fault_44 : fetch 90 44 = some (.invokevirtual 261, 47, 49, 0, 0, 825) := by decide +kernel
theorem i_X7_fault_47 : fetch 90 47 = some (.ifCond .eq 6, 50, 0, 0, 0, 0) := by decide +kernel
theorem i_X7_fault_50 : fetch 90 50 = some (.iload 4, 52, 0, 0, 0, 0) := by decide +kernel
theorem i_X7_fault_52 : fetch 90 52 = some (.ireturn, 53, 0, 0, 0, 0) := by decide +kernel
theorem i_X7_fault_53 : fetch 90 53 = some (.iinc 4 1, 56, 0, 0, 0, 0) := by decide +kernel
theorem i_X7_fault_56 : fetch 90 56 = some (.goto (-40), 59, 0, 0, 0, 0) := by decide +kernel
theorem i_X7_fault_59 : fetch 90 59 = some (.iconst (-1), 60, 0, 0, 0, 0) := by decide +kernel
theorem i_X7_fault_60 : fetch 90 60 = some (.ireturn, 61, 0, 0, 0, 0) := by decide +kernel
def f_X7_fault_16 (n : Nat) : Nat → Nat → Int32 → Int32 → Int32 → Hp → Option (Int32 × Hp)
  | 0, _, _, _, _, _ => none
  | m + 1, v0, v1, v2, v4, h =>
    if v1 ≤ v4 then
      some ((-1), h)
    else
      if okO h v0 7 then
      (gR h v0 0).bind fun a3 =>
      (f_X7_make n v0 a3 v1 v4 (-1) h).bind fun o4 =>
      if okO o4 v0 7 then
      (gR o4 v0 7).bind fun a6 =>
      (gR o4 v0 9).bind fun a7 =>
      if okR o4 a7 v2 then
      (gR o4 a7 (ix v2)).bind fun a9 =>
      if okO o4 a6 3 then
      (f_X3_isAsTold n a6 a9 o4).bind fun o10 =>
      if o10.1 = 0 then
        (f_X7_fault_16 n m) v0 v1 v2 (v4 + 1) o10.2
      else
        some (v4, o10.2)
      else none
      else none
      else none
      else none
set_option maxRecDepth 100000 in
set_option maxHeartbeats 4000000 in
theorem r_X7_fault_16 {X : Nat → Int32} {d : Nat} (hd : 7 ≤ (d + 1)) {n : Nat} : ∀ (m : Nat) (v0 : Nat) (v1 : Int32) (v2 : Int32) (v4 : Int32) (d3 : Int32) (h : Hp) (o : (Int32 × Hp)), f_X7_fault_16 n m v0 v1 v2 v4 h = some o → Run X (d + 1) 90 16 [some (.ref v0), some (.int v1), some (.int v2), some (.int d3), some (.int v4)] [] h (some (.int o.1), o.2) := by
  intro m
  induction m with
  | zero => intro v0 v1 v2 v4 d3 h o hf; cases hf
  | succ m ih =>
    intro v0 v1 v2 v4 d3 h o hf
    rw [f_X7_fault_16] at hf
    refine rs_iload i_X7_fault_16 rfl ?_
    refine rs_iload_n i_X7_fault_18 rfl ?_
    by_cases c1 : v1 ≤ v4
    · replace hf := (if_pos c1).symm.trans hf
      refine rs_icT i_X7_fault_19 (ct_ge c1) (tg := 59) (by decide) ?_
      refine rs_iconst i_X7_fault_59 (v := (-1)) (by decide) ?_
      have hf := Option.some.inj hf
      subst hf
      exact rs_iret i_X7_fault_60 m_X7_fault rfl
    · replace hf := (if_neg c1).symm.trans hf
      refine rs_icF i_X7_fault_19 (cf_ge c1) ?_
      refine rs_aload_n i_X7_fault_22 rfl ?_
      refine rs_aload_n i_X7_fault_23 rfl ?_
      obtain ⟨c2, hf⟩ := ite_some hf
      obtain ⟨a3, e3, hf⟩ := bind_some hf
      refine rs_getR i_X7_fault_24 (by decide) (by decide) c2 e3 ?_
      refine rs_iload_n i_X7_fault_27 rfl ?_
      refine rs_iload i_X7_fault_28 rfl ?_
      refine rs_iconst i_X7_fault_30 (v := (-1)) (by decide) ?_
      obtain ⟨o4, e4, hf⟩ := bind_some hf
      refine rs_inV i_X7_fault_31 m_X7_make rfl (As := [.ref a3, .int v1, .int v4, .int (-1)]) (rest := []) rfl rfl (Nat.le_of_ble_eq_true rfl) c2 (c_X7_make (by omega) e4) (st' := []) rfl ?_
      refine rs_aload_n i_X7_fault_34 rfl ?_
      obtain ⟨c5, hf⟩ := ite_some hf
      obtain ⟨a6, e6, hf⟩ := bind_some hf
      refine rs_getR i_X7_fault_35 (by decide) (by decide) c5 e6 ?_
      refine rs_aload_n i_X7_fault_38 rfl ?_
      obtain ⟨a7, e7, hf⟩ := bind_some hf
      refine rs_getR i_X7_fault_39 (by decide) (by decide) c5 e7 ?_
      refine rs_iload_n i_X7_fault_42 rfl ?_
      obtain ⟨c8, hf⟩ := ite_some hf
      obtain ⟨a9, e9, hf⟩ := bind_some hf
      refine rs_aald i_X7_fault_43 c8 e9 ?_
      obtain ⟨c11, hf⟩ := ite_some hf
      obtain ⟨o10, e10, hf⟩ := bind_some hf
      refine rs_inV i_X7_fault_44 m_X3_isAsTold rfl (As := [.ref a9]) (rest := []) rfl rfl (Nat.le_of_ble_eq_true rfl) c11 (c_X3_isAsTold (by omega) e10) (st' := [.int o10.1]) rfl ?_
      by_cases c12 : o10.1 = 0
      · replace hf := (if_pos c12).symm.trans hf
        refine rs_ifT i_X7_fault_47 (ct_eq c12) (tg := 53) (by decide) ?_
        refine rs_iinc i_X7_fault_53 rfl (v := v4 + 1) rfl (Nat.le_of_ble_eq_true rfl) (lv' := [some (.ref v0), some (.int v1), some (.int v2), some (.int d3), some (.int (v4 + 1))]) rfl ?_
        refine rs_goto i_X7_fault_56 (tg := 16) (by decide) ?_
        exact ih _ _ _ _ _ _ _ hf
      · replace hf := (if_neg c12).symm.trans hf
        refine rs_ifF i_X7_fault_47 (cf_eq c12) ?_
        refine rs_iload i_X7_fault_50 rfl ?_
        have hf := Option.some.inj hf
        subst hf
        exact rs_iret i_X7_fault_52 m_X7_fault rfl
def f_X7_fault_0 (n : Nat) (v0 : Nat) (v1 : Int32) (v2 : Int32) (h : Hp) : Option (Int32 × Hp) :=
  if okO h v0 7 then
  (f_X7_refusalOfTest v0 v1 v2 h).bind fun o1 =>
  if o1.1 = 0 then
    f_X7_fault_16 n n v0 v1 v2 0 o1.2
  else
    some (o1.1, o1.2)
  else none
set_option maxRecDepth 100000 in
set_option maxHeartbeats 4000000 in
theorem r_X7_fault_0 {X : Nat → Int32} {d : Nat} (hd : 7 ≤ (d + 1)) {n : Nat} {v0 : Nat} {v1 : Int32} {v2 : Int32} {h : Hp} {o : (Int32 × Hp)} (hf : f_X7_fault_0 n v0 v1 v2 h = some o) : Run X (d + 1) 90 0 [some (.ref v0), some (.int v1), some (.int v2), none, none] [] h (some (.int o.1), o.2) := by
  unfold f_X7_fault_0 at hf
  refine rs_aload_n i_X7_fault_0 rfl ?_
  refine rs_iload_n i_X7_fault_1 rfl ?_
  refine rs_iload_n i_X7_fault_2 rfl ?_
  obtain ⟨c2, hf⟩ := ite_some hf
  obtain ⟨o1, e1, hf⟩ := bind_some hf
  refine rs_inV i_X7_fault_3 m_X7_refusalOfTest rfl (As := [.int v1, .int v2]) (rest := []) rfl rfl (Nat.le_of_ble_eq_true rfl) c2 (c_X7_refusalOfTest (by omega) e1) (st' := [.int o1.1]) rfl ?_
  refine rs_istore_n i_X7_fault_6 (Nat.le_of_ble_eq_true rfl) (lv' := [some (.ref v0), some (.int v1), some (.int v2), some (.int o1.1), none]) rfl ?_
  refine rs_iload_n i_X7_fault_7 rfl ?_
  by_cases c3 : o1.1 = 0
  · replace hf := (if_pos c3).symm.trans hf
    refine rs_ifT i_X7_fault_8 (ct_eq c3) (tg := 13) (by decide) ?_
    refine rs_iconst i_X7_fault_13 (v := 0) (by decide) ?_
    refine rs_istore i_X7_fault_14 (Nat.le_of_ble_eq_true rfl) (lv' := [some (.ref v0), some (.int v1), some (.int v2), some (.int o1.1), some (.int 0)]) rfl ?_
    exact r_X7_fault_16 hd _ _ _ _ _ _ _ _ hf
  · replace hf := (if_neg c3).symm.trans hf
    refine rs_ifF i_X7_fault_8 (cf_eq c3) ?_
    refine rs_iload_n i_X7_fault_11 rfl ?_
    have hf := Option.some.inj hf
    subst hf
    exact rs_iret i_X7_fault_12 m_X7_fault rfl
def f_X7_fault (n : Nat) (v0 : Nat) (v1 : Int32) (v2 : Int32) (h : Hp) : Option (Int32 × Hp) := f_X7_fault_0 n v0 v1 v2 h
theorem c_X7_fault {X : Nat → Int32} {d : Nat} (hd : 7 ≤ d) {n : Nat} {v0 : Nat} {v1 : Int32} {v2 : Int32} {h : Hp} {o : (Int32 × Hp)} (hf : f_X7_fault n v0 v1 v2 h = some o) : Calls X d 90 [.ref v0, .int v1, .int v2] h (some (.int o.1), o.2) := by
  obtain ⟨d, rfl⟩ : ∃ z, d = z + 1 := ⟨d - 1, by omega⟩
  exact ⟨_, rfl, r_X7_fault_0 hd hf⟩
