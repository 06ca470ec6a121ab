theorem i_X8_judge_0 : fetch 187 0 = some (.aload_n 0, 1, 0, 0, 0, 0) := by decide +kernel
theorem i_X8_judge_1 : fetch 187 1 = some (.iload_n 1, 2, 0, 0, 0, 0) := by decide +kernel
theorem i_X8_judge_2 : fetch 187 2 = some (.invokevirtual 286, 5, 128, 0, 0, 1223) := by decide +kernel
theorem i_X8_judge_5 : fetch 187 5 = some (.ifCond .ne 6, 8, 0, 0, 0, 0) := by decide +kernel
theorem i_X8_judge_8 : fetch 187 8 = some (.bipush (-5), 10, 0, 0, 0, 0) := by decide +kernel
theorem i_X8_judge_10 : fetch 187 10 = some (.ireturn, 11, 0, 0, 0, 0) := by decide +kernel
theorem i_X8_judge_11 : fetch 187 11 = some (.aload_n 0, 12, 0, 0, 0, 0) := by decide +kernel
theorem i_X8_judge_12 : fetch 187 12 = some (.iload_n 2, 13, 0, 0, 0, 0) := by decide +kernel
theorem i_X8_judge_13 : fetch 187 13 = some (.invokevirtual 320, 16, 185, 0, 0, 1371) := by decide +kernel
theorem i_X8_judge_16 : fetch 187 16 = some (.istore 4, 18, 0, 0, 0, 0) := by decide +kernel
theorem i_X8_judge_18 : fetch 187 18 = some (.iload 4, 20, 0, 0, 0, 0) := by decide +kernel
theorem i_X8_judge_20 : fetch 187 20 = some (.ifCond .eq 6, 23, 0, 0, 0, 0) := by decide +kernel
theorem i_X8_judge_23 : fetch 187 23 = some (.iload 4, 25, 0, 0, 0, 0) := by decide +kernel
theorem i_X8_judge_25 : fetch 187 25 = some (.ireturn, 26, 0, 0, 0, 0) := by decide +kernel
theorem i_X8_judge_26 : fetch 187 26 = some (.iload_n 3, 27, 0, 0, 0, 0) := by decide +kernel
theorem i_X8_judge_27 : fetch 187 27 = some (.iconst 0, 28, 0, 0, 0, 0) := by decide +kernel
theorem i_X8_judge_28 : fetch 187 28 = some (.sipush 9999, 31, 0, 0, 0, 0) := by decide +kernel
theorem i_X8_judge_31 : fetch 187 31 = some (.invokestatic 112, 34, 126, 0, 0, 970) := by decide +kernel
theorem i_X8_judge_34 : fetch 187 34 = some (.ifCond .ne 6, 37, 0, 0, 0, 0) := by decide +kernel
theorem i_X8_judge_37 : fetch 187 37 = some (.bipush (-7), 39, 0, 0, 0, 0) := by decide +kernel
theorem i_X8_judge_39 : fetch 187 39 = some (.ireturn, 40, 0, 0, 0, 0) := by decide +kernel
theorem i_X8_judge_40 : fetch 187 40 = some (.aload_n 0, 41, 0, 0, 0, 0) := by decide +kernel
theorem i_X8_judge_41 : fetch 187 41 = some (.iload_n 1, 42, 0, 0, 0, 0) := by decide +kernel
theorem i_X8_judge_42 : fetch 187 42 = some (.invokevirtual 289, 45, 168, 0, 0, 1227) := by decide +kernel
theorem i_X8_judge_45 : fetch 187 45 = some (.aload_n 0, 46, 0, 0, 0, 0) := by decide +kernel
theorem i_X8_judge_46 : fetch 187 46 = some (.iload_n 2, 47, 0, 0, 0, 0) := by decide +kernel
theorem i_X8_judge_47 : fetch 187 47 = some (.iload_n 3, 48, 0, 0, 0, 0) := by decide +kernel
theorem i_X8_judge_48 : fetch 187 48 = some (.invokevirtual 323, 51, 186, 0, 0, 1375) := by decide +kernel
theorem i_X8_judge_51 : fetch 187 51 = some (.ireturn, 52, 0, 0, 0, 0) := by decide +kernel
def f_X8_judge_0 (n : Nat) (v0 : Nat) (v1 : Int32) (v2 : Int32) (v3 : Int32) (h : Hp) : Option (Int32 × Hp) :=
  if okO h v0 8 then
  (f_X8_areSteps v0 v1 h).bind fun o1 =>
  if o1.1 ≠ 0 then
    if okO o1.2 v0 8 then
    (f_X8_sheetWrong v0 v2 o1.2).bind fun o4 =>
    if o4.1 = 0 then
      (f_X8_in v3 0 9999 o4.2).bind fun o7 =>
      if o7.1 ≠ 0 then
        if okO o7.2 v0 8 then
        (f_X8_goes n v0 v1 o7.2).bind fun o9 =>
        if okO o9 v0 8 then
        (f_X8_offFrom n v0 v2 v3 o9).bind fun o11 =>
        some (o11.1, o11.2)
        else none
        else none
      else
        some ((-7), o7.2)
    else
      some (o4.1, o4.2)
    else none
  else
    some ((-5), o1.2)
  else none
set_option maxRecDepth 100000 in
set_option maxHeartbeats 4000000 in
theorem r_X8_judge_0 {X : Nat → Int32} {d : Nat} (hd : 7 ≤ (d + 1)) {n : Nat} {v0 : Nat} {v1 : Int32} {v2 : Int32} {v3 : Int32} {h : Hp} {o : (Int32 × Hp)} (hf : f_X8_judge_0 n v0 v1 v2 v3 h = some o) : Run X (d + 1) 187 0 [some (.ref v0), some (.int v1), some (.int v2), some (.int v3), none] [] h (some (.int o.1), o.2) := by
  unfold f_X8_judge_0 at hf
  refine rs_aload_n i_X8_judge_0 rfl ?_
  refine rs_iload_n i_X8_judge_1 rfl ?_
  obtain ⟨c2, hf⟩ := ite_some hf
  obtain ⟨o1, e1, hf⟩ := bind_some hf
  refine rs_inV i_X8_judge_2 m_X8_areSteps rfl (As := [.int v1]) (rest := []) rfl rfl (Nat.le_of_ble_eq_true rfl) c2 (c_X8_areSteps (by omega) e1) (st' := [.int o1.1]) rfl ?_
  by_cases c3 : o1.1 ≠ 0
  · replace hf := (if_pos c3).symm.trans hf
    refine rs_ifT i_X8_judge_5 (ct_ne c3) (tg := 11) (by decide) ?_
    refine rs_aload_n i_X8_judge_11 rfl ?_
    refine rs_iload_n i_X8_judge_12 rfl ?_
    obtain ⟨c5, hf⟩ := ite_some hf
    obtain ⟨o4, e4, hf⟩ := bind_some hf
    refine rs_inV i_X8_judge_13 m_X8_sheetWrong rfl (As := [.int v2]) (rest := []) rfl rfl (Nat.le_of_ble_eq_true rfl) c5 (c_X8_sheetWrong (by omega) e4) (st' := [.int o4.1]) rfl ?_
    refine rs_istore i_X8_judge_16 (Nat.le_of_ble_eq_true rfl) (lv' := [some (.ref v0), some (.int v1), some (.int v2), some (.int v3), some (.int o4.1)]) rfl ?_
    refine rs_iload i_X8_judge_18 rfl ?_
    by_cases c6 : o4.1 = 0
    · replace hf := (if_pos c6).symm.trans hf
      refine rs_ifT i_X8_judge_20 (ct_eq c6) (tg := 26) (by decide) ?_
      refine rs_iload_n i_X8_judge_26 rfl ?_
      refine rs_iconst i_X8_judge_27 (v := 0) (by decide) ?_
      refine rs_sipush i_X8_judge_28 (v := 9999) (by decide) ?_
      obtain ⟨o7, e7, hf⟩ := bind_some hf
      refine rs_inS i_X8_judge_31 (by decide) m_X8_in rfl (As := [.int v3, .int 0, .int 9999]) (rest := []) rfl rfl (Nat.le_of_ble_eq_true rfl) (c_X8_in (by omega) e7) (st' := [.int o7.1]) rfl ?_
      by_cases c8 : o7.1 ≠ 0
      · replace hf := (if_pos c8).symm.trans hf
        refine rs_ifT i_X8_judge_34 (ct_ne c8) (tg := 40) (by decide) ?_
        refine rs_aload_n i_X8_judge_40 rfl ?_
        refine rs_iload_n i_X8_judge_41 rfl ?_
        obtain ⟨c10, hf⟩ := ite_some hf
        obtain ⟨o9, e9, hf⟩ := bind_some hf
        refine rs_inV i_X8_judge_42 m_X8_goes rfl (As := [.int v1]) (rest := []) rfl rfl (Nat.le_of_ble_eq_true rfl) c10 (c_X8_goes (by omega) e9) (st' := []) rfl ?_
        refine rs_aload_n i_X8_judge_45 rfl ?_
        refine rs_iload_n i_X8_judge_46 rfl ?_
        refine rs_iload_n i_X8_judge_47 rfl ?_
        obtain ⟨c12, hf⟩ := ite_some hf
        obtain ⟨o11, e11, hf⟩ := bind_some hf
        refine rs_inV i_X8_judge_48 m_X8_offFrom rfl (As := [.int v2, .int v3]) (rest := []) rfl rfl (Nat.le_of_ble_eq_true rfl) c12 (c_X8_offFrom (by omega) e11) (st' := [.int o11.1]) rfl ?_
        have hf := Option.some.inj hf
        subst hf
        exact rs_iret i_X8_judge_51 m_X8_judge rfl
      · replace hf := (if_neg c8).symm.trans hf
        refine rs_ifF i_X8_judge_34 (cf_ne c8) ?_
        refine rs_bipush i_X8_judge_37 (v := (-7)) (by decide) ?_
        have hf := Option.some.inj hf
        subst hf
        exact rs_iret i_X8_judge_39 m_X8_judge rfl
    · replace hf := (if_neg c6).symm.trans hf
      refine rs_ifF i_X8_judge_20 (cf_eq c6) ?_
      refine rs_iload i_X8_judge_23 rfl ?_
      have hf := Option.some.inj hf
      subst hf
      exact rs_iret i_X8_judge_25 m_X8_judge rfl
  · replace hf := (if_neg c3).symm.trans hf
    refine rs_ifF i_X8_judge_5 (cf_ne c3) ?_
    refine rs_bipush i_X8_judge_8 (v := (-5)) (by decide) ?_
    have hf := Option.some.inj hf
    subst hf
    exact rs_iret i_X8_judge_10 m_X8_judge rfl
def f_X8_judge (n : Nat) (v0 : Nat) (v1 : Int32) (v2 : Int32) (v3 : Int32) (h : Hp) : Option (Int32 × Hp) := f_X8_judge_0 n v0 v1 v2 v3 h
theorem c_X8_judge {X : Nat → Int32} {d : Nat} (hd : 7 ≤ d) {n : Nat} {v0 : Nat} {v1 : Int32} {v2 : Int32} {v3 : Int32} {h : Hp} {o : (Int32 × Hp)} (hf : f_X8_judge n v0 v1 v2 v3 h = some o) : Calls X d 187 [.ref v0, .int v1, .int v2, .int v3] h (some (.int o.1), o.2) := by
  obtain ⟨d, rfl⟩ : ∃ z, d = z + 1 := ⟨d - 1, by omega⟩
  exact ⟨_, rfl, r_X8_judge_0 hd hf⟩
theorem i_X8_film_0 : fetch 188 0 = some (.aload_n 0, 1, 0, 0, 0, 0) := by decide +kernel
theorem i_X8_film_1 : fetch 188 1 = some (.iload_n 1, 2, 0, 0, 0, 0) := by decide +kernel
theorem i_X8_film_2 : fetch 188 2 = some (.invokevirtual 286, 5, 128, 0, 0, 1223) := by decide +kernel
theorem i_X8_film_5 : fetch 188 5 = some (.ifCond .ne 6, 8, 0, 0, 0, 0) := by decide +kernel
theorem i_X8_film_8 : fetch 188 8 = some (.bipush (-5), 10, 0, 0, 0, 0) := by decide +kernel
theorem i_X8_film_10 : fetch 188 10 = some (.ireturn, 11, 0, 0, 0, 0) := by decide +kernel
theorem i_X8_film_11 : fetch 188 11 = some (.iload_n 2, 12, 0, 0, 0, 0) := by decide +kernel
theorem i_X8_film_12 : fetch 188 12 = some (.iconst 0, 13, 0, 0, 0, 0) := by decide +kernel
theorem i_X8_film_13 : fetch 188 13 = some (.iconst 3, 14, 0, 0, 0, 0) := by decide +kernel
theorem i_X8_film_14 : fetch 188 14 = some (.invokestatic 112, 17, 126, 0, 0, 970) := by decide +kernel
theorem i_X8_film_17 : fetch 188 17 = some (.ifCond .ne 6, 20, 0, 0, 0, 0) := by decide +kernel
theorem i_X8_film_20 : fetch 188 20 = some (.bipush (-2), 22, 0, 0, 0, 0) := by decide +kernel
theorem i_X8_film_22 : fetch 188 22 = some (.ireturn, 23, 0, 0, 0, 0) := by decide +kernel
theorem i_X8_film_23 : fetch 188 23 = some (.aload_n 0, 24, 0, 0, 0, 0) := by decide +kernel
theorem i_X8_film_24 : fetch 188 24 = some (.iload_n 1, 25, 0, 0, 0, 0) := by decide +kernel
theorem i_X8_film_25 : fetch 188 25 = some (.invokevirtual 289, 28, 168, 0, 0, 1227) := by decide +kernel
theorem i_X8_film_28 : fetch 188 28 = some (.aload_n 0, 29, 0, 0, 0, 0) := by decide +kernel
theorem i_X8_film_29 : fetch 188 29 = some (.getfield 51, 32, 8, 22, 0, 1031) := by decide +kernel
theorem i_X8_film_32 : fetch 188 32 = some (.iload_n 2, 33, 0, 0, 0, 0) := by decide +kernel
theorem i_X8_film_33 : fetch 188 33 = some (.iconst 2, 34, 0, 0, 0, 0) := by decide +kernel
theorem i_X8_film_34 : fetch 188 34 = some (.iastore, 35, 0, 0, 0, 0) := by decide +kernel
theorem i_X8_film_35 : fetch 188 35 = some (.aload_n 0, 36, 0, 0, 0, 0) := by decide +kernel
theorem i_X8_film_36 : fetch 188 36 = some (.getfield 54, 39, 8, 23, 0, 1032) := by decide +kernel
theorem i_X8_film_39 : fetch 188 39 = some (.iload_n 2, 40, 0, 0, 0, 0) := by decide +kernel
theorem i_X8_film_40 : fetch 188 40 = some (.bipush 12, 42, 0, 0, 0, 0) := by decide +kernel
theorem i_X8_film_42 : fetch 188 42 = some (.iastore, 43, 0, 0, 0, 0) := by decide +kernel
theorem i_X8_film_43 : fetch 188 43 = some (.iconst 0, 44, 0, 0, 0, 0) := by decide +kernel
theorem i_X8_film_44 : fetch 188 44 = some (.istore_n 3, 45, 0, 0, 0, 0) := by decide +kernel
theorem i_X8_film_45 : fetch 188 45 = some (.iload_n 3, 46, 0, 0, 0, 0) := by decide +kernel
theorem i_X8_film_46 : fetch 188 46 = some (.bipush 40, 48, 0, 0, 0, 0) := by decide +kernel
theorem i_X8_film_48 : fetch 188 48 = some (.if_icmp .ge 35, 51, 0, 0, 0, 0) := by decide +kernel
theorem i_X8_film_51 : fetch 188 51 = some (.aload_n 0, 52, 0, 0, 0, 0) := by decide +kernel
theorem i_X8_film_52 : fetch 188 52 = some (.getfield 57, 55, 8, 24, 0, 1033) := by decide +kernel
theorem i_X8_film_55 : fetch 188 55 = some (.bipush 40, 57, 0, 0, 0, 0) := by decide +kernel
theorem i_X8_film_57 : fetch 188 57 = some (.iload_n 2, 58, 0, 0, 0, 0) := by decide +kernel
theorem i_X8_film_58 : fetch 188 58 = some (.imul, 59, 0, 0, 0, 0) := by decide +kernel
theorem i_X8_film_59 : fetch 188 59 = some (.iload_n 3, 60, 0, 0, 0, 0) := by decide +kernel
theorem i_X8_film_60 : fetch 188 60 = some (.iadd, 61, 0, 0, 0, 0) := by decide +kernel
theorem i_X8_film_61 : fetch 188 61 = some (.iload_n 3, 62, 0, 0, 0, 0) := by decide +kernel
theorem i_X8_film_62 : fetch 188 62 = some (.bipush 12, 64, 0, 0, 0, 0) := by decide +kernel
theorem i_X8_film_64 : fetch 188 64 = some (.if_icmp .ge 11, 67, 0, 0, 0, 0) := by decide +kernel
theorem i_X8_film_67 : fetch 188 67 = some (.aload_n 0, 68, 0, 0, 0, 0) := by decide +kernel
theorem i_X8_film_68 : fetch 188 68 = some (.iload_n 3, 69, 0, 0, 0, 0) := by decide +kernel
theorem i_X8_film_69 : fetch 188 69 = some (.invokevirtual 202, 72, 154, 0, 0, 1256) := by decide +kernel
theorem i_X8_film_72 : fetch 188 72 = some (.goto 4, 75, 0, 0, 0, 0) := by decide +kernel
theorem i_X8_film_75 : fetch 188 75 = some (.iconst 0, 76, 0, 0, 0, 0) := by decide +kernel
theorem i_X8_film_76 : fetch 188 76 = some (.iastore, 77, 0, 0, 0, 0) := by decide +kernel
theorem i_X8_film_77 : fetch 188 77 = some (.iinc 3 1, 80, 0, 0, 0, 0) := by decide +kernel
theorem i_X8_film_80 : fetch 188 80 = some (.goto (-35), 83, 0, 0, 0, 0) := by decide +kernel
theorem i_X8_film_83 : fetch 188 83 = some (.bipush 12, 85, 0, 0, 0, 0) := by decide +kernel
theorem i_X8_film_85 : fetch 188 85 = some (.ireturn, 86, 0, 0, 0, 0) := by decide +kernel
def f_X8_film_76 (n : Nat) (K45 : Nat → Int32 → Int32 → Hp → Option (Int32 × Hp)) (v0 : Nat) (v2 : Int32) (v3 : Int32) (s0 : Nat) (s1 : Int32) (s2 : Int32) (h : Hp) : Option (Int32 × Hp) :=
  if okI h s0 s1 then
  K45 v0 v2 (v3 + 1) (hsi h s0 (ix s1) s2)
  else none
set_option maxRecDepth 100000 in
set_option maxHeartbeats 4000000 in
theorem r_X8_film_76 {X : Nat → Int32} {d : Nat} (hd : 7 ≤ (d + 1)) {n : Nat} {K45 : Nat → Int32 → Int32 → Hp → Option (Int32 × Hp)} (HK45 : ∀ (v0 : Nat) (v2 : Int32) (v3 : Int32) (d1 : Int32) (h : Hp) (o : (Int32 × Hp)), K45 v0 v2 v3 h = some o → Run X (d + 1) 188 45 [some (.ref v0), some (.int d1), some (.int v2), some (.int v3)] [] h (some (.int o.1), o.2)) {v0 : Nat} {v2 : Int32} {v3 : Int32} {s0 : Nat} {s1 : Int32} {s2 : Int32} {d1 : Int32} {h : Hp} {o : (Int32 × Hp)} (hf : f_X8_film_76 n K45 v0 v2 v3 s0 s1 s2 h = some o) : Run X (d + 1) 188 76 [some (.ref v0), some (.int d1), some (.int v2), some (.int v3)] [.int s2, .int s1, .ref s0] h (some (.int o.1), o.2) := by
  unfold f_X8_film_76 at hf
  obtain ⟨c1, hf⟩ := ite_some hf
  refine rs_iast i_X8_film_76 c1 ?_
  refine rs_iinc i_X8_film_77 rfl (v := v3 + 1) rfl (Nat.le_of_ble_eq_true rfl) (lv' := [some (.ref v0), some (.int d1), some (.int v2), some (.int (v3 + 1))]) rfl ?_
  refine rs_goto i_X8_film_80 (tg := 45) (by decide) ?_
  exact HK45 _ _ _ _ _ _ hf
def f_X8_film_45 (n : Nat) : Nat → Nat → Int32 → Int32 → Hp → Option (Int32 × Hp)
  | 0, _, _, _, _ => none
  | m + 1, v0, v2, v3, h =>
    if 40 ≤ v3 then
      some (12, h)
    else
      if okO h v0 8 then
      (gR h v0 24).bind fun a3 =>
      if 12 ≤ v3 then
        f_X8_film_76 n (f_X8_film_45 n m) v0 v2 v3 a3 ((40 * v2) + v3) 0 h
      else
        (f_X8_thickOf v0 v3 h).bind fun o5 =>
        f_X8_film_76 n (f_X8_film_45 n m) v0 v2 v3 a3 ((40 * v2) + v3) o5.1 o5.2
      else none
set_option maxRecDepth 100000 in
set_option maxHeartbeats 4000000 in
theorem r_X8_film_45 {X : Nat → Int32} {d : Nat} (hd : 7 ≤ (d + 1)) {n : Nat} : ∀ (m : Nat) (v0 : Nat) (v2 : Int32) (v3 : Int32) (d1 : Int32) (h : Hp) (o : (Int32 × Hp)), f_X8_film_45 n m v0 v2 v3 h = some o → Run X (d + 1) 188 45 [some (.ref v0), some (.int d1), some (.int v2), some (.int v3)] [] h (some (.int o.1), o.2) := by
  intro m
  induction m with
  | zero => intro v0 v2 v3 d1 h o hf; cases hf
  | succ m ih =>
    intro v0 v2 v3 d1 h o hf
    rw [f_X8_film_45] at hf
    refine rs_iload_n i_X8_film_45 rfl ?_
    refine rs_bipush i_X8_film_46 (v := 40) (by decide) ?_
    by_cases c1 : 40 ≤ v3
    · replace hf := (if_pos c1).symm.trans hf
      refine rs_icT i_X8_film_48 (ct_ge c1) (tg := 83) (by decide) ?_
      refine rs_bipush i_X8_film_83 (v := 12) (by decide) ?_
      have hf := Option.some.inj hf
      subst hf
      exact rs_iret i_X8_film_85 m_X8_film rfl
    · replace hf := (if_neg c1).symm.trans hf
      refine rs_icF i_X8_film_48 (cf_ge c1) ?_
      refine rs_aload_n i_X8_film_51 rfl ?_
      obtain ⟨c2, hf⟩ := ite_some hf
      obtain ⟨a3, e3, hf⟩ := bind_some hf
      refine rs_getR i_X8_film_52 (by decide) (by decide) c2 e3 ?_
      refine rs_bipush i_X8_film_55 (v := 40) (by decide) ?_
      refine rs_iload_n i_X8_film_57 rfl ?_
      refine rs_imul i_X8_film_58 ?_
      refine rs_iload_n i_X8_film_59 rfl ?_
      refine rs_iadd i_X8_film_60 ?_
      refine rs_iload_n i_X8_film_61 rfl ?_
      refine rs_bipush i_X8_film_62 (v := 12) (by decide) ?_
      by_cases c4 : 12 ≤ v3
      · replace hf := (if_pos c4).symm.trans hf
        refine rs_icT i_X8_film_64 (ct_ge c4) (tg := 75) (by decide) ?_
        refine rs_iconst i_X8_film_75 (v := 0) (by decide) ?_
        exact r_X8_film_76 hd ih hf
      · replace hf := (if_neg c4).symm.trans hf
        refine rs_icF i_X8_film_64 (cf_ge c4) ?_
        refine rs_aload_n i_X8_film_67 rfl ?_
        refine rs_iload_n i_X8_film_68 rfl ?_
        obtain ⟨o5, e5, hf⟩ := bind_some hf
        refine rs_inV i_X8_film_69 m_X8_thickOf rfl (As := [.int v3]) (rest := [.int ((40 * v2) + v3), .ref a3]) rfl rfl (Nat.le_of_ble_eq_true rfl) c2 (c_X8_thickOf (by omega) e5) (st' := [.int o5.1, .int ((40 * v2) + v3), .ref a3]) rfl ?_
        refine rs_goto i_X8_film_72 (tg := 76) (by decide) ?_
        exact r_X8_film_76 hd ih hf
def f_X8_film_35 (n : Nat) (v0 : Nat) (v2 : Int32) (h : Hp) : Option (Int32 × Hp) :=
  if okO h v0 8 then
  (gR h v0 23).bind fun a2 =>
  if okI h a2 v2 then
  f_X8_film_45 n n v0 v2 0 (hsi h a2 (ix v2) 12)
  else none
  else none
set_option maxRecDepth 100000 in
set_option maxHeartbeats 4000000 in
theorem r_X8_film_35 {X : Nat → Int32} {d : Nat} (hd : 7 ≤ (d + 1)) {n : Nat} {v0 : Nat} {v2 : Int32} {d1 : Int32} {h : Hp} {o : (Int32 × Hp)} (hf : f_X8_film_35 n v0 v2 h = some o) : Run X (d + 1) 188 35 [some (.ref v0), some (.int d1), some (.int v2), none] [] h (some (.int o.1), o.2) := by
  unfold f_X8_film_35 at hf
  refine rs_aload_n i_X8_film_35 rfl ?_
  obtain ⟨c1, hf⟩ := ite_some hf
  obtain ⟨a2, e2, hf⟩ := bind_some hf
  refine rs_getR i_X8_film_36 (by decide) (by decide) c1 e2 ?_
  refine rs_iload_n i_X8_film_39 rfl ?_
  refine rs_bipush i_X8_film_40 (v := 12) (by decide) ?_
  obtain ⟨c3, hf⟩ := ite_some hf
  refine rs_iast i_X8_film_42 c3 ?_
  refine rs_iconst i_X8_film_43 (v := 0) (by decide) ?_
  refine rs_istore_n i_X8_film_44 (Nat.le_of_ble_eq_true rfl) (lv' := [some (.ref v0), some (.int d1), some (.int v2), some (.int 0)]) rfl ?_
  exact r_X8_film_45 hd _ _ _ _ _ _ _ hf
def f_X8_film_0 (n : Nat) (v0 : Nat) (v1 : Int32) (v2 : Int32) (h : Hp) : Option (Int32 × Hp) :=
  if okO h v0 8 then
  (f_X8_areSteps v0 v1 h).bind fun o1 =>
  if o1.1 ≠ 0 then
    (f_X8_in v2 0 3 o1.2).bind fun o4 =>
    if o4.1 ≠ 0 then
      if okO o4.2 v0 8 then
      (f_X8_goes n v0 v1 o4.2).bind fun o6 =>
      if okO o6 v0 8 then
      (gR o6 v0 22).bind fun a9 =>
      if okI o6 a9 v2 then
      f_X8_film_35 n v0 v2 (hsi o6 a9 (ix v2) 2)
      else none
      else none
      else none
    else
      some ((-2), o4.2)
  else
    some ((-5), o1.2)
  else none
set_option maxRecDepth 100000 in
set_option maxHeartbeats 4000000 in
theorem r_X8_film_0 {X : Nat → Int32} {d : Nat} (hd : 7 ≤ (d + 1)) {n : Nat} {v0 : Nat} {v1 : Int32} {v2 : Int32} {h : Hp} {o : (Int32 × Hp)} (hf : f_X8_film_0 n v0 v1 v2 h = some o) : Run X (d + 1) 188 0 [some (.ref v0), some (.int v1), some (.int v2), none] [] h (some (.int o.1), o.2) := by
  unfold f_X8_film_0 at hf
  refine rs_aload_n i_X8_film_0 rfl ?_
  refine rs_iload_n i_X8_film_1 rfl ?_
  obtain ⟨c2, hf⟩ := ite_some hf
  obtain ⟨o1, e1, hf⟩ := bind_some hf
  refine rs_inV i_X8_film_2 m_X8_areSteps rfl (As := [.int v1]) (rest := []) rfl rfl (Nat.le_of_ble_eq_true rfl) c2 (c_X8_areSteps (by omega) e1) (st' := [.int o1.1]) rfl ?_
  by_cases c3 : o1.1 ≠ 0
  · replace hf := (if_pos c3).symm.trans hf
    refine rs_ifT i_X8_film_5 (ct_ne c3) (tg := 11) (by decide) ?_
    refine rs_iload_n i_X8_film_11 rfl ?_
    refine rs_iconst i_X8_film_12 (v := 0) (by decide) ?_
    refine rs_iconst i_X8_film_13 (v := 3) (by decide) ?_
    obtain ⟨o4, e4, hf⟩ := bind_some hf
    refine rs_inS i_X8_film_14 (by decide) m_X8_in rfl (As := [.int v2, .int 0, .int 3]) (rest := []) rfl rfl (Nat.le_of_ble_eq_true rfl) (c_X8_in (by omega) e4) (st' := [.int o4.1]) rfl ?_
    by_cases c5 : o4.1 ≠ 0
    · replace hf := (if_pos c5).symm.trans hf
      refine rs_ifT i_X8_film_17 (ct_ne c5) (tg := 23) (by decide) ?_
      refine rs_aload_n i_X8_film_23 rfl ?_
      refine rs_iload_n i_X8_film_24 rfl ?_
      obtain ⟨c7, hf⟩ := ite_some hf
      obtain ⟨o6, e6, hf⟩ := bind_some hf
      refine rs_inV i_X8_film_25 m_X8_goes rfl (As := [.int v1]) (rest := []) rfl rfl (Nat.le_of_ble_eq_true rfl) c7 (c_X8_goes (by omega) e6) (st' := []) rfl ?_
      refine rs_aload_n i_X8_film_28 rfl ?_
      obtain ⟨c8, hf⟩ := ite_some hf
      obtain ⟨a9, e9, hf⟩ := bind_some hf
      refine rs_getR i_X8_film_29 (by decide) (by decide) c8 e9 ?_
      refine rs_iload_n i_X8_film_32 rfl ?_
      refine rs_iconst i_X8_film_33 (v := 2) (by decide) ?_
      obtain ⟨c10, hf⟩ := ite_some hf
      refine rs_iast i_X8_film_34 c10 ?_
      exact r_X8_film_35 hd hf
    · replace hf := (if_neg c5).symm.trans hf
      refine rs_ifF i_X8_film_17 (cf_ne c5) ?_
      refine rs_bipush i_X8_film_20 (v := (-2)) (by decide) ?_
      have hf := Option.some.inj hf
      subst hf
      exact rs_iret i_X8_film_22 m_X8_film rfl
  · replace hf := (if_neg c3).symm.trans hf
    refine rs_ifF i_X8_film_5 (cf_ne c3) ?_
    refine rs_bipush i_X8_film_8 (v := (-5)) (by decide) ?_
    have hf := Option.some.inj hf
    subst hf
    exact rs_iret i_X8_film_10 m_X8_film rfl
def f_X8_film (n : Nat) (v0 : Nat) (v1 : Int32) (v2 : Int32) (h : Hp) : Option (Int32 × Hp) := f_X8_film_0 n v0 v1 v2 h
theorem c_X8_film {X : Nat → Int32} {d : Nat} (hd : 7 ≤ d) {n : Nat} {v0 : Nat} {v1 : Int32} {v2 : Int32} {h : Hp} {o : (Int32 × Hp)} (hf : f_X8_film n v0 v1 v2 h = some o) : Calls X d 188 [.ref v0, .int v1, .int v2] h (some (.int o.1), o.2) := by
  obtain ⟨d, rfl⟩ : ∃ z, d = z + 1 := ⟨d - 1, by omega⟩
  exact ⟨_, rfl, r_X8_film_0 hd hf⟩
theorem i_X8_serves_0 : fetch 189 0 = some (.aload_n 0, 1, 0, 0, 0, 0) := by decide +kernel
theorem i_X8_serves_1 : fetch 189 1 = some (.iload_n 1, 2, 0, 0, 0, 0) := by decide +kernel
theorem i_X8_serves_2 : fetch 189 2 = some (.invokevirtual 286, 5, 128, 0, 0, 1223) := by decide +kernel
theorem i_X8_serves_5 : fetch 189 5 = some (.ifCond .ne 6, 8, 0, 0, 0, 0) := by decide +kernel
theorem i_X8_serves_8 : fetch 189 8 = some (.bipush (-5), 10, 0, 0, 0, 0) := by decide +kernel
theorem i_X8_serves_10 : fetch 189 10 = some (.ireturn, 11, 0, 0, 0, 0) := by decide +kernel
theorem i_X8_serves_11 : fetch 189 11 = some (.aload_n 0, 12, 0, 0, 0, 0) := by decide +kernel
theorem i_X8_serves_12 : fetch 189 12 = some (.iload_n 2, 13, 0, 0, 0, 0) := by decide +kernel
theorem i_X8_serves_13 : fetch 189 13 = some (.invokevirtual 320, 16, 185, 0, 0, 1371) := by decide +kernel
theorem i_X8_serves_16 : fetch 189 16 = some (.istore 4, 18, 0, 0, 0, 0) := by decide +kernel
theorem i_X8_serves_18 : fetch 189 18 = some (.iload 4, 20, 0, 0, 0, 0) := by decide +kernel
theorem i_X8_serves_20 : fetch 189 20 = some (.ifCond .eq 6, 23, 0, 0, 0, 0) := by decide +kernel
theorem i_X8_serves_23 : fetch 189 23 = some (.iload 4, 25, 0, 0, 0, 0) := by decide +kernel
theorem i_X8_serves_25 : fetch 189 25 = some (.ireturn, 26, 0, 0, 0, 0) := by decide +kernel
theorem i_X8_serves_26 : fetch 189 26 = some (.iload_n 3, 27, 0, 0, 0, 0) := by decide +kernel
theorem i_X8_serves_27 : fetch 189 27 = some (.iconst 0, 28, 0, 0, 0, 0) := by decide +kernel
theorem i_X8_serves_28 : fetch 189 28 = some (.iconst 2, 29, 0, 0, 0, 0) := by decide +kernel
theorem i_X8_serves_29 : fetch 189 29 = some (.invokestatic 112, 32, 126, 0, 0, 970) := by decide +kernel
theorem i_X8_serves_32 : fetch 189 32 = some (.ifCond .ne 6, 35, 0, 0, 0, 0) := by decide +kernel
theorem i_X8_serves_35 : fetch 189 35 = some (.bipush (-7), 37, 0, 0, 0, 0) := by decide +kernel
theorem i_X8_serves_37 : fetch 189 37 = some (.ireturn, 38, 0, 0, 0, 0) := by decide +kernel
theorem i_X8_serves_38 : fetch 189 38 = some (.aload_n 0, 39, 0, 0, 0, 0) := by decide +kernel
theorem i_X8_serves_39 : fetch 189 39 = some (.iload_n 3, 40, 0, 0, 0, 0) := by decide +kernel
theorem i_X8_serves_40 : fetch 189 40 = some (.invokevirtual 124, 43, 134, 0, 0, 1184) := by decide +kernel
theorem i_X8_serves_43 : fetch 189 43 = some (.istore 5, 45, 0, 0, 0, 0) := by decide +kernel
theorem i_X8_serves_45 : fetch 189 45 = some (.iconst 0, 46, 0, 0, 0, 0) := by decide +kernel
theorem i_X8_serves_46 : fetch 189 46 = some (.istore 6, 48, 0, 0, 0, 0) := by decide +kernel
theorem i_X8_serves_48 : fetch 189 48 = some (.iconst 0, 49, 0, 0, 0, 0) := by decide +kernel
theorem i_X8_serves_49 : fetch 189 49 = some (.istore 7, 51, 0, 0, 0, 0) := by decide +kernel
theorem i_X8_serves_51 : fetch 189 51 = some (.iload 7, 53, 0, 0, 0, 0) := by decide +kernel
theorem i_X8_serves_53 : fetch 189 53 = some (.bipush 9, 55, 0, 0, 0, 0) := by decide +kernel
theorem i_X8_serves_55 : fetch 189 55 = some (.if_icmp .gt 44, 58, 0, 0, 0, 0) := by decide +kernel
theorem i_X8_serves_58 : fetch 189 58 = some (.aload_n 0, 59, 0, 0, 0, 0) := by decide +kernel
theorem i_X8_serves_59 : fetch 189 59 = some (.iload_n 3, 60, 0, 0, 0, 0) := by decide +kernel
theorem i_X8_serves_60 : fetch 189 60 = some (.iload 7, 62, 0, 0, 0, 0) := by decide +kernel
theorem i_X8_serves_62 : fetch 189 62 = some (.invokevirtual 128, 65, 133, 0, 0, 1188) := by decide +kernel
theorem i_X8_serves_65 : fetch 189 65 = some (.aload_n 0, 66, 0, 0, 0, 0) := by decide +kernel
theorem i_X8_serves_66 : fetch 189 66 = some (.iload_n 1, 67, 0, 0, 0, 0) := by decide +kernel
theorem i_X8_serves_67 : fetch 189 67 = some (.invokevirtual 289, 70, 168, 0, 0, 1227) := by decide +kernel
theorem i_X8_serves_70 : fetch 189 70 = some (.iload 6, 72, 0, 0, 0, 0) := by decide +kernel
theorem i_X8_serves_72 : fetch 189 72 = some (.aload_n 0, 73, 0, 0, 0, 0) := by decide +kernel
theorem i_X8_serves_73 : fetch 189 73 = some (.iload_n 2, 74, 0, 0, 0, 0) := by decide +kernel
theorem i_X8_serves_74 : fetch 189 74 = some (.iconst 0, 75, 0, 0, 0, 0) := by decide +kernel
theorem i_X8_serves_75 : fetch 189 75 = some (.invokevirtual 323, 78, 186, 0, 0, 1375) := by decide +kernel
theorem i_X8_serves_78 : fetch 189 78 = some (.iconst (-1), 79, 0, 0, 0, 0) := by decide +kernel
theorem i_X8_serves_79 : fetch 189 79 = some (.if_icmp .ne 10, 82, 0, 0, 0, 0) := by decide +kernel
theorem i_X8_serves_82 : fetch 189 82 = some (.iconst 1, 83, 0, 0, 0, 0) := by decide +kernel
theorem i_X8_serves_83 : fetch 189 83 = some (.iload 7, 85, 0, 0, 0, 0) := by decide +kernel
theorem i_X8_serves_85 : fetch 189 85 = some (.ishl, 86, 0, 0, 0, 0) := by decide +kernel
theorem i_X8_serves_86 : fetch 189 86 = some (.goto 4, 89, 0, 0, 0, 0) := by decide +kernel
theorem i_X8_serves_89 : fetch 189 89 = some (.iconst 0, 90, 0, 0, 0, 0) := by decide +kernel
theorem i_X8_serves_90 : fetch 189 90 = some (.ior, 91, 0, 0, 0, 0) := by decide +kernel
theorem i_X8_serves_91 : fetch 189 91 = some (.istore 6, 93, 0, 0, 0, 0) := by decide +kernel
theorem i_X8_serves_93 : fetch 189 93 = some (.iinc 7 1, 96, 0, 0, 0, 0) := by decide +kernel
theorem i_X8_serves_96 : fetch 189 96 = some (.goto (-45), 99, 0, 0, 0, 0) := by decide +kernel
theorem i_X8_serves_99 : fetch 189 99 = some (.aload_n 0, 100, 0, 0, 0, 0) := by decide +kernel
theorem i_X8_serves_100 : fetch 189 100 = some (.iload_n 3, 101, 0, 0, 0, 0) := by decide +kernel
theorem i_X8_serves_101 : fetch 189 101 = some (.iload 5, 103, 0, 0, 0, 0) := by decide +kernel
theorem i_X8_serves_103 : fetch 189 103 = some (.invokevirtual 128, 106, 133, 0, 0, 1188) := by decide +kernel
theorem i_X8_serves_106 : fetch 189 106 = some (.iload 6, 108, 0, 0, 0, 0) := by decide +kernel
theorem i_X8_serves_108 : fetch 189 108 = some (.ireturn, 109, 0, 0, 0, 0) := by decide +kernel
def f_X8_serves_90 (n : Nat) (K51 : Nat → Int32 → Int32 → Int32 → Int32 → Int32 → Int32 → Hp → Option (Int32 × Hp)) (v0 : Nat) (v1 : Int32) (v2 : Int32) (v3 : Int32) (v5 : Int32) (v7 : Int32) (s0 : Int32) (s1 : Int32) (h : Hp) : Option (Int32 × Hp) :=
  K51 v0 v1 v2 v3 v5 (s0 ||| s1) (v7 + 1) h
set_option maxRecDepth 100000 in
set_option maxHeartbeats 4000000 in
theorem r_X8_serves_90 {X : Nat → Int32} {d : Nat} (hd : 7 ≤ (d + 1)) {n : Nat} {K51 : Nat → Int32 → Int32 → Int32 → Int32 → Int32 → Int32 → Hp → Option (Int32 × Hp)} (HK51 : ∀ (v0 : Nat) (v1 : Int32) (v2 : Int32) (v3 : Int32) (v5 : Int32) (v6 : Int32) (v7 : Int32) (d4 : Int32) (h : Hp) (o : (Int32 × Hp)), K51 v0 v1 v2 v3 v5 v6 v7 h = some o → Run X (d + 1) 189 51 [some (.ref v0), some (.int v1), some (.int v2), some (.int v3), some (.int d4), some (.int v5), some (.int v6), some (.int v7)] [] h (some (.int o.1), o.2)) {v0 : Nat} {v1 : Int32} {v2 : Int32} {v3 : Int32} {v5 : Int32} {v7 : Int32} {s0 : Int32} {s1 : Int32} {d4 : Int32} {d6 : Int32} {h : Hp} {o : (Int32 × Hp)} (hf : f_X8_serves_90 n K51 v0 v1 v2 v3 v5 v7 s0 s1 h = some o) : Run X (d + 1) 189 90 [some (.ref v0), some (.int v1), some (.int v2), some (.int v3), some (.int d4), some (.int v5), some (.int d6), some (.int v7)] [.int s1, .int s0] h (some (.int o.1), o.2) := by
  unfold f_X8_serves_90 at hf
  refine rs_ior i_X8_serves_90 ?_
  refine rs_istore i_X8_serves_91 (Nat.le_of_ble_eq_true rfl) (lv' := [some (.ref v0), some (.int v1), some (.int v2), some (.int v3), some (.int d4), some (.int v5), some (.int (s0 ||| s1)), some (.int v7)]) rfl ?_
  refine rs_iinc i_X8_serves_93 rfl (v := v7 + 1) rfl (Nat.le_of_ble_eq_true rfl) (lv' := [some (.ref v0), some (.int v1), some (.int v2), some (.int v3), some (.int d4), some (.int v5), some (.int (s0 ||| s1)), some (.int (v7 + 1))]) rfl ?_
  refine rs_goto i_X8_serves_96 (tg := 51) (by decide) ?_
  exact HK51 _ _ _ _ _ _ _ _ _ _ hf
def f_X8_serves_51 (n : Nat) : Nat → Nat → Int32 → Int32 → Int32 → Int32 → Int32 → Int32 → Hp → Option (Int32 × Hp)
  | 0, _, _, _, _, _, _, _, _ => none
  | m + 1, v0, v1, v2, v3, v5, v6, v7, h =>
    if 9 < v7 then
      if okO h v0 8 then
      (f_X8_holds0 v0 v3 v5 h).bind fun o2 =>
      some (v6, o2)
      else none
    else
      if okO h v0 8 then
      (f_X8_holds0 v0 v3 v7 h).bind fun o4 =>
      if okO o4 v0 8 then
      (f_X8_goes n v0 v1 o4).bind fun o6 =>
      if okO o6 v0 8 then
      (f_X8_offFrom n v0 v2 0 o6).bind fun o8 =>
      if o8.1 ≠ (-1) then
        f_X8_serves_90 n (f_X8_serves_51 n m) v0 v1 v2 v3 v5 v7 v6 0 o8.2
      else
        f_X8_serves_90 n (f_X8_serves_51 n m) v0 v1 v2 v3 v5 v7 v6 (1 <<< (v7 &&& 31)) o8.2
      else none
      else none
      else none
set_option maxRecDepth 100000 in
set_option maxHeartbeats 4000000 in
theorem r_X8_serves_51 {X : Nat → Int32} {d : Nat} (hd : 7 ≤ (d + 1)) {n : Nat} : ∀ (m : Nat) (v0 : Nat) (v1 : Int32) (v2 : Int32) (v3 : Int32) (v5 : Int32) (v6 : Int32) (v7 : Int32) (d4 : Int32) (h : Hp) (o : (Int32 × Hp)), f_X8_serves_51 n m v0 v1 v2 v3 v5 v6 v7 h = some o → Run X (d + 1) 189 51 [some (.ref v0), some (.int v1), some (.int v2), some (.int v3), some (.int d4), some (.int v5), some (.int v6), some (.int v7)] [] h (some (.int o.1), o.2) := by
  intro m
  induction m with
  | zero => intro v0 v1 v2 v3 v5 v6 v7 d4 h o hf; cases hf
  | succ m ih =>
    intro v0 v1 v2 v3 v5 v6 v7 d4 h o hf
    rw [f_X8_serves_51] at hf
    refine rs_iload i_X8_serves_51 rfl ?_
    refine rs_bipush i_X8_serves_53 (v := 9) (by decide) ?_
    by_cases c1 : 9 < v7
    · replace hf := (if_pos c1).symm.trans hf
      refine rs_icT i_X8_serves_55 (ct_gt c1) (tg := 99) (by decide) ?_
      refine rs_aload_n i_X8_serves_99 rfl ?_
      refine rs_iload_n i_X8_serves_100 rfl ?_
      refine rs_iload i_X8_serves_101 rfl ?_
      obtain ⟨c3, hf⟩ := ite_some hf
      obtain ⟨o2, e2, hf⟩ := bind_some hf
      refine rs_inV i_X8_serves_103 m_X8_holds0 rfl (As := [.int v3, .int v5]) (rest := []) rfl rfl (Nat.le_of_ble_eq_true rfl) c3 (c_X8_holds0 (by omega) e2) (st' := []) rfl ?_
      refine rs_iload i_X8_serves_106 rfl ?_
      have hf := Option.some.inj hf
      subst hf
      exact rs_iret i_X8_serves_108 m_X8_serves rfl
    · replace hf := (if_neg c1).symm.trans hf
      refine rs_icF i_X8_serves_55 (cf_gt c1) ?_
      refine rs_aload_n i_X8_serves_58 rfl ?_
      refine rs_iload_n i_X8_serves_59 rfl ?_
      refine rs_iload i_X8_serves_60 rfl ?_
      obtain ⟨c5, hf⟩ := ite_some hf
      obtain ⟨o4, e4, hf⟩ := bind_some hf
      refine rs_inV i_X8_serves_62 m_X8_holds0 rfl (As := [.int v3, .int v7]) (rest := []) rfl rfl (Nat.le_of_ble_eq_true rfl) c5 (c_X8_holds0 (by omega) e4) (st' := []) rfl ?_
      refine rs_aload_n i_X8_serves_65 rfl ?_
      refine rs_iload_n i_X8_serves_66 rfl ?_
      obtain ⟨c7, hf⟩ := ite_some hf
      obtain ⟨o6, e6, hf⟩ := bind_some hf
      refine rs_inV i_X8_serves_67 m_X8_goes rfl (As := [.int v1]) (rest := []) rfl rfl (Nat.le_of_ble_eq_true rfl) c7 (c_X8_goes (by omega) e6) (st' := []) rfl ?_
      refine rs_iload i_X8_serves_70 rfl ?_
      refine rs_aload_n i_X8_serves_72 rfl ?_
      refine rs_iload_n i_X8_serves_73 rfl ?_
      refine rs_iconst i_X8_serves_74 (v := 0) (by decide) ?_
      obtain ⟨c9, hf⟩ := ite_some hf
      obtain ⟨o8, e8, hf⟩ := bind_some hf
      refine rs_inV i_X8_serves_75 m_X8_offFrom rfl (As := [.int v2, .int 0]) (rest := [.int v6]) rfl rfl (Nat.le_of_ble_eq_true rfl) c9 (c_X8_offFrom (by omega) e8) (st' := [.int o8.1, .int v6]) rfl ?_
      refine rs_iconst i_X8_serves_78 (v := (-1)) (by decide) ?_
      by_cases c10 : o8.1 ≠ (-1)
      · replace hf := (if_pos c10).symm.trans hf
        refine rs_icT i_X8_serves_79 (ct_ne c10) (tg := 89) (by decide) ?_
        refine rs_iconst i_X8_serves_89 (v := 0) (by decide) ?_
        exact r_X8_serves_90 hd ih hf
      · replace hf := (if_neg c10).symm.trans hf
        refine rs_icF i_X8_serves_79 (cf_ne c10) ?_
        refine rs_iconst i_X8_serves_82 (v := 1) (by decide) ?_
        refine rs_iload i_X8_serves_83 rfl ?_
        refine rs_ishl i_X8_serves_85 ?_
        refine rs_goto i_X8_serves_86 (tg := 90) (by decide) ?_
        exact r_X8_serves_90 hd ih hf
def f_X8_serves_0 (n : Nat) (v0 : Nat) (v1 : Int32) (v2 : Int32) (v3 : Int32) (h : Hp) : Option (Int32 × Hp) :=
  if okO h v0 8 then
  (f_X8_areSteps v0 v1 h).bind fun o1 =>
  if o1.1 ≠ 0 then
    if okO o1.2 v0 8 then
    (f_X8_sheetWrong v0 v2 o1.2).bind fun o4 =>
    if o4.1 = 0 then
      (f_X8_in v3 0 2 o4.2).bind fun o7 =>
      if o7.1 ≠ 0 then
        if okO o7.2 v0 8 then
        (f_X8_count v0 v3 o7.2).bind fun o9 =>
        f_X8_serves_51 n n v0 v1 v2 v3 o9.1 0 0 o9.2
        else none
      else
        some ((-7), o7.2)
    else
      some (o4.1, o4.2)
    else none
  else
    some ((-5), o1.2)
  else none
set_option maxRecDepth 100000 in
set_option maxHeartbeats 4000000 in
theorem r_X8_serves_0 {X : Nat → Int32} {d : Nat} (hd : 7 ≤ (d + 1)) {n : Nat} {v0 : Nat} {v1 : Int32} {v2 : Int32} {v3 : Int32} {h : Hp} {o : (Int32 × Hp)} (hf : f_X8_serves_0 n v0 v1 v2 v3 h = some o) : Run X (d + 1) 189 0 [some (.ref v0), some (.int v1), some (.int v2), some (.int v3), none, none, none, none] [] h (some (.int o.1), o.2) := by
  unfold f_X8_serves_0 at hf
  refine rs_aload_n i_X8_serves_0 rfl ?_
  refine rs_iload_n i_X8_serves_1 rfl ?_
  obtain ⟨c2, hf⟩ := ite_some hf
  obtain ⟨o1, e1, hf⟩ := bind_some hf
  refine rs_inV i_X8_serves_2 m_X8_areSteps rfl (As := [.int v1]) (rest := []) rfl rfl (Nat.le_of_ble_eq_true rfl) c2 (c_X8_areSteps (by omega) e1) (st' := [.int o1.1]) rfl ?_
  by_cases c3 : o1.1 ≠ 0
  · replace hf := (if_pos c3).symm.trans hf
    refine rs_ifT i_X8_serves_5 (ct_ne c3) (tg := 11) (by decide) ?_
    refine rs_aload_n i_X8_serves_11 rfl ?_
    refine rs_iload_n i_X8_serves_12 rfl ?_
    obtain ⟨c5, hf⟩ := ite_some hf
    obtain ⟨o4, e4, hf⟩ := bind_some hf
    refine rs_inV i_X8_serves_13 m_X8_sheetWrong rfl (As := [.int v2]) (rest := []) rfl rfl (Nat.le_of_ble_eq_true rfl) c5 (c_X8_sheetWrong (by omega) e4) (st' := [.int o4.1]) rfl ?_
    refine rs_istore i_X8_serves_16 (Nat.le_of_ble_eq_true rfl) (lv' := [some (.ref v0), some (.int v1), some (.int v2), some (.int v3), some (.int o4.1), none, none, none]) rfl ?_
    refine rs_iload i_X8_serves_18 rfl ?_
    by_cases c6 : o4.1 = 0
    · replace hf := (if_pos c6).symm.trans hf
      refine rs_ifT i_X8_serves_20 (ct_eq c6) (tg := 26) (by decide) ?_
      refine rs_iload_n i_X8_serves_26 rfl ?_
      refine rs_iconst i_X8_serves_27 (v := 0) (by decide) ?_
      refine rs_iconst i_X8_serves_28 (v := 2) (by decide) ?_
      obtain ⟨o7, e7, hf⟩ := bind_some hf
      refine rs_inS i_X8_serves_29 (by decide) m_X8_in rfl (As := [.int v3, .int 0, .int 2]) (rest := []) rfl rfl (Nat.le_of_ble_eq_true rfl) (c_X8_in (by omega) e7) (st' := [.int o7.1]) rfl ?_
      by_cases c8 : o7.1 ≠ 0
      · replace hf := (if_pos c8).symm.trans hf
        refine rs_ifT i_X8_serves_32 (ct_ne c8) (tg := 38) (by decide) ?_
        refine rs_aload_n i_X8_serves_38 rfl ?_
        refine rs_iload_n i_X8_serves_39 rfl ?_
        obtain ⟨c10, hf⟩ := ite_some hf
        obtain ⟨o9, e9, hf⟩ := bind_some hf
        refine rs_inV i_X8_serves_40 m_X8_count rfl (As := [.int v3]) (rest := []) rfl rfl (Nat.le_of_ble_eq_true rfl) c10 (c_X8_count (by omega) e9) (st' := [.int o9.1]) rfl ?_
        refine rs_istore i_X8_serves_43 (Nat.le_of_ble_eq_true rfl) (lv' := [some (.ref v0), some (.int v1), some (.int v2), some (.int v3), some (.int o4.1), some (.int o9.1), none, none]) rfl ?_
        refine rs_iconst i_X8_serves_45 (v := 0) (by decide) ?_
        refine rs_istore i_X8_serves_46 (Nat.le_of_ble_eq_true rfl) (lv' := [some (.ref v0), some (.int v1), some (.int v2), some (.int v3), some (.int o4.1), some (.int o9.1), some (.int 0), none]) rfl ?_
        refine rs_iconst i_X8_serves_48 (v := 0) (by decide) ?_
        refine rs_istore i_X8_serves_49 (Nat.le_of_ble_eq_true rfl) (lv' := [some (.ref v0), some (.int v1), some (.int v2), some (.int v3), some (.int o4.1), some (.int o9.1), some (.int 0), some (.int 0)]) rfl ?_
        exact r_X8_serves_51 hd _ _ _ _ _ _ _ _ _ _ _ hf
      · replace hf := (if_neg c8).symm.trans hf
        refine rs_ifF i_X8_serves_32 (cf_ne c8) ?_
        refine rs_bipush i_X8_serves_35 (v := (-7)) (by decide) ?_
        have hf := Option.some.inj hf
        subst hf
        exact rs_iret i_X8_serves_37 m_X8_serves rfl
    · replace hf := (if_neg c6).symm.trans hf
      refine rs_ifF i_X8_serves_20 (cf_eq c6) ?_
      refine rs_iload i_X8_serves_23 rfl ?_
      have hf := Option.some.inj hf
      subst hf
      exact rs_iret i_X8_serves_25 m_X8_serves rfl
  · replace hf := (if_neg c3).symm.trans hf
    refine rs_ifF i_X8_serves_5 (cf_ne c3) ?_
    refine rs_bipush i_X8_serves_8 (v := (-5)) (by decide) ?_
    have hf := Option.some.inj hf
    subst hf
    exact rs_iret i_X8_serves_10 m_X8_serves rfl
def f_X8_serves (n : Nat) (v0 : Nat) (v1 : Int32) (v2 : Int32) (v3 : Int32) (h : Hp) : Option (Int32 × Hp) := f_X8_serves_0 n v0 v1 v2 v3 h
theorem c_X8_serves {X : Nat → Int32} {d : Nat} (hd : 7 ≤ d) {n : Nat} {v0 : Nat} {v1 : Int32} {v2 : Int32} {v3 : Int32} {h : Hp} {o : (Int32 × Hp)} (hf : f_X8_serves n v0 v1 v2 v3 h = some o) : Calls X d 189 [.ref v0, .int v1, .int v2, .int v3] h (some (.int o.1), o.2) := by
  obtain ⟨d, rfl⟩ : ∃ z, d = z + 1 := ⟨d - 1, by omega⟩
  exact ⟨_, rfl, r_X8_serves_0 hd hf⟩
theorem i_X8_which_0 : fetch 190 0 = some (.aload_n 0, 1, 0, 0, 0, 0) := by decide +kernel
theorem i_X8_which_1 : fetch 190 1 = some (.iload_n 1, 2, 0, 0, 0, 0) := by decide +kernel
theorem i_X8_which_2 : fetch 190 2 = some (.invokevirtual 286, 5, 128, 0, 0, 1223) := by decide +kernel
theorem i_X8_which_5 : fetch 190 5 = some (.ifCond .ne 6, 8, 0, 0, 0, 0) := by decide +kernel
theorem i_X8_which_8 : fetch 190 8 = some (.bipush (-5), 10, 0, 0, 0, 0) := by decide +kernel
theorem i_X8_which_10 : fetch 190 10 = some (.ireturn, 11, 0, 0, 0, 0) := by decide +kernel
theorem i_X8_which_11 : fetch 190 11 = some (.aload_n 0, 12, 0, 0, 0, 0) := by decide +kernel
theorem i_X8_which_12 : fetch 190 12 = some (.iload_n 2, 13, 0, 0, 0, 0) := by decide +kernel
theorem i_X8_which_13 : fetch 190 13 = some (.invokevirtual 320, 16, 185, 0, 0, 1371) := by decide +kernel
theorem i_X8_which_16 : fetch 190 16 = some (.istore_n 3, 17, 0, 0, 0, 0) := by decide +kernel
theorem i_X8_which_17 : fetch 190 17 = some (.iload_n 3, 18, 0, 0, 0, 0) := by decide +kernel
theorem i_X8_which_18 : fetch 190 18 = some (.ifCond .eq 5, 21, 0, 0, 0, 0) := by decide +kernel
theorem i_X8_which_21 : fetch 190 21 = some (.iload_n 3, 22, 0, 0, 0, 0) := by decide +kernel
theorem i_X8_which_22 : fetch 190 22 = some (.ireturn, 23, 0, 0, 0, 0) := by decide +kernel
theorem i_X8_which_23 : fetch 190 23 = some (.aload_n 0, 24, 0, 0, 0, 0) := by decide +kernel
theorem i_X8_which_24 : fetch 190 24 = some (.getfield 135, 27, 8, 14, 0, 1023) := by decide +kernel
theorem i_X8_which_27 : fetch 190 27 = some (.istore 4, 29, 0, 0, 0, 0) := by decide +kernel
theorem i_X8_which_29 : fetch 190 29 = some (.iconst 0, 30, 0, 0, 0, 0) := by decide +kernel
theorem i_X8_which_30 : fetch 190 30 = some (.istore 5, 32, 0, 0, 0, 0) := by decide +kernel
theorem i_X8_which_32 : fetch 190 32 = some (.iconst 0, 33, 0, 0, 0, 0) := by decide +kernel
theorem i_X8_which_33 : fetch 190 33 = some (.istore 6, 35, 0, 0, 0, 0) := by decide +kernel
theorem i_X8_which_35 : fetch 190 35 = some (.iload 6, 37, 0, 0, 0, 0) := by decide +kernel
theorem i_X8_which_37 : fetch 190 37 = some (.aload_n 0, 38, 0, 0, 0, 0) := by decide +kernel
theorem i_X8_which_38 : fetch 190 38 = some (.getfield 132, 41, 8, 13, 0, 1022) := by decide +kernel
theorem i_X8_which_41 : fetch 190 41 = some (.if_icmp .ge 43, 44, 0, 0, 0, 0) := by decide +kernel
theorem i_X8_which_44 : fetch 190 44 = some (.aload_n 0, 45, 0, 0, 0, 0) := by decide +kernel
theorem i_X8_which_45 : fetch 190 45 = some (.iload 6, 47, 0, 0, 0, 0) := by decide +kernel
theorem i_X8_which_47 : fetch 190 47 = some (.putfield 135, 50, 8, 14, 0, 1023) := by decide +kernel
theorem i_X8_which_50 : fetch 190 50 = some (.aload_n 0, 51, 0, 0, 0, 0) := by decide +kernel
theorem i_X8_which_51 : fetch 190 51 = some (.iload_n 1, 52, 0, 0, 0, 0) := by decide +kernel
theorem i_X8_which_52 : fetch 190 52 = some (.invokevirtual 289, 55, 168, 0, 0, 1227) := by decide +kernel
theorem i_X8_which_55 : fetch 190 55 = some (.iload 5, 57, 0, 0, 0, 0) := by decide +kernel
theorem i_X8_which_57 : fetch 190 57 = some (.aload_n 0, 58, 0, 0, 0, 0) := by decide +kernel
theorem i_X8_which_58 : fetch 190 58 = some (.iload_n 2, 59, 0, 0, 0, 0) := by decide +kernel
theorem i_X8_which_59 : fetch 190 59 = some (.iconst 0, 60, 0, 0, 0, 0) := by decide +kernel
theorem i_X8_which_60 : fetch 190 60 = some (.invokevirtual 323, 63, 186, 0, 0, 1375) := by decide +kernel
theorem i_X8_which_63 : fetch 190 63 = some (.iconst (-1), 64, 0, 0, 0, 0) := by decide +kernel
theorem i_X8_which_64 : fetch 190 64 = some (.if_icmp .ne 10, 67, 0, 0, 0, 0) := by decide +kernel
theorem i_X8_which_67 : fetch 190 67 = some (.iconst 1, 68, 0, 0, 0, 0) := by decide +kernel
theorem i_X8_which_68 : fetch 190 68 = some (.iload 6, 70, 0, 0, 0, 0) := by decide +kernel
theorem i_X8_which_70 : fetch 190 70 = some (.ishl, 71, 0, 0, 0, 0) := by decide +kernel
theorem i_X8_which_71 : fetch 190 71 = some (.goto 4, 74, 0, 0, 0, 0) := by decide +kernel
theorem i_X8_which_74 : fetch 190 74 = some (.iconst 0, 75, 0, 0, 0, 0) := by decide +kernel
theorem i_X8_which_75 : fetch 190 75 = some (.ior, 76, 0, 0, 0, 0) := by decide +kernel
theorem i_X8_which_76 : fetch 190 76 = some (.istore 5, 78, 0, 0, 0, 0) := by decide +kernel
theorem i_X8_which_78 : fetch 190 78 = some (.iinc 6 1, 81, 0, 0, 0, 0) := by decide +kernel
theorem i_X8_which_81 : fetch 190 81 = some (.goto (-46), 84, 0, 0, 0, 0) := by decide +kernel
theorem i_X8_which_84 : fetch 190 84 = some (.aload_n 0, 85, 0, 0, 0, 0) := by decide +kernel
theorem i_X8_which_85 : fetch 190 85 = some (.iload 4, 87, 0, 0, 0, 0) := by decide +kernel
theorem i_X8_which_87 : fetch 190 87 = some (.putfield 135, 90, 8, 14, 0, 1023) := by decide +kernel
theorem i_X8_which_90 : fetch 190 90 = some (.iload 5, 92, 0, 0, 0, 0) := by decide +kernel
theorem i_X8_which_92 : fetch 190 92 = some (.ireturn, 93, 0, 0, 0, 0) := by decide +kernel
def f_X8_which_75 (n : Nat) (K35 : Nat → Int32 → Int32 → Int32 → Int32 → Int32 → Hp → Option (Int32 × Hp)) (v0 : Nat) (v1 : Int32) (v2 : Int32) (v4 : Int32) (v6 : Int32) (s0 : Int32) (s1 : Int32) (h : Hp) : Option (Int32 × Hp) :=
  K35 v0 v1 v2 v4 (s0 ||| s1) (v6 + 1) h
set_option maxRecDepth 100000 in
set_option maxHeartbeats 4000000 in
theorem r_X8_which_75 {X : Nat → Int32} {d : Nat} (hd : 7 ≤ (d + 1)) {n : Nat} {K35 : Nat → Int32 → Int32 → Int32 → Int32 → Int32 → Hp → Option (Int32 × Hp)} (HK35 : ∀ (v0 : Nat) (v1 : Int32) (v2 : Int32) (v4 : Int32) (v5 : Int32) (v6 : Int32) (d3 : Int32) (h : Hp) (o : (Int32 × Hp)), K35 v0 v1 v2 v4 v5 v6 h = some o → Run X (d + 1) 190 35 [some (.ref v0), some (.int v1), some (.int v2), some (.int d3), some (.int v4), some (.int v5), some (.int v6)] [] h (some (.int o.1), o.2)) {v0 : Nat} {v1 : Int32} {v2 : Int32} {v4 : Int32} {v6 : Int32} {s0 : Int32} {s1 : Int32} {d3 : Int32} {d5 : Int32} {h : Hp} {o : (Int32 × Hp)} (hf : f_X8_which_75 n K35 v0 v1 v2 v4 v6 s0 s1 h = some o) : Run X (d + 1) 190 75 [some (.ref v0), some (.int v1), some (.int v2), some (.int d3), some (.int v4), some (.int d5), some (.int v6)] [.int s1, .int s0] h (some (.int o.1), o.2) := by
  unfold f_X8_which_75 at hf
  refine rs_ior i_X8_which_75 ?_
  refine rs_istore i_X8_which_76 (Nat.le_of_ble_eq_true rfl) (lv' := [some (.ref v0), some (.int v1), some (.int v2), some (.int d3), some (.int v4), some (.int (s0 ||| s1)), some (.int v6)]) rfl ?_
  refine rs_iinc i_X8_which_78 rfl (v := v6 + 1) rfl (Nat.le_of_ble_eq_true rfl) (lv' := [some (.ref v0), some (.int v1), some (.int v2), some (.int d3), some (.int v4), some (.int (s0 ||| s1)), some (.int (v6 + 1))]) rfl ?_
  refine rs_goto i_X8_which_81 (tg := 35) (by decide) ?_
  exact HK35 _ _ _ _ _ _ _ _ _ hf
def f_X8_which_50 (n : Nat) (K35 : Nat → Int32 → Int32 → Int32 → Int32 → Int32 → Hp → Option (Int32 × Hp)) (v0 : Nat) (v1 : Int32) (v2 : Int32) (v4 : Int32) (v5 : Int32) (v6 : Int32) (h : Hp) : Option (Int32 × Hp) :=
  if okO h v0 8 then
  (f_X8_goes n v0 v1 h).bind fun o1 =>
  if okO o1 v0 8 then
  (f_X8_offFrom n v0 v2 0 o1).bind fun o3 =>
  if o3.1 ≠ (-1) then
    f_X8_which_75 n K35 v0 v1 v2 v4 v6 v5 0 o3.2
  else
    f_X8_which_75 n K35 v0 v1 v2 v4 v6 v5 (1 <<< (v6 &&& 31)) o3.2
  else none
  else none
set_option maxRecDepth 100000 in
set_option maxHeartbeats 4000000 in
theorem r_X8_which_50 {X : Nat → Int32} {d : Nat} (hd : 7 ≤ (d + 1)) {n : Nat} {K35 : Nat → Int32 → Int32 → Int32 → Int32 → Int32 → Hp → Option (Int32 × Hp)} (HK35 : ∀ (v0 : Nat) (v1 : Int32) (v2 : Int32) (v4 : Int32) (v5 : Int32) (v6 : Int32) (d3 : Int32) (h : Hp) (o : (Int32 × Hp)), K35 v0 v1 v2 v4 v5 v6 h = some o → Run X (d + 1) 190 35 [some (.ref v0), some (.int v1), some (.int v2), some (.int d3), some (.int v4), some (.int v5), some (.int v6)] [] h (some (.int o.1), o.2)) {v0 : Nat} {v1 : Int32} {v2 : Int32} {v4 : Int32} {v5 : Int32} {v6 : Int32} {d3 : Int32} {h : Hp} {o : (Int32 × Hp)} (hf : f_X8_which_50 n K35 v0 v1 v2 v4 v5 v6 h = some o) : Run X (d + 1) 190 50 [some (.ref v0), some (.int v1), some (.int v2), some (.int d3), some (.int v4), some (.int v5), some (.int v6)] [] h (some (.int o.1), o.2) := by
  unfold f_X8_which_50 at hf
  refine rs_aload_n i_X8_which_50 rfl ?_
  refine rs_iload_n i_X8_which_51 rfl ?_
  obtain ⟨c2, hf⟩ := ite_some hf
  obtain ⟨o1, e1, hf⟩ := bind_some hf
  refine rs_inV i_X8_which_52 m_X8_goes rfl (As := [.int v1]) (rest := []) rfl rfl (Nat.le_of_ble_eq_true rfl) c2 (c_X8_goes (by omega) e1) (st' := []) rfl ?_
  refine rs_iload i_X8_which_55 rfl ?_
  refine rs_aload_n i_X8_which_57 rfl ?_
  refine rs_iload_n i_X8_which_58 rfl ?_
  refine rs_iconst i_X8_which_59 (v := 0) (by decide) ?_
  obtain ⟨c4, hf⟩ := ite_some hf
  obtain ⟨o3, e3, hf⟩ := bind_some hf
  refine rs_inV i_X8_which_60 m_X8_offFrom rfl (As := [.int v2, .int 0]) (rest := [.int v5]) rfl rfl (Nat.le_of_ble_eq_true rfl) c4 (c_X8_offFrom (by omega) e3) (st' := [.int o3.1, .int v5]) rfl ?_
  refine rs_iconst i_X8_which_63 (v := (-1)) (by decide) ?_
  by_cases c5 : o3.1 ≠ (-1)
  · replace hf := (if_pos c5).symm.trans hf
    refine rs_icT i_X8_which_64 (ct_ne c5) (tg := 74) (by decide) ?_
    refine rs_iconst i_X8_which_74 (v := 0) (by decide) ?_
    exact r_X8_which_75 hd HK35 hf
  · replace hf := (if_neg c5).symm.trans hf
    refine rs_icF i_X8_which_64 (cf_ne c5) ?_
    refine rs_iconst i_X8_which_67 (v := 1) (by decide) ?_
    refine rs_iload i_X8_which_68 rfl ?_
    refine rs_ishl i_X8_which_70 ?_
    refine rs_goto i_X8_which_71 (tg := 75) (by decide) ?_
    exact r_X8_which_75 hd HK35 hf
def f_X8_which_35 (n : Nat) : Nat → Nat → Int32 → Int32 → Int32 → Int32 → Int32 → Hp → Option (Int32 × Hp)
  | 0, _, _, _, _, _, _, _ => none
  | m + 1, v0, v1, v2, v4, v5, v6, h =>
    if okO h v0 8 then
    if (gI h v0 13) ≤ v6 then
      some (v5, (hsi h v0 14 v4))
    else
      f_X8_which_50 n (f_X8_which_35 n m) v0 v1 v2 v4 v5 v6 (hsi h v0 14 v6)
    else none
set_option maxRecDepth 100000 in
set_option maxHeartbeats 4000000 in
theorem r_X8_which_35 {X : Nat → Int32} {d : Nat} (hd : 7 ≤ (d + 1)) {n : Nat} : ∀ (m : Nat) (v0 : Nat) (v1 : Int32) (v2 : Int32) (v4 : Int32) (v5 : Int32) (v6 : Int32) (d3 : Int32) (h : Hp) (o : (Int32 × Hp)), f_X8_which_35 n m v0 v1 v2 v4 v5 v6 h = some o → Run X (d + 1) 190 35 [some (.ref v0), some (.int v1), some (.int v2), some (.int d3), some (.int v4), some (.int v5), some (.int v6)] [] h (some (.int o.1), o.2) := by
  intro m
  induction m with
  | zero => intro v0 v1 v2 v4 v5 v6 d3 h o hf; cases hf
  | succ m ih =>
    intro v0 v1 v2 v4 v5 v6 d3 h o hf
    rw [f_X8_which_35] at hf
    refine rs_iload i_X8_which_35 rfl ?_
    refine rs_aload_n i_X8_which_37 rfl ?_
    obtain ⟨c1, hf⟩ := ite_some hf
    refine rs_getI i_X8_which_38 (by decide) (by decide) c1 ?_
    by_cases c2 : (gI h v0 13) ≤ v6
    · replace hf := (if_pos c2).symm.trans hf
      refine rs_icT i_X8_which_41 (ct_ge c2) (tg := 84) (by decide) ?_
      refine rs_aload_n i_X8_which_84 rfl ?_
      refine rs_iload i_X8_which_85 rfl ?_
      refine rs_putI i_X8_which_87 (by decide) c1 ?_
      refine rs_iload i_X8_which_90 rfl ?_
      have hf := Option.some.inj hf
      subst hf
      exact rs_iret i_X8_which_92 m_X8_which rfl
    · replace hf := (if_neg c2).symm.trans hf
      refine rs_icF i_X8_which_41 (cf_ge c2) ?_
      refine rs_aload_n i_X8_which_44 rfl ?_
      refine rs_iload i_X8_which_45 rfl ?_
      refine rs_putI i_X8_which_47 (by decide) c1 ?_
      exact r_X8_which_50 hd ih hf
def f_X8_which_0 (n : Nat) (v0 : Nat) (v1 : Int32) (v2 : Int32) (h : Hp) : Option (Int32 × Hp) :=
  if okO h v0 8 then
  (f_X8_areSteps v0 v1 h).bind fun o1 =>
  if o1.1 ≠ 0 then
    if okO o1.2 v0 8 then
    (f_X8_sheetWrong v0 v2 o1.2).bind fun o4 =>
    if o4.1 = 0 then
      if okO o4.2 v0 8 then
      f_X8_which_35 n n v0 v1 v2 (gI o4.2 v0 14) 0 0 o4.2
      else none
    else
      some (o4.1, o4.2)
    else none
  else
    some ((-5), o1.2)
  else none
set_option maxRecDepth 100000 in
set_option maxHeartbeats 4000000 in
theorem r_X8_which_0 {X : Nat → Int32} {d : Nat} (hd : 7 ≤ (d + 1)) {n : Nat} {v0 : Nat} {v1 : Int32} {v2 : Int32} {h : Hp} {o : (Int32 × Hp)} (hf : f_X8_which_0 n v0 v1 v2 h = some o) : Run X (d + 1) 190 0 [some (.ref v0), some (.int v1), some (.int v2), none, none, none, none] [] h (some (.int o.1), o.2) := by
  unfold f_X8_which_0 at hf
  refine rs_aload_n i_X8_which_0 rfl ?_
  refine rs_iload_n i_X8_which_1 rfl ?_
  obtain ⟨c2, hf⟩ := ite_some hf
  obtain ⟨o1, e1, hf⟩ := bind_some hf
  refine rs_inV i_X8_which_2 m_X8_areSteps rfl (As := [.int v1]) (rest := []) rfl rfl (Nat.le_of_ble_eq_true rfl) c2 (c_X8_areSteps (by omega) e1) (st' := [.int o1.1]) rfl ?_
  by_cases c3 : o1.1 ≠ 0
  · replace hf := (if_pos c3).symm.trans hf
    refine rs_ifT i_X8_which_5 (ct_ne c3) (tg := 11) (by decide) ?_
    refine rs_aload_n i_X8_which_11 rfl ?_
    refine rs_iload_n i_X8_which_12 rfl ?_
    obtain ⟨c5, hf⟩ := ite_some hf
    obtain ⟨o4, e4, hf⟩ := bind_some hf
    refine rs_inV i_X8_which_13 m_X8_sheetWrong rfl (As := [.int v2]) (rest := []) rfl rfl (Nat.le_of_ble_eq_true rfl) c5 (c_X8_sheetWrong (by omega) e4) (st' := [.int o4.1]) rfl ?_
    refine rs_istore_n i_X8_which_16 (Nat.le_of_ble_eq_true rfl) (lv' := [some (.ref v0), some (.int v1), some (.int v2), some (.int o4.1), none, none, none]) rfl ?_
    refine rs_iload_n i_X8_which_17 rfl ?_
    by_cases c6 : o4.1 = 0
    · replace hf := (if_pos c6).symm.trans hf
      refine rs_ifT i_X8_which_18 (ct_eq c6) (tg := 23) (by decide) ?_
      refine rs_aload_n i_X8_which_23 rfl ?_
      obtain ⟨c7, hf⟩ := ite_some hf
      refine rs_getI i_X8_which_24 (by decide) (by decide) c7 ?_
      refine rs_istore i_X8_which_27 (Nat.le_of_ble_eq_true rfl) (lv' := [some (.ref v0), some (.int v1), some (.int v2), some (.int o4.1), some (.int (gI o4.2 v0 14)), none, none]) rfl ?_
      refine rs_iconst i_X8_which_29 (v := 0) (by decide) ?_
      refine rs_istore i_X8_which_30 (Nat.le_of_ble_eq_true rfl) (lv' := [some (.ref v0), some (.int v1), some (.int v2), some (.int o4.1), some (.int (gI o4.2 v0 14)), some (.int 0), none]) rfl ?_
      refine rs_iconst i_X8_which_32 (v := 0) (by decide) ?_
      refine rs_istore i_X8_which_33 (Nat.le_of_ble_eq_true rfl) (lv' := [some (.ref v0), some (.int v1), some (.int v2), some (.int o4.1), some (.int (gI o4.2 v0 14)), some (.int 0), some (.int 0)]) rfl ?_
      exact r_X8_which_35 hd _ _ _ _ _ _ _ _ _ _ hf
    · replace hf := (if_neg c6).symm.trans hf
      refine rs_ifF i_X8_which_18 (cf_eq c6) ?_
      refine rs_iload_n i_X8_which_21 rfl ?_
      have hf := Option.some.inj hf
      subst hf
      exact rs_iret i_X8_which_22 m_X8_which rfl
  · replace hf := (if_neg c3).symm.trans hf
    refine rs_ifF i_X8_which_5 (cf_ne c3) ?_
    refine rs_bipush i_X8_which_8 (v := (-5)) (by decide) ?_
    have hf := Option.some.inj hf
    subst hf
    exact rs_iret i_X8_which_10 m_X8_which rfl
def f_X8_which (n : Nat) (v0 : Nat) (v1 : Int32) (v2 : Int32) (h : Hp) : Option (Int32 × Hp) := f_X8_which_0 n v0 v1 v2 h
theorem c_X8_which {X : Nat → Int32} {d : Nat} (hd : 7 ≤ d) {n : Nat} {v0 : Nat} {v1 : Int32} {v2 : Int32} {h : Hp} {o : (Int32 × Hp)} (hf : f_X8_which n v0 v1 v2 h = some o) : Calls X d 190 [.ref v0, .int v1, .int v2] h (some (.int o.1), o.2) := by
  obtain ⟨d, rfl⟩ : ∃ z, d = z + 1 := ⟨d - 1, by omega⟩
  exact ⟨_, rfl, r_X8_which_0 hd hf⟩
theorem i_X8_fault_0 : fetch 191 0 = some (.aload_n 0, 1, 0, 0, 0, 0) := by decide +kernel
theorem i_X8_fault_1 : fetch 191 1 = some (.iload_n 1, 2, 0, 0, 0, 0) := by decide +kernel
theorem i_X8_fault_2 : fetch 191 2 = some (.invokevirtual 286, 5, 128, 0, 0, 1223) := by decide +kernel
theorem i_X8_fault_5 : fetch 191 5 = some (.ifCond .ne 6, 8, 0, 0, 0, 0) := by decide +kernel
theorem i_X8_fault_8 : fetch 191 8 = some (.bipush (-5), 10, 0, 0, 0, 0) := by decide +kernel
theorem i_X8_fault_10 : fetch 191 10 = some (.ireturn, 11, 0, 0, 0, 0) := by decide +kernel
theorem i_X8_fault_11 : fetch 191 11 = some (.aload_n 0, 12, 0, 0, 0, 0) := by decide +kernel
theorem i_X8_fault_12 : fetch 191 12 = some (.iload_n 2, 13, 0, 0, 0, 0) := by decide +kernel
theorem i_X8_fault_13 : fetch 191 13 = some (.invokevirtual 320, 16, 185, 0, 0, 1371) := by decide +kernel
theorem i_X8_fault_16 : fetch 191 16 = some (.istore_n 3, 17, 0, 0, 0, 0) := by decide +kernel
theorem i_X8_fault_17 : fetch 191 17 = some (.iload_n 3, 18, 0, 0, 0, 0) := by decide +kernel
theorem i_X8_fault_18 : fetch 191 18 = some (.ifCond .eq 5, 21, 0, 0, 0, 0) := by decide +kernel
theorem i_X8_fault_21 : fetch 191 21 = some (.iload_n 3, 22, 0, 0, 0, 0) := by decide +kernel
theorem i_X8_fault_22 : fetch 191 22 = some (.ireturn, 23, 0, 0, 0, 0) := by decide +kernel
theorem i_X8_fault_23 : fetch 191 23 = some (.iconst 0, 24, 0, 0, 0, 0) := by decide +kernel
theorem i_X8_fault_24 : fetch 191 24 = some (.istore 4, 26, 0, 0, 0, 0) := by decide +kernel
theorem i_X8_fault_26 : fetch 191 26 = some (.iload 4, 28, 0, 0, 0, 0) := by decide +kernel
theorem i_X8_fault_28 : fetch 191 28 = some (.iload_n 1, 29, 0, 0, 0, 0) := by decide +kernel
theorem i_X8_fault_29 : fetch 191 29 = some (.if_icmp .ge 29, 32, 0, 0, 0, 0) := by decide +kernel
theorem i_X8_fault_32 : fetch 191 32 = some (.aload_n 0, 33, 0, 0, 0, 0) := by decide +kernel
theorem i_X8_fault_33 : fetch 191 33 = some (.iload_n 1, 34, 0, 0, 0, 0) := by decide +kernel
theorem i_X8_fault_34 : fetch 191 34 = some (.iload 4, 36, 0, 0, 0, 0) := by decide +kernel
theorem i_X8_fault_36 : fetch 191 36 = some (.invokevirtual 283, 39, 167, 0, 0, 1231) := by decide +kernel
theorem i_X8_fault_39 : fetch 191 39 = some (.aload_n 0, 40, 0, 0, 0, 0) := by decide +kernel
theorem i_X8_fault_40 : fetch 191 40 = some (.iload_n 2, 41, 0, 0, 0, 0) := by decide +kernel
theorem i_X8_fault_41 : fetch 191 41 = some (.iconst 0, 42, 0, 0, 0, 0) := by decide +kernel
theorem i_X8_fault_42 : fetch 191 42 = some (.invokevirtual 323, 45, 186, 0, 0, 1375) := by decide +kernel
theorem i_X8_fault_45 : fetch 191 45 = some (.iconst (-1), 46, 0, 0, 0, 0) := by decide +kernel
theorem i_X8_fault_46 : fetch 191 46 = some (.if_icmp .ne 6, 49, 0, 0, 0, 0) := by decide +kernel
theorem i_X8_fault_49 : fetch 191 49 = some (.iload 4, 51, 0, 0, 0, 0) := by decide +kernel
theorem i_X8_fault_51 : fetch 191 51 = some (.ireturn, 52, 0, 0, 0, 0) := by decide +kernel
theorem i_X8_fault_52 : fetch 191 52 = some (.iinc 4 1, 55, 0, 0, 0, 0) := by decide +kernel
theorem i_X8_fault_55 : fetch 191 55 = some (.goto (-29), 58, 0, 0, 0, 0) := by decide +kernel
theorem i_X8_fault_58 : fetch 191 58 = some (.iconst (-1), 59, 0, 0, 0, 0) := by decide +kernel
theorem i_X8_fault_59 : fetch 191 59 = some (.ireturn, 60, 0, 0, 0, 0) := by decide +kernel
def f_X8_fault_26 (n : Nat) : Nat → Nat → Int32 → Int32 → Int32 → Hp → Option (Int32 × Hp)
  | 0, _, _, _, _, _ => none
  | m + 1, v0, v1, v2, v4, h =>
    if v1 ≤ v4 then
      some ((-1), h)
    else
      if okO h v0 8 then
      (f_X8_goesBut n v0 v1 v4 h).bind fun o2 =>
      if okO o2 v0 8 then
      (f_X8_offFrom n v0 v2 0 o2).bind fun o4 =>
      if o4.1 ≠ (-1) then
        (f_X8_fault_26 n m) v0 v1 v2 (v4 + 1) o4.2
      else
        some (v4, o4.2)
      else none
      else none
set_option maxRecDepth 100000 in
set_option maxHeartbeats 4000000 in
theorem r_X8_fault_26 {X : Nat → Int32} {d : Nat} (hd : 6 ≤ (d + 1)) {n : Nat} : ∀ (m : Nat) (v0 : Nat) (v1 : Int32) (v2 : Int32) (v4 : Int32) (d3 : Int32) (h : Hp) (o : (Int32 × Hp)), f_X8_fault_26 n m v0 v1 v2 v4 h = some o → Run X (d + 1) 191 26 [some (.ref v0), some (.int v1), some (.int v2), some (.int d3), some (.int v4)] [] h (some (.int o.1), o.2) := by
  intro m
  induction m with
  | zero => intro v0 v1 v2 v4 d3 h o hf; cases hf
  | succ m ih =>
    intro v0 v1 v2 v4 d3 h o hf
    rw [f_X8_fault_26] at hf
    refine rs_iload i_X8_fault_26 rfl ?_
    refine rs_iload_n i_X8_fault_28 rfl ?_
    by_cases c1 : v1 ≤ v4
    · replace hf := (if_pos c1).symm.trans hf
      refine rs_icT i_X8_fault_29 (ct_ge c1) (tg := 58) (by decide) ?_
      refine rs_iconst i_X8_fault_58 (v := (-1)) (by decide) ?_
      have hf := Option.some.inj hf
      subst hf
      exact rs_iret i_X8_fault_59 m_X8_fault rfl
    · replace hf := (if_neg c1).symm.trans hf
      refine rs_icF i_X8_fault_29 (cf_ge c1) ?_
      refine rs_aload_n i_X8_fault_32 rfl ?_
      refine rs_iload_n i_X8_fault_33 rfl ?_
      refine rs_iload i_X8_fault_34 rfl ?_
      obtain ⟨c3, hf⟩ := ite_some hf
      obtain ⟨o2, e2, hf⟩ := bind_some hf
      refine rs_inV i_X8_fault_36 m_X8_goesBut rfl (As := [.int v1, .int v4]) (rest := []) rfl rfl (Nat.le_of_ble_eq_true rfl) c3 (c_X8_goesBut (by omega) e2) (st' := []) rfl ?_
      refine rs_aload_n i_X8_fault_39 rfl ?_
      refine rs_iload_n i_X8_fault_40 rfl ?_
      refine rs_iconst i_X8_fault_41 (v := 0) (by decide) ?_
      obtain ⟨c5, hf⟩ := ite_some hf
      obtain ⟨o4, e4, hf⟩ := bind_some hf
      refine rs_inV i_X8_fault_42 m_X8_offFrom rfl (As := [.int v2, .int 0]) (rest := []) rfl rfl (Nat.le_of_ble_eq_true rfl) c5 (c_X8_offFrom (by omega) e4) (st' := [.int o4.1]) rfl ?_
      refine rs_iconst i_X8_fault_45 (v := (-1)) (by decide) ?_
      by_cases c6 : o4.1 ≠ (-1)
      · replace hf := (if_pos c6).symm.trans hf
        refine rs_icT i_X8_fault_46 (ct_ne c6) (tg := 52) (by decide) ?_
        refine rs_iinc i_X8_fault_52 rfl (v := v4 + 1) rfl (Nat.le_of_ble_eq_true rfl) (lv' := [some (.ref v0), some (.int v1), some (.int v2), some (.int d3), some (.int (v4 + 1))]) rfl ?_
        refine rs_goto i_X8_fault_55 (tg := 26) (by decide) ?_
        exact ih _ _ _ _ _ _ _ hf
      · replace hf := (if_neg c6).symm.trans hf
        refine rs_icF i_X8_fault_46 (cf_ne c6) ?_
        refine rs_iload i_X8_fault_49 rfl ?_
        have hf := Option.some.inj hf
        subst hf
        exact rs_iret i_X8_fault_51 m_X8_fault rfl
def f_X8_fault_0 (n : Nat) (v0 : Nat) (v1 : Int32) (v2 : Int32) (h : Hp) : Option (Int32 × Hp) :=
  if okO h v0 8 then
  (f_X8_areSteps v0 v1 h).bind fun o1 =>
  if o1.1 ≠ 0 then
    if okO o1.2 v0 8 then
    (f_X8_sheetWrong v0 v2 o1.2).bind fun o4 =>
    if o4.1 = 0 then
      f_X8_fault_26 n n v0 v1 v2 0 o4.2
    else
      some (o4.1, o4.2)
    else none
  else
    some ((-5), o1.2)
  else none
set_option maxRecDepth 100000 in
set_option maxHeartbeats 4000000 in
theorem r_X8_fault_0 {X : Nat → Int32} {d : Nat} (hd : 6 ≤ (d + 1)) {n : Nat} {v0 : Nat} {v1 : Int32} {v2 : Int32} {h : Hp} {o : (Int32 × Hp)} (hf : f_X8_fault_0 n v0 v1 v2 h = some o) : Run X (d + 1) 191 0 [some (.ref v0), some (.int v1), some (.int v2), none, none] [] h (some (.int o.1), o.2) := by
  unfold f_X8_fault_0 at hf
  refine rs_aload_n i_X8_fault_0 rfl ?_
  refine rs_iload_n i_X8_fault_1 rfl ?_
  obtain ⟨c2, hf⟩ := ite_some hf
  obtain ⟨o1, e1, hf⟩ := bind_some hf
  refine rs_inV i_X8_fault_2 m_X8_areSteps rfl (As := [.int v1]) (rest := []) rfl rfl (Nat.le_of_ble_eq_true rfl) c2 (c_X8_areSteps (by omega) e1) (st' := [.int o1.1]) rfl ?_
  by_cases c3 : o1.1 ≠ 0
  · replace hf := (if_pos c3).symm.trans hf
    refine rs_ifT i_X8_fault_5 (ct_ne c3) (tg := 11) (by decide) ?_
    refine rs_aload_n i_X8_fault_11 rfl ?_
    refine rs_iload_n i_X8_fault_12 rfl ?_
    obtain ⟨c5, hf⟩ := ite_some hf
    obtain ⟨o4, e4, hf⟩ := bind_some hf
    refine rs_inV i_X8_fault_13 m_X8_sheetWrong rfl (As := [.int v2]) (rest := []) rfl rfl (Nat.le_of_ble_eq_true rfl) c5 (c_X8_sheetWrong (by omega) e4) (st' := [.int o4.1]) rfl ?_
    refine rs_istore_n i_X8_fault_16 (Nat.le_of_ble_eq_true rfl) (lv' := [some (.ref v0), some (.int v1), some (.int v2), some (.int o4.1), none]) rfl ?_
    refine rs_iload_n i_X8_fault_17 rfl ?_
    by_cases c6 : o4.1 = 0
    · replace hf := (if_pos c6).symm.trans hf
      refine rs_ifT i_X8_fault_18 (ct_eq c6) (tg := 23) (by decide) ?_
      refine rs_iconst i_X8_fault_23 (v := 0) (by decide) ?_
      refine rs_istore i_X8_fault_24 (Nat.le_of_ble_eq_true rfl) (lv' := [some (.ref v0), some (.int v1), some (.int v2), some (.int o4.1), some (.int 0)]) rfl ?_
      exact r_X8_fault_26 hd _ _ _ _ _ _ _ _ hf
    · replace hf := (if_neg c6).symm.trans hf
      refine rs_ifF i_X8_fault_18 (cf_eq c6) ?_
      refine rs_iload_n i_X8_fault_21 rfl ?_
      have hf := Option.some.inj hf
      subst hf
      exact rs_iret i_X8_fault_22 m_X8_fault rfl
  · replace hf := (if_neg c3).symm.trans hf
    refine rs_ifF i_X8_fault_5 (cf_ne c3) ?_
    refine rs_bipush i_X8_fault_8 (v := (-5)) (by decide) ?_
    have hf := Option.some.inj hf
    subst hf
    exact rs_iret i_X8_fault_10 m_X8_fault rfl
def f_X8_fault (n : Nat) (v0 : Nat) (v1 : Int32) (v2 : Int32) (h : Hp) : Option (Int32 × Hp) := f_X8_fault_0 n v0 v1 v2 h
theorem c_X8_fault {X : Nat → Int32} {d : Nat} (hd : 6 ≤ d) {n : Nat} {v0 : Nat} {v1 : Int32} {v2 : Int32} {h : Hp} {o : (Int32 × Hp)} (hf : f_X8_fault n v0 v1 v2 h = some o) : Calls X d 191 [.ref v0, .int v1, .int v2] h (some (.int o.1), o.2) := by
  obtain ⟨d, rfl⟩ : ∃ z, d = z + 1 := ⟨d - 1, by omega⟩
  exact ⟨_, rfl, r_X8_fault_0 hd hf⟩
theorem i_X8_uneven_0 : fetch 192 0 = some (.aload_n 0, 1, 0, 0, 0, 0) := by decide +kernel
theorem i_X8_uneven_1 : fetch 192 1 = some (.iload_n 1, 2, 0, 0, 0, 0) := by decide +kernel
theorem i_X8_uneven_2 : fetch 192 2 = some (.invokevirtual 286, 5, 128, 0, 0, 1223) := by decide +kernel
theorem i_X8_uneven_5 : fetch 192 5 = some (.ifCond .ne 6, 8, 0, 0, 0, 0) := by decide +kernel
theorem i_X8_uneven_8 : fetch 192 8 = some (.bipush (-5), 10, 0, 0, 0, 0) := by decide +kernel
theorem i_X8_uneven_10 : fetch 192 10 = some (.ireturn, 11, 0, 0, 0, 0) := by decide +kernel
theorem i_X8_uneven_11 : fetch 192 11 = some (.iload_n 2, 12, 0, 0, 0, 0) := by decide +kernel
theorem i_X8_uneven_12 : fetch 192 12 = some (.iconst 0, 13, 0, 0, 0, 0) := by decide +kernel
theorem i_X8_uneven_13 : fetch 192 13 = some (.iconst 1, 14, 0, 0, 0, 0) := by decide +kernel
theorem i_X8_uneven_14 : fetch 192 14 = some (.invokestatic 112, 17, 126, 0, 0, 970) := by decide +kernel
theorem i_X8_uneven_17 : fetch 192 17 = some (.ifCond .ne 6, 20, 0, 0, 0, 0) := by decide +kernel
theorem i_X8_uneven_20 : fetch 192 20 = some (.bipush (-7), 22, 0, 0, 0, 0) := by decide +kernel
theorem i_X8_uneven_22 : fetch 192 22 = some (.ireturn, 23, 0, 0, 0, 0) := by decide +kernel
theorem i_X8_uneven_23 : fetch 192 23 = some (.aload_n 0, 24, 0, 0, 0, 0) := by decide +kernel
theorem i_X8_uneven_24 : fetch 192 24 = some (.iload_n 1, 25, 0, 0, 0, 0) := by decide +kernel
theorem i_X8_uneven_25 : fetch 192 25 = some (.invokevirtual 289, 28, 168, 0, 0, 1227) := by decide +kernel
theorem i_X8_uneven_28 : fetch 192 28 = some (.aload_n 0, 29, 0, 0, 0, 0) := by decide +kernel
theorem i_X8_uneven_29 : fetch 192 29 = some (.invokevirtual 304, 32, 172, 0, 0, 1318) := by decide +kernel
theorem i_X8_uneven_32 : fetch 192 32 = some (.istore_n 3, 33, 0, 0, 0, 0) := by decide +kernel
theorem i_X8_uneven_33 : fetch 192 33 = some (.iconst (-1), 34, 0, 0, 0, 0) := by decide +kernel
theorem i_X8_uneven_34 : fetch 192 34 = some (.istore 4, 36, 0, 0, 0, 0) := by decide +kernel
theorem i_X8_uneven_36 : fetch 192 36 = some (.iconst 0, 37, 0, 0, 0, 0) := by decide +kernel
theorem i_X8_uneven_37 : fetch 192 37 = some (.istore 5, 39, 0, 0, 0, 0) := by decide +kernel
theorem i_X8_uneven_39 : fetch 192 39 = some (.iconst 0, 40, 0, 0, 0, 0) := by decide +kernel
theorem i_X8_uneven_40 : fetch 192 40 = some (.istore 6, 42, 0, 0, 0, 0) := by decide +kernel
theorem i_X8_uneven_42 : fetch 192 42 = some (.iload 6, 44, 0, 0, 0, 0) := by decide +kernel
theorem i_X8_uneven_44 : fetch 192 44 = some (.bipush 12, 46, 0, 0, 0, 0) := by decide +kernel
theorem i_X8_uneven_46 : fetch 192 46 = some (.if_icmp .ge 79, 49, 0, 0, 0, 0) := by decide +kernel
theorem i_X8_uneven_49 : fetch 192 49 = some (.aload_n 0, 50, 0, 0, 0, 0) := by decide +kernel
theorem i_X8_uneven_50 : fetch 192 50 = some (.getfield 8, 53, 8, 0, 0, 1009) := by decide +kernel
theorem i_X8_uneven_53 : fetch 192 53 = some (.iload 6, 55, 0, 0, 0, 0) := by decide +kernel
theorem i_X8_uneven_55 : fetch 192 55 = some (.iaload, 56, 0, 0, 0, 0) := by decide +kernel
theorem i_X8_uneven_56 : fetch 192 56 = some (.istore 7, 58, 0, 0, 0, 0) := by decide +kernel
theorem i_X8_uneven_58 : fetch 192 58 = some (.aload_n 0, 59, 0, 0, 0, 0) := by decide +kernel
theorem i_X8_uneven_59 : fetch 192 59 = some (.getfield 8, 62, 8, 0, 0, 1009) := by decide +kernel
theorem i_X8_uneven_62 : fetch 192 62 = some (.iload 6, 64, 0, 0, 0, 0) := by decide +kernel
theorem i_X8_uneven_64 : fetch 192 64 = some (.iload 7, 66, 0, 0, 0, 0) := by decide +kernel
theorem i_X8_uneven_66 : fetch 192 66 = some (.iload 7, 68, 0, 0, 0, 0) := by decide +kernel
theorem i_X8_uneven_68 : fetch 192 68 = some (.bipush 10, 70, 0, 0, 0, 0) := by decide +kernel
theorem i_X8_uneven_70 : fetch 192 70 = some (.idiv, 71, 0, 0, 0, 0) := by decide +kernel
theorem i_X8_uneven_71 : fetch 192 71 = some (.iadd, 72, 0, 0, 0, 0) := by decide +kernel
theorem i_X8_uneven_72 : fetch 192 72 = some (.iastore, 73, 0, 0, 0, 0) := by decide +kernel
theorem i_X8_uneven_73 : fetch 192 73 = some (.aload_n 0, 74, 0, 0, 0, 0) := by decide +kernel
theorem i_X8_uneven_74 : fetch 192 74 = some (.iload_n 1, 75, 0, 0, 0, 0) := by decide +kernel
theorem i_X8_uneven_75 : fetch 192 75 = some (.invokevirtual 289, 78, 168, 0, 0, 1227) := by decide +kernel
theorem i_X8_uneven_78 : fetch 192 78 = some (.aload_n 0, 79, 0, 0, 0, 0) := by decide +kernel
theorem i_X8_uneven_79 : fetch 192 79 = some (.getfield 8, 82, 8, 0, 0, 1009) := by decide +kernel
theorem i_X8_uneven_82 : fetch 192 82 = some (.iload 6, 84, 0, 0, 0, 0) := by decide +kernel
theorem i_X8_uneven_84 : fetch 192 84 = some (.iload 7, 86, 0, 0, 0, 0) := by decide +kernel
theorem i_X8_uneven_86 : fetch 192 86 = some (.iastore, 87, 0, 0, 0, 0) := by decide +kernel
theorem i_X8_uneven_87 : fetch 192 87 = some (.aload_n 0, 88, 0, 0, 0, 0) := by decide +kernel
theorem i_X8_uneven_88 : fetch 192 88 = some (.invokevirtual 304, 91, 172, 0, 0, 1318) := by decide +kernel
theorem i_X8_uneven_91 : fetch 192 91 = some (.iload_n 3, 92, 0, 0, 0, 0) := by decide +kernel
theorem i_X8_uneven_92 : fetch 192 92 = some (.isub, 93, 0, 0, 0, 0) := by decide +kernel
theorem i_X8_uneven_93 : fetch 192 93 = some (.invokestatic 326, 96, 129, 0, 0, 1399) := by decide +kernel
theorem i_X8_uneven_96 : fetch 192 96 = some (.istore 8, 98, 0, 0, 0, 0) := by decide +kernel
theorem i_X8_uneven_98 : fetch 192 98 = some (.iload 4, 100, 0, 0, 0, 0) := by decide +kernel
theorem i_X8_uneven_100 : fetch 192 100 = some (.iconst (-1), 101, 0, 0, 0, 0) := by decide +kernel
theorem i_X8_uneven_101 : fetch 192 101 = some (.if_icmp .eq 10, 104, 0, 0, 0, 0) := by decide +kernel
theorem i_X8_uneven_104 : fetch 192 104 = some (.iload 8, 106, 0, 0, 0, 0) := by decide +kernel
theorem i_X8_uneven_106 : fetch 192 106 = some (.iload 5, 108, 0, 0, 0, 0) := by decide +kernel
theorem i_X8_uneven_108 : fetch 192 108 = some (.if_icmp .le 11, 111, 0, 0, 0, 0) := by decide +kernel
theorem i_X8_uneven_111 : fetch 192 111 = some (.iload 6, 113, 0, 0, 0, 0) := by decide +kernel
theorem i_X8_uneven_113 : fetch 192 113 = some (.istore 4, 115, 0, 0, 0, 0) := by decide +kernel
theorem i_X8_uneven_115 : fetch 192 115 = some (.iload 8, 117, 0, 0, 0, 0) := by decide +kernel
theorem i_X8_uneven_117 : fetch 192 117 = some (.istore 5, 119, 0, 0, 0, 0) := by decide +kernel
theorem i_X8_uneven_119 : fetch 192 119 = some (.iinc 6 1, 122, 0, 0, 0, 0) := by decide +kernel
theorem i_X8_uneven_122 : fetch 192 122 = some (.goto (-80), 125, 0, 0, 0, 0) := by decide +kernel
theorem i_X8_uneven_125 : fetch 192 125 = some (.iload_n 2, 126, 0, 0, 0, 0) := by decide +kernel
theorem i_X8_uneven_126 : fetch 192 126 = some (.ifCond .ne 8, 129, 0, 0, 0, 0) := by decide +kernel
theorem i_X8_uneven_129 : fetch 192 129 = some (.iload 4, 131, 0, 0, 0, 0) := by decide +kernel
theorem i_X8_uneven_131 : fetch 192 131 = some (.goto 5, 134, 0, 0, 0, 0) := by decide +kernel
theorem i_X8_uneven_134 : fetch 192 134 = some (.iload 5, 136, 0, 0, 0, 0) := by decide +kernel
theorem i_X8_uneven_136 : fetch 192 136 = some (.ireturn, 137, 0, 0, 0, 0) := by decide +kernel
def f_X8_uneven_119 (n : Nat) (K42 : Nat → Int32 → Int32 → Int32 → Int32 → Int32 → Int32 → Hp → Option (Int32 × Hp)) (v0 : Nat) (v1 : Int32) (v2 : Int32) (v3 : Int32) (v4 : Int32) (v5 : Int32) (v6 : Int32) (h : Hp) : Option (Int32 × Hp) :=
  K42 v0 v1 v2 v3 v4 v5 (v6 + 1) h
set_option maxRecDepth 100000 in
set_option maxHeartbeats 4000000 in
theorem r_X8_uneven_119 {X : Nat → Int32} {d : Nat} (hd : 7 ≤ (d + 1)) {n : Nat} {K42 : Nat → Int32 → Int32 → Int32 → Int32 → Int32 → Int32 → Hp → Option (Int32 × Hp)} (HK42 : ∀ (v0 : Nat) (v1 : Int32) (v2 : Int32) (v3 : Int32) (v4 : Int32) (v5 : Int32) (v6 : Int32) (w7 : Option Value) (w8 : Option Value) (h : Hp) (o : (Int32 × Hp)), K42 v0 v1 v2 v3 v4 v5 v6 h = some o → Run X (d + 1) 192 42 [some (.ref v0), some (.int v1), some (.int v2), some (.int v3), some (.int v4), some (.int v5), some (.int v6), w7, w8] [] h (some (.int o.1), o.2)) {v0 : Nat} {v1 : Int32} {v2 : Int32} {v3 : Int32} {v4 : Int32} {v5 : Int32} {v6 : Int32} {d7 : Int32} {d8 : Int32} {h : Hp} {o : (Int32 × Hp)} (hf : f_X8_uneven_119 n K42 v0 v1 v2 v3 v4 v5 v6 h = some o) : Run X (d + 1) 192 119 [some (.ref v0), some (.int v1), some (.int v2), some (.int v3), some (.int v4), some (.int v5), some (.int v6), some (.int d7), some (.int d8)] [] h (some (.int o.1), o.2) := by
  unfold f_X8_uneven_119 at hf
  refine rs_iinc i_X8_uneven_119 rfl (v := v6 + 1) rfl (Nat.le_of_ble_eq_true rfl) (lv' := [some (.ref v0), some (.int v1), some (.int v2), some (.int v3), some (.int v4), some (.int v5), some (.int (v6 + 1)), some (.int d7), some (.int d8)]) rfl ?_
  refine rs_goto i_X8_uneven_122 (tg := 42) (by decide) ?_
  exact HK42 _ _ _ _ _ _ _ _ _ _ _ hf
def f_X8_uneven_111 (n : Nat) (K42 : Nat → Int32 → Int32 → Int32 → Int32 → Int32 → Int32 → Hp → Option (Int32 × Hp)) (v0 : Nat) (v1 : Int32) (v2 : Int32) (v3 : Int32) (v6 : Int32) (v8 : Int32) (h : Hp) : Option (Int32 × Hp) :=
  f_X8_uneven_119 n K42 v0 v1 v2 v3 v6 v8 v6 h
set_option maxRecDepth 100000 in
set_option maxHeartbeats 4000000 in
theorem r_X8_uneven_111 {X : Nat → Int32} {d : Nat} (hd : 7 ≤ (d + 1)) {n : Nat} {K42 : Nat → Int32 → Int32 → Int32 → Int32 → Int32 → Int32 → Hp → Option (Int32 × Hp)} (HK42 : ∀ (v0 : Nat) (v1 : Int32) (v2 : Int32) (v3 : Int32) (v4 : Int32) (v5 : Int32) (v6 : Int32) (w7 : Option Value) (w8 : Option Value) (h : Hp) (o : (Int32 × Hp)), K42 v0 v1 v2 v3 v4 v5 v6 h = some o → Run X (d + 1) 192 42 [some (.ref v0), some (.int v1), some (.int v2), some (.int v3), some (.int v4), some (.int v5), some (.int v6), w7, w8] [] h (some (.int o.1), o.2)) {v0 : Nat} {v1 : Int32} {v2 : Int32} {v3 : Int32} {v6 : Int32} {v8 : Int32} {d4 : Int32} {d5 : Int32} {d7 : Int32} {h : Hp} {o : (Int32 × Hp)} (hf : f_X8_uneven_111 n K42 v0 v1 v2 v3 v6 v8 h = some o) : Run X (d + 1) 192 111 [some (.ref v0), some (.int v1), some (.int v2), some (.int v3), some (.int d4), some (.int d5), some (.int v6), some (.int d7), some (.int v8)] [] h (some (.int o.1), o.2) := by
  unfold f_X8_uneven_111 at hf
  refine rs_iload i_X8_uneven_111 rfl ?_
  refine rs_istore i_X8_uneven_113 (Nat.le_of_ble_eq_true rfl) (lv' := [some (.ref v0), some (.int v1), some (.int v2), some (.int v3), some (.int v6), some (.int d5), some (.int v6), some (.int d7), some (.int v8)]) rfl ?_
  refine rs_iload i_X8_uneven_115 rfl ?_
  refine rs_istore i_X8_uneven_117 (Nat.le_of_ble_eq_true rfl) (lv' := [some (.ref v0), some (.int v1), some (.int v2), some (.int v3), some (.int v6), some (.int v8), some (.int v6), some (.int d7), some (.int v8)]) rfl ?_
  exact r_X8_uneven_119 hd HK42 hf
def f_X8_uneven_87 (n : Nat) (K42 : Nat → Int32 → Int32 → Int32 → Int32 → Int32 → Int32 → Hp → Option (Int32 × Hp)) (v0 : Nat) (v1 : Int32) (v2 : Int32) (v3 : Int32) (v4 : Int32) (v5 : Int32) (v6 : Int32) (h : Hp) : Option (Int32 × Hp) :=
  if okO h v0 8 then
  (f_X8_spread n v0 h).bind fun o1 =>
  (f_X8_size (o1.1 - v3) o1.2).bind fun o3 =>
  if v4 = (-1) then
    f_X8_uneven_111 n K42 v0 v1 v2 v3 v6 o3.1 o3.2
  else
    if o3.1 ≤ v5 then
      f_X8_uneven_119 n K42 v0 v1 v2 v3 v4 v5 v6 o3.2
    else
      f_X8_uneven_111 n K42 v0 v1 v2 v3 v6 o3.1 o3.2
  else none
set_option maxRecDepth 100000 in
set_option maxHeartbeats 4000000 in
theorem r_X8_uneven_87 {X : Nat → Int32} {d : Nat} (hd : 7 ≤ (d + 1)) {n : Nat} {K42 : Nat → Int32 → Int32 → Int32 → Int32 → Int32 → Int32 → Hp → Option (Int32 × Hp)} (HK42 : ∀ (v0 : Nat) (v1 : Int32) (v2 : Int32) (v3 : Int32) (v4 : Int32) (v5 : Int32) (v6 : Int32) (w7 : Option Value) (w8 : Option Value) (h : Hp) (o : (Int32 × Hp)), K42 v0 v1 v2 v3 v4 v5 v6 h = some o → Run X (d + 1) 192 42 [some (.ref v0), some (.int v1), some (.int v2), some (.int v3), some (.int v4), some (.int v5), some (.int v6), w7, w8] [] h (some (.int o.1), o.2)) {v0 : Nat} {v1 : Int32} {v2 : Int32} {v3 : Int32} {v4 : Int32} {v5 : Int32} {v6 : Int32} {d7 : Int32} {w8 : Option Value} {h : Hp} {o : (Int32 × Hp)} (hf : f_X8_uneven_87 n K42 v0 v1 v2 v3 v4 v5 v6 h = some o) : Run X (d + 1) 192 87 [some (.ref v0), some (.int v1), some (.int v2), some (.int v3), some (.int v4), some (.int v5), some (.int v6), some (.int d7), w8] [] h (some (.int o.1), o.2) := by
  unfold f_X8_uneven_87 at hf
  refine rs_aload_n i_X8_uneven_87 rfl ?_
  obtain ⟨c2, hf⟩ := ite_some hf
  obtain ⟨o1, e1, hf⟩ := bind_some hf
  refine rs_inV i_X8_uneven_88 m_X8_spread rfl (As := []) (rest := []) rfl rfl (Nat.le_of_ble_eq_true rfl) c2 (c_X8_spread (by omega) e1) (st' := [.int o1.1]) rfl ?_
  refine rs_iload_n i_X8_uneven_91 rfl ?_
  refine rs_isub i_X8_uneven_92 ?_
  obtain ⟨o3, e3, hf⟩ := bind_some hf
  refine rs_inS i_X8_uneven_93 (by decide) m_X8_size rfl (As := [.int (o1.1 - v3)]) (rest := []) rfl rfl (Nat.le_of_ble_eq_true rfl) (c_X8_size (by omega) e3) (st' := [.int o3.1]) rfl ?_
  refine rs_istore i_X8_uneven_96 (Nat.le_of_ble_eq_true rfl) (lv' := [some (.ref v0), some (.int v1), some (.int v2), some (.int v3), some (.int v4), some (.int v5), some (.int v6), some (.int d7), some (.int o3.1)]) rfl ?_
  refine rs_iload i_X8_uneven_98 rfl ?_
  refine rs_iconst i_X8_uneven_100 (v := (-1)) (by decide) ?_
  by_cases c4 : v4 = (-1)
  · replace hf := (if_pos c4).symm.trans hf
    refine rs_icT i_X8_uneven_101 (ct_eq c4) (tg := 111) (by decide) ?_
    exact r_X8_uneven_111 hd HK42 hf
  · replace hf := (if_neg c4).symm.trans hf
    refine rs_icF i_X8_uneven_101 (cf_eq c4) ?_
    refine rs_iload i_X8_uneven_104 rfl ?_
    refine rs_iload i_X8_uneven_106 rfl ?_
    by_cases c5 : o3.1 ≤ v5
    · replace hf := (if_pos c5).symm.trans hf
      refine rs_icT i_X8_uneven_108 (ct_le c5) (tg := 119) (by decide) ?_
      exact r_X8_uneven_119 hd HK42 hf
    · replace hf := (if_neg c5).symm.trans hf
      refine rs_icF i_X8_uneven_108 (cf_le c5) ?_
      exact r_X8_uneven_111 hd HK42 hf
def f_X8_uneven_73 (n : Nat) (K42 : Nat → Int32 → Int32 → Int32 → Int32 → Int32 → Int32 → Hp → Option (Int32 × Hp)) (v0 : Nat) (v1 : Int32) (v2 : Int32) (v3 : Int32) (v4 : Int32) (v5 : Int32) (v6 : Int32) (v7 : Int32) (h : Hp) : Option (Int32 × Hp) :=
  if okO h v0 8 then
  (f_X8_goes n v0 v1 h).bind fun o1 =>
  if okO o1 v0 8 then
  (gR o1 v0 0).bind fun a4 =>
  if okI o1 a4 v6 then
  f_X8_uneven_87 n K42 v0 v1 v2 v3 v4 v5 v6 (hsi o1 a4 (ix v6) v7)
  else none
  else none
  else none
set_option maxRecDepth 100000 in
set_option maxHeartbeats 4000000 in
theorem r_X8_uneven_73 {X : Nat → Int32} {d : Nat} (hd : 7 ≤ (d + 1)) {n : Nat} {K42 : Nat → Int32 → Int32 → Int32 → Int32 → Int32 → Int32 → Hp → Option (Int32 × Hp)} (HK42 : ∀ (v0 : Nat) (v1 : Int32) (v2 : Int32) (v3 : Int32) (v4 : Int32) (v5 : Int32) (v6 : Int32) (w7 : Option Value) (w8 : Option Value) (h : Hp) (o : (Int32 × Hp)), K42 v0 v1 v2 v3 v4 v5 v6 h = some o → Run X (d + 1) 192 42 [some (.ref v0), some (.int v1), some (.int v2), some (.int v3), some (.int v4), some (.int v5), some (.int v6), w7, w8] [] h (some (.int o.1), o.2)) {v0 : Nat} {v1 : Int32} {v2 : Int32} {v3 : Int32} {v4 : Int32} {v5 : Int32} {v6 : Int32} {v7 : Int32} {w8 : Option Value} {h : Hp} {o : (Int32 × Hp)} (hf : f_X8_uneven_73 n K42 v0 v1 v2 v3 v4 v5 v6 v7 h = some o) : Run X (d + 1) 192 73 [some (.ref v0), some (.int v1), some (.int v2), some (.int v3), some (.int v4), some (.int v5), some (.int v6), some (.int v7), w8] [] h (some (.int o.1), o.2) := by
  unfold f_X8_uneven_73 at hf
  refine rs_aload_n i_X8_uneven_73 rfl ?_
  refine rs_iload_n i_X8_uneven_74 rfl ?_
  obtain ⟨c2, hf⟩ := ite_some hf
  obtain ⟨o1, e1, hf⟩ := bind_some hf
  refine rs_inV i_X8_uneven_75 m_X8_goes rfl (As := [.int v1]) (rest := []) rfl rfl (Nat.le_of_ble_eq_true rfl) c2 (c_X8_goes (by omega) e1) (st' := []) rfl ?_
  refine rs_aload_n i_X8_uneven_78 rfl ?_
  obtain ⟨c3, hf⟩ := ite_some hf
  obtain ⟨a4, e4, hf⟩ := bind_some hf
  refine rs_getR i_X8_uneven_79 (by decide) (by decide) c3 e4 ?_
  refine rs_iload i_X8_uneven_82 rfl ?_
  refine rs_iload i_X8_uneven_84 rfl ?_
  obtain ⟨c5, hf⟩ := ite_some hf
  refine rs_iast i_X8_uneven_86 c5 ?_
  exact r_X8_uneven_87 hd HK42 hf
def f_X8_uneven_42 (n : Nat) : Nat → Nat → Int32 → Int32 → Int32 → Int32 → Int32 → Int32 → Hp → Option (Int32 × Hp)
  | 0, _, _, _, _, _, _, _, _ => none
  | m + 1, v0, v1, v2, v3, v4, v5, v6, h =>
    if 12 ≤ v6 then
      if v2 ≠ 0 then
        some (v5, h)
      else
        some (v4, h)
    else
      if okO h v0 8 then
      (gR h v0 0).bind fun a4 =>
      if okI h a4 v6 then
      f_X8_uneven_73 n (f_X8_uneven_42 n m) v0 v1 v2 v3 v4 v5 v6 (gI h a4 (ix v6)) (hsi h a4 (ix v6) ((gI h a4 (ix v6)) + ((gI h a4 (ix v6)) / 10)))
      else none
      else none
set_option maxRecDepth 100000 in
set_option maxHeartbeats 4000000 in
theorem r_X8_uneven_42 {X : Nat → Int32} {d : Nat} (hd : 7 ≤ (d + 1)) {n : Nat} : ∀ (m : Nat) (v0 : Nat) (v1 : Int32) (v2 : Int32) (v3 : Int32) (v4 : Int32) (v5 : Int32) (v6 : Int32) (w7 : Option Value) (w8 : Option Value) (h : Hp) (o : (Int32 × Hp)), f_X8_uneven_42 n m v0 v1 v2 v3 v4 v5 v6 h = some o → Run X (d + 1) 192 42 [some (.ref v0), some (.int v1), some (.int v2), some (.int v3), some (.int v4), some (.int v5), some (.int v6), w7, w8] [] h (some (.int o.1), o.2) := by
  intro m
  induction m with
  | zero => intro v0 v1 v2 v3 v4 v5 v6 w7 w8 h o hf; cases hf
  | succ m ih =>
    intro v0 v1 v2 v3 v4 v5 v6 w7 w8 h o hf
    rw [f_X8_uneven_42] at hf
    refine rs_iload i_X8_uneven_42 rfl ?_
    refine rs_bipush i_X8_uneven_44 (v := 12) (by decide) ?_
    by_cases c1 : 12 ≤ v6
    · replace hf := (if_pos c1).symm.trans hf
      refine rs_icT i_X8_uneven_46 (ct_ge c1) (tg := 125) (by decide) ?_
      refine rs_iload_n i_X8_uneven_125 rfl ?_
      by_cases c2 : v2 ≠ 0
      · replace hf := (if_pos c2).symm.trans hf
        refine rs_ifT i_X8_uneven_126 (ct_ne c2) (tg := 134) (by decide) ?_
        refine rs_iload i_X8_uneven_134 rfl ?_
        have hf := Option.some.inj hf
        subst hf
        exact rs_iret i_X8_uneven_136 m_X8_uneven rfl
      · replace hf := (if_neg c2).symm.trans hf
        refine rs_ifF i_X8_uneven_126 (cf_ne c2) ?_
        refine rs_iload i_X8_uneven_129 rfl ?_
        refine rs_goto i_X8_uneven_131 (tg := 136) (by decide) ?_
        have hf := Option.some.inj hf
        subst hf
        exact rs_iret i_X8_uneven_136 m_X8_uneven rfl
    · replace hf := (if_neg c1).symm.trans hf
      refine rs_icF i_X8_uneven_46 (cf_ge c1) ?_
      refine rs_aload_n i_X8_uneven_49 rfl ?_
      obtain ⟨c3, hf⟩ := ite_some hf
      obtain ⟨a4, e4, hf⟩ := bind_some hf
      refine rs_getR i_X8_uneven_50 (by decide) (by decide) c3 e4 ?_
      refine rs_iload i_X8_uneven_53 rfl ?_
      obtain ⟨c5, hf⟩ := ite_some hf
      refine rs_iald i_X8_uneven_55 c5 ?_
      refine rs_istore i_X8_uneven_56 (Nat.le_of_ble_eq_true rfl) (lv' := [some (.ref v0), some (.int v1), some (.int v2), some (.int v3), some (.int v4), some (.int v5), some (.int v6), some (.int (gI h a4 (ix v6))), w8]) rfl ?_
      refine rs_aload_n i_X8_uneven_58 rfl ?_
      refine rs_getR i_X8_uneven_59 (by decide) (by decide) c3 e4 ?_
      refine rs_iload i_X8_uneven_62 rfl ?_
      refine rs_iload i_X8_uneven_64 rfl ?_
      refine rs_iload i_X8_uneven_66 rfl ?_
      refine rs_bipush i_X8_uneven_68 (v := 10) (by decide) ?_
      refine rs_idiv i_X8_uneven_70 (by decide) ?_
      refine rs_iadd i_X8_uneven_71 ?_
      refine rs_iast i_X8_uneven_72 c5 ?_
      exact r_X8_uneven_73 hd ih hf
def f_X8_uneven_0 (n : Nat) (v0 : Nat) (v1 : Int32) (v2 : Int32) (h : Hp) : Option (Int32 × Hp) :=
  if okO h v0 8 then
  (f_X8_areSteps v0 v1 h).bind fun o1 =>
  if o1.1 ≠ 0 then
    (f_X8_in v2 0 1 o1.2).bind fun o4 =>
    if o4.1 ≠ 0 then
      if okO o4.2 v0 8 then
      (f_X8_goes n v0 v1 o4.2).bind fun o6 =>
      if okO o6 v0 8 then
      (f_X8_spread n v0 o6).bind fun o8 =>
      f_X8_uneven_42 n n v0 v1 v2 o8.1 (-1) 0 0 o8.2
      else none
      else none
    else
      some ((-7), o4.2)
  else
    some ((-5), o1.2)
  else none
set_option maxRecDepth 100000 in
set_option maxHeartbeats 4000000 in
theorem r_X8_uneven_0 {X : Nat → Int32} {d : Nat} (hd : 7 ≤ (d + 1)) {n : Nat} {v0 : Nat} {v1 : Int32} {v2 : Int32} {h : Hp} {o : (Int32 × Hp)} (hf : f_X8_uneven_0 n v0 v1 v2 h = some o) : Run X (d + 1) 192 0 [some (.ref v0), some (.int v1), some (.int v2), none, none, none, none, none, none] [] h (some (.int o.1), o.2) := by
  unfold f_X8_uneven_0 at hf
  refine rs_aload_n i_X8_uneven_0 rfl ?_
  refine rs_iload_n i_X8_uneven_1 rfl ?_
  obtain ⟨c2, hf⟩ := ite_some hf
  obtain ⟨o1, e1, hf⟩ := bind_some hf
  refine rs_inV i_X8_uneven_2 m_X8_areSteps rfl (As := [.int v1]) (rest := []) rfl rfl (Nat.le_of_ble_eq_true rfl) c2 (c_X8_areSteps (by omega) e1) (st' := [.int o1.1]) rfl ?_
  by_cases c3 : o1.1 ≠ 0
  · replace hf := (if_pos c3).symm.trans hf
    refine rs_ifT i_X8_uneven_5 (ct_ne c3) (tg := 11) (by decide) ?_
    refine rs_iload_n i_X8_uneven_11 rfl ?_
    refine rs_iconst i_X8_uneven_12 (v := 0) (by decide) ?_
    refine rs_iconst i_X8_uneven_13 (v := 1) (by decide) ?_
    obtain ⟨o4, e4, hf⟩ := bind_some hf
    refine rs_inS i_X8_uneven_14 (by decide) m_X8_in rfl (As := [.int v2, .int 0, .int 1]) (rest := []) rfl rfl (Nat.le_of_ble_eq_true rfl) (c_X8_in (by omega) e4) (st' := [.int o4.1]) rfl ?_
    by_cases c5 : o4.1 ≠ 0
    · replace hf := (if_pos c5).symm.trans hf
      refine rs_ifT i_X8_uneven_17 (ct_ne c5) (tg := 23) (by decide) ?_
      refine rs_aload_n i_X8_uneven_23 rfl ?_
      refine rs_iload_n i_X8_uneven_24 rfl ?_
      obtain ⟨c7, hf⟩ := ite_some hf
      obtain ⟨o6, e6, hf⟩ := bind_some hf
      refine rs_inV i_X8_uneven_25 m_X8_goes rfl (As := [.int v1]) (rest := []) rfl rfl (Nat.le_of_ble_eq_true rfl) c7 (c_X8_goes (by omega) e6) (st' := []) rfl ?_
      refine rs_aload_n i_X8_uneven_28 rfl ?_
      obtain ⟨c9, hf⟩ := ite_some hf
      obtain ⟨o8, e8, hf⟩ := bind_some hf
      refine rs_inV i_X8_uneven_29 m_X8_spread rfl (As := []) (rest := []) rfl rfl (Nat.le_of_ble_eq_true rfl) c9 (c_X8_spread (by omega) e8) (st' := [.int o8.1]) rfl ?_
      refine rs_istore_n i_X8_uneven_32 (Nat.le_of_ble_eq_true rfl) (lv' := [some (.ref v0), some (.int v1), some (.int v2), some (.int o8.1), none, none, none, none, none]) rfl ?_
      refine rs_iconst i_X8_uneven_33 (v := (-1)) (by decide) ?_
      refine rs_istore i_X8_uneven_34 (Nat.le_of_ble_eq_true rfl) (lv' := [some (.ref v0), some (.int v1), some (.int v2), some (.int o8.1), some (.int (-1)), none, none, none, none]) rfl ?_
      refine rs_iconst i_X8_uneven_36 (v := 0) (by decide) ?_
      refine rs_istore i_X8_uneven_37 (Nat.le_of_ble_eq_true rfl) (lv' := [some (.ref v0), some (.int v1), some (.int v2), some (.int o8.1), some (.int (-1)), some (.int 0), none, none, none]) rfl ?_
      refine rs_iconst i_X8_uneven_39 (v := 0) (by decide) ?_
      refine rs_istore i_X8_uneven_40 (Nat.le_of_ble_eq_true rfl) (lv' := [some (.ref v0), some (.int v1), some (.int v2), some (.int o8.1), some (.int (-1)), some (.int 0), some (.int 0), none, none]) rfl ?_
      exact r_X8_uneven_42 hd _ _ _ _ _ _ _ _ _ _ _ _ hf
    · replace hf := (if_neg c5).symm.trans hf
      refine rs_ifF i_X8_uneven_17 (cf_ne c5) ?_
      refine rs_bipush i_X8_uneven_20 (v := (-7)) (by decide) ?_
      have hf := Option.some.inj hf
      subst hf
      exact rs_iret i_X8_uneven_22 m_X8_uneven rfl
  · replace hf := (if_neg c3).symm.trans hf
    refine rs_ifF i_X8_uneven_5 (cf_ne c3) ?_
    refine rs_bipush i_X8_uneven_8 (v := (-5)) (by decide) ?_
    have hf := Option.some.inj hf
    subst hf
    exact rs_iret i_X8_uneven_10 m_X8_uneven rfl
def f_X8_uneven (n : Nat) (v0 : Nat) (v1 : Int32) (v2 : Int32) (h : Hp) : Option (Int32 × Hp) := f_X8_uneven_0 n v0 v1 v2 h
theorem c_X8_uneven {X : Nat → Int32} {d : Nat} (hd : 7 ≤ d) {n : Nat} {v0 : Nat} {v1 : Int32} {v2 : Int32} {h : Hp} {o : (Int32 × Hp)} (hf : f_X8_uneven n v0 v1 v2 h = some o) : Calls X d 192 [.ref v0, .int v1, .int v2] h (some (.int o.1), o.2) := by
  obtain ⟨d, rfl⟩ : ∃ z, d = z + 1 := ⟨d - 1, by omega⟩
  exact ⟨_, rfl, r_X8_uneven_0 hd hf⟩
theorem i_X8_cooked_0 : fetch 193 0 = some (.iconst 0, 1, 0, 0, 0, 0) := by decide +kernel
theorem i_X8_cooked_1 : fetch 193 1 = some (.istore_n 3, 2, 0, 0, 0, 0) := by decide +kernel
theorem i_X8_cooked_2 : fetch 193 2 = some (.iconst 0, 3, 0, 0, 0, 0) := by decide +kernel
theorem i_X8_cooked_3 : fetch 193 3 = some (.istore 4, 5, 0, 0, 0, 0) := by decide +kernel
theorem i_X8_cooked_5 : fetch 193 5 = some (.iload 4, 7, 0, 0, 0, 0) := by decide +kernel
theorem i_X8_cooked_7 : fetch 193 7 = some (.bipush 12, 9, 0, 0, 0, 0) := by decide +kernel
theorem i_X8_cooked_9 : fetch 193 9 = some (.if_icmp .ge 56, 12, 0, 0, 0, 0) := by decide +kernel
theorem i_X8_cooked_12 : fetch 193 12 = some (.aload_n 0, 13, 0, 0, 0, 0) := by decide +kernel
theorem i_X8_cooked_13 : fetch 193 13 = some (.iload 4, 15, 0, 0, 0, 0) := by decide +kernel
theorem i_X8_cooked_15 : fetch 193 15 = some (.invokevirtual 202, 18, 154, 0, 0, 1256) := by decide +kernel
theorem i_X8_cooked_18 : fetch 193 18 = some (.istore 5, 20, 0, 0, 0, 0) := by decide +kernel
theorem i_X8_cooked_20 : fetch 193 20 = some (.iload_n 1, 21, 0, 0, 0, 0) := by decide +kernel
theorem i_X8_cooked_21 : fetch 193 21 = some (.iload 5, 23, 0, 0, 0, 0) := by decide +kernel
theorem i_X8_cooked_23 : fetch 193 23 = some (.if_icmp .ge 7, 26, 0, 0, 0, 0) := by decide +kernel
theorem i_X8_cooked_26 : fetch 193 26 = some (.iconst 0, 27, 0, 0, 0, 0) := by decide +kernel
theorem i_X8_cooked_27 : fetch 193 27 = some (.goto 16, 30, 0, 0, 0, 0) := by decide +kernel
theorem i_X8_cooked_30 : fetch 193 30 = some (.iload_n 1, 31, 0, 0, 0, 0) := by decide +kernel
theorem i_X8_cooked_31 : fetch 193 31 = some (.iconst 2, 32, 0, 0, 0, 0) := by decide +kernel
theorem i_X8_cooked_32 : fetch 193 32 = some (.iload 5, 34, 0, 0, 0, 0) := by decide +kernel
theorem i_X8_cooked_34 : fetch 193 34 = some (.imul, 35, 0, 0, 0, 0) := by decide +kernel
theorem i_X8_cooked_35 : fetch 193 35 = some (.if_icmp .ge 7, 38, 0, 0, 0, 0) := by decide +kernel
theorem i_X8_cooked_38 : fetch 193 38 = some (.iconst 1, 39, 0, 0, 0, 0) := by decide +kernel
theorem i_X8_cooked_39 : fetch 193 39 = some (.goto 4, 42, 0, 0, 0, 0) := by decide +kernel
theorem i_X8_cooked_42 : fetch 193 42 = some (.iconst 2, 43, 0, 0, 0, 0) := by decide +kernel
theorem i_X8_cooked_43 : fetch 193 43 = some (.istore 6, 45, 0, 0, 0, 0) := by decide +kernel
theorem i_X8_cooked_45 : fetch 193 45 = some (.iload_n 3, 46, 0, 0, 0, 0) := by decide +kernel
theorem i_X8_cooked_46 : fetch 193 46 = some (.iload 6, 48, 0, 0, 0, 0) := by decide +kernel
theorem i_X8_cooked_48 : fetch 193 48 = some (.iload_n 2, 49, 0, 0, 0, 0) := by decide +kernel
theorem i_X8_cooked_49 : fetch 193 49 = some (.if_icmp .ne 7, 52, 0, 0, 0, 0) := by decide +kernel
theorem i_X8_cooked_52 : fetch 193 52 = some (.iconst 1, 53, 0, 0, 0, 0) := by decide +kernel
theorem i_X8_cooked_53 : fetch 193 53 = some (.goto 4, 56, 0, 0, 0, 0) := by decide +kernel
theorem i_X8_cooked_56 : fetch 193 56 = some (.iconst 0, 57, 0, 0, 0, 0) := by decide +kernel
theorem i_X8_cooked_57 : fetch 193 57 = some (.iadd, 58, 0, 0, 0, 0) := by decide +kernel
theorem i_X8_cooked_58 : fetch 193 58 = some (.istore_n 3, 59, 0, 0, 0, 0) := by decide +kernel
theorem i_X8_cooked_59 : fetch 193 59 = some (.iinc 4 1, 62, 0, 0, 0, 0) := by decide +kernel
theorem i_X8_cooked_62 : fetch 193 62 = some (.goto (-57), 65, 0, 0, 0, 0) := by decide +kernel
theorem i_X8_cooked_65 : fetch 193 65 = some (.iload_n 3, 66, 0, 0, 0, 0) := by decide +kernel
theorem i_X8_cooked_66 : fetch 193 66 = some (.ireturn, 67, 0, 0, 0, 0) := by decide +kernel
def f_X8_cooked_57 (n : Nat) (K5 : Nat → Int32 → Int32 → Int32 → Int32 → Hp → Option (Int32 × Hp)) (v0 : Nat) (v1 : Int32) (v2 : Int32) (v4 : Int32) (s0 : Int32) (s1 : Int32) (h : Hp) : Option (Int32 × Hp) :=
  K5 v0 v1 v2 (s0 + s1) (v4 + 1) h
set_option maxRecDepth 100000 in
set_option maxHeartbeats 4000000 in
theorem r_X8_cooked_57 {X : Nat → Int32} {d : Nat} (hd : 1 ≤ (d + 1)) {n : Nat} {K5 : Nat → Int32 → Int32 → Int32 → Int32 → Hp → Option (Int32 × Hp)} (HK5 : ∀ (v0 : Nat) (v1 : Int32) (v2 : Int32) (v3 : Int32) (v4 : Int32) (w5 : Option Value) (w6 : Option Value) (h : Hp) (o : (Int32 × Hp)), K5 v0 v1 v2 v3 v4 h = some o → Run X (d + 1) 193 5 [some (.ref v0), some (.int v1), some (.int v2), some (.int v3), some (.int v4), w5, w6] [] h (some (.int o.1), o.2)) {v0 : Nat} {v1 : Int32} {v2 : Int32} {v4 : Int32} {s0 : Int32} {s1 : Int32} {d3 : Int32} {d5 : Int32} {d6 : Int32} {h : Hp} {o : (Int32 × Hp)} (hf : f_X8_cooked_57 n K5 v0 v1 v2 v4 s0 s1 h = some o) : Run X (d + 1) 193 57 [some (.ref v0), some (.int v1), some (.int v2), some (.int d3), some (.int v4), some (.int d5), some (.int d6)] [.int s1, .int s0] h (some (.int o.1), o.2) := by
  unfold f_X8_cooked_57 at hf
  refine rs_iadd i_X8_cooked_57 ?_
  refine rs_istore_n i_X8_cooked_58 (Nat.le_of_ble_eq_true rfl) (lv' := [some (.ref v0), some (.int v1), some (.int v2), some (.int (s0 + s1)), some (.int v4), some (.int d5), some (.int d6)]) rfl ?_
  refine rs_iinc i_X8_cooked_59 rfl (v := v4 + 1) rfl (Nat.le_of_ble_eq_true rfl) (lv' := [some (.ref v0), some (.int v1), some (.int v2), some (.int (s0 + s1)), some (.int (v4 + 1)), some (.int d5), some (.int d6)]) rfl ?_
  refine rs_goto i_X8_cooked_62 (tg := 5) (by decide) ?_
  exact HK5 _ _ _ _ _ _ _ _ _ hf
def f_X8_cooked_43 (n : Nat) (K5 : Nat → Int32 → Int32 → Int32 → Int32 → Hp → Option (Int32 × Hp)) (v0 : Nat) (v1 : Int32) (v2 : Int32) (v3 : Int32) (v4 : Int32) (s0 : Int32) (h : Hp) : Option (Int32 × Hp) :=
  if s0 ≠ v2 then
    f_X8_cooked_57 n K5 v0 v1 v2 v4 v3 0 h
  else
    f_X8_cooked_57 n K5 v0 v1 v2 v4 v3 1 h
set_option maxRecDepth 100000 in
set_option maxHeartbeats 4000000 in
theorem r_X8_cooked_43 {X : Nat → Int32} {d : Nat} (hd : 1 ≤ (d + 1)) {n : Nat} {K5 : Nat → Int32 → Int32 → Int32 → Int32 → Hp → Option (Int32 × Hp)} (HK5 : ∀ (v0 : Nat) (v1 : Int32) (v2 : Int32) (v3 : Int32) (v4 : Int32) (w5 : Option Value) (w6 : Option Value) (h : Hp) (o : (Int32 × Hp)), K5 v0 v1 v2 v3 v4 h = some o → Run X (d + 1) 193 5 [some (.ref v0), some (.int v1), some (.int v2), some (.int v3), some (.int v4), w5, w6] [] h (some (.int o.1), o.2)) {v0 : Nat} {v1 : Int32} {v2 : Int32} {v3 : Int32} {v4 : Int32} {s0 : Int32} {d5 : Int32} {w6 : Option Value} {h : Hp} {o : (Int32 × Hp)} (hf : f_X8_cooked_43 n K5 v0 v1 v2 v3 v4 s0 h = some o) : Run X (d + 1) 193 43 [some (.ref v0), some (.int v1), some (.int v2), some (.int v3), some (.int v4), some (.int d5), w6] [.int s0] h (some (.int o.1), o.2) := by
  unfold f_X8_cooked_43 at hf
  refine rs_istore i_X8_cooked_43 (Nat.le_of_ble_eq_true rfl) (lv' := [some (.ref v0), some (.int v1), some (.int v2), some (.int v3), some (.int v4), some (.int d5), some (.int s0)]) rfl ?_
  refine rs_iload_n i_X8_cooked_45 rfl ?_
  refine rs_iload i_X8_cooked_46 rfl ?_
  refine rs_iload_n i_X8_cooked_48 rfl ?_
  by_cases c1 : s0 ≠ v2
  · replace hf := (if_pos c1).symm.trans hf
    refine rs_icT i_X8_cooked_49 (ct_ne c1) (tg := 56) (by decide) ?_
    refine rs_iconst i_X8_cooked_56 (v := 0) (by decide) ?_
    exact r_X8_cooked_57 hd HK5 hf
  · replace hf := (if_neg c1).symm.trans hf
    refine rs_icF i_X8_cooked_49 (cf_ne c1) ?_
    refine rs_iconst i_X8_cooked_52 (v := 1) (by decide) ?_
    refine rs_goto i_X8_cooked_53 (tg := 57) (by decide) ?_
    exact r_X8_cooked_57 hd HK5 hf
def f_X8_cooked_5 (n : Nat) : Nat → Nat → Int32 → Int32 → Int32 → Int32 → Hp → Option (Int32 × Hp)
  | 0, _, _, _, _, _, _ => none
  | m + 1, v0, v1, v2, v3, v4, h =>
    if 12 ≤ v4 then
      some (v3, h)
    else
      if okO h v0 8 then
      (f_X8_thickOf v0 v4 h).bind fun o2 =>
      if o2.1 ≤ v1 then
        if (2 * o2.1) ≤ v1 then
          f_X8_cooked_43 n (f_X8_cooked_5 n m) v0 v1 v2 v3 v4 2 o2.2
        else
          f_X8_cooked_43 n (f_X8_cooked_5 n m) v0 v1 v2 v3 v4 1 o2.2
      else
        f_X8_cooked_43 n (f_X8_cooked_5 n m) v0 v1 v2 v3 v4 0 o2.2
      else none
set_option maxRecDepth 100000 in
set_option maxHeartbeats 4000000 in
theorem r_X8_cooked_5 {X : Nat → Int32} {d : Nat} (hd : 1 ≤ (d + 1)) {n : Nat} : ∀ (m : Nat) (v0 : Nat) (v1 : Int32) (v2 : Int32) (v3 : Int32) (v4 : Int32) (w5 : Option Value) (w6 : Option Value) (h : Hp) (o : (Int32 × Hp)), f_X8_cooked_5 n m v0 v1 v2 v3 v4 h = some o → Run X (d + 1) 193 5 [some (.ref v0), some (.int v1), some (.int v2), some (.int v3), some (.int v4), w5, w6] [] h (some (.int o.1), o.2) := by
  intro m
  induction m with
  | zero => intro v0 v1 v2 v3 v4 w5 w6 h o hf; cases hf
  | succ m ih =>
    intro v0 v1 v2 v3 v4 w5 w6 h o hf
    rw [f_X8_cooked_5] at hf
    refine rs_iload i_X8_cooked_5 rfl ?_
    refine rs_bipush i_X8_cooked_7 (v := 12) (by decide) ?_
    by_cases c1 : 12 ≤ v4
    · replace hf := (if_pos c1).symm.trans hf
      refine rs_icT i_X8_cooked_9 (ct_ge c1) (tg := 65) (by decide) ?_
      refine rs_iload_n i_X8_cooked_65 rfl ?_
      have hf := Option.some.inj hf
      subst hf
      exact rs_iret i_X8_cooked_66 m_X8_cooked rfl
    · replace hf := (if_neg c1).symm.trans hf
      refine rs_icF i_X8_cooked_9 (cf_ge c1) ?_
      refine rs_aload_n i_X8_cooked_12 rfl ?_
      refine rs_iload i_X8_cooked_13 rfl ?_
      obtain ⟨c3, hf⟩ := ite_some hf
      obtain ⟨o2, e2, hf⟩ := bind_some hf
      refine rs_inV i_X8_cooked_15 m_X8_thickOf rfl (As := [.int v4]) (rest := []) rfl rfl (Nat.le_of_ble_eq_true rfl) c3 (c_X8_thickOf (by omega) e2) (st' := [.int o2.1]) rfl ?_
      refine rs_istore i_X8_cooked_18 (Nat.le_of_ble_eq_true rfl) (lv' := [some (.ref v0), some (.int v1), some (.int v2), some (.int v3), some (.int v4), some (.int o2.1), w6]) rfl ?_
      refine rs_iload_n i_X8_cooked_20 rfl ?_
      refine rs_iload i_X8_cooked_21 rfl ?_
      by_cases c4 : o2.1 ≤ v1
      · replace hf := (if_pos c4).symm.trans hf
        refine rs_icT i_X8_cooked_23 (ct_ge c4) (tg := 30) (by decide) ?_
        refine rs_iload_n i_X8_cooked_30 rfl ?_
        refine rs_iconst i_X8_cooked_31 (v := 2) (by decide) ?_
        refine rs_iload i_X8_cooked_32 rfl ?_
        refine rs_imul i_X8_cooked_34 ?_
        by_cases c5 : (2 * o2.1) ≤ v1
        · replace hf := (if_pos c5).symm.trans hf
          refine rs_icT i_X8_cooked_35 (ct_ge c5) (tg := 42) (by decide) ?_
          refine rs_iconst i_X8_cooked_42 (v := 2) (by decide) ?_
          exact r_X8_cooked_43 hd ih hf
        · replace hf := (if_neg c5).symm.trans hf
          refine rs_icF i_X8_cooked_35 (cf_ge c5) ?_
          refine rs_iconst i_X8_cooked_38 (v := 1) (by decide) ?_
          refine rs_goto i_X8_cooked_39 (tg := 43) (by decide) ?_
          exact r_X8_cooked_43 hd ih hf
      · replace hf := (if_neg c4).symm.trans hf
        refine rs_icF i_X8_cooked_23 (cf_ge c4) ?_
        refine rs_iconst i_X8_cooked_26 (v := 0) (by decide) ?_
        refine rs_goto i_X8_cooked_27 (tg := 43) (by decide) ?_
        exact r_X8_cooked_43 hd ih hf
def f_X8_cooked_0 (n : Nat) (v0 : Nat) (v1 : Int32) (v2 : Int32) (h : Hp) : Option (Int32 × Hp) :=
  f_X8_cooked_5 n n v0 v1 v2 0 0 h
set_option maxRecDepth 100000 in
set_option maxHeartbeats 4000000 in
theorem r_X8_cooked_0 {X : Nat → Int32} {d : Nat} (hd : 1 ≤ (d + 1)) {n : Nat} {v0 : Nat} {v1 : Int32} {v2 : Int32} {h : Hp} {o : (Int32 × Hp)} (hf : f_X8_cooked_0 n v0 v1 v2 h = some o) : Run X (d + 1) 193 0 [some (.ref v0), some (.int v1), some (.int v2), none, none, none, none] [] h (some (.int o.1), o.2) := by
  unfold f_X8_cooked_0 at hf
  refine rs_iconst i_X8_cooked_0 (v := 0) (by decide) ?_
  refine rs_istore_n i_X8_cooked_1 (Nat.le_of_ble_eq_true rfl) (lv' := [some (.ref v0), some (.int v1), some (.int v2), some (.int 0), none, none, none]) rfl ?_
  refine rs_iconst i_X8_cooked_2 (v := 0) (by decide) ?_
  refine rs_istore i_X8_cooked_3 (Nat.le_of_ble_eq_true rfl) (lv' := [some (.ref v0), some (.int v1), some (.int v2), some (.int 0), some (.int 0), none, none]) rfl ?_
  exact r_X8_cooked_5 hd _ _ _ _ _ _ _ _ _ _ hf
def f_X8_cooked (n : Nat) (v0 : Nat) (v1 : Int32) (v2 : Int32) (h : Hp) : Option (Int32 × Hp) := f_X8_cooked_0 n v0 v1 v2 h
theorem c_X8_cooked {X : Nat → Int32} {d : Nat} (hd : 1 ≤ d) {n : Nat} {v0 : Nat} {v1 : Int32} {v2 : Int32} {h : Hp} {o : (Int32 × Hp)} (hf : f_X8_cooked n v0 v1 v2 h = some o) : Calls X d 193 [.ref v0, .int v1, .int v2] h (some (.int o.1), o.2) := by
  obtain ⟨d, rfl⟩ : ∃ z, d = z + 1 := ⟨d - 1, by omega⟩
  exact ⟨_, rfl, r_X8_cooked_0 hd hf⟩
theorem i_X8_cooks_0 : fetch 194 0 = some (.aload_n 0, 1, 0, 0, 0, 0) := by decide +kernel
theorem i_X8_cooks_1 : fetch 194 1 = some (.iload_n 1, 2, 0, 0, 0, 0) := by decide +kernel
theorem i_X8_cooks_2 : fetch 194 2 = some (.invokevirtual 286, 5, 128, 0, 0, 1223) := by decide +kernel
theorem i_X8_cooks_5 : fetch 194 5 = some (.ifCond .ne 6, 8, 0, 0, 0, 0) := by decide +kernel
theorem i_X8_cooks_8 : fetch 194 8 = some (.bipush (-5), 10, 0, 0, 0, 0) := by decide +kernel
theorem i_X8_cooks_10 : fetch 194 10 = some (.ireturn, 11, 0, 0, 0, 0) := by decide +kernel
theorem i_X8_cooks_11 : fetch 194 11 = some (.iload_n 2, 12, 0, 0, 0, 0) := by decide +kernel
theorem i_X8_cooks_12 : fetch 194 12 = some (.iconst 0, 13, 0, 0, 0, 0) := by decide +kernel
theorem i_X8_cooks_13 : fetch 194 13 = some (.sipush 9999, 16, 0, 0, 0, 0) := by decide +kernel
theorem i_X8_cooks_16 : fetch 194 16 = some (.invokestatic 112, 19, 126, 0, 0, 970) := by decide +kernel
theorem i_X8_cooks_19 : fetch 194 19 = some (.ifCond .eq 12, 22, 0, 0, 0, 0) := by decide +kernel
theorem i_X8_cooks_22 : fetch 194 22 = some (.iload_n 3, 23, 0, 0, 0, 0) := by decide +kernel
theorem i_X8_cooks_23 : fetch 194 23 = some (.iconst 0, 24, 0, 0, 0, 0) := by decide +kernel
theorem i_X8_cooks_24 : fetch 194 24 = some (.iconst 2, 25, 0, 0, 0, 0) := by decide +kernel
theorem i_X8_cooks_25 : fetch 194 25 = some (.invokestatic 112, 28, 126, 0, 0, 970) := by decide +kernel
theorem i_X8_cooks_28 : fetch 194 28 = some (.ifCond .ne 6, 31, 0, 0, 0, 0) := by decide +kernel
theorem i_X8_cooks_31 : fetch 194 31 = some (.bipush (-7), 33, 0, 0, 0, 0) := by decide +kernel
theorem i_X8_cooks_33 : fetch 194 33 = some (.ireturn, 34, 0, 0, 0, 0) := by decide +kernel
theorem i_X8_cooks_34 : fetch 194 34 = some (.aload_n 0, 35, 0, 0, 0, 0) := by decide +kernel
theorem i_X8_cooks_35 : fetch 194 35 = some (.iload_n 1, 36, 0, 0, 0, 0) := by decide +kernel
theorem i_X8_cooks_36 : fetch 194 36 = some (.invokevirtual 289, 39, 168, 0, 0, 1227) := by decide +kernel
theorem i_X8_cooks_39 : fetch 194 39 = some (.aload_n 0, 40, 0, 0, 0, 0) := by decide +kernel
theorem i_X8_cooks_40 : fetch 194 40 = some (.iload_n 2, 41, 0, 0, 0, 0) := by decide +kernel
theorem i_X8_cooks_41 : fetch 194 41 = some (.iload_n 3, 42, 0, 0, 0, 0) := by decide +kernel
theorem i_X8_cooks_42 : fetch 194 42 = some (.invokevirtual 329, 45, 193, 0, 0, 1406) := by decide +kernel
theorem i_X8_cooks_45 : fetch 194 45 = some (.ireturn, 46, 0, 0, 0, 0) := by decide +kernel
def f_X8_cooks_0 (n : Nat) (v0 : Nat) (v1 : Int32) (v2 : Int32) (v3 : Int32) (h : Hp) : Option (Int32 × Hp) :=
  if okO h v0 8 then
  (f_X8_areSteps v0 v1 h).bind fun o1 =>
  if o1.1 ≠ 0 then
    (f_X8_in v2 0 9999 o1.2).bind fun o4 =>
    if o4.1 = 0 then
      some ((-7), o4.2)
    else
      (f_X8_in v3 0 2 o4.2).bind fun o6 =>
      if o6.1 ≠ 0 then
        if okO o6.2 v0 8 then
        (f_X8_goes n v0 v1 o6.2).bind fun o8 =>
        if okO o8 v0 8 then
        (f_X8_cooked n v0 v2 v3 o8).bind fun o10 =>
        some (o10.1, o10.2)
        else none
        else none
      else
        some ((-7), o6.2)
  else
    some ((-5), o1.2)
  else none
set_option maxRecDepth 100000 in
set_option maxHeartbeats 4000000 in
theorem r_X8_cooks_0 {X : Nat → Int32} {d : Nat} (hd : 7 ≤ (d + 1)) {n : Nat} {v0 : Nat} {v1 : Int32} {v2 : Int32} {v3 : Int32} {h : Hp} {o : (Int32 × Hp)} (hf : f_X8_cooks_0 n v0 v1 v2 v3 h = some o) : Run X (d + 1) 194 0 [some (.ref v0), some (.int v1), some (.int v2), some (.int v3)] [] h (some (.int o.1), o.2) := by
  unfold f_X8_cooks_0 at hf
  refine rs_aload_n i_X8_cooks_0 rfl ?_
  refine rs_iload_n i_X8_cooks_1 rfl ?_
  obtain ⟨c2, hf⟩ := ite_some hf
  obtain ⟨o1, e1, hf⟩ := bind_some hf
  refine rs_inV i_X8_cooks_2 m_X8_areSteps rfl (As := [.int v1]) (rest := []) rfl rfl (Nat.le_of_ble_eq_true rfl) c2 (c_X8_areSteps (by omega) e1) (st' := [.int o1.1]) rfl ?_
  by_cases c3 : o1.1 ≠ 0
  · replace hf := (if_pos c3).symm.trans hf
    refine rs_ifT i_X8_cooks_5 (ct_ne c3) (tg := 11) (by decide) ?_
    refine rs_iload_n i_X8_cooks_11 rfl ?_
    refine rs_iconst i_X8_cooks_12 (v := 0) (by decide) ?_
    refine rs_sipush i_X8_cooks_13 (v := 9999) (by decide) ?_
    obtain ⟨o4, e4, hf⟩ := bind_some hf
    refine rs_inS i_X8_cooks_16 (by decide) m_X8_in rfl (As := [.int v2, .int 0, .int 9999]) (rest := []) rfl rfl (Nat.le_of_ble_eq_true rfl) (c_X8_in (by omega) e4) (st' := [.int o4.1]) rfl ?_
    by_cases c5 : o4.1 = 0
    · replace hf := (if_pos c5).symm.trans hf
      refine rs_ifT i_X8_cooks_19 (ct_eq c5) (tg := 31) (by decide) ?_
      refine rs_bipush i_X8_cooks_31 (v := (-7)) (by decide) ?_
      have hf := Option.some.inj hf
      subst hf
      exact rs_iret i_X8_cooks_33 m_X8_cooks rfl
    · replace hf := (if_neg c5).symm.trans hf
      refine rs_ifF i_X8_cooks_19 (cf_eq c5) ?_
      refine rs_iload_n i_X8_cooks_22 rfl ?_
      refine rs_iconst i_X8_cooks_23 (v := 0) (by decide) ?_
      refine rs_iconst i_X8_cooks_24 (v := 2) (by decide) ?_
      obtain ⟨o6, e6, hf⟩ := bind_some hf
      refine rs_inS i_X8_cooks_25 (by decide) m_X8_in rfl (As := [.int v3, .int 0, .int 2]) (rest := []) rfl rfl (Nat.le_of_ble_eq_true rfl) (c_X8_in (by omega) e6) (st' := [.int o6.1]) rfl ?_
      by_cases c7 : o6.1 ≠ 0
      · replace hf := (if_pos c7).symm.trans hf
        refine rs_ifT i_X8_cooks_28 (ct_ne c7) (tg := 34) (by decide) ?_
        refine rs_aload_n i_X8_cooks_34 rfl ?_
        refine rs_iload_n i_X8_cooks_35 rfl ?_
        obtain ⟨c9, hf⟩ := ite_some hf
        obtain ⟨o8, e8, hf⟩ := bind_some hf
        refine rs_inV i_X8_cooks_36 m_X8_goes rfl (As := [.int v1]) (rest := []) rfl rfl (Nat.le_of_ble_eq_true rfl) c9 (c_X8_goes (by omega) e8) (st' := []) rfl ?_
        refine rs_aload_n i_X8_cooks_39 rfl ?_
        refine rs_iload_n i_X8_cooks_40 rfl ?_
        refine rs_iload_n i_X8_cooks_41 rfl ?_
        obtain ⟨c11, hf⟩ := ite_some hf
        obtain ⟨o10, e10, hf⟩ := bind_some hf
        refine rs_inV i_X8_cooks_42 m_X8_cooked rfl (As := [.int v2, .int v3]) (rest := []) rfl rfl (Nat.le_of_ble_eq_true rfl) c11 (c_X8_cooked (by omega) e10) (st' := [.int o10.1]) rfl ?_
        have hf := Option.some.inj hf
        subst hf
        exact rs_iret i_X8_cooks_45 m_X8_cooks rfl
      · replace hf := (if_neg c7).symm.trans hf
        refine rs_ifF i_X8_cooks_28 (cf_ne c7) ?_
        refine rs_bipush i_X8_cooks_31 (v := (-7)) (by decide) ?_
        have hf := Option.some.inj hf
        subst hf
        exact rs_iret i_X8_cooks_33 m_X8_cooks rfl
  · replace hf := (if_neg c3).symm.trans hf
    refine rs_ifF i_X8_cooks_5 (cf_ne c3) ?_
    refine rs_bipush i_X8_cooks_8 (v := (-5)) (by decide) ?_
    have hf := Option.some.inj hf
    subst hf
    exact rs_iret i_X8_cooks_10 m_X8_cooks rfl
def f_X8_cooks (n : Nat) (v0 : Nat) (v1 : Int32) (v2 : Int32) (v3 : Int32) (h : Hp) : Option (Int32 × Hp) := f_X8_cooks_0 n v0 v1 v2 v3 h
theorem c_X8_cooks {X : Nat → Int32} {d : Nat} (hd : 7 ≤ d) {n : Nat} {v0 : Nat} {v1 : Int32} {v2 : Int32} {v3 : Int32} {h : Hp} {o : (Int32 × Hp)} (hf : f_X8_cooks n v0 v1 v2 v3 h = some o) : Calls X d 194 [.ref v0, .int v1, .int v2, .int v3] h (some (.int o.1), o.2) := by
  obtain ⟨d, rfl⟩ : ∃ z, d = z + 1 := ⟨d - 1, by omega⟩
  exact ⟨_, rfl, r_X8_cooks_0 hd hf⟩
theorem i_X8_pot_0 : fetch 195 0 = some (.aload_n 0, 1, 0, 0, 0, 0) := by decide +kernel
theorem i_X8_pot_1 : fetch 195 1 = some (.iload_n 1, 2, 0, 0, 0, 0) := by decide +kernel
theorem i_X8_pot_2 : fetch 195 2 = some (.invokevirtual 286, 5, 128, 0, 0, 1223) := by decide +kernel
theorem i_X8_pot_5 : fetch 195 5 = some (.ifCond .ne 6, 8, 0, 0, 0, 0) := by decide +kernel
theorem i_X8_pot_8 : fetch 195 8 = some (.bipush (-5), 10, 0, 0, 0, 0) := by decide +kernel
theorem i_X8_pot_10 : fetch 195 10 = some (.ireturn, 11, 0, 0, 0, 0) := by decide +kernel
theorem i_X8_pot_11 : fetch 195 11 = some (.aload_n 0, 12, 0, 0, 0, 0) := by decide +kernel
theorem i_X8_pot_12 : fetch 195 12 = some (.iload_n 1, 13, 0, 0, 0, 0) := by decide +kernel
theorem i_X8_pot_13 : fetch 195 13 = some (.invokevirtual 289, 16, 168, 0, 0, 1227) := by decide +kernel
theorem i_X8_pot_16 : fetch 195 16 = some (.iconst 0, 17, 0, 0, 0, 0) := by decide +kernel
theorem i_X8_pot_17 : fetch 195 17 = some (.istore_n 2, 18, 0, 0, 0, 0) := by decide +kernel
theorem i_X8_pot_18 : fetch 195 18 = some (.iconst 0, 19, 0, 0, 0, 0) := by decide +kernel
theorem i_X8_pot_19 : fetch 195 19 = some (.istore_n 3, 20, 0, 0, 0, 0) := by decide +kernel
theorem i_X8_pot_20 : fetch 195 20 = some (.iconst 0, 21, 0, 0, 0, 0) := by decide +kernel
theorem i_X8_pot_21 : fetch 195 21 = some (.istore 4, 23, 0, 0, 0, 0) := by decide +kernel
theorem i_X8_pot_23 : fetch 195 23 = some (.iload 4, 25, 0, 0, 0, 0) := by decide +kernel
theorem i_X8_pot_25 : fetch 195 25 = some (.bipush 12, 27, 0, 0, 0, 0) := by decide +kernel
theorem i_X8_pot_27 : fetch 195 27 = some (.if_icmp .ge 50, 30, 0, 0, 0, 0) := by decide +kernel
theorem i_X8_pot_30 : fetch 195 30 = some (.aload_n 0, 31, 0, 0, 0, 0) := by decide +kernel
theorem i_X8_pot_31 : fetch 195 31 = some (.iload 4, 33, 0, 0, 0, 0) := by decide +kernel
theorem i_X8_pot_33 : fetch 195 33 = some (.invokevirtual 202, 36, 154, 0, 0, 1256) := by decide +kernel
theorem i_X8_pot_36 : fetch 195 36 = some (.istore 5, 38, 0, 0, 0, 0) := by decide +kernel
theorem i_X8_pot_38 : fetch 195 38 = some (.aload_n 0, 39, 0, 0, 0, 0) := by decide +kernel
theorem i_X8_pot_39 : fetch 195 39 = some (.iload 5, 41, 0, 0, 0, 0) := by decide +kernel
theorem i_X8_pot_41 : fetch 195 41 = some (.iconst 1, 42, 0, 0, 0, 0) := by decide +kernel
theorem i_X8_pot_42 : fetch 195 42 = some (.invokevirtual 329, 45, 193, 0, 0, 1406) := by decide +kernel
theorem i_X8_pot_45 : fetch 195 45 = some (.istore 6, 47, 0, 0, 0, 0) := by decide +kernel
theorem i_X8_pot_47 : fetch 195 47 = some (.iload 6, 49, 0, 0, 0, 0) := by decide +kernel
theorem i_X8_pot_49 : fetch 195 49 = some (.iload_n 3, 50, 0, 0, 0, 0) := by decide +kernel
theorem i_X8_pot_50 : fetch 195 50 = some (.if_icmp .gt 15, 53, 0, 0, 0, 0) := by decide +kernel
theorem i_X8_pot_53 : fetch 195 53 = some (.iload 6, 55, 0, 0, 0, 0) := by decide +kernel
theorem i_X8_pot_55 : fetch 195 55 = some (.iload_n 3, 56, 0, 0, 0, 0) := by decide +kernel
theorem i_X8_pot_56 : fetch 195 56 = some (.if_icmp .ne 15, 59, 0, 0, 0, 0) := by decide +kernel
theorem i_X8_pot_59 : fetch 195 59 = some (.iload 5, 61, 0, 0, 0, 0) := by decide +kernel
theorem i_X8_pot_61 : fetch 195 61 = some (.iload_n 2, 62, 0, 0, 0, 0) := by decide +kernel
theorem i_X8_pot_62 : fetch 195 62 = some (.if_icmp .ge 9, 65, 0, 0, 0, 0) := by decide +kernel
theorem i_X8_pot_65 : fetch 195 65 = some (.iload 5, 67, 0, 0, 0, 0) := by decide +kernel
theorem i_X8_pot_67 : fetch 195 67 = some (.istore_n 2, 68, 0, 0, 0, 0) := by decide +kernel
theorem i_X8_pot_68 : fetch 195 68 = some (.iload 6, 70, 0, 0, 0, 0) := by decide +kernel
theorem i_X8_pot_70 : fetch 195 70 = some (.istore_n 3, 71, 0, 0, 0, 0) := by decide +kernel
theorem i_X8_pot_71 : fetch 195 71 = some (.iinc 4 1, 74, 0, 0, 0, 0) := by decide +kernel
theorem i_X8_pot_74 : fetch 195 74 = some (.goto (-51), 77, 0, 0, 0, 0) := by decide +kernel
theorem i_X8_pot_77 : fetch 195 77 = some (.iload_n 2, 78, 0, 0, 0, 0) := by decide +kernel
theorem i_X8_pot_78 : fetch 195 78 = some (.ireturn, 79, 0, 0, 0, 0) := by decide +kernel
def f_X8_pot_71 (n : Nat) (K23 : Nat → Int32 → Int32 → Int32 → Hp → Option (Int32 × Hp)) (v0 : Nat) (v2 : Int32) (v3 : Int32) (v4 : Int32) (h : Hp) : Option (Int32 × Hp) :=
  K23 v0 v2 v3 (v4 + 1) h
set_option maxRecDepth 100000 in
set_option maxHeartbeats 4000000 in
theorem r_X8_pot_71 {X : Nat → Int32} {d : Nat} (hd : 7 ≤ (d + 1)) {n : Nat} {K23 : Nat → Int32 → Int32 → Int32 → Hp → Option (Int32 × Hp)} (HK23 : ∀ (v0 : Nat) (v2 : Int32) (v3 : Int32) (v4 : Int32) (d1 : Int32) (w5 : Option Value) (w6 : Option Value) (h : Hp) (o : (Int32 × Hp)), K23 v0 v2 v3 v4 h = some o → Run X (d + 1) 195 23 [some (.ref v0), some (.int d1), some (.int v2), some (.int v3), some (.int v4), w5, w6] [] h (some (.int o.1), o.2)) {v0 : Nat} {v2 : Int32} {v3 : Int32} {v4 : Int32} {d1 : Int32} {d5 : Int32} {d6 : Int32} {h : Hp} {o : (Int32 × Hp)} (hf : f_X8_pot_71 n K23 v0 v2 v3 v4 h = some o) : Run X (d + 1) 195 71 [some (.ref v0), some (.int d1), some (.int v2), some (.int v3), some (.int v4), some (.int d5), some (.int d6)] [] h (some (.int o.1), o.2) := by
  unfold f_X8_pot_71 at hf
  refine rs_iinc i_X8_pot_71 rfl (v := v4 + 1) rfl (Nat.le_of_ble_eq_true rfl) (lv' := [some (.ref v0), some (.int d1), some (.int v2), some (.int v3), some (.int (v4 + 1)), some (.int d5), some (.int d6)]) rfl ?_
  refine rs_goto i_X8_pot_74 (tg := 23) (by decide) ?_
  exact HK23 _ _ _ _ _ _ _ _ _ hf
def f_X8_pot_65 (n : Nat) (K23 : Nat → Int32 → Int32 → Int32 → Hp → Option (Int32 × Hp)) (v0 : Nat) (v4 : Int32) (v5 : Int32) (v6 : Int32) (h : Hp) : Option (Int32 × Hp) :=
  f_X8_pot_71 n K23 v0 v5 v6 v4 h
set_option maxRecDepth 100000 in
set_option maxHeartbeats 4000000 in
theorem r_X8_pot_65 {X : Nat → Int32} {d : Nat} (hd : 7 ≤ (d + 1)) {n : Nat} {K23 : Nat → Int32 → Int32 → Int32 → Hp → Option (Int32 × Hp)} (HK23 : ∀ (v0 : Nat) (v2 : Int32) (v3 : Int32) (v4 : Int32) (d1 : Int32) (w5 : Option Value) (w6 : Option Value) (h : Hp) (o : (Int32 × Hp)), K23 v0 v2 v3 v4 h = some o → Run X (d + 1) 195 23 [some (.ref v0), some (.int d1), some (.int v2), some (.int v3), some (.int v4), w5, w6] [] h (some (.int o.1), o.2)) {v0 : Nat} {v4 : Int32} {v5 : Int32} {v6 : Int32} {d1 : Int32} {d2 : Int32} {d3 : Int32} {h : Hp} {o : (Int32 × Hp)} (hf : f_X8_pot_65 n K23 v0 v4 v5 v6 h = some o) : Run X (d + 1) 195 65 [some (.ref v0), some (.int d1), some (.int d2), some (.int d3), some (.int v4), some (.int v5), some (.int v6)] [] h (some (.int o.1), o.2) := by
  unfold f_X8_pot_65 at hf
  refine rs_iload i_X8_pot_65 rfl ?_
  refine rs_istore_n i_X8_pot_67 (Nat.le_of_ble_eq_true rfl) (lv' := [some (.ref v0), some (.int d1), some (.int v5), some (.int d3), some (.int v4), some (.int v5), some (.int v6)]) rfl ?_
  refine rs_iload i_X8_pot_68 rfl ?_
  refine rs_istore_n i_X8_pot_70 (Nat.le_of_ble_eq_true rfl) (lv' := [some (.ref v0), some (.int d1), some (.int v5), some (.int v6), some (.int v4), some (.int v5), some (.int v6)]) rfl ?_
  exact r_X8_pot_71 hd HK23 hf
def f_X8_pot_23 (n : Nat) : Nat → Nat → Int32 → Int32 → Int32 → Hp → Option (Int32 × Hp)
  | 0, _, _, _, _, _ => none
  | m + 1, v0, v2, v3, v4, h =>
    if 12 ≤ v4 then
      some (v2, h)
    else
      if okO h v0 8 then
      (f_X8_thickOf v0 v4 h).bind fun o2 =>
      if okO o2.2 v0 8 then
      (f_X8_cooked n v0 o2.1 1 o2.2).bind fun o4 =>
      if v3 < o4.1 then
        f_X8_pot_65 n (f_X8_pot_23 n m) v0 v4 o2.1 o4.1 o4.2
      else
        if o4.1 ≠ v3 then
          f_X8_pot_71 n (f_X8_pot_23 n m) v0 v2 v3 v4 o4.2
        else
          if v2 ≤ o2.1 then
            f_X8_pot_71 n (f_X8_pot_23 n m) v0 v2 v3 v4 o4.2
          else
            f_X8_pot_65 n (f_X8_pot_23 n m) v0 v4 o2.1 o4.1 o4.2
      else none
      else none
set_option maxRecDepth 100000 in
set_option maxHeartbeats 4000000 in
theorem r_X8_pot_23 {X : Nat → Int32} {d : Nat} (hd : 7 ≤ (d + 1)) {n : Nat} : ∀ (m : Nat) (v0 : Nat) (v2 : Int32) (v3 : Int32) (v4 : Int32) (d1 : Int32) (w5 : Option Value) (w6 : Option Value) (h : Hp) (o : (Int32 × Hp)), f_X8_pot_23 n m v0 v2 v3 v4 h = some o → Run X (d + 1) 195 23 [some (.ref v0), some (.int d1), some (.int v2), some (.int v3), some (.int v4), w5, w6] [] h (some (.int o.1), o.2) := by
  intro m
  induction m with
  | zero => intro v0 v2 v3 v4 d1 w5 w6 h o hf; cases hf
  | succ m ih =>
    intro v0 v2 v3 v4 d1 w5 w6 h o hf
    rw [f_X8_pot_23] at hf
    refine rs_iload i_X8_pot_23 rfl ?_
    refine rs_bipush i_X8_pot_25 (v := 12) (by decide) ?_
    by_cases c1 : 12 ≤ v4
    · replace hf := (if_pos c1).symm.trans hf
      refine rs_icT i_X8_pot_27 (ct_ge c1) (tg := 77) (by decide) ?_
      refine rs_iload_n i_X8_pot_77 rfl ?_
      have hf := Option.some.inj hf
      subst hf
      exact rs_iret i_X8_pot_78 m_X8_pot rfl
    · replace hf := (if_neg c1).symm.trans hf
      refine rs_icF i_X8_pot_27 (cf_ge c1) ?_
      refine rs_aload_n i_X8_pot_30 rfl ?_
      refine rs_iload i_X8_pot_31 rfl ?_
      obtain ⟨c3, hf⟩ := ite_some hf
      obtain ⟨o2, e2, hf⟩ := bind_some hf
      refine rs_inV i_X8_pot_33 m_X8_thickOf rfl (As := [.int v4]) (rest := []) rfl rfl (Nat.le_of_ble_eq_true rfl) c3 (c_X8_thickOf (by omega) e2) (st' := [.int o2.1]) rfl ?_
      refine rs_istore i_X8_pot_36 (Nat.le_of_ble_eq_true rfl) (lv' := [some (.ref v0), some (.int d1), some (.int v2), some (.int v3), some (.int v4), some (.int o2.1), w6]) rfl ?_
      refine rs_aload_n i_X8_pot_38 rfl ?_
      refine rs_iload i_X8_pot_39 rfl ?_
      refine rs_iconst i_X8_pot_41 (v := 1) (by decide) ?_
      obtain ⟨c5, hf⟩ := ite_some hf
      obtain ⟨o4, e4, hf⟩ := bind_some hf
      refine rs_inV i_X8_pot_42 m_X8_cooked rfl (As := [.int o2.1, .int 1]) (rest := []) rfl rfl (Nat.le_of_ble_eq_true rfl) c5 (c_X8_cooked (by omega) e4) (st' := [.int o4.1]) rfl ?_
      refine rs_istore i_X8_pot_45 (Nat.le_of_ble_eq_true rfl) (lv' := [some (.ref v0), some (.int d1), some (.int v2), some (.int v3), some (.int v4), some (.int o2.1), some (.int o4.1)]) rfl ?_
      refine rs_iload i_X8_pot_47 rfl ?_
      refine rs_iload_n i_X8_pot_49 rfl ?_
      by_cases c6 : v3 < o4.1
      · replace hf := (if_pos c6).symm.trans hf
        refine rs_icT i_X8_pot_50 (ct_gt c6) (tg := 65) (by decide) ?_
        exact r_X8_pot_65 hd ih hf
      · replace hf := (if_neg c6).symm.trans hf
        refine rs_icF i_X8_pot_50 (cf_gt c6) ?_
        refine rs_iload i_X8_pot_53 rfl ?_
        refine rs_iload_n i_X8_pot_55 rfl ?_
        by_cases c7 : o4.1 ≠ v3
        · replace hf := (if_pos c7).symm.trans hf
          refine rs_icT i_X8_pot_56 (ct_ne c7) (tg := 71) (by decide) ?_
          exact r_X8_pot_71 hd ih hf
        · replace hf := (if_neg c7).symm.trans hf
          refine rs_icF i_X8_pot_56 (cf_ne c7) ?_
          refine rs_iload i_X8_pot_59 rfl ?_
          refine rs_iload_n i_X8_pot_61 rfl ?_
          by_cases c8 : v2 ≤ o2.1
          · replace hf := (if_pos c8).symm.trans hf
            refine rs_icT i_X8_pot_62 (ct_ge c8) (tg := 71) (by decide) ?_
            exact r_X8_pot_71 hd ih hf
          · replace hf := (if_neg c8).symm.trans hf
            refine rs_icF i_X8_pot_62 (cf_ge c8) ?_
            exact r_X8_pot_65 hd ih hf
def f_X8_pot_0 (n : Nat) (v0 : Nat) (v1 : Int32) (h : Hp) : Option (Int32 × Hp) :=
  if okO h v0 8 then
  (f_X8_areSteps v0 v1 h).bind fun o1 =>
  if o1.1 ≠ 0 then
    if okO o1.2 v0 8 then
    (f_X8_goes n v0 v1 o1.2).bind fun o4 =>
    f_X8_pot_23 n n v0 0 0 0 o4
    else none
  else
    some ((-5), o1.2)
  else none
set_option maxRecDepth 100000 in
set_option maxHeartbeats 4000000 in
theorem r_X8_pot_0 {X : Nat → Int32} {d : Nat} (hd : 7 ≤ (d + 1)) {n : Nat} {v0 : Nat} {v1 : Int32} {h : Hp} {o : (Int32 × Hp)} (hf : f_X8_pot_0 n v0 v1 h = some o) : Run X (d + 1) 195 0 [some (.ref v0), some (.int v1), none, none, none, none, none] [] h (some (.int o.1), o.2) := by
  unfold f_X8_pot_0 at hf
  refine rs_aload_n i_X8_pot_0 rfl ?_
  refine rs_iload_n i_X8_pot_1 rfl ?_
  obtain ⟨c2, hf⟩ := ite_some hf
  obtain ⟨o1, e1, hf⟩ := bind_some hf
  refine rs_inV i_X8_pot_2 m_X8_areSteps rfl (As := [.int v1]) (rest := []) rfl rfl (Nat.le_of_ble_eq_true rfl) c2 (c_X8_areSteps (by omega) e1) (st' := [.int o1.1]) rfl ?_
  by_cases c3 : o1.1 ≠ 0
  · replace hf := (if_pos c3).symm.trans hf
    refine rs_ifT i_X8_pot_5 (ct_ne c3) (tg := 11) (by decide) ?_
    refine rs_aload_n i_X8_pot_11 rfl ?_
    refine rs_iload_n i_X8_pot_12 rfl ?_
    obtain ⟨c5, hf⟩ := ite_some hf
    obtain ⟨o4, e4, hf⟩ := bind_some hf
    refine rs_inV i_X8_pot_13 m_X8_goes rfl (As := [.int v1]) (rest := []) rfl rfl (Nat.le_of_ble_eq_true rfl) c5 (c_X8_goes (by omega) e4) (st' := []) rfl ?_
    refine rs_iconst i_X8_pot_16 (v := 0) (by decide) ?_
    refine rs_istore_n i_X8_pot_17 (Nat.le_of_ble_eq_true rfl) (lv' := [some (.ref v0), some (.int v1), some (.int 0), none, none, none, none]) rfl ?_
    refine rs_iconst i_X8_pot_18 (v := 0) (by decide) ?_
    refine rs_istore_n i_X8_pot_19 (Nat.le_of_ble_eq_true rfl) (lv' := [some (.ref v0), some (.int v1), some (.int 0), some (.int 0), none, none, none]) rfl ?_
    refine rs_iconst i_X8_pot_20 (v := 0) (by decide) ?_
    refine rs_istore i_X8_pot_21 (Nat.le_of_ble_eq_true rfl) (lv' := [some (.ref v0), some (.int v1), some (.int 0), some (.int 0), some (.int 0), none, none]) rfl ?_
    exact r_X8_pot_23 hd _ _ _ _ _ _ _ _ _ _ hf
  · replace hf := (if_neg c3).symm.trans hf
    refine rs_ifF i_X8_pot_5 (cf_ne c3) ?_
    refine rs_bipush i_X8_pot_8 (v := (-5)) (by decide) ?_
    have hf := Option.some.inj hf
    subst hf
    exact rs_iret i_X8_pot_10 m_X8_pot rfl
def f_X8_pot (n : Nat) (v0 : Nat) (v1 : Int32) (h : Hp) : Option (Int32 × Hp) := f_X8_pot_0 n v0 v1 h
theorem c_X8_pot {X : Nat → Int32} {d : Nat} (hd : 7 ≤ d) {n : Nat} {v0 : Nat} {v1 : Int32} {h : Hp} {o : (Int32 × Hp)} (hf : f_X8_pot n v0 v1 h = some o) : Calls X d 195 [.ref v0, .int v1] h (some (.int o.1), o.2) := by
  obtain ⟨d, rfl⟩ : ∃ z, d = z + 1 := ⟨d - 1, by omega⟩
  exact ⟨_, rfl, r_X8_pot_0 hd hf⟩
theorem i_X8_isSpot_0 : fetch 196 0 = some (.iload_n 0, 1, 0, 0, 0, 0) := by decide +kernel
theorem i_X8_isSpot_1 : fetch 196 1 = some (.iconst 0, 2, 0, 0, 0, 0) := by decide +kernel
theorem i_X8_isSpot_2 : fetch 196 2 = some (.sipush 4095, 5, 0, 0, 0, 0) := by decide +kernel
theorem i_X8_isSpot_5 : fetch 196 5 = some (.invokestatic 112, 8, 126, 0, 0, 970) := by decide +kernel
theorem i_X8_isSpot_8 : fetch 196 8 = some (.ireturn, 9, 0, 0, 0, 0) := by decide +kernel
def f_X8_isSpot_0 (v0 : Int32) (h : Hp) : Option (Int32 × Hp) :=
  (f_X8_in v0 0 4095 h).bind fun o1 =>
  if o1.1 = 0 ∨ o1.1 = 1 then
  some (o1.1, o1.2)
  else none
set_option maxRecDepth 100000 in
set_option maxHeartbeats 4000000 in
theorem r_X8_isSpot_0 {X : Nat → Int32} {d : Nat} (hd : 1 ≤ (d + 1)) {v0 : Int32} {h : Hp} {o : (Int32 × Hp)} (hf : f_X8_isSpot_0 v0 h = some o) : Run X (d + 1) 196 0 [some (.int v0)] [] h (some (.int o.1), o.2) := by
  unfold f_X8_isSpot_0 at hf
  refine rs_iload_n i_X8_isSpot_0 rfl ?_
  refine rs_iconst i_X8_isSpot_1 (v := 0) (by decide) ?_
  refine rs_sipush i_X8_isSpot_2 (v := 4095) (by decide) ?_
  obtain ⟨o1, e1, hf⟩ := bind_some hf
  refine rs_inS i_X8_isSpot_5 (by decide) m_X8_in rfl (As := [.int v0, .int 0, .int 4095]) (rest := []) rfl rfl (Nat.le_of_ble_eq_true rfl) (c_X8_in (by omega) e1) (st' := [.int o1.1]) rfl ?_
  obtain ⟨c2, hf⟩ := ite_some hf
  have hf := Option.some.inj hf
  subst hf
  exact rs_iret i_X8_isSpot_8 m_X8_isSpot (decide_eq_true c2)
def f_X8_isSpot (v0 : Int32) (h : Hp) : Option (Int32 × Hp) := f_X8_isSpot_0 v0 h
theorem c_X8_isSpot {X : Nat → Int32} {d : Nat} (hd : 1 ≤ d) {v0 : Int32} {h : Hp} {o : (Int32 × Hp)} (hf : f_X8_isSpot v0 h = some o) : Calls X d 196 [.int v0] h (some (.int o.1), o.2) := by
  obtain ⟨d, rfl⟩ : ∃ z, d = z + 1 := ⟨d - 1, by omega⟩
  exact ⟨_, rfl, r_X8_isSpot_0 hd hf⟩
theorem i_X8_doubledOnce_0 : fetch 197 0 = some (.iload_n 0, 1, 0, 0, 0, 0) := by decide +kernel
theorem i_X8_doubledOnce_1 : fetch 197 1 = some (.sipush 2048, 4, 0, 0, 0, 0) := by decide +kernel
theorem i_X8_doubledOnce_4 : fetch 197 4 = some (.if_icmp .ge 9, 7, 0, 0, 0, 0) := by decide +kernel
theorem i_X8_doubledOnce_7 : fetch 197 7 = some (.iconst 2, 8, 0, 0, 0, 0) := by decide +kernel
theorem i_X8_doubledOnce_8 : fetch 197 8 = some (.iload_n 0, 9, 0, 0, 0, 0) := by decide +kernel
theorem i_X8_doubledOnce_9 : fetch 197 9 = some (.imul, 10, 0, 0, 0, 0) := by decide +kernel
theorem i_X8_doubledOnce_10 : fetch 197 10 = some (.goto 12, 13, 0, 0, 0, 0) := by decide +kernel
theorem i_X8_doubledOnce_13 : fetch 197 13 = some (.iconst 2, 14, 0, 0, 0, 0) := by decide +kernel
theorem i_X8_doubledOnce_14 : fetch 197 14 = some (.sipush 4095, 17, 0, 0, 0, 0) := by decide +kernel
theorem i_X8_doubledOnce_17 : fetch 197 17 = some (.iload_n 0, 18, 0, 0, 0, 0) := by decide +kernel
theorem i_X8_doubledOnce_18 : fetch 197 18 = some (.isub, 19, 0, 0, 0, 0) := by decide +kernel
theorem i_X8_doubledOnce_19 : fetch 197 19 = some (.imul, 20, 0, 0, 0, 0) := by decide +kernel
theorem i_X8_doubledOnce_20 : fetch 197 20 = some (.iconst 1, 21, 0, 0, 0, 0) := by decide +kernel
theorem i_X8_doubledOnce_21 : fetch 197 21 = some (.iadd, 22, 0, 0, 0, 0) := by decide +kernel
theorem i_X8_doubledOnce_22 : fetch 197 22 = some (.ireturn, 23, 0, 0, 0, 0) := by decide +kernel
def f_X8_doubledOnce_0 (v0 : Int32) (h : Hp) : Option (Int32 × Hp) :=
  if 2048 ≤ v0 then
    some (((2 * (4095 - v0)) + 1), h)
  else
    some ((2 * v0), h)
set_option maxRecDepth 100000 in
set_option maxHeartbeats 4000000 in
theorem r_X8_doubledOnce_0 {X : Nat → Int32} {d : Nat} (hd : 0 ≤ d) {v0 : Int32} {h : Hp} {o : (Int32 × Hp)} (hf : f_X8_doubledOnce_0 v0 h = some o) : Run X d 197 0 [some (.int v0)] [] h (some (.int o.1), o.2) := by
  unfold f_X8_doubledOnce_0 at hf
  refine rs_iload_n i_X8_doubledOnce_0 rfl ?_
  refine rs_sipush i_X8_doubledOnce_1 (v := 2048) (by decide) ?_
  by_cases c1 : 2048 ≤ v0
  · replace hf := (if_pos c1).symm.trans hf
    refine rs_icT i_X8_doubledOnce_4 (ct_ge c1) (tg := 13) (by decide) ?_
    refine rs_iconst i_X8_doubledOnce_13 (v := 2) (by decide) ?_
    refine rs_sipush i_X8_doubledOnce_14 (v := 4095) (by decide) ?_
    refine rs_iload_n i_X8_doubledOnce_17 rfl ?_
    refine rs_isub i_X8_doubledOnce_18 ?_
    refine rs_imul i_X8_doubledOnce_19 ?_
    refine rs_iconst i_X8_doubledOnce_20 (v := 1) (by decide) ?_
    refine rs_iadd i_X8_doubledOnce_21 ?_
    have hf := Option.some.inj hf
    subst hf
    exact rs_iret i_X8_doubledOnce_22 m_X8_doubledOnce rfl
  · replace hf := (if_neg c1).symm.trans hf
    refine rs_icF i_X8_doubledOnce_4 (cf_ge c1) ?_
    refine rs_iconst i_X8_doubledOnce_7 (v := 2) (by decide) ?_
    refine rs_iload_n i_X8_doubledOnce_8 rfl ?_
    refine rs_imul i_X8_doubledOnce_9 ?_
    refine rs_goto i_X8_doubledOnce_10 (tg := 22) (by decide) ?_
    have hf := Option.some.inj hf
    subst hf
    exact rs_iret i_X8_doubledOnce_22 m_X8_doubledOnce rfl
def f_X8_doubledOnce (v0 : Int32) (h : Hp) : Option (Int32 × Hp) := f_X8_doubledOnce_0 v0 h
theorem c_X8_doubledOnce {X : Nat → Int32} {d : Nat} (hd : 0 ≤ d) {v0 : Int32} {h : Hp} {o : (Int32 × Hp)} (hf : f_X8_doubledOnce v0 h = some o) : Calls X d 197 [.int v0] h (some (.int o.1), o.2) := by
  exact ⟨_, rfl, r_X8_doubledOnce_0 hd hf⟩
theorem i_X8_behind_0 : fetch 198 0 = some (.iload_n 0, 1, 0, 0, 0, 0) := by decide +kernel
theorem i_X8_behind_1 : fetch 198 1 = some (.istore_n 2, 2, 0, 0, 0, 0) := by decide +kernel
theorem i_X8_behind_2 : fetch 198 2 = some (.iconst 0, 3, 0, 0, 0, 0) := by decide +kernel
theorem i_X8_behind_3 : fetch 198 3 = some (.istore_n 3, 4, 0, 0, 0, 0) := by decide +kernel
theorem i_X8_behind_4 : fetch 198 4 = some (.iload_n 3, 5, 0, 0, 0, 0) := by decide +kernel
theorem i_X8_behind_5 : fetch 198 5 = some (.iload_n 1, 6, 0, 0, 0, 0) := by decide +kernel
theorem i_X8_behind_6 : fetch 198 6 = some (.if_icmp .ge 14, 9, 0, 0, 0, 0) := by decide +kernel
theorem i_X8_behind_9 : fetch 198 9 = some (.iload_n 2, 10, 0, 0, 0, 0) := by decide +kernel
theorem i_X8_behind_10 : fetch 198 10 = some (.invokestatic 332, 13, 197, 0, 0, 1424) := by decide +kernel
theorem i_X8_behind_13 : fetch 198 13 = some (.istore_n 2, 14, 0, 0, 0, 0) := by decide +kernel
theorem i_X8_behind_14 : fetch 198 14 = some (.iinc 3 1, 17, 0, 0, 0, 0) := by decide +kernel
theorem i_X8_behind_17 : fetch 198 17 = some (.goto (-13), 20, 0, 0, 0, 0) := by decide +kernel
theorem i_X8_behind_20 : fetch 198 20 = some (.iload_n 2, 21, 0, 0, 0, 0) := by decide +kernel
theorem i_X8_behind_21 : fetch 198 21 = some (.ireturn, 22, 0, 0, 0, 0) := by decide +kernel
def f_X8_behind_4 (n : Nat) : Nat → Int32 → Int32 → Int32 → Hp → Option (Int32 × Hp)
  | 0, _, _, _, _ => none
  | m + 1, v1, v2, v3, h =>
    if v1 ≤ v3 then
      some (v2, h)
    else
      (f_X8_doubledOnce v2 h).bind fun o2 =>
      (f_X8_behind_4 n m) v1 o2.1 (v3 + 1) o2.2
set_option maxRecDepth 100000 in
set_option maxHeartbeats 4000000 in
theorem r_X8_behind_4 {X : Nat → Int32} {d : Nat} (hd : 1 ≤ (d + 1)) {n : Nat} : ∀ (m : Nat) (v1 : Int32) (v2 : Int32) (v3 : Int32) (d0 : Int32) (h : Hp) (o : (Int32 × Hp)), f_X8_behind_4 n m v1 v2 v3 h = some o → Run X (d + 1) 198 4 [some (.int d0), some (.int v1), some (.int v2), some (.int v3)] [] h (some (.int o.1), o.2) := by
  intro m
  induction m with
  | zero => intro v1 v2 v3 d0 h o hf; cases hf
  | succ m ih =>
    intro v1 v2 v3 d0 h o hf
    rw [f_X8_behind_4] at hf
    refine rs_iload_n i_X8_behind_4 rfl ?_
    refine rs_iload_n i_X8_behind_5 rfl ?_
    by_cases c1 : v1 ≤ v3
    · replace hf := (if_pos c1).symm.trans hf
      refine rs_icT i_X8_behind_6 (ct_ge c1) (tg := 20) (by decide) ?_
      refine rs_iload_n i_X8_behind_20 rfl ?_
      have hf := Option.some.inj hf
      subst hf
      exact rs_iret i_X8_behind_21 m_X8_behind rfl
    · replace hf := (if_neg c1).symm.trans hf
      refine rs_icF i_X8_behind_6 (cf_ge c1) ?_
      refine rs_iload_n i_X8_behind_9 rfl ?_
      obtain ⟨o2, e2, hf⟩ := bind_some hf
      refine rs_inS i_X8_behind_10 (by decide) m_X8_doubledOnce rfl (As := [.int v2]) (rest := []) rfl rfl (Nat.le_of_ble_eq_true rfl) (c_X8_doubledOnce (by omega) e2) (st' := [.int o2.1]) rfl ?_
      refine rs_istore_n i_X8_behind_13 (Nat.le_of_ble_eq_true rfl) (lv' := [some (.int d0), some (.int v1), some (.int o2.1), some (.int v3)]) rfl ?_
      refine rs_iinc i_X8_behind_14 rfl (v := v3 + 1) rfl (Nat.le_of_ble_eq_true rfl) (lv' := [some (.int d0), some (.int v1), some (.int o2.1), some (.int (v3 + 1))]) rfl ?_
      refine rs_goto i_X8_behind_17 (tg := 4) (by decide) ?_
      exact ih _ _ _ _ _ _ hf
def f_X8_behind_0 (n : Nat) (v0 : Int32) (v1 : Int32) (h : Hp) : Option (Int32 × Hp) :=
  f_X8_behind_4 n n v1 v0 0 h
set_option maxRecDepth 100000 in
set_option maxHeartbeats 4000000 in
theorem r_X8_behind_0 {X : Nat → Int32} {d : Nat} (hd : 1 ≤ (d + 1)) {n : Nat} {v0 : Int32} {v1 : Int32} {h : Hp} {o : (Int32 × Hp)} (hf : f_X8_behind_0 n v0 v1 h = some o) : Run X (d + 1) 198 0 [some (.int v0), some (.int v1), none, none] [] h (some (.int o.1), o.2) := by
  unfold f_X8_behind_0 at hf
  refine rs_iload_n i_X8_behind_0 rfl ?_
  refine rs_istore_n i_X8_behind_1 (Nat.le_of_ble_eq_true rfl) (lv' := [some (.int v0), some (.int v1), some (.int v0), none]) rfl ?_
  refine rs_iconst i_X8_behind_2 (v := 0) (by decide) ?_
  refine rs_istore_n i_X8_behind_3 (Nat.le_of_ble_eq_true rfl) (lv' := [some (.int v0), some (.int v1), some (.int v0), some (.int 0)]) rfl ?_
  exact r_X8_behind_4 hd _ _ _ _ _ _ _ hf
def f_X8_behind (n : Nat) (v0 : Int32) (v1 : Int32) (h : Hp) : Option (Int32 × Hp) := f_X8_behind_0 n v0 v1 h
theorem c_X8_behind {X : Nat → Int32} {d : Nat} (hd : 1 ≤ d) {n : Nat} {v0 : Int32} {v1 : Int32} {h : Hp} {o : (Int32 × Hp)} (hf : f_X8_behind n v0 v1 h = some o) : Calls X d 198 [.int v0, .int v1] h (some (.int o.1), o.2) := by
  obtain ⟨d, rfl⟩ : ∃ z, d = z + 1 := ⟨d - 1, by omega⟩
  exact ⟨_, rfl, r_X8_behind_0 hd hf⟩
theorem i_X8_place_0 : fetch 199 0 = some (.iload_n 1, 1, 0, 0, 0, 0) := by decide +kernel
theorem i_X8_place_1 : fetch 199 1 = some (.invokestatic 335, 4, 196, 0, 0, 1418) := by decide +kernel
theorem i_X8_place_4 : fetch 199 4 = some (.ifCond .eq 21, 7, 0, 0, 0, 0) := by decide +kernel
theorem i_X8_place_7 : fetch 199 7 = some (.iload_n 2, 8, 0, 0, 0, 0) := by decide +kernel
theorem i_X8_place_8 : fetch 199 8 = some (.iconst 0, 9, 0, 0, 0, 0) := by decide +kernel
theorem i_X8_place_9 : fetch 199 9 = some (.bipush 64, 11, 0, 0, 0, 0) := by decide +kernel
theorem i_X8_place_11 : fetch 199 11 = some (.invokestatic 112, 14, 126, 0, 0, 970) := by decide +kernel
theorem i_X8_place_14 : fetch 199 14 = some (.ifCond .eq 11, 17, 0, 0, 0, 0) := by decide +kernel
theorem i_X8_place_17 : fetch 199 17 = some (.iload_n 1, 18, 0, 0, 0, 0) := by decide +kernel
theorem i_X8_place_18 : fetch 199 18 = some (.iload_n 2, 19, 0, 0, 0, 0) := by decide +kernel
theorem i_X8_place_19 : fetch 199 19 = some (.invokestatic 338, 22, 198, 0, 0, 1421) := by decide +kernel
theorem i_X8_place_22 : fetch 199 22 = some (.goto 5, 25, 0, 0, 0, 0) := by decide +kernel
theorem i_X8_place_25 : fetch 199 25 = some (.bipush (-2), 27, 0, 0, 0, 0) := by decide +kernel
theorem i_X8_place_27 : fetch 199 27 = some (.ireturn, 28, 0, 0, 0, 0) := by decide +kernel
def f_X8_place_0 (n : Nat) (v1 : Int32) (v2 : Int32) (h : Hp) : Option (Int32 × Hp) :=
  (f_X8_isSpot v1 h).bind fun o1 =>
  if o1.1 = 0 then
    some ((-2), o1.2)
  else
    (f_X8_in v2 0 64 o1.2).bind fun o3 =>
    if o3.1 = 0 then
      some ((-2), o3.2)
    else
      (f_X8_behind n v1 v2 o3.2).bind fun o5 =>
      some (o5.1, o5.2)
set_option maxRecDepth 100000 in
set_option maxHeartbeats 4000000 in
theorem r_X8_place_0 {X : Nat → Int32} {d : Nat} (hd : 2 ≤ (d + 1)) {n : Nat} {v1 : Int32} {v2 : Int32} {d0 : Nat} {h : Hp} {o : (Int32 × Hp)} (hf : f_X8_place_0 n v1 v2 h = some o) : Run X (d + 1) 199 0 [some (.ref d0), some (.int v1), some (.int v2)] [] h (some (.int o.1), o.2) := by
  unfold f_X8_place_0 at hf
  refine rs_iload_n i_X8_place_0 rfl ?_
  obtain ⟨o1, e1, hf⟩ := bind_some hf
  refine rs_inS i_X8_place_1 (by decide) m_X8_isSpot rfl (As := [.int v1]) (rest := []) rfl rfl (Nat.le_of_ble_eq_true rfl) (c_X8_isSpot (by omega) e1) (st' := [.int o1.1]) rfl ?_
  by_cases c2 : o1.1 = 0
  · replace hf := (if_pos c2).symm.trans hf
    refine rs_ifT i_X8_place_4 (ct_eq c2) (tg := 25) (by decide) ?_
    refine rs_bipush i_X8_place_25 (v := (-2)) (by decide) ?_
    have hf := Option.some.inj hf
    subst hf
    exact rs_iret i_X8_place_27 m_X8_place rfl
  · replace hf := (if_neg c2).symm.trans hf
    refine rs_ifF i_X8_place_4 (cf_eq c2) ?_
    refine rs_iload_n i_X8_place_7 rfl ?_
    refine rs_iconst i_X8_place_8 (v := 0) (by decide) ?_
    refine rs_bipush i_X8_place_9 (v := 64) (by decide) ?_
    obtain ⟨o3, e3, hf⟩ := bind_some hf
    refine rs_inS i_X8_place_11 (by decide) m_X8_in rfl (As := [.int v2, .int 0, .int 64]) (rest := []) rfl rfl (Nat.le_of_ble_eq_true rfl) (c_X8_in (by omega) e3) (st' := [.int o3.1]) rfl ?_
    by_cases c4 : o3.1 = 0
    · replace hf := (if_pos c4).symm.trans hf
      refine rs_ifT i_X8_place_14 (ct_eq c4) (tg := 25) (by decide) ?_
      refine rs_bipush i_X8_place_25 (v := (-2)) (by decide) ?_
      have hf := Option.some.inj hf
      subst hf
      exact rs_iret i_X8_place_27 m_X8_place rfl
    · replace hf := (if_neg c4).symm.trans hf
      refine rs_ifF i_X8_place_14 (cf_eq c4) ?_
      refine rs_iload_n i_X8_place_17 rfl ?_
      refine rs_iload_n i_X8_place_18 rfl ?_
      obtain ⟨o5, e5, hf⟩ := bind_some hf
      refine rs_inS i_X8_place_19 (by decide) m_X8_behind rfl (As := [.int v1, .int v2]) (rest := []) rfl rfl (Nat.le_of_ble_eq_true rfl) (c_X8_behind (by omega) e5) (st' := [.int o5.1]) rfl ?_
      refine rs_goto i_X8_place_22 (tg := 27) (by decide) ?_
      have hf := Option.some.inj hf
      subst hf
      exact rs_iret i_X8_place_27 m_X8_place rfl
def f_X8_place (n : Nat) (v0 : Nat) (v1 : Int32) (v2 : Int32) (h : Hp) : Option (Int32 × Hp) := f_X8_place_0 n v1 v2 h
theorem c_X8_place {X : Nat → Int32} {d : Nat} (hd : 2 ≤ d) {n : Nat} {v0 : Nat} {v1 : Int32} {v2 : Int32} {h : Hp} {o : (Int32 × Hp)} (hf : f_X8_place n v0 v1 v2 h = some o) : Calls X d 199 [.ref v0, .int v1, .int v2] h (some (.int o.1), o.2) := by
  obtain ⟨d, rfl⟩ : ∃ z, d = z + 1 := ⟨d - 1, by omega⟩
  exact ⟨_, rfl, r_X8_place_0 hd hf⟩
theorem i_X8_apart_0 : fetch 200 0 = some (.iload_n 1, 1, 0, 0, 0, 0) := by decide +kernel
theorem i_X8_apart_1 : fetch 200 1 = some (.invokestatic 335, 4, 196, 0, 0, 1418) := by decide +kernel
theorem i_X8_apart_4 : fetch 200 4 = some (.ifCond .eq 37, 7, 0, 0, 0, 0) := by decide +kernel
theorem i_X8_apart_7 : fetch 200 7 = some (.iload_n 2, 8, 0, 0, 0, 0) := by decide +kernel
theorem i_X8_apart_8 : fetch 200 8 = some (.invokestatic 335, 11, 196, 0, 0, 1418) := by decide +kernel
theorem i_X8_apart_11 : fetch 200 11 = some (.ifCond .eq 30, 14, 0, 0, 0, 0) := by decide +kernel
theorem i_X8_apart_14 : fetch 200 14 = some (.iload_n 3, 15, 0, 0, 0, 0) := by decide +kernel
theorem i_X8_apart_15 : fetch 200 15 = some (.iconst 0, 16, 0, 0, 0, 0) := by decide +kernel
theorem i_X8_apart_16 : fetch 200 16 = some (.bipush 64, 18, 0, 0, 0, 0) := by decide +kernel
theorem i_X8_apart_18 : fetch 200 18 = some (.invokestatic 112, 21, 126, 0, 0, 970) := by decide +kernel
theorem i_X8_apart_21 : fetch 200 21 = some (.ifCond .eq 20, 24, 0, 0, 0, 0) := by decide +kernel
theorem i_X8_apart_24 : fetch 200 24 = some (.iload_n 1, 25, 0, 0, 0, 0) := by decide +kernel
theorem i_X8_apart_25 : fetch 200 25 = some (.iload_n 3, 26, 0, 0, 0, 0) := by decide +kernel
theorem i_X8_apart_26 : fetch 200 26 = some (.invokestatic 338, 29, 198, 0, 0, 1421) := by decide +kernel
theorem i_X8_apart_29 : fetch 200 29 = some (.iload_n 2, 30, 0, 0, 0, 0) := by decide +kernel
theorem i_X8_apart_30 : fetch 200 30 = some (.iload_n 3, 31, 0, 0, 0, 0) := by decide +kernel
theorem i_X8_apart_31 : fetch 200 31 = some (.invokestatic 338, 34, 198, 0, 0, 1421) := by decide +kernel
theorem i_X8_apart_34 : fetch 200 34 = some (.isub, 35, 0, 0, 0, 0) := by decide +kernel
theorem i_X8_apart_35 : fetch 200 35 = some (.invokestatic 326, 38, 129, 0, 0, 1399) := by decide +kernel
theorem i_X8_apart_38 : fetch 200 38 = some (.goto 5, 41, 0, 0, 0, 0) := by decide +kernel
theorem i_X8_apart_41 : fetch 200 41 = some (.bipush (-2), 43, 0, 0, 0, 0) := by decide +kernel
theorem i_X8_apart_43 : fetch 200 43 = some (.ireturn, 44, 0, 0, 0, 0) := by decide +kernel
def f_X8_apart_0 (n : Nat) (v1 : Int32) (v2 : Int32) (v3 : Int32) (h : Hp) : Option (Int32 × Hp) :=
  (f_X8_isSpot v1 h).bind fun o1 =>
  if o1.1 = 0 then
    some ((-2), o1.2)
  else
    (f_X8_isSpot v2 o1.2).bind fun o3 =>
    if o3.1 = 0 then
      some ((-2), o3.2)
    else
      (f_X8_in v3 0 64 o3.2).bind fun o5 =>
      if o5.1 = 0 then
        some ((-2), o5.2)
      else
        (f_X8_behind n v1 v3 o5.2).bind fun o7 =>
        (f_X8_behind n v2 v3 o7.2).bind fun o8 =>
        (f_X8_size (o7.1 - o8.1) o8.2).bind fun o9 =>
        some (o9.1, o9.2)
set_option maxRecDepth 100000 in
set_option maxHeartbeats 4000000 in
theorem r_X8_apart_0 {X : Nat → Int32} {d : Nat} (hd : 2 ≤ (d + 1)) {n : Nat} {v1 : Int32} {v2 : Int32} {v3 : Int32} {d0 : Nat} {h : Hp} {o : (Int32 × Hp)} (hf : f_X8_apart_0 n v1 v2 v3 h = some o) : Run X (d + 1) 200 0 [some (.ref d0), some (.int v1), some (.int v2), some (.int v3)] [] h (some (.int o.1), o.2) := by
  unfold f_X8_apart_0 at hf
  refine rs_iload_n i_X8_apart_0 rfl ?_
  obtain ⟨o1, e1, hf⟩ := bind_some hf
  refine rs_inS i_X8_apart_1 (by decide) m_X8_isSpot rfl (As := [.int v1]) (rest := []) rfl rfl (Nat.le_of_ble_eq_true rfl) (c_X8_isSpot (by omega) e1) (st' := [.int o1.1]) rfl ?_
  by_cases c2 : o1.1 = 0
  · replace hf := (if_pos c2).symm.trans hf
    refine rs_ifT i_X8_apart_4 (ct_eq c2) (tg := 41) (by decide) ?_
    refine rs_bipush i_X8_apart_41 (v := (-2)) (by decide) ?_
    have hf := Option.some.inj hf
    subst hf
    exact rs_iret i_X8_apart_43 m_X8_apart rfl
  · replace hf := (if_neg c2).symm.trans hf
    refine rs_ifF i_X8_apart_4 (cf_eq c2) ?_
    refine rs_iload_n i_X8_apart_7 rfl ?_
    obtain ⟨o3, e3, hf⟩ := bind_some hf
    refine rs_inS i_X8_apart_8 (by decide) m_X8_isSpot rfl (As := [.int v2]) (rest := []) rfl rfl (Nat.le_of_ble_eq_true rfl) (c_X8_isSpot (by omega) e3) (st' := [.int o3.1]) rfl ?_
    by_cases c4 : o3.1 = 0
    · replace hf := (if_pos c4).symm.trans hf
      refine rs_ifT i_X8_apart_11 (ct_eq c4) (tg := 41) (by decide) ?_
      refine rs_bipush i_X8_apart_41 (v := (-2)) (by decide) ?_
      have hf := Option.some.inj hf
      subst hf
      exact rs_iret i_X8_apart_43 m_X8_apart rfl
    · replace hf := (if_neg c4).symm.trans hf
      refine rs_ifF i_X8_apart_11 (cf_eq c4) ?_
      refine rs_iload_n i_X8_apart_14 rfl ?_
      refine rs_iconst i_X8_apart_15 (v := 0) (by decide) ?_
      refine rs_bipush i_X8_apart_16 (v := 64) (by decide) ?_
      obtain ⟨o5, e5, hf⟩ := bind_some hf
      refine rs_inS i_X8_apart_18 (by decide) m_X8_in rfl (As := [.int v3, .int 0, .int 64]) (rest := []) rfl rfl (Nat.le_of_ble_eq_true rfl) (c_X8_in (by omega) e5) (st' := [.int o5.1]) rfl ?_
      by_cases c6 : o5.1 = 0
      · replace hf := (if_pos c6).symm.trans hf
        refine rs_ifT i_X8_apart_21 (ct_eq c6) (tg := 41) (by decide) ?_
        refine rs_bipush i_X8_apart_41 (v := (-2)) (by decide) ?_
        have hf := Option.some.inj hf
        subst hf
        exact rs_iret i_X8_apart_43 m_X8_apart rfl
      · replace hf := (if_neg c6).symm.trans hf
        refine rs_ifF i_X8_apart_21 (cf_eq c6) ?_
        refine rs_iload_n i_X8_apart_24 rfl ?_
        refine rs_iload_n i_X8_apart_25 rfl ?_
        obtain ⟨o7, e7, hf⟩ := bind_some hf
        refine rs_inS i_X8_apart_26 (by decide) m_X8_behind rfl (As := [.int v1, .int v3]) (rest := []) rfl rfl (Nat.le_of_ble_eq_true rfl) (c_X8_behind (by omega) e7) (st' := [.int o7.1]) rfl ?_
        refine rs_iload_n i_X8_apart_29 rfl ?_
        refine rs_iload_n i_X8_apart_30 rfl ?_
        obtain ⟨o8, e8, hf⟩ := bind_some hf
        refine rs_inS i_X8_apart_31 (by decide) m_X8_behind rfl (As := [.int v2, .int v3]) (rest := [.int o7.1]) rfl rfl (Nat.le_of_ble_eq_true rfl) (c_X8_behind (by omega) e8) (st' := [.int o8.1, .int o7.1]) rfl ?_
        refine rs_isub i_X8_apart_34 ?_
        obtain ⟨o9, e9, hf⟩ := bind_some hf
        refine rs_inS i_X8_apart_35 (by decide) m_X8_size rfl (As := [.int (o7.1 - o8.1)]) (rest := []) rfl rfl (Nat.le_of_ble_eq_true rfl) (c_X8_size (by omega) e9) (st' := [.int o9.1]) rfl ?_
        refine rs_goto i_X8_apart_38 (tg := 43) (by decide) ?_
        have hf := Option.some.inj hf
        subst hf
        exact rs_iret i_X8_apart_43 m_X8_apart rfl
def f_X8_apart (n : Nat) (v0 : Nat) (v1 : Int32) (v2 : Int32) (v3 : Int32) (h : Hp) : Option (Int32 × Hp) := f_X8_apart_0 n v1 v2 v3 h
theorem c_X8_apart {X : Nat → Int32} {d : Nat} (hd : 2 ≤ d) {n : Nat} {v0 : Nat} {v1 : Int32} {v2 : Int32} {v3 : Int32} {h : Hp} {o : (Int32 × Hp)} (hf : f_X8_apart n v0 v1 v2 v3 h = some o) : Calls X d 200 [.ref v0, .int v1, .int v2, .int v3] h (some (.int o.1), o.2) := by
  obtain ⟨d, rfl⟩ : ∃ z, d = z + 1 := ⟨d - 1, by omega⟩
  exact ⟨_, rfl, r_X8_apart_0 hd hf⟩
theorem i_X8_parted_0 : fetch 201 0 = some (.iload_n 1, 1, 0, 0, 0, 0) := by decide +kernel
theorem i_X8_parted_1 : fetch 201 1 = some (.invokestatic 335, 4, 196, 0, 0, 1418) := by decide +kernel
theorem i_X8_parted_4 : fetch 201 4 = some (.ifCond .eq 17, 7, 0, 0, 0, 0) := by decide +kernel
theorem i_X8_parted_7 : fetch 201 7 = some (.iload_n 2, 8, 0, 0, 0, 0) := by decide +kernel
theorem i_X8_parted_8 : fetch 201 8 = some (.invokestatic 335, 11, 196, 0, 0, 1418) := by decide +kernel
theorem i_X8_parted_11 : fetch 201 11 = some (.ifCond .eq 10, 14, 0, 0, 0, 0) := by decide +kernel
theorem i_X8_parted_14 : fetch 201 14 = some (.iload_n 3, 15, 0, 0, 0, 0) := by decide +kernel
theorem i_X8_parted_15 : fetch 201 15 = some (.invokestatic 335, 18, 196, 0, 0, 1418) := by decide +kernel
theorem i_X8_parted_18 : fetch 201 18 = some (.ifCond .ne 6, 21, 0, 0, 0, 0) := by decide +kernel
theorem i_X8_parted_21 : fetch 201 21 = some (.bipush (-2), 23, 0, 0, 0, 0) := by decide +kernel
theorem i_X8_parted_23 : fetch 201 23 = some (.ireturn, 24, 0, 0, 0, 0) := by decide +kernel
theorem i_X8_parted_24 : fetch 201 24 = some (.iconst 0, 25, 0, 0, 0, 0) := by decide +kernel
theorem i_X8_parted_25 : fetch 201 25 = some (.istore 4, 27, 0, 0, 0, 0) := by decide +kernel
theorem i_X8_parted_27 : fetch 201 27 = some (.iload 4, 29, 0, 0, 0, 0) := by decide +kernel
theorem i_X8_parted_29 : fetch 201 29 = some (.bipush 64, 31, 0, 0, 0, 0) := by decide +kernel
theorem i_X8_parted_31 : fetch 201 31 = some (.if_icmp .gt 32, 34, 0, 0, 0, 0) := by decide +kernel
theorem i_X8_parted_34 : fetch 201 34 = some (.iload_n 1, 35, 0, 0, 0, 0) := by decide +kernel
theorem i_X8_parted_35 : fetch 201 35 = some (.iload 4, 37, 0, 0, 0, 0) := by decide +kernel
theorem i_X8_parted_37 : fetch 201 37 = some (.invokestatic 338, 40, 198, 0, 0, 1421) := by decide +kernel
theorem i_X8_parted_40 : fetch 201 40 = some (.iload_n 2, 41, 0, 0, 0, 0) := by decide +kernel
theorem i_X8_parted_41 : fetch 201 41 = some (.iload 4, 43, 0, 0, 0, 0) := by decide +kernel
theorem i_X8_parted_43 : fetch 201 43 = some (.invokestatic 338, 46, 198, 0, 0, 1421) := by decide +kernel
theorem i_X8_parted_46 : fetch 201 46 = some (.isub, 47, 0, 0, 0, 0) := by decide +kernel
theorem i_X8_parted_47 : fetch 201 47 = some (.invokestatic 326, 50, 129, 0, 0, 1399) := by decide +kernel
theorem i_X8_parted_50 : fetch 201 50 = some (.iload_n 3, 51, 0, 0, 0, 0) := by decide +kernel
theorem i_X8_parted_51 : fetch 201 51 = some (.if_icmp .lt 6, 54, 0, 0, 0, 0) := by decide +kernel
theorem i_X8_parted_54 : fetch 201 54 = some (.iload 4, 56, 0, 0, 0, 0) := by decide +kernel
theorem i_X8_parted_56 : fetch 201 56 = some (.ireturn, 57, 0, 0, 0, 0) := by decide +kernel
theorem i_X8_parted_57 : fetch 201 57 = some (.iinc 4 1, 60, 0, 0, 0, 0) := by decide +kernel
theorem i_X8_parted_60 : fetch 201 60 = some (.goto (-33), 63, 0, 0, 0, 0) := by decide +kernel
theorem i_X8_parted_63 : fetch 201 63 = some (.iconst (-1), 64, 0, 0, 0, 0) := by decide +kernel
theorem i_X8_parted_64 : fetch 201 64 = some (.ireturn, 65, 0, 0, 0, 0) := by decide +kernel
def f_X8_parted_27 (n : Nat) : Nat → Int32 → Int32 → Int32 → Int32 → Hp → Option (Int32 × Hp)
  | 0, _, _, _, _, _ => none
  | m + 1, v1, v2, v3, v4, h =>
    if 64 < v4 then
      some ((-1), h)
    else
      (f_X8_behind n v1 v4 h).bind fun o2 =>
      (f_X8_behind n v2 v4 o2.2).bind fun o3 =>
      (f_X8_size (o2.1 - o3.1) o3.2).bind fun o4 =>
      if o4.1 < v3 then
        (f_X8_parted_27 n m) v1 v2 v3 (v4 + 1) o4.2
      else
        some (v4, o4.2)
set_option maxRecDepth 100000 in
set_option maxHeartbeats 4000000 in
theorem r_X8_parted_27 {X : Nat → Int32} {d : Nat} (hd : 2 ≤ (d + 1)) {n : Nat} : ∀ (m : Nat) (v1 : Int32) (v2 : Int32) (v3 : Int32) (v4 : Int32) (d0 : Nat) (h : Hp) (o : (Int32 × Hp)), f_X8_parted_27 n m v1 v2 v3 v4 h = some o → Run X (d + 1) 201 27 [some (.ref d0), some (.int v1), some (.int v2), some (.int v3), some (.int v4)] [] h (some (.int o.1), o.2) := by
  intro m
  induction m with
  | zero => intro v1 v2 v3 v4 d0 h o hf; cases hf
  | succ m ih =>
    intro v1 v2 v3 v4 d0 h o hf
    rw [f_X8_parted_27] at hf
    refine rs_iload i_X8_parted_27 rfl ?_
    refine rs_bipush i_X8_parted_29 (v := 64) (by decide) ?_
    by_cases c1 : 64 < v4
    · replace hf := (if_pos c1).symm.trans hf
      refine rs_icT i_X8_parted_31 (ct_gt c1) (tg := 63) (by decide) ?_
      refine rs_iconst i_X8_parted_63 (v := (-1)) (by decide) ?_
      have hf := Option.some.inj hf
      subst hf
      exact rs_iret i_X8_parted_64 m_X8_parted rfl
    · replace hf := (if_neg c1).symm.trans hf
      refine rs_icF i_X8_parted_31 (cf_gt c1) ?_
      refine rs_iload_n i_X8_parted_34 rfl ?_
      refine rs_iload i_X8_parted_35 rfl ?_
      obtain ⟨o2, e2, hf⟩ := bind_some hf
      refine rs_inS i_X8_parted_37 (by decide) m_X8_behind rfl (As := [.int v1, .int v4]) (rest := []) rfl rfl (Nat.le_of_ble_eq_true rfl) (c_X8_behind (by omega) e2) (st' := [.int o2.1]) rfl ?_
      refine rs_iload_n i_X8_parted_40 rfl ?_
      refine rs_iload i_X8_parted_41 rfl ?_
      obtain ⟨o3, e3, hf⟩ := bind_some hf
      refine rs_inS i_X8_parted_43 (by decide) m_X8_behind rfl (As := [.int v2, .int v4]) (rest := [.int o2.1]) rfl rfl (Nat.le_of_ble_eq_true rfl) (c_X8_behind (by omega) e3) (st' := [.int o3.1, .int o2.1]) rfl ?_
      refine rs_isub i_X8_parted_46 ?_
      obtain ⟨o4, e4, hf⟩ := bind_some hf
      refine rs_inS i_X8_parted_47 (by decide) m_X8_size rfl (As := [.int (o2.1 - o3.1)]) (rest := []) rfl rfl (Nat.le_of_ble_eq_true rfl) (c_X8_size (by omega) e4) (st' := [.int o4.1]) rfl ?_
      refine rs_iload_n i_X8_parted_50 rfl ?_
      by_cases c5 : o4.1 < v3
      · replace hf := (if_pos c5).symm.trans hf
        refine rs_icT i_X8_parted_51 (ct_lt c5) (tg := 57) (by decide) ?_
        refine rs_iinc i_X8_parted_57 rfl (v := v4 + 1) rfl (Nat.le_of_ble_eq_true rfl) (lv' := [some (.ref d0), some (.int v1), some (.int v2), some (.int v3), some (.int (v4 + 1))]) rfl ?_
        refine rs_goto i_X8_parted_60 (tg := 27) (by decide) ?_
        exact ih _ _ _ _ _ _ _ hf
      · replace hf := (if_neg c5).symm.trans hf
        refine rs_icF i_X8_parted_51 (cf_lt c5) ?_
        refine rs_iload i_X8_parted_54 rfl ?_
        have hf := Option.some.inj hf
        subst hf
        exact rs_iret i_X8_parted_56 m_X8_parted rfl
def f_X8_parted_0 (n : Nat) (v1 : Int32) (v2 : Int32) (v3 : Int32) (h : Hp) : Option (Int32 × Hp) :=
  (f_X8_isSpot v1 h).bind fun o1 =>
  if o1.1 = 0 then
    some ((-2), o1.2)
  else
    (f_X8_isSpot v2 o1.2).bind fun o3 =>
    if o3.1 = 0 then
      some ((-2), o3.2)
    else
      (f_X8_isSpot v3 o3.2).bind fun o5 =>
      if o5.1 ≠ 0 then
        f_X8_parted_27 n n v1 v2 v3 0 o5.2
      else
        some ((-2), o5.2)
set_option maxRecDepth 100000 in
set_option maxHeartbeats 4000000 in
theorem r_X8_parted_0 {X : Nat → Int32} {d : Nat} (hd : 2 ≤ (d + 1)) {n : Nat} {v1 : Int32} {v2 : Int32} {v3 : Int32} {d0 : Nat} {h : Hp} {o : (Int32 × Hp)} (hf : f_X8_parted_0 n v1 v2 v3 h = some o) : Run X (d + 1) 201 0 [some (.ref d0), some (.int v1), some (.int v2), some (.int v3), none] [] h (some (.int o.1), o.2) := by
  unfold f_X8_parted_0 at hf
  refine rs_iload_n i_X8_parted_0 rfl ?_
  obtain ⟨o1, e1, hf⟩ := bind_some hf
  refine rs_inS i_X8_parted_1 (by decide) m_X8_isSpot rfl (As := [.int v1]) (rest := []) rfl rfl (Nat.le_of_ble_eq_true rfl) (c_X8_isSpot (by omega) e1) (st' := [.int o1.1]) rfl ?_
  by_cases c2 : o1.1 = 0
  · replace hf := (if_pos c2).symm.trans hf
    refine rs_ifT i_X8_parted_4 (ct_eq c2) (tg := 21) (by decide) ?_
    refine rs_bipush i_X8_parted_21 (v := (-2)) (by decide) ?_
    have hf := Option.some.inj hf
    subst hf
    exact rs_iret i_X8_parted_23 m_X8_parted rfl
  · replace hf := (if_neg c2).symm.trans hf
    refine rs_ifF i_X8_parted_4 (cf_eq c2) ?_
    refine rs_iload_n i_X8_parted_7 rfl ?_
    obtain ⟨o3, e3, hf⟩ := bind_some hf
    refine rs_inS i_X8_parted_8 (by decide) m_X8_isSpot rfl (As := [.int v2]) (rest := []) rfl rfl (Nat.le_of_ble_eq_true rfl) (c_X8_isSpot (by omega) e3) (st' := [.int o3.1]) rfl ?_
    by_cases c4 : o3.1 = 0
    · replace hf := (if_pos c4).symm.trans hf
      refine rs_ifT i_X8_parted_11 (ct_eq c4) (tg := 21) (by decide) ?_
      refine rs_bipush i_X8_parted_21 (v := (-2)) (by decide) ?_
      have hf := Option.some.inj hf
      subst hf
      exact rs_iret i_X8_parted_23 m_X8_parted rfl
    · replace hf := (if_neg c4).symm.trans hf
      refine rs_ifF i_X8_parted_11 (cf_eq c4) ?_
      refine rs_iload_n i_X8_parted_14 rfl ?_
      obtain ⟨o5, e5, hf⟩ := bind_some hf
      refine rs_inS i_X8_parted_15 (by decide) m_X8_isSpot rfl (As := [.int v3]) (rest := []) rfl rfl (Nat.le_of_ble_eq_true rfl) (c_X8_isSpot (by omega) e5) (st' := [.int o5.1]) rfl ?_
      by_cases c6 : o5.1 ≠ 0
      · replace hf := (if_pos c6).symm.trans hf
        refine rs_ifT i_X8_parted_18 (ct_ne c6) (tg := 24) (by decide) ?_
        refine rs_iconst i_X8_parted_24 (v := 0) (by decide) ?_
        refine rs_istore i_X8_parted_25 (Nat.le_of_ble_eq_true rfl) (lv' := [some (.ref d0), some (.int v1), some (.int v2), some (.int v3), some (.int 0)]) rfl ?_
        exact r_X8_parted_27 hd _ _ _ _ _ _ _ _ hf
      · replace hf := (if_neg c6).symm.trans hf
        refine rs_ifF i_X8_parted_18 (cf_ne c6) ?_
        refine rs_bipush i_X8_parted_21 (v := (-2)) (by decide) ?_
        have hf := Option.some.inj hf
        subst hf
        exact rs_iret i_X8_parted_23 m_X8_parted rfl
def f_X8_parted (n : Nat) (v0 : Nat) (v1 : Int32) (v2 : Int32) (v3 : Int32) (h : Hp) : Option (Int32 × Hp) := f_X8_parted_0 n v1 v2 v3 h
theorem c_X8_parted {X : Nat → Int32} {d : Nat} (hd : 2 ≤ d) {n : Nat} {v0 : Nat} {v1 : Int32} {v2 : Int32} {v3 : Int32} {h : Hp} {o : (Int32 × Hp)} (hf : f_X8_parted n v0 v1 v2 v3 h = some o) : Calls X d 201 [.ref v0, .int v1, .int v2, .int v3] h (some (.int o.1), o.2) := by
  obtain ⟨d, rfl⟩ : ∃ z, d = z + 1 := ⟨d - 1, by omega⟩
  exact ⟨_, rfl, r_X8_parted_0 hd hf⟩
theorem i_X8_round_0 : fetch 202 0 = some (.iload_n 1, 1, 0, 0, 0, 0) := by decide +kernel
theorem i_X8_round_1 : fetch 202 1 = some (.invokestatic 335, 4, 196, 0, 0, 1418) := by decide +kernel
theorem i_X8_round_4 : fetch 202 4 = some (.ifCond .ne 6, 7, 0, 0, 0, 0) := by decide +kernel
theorem i_X8_round_7 : fetch 202 7 = some (.bipush (-2), 9, 0, 0, 0, 0) := by decide +kernel
theorem i_X8_round_9 : fetch 202 9 = some (.ireturn, 10, 0, 0, 0, 0) := by decide +kernel
theorem i_X8_round_10 : fetch 202 10 = some (.iconst 1, 11, 0, 0, 0, 0) := by decide +kernel
theorem i_X8_round_11 : fetch 202 11 = some (.istore_n 2, 12, 0, 0, 0, 0) := by decide +kernel
theorem i_X8_round_12 : fetch 202 12 = some (.iload_n 2, 13, 0, 0, 0, 0) := by decide +kernel
theorem i_X8_round_13 : fetch 202 13 = some (.bipush 64, 15, 0, 0, 0, 0) := by decide +kernel
theorem i_X8_round_15 : fetch 202 15 = some (.if_icmp .gt 20, 18, 0, 0, 0, 0) := by decide +kernel
theorem i_X8_round_18 : fetch 202 18 = some (.iload_n 1, 19, 0, 0, 0, 0) := by decide +kernel
theorem i_X8_round_19 : fetch 202 19 = some (.iload_n 2, 20, 0, 0, 0, 0) := by decide +kernel
theorem i_X8_round_20 : fetch 202 20 = some (.invokestatic 338, 23, 198, 0, 0, 1421) := by decide +kernel
theorem i_X8_round_23 : fetch 202 23 = some (.iload_n 1, 24, 0, 0, 0, 0) := by decide +kernel
theorem i_X8_round_24 : fetch 202 24 = some (.if_icmp .ne 5, 27, 0, 0, 0, 0) := by decide +kernel
theorem i_X8_round_27 : fetch 202 27 = some (.iload_n 2, 28, 0, 0, 0, 0) := by decide +kernel
theorem i_X8_round_28 : fetch 202 28 = some (.ireturn, 29, 0, 0, 0, 0) := by decide +kernel
theorem i_X8_round_29 : fetch 202 29 = some (.iinc 2 1, 32, 0, 0, 0, 0) := by decide +kernel
theorem i_X8_round_32 : fetch 202 32 = some (.goto (-20), 35, 0, 0, 0, 0) := by decide +kernel
theorem i_X8_round_35 : fetch 202 35 = some (.iconst (-1), 36, 0, 0, 0, 0) := by decide +kernel
theorem i_X8_round_36 : fetch 202 36 = some (.ireturn, 37, 0, 0, 0, 0) := by decide +kernel
def f_X8_round_12 (n : Nat) : Nat → Int32 → Int32 → Hp → Option (Int32 × Hp)
  | 0, _, _, _ => none
  | m + 1, v1, v2, h =>
    if 64 < v2 then
      some ((-1), h)
    else
      (f_X8_behind n v1 v2 h).bind fun o2 =>
      if o2.1 ≠ v1 then
        (f_X8_round_12 n m) v1 (v2 + 1) o2.2
      else
        some (v2, o2.2)
set_option maxRecDepth 100000 in
set_option maxHeartbeats 4000000 in
theorem r_X8_round_12 {X : Nat → Int32} {d : Nat} (hd : 2 ≤ (d + 1)) {n : Nat} : ∀ (m : Nat) (v1 : Int32) (v2 : Int32) (d0 : Nat) (h : Hp) (o : (Int32 × Hp)), f_X8_round_12 n m v1 v2 h = some o → Run X (d + 1) 202 12 [some (.ref d0), some (.int v1), some (.int v2)] [] h (some (.int o.1), o.2) := by
  intro m
  induction m with
  | zero => intro v1 v2 d0 h o hf; cases hf
  | succ m ih =>
    intro v1 v2 d0 h o hf
    rw [f_X8_round_12] at hf
    refine rs_iload_n i_X8_round_12 rfl ?_
    refine rs_bipush i_X8_round_13 (v := 64) (by decide) ?_
    by_cases c1 : 64 < v2
    · replace hf := (if_pos c1).symm.trans hf
      refine rs_icT i_X8_round_15 (ct_gt c1) (tg := 35) (by decide) ?_
      refine rs_iconst i_X8_round_35 (v := (-1)) (by decide) ?_
      have hf := Option.some.inj hf
      subst hf
      exact rs_iret i_X8_round_36 m_X8_round rfl
    · replace hf := (if_neg c1).symm.trans hf
      refine rs_icF i_X8_round_15 (cf_gt c1) ?_
      refine rs_iload_n i_X8_round_18 rfl ?_
      refine rs_iload_n i_X8_round_19 rfl ?_
      obtain ⟨o2, e2, hf⟩ := bind_some hf
      refine rs_inS i_X8_round_20 (by decide) m_X8_behind rfl (As := [.int v1, .int v2]) (rest := []) rfl rfl (Nat.le_of_ble_eq_true rfl) (c_X8_behind (by omega) e2) (st' := [.int o2.1]) rfl ?_
      refine rs_iload_n i_X8_round_23 rfl ?_
      by_cases c3 : o2.1 ≠ v1
      · replace hf := (if_pos c3).symm.trans hf
        refine rs_icT i_X8_round_24 (ct_ne c3) (tg := 29) (by decide) ?_
        refine rs_iinc i_X8_round_29 rfl (v := v2 + 1) rfl (Nat.le_of_ble_eq_true rfl) (lv' := [some (.ref d0), some (.int v1), some (.int (v2 + 1))]) rfl ?_
        refine rs_goto i_X8_round_32 (tg := 12) (by decide) ?_
        exact ih _ _ _ _ _ hf
      · replace hf := (if_neg c3).symm.trans hf
        refine rs_icF i_X8_round_24 (cf_ne c3) ?_
        refine rs_iload_n i_X8_round_27 rfl ?_
        have hf := Option.some.inj hf
        subst hf
        exact rs_iret i_X8_round_28 m_X8_round rfl
def f_X8_round_0 (n : Nat) (v1 : Int32) (h : Hp) : Option (Int32 × Hp) :=
  (f_X8_isSpot v1 h).bind fun o1 =>
  if o1.1 ≠ 0 then
    f_X8_round_12 n n v1 1 o1.2
  else
    some ((-2), o1.2)
set_option maxRecDepth 100000 in
set_option maxHeartbeats 4000000 in
theorem r_X8_round_0 {X : Nat → Int32} {d : Nat} (hd : 2 ≤ (d + 1)) {n : Nat} {v1 : Int32} {d0 : Nat} {h : Hp} {o : (Int32 × Hp)} (hf : f_X8_round_0 n v1 h = some o) : Run X (d + 1) 202 0 [some (.ref d0), some (.int v1), none] [] h (some (.int o.1), o.2) := by
  unfold f_X8_round_0 at hf
  refine rs_iload_n i_X8_round_0 rfl ?_
  obtain ⟨o1, e1, hf⟩ := bind_some hf
  refine rs_inS i_X8_round_1 (by decide) m_X8_isSpot rfl (As := [.int v1]) (rest := []) rfl rfl (Nat.le_of_ble_eq_true rfl) (c_X8_isSpot (by omega) e1) (st' := [.int o1.1]) rfl ?_
  by_cases c2 : o1.1 ≠ 0
  · replace hf := (if_pos c2).symm.trans hf
    refine rs_ifT i_X8_round_4 (ct_ne c2) (tg := 10) (by decide) ?_
    refine rs_iconst i_X8_round_10 (v := 1) (by decide) ?_
    refine rs_istore_n i_X8_round_11 (Nat.le_of_ble_eq_true rfl) (lv' := [some (.ref d0), some (.int v1), some (.int 1)]) rfl ?_
    exact r_X8_round_12 hd _ _ _ _ _ _ hf
  · replace hf := (if_neg c2).symm.trans hf
    refine rs_ifF i_X8_round_4 (cf_ne c2) ?_
    refine rs_bipush i_X8_round_7 (v := (-2)) (by decide) ?_
    have hf := Option.some.inj hf
    subst hf
    exact rs_iret i_X8_round_9 m_X8_round rfl
def f_X8_round (n : Nat) (v0 : Nat) (v1 : Int32) (h : Hp) : Option (Int32 × Hp) := f_X8_round_0 n v1 h
theorem c_X8_round {X : Nat → Int32} {d : Nat} (hd : 2 ≤ d) {n : Nat} {v0 : Nat} {v1 : Int32} {h : Hp} {o : (Int32 × Hp)} (hf : f_X8_round n v0 v1 h = some o) : Calls X d 202 [.ref v0, .int v1] h (some (.int o.1), o.2) := by
  obtain ⟨d, rfl⟩ : ∃ z, d = z + 1 := ⟨d - 1, by omega⟩
  exact ⟨_, rfl, r_X8_round_0 hd hf⟩
theorem i_X8_colours_0 : fetch 203 0 = some (.iload_n 1, 1, 0, 0, 0, 0) := by decide +kernel
theorem i_X8_colours_1 : fetch 203 1 = some (.iconst 0, 2, 0, 0, 0, 0) := by decide +kernel
theorem i_X8_colours_2 : fetch 203 2 = some (.ldc_w 341, 5, 0, 0, 65535, 1443) := by decide +kernel
theorem i_X8_colours_5 : fetch 203 5 = some (.invokestatic 112, 8, 126, 0, 0, 970) := by decide +kernel
theorem i_X8_colours_8 : fetch 203 8 = some (.ifCond .eq 22, 11, 0, 0, 0, 0) := by decide +kernel
theorem i_X8_colours_11 : fetch 203 11 = some (.iload_n 2, 12, 0, 0, 0, 0) := by decide +kernel
theorem i_X8_colours_12 : fetch 203 12 = some (.iconst 0, 13, 0, 0, 0, 0) := by decide +kernel
theorem i_X8_colours_13 : fetch 203 13 = some (.bipush 10, 15, 0, 0, 0, 0) := by decide +kernel
theorem i_X8_colours_15 : fetch 203 15 = some (.invokestatic 112, 18, 126, 0, 0, 970) := by decide +kernel
theorem i_X8_colours_18 : fetch 203 18 = some (.ifCond .eq 12, 21, 0, 0, 0, 0) := by decide +kernel
theorem i_X8_colours_21 : fetch 203 21 = some (.iload_n 3, 22, 0, 0, 0, 0) := by decide +kernel
theorem i_X8_colours_22 : fetch 203 22 = some (.iconst 0, 23, 0, 0, 0, 0) := by decide +kernel
theorem i_X8_colours_23 : fetch 203 23 = some (.iconst 2, 24, 0, 0, 0, 0) := by decide +kernel
theorem i_X8_colours_24 : fetch 203 24 = some (.invokestatic 112, 27, 126, 0, 0, 970) := by decide +kernel
theorem i_X8_colours_27 : fetch 203 27 = some (.ifCond .ne 6, 30, 0, 0, 0, 0) := by decide +kernel
theorem i_X8_colours_30 : fetch 203 30 = some (.bipush (-2), 32, 0, 0, 0, 0) := by decide +kernel
theorem i_X8_colours_32 : fetch 203 32 = some (.ireturn, 33, 0, 0, 0, 0) := by decide +kernel
theorem i_X8_colours_33 : fetch 203 33 = some (.iconst 0, 34, 0, 0, 0, 0) := by decide +kernel
theorem i_X8_colours_34 : fetch 203 34 = some (.istore 4, 36, 0, 0, 0, 0) := by decide +kernel
theorem i_X8_colours_36 : fetch 203 36 = some (.iload 4, 38, 0, 0, 0, 0) := by decide +kernel
theorem i_X8_colours_38 : fetch 203 38 = some (.bipush 16, 40, 0, 0, 0, 0) := by decide +kernel
theorem i_X8_colours_40 : fetch 203 40 = some (.if_icmp .ge 22, 43, 0, 0, 0, 0) := by decide +kernel
theorem i_X8_colours_43 : fetch 203 43 = some (.aload_n 0, 44, 0, 0, 0, 0) := by decide +kernel
theorem i_X8_colours_44 : fetch 203 44 = some (.getfield 99, 47, 8, 52, 0, 1061) := by decide +kernel
theorem i_X8_colours_47 : fetch 203 47 = some (.iload 4, 49, 0, 0, 0, 0) := by decide +kernel
theorem i_X8_colours_49 : fetch 203 49 = some (.iload_n 1, 50, 0, 0, 0, 0) := by decide +kernel
theorem i_X8_colours_50 : fetch 203 50 = some (.iload 4, 52, 0, 0, 0, 0) := by decide +kernel
theorem i_X8_colours_52 : fetch 203 52 = some (.ishr, 53, 0, 0, 0, 0) := by decide +kernel
theorem i_X8_colours_53 : fetch 203 53 = some (.iconst 1, 54, 0, 0, 0, 0) := by decide +kernel
theorem i_X8_colours_54 : fetch 203 54 = some (.iand, 55, 0, 0, 0, 0) := by decide +kernel
theorem i_X8_colours_55 : fetch 203 55 = some (.iastore, 56, 0, 0, 0, 0) := by decide +kernel
theorem i_X8_colours_56 : fetch 203 56 = some (.iinc 4 1, 59, 0, 0, 0, 0) := by decide +kernel
theorem i_X8_colours_59 : fetch 203 59 = some (.goto (-23), 62, 0, 0, 0, 0) := by decide +kernel
theorem i_X8_colours_62 : fetch 203 62 = some (.iconst 0, 63, 0, 0, 0, 0) := by decide +kernel
theorem i_X8_colours_63 : fetch 203 63 = some (.istore 4, 65, 0, 0, 0, 0) := by decide +kernel
theorem i_X8_colours_65 : fetch 203 65 = some (.iload 4, 67, 0, 0, 0, 0) := by decide +kernel
theorem i_X8_colours_67 : fetch 203 67 = some (.iload_n 2, 68, 0, 0, 0, 0) := by decide +kernel
theorem i_X8_colours_68 : fetch 203 68 = some (.if_icmp .ge 84, 71, 0, 0, 0, 0) := by decide +kernel
theorem i_X8_colours_71 : fetch 203 71 = some (.iconst 0, 72, 0, 0, 0, 0) := by decide +kernel
theorem i_X8_colours_72 : fetch 203 72 = some (.istore 5, 74, 0, 0, 0, 0) := by decide +kernel
theorem i_X8_colours_74 : fetch 203 74 = some (.iload 5, 76, 0, 0, 0, 0) := by decide +kernel
theorem i_X8_colours_76 : fetch 203 76 = some (.bipush 16, 78, 0, 0, 0, 0) := by decide +kernel
theorem i_X8_colours_78 : fetch 203 78 = some (.if_icmp .ge 38, 81, 0, 0, 0, 0) := by decide +kernel
theorem i_X8_colours_81 : fetch 203 81 = some (.aload_n 0, 82, 0, 0, 0, 0) := by decide +kernel
theorem i_X8_colours_82 : fetch 203 82 = some (.getfield 102, 85, 8, 53, 0, 1062) := by decide +kernel
theorem i_X8_colours_85 : fetch 203 85 = some (.iload 5, 87, 0, 0, 0, 0) := by decide +kernel
theorem i_X8_colours_87 : fetch 203 87 = some (.aload_n 0, 88, 0, 0, 0, 0) := by decide +kernel
theorem i_X8_colours_88 : fetch 203 88 = some (.getfield 99, 91, 8, 52, 0, 1061) := by decide +kernel
theorem i_X8_colours_91 : fetch 203 91 = some (.iload 5, 93, 0, 0, 0, 0) := by decide +kernel
theorem i_X8_colours_93 : fetch 203 93 = some (.iconst 2, 94, 0, 0, 0, 0) := by decide +kernel
theorem i_X8_colours_94 : fetch 203 94 = some (.idiv, 95, 0, 0, 0, 0) := by decide +kernel
theorem i_X8_colours_95 : fetch 203 95 = some (.iaload, 96, 0, 0, 0, 0) := by decide +kernel
theorem i_X8_colours_96 : fetch 203 96 = some (.aload_n 0, 97, 0, 0, 0, 0) := by decide +kernel
theorem i_X8_colours_97 : fetch 203 97 = some (.getfield 99, 100, 8, 52, 0, 1061) := by decide +kernel
theorem i_X8_colours_100 : fetch 203 100 = some (.bipush 15, 102, 0, 0, 0, 0) := by decide +kernel
theorem i_X8_colours_102 : fetch 203 102 = some (.iload 5, 104, 0, 0, 0, 0) := by decide +kernel
theorem i_X8_colours_104 : fetch 203 104 = some (.iconst 2, 105, 0, 0, 0, 0) := by decide +kernel
theorem i_X8_colours_105 : fetch 203 105 = some (.idiv, 106, 0, 0, 0, 0) := by decide +kernel
theorem i_X8_colours_106 : fetch 203 106 = some (.isub, 107, 0, 0, 0, 0) := by decide +kernel
theorem i_X8_colours_107 : fetch 203 107 = some (.iaload, 108, 0, 0, 0, 0) := by decide +kernel
theorem i_X8_colours_108 : fetch 203 108 = some (.iadd, 109, 0, 0, 0, 0) := by decide +kernel
theorem i_X8_colours_109 : fetch 203 109 = some (.iastore, 110, 0, 0, 0, 0) := by decide +kernel
theorem i_X8_colours_110 : fetch 203 110 = some (.iinc 5 1, 113, 0, 0, 0, 0) := by decide +kernel
theorem i_X8_colours_113 : fetch 203 113 = some (.goto (-39), 116, 0, 0, 0, 0) := by decide +kernel
theorem i_X8_colours_116 : fetch 203 116 = some (.iconst 0, 117, 0, 0, 0, 0) := by decide +kernel
theorem i_X8_colours_117 : fetch 203 117 = some (.istore 5, 119, 0, 0, 0, 0) := by decide +kernel
theorem i_X8_colours_119 : fetch 203 119 = some (.iload 5, 121, 0, 0, 0, 0) := by decide +kernel
theorem i_X8_colours_121 : fetch 203 121 = some (.bipush 16, 123, 0, 0, 0, 0) := by decide +kernel
theorem i_X8_colours_123 : fetch 203 123 = some (.if_icmp .ge 23, 126, 0, 0, 0, 0) := by decide +kernel
theorem i_X8_colours_126 : fetch 203 126 = some (.aload_n 0, 127, 0, 0, 0, 0) := by decide +kernel
theorem i_X8_colours_127 : fetch 203 127 = some (.getfield 99, 130, 8, 52, 0, 1061) := by decide +kernel
theorem i_X8_colours_130 : fetch 203 130 = some (.iload 5, 132, 0, 0, 0, 0) := by decide +kernel
theorem i_X8_colours_132 : fetch 203 132 = some (.aload_n 0, 133, 0, 0, 0, 0) := by decide +kernel
theorem i_X8_colours_133 : fetch 203 133 = some (.getfield 102, 136, 8, 53, 0, 1062) := by decide +kernel
theorem i_X8_colours_136 : fetch 203 136 = some (.iload 5, 138, 0, 0, 0, 0) := by decide +kernel
theorem i_X8_colours_138 : fetch 203 138 = some (.iaload, 139, 0, 0, 0, 0) := by decide +kernel
theorem i_X8_colours_139 : fetch 203 139 = some (.iastore, 140, 0, 0, 0, 0) := by decide +kernel
theorem i_X8_colours_140 : fetch 203 140 = some (.iinc 5 1, 143, 0, 0, 0, 0) := by decide +kernel
theorem i_X8_colours_143 : fetch 203 143 = some (.goto (-24), 146, 0, 0, 0, 0) := by decide +kernel
theorem i_X8_colours_146 : fetch 203 146 = some (.iinc 4 1, 149, 0, 0, 0, 0) := by decide +kernel
theorem i_X8_colours_149 : fetch 203 149 = some (.goto (-84), 152, 0, 0, 0, 0) := by decide +kernel
theorem i_X8_colours_152 : fetch 203 152 = some (.aload_n 0, 153, 0, 0, 0, 0) := by decide +kernel
theorem i_X8_colours_153 : fetch 203 153 = some (.getfield 99, 156, 8, 52, 0, 1061) := by decide +kernel
theorem i_X8_colours_156 : fetch 203 156 = some (.iconst 0, 157, 0, 0, 0, 0) := by decide +kernel
theorem i_X8_colours_157 : fetch 203 157 = some (.iaload, 158, 0, 0, 0, 0) := by decide +kernel
theorem i_X8_colours_158 : fetch 203 158 = some (.istore 4, 160, 0, 0, 0, 0) := by decide +kernel
theorem i_X8_colours_160 : fetch 203 160 = some (.aload_n 0, 161, 0, 0, 0, 0) := by decide +kernel
theorem i_X8_colours_161 : fetch 203 161 = some (.getfield 99, 164, 8, 52, 0, 1061) := by decide +kernel
theorem i_X8_colours_164 : fetch 203 164 = some (.iconst 0, 165, 0, 0, 0, 0) := by decide +kernel
theorem i_X8_colours_165 : fetch 203 165 = some (.iaload, 166, 0, 0, 0, 0) := by decide +kernel
theorem i_X8_colours_166 : fetch 203 166 = some (.istore 5, 168, 0, 0, 0, 0) := by decide +kernel
theorem i_X8_colours_168 : fetch 203 168 = some (.iconst 0, 169, 0, 0, 0, 0) := by decide +kernel
theorem i_X8_colours_169 : fetch 203 169 = some (.istore 6, 171, 0, 0, 0, 0) := by decide +kernel
theorem i_X8_colours_171 : fetch 203 171 = some (.iconst 0, 172, 0, 0, 0, 0) := by decide +kernel
theorem i_X8_colours_172 : fetch 203 172 = some (.istore 7, 174, 0, 0, 0, 0) := by decide +kernel
theorem i_X8_colours_174 : fetch 203 174 = some (.iload 7, 176, 0, 0, 0, 0) := by decide +kernel
theorem i_X8_colours_176 : fetch 203 176 = some (.bipush 16, 178, 0, 0, 0, 0) := by decide +kernel
theorem i_X8_colours_178 : fetch 203 178 = some (.if_icmp .ge 94, 181, 0, 0, 0, 0) := by decide +kernel
theorem i_X8_colours_181 : fetch 203 181 = some (.aload_n 0, 182, 0, 0, 0, 0) := by decide +kernel
theorem i_X8_colours_182 : fetch 203 182 = some (.getfield 99, 185, 8, 52, 0, 1061) := by decide +kernel
theorem i_X8_colours_185 : fetch 203 185 = some (.iload 7, 187, 0, 0, 0, 0) := by decide +kernel
theorem i_X8_colours_187 : fetch 203 187 = some (.iaload, 188, 0, 0, 0, 0) := by decide +kernel
theorem i_X8_colours_188 : fetch 203 188 = some (.iload 4, 190, 0, 0, 0, 0) := by decide +kernel
theorem i_X8_colours_190 : fetch 203 190 = some (.if_icmp .ge 13, 193, 0, 0, 0, 0) := by decide +kernel
theorem i_X8_colours_193 : fetch 203 193 = some (.aload_n 0, 194, 0, 0, 0, 0) := by decide +kernel
theorem i_X8_colours_194 : fetch 203 194 = some (.getfield 99, 197, 8, 52, 0, 1061) := by decide +kernel
theorem i_X8_colours_197 : fetch 203 197 = some (.iload 7, 199, 0, 0, 0, 0) := by decide +kernel
theorem i_X8_colours_199 : fetch 203 199 = some (.iaload, 200, 0, 0, 0, 0) := by decide +kernel
theorem i_X8_colours_200 : fetch 203 200 = some (.goto 5, 203, 0, 0, 0, 0) := by decide +kernel
theorem i_X8_colours_203 : fetch 203 203 = some (.iload 4, 205, 0, 0, 0, 0) := by decide +kernel
theorem i_X8_colours_205 : fetch 203 205 = some (.istore 4, 207, 0, 0, 0, 0) := by decide +kernel
theorem i_X8_colours_207 : fetch 203 207 = some (.aload_n 0, 208, 0, 0, 0, 0) := by decide +kernel
theorem i_X8_colours_208 : fetch 203 208 = some (.getfield 99, 211, 8, 52, 0, 1061) := by decide +kernel
theorem i_X8_colours_211 : fetch 203 211 = some (.iload 7, 213, 0, 0, 0, 0) := by decide +kernel
theorem i_X8_colours_213 : fetch 203 213 = some (.iaload, 214, 0, 0, 0, 0) := by decide +kernel
theorem i_X8_colours_214 : fetch 203 214 = some (.iload 5, 216, 0, 0, 0, 0) := by decide +kernel
theorem i_X8_colours_216 : fetch 203 216 = some (.if_icmp .le 13, 219, 0, 0, 0, 0) := by decide +kernel
theorem i_X8_colours_219 : fetch 203 219 = some (.aload_n 0, 220, 0, 0, 0, 0) := by decide +kernel
theorem i_X8_colours_220 : fetch 203 220 = some (.getfield 99, 223, 8, 52, 0, 1061) := by decide +kernel
theorem i_X8_colours_223 : fetch 203 223 = some (.iload 7, 225, 0, 0, 0, 0) := by decide +kernel
theorem i_X8_colours_225 : fetch 203 225 = some (.iaload, 226, 0, 0, 0, 0) := by decide +kernel
theorem i_X8_colours_226 : fetch 203 226 = some (.goto 5, 229, 0, 0, 0, 0) := by decide +kernel
theorem i_X8_colours_229 : fetch 203 229 = some (.iload 5, 231, 0, 0, 0, 0) := by decide +kernel
theorem i_X8_colours_231 : fetch 203 231 = some (.istore 5, 233, 0, 0, 0, 0) := by decide +kernel
theorem i_X8_colours_233 : fetch 203 233 = some (.iload 6, 235, 0, 0, 0, 0) := by decide +kernel
theorem i_X8_colours_235 : fetch 203 235 = some (.aload_n 0, 236, 0, 0, 0, 0) := by decide +kernel
theorem i_X8_colours_236 : fetch 203 236 = some (.getfield 99, 239, 8, 52, 0, 1061) := by decide +kernel
theorem i_X8_colours_239 : fetch 203 239 = some (.iload 7, 241, 0, 0, 0, 0) := by decide +kernel
theorem i_X8_colours_241 : fetch 203 241 = some (.iaload, 242, 0, 0, 0, 0) := by decide +kernel
theorem i_X8_colours_242 : fetch 203 242 = some (.ifCond .le 20, 245, 0, 0, 0, 0) := by decide +kernel
theorem i_X8_colours_245 : fetch 203 245 = some (.aload_n 0, 246, 0, 0, 0, 0) := by decide +kernel
theorem i_X8_colours_246 : fetch 203 246 = some (.getfield 99, 249, 8, 52, 0, 1061) := by decide +kernel
theorem i_X8_colours_249 : fetch 203 249 = some (.iload 7, 251, 0, 0, 0, 0) := by decide +kernel
theorem i_X8_colours_251 : fetch 203 251 = some (.iaload, 252, 0, 0, 0, 0) := by decide +kernel
theorem i_X8_colours_252 : fetch 203 252 = some (.iconst 1, 253, 0, 0, 0, 0) := by decide +kernel
theorem i_X8_colours_253 : fetch 203 253 = some (.iload_n 2, 254, 0, 0, 0, 0) := by decide +kernel
theorem i_X8_colours_254 : fetch 203 254 = some (.ishl, 255, 0, 0, 0, 0) := by decide +kernel
theorem i_X8_colours_255 : fetch 203 255 = some (.if_icmp .ge 7, 258, 0, 0, 0, 0) := by decide +kernel
theorem i_X8_colours_258 : fetch 203 258 = some (.iconst 1, 259, 0, 0, 0, 0) := by decide +kernel
theorem i_X8_colours_259 : fetch 203 259 = some (.goto 4, 262, 0, 0, 0, 0) := by decide +kernel
theorem i_X8_colours_262 : fetch 203 262 = some (.iconst 0, 263, 0, 0, 0, 0) := by decide +kernel
theorem i_X8_colours_263 : fetch 203 263 = some (.iadd, 264, 0, 0, 0, 0) := by decide +kernel
theorem i_X8_colours_264 : fetch 203 264 = some (.istore 6, 266, 0, 0, 0, 0) := by decide +kernel
theorem i_X8_colours_266 : fetch 203 266 = some (.iinc 7 1, 269, 0, 0, 0, 0) := by decide +kernel
theorem i_X8_colours_269 : fetch 203 269 = some (.goto (-95), 272, 0, 0, 0, 0) := by decide +kernel
theorem i_X8_colours_272 : fetch 203 272 = some (.iload_n 3, 273, 0, 0, 0, 0) := by decide +kernel
theorem i_X8_colours_273 : fetch 203 273 = some (.ifCond .ne 8, 276, 0, 0, 0, 0) := by decide +kernel
theorem i_X8_colours_276 : fetch 203 276 = some (.iload 4, 278, 0, 0, 0, 0) := by decide +kernel
theorem i_X8_colours_278 : fetch 203 278 = some (.goto 15, 281, 0, 0, 0, 0) := by decide +kernel
theorem i_X8_colours_281 : fetch 203 281 = some (.iload_n 3, 282, 0, 0, 0, 0) := by decide +kernel
theorem i_X8_colours_282 : fetch 203 282 = some (.iconst 1, 283, 0, 0, 0, 0) := by decide +kernel
theorem i_X8_colours_283 : fetch 203 283 = some (.if_icmp .ne 8, 286, 0, 0, 0, 0) := by decide +kernel
theorem i_X8_colours_286 : fetch 203 286 = some (.iload 5, 288, 0, 0, 0, 0) := by decide +kernel
theorem i_X8_colours_288 : fetch 203 288 = some (.goto 5, 291, 0, 0, 0, 0) := by decide +kernel
theorem i_X8_colours_291 : fetch 203 291 = some (.iload 6, 293, 0, 0, 0, 0) := by decide +kernel
theorem i_X8_colours_293 : fetch 203 293 = some (.ireturn, 294, 0, 0, 0, 0) := by decide +kernel
def f_X8_colours_263 (n : Nat) (K174 : Nat → Int32 → Int32 → Int32 → Int32 → Int32 → Int32 → Hp → Option (Int32 × Hp)) (v0 : Nat) (v2 : Int32) (v3 : Int32) (v4 : Int32) (v5 : Int32) (v7 : Int32) (s0 : Int32) (s1 : Int32) (h : Hp) : Option (Int32 × Hp) :=
  K174 v0 v2 v3 v4 v5 (s0 + s1) (v7 + 1) h
set_option maxRecDepth 100000 in
set_option maxHeartbeats 4000000 in
theorem r_X8_colours_263 {X : Nat → Int32} {d : Nat} (hd : 1 ≤ (d + 1)) {n : Nat} {K174 : Nat → Int32 → Int32 → Int32 → Int32 → Int32 → Int32 → Hp → Option (Int32 × Hp)} (HK174 : ∀ (v0 : Nat) (v2 : Int32) (v3 : Int32) (v4 : Int32) (v5 : Int32) (v6 : Int32) (v7 : Int32) (d1 : Int32) (h : Hp) (o : (Int32 × Hp)), K174 v0 v2 v3 v4 v5 v6 v7 h = some o → Run X (d + 1) 203 174 [some (.ref v0), some (.int d1), some (.int v2), some (.int v3), some (.int v4), some (.int v5), some (.int v6), some (.int v7)] [] h (some (.int o.1), o.2)) {v0 : Nat} {v2 : Int32} {v3 : Int32} {v4 : Int32} {v5 : Int32} {v7 : Int32} {s0 : Int32} {s1 : Int32} {d1 : Int32} {d6 : Int32} {h : Hp} {o : (Int32 × Hp)} (hf : f_X8_colours_263 n K174 v0 v2 v3 v4 v5 v7 s0 s1 h = some o) : Run X (d + 1) 203 263 [some (.ref v0), some (.int d1), some (.int v2), some (.int v3), some (.int v4), some (.int v5), some (.int d6), some (.int v7)] [.int s1, .int s0] h (some (.int o.1), o.2) := by
  unfold f_X8_colours_263 at hf
  refine rs_iadd i_X8_colours_263 ?_
  refine rs_istore i_X8_colours_264 (Nat.le_of_ble_eq_true rfl) (lv' := [some (.ref v0), some (.int d1), some (.int v2), some (.int v3), some (.int v4), some (.int v5), some (.int (s0 + s1)), some (.int v7)]) rfl ?_
  refine rs_iinc i_X8_colours_266 rfl (v := v7 + 1) rfl (Nat.le_of_ble_eq_true rfl) (lv' := [some (.ref v0), some (.int d1), some (.int v2), some (.int v3), some (.int v4), some (.int v5), some (.int (s0 + s1)), some (.int (v7 + 1))]) rfl ?_
  refine rs_goto i_X8_colours_269 (tg := 174) (by decide) ?_
  exact HK174 _ _ _ _ _ _ _ _ _ _ hf
def f_X8_colours_262 (n : Nat) (K174 : Nat → Int32 → Int32 → Int32 → Int32 → Int32 → Int32 → Hp → Option (Int32 × Hp)) (v0 : Nat) (v2 : Int32) (v3 : Int32) (v4 : Int32) (v5 : Int32) (v7 : Int32) (s0 : Int32) (h : Hp) : Option (Int32 × Hp) :=
  f_X8_colours_263 n K174 v0 v2 v3 v4 v5 v7 s0 0 h
set_option maxRecDepth 100000 in
set_option maxHeartbeats 4000000 in
theorem r_X8_colours_262 {X : Nat → Int32} {d : Nat} (hd : 1 ≤ (d + 1)) {n : Nat} {K174 : Nat → Int32 → Int32 → Int32 → Int32 → Int32 → Int32 → Hp → Option (Int32 × Hp)} (HK174 : ∀ (v0 : Nat) (v2 : Int32) (v3 : Int32) (v4 : Int32) (v5 : Int32) (v6 : Int32) (v7 : Int32) (d1 : Int32) (h : Hp) (o : (Int32 × Hp)), K174 v0 v2 v3 v4 v5 v6 v7 h = some o → Run X (d + 1) 203 174 [some (.ref v0), some (.int d1), some (.int v2), some (.int v3), some (.int v4), some (.int v5), some (.int v6), some (.int v7)] [] h (some (.int o.1), o.2)) {v0 : Nat} {v2 : Int32} {v3 : Int32} {v4 : Int32} {v5 : Int32} {v7 : Int32} {s0 : Int32} {d1 : Int32} {d6 : Int32} {h : Hp} {o : (Int32 × Hp)} (hf : f_X8_colours_262 n K174 v0 v2 v3 v4 v5 v7 s0 h = some o) : Run X (d + 1) 203 262 [some (.ref v0), some (.int d1), some (.int v2), some (.int v3), some (.int v4), some (.int v5), some (.int d6), some (.int v7)] [.int s0] h (some (.int o.1), o.2) := by
  unfold f_X8_colours_262 at hf
  refine rs_iconst i_X8_colours_262 (v := 0) (by decide) ?_
  exact r_X8_colours_263 hd HK174 hf
def f_X8_colours_231 (n : Nat) (K174 : Nat → Int32 → Int32 → Int32 → Int32 → Int32 → Int32 → Hp → Option (Int32 × Hp)) (v0 : Nat) (v2 : Int32) (v3 : Int32) (v4 : Int32) (v6 : Int32) (v7 : Int32) (s0 : Int32) (h : Hp) : Option (Int32 × Hp) :=
  if okO h v0 8 then
  (gR h v0 52).bind fun a2 =>
  if okI h a2 v7 then
  if (gI h a2 (ix v7)) ≤ 0 then
    f_X8_colours_262 n K174 v0 v2 v3 v4 s0 v7 v6 h
  else
    if (1 <<< (v2 &&& 31)) ≤ (gI h a2 (ix v7)) then
      f_X8_colours_262 n K174 v0 v2 v3 v4 s0 v7 v6 h
    else
      f_X8_colours_263 n K174 v0 v2 v3 v4 s0 v7 v6 1 h
  else none
  else none
set_option maxRecDepth 100000 in
set_option maxHeartbeats 4000000 in
theorem r_X8_colours_231 {X : Nat → Int32} {d : Nat} (hd : 1 ≤ (d + 1)) {n : Nat} {K174 : Nat → Int32 → Int32 → Int32 → Int32 → Int32 → Int32 → Hp → Option (Int32 × Hp)} (HK174 : ∀ (v0 : Nat) (v2 : Int32) (v3 : Int32) (v4 : Int32) (v5 : Int32) (v6 : Int32) (v7 : Int32) (d1 : Int32) (h : Hp) (o : (Int32 × Hp)), K174 v0 v2 v3 v4 v5 v6 v7 h = some o → Run X (d + 1) 203 174 [some (.ref v0), some (.int d1), some (.int v2), some (.int v3), some (.int v4), some (.int v5), some (.int v6), some (.int v7)] [] h (some (.int o.1), o.2)) {v0 : Nat} {v2 : Int32} {v3 : Int32} {v4 : Int32} {v6 : Int32} {v7 : Int32} {s0 : Int32} {d1 : Int32} {d5 : Int32} {h : Hp} {o : (Int32 × Hp)} (hf : f_X8_colours_231 n K174 v0 v2 v3 v4 v6 v7 s0 h = some o) : Run X (d + 1) 203 231 [some (.ref v0), some (.int d1), some (.int v2), some (.int v3), some (.int v4), some (.int d5), some (.int v6), some (.int v7)] [.int s0] h (some (.int o.1), o.2) := by
  unfold f_X8_colours_231 at hf
  refine rs_istore i_X8_colours_231 (Nat.le_of_ble_eq_true rfl) (lv' := [some (.ref v0), some (.int d1), some (.int v2), some (.int v3), some (.int v4), some (.int s0), some (.int v6), some (.int v7)]) rfl ?_
  refine rs_iload i_X8_colours_233 rfl ?_
  refine rs_aload_n i_X8_colours_235 rfl ?_
  obtain ⟨c1, hf⟩ := ite_some hf
  obtain ⟨a2, e2, hf⟩ := bind_some hf
  refine rs_getR i_X8_colours_236 (by decide) (by decide) c1 e2 ?_
  refine rs_iload i_X8_colours_239 rfl ?_
  obtain ⟨c3, hf⟩ := ite_some hf
  refine rs_iald i_X8_colours_241 c3 ?_
  by_cases c4 : (gI h a2 (ix v7)) ≤ 0
  · replace hf := (if_pos c4).symm.trans hf
    refine rs_ifT i_X8_colours_242 (ct_le c4) (tg := 262) (by decide) ?_
    exact r_X8_colours_262 hd HK174 hf
  · replace hf := (if_neg c4).symm.trans hf
    refine rs_ifF i_X8_colours_242 (cf_le c4) ?_
    refine rs_aload_n i_X8_colours_245 rfl ?_
    refine rs_getR i_X8_colours_246 (by decide) (by decide) c1 e2 ?_
    refine rs_iload i_X8_colours_249 rfl ?_
    refine rs_iald i_X8_colours_251 c3 ?_
    refine rs_iconst i_X8_colours_252 (v := 1) (by decide) ?_
    refine rs_iload_n i_X8_colours_253 rfl ?_
    refine rs_ishl i_X8_colours_254 ?_
    by_cases c5 : (1 <<< (v2 &&& 31)) ≤ (gI h a2 (ix v7))
    · replace hf := (if_pos c5).symm.trans hf
      refine rs_icT i_X8_colours_255 (ct_ge c5) (tg := 262) (by decide) ?_
      exact r_X8_colours_262 hd HK174 hf
    · replace hf := (if_neg c5).symm.trans hf
      refine rs_icF i_X8_colours_255 (cf_ge c5) ?_
      refine rs_iconst i_X8_colours_258 (v := 1) (by decide) ?_
      refine rs_goto i_X8_colours_259 (tg := 263) (by decide) ?_
      exact r_X8_colours_263 hd HK174 hf
def f_X8_colours_205 (n : Nat) (K174 : Nat → Int32 → Int32 → Int32 → Int32 → Int32 → Int32 → Hp → Option (Int32 × Hp)) (v0 : Nat) (v2 : Int32) (v3 : Int32) (v5 : Int32) (v6 : Int32) (v7 : Int32) (s0 : Int32) (h : Hp) : Option (Int32 × Hp) :=
  if okO h v0 8 then
  (gR h v0 52).bind fun a2 =>
  if okI h a2 v7 then
  if (gI h a2 (ix v7)) ≤ v5 then
    f_X8_colours_231 n K174 v0 v2 v3 s0 v6 v7 v5 h
  else
    f_X8_colours_231 n K174 v0 v2 v3 s0 v6 v7 (gI h a2 (ix v7)) h
  else none
  else none
set_option maxRecDepth 100000 in
set_option maxHeartbeats 4000000 in
theorem r_X8_colours_205 {X : Nat → Int32} {d : Nat} (hd : 1 ≤ (d + 1)) {n : Nat} {K174 : Nat → Int32 → Int32 → Int32 → Int32 → Int32 → Int32 → Hp → Option (Int32 × Hp)} (HK174 : ∀ (v0 : Nat) (v2 : Int32) (v3 : Int32) (v4 : Int32) (v5 : Int32) (v6 : Int32) (v7 : Int32) (d1 : Int32) (h : Hp) (o : (Int32 × Hp)), K174 v0 v2 v3 v4 v5 v6 v7 h = some o → Run X (d + 1) 203 174 [some (.ref v0), some (.int d1), some (.int v2), some (.int v3), some (.int v4), some (.int v5), some (.int v6), some (.int v7)] [] h (some (.int o.1), o.2)) {v0 : Nat} {v2 : Int32} {v3 : Int32} {v5 : Int32} {v6 : Int32} {v7 : Int32} {s0 : Int32} {d1 : Int32} {d4 : Int32} {h : Hp} {o : (Int32 × Hp)} (hf : f_X8_colours_205 n K174 v0 v2 v3 v5 v6 v7 s0 h = some o) : Run X (d + 1) 203 205 [some (.ref v0), some (.int d1), some (.int v2), some (.int v3), some (.int d4), some (.int v5), some (.int v6), some (.int v7)] [.int s0] h (some (.int o.1), o.2) := by
  unfold f_X8_colours_205 at hf
  refine rs_istore i_X8_colours_205 (Nat.le_of_ble_eq_true rfl) (lv' := [some (.ref v0), some (.int d1), some (.int v2), some (.int v3), some (.int s0), some (.int v5), some (.int v6), some (.int v7)]) rfl ?_
  refine rs_aload_n i_X8_colours_207 rfl ?_
  obtain ⟨c1, hf⟩ := ite_some hf
  obtain ⟨a2, e2, hf⟩ := bind_some hf
  refine rs_getR i_X8_colours_208 (by decide) (by decide) c1 e2 ?_
  refine rs_iload i_X8_colours_211 rfl ?_
  obtain ⟨c3, hf⟩ := ite_some hf
  refine rs_iald i_X8_colours_213 c3 ?_
  refine rs_iload i_X8_colours_214 rfl ?_
  by_cases c4 : (gI h a2 (ix v7)) ≤ v5
  · replace hf := (if_pos c4).symm.trans hf
    refine rs_icT i_X8_colours_216 (ct_le c4) (tg := 229) (by decide) ?_
    refine rs_iload i_X8_colours_229 rfl ?_
    exact r_X8_colours_231 hd HK174 hf
  · replace hf := (if_neg c4).symm.trans hf
    refine rs_icF i_X8_colours_216 (cf_le c4) ?_
    refine rs_aload_n i_X8_colours_219 rfl ?_
    refine rs_getR i_X8_colours_220 (by decide) (by decide) c1 e2 ?_
    refine rs_iload i_X8_colours_223 rfl ?_
    refine rs_iald i_X8_colours_225 c3 ?_
    refine rs_goto i_X8_colours_226 (tg := 231) (by decide) ?_
    exact r_X8_colours_231 hd HK174 hf
def f_X8_colours_174 (n : Nat) : Nat → Nat → Int32 → Int32 → Int32 → Int32 → Int32 → Int32 → Hp → Option (Int32 × Hp)
  | 0, _, _, _, _, _, _, _, _ => none
  | m + 1, v0, v2, v3, v4, v5, v6, v7, h =>
    if 16 ≤ v7 then
      if v3 ≠ 0 then
        if v3 ≠ 1 then
          some (v6, h)
        else
          some (v5, h)
      else
        some (v4, h)
    else
      if okO h v0 8 then
      (gR h v0 52).bind fun a5 =>
      if okI h a5 v7 then
      if v4 ≤ (gI h a5 (ix v7)) then
        f_X8_colours_205 n (f_X8_colours_174 n m) v0 v2 v3 v5 v6 v7 v4 h
      else
        f_X8_colours_205 n (f_X8_colours_174 n m) v0 v2 v3 v5 v6 v7 (gI h a5 (ix v7)) h
      else none
      else none
set_option maxRecDepth 100000 in
set_option maxHeartbeats 4000000 in
theorem r_X8_colours_174 {X : Nat → Int32} {d : Nat} (hd : 1 ≤ (d + 1)) {n : Nat} : ∀ (m : Nat) (v0 : Nat) (v2 : Int32) (v3 : Int32) (v4 : Int32) (v5 : Int32) (v6 : Int32) (v7 : Int32) (d1 : Int32) (h : Hp) (o : (Int32 × Hp)), f_X8_colours_174 n m v0 v2 v3 v4 v5 v6 v7 h = some o → Run X (d + 1) 203 174 [some (.ref v0), some (.int d1), some (.int v2), some (.int v3), some (.int v4), some (.int v5), some (.int v6), some (.int v7)] [] h (some (.int o.1), o.2) := by
  intro m
  induction m with
  | zero => intro v0 v2 v3 v4 v5 v6 v7 d1 h o hf; cases hf
  | succ m ih =>
    intro v0 v2 v3 v4 v5 v6 v7 d1 h o hf
    rw [f_X8_colours_174] at hf
    refine rs_iload i_X8_colours_174 rfl ?_
    refine rs_bipush i_X8_colours_176 (v := 16) (by decide) ?_
    by_cases c1 : 16 ≤ v7
    · replace hf := (if_pos c1).symm.trans hf
      refine rs_icT i_X8_colours_178 (ct_ge c1) (tg := 272) (by decide) ?_
      refine rs_iload_n i_X8_colours_272 rfl ?_
      by_cases c2 : v3 ≠ 0
      · replace hf := (if_pos c2).symm.trans hf
        refine rs_ifT i_X8_colours_273 (ct_ne c2) (tg := 281) (by decide) ?_
        refine rs_iload_n i_X8_colours_281 rfl ?_
        refine rs_iconst i_X8_colours_282 (v := 1) (by decide) ?_
        by_cases c3 : v3 ≠ 1
        · replace hf := (if_pos c3).symm.trans hf
          refine rs_icT i_X8_colours_283 (ct_ne c3) (tg := 291) (by decide) ?_
          refine rs_iload i_X8_colours_291 rfl ?_
          have hf := Option.some.inj hf
          subst hf
          exact rs_iret i_X8_colours_293 m_X8_colours rfl
        · replace hf := (if_neg c3).symm.trans hf
          refine rs_icF i_X8_colours_283 (cf_ne c3) ?_
          refine rs_iload i_X8_colours_286 rfl ?_
          refine rs_goto i_X8_colours_288 (tg := 293) (by decide) ?_
          have hf := Option.some.inj hf
          subst hf
          exact rs_iret i_X8_colours_293 m_X8_colours rfl
      · replace hf := (if_neg c2).symm.trans hf
        refine rs_ifF i_X8_colours_273 (cf_ne c2) ?_
        refine rs_iload i_X8_colours_276 rfl ?_
        refine rs_goto i_X8_colours_278 (tg := 293) (by decide) ?_
        have hf := Option.some.inj hf
        subst hf
        exact rs_iret i_X8_colours_293 m_X8_colours rfl
    · replace hf := (if_neg c1).symm.trans hf
      refine rs_icF i_X8_colours_178 (cf_ge c1) ?_
      refine rs_aload_n i_X8_colours_181 rfl ?_
      obtain ⟨c4, hf⟩ := ite_some hf
      obtain ⟨a5, e5, hf⟩ := bind_some hf
      refine rs_getR i_X8_colours_182 (by decide) (by decide) c4 e5 ?_
      refine rs_iload i_X8_colours_185 rfl ?_
      obtain ⟨c6, hf⟩ := ite_some hf
      refine rs_iald i_X8_colours_187 c6 ?_
      refine rs_iload i_X8_colours_188 rfl ?_
      by_cases c7 : v4 ≤ (gI h a5 (ix v7))
      · replace hf := (if_pos c7).symm.trans hf
        refine rs_icT i_X8_colours_190 (ct_ge c7) (tg := 203) (by decide) ?_
        refine rs_iload i_X8_colours_203 rfl ?_
        exact r_X8_colours_205 hd ih hf
      · replace hf := (if_neg c7).symm.trans hf
        refine rs_icF i_X8_colours_190 (cf_ge c7) ?_
        refine rs_aload_n i_X8_colours_193 rfl ?_
        refine rs_getR i_X8_colours_194 (by decide) (by decide) c4 e5 ?_
        refine rs_iload i_X8_colours_197 rfl ?_
        refine rs_iald i_X8_colours_199 c6 ?_
        refine rs_goto i_X8_colours_200 (tg := 205) (by decide) ?_
        exact r_X8_colours_205 hd ih hf
def f_X8_colours_119 (n : Nat) (K65 : Nat → Int32 → Int32 → Int32 → Hp → Option (Int32 × Hp)) : Nat → Nat → Int32 → Int32 → Int32 → Int32 → Hp → Option (Int32 × Hp)
  | 0, _, _, _, _, _, _ => none
  | m + 1, v0, v2, v3, v4, v5, h =>
    if 16 ≤ v5 then
      K65 v0 v2 v3 (v4 + 1) h
    else
      if okO h v0 8 then
      (gR h v0 52).bind fun a3 =>
      (gR h v0 53).bind fun a4 =>
      if okI h a4 v5 then
      if okI h a3 v5 then
      (f_X8_colours_119 n K65 m) v0 v2 v3 v4 (v5 + 1) (hsi h a3 (ix v5) (gI h a4 (ix v5)))
      else none
      else none
      else none
set_option maxRecDepth 100000 in
set_option maxHeartbeats 4000000 in
theorem r_X8_colours_119 {X : Nat → Int32} {d : Nat} (hd : 1 ≤ (d + 1)) {n : Nat} {K65 : Nat → Int32 → Int32 → Int32 → Hp → Option (Int32 × Hp)} (HK65 : ∀ (v0 : Nat) (v2 : Int32) (v3 : Int32) (v4 : Int32) (d1 : Int32) (w5 : Option Value) (h : Hp) (o : (Int32 × Hp)), K65 v0 v2 v3 v4 h = some o → Run X (d + 1) 203 65 [some (.ref v0), some (.int d1), some (.int v2), some (.int v3), some (.int v4), w5, none, none] [] h (some (.int o.1), o.2)) : ∀ (m : Nat) (v0 : Nat) (v2 : Int32) (v3 : Int32) (v4 : Int32) (v5 : Int32) (d1 : Int32) (h : Hp) (o : (Int32 × Hp)), f_X8_colours_119 n K65 m v0 v2 v3 v4 v5 h = some o → Run X (d + 1) 203 119 [some (.ref v0), some (.int d1), some (.int v2), some (.int v3), some (.int v4), some (.int v5), none, none] [] h (some (.int o.1), o.2) := by
  intro m
  induction m with
  | zero => intro v0 v2 v3 v4 v5 d1 h o hf; cases hf
  | succ m ih =>
    intro v0 v2 v3 v4 v5 d1 h o hf
    rw [f_X8_colours_119] at hf
    refine rs_iload i_X8_colours_119 rfl ?_
    refine rs_bipush i_X8_colours_121 (v := 16) (by decide) ?_
    by_cases c1 : 16 ≤ v5
    · replace hf := (if_pos c1).symm.trans hf
      refine rs_icT i_X8_colours_123 (ct_ge c1) (tg := 146) (by decide) ?_
      refine rs_iinc i_X8_colours_146 rfl (v := v4 + 1) rfl (Nat.le_of_ble_eq_true rfl) (lv' := [some (.ref v0), some (.int d1), some (.int v2), some (.int v3), some (.int (v4 + 1)), some (.int v5), none, none]) rfl ?_
      refine rs_goto i_X8_colours_149 (tg := 65) (by decide) ?_
      exact HK65 _ _ _ _ _ _ _ _ hf
    · replace hf := (if_neg c1).symm.trans hf
      refine rs_icF i_X8_colours_123 (cf_ge c1) ?_
      refine rs_aload_n i_X8_colours_126 rfl ?_
      obtain ⟨c2, hf⟩ := ite_some hf
      obtain ⟨a3, e3, hf⟩ := bind_some hf
      refine rs_getR i_X8_colours_127 (by decide) (by decide) c2 e3 ?_
      refine rs_iload i_X8_colours_130 rfl ?_
      refine rs_aload_n i_X8_colours_132 rfl ?_
      obtain ⟨a4, e4, hf⟩ := bind_some hf
      refine rs_getR i_X8_colours_133 (by decide) (by decide) c2 e4 ?_
      refine rs_iload i_X8_colours_136 rfl ?_
      obtain ⟨c5, hf⟩ := ite_some hf
      refine rs_iald i_X8_colours_138 c5 ?_
      obtain ⟨c6, hf⟩ := ite_some hf
      refine rs_iast i_X8_colours_139 c6 ?_
      refine rs_iinc i_X8_colours_140 rfl (v := v5 + 1) rfl (Nat.le_of_ble_eq_true rfl) (lv' := [some (.ref v0), some (.int d1), some (.int v2), some (.int v3), some (.int v4), some (.int (v5 + 1)), none, none]) rfl ?_
      refine rs_goto i_X8_colours_143 (tg := 119) (by decide) ?_
      exact ih _ _ _ _ _ _ _ _ hf
def f_X8_colours_74 (n : Nat) (K65 : Nat → Int32 → Int32 → Int32 → Hp → Option (Int32 × Hp)) : Nat → Nat → Int32 → Int32 → Int32 → Int32 → Hp → Option (Int32 × Hp)
  | 0, _, _, _, _, _, _ => none
  | m + 1, v0, v2, v3, v4, v5, h =>
    if 16 ≤ v5 then
      f_X8_colours_119 n K65 n v0 v2 v3 v4 0 h
    else
      if okO h v0 8 then
      (gR h v0 53).bind fun a3 =>
      (gR h v0 52).bind fun a4 =>
      if okI h a4 (v5 / 2) then
      if okI h a4 (15 - (v5 / 2)) then
      if okI h a3 v5 then
      (f_X8_colours_74 n K65 m) v0 v2 v3 v4 (v5 + 1) (hsi h a3 (ix v5) ((gI h a4 (ix (v5 / 2))) + (gI h a4 (ix (15 - (v5 / 2))))))
      else none
      else none
      else none
      else none
set_option maxRecDepth 100000 in
set_option maxHeartbeats 4000000 in
theorem r_X8_colours_74 {X : Nat → Int32} {d : Nat} (hd : 1 ≤ (d + 1)) {n : Nat} {K65 : Nat → Int32 → Int32 → Int32 → Hp → Option (Int32 × Hp)} (HK65 : ∀ (v0 : Nat) (v2 : Int32) (v3 : Int32) (v4 : Int32) (d1 : Int32) (w5 : Option Value) (h : Hp) (o : (Int32 × Hp)), K65 v0 v2 v3 v4 h = some o → Run X (d + 1) 203 65 [some (.ref v0), some (.int d1), some (.int v2), some (.int v3), some (.int v4), w5, none, none] [] h (some (.int o.1), o.2)) : ∀ (m : Nat) (v0 : Nat) (v2 : Int32) (v3 : Int32) (v4 : Int32) (v5 : Int32) (d1 : Int32) (h : Hp) (o : (Int32 × Hp)), f_X8_colours_74 n K65 m v0 v2 v3 v4 v5 h = some o → Run X (d + 1) 203 74 [some (.ref v0), some (.int d1), some (.int v2), some (.int v3), some (.int v4), some (.int v5), none, none] [] h (some (.int o.1), o.2) := by
  intro m
  induction m with
  | zero => intro v0 v2 v3 v4 v5 d1 h o hf; cases hf
  | succ m ih =>
    intro v0 v2 v3 v4 v5 d1 h o hf
    rw [f_X8_colours_74] at hf
    refine rs_iload i_X8_colours_74 rfl ?_
    refine rs_bipush i_X8_colours_76 (v := 16) (by decide) ?_
    by_cases c1 : 16 ≤ v5
    · replace hf := (if_pos c1).symm.trans hf
      refine rs_icT i_X8_colours_78 (ct_ge c1) (tg := 116) (by decide) ?_
      refine rs_iconst i_X8_colours_116 (v := 0) (by decide) ?_
      refine rs_istore i_X8_colours_117 (Nat.le_of_ble_eq_true rfl) (lv' := [some (.ref v0), some (.int d1), some (.int v2), some (.int v3), some (.int v4), some (.int 0), none, none]) rfl ?_
      exact r_X8_colours_119 hd HK65 _ _ _ _ _ _ _ _ _ hf
    · replace hf := (if_neg c1).symm.trans hf
      refine rs_icF i_X8_colours_78 (cf_ge c1) ?_
      refine rs_aload_n i_X8_colours_81 rfl ?_
      obtain ⟨c2, hf⟩ := ite_some hf
      obtain ⟨a3, e3, hf⟩ := bind_some hf
      refine rs_getR i_X8_colours_82 (by decide) (by decide) c2 e3 ?_
      refine rs_iload i_X8_colours_85 rfl ?_
      refine rs_aload_n i_X8_colours_87 rfl ?_
      obtain ⟨a4, e4, hf⟩ := bind_some hf
      refine rs_getR i_X8_colours_88 (by decide) (by decide) c2 e4 ?_
      refine rs_iload i_X8_colours_91 rfl ?_
      refine rs_iconst i_X8_colours_93 (v := 2) (by decide) ?_
      refine rs_idiv i_X8_colours_94 (by decide) ?_
      obtain ⟨c5, hf⟩ := ite_some hf
      refine rs_iald i_X8_colours_95 c5 ?_
      refine rs_aload_n i_X8_colours_96 rfl ?_
      refine rs_getR i_X8_colours_97 (by decide) (by decide) c2 e4 ?_
      refine rs_bipush i_X8_colours_100 (v := 15) (by decide) ?_
      refine rs_iload i_X8_colours_102 rfl ?_
      refine rs_iconst i_X8_colours_104 (v := 2) (by decide) ?_
      refine rs_idiv i_X8_colours_105 (by decide) ?_
      refine rs_isub i_X8_colours_106 ?_
      obtain ⟨c6, hf⟩ := ite_some hf
      refine rs_iald i_X8_colours_107 c6 ?_
      refine rs_iadd i_X8_colours_108 ?_
      obtain ⟨c7, hf⟩ := ite_some hf
      refine rs_iast i_X8_colours_109 c7 ?_
      refine rs_iinc i_X8_colours_110 rfl (v := v5 + 1) rfl (Nat.le_of_ble_eq_true rfl) (lv' := [some (.ref v0), some (.int d1), some (.int v2), some (.int v3), some (.int v4), some (.int (v5 + 1)), none, none]) rfl ?_
      refine rs_goto i_X8_colours_113 (tg := 74) (by decide) ?_
      exact ih _ _ _ _ _ _ _ _ hf
def f_X8_colours_65 (n : Nat) : Nat → Nat → Int32 → Int32 → Int32 → Hp → Option (Int32 × Hp)
  | 0, _, _, _, _, _ => none
  | m + 1, v0, v2, v3, v4, h =>
    if v2 ≤ v4 then
      if okO h v0 8 then
      (gR h v0 52).bind fun a3 =>
      if okI h a3 0 then
      f_X8_colours_174 n n v0 v2 v3 (gI h a3 (ix 0)) (gI h a3 (ix 0)) 0 0 h
      else none
      else none
    else
      f_X8_colours_74 n (f_X8_colours_65 n m) n v0 v2 v3 v4 0 h
set_option maxRecDepth 100000 in
set_option maxHeartbeats 4000000 in
theorem r_X8_colours_65 {X : Nat → Int32} {d : Nat} (hd : 1 ≤ (d + 1)) {n : Nat} : ∀ (m : Nat) (v0 : Nat) (v2 : Int32) (v3 : Int32) (v4 : Int32) (d1 : Int32) (w5 : Option Value) (h : Hp) (o : (Int32 × Hp)), f_X8_colours_65 n m v0 v2 v3 v4 h = some o → Run X (d + 1) 203 65 [some (.ref v0), some (.int d1), some (.int v2), some (.int v3), some (.int v4), w5, none, none] [] h (some (.int o.1), o.2) := by
  intro m
  induction m with
  | zero => intro v0 v2 v3 v4 d1 w5 h o hf; cases hf
  | succ m ih =>
    intro v0 v2 v3 v4 d1 w5 h o hf
    rw [f_X8_colours_65] at hf
    refine rs_iload i_X8_colours_65 rfl ?_
    refine rs_iload_n i_X8_colours_67 rfl ?_
    by_cases c1 : v2 ≤ v4
    · replace hf := (if_pos c1).symm.trans hf
      refine rs_icT i_X8_colours_68 (ct_ge c1) (tg := 152) (by decide) ?_
      refine rs_aload_n i_X8_colours_152 rfl ?_
      obtain ⟨c2, hf⟩ := ite_some hf
      obtain ⟨a3, e3, hf⟩ := bind_some hf
      refine rs_getR i_X8_colours_153 (by decide) (by decide) c2 e3 ?_
      refine rs_iconst i_X8_colours_156 (v := 0) (by decide) ?_
      obtain ⟨c4, hf⟩ := ite_some hf
      refine rs_iald i_X8_colours_157 c4 ?_
      refine rs_istore i_X8_colours_158 (Nat.le_of_ble_eq_true rfl) (lv' := [some (.ref v0), some (.int d1), some (.int v2), some (.int v3), some (.int (gI h a3 (ix 0))), w5, none, none]) rfl ?_
      refine rs_aload_n i_X8_colours_160 rfl ?_
      refine rs_getR i_X8_colours_161 (by decide) (by decide) c2 e3 ?_
      refine rs_iconst i_X8_colours_164 (v := 0) (by decide) ?_
      refine rs_iald i_X8_colours_165 c4 ?_
      refine rs_istore i_X8_colours_166 (Nat.le_of_ble_eq_true rfl) (lv' := [some (.ref v0), some (.int d1), some (.int v2), some (.int v3), some (.int (gI h a3 (ix 0))), some (.int (gI h a3 (ix 0))), none, none]) rfl ?_
      refine rs_iconst i_X8_colours_168 (v := 0) (by decide) ?_
      refine rs_istore i_X8_colours_169 (Nat.le_of_ble_eq_true rfl) (lv' := [some (.ref v0), some (.int d1), some (.int v2), some (.int v3), some (.int (gI h a3 (ix 0))), some (.int (gI h a3 (ix 0))), some (.int 0), none]) rfl ?_
      refine rs_iconst i_X8_colours_171 (v := 0) (by decide) ?_
      refine rs_istore i_X8_colours_172 (Nat.le_of_ble_eq_true rfl) (lv' := [some (.ref v0), some (.int d1), some (.int v2), some (.int v3), some (.int (gI h a3 (ix 0))), some (.int (gI h a3 (ix 0))), some (.int 0), some (.int 0)]) rfl ?_
      exact r_X8_colours_174 hd _ _ _ _ _ _ _ _ _ _ _ hf
    · replace hf := (if_neg c1).symm.trans hf
      refine rs_icF i_X8_colours_68 (cf_ge c1) ?_
      refine rs_iconst i_X8_colours_71 (v := 0) (by decide) ?_
      refine rs_istore i_X8_colours_72 (Nat.le_of_ble_eq_true rfl) (lv' := [some (.ref v0), some (.int d1), some (.int v2), some (.int v3), some (.int v4), some (.int 0), none, none]) rfl ?_
      exact r_X8_colours_74 hd ih _ _ _ _ _ _ _ _ _ hf
def f_X8_colours_36 (n : Nat) : Nat → Nat → Int32 → Int32 → Int32 → Int32 → Hp → Option (Int32 × Hp)
  | 0, _, _, _, _, _, _ => none
  | m + 1, v0, v1, v2, v3, v4, h =>
    if 16 ≤ v4 then
      f_X8_colours_65 n n v0 v2 v3 0 h
    else
      if okO h v0 8 then
      (gR h v0 52).bind fun a3 =>
      if okI h a3 v4 then
      (f_X8_colours_36 n m) v0 v1 v2 v3 (v4 + 1) (hsi h a3 (ix v4) ((v1 >>> (v4 &&& 31)) &&& 1))
      else none
      else none
set_option maxRecDepth 100000 in
set_option maxHeartbeats 4000000 in
theorem r_X8_colours_36 {X : Nat → Int32} {d : Nat} (hd : 1 ≤ (d + 1)) {n : Nat} : ∀ (m : Nat) (v0 : Nat) (v1 : Int32) (v2 : Int32) (v3 : Int32) (v4 : Int32) (h : Hp) (o : (Int32 × Hp)), f_X8_colours_36 n m v0 v1 v2 v3 v4 h = some o → Run X (d + 1) 203 36 [some (.ref v0), some (.int v1), some (.int v2), some (.int v3), some (.int v4), none, none, none] [] h (some (.int o.1), o.2) := by
  intro m
  induction m with
  | zero => intro v0 v1 v2 v3 v4 h o hf; cases hf
  | succ m ih =>
    intro v0 v1 v2 v3 v4 h o hf
    rw [f_X8_colours_36] at hf
    refine rs_iload i_X8_colours_36 rfl ?_
    refine rs_bipush i_X8_colours_38 (v := 16) (by decide) ?_
    by_cases c1 : 16 ≤ v4
    · replace hf := (if_pos c1).symm.trans hf
      refine rs_icT i_X8_colours_40 (ct_ge c1) (tg := 62) (by decide) ?_
      refine rs_iconst i_X8_colours_62 (v := 0) (by decide) ?_
      refine rs_istore i_X8_colours_63 (Nat.le_of_ble_eq_true rfl) (lv' := [some (.ref v0), some (.int v1), some (.int v2), some (.int v3), some (.int 0), none, none, none]) rfl ?_
      exact r_X8_colours_65 hd _ _ _ _ _ _ _ _ _ hf
    · replace hf := (if_neg c1).symm.trans hf
      refine rs_icF i_X8_colours_40 (cf_ge c1) ?_
      refine rs_aload_n i_X8_colours_43 rfl ?_
      obtain ⟨c2, hf⟩ := ite_some hf
      obtain ⟨a3, e3, hf⟩ := bind_some hf
      refine rs_getR i_X8_colours_44 (by decide) (by decide) c2 e3 ?_
      refine rs_iload i_X8_colours_47 rfl ?_
      refine rs_iload_n i_X8_colours_49 rfl ?_
      refine rs_iload i_X8_colours_50 rfl ?_
      refine rs_ishr i_X8_colours_52 ?_
      refine rs_iconst i_X8_colours_53 (v := 1) (by decide) ?_
      refine rs_iand i_X8_colours_54 ?_
      obtain ⟨c4, hf⟩ := ite_some hf
      refine rs_iast i_X8_colours_55 c4 ?_
      refine rs_iinc i_X8_colours_56 rfl (v := v4 + 1) rfl (Nat.le_of_ble_eq_true rfl) (lv' := [some (.ref v0), some (.int v1), some (.int v2), some (.int v3), some (.int (v4 + 1)), none, none, none]) rfl ?_
      refine rs_goto i_X8_colours_59 (tg := 36) (by decide) ?_
      exact ih _ _ _ _ _ _ _ hf
def f_X8_colours_0 (n : Nat) (v0 : Nat) (v1 : Int32) (v2 : Int32) (v3 : Int32) (h : Hp) : Option (Int32 × Hp) :=
  (f_X8_in v1 0 65535 h).bind fun o1 =>
  if o1.1 = 0 then
    some ((-2), o1.2)
  else
    (f_X8_in v2 0 10 o1.2).bind fun o3 =>
    if o3.1 = 0 then
      some ((-2), o3.2)
    else
      (f_X8_in v3 0 2 o3.2).bind fun o5 =>
      if o5.1 ≠ 0 then
        f_X8_colours_36 n n v0 v1 v2 v3 0 o5.2
      else
        some ((-2), o5.2)
set_option maxRecDepth 100000 in
set_option maxHeartbeats 4000000 in
theorem r_X8_colours_0 {X : Nat → Int32} {d : Nat} (hd : 1 ≤ (d + 1)) {n : Nat} {v0 : Nat} {v1 : Int32} {v2 : Int32} {v3 : Int32} {h : Hp} {o : (Int32 × Hp)} (hf : f_X8_colours_0 n v0 v1 v2 v3 h = some o) : Run X (d + 1) 203 0 [some (.ref v0), some (.int v1), some (.int v2), some (.int v3), none, none, none, none] [] h (some (.int o.1), o.2) := by
  unfold f_X8_colours_0 at hf
  refine rs_iload_n i_X8_colours_0 rfl ?_
  refine rs_iconst i_X8_colours_1 (v := 0) (by decide) ?_
  refine rs_ldcw i_X8_colours_2 (v := 65535) (by decide) ?_
  obtain ⟨o1, e1, hf⟩ := bind_some hf
  refine rs_inS i_X8_colours_5 (by decide) m_X8_in rfl (As := [.int v1, .int 0, .int 65535]) (rest := []) rfl rfl (Nat.le_of_ble_eq_true rfl) (c_X8_in (by omega) e1) (st' := [.int o1.1]) rfl ?_
  by_cases c2 : o1.1 = 0
  · replace hf := (if_pos c2).symm.trans hf
    refine rs_ifT i_X8_colours_8 (ct_eq c2) (tg := 30) (by decide) ?_
    refine rs_bipush i_X8_colours_30 (v := (-2)) (by decide) ?_
    have hf := Option.some.inj hf
    subst hf
    exact rs_iret i_X8_colours_32 m_X8_colours rfl
  · replace hf := (if_neg c2).symm.trans hf
    refine rs_ifF i_X8_colours_8 (cf_eq c2) ?_
    refine rs_iload_n i_X8_colours_11 rfl ?_
    refine rs_iconst i_X8_colours_12 (v := 0) (by decide) ?_
    refine rs_bipush i_X8_colours_13 (v := 10) (by decide) ?_
    obtain ⟨o3, e3, hf⟩ := bind_some hf
    refine rs_inS i_X8_colours_15 (by decide) m_X8_in rfl (As := [.int v2, .int 0, .int 10]) (rest := []) rfl rfl (Nat.le_of_ble_eq_true rfl) (c_X8_in (by omega) e3) (st' := [.int o3.1]) rfl ?_
    by_cases c4 : o3.1 = 0
    · replace hf := (if_pos c4).symm.trans hf
      refine rs_ifT i_X8_colours_18 (ct_eq c4) (tg := 30) (by decide) ?_
      refine rs_bipush i_X8_colours_30 (v := (-2)) (by decide) ?_
      have hf := Option.some.inj hf
      subst hf
      exact rs_iret i_X8_colours_32 m_X8_colours rfl
    · replace hf := (if_neg c4).symm.trans hf
      refine rs_ifF i_X8_colours_18 (cf_eq c4) ?_
      refine rs_iload_n i_X8_colours_21 rfl ?_
      refine rs_iconst i_X8_colours_22 (v := 0) (by decide) ?_
      refine rs_iconst i_X8_colours_23 (v := 2) (by decide) ?_
      obtain ⟨o5, e5, hf⟩ := bind_some hf
      refine rs_inS i_X8_colours_24 (by decide) m_X8_in rfl (As := [.int v3, .int 0, .int 2]) (rest := []) rfl rfl (Nat.le_of_ble_eq_true rfl) (c_X8_in (by omega) e5) (st' := [.int o5.1]) rfl ?_
      by_cases c6 : o5.1 ≠ 0
      · replace hf := (if_pos c6).symm.trans hf
        refine rs_ifT i_X8_colours_27 (ct_ne c6) (tg := 33) (by decide) ?_
        refine rs_iconst i_X8_colours_33 (v := 0) (by decide) ?_
        refine rs_istore i_X8_colours_34 (Nat.le_of_ble_eq_true rfl) (lv' := [some (.ref v0), some (.int v1), some (.int v2), some (.int v3), some (.int 0), none, none, none]) rfl ?_
        exact r_X8_colours_36 hd _ _ _ _ _ _ _ _ hf
      · replace hf := (if_neg c6).symm.trans hf
        refine rs_ifF i_X8_colours_27 (cf_ne c6) ?_
        refine rs_bipush i_X8_colours_30 (v := (-2)) (by decide) ?_
        have hf := Option.some.inj hf
        subst hf
        exact rs_iret i_X8_colours_32 m_X8_colours rfl
def f_X8_colours (n : Nat) (v0 : Nat) (v1 : Int32) (v2 : Int32) (v3 : Int32) (h : Hp) : Option (Int32 × Hp) := f_X8_colours_0 n v0 v1 v2 v3 h
theorem c_X8_colours {X : Nat → Int32} {d : Nat} (hd : 1 ≤ d) {n : Nat} {v0 : Nat} {v1 : Int32} {v2 : Int32} {v3 : Int32} {h : Hp} {o : (Int32 × Hp)} (hf : f_X8_colours n v0 v1 v2 v3 h = some o) : Calls X d 203 [.ref v0, .int v1, .int v2, .int v3] h (some (.int o.1), o.2) := by
  obtain ⟨d, rfl⟩ : ∃ z, d = z + 1 := ⟨d - 1, by omega⟩
  exact ⟨_, rfl, r_X8_colours_0 hd hf⟩
theorem i_X8_lowest_0 : fetch 204 0 = some (.lload_n 0, 1, 0, 0, 0, 0) := by decide +kernel
theorem i_X8_lowest_1 : fetch 204 1 = some (.lconst 0, 2, 0, 0, 0, 0) := by decide +kernel
theorem i_X8_lowest_2 : fetch 204 2 = some (.lcmp, 3, 0, 0, 0, 0) := by decide +kernel
theorem i_X8_lowest_3 : fetch 204 3 = some (.ifCond .ne 7, 6, 0, 0, 0, 0) := by decide +kernel
theorem i_X8_lowest_6 : fetch 204 6 = some (.iload 4, 8, 0, 0, 0, 0) := by decide +kernel
theorem i_X8_lowest_8 : fetch 204 8 = some (.i2l, 9, 0, 0, 0, 0) := by decide +kernel
theorem i_X8_lowest_9 : fetch 204 9 = some (.lreturn, 10, 0, 0, 0, 0) := by decide +kernel
theorem i_X8_lowest_10 : fetch 204 10 = some (.lload_n 0, 11, 0, 0, 0, 0) := by decide +kernel
theorem i_X8_lowest_11 : fetch 204 11 = some (.lstore 5, 13, 0, 0, 0, 0) := by decide +kernel
theorem i_X8_lowest_13 : fetch 204 13 = some (.lload_n 2, 14, 0, 0, 0, 0) := by decide +kernel
theorem i_X8_lowest_14 : fetch 204 14 = some (.lstore 7, 16, 0, 0, 0, 0) := by decide +kernel
theorem i_X8_lowest_16 : fetch 204 16 = some (.lload 7, 18, 0, 0, 0, 0) := by decide +kernel
theorem i_X8_lowest_18 : fetch 204 18 = some (.lconst 0, 19, 0, 0, 0, 0) := by decide +kernel
theorem i_X8_lowest_19 : fetch 204 19 = some (.lcmp, 20, 0, 0, 0, 0) := by decide +kernel
theorem i_X8_lowest_20 : fetch 204 20 = some (.ifCond .eq 21, 23, 0, 0, 0, 0) := by decide +kernel
theorem i_X8_lowest_23 : fetch 204 23 = some (.lload 5, 25, 0, 0, 0, 0) := by decide +kernel
theorem i_X8_lowest_25 : fetch 204 25 = some (.lload 7, 27, 0, 0, 0, 0) := by decide +kernel
theorem i_X8_lowest_27 : fetch 204 27 = some (.lrem, 28, 0, 0, 0, 0) := by decide +kernel
theorem i_X8_lowest_28 : fetch 204 28 = some (.lstore 9, 30, 0, 0, 0, 0) := by decide +kernel
theorem i_X8_lowest_30 : fetch 204 30 = some (.lload 7, 32, 0, 0, 0, 0) := by decide +kernel
theorem i_X8_lowest_32 : fetch 204 32 = some (.lstore 5, 34, 0, 0, 0, 0) := by decide +kernel
theorem i_X8_lowest_34 : fetch 204 34 = some (.lload 9, 36, 0, 0, 0, 0) := by decide +kernel
theorem i_X8_lowest_36 : fetch 204 36 = some (.lstore 7, 38, 0, 0, 0, 0) := by decide +kernel
theorem i_X8_lowest_38 : fetch 204 38 = some (.goto (-22), 41, 0, 0, 0, 0) := by decide +kernel
theorem i_X8_lowest_41 : fetch 204 41 = some (.iload 4, 43, 0, 0, 0, 0) := by decide +kernel
theorem i_X8_lowest_43 : fetch 204 43 = some (.ifCond .ne 7, 46, 0, 0, 0, 0) := by decide +kernel
theorem i_X8_lowest_46 : fetch 204 46 = some (.lload_n 0, 47, 0, 0, 0, 0) := by decide +kernel
theorem i_X8_lowest_47 : fetch 204 47 = some (.goto 4, 50, 0, 0, 0, 0) := by decide +kernel
theorem i_X8_lowest_50 : fetch 204 50 = some (.lload_n 2, 51, 0, 0, 0, 0) := by decide +kernel
theorem i_X8_lowest_51 : fetch 204 51 = some (.lload 5, 53, 0, 0, 0, 0) := by decide +kernel
theorem i_X8_lowest_53 : fetch 204 53 = some (.ldiv, 54, 0, 0, 0, 0) := by decide +kernel
theorem i_X8_lowest_54 : fetch 204 54 = some (.lreturn, 55, 0, 0, 0, 0) := by decide +kernel
def f_X8_lowest_16 (n : Nat) : Nat → Int64 → Int64 → Int32 → Int64 → Int64 → Hp → Option (Int64 × Hp)
  | 0, _, _, _, _, _, _ => none
  | m + 1, v0, v2, v4, v5, v7, h =>
    if v7 = 0 then
      if v4 ≠ 0 then
        if ¬ v5 = 0 then
        some ((v2 / v5), h)
        else none
      else
        if ¬ v5 = 0 then
        some ((v0 / v5), h)
        else none
    else
      if ¬ v7 = 0 then
      (f_X8_lowest_16 n m) v0 v2 v4 v7 (v5 - v5 / v7 * v7) h
      else none
set_option maxRecDepth 100000 in
set_option maxHeartbeats 4000000 in
theorem r_X8_lowest_16 {X : Nat → Int32} {d : Nat} (hd : 0 ≤ d) {n : Nat} : ∀ (m : Nat) (v0 : Int64) (v2 : Int64) (v4 : Int32) (v5 : Int64) (v7 : Int64) (w9 : Option Value) (w10 : Option Value) (h : Hp) (o : (Int64 × Hp)), f_X8_lowest_16 n m v0 v2 v4 v5 v7 h = some o → Run X d 204 16 [some (.long v0), none, some (.long v2), none, some (.int v4), some (.long v5), none, some (.long v7), none, w9, w10] [] h (some (.long o.1), o.2) := by
  intro m
  induction m with
  | zero => intro v0 v2 v4 v5 v7 w9 w10 h o hf; cases hf
  | succ m ih =>
    intro v0 v2 v4 v5 v7 w9 w10 h o hf
    rw [f_X8_lowest_16] at hf
    refine rs_lload i_X8_lowest_16 rfl ?_
    refine rs_lconst i_X8_lowest_18 (v := 0) (by decide) ?_
    refine rs_lcmp i_X8_lowest_19 ?_
    by_cases c1 : v7 = 0
    · replace hf := (if_pos c1).symm.trans hf
      refine rs_ifT i_X8_lowest_20 (by rw [lc_eq]; exact decide_eq_true c1) (tg := 41) (by decide) ?_
      refine rs_iload i_X8_lowest_41 rfl ?_
      by_cases c2 : v4 ≠ 0
      · replace hf := (if_pos c2).symm.trans hf
        refine rs_ifT i_X8_lowest_43 (ct_ne c2) (tg := 50) (by decide) ?_
        refine rs_lload_n i_X8_lowest_50 rfl ?_
        refine rs_lload i_X8_lowest_51 rfl ?_
        obtain ⟨c3, hf⟩ := ite_some hf
        refine rs_ldiv i_X8_lowest_53 c3 ?_
        have hf := Option.some.inj hf
        subst hf
        exact rs_lret i_X8_lowest_54 m_X8_lowest rfl
      · replace hf := (if_neg c2).symm.trans hf
        refine rs_ifF i_X8_lowest_43 (cf_ne c2) ?_
        refine rs_lload_n i_X8_lowest_46 rfl ?_
        refine rs_goto i_X8_lowest_47 (tg := 51) (by decide) ?_
        refine rs_lload i_X8_lowest_51 rfl ?_
        obtain ⟨c4, hf⟩ := ite_some hf
        refine rs_ldiv i_X8_lowest_53 c4 ?_
        have hf := Option.some.inj hf
        subst hf
        exact rs_lret i_X8_lowest_54 m_X8_lowest rfl
    · replace hf := (if_neg c1).symm.trans hf
      refine rs_ifF i_X8_lowest_20 (by rw [lc_eq]; exact decide_eq_false c1) ?_
      refine rs_lload i_X8_lowest_23 rfl ?_
      refine rs_lload i_X8_lowest_25 rfl ?_
      obtain ⟨c5, hf⟩ := ite_some hf
      refine rs_lrem i_X8_lowest_27 c5 ?_
      refine rs_lstore i_X8_lowest_28 (Nat.le_of_ble_eq_true rfl) (lv' := [some (.long v0), none, some (.long v2), none, some (.int v4), some (.long v5), none, some (.long v7), none, some (.long (v5 - v5 / v7 * v7)), none]) rfl ?_
      refine rs_lload i_X8_lowest_30 rfl ?_
      refine rs_lstore i_X8_lowest_32 (Nat.le_of_ble_eq_true rfl) (lv' := [some (.long v0), none, some (.long v2), none, some (.int v4), some (.long v7), none, some (.long v7), none, some (.long (v5 - v5 / v7 * v7)), none]) rfl ?_
      refine rs_lload i_X8_lowest_34 rfl ?_
      refine rs_lstore i_X8_lowest_36 (Nat.le_of_ble_eq_true rfl) (lv' := [some (.long v0), none, some (.long v2), none, some (.int v4), some (.long v7), none, some (.long (v5 - v5 / v7 * v7)), none, some (.long (v5 - v5 / v7 * v7)), none]) rfl ?_
      refine rs_goto i_X8_lowest_38 (tg := 16) (by decide) ?_
      exact ih _ _ _ _ _ _ _ _ _ hf
def f_X8_lowest_0 (n : Nat) (v0 : Int64) (v2 : Int64) (v4 : Int32) (h : Hp) : Option (Int64 × Hp) :=
  if v0 ≠ 0 then
    f_X8_lowest_16 n n v0 v2 v4 v0 v2 h
  else
    some ((Int32.toInt64 v4), h)
set_option maxRecDepth 100000 in
set_option maxHeartbeats 4000000 in
theorem r_X8_lowest_0 {X : Nat → Int32} {d : Nat} (hd : 0 ≤ d) {n : Nat} {v0 : Int64} {v2 : Int64} {v4 : Int32} {h : Hp} {o : (Int64 × Hp)} (hf : f_X8_lowest_0 n v0 v2 v4 h = some o) : Run X d 204 0 [some (.long v0), none, some (.long v2), none, some (.int v4), none, none, none, none, none, none] [] h (some (.long o.1), o.2) := by
  unfold f_X8_lowest_0 at hf
  refine rs_lload_n i_X8_lowest_0 rfl ?_
  refine rs_lconst i_X8_lowest_1 (v := 0) (by decide) ?_
  refine rs_lcmp i_X8_lowest_2 ?_
  by_cases c1 : v0 ≠ 0
  · replace hf := (if_pos c1).symm.trans hf
    refine rs_ifT i_X8_lowest_3 (by rw [lc_ne]; exact decide_eq_true c1) (tg := 10) (by decide) ?_
    refine rs_lload_n i_X8_lowest_10 rfl ?_
    refine rs_lstore i_X8_lowest_11 (Nat.le_of_ble_eq_true rfl) (lv' := [some (.long v0), none, some (.long v2), none, some (.int v4), some (.long v0), none, none, none, none, none]) rfl ?_
    refine rs_lload_n i_X8_lowest_13 rfl ?_
    refine rs_lstore i_X8_lowest_14 (Nat.le_of_ble_eq_true rfl) (lv' := [some (.long v0), none, some (.long v2), none, some (.int v4), some (.long v0), none, some (.long v2), none, none, none]) rfl ?_
    exact r_X8_lowest_16 hd _ _ _ _ _ _ _ _ _ _ hf
  · replace hf := (if_neg c1).symm.trans hf
    refine rs_ifF i_X8_lowest_3 (by rw [lc_ne]; exact decide_eq_false c1) ?_
    refine rs_iload i_X8_lowest_6 rfl ?_
    refine rs_i2l i_X8_lowest_8 ?_
    have hf := Option.some.inj hf
    subst hf
    exact rs_lret i_X8_lowest_9 m_X8_lowest rfl
def f_X8_lowest (n : Nat) (v0 : Int64) (v2 : Int64) (v4 : Int32) (h : Hp) : Option (Int64 × Hp) := f_X8_lowest_0 n v0 v2 v4 h
theorem c_X8_lowest {X : Nat → Int32} {d : Nat} (hd : 0 ≤ d) {n : Nat} {v0 : Int64} {v2 : Int64} {v4 : Int32} {h : Hp} {o : (Int64 × Hp)} (hf : f_X8_lowest n v0 v2 v4 h = some o) : Calls X d 204 [.long v0, .long v2, .int v4] h (some (.long o.1), o.2) := by
  exact ⟨_, rfl, r_X8_lowest_0 hd hf⟩
theorem i_X8_power_0 : fetch 205 0 = some (.lconst 1, 1, 0, 0, 0, 0) := by decide +kernel
theorem i_X8_power_1 : fetch 205 1 = some (.lstore_n 3, 2, 0, 0, 0, 0) := by decide +kernel
theorem i_X8_power_2 : fetch 205 2 = some (.iconst 0, 3, 0, 0, 0, 0) := by decide +kernel
theorem i_X8_power_3 : fetch 205 3 = some (.istore 5, 5, 0, 0, 0, 0) := by decide +kernel
theorem i_X8_power_5 : fetch 205 5 = some (.iload 5, 7, 0, 0, 0, 0) := by decide +kernel
theorem i_X8_power_7 : fetch 205 7 = some (.iload_n 2, 8, 0, 0, 0, 0) := by decide +kernel
theorem i_X8_power_8 : fetch 205 8 = some (.if_icmp .ge 13, 11, 0, 0, 0, 0) := by decide +kernel
theorem i_X8_power_11 : fetch 205 11 = some (.lload_n 3, 12, 0, 0, 0, 0) := by decide +kernel
theorem i_X8_power_12 : fetch 205 12 = some (.lload_n 0, 13, 0, 0, 0, 0) := by decide +kernel
theorem i_X8_power_13 : fetch 205 13 = some (.lmul, 14, 0, 0, 0, 0) := by decide +kernel
theorem i_X8_power_14 : fetch 205 14 = some (.lstore_n 3, 15, 0, 0, 0, 0) := by decide +kernel
theorem i_X8_power_15 : fetch 205 15 = some (.iinc 5 1, 18, 0, 0, 0, 0) := by decide +kernel
theorem i_X8_power_18 : fetch 205 18 = some (.goto (-13), 21, 0, 0, 0, 0) := by decide +kernel
theorem i_X8_power_21 : fetch 205 21 = some (.lload_n 3, 22, 0, 0, 0, 0) := by decide +kernel
theorem i_X8_power_22 : fetch 205 22 = some (.lreturn, 23, 0, 0, 0, 0) := by decide +kernel
def f_X8_power_5 (n : Nat) : Nat → Int64 → Int32 → Int64 → Int32 → Hp → Option (Int64 × Hp)
  | 0, _, _, _, _, _ => none
  | m + 1, v0, v2, v3, v5, h =>
    if v2 ≤ v5 then
      some (v3, h)
    else
      (f_X8_power_5 n m) v0 v2 (v3 * v0) (v5 + 1) h
set_option maxRecDepth 100000 in
set_option maxHeartbeats 4000000 in
theorem r_X8_power_5 {X : Nat → Int32} {d : Nat} (hd : 0 ≤ d) {n : Nat} : ∀ (m : Nat) (v0 : Int64) (v2 : Int32) (v3 : Int64) (v5 : Int32) (h : Hp) (o : (Int64 × Hp)), f_X8_power_5 n m v0 v2 v3 v5 h = some o → Run X d 205 5 [some (.long v0), none, some (.int v2), some (.long v3), none, some (.int v5)] [] h (some (.long o.1), o.2) := by
  intro m
  induction m with
  | zero => intro v0 v2 v3 v5 h o hf; cases hf
  | succ m ih =>
    intro v0 v2 v3 v5 h o hf
    rw [f_X8_power_5] at hf
    refine rs_iload i_X8_power_5 rfl ?_
    refine rs_iload_n i_X8_power_7 rfl ?_
    by_cases c1 : v2 ≤ v5
    · replace hf := (if_pos c1).symm.trans hf
      refine rs_icT i_X8_power_8 (ct_ge c1) (tg := 21) (by decide) ?_
      refine rs_lload_n i_X8_power_21 rfl ?_
      have hf := Option.some.inj hf
      subst hf
      exact rs_lret i_X8_power_22 m_X8_power rfl
    · replace hf := (if_neg c1).symm.trans hf
      refine rs_icF i_X8_power_8 (cf_ge c1) ?_
      refine rs_lload_n i_X8_power_11 rfl ?_
      refine rs_lload_n i_X8_power_12 rfl ?_
      refine rs_lmul i_X8_power_13 ?_
      refine rs_lstore_n i_X8_power_14 (Nat.le_of_ble_eq_true rfl) (lv' := [some (.long v0), none, some (.int v2), some (.long (v3 * v0)), none, some (.int v5)]) rfl ?_
      refine rs_iinc i_X8_power_15 rfl (v := v5 + 1) rfl (Nat.le_of_ble_eq_true rfl) (lv' := [some (.long v0), none, some (.int v2), some (.long (v3 * v0)), none, some (.int (v5 + 1))]) rfl ?_
      refine rs_goto i_X8_power_18 (tg := 5) (by decide) ?_
      exact ih _ _ _ _ _ _ hf
def f_X8_power_0 (n : Nat) (v0 : Int64) (v2 : Int32) (h : Hp) : Option (Int64 × Hp) :=
  f_X8_power_5 n n v0 v2 1 0 h
set_option maxRecDepth 100000 in
set_option maxHeartbeats 4000000 in
theorem r_X8_power_0 {X : Nat → Int32} {d : Nat} (hd : 0 ≤ d) {n : Nat} {v0 : Int64} {v2 : Int32} {h : Hp} {o : (Int64 × Hp)} (hf : f_X8_power_0 n v0 v2 h = some o) : Run X d 205 0 [some (.long v0), none, some (.int v2), none, none, none] [] h (some (.long o.1), o.2) := by
  unfold f_X8_power_0 at hf
  refine rs_lconst i_X8_power_0 (v := 1) (by decide) ?_
  refine rs_lstore_n i_X8_power_1 (Nat.le_of_ble_eq_true rfl) (lv' := [some (.long v0), none, some (.int v2), some (.long 1), none, none]) rfl ?_
  refine rs_iconst i_X8_power_2 (v := 0) (by decide) ?_
  refine rs_istore i_X8_power_3 (Nat.le_of_ble_eq_true rfl) (lv' := [some (.long v0), none, some (.int v2), some (.long 1), none, some (.int 0)]) rfl ?_
  exact r_X8_power_5 hd _ _ _ _ _ _ _ hf
def f_X8_power (n : Nat) (v0 : Int64) (v2 : Int32) (h : Hp) : Option (Int64 × Hp) := f_X8_power_0 n v0 v2 h
theorem c_X8_power {X : Nat → Int32} {d : Nat} (hd : 0 ≤ d) {n : Nat} {v0 : Int64} {v2 : Int32} {h : Hp} {o : (Int64 × Hp)} (hf : f_X8_power n v0 v2 h = some o) : Calls X d 205 [.long v0, .int v2] h (some (.long o.1), o.2) := by
  exact ⟨_, rfl, r_X8_power_0 hd hf⟩
theorem i_X8_thin_0 : fetch 206 0 = some (.iload_n 1, 1, 0, 0, 0, 0) := by decide +kernel
theorem i_X8_thin_1 : fetch 206 1 = some (.iconst 1, 2, 0, 0, 0, 0) := by decide +kernel
theorem i_X8_thin_2 : fetch 206 2 = some (.ldc_w 342, 5, 0, 0, 999999, 1448) := by decide +kernel
theorem i_X8_thin_5 : fetch 206 5 = some (.invokestatic 112, 8, 126, 0, 0, 970) := by decide +kernel
theorem i_X8_thin_8 : fetch 206 8 = some (.ifCond .eq 38, 11, 0, 0, 0, 0) := by decide +kernel
theorem i_X8_thin_11 : fetch 206 11 = some (.iload_n 2, 12, 0, 0, 0, 0) := by decide +kernel
theorem i_X8_thin_12 : fetch 206 12 = some (.iconst 0, 13, 0, 0, 0, 0) := by decide +kernel
theorem i_X8_thin_13 : fetch 206 13 = some (.bipush 30, 15, 0, 0, 0, 0) := by decide +kernel
theorem i_X8_thin_15 : fetch 206 15 = some (.invokestatic 112, 18, 126, 0, 0, 970) := by decide +kernel
theorem i_X8_thin_18 : fetch 206 18 = some (.ifCond .eq 28, 21, 0, 0, 0, 0) := by decide +kernel
theorem i_X8_thin_21 : fetch 206 21 = some (.iload_n 3, 22, 0, 0, 0, 0) := by decide +kernel
theorem i_X8_thin_22 : fetch 206 22 = some (.iconst 0, 23, 0, 0, 0, 0) := by decide +kernel
theorem i_X8_thin_23 : fetch 206 23 = some (.iconst 1, 24, 0, 0, 0, 0) := by decide +kernel
theorem i_X8_thin_24 : fetch 206 24 = some (.invokestatic 112, 27, 126, 0, 0, 970) := by decide +kernel
theorem i_X8_thin_27 : fetch 206 27 = some (.ifCond .eq 19, 30, 0, 0, 0, 0) := by decide +kernel
theorem i_X8_thin_30 : fetch 206 30 = some (.iload_n 1, 31, 0, 0, 0, 0) := by decide +kernel
theorem i_X8_thin_31 : fetch 206 31 = some (.i2l, 32, 0, 0, 0, 0) := by decide +kernel
theorem i_X8_thin_32 : fetch 206 32 = some (.ldc2_w 298, 35, 0, 0, 2, 1326) := by decide +kernel
theorem i_X8_thin_35 : fetch 206 35 = some (.iload_n 2, 36, 0, 0, 0, 0) := by decide +kernel
theorem i_X8_thin_36 : fetch 206 36 = some (.invokestatic 343, 39, 205, 0, 0, 1449) := by decide +kernel
theorem i_X8_thin_39 : fetch 206 39 = some (.iload_n 3, 40, 0, 0, 0, 0) := by decide +kernel
theorem i_X8_thin_40 : fetch 206 40 = some (.invokestatic 347, 43, 204, 0, 0, 1452) := by decide +kernel
theorem i_X8_thin_43 : fetch 206 43 = some (.goto 6, 46, 0, 0, 0, 0) := by decide +kernel
theorem i_X8_thin_46 : fetch 206 46 = some (.ldc2_w 311, 49, 0, 0, (-4611686018427387904), 1331) := by decide +kernel
theorem i_X8_thin_49 : fetch 206 49 = some (.lreturn, 50, 0, 0, 0, 0) := by decide +kernel
def f_X8_thin_0 (n : Nat) (v1 : Int32) (v2 : Int32) (v3 : Int32) (h : Hp) : Option (Int64 × Hp) :=
  (f_X8_in v1 1 999999 h).bind fun o1 =>
  if o1.1 = 0 then
    some ((-4611686018427387904), o1.2)
  else
    (f_X8_in v2 0 30 o1.2).bind fun o3 =>
    if o3.1 = 0 then
      some ((-4611686018427387904), o3.2)
    else
      (f_X8_in v3 0 1 o3.2).bind fun o5 =>
      if o5.1 = 0 then
        some ((-4611686018427387904), o5.2)
      else
        (f_X8_power n 2 v2 o5.2).bind fun o7 =>
        (f_X8_lowest n (Int32.toInt64 v1) o7.1 v3 o7.2).bind fun o8 =>
        some (o8.1, o8.2)
set_option maxRecDepth 100000 in
set_option maxHeartbeats 4000000 in
theorem r_X8_thin_0 {X : Nat → Int32} {d : Nat} (hd : 1 ≤ (d + 1)) {n : Nat} {v1 : Int32} {v2 : Int32} {v3 : Int32} {d0 : Nat} {h : Hp} {o : (Int64 × Hp)} (hf : f_X8_thin_0 n v1 v2 v3 h = some o) : Run X (d + 1) 206 0 [some (.ref d0), some (.int v1), some (.int v2), some (.int v3)] [] h (some (.long o.1), o.2) := by
  unfold f_X8_thin_0 at hf
  refine rs_iload_n i_X8_thin_0 rfl ?_
  refine rs_iconst i_X8_thin_1 (v := 1) (by decide) ?_
  refine rs_ldcw i_X8_thin_2 (v := 999999) (by decide) ?_
  obtain ⟨o1, e1, hf⟩ := bind_some hf
  refine rs_inS i_X8_thin_5 (by decide) m_X8_in rfl (As := [.int v1, .int 1, .int 999999]) (rest := []) rfl rfl (Nat.le_of_ble_eq_true rfl) (c_X8_in (by omega) e1) (st' := [.int o1.1]) rfl ?_
  by_cases c2 : o1.1 = 0
  · replace hf := (if_pos c2).symm.trans hf
    refine rs_ifT i_X8_thin_8 (ct_eq c2) (tg := 46) (by decide) ?_
    refine rs_ldc2 i_X8_thin_46 (v := (-4611686018427387904)) (by decide) ?_
    have hf := Option.some.inj hf
    subst hf
    exact rs_lret i_X8_thin_49 m_X8_thin rfl
  · replace hf := (if_neg c2).symm.trans hf
    refine rs_ifF i_X8_thin_8 (cf_eq c2) ?_
    refine rs_iload_n i_X8_thin_11 rfl ?_
    refine rs_iconst i_X8_thin_12 (v := 0) (by decide) ?_
    refine rs_bipush i_X8_thin_13 (v := 30) (by decide) ?_
    obtain ⟨o3, e3, hf⟩ := bind_some hf
    refine rs_inS i_X8_thin_15 (by decide) m_X8_in rfl (As := [.int v2, .int 0, .int 30]) (rest := []) rfl rfl (Nat.le_of_ble_eq_true rfl) (c_X8_in (by omega) e3) (st' := [.int o3.1]) rfl ?_
    by_cases c4 : o3.1 = 0
    · replace hf := (if_pos c4).symm.trans hf
      refine rs_ifT i_X8_thin_18 (ct_eq c4) (tg := 46) (by decide) ?_
      refine rs_ldc2 i_X8_thin_46 (v := (-4611686018427387904)) (by decide) ?_
      have hf := Option.some.inj hf
      subst hf
      exact rs_lret i_X8_thin_49 m_X8_thin rfl
    · replace hf := (if_neg c4).symm.trans hf
      refine rs_ifF i_X8_thin_18 (cf_eq c4) ?_
      refine rs_iload_n i_X8_thin_21 rfl ?_
      refine rs_iconst i_X8_thin_22 (v := 0) (by decide) ?_
      refine rs_iconst i_X8_thin_23 (v := 1) (by decide) ?_
      obtain ⟨o5, e5, hf⟩ := bind_some hf
      refine rs_inS i_X8_thin_24 (by decide) m_X8_in rfl (As := [.int v3, .int 0, .int 1]) (rest := []) rfl rfl (Nat.le_of_ble_eq_true rfl) (c_X8_in (by omega) e5) (st' := [.int o5.1]) rfl ?_
      by_cases c6 : o5.1 = 0
      · replace hf := (if_pos c6).symm.trans hf
        refine rs_ifT i_X8_thin_27 (ct_eq c6) (tg := 46) (by decide) ?_
        refine rs_ldc2 i_X8_thin_46 (v := (-4611686018427387904)) (by decide) ?_
        have hf := Option.some.inj hf
        subst hf
        exact rs_lret i_X8_thin_49 m_X8_thin rfl
      · replace hf := (if_neg c6).symm.trans hf
        refine rs_ifF i_X8_thin_27 (cf_eq c6) ?_
        refine rs_iload_n i_X8_thin_30 rfl ?_
        refine rs_i2l i_X8_thin_31 ?_
        refine rs_ldc2 i_X8_thin_32 (v := 2) (by decide) ?_
        refine rs_iload_n i_X8_thin_35 rfl ?_
        obtain ⟨o7, e7, hf⟩ := bind_some hf
        refine rs_inS i_X8_thin_36 (by decide) m_X8_power rfl (As := [.long 2, .int v2]) (rest := [.long (Int32.toInt64 v1)]) rfl rfl (Nat.le_of_ble_eq_true rfl) (c_X8_power (by omega) e7) (st' := [.long o7.1, .long (Int32.toInt64 v1)]) rfl ?_
        refine rs_iload_n i_X8_thin_39 rfl ?_
        obtain ⟨o8, e8, hf⟩ := bind_some hf
        refine rs_inS i_X8_thin_40 (by decide) m_X8_lowest rfl (As := [.long (Int32.toInt64 v1), .long o7.1, .int v3]) (rest := []) rfl rfl (Nat.le_of_ble_eq_true rfl) (c_X8_lowest (by omega) e8) (st' := [.long o8.1]) rfl ?_
        refine rs_goto i_X8_thin_43 (tg := 49) (by decide) ?_
        have hf := Option.some.inj hf
        subst hf
        exact rs_lret i_X8_thin_49 m_X8_thin rfl
def f_X8_thin (n : Nat) (v0 : Nat) (v1 : Int32) (v2 : Int32) (v3 : Int32) (h : Hp) : Option (Int64 × Hp) := f_X8_thin_0 n v1 v2 v3 h
theorem c_X8_thin {X : Nat → Int32} {d : Nat} (hd : 1 ≤ d) {n : Nat} {v0 : Nat} {v1 : Int32} {v2 : Int32} {v3 : Int32} {h : Hp} {o : (Int64 × Hp)} (hf : f_X8_thin n v0 v1 v2 v3 h = some o) : Calls X d 206 [.ref v0, .int v1, .int v2, .int v3] h (some (.long o.1), o.2) := by
  obtain ⟨d, rfl⟩ : ∃ z, d = z + 1 := ⟨d - 1, by omega⟩
  exact ⟨_, rfl, r_X8_thin_0 hd hf⟩
theorem i_X8_areOdds_0 : fetch 207 0 = some (.iload_n 1, 1, 0, 0, 0, 0) := by decide +kernel
theorem i_X8_areOdds_1 : fetch 207 1 = some (.iconst 1, 2, 0, 0, 0, 0) := by decide +kernel
theorem i_X8_areOdds_2 : fetch 207 2 = some (.bipush 30, 4, 0, 0, 0, 0) := by decide +kernel
theorem i_X8_areOdds_4 : fetch 207 4 = some (.invokestatic 112, 7, 126, 0, 0, 970) := by decide +kernel
theorem i_X8_areOdds_7 : fetch 207 7 = some (.ifCond .eq 16, 10, 0, 0, 0, 0) := by decide +kernel
theorem i_X8_areOdds_10 : fetch 207 10 = some (.iload_n 0, 11, 0, 0, 0, 0) := by decide +kernel
theorem i_X8_areOdds_11 : fetch 207 11 = some (.iconst 0, 12, 0, 0, 0, 0) := by decide +kernel
theorem i_X8_areOdds_12 : fetch 207 12 = some (.iload_n 1, 13, 0, 0, 0, 0) := by decide +kernel
theorem i_X8_areOdds_13 : fetch 207 13 = some (.invokestatic 112, 16, 126, 0, 0, 970) := by decide +kernel
theorem i_X8_areOdds_16 : fetch 207 16 = some (.ifCond .eq 7, 19, 0, 0, 0, 0) := by decide +kernel
theorem i_X8_areOdds_19 : fetch 207 19 = some (.iconst 1, 20, 0, 0, 0, 0) := by decide +kernel
theorem i_X8_areOdds_20 : fetch 207 20 = some (.goto 4, 23, 0, 0, 0, 0) := by decide +kernel
theorem i_X8_areOdds_23 : fetch 207 23 = some (.iconst 0, 24, 0, 0, 0, 0) := by decide +kernel
theorem i_X8_areOdds_24 : fetch 207 24 = some (.ireturn, 25, 0, 0, 0, 0) := by decide +kernel
def f_X8_areOdds_0 (v0 : Int32) (v1 : Int32) (h : Hp) : Option (Int32 × Hp) :=
  (f_X8_in v1 1 30 h).bind fun o1 =>
  if o1.1 = 0 then
    some (0, o1.2)
  else
    (f_X8_in v0 0 v1 o1.2).bind fun o3 =>
    if o3.1 = 0 then
      some (0, o3.2)
    else
      some (1, o3.2)
set_option maxRecDepth 100000 in
set_option maxHeartbeats 4000000 in
theorem r_X8_areOdds_0 {X : Nat → Int32} {d : Nat} (hd : 1 ≤ (d + 1)) {v0 : Int32} {v1 : Int32} {h : Hp} {o : (Int32 × Hp)} (hf : f_X8_areOdds_0 v0 v1 h = some o) : Run X (d + 1) 207 0 [some (.int v0), some (.int v1)] [] h (some (.int o.1), o.2) := by
  unfold f_X8_areOdds_0 at hf
  refine rs_iload_n i_X8_areOdds_0 rfl ?_
  refine rs_iconst i_X8_areOdds_1 (v := 1) (by decide) ?_
  refine rs_bipush i_X8_areOdds_2 (v := 30) (by decide) ?_
  obtain ⟨o1, e1, hf⟩ := bind_some hf
  refine rs_inS i_X8_areOdds_4 (by decide) m_X8_in rfl (As := [.int v1, .int 1, .int 30]) (rest := []) rfl rfl (Nat.le_of_ble_eq_true rfl) (c_X8_in (by omega) e1) (st' := [.int o1.1]) rfl ?_
  by_cases c2 : o1.1 = 0
  · replace hf := (if_pos c2).symm.trans hf
    refine rs_ifT i_X8_areOdds_7 (ct_eq c2) (tg := 23) (by decide) ?_
    refine rs_iconst i_X8_areOdds_23 (v := 0) (by decide) ?_
    have hf := Option.some.inj hf
    subst hf
    exact rs_iret i_X8_areOdds_24 m_X8_areOdds (by decide)
  · replace hf := (if_neg c2).symm.trans hf
    refine rs_ifF i_X8_areOdds_7 (cf_eq c2) ?_
    refine rs_iload_n i_X8_areOdds_10 rfl ?_
    refine rs_iconst i_X8_areOdds_11 (v := 0) (by decide) ?_
    refine rs_iload_n i_X8_areOdds_12 rfl ?_
    obtain ⟨o3, e3, hf⟩ := bind_some hf
    refine rs_inS i_X8_areOdds_13 (by decide) m_X8_in rfl (As := [.int v0, .int 0, .int v1]) (rest := []) rfl rfl (Nat.le_of_ble_eq_true rfl) (c_X8_in (by omega) e3) (st' := [.int o3.1]) rfl ?_
    by_cases c4 : o3.1 = 0
    · replace hf := (if_pos c4).symm.trans hf
      refine rs_ifT i_X8_areOdds_16 (ct_eq c4) (tg := 23) (by decide) ?_
      refine rs_iconst i_X8_areOdds_23 (v := 0) (by decide) ?_
      have hf := Option.some.inj hf
      subst hf
      exact rs_iret i_X8_areOdds_24 m_X8_areOdds (by decide)
    · replace hf := (if_neg c4).symm.trans hf
      refine rs_ifF i_X8_areOdds_16 (cf_eq c4) ?_
      refine rs_iconst i_X8_areOdds_19 (v := 1) (by decide) ?_
      refine rs_goto i_X8_areOdds_20 (tg := 24) (by decide) ?_
      have hf := Option.some.inj hf
      subst hf
      exact rs_iret i_X8_areOdds_24 m_X8_areOdds (by decide)
def f_X8_areOdds (v0 : Int32) (v1 : Int32) (h : Hp) : Option (Int32 × Hp) := f_X8_areOdds_0 v0 v1 h
theorem c_X8_areOdds {X : Nat → Int32} {d : Nat} (hd : 1 ≤ d) {v0 : Int32} {v1 : Int32} {h : Hp} {o : (Int32 × Hp)} (hf : f_X8_areOdds v0 v1 h = some o) : Calls X d 207 [.int v0, .int v1] h (some (.int o.1), o.2) := by
  obtain ⟨d, rfl⟩ : ∃ z, d = z + 1 := ⟨d - 1, by omega⟩
  exact ⟨_, rfl, r_X8_areOdds_0 hd hf⟩
theorem i_X8_odds_0 : fetch 208 0 = some (.iload_n 1, 1, 0, 0, 0, 0) := by decide +kernel
theorem i_X8_odds_1 : fetch 208 1 = some (.iload_n 2, 2, 0, 0, 0, 0) := by decide +kernel
theorem i_X8_odds_2 : fetch 208 2 = some (.invokestatic 351, 5, 207, 0, 0, 1459) := by decide +kernel
theorem i_X8_odds_5 : fetch 208 5 = some (.ifCond .eq 45, 8, 0, 0, 0, 0) := by decide +kernel
theorem i_X8_odds_8 : fetch 208 8 = some (.iload_n 3, 9, 0, 0, 0, 0) := by decide +kernel
theorem i_X8_odds_9 : fetch 208 9 = some (.iconst 0, 10, 0, 0, 0, 0) := by decide +kernel
theorem i_X8_odds_10 : fetch 208 10 = some (.bipush 10, 12, 0, 0, 0, 0) := by decide +kernel
theorem i_X8_odds_12 : fetch 208 12 = some (.invokestatic 112, 15, 126, 0, 0, 970) := by decide +kernel
theorem i_X8_odds_15 : fetch 208 15 = some (.ifCond .eq 35, 18, 0, 0, 0, 0) := by decide +kernel
theorem i_X8_odds_18 : fetch 208 18 = some (.iload 4, 20, 0, 0, 0, 0) := by decide +kernel
theorem i_X8_odds_20 : fetch 208 20 = some (.iconst 0, 21, 0, 0, 0, 0) := by decide +kernel
theorem i_X8_odds_21 : fetch 208 21 = some (.iconst 1, 22, 0, 0, 0, 0) := by decide +kernel
theorem i_X8_odds_22 : fetch 208 22 = some (.invokestatic 112, 25, 126, 0, 0, 970) := by decide +kernel
theorem i_X8_odds_25 : fetch 208 25 = some (.ifCond .eq 25, 28, 0, 0, 0, 0) := by decide +kernel
theorem i_X8_odds_28 : fetch 208 28 = some (.iload_n 2, 29, 0, 0, 0, 0) := by decide +kernel
theorem i_X8_odds_29 : fetch 208 29 = some (.iload_n 1, 30, 0, 0, 0, 0) := by decide +kernel
theorem i_X8_odds_30 : fetch 208 30 = some (.isub, 31, 0, 0, 0, 0) := by decide +kernel
theorem i_X8_odds_31 : fetch 208 31 = some (.i2l, 32, 0, 0, 0, 0) := by decide +kernel
theorem i_X8_odds_32 : fetch 208 32 = some (.iload_n 3, 33, 0, 0, 0, 0) := by decide +kernel
theorem i_X8_odds_33 : fetch 208 33 = some (.invokestatic 343, 36, 205, 0, 0, 1449) := by decide +kernel
theorem i_X8_odds_36 : fetch 208 36 = some (.iload_n 2, 37, 0, 0, 0, 0) := by decide +kernel
theorem i_X8_odds_37 : fetch 208 37 = some (.i2l, 38, 0, 0, 0, 0) := by decide +kernel
theorem i_X8_odds_38 : fetch 208 38 = some (.iload_n 3, 39, 0, 0, 0, 0) := by decide +kernel
theorem i_X8_odds_39 : fetch 208 39 = some (.invokestatic 343, 42, 205, 0, 0, 1449) := by decide +kernel
theorem i_X8_odds_42 : fetch 208 42 = some (.iload 4, 44, 0, 0, 0, 0) := by decide +kernel
theorem i_X8_odds_44 : fetch 208 44 = some (.invokestatic 347, 47, 204, 0, 0, 1452) := by decide +kernel
theorem i_X8_odds_47 : fetch 208 47 = some (.goto 6, 50, 0, 0, 0, 0) := by decide +kernel
theorem i_X8_odds_50 : fetch 208 50 = some (.ldc2_w 311, 53, 0, 0, (-4611686018427387904), 1331) := by decide +kernel
theorem i_X8_odds_53 : fetch 208 53 = some (.lreturn, 54, 0, 0, 0, 0) := by decide +kernel
def f_X8_odds_0 (n : Nat) (v1 : Int32) (v2 : Int32) (v3 : Int32) (v4 : Int32) (h : Hp) : Option (Int64 × Hp) :=
  (f_X8_areOdds v1 v2 h).bind fun o1 =>
  if o1.1 = 0 then
    some ((-4611686018427387904), o1.2)
  else
    (f_X8_in v3 0 10 o1.2).bind fun o3 =>
    if o3.1 = 0 then
      some ((-4611686018427387904), o3.2)
    else
      (f_X8_in v4 0 1 o3.2).bind fun o5 =>
      if o5.1 = 0 then
        some ((-4611686018427387904), o5.2)
      else
        (f_X8_power n (Int32.toInt64 (v2 - v1)) v3 o5.2).bind fun o7 =>
        (f_X8_power n (Int32.toInt64 v2) v3 o7.2).bind fun o8 =>
        (f_X8_lowest n o7.1 o8.1 v4 o8.2).bind fun o9 =>
        some (o9.1, o9.2)
set_option maxRecDepth 100000 in
set_option maxHeartbeats 4000000 in
theorem r_X8_odds_0 {X : Nat → Int32} {d : Nat} (hd : 2 ≤ (d + 1)) {n : Nat} {v1 : Int32} {v2 : Int32} {v3 : Int32} {v4 : Int32} {d0 : Nat} {h : Hp} {o : (Int64 × Hp)} (hf : f_X8_odds_0 n v1 v2 v3 v4 h = some o) : Run X (d + 1) 208 0 [some (.ref d0), some (.int v1), some (.int v2), some (.int v3), some (.int v4)] [] h (some (.long o.1), o.2) := by
  unfold f_X8_odds_0 at hf
  refine rs_iload_n i_X8_odds_0 rfl ?_
  refine rs_iload_n i_X8_odds_1 rfl ?_
  obtain ⟨o1, e1, hf⟩ := bind_some hf
  refine rs_inS i_X8_odds_2 (by decide) m_X8_areOdds rfl (As := [.int v1, .int v2]) (rest := []) rfl rfl (Nat.le_of_ble_eq_true rfl) (c_X8_areOdds (by omega) e1) (st' := [.int o1.1]) rfl ?_
  by_cases c2 : o1.1 = 0
  · replace hf := (if_pos c2).symm.trans hf
    refine rs_ifT i_X8_odds_5 (ct_eq c2) (tg := 50) (by decide) ?_
    refine rs_ldc2 i_X8_odds_50 (v := (-4611686018427387904)) (by decide) ?_
    have hf := Option.some.inj hf
    subst hf
    exact rs_lret i_X8_odds_53 m_X8_odds rfl
  · replace hf := (if_neg c2).symm.trans hf
    refine rs_ifF i_X8_odds_5 (cf_eq c2) ?_
    refine rs_iload_n i_X8_odds_8 rfl ?_
    refine rs_iconst i_X8_odds_9 (v := 0) (by decide) ?_
    refine rs_bipush i_X8_odds_10 (v := 10) (by decide) ?_
    obtain ⟨o3, e3, hf⟩ := bind_some hf
    refine rs_inS i_X8_odds_12 (by decide) m_X8_in rfl (As := [.int v3, .int 0, .int 10]) (rest := []) rfl rfl (Nat.le_of_ble_eq_true rfl) (c_X8_in (by omega) e3) (st' := [.int o3.1]) rfl ?_
    by_cases c4 : o3.1 = 0
    · replace hf := (if_pos c4).symm.trans hf
      refine rs_ifT i_X8_odds_15 (ct_eq c4) (tg := 50) (by decide) ?_
      refine rs_ldc2 i_X8_odds_50 (v := (-4611686018427387904)) (by decide) ?_
      have hf := Option.some.inj hf
      subst hf
      exact rs_lret i_X8_odds_53 m_X8_odds rfl
    · replace hf := (if_neg c4).symm.trans hf
      refine rs_ifF i_X8_odds_15 (cf_eq c4) ?_
      refine rs_iload i_X8_odds_18 rfl ?_
      refine rs_iconst i_X8_odds_20 (v := 0) (by decide) ?_
      refine rs_iconst i_X8_odds_21 (v := 1) (by decide) ?_
      obtain ⟨o5, e5, hf⟩ := bind_some hf
      refine rs_inS i_X8_odds_22 (by decide) m_X8_in rfl (As := [.int v4, .int 0, .int 1]) (rest := []) rfl rfl (Nat.le_of_ble_eq_true rfl) (c_X8_in (by omega) e5) (st' := [.int o5.1]) rfl ?_
      by_cases c6 : o5.1 = 0
      · replace hf := (if_pos c6).symm.trans hf
        refine rs_ifT i_X8_odds_25 (ct_eq c6) (tg := 50) (by decide) ?_
        refine rs_ldc2 i_X8_odds_50 (v := (-4611686018427387904)) (by decide) ?_
        have hf := Option.some.inj hf
        subst hf
        exact rs_lret i_X8_odds_53 m_X8_odds rfl
      · replace hf := (if_neg c6).symm.trans hf
        refine rs_ifF i_X8_odds_25 (cf_eq c6) ?_
        refine rs_iload_n i_X8_odds_28 rfl ?_
        refine rs_iload_n i_X8_odds_29 rfl ?_
        refine rs_isub i_X8_odds_30 ?_
        refine rs_i2l i_X8_odds_31 ?_
        refine rs_iload_n i_X8_odds_32 rfl ?_
        obtain ⟨o7, e7, hf⟩ := bind_some hf
        refine rs_inS i_X8_odds_33 (by decide) m_X8_power rfl (As := [.long (Int32.toInt64 (v2 - v1)), .int v3]) (rest := []) rfl rfl (Nat.le_of_ble_eq_true rfl) (c_X8_power (by omega) e7) (st' := [.long o7.1]) rfl ?_
        refine rs_iload_n i_X8_odds_36 rfl ?_
        refine rs_i2l i_X8_odds_37 ?_
        refine rs_iload_n i_X8_odds_38 rfl ?_
        obtain ⟨o8, e8, hf⟩ := bind_some hf
        refine rs_inS i_X8_odds_39 (by decide) m_X8_power rfl (As := [.long (Int32.toInt64 v2), .int v3]) (rest := [.long o7.1]) rfl rfl (Nat.le_of_ble_eq_true rfl) (c_X8_power (by omega) e8) (st' := [.long o8.1, .long o7.1]) rfl ?_
        refine rs_iload i_X8_odds_42 rfl ?_
        obtain ⟨o9, e9, hf⟩ := bind_some hf
        refine rs_inS i_X8_odds_44 (by decide) m_X8_lowest rfl (As := [.long o7.1, .long o8.1, .int v4]) (rest := []) rfl rfl (Nat.le_of_ble_eq_true rfl) (c_X8_lowest (by omega) e9) (st' := [.long o9.1]) rfl ?_
        refine rs_goto i_X8_odds_47 (tg := 53) (by decide) ?_
        have hf := Option.some.inj hf
        subst hf
        exact rs_lret i_X8_odds_53 m_X8_odds rfl
def f_X8_odds (n : Nat) (v0 : Nat) (v1 : Int32) (v2 : Int32) (v3 : Int32) (v4 : Int32) (h : Hp) : Option (Int64 × Hp) := f_X8_odds_0 n v1 v2 v3 v4 h
theorem c_X8_odds {X : Nat → Int32} {d : Nat} (hd : 2 ≤ d) {n : Nat} {v0 : Nat} {v1 : Int32} {v2 : Int32} {v3 : Int32} {v4 : Int32} {h : Hp} {o : (Int64 × Hp)} (hf : f_X8_odds n v0 v1 v2 v3 v4 h = some o) : Calls X d 208 [.ref v0, .int v1, .int v2, .int v3, .int v4] h (some (.long o.1), o.2) := by
  obtain ⟨d, rfl⟩ : ∃ z, d = z + 1 := ⟨d - 1, by omega⟩
  exact ⟨_, rfl, r_X8_odds_0 hd hf⟩
theorem i_X8_record_0 : fetch 209 0 = some (.iload_n 1, 1, 0, 0, 0, 0) := by decide +kernel
theorem i_X8_record_1 : fetch 209 1 = some (.iload_n 2, 2, 0, 0, 0, 0) := by decide +kernel
theorem i_X8_record_2 : fetch 209 2 = some (.invokestatic 351, 5, 207, 0, 0, 1459) := by decide +kernel
theorem i_X8_record_5 : fetch 209 5 = some (.ifCond .eq 13, 8, 0, 0, 0, 0) := by decide +kernel
theorem i_X8_record_8 : fetch 209 8 = some (.iload_n 3, 9, 0, 0, 0, 0) := by decide +kernel
theorem i_X8_record_9 : fetch 209 9 = some (.iconst 0, 10, 0, 0, 0, 0) := by decide +kernel
theorem i_X8_record_10 : fetch 209 10 = some (.bipush 100, 12, 0, 0, 0, 0) := by decide +kernel
theorem i_X8_record_12 : fetch 209 12 = some (.invokestatic 112, 15, 126, 0, 0, 970) := by decide +kernel
theorem i_X8_record_15 : fetch 209 15 = some (.ifCond .ne 6, 18, 0, 0, 0, 0) := by decide +kernel
theorem i_X8_record_18 : fetch 209 18 = some (.bipush (-2), 20, 0, 0, 0, 0) := by decide +kernel
theorem i_X8_record_20 : fetch 209 20 = some (.ireturn, 21, 0, 0, 0, 0) := by decide +kernel
theorem i_X8_record_21 : fetch 209 21 = some (.iconst 0, 22, 0, 0, 0, 0) := by decide +kernel
theorem i_X8_record_22 : fetch 209 22 = some (.istore 4, 24, 0, 0, 0, 0) := by decide +kernel
theorem i_X8_record_24 : fetch 209 24 = some (.iconst 1, 25, 0, 0, 0, 0) := by decide +kernel
theorem i_X8_record_25 : fetch 209 25 = some (.istore 5, 27, 0, 0, 0, 0) := by decide +kernel
theorem i_X8_record_27 : fetch 209 27 = some (.iload 5, 29, 0, 0, 0, 0) := by decide +kernel
theorem i_X8_record_29 : fetch 209 29 = some (.bipush 10, 31, 0, 0, 0, 0) := by decide +kernel
theorem i_X8_record_31 : fetch 209 31 = some (.if_icmp .gt 45, 34, 0, 0, 0, 0) := by decide +kernel
theorem i_X8_record_34 : fetch 209 34 = some (.iload_n 2, 35, 0, 0, 0, 0) := by decide +kernel
theorem i_X8_record_35 : fetch 209 35 = some (.iload_n 1, 36, 0, 0, 0, 0) := by decide +kernel
theorem i_X8_record_36 : fetch 209 36 = some (.isub, 37, 0, 0, 0, 0) := by decide +kernel
theorem i_X8_record_37 : fetch 209 37 = some (.i2l, 38, 0, 0, 0, 0) := by decide +kernel
theorem i_X8_record_38 : fetch 209 38 = some (.iload 5, 40, 0, 0, 0, 0) := by decide +kernel
theorem i_X8_record_40 : fetch 209 40 = some (.invokestatic 343, 43, 205, 0, 0, 1449) := by decide +kernel
theorem i_X8_record_43 : fetch 209 43 = some (.ldc2_w 243, 46, 0, 0, 100, 1279) := by decide +kernel
theorem i_X8_record_46 : fetch 209 46 = some (.lmul, 47, 0, 0, 0, 0) := by decide +kernel
theorem i_X8_record_47 : fetch 209 47 = some (.iload_n 3, 48, 0, 0, 0, 0) := by decide +kernel
theorem i_X8_record_48 : fetch 209 48 = some (.i2l, 49, 0, 0, 0, 0) := by decide +kernel
theorem i_X8_record_49 : fetch 209 49 = some (.iload_n 2, 50, 0, 0, 0, 0) := by decide +kernel
theorem i_X8_record_50 : fetch 209 50 = some (.i2l, 51, 0, 0, 0, 0) := by decide +kernel
theorem i_X8_record_51 : fetch 209 51 = some (.iload 5, 53, 0, 0, 0, 0) := by decide +kernel
theorem i_X8_record_53 : fetch 209 53 = some (.invokestatic 343, 56, 205, 0, 0, 1449) := by decide +kernel
theorem i_X8_record_56 : fetch 209 56 = some (.lmul, 57, 0, 0, 0, 0) := by decide +kernel
theorem i_X8_record_57 : fetch 209 57 = some (.lcmp, 58, 0, 0, 0, 0) := by decide +kernel
theorem i_X8_record_58 : fetch 209 58 = some (.ifCond .lt 8, 61, 0, 0, 0, 0) := by decide +kernel
theorem i_X8_record_61 : fetch 209 61 = some (.iload 5, 63, 0, 0, 0, 0) := by decide +kernel
theorem i_X8_record_63 : fetch 209 63 = some (.goto 5, 66, 0, 0, 0, 0) := by decide +kernel
theorem i_X8_record_66 : fetch 209 66 = some (.iload 4, 68, 0, 0, 0, 0) := by decide +kernel
theorem i_X8_record_68 : fetch 209 68 = some (.istore 4, 70, 0, 0, 0, 0) := by decide +kernel
theorem i_X8_record_70 : fetch 209 70 = some (.iinc 5 1, 73, 0, 0, 0, 0) := by decide +kernel
theorem i_X8_record_73 : fetch 209 73 = some (.goto (-46), 76, 0, 0, 0, 0) := by decide +kernel
theorem i_X8_record_76 : fetch 209 76 = some (.iload 4, 78, 0, 0, 0, 0) := by decide +kernel
theorem i_X8_record_78 : fetch 209 78 = some (.ireturn, 79, 0, 0, 0, 0) := by decide +kernel
def f_X8_record_68 (n : Nat) (K27 : Int32 → Int32 → Int32 → Int32 → Int32 → Hp → Option (Int32 × Hp)) (v1 : Int32) (v2 : Int32) (v3 : Int32) (v5 : Int32) (s0 : Int32) (h : Hp) : Option (Int32 × Hp) :=
  K27 v1 v2 v3 s0 (v5 + 1) h
set_option maxRecDepth 100000 in
set_option maxHeartbeats 4000000 in
theorem r_X8_record_68 {X : Nat → Int32} {d : Nat} (hd : 2 ≤ (d + 1)) {n : Nat} {K27 : Int32 → Int32 → Int32 → Int32 → Int32 → Hp → Option (Int32 × Hp)} (HK27 : ∀ (v1 : Int32) (v2 : Int32) (v3 : Int32) (v4 : Int32) (v5 : Int32) (d0 : Nat) (h : Hp) (o : (Int32 × Hp)), K27 v1 v2 v3 v4 v5 h = some o → Run X (d + 1) 209 27 [some (.ref d0), some (.int v1), some (.int v2), some (.int v3), some (.int v4), some (.int v5)] [] h (some (.int o.1), o.2)) {v1 : Int32} {v2 : Int32} {v3 : Int32} {v5 : Int32} {s0 : Int32} {d0 : Nat} {d4 : Int32} {h : Hp} {o : (Int32 × Hp)} (hf : f_X8_record_68 n K27 v1 v2 v3 v5 s0 h = some o) : Run X (d + 1) 209 68 [some (.ref d0), some (.int v1), some (.int v2), some (.int v3), some (.int d4), some (.int v5)] [.int s0] h (some (.int o.1), o.2) := by
  unfold f_X8_record_68 at hf
  refine rs_istore i_X8_record_68 (Nat.le_of_ble_eq_true rfl) (lv' := [some (.ref d0), some (.int v1), some (.int v2), some (.int v3), some (.int s0), some (.int v5)]) rfl ?_
  refine rs_iinc i_X8_record_70 rfl (v := v5 + 1) rfl (Nat.le_of_ble_eq_true rfl) (lv' := [some (.ref d0), some (.int v1), some (.int v2), some (.int v3), some (.int s0), some (.int (v5 + 1))]) rfl ?_
  refine rs_goto i_X8_record_73 (tg := 27) (by decide) ?_
  exact HK27 _ _ _ _ _ _ _ _ hf
def f_X8_record_27 (n : Nat) : Nat → Int32 → Int32 → Int32 → Int32 → Int32 → Hp → Option (Int32 × Hp)
  | 0, _, _, _, _, _, _ => none
  | m + 1, v1, v2, v3, v4, v5, h =>
    if 10 < v5 then
      some (v4, h)
    else
      (f_X8_power n (Int32.toInt64 (v2 - v1)) v5 h).bind fun o2 =>
      (f_X8_power n (Int32.toInt64 v2) v5 o2.2).bind fun o3 =>
      if (o2.1 * 100) < ((Int32.toInt64 v3) * o3.1) then
        f_X8_record_68 n (f_X8_record_27 n m) v1 v2 v3 v5 v4 o3.2
      else
        f_X8_record_68 n (f_X8_record_27 n m) v1 v2 v3 v5 v5 o3.2
set_option maxRecDepth 100000 in
set_option maxHeartbeats 4000000 in
theorem r_X8_record_27 {X : Nat → Int32} {d : Nat} (hd : 2 ≤ (d + 1)) {n : Nat} : ∀ (m : Nat) (v1 : Int32) (v2 : Int32) (v3 : Int32) (v4 : Int32) (v5 : Int32) (d0 : Nat) (h : Hp) (o : (Int32 × Hp)), f_X8_record_27 n m v1 v2 v3 v4 v5 h = some o → Run X (d + 1) 209 27 [some (.ref d0), some (.int v1), some (.int v2), some (.int v3), some (.int v4), some (.int v5)] [] h (some (.int o.1), o.2) := by
  intro m
  induction m with
  | zero => intro v1 v2 v3 v4 v5 d0 h o hf; cases hf
  | succ m ih =>
    intro v1 v2 v3 v4 v5 d0 h o hf
    rw [f_X8_record_27] at hf
    refine rs_iload i_X8_record_27 rfl ?_
    refine rs_bipush i_X8_record_29 (v := 10) (by decide) ?_
    by_cases c1 : 10 < v5
    · replace hf := (if_pos c1).symm.trans hf
      refine rs_icT i_X8_record_31 (ct_gt c1) (tg := 76) (by decide) ?_
      refine rs_iload i_X8_record_76 rfl ?_
      have hf := Option.some.inj hf
      subst hf
      exact rs_iret i_X8_record_78 m_X8_record rfl
    · replace hf := (if_neg c1).symm.trans hf
      refine rs_icF i_X8_record_31 (cf_gt c1) ?_
      refine rs_iload_n i_X8_record_34 rfl ?_
      refine rs_iload_n i_X8_record_35 rfl ?_
      refine rs_isub i_X8_record_36 ?_
      refine rs_i2l i_X8_record_37 ?_
      refine rs_iload i_X8_record_38 rfl ?_
      obtain ⟨o2, e2, hf⟩ := bind_some hf
      refine rs_inS i_X8_record_40 (by decide) m_X8_power rfl (As := [.long (Int32.toInt64 (v2 - v1)), .int v5]) (rest := []) rfl rfl (Nat.le_of_ble_eq_true rfl) (c_X8_power (by omega) e2) (st' := [.long o2.1]) rfl ?_
      refine rs_ldc2 i_X8_record_43 (v := 100) (by decide) ?_
      refine rs_lmul i_X8_record_46 ?_
      refine rs_iload_n i_X8_record_47 rfl ?_
      refine rs_i2l i_X8_record_48 ?_
      refine rs_iload_n i_X8_record_49 rfl ?_
      refine rs_i2l i_X8_record_50 ?_
      refine rs_iload i_X8_record_51 rfl ?_
      obtain ⟨o3, e3, hf⟩ := bind_some hf
      refine rs_inS i_X8_record_53 (by decide) m_X8_power rfl (As := [.long (Int32.toInt64 v2), .int v5]) (rest := [.long (Int32.toInt64 v3), .long (o2.1 * 100)]) rfl rfl (Nat.le_of_ble_eq_true rfl) (c_X8_power (by omega) e3) (st' := [.long o3.1, .long (Int32.toInt64 v3), .long (o2.1 * 100)]) rfl ?_
      refine rs_lmul i_X8_record_56 ?_
      refine rs_lcmp i_X8_record_57 ?_
      by_cases c4 : (o2.1 * 100) < ((Int32.toInt64 v3) * o3.1)
      · replace hf := (if_pos c4).symm.trans hf
        refine rs_ifT i_X8_record_58 (by rw [lc_lt]; exact decide_eq_true c4) (tg := 66) (by decide) ?_
        refine rs_iload i_X8_record_66 rfl ?_
        exact r_X8_record_68 hd ih hf
      · replace hf := (if_neg c4).symm.trans hf
        refine rs_ifF i_X8_record_58 (by rw [lc_lt]; exact decide_eq_false c4) ?_
        refine rs_iload i_X8_record_61 rfl ?_
        refine rs_goto i_X8_record_63 (tg := 68) (by decide) ?_
        exact r_X8_record_68 hd ih hf
def f_X8_record_0 (n : Nat) (v1 : Int32) (v2 : Int32) (v3 : Int32) (h : Hp) : Option (Int32 × Hp) :=
  (f_X8_areOdds v1 v2 h).bind fun o1 =>
  if o1.1 = 0 then
    some ((-2), o1.2)
  else
    (f_X8_in v3 0 100 o1.2).bind fun o3 =>
    if o3.1 ≠ 0 then
      f_X8_record_27 n n v1 v2 v3 0 1 o3.2
    else
      some ((-2), o3.2)
set_option maxRecDepth 100000 in
set_option maxHeartbeats 4000000 in
theorem r_X8_record_0 {X : Nat → Int32} {d : Nat} (hd : 2 ≤ (d + 1)) {n : Nat} {v1 : Int32} {v2 : Int32} {v3 : Int32} {d0 : Nat} {h : Hp} {o : (Int32 × Hp)} (hf : f_X8_record_0 n v1 v2 v3 h = some o) : Run X (d + 1) 209 0 [some (.ref d0), some (.int v1), some (.int v2), some (.int v3), none, none] [] h (some (.int o.1), o.2) := by
  unfold f_X8_record_0 at hf
  refine rs_iload_n i_X8_record_0 rfl ?_
  refine rs_iload_n i_X8_record_1 rfl ?_
  obtain ⟨o1, e1, hf⟩ := bind_some hf
  refine rs_inS i_X8_record_2 (by decide) m_X8_areOdds rfl (As := [.int v1, .int v2]) (rest := []) rfl rfl (Nat.le_of_ble_eq_true rfl) (c_X8_areOdds (by omega) e1) (st' := [.int o1.1]) rfl ?_
  by_cases c2 : o1.1 = 0
  · replace hf := (if_pos c2).symm.trans hf
    refine rs_ifT i_X8_record_5 (ct_eq c2) (tg := 18) (by decide) ?_
    refine rs_bipush i_X8_record_18 (v := (-2)) (by decide) ?_
    have hf := Option.some.inj hf
    subst hf
    exact rs_iret i_X8_record_20 m_X8_record rfl
  · replace hf := (if_neg c2).symm.trans hf
    refine rs_ifF i_X8_record_5 (cf_eq c2) ?_
    refine rs_iload_n i_X8_record_8 rfl ?_
    refine rs_iconst i_X8_record_9 (v := 0) (by decide) ?_
    refine rs_bipush i_X8_record_10 (v := 100) (by decide) ?_
    obtain ⟨o3, e3, hf⟩ := bind_some hf
    refine rs_inS i_X8_record_12 (by decide) m_X8_in rfl (As := [.int v3, .int 0, .int 100]) (rest := []) rfl rfl (Nat.le_of_ble_eq_true rfl) (c_X8_in (by omega) e3) (st' := [.int o3.1]) rfl ?_
    by_cases c4 : o3.1 ≠ 0
    · replace hf := (if_pos c4).symm.trans hf
      refine rs_ifT i_X8_record_15 (ct_ne c4) (tg := 21) (by decide) ?_
      refine rs_iconst i_X8_record_21 (v := 0) (by decide) ?_
      refine rs_istore i_X8_record_22 (Nat.le_of_ble_eq_true rfl) (lv' := [some (.ref d0), some (.int v1), some (.int v2), some (.int v3), some (.int 0), none]) rfl ?_
      refine rs_iconst i_X8_record_24 (v := 1) (by decide) ?_
      refine rs_istore i_X8_record_25 (Nat.le_of_ble_eq_true rfl) (lv' := [some (.ref d0), some (.int v1), some (.int v2), some (.int v3), some (.int 0), some (.int 1)]) rfl ?_
      exact r_X8_record_27 hd _ _ _ _ _ _ _ _ _ hf
    · replace hf := (if_neg c4).symm.trans hf
      refine rs_ifF i_X8_record_15 (cf_ne c4) ?_
      refine rs_bipush i_X8_record_18 (v := (-2)) (by decide) ?_
      have hf := Option.some.inj hf
      subst hf
      exact rs_iret i_X8_record_20 m_X8_record rfl
def f_X8_record (n : Nat) (v0 : Nat) (v1 : Int32) (v2 : Int32) (v3 : Int32) (h : Hp) : Option (Int32 × Hp) := f_X8_record_0 n v1 v2 v3 h
theorem c_X8_record {X : Nat → Int32} {d : Nat} (hd : 2 ≤ d) {n : Nat} {v0 : Nat} {v1 : Int32} {v2 : Int32} {v3 : Int32} {h : Hp} {o : (Int32 × Hp)} (hf : f_X8_record n v0 v1 v2 v3 h = some o) : Calls X d 209 [.ref v0, .int v1, .int v2, .int v3] h (some (.int o.1), o.2) := by
  obtain ⟨d, rfl⟩ : ∃ z, d = z + 1 := ⟨d - 1, by omega⟩
  exact ⟨_, rfl, r_X8_record_0 hd hf⟩
