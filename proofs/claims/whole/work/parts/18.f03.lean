theorem i_X3_allLength_0 : fetch 44 0 = some (.lconst 0, 1, 0, 0, 0, 0) := by decide +kernel
theorem i_X3_allLength_1 : fetch 44 1 = some (.lstore_n 1, 2, 0, 0, 0, 0) := by decide +kernel
theorem i_X3_allLength_2 : fetch 44 2 = some (.iconst 0, 3, 0, 0, 0, 0) := by decide +kernel
theorem i_X3_allLength_3 : fetch 44 3 = some (.istore_n 3, 4, 0, 0, 0, 0) := by decide +kernel
theorem i_X3_allLength_4 : fetch 44 4 = some (.iload_n 3, 5, 0, 0, 0, 0) := by decide +kernel
theorem i_X3_allLength_5 : fetch 44 5 = some (.bipush 12, 7, 0, 0, 0, 0) := by decide +kernel
theorem i_X3_allLength_7 : fetch 44 7 = some (.if_icmp .ge 19, 10, 0, 0, 0, 0) := by decide +kernel
theorem i_X3_allLength_10 : fetch 44 10 = some (.lload_n 1, 11, 0, 0, 0, 0) := by decide +kernel
theorem i_X3_allLength_11 : fetch 44 11 = some (.aload_n 0, 12, 0, 0, 0, 0) := by decide +kernel
theorem i_X3_allLength_12 : fetch 44 12 = some (.getfield 15, 15, 3, 1, 0, 239) := by decide +kernel
theorem i_X3_allLength_15 : fetch 44 15 = some (.iload_n 3, 16, 0, 0, 0, 0) := by decide +kernel
theorem i_X3_allLength_16 : fetch 44 16 = some (.iaload, 17, 0, 0, 0, 0) := by decide +kernel
theorem i_X3_allLength_17 : fetch 44 17 = some (.i2l, 18, 0, 0, 0, 0) := by decide +kernel
theorem i_X3_allLength_18 : fetch 44 18 = some (.ladd, 19, 0, 0, 0, 0) := by decide +kernel
theorem i_X3_allLength_19 : fetch 44 19 = some (.lstore_n 1, 20, 0, 0, 0, 0) := by decide +kernel
theorem i_X3_allLength_20 : fetch 44 20 = some (.iinc 3 1, 23, 0, 0, 0, 0) := by decide +kernel
theorem i_X3_allLength_23 : fetch 44 23 = some (.goto (-19), 26, 0, 0, 0, 0) := by decide +kernel
theorem i_X3_allLength_26 : fetch 44 26 = some (.lload_n 1, 27, 0, 0, 0, 0) := by decide +kernel
theorem i_X3_allLength_27 : fetch 44 27 = some (.lreturn, 28, 0, 0, 0, 0) := by decide +kernel
def f_X3_allLength_4 (n : Nat) : Nat → Nat → Int64 → Int32 → Hp → Option (Int64 × Hp)
  | 0, _, _, _, _ => none
  | m + 1, v0, v1, v3, h =>
    if 12 ≤ v3 then
      some (v1, h)
    else
      if okO h v0 3 then
      (gR h v0 1).bind fun a3 =>
      if okI h a3 v3 then
      (f_X3_allLength_4 n m) v0 (v1 + (Int32.toInt64 (gI h a3 (ix v3)))) (v3 + 1) h
      else none
      else none
set_option maxRecDepth 100000 in
set_option maxHeartbeats 4000000 in
theorem r_X3_allLength_4 {X : Nat → Int32} {d : Nat} (hd : 0 ≤ d) {n : Nat} : ∀ (m : Nat) (v0 : Nat) (v1 : Int64) (v3 : Int32) (h : Hp) (o : (Int64 × Hp)), f_X3_allLength_4 n m v0 v1 v3 h = some o → Run X d 44 4 [some (.ref v0), some (.long v1), none, some (.int v3)] [] h (some (.long o.1), o.2) := by
  intro m
  induction m with
  | zero => intro v0 v1 v3 h o hf; cases hf
  | succ m ih =>
    intro v0 v1 v3 h o hf
    rw [f_X3_allLength_4] at hf
    refine rs_iload_n i_X3_allLength_4 rfl ?_
    refine rs_bipush i_X3_allLength_5 (v := 12) (by decide) ?_
    by_cases c1 : 12 ≤ v3
    · replace hf := (if_pos c1).symm.trans hf
      refine rs_icT i_X3_allLength_7 (ct_ge c1) (tg := 26) (by decide) ?_
      refine rs_lload_n i_X3_allLength_26 rfl ?_
      have hf := Option.some.inj hf
      subst hf
      exact rs_lret i_X3_allLength_27 m_X3_allLength rfl
    · replace hf := (if_neg c1).symm.trans hf
      refine rs_icF i_X3_allLength_7 (cf_ge c1) ?_
      refine rs_lload_n i_X3_allLength_10 rfl ?_
      refine rs_aload_n i_X3_allLength_11 rfl ?_
      obtain ⟨c2, hf⟩ := ite_some hf
      obtain ⟨a3, e3, hf⟩ := bind_some hf
      refine rs_getR i_X3_allLength_12 (by decide) (by decide) c2 e3 ?_
      refine rs_iload_n i_X3_allLength_15 rfl ?_
      obtain ⟨c4, hf⟩ := ite_some hf
      refine rs_iald i_X3_allLength_16 c4 ?_
      refine rs_i2l i_X3_allLength_17 ?_
      refine rs_ladd i_X3_allLength_18 ?_
      refine rs_lstore_n i_X3_allLength_19 (Nat.le_of_ble_eq_true rfl) (lv' := [some (.ref v0), some (.long (v1 + (Int32.toInt64 (gI h a3 (ix v3))))), none, some (.int v3)]) rfl ?_
      refine rs_iinc i_X3_allLength_20 rfl (v := v3 + 1) rfl (Nat.le_of_ble_eq_true rfl) (lv' := [some (.ref v0), some (.long (v1 + (Int32.toInt64 (gI h a3 (ix v3))))), none, some (.int (v3 + 1))]) rfl ?_
      refine rs_goto i_X3_allLength_23 (tg := 4) (by decide) ?_
      exact ih _ _ _ _ _ hf
def f_X3_allLength_0 (n : Nat) (v0 : Nat) (h : Hp) : Option (Int64 × Hp) :=
  f_X3_allLength_4 n n v0 0 0 h
set_option maxRecDepth 100000 in
set_option maxHeartbeats 4000000 in
theorem r_X3_allLength_0 {X : Nat → Int32} {d : Nat} (hd : 0 ≤ d) {n : Nat} {v0 : Nat} {h : Hp} {o : (Int64 × Hp)} (hf : f_X3_allLength_0 n v0 h = some o) : Run X d 44 0 [some (.ref v0), none, none, none] [] h (some (.long o.1), o.2) := by
  unfold f_X3_allLength_0 at hf
  refine rs_lconst i_X3_allLength_0 (v := 0) (by decide) ?_
  refine rs_lstore_n i_X3_allLength_1 (Nat.le_of_ble_eq_true rfl) (lv' := [some (.ref v0), some (.long 0), none, none]) rfl ?_
  refine rs_iconst i_X3_allLength_2 (v := 0) (by decide) ?_
  refine rs_istore_n i_X3_allLength_3 (Nat.le_of_ble_eq_true rfl) (lv' := [some (.ref v0), some (.long 0), none, some (.int 0)]) rfl ?_
  exact r_X3_allLength_4 hd _ _ _ _ _ _ hf
def f_X3_allLength (n : Nat) (v0 : Nat) (h : Hp) : Option (Int64 × Hp) := f_X3_allLength_0 n v0 h
theorem c_X3_allLength {X : Nat → Int32} {d : Nat} (hd : 0 ≤ d) {n : Nat} {v0 : Nat} {h : Hp} {o : (Int64 × Hp)} (hf : f_X3_allLength n v0 h = some o) : Calls X d 44 [.ref v0] h (some (.long o.1), o.2) := by
  exact ⟨_, rfl, r_X3_allLength_0 hd hf⟩
theorem i_X3_tenths_0 : fetch 45 0 = some (.aload_n 0, 1, 0, 0, 0, 0) := by decide +kernel
theorem i_X3_tenths_1 : fetch 45 1 = some (.invokevirtual 158, 4, 44, 0, 0, 611) := by decide +kernel
theorem i_X3_tenths_4 : fetch 45 4 = some (.iload_n 1, 5, 0, 0, 0, 0) := by decide +kernel
theorem i_X3_tenths_5 : fetch 45 5 = some (.i2l, 6, 0, 0, 0, 0) := by decide +kernel
theorem i_X3_tenths_6 : fetch 45 6 = some (.lmul, 7, 0, 0, 0, 0) := by decide +kernel
theorem i_X3_tenths_7 : fetch 45 7 = some (.ldc2_w 135, 10, 0, 0, 10, 615) := by decide +kernel
theorem i_X3_tenths_10 : fetch 45 10 = some (.ldiv, 11, 0, 0, 0, 0) := by decide +kernel
theorem i_X3_tenths_11 : fetch 45 11 = some (.lreturn, 12, 0, 0, 0, 0) := by decide +kernel
def f_X3_tenths_0 (n : Nat) (v0 : Nat) (v1 : Int32) (h : Hp) : Option (Int64 × Hp) :=
  if okO h v0 3 then
  (f_X3_allLength n v0 h).bind fun o1 =>
  some (((o1.1 * (Int32.toInt64 v1)) / 10), o1.2)
  else none
set_option maxRecDepth 100000 in
set_option maxHeartbeats 4000000 in
theorem r_X3_tenths_0 {X : Nat → Int32} {d : Nat} (hd : 1 ≤ (d + 1)) {n : Nat} {v0 : Nat} {v1 : Int32} {h : Hp} {o : (Int64 × Hp)} (hf : f_X3_tenths_0 n v0 v1 h = some o) : Run X (d + 1) 45 0 [some (.ref v0), some (.int v1)] [] h (some (.long o.1), o.2) := by
  unfold f_X3_tenths_0 at hf
  refine rs_aload_n i_X3_tenths_0 rfl ?_
  obtain ⟨c2, hf⟩ := ite_some hf
  obtain ⟨o1, e1, hf⟩ := bind_some hf
  refine rs_inV i_X3_tenths_1 m_X3_allLength rfl (As := []) (rest := []) rfl rfl (Nat.le_of_ble_eq_true rfl) c2 (c_X3_allLength (by omega) e1) (st' := [.long o1.1]) rfl ?_
  refine rs_iload_n i_X3_tenths_4 rfl ?_
  refine rs_i2l i_X3_tenths_5 ?_
  refine rs_lmul i_X3_tenths_6 ?_
  refine rs_ldc2 i_X3_tenths_7 (v := 10) (by decide) ?_
  refine rs_ldiv i_X3_tenths_10 (by decide) ?_
  have hf := Option.some.inj hf
  subst hf
  exact rs_lret i_X3_tenths_11 m_X3_tenths rfl
def f_X3_tenths (n : Nat) (v0 : Nat) (v1 : Int32) (h : Hp) : Option (Int64 × Hp) := f_X3_tenths_0 n v0 v1 h
theorem c_X3_tenths {X : Nat → Int32} {d : Nat} (hd : 1 ≤ d) {n : Nat} {v0 : Nat} {v1 : Int32} {h : Hp} {o : (Int64 × Hp)} (hf : f_X3_tenths n v0 v1 h = some o) : Calls X d 45 [.ref v0, .int v1] h (some (.long o.1), o.2) := by
  obtain ⟨d, rfl⟩ : ∃ z, d = z + 1 := ⟨d - 1, by omega⟩
  exact ⟨_, rfl, r_X3_tenths_0 hd hf⟩
theorem i_X3_make_0 : fetch 30 0 = some (.aload_n 1, 1, 0, 0, 0, 0) := by decide +kernel
theorem i_X3_make_1 : fetch 30 1 = some (.getfield 64, 4, 5, 0, 0, 150) := by decide +kernel
theorem i_X3_make_4 : fetch 30 4 = some (.tableswitch 122 1 5 #[36, 55, 78, 85, 96], 40, 0, 0, 0, 0) := by decide +kernel
theorem i_X3_make_40 : fetch 30 40 = some (.aload_n 0, 41, 0, 0, 0, 0) := by decide +kernel
theorem i_X3_make_41 : fetch 30 41 = some (.aload_n 0, 42, 0, 0, 0, 0) := by decide +kernel
theorem i_X3_make_42 : fetch 30 42 = some (.aload_n 1, 43, 0, 0, 0, 0) := by decide +kernel
theorem i_X3_make_43 : fetch 30 43 = some (.getfield 69, 46, 5, 1, 0, 153) := by decide +kernel
theorem i_X3_make_46 : fetch 30 46 = some (.invokevirtual 72, 49, 45, 0, 0, 607) := by decide +kernel
theorem i_X3_make_49 : fetch 30 49 = some (.aload_n 1, 50, 0, 0, 0, 0) := by decide +kernel
theorem i_X3_make_50 : fetch 30 50 = some (.getfield 76, 53, 5, 2, 0, 156) := by decide +kernel
theorem i_X3_make_53 : fetch 30 53 = some (.invokevirtual 79, 56, 32, 0, 0, 616) := by decide +kernel
theorem i_X3_make_56 : fetch 30 56 = some (.goto 78, 59, 0, 0, 0, 0) := by decide +kernel
theorem i_X3_make_59 : fetch 30 59 = some (.aload_n 0, 60, 0, 0, 0, 0) := by decide +kernel
theorem i_X3_make_60 : fetch 30 60 = some (.aload_n 0, 61, 0, 0, 0, 0) := by decide +kernel
theorem i_X3_make_61 : fetch 30 61 = some (.aload_n 1, 62, 0, 0, 0, 0) := by decide +kernel
theorem i_X3_make_62 : fetch 30 62 = some (.getfield 69, 65, 5, 1, 0, 153) := by decide +kernel
theorem i_X3_make_65 : fetch 30 65 = some (.invokevirtual 72, 68, 45, 0, 0, 607) := by decide +kernel
theorem i_X3_make_68 : fetch 30 68 = some (.aload_n 1, 69, 0, 0, 0, 0) := by decide +kernel
theorem i_X3_make_69 : fetch 30 69 = some (.getfield 76, 72, 5, 2, 0, 156) := by decide +kernel
theorem i_X3_make_72 : fetch 30 72 = some (.invokevirtual 79, 75, 32, 0, 0, 616) := by decide +kernel
theorem i_X3_make_75 : fetch 30 75 = some (.aload_n 0, 76, 0, 0, 0, 0) := by decide +kernel
theorem i_X3_make_76 : fetch 30 76 = some (.invokevirtual 83, 79, 34, 0, 0, 670) := by decide +kernel
theorem i_X3_make_79 : fetch 30 79 = some (.goto 55, 82, 0, 0, 0, 0) := by decide +kernel
theorem i_X3_make_82 : fetch 30 82 = some (.aload_n 0, 83, 0, 0, 0, 0) := by decide +kernel
theorem i_X3_make_83 : fetch 30 83 = some (.invokevirtual 86, 86, 35, 0, 0, 674) := by decide +kernel
theorem i_X3_make_86 : fetch 30 86 = some (.goto 48, 89, 0, 0, 0, 0) := by decide +kernel
theorem i_X3_make_89 : fetch 30 89 = some (.aload_n 0, 90, 0, 0, 0, 0) := by decide +kernel
theorem i_X3_make_90 : fetch 30 90 = some (.aload_n 1, 91, 0, 0, 0, 0) := by decide +kernel
theorem i_X3_make_91 : fetch 30 91 = some (.getfield 69, 94, 5, 1, 0, 153) := by decide +kernel
theorem i_X3_make_94 : fetch 30 94 = some (.invokevirtual 89, 97, 37, 0, 0, 687) := by decide +kernel
theorem i_X3_make_97 : fetch 30 97 = some (.goto 37, 100, 0, 0, 0, 0) := by decide +kernel
theorem i_X3_make_100 : fetch 30 100 = some (.aload_n 0, 101, 0, 0, 0, 0) := by decide +kernel
theorem i_X3_make_101 : fetch 30 101 = some (.invokevirtual 86, 104, 35, 0, 0, 674) := by decide +kernel
theorem i_X3_make_104 : fetch 30 104 = some (.aload_n 0, 105, 0, 0, 0, 0) := by decide +kernel
theorem i_X3_make_105 : fetch 30 105 = some (.iconst 0, 106, 0, 0, 0, 0) := by decide +kernel
theorem i_X3_make_106 : fetch 30 106 = some (.aload_n 1, 107, 0, 0, 0, 0) := by decide +kernel
theorem i_X3_make_107 : fetch 30 107 = some (.getfield 69, 110, 5, 1, 0, 153) := by decide +kernel
theorem i_X3_make_110 : fetch 30 110 = some (.invokevirtual 93, 113, 38, 0, 0, 692) := by decide +kernel
theorem i_X3_make_113 : fetch 30 113 = some (.aload_n 0, 114, 0, 0, 0, 0) := by decide +kernel
theorem i_X3_make_114 : fetch 30 114 = some (.bipush 11, 116, 0, 0, 0, 0) := by decide +kernel
theorem i_X3_make_116 : fetch 30 116 = some (.aload_n 1, 117, 0, 0, 0, 0) := by decide +kernel
theorem i_X3_make_117 : fetch 30 117 = some (.getfield 69, 120, 5, 1, 0, 153) := by decide +kernel
theorem i_X3_make_120 : fetch 30 120 = some (.invokevirtual 93, 123, 38, 0, 0, 692) := by decide +kernel
theorem i_X3_make_123 : fetch 30 123 = some (.goto 11, 126, 0, 0, 0, 0) := by decide +kernel
theorem i_X3_make_126 : fetch 30 126 = some (.aload_n 0, 127, 0, 0, 0, 0) := by decide +kernel
theorem i_X3_make_127 : fetch 30 127 = some (.aload_n 1, 128, 0, 0, 0, 0) := by decide +kernel
theorem i_X3_make_128 : fetch 30 128 = some (.getfield 69, 131, 5, 1, 0, 153) := by decide +kernel
theorem i_X3_make_131 : fetch 30 131 = some (.invokevirtual 97, 134, 31, 0, 0, 696) := by decide +kernel
theorem i_X3_make_134 : fetch 30 134 = some (.return_, 135, 0, 0, 0, 0) := by decide +kernel
def f_X3_make_0 (n : Nat) (v0 : Nat) (v1 : Nat) (h : Hp) : Option Hp :=
  if okO h v1 5 then
  if (gI h v1 0) = 1 then
    if okO h v0 3 then
    (f_X3_tenths n v0 (gI h v1 1) h).bind fun o28 =>
    if okO o28.2 v1 5 then
    if okO o28.2 v0 3 then
    (f_X3_draw n v0 o28.1 (gI o28.2 v1 2) o28.2).bind fun o31 =>
    some o31
    else none
    else none
    else none
  else
    if (gI h v1 0) = 2 then
      if okO h v0 3 then
      (f_X3_tenths n v0 (gI h v1 1) h).bind fun o21 =>
      if okO o21.2 v1 5 then
      if okO o21.2 v0 3 then
      (f_X3_draw n v0 o21.1 (gI o21.2 v1 2) o21.2).bind fun o24 =>
      if okO o24 v0 3 then
      (f_X3_bounce n v0 o24).bind fun o26 =>
      some o26
      else none
      else none
      else none
      else none
    else
      if (gI h v1 0) = 3 then
        if okO h v0 3 then
        (f_X3_fold n v0 h).bind fun o19 =>
        some o19
        else none
      else
        if (gI h v1 0) = 4 then
          if okO h v0 3 then
          (f_X3_powder v0 (gI h v1 1) h).bind fun o17 =>
          some o17
          else none
        else
          if (gI h v1 0) = 5 then
            if okO h v0 3 then
            (f_X3_fold n v0 h).bind fun o9 =>
            if okO o9 v1 5 then
            if okO o9 v0 3 then
            (f_X3_cutEnd v0 0 (gI o9 v1 1) o9).bind fun o12 =>
            if okO o12 v1 5 then
            if okO o12 v0 3 then
            (f_X3_cutEnd v0 11 (gI o12 v1 1) o12).bind fun o15 =>
            some o15
            else none
            else none
            else none
            else none
            else none
          else
            if okO h v0 3 then
            (f_X3_relax n v0 (gI h v1 1) h).bind fun o7 =>
            some o7
            else none
  else none
set_option maxRecDepth 100000 in
set_option maxHeartbeats 4000000 in
theorem r_X3_make_0 {X : Nat → Int32} {d : Nat} (hd : 5 ≤ (d + 1)) {n : Nat} {v0 : Nat} {v1 : Nat} {h : Hp} {o : Hp} (hf : f_X3_make_0 n v0 v1 h = some o) : Run X (d + 1) 30 0 [some (.ref v0), some (.ref v1)] [] h (none, o) := by
  unfold f_X3_make_0 at hf
  refine rs_aload_n i_X3_make_0 rfl ?_
  obtain ⟨c1, hf⟩ := ite_some hf
  refine rs_getI i_X3_make_1 (by decide) (by decide) c1 ?_
  by_cases c2 : (gI h v1 0) = 1
  · replace hf := (if_pos c2).symm.trans hf
    refine rs_tsw i_X3_make_4 (off := 36) (by rw [c2]; decide) (tg := 40) (by decide) ?_
    refine rs_aload_n i_X3_make_40 rfl ?_
    refine rs_aload_n i_X3_make_41 rfl ?_
    refine rs_aload_n i_X3_make_42 rfl ?_
    refine rs_getI i_X3_make_43 (by decide) (by decide) c1 ?_
    obtain ⟨c29, hf⟩ := ite_some hf
    obtain ⟨o28, e28, hf⟩ := bind_some hf
    refine rs_inV i_X3_make_46 m_X3_tenths rfl (As := [.int (gI h v1 1)]) (rest := [.ref v0]) rfl rfl (Nat.le_of_ble_eq_true rfl) c29 (c_X3_tenths (by omega) e28) (st' := [.long o28.1, .ref v0]) rfl ?_
    refine rs_aload_n i_X3_make_49 rfl ?_
    obtain ⟨c30, hf⟩ := ite_some hf
    refine rs_getI i_X3_make_50 (by decide) (by decide) c30 ?_
    obtain ⟨c32, hf⟩ := ite_some hf
    obtain ⟨o31, e31, hf⟩ := bind_some hf
    refine rs_inV i_X3_make_53 m_X3_draw rfl (As := [.long o28.1, .int (gI o28.2 v1 2)]) (rest := []) rfl rfl (Nat.le_of_ble_eq_true rfl) c32 (c_X3_draw (by omega) e31) (st' := []) rfl ?_
    refine rs_goto i_X3_make_56 (tg := 134) (by decide) ?_
    have hf := Option.some.inj hf
    subst hf
    exact rs_vret i_X3_make_134 m_X3_make rfl
  · replace hf := (if_neg c2).symm.trans hf
    by_cases c3 : (gI h v1 0) = 2
    · replace hf := (if_pos c3).symm.trans hf
      refine rs_tsw i_X3_make_4 (off := 55) (by rw [c3]; decide) (tg := 59) (by decide) ?_
      refine rs_aload_n i_X3_make_59 rfl ?_
      refine rs_aload_n i_X3_make_60 rfl ?_
      refine rs_aload_n i_X3_make_61 rfl ?_
      refine rs_getI i_X3_make_62 (by decide) (by decide) c1 ?_
      obtain ⟨c22, hf⟩ := ite_some hf
      obtain ⟨o21, e21, hf⟩ := bind_some hf
      refine rs_inV i_X3_make_65 m_X3_tenths rfl (As := [.int (gI h v1 1)]) (rest := [.ref v0]) rfl rfl (Nat.le_of_ble_eq_true rfl) c22 (c_X3_tenths (by omega) e21) (st' := [.long o21.1, .ref v0]) rfl ?_
      refine rs_aload_n i_X3_make_68 rfl ?_
      obtain ⟨c23, hf⟩ := ite_some hf
      refine rs_getI i_X3_make_69 (by decide) (by decide) c23 ?_
      obtain ⟨c25, hf⟩ := ite_some hf
      obtain ⟨o24, e24, hf⟩ := bind_some hf
      refine rs_inV i_X3_make_72 m_X3_draw rfl (As := [.long o21.1, .int (gI o21.2 v1 2)]) (rest := []) rfl rfl (Nat.le_of_ble_eq_true rfl) c25 (c_X3_draw (by omega) e24) (st' := []) rfl ?_
      refine rs_aload_n i_X3_make_75 rfl ?_
      obtain ⟨c27, hf⟩ := ite_some hf
      obtain ⟨o26, e26, hf⟩ := bind_some hf
      refine rs_inV i_X3_make_76 m_X3_bounce rfl (As := []) (rest := []) rfl rfl (Nat.le_of_ble_eq_true rfl) c27 (c_X3_bounce (by omega) e26) (st' := []) rfl ?_
      refine rs_goto i_X3_make_79 (tg := 134) (by decide) ?_
      have hf := Option.some.inj hf
      subst hf
      exact rs_vret i_X3_make_134 m_X3_make rfl
    · replace hf := (if_neg c3).symm.trans hf
      by_cases c4 : (gI h v1 0) = 3
      · replace hf := (if_pos c4).symm.trans hf
        refine rs_tsw i_X3_make_4 (off := 78) (by rw [c4]; decide) (tg := 82) (by decide) ?_
        refine rs_aload_n i_X3_make_82 rfl ?_
        obtain ⟨c20, hf⟩ := ite_some hf
        obtain ⟨o19, e19, hf⟩ := bind_some hf
        refine rs_inV i_X3_make_83 m_X3_fold rfl (As := []) (rest := []) rfl rfl (Nat.le_of_ble_eq_true rfl) c20 (c_X3_fold (by omega) e19) (st' := []) rfl ?_
        refine rs_goto i_X3_make_86 (tg := 134) (by decide) ?_
        have hf := Option.some.inj hf
        subst hf
        exact rs_vret i_X3_make_134 m_X3_make rfl
      · replace hf := (if_neg c4).symm.trans hf
        by_cases c5 : (gI h v1 0) = 4
        · replace hf := (if_pos c5).symm.trans hf
          refine rs_tsw i_X3_make_4 (off := 85) (by rw [c5]; decide) (tg := 89) (by decide) ?_
          refine rs_aload_n i_X3_make_89 rfl ?_
          refine rs_aload_n i_X3_make_90 rfl ?_
          refine rs_getI i_X3_make_91 (by decide) (by decide) c1 ?_
          obtain ⟨c18, hf⟩ := ite_some hf
          obtain ⟨o17, e17, hf⟩ := bind_some hf
          refine rs_inV i_X3_make_94 m_X3_powder rfl (As := [.int (gI h v1 1)]) (rest := []) rfl rfl (Nat.le_of_ble_eq_true rfl) c18 (c_X3_powder (by omega) e17) (st' := []) rfl ?_
          refine rs_goto i_X3_make_97 (tg := 134) (by decide) ?_
          have hf := Option.some.inj hf
          subst hf
          exact rs_vret i_X3_make_134 m_X3_make rfl
        · replace hf := (if_neg c5).symm.trans hf
          by_cases c6 : (gI h v1 0) = 5
          · replace hf := (if_pos c6).symm.trans hf
            refine rs_tsw i_X3_make_4 (off := 96) (by rw [c6]; decide) (tg := 100) (by decide) ?_
            refine rs_aload_n i_X3_make_100 rfl ?_
            obtain ⟨c10, hf⟩ := ite_some hf
            obtain ⟨o9, e9, hf⟩ := bind_some hf
            refine rs_inV i_X3_make_101 m_X3_fold rfl (As := []) (rest := []) rfl rfl (Nat.le_of_ble_eq_true rfl) c10 (c_X3_fold (by omega) e9) (st' := []) rfl ?_
            refine rs_aload_n i_X3_make_104 rfl ?_
            refine rs_iconst i_X3_make_105 (v := 0) (by decide) ?_
            refine rs_aload_n i_X3_make_106 rfl ?_
            obtain ⟨c11, hf⟩ := ite_some hf
            refine rs_getI i_X3_make_107 (by decide) (by decide) c11 ?_
            obtain ⟨c13, hf⟩ := ite_some hf
            obtain ⟨o12, e12, hf⟩ := bind_some hf
            refine rs_inV i_X3_make_110 m_X3_cutEnd rfl (As := [.int 0, .int (gI o9 v1 1)]) (rest := []) rfl rfl (Nat.le_of_ble_eq_true rfl) c13 (c_X3_cutEnd (by omega) e12) (st' := []) rfl ?_
            refine rs_aload_n i_X3_make_113 rfl ?_
            refine rs_bipush i_X3_make_114 (v := 11) (by decide) ?_
            refine rs_aload_n i_X3_make_116 rfl ?_
            obtain ⟨c14, hf⟩ := ite_some hf
            refine rs_getI i_X3_make_117 (by decide) (by decide) c14 ?_
            obtain ⟨c16, hf⟩ := ite_some hf
            obtain ⟨o15, e15, hf⟩ := bind_some hf
            refine rs_inV i_X3_make_120 m_X3_cutEnd rfl (As := [.int 11, .int (gI o12 v1 1)]) (rest := []) rfl rfl (Nat.le_of_ble_eq_true rfl) c16 (c_X3_cutEnd (by omega) e15) (st' := []) rfl ?_
            refine rs_goto i_X3_make_123 (tg := 134) (by decide) ?_
            have hf := Option.some.inj hf
            subst hf
            exact rs_vret i_X3_make_134 m_X3_make rfl
          · replace hf := (if_neg c6).symm.trans hf
            refine rs_tsw i_X3_make_4 (off := 122) (swt_df (by have z0 := ne_ti c2; rw [show (1 : Int32).toInt = 1 from by decide] at z0; have z1 := ne_ti c3; rw [show (2 : Int32).toInt = 2 from by decide] at z1; have z2 := ne_ti c4; rw [show (3 : Int32).toInt = 3 from by decide] at z2; have z3 := ne_ti c5; rw [show (4 : Int32).toInt = 4 from by decide] at z3; have z4 := ne_ti c6; rw [show (5 : Int32).toInt = 5 from by decide] at z4; omega)) (tg := 126) (by decide) ?_
            refine rs_aload_n i_X3_make_126 rfl ?_
            refine rs_aload_n i_X3_make_127 rfl ?_
            refine rs_getI i_X3_make_128 (by decide) (by decide) c1 ?_
            obtain ⟨c8, hf⟩ := ite_some hf
            obtain ⟨o7, e7, hf⟩ := bind_some hf
            refine rs_inV i_X3_make_131 m_X3_relax rfl (As := [.int (gI h v1 1)]) (rest := []) rfl rfl (Nat.le_of_ble_eq_true rfl) c8 (c_X3_relax (by omega) e7) (st' := []) rfl ?_
            have hf := Option.some.inj hf
            subst hf
            exact rs_vret i_X3_make_134 m_X3_make rfl
def f_X3_make (n : Nat) (v0 : Nat) (v1 : Nat) (h : Hp) : Option Hp := f_X3_make_0 n v0 v1 h
theorem c_X3_make {X : Nat → Int32} {d : Nat} (hd : 5 ≤ d) {n : Nat} {v0 : Nat} {v1 : Nat} {h : Hp} {o : Hp} (hf : f_X3_make n v0 v1 h = some o) : Calls X d 30 [.ref v0, .ref v1] h (none, o) := by
  obtain ⟨d, rfl⟩ : ∃ z, d = z + 1 := ⟨d - 1, by omega⟩
  exact ⟨_, rfl, r_X3_make_0 hd hf⟩
theorem i_X3_thinnest_0 : fetch 40 0 = some (.iconst 0, 1, 0, 0, 0, 0) := by decide +kernel
theorem i_X3_thinnest_1 : fetch 40 1 = some (.istore_n 1, 2, 0, 0, 0, 0) := by decide +kernel
theorem i_X3_thinnest_2 : fetch 40 2 = some (.iconst 1, 3, 0, 0, 0, 0) := by decide +kernel
theorem i_X3_thinnest_3 : fetch 40 3 = some (.istore_n 2, 4, 0, 0, 0, 0) := by decide +kernel
theorem i_X3_thinnest_4 : fetch 40 4 = some (.iload_n 2, 5, 0, 0, 0, 0) := by decide +kernel
theorem i_X3_thinnest_5 : fetch 40 5 = some (.bipush 12, 7, 0, 0, 0, 0) := by decide +kernel
theorem i_X3_thinnest_7 : fetch 40 7 = some (.if_icmp .ge 24, 10, 0, 0, 0, 0) := by decide +kernel
theorem i_X3_thinnest_10 : fetch 40 10 = some (.aload_n 0, 11, 0, 0, 0, 0) := by decide +kernel
theorem i_X3_thinnest_11 : fetch 40 11 = some (.iload_n 2, 12, 0, 0, 0, 0) := by decide +kernel
theorem i_X3_thinnest_12 : fetch 40 12 = some (.invokevirtual 147, 15, 39, 0, 0, 711) := by decide +kernel
theorem i_X3_thinnest_15 : fetch 40 15 = some (.aload_n 0, 16, 0, 0, 0, 0) := by decide +kernel
theorem i_X3_thinnest_16 : fetch 40 16 = some (.iload_n 1, 17, 0, 0, 0, 0) := by decide +kernel
theorem i_X3_thinnest_17 : fetch 40 17 = some (.invokevirtual 147, 20, 39, 0, 0, 711) := by decide +kernel
theorem i_X3_thinnest_20 : fetch 40 20 = some (.if_icmp .ge 5, 23, 0, 0, 0, 0) := by decide +kernel
theorem i_X3_thinnest_23 : fetch 40 23 = some (.iload_n 2, 24, 0, 0, 0, 0) := by decide +kernel
theorem i_X3_thinnest_24 : fetch 40 24 = some (.istore_n 1, 25, 0, 0, 0, 0) := by decide +kernel
theorem i_X3_thinnest_25 : fetch 40 25 = some (.iinc 2 1, 28, 0, 0, 0, 0) := by decide +kernel
theorem i_X3_thinnest_28 : fetch 40 28 = some (.goto (-24), 31, 0, 0, 0, 0) := by decide +kernel
theorem i_X3_thinnest_31 : fetch 40 31 = some (.iload_n 1, 32, 0, 0, 0, 0) := by decide +kernel
theorem i_X3_thinnest_32 : fetch 40 32 = some (.ireturn, 33, 0, 0, 0, 0) := by decide +kernel
def f_X3_thinnest_25 (n : Nat) (K4 : Nat → Int32 → Int32 → Hp → Option (Int32 × Hp)) (v0 : Nat) (v1 : Int32) (v2 : Int32) (h : Hp) : Option (Int32 × Hp) :=
  K4 v0 v1 (v2 + 1) h
set_option maxRecDepth 100000 in
set_option maxHeartbeats 4000000 in
theorem r_X3_thinnest_25 {X : Nat → Int32} {d : Nat} (hd : 1 ≤ (d + 1)) {n : Nat} {K4 : Nat → Int32 → Int32 → Hp → Option (Int32 × Hp)} (HK4 : ∀ (v0 : Nat) (v1 : Int32) (v2 : Int32) (h : Hp) (o : (Int32 × Hp)), K4 v0 v1 v2 h = some o → Run X (d + 1) 40 4 [some (.ref v0), some (.int v1), some (.int v2)] [] h (some (.int o.1), o.2)) {v0 : Nat} {v1 : Int32} {v2 : Int32} {h : Hp} {o : (Int32 × Hp)} (hf : f_X3_thinnest_25 n K4 v0 v1 v2 h = some o) : Run X (d + 1) 40 25 [some (.ref v0), some (.int v1), some (.int v2)] [] h (some (.int o.1), o.2) := by
  unfold f_X3_thinnest_25 at hf
  refine rs_iinc i_X3_thinnest_25 rfl (v := v2 + 1) rfl (Nat.le_of_ble_eq_true rfl) (lv' := [some (.ref v0), some (.int v1), some (.int (v2 + 1))]) rfl ?_
  refine rs_goto i_X3_thinnest_28 (tg := 4) (by decide) ?_
  exact HK4 _ _ _ _ _ hf
def f_X3_thinnest_4 (n : Nat) : Nat → Nat → Int32 → Int32 → Hp → Option (Int32 × Hp)
  | 0, _, _, _, _ => none
  | m + 1, v0, v1, v2, h =>
    if 12 ≤ v2 then
      some (v1, h)
    else
      if okO h v0 3 then
      (f_X3_thick v0 v2 h).bind fun o2 =>
      if okO o2.2 v0 3 then
      (f_X3_thick v0 v1 o2.2).bind fun o4 =>
      if o4.1 ≤ o2.1 then
        f_X3_thinnest_25 n (f_X3_thinnest_4 n m) v0 v1 v2 o4.2
      else
        f_X3_thinnest_25 n (f_X3_thinnest_4 n m) v0 v2 v2 o4.2
      else none
      else none
set_option maxRecDepth 100000 in
set_option maxHeartbeats 4000000 in
theorem r_X3_thinnest_4 {X : Nat → Int32} {d : Nat} (hd : 1 ≤ (d + 1)) {n : Nat} : ∀ (m : Nat) (v0 : Nat) (v1 : Int32) (v2 : Int32) (h : Hp) (o : (Int32 × Hp)), f_X3_thinnest_4 n m v0 v1 v2 h = some o → Run X (d + 1) 40 4 [some (.ref v0), some (.int v1), some (.int v2)] [] h (some (.int o.1), o.2) := by
  intro m
  induction m with
  | zero => intro v0 v1 v2 h o hf; cases hf
  | succ m ih =>
    intro v0 v1 v2 h o hf
    rw [f_X3_thinnest_4] at hf
    refine rs_iload_n i_X3_thinnest_4 rfl ?_
    refine rs_bipush i_X3_thinnest_5 (v := 12) (by decide) ?_
    by_cases c1 : 12 ≤ v2
    · replace hf := (if_pos c1).symm.trans hf
      refine rs_icT i_X3_thinnest_7 (ct_ge c1) (tg := 31) (by decide) ?_
      refine rs_iload_n i_X3_thinnest_31 rfl ?_
      have hf := Option.some.inj hf
      subst hf
      exact rs_iret i_X3_thinnest_32 m_X3_thinnest rfl
    · replace hf := (if_neg c1).symm.trans hf
      refine rs_icF i_X3_thinnest_7 (cf_ge c1) ?_
      refine rs_aload_n i_X3_thinnest_10 rfl ?_
      refine rs_iload_n i_X3_thinnest_11 rfl ?_
      obtain ⟨c3, hf⟩ := ite_some hf
      obtain ⟨o2, e2, hf⟩ := bind_some hf
      refine rs_inV i_X3_thinnest_12 m_X3_thick rfl (As := [.int v2]) (rest := []) rfl rfl (Nat.le_of_ble_eq_true rfl) c3 (c_X3_thick (by omega) e2) (st' := [.int o2.1]) rfl ?_
      refine rs_aload_n i_X3_thinnest_15 rfl ?_
      refine rs_iload_n i_X3_thinnest_16 rfl ?_
      obtain ⟨c5, hf⟩ := ite_some hf
      obtain ⟨o4, e4, hf⟩ := bind_some hf
      refine rs_inV i_X3_thinnest_17 m_X3_thick rfl (As := [.int v1]) (rest := [.int o2.1]) rfl rfl (Nat.le_of_ble_eq_true rfl) c5 (c_X3_thick (by omega) e4) (st' := [.int o4.1, .int o2.1]) rfl ?_
      by_cases c6 : o4.1 ≤ o2.1
      · replace hf := (if_pos c6).symm.trans hf
        refine rs_icT i_X3_thinnest_20 (ct_ge c6) (tg := 25) (by decide) ?_
        exact r_X3_thinnest_25 hd ih hf
      · replace hf := (if_neg c6).symm.trans hf
        refine rs_icF i_X3_thinnest_20 (cf_ge c6) ?_
        refine rs_iload_n i_X3_thinnest_23 rfl ?_
        refine rs_istore_n i_X3_thinnest_24 (Nat.le_of_ble_eq_true rfl) (lv' := [some (.ref v0), some (.int v2), some (.int v2)]) rfl ?_
        exact r_X3_thinnest_25 hd ih hf
def f_X3_thinnest_0 (n : Nat) (v0 : Nat) (h : Hp) : Option (Int32 × Hp) :=
  f_X3_thinnest_4 n n v0 0 1 h
set_option maxRecDepth 100000 in
set_option maxHeartbeats 4000000 in
theorem r_X3_thinnest_0 {X : Nat → Int32} {d : Nat} (hd : 1 ≤ (d + 1)) {n : Nat} {v0 : Nat} {h : Hp} {o : (Int32 × Hp)} (hf : f_X3_thinnest_0 n v0 h = some o) : Run X (d + 1) 40 0 [some (.ref v0), none, none] [] h (some (.int o.1), o.2) := by
  unfold f_X3_thinnest_0 at hf
  refine rs_iconst i_X3_thinnest_0 (v := 0) (by decide) ?_
  refine rs_istore_n i_X3_thinnest_1 (Nat.le_of_ble_eq_true rfl) (lv' := [some (.ref v0), some (.int 0), none]) rfl ?_
  refine rs_iconst i_X3_thinnest_2 (v := 1) (by decide) ?_
  refine rs_istore_n i_X3_thinnest_3 (Nat.le_of_ble_eq_true rfl) (lv' := [some (.ref v0), some (.int 0), some (.int 1)]) rfl ?_
  exact r_X3_thinnest_4 hd _ _ _ _ _ _ hf
def f_X3_thinnest (n : Nat) (v0 : Nat) (h : Hp) : Option (Int32 × Hp) := f_X3_thinnest_0 n v0 h
theorem c_X3_thinnest {X : Nat → Int32} {d : Nat} (hd : 1 ≤ d) {n : Nat} {v0 : Nat} {h : Hp} {o : (Int32 × Hp)} (hf : f_X3_thinnest n v0 h = some o) : Calls X d 40 [.ref v0] h (some (.int o.1), o.2) := by
  obtain ⟨d, rfl⟩ : ∃ z, d = z + 1 := ⟨d - 1, by omega⟩
  exact ⟨_, rfl, r_X3_thinnest_0 hd hf⟩
theorem i_X3_thickest_0 : fetch 41 0 = some (.iconst 0, 1, 0, 0, 0, 0) := by decide +kernel
theorem i_X3_thickest_1 : fetch 41 1 = some (.istore_n 1, 2, 0, 0, 0, 0) := by decide +kernel
theorem i_X3_thickest_2 : fetch 41 2 = some (.iconst 1, 3, 0, 0, 0, 0) := by decide +kernel
theorem i_X3_thickest_3 : fetch 41 3 = some (.istore_n 2, 4, 0, 0, 0, 0) := by decide +kernel
theorem i_X3_thickest_4 : fetch 41 4 = some (.iload_n 2, 5, 0, 0, 0, 0) := by decide +kernel
theorem i_X3_thickest_5 : fetch 41 5 = some (.bipush 12, 7, 0, 0, 0, 0) := by decide +kernel
theorem i_X3_thickest_7 : fetch 41 7 = some (.if_icmp .ge 24, 10, 0, 0, 0, 0) := by decide +kernel
theorem i_X3_thickest_10 : fetch 41 10 = some (.aload_n 0, 11, 0, 0, 0, 0) := by decide +kernel
theorem i_X3_thickest_11 : fetch 41 11 = some (.iload_n 2, 12, 0, 0, 0, 0) := by decide +kernel
theorem i_X3_thickest_12 : fetch 41 12 = some (.invokevirtual 147, 15, 39, 0, 0, 711) := by decide +kernel
theorem i_X3_thickest_15 : fetch 41 15 = some (.aload_n 0, 16, 0, 0, 0, 0) := by decide +kernel
theorem i_X3_thickest_16 : fetch 41 16 = some (.iload_n 1, 17, 0, 0, 0, 0) := by decide +kernel
theorem i_X3_thickest_17 : fetch 41 17 = some (.invokevirtual 147, 20, 39, 0, 0, 711) := by decide +kernel
theorem i_X3_thickest_20 : fetch 41 20 = some (.if_icmp .le 5, 23, 0, 0, 0, 0) := by decide +kernel
theorem i_X3_thickest_23 : fetch 41 23 = some (.iload_n 2, 24, 0, 0, 0, 0) := by decide +kernel
theorem i_X3_thickest_24 : fetch 41 24 = some (.istore_n 1, 25, 0, 0, 0, 0) := by decide +kernel
theorem i_X3_thickest_25 : fetch 41 25 = some (.iinc 2 1, 28, 0, 0, 0, 0) := by decide +kernel
theorem i_X3_thickest_28 : fetch 41 28 = some (.goto (-24), 31, 0, 0, 0, 0) := by decide +kernel
theorem i_X3_thickest_31 : fetch 41 31 = some (.iload_n 1, 32, 0, 0, 0, 0) := by decide +kernel
theorem i_X3_thickest_32 : fetch 41 32 = some (.ireturn, 33, 0, 0, 0, 0) := by decide +kernel
def f_X3_thickest_25 (n : Nat) (K4 : Nat → Int32 → Int32 → Hp → Option (Int32 × Hp)) (v0 : Nat) (v1 : Int32) (v2 : Int32) (h : Hp) : Option (Int32 × Hp) :=
  K4 v0 v1 (v2 + 1) h
set_option maxRecDepth 100000 in
set_option maxHeartbeats 4000000 in
theorem r_X3_thickest_25 {X : Nat → Int32} {d : Nat} (hd : 1 ≤ (d + 1)) {n : Nat} {K4 : Nat → Int32 → Int32 → Hp → Option (Int32 × Hp)} (HK4 : ∀ (v0 : Nat) (v1 : Int32) (v2 : Int32) (h : Hp) (o : (Int32 × Hp)), K4 v0 v1 v2 h = some o → Run X (d + 1) 41 4 [some (.ref v0), some (.int v1), some (.int v2)] [] h (some (.int o.1), o.2)) {v0 : Nat} {v1 : Int32} {v2 : Int32} {h : Hp} {o : (Int32 × Hp)} (hf : f_X3_thickest_25 n K4 v0 v1 v2 h = some o) : Run X (d + 1) 41 25 [some (.ref v0), some (.int v1), some (.int v2)] [] h (some (.int o.1), o.2) := by
  unfold f_X3_thickest_25 at hf
  refine rs_iinc i_X3_thickest_25 rfl (v := v2 + 1) rfl (Nat.le_of_ble_eq_true rfl) (lv' := [some (.ref v0), some (.int v1), some (.int (v2 + 1))]) rfl ?_
  refine rs_goto i_X3_thickest_28 (tg := 4) (by decide) ?_
  exact HK4 _ _ _ _ _ hf
def f_X3_thickest_4 (n : Nat) : Nat → Nat → Int32 → Int32 → Hp → Option (Int32 × Hp)
  | 0, _, _, _, _ => none
  | m + 1, v0, v1, v2, h =>
    if 12 ≤ v2 then
      some (v1, h)
    else
      if okO h v0 3 then
      (f_X3_thick v0 v2 h).bind fun o2 =>
      if okO o2.2 v0 3 then
      (f_X3_thick v0 v1 o2.2).bind fun o4 =>
      if o2.1 ≤ o4.1 then
        f_X3_thickest_25 n (f_X3_thickest_4 n m) v0 v1 v2 o4.2
      else
        f_X3_thickest_25 n (f_X3_thickest_4 n m) v0 v2 v2 o4.2
      else none
      else none
set_option maxRecDepth 100000 in
set_option maxHeartbeats 4000000 in
theorem r_X3_thickest_4 {X : Nat → Int32} {d : Nat} (hd : 1 ≤ (d + 1)) {n : Nat} : ∀ (m : Nat) (v0 : Nat) (v1 : Int32) (v2 : Int32) (h : Hp) (o : (Int32 × Hp)), f_X3_thickest_4 n m v0 v1 v2 h = some o → Run X (d + 1) 41 4 [some (.ref v0), some (.int v1), some (.int v2)] [] h (some (.int o.1), o.2) := by
  intro m
  induction m with
  | zero => intro v0 v1 v2 h o hf; cases hf
  | succ m ih =>
    intro v0 v1 v2 h o hf
    rw [f_X3_thickest_4] at hf
    refine rs_iload_n i_X3_thickest_4 rfl ?_
    refine rs_bipush i_X3_thickest_5 (v := 12) (by decide) ?_
    by_cases c1 : 12 ≤ v2
    · replace hf := (if_pos c1).symm.trans hf
      refine rs_icT i_X3_thickest_7 (ct_ge c1) (tg := 31) (by decide) ?_
      refine rs_iload_n i_X3_thickest_31 rfl ?_
      have hf := Option.some.inj hf
      subst hf
      exact rs_iret i_X3_thickest_32 m_X3_thickest rfl
    · replace hf := (if_neg c1).symm.trans hf
      refine rs_icF i_X3_thickest_7 (cf_ge c1) ?_
      refine rs_aload_n i_X3_thickest_10 rfl ?_
      refine rs_iload_n i_X3_thickest_11 rfl ?_
      obtain ⟨c3, hf⟩ := ite_some hf
      obtain ⟨o2, e2, hf⟩ := bind_some hf
      refine rs_inV i_X3_thickest_12 m_X3_thick rfl (As := [.int v2]) (rest := []) rfl rfl (Nat.le_of_ble_eq_true rfl) c3 (c_X3_thick (by omega) e2) (st' := [.int o2.1]) rfl ?_
      refine rs_aload_n i_X3_thickest_15 rfl ?_
      refine rs_iload_n i_X3_thickest_16 rfl ?_
      obtain ⟨c5, hf⟩ := ite_some hf
      obtain ⟨o4, e4, hf⟩ := bind_some hf
      refine rs_inV i_X3_thickest_17 m_X3_thick rfl (As := [.int v1]) (rest := [.int o2.1]) rfl rfl (Nat.le_of_ble_eq_true rfl) c5 (c_X3_thick (by omega) e4) (st' := [.int o4.1, .int o2.1]) rfl ?_
      by_cases c6 : o2.1 ≤ o4.1
      · replace hf := (if_pos c6).symm.trans hf
        refine rs_icT i_X3_thickest_20 (ct_le c6) (tg := 25) (by decide) ?_
        exact r_X3_thickest_25 hd ih hf
      · replace hf := (if_neg c6).symm.trans hf
        refine rs_icF i_X3_thickest_20 (cf_le c6) ?_
        refine rs_iload_n i_X3_thickest_23 rfl ?_
        refine rs_istore_n i_X3_thickest_24 (Nat.le_of_ble_eq_true rfl) (lv' := [some (.ref v0), some (.int v2), some (.int v2)]) rfl ?_
        exact r_X3_thickest_25 hd ih hf
def f_X3_thickest_0 (n : Nat) (v0 : Nat) (h : Hp) : Option (Int32 × Hp) :=
  f_X3_thickest_4 n n v0 0 1 h
set_option maxRecDepth 100000 in
set_option maxHeartbeats 4000000 in
theorem r_X3_thickest_0 {X : Nat → Int32} {d : Nat} (hd : 1 ≤ (d + 1)) {n : Nat} {v0 : Nat} {h : Hp} {o : (Int32 × Hp)} (hf : f_X3_thickest_0 n v0 h = some o) : Run X (d + 1) 41 0 [some (.ref v0), none, none] [] h (some (.int o.1), o.2) := by
  unfold f_X3_thickest_0 at hf
  refine rs_iconst i_X3_thickest_0 (v := 0) (by decide) ?_
  refine rs_istore_n i_X3_thickest_1 (Nat.le_of_ble_eq_true rfl) (lv' := [some (.ref v0), some (.int 0), none]) rfl ?_
  refine rs_iconst i_X3_thickest_2 (v := 1) (by decide) ?_
  refine rs_istore_n i_X3_thickest_3 (Nat.le_of_ble_eq_true rfl) (lv' := [some (.ref v0), some (.int 0), some (.int 1)]) rfl ?_
  exact r_X3_thickest_4 hd _ _ _ _ _ _ hf
def f_X3_thickest (n : Nat) (v0 : Nat) (h : Hp) : Option (Int32 × Hp) := f_X3_thickest_0 n v0 h
theorem c_X3_thickest {X : Nat → Int32} {d : Nat} (hd : 1 ≤ d) {n : Nat} {v0 : Nat} {h : Hp} {o : (Int32 × Hp)} (hf : f_X3_thickest n v0 h = some o) : Calls X d 41 [.ref v0] h (some (.int o.1), o.2) := by
  obtain ⟨d, rfl⟩ : ∃ z, d = z + 1 := ⟨d - 1, by omega⟩
  exact ⟨_, rfl, r_X3_thickest_0 hd hf⟩
theorem i_X3_spread_0 : fetch 42 0 = some (.aload_n 0, 1, 0, 0, 0, 0) := by decide +kernel
theorem i_X3_spread_1 : fetch 42 1 = some (.aload_n 0, 2, 0, 0, 0, 0) := by decide +kernel
theorem i_X3_spread_2 : fetch 42 2 = some (.invokevirtual 151, 5, 41, 0, 0, 720) := by decide +kernel
theorem i_X3_spread_5 : fetch 42 5 = some (.invokevirtual 147, 8, 39, 0, 0, 711) := by decide +kernel
theorem i_X3_spread_8 : fetch 42 8 = some (.aload_n 0, 9, 0, 0, 0, 0) := by decide +kernel
theorem i_X3_spread_9 : fetch 42 9 = some (.aload_n 0, 10, 0, 0, 0, 0) := by decide +kernel
theorem i_X3_spread_10 : fetch 42 10 = some (.invokevirtual 155, 13, 40, 0, 0, 721) := by decide +kernel
theorem i_X3_spread_13 : fetch 42 13 = some (.invokevirtual 147, 16, 39, 0, 0, 711) := by decide +kernel
theorem i_X3_spread_16 : fetch 42 16 = some (.isub, 17, 0, 0, 0, 0) := by decide +kernel
theorem i_X3_spread_17 : fetch 42 17 = some (.ireturn, 18, 0, 0, 0, 0) := by decide +kernel
def f_X3_spread_0 (n : Nat) (v0 : Nat) (h : Hp) : Option (Int32 × Hp) :=
  if okO h v0 3 then
  (f_X3_thickest n v0 h).bind fun o1 =>
  if okO o1.2 v0 3 then
  (f_X3_thick v0 o1.1 o1.2).bind fun o3 =>
  if okO o3.2 v0 3 then
  (f_X3_thinnest n v0 o3.2).bind fun o5 =>
  if okO o5.2 v0 3 then
  (f_X3_thick v0 o5.1 o5.2).bind fun o7 =>
  some ((o3.1 - o7.1), o7.2)
  else none
  else none
  else none
  else none
set_option maxRecDepth 100000 in
set_option maxHeartbeats 4000000 in
theorem r_X3_spread_0 {X : Nat → Int32} {d : Nat} (hd : 2 ≤ (d + 1)) {n : Nat} {v0 : Nat} {h : Hp} {o : (Int32 × Hp)} (hf : f_X3_spread_0 n v0 h = some o) : Run X (d + 1) 42 0 [some (.ref v0)] [] h (some (.int o.1), o.2) := by
  unfold f_X3_spread_0 at hf
  refine rs_aload_n i_X3_spread_0 rfl ?_
  refine rs_aload_n i_X3_spread_1 rfl ?_
  obtain ⟨c2, hf⟩ := ite_some hf
  obtain ⟨o1, e1, hf⟩ := bind_some hf
  refine rs_inV i_X3_spread_2 m_X3_thickest rfl (As := []) (rest := [.ref v0]) rfl rfl (Nat.le_of_ble_eq_true rfl) c2 (c_X3_thickest (by omega) e1) (st' := [.int o1.1, .ref v0]) rfl ?_
  obtain ⟨c4, hf⟩ := ite_some hf
  obtain ⟨o3, e3, hf⟩ := bind_some hf
  refine rs_inV i_X3_spread_5 m_X3_thick rfl (As := [.int o1.1]) (rest := []) rfl rfl (Nat.le_of_ble_eq_true rfl) c4 (c_X3_thick (by omega) e3) (st' := [.int o3.1]) rfl ?_
  refine rs_aload_n i_X3_spread_8 rfl ?_
  refine rs_aload_n i_X3_spread_9 rfl ?_
  obtain ⟨c6, hf⟩ := ite_some hf
  obtain ⟨o5, e5, hf⟩ := bind_some hf
  refine rs_inV i_X3_spread_10 m_X3_thinnest rfl (As := []) (rest := [.ref v0, .int o3.1]) rfl rfl (Nat.le_of_ble_eq_true rfl) c6 (c_X3_thinnest (by omega) e5) (st' := [.int o5.1, .ref v0, .int o3.1]) rfl ?_
  obtain ⟨c8, hf⟩ := ite_some hf
  obtain ⟨o7, e7, hf⟩ := bind_some hf
  refine rs_inV i_X3_spread_13 m_X3_thick rfl (As := [.int o5.1]) (rest := [.int o3.1]) rfl rfl (Nat.le_of_ble_eq_true rfl) c8 (c_X3_thick (by omega) e7) (st' := [.int o7.1, .int o3.1]) rfl ?_
  refine rs_isub i_X3_spread_16 ?_
  have hf := Option.some.inj hf
  subst hf
  exact rs_iret i_X3_spread_17 m_X3_spread rfl
def f_X3_spread (n : Nat) (v0 : Nat) (h : Hp) : Option (Int32 × Hp) := f_X3_spread_0 n v0 h
theorem c_X3_spread {X : Nat → Int32} {d : Nat} (hd : 2 ≤ d) {n : Nat} {v0 : Nat} {h : Hp} {o : (Int32 × Hp)} (hf : f_X3_spread n v0 h = some o) : Calls X d 42 [.ref v0] h (some (.int o.1), o.2) := by
  obtain ⟨d, rfl⟩ : ∃ z, d = z + 1 := ⟨d - 1, by omega⟩
  exact ⟨_, rfl, r_X3_spread_0 hd hf⟩
theorem i_X3_isMoreEvenThan_0 : fetch 43 0 = some (.aload_n 0, 1, 0, 0, 0, 0) := by decide +kernel
theorem i_X3_isMoreEvenThan_1 : fetch 43 1 = some (.aload_n 0, 2, 0, 0, 0, 0) := by decide +kernel
theorem i_X3_isMoreEvenThan_2 : fetch 43 2 = some (.invokevirtual 151, 5, 41, 0, 0, 720) := by decide +kernel
theorem i_X3_isMoreEvenThan_5 : fetch 43 5 = some (.invokevirtual 147, 8, 39, 0, 0, 711) := by decide +kernel
theorem i_X3_isMoreEvenThan_8 : fetch 43 8 = some (.i2l, 9, 0, 0, 0, 0) := by decide +kernel
theorem i_X3_isMoreEvenThan_9 : fetch 43 9 = some (.iconst 1, 10, 0, 0, 0, 0) := by decide +kernel
theorem i_X3_isMoreEvenThan_10 : fetch 43 10 = some (.aload_n 1, 11, 0, 0, 0, 0) := by decide +kernel
theorem i_X3_isMoreEvenThan_11 : fetch 43 11 = some (.aload_n 1, 12, 0, 0, 0, 0) := by decide +kernel
theorem i_X3_isMoreEvenThan_12 : fetch 43 12 = some (.invokevirtual 155, 15, 40, 0, 0, 721) := by decide +kernel
theorem i_X3_isMoreEvenThan_15 : fetch 43 15 = some (.invokevirtual 147, 18, 39, 0, 0, 711) := by decide +kernel
theorem i_X3_isMoreEvenThan_18 : fetch 43 18 = some (.invokestatic 105, 21, 1003, 0, 0, 682) := by decide +kernel
theorem i_X3_isMoreEvenThan_21 : fetch 43 21 = some (.i2l, 22, 0, 0, 0, 0) := by decide +kernel
theorem i_X3_isMoreEvenThan_22 : fetch 43 22 = some (.lmul, 23, 0, 0, 0, 0) := by decide +kernel
theorem i_X3_isMoreEvenThan_23 : fetch 43 23 = some (.lstore_n 2, 24, 0, 0, 0, 0) := by decide +kernel
theorem i_X3_isMoreEvenThan_24 : fetch 43 24 = some (.aload_n 1, 25, 0, 0, 0, 0) := by decide +kernel
theorem i_X3_isMoreEvenThan_25 : fetch 43 25 = some (.aload_n 1, 26, 0, 0, 0, 0) := by decide +kernel
theorem i_X3_isMoreEvenThan_26 : fetch 43 26 = some (.invokevirtual 151, 29, 41, 0, 0, 720) := by decide +kernel
theorem i_X3_isMoreEvenThan_29 : fetch 43 29 = some (.invokevirtual 147, 32, 39, 0, 0, 711) := by decide +kernel
theorem i_X3_isMoreEvenThan_32 : fetch 43 32 = some (.i2l, 33, 0, 0, 0, 0) := by decide +kernel
theorem i_X3_isMoreEvenThan_33 : fetch 43 33 = some (.iconst 1, 34, 0, 0, 0, 0) := by decide +kernel
theorem i_X3_isMoreEvenThan_34 : fetch 43 34 = some (.aload_n 0, 35, 0, 0, 0, 0) := by decide +kernel
theorem i_X3_isMoreEvenThan_35 : fetch 43 35 = some (.aload_n 0, 36, 0, 0, 0, 0) := by decide +kernel
theorem i_X3_isMoreEvenThan_36 : fetch 43 36 = some (.invokevirtual 155, 39, 40, 0, 0, 721) := by decide +kernel
theorem i_X3_isMoreEvenThan_39 : fetch 43 39 = some (.invokevirtual 147, 42, 39, 0, 0, 711) := by decide +kernel
theorem i_X3_isMoreEvenThan_42 : fetch 43 42 = some (.invokestatic 105, 45, 1003, 0, 0, 682) := by decide +kernel
theorem i_X3_isMoreEvenThan_45 : fetch 43 45 = some (.i2l, 46, 0, 0, 0, 0) := by decide +kernel
theorem i_X3_isMoreEvenThan_46 : fetch 43 46 = some (.lmul, 47, 0, 0, 0, 0) := by decide +kernel
theorem i_X3_isMoreEvenThan_47 : fetch 43 47 = some (.lstore 4, 49, 0, 0, 0, 0) := by decide +kernel
theorem i_X3_isMoreEvenThan_49 : fetch 43 49 = some (.lload_n 2, 50, 0, 0, 0, 0) := by decide +kernel
theorem i_X3_isMoreEvenThan_50 : fetch 43 50 = some (.lload 4, 52, 0, 0, 0, 0) := by decide +kernel
theorem i_X3_isMoreEvenThan_52 : fetch 43 52 = some (.lcmp, 53, 0, 0, 0, 0) := by decide +kernel
theorem i_X3_isMoreEvenThan_53 : fetch 43 53 = some (.ifCond .ge 7, 56, 0, 0, 0, 0) := by decide +kernel
theorem i_X3_isMoreEvenThan_56 : fetch 43 56 = some (.iconst 1, 57, 0, 0, 0, 0) := by decide +kernel
theorem i_X3_isMoreEvenThan_57 : fetch 43 57 = some (.goto 4, 60, 0, 0, 0, 0) := by decide +kernel
theorem i_X3_isMoreEvenThan_60 : fetch 43 60 = some (.iconst 0, 61, 0, 0, 0, 0) := by decide +kernel
theorem i_X3_isMoreEvenThan_61 : fetch 43 61 = some (.ireturn, 62, 0, 0, 0, 0) := by decide +kernel
def f_X3_isMoreEvenThan_49 (n : Nat) (v2 : Int64) (v4 : Int64) (h : Hp) : Option (Int32 × Hp) :=
  if v4 ≤ v2 then
    some (0, h)
  else
    some (1, h)
set_option maxRecDepth 100000 in
set_option maxHeartbeats 4000000 in
theorem r_X3_isMoreEvenThan_49 {X : Nat → Int32} {d : Nat} (hd : 2 ≤ (d + 1)) {n : Nat} {v2 : Int64} {v4 : Int64} {d0 : Nat} {d1 : Nat} {h : Hp} {o : (Int32 × Hp)} (hf : f_X3_isMoreEvenThan_49 n v2 v4 h = some o) : Run X (d + 1) 43 49 [some (.ref d0), some (.ref d1), some (.long v2), none, some (.long v4), none] [] h (some (.int o.1), o.2) := by
  unfold f_X3_isMoreEvenThan_49 at hf
  refine rs_lload_n i_X3_isMoreEvenThan_49 rfl ?_
  refine rs_lload i_X3_isMoreEvenThan_50 rfl ?_
  refine rs_lcmp i_X3_isMoreEvenThan_52 ?_
  by_cases c1 : v4 ≤ v2
  · replace hf := (if_pos c1).symm.trans hf
    refine rs_ifT i_X3_isMoreEvenThan_53 (by rw [lc_ge]; exact decide_eq_true c1) (tg := 60) (by decide) ?_
    refine rs_iconst i_X3_isMoreEvenThan_60 (v := 0) (by decide) ?_
    have hf := Option.some.inj hf
    subst hf
    exact rs_iret i_X3_isMoreEvenThan_61 m_X3_isMoreEvenThan (by decide)
  · replace hf := (if_neg c1).symm.trans hf
    refine rs_ifF i_X3_isMoreEvenThan_53 (by rw [lc_ge]; exact decide_eq_false c1) ?_
    refine rs_iconst i_X3_isMoreEvenThan_56 (v := 1) (by decide) ?_
    refine rs_goto i_X3_isMoreEvenThan_57 (tg := 61) (by decide) ?_
    have hf := Option.some.inj hf
    subst hf
    exact rs_iret i_X3_isMoreEvenThan_61 m_X3_isMoreEvenThan (by decide)
def f_X3_isMoreEvenThan_24 (n : Nat) (v0 : Nat) (v1 : Nat) (v2 : Int64) (h : Hp) : Option (Int32 × Hp) :=
  if okO h v1 3 then
  (f_X3_thickest n v1 h).bind fun o1 =>
  if okO o1.2 v1 3 then
  (f_X3_thick v1 o1.1 o1.2).bind fun o3 =>
  if okO o3.2 v0 3 then
  (f_X3_thinnest n v0 o3.2).bind fun o5 =>
  if okO o5.2 v0 3 then
  (f_X3_thick v0 o5.1 o5.2).bind fun o7 =>
  f_X3_isMoreEvenThan_49 n v2 ((Int32.toInt64 o3.1) * (Int32.toInt64 (if 1 < o7.1 then o7.1 else 1))) o7.2
  else none
  else none
  else none
  else none
set_option maxRecDepth 100000 in
set_option maxHeartbeats 4000000 in
theorem r_X3_isMoreEvenThan_24 {X : Nat → Int32} {d : Nat} (hd : 2 ≤ (d + 1)) {n : Nat} {v0 : Nat} {v1 : Nat} {v2 : Int64} {h : Hp} {o : (Int32 × Hp)} (hf : f_X3_isMoreEvenThan_24 n v0 v1 v2 h = some o) : Run X (d + 1) 43 24 [some (.ref v0), some (.ref v1), some (.long v2), none, none, none] [] h (some (.int o.1), o.2) := by
  unfold f_X3_isMoreEvenThan_24 at hf
  refine rs_aload_n i_X3_isMoreEvenThan_24 rfl ?_
  refine rs_aload_n i_X3_isMoreEvenThan_25 rfl ?_
  obtain ⟨c2, hf⟩ := ite_some hf
  obtain ⟨o1, e1, hf⟩ := bind_some hf
  refine rs_inV i_X3_isMoreEvenThan_26 m_X3_thickest rfl (As := []) (rest := [.ref v1]) rfl rfl (Nat.le_of_ble_eq_true rfl) c2 (c_X3_thickest (by omega) e1) (st' := [.int o1.1, .ref v1]) rfl ?_
  obtain ⟨c4, hf⟩ := ite_some hf
  obtain ⟨o3, e3, hf⟩ := bind_some hf
  refine rs_inV i_X3_isMoreEvenThan_29 m_X3_thick rfl (As := [.int o1.1]) (rest := []) rfl rfl (Nat.le_of_ble_eq_true rfl) c4 (c_X3_thick (by omega) e3) (st' := [.int o3.1]) rfl ?_
  refine rs_i2l i_X3_isMoreEvenThan_32 ?_
  refine rs_iconst i_X3_isMoreEvenThan_33 (v := 1) (by decide) ?_
  refine rs_aload_n i_X3_isMoreEvenThan_34 rfl ?_
  refine rs_aload_n i_X3_isMoreEvenThan_35 rfl ?_
  obtain ⟨c6, hf⟩ := ite_some hf
  obtain ⟨o5, e5, hf⟩ := bind_some hf
  refine rs_inV i_X3_isMoreEvenThan_36 m_X3_thinnest rfl (As := []) (rest := [.ref v0, .int 1, .long (Int32.toInt64 o3.1)]) rfl rfl (Nat.le_of_ble_eq_true rfl) c6 (c_X3_thinnest (by omega) e5) (st' := [.int o5.1, .ref v0, .int 1, .long (Int32.toInt64 o3.1)]) rfl ?_
  obtain ⟨c8, hf⟩ := ite_some hf
  obtain ⟨o7, e7, hf⟩ := bind_some hf
  refine rs_inV i_X3_isMoreEvenThan_39 m_X3_thick rfl (As := [.int o5.1]) (rest := [.int 1, .long (Int32.toInt64 o3.1)]) rfl rfl (Nat.le_of_ble_eq_true rfl) c8 (c_X3_thick (by omega) e7) (st' := [.int o7.1, .int 1, .long (Int32.toInt64 o3.1)]) rfl ?_
  refine rs_max i_X3_isMoreEvenThan_42 (Nat.le_of_ble_eq_true rfl) ?_
  refine rs_i2l i_X3_isMoreEvenThan_45 ?_
  refine rs_lmul i_X3_isMoreEvenThan_46 ?_
  refine rs_lstore i_X3_isMoreEvenThan_47 (Nat.le_of_ble_eq_true rfl) (lv' := [some (.ref v0), some (.ref v1), some (.long v2), none, some (.long ((Int32.toInt64 o3.1) * (Int32.toInt64 (if 1 < o7.1 then o7.1 else 1)))), none]) rfl ?_
  exact r_X3_isMoreEvenThan_49 hd hf
def f_X3_isMoreEvenThan_0 (n : Nat) (v0 : Nat) (v1 : Nat) (h : Hp) : Option (Int32 × Hp) :=
  if okO h v0 3 then
  (f_X3_thickest n v0 h).bind fun o1 =>
  if okO o1.2 v0 3 then
  (f_X3_thick v0 o1.1 o1.2).bind fun o3 =>
  if okO o3.2 v1 3 then
  (f_X3_thinnest n v1 o3.2).bind fun o5 =>
  if okO o5.2 v1 3 then
  (f_X3_thick v1 o5.1 o5.2).bind fun o7 =>
  f_X3_isMoreEvenThan_24 n v0 v1 ((Int32.toInt64 o3.1) * (Int32.toInt64 (if 1 < o7.1 then o7.1 else 1))) o7.2
  else none
  else none
  else none
  else none
set_option maxRecDepth 100000 in
set_option maxHeartbeats 4000000 in
theorem r_X3_isMoreEvenThan_0 {X : Nat → Int32} {d : Nat} (hd : 2 ≤ (d + 1)) {n : Nat} {v0 : Nat} {v1 : Nat} {h : Hp} {o : (Int32 × Hp)} (hf : f_X3_isMoreEvenThan_0 n v0 v1 h = some o) : Run X (d + 1) 43 0 [some (.ref v0), some (.ref v1), none, none, none, none] [] h (some (.int o.1), o.2) := by
  unfold f_X3_isMoreEvenThan_0 at hf
  refine rs_aload_n i_X3_isMoreEvenThan_0 rfl ?_
  refine rs_aload_n i_X3_isMoreEvenThan_1 rfl ?_
  obtain ⟨c2, hf⟩ := ite_some hf
  obtain ⟨o1, e1, hf⟩ := bind_some hf
  refine rs_inV i_X3_isMoreEvenThan_2 m_X3_thickest rfl (As := []) (rest := [.ref v0]) rfl rfl (Nat.le_of_ble_eq_true rfl) c2 (c_X3_thickest (by omega) e1) (st' := [.int o1.1, .ref v0]) rfl ?_
  obtain ⟨c4, hf⟩ := ite_some hf
  obtain ⟨o3, e3, hf⟩ := bind_some hf
  refine rs_inV i_X3_isMoreEvenThan_5 m_X3_thick rfl (As := [.int o1.1]) (rest := []) rfl rfl (Nat.le_of_ble_eq_true rfl) c4 (c_X3_thick (by omega) e3) (st' := [.int o3.1]) rfl ?_
  refine rs_i2l i_X3_isMoreEvenThan_8 ?_
  refine rs_iconst i_X3_isMoreEvenThan_9 (v := 1) (by decide) ?_
  refine rs_aload_n i_X3_isMoreEvenThan_10 rfl ?_
  refine rs_aload_n i_X3_isMoreEvenThan_11 rfl ?_
  obtain ⟨c6, hf⟩ := ite_some hf
  obtain ⟨o5, e5, hf⟩ := bind_some hf
  refine rs_inV i_X3_isMoreEvenThan_12 m_X3_thinnest rfl (As := []) (rest := [.ref v1, .int 1, .long (Int32.toInt64 o3.1)]) rfl rfl (Nat.le_of_ble_eq_true rfl) c6 (c_X3_thinnest (by omega) e5) (st' := [.int o5.1, .ref v1, .int 1, .long (Int32.toInt64 o3.1)]) rfl ?_
  obtain ⟨c8, hf⟩ := ite_some hf
  obtain ⟨o7, e7, hf⟩ := bind_some hf
  refine rs_inV i_X3_isMoreEvenThan_15 m_X3_thick rfl (As := [.int o5.1]) (rest := [.int 1, .long (Int32.toInt64 o3.1)]) rfl rfl (Nat.le_of_ble_eq_true rfl) c8 (c_X3_thick (by omega) e7) (st' := [.int o7.1, .int 1, .long (Int32.toInt64 o3.1)]) rfl ?_
  refine rs_max i_X3_isMoreEvenThan_18 (Nat.le_of_ble_eq_true rfl) ?_
  refine rs_i2l i_X3_isMoreEvenThan_21 ?_
  refine rs_lmul i_X3_isMoreEvenThan_22 ?_
  refine rs_lstore_n i_X3_isMoreEvenThan_23 (Nat.le_of_ble_eq_true rfl) (lv' := [some (.ref v0), some (.ref v1), some (.long ((Int32.toInt64 o3.1) * (Int32.toInt64 (if 1 < o7.1 then o7.1 else 1)))), none, none, none]) rfl ?_
  exact r_X3_isMoreEvenThan_24 hd hf
def f_X3_isMoreEvenThan (n : Nat) (v0 : Nat) (v1 : Nat) (h : Hp) : Option (Int32 × Hp) := f_X3_isMoreEvenThan_0 n v0 v1 h
theorem c_X3_isMoreEvenThan {X : Nat → Int32} {d : Nat} (hd : 2 ≤ d) {n : Nat} {v0 : Nat} {v1 : Nat} {h : Hp} {o : (Int32 × Hp)} (hf : f_X3_isMoreEvenThan n v0 v1 h = some o) : Calls X d 43 [.ref v0, .ref v1] h (some (.int o.1), o.2) := by
  obtain ⟨d, rfl⟩ : ∃ z, d = z + 1 := ⟨d - 1, by omega⟩
  exact ⟨_, rfl, r_X3_isMoreEvenThan_0 hd hf⟩
theorem i_X3_goodParts_0 : fetch 46 0 = some (.aload_n 0, 1, 0, 0, 0, 0) := by decide +kernel
theorem i_X3_goodParts_1 : fetch 46 1 = some (.getfield 43, 4, 3, 10, 0, 256) := by decide +kernel
theorem i_X3_goodParts_4 : fetch 46 4 = some (.aload_n 0, 5, 0, 0, 0, 0) := by decide +kernel
theorem i_X3_goodParts_5 : fetch 46 5 = some (.getfield 47, 8, 3, 11, 0, 258) := by decide +kernel
theorem i_X3_goodParts_8 : fetch 46 8 = some (.lmul, 9, 0, 0, 0, 0) := by decide +kernel
theorem i_X3_goodParts_9 : fetch 46 9 = some (.ldc2_w 41, 12, 0, 0, 1000000000, 237) := by decide +kernel
theorem i_X3_goodParts_12 : fetch 46 12 = some (.ldiv, 13, 0, 0, 0, 0) := by decide +kernel
theorem i_X3_goodParts_13 : fetch 46 13 = some (.lreturn, 14, 0, 0, 0, 0) := by decide +kernel
def f_X3_goodParts_0 (v0 : Nat) (h : Hp) : Option (Int64 × Hp) :=
  if okO h v0 3 then
  some ((((gL' h v0 10) * (gL' h v0 11)) / 1000000000), h)
  else none
set_option maxRecDepth 100000 in
set_option maxHeartbeats 4000000 in
theorem r_X3_goodParts_0 {X : Nat → Int32} {d : Nat} (hd : 0 ≤ d) {v0 : Nat} {h : Hp} {o : (Int64 × Hp)} (hf : f_X3_goodParts_0 v0 h = some o) : Run X d 46 0 [some (.ref v0)] [] h (some (.long o.1), o.2) := by
  unfold f_X3_goodParts_0 at hf
  refine rs_aload_n i_X3_goodParts_0 rfl ?_
  obtain ⟨c1, hf⟩ := ite_some hf
  refine rs_getL i_X3_goodParts_1 (by decide) (by decide) c1 ?_
  refine rs_aload_n i_X3_goodParts_4 rfl ?_
  refine rs_getL i_X3_goodParts_5 (by decide) (by decide) c1 ?_
  refine rs_lmul i_X3_goodParts_8 ?_
  refine rs_ldc2 i_X3_goodParts_9 (v := 1000000000) (by decide) ?_
  refine rs_ldiv i_X3_goodParts_12 (by decide) ?_
  have hf := Option.some.inj hf
  subst hf
  exact rs_lret i_X3_goodParts_13 m_X3_goodParts rfl
def f_X3_goodParts (v0 : Nat) (h : Hp) : Option (Int64 × Hp) := f_X3_goodParts_0 v0 h
theorem c_X3_goodParts {X : Nat → Int32} {d : Nat} (hd : 0 ≤ d) {v0 : Nat} {h : Hp} {o : (Int64 × Hp)} (hf : f_X3_goodParts v0 h = some o) : Calls X d 46 [.ref v0] h (some (.long o.1), o.2) := by
  exact ⟨_, rfl, r_X3_goodParts_0 hd hf⟩
theorem i_X3_cooked_0 : fetch 47 0 = some (.iconst 0, 1, 0, 0, 0, 0) := by decide +kernel
theorem i_X3_cooked_1 : fetch 47 1 = some (.istore_n 3, 2, 0, 0, 0, 0) := by decide +kernel
theorem i_X3_cooked_2 : fetch 47 2 = some (.iconst 0, 3, 0, 0, 0, 0) := by decide +kernel
theorem i_X3_cooked_3 : fetch 47 3 = some (.istore 4, 5, 0, 0, 0, 0) := by decide +kernel
theorem i_X3_cooked_5 : fetch 47 5 = some (.iload 4, 7, 0, 0, 0, 0) := by decide +kernel
theorem i_X3_cooked_7 : fetch 47 7 = some (.bipush 12, 9, 0, 0, 0, 0) := by decide +kernel
theorem i_X3_cooked_9 : fetch 47 9 = some (.if_icmp .ge 51, 12, 0, 0, 0, 0) := by decide +kernel
theorem i_X3_cooked_12 : fetch 47 12 = some (.iload_n 1, 13, 0, 0, 0, 0) := by decide +kernel
theorem i_X3_cooked_13 : fetch 47 13 = some (.aload_n 0, 14, 0, 0, 0, 0) := by decide +kernel
theorem i_X3_cooked_14 : fetch 47 14 = some (.iload 4, 16, 0, 0, 0, 0) := by decide +kernel
theorem i_X3_cooked_16 : fetch 47 16 = some (.invokevirtual 147, 19, 39, 0, 0, 711) := by decide +kernel
theorem i_X3_cooked_19 : fetch 47 19 = some (.if_icmp .ge 7, 22, 0, 0, 0, 0) := by decide +kernel
theorem i_X3_cooked_22 : fetch 47 22 = some (.iconst 0, 23, 0, 0, 0, 0) := by decide +kernel
theorem i_X3_cooked_23 : fetch 47 23 = some (.goto 20, 26, 0, 0, 0, 0) := by decide +kernel
theorem i_X3_cooked_26 : fetch 47 26 = some (.iload_n 1, 27, 0, 0, 0, 0) := by decide +kernel
theorem i_X3_cooked_27 : fetch 47 27 = some (.iconst 2, 28, 0, 0, 0, 0) := by decide +kernel
theorem i_X3_cooked_28 : fetch 47 28 = some (.aload_n 0, 29, 0, 0, 0, 0) := by decide +kernel
theorem i_X3_cooked_29 : fetch 47 29 = some (.iload 4, 31, 0, 0, 0, 0) := by decide +kernel
theorem i_X3_cooked_31 : fetch 47 31 = some (.invokevirtual 147, 34, 39, 0, 0, 711) := by decide +kernel
theorem i_X3_cooked_34 : fetch 47 34 = some (.imul, 35, 0, 0, 0, 0) := by decide +kernel
theorem i_X3_cooked_35 : fetch 47 35 = some (.if_icmp .ge 7, 38, 0, 0, 0, 0) := by decide +kernel
theorem i_X3_cooked_38 : fetch 47 38 = some (.iconst 1, 39, 0, 0, 0, 0) := by decide +kernel
theorem i_X3_cooked_39 : fetch 47 39 = some (.goto 4, 42, 0, 0, 0, 0) := by decide +kernel
theorem i_X3_cooked_42 : fetch 47 42 = some (.iconst 2, 43, 0, 0, 0, 0) := by decide +kernel
theorem i_X3_cooked_43 : fetch 47 43 = some (.istore 5, 45, 0, 0, 0, 0) := by decide +kernel
theorem i_X3_cooked_45 : fetch 47 45 = some (.iload 5, 47, 0, 0, 0, 0) := by decide +kernel
theorem i_X3_cooked_47 : fetch 47 47 = some (.iload_n 2, 48, 0, 0, 0, 0) := by decide +kernel
theorem i_X3_cooked_48 : fetch 47 48 = some (.if_icmp .ne 6, 51, 0, 0, 0, 0) := by decide +kernel
theorem i_X3_cooked_51 : fetch 47 51 = some (.iinc 3 1, 54, 0, 0, 0, 0) := by decide +kernel
theorem i_X3_cooked_54 : fetch 47 54 = some (.iinc 4 1, 57, 0, 0, 0, 0) := by decide +kernel
theorem i_X3_cooked_57 : fetch 47 57 = some (.goto (-52), 60, 0, 0, 0, 0) := by decide +kernel
theorem i_X3_cooked_60 : fetch 47 60 = some (.iload_n 3, 61, 0, 0, 0, 0) := by decide +kernel
theorem i_X3_cooked_61 : fetch 47 61 = some (.ireturn, 62, 0, 0, 0, 0) := by decide +kernel
def f_X3_cooked_54 (n : Nat) (K5 : Nat → Int32 → Int32 → Int32 → Int32 → Hp → Option (Int32 × Hp)) (v0 : Nat) (v1 : Int32) (v2 : Int32) (v3 : Int32) (v4 : Int32) (h : Hp) : Option (Int32 × Hp) :=
  K5 v0 v1 v2 v3 (v4 + 1) h
set_option maxRecDepth 100000 in
set_option maxHeartbeats 4000000 in
theorem r_X3_cooked_54 {X : Nat → Int32} {d : Nat} (hd : 1 ≤ (d + 1)) {n : Nat} {K5 : Nat → Int32 → Int32 → Int32 → Int32 → Hp → Option (Int32 × Hp)} (HK5 : ∀ (v0 : Nat) (v1 : Int32) (v2 : Int32) (v3 : Int32) (v4 : Int32) (w5 : Option Value) (h : Hp) (o : (Int32 × Hp)), K5 v0 v1 v2 v3 v4 h = some o → Run X (d + 1) 47 5 [some (.ref v0), some (.int v1), some (.int v2), some (.int v3), some (.int v4), w5] [] h (some (.int o.1), o.2)) {v0 : Nat} {v1 : Int32} {v2 : Int32} {v3 : Int32} {v4 : Int32} {d5 : Int32} {h : Hp} {o : (Int32 × Hp)} (hf : f_X3_cooked_54 n K5 v0 v1 v2 v3 v4 h = some o) : Run X (d + 1) 47 54 [some (.ref v0), some (.int v1), some (.int v2), some (.int v3), some (.int v4), some (.int d5)] [] h (some (.int o.1), o.2) := by
  unfold f_X3_cooked_54 at hf
  refine rs_iinc i_X3_cooked_54 rfl (v := v4 + 1) rfl (Nat.le_of_ble_eq_true rfl) (lv' := [some (.ref v0), some (.int v1), some (.int v2), some (.int v3), some (.int (v4 + 1)), some (.int d5)]) rfl ?_
  refine rs_goto i_X3_cooked_57 (tg := 5) (by decide) ?_
  exact HK5 _ _ _ _ _ _ _ _ hf
def f_X3_cooked_43 (n : Nat) (K5 : Nat → Int32 → Int32 → Int32 → Int32 → Hp → Option (Int32 × Hp)) (v0 : Nat) (v1 : Int32) (v2 : Int32) (v3 : Int32) (v4 : Int32) (s0 : Int32) (h : Hp) : Option (Int32 × Hp) :=
  if s0 ≠ v2 then
    f_X3_cooked_54 n K5 v0 v1 v2 v3 v4 h
  else
    f_X3_cooked_54 n K5 v0 v1 v2 (v3 + 1) v4 h
set_option maxRecDepth 100000 in
set_option maxHeartbeats 4000000 in
theorem r_X3_cooked_43 {X : Nat → Int32} {d : Nat} (hd : 1 ≤ (d + 1)) {n : Nat} {K5 : Nat → Int32 → Int32 → Int32 → Int32 → Hp → Option (Int32 × Hp)} (HK5 : ∀ (v0 : Nat) (v1 : Int32) (v2 : Int32) (v3 : Int32) (v4 : Int32) (w5 : Option Value) (h : Hp) (o : (Int32 × Hp)), K5 v0 v1 v2 v3 v4 h = some o → Run X (d + 1) 47 5 [some (.ref v0), some (.int v1), some (.int v2), some (.int v3), some (.int v4), w5] [] h (some (.int o.1), o.2)) {v0 : Nat} {v1 : Int32} {v2 : Int32} {v3 : Int32} {v4 : Int32} {s0 : Int32} {w5 : Option Value} {h : Hp} {o : (Int32 × Hp)} (hf : f_X3_cooked_43 n K5 v0 v1 v2 v3 v4 s0 h = some o) : Run X (d + 1) 47 43 [some (.ref v0), some (.int v1), some (.int v2), some (.int v3), some (.int v4), w5] [.int s0] h (some (.int o.1), o.2) := by
  unfold f_X3_cooked_43 at hf
  refine rs_istore i_X3_cooked_43 (Nat.le_of_ble_eq_true rfl) (lv' := [some (.ref v0), some (.int v1), some (.int v2), some (.int v3), some (.int v4), some (.int s0)]) rfl ?_
  refine rs_iload i_X3_cooked_45 rfl ?_
  refine rs_iload_n i_X3_cooked_47 rfl ?_
  by_cases c1 : s0 ≠ v2
  · replace hf := (if_pos c1).symm.trans hf
    refine rs_icT i_X3_cooked_48 (ct_ne c1) (tg := 54) (by decide) ?_
    exact r_X3_cooked_54 hd HK5 hf
  · replace hf := (if_neg c1).symm.trans hf
    refine rs_icF i_X3_cooked_48 (cf_ne c1) ?_
    refine rs_iinc i_X3_cooked_51 rfl (v := v3 + 1) rfl (Nat.le_of_ble_eq_true rfl) (lv' := [some (.ref v0), some (.int v1), some (.int v2), some (.int (v3 + 1)), some (.int v4), some (.int s0)]) rfl ?_
    exact r_X3_cooked_54 hd HK5 hf
def f_X3_cooked_5 (n : Nat) : Nat → Nat → Int32 → Int32 → Int32 → Int32 → Hp → Option (Int32 × Hp)
  | 0, _, _, _, _, _, _ => none
  | m + 1, v0, v1, v2, v3, v4, h =>
    if 12 ≤ v4 then
      some (v3, h)
    else
      if okO h v0 3 then
      (f_X3_thick v0 v4 h).bind fun o2 =>
      if o2.1 ≤ v1 then
        if okO o2.2 v0 3 then
        (f_X3_thick v0 v4 o2.2).bind fun o5 =>
        if (2 * o5.1) ≤ v1 then
          f_X3_cooked_43 n (f_X3_cooked_5 n m) v0 v1 v2 v3 v4 2 o5.2
        else
          f_X3_cooked_43 n (f_X3_cooked_5 n m) v0 v1 v2 v3 v4 1 o5.2
        else none
      else
        f_X3_cooked_43 n (f_X3_cooked_5 n m) v0 v1 v2 v3 v4 0 o2.2
      else none
set_option maxRecDepth 100000 in
set_option maxHeartbeats 4000000 in
theorem r_X3_cooked_5 {X : Nat → Int32} {d : Nat} (hd : 1 ≤ (d + 1)) {n : Nat} : ∀ (m : Nat) (v0 : Nat) (v1 : Int32) (v2 : Int32) (v3 : Int32) (v4 : Int32) (w5 : Option Value) (h : Hp) (o : (Int32 × Hp)), f_X3_cooked_5 n m v0 v1 v2 v3 v4 h = some o → Run X (d + 1) 47 5 [some (.ref v0), some (.int v1), some (.int v2), some (.int v3), some (.int v4), w5] [] h (some (.int o.1), o.2) := by
  intro m
  induction m with
  | zero => intro v0 v1 v2 v3 v4 w5 h o hf; cases hf
  | succ m ih =>
    intro v0 v1 v2 v3 v4 w5 h o hf
    rw [f_X3_cooked_5] at hf
    refine rs_iload i_X3_cooked_5 rfl ?_
    refine rs_bipush i_X3_cooked_7 (v := 12) (by decide) ?_
    by_cases c1 : 12 ≤ v4
    · replace hf := (if_pos c1).symm.trans hf
      refine rs_icT i_X3_cooked_9 (ct_ge c1) (tg := 60) (by decide) ?_
      refine rs_iload_n i_X3_cooked_60 rfl ?_
      have hf := Option.some.inj hf
      subst hf
      exact rs_iret i_X3_cooked_61 m_X3_cooked rfl
    · replace hf := (if_neg c1).symm.trans hf
      refine rs_icF i_X3_cooked_9 (cf_ge c1) ?_
      refine rs_iload_n i_X3_cooked_12 rfl ?_
      refine rs_aload_n i_X3_cooked_13 rfl ?_
      refine rs_iload i_X3_cooked_14 rfl ?_
      obtain ⟨c3, hf⟩ := ite_some hf
      obtain ⟨o2, e2, hf⟩ := bind_some hf
      refine rs_inV i_X3_cooked_16 m_X3_thick rfl (As := [.int v4]) (rest := [.int v1]) rfl rfl (Nat.le_of_ble_eq_true rfl) c3 (c_X3_thick (by omega) e2) (st' := [.int o2.1, .int v1]) rfl ?_
      by_cases c4 : o2.1 ≤ v1
      · replace hf := (if_pos c4).symm.trans hf
        refine rs_icT i_X3_cooked_19 (ct_ge c4) (tg := 26) (by decide) ?_
        refine rs_iload_n i_X3_cooked_26 rfl ?_
        refine rs_iconst i_X3_cooked_27 (v := 2) (by decide) ?_
        refine rs_aload_n i_X3_cooked_28 rfl ?_
        refine rs_iload i_X3_cooked_29 rfl ?_
        obtain ⟨c6, hf⟩ := ite_some hf
        obtain ⟨o5, e5, hf⟩ := bind_some hf
        refine rs_inV i_X3_cooked_31 m_X3_thick rfl (As := [.int v4]) (rest := [.int 2, .int v1]) rfl rfl (Nat.le_of_ble_eq_true rfl) c6 (c_X3_thick (by omega) e5) (st' := [.int o5.1, .int 2, .int v1]) rfl ?_
        refine rs_imul i_X3_cooked_34 ?_
        by_cases c7 : (2 * o5.1) ≤ v1
        · replace hf := (if_pos c7).symm.trans hf
          refine rs_icT i_X3_cooked_35 (ct_ge c7) (tg := 42) (by decide) ?_
          refine rs_iconst i_X3_cooked_42 (v := 2) (by decide) ?_
          exact r_X3_cooked_43 hd ih hf
        · replace hf := (if_neg c7).symm.trans hf
          refine rs_icF i_X3_cooked_35 (cf_ge c7) ?_
          refine rs_iconst i_X3_cooked_38 (v := 1) (by decide) ?_
          refine rs_goto i_X3_cooked_39 (tg := 43) (by decide) ?_
          exact r_X3_cooked_43 hd ih hf
      · replace hf := (if_neg c4).symm.trans hf
        refine rs_icF i_X3_cooked_19 (cf_ge c4) ?_
        refine rs_iconst i_X3_cooked_22 (v := 0) (by decide) ?_
        refine rs_goto i_X3_cooked_23 (tg := 43) (by decide) ?_
        exact r_X3_cooked_43 hd ih hf
def f_X3_cooked_0 (n : Nat) (v0 : Nat) (v1 : Int32) (v2 : Int32) (h : Hp) : Option (Int32 × Hp) :=
  f_X3_cooked_5 n n v0 v1 v2 0 0 h
set_option maxRecDepth 100000 in
set_option maxHeartbeats 4000000 in
theorem r_X3_cooked_0 {X : Nat → Int32} {d : Nat} (hd : 1 ≤ (d + 1)) {n : Nat} {v0 : Nat} {v1 : Int32} {v2 : Int32} {h : Hp} {o : (Int32 × Hp)} (hf : f_X3_cooked_0 n v0 v1 v2 h = some o) : Run X (d + 1) 47 0 [some (.ref v0), some (.int v1), some (.int v2), none, none, none] [] h (some (.int o.1), o.2) := by
  unfold f_X3_cooked_0 at hf
  refine rs_iconst i_X3_cooked_0 (v := 0) (by decide) ?_
  refine rs_istore_n i_X3_cooked_1 (Nat.le_of_ble_eq_true rfl) (lv' := [some (.ref v0), some (.int v1), some (.int v2), some (.int 0), none, none]) rfl ?_
  refine rs_iconst i_X3_cooked_2 (v := 0) (by decide) ?_
  refine rs_istore i_X3_cooked_3 (Nat.le_of_ble_eq_true rfl) (lv' := [some (.ref v0), some (.int v1), some (.int v2), some (.int 0), some (.int 0), none]) rfl ?_
  exact r_X3_cooked_5 hd _ _ _ _ _ _ _ _ _ hf
def f_X3_cooked (n : Nat) (v0 : Nat) (v1 : Int32) (v2 : Int32) (h : Hp) : Option (Int32 × Hp) := f_X3_cooked_0 n v0 v1 v2 h
theorem c_X3_cooked {X : Nat → Int32} {d : Nat} (hd : 1 ≤ d) {n : Nat} {v0 : Nat} {v1 : Int32} {v2 : Int32} {h : Hp} {o : (Int32 × Hp)} (hf : f_X3_cooked n v0 v1 v2 h = some o) : Calls X d 47 [.ref v0, .int v1, .int v2] h (some (.int o.1), o.2) := by
  obtain ⟨d, rfl⟩ : ∃ z, d = z + 1 := ⟨d - 1, by omega⟩
  exact ⟨_, rfl, r_X3_cooked_0 hd hf⟩
theorem i_X3_firstOff_0 : fetch 48 0 = some (.iconst 0, 1, 0, 0, 0, 0) := by decide +kernel
theorem i_X3_firstOff_1 : fetch 48 1 = some (.istore_n 3, 2, 0, 0, 0, 0) := by decide +kernel
theorem i_X3_firstOff_2 : fetch 48 2 = some (.iload_n 3, 3, 0, 0, 0, 0) := by decide +kernel
theorem i_X3_firstOff_3 : fetch 48 3 = some (.bipush 12, 5, 0, 0, 0, 0) := by decide +kernel
theorem i_X3_firstOff_5 : fetch 48 5 = some (.if_icmp .ge 44, 8, 0, 0, 0, 0) := by decide +kernel
theorem i_X3_firstOff_8 : fetch 48 8 = some (.aload_n 0, 9, 0, 0, 0, 0) := by decide +kernel
theorem i_X3_firstOff_9 : fetch 48 9 = some (.iload_n 3, 10, 0, 0, 0, 0) := by decide +kernel
theorem i_X3_firstOff_10 : fetch 48 10 = some (.invokevirtual 147, 13, 39, 0, 0, 711) := by decide +kernel
theorem i_X3_firstOff_13 : fetch 48 13 = some (.i2l, 14, 0, 0, 0, 0) := by decide +kernel
theorem i_X3_firstOff_14 : fetch 48 14 = some (.aload_n 1, 15, 0, 0, 0, 0) := by decide +kernel
theorem i_X3_firstOff_15 : fetch 48 15 = some (.getfield 162, 18, 4, 0, 0, 189) := by decide +kernel
theorem i_X3_firstOff_18 : fetch 48 18 = some (.iload_n 3, 19, 0, 0, 0, 0) := by decide +kernel
theorem i_X3_firstOff_19 : fetch 48 19 = some (.iaload, 20, 0, 0, 0, 0) := by decide +kernel
theorem i_X3_firstOff_20 : fetch 48 20 = some (.i2l, 21, 0, 0, 0, 0) := by decide +kernel
theorem i_X3_firstOff_21 : fetch 48 21 = some (.lsub, 22, 0, 0, 0, 0) := by decide +kernel
theorem i_X3_firstOff_22 : fetch 48 22 = some (.lstore 4, 24, 0, 0, 0, 0) := by decide +kernel
theorem i_X3_firstOff_24 : fetch 48 24 = some (.lload 4, 26, 0, 0, 0, 0) := by decide +kernel
theorem i_X3_firstOff_26 : fetch 48 26 = some (.iload_n 2, 27, 0, 0, 0, 0) := by decide +kernel
theorem i_X3_firstOff_27 : fetch 48 27 = some (.i2l, 28, 0, 0, 0, 0) := by decide +kernel
theorem i_X3_firstOff_28 : fetch 48 28 = some (.lcmp, 29, 0, 0, 0, 0) := by decide +kernel
theorem i_X3_firstOff_29 : fetch 48 29 = some (.ifCond .gt 12, 32, 0, 0, 0, 0) := by decide +kernel
theorem i_X3_firstOff_32 : fetch 48 32 = some (.lload 4, 34, 0, 0, 0, 0) := by decide +kernel
theorem i_X3_firstOff_34 : fetch 48 34 = some (.iload_n 2, 35, 0, 0, 0, 0) := by decide +kernel
theorem i_X3_firstOff_35 : fetch 48 35 = some (.ineg, 36, 0, 0, 0, 0) := by decide +kernel
theorem i_X3_firstOff_36 : fetch 48 36 = some (.i2l, 37, 0, 0, 0, 0) := by decide +kernel
theorem i_X3_firstOff_37 : fetch 48 37 = some (.lcmp, 38, 0, 0, 0, 0) := by decide +kernel
theorem i_X3_firstOff_38 : fetch 48 38 = some (.ifCond .ge 5, 41, 0, 0, 0, 0) := by decide +kernel
theorem i_X3_firstOff_41 : fetch 48 41 = some (.iload_n 3, 42, 0, 0, 0, 0) := by decide +kernel
theorem i_X3_firstOff_42 : fetch 48 42 = some (.ireturn, 43, 0, 0, 0, 0) := by decide +kernel
theorem i_X3_firstOff_43 : fetch 48 43 = some (.iinc 3 1, 46, 0, 0, 0, 0) := by decide +kernel
theorem i_X3_firstOff_46 : fetch 48 46 = some (.goto (-44), 49, 0, 0, 0, 0) := by decide +kernel
theorem i_X3_firstOff_49 : fetch 48 49 = some (.iconst (-1), 50, 0, 0, 0, 0) := by decide +kernel
theorem i_X3_firstOff_50 : fetch 48 50 = some (.ireturn, 51, 0, 0, 0, 0) := by decide +kernel
def f_X3_firstOff_24 (n : Nat) (K2 : Nat → Nat → Int32 → Int32 → Hp → Option (Int32 × Hp)) (v0 : Nat) (v1 : Nat) (v2 : Int32) (v3 : Int32) (v4 : Int64) (h : Hp) : Option (Int32 × Hp) :=
  if (Int32.toInt64 v2) < v4 then
    some (v3, h)
  else
    if (Int32.toInt64 (-v2)) ≤ v4 then
      K2 v0 v1 v2 (v3 + 1) h
    else
      some (v3, h)
set_option maxRecDepth 100000 in
set_option maxHeartbeats 4000000 in
theorem r_X3_firstOff_24 {X : Nat → Int32} {d : Nat} (hd : 1 ≤ (d + 1)) {n : Nat} {K2 : Nat → Nat → Int32 → Int32 → Hp → Option (Int32 × Hp)} (HK2 : ∀ (v0 : Nat) (v1 : Nat) (v2 : Int32) (v3 : Int32) (w4 : Option Value) (w5 : Option Value) (h : Hp) (o : (Int32 × Hp)), K2 v0 v1 v2 v3 h = some o → Run X (d + 1) 48 2 [some (.ref v0), some (.ref v1), some (.int v2), some (.int v3), w4, w5] [] h (some (.int o.1), o.2)) {v0 : Nat} {v1 : Nat} {v2 : Int32} {v3 : Int32} {v4 : Int64} {h : Hp} {o : (Int32 × Hp)} (hf : f_X3_firstOff_24 n K2 v0 v1 v2 v3 v4 h = some o) : Run X (d + 1) 48 24 [some (.ref v0), some (.ref v1), some (.int v2), some (.int v3), some (.long v4), none] [] h (some (.int o.1), o.2) := by
  unfold f_X3_firstOff_24 at hf
  refine rs_lload i_X3_firstOff_24 rfl ?_
  refine rs_iload_n i_X3_firstOff_26 rfl ?_
  refine rs_i2l i_X3_firstOff_27 ?_
  refine rs_lcmp i_X3_firstOff_28 ?_
  by_cases c1 : (Int32.toInt64 v2) < v4
  · replace hf := (if_pos c1).symm.trans hf
    refine rs_ifT i_X3_firstOff_29 (by rw [lc_gt]; exact decide_eq_true c1) (tg := 41) (by decide) ?_
    refine rs_iload_n i_X3_firstOff_41 rfl ?_
    have hf := Option.some.inj hf
    subst hf
    exact rs_iret i_X3_firstOff_42 m_X3_firstOff rfl
  · replace hf := (if_neg c1).symm.trans hf
    refine rs_ifF i_X3_firstOff_29 (by rw [lc_gt]; exact decide_eq_false c1) ?_
    refine rs_lload i_X3_firstOff_32 rfl ?_
    refine rs_iload_n i_X3_firstOff_34 rfl ?_
    refine rs_ineg i_X3_firstOff_35 ?_
    refine rs_i2l i_X3_firstOff_36 ?_
    refine rs_lcmp i_X3_firstOff_37 ?_
    by_cases c2 : (Int32.toInt64 (-v2)) ≤ v4
    · replace hf := (if_pos c2).symm.trans hf
      refine rs_ifT i_X3_firstOff_38 (by rw [lc_ge]; exact decide_eq_true c2) (tg := 43) (by decide) ?_
      refine rs_iinc i_X3_firstOff_43 rfl (v := v3 + 1) rfl (Nat.le_of_ble_eq_true rfl) (lv' := [some (.ref v0), some (.ref v1), some (.int v2), some (.int (v3 + 1)), some (.long v4), none]) rfl ?_
      refine rs_goto i_X3_firstOff_46 (tg := 2) (by decide) ?_
      exact HK2 _ _ _ _ _ _ _ _ hf
    · replace hf := (if_neg c2).symm.trans hf
      refine rs_ifF i_X3_firstOff_38 (by rw [lc_ge]; exact decide_eq_false c2) ?_
      refine rs_iload_n i_X3_firstOff_41 rfl ?_
      have hf := Option.some.inj hf
      subst hf
      exact rs_iret i_X3_firstOff_42 m_X3_firstOff rfl
def f_X3_firstOff_2 (n : Nat) : Nat → Nat → Nat → Int32 → Int32 → Hp → Option (Int32 × Hp)
  | 0, _, _, _, _, _ => none
  | m + 1, v0, v1, v2, v3, h =>
    if 12 ≤ v3 then
      some ((-1), h)
    else
      if okO h v0 3 then
      (f_X3_thick v0 v3 h).bind fun o2 =>
      if okO o2.2 v1 4 then
      (gR o2.2 v1 0).bind fun a5 =>
      if okI o2.2 a5 v3 then
      f_X3_firstOff_24 n (f_X3_firstOff_2 n m) v0 v1 v2 v3 ((Int32.toInt64 o2.1) - (Int32.toInt64 (gI o2.2 a5 (ix v3)))) o2.2
      else none
      else none
      else none
set_option maxRecDepth 100000 in
set_option maxHeartbeats 4000000 in
theorem r_X3_firstOff_2 {X : Nat → Int32} {d : Nat} (hd : 1 ≤ (d + 1)) {n : Nat} : ∀ (m : Nat) (v0 : Nat) (v1 : Nat) (v2 : Int32) (v3 : Int32) (w4 : Option Value) (w5 : Option Value) (h : Hp) (o : (Int32 × Hp)), f_X3_firstOff_2 n m v0 v1 v2 v3 h = some o → Run X (d + 1) 48 2 [some (.ref v0), some (.ref v1), some (.int v2), some (.int v3), w4, w5] [] h (some (.int o.1), o.2) := by
  intro m
  induction m with
  | zero => intro v0 v1 v2 v3 w4 w5 h o hf; cases hf
  | succ m ih =>
    intro v0 v1 v2 v3 w4 w5 h o hf
    rw [f_X3_firstOff_2] at hf
    refine rs_iload_n i_X3_firstOff_2 rfl ?_
    refine rs_bipush i_X3_firstOff_3 (v := 12) (by decide) ?_
    by_cases c1 : 12 ≤ v3
    · replace hf := (if_pos c1).symm.trans hf
      refine rs_icT i_X3_firstOff_5 (ct_ge c1) (tg := 49) (by decide) ?_
      refine rs_iconst i_X3_firstOff_49 (v := (-1)) (by decide) ?_
      have hf := Option.some.inj hf
      subst hf
      exact rs_iret i_X3_firstOff_50 m_X3_firstOff rfl
    · replace hf := (if_neg c1).symm.trans hf
      refine rs_icF i_X3_firstOff_5 (cf_ge c1) ?_
      refine rs_aload_n i_X3_firstOff_8 rfl ?_
      refine rs_iload_n i_X3_firstOff_9 rfl ?_
      obtain ⟨c3, hf⟩ := ite_some hf
      obtain ⟨o2, e2, hf⟩ := bind_some hf
      refine rs_inV i_X3_firstOff_10 m_X3_thick rfl (As := [.int v3]) (rest := []) rfl rfl (Nat.le_of_ble_eq_true rfl) c3 (c_X3_thick (by omega) e2) (st' := [.int o2.1]) rfl ?_
      refine rs_i2l i_X3_firstOff_13 ?_
      refine rs_aload_n i_X3_firstOff_14 rfl ?_
      obtain ⟨c4, hf⟩ := ite_some hf
      obtain ⟨a5, e5, hf⟩ := bind_some hf
      refine rs_getR i_X3_firstOff_15 (by decide) (by decide) c4 e5 ?_
      refine rs_iload_n i_X3_firstOff_18 rfl ?_
      obtain ⟨c6, hf⟩ := ite_some hf
      refine rs_iald i_X3_firstOff_19 c6 ?_
      refine rs_i2l i_X3_firstOff_20 ?_
      refine rs_lsub i_X3_firstOff_21 ?_
      refine rs_lstore i_X3_firstOff_22 (Nat.le_of_ble_eq_true rfl) (lv' := [some (.ref v0), some (.ref v1), some (.int v2), some (.int v3), some (.long ((Int32.toInt64 o2.1) - (Int32.toInt64 (gI o2.2 a5 (ix v3))))), none]) rfl ?_
      exact r_X3_firstOff_24 hd ih hf
def f_X3_firstOff_0 (n : Nat) (v0 : Nat) (v1 : Nat) (v2 : Int32) (h : Hp) : Option (Int32 × Hp) :=
  f_X3_firstOff_2 n n v0 v1 v2 0 h
set_option maxRecDepth 100000 in
set_option maxHeartbeats 4000000 in
theorem r_X3_firstOff_0 {X : Nat → Int32} {d : Nat} (hd : 1 ≤ (d + 1)) {n : Nat} {v0 : Nat} {v1 : Nat} {v2 : Int32} {h : Hp} {o : (Int32 × Hp)} (hf : f_X3_firstOff_0 n v0 v1 v2 h = some o) : Run X (d + 1) 48 0 [some (.ref v0), some (.ref v1), some (.int v2), none, none, none] [] h (some (.int o.1), o.2) := by
  unfold f_X3_firstOff_0 at hf
  refine rs_iconst i_X3_firstOff_0 (v := 0) (by decide) ?_
  refine rs_istore_n i_X3_firstOff_1 (Nat.le_of_ble_eq_true rfl) (lv' := [some (.ref v0), some (.ref v1), some (.int v2), some (.int 0), none, none]) rfl ?_
  exact r_X3_firstOff_2 hd _ _ _ _ _ _ _ _ _ hf
def f_X3_firstOff (n : Nat) (v0 : Nat) (v1 : Nat) (v2 : Int32) (h : Hp) : Option (Int32 × Hp) := f_X3_firstOff_0 n v0 v1 v2 h
theorem c_X3_firstOff {X : Nat → Int32} {d : Nat} (hd : 1 ≤ d) {n : Nat} {v0 : Nat} {v1 : Nat} {v2 : Int32} {h : Hp} {o : (Int32 × Hp)} (hf : f_X3_firstOff n v0 v1 v2 h = some o) : Calls X d 48 [.ref v0, .ref v1, .int v2] h (some (.int o.1), o.2) := by
  obtain ⟨d, rfl⟩ : ∃ z, d = z + 1 := ⟨d - 1, by omega⟩
  exact ⟨_, rfl, r_X3_firstOff_0 hd hf⟩
theorem i_X3_isAsTold_0 : fetch 49 0 = some (.aload_n 0, 1, 0, 0, 0, 0) := by decide +kernel
theorem i_X3_isAsTold_1 : fetch 49 1 = some (.aload_n 1, 2, 0, 0, 0, 0) := by decide +kernel
theorem i_X3_isAsTold_2 : fetch 49 2 = some (.iconst 0, 3, 0, 0, 0, 0) := by decide +kernel
theorem i_X3_isAsTold_3 : fetch 49 3 = some (.invokevirtual 167, 6, 48, 0, 0, 829) := by decide +kernel
theorem i_X3_isAsTold_6 : fetch 49 6 = some (.iconst (-1), 7, 0, 0, 0, 0) := by decide +kernel
theorem i_X3_isAsTold_7 : fetch 49 7 = some (.if_icmp .ne 7, 10, 0, 0, 0, 0) := by decide +kernel
theorem i_X3_isAsTold_10 : fetch 49 10 = some (.iconst 1, 11, 0, 0, 0, 0) := by decide +kernel
theorem i_X3_isAsTold_11 : fetch 49 11 = some (.goto 4, 14, 0, 0, 0, 0) := by decide +kernel
theorem i_X3_isAsTold_14 : fetch 49 14 = some (.iconst 0, 15, 0, 0, 0, 0) := by decide +kernel
theorem i_X3_isAsTold_15 : fetch 49 15 = some (.ireturn, 16, 0, 0, 0, 0) := by decide +kernel
def f_X3_isAsTold_0 (n : Nat) (v0 : Nat) (v1 : Nat) (h : Hp) : Option (Int32 × Hp) :=
  if okO h v0 3 then
  (f_X3_firstOff n v0 v1 0 h).bind fun o1 =>
  if o1.1 ≠ (-1) then
    some (0, o1.2)
  else
    some (1, o1.2)
  else none
set_option maxRecDepth 100000 in
set_option maxHeartbeats 4000000 in
theorem r_X3_isAsTold_0 {X : Nat → Int32} {d : Nat} (hd : 2 ≤ (d + 1)) {n : Nat} {v0 : Nat} {v1 : Nat} {h : Hp} {o : (Int32 × Hp)} (hf : f_X3_isAsTold_0 n v0 v1 h = some o) : Run X (d + 1) 49 0 [some (.ref v0), some (.ref v1)] [] h (some (.int o.1), o.2) := by
  unfold f_X3_isAsTold_0 at hf
  refine rs_aload_n i_X3_isAsTold_0 rfl ?_
  refine rs_aload_n i_X3_isAsTold_1 rfl ?_
  refine rs_iconst i_X3_isAsTold_2 (v := 0) (by decide) ?_
  obtain ⟨c2, hf⟩ := ite_some hf
  obtain ⟨o1, e1, hf⟩ := bind_some hf
  refine rs_inV i_X3_isAsTold_3 m_X3_firstOff rfl (As := [.ref v1, .int 0]) (rest := []) rfl rfl (Nat.le_of_ble_eq_true rfl) c2 (c_X3_firstOff (by omega) e1) (st' := [.int o1.1]) rfl ?_
  refine rs_iconst i_X3_isAsTold_6 (v := (-1)) (by decide) ?_
  by_cases c3 : o1.1 ≠ (-1)
  · replace hf := (if_pos c3).symm.trans hf
    refine rs_icT i_X3_isAsTold_7 (ct_ne c3) (tg := 14) (by decide) ?_
    refine rs_iconst i_X3_isAsTold_14 (v := 0) (by decide) ?_
    have hf := Option.some.inj hf
    subst hf
    exact rs_iret i_X3_isAsTold_15 m_X3_isAsTold (by decide)
  · replace hf := (if_neg c3).symm.trans hf
    refine rs_icF i_X3_isAsTold_7 (cf_ne c3) ?_
    refine rs_iconst i_X3_isAsTold_10 (v := 1) (by decide) ?_
    refine rs_goto i_X3_isAsTold_11 (tg := 15) (by decide) ?_
    have hf := Option.some.inj hf
    subst hf
    exact rs_iret i_X3_isAsTold_15 m_X3_isAsTold (by decide)
def f_X3_isAsTold (n : Nat) (v0 : Nat) (v1 : Nat) (h : Hp) : Option (Int32 × Hp) := f_X3_isAsTold_0 n v0 v1 h
theorem c_X3_isAsTold {X : Nat → Int32} {d : Nat} (hd : 2 ≤ d) {n : Nat} {v0 : Nat} {v1 : Nat} {h : Hp} {o : (Int32 × Hp)} (hf : f_X3_isAsTold n v0 v1 h = some o) : Calls X d 49 [.ref v0, .ref v1] h (some (.int o.1), o.2) := by
  obtain ⟨d, rfl⟩ : ∃ z, d = z + 1 := ⟨d - 1, by omega⟩
  exact ⟨_, rfl, r_X3_isAsTold_0 hd hf⟩
theorem i_X4_init_0 : fetch 50 0 = some (.aload_n 0, 1, 0, 0, 0, 0) := by decide +kernel
theorem i_X4_init_1 : fetch 50 1 = some (.invokespecial 3, 4, 1000, 0, 0, 187) := by decide +kernel
theorem i_X4_init_4 : fetch 50 4 = some (.aload_n 0, 5, 0, 0, 0, 0) := by decide +kernel
theorem i_X4_init_5 : fetch 50 5 = some (.bipush 40, 7, 0, 0, 0, 0) := by decide +kernel
theorem i_X4_init_7 : fetch 50 7 = some (.newarray .int, 9, 9, 0, 0, 0) := by decide +kernel
theorem i_X4_init_9 : fetch 50 9 = some (.putfield 9, 12, 4, 0, 0, 188) := by decide +kernel
theorem i_X4_init_12 : fetch 50 12 = some (.aload_n 0, 13, 0, 0, 0, 0) := by decide +kernel
theorem i_X4_init_13 : fetch 50 13 = some (.iconst (-1), 14, 0, 0, 0, 0) := by decide +kernel
theorem i_X4_init_14 : fetch 50 14 = some (.putfield 15, 17, 4, 1, 0, 191) := by decide +kernel
theorem i_X4_init_17 : fetch 50 17 = some (.aload_n 0, 18, 0, 0, 0, 0) := by decide +kernel
theorem i_X4_init_18 : fetch 50 18 = some (.iconst 0, 19, 0, 0, 0, 0) := by decide +kernel
theorem i_X4_init_19 : fetch 50 19 = some (.putfield 19, 22, 4, 2, 0, 193) := by decide +kernel
theorem i_X4_init_22 : fetch 50 22 = some (.return_, 23, 0, 0, 0, 0) := by decide +kernel
def f_X4_init_17 (v0 : Nat) (h : Hp) : Option Hp :=
  if okO h v0 4 then
  some (hsi h v0 2 0)
  else none
set_option maxRecDepth 100000 in
set_option maxHeartbeats 4000000 in
theorem r_X4_init_17 {X : Nat → Int32} {d : Nat} (hd : 0 ≤ d) {v0 : Nat} {h : Hp} {o : Hp} (hf : f_X4_init_17 v0 h = some o) : Run X d 50 17 [some (.ref v0)] [] h (none, o) := by
  unfold f_X4_init_17 at hf
  refine rs_aload_n i_X4_init_17 rfl ?_
  refine rs_iconst i_X4_init_18 (v := 0) (by decide) ?_
  obtain ⟨c1, hf⟩ := ite_some hf
  refine rs_putI i_X4_init_19 (by decide) c1 ?_
  have hf := Option.some.inj hf
  subst hf
  exact rs_vret i_X4_init_22 m_X4_init rfl
def f_X4_init_12 (v0 : Nat) (h : Hp) : Option Hp :=
  if okO h v0 4 then
  f_X4_init_17 v0 (hsi h v0 1 (-1))
  else none
set_option maxRecDepth 100000 in
set_option maxHeartbeats 4000000 in
theorem r_X4_init_12 {X : Nat → Int32} {d : Nat} (hd : 0 ≤ d) {v0 : Nat} {h : Hp} {o : Hp} (hf : f_X4_init_12 v0 h = some o) : Run X d 50 12 [some (.ref v0)] [] h (none, o) := by
  unfold f_X4_init_12 at hf
  refine rs_aload_n i_X4_init_12 rfl ?_
  refine rs_iconst i_X4_init_13 (v := (-1)) (by decide) ?_
  obtain ⟨c1, hf⟩ := ite_some hf
  refine rs_putI i_X4_init_14 (by decide) c1 ?_
  exact r_X4_init_17 hd hf
def f_X4_init_9 (v0 : Nat) (s0 : Nat) (s1 : Nat) (h : Hp) : Option Hp :=
  if okO h s0 4 then
  if 16 ≤ s1 then
  f_X4_init_12 v0 (hsr h s0 0 (some s1))
  else none
  else none
set_option maxRecDepth 100000 in
set_option maxHeartbeats 4000000 in
theorem r_X4_init_9 {X : Nat → Int32} {d : Nat} (hd : 0 ≤ d) {v0 : Nat} {s0 : Nat} {s1 : Nat} {h : Hp} {o : Hp} (hf : f_X4_init_9 v0 s0 s1 h = some o) : Run X d 50 9 [some (.ref v0)] [.ref s1, .ref s0] h (none, o) := by
  unfold f_X4_init_9 at hf
  obtain ⟨c1, hf⟩ := ite_some hf
  obtain ⟨c2, hf⟩ := ite_some hf
  refine rs_putR i_X4_init_9 (by decide) c2 c1 ?_
  exact r_X4_init_12 hd hf
def f_X4_init_0 (v0 : Nat) (h : Hp) : Option Hp :=
  f_X4_init_9 v0 v0 h.1.length (hnew h (9, ix 40))
set_option maxRecDepth 100000 in
set_option maxHeartbeats 4000000 in
theorem r_X4_init_0 {X : Nat → Int32} {d : Nat} (hd : 0 ≤ d) {v0 : Nat} {h : Hp} {o : Hp} (hf : f_X4_init_0 v0 h = some o) : Run X d 50 0 [some (.ref v0)] [] h (none, o) := by
  unfold f_X4_init_0 at hf
  refine rs_aload_n i_X4_init_0 rfl ?_
  refine rs_objI i_X4_init_1 (Nat.le_of_ble_eq_true rfl) ?_
  refine rs_aload_n i_X4_init_4 rfl ?_
  refine rs_bipush i_X4_init_5 (v := 40) (by decide) ?_
  refine rs_newa i_X4_init_7 (by decide) ?_
  exact r_X4_init_9 hd hf
def f_X4_init (v0 : Nat) (h : Hp) : Option Hp := f_X4_init_0 v0 h
theorem c_X4_init {X : Nat → Int32} {d : Nat} (hd : 0 ≤ d) {v0 : Nat} {h : Hp} {o : Hp} (hf : f_X4_init v0 h = some o) : Calls X d 50 [.ref v0] h (none, o) := by
  exact ⟨_, rfl, r_X4_init_0 hd hf⟩
theorem i_X4_become_0 : fetch 51 0 = some (.aload_n 0, 1, 0, 0, 0, 0) := by decide +kernel
theorem i_X4_become_1 : fetch 51 1 = some (.iload_n 1, 2, 0, 0, 0, 0) := by decide +kernel
theorem i_X4_become_2 : fetch 51 2 = some (.putfield 15, 5, 4, 1, 0, 191) := by decide +kernel
theorem i_X4_become_5 : fetch 51 5 = some (.aload_n 0, 6, 0, 0, 0, 0) := by decide +kernel
theorem i_X4_become_6 : fetch 51 6 = some (.iconst 0, 7, 0, 0, 0, 0) := by decide +kernel
theorem i_X4_become_7 : fetch 51 7 = some (.bipush 40, 9, 0, 0, 0, 0) := by decide +kernel
theorem i_X4_become_9 : fetch 51 9 = some (.iload_n 2, 10, 0, 0, 0, 0) := by decide +kernel
theorem i_X4_become_10 : fetch 51 10 = some (.invokestatic 22, 13, 1005, 0, 0, 806) := by decide +kernel
theorem i_X4_become_13 : fetch 51 13 = some (.invokestatic 28, 16, 1003, 0, 0, 807) := by decide +kernel
theorem i_X4_become_16 : fetch 51 16 = some (.putfield 19, 19, 4, 2, 0, 193) := by decide +kernel
theorem i_X4_become_19 : fetch 51 19 = some (.iconst 0, 20, 0, 0, 0, 0) := by decide +kernel
theorem i_X4_become_20 : fetch 51 20 = some (.istore_n 3, 21, 0, 0, 0, 0) := by decide +kernel
theorem i_X4_become_21 : fetch 51 21 = some (.iload_n 3, 22, 0, 0, 0, 0) := by decide +kernel
theorem i_X4_become_22 : fetch 51 22 = some (.bipush 40, 24, 0, 0, 0, 0) := by decide +kernel
theorem i_X4_become_24 : fetch 51 24 = some (.if_icmp .ge 16, 27, 0, 0, 0, 0) := by decide +kernel
theorem i_X4_become_27 : fetch 51 27 = some (.aload_n 0, 28, 0, 0, 0, 0) := by decide +kernel
theorem i_X4_become_28 : fetch 51 28 = some (.getfield 9, 31, 4, 0, 0, 188) := by decide +kernel
theorem i_X4_become_31 : fetch 51 31 = some (.iload_n 3, 32, 0, 0, 0, 0) := by decide +kernel
theorem i_X4_become_32 : fetch 51 32 = some (.iconst 0, 33, 0, 0, 0, 0) := by decide +kernel
theorem i_X4_become_33 : fetch 51 33 = some (.iastore, 34, 0, 0, 0, 0) := by decide +kernel
theorem i_X4_become_34 : fetch 51 34 = some (.iinc 3 1, 37, 0, 0, 0, 0) := by decide +kernel
theorem i_X4_become_37 : fetch 51 37 = some (.goto (-16), 40, 0, 0, 0, 0) := by decide +kernel
theorem i_X4_become_40 : fetch 51 40 = some (.return_, 41, 0, 0, 0, 0) := by decide +kernel
def f_X4_become_21 (n : Nat) : Nat → Nat → Int32 → Hp → Option Hp
  | 0, _, _, _ => none
  | m + 1, v0, v3, h =>
    if 40 ≤ v3 then
      some h
    else
      if okO h v0 4 then
      (gR h v0 0).bind fun a3 =>
      if okI h a3 v3 then
      (f_X4_become_21 n m) v0 (v3 + 1) (hsi h a3 (ix v3) 0)
      else none
      else none
set_option maxRecDepth 100000 in
set_option maxHeartbeats 4000000 in
theorem r_X4_become_21 {X : Nat → Int32} {d : Nat} (hd : 0 ≤ d) {n : Nat} : ∀ (m : Nat) (v0 : Nat) (v3 : Int32) (d1 : Int32) (d2 : Int32) (h : Hp) (o : Hp), f_X4_become_21 n m v0 v3 h = some o → Run X d 51 21 [some (.ref v0), some (.int d1), some (.int d2), some (.int v3)] [] h (none, o) := by
  intro m
  induction m with
  | zero => intro v0 v3 d1 d2 h o hf; cases hf
  | succ m ih =>
    intro v0 v3 d1 d2 h o hf
    rw [f_X4_become_21] at hf
    refine rs_iload_n i_X4_become_21 rfl ?_
    refine rs_bipush i_X4_become_22 (v := 40) (by decide) ?_
    by_cases c1 : 40 ≤ v3
    · replace hf := (if_pos c1).symm.trans hf
      refine rs_icT i_X4_become_24 (ct_ge c1) (tg := 40) (by decide) ?_
      have hf := Option.some.inj hf
      subst hf
      exact rs_vret i_X4_become_40 m_X4_become rfl
    · replace hf := (if_neg c1).symm.trans hf
      refine rs_icF i_X4_become_24 (cf_ge c1) ?_
      refine rs_aload_n i_X4_become_27 rfl ?_
      obtain ⟨c2, hf⟩ := ite_some hf
      obtain ⟨a3, e3, hf⟩ := bind_some hf
      refine rs_getR i_X4_become_28 (by decide) (by decide) c2 e3 ?_
      refine rs_iload_n i_X4_become_31 rfl ?_
      refine rs_iconst i_X4_become_32 (v := 0) (by decide) ?_
      obtain ⟨c4, hf⟩ := ite_some hf
      refine rs_iast i_X4_become_33 c4 ?_
      refine rs_iinc i_X4_become_34 rfl (v := v3 + 1) rfl (Nat.le_of_ble_eq_true rfl) (lv' := [some (.ref v0), some (.int d1), some (.int d2), some (.int (v3 + 1))]) rfl ?_
      refine rs_goto i_X4_become_37 (tg := 21) (by decide) ?_
      exact ih _ _ _ _ _ _ hf
def f_X4_become_5 (n : Nat) (v0 : Nat) (v2 : Int32) (h : Hp) : Option Hp :=
  if okO h v0 4 then
  f_X4_become_21 n n v0 0 (hsi h v0 2 (if 0 < (if v2 < 40 then v2 else 40) then (if v2 < 40 then v2 else 40) else 0))
  else none
set_option maxRecDepth 100000 in
set_option maxHeartbeats 4000000 in
theorem r_X4_become_5 {X : Nat → Int32} {d : Nat} (hd : 0 ≤ d) {n : Nat} {v0 : Nat} {v2 : Int32} {d1 : Int32} {h : Hp} {o : Hp} (hf : f_X4_become_5 n v0 v2 h = some o) : Run X d 51 5 [some (.ref v0), some (.int d1), some (.int v2), none] [] h (none, o) := by
  unfold f_X4_become_5 at hf
  refine rs_aload_n i_X4_become_5 rfl ?_
  refine rs_iconst i_X4_become_6 (v := 0) (by decide) ?_
  refine rs_bipush i_X4_become_7 (v := 40) (by decide) ?_
  refine rs_iload_n i_X4_become_9 rfl ?_
  refine rs_min i_X4_become_10 (Nat.le_of_ble_eq_true rfl) ?_
  refine rs_max i_X4_become_13 (Nat.le_of_ble_eq_true rfl) ?_
  obtain ⟨c1, hf⟩ := ite_some hf
  refine rs_putI i_X4_become_16 (by decide) c1 ?_
  refine rs_iconst i_X4_become_19 (v := 0) (by decide) ?_
  refine rs_istore_n i_X4_become_20 (Nat.le_of_ble_eq_true rfl) (lv' := [some (.ref v0), some (.int d1), some (.int v2), some (.int 0)]) rfl ?_
  exact r_X4_become_21 hd _ _ _ _ _ _ _ hf
def f_X4_become_0 (n : Nat) (v0 : Nat) (v1 : Int32) (v2 : Int32) (h : Hp) : Option Hp :=
  if okO h v0 4 then
  f_X4_become_5 n v0 v2 (hsi h v0 1 v1)
  else none
set_option maxRecDepth 100000 in
set_option maxHeartbeats 4000000 in
theorem r_X4_become_0 {X : Nat → Int32} {d : Nat} (hd : 0 ≤ d) {n : Nat} {v0 : Nat} {v1 : Int32} {v2 : Int32} {h : Hp} {o : Hp} (hf : f_X4_become_0 n v0 v1 v2 h = some o) : Run X d 51 0 [some (.ref v0), some (.int v1), some (.int v2), none] [] h (none, o) := by
  unfold f_X4_become_0 at hf
  refine rs_aload_n i_X4_become_0 rfl ?_
  refine rs_iload_n i_X4_become_1 rfl ?_
  obtain ⟨c1, hf⟩ := ite_some hf
  refine rs_putI i_X4_become_2 (by decide) c1 ?_
  exact r_X4_become_5 hd hf
def f_X4_become (n : Nat) (v0 : Nat) (v1 : Int32) (v2 : Int32) (h : Hp) : Option Hp := f_X4_become_0 n v0 v1 v2 h
theorem c_X4_become {X : Nat → Int32} {d : Nat} (hd : 0 ≤ d) {n : Nat} {v0 : Nat} {v1 : Int32} {v2 : Int32} {h : Hp} {o : Hp} (hf : f_X4_become n v0 v1 v2 h = some o) : Calls X d 51 [.ref v0, .int v1, .int v2] h (none, o) := by
  exact ⟨_, rfl, r_X4_become_0 hd hf⟩
theorem i_X4_has_0 : fetch 52 0 = some (.iload_n 1, 1, 0, 0, 0, 0) := by decide +kernel
theorem i_X4_has_1 : fetch 52 1 = some (.ifCond .lt 25, 4, 0, 0, 0, 0) := by decide +kernel
theorem i_X4_has_4 : fetch 52 4 = some (.iload_n 2, 5, 0, 0, 0, 0) := by decide +kernel
theorem i_X4_has_5 : fetch 52 5 = some (.ifCond .lt 21, 8, 0, 0, 0, 0) := by decide +kernel
theorem i_X4_has_8 : fetch 52 8 = some (.iload_n 1, 9, 0, 0, 0, 0) := by decide +kernel
theorem i_X4_has_9 : fetch 52 9 = some (.i2l, 10, 0, 0, 0, 0) := by decide +kernel
theorem i_X4_has_10 : fetch 52 10 = some (.iload_n 2, 11, 0, 0, 0, 0) := by decide +kernel
theorem i_X4_has_11 : fetch 52 11 = some (.i2l, 12, 0, 0, 0, 0) := by decide +kernel
theorem i_X4_has_12 : fetch 52 12 = some (.ladd, 13, 0, 0, 0, 0) := by decide +kernel
theorem i_X4_has_13 : fetch 52 13 = some (.aload_n 0, 14, 0, 0, 0, 0) := by decide +kernel
theorem i_X4_has_14 : fetch 52 14 = some (.getfield 19, 17, 4, 2, 0, 193) := by decide +kernel
theorem i_X4_has_17 : fetch 52 17 = some (.i2l, 18, 0, 0, 0, 0) := by decide +kernel
theorem i_X4_has_18 : fetch 52 18 = some (.lcmp, 19, 0, 0, 0, 0) := by decide +kernel
theorem i_X4_has_19 : fetch 52 19 = some (.ifCond .gt 7, 22, 0, 0, 0, 0) := by decide +kernel
theorem i_X4_has_22 : fetch 52 22 = some (.iconst 1, 23, 0, 0, 0, 0) := by decide +kernel
theorem i_X4_has_23 : fetch 52 23 = some (.goto 4, 26, 0, 0, 0, 0) := by decide +kernel
theorem i_X4_has_26 : fetch 52 26 = some (.iconst 0, 27, 0, 0, 0, 0) := by decide +kernel
theorem i_X4_has_27 : fetch 52 27 = some (.ireturn, 28, 0, 0, 0, 0) := by decide +kernel
def f_X4_has_0 (v0 : Nat) (v1 : Int32) (v2 : Int32) (h : Hp) : Option (Int32 × Hp) :=
  if v1 < 0 then
    some (0, h)
  else
    if v2 < 0 then
      some (0, h)
    else
      if okO h v0 4 then
      if (Int32.toInt64 (gI h v0 2)) < ((Int32.toInt64 v1) + (Int32.toInt64 v2)) then
        some (0, h)
      else
        some (1, h)
      else none
set_option maxRecDepth 100000 in
set_option maxHeartbeats 4000000 in
theorem r_X4_has_0 {X : Nat → Int32} {d : Nat} (hd : 0 ≤ d) {v0 : Nat} {v1 : Int32} {v2 : Int32} {h : Hp} {o : (Int32 × Hp)} (hf : f_X4_has_0 v0 v1 v2 h = some o) : Run X d 52 0 [some (.ref v0), some (.int v1), some (.int v2)] [] h (some (.int o.1), o.2) := by
  unfold f_X4_has_0 at hf
  refine rs_iload_n i_X4_has_0 rfl ?_
  by_cases c1 : v1 < 0
  · replace hf := (if_pos c1).symm.trans hf
    refine rs_ifT i_X4_has_1 (ct_lt c1) (tg := 26) (by decide) ?_
    refine rs_iconst i_X4_has_26 (v := 0) (by decide) ?_
    have hf := Option.some.inj hf
    subst hf
    exact rs_iret i_X4_has_27 m_X4_has (by decide)
  · replace hf := (if_neg c1).symm.trans hf
    refine rs_ifF i_X4_has_1 (cf_lt c1) ?_
    refine rs_iload_n i_X4_has_4 rfl ?_
    by_cases c2 : v2 < 0
    · replace hf := (if_pos c2).symm.trans hf
      refine rs_ifT i_X4_has_5 (ct_lt c2) (tg := 26) (by decide) ?_
      refine rs_iconst i_X4_has_26 (v := 0) (by decide) ?_
      have hf := Option.some.inj hf
      subst hf
      exact rs_iret i_X4_has_27 m_X4_has (by decide)
    · replace hf := (if_neg c2).symm.trans hf
      refine rs_ifF i_X4_has_5 (cf_lt c2) ?_
      refine rs_iload_n i_X4_has_8 rfl ?_
      refine rs_i2l i_X4_has_9 ?_
      refine rs_iload_n i_X4_has_10 rfl ?_
      refine rs_i2l i_X4_has_11 ?_
      refine rs_ladd i_X4_has_12 ?_
      refine rs_aload_n i_X4_has_13 rfl ?_
      obtain ⟨c3, hf⟩ := ite_some hf
      refine rs_getI i_X4_has_14 (by decide) (by decide) c3 ?_
      refine rs_i2l i_X4_has_17 ?_
      refine rs_lcmp i_X4_has_18 ?_
      by_cases c4 : (Int32.toInt64 (gI h v0 2)) < ((Int32.toInt64 v1) + (Int32.toInt64 v2))
      · replace hf := (if_pos c4).symm.trans hf
        refine rs_ifT i_X4_has_19 (by rw [lc_gt]; exact decide_eq_true c4) (tg := 26) (by decide) ?_
        refine rs_iconst i_X4_has_26 (v := 0) (by decide) ?_
        have hf := Option.some.inj hf
        subst hf
        exact rs_iret i_X4_has_27 m_X4_has (by decide)
      · replace hf := (if_neg c4).symm.trans hf
        refine rs_ifF i_X4_has_19 (by rw [lc_gt]; exact decide_eq_false c4) ?_
        refine rs_iconst i_X4_has_22 (v := 1) (by decide) ?_
        refine rs_goto i_X4_has_23 (tg := 27) (by decide) ?_
        have hf := Option.some.inj hf
        subst hf
        exact rs_iret i_X4_has_27 m_X4_has (by decide)
def f_X4_has (v0 : Nat) (v1 : Int32) (v2 : Int32) (h : Hp) : Option (Int32 × Hp) := f_X4_has_0 v0 v1 v2 h
theorem c_X4_has {X : Nat → Int32} {d : Nat} (hd : 0 ≤ d) {v0 : Nat} {v1 : Int32} {v2 : Int32} {h : Hp} {o : (Int32 × Hp)} (hf : f_X4_has v0 v1 v2 h = some o) : Calls X d 52 [.ref v0, .int v1, .int v2] h (some (.int o.1), o.2) := by
  exact ⟨_, rfl, r_X4_has_0 hd hf⟩
theorem i_X4_put_0 : fetch 53 0 = some (.aload_n 0, 1, 0, 0, 0, 0) := by decide +kernel
theorem i_X4_put_1 : fetch 53 1 = some (.iload_n 1, 2, 0, 0, 0, 0) := by decide +kernel
theorem i_X4_put_2 : fetch 53 2 = some (.iconst 1, 3, 0, 0, 0, 0) := by decide +kernel
theorem i_X4_put_3 : fetch 53 3 = some (.invokevirtual 31, 6, 52, 0, 0, 812) := by decide +kernel
theorem i_X4_put_6 : fetch 53 6 = some (.ifCond .eq 35, 9, 0, 0, 0, 0) := by decide +kernel
theorem i_X4_put_9 : fetch 53 9 = some (.aload_n 0, 10, 0, 0, 0, 0) := by decide +kernel
theorem i_X4_put_10 : fetch 53 10 = some (.getfield 9, 13, 4, 0, 0, 188) := by decide +kernel
theorem i_X4_put_13 : fetch 53 13 = some (.iload_n 1, 14, 0, 0, 0, 0) := by decide +kernel
theorem i_X4_put_14 : fetch 53 14 = some (.aload_n 0, 15, 0, 0, 0, 0) := by decide +kernel
theorem i_X4_put_15 : fetch 53 15 = some (.getfield 15, 18, 4, 1, 0, 191) := by decide +kernel
theorem i_X4_put_18 : fetch 53 18 = some (.ifCond .ne 8, 21, 0, 0, 0, 0) := by decide +kernel
theorem i_X4_put_21 : fetch 53 21 = some (.iload_n 2, 22, 0, 0, 0, 0) := by decide +kernel
theorem i_X4_put_22 : fetch 53 22 = some (.i2b, 23, 0, 0, 0, 0) := by decide +kernel
theorem i_X4_put_23 : fetch 53 23 = some (.goto 17, 26, 0, 0, 0, 0) := by decide +kernel
theorem i_X4_put_26 : fetch 53 26 = some (.aload_n 0, 27, 0, 0, 0, 0) := by decide +kernel
theorem i_X4_put_27 : fetch 53 27 = some (.getfield 15, 30, 4, 1, 0, 191) := by decide +kernel
theorem i_X4_put_30 : fetch 53 30 = some (.iconst 1, 31, 0, 0, 0, 0) := by decide +kernel
theorem i_X4_put_31 : fetch 53 31 = some (.if_icmp .ne 8, 34, 0, 0, 0, 0) := by decide +kernel
theorem i_X4_put_34 : fetch 53 34 = some (.iload_n 2, 35, 0, 0, 0, 0) := by decide +kernel
theorem i_X4_put_35 : fetch 53 35 = some (.i2s, 36, 0, 0, 0, 0) := by decide +kernel
theorem i_X4_put_36 : fetch 53 36 = some (.goto 4, 39, 0, 0, 0, 0) := by decide +kernel
theorem i_X4_put_39 : fetch 53 39 = some (.iload_n 2, 40, 0, 0, 0, 0) := by decide +kernel
theorem i_X4_put_40 : fetch 53 40 = some (.iastore, 41, 0, 0, 0, 0) := by decide +kernel
theorem i_X4_put_41 : fetch 53 41 = some (.return_, 42, 0, 0, 0, 0) := by decide +kernel
def f_X4_put_40 (s0 : Nat) (s1 : Int32) (s2 : Int32) (h : Hp) : Option Hp :=
  if okI h s0 s1 then
  some (hsi h s0 (ix s1) s2)
  else none
set_option maxRecDepth 100000 in
set_option maxHeartbeats 4000000 in
theorem r_X4_put_40 {X : Nat → Int32} {d : Nat} (hd : 1 ≤ (d + 1)) {s0 : Nat} {s1 : Int32} {s2 : Int32} {d0 : Nat} {d1 : Int32} {d2 : Int32} {h : Hp} {o : Hp} (hf : f_X4_put_40 s0 s1 s2 h = some o) : Run X (d + 1) 53 40 [some (.ref d0), some (.int d1), some (.int d2)] [.int s2, .int s1, .ref s0] h (none, o) := by
  unfold f_X4_put_40 at hf
  obtain ⟨c1, hf⟩ := ite_some hf
  refine rs_iast i_X4_put_40 c1 ?_
  have hf := Option.some.inj hf
  subst hf
  exact rs_vret i_X4_put_41 m_X4_put rfl
def f_X4_put_0 (v0 : Nat) (v1 : Int32) (v2 : Int32) (h : Hp) : Option Hp :=
  if okO h v0 4 then
  (f_X4_has v0 v1 1 h).bind fun o1 =>
  if o1.1 = 0 then
    some o1.2
  else
    if okO o1.2 v0 4 then
    (gR o1.2 v0 0).bind fun a5 =>
    if (gI o1.2 v0 1) ≠ 0 then
      if (gI o1.2 v0 1) ≠ 1 then
        f_X4_put_40 a5 v1 v2 o1.2
      else
        f_X4_put_40 a5 v1 ((Int32.toInt16 v2).toInt32) o1.2
    else
      f_X4_put_40 a5 v1 ((Int32.toInt8 v2).toInt32) o1.2
    else none
  else none
set_option maxRecDepth 100000 in
set_option maxHeartbeats 4000000 in
theorem r_X4_put_0 {X : Nat → Int32} {d : Nat} (hd : 1 ≤ (d + 1)) {v0 : Nat} {v1 : Int32} {v2 : Int32} {h : Hp} {o : Hp} (hf : f_X4_put_0 v0 v1 v2 h = some o) : Run X (d + 1) 53 0 [some (.ref v0), some (.int v1), some (.int v2)] [] h (none, o) := by
  unfold f_X4_put_0 at hf
  refine rs_aload_n i_X4_put_0 rfl ?_
  refine rs_iload_n i_X4_put_1 rfl ?_
  refine rs_iconst i_X4_put_2 (v := 1) (by decide) ?_
  obtain ⟨c2, hf⟩ := ite_some hf
  obtain ⟨o1, e1, hf⟩ := bind_some hf
  refine rs_inV i_X4_put_3 m_X4_has rfl (As := [.int v1, .int 1]) (rest := []) rfl rfl (Nat.le_of_ble_eq_true rfl) c2 (c_X4_has (by omega) e1) (st' := [.int o1.1]) rfl ?_
  by_cases c3 : o1.1 = 0
  · replace hf := (if_pos c3).symm.trans hf
    refine rs_ifT i_X4_put_6 (ct_eq c3) (tg := 41) (by decide) ?_
    have hf := Option.some.inj hf
    subst hf
    exact rs_vret i_X4_put_41 m_X4_put rfl
  · replace hf := (if_neg c3).symm.trans hf
    refine rs_ifF i_X4_put_6 (cf_eq c3) ?_
    refine rs_aload_n i_X4_put_9 rfl ?_
    obtain ⟨c4, hf⟩ := ite_some hf
    obtain ⟨a5, e5, hf⟩ := bind_some hf
    refine rs_getR i_X4_put_10 (by decide) (by decide) c4 e5 ?_
    refine rs_iload_n i_X4_put_13 rfl ?_
    refine rs_aload_n i_X4_put_14 rfl ?_
    refine rs_getI i_X4_put_15 (by decide) (by decide) c4 ?_
    by_cases c6 : (gI o1.2 v0 1) ≠ 0
    · replace hf := (if_pos c6).symm.trans hf
      refine rs_ifT i_X4_put_18 (ct_ne c6) (tg := 26) (by decide) ?_
      refine rs_aload_n i_X4_put_26 rfl ?_
      refine rs_getI i_X4_put_27 (by decide) (by decide) c4 ?_
      refine rs_iconst i_X4_put_30 (v := 1) (by decide) ?_
      by_cases c7 : (gI o1.2 v0 1) ≠ 1
      · replace hf := (if_pos c7).symm.trans hf
        refine rs_icT i_X4_put_31 (ct_ne c7) (tg := 39) (by decide) ?_
        refine rs_iload_n i_X4_put_39 rfl ?_
        exact r_X4_put_40 hd hf
      · replace hf := (if_neg c7).symm.trans hf
        refine rs_icF i_X4_put_31 (cf_ne c7) ?_
        refine rs_iload_n i_X4_put_34 rfl ?_
        refine rs_i2s i_X4_put_35 ?_
        refine rs_goto i_X4_put_36 (tg := 40) (by decide) ?_
        exact r_X4_put_40 hd hf
    · replace hf := (if_neg c6).symm.trans hf
      refine rs_ifF i_X4_put_18 (cf_ne c6) ?_
      refine rs_iload_n i_X4_put_21 rfl ?_
      refine rs_i2b i_X4_put_22 ?_
      refine rs_goto i_X4_put_23 (tg := 40) (by decide) ?_
      exact r_X4_put_40 hd hf
def f_X4_put (v0 : Nat) (v1 : Int32) (v2 : Int32) (h : Hp) : Option Hp := f_X4_put_0 v0 v1 v2 h
theorem c_X4_put {X : Nat → Int32} {d : Nat} (hd : 1 ≤ d) {v0 : Nat} {v1 : Int32} {v2 : Int32} {h : Hp} {o : Hp} (hf : f_X4_put v0 v1 v2 h = some o) : Calls X d 53 [.ref v0, .int v1, .int v2] h (none, o) := by
  obtain ⟨d, rfl⟩ : ∃ z, d = z + 1 := ⟨d - 1, by omega⟩
  exact ⟨_, rfl, r_X4_put_0 hd hf⟩
theorem i_X5_init_0 : fetch 54 0 = some (.aload_n 0, 1, 0, 0, 0, 0) := by decide +kernel
theorem i_X5_init_1 : fetch 54 1 = some (.invokespecial 3, 4, 1000, 0, 0, 148) := by decide +kernel
theorem i_X5_init_4 : fetch 54 4 = some (.aload_n 0, 5, 0, 0, 0, 0) := by decide +kernel
theorem i_X5_init_5 : fetch 54 5 = some (.iconst 0, 6, 0, 0, 0, 0) := by decide +kernel
theorem i_X5_init_6 : fetch 54 6 = some (.putfield 9, 9, 5, 0, 0, 149) := by decide +kernel
theorem i_X5_init_9 : fetch 54 9 = some (.aload_n 0, 10, 0, 0, 0, 0) := by decide +kernel
theorem i_X5_init_10 : fetch 54 10 = some (.iconst 0, 11, 0, 0, 0, 0) := by decide +kernel
theorem i_X5_init_11 : fetch 54 11 = some (.putfield 15, 14, 5, 1, 0, 152) := by decide +kernel
theorem i_X5_init_14 : fetch 54 14 = some (.aload_n 0, 15, 0, 0, 0, 0) := by decide +kernel
theorem i_X5_init_15 : fetch 54 15 = some (.iconst 1, 16, 0, 0, 0, 0) := by decide +kernel
theorem i_X5_init_16 : fetch 54 16 = some (.putfield 18, 19, 5, 2, 0, 155) := by decide +kernel
theorem i_X5_init_19 : fetch 54 19 = some (.return_, 20, 0, 0, 0, 0) := by decide +kernel
def f_X5_init_14 (v0 : Nat) (h : Hp) : Option Hp :=
  if okO h v0 5 then
  some (hsi h v0 2 1)
  else none
set_option maxRecDepth 100000 in
set_option maxHeartbeats 4000000 in
theorem r_X5_init_14 {X : Nat → Int32} {d : Nat} (hd : 0 ≤ d) {v0 : Nat} {h : Hp} {o : Hp} (hf : f_X5_init_14 v0 h = some o) : Run X d 54 14 [some (.ref v0)] [] h (none, o) := by
  unfold f_X5_init_14 at hf
  refine rs_aload_n i_X5_init_14 rfl ?_
  refine rs_iconst i_X5_init_15 (v := 1) (by decide) ?_
  obtain ⟨c1, hf⟩ := ite_some hf
  refine rs_putI i_X5_init_16 (by decide) c1 ?_
  have hf := Option.some.inj hf
  subst hf
  exact rs_vret i_X5_init_19 m_X5_init rfl
def f_X5_init_9 (v0 : Nat) (h : Hp) : Option Hp :=
  if okO h v0 5 then
  f_X5_init_14 v0 (hsi h v0 1 0)
  else none
set_option maxRecDepth 100000 in
set_option maxHeartbeats 4000000 in
theorem r_X5_init_9 {X : Nat → Int32} {d : Nat} (hd : 0 ≤ d) {v0 : Nat} {h : Hp} {o : Hp} (hf : f_X5_init_9 v0 h = some o) : Run X d 54 9 [some (.ref v0)] [] h (none, o) := by
  unfold f_X5_init_9 at hf
  refine rs_aload_n i_X5_init_9 rfl ?_
  refine rs_iconst i_X5_init_10 (v := 0) (by decide) ?_
  obtain ⟨c1, hf⟩ := ite_some hf
  refine rs_putI i_X5_init_11 (by decide) c1 ?_
  exact r_X5_init_14 hd hf
def f_X5_init_0 (v0 : Nat) (h : Hp) : Option Hp :=
  if okO h v0 5 then
  f_X5_init_9 v0 (hsi h v0 0 0)
  else none
set_option maxRecDepth 100000 in
set_option maxHeartbeats 4000000 in
theorem r_X5_init_0 {X : Nat → Int32} {d : Nat} (hd : 0 ≤ d) {v0 : Nat} {h : Hp} {o : Hp} (hf : f_X5_init_0 v0 h = some o) : Run X d 54 0 [some (.ref v0)] [] h (none, o) := by
  unfold f_X5_init_0 at hf
  refine rs_aload_n i_X5_init_0 rfl ?_
  refine rs_objI i_X5_init_1 (Nat.le_of_ble_eq_true rfl) ?_
  refine rs_aload_n i_X5_init_4 rfl ?_
  refine rs_iconst i_X5_init_5 (v := 0) (by decide) ?_
  obtain ⟨c1, hf⟩ := ite_some hf
  refine rs_putI i_X5_init_6 (by decide) c1 ?_
  exact r_X5_init_9 hd hf
def f_X5_init (v0 : Nat) (h : Hp) : Option Hp := f_X5_init_0 v0 h
theorem c_X5_init {X : Nat → Int32} {d : Nat} (hd : 0 ≤ d) {v0 : Nat} {h : Hp} {o : Hp} (hf : f_X5_init v0 h = some o) : Calls X d 54 [.ref v0] h (none, o) := by
  exact ⟨_, rfl, r_X5_init_0 hd hf⟩
theorem i_X5_become_0 : fetch 55 0 = some (.aload_n 0, 1, 0, 0, 0, 0) := by decide +kernel
theorem i_X5_become_1 : fetch 55 1 = some (.iload_n 1, 2, 0, 0, 0, 0) := by decide +kernel
theorem i_X5_become_2 : fetch 55 2 = some (.putfield 9, 5, 5, 0, 0, 149) := by decide +kernel
theorem i_X5_become_5 : fetch 55 5 = some (.aload_n 0, 6, 0, 0, 0, 0) := by decide +kernel
theorem i_X5_become_6 : fetch 55 6 = some (.iload_n 2, 7, 0, 0, 0, 0) := by decide +kernel
theorem i_X5_become_7 : fetch 55 7 = some (.putfield 15, 10, 5, 1, 0, 152) := by decide +kernel
theorem i_X5_become_10 : fetch 55 10 = some (.aload_n 0, 11, 0, 0, 0, 0) := by decide +kernel
theorem i_X5_become_11 : fetch 55 11 = some (.iload_n 3, 12, 0, 0, 0, 0) := by decide +kernel
theorem i_X5_become_12 : fetch 55 12 = some (.putfield 18, 15, 5, 2, 0, 155) := by decide +kernel
theorem i_X5_become_15 : fetch 55 15 = some (.return_, 16, 0, 0, 0, 0) := by decide +kernel
def f_X5_become_10 (v0 : Nat) (v3 : Int32) (h : Hp) : Option Hp :=
  if okO h v0 5 then
  some (hsi h v0 2 v3)
  else none
set_option maxRecDepth 100000 in
set_option maxHeartbeats 4000000 in
theorem r_X5_become_10 {X : Nat → Int32} {d : Nat} (hd : 0 ≤ d) {v0 : Nat} {v3 : Int32} {d1 : Int32} {d2 : Int32} {h : Hp} {o : Hp} (hf : f_X5_become_10 v0 v3 h = some o) : Run X d 55 10 [some (.ref v0), some (.int d1), some (.int d2), some (.int v3)] [] h (none, o) := by
  unfold f_X5_become_10 at hf
  refine rs_aload_n i_X5_become_10 rfl ?_
  refine rs_iload_n i_X5_become_11 rfl ?_
  obtain ⟨c1, hf⟩ := ite_some hf
  refine rs_putI i_X5_become_12 (by decide) c1 ?_
  have hf := Option.some.inj hf
  subst hf
  exact rs_vret i_X5_become_15 m_X5_become rfl
def f_X5_become_5 (v0 : Nat) (v2 : Int32) (v3 : Int32) (h : Hp) : Option Hp :=
  if okO h v0 5 then
  f_X5_become_10 v0 v3 (hsi h v0 1 v2)
  else none
set_option maxRecDepth 100000 in
set_option maxHeartbeats 4000000 in
theorem r_X5_become_5 {X : Nat → Int32} {d : Nat} (hd : 0 ≤ d) {v0 : Nat} {v2 : Int32} {v3 : Int32} {d1 : Int32} {h : Hp} {o : Hp} (hf : f_X5_become_5 v0 v2 v3 h = some o) : Run X d 55 5 [some (.ref v0), some (.int d1), some (.int v2), some (.int v3)] [] h (none, o) := by
  unfold f_X5_become_5 at hf
  refine rs_aload_n i_X5_become_5 rfl ?_
  refine rs_iload_n i_X5_become_6 rfl ?_
  obtain ⟨c1, hf⟩ := ite_some hf
  refine rs_putI i_X5_become_7 (by decide) c1 ?_
  exact r_X5_become_10 hd hf
def f_X5_become_0 (v0 : Nat) (v1 : Int32) (v2 : Int32) (v3 : Int32) (h : Hp) : Option Hp :=
  if okO h v0 5 then
  f_X5_become_5 v0 v2 v3 (hsi h v0 0 v1)
  else none
set_option maxRecDepth 100000 in
set_option maxHeartbeats 4000000 in
theorem r_X5_become_0 {X : Nat → Int32} {d : Nat} (hd : 0 ≤ d) {v0 : Nat} {v1 : Int32} {v2 : Int32} {v3 : Int32} {h : Hp} {o : Hp} (hf : f_X5_become_0 v0 v1 v2 v3 h = some o) : Run X d 55 0 [some (.ref v0), some (.int v1), some (.int v2), some (.int v3)] [] h (none, o) := by
  unfold f_X5_become_0 at hf
  refine rs_aload_n i_X5_become_0 rfl ?_
  refine rs_iload_n i_X5_become_1 rfl ?_
  obtain ⟨c1, hf⟩ := ite_some hf
  refine rs_putI i_X5_become_2 (by decide) c1 ?_
  exact r_X5_become_5 hd hf
def f_X5_become (v0 : Nat) (v1 : Int32) (v2 : Int32) (v3 : Int32) (h : Hp) : Option Hp := f_X5_become_0 v0 v1 v2 v3 h
theorem c_X5_become {X : Nat → Int32} {d : Nat} (hd : 0 ≤ d) {v0 : Nat} {v1 : Int32} {v2 : Int32} {v3 : Int32} {h : Hp} {o : Hp} (hf : f_X5_become v0 v1 v2 v3 h = some o) : Calls X d 55 [.ref v0, .int v1, .int v2, .int v3] h (none, o) := by
  exact ⟨_, rfl, r_X5_become_0 hd hf⟩
theorem i_X5_takes_0 : fetch 56 0 = some (.aload_n 0, 1, 0, 0, 0, 0) := by decide +kernel
theorem i_X5_takes_1 : fetch 56 1 = some (.getfield 9, 4, 5, 0, 0, 149) := by decide +kernel
theorem i_X5_takes_4 : fetch 56 4 = some (.tableswitch 68 1 5 #[36, 44, 52, 54, 61], 40, 0, 0, 0, 0) := by decide +kernel
theorem i_X5_takes_40 : fetch 56 40 = some (.bipush 10, 42, 0, 0, 0, 0) := by decide +kernel
theorem i_X5_takes_42 : fetch 56 42 = some (.aload_n 0, 43, 0, 0, 0, 0) := by decide +kernel
theorem i_X5_takes_43 : fetch 56 43 = some (.getfield 18, 46, 5, 2, 0, 155) := by decide +kernel
theorem i_X5_takes_46 : fetch 56 46 = some (.isub, 47, 0, 0, 0, 0) := by decide +kernel
theorem i_X5_takes_47 : fetch 56 47 = some (.ireturn, 48, 0, 0, 0, 0) := by decide +kernel
theorem i_X5_takes_48 : fetch 56 48 = some (.bipush 12, 50, 0, 0, 0, 0) := by decide +kernel
theorem i_X5_takes_50 : fetch 56 50 = some (.aload_n 0, 51, 0, 0, 0, 0) := by decide +kernel
theorem i_X5_takes_51 : fetch 56 51 = some (.getfield 18, 54, 5, 2, 0, 155) := by decide +kernel
theorem i_X5_takes_54 : fetch 56 54 = some (.isub, 55, 0, 0, 0, 0) := by decide +kernel
theorem i_X5_takes_55 : fetch 56 55 = some (.ireturn, 56, 0, 0, 0, 0) := by decide +kernel
theorem i_X5_takes_56 : fetch 56 56 = some (.iconst 3, 57, 0, 0, 0, 0) := by decide +kernel
theorem i_X5_takes_57 : fetch 56 57 = some (.ireturn, 58, 0, 0, 0, 0) := by decide +kernel
theorem i_X5_takes_58 : fetch 56 58 = some (.aload_n 0, 59, 0, 0, 0, 0) := by decide +kernel
theorem i_X5_takes_59 : fetch 56 59 = some (.getfield 15, 62, 5, 1, 0, 152) := by decide +kernel
theorem i_X5_takes_62 : fetch 56 62 = some (.iconst 1, 63, 0, 0, 0, 0) := by decide +kernel
theorem i_X5_takes_63 : fetch 56 63 = some (.iadd, 64, 0, 0, 0, 0) := by decide +kernel
theorem i_X5_takes_64 : fetch 56 64 = some (.ireturn, 65, 0, 0, 0, 0) := by decide +kernel
theorem i_X5_takes_65 : fetch 56 65 = some (.aload_n 0, 66, 0, 0, 0, 0) := by decide +kernel
theorem i_X5_takes_66 : fetch 56 66 = some (.getfield 15, 69, 5, 1, 0, 152) := by decide +kernel
theorem i_X5_takes_69 : fetch 56 69 = some (.iconst 3, 70, 0, 0, 0, 0) := by decide +kernel
theorem i_X5_takes_70 : fetch 56 70 = some (.iadd, 71, 0, 0, 0, 0) := by decide +kernel
theorem i_X5_takes_71 : fetch 56 71 = some (.ireturn, 72, 0, 0, 0, 0) := by decide +kernel
theorem i_X5_takes_72 : fetch 56 72 = some (.bipush 10, 74, 0, 0, 0, 0) := by decide +kernel
theorem i_X5_takes_74 : fetch 56 74 = some (.aload_n 0, 75, 0, 0, 0, 0) := by decide +kernel
theorem i_X5_takes_75 : fetch 56 75 = some (.getfield 15, 78, 5, 1, 0, 152) := by decide +kernel
theorem i_X5_takes_78 : fetch 56 78 = some (.imul, 79, 0, 0, 0, 0) := by decide +kernel
theorem i_X5_takes_79 : fetch 56 79 = some (.ireturn, 80, 0, 0, 0, 0) := by decide +kernel
def f_X5_takes_0 (v0 : Nat) (h : Hp) : Option (Int32 × Hp) :=
  if okO h v0 5 then
  if (gI h v0 0) = 1 then
    some ((10 - (gI h v0 2)), h)
  else
    if (gI h v0 0) = 2 then
      some ((12 - (gI h v0 2)), h)
    else
      if (gI h v0 0) = 3 then
        some (3, h)
      else
        if (gI h v0 0) = 4 then
          some (((gI h v0 1) + 1), h)
        else
          if (gI h v0 0) = 5 then
            some (((gI h v0 1) + 3), h)
          else
            some ((10 * (gI h v0 1)), h)
  else none
set_option maxRecDepth 100000 in
set_option maxHeartbeats 4000000 in
theorem r_X5_takes_0 {X : Nat → Int32} {d : Nat} (hd : 0 ≤ d) {v0 : Nat} {h : Hp} {o : (Int32 × Hp)} (hf : f_X5_takes_0 v0 h = some o) : Run X d 56 0 [some (.ref v0)] [] h (some (.int o.1), o.2) := by
  unfold f_X5_takes_0 at hf
  refine rs_aload_n i_X5_takes_0 rfl ?_
  obtain ⟨c1, hf⟩ := ite_some hf
  refine rs_getI i_X5_takes_1 (by decide) (by decide) c1 ?_
  by_cases c2 : (gI h v0 0) = 1
  · replace hf := (if_pos c2).symm.trans hf
    refine rs_tsw i_X5_takes_4 (off := 36) (by rw [c2]; decide) (tg := 40) (by decide) ?_
    refine rs_bipush i_X5_takes_40 (v := 10) (by decide) ?_
    refine rs_aload_n i_X5_takes_42 rfl ?_
    refine rs_getI i_X5_takes_43 (by decide) (by decide) c1 ?_
    refine rs_isub i_X5_takes_46 ?_
    have hf := Option.some.inj hf
    subst hf
    exact rs_iret i_X5_takes_47 m_X5_takes rfl
  · replace hf := (if_neg c2).symm.trans hf
    by_cases c3 : (gI h v0 0) = 2
    · replace hf := (if_pos c3).symm.trans hf
      refine rs_tsw i_X5_takes_4 (off := 44) (by rw [c3]; decide) (tg := 48) (by decide) ?_
      refine rs_bipush i_X5_takes_48 (v := 12) (by decide) ?_
      refine rs_aload_n i_X5_takes_50 rfl ?_
      refine rs_getI i_X5_takes_51 (by decide) (by decide) c1 ?_
      refine rs_isub i_X5_takes_54 ?_
      have hf := Option.some.inj hf
      subst hf
      exact rs_iret i_X5_takes_55 m_X5_takes rfl
    · replace hf := (if_neg c3).symm.trans hf
      by_cases c4 : (gI h v0 0) = 3
      · replace hf := (if_pos c4).symm.trans hf
        refine rs_tsw i_X5_takes_4 (off := 52) (by rw [c4]; decide) (tg := 56) (by decide) ?_
        refine rs_iconst i_X5_takes_56 (v := 3) (by decide) ?_
        have hf := Option.some.inj hf
        subst hf
        exact rs_iret i_X5_takes_57 m_X5_takes rfl
      · replace hf := (if_neg c4).symm.trans hf
        by_cases c5 : (gI h v0 0) = 4
        · replace hf := (if_pos c5).symm.trans hf
          refine rs_tsw i_X5_takes_4 (off := 54) (by rw [c5]; decide) (tg := 58) (by decide) ?_
          refine rs_aload_n i_X5_takes_58 rfl ?_
          refine rs_getI i_X5_takes_59 (by decide) (by decide) c1 ?_
          refine rs_iconst i_X5_takes_62 (v := 1) (by decide) ?_
          refine rs_iadd i_X5_takes_63 ?_
          have hf := Option.some.inj hf
          subst hf
          exact rs_iret i_X5_takes_64 m_X5_takes rfl
        · replace hf := (if_neg c5).symm.trans hf
          by_cases c6 : (gI h v0 0) = 5
          · replace hf := (if_pos c6).symm.trans hf
            refine rs_tsw i_X5_takes_4 (off := 61) (by rw [c6]; decide) (tg := 65) (by decide) ?_
            refine rs_aload_n i_X5_takes_65 rfl ?_
            refine rs_getI i_X5_takes_66 (by decide) (by decide) c1 ?_
            refine rs_iconst i_X5_takes_69 (v := 3) (by decide) ?_
            refine rs_iadd i_X5_takes_70 ?_
            have hf := Option.some.inj hf
            subst hf
            exact rs_iret i_X5_takes_71 m_X5_takes rfl
          · replace hf := (if_neg c6).symm.trans hf
            refine rs_tsw i_X5_takes_4 (off := 68) (swt_df (by have z0 := ne_ti c2; rw [show (1 : Int32).toInt = 1 from by decide] at z0; have z1 := ne_ti c3; rw [show (2 : Int32).toInt = 2 from by decide] at z1; have z2 := ne_ti c4; rw [show (3 : Int32).toInt = 3 from by decide] at z2; have z3 := ne_ti c5; rw [show (4 : Int32).toInt = 4 from by decide] at z3; have z4 := ne_ti c6; rw [show (5 : Int32).toInt = 5 from by decide] at z4; omega)) (tg := 72) (by decide) ?_
            refine rs_bipush i_X5_takes_72 (v := 10) (by decide) ?_
            refine rs_aload_n i_X5_takes_74 rfl ?_
            refine rs_getI i_X5_takes_75 (by decide) (by decide) c1 ?_
            refine rs_imul i_X5_takes_78 ?_
            have hf := Option.some.inj hf
            subst hf
            exact rs_iret i_X5_takes_79 m_X5_takes rfl
def f_X5_takes (v0 : Nat) (h : Hp) : Option (Int32 × Hp) := f_X5_takes_0 v0 h
theorem c_X5_takes {X : Nat → Int32} {d : Nat} (hd : 0 ≤ d) {v0 : Nat} {h : Hp} {o : (Int32 × Hp)} (hf : f_X5_takes v0 h = some o) : Calls X d 56 [.ref v0] h (some (.int o.1), o.2) := by
  exact ⟨_, rfl, r_X5_takes_0 hd hf⟩
theorem i_X5_isA_0 : fetch 57 0 = some (.aload_n 0, 1, 0, 0, 0, 0) := by decide +kernel
theorem i_X5_isA_1 : fetch 57 1 = some (.getfield 9, 4, 5, 0, 0, 149) := by decide +kernel
theorem i_X5_isA_4 : fetch 57 4 = some (.istore_n 2, 5, 0, 0, 0, 0) := by decide +kernel
theorem i_X5_isA_5 : fetch 57 5 = some (.iconst 0, 6, 0, 0, 0, 0) := by decide +kernel
theorem i_X5_isA_6 : fetch 57 6 = some (.istore_n 3, 7, 0, 0, 0, 0) := by decide +kernel
theorem i_X5_isA_7 : fetch 57 7 = some (.iload_n 3, 8, 0, 0, 0, 0) := by decide +kernel
theorem i_X5_isA_8 : fetch 57 8 = some (.bipush 6, 10, 0, 0, 0, 0) := by decide +kernel
theorem i_X5_isA_10 : fetch 57 10 = some (.if_icmp .ge 31, 13, 0, 0, 0, 0) := by decide +kernel
theorem i_X5_isA_13 : fetch 57 13 = some (.iload_n 2, 14, 0, 0, 0, 0) := by decide +kernel
theorem i_X5_isA_14 : fetch 57 14 = some (.iconst 0, 15, 0, 0, 0, 0) := by decide +kernel
theorem i_X5_isA_15 : fetch 57 15 = some (.iconst 5, 16, 0, 0, 0, 0) := by decide +kernel
theorem i_X5_isA_16 : fetch 57 16 = some (.invokestatic 21, 19, 110, 1, 0, 952) := by decide +kernel
theorem i_X5_isA_19 : fetch 57 19 = some (.ifCond .eq 22, 22, 0, 0, 0, 0) := by decide +kernel
theorem i_X5_isA_22 : fetch 57 22 = some (.iload_n 2, 23, 0, 0, 0, 0) := by decide +kernel
theorem i_X5_isA_23 : fetch 57 23 = some (.iload_n 1, 24, 0, 0, 0, 0) := by decide +kernel
theorem i_X5_isA_24 : fetch 57 24 = some (.if_icmp .ne 5, 27, 0, 0, 0, 0) := by decide +kernel
theorem i_X5_isA_27 : fetch 57 27 = some (.iconst 1, 28, 0, 0, 0, 0) := by decide +kernel
theorem i_X5_isA_28 : fetch 57 28 = some (.ireturn, 29, 0, 0, 0, 0) := by decide +kernel
theorem i_X5_isA_29 : fetch 57 29 = some (.getstatic 25, 32, 0, 1, 0, 953) := by decide +kernel
theorem i_X5_isA_32 : fetch 57 32 = some (.iload_n 2, 33, 0, 0, 0, 0) := by decide +kernel
theorem i_X5_isA_33 : fetch 57 33 = some (.iaload, 34, 0, 0, 0, 0) := by decide +kernel
theorem i_X5_isA_34 : fetch 57 34 = some (.istore_n 2, 35, 0, 0, 0, 0) := by decide +kernel
theorem i_X5_isA_35 : fetch 57 35 = some (.iinc 3 1, 38, 0, 0, 0, 0) := by decide +kernel
theorem i_X5_isA_38 : fetch 57 38 = some (.goto (-31), 41, 0, 0, 0, 0) := by decide +kernel
theorem i_X5_isA_41 : fetch 57 41 = some (.iconst 0, 42, 0, 0, 0, 0) := by decide +kernel
theorem i_X5_isA_42 : fetch 57 42 = some (.ireturn, 43, 0, 0, 0, 0) := by decide +kernel
def f_X5_isA_7 (n : Nat) : Nat → Int32 → Int32 → Int32 → Hp → Option (Int32 × Hp)
  | 0, _, _, _, _ => none
  | m + 1, v1, v2, v3, h =>
    if 6 ≤ v3 then
      some (0, h)
    else
      (f_X7_within v2 0 5 h).bind fun o2 =>
      if o2.1 = 0 then
        some (0, o2.2)
      else
        if v2 ≠ v1 then
          if okC o2.2 0 v2 then
          (f_X5_isA_7 n m) v1 (roC 0 (ix v2)) (v3 + 1) o2.2
          else none
        else
          some (1, o2.2)
set_option maxRecDepth 100000 in
set_option maxHeartbeats 4000000 in
theorem r_X5_isA_7 {X : Nat → Int32} {d : Nat} (hd : 1 ≤ (d + 1)) {n : Nat} : ∀ (m : Nat) (v1 : Int32) (v2 : Int32) (v3 : Int32) (d0 : Nat) (h : Hp) (o : (Int32 × Hp)), f_X5_isA_7 n m v1 v2 v3 h = some o → Run X (d + 1) 57 7 [some (.ref d0), some (.int v1), some (.int v2), some (.int v3)] [] h (some (.int o.1), o.2) := by
  intro m
  induction m with
  | zero => intro v1 v2 v3 d0 h o hf; cases hf
  | succ m ih =>
    intro v1 v2 v3 d0 h o hf
    rw [f_X5_isA_7] at hf
    refine rs_iload_n i_X5_isA_7 rfl ?_
    refine rs_bipush i_X5_isA_8 (v := 6) (by decide) ?_
    by_cases c1 : 6 ≤ v3
    · replace hf := (if_pos c1).symm.trans hf
      refine rs_icT i_X5_isA_10 (ct_ge c1) (tg := 41) (by decide) ?_
      refine rs_iconst i_X5_isA_41 (v := 0) (by decide) ?_
      have hf := Option.some.inj hf
      subst hf
      exact rs_iret i_X5_isA_42 m_X5_isA (by decide)
    · replace hf := (if_neg c1).symm.trans hf
      refine rs_icF i_X5_isA_10 (cf_ge c1) ?_
      refine rs_iload_n i_X5_isA_13 rfl ?_
      refine rs_iconst i_X5_isA_14 (v := 0) (by decide) ?_
      refine rs_iconst i_X5_isA_15 (v := 5) (by decide) ?_
      obtain ⟨o2, e2, hf⟩ := bind_some hf
      refine rs_inS i_X5_isA_16 (by decide) m_X7_within rfl (As := [.int v2, .int 0, .int 5]) (rest := []) rfl rfl (Nat.le_of_ble_eq_true rfl) (c_X7_within (by omega) e2) (st' := [.int o2.1]) rfl ?_
      by_cases c3 : o2.1 = 0
      · replace hf := (if_pos c3).symm.trans hf
        refine rs_ifT i_X5_isA_19 (ct_eq c3) (tg := 41) (by decide) ?_
        refine rs_iconst i_X5_isA_41 (v := 0) (by decide) ?_
        have hf := Option.some.inj hf
        subst hf
        exact rs_iret i_X5_isA_42 m_X5_isA (by decide)
      · replace hf := (if_neg c3).symm.trans hf
        refine rs_ifF i_X5_isA_19 (cf_eq c3) ?_
        refine rs_iload_n i_X5_isA_22 rfl ?_
        refine rs_iload_n i_X5_isA_23 rfl ?_
        by_cases c4 : v2 ≠ v1
        · replace hf := (if_pos c4).symm.trans hf
          refine rs_icT i_X5_isA_24 (ct_ne c4) (tg := 29) (by decide) ?_
          refine rs_gst0 i_X5_isA_29 rfl ?_
          refine rs_iload_n i_X5_isA_32 rfl ?_
          obtain ⟨c5, hf⟩ := ite_some hf
          refine rs_ialdA i_X5_isA_33 c5 ?_
          refine rs_istore_n i_X5_isA_34 (Nat.le_of_ble_eq_true rfl) (lv' := [some (.ref d0), some (.int v1), some (.int (roC 0 (ix v2))), some (.int v3)]) rfl ?_
          refine rs_iinc i_X5_isA_35 rfl (v := v3 + 1) rfl (Nat.le_of_ble_eq_true rfl) (lv' := [some (.ref d0), some (.int v1), some (.int (roC 0 (ix v2))), some (.int (v3 + 1))]) rfl ?_
          refine rs_goto i_X5_isA_38 (tg := 7) (by decide) ?_
          exact ih _ _ _ _ _ _ hf
        · replace hf := (if_neg c4).symm.trans hf
          refine rs_icF i_X5_isA_24 (cf_ne c4) ?_
          refine rs_iconst i_X5_isA_27 (v := 1) (by decide) ?_
          have hf := Option.some.inj hf
          subst hf
          exact rs_iret i_X5_isA_28 m_X5_isA (by decide)
def f_X5_isA_0 (n : Nat) (v0 : Nat) (v1 : Int32) (h : Hp) : Option (Int32 × Hp) :=
  if okO h v0 5 then
  f_X5_isA_7 n n v1 (gI h v0 0) 0 h
  else none
set_option maxRecDepth 100000 in
set_option maxHeartbeats 4000000 in
theorem r_X5_isA_0 {X : Nat → Int32} {d : Nat} (hd : 1 ≤ (d + 1)) {n : Nat} {v0 : Nat} {v1 : Int32} {h : Hp} {o : (Int32 × Hp)} (hf : f_X5_isA_0 n v0 v1 h = some o) : Run X (d + 1) 57 0 [some (.ref v0), some (.int v1), none, none] [] h (some (.int o.1), o.2) := by
  unfold f_X5_isA_0 at hf
  refine rs_aload_n i_X5_isA_0 rfl ?_
  obtain ⟨c1, hf⟩ := ite_some hf
  refine rs_getI i_X5_isA_1 (by decide) (by decide) c1 ?_
  refine rs_istore_n i_X5_isA_4 (Nat.le_of_ble_eq_true rfl) (lv' := [some (.ref v0), some (.int v1), some (.int (gI h v0 0)), none]) rfl ?_
  refine rs_iconst i_X5_isA_5 (v := 0) (by decide) ?_
  refine rs_istore_n i_X5_isA_6 (Nat.le_of_ble_eq_true rfl) (lv' := [some (.ref v0), some (.int v1), some (.int (gI h v0 0)), some (.int 0)]) rfl ?_
  exact r_X5_isA_7 hd _ _ _ _ _ _ _ hf
def f_X5_isA (n : Nat) (v0 : Nat) (v1 : Int32) (h : Hp) : Option (Int32 × Hp) := f_X5_isA_0 n v0 v1 h
theorem c_X5_isA {X : Nat → Int32} {d : Nat} (hd : 1 ≤ d) {n : Nat} {v0 : Nat} {v1 : Int32} {h : Hp} {o : (Int32 × Hp)} (hf : f_X5_isA n v0 v1 h = some o) : Calls X d 57 [.ref v0, .int v1] h (some (.int o.1), o.2) := by
  obtain ⟨d, rfl⟩ : ∃ z, d = z + 1 := ⟨d - 1, by omega⟩
  exact ⟨_, rfl, r_X5_isA_0 hd hf⟩
theorem i_X6_init_0 : fetch 58 0 = some (.aload_n 0, 1, 0, 0, 0, 0) := by decide +kernel
theorem i_X6_init_1 : fetch 58 1 = some (.invokespecial 3, 4, 1000, 0, 0, 169) := by decide +kernel
theorem i_X6_init_4 : fetch 58 4 = some (.aload_n 0, 5, 0, 0, 0, 0) := by decide +kernel
theorem i_X6_init_5 : fetch 58 5 = some (.sipush 160, 8, 0, 0, 0, 0) := by decide +kernel
theorem i_X6_init_8 : fetch 58 8 = some (.newarray .int, 10, 9, 0, 0, 0) := by decide +kernel
theorem i_X6_init_10 : fetch 58 10 = some (.putfield 9, 13, 6, 0, 0, 170) := by decide +kernel
theorem i_X6_init_13 : fetch 58 13 = some (.aload_n 0, 14, 0, 0, 0, 0) := by decide +kernel
theorem i_X6_init_14 : fetch 58 14 = some (.iconst 3, 15, 0, 0, 0, 0) := by decide +kernel
theorem i_X6_init_15 : fetch 58 15 = some (.newarray .int, 17, 9, 0, 0, 0) := by decide +kernel
theorem i_X6_init_17 : fetch 58 17 = some (.putfield 15, 20, 6, 1, 0, 171) := by decide +kernel
theorem i_X6_init_20 : fetch 58 20 = some (.aload_n 0, 21, 0, 0, 0, 0) := by decide +kernel
theorem i_X6_init_21 : fetch 58 21 = some (.bipush 40, 23, 0, 0, 0, 0) := by decide +kernel
theorem i_X6_init_23 : fetch 58 23 = some (.newarray .int, 25, 9, 0, 0, 0) := by decide +kernel
theorem i_X6_init_25 : fetch 58 25 = some (.putfield 18, 28, 6, 2, 0, 172) := by decide +kernel
theorem i_X6_init_28 : fetch 58 28 = some (.aload_n 0, 29, 0, 0, 0, 0) := by decide +kernel
theorem i_X6_init_29 : fetch 58 29 = some (.iconst 0, 30, 0, 0, 0, 0) := by decide +kernel
theorem i_X6_init_30 : fetch 58 30 = some (.putfield 21, 33, 6, 3, 0, 173) := by decide +kernel
theorem i_X6_init_33 : fetch 58 33 = some (.return_, 34, 0, 0, 0, 0) := by decide +kernel
def f_X6_init_28 (v0 : Nat) (h : Hp) : Option Hp :=
  if okO h v0 6 then
  some (hsi h v0 3 0)
  else none
set_option maxRecDepth 100000 in
set_option maxHeartbeats 4000000 in
theorem r_X6_init_28 {X : Nat → Int32} {d : Nat} (hd : 0 ≤ d) {v0 : Nat} {h : Hp} {o : Hp} (hf : f_X6_init_28 v0 h = some o) : Run X d 58 28 [some (.ref v0)] [] h (none, o) := by
  unfold f_X6_init_28 at hf
  refine rs_aload_n i_X6_init_28 rfl ?_
  refine rs_iconst i_X6_init_29 (v := 0) (by decide) ?_
  obtain ⟨c1, hf⟩ := ite_some hf
  refine rs_putI i_X6_init_30 (by decide) c1 ?_
  have hf := Option.some.inj hf
  subst hf
  exact rs_vret i_X6_init_33 m_X6_init rfl
def f_X6_init_25 (v0 : Nat) (s0 : Nat) (s1 : Nat) (h : Hp) : Option Hp :=
  if okO h s0 6 then
  if 16 ≤ s1 then
  f_X6_init_28 v0 (hsr h s0 2 (some s1))
  else none
  else none
set_option maxRecDepth 100000 in
set_option maxHeartbeats 4000000 in
theorem r_X6_init_25 {X : Nat → Int32} {d : Nat} (hd : 0 ≤ d) {v0 : Nat} {s0 : Nat} {s1 : Nat} {h : Hp} {o : Hp} (hf : f_X6_init_25 v0 s0 s1 h = some o) : Run X d 58 25 [some (.ref v0)] [.ref s1, .ref s0] h (none, o) := by
  unfold f_X6_init_25 at hf
  obtain ⟨c1, hf⟩ := ite_some hf
  obtain ⟨c2, hf⟩ := ite_some hf
  refine rs_putR i_X6_init_25 (by decide) c2 c1 ?_
  exact r_X6_init_28 hd hf
def f_X6_init_20 (v0 : Nat) (h : Hp) : Option Hp :=
  f_X6_init_25 v0 v0 h.1.length (hnew h (9, ix 40))
set_option maxRecDepth 100000 in
set_option maxHeartbeats 4000000 in
theorem r_X6_init_20 {X : Nat → Int32} {d : Nat} (hd : 0 ≤ d) {v0 : Nat} {h : Hp} {o : Hp} (hf : f_X6_init_20 v0 h = some o) : Run X d 58 20 [some (.ref v0)] [] h (none, o) := by
  unfold f_X6_init_20 at hf
  refine rs_aload_n i_X6_init_20 rfl ?_
  refine rs_bipush i_X6_init_21 (v := 40) (by decide) ?_
  refine rs_newa i_X6_init_23 (by decide) ?_
  exact r_X6_init_25 hd hf
def f_X6_init_17 (v0 : Nat) (s0 : Nat) (s1 : Nat) (h : Hp) : Option Hp :=
  if okO h s0 6 then
  if 16 ≤ s1 then
  f_X6_init_20 v0 (hsr h s0 1 (some s1))
  else none
  else none
set_option maxRecDepth 100000 in
set_option maxHeartbeats 4000000 in
theorem r_X6_init_17 {X : Nat → Int32} {d : Nat} (hd : 0 ≤ d) {v0 : Nat} {s0 : Nat} {s1 : Nat} {h : Hp} {o : Hp} (hf : f_X6_init_17 v0 s0 s1 h = some o) : Run X d 58 17 [some (.ref v0)] [.ref s1, .ref s0] h (none, o) := by
  unfold f_X6_init_17 at hf
  obtain ⟨c1, hf⟩ := ite_some hf
  obtain ⟨c2, hf⟩ := ite_some hf
  refine rs_putR i_X6_init_17 (by decide) c2 c1 ?_
  exact r_X6_init_20 hd hf
def f_X6_init_13 (v0 : Nat) (h : Hp) : Option Hp :=
  f_X6_init_17 v0 v0 h.1.length (hnew h (9, ix 3))
set_option maxRecDepth 100000 in
set_option maxHeartbeats 4000000 in
theorem r_X6_init_13 {X : Nat → Int32} {d : Nat} (hd : 0 ≤ d) {v0 : Nat} {h : Hp} {o : Hp} (hf : f_X6_init_13 v0 h = some o) : Run X d 58 13 [some (.ref v0)] [] h (none, o) := by
  unfold f_X6_init_13 at hf
  refine rs_aload_n i_X6_init_13 rfl ?_
  refine rs_iconst i_X6_init_14 (v := 3) (by decide) ?_
  refine rs_newa i_X6_init_15 (by decide) ?_
  exact r_X6_init_17 hd hf
def f_X6_init_10 (v0 : Nat) (s0 : Nat) (s1 : Nat) (h : Hp) : Option Hp :=
  if okO h s0 6 then
  if 16 ≤ s1 then
  f_X6_init_13 v0 (hsr h s0 0 (some s1))
  else none
  else none
set_option maxRecDepth 100000 in
set_option maxHeartbeats 4000000 in
theorem r_X6_init_10 {X : Nat → Int32} {d : Nat} (hd : 0 ≤ d) {v0 : Nat} {s0 : Nat} {s1 : Nat} {h : Hp} {o : Hp} (hf : f_X6_init_10 v0 s0 s1 h = some o) : Run X d 58 10 [some (.ref v0)] [.ref s1, .ref s0] h (none, o) := by
  unfold f_X6_init_10 at hf
  obtain ⟨c1, hf⟩ := ite_some hf
  obtain ⟨c2, hf⟩ := ite_some hf
  refine rs_putR i_X6_init_10 (by decide) c2 c1 ?_
  exact r_X6_init_13 hd hf
def f_X6_init_0 (v0 : Nat) (h : Hp) : Option Hp :=
  f_X6_init_10 v0 v0 h.1.length (hnew h (9, ix 160))
set_option maxRecDepth 100000 in
set_option maxHeartbeats 4000000 in
theorem r_X6_init_0 {X : Nat → Int32} {d : Nat} (hd : 0 ≤ d) {v0 : Nat} {h : Hp} {o : Hp} (hf : f_X6_init_0 v0 h = some o) : Run X d 58 0 [some (.ref v0)] [] h (none, o) := by
  unfold f_X6_init_0 at hf
  refine rs_aload_n i_X6_init_0 rfl ?_
  refine rs_objI i_X6_init_1 (Nat.le_of_ble_eq_true rfl) ?_
  refine rs_aload_n i_X6_init_4 rfl ?_
  refine rs_sipush i_X6_init_5 (v := 160) (by decide) ?_
  refine rs_newa i_X6_init_8 (by decide) ?_
  exact r_X6_init_10 hd hf
def f_X6_init (v0 : Nat) (h : Hp) : Option Hp := f_X6_init_0 v0 h
theorem c_X6_init {X : Nat → Int32} {d : Nat} (hd : 0 ≤ d) {v0 : Nat} {h : Hp} {o : Hp} (hf : f_X6_init v0 h = some o) : Calls X d 58 [.ref v0] h (none, o) := by
  exact ⟨_, rfl, r_X6_init_0 hd hf⟩
theorem i_X7_init_0 : fetch 66 0 = some (.aload_n 0, 1, 0, 0, 0, 0) := by decide +kernel
theorem i_X7_init_1 : fetch 66 1 = some (.invokespecial 1, 4, 1000, 0, 0, 82) := by decide +kernel
theorem i_X7_init_4 : fetch 66 4 = some (.aload_n 0, 5, 0, 0, 0, 0) := by decide +kernel
theorem i_X7_init_5 : fetch 66 5 = some (.new 7, 8, 0, 0, 0, 85) := by decide +kernel
theorem i_X7_init_8 : fetch 66 8 = some (.dup, 9, 0, 0, 0, 0) := by decide +kernel
theorem i_X7_init_9 : fetch 66 9 = some (.invokespecial 9, 12, 1, 0, 0, 87) := by decide +kernel
theorem i_X7_init_12 : fetch 66 12 = some (.putfield 10, 15, 7, 0, 0, 483) := by decide +kernel
theorem i_X7_init_15 : fetch 66 15 = some (.aload_n 0, 16, 0, 0, 0, 0) := by decide +kernel
theorem i_X7_init_16 : fetch 66 16 = some (.new 7, 19, 0, 0, 0, 85) := by decide +kernel
theorem i_X7_init_19 : fetch 66 19 = some (.dup, 20, 0, 0, 0, 0) := by decide +kernel
theorem i_X7_init_20 : fetch 66 20 = some (.invokespecial 9, 23, 1, 0, 0, 87) := by decide +kernel
theorem i_X7_init_23 : fetch 66 23 = some (.putfield 16, 26, 7, 1, 0, 484) := by decide +kernel
theorem i_X7_init_26 : fetch 66 26 = some (.aload_n 0, 27, 0, 0, 0, 0) := by decide +kernel
theorem i_X7_init_27 : fetch 66 27 = some (.new 7, 30, 0, 0, 0, 85) := by decide +kernel
theorem i_X7_init_30 : fetch 66 30 = some (.dup, 31, 0, 0, 0, 0) := by decide +kernel
theorem i_X7_init_31 : fetch 66 31 = some (.invokespecial 9, 34, 1, 0, 0, 87) := by decide +kernel
theorem i_X7_init_34 : fetch 66 34 = some (.putfield 19, 37, 7, 2, 0, 485) := by decide +kernel
theorem i_X7_init_37 : fetch 66 37 = some (.aload_n 0, 38, 0, 0, 0, 0) := by decide +kernel
theorem i_X7_init_38 : fetch 66 38 = some (.bipush 12, 40, 0, 0, 0, 0) := by decide +kernel
theorem i_X7_init_40 : fetch 66 40 = some (.anewarray 22, 43, 12, 0, 0, 112) := by decide +kernel
theorem i_X7_init_43 : fetch 66 43 = some (.putfield 24, 46, 7, 3, 0, 486) := by decide +kernel
theorem i_X7_init_46 : fetch 66 46 = some (.aload_n 0, 47, 0, 0, 0, 0) := by decide +kernel
theorem i_X7_init_47 : fetch 66 47 = some (.bipush 6, 49, 0, 0, 0, 0) := by decide +kernel
theorem i_X7_init_49 : fetch 66 49 = some (.anewarray 28, 52, 13, 0, 0, 114) := by decide +kernel
theorem i_X7_init_52 : fetch 66 52 = some (.putfield 30, 55, 7, 4, 0, 487) := by decide +kernel
theorem i_X7_init_55 : fetch 66 55 = some (.aload_n 0, 56, 0, 0, 0, 0) := by decide +kernel
theorem i_X7_init_56 : fetch 66 56 = some (.new 34, 59, 2, 0, 0, 116) := by decide +kernel
theorem i_X7_init_59 : fetch 66 59 = some (.dup, 60, 0, 0, 0, 0) := by decide +kernel
theorem i_X7_init_60 : fetch 66 60 = some (.invokespecial 36, 63, 9, 1, 0, 118) := by decide +kernel
theorem i_X7_init_63 : fetch 66 63 = some (.putfield 37, 66, 7, 5, 0, 488) := by decide +kernel
theorem i_X7_init_66 : fetch 66 66 = some (.aload_n 0, 67, 0, 0, 0, 0) := by decide +kernel
theorem i_X7_init_67 : fetch 66 67 = some (.iconst 4, 68, 0, 0, 0, 0) := by decide +kernel
theorem i_X7_init_68 : fetch 66 68 = some (.anewarray 41, 71, 11, 0, 0, 142) := by decide +kernel
theorem i_X7_init_71 : fetch 66 71 = some (.putfield 43, 74, 7, 9, 0, 492) := by decide +kernel
theorem i_X7_init_74 : fetch 66 74 = some (.aload_n 0, 75, 0, 0, 0, 0) := by decide +kernel
theorem i_X7_init_75 : fetch 66 75 = some (.bipush 16, 77, 0, 0, 0, 0) := by decide +kernel
theorem i_X7_init_77 : fetch 66 77 = some (.newarray .int, 79, 9, 0, 0, 0) := by decide +kernel
theorem i_X7_init_79 : fetch 66 79 = some (.putfield 47, 82, 7, 10, 0, 493) := by decide +kernel
theorem i_X7_init_82 : fetch 66 82 = some (.aload_n 0, 83, 0, 0, 0, 0) := by decide +kernel
theorem i_X7_init_83 : fetch 66 83 = some (.bipush 16, 85, 0, 0, 0, 0) := by decide +kernel
theorem i_X7_init_85 : fetch 66 85 = some (.newarray .int, 87, 9, 0, 0, 0) := by decide +kernel
theorem i_X7_init_87 : fetch 66 87 = some (.putfield 51, 90, 7, 11, 0, 494) := by decide +kernel
theorem i_X7_init_90 : fetch 66 90 = some (.aload_n 0, 91, 0, 0, 0, 0) := by decide +kernel
theorem i_X7_init_91 : fetch 66 91 = some (.iconst 0, 92, 0, 0, 0, 0) := by decide +kernel
theorem i_X7_init_92 : fetch 66 92 = some (.putfield 54, 95, 7, 12, 0, 495) := by decide +kernel
theorem i_X7_init_95 : fetch 66 95 = some (.aload_n 0, 96, 0, 0, 0, 0) := by decide +kernel
theorem i_X7_init_96 : fetch 66 96 = some (.iconst 1, 97, 0, 0, 0, 0) := by decide +kernel
theorem i_X7_init_97 : fetch 66 97 = some (.putfield 58, 100, 7, 13, 0, 496) := by decide +kernel
theorem i_X7_init_100 : fetch 66 100 = some (.aload_n 0, 101, 0, 0, 0, 0) := by decide +kernel
theorem i_X7_init_101 : fetch 66 101 = some (.iconst 0, 102, 0, 0, 0, 0) := by decide +kernel
theorem i_X7_init_102 : fetch 66 102 = some (.putfield 61, 105, 7, 14, 0, 497) := by decide +kernel
theorem i_X7_init_105 : fetch 66 105 = some (.iconst 0, 106, 0, 0, 0, 0) := by decide +kernel
theorem i_X7_init_106 : fetch 66 106 = some (.istore_n 1, 107, 0, 0, 0, 0) := by decide +kernel
theorem i_X7_init_107 : fetch 66 107 = some (.iload_n 1, 108, 0, 0, 0, 0) := by decide +kernel
theorem i_X7_init_108 : fetch 66 108 = some (.bipush 12, 110, 0, 0, 0, 0) := by decide +kernel
theorem i_X7_init_110 : fetch 66 110 = some (.if_icmp .ge 22, 113, 0, 0, 0, 0) := by decide +kernel
theorem i_X7_init_113 : fetch 66 113 = some (.aload_n 0, 114, 0, 0, 0, 0) := by decide +kernel
theorem i_X7_init_114 : fetch 66 114 = some (.getfield 24, 117, 7, 3, 0, 486) := by decide +kernel
theorem i_X7_init_117 : fetch 66 117 = some (.iload_n 1, 118, 0, 0, 0, 0) := by decide +kernel
theorem i_X7_init_118 : fetch 66 118 = some (.new 22, 121, 5, 0, 0, 112) := by decide +kernel
theorem i_X7_init_121 : fetch 66 121 = some (.dup, 122, 0, 0, 0, 0) := by decide +kernel
theorem i_X7_init_122 : fetch 66 122 = some (.invokespecial 65, 125, 54, 1, 0, 145) := by decide +kernel
theorem i_X7_init_125 : fetch 66 125 = some (.aastore, 126, 0, 0, 0, 0) := by decide +kernel
theorem i_X7_init_126 : fetch 66 126 = some (.iinc 1 1, 129, 0, 0, 0, 0) := by decide +kernel
theorem i_X7_init_129 : fetch 66 129 = some (.goto (-22), 132, 0, 0, 0, 0) := by decide +kernel
theorem i_X7_init_132 : fetch 66 132 = some (.iconst 0, 133, 0, 0, 0, 0) := by decide +kernel
theorem i_X7_init_133 : fetch 66 133 = some (.istore_n 1, 134, 0, 0, 0, 0) := by decide +kernel
theorem i_X7_init_134 : fetch 66 134 = some (.iload_n 1, 135, 0, 0, 0, 0) := by decide +kernel
theorem i_X7_init_135 : fetch 66 135 = some (.bipush 6, 137, 0, 0, 0, 0) := by decide +kernel
theorem i_X7_init_137 : fetch 66 137 = some (.if_icmp .ge 22, 140, 0, 0, 0, 0) := by decide +kernel
theorem i_X7_init_140 : fetch 66 140 = some (.aload_n 0, 141, 0, 0, 0, 0) := by decide +kernel
theorem i_X7_init_141 : fetch 66 141 = some (.getfield 30, 144, 7, 4, 0, 487) := by decide +kernel
theorem i_X7_init_144 : fetch 66 144 = some (.iload_n 1, 145, 0, 0, 0, 0) := by decide +kernel
theorem i_X7_init_145 : fetch 66 145 = some (.new 28, 148, 6, 0, 0, 114) := by decide +kernel
theorem i_X7_init_148 : fetch 66 148 = some (.dup, 149, 0, 0, 0, 0) := by decide +kernel
theorem i_X7_init_149 : fetch 66 149 = some (.invokespecial 66, 152, 58, 1, 0, 166) := by decide +kernel
theorem i_X7_init_152 : fetch 66 152 = some (.aastore, 153, 0, 0, 0, 0) := by decide +kernel
theorem i_X7_init_153 : fetch 66 153 = some (.iinc 1 1, 156, 0, 0, 0, 0) := by decide +kernel
theorem i_X7_init_156 : fetch 66 156 = some (.goto (-22), 159, 0, 0, 0, 0) := by decide +kernel
theorem i_X7_init_159 : fetch 66 159 = some (.iconst 0, 160, 0, 0, 0, 0) := by decide +kernel
theorem i_X7_init_160 : fetch 66 160 = some (.istore_n 1, 161, 0, 0, 0, 0) := by decide +kernel
theorem i_X7_init_161 : fetch 66 161 = some (.iload_n 1, 162, 0, 0, 0, 0) := by decide +kernel
theorem i_X7_init_162 : fetch 66 162 = some (.iconst 4, 163, 0, 0, 0, 0) := by decide +kernel
theorem i_X7_init_163 : fetch 66 163 = some (.if_icmp .ge 22, 166, 0, 0, 0, 0) := by decide +kernel
theorem i_X7_init_166 : fetch 66 166 = some (.aload_n 0, 167, 0, 0, 0, 0) := by decide +kernel
theorem i_X7_init_167 : fetch 66 167 = some (.getfield 43, 170, 7, 9, 0, 492) := by decide +kernel
theorem i_X7_init_170 : fetch 66 170 = some (.iload_n 1, 171, 0, 0, 0, 0) := by decide +kernel
theorem i_X7_init_171 : fetch 66 171 = some (.new 41, 174, 4, 0, 0, 142) := by decide +kernel
theorem i_X7_init_174 : fetch 66 174 = some (.dup, 175, 0, 0, 0, 0) := by decide +kernel
theorem i_X7_init_175 : fetch 66 175 = some (.invokespecial 67, 178, 50, 1, 0, 184) := by decide +kernel
theorem i_X7_init_178 : fetch 66 178 = some (.aastore, 179, 0, 0, 0, 0) := by decide +kernel
theorem i_X7_init_179 : fetch 66 179 = some (.iinc 1 1, 182, 0, 0, 0, 0) := by decide +kernel
theorem i_X7_init_182 : fetch 66 182 = some (.goto (-21), 185, 0, 0, 0, 0) := by decide +kernel
theorem i_X7_init_185 : fetch 66 185 = some (.aload_n 0, 186, 0, 0, 0, 0) := by decide +kernel
theorem i_X7_init_186 : fetch 66 186 = some (.new 68, 189, 1, 0, 0, 202) := by decide +kernel
theorem i_X7_init_189 : fetch 66 189 = some (.dup, 190, 0, 0, 0, 0) := by decide +kernel
theorem i_X7_init_190 : fetch 66 190 = some (.aload_n 0, 191, 0, 0, 0, 0) := by decide +kernel
theorem i_X7_init_191 : fetch 66 191 = some (.getfield 30, 194, 7, 4, 0, 487) := by decide +kernel
theorem i_X7_init_194 : fetch 66 194 = some (.iconst 0, 195, 0, 0, 0, 0) := by decide +kernel
theorem i_X7_init_195 : fetch 66 195 = some (.aaload, 196, 0, 0, 0, 0) := by decide +kernel
theorem i_X7_init_196 : fetch 66 196 = some (.invokespecial 70, 199, 3, 0, 0, 204) := by decide +kernel
theorem i_X7_init_199 : fetch 66 199 = some (.putfield 73, 202, 7, 6, 0, 489) := by decide +kernel
theorem i_X7_init_202 : fetch 66 202 = some (.aload_n 0, 203, 0, 0, 0, 0) := by decide +kernel
theorem i_X7_init_203 : fetch 66 203 = some (.new 77, 206, 3, 0, 0, 231) := by decide +kernel
theorem i_X7_init_206 : fetch 66 206 = some (.dup, 207, 0, 0, 0, 0) := by decide +kernel
theorem i_X7_init_207 : fetch 66 207 = some (.aload_n 0, 208, 0, 0, 0, 0) := by decide +kernel
theorem i_X7_init_208 : fetch 66 208 = some (.getfield 73, 211, 7, 6, 0, 489) := by decide +kernel
theorem i_X7_init_211 : fetch 66 211 = some (.invokespecial 79, 214, 27, 0, 0, 233) := by decide +kernel
theorem i_X7_init_214 : fetch 66 214 = some (.putfield 82, 217, 7, 7, 0, 490) := by decide +kernel
theorem i_X7_init_217 : fetch 66 217 = some (.aload_n 0, 218, 0, 0, 0, 0) := by decide +kernel
theorem i_X7_init_218 : fetch 66 218 = some (.new 77, 221, 3, 0, 0, 231) := by decide +kernel
theorem i_X7_init_221 : fetch 66 221 = some (.dup, 222, 0, 0, 0, 0) := by decide +kernel
theorem i_X7_init_222 : fetch 66 222 = some (.aload_n 0, 223, 0, 0, 0, 0) := by decide +kernel
theorem i_X7_init_223 : fetch 66 223 = some (.getfield 73, 226, 7, 6, 0, 489) := by decide +kernel
theorem i_X7_init_226 : fetch 66 226 = some (.invokespecial 79, 229, 27, 0, 0, 233) := by decide +kernel
theorem i_X7_init_229 : fetch 66 229 = some (.putfield 86, 232, 7, 8, 0, 491) := by decide +kernel
theorem i_X7_init_232 : fetch 66 232 = some (.iconst 0, 233, 0, 0, 0, 0) := by decide +kernel
theorem i_X7_init_233 : fetch 66 233 = some (.istore_n 1, 234, 0, 0, 0, 0) := by decide +kernel
theorem i_X7_init_234 : fetch 66 234 = some (.iload_n 1, 235, 0, 0, 0, 0) := by decide +kernel
theorem i_X7_init_235 : fetch 66 235 = some (.ldc 89, 237, 1, 0, 0, 0) := by decide +kernel
theorem i_X7_init_237 : fetch 66 237 = some (.invokevirtual 91, 240, 219, 0, 0, 287) := by decide +kernel
theorem i_X7_init_240 : fetch 66 240 = some (.if_icmp .ge 22, 243, 0, 0, 0, 0) := by decide +kernel
theorem i_X7_init_243 : fetch 66 243 = some (.aload_n 0, 244, 0, 0, 0, 0) := by decide +kernel
theorem i_X7_init_244 : fetch 66 244 = some (.getfield 37, 247, 7, 5, 0, 488) := by decide +kernel
theorem i_X7_init_247 : fetch 66 247 = some (.ldc 89, 249, 1, 0, 0, 0) := by decide +kernel
theorem i_X7_init_249 : fetch 66 249 = some (.iload_n 1, 250, 0, 0, 0, 0) := by decide +kernel
theorem i_X7_init_250 : fetch 66 250 = some (.invokevirtual 97, 253, 220, 0, 0, 297) := by decide +kernel
theorem i_X7_init_253 : fetch 66 253 = some (.invokevirtual 101, 256, 10, 0, 0, 335) := by decide +kernel
theorem i_X7_init_256 : fetch 66 256 = some (.iinc 1 1, 259, 0, 0, 0, 0) := by decide +kernel
theorem i_X7_init_259 : fetch 66 259 = some (.goto (-25), 262, 0, 0, 0, 0) := by decide +kernel
theorem i_X7_init_262 : fetch 66 262 = some (.aload_n 0, 263, 0, 0, 0, 0) := by decide +kernel
theorem i_X7_init_263 : fetch 66 263 = some (.getfield 37, 266, 7, 5, 0, 488) := by decide +kernel
theorem i_X7_init_266 : fetch 66 266 = some (.aload_n 0, 267, 0, 0, 0, 0) := by decide +kernel
theorem i_X7_init_267 : fetch 66 267 = some (.getfield 30, 270, 7, 4, 0, 487) := by decide +kernel
theorem i_X7_init_270 : fetch 66 270 = some (.iconst 0, 271, 0, 0, 0, 0) := by decide +kernel
theorem i_X7_init_271 : fetch 66 271 = some (.aaload, 272, 0, 0, 0, 0) := by decide +kernel
theorem i_X7_init_272 : fetch 66 272 = some (.invokevirtual 105, 275, 12, 0, 0, 339) := by decide +kernel
theorem i_X7_init_275 : fetch 66 275 = some (.pop, 276, 0, 0, 0, 0) := by decide +kernel
theorem i_X7_init_276 : fetch 66 276 = some (.aload_n 0, 277, 0, 0, 0, 0) := by decide +kernel
theorem i_X7_init_277 : fetch 66 277 = some (.getfield 37, 280, 7, 5, 0, 488) := by decide +kernel
theorem i_X7_init_280 : fetch 66 280 = some (.invokevirtual 109, 283, 11, 0, 0, 479) := by decide +kernel
theorem i_X7_init_283 : fetch 66 283 = some (.return_, 284, 0, 0, 0, 0) := by decide +kernel
def f_X7_init_234 (n : Nat) : Nat → Nat → Int32 → Hp → Option Hp
  | 0, _, _, _ => none
  | m + 1, v0, v1, h =>
    if hk h 1 = (20, 2) then
    (f_J0_length_8abf5 1 h).bind fun o1 =>
    if o1.1 ≤ v1 then
      if okO o1.2 v0 7 then
      (gR o1.2 v0 5).bind fun a5 =>
      (gR o1.2 v0 4).bind fun a6 =>
      if okR o1.2 a6 0 then
      (gR o1.2 a6 (ix 0)).bind fun a8 =>
      if okO o1.2 a5 2 then
      (f_X2_read n a5 a8 o1.2).bind fun o9 =>
      if okO o9.2 v0 7 then
      (gR o9.2 v0 5).bind fun a12 =>
      if okO o9.2 a12 2 then
      (f_X2_empty a12 o9.2).bind fun o13 =>
      some o13
      else none
      else none
      else none
      else none
      else none
    else
      if okO o1.2 v0 7 then
      (gR o1.2 v0 5).bind fun a16 =>
      if hk o1.2 1 = (20, 2) then
      (f_J0_charAt_5068e 1 v1 o1.2).bind fun o17 =>
      if okO o17.2 a16 2 then
      (f_X2_add a16 o17.1 o17.2).bind fun o19 =>
      (f_X7_init_234 n m) v0 (v1 + 1) o19
      else none
      else none
      else none
    else none
set_option maxRecDepth 100000 in
set_option maxHeartbeats 4000000 in
theorem r_X7_init_234 {X : Nat → Int32} {d : Nat} (hd : 109 ≤ (d + 1)) {n : Nat} : ∀ (m : Nat) (v0 : Nat) (v1 : Int32) (h : Hp) (o : Hp), f_X7_init_234 n m v0 v1 h = some o → Run X (d + 1) 66 234 [some (.ref v0), some (.int v1)] [] h (none, o) := by
  intro m
  induction m with
  | zero => intro v0 v1 h o hf; cases hf
  | succ m ih =>
    intro v0 v1 h o hf
    rw [f_X7_init_234] at hf
    refine rs_iload_n i_X7_init_234 rfl ?_
    refine rs_ldcS i_X7_init_235 (by decide) ?_
    obtain ⟨c2, hf⟩ := ite_some hf
    obtain ⟨o1, e1, hf⟩ := bind_some hf
    refine rs_inV i_X7_init_237 m_J0_length_8abf5 rfl (As := []) (rest := [.int v1]) rfl rfl (Nat.le_of_ble_eq_true rfl) c2 (c_J0_length_8abf5 (by omega) e1) (st' := [.int o1.1, .int v1]) rfl ?_
    by_cases c3 : o1.1 ≤ v1
    · replace hf := (if_pos c3).symm.trans hf
      refine rs_icT i_X7_init_240 (ct_ge c3) (tg := 262) (by decide) ?_
      refine rs_aload_n i_X7_init_262 rfl ?_
      obtain ⟨c4, hf⟩ := ite_some hf
      obtain ⟨a5, e5, hf⟩ := bind_some hf
      refine rs_getR i_X7_init_263 (by decide) (by decide) c4 e5 ?_
      refine rs_aload_n i_X7_init_266 rfl ?_
      obtain ⟨a6, e6, hf⟩ := bind_some hf
      refine rs_getR i_X7_init_267 (by decide) (by decide) c4 e6 ?_
      refine rs_iconst i_X7_init_270 (v := 0) (by decide) ?_
      obtain ⟨c7, hf⟩ := ite_some hf
      obtain ⟨a8, e8, hf⟩ := bind_some hf
      refine rs_aald i_X7_init_271 c7 e8 ?_
      obtain ⟨c10, hf⟩ := ite_some hf
      obtain ⟨o9, e9, hf⟩ := bind_some hf
      refine rs_inV i_X7_init_272 m_X2_read rfl (As := [.ref a8]) (rest := []) rfl rfl (Nat.le_of_ble_eq_true rfl) c10 (c_X2_read (by omega) e9) (st' := [.int o9.1]) rfl ?_
      refine rs_pop i_X7_init_275 rfl ?_
      refine rs_aload_n i_X7_init_276 rfl ?_
      obtain ⟨c11, hf⟩ := ite_some hf
      obtain ⟨a12, e12, hf⟩ := bind_some hf
      refine rs_getR i_X7_init_277 (by decide) (by decide) c11 e12 ?_
      obtain ⟨c14, hf⟩ := ite_some hf
      obtain ⟨o13, e13, hf⟩ := bind_some hf
      refine rs_inV i_X7_init_280 m_X2_empty rfl (As := []) (rest := []) rfl rfl (Nat.le_of_ble_eq_true rfl) c14 (c_X2_empty (by omega) e13) (st' := []) rfl ?_
      have hf := Option.some.inj hf
      subst hf
      exact rs_vret i_X7_init_283 m_X7_init rfl
    · replace hf := (if_neg c3).symm.trans hf
      refine rs_icF i_X7_init_240 (cf_ge c3) ?_
      refine rs_aload_n i_X7_init_243 rfl ?_
      obtain ⟨c15, hf⟩ := ite_some hf
      obtain ⟨a16, e16, hf⟩ := bind_some hf
      refine rs_getR i_X7_init_244 (by decide) (by decide) c15 e16 ?_
      refine rs_ldcS i_X7_init_247 (by decide) ?_
      refine rs_iload_n i_X7_init_249 rfl ?_
      obtain ⟨c18, hf⟩ := ite_some hf
      obtain ⟨o17, e17, hf⟩ := bind_some hf
      refine rs_inV i_X7_init_250 m_J0_charAt_5068e rfl (As := [.int v1]) (rest := [.ref a16]) rfl rfl (Nat.le_of_ble_eq_true rfl) c18 (c_J0_charAt_5068e (by omega) e17) (st' := [.int o17.1, .ref a16]) rfl ?_
      obtain ⟨c20, hf⟩ := ite_some hf
      obtain ⟨o19, e19, hf⟩ := bind_some hf
      refine rs_inV i_X7_init_253 m_X2_add rfl (As := [.int o17.1]) (rest := []) rfl rfl (Nat.le_of_ble_eq_true rfl) c20 (c_X2_add (by omega) e19) (st' := []) rfl ?_
      refine rs_iinc i_X7_init_256 rfl (v := v1 + 1) rfl (Nat.le_of_ble_eq_true rfl) (lv' := [some (.ref v0), some (.int (v1 + 1))]) rfl ?_
      refine rs_goto i_X7_init_259 (tg := 234) (by decide) ?_
      exact ih _ _ _ _ hf
def f_X7_init_221 (n : Nat) (v0 : Nat) (s0 : Nat) (s1 : Nat) (h : Hp) : Option Hp :=
  if okO h v0 7 then
  (gR h v0 6).bind fun a2 =>
  if okO h s1 3 then
  (f_X3_init s1 a2 h).bind fun o3 =>
  if okO o3 s0 7 then
  if 16 ≤ s1 then
  f_X7_init_234 n n v0 0 (hsr o3 s0 8 (some s1))
  else none
  else none
  else none
  else none
set_option maxRecDepth 100000 in
set_option maxHeartbeats 4000000 in
theorem r_X7_init_221 {X : Nat → Int32} {d : Nat} (hd : 109 ≤ (d + 1)) {n : Nat} {v0 : Nat} {s0 : Nat} {s1 : Nat} {d1 : Int32} {h : Hp} {o : Hp} (hf : f_X7_init_221 n v0 s0 s1 h = some o) : Run X (d + 1) 66 221 [some (.ref v0), some (.int d1)] [.ref s1, .ref s0] h (none, o) := by
  unfold f_X7_init_221 at hf
  refine rs_dup i_X7_init_221 rfl ?_
  refine rs_aload_n i_X7_init_222 rfl ?_
  obtain ⟨c1, hf⟩ := ite_some hf
  obtain ⟨a2, e2, hf⟩ := bind_some hf
  refine rs_getR i_X7_init_223 (by decide) (by decide) c1 e2 ?_
  obtain ⟨c4, hf⟩ := ite_some hf
  obtain ⟨o3, e3, hf⟩ := bind_some hf
  refine rs_inI i_X7_init_226 (by decide) m_X3_init rfl (As := [.ref a2]) (rest := [.ref s1, .ref s0]) rfl rfl (Nat.le_of_ble_eq_true rfl) c4 (c_X3_init (by omega) e3) (st' := [.ref s1, .ref s0]) rfl ?_
  obtain ⟨c5, hf⟩ := ite_some hf
  obtain ⟨c6, hf⟩ := ite_some hf
  refine rs_putR i_X7_init_229 (by decide) c6 c5 ?_
  refine rs_iconst i_X7_init_232 (v := 0) (by decide) ?_
  refine rs_istore_n i_X7_init_233 (Nat.le_of_ble_eq_true rfl) (lv' := [some (.ref v0), some (.int 0)]) rfl ?_
  exact r_X7_init_234 hd _ _ _ _ _ hf
def f_X7_init_217 (n : Nat) (v0 : Nat) (h : Hp) : Option Hp :=
  f_X7_init_221 n v0 v0 h.1.length (hnew h (3, nFf 3))
set_option maxRecDepth 100000 in
set_option maxHeartbeats 4000000 in
theorem r_X7_init_217 {X : Nat → Int32} {d : Nat} (hd : 109 ≤ (d + 1)) {n : Nat} {v0 : Nat} {d1 : Int32} {h : Hp} {o : Hp} (hf : f_X7_init_217 n v0 h = some o) : Run X (d + 1) 66 217 [some (.ref v0), some (.int d1)] [] h (none, o) := by
  unfold f_X7_init_217 at hf
  refine rs_aload_n i_X7_init_217 rfl ?_
  refine rs_new i_X7_init_218 (by decide) ?_
  exact r_X7_init_221 hd hf
def f_X7_init_206 (n : Nat) (v0 : Nat) (s0 : Nat) (s1 : Nat) (h : Hp) : Option Hp :=
  if okO h v0 7 then
  (gR h v0 6).bind fun a2 =>
  if okO h s1 3 then
  (f_X3_init s1 a2 h).bind fun o3 =>
  if okO o3 s0 7 then
  if 16 ≤ s1 then
  f_X7_init_217 n v0 (hsr o3 s0 7 (some s1))
  else none
  else none
  else none
  else none
set_option maxRecDepth 100000 in
set_option maxHeartbeats 4000000 in
theorem r_X7_init_206 {X : Nat → Int32} {d : Nat} (hd : 109 ≤ (d + 1)) {n : Nat} {v0 : Nat} {s0 : Nat} {s1 : Nat} {d1 : Int32} {h : Hp} {o : Hp} (hf : f_X7_init_206 n v0 s0 s1 h = some o) : Run X (d + 1) 66 206 [some (.ref v0), some (.int d1)] [.ref s1, .ref s0] h (none, o) := by
  unfold f_X7_init_206 at hf
  refine rs_dup i_X7_init_206 rfl ?_
  refine rs_aload_n i_X7_init_207 rfl ?_
  obtain ⟨c1, hf⟩ := ite_some hf
  obtain ⟨a2, e2, hf⟩ := bind_some hf
  refine rs_getR i_X7_init_208 (by decide) (by decide) c1 e2 ?_
  obtain ⟨c4, hf⟩ := ite_some hf
  obtain ⟨o3, e3, hf⟩ := bind_some hf
  refine rs_inI i_X7_init_211 (by decide) m_X3_init rfl (As := [.ref a2]) (rest := [.ref s1, .ref s0]) rfl rfl (Nat.le_of_ble_eq_true rfl) c4 (c_X3_init (by omega) e3) (st' := [.ref s1, .ref s0]) rfl ?_
  obtain ⟨c5, hf⟩ := ite_some hf
  obtain ⟨c6, hf⟩ := ite_some hf
  refine rs_putR i_X7_init_214 (by decide) c6 c5 ?_
  exact r_X7_init_217 hd hf
def f_X7_init_202 (n : Nat) (v0 : Nat) (h : Hp) : Option Hp :=
  f_X7_init_206 n v0 v0 h.1.length (hnew h (3, nFf 3))
set_option maxRecDepth 100000 in
set_option maxHeartbeats 4000000 in
theorem r_X7_init_202 {X : Nat → Int32} {d : Nat} (hd : 109 ≤ (d + 1)) {n : Nat} {v0 : Nat} {d1 : Int32} {h : Hp} {o : Hp} (hf : f_X7_init_202 n v0 h = some o) : Run X (d + 1) 66 202 [some (.ref v0), some (.int d1)] [] h (none, o) := by
  unfold f_X7_init_202 at hf
  refine rs_aload_n i_X7_init_202 rfl ?_
  refine rs_new i_X7_init_203 (by decide) ?_
  exact r_X7_init_206 hd hf
def f_X7_init_189 (n : Nat) (v0 : Nat) (s0 : Nat) (s1 : Nat) (h : Hp) : Option Hp :=
  if okO h v0 7 then
  (gR h v0 4).bind fun a2 =>
  if okR h a2 0 then
  (gR h a2 (ix 0)).bind fun a4 =>
  if okO h s1 1 then
  (f_X1_init s1 a4 h).bind fun o5 =>
  if okO o5 s0 7 then
  if 16 ≤ s1 then
  f_X7_init_202 n v0 (hsr o5 s0 6 (some s1))
  else none
  else none
  else none
  else none
  else none
set_option maxRecDepth 100000 in
set_option maxHeartbeats 4000000 in
theorem r_X7_init_189 {X : Nat → Int32} {d : Nat} (hd : 109 ≤ (d + 1)) {n : Nat} {v0 : Nat} {s0 : Nat} {s1 : Nat} {d1 : Int32} {h : Hp} {o : Hp} (hf : f_X7_init_189 n v0 s0 s1 h = some o) : Run X (d + 1) 66 189 [some (.ref v0), some (.int d1)] [.ref s1, .ref s0] h (none, o) := by
  unfold f_X7_init_189 at hf
  refine rs_dup i_X7_init_189 rfl ?_
  refine rs_aload_n i_X7_init_190 rfl ?_
  obtain ⟨c1, hf⟩ := ite_some hf
  obtain ⟨a2, e2, hf⟩ := bind_some hf
  refine rs_getR i_X7_init_191 (by decide) (by decide) c1 e2 ?_
  refine rs_iconst i_X7_init_194 (v := 0) (by decide) ?_
  obtain ⟨c3, hf⟩ := ite_some hf
  obtain ⟨a4, e4, hf⟩ := bind_some hf
  refine rs_aald i_X7_init_195 c3 e4 ?_
  obtain ⟨c6, hf⟩ := ite_some hf
  obtain ⟨o5, e5, hf⟩ := bind_some hf
  refine rs_inI i_X7_init_196 (by decide) m_X1_init rfl (As := [.ref a4]) (rest := [.ref s1, .ref s0]) rfl rfl (Nat.le_of_ble_eq_true rfl) c6 (c_X1_init (by omega) e5) (st' := [.ref s1, .ref s0]) rfl ?_
  obtain ⟨c7, hf⟩ := ite_some hf
  obtain ⟨c8, hf⟩ := ite_some hf
  refine rs_putR i_X7_init_199 (by decide) c8 c7 ?_
  exact r_X7_init_202 hd hf
def f_X7_init_174 (n : Nat) (K161 : Nat → Int32 → Hp → Option Hp) (v0 : Nat) (v1 : Int32) (s0 : Nat) (s1 : Int32) (s2 : Nat) (h : Hp) : Option Hp :=
  if okO h s2 4 then
  (f_X4_init s2 h).bind fun o1 =>
  if okR o1 s0 s1 then
  if hk o1 s2 = (comps (hk o1 s0).1, nFf (comps (hk o1 s0).1)) then
  K161 v0 (v1 + 1) (hsr o1 s0 (ix s1) (some s2))
  else none
  else none
  else none
set_option maxRecDepth 100000 in
set_option maxHeartbeats 4000000 in
theorem r_X7_init_174 {X : Nat → Int32} {d : Nat} (hd : 109 ≤ (d + 1)) {n : Nat} {K161 : Nat → Int32 → Hp → Option Hp} (HK161 : ∀ (v0 : Nat) (v1 : Int32) (h : Hp) (o : Hp), K161 v0 v1 h = some o → Run X (d + 1) 66 161 [some (.ref v0), some (.int v1)] [] h (none, o)) {v0 : Nat} {v1 : Int32} {s0 : Nat} {s1 : Int32} {s2 : Nat} {h : Hp} {o : Hp} (hf : f_X7_init_174 n K161 v0 v1 s0 s1 s2 h = some o) : Run X (d + 1) 66 174 [some (.ref v0), some (.int v1)] [.ref s2, .int s1, .ref s0] h (none, o) := by
  unfold f_X7_init_174 at hf
  refine rs_dup i_X7_init_174 rfl ?_
  obtain ⟨c2, hf⟩ := ite_some hf
  obtain ⟨o1, e1, hf⟩ := bind_some hf
  refine rs_inI i_X7_init_175 (by decide) m_X4_init rfl (As := []) (rest := [.ref s2, .int s1, .ref s0]) rfl rfl (Nat.le_of_ble_eq_true rfl) c2 (c_X4_init (by omega) e1) (st' := [.ref s2, .int s1, .ref s0]) rfl ?_
  obtain ⟨c3, hf⟩ := ite_some hf
  obtain ⟨c4, hf⟩ := ite_some hf
  refine rs_aast i_X7_init_178 c3 c4 ?_
  refine rs_iinc i_X7_init_179 rfl (v := v1 + 1) rfl (Nat.le_of_ble_eq_true rfl) (lv' := [some (.ref v0), some (.int (v1 + 1))]) rfl ?_
  refine rs_goto i_X7_init_182 (tg := 161) (by decide) ?_
  exact HK161 _ _ _ _ hf
def f_X7_init_161 (n : Nat) : Nat → Nat → Int32 → Hp → Option Hp
  | 0, _, _, _ => none
  | m + 1, v0, v1, h =>
    if 4 ≤ v1 then
      f_X7_init_189 n v0 v0 h.1.length (hnew h (1, nFf 1))
    else
      if okO h v0 7 then
      (gR h v0 9).bind fun a3 =>
      f_X7_init_174 n (f_X7_init_161 n m) v0 v1 a3 v1 h.1.length (hnew h (4, nFf 4))
      else none
set_option maxRecDepth 100000 in
set_option maxHeartbeats 4000000 in
theorem r_X7_init_161 {X : Nat → Int32} {d : Nat} (hd : 109 ≤ (d + 1)) {n : Nat} : ∀ (m : Nat) (v0 : Nat) (v1 : Int32) (h : Hp) (o : Hp), f_X7_init_161 n m v0 v1 h = some o → Run X (d + 1) 66 161 [some (.ref v0), some (.int v1)] [] h (none, o) := by
  intro m
  induction m with
  | zero => intro v0 v1 h o hf; cases hf
  | succ m ih =>
    intro v0 v1 h o hf
    rw [f_X7_init_161] at hf
    refine rs_iload_n i_X7_init_161 rfl ?_
    refine rs_iconst i_X7_init_162 (v := 4) (by decide) ?_
    by_cases c1 : 4 ≤ v1
    · replace hf := (if_pos c1).symm.trans hf
      refine rs_icT i_X7_init_163 (ct_ge c1) (tg := 185) (by decide) ?_
      refine rs_aload_n i_X7_init_185 rfl ?_
      refine rs_new i_X7_init_186 (by decide) ?_
      exact r_X7_init_189 hd hf
    · replace hf := (if_neg c1).symm.trans hf
      refine rs_icF i_X7_init_163 (cf_ge c1) ?_
      refine rs_aload_n i_X7_init_166 rfl ?_
      obtain ⟨c2, hf⟩ := ite_some hf
      obtain ⟨a3, e3, hf⟩ := bind_some hf
      refine rs_getR i_X7_init_167 (by decide) (by decide) c2 e3 ?_
      refine rs_iload_n i_X7_init_170 rfl ?_
      refine rs_new i_X7_init_171 (by decide) ?_
      exact r_X7_init_174 hd ih hf
def f_X7_init_148 (n : Nat) (K134 : Nat → Int32 → Hp → Option Hp) (v0 : Nat) (v1 : Int32) (s0 : Nat) (s1 : Int32) (s2 : Nat) (h : Hp) : Option Hp :=
  if okO h s2 6 then
  (f_X6_init s2 h).bind fun o1 =>
  if okR o1 s0 s1 then
  if hk o1 s2 = (comps (hk o1 s0).1, nFf (comps (hk o1 s0).1)) then
  K134 v0 (v1 + 1) (hsr o1 s0 (ix s1) (some s2))
  else none
  else none
  else none
set_option maxRecDepth 100000 in
set_option maxHeartbeats 4000000 in
theorem r_X7_init_148 {X : Nat → Int32} {d : Nat} (hd : 109 ≤ (d + 1)) {n : Nat} {K134 : Nat → Int32 → Hp → Option Hp} (HK134 : ∀ (v0 : Nat) (v1 : Int32) (h : Hp) (o : Hp), K134 v0 v1 h = some o → Run X (d + 1) 66 134 [some (.ref v0), some (.int v1)] [] h (none, o)) {v0 : Nat} {v1 : Int32} {s0 : Nat} {s1 : Int32} {s2 : Nat} {h : Hp} {o : Hp} (hf : f_X7_init_148 n K134 v0 v1 s0 s1 s2 h = some o) : Run X (d + 1) 66 148 [some (.ref v0), some (.int v1)] [.ref s2, .int s1, .ref s0] h (none, o) := by
  unfold f_X7_init_148 at hf
  refine rs_dup i_X7_init_148 rfl ?_
  obtain ⟨c2, hf⟩ := ite_some hf
  obtain ⟨o1, e1, hf⟩ := bind_some hf
  refine rs_inI i_X7_init_149 (by decide) m_X6_init rfl (As := []) (rest := [.ref s2, .int s1, .ref s0]) rfl rfl (Nat.le_of_ble_eq_true rfl) c2 (c_X6_init (by omega) e1) (st' := [.ref s2, .int s1, .ref s0]) rfl ?_
  obtain ⟨c3, hf⟩ := ite_some hf
  obtain ⟨c4, hf⟩ := ite_some hf
  refine rs_aast i_X7_init_152 c3 c4 ?_
  refine rs_iinc i_X7_init_153 rfl (v := v1 + 1) rfl (Nat.le_of_ble_eq_true rfl) (lv' := [some (.ref v0), some (.int (v1 + 1))]) rfl ?_
  refine rs_goto i_X7_init_156 (tg := 134) (by decide) ?_
  exact HK134 _ _ _ _ hf
def f_X7_init_134 (n : Nat) : Nat → Nat → Int32 → Hp → Option Hp
  | 0, _, _, _ => none
  | m + 1, v0, v1, h =>
    if 6 ≤ v1 then
      f_X7_init_161 n n v0 0 h
    else
      if okO h v0 7 then
      (gR h v0 4).bind fun a3 =>
      f_X7_init_148 n (f_X7_init_134 n m) v0 v1 a3 v1 h.1.length (hnew h (6, nFf 6))
      else none
set_option maxRecDepth 100000 in
set_option maxHeartbeats 4000000 in
theorem r_X7_init_134 {X : Nat → Int32} {d : Nat} (hd : 109 ≤ (d + 1)) {n : Nat} : ∀ (m : Nat) (v0 : Nat) (v1 : Int32) (h : Hp) (o : Hp), f_X7_init_134 n m v0 v1 h = some o → Run X (d + 1) 66 134 [some (.ref v0), some (.int v1)] [] h (none, o) := by
  intro m
  induction m with
  | zero => intro v0 v1 h o hf; cases hf
  | succ m ih =>
    intro v0 v1 h o hf
    rw [f_X7_init_134] at hf
    refine rs_iload_n i_X7_init_134 rfl ?_
    refine rs_bipush i_X7_init_135 (v := 6) (by decide) ?_
    by_cases c1 : 6 ≤ v1
    · replace hf := (if_pos c1).symm.trans hf
      refine rs_icT i_X7_init_137 (ct_ge c1) (tg := 159) (by decide) ?_
      refine rs_iconst i_X7_init_159 (v := 0) (by decide) ?_
      refine rs_istore_n i_X7_init_160 (Nat.le_of_ble_eq_true rfl) (lv' := [some (.ref v0), some (.int 0)]) rfl ?_
      exact r_X7_init_161 hd _ _ _ _ _ hf
    · replace hf := (if_neg c1).symm.trans hf
      refine rs_icF i_X7_init_137 (cf_ge c1) ?_
      refine rs_aload_n i_X7_init_140 rfl ?_
      obtain ⟨c2, hf⟩ := ite_some hf
      obtain ⟨a3, e3, hf⟩ := bind_some hf
      refine rs_getR i_X7_init_141 (by decide) (by decide) c2 e3 ?_
      refine rs_iload_n i_X7_init_144 rfl ?_
      refine rs_new i_X7_init_145 (by decide) ?_
      exact r_X7_init_148 hd ih hf
def f_X7_init_121 (n : Nat) (K107 : Nat → Int32 → Hp → Option Hp) (v0 : Nat) (v1 : Int32) (s0 : Nat) (s1 : Int32) (s2 : Nat) (h : Hp) : Option Hp :=
  if okO h s2 5 then
  (f_X5_init s2 h).bind fun o1 =>
  if okR o1 s0 s1 then
  if hk o1 s2 = (comps (hk o1 s0).1, nFf (comps (hk o1 s0).1)) then
  K107 v0 (v1 + 1) (hsr o1 s0 (ix s1) (some s2))
  else none
  else none
  else none
set_option maxRecDepth 100000 in
set_option maxHeartbeats 4000000 in
theorem r_X7_init_121 {X : Nat → Int32} {d : Nat} (hd : 109 ≤ (d + 1)) {n : Nat} {K107 : Nat → Int32 → Hp → Option Hp} (HK107 : ∀ (v0 : Nat) (v1 : Int32) (h : Hp) (o : Hp), K107 v0 v1 h = some o → Run X (d + 1) 66 107 [some (.ref v0), some (.int v1)] [] h (none, o)) {v0 : Nat} {v1 : Int32} {s0 : Nat} {s1 : Int32} {s2 : Nat} {h : Hp} {o : Hp} (hf : f_X7_init_121 n K107 v0 v1 s0 s1 s2 h = some o) : Run X (d + 1) 66 121 [some (.ref v0), some (.int v1)] [.ref s2, .int s1, .ref s0] h (none, o) := by
  unfold f_X7_init_121 at hf
  refine rs_dup i_X7_init_121 rfl ?_
  obtain ⟨c2, hf⟩ := ite_some hf
  obtain ⟨o1, e1, hf⟩ := bind_some hf
  refine rs_inI i_X7_init_122 (by decide) m_X5_init rfl (As := []) (rest := [.ref s2, .int s1, .ref s0]) rfl rfl (Nat.le_of_ble_eq_true rfl) c2 (c_X5_init (by omega) e1) (st' := [.ref s2, .int s1, .ref s0]) rfl ?_
  obtain ⟨c3, hf⟩ := ite_some hf
  obtain ⟨c4, hf⟩ := ite_some hf
  refine rs_aast i_X7_init_125 c3 c4 ?_
  refine rs_iinc i_X7_init_126 rfl (v := v1 + 1) rfl (Nat.le_of_ble_eq_true rfl) (lv' := [some (.ref v0), some (.int (v1 + 1))]) rfl ?_
  refine rs_goto i_X7_init_129 (tg := 107) (by decide) ?_
  exact HK107 _ _ _ _ hf
def f_X7_init_107 (n : Nat) : Nat → Nat → Int32 → Hp → Option Hp
  | 0, _, _, _ => none
  | m + 1, v0, v1, h =>
    if 12 ≤ v1 then
      f_X7_init_134 n n v0 0 h
    else
      if okO h v0 7 then
      (gR h v0 3).bind fun a3 =>
      f_X7_init_121 n (f_X7_init_107 n m) v0 v1 a3 v1 h.1.length (hnew h (5, nFf 5))
      else none
set_option maxRecDepth 100000 in
set_option maxHeartbeats 4000000 in
theorem r_X7_init_107 {X : Nat → Int32} {d : Nat} (hd : 109 ≤ (d + 1)) {n : Nat} : ∀ (m : Nat) (v0 : Nat) (v1 : Int32) (h : Hp) (o : Hp), f_X7_init_107 n m v0 v1 h = some o → Run X (d + 1) 66 107 [some (.ref v0), some (.int v1)] [] h (none, o) := by
  intro m
  induction m with
  | zero => intro v0 v1 h o hf; cases hf
  | succ m ih =>
    intro v0 v1 h o hf
    rw [f_X7_init_107] at hf
    refine rs_iload_n i_X7_init_107 rfl ?_
    refine rs_bipush i_X7_init_108 (v := 12) (by decide) ?_
    by_cases c1 : 12 ≤ v1
    · replace hf := (if_pos c1).symm.trans hf
      refine rs_icT i_X7_init_110 (ct_ge c1) (tg := 132) (by decide) ?_
      refine rs_iconst i_X7_init_132 (v := 0) (by decide) ?_
      refine rs_istore_n i_X7_init_133 (Nat.le_of_ble_eq_true rfl) (lv' := [some (.ref v0), some (.int 0)]) rfl ?_
      exact r_X7_init_134 hd _ _ _ _ _ hf
    · replace hf := (if_neg c1).symm.trans hf
      refine rs_icF i_X7_init_110 (cf_ge c1) ?_
      refine rs_aload_n i_X7_init_113 rfl ?_
      obtain ⟨c2, hf⟩ := ite_some hf
      obtain ⟨a3, e3, hf⟩ := bind_some hf
      refine rs_getR i_X7_init_114 (by decide) (by decide) c2 e3 ?_
      refine rs_iload_n i_X7_init_117 rfl ?_
      refine rs_new i_X7_init_118 (by decide) ?_
      exact r_X7_init_121 hd ih hf
def f_X7_init_100 (n : Nat) (v0 : Nat) (h : Hp) : Option Hp :=
  if okO h v0 7 then
  f_X7_init_107 n n v0 0 (hsi h v0 14 0)
  else none
set_option maxRecDepth 100000 in
set_option maxHeartbeats 4000000 in
theorem r_X7_init_100 {X : Nat → Int32} {d : Nat} (hd : 109 ≤ (d + 1)) {n : Nat} {v0 : Nat} {h : Hp} {o : Hp} (hf : f_X7_init_100 n v0 h = some o) : Run X (d + 1) 66 100 [some (.ref v0), none] [] h (none, o) := by
  unfold f_X7_init_100 at hf
  refine rs_aload_n i_X7_init_100 rfl ?_
  refine rs_iconst i_X7_init_101 (v := 0) (by decide) ?_
  obtain ⟨c1, hf⟩ := ite_some hf
  refine rs_putZ i_X7_init_102 (by decide) (by decide) c1 ?_
  refine rs_iconst i_X7_init_105 (v := 0) (by decide) ?_
  refine rs_istore_n i_X7_init_106 (Nat.le_of_ble_eq_true rfl) (lv' := [some (.ref v0), some (.int 0)]) rfl ?_
  exact r_X7_init_107 hd _ _ _ _ _ hf
def f_X7_init_95 (n : Nat) (v0 : Nat) (h : Hp) : Option Hp :=
  if okO h v0 7 then
  f_X7_init_100 n v0 (hsi h v0 13 1)
  else none
set_option maxRecDepth 100000 in
set_option maxHeartbeats 4000000 in
theorem r_X7_init_95 {X : Nat → Int32} {d : Nat} (hd : 109 ≤ (d + 1)) {n : Nat} {v0 : Nat} {h : Hp} {o : Hp} (hf : f_X7_init_95 n v0 h = some o) : Run X (d + 1) 66 95 [some (.ref v0), none] [] h (none, o) := by
  unfold f_X7_init_95 at hf
  refine rs_aload_n i_X7_init_95 rfl ?_
  refine rs_iconst i_X7_init_96 (v := 1) (by decide) ?_
  obtain ⟨c1, hf⟩ := ite_some hf
  refine rs_putI i_X7_init_97 (by decide) c1 ?_
  exact r_X7_init_100 hd hf
def f_X7_init_90 (n : Nat) (v0 : Nat) (h : Hp) : Option Hp :=
  if okO h v0 7 then
  f_X7_init_95 n v0 (hsi h v0 12 0)
  else none
set_option maxRecDepth 100000 in
set_option maxHeartbeats 4000000 in
theorem r_X7_init_90 {X : Nat → Int32} {d : Nat} (hd : 109 ≤ (d + 1)) {n : Nat} {v0 : Nat} {h : Hp} {o : Hp} (hf : f_X7_init_90 n v0 h = some o) : Run X (d + 1) 66 90 [some (.ref v0), none] [] h (none, o) := by
  unfold f_X7_init_90 at hf
  refine rs_aload_n i_X7_init_90 rfl ?_
  refine rs_iconst i_X7_init_91 (v := 0) (by decide) ?_
  obtain ⟨c1, hf⟩ := ite_some hf
  refine rs_putI i_X7_init_92 (by decide) c1 ?_
  exact r_X7_init_95 hd hf
def f_X7_init_87 (n : Nat) (v0 : Nat) (s0 : Nat) (s1 : Nat) (h : Hp) : Option Hp :=
  if okO h s0 7 then
  if 16 ≤ s1 then
  f_X7_init_90 n v0 (hsr h s0 11 (some s1))
  else none
  else none
set_option maxRecDepth 100000 in
set_option maxHeartbeats 4000000 in
theorem r_X7_init_87 {X : Nat → Int32} {d : Nat} (hd : 109 ≤ (d + 1)) {n : Nat} {v0 : Nat} {s0 : Nat} {s1 : Nat} {h : Hp} {o : Hp} (hf : f_X7_init_87 n v0 s0 s1 h = some o) : Run X (d + 1) 66 87 [some (.ref v0), none] [.ref s1, .ref s0] h (none, o) := by
  unfold f_X7_init_87 at hf
  obtain ⟨c1, hf⟩ := ite_some hf
  obtain ⟨c2, hf⟩ := ite_some hf
  refine rs_putR i_X7_init_87 (by decide) c2 c1 ?_
  exact r_X7_init_90 hd hf
def f_X7_init_82 (n : Nat) (v0 : Nat) (h : Hp) : Option Hp :=
  f_X7_init_87 n v0 v0 h.1.length (hnew h (9, ix 16))
set_option maxRecDepth 100000 in
set_option maxHeartbeats 4000000 in
theorem r_X7_init_82 {X : Nat → Int32} {d : Nat} (hd : 109 ≤ (d + 1)) {n : Nat} {v0 : Nat} {h : Hp} {o : Hp} (hf : f_X7_init_82 n v0 h = some o) : Run X (d + 1) 66 82 [some (.ref v0), none] [] h (none, o) := by
  unfold f_X7_init_82 at hf
  refine rs_aload_n i_X7_init_82 rfl ?_
  refine rs_bipush i_X7_init_83 (v := 16) (by decide) ?_
  refine rs_newa i_X7_init_85 (by decide) ?_
  exact r_X7_init_87 hd hf
def f_X7_init_79 (n : Nat) (v0 : Nat) (s0 : Nat) (s1 : Nat) (h : Hp) : Option Hp :=
  if okO h s0 7 then
  if 16 ≤ s1 then
  f_X7_init_82 n v0 (hsr h s0 10 (some s1))
  else none
  else none
set_option maxRecDepth 100000 in
set_option maxHeartbeats 4000000 in
theorem r_X7_init_79 {X : Nat → Int32} {d : Nat} (hd : 109 ≤ (d + 1)) {n : Nat} {v0 : Nat} {s0 : Nat} {s1 : Nat} {h : Hp} {o : Hp} (hf : f_X7_init_79 n v0 s0 s1 h = some o) : Run X (d + 1) 66 79 [some (.ref v0), none] [.ref s1, .ref s0] h (none, o) := by
  unfold f_X7_init_79 at hf
  obtain ⟨c1, hf⟩ := ite_some hf
  obtain ⟨c2, hf⟩ := ite_some hf
  refine rs_putR i_X7_init_79 (by decide) c2 c1 ?_
  exact r_X7_init_82 hd hf
def f_X7_init_74 (n : Nat) (v0 : Nat) (h : Hp) : Option Hp :=
  f_X7_init_79 n v0 v0 h.1.length (hnew h (9, ix 16))
set_option maxRecDepth 100000 in
set_option maxHeartbeats 4000000 in
theorem r_X7_init_74 {X : Nat → Int32} {d : Nat} (hd : 109 ≤ (d + 1)) {n : Nat} {v0 : Nat} {h : Hp} {o : Hp} (hf : f_X7_init_74 n v0 h = some o) : Run X (d + 1) 66 74 [some (.ref v0), none] [] h (none, o) := by
  unfold f_X7_init_74 at hf
  refine rs_aload_n i_X7_init_74 rfl ?_
  refine rs_bipush i_X7_init_75 (v := 16) (by decide) ?_
  refine rs_newa i_X7_init_77 (by decide) ?_
  exact r_X7_init_79 hd hf
def f_X7_init_71 (n : Nat) (v0 : Nat) (s0 : Nat) (s1 : Nat) (h : Hp) : Option Hp :=
  if okO h s0 7 then
  if 16 ≤ s1 then
  f_X7_init_74 n v0 (hsr h s0 9 (some s1))
  else none
  else none
set_option maxRecDepth 100000 in
set_option maxHeartbeats 4000000 in
theorem r_X7_init_71 {X : Nat → Int32} {d : Nat} (hd : 109 ≤ (d + 1)) {n : Nat} {v0 : Nat} {s0 : Nat} {s1 : Nat} {h : Hp} {o : Hp} (hf : f_X7_init_71 n v0 s0 s1 h = some o) : Run X (d + 1) 66 71 [some (.ref v0), none] [.ref s1, .ref s0] h (none, o) := by
  unfold f_X7_init_71 at hf
  obtain ⟨c1, hf⟩ := ite_some hf
  obtain ⟨c2, hf⟩ := ite_some hf
  refine rs_putR i_X7_init_71 (by decide) c2 c1 ?_
  exact r_X7_init_74 hd hf
def f_X7_init_66 (n : Nat) (v0 : Nat) (h : Hp) : Option Hp :=
  f_X7_init_71 n v0 v0 h.1.length (hnew h (11, ix 4))
set_option maxRecDepth 100000 in
set_option maxHeartbeats 4000000 in
theorem r_X7_init_66 {X : Nat → Int32} {d : Nat} (hd : 109 ≤ (d + 1)) {n : Nat} {v0 : Nat} {h : Hp} {o : Hp} (hf : f_X7_init_66 n v0 h = some o) : Run X (d + 1) 66 66 [some (.ref v0), none] [] h (none, o) := by
  unfold f_X7_init_66 at hf
  refine rs_aload_n i_X7_init_66 rfl ?_
  refine rs_iconst i_X7_init_67 (v := 4) (by decide) ?_
  refine rs_newq i_X7_init_68 (by decide) ?_
  exact r_X7_init_71 hd hf
def f_X7_init_59 (n : Nat) (v0 : Nat) (s0 : Nat) (s1 : Nat) (h : Hp) : Option Hp :=
  if okO h s1 2 then
  (f_X2_init s1 h).bind fun o1 =>
  if okO o1 s0 7 then
  if 16 ≤ s1 then
  f_X7_init_66 n v0 (hsr o1 s0 5 (some s1))
  else none
  else none
  else none
set_option maxRecDepth 100000 in
set_option maxHeartbeats 4000000 in
theorem r_X7_init_59 {X : Nat → Int32} {d : Nat} (hd : 109 ≤ (d + 1)) {n : Nat} {v0 : Nat} {s0 : Nat} {s1 : Nat} {h : Hp} {o : Hp} (hf : f_X7_init_59 n v0 s0 s1 h = some o) : Run X (d + 1) 66 59 [some (.ref v0), none] [.ref s1, .ref s0] h (none, o) := by
  unfold f_X7_init_59 at hf
  refine rs_dup i_X7_init_59 rfl ?_
  obtain ⟨c2, hf⟩ := ite_some hf
  obtain ⟨o1, e1, hf⟩ := bind_some hf
  refine rs_inI i_X7_init_60 (by decide) m_X2_init rfl (As := []) (rest := [.ref s1, .ref s0]) rfl rfl (Nat.le_of_ble_eq_true rfl) c2 (c_X2_init (by omega) e1) (st' := [.ref s1, .ref s0]) rfl ?_
  obtain ⟨c3, hf⟩ := ite_some hf
  obtain ⟨c4, hf⟩ := ite_some hf
  refine rs_putR i_X7_init_63 (by decide) c4 c3 ?_
  exact r_X7_init_66 hd hf
def f_X7_init_55 (n : Nat) (v0 : Nat) (h : Hp) : Option Hp :=
  f_X7_init_59 n v0 v0 h.1.length (hnew h (2, nFf 2))
set_option maxRecDepth 100000 in
set_option maxHeartbeats 4000000 in
theorem r_X7_init_55 {X : Nat → Int32} {d : Nat} (hd : 109 ≤ (d + 1)) {n : Nat} {v0 : Nat} {h : Hp} {o : Hp} (hf : f_X7_init_55 n v0 h = some o) : Run X (d + 1) 66 55 [some (.ref v0), none] [] h (none, o) := by
  unfold f_X7_init_55 at hf
  refine rs_aload_n i_X7_init_55 rfl ?_
  refine rs_new i_X7_init_56 (by decide) ?_
  exact r_X7_init_59 hd hf
def f_X7_init_52 (n : Nat) (v0 : Nat) (s0 : Nat) (s1 : Nat) (h : Hp) : Option Hp :=
  if okO h s0 7 then
  if 16 ≤ s1 then
  f_X7_init_55 n v0 (hsr h s0 4 (some s1))
  else none
  else none
set_option maxRecDepth 100000 in
set_option maxHeartbeats 4000000 in
theorem r_X7_init_52 {X : Nat → Int32} {d : Nat} (hd : 109 ≤ (d + 1)) {n : Nat} {v0 : Nat} {s0 : Nat} {s1 : Nat} {h : Hp} {o : Hp} (hf : f_X7_init_52 n v0 s0 s1 h = some o) : Run X (d + 1) 66 52 [some (.ref v0), none] [.ref s1, .ref s0] h (none, o) := by
  unfold f_X7_init_52 at hf
  obtain ⟨c1, hf⟩ := ite_some hf
  obtain ⟨c2, hf⟩ := ite_some hf
  refine rs_putR i_X7_init_52 (by decide) c2 c1 ?_
  exact r_X7_init_55 hd hf
def f_X7_init_46 (n : Nat) (v0 : Nat) (h : Hp) : Option Hp :=
  f_X7_init_52 n v0 v0 h.1.length (hnew h (13, ix 6))
set_option maxRecDepth 100000 in
set_option maxHeartbeats 4000000 in
theorem r_X7_init_46 {X : Nat → Int32} {d : Nat} (hd : 109 ≤ (d + 1)) {n : Nat} {v0 : Nat} {h : Hp} {o : Hp} (hf : f_X7_init_46 n v0 h = some o) : Run X (d + 1) 66 46 [some (.ref v0), none] [] h (none, o) := by
  unfold f_X7_init_46 at hf
  refine rs_aload_n i_X7_init_46 rfl ?_
  refine rs_bipush i_X7_init_47 (v := 6) (by decide) ?_
  refine rs_newq i_X7_init_49 (by decide) ?_
  exact r_X7_init_52 hd hf
def f_X7_init_43 (n : Nat) (v0 : Nat) (s0 : Nat) (s1 : Nat) (h : Hp) : Option Hp :=
  if okO h s0 7 then
  if 16 ≤ s1 then
  f_X7_init_46 n v0 (hsr h s0 3 (some s1))
  else none
  else none
set_option maxRecDepth 100000 in
set_option maxHeartbeats 4000000 in
theorem r_X7_init_43 {X : Nat → Int32} {d : Nat} (hd : 109 ≤ (d + 1)) {n : Nat} {v0 : Nat} {s0 : Nat} {s1 : Nat} {h : Hp} {o : Hp} (hf : f_X7_init_43 n v0 s0 s1 h = some o) : Run X (d + 1) 66 43 [some (.ref v0), none] [.ref s1, .ref s0] h (none, o) := by
  unfold f_X7_init_43 at hf
  obtain ⟨c1, hf⟩ := ite_some hf
  obtain ⟨c2, hf⟩ := ite_some hf
  refine rs_putR i_X7_init_43 (by decide) c2 c1 ?_
  exact r_X7_init_46 hd hf
def f_X7_init_37 (n : Nat) (v0 : Nat) (h : Hp) : Option Hp :=
  f_X7_init_43 n v0 v0 h.1.length (hnew h (12, ix 12))
set_option maxRecDepth 100000 in
set_option maxHeartbeats 4000000 in
theorem r_X7_init_37 {X : Nat → Int32} {d : Nat} (hd : 109 ≤ (d + 1)) {n : Nat} {v0 : Nat} {h : Hp} {o : Hp} (hf : f_X7_init_37 n v0 h = some o) : Run X (d + 1) 66 37 [some (.ref v0), none] [] h (none, o) := by
  unfold f_X7_init_37 at hf
  refine rs_aload_n i_X7_init_37 rfl ?_
  refine rs_bipush i_X7_init_38 (v := 12) (by decide) ?_
  refine rs_newq i_X7_init_40 (by decide) ?_
  exact r_X7_init_43 hd hf
def f_X7_init_30 (n : Nat) (v0 : Nat) (s0 : Nat) (s1 : Nat) (h : Hp) : Option Hp :=
  if okO h s1 0 then
  (f_X0_init n s1 h).bind fun o1 =>
  if okO o1 s0 7 then
  if 16 ≤ s1 then
  f_X7_init_37 n v0 (hsr o1 s0 2 (some s1))
  else none
  else none
  else none
set_option maxRecDepth 100000 in
set_option maxHeartbeats 4000000 in
theorem r_X7_init_30 {X : Nat → Int32} {d : Nat} (hd : 109 ≤ (d + 1)) {n : Nat} {v0 : Nat} {s0 : Nat} {s1 : Nat} {h : Hp} {o : Hp} (hf : f_X7_init_30 n v0 s0 s1 h = some o) : Run X (d + 1) 66 30 [some (.ref v0), none] [.ref s1, .ref s0] h (none, o) := by
  unfold f_X7_init_30 at hf
  refine rs_dup i_X7_init_30 rfl ?_
  obtain ⟨c2, hf⟩ := ite_some hf
  obtain ⟨o1, e1, hf⟩ := bind_some hf
  refine rs_inI i_X7_init_31 (by decide) m_X0_init rfl (As := []) (rest := [.ref s1, .ref s0]) rfl rfl (Nat.le_of_ble_eq_true rfl) c2 (c_X0_init (by omega) e1) (st' := [.ref s1, .ref s0]) rfl ?_
  obtain ⟨c3, hf⟩ := ite_some hf
  obtain ⟨c4, hf⟩ := ite_some hf
  refine rs_putR i_X7_init_34 (by decide) c4 c3 ?_
  exact r_X7_init_37 hd hf
def f_X7_init_26 (n : Nat) (v0 : Nat) (h : Hp) : Option Hp :=
  f_X7_init_30 n v0 v0 h.1.length (hnew h (0, nFf 0))
set_option maxRecDepth 100000 in
set_option maxHeartbeats 4000000 in
theorem r_X7_init_26 {X : Nat → Int32} {d : Nat} (hd : 109 ≤ (d + 1)) {n : Nat} {v0 : Nat} {h : Hp} {o : Hp} (hf : f_X7_init_26 n v0 h = some o) : Run X (d + 1) 66 26 [some (.ref v0), none] [] h (none, o) := by
  unfold f_X7_init_26 at hf
  refine rs_aload_n i_X7_init_26 rfl ?_
  refine rs_new i_X7_init_27 (by decide) ?_
  exact r_X7_init_30 hd hf
def f_X7_init_19 (n : Nat) (v0 : Nat) (s0 : Nat) (s1 : Nat) (h : Hp) : Option Hp :=
  if okO h s1 0 then
  (f_X0_init n s1 h).bind fun o1 =>
  if okO o1 s0 7 then
  if 16 ≤ s1 then
  f_X7_init_26 n v0 (hsr o1 s0 1 (some s1))
  else none
  else none
  else none
set_option maxRecDepth 100000 in
set_option maxHeartbeats 4000000 in
theorem r_X7_init_19 {X : Nat → Int32} {d : Nat} (hd : 109 ≤ (d + 1)) {n : Nat} {v0 : Nat} {s0 : Nat} {s1 : Nat} {h : Hp} {o : Hp} (hf : f_X7_init_19 n v0 s0 s1 h = some o) : Run X (d + 1) 66 19 [some (.ref v0), none] [.ref s1, .ref s0] h (none, o) := by
  unfold f_X7_init_19 at hf
  refine rs_dup i_X7_init_19 rfl ?_
  obtain ⟨c2, hf⟩ := ite_some hf
  obtain ⟨o1, e1, hf⟩ := bind_some hf
  refine rs_inI i_X7_init_20 (by decide) m_X0_init rfl (As := []) (rest := [.ref s1, .ref s0]) rfl rfl (Nat.le_of_ble_eq_true rfl) c2 (c_X0_init (by omega) e1) (st' := [.ref s1, .ref s0]) rfl ?_
  obtain ⟨c3, hf⟩ := ite_some hf
  obtain ⟨c4, hf⟩ := ite_some hf
  refine rs_putR i_X7_init_23 (by decide) c4 c3 ?_
  exact r_X7_init_26 hd hf
def f_X7_init_15 (n : Nat) (v0 : Nat) (h : Hp) : Option Hp :=
  f_X7_init_19 n v0 v0 h.1.length (hnew h (0, nFf 0))
set_option maxRecDepth 100000 in
set_option maxHeartbeats 4000000 in
theorem r_X7_init_15 {X : Nat → Int32} {d : Nat} (hd : 109 ≤ (d + 1)) {n : Nat} {v0 : Nat} {h : Hp} {o : Hp} (hf : f_X7_init_15 n v0 h = some o) : Run X (d + 1) 66 15 [some (.ref v0), none] [] h (none, o) := by
  unfold f_X7_init_15 at hf
  refine rs_aload_n i_X7_init_15 rfl ?_
  refine rs_new i_X7_init_16 (by decide) ?_
  exact r_X7_init_19 hd hf
def f_X7_init_8 (n : Nat) (v0 : Nat) (s0 : Nat) (s1 : Nat) (h : Hp) : Option Hp :=
  if okO h s1 0 then
  (f_X0_init n s1 h).bind fun o1 =>
  if okO o1 s0 7 then
  if 16 ≤ s1 then
  f_X7_init_15 n v0 (hsr o1 s0 0 (some s1))
  else none
  else none
  else none
set_option maxRecDepth 100000 in
set_option maxHeartbeats 4000000 in
theorem r_X7_init_8 {X : Nat → Int32} {d : Nat} (hd : 109 ≤ (d + 1)) {n : Nat} {v0 : Nat} {s0 : Nat} {s1 : Nat} {h : Hp} {o : Hp} (hf : f_X7_init_8 n v0 s0 s1 h = some o) : Run X (d + 1) 66 8 [some (.ref v0), none] [.ref s1, .ref s0] h (none, o) := by
  unfold f_X7_init_8 at hf
  refine rs_dup i_X7_init_8 rfl ?_
  obtain ⟨c2, hf⟩ := ite_some hf
  obtain ⟨o1, e1, hf⟩ := bind_some hf
  refine rs_inI i_X7_init_9 (by decide) m_X0_init rfl (As := []) (rest := [.ref s1, .ref s0]) rfl rfl (Nat.le_of_ble_eq_true rfl) c2 (c_X0_init (by omega) e1) (st' := [.ref s1, .ref s0]) rfl ?_
  obtain ⟨c3, hf⟩ := ite_some hf
  obtain ⟨c4, hf⟩ := ite_some hf
  refine rs_putR i_X7_init_12 (by decide) c4 c3 ?_
  exact r_X7_init_15 hd hf
def f_X7_init_0 (n : Nat) (v0 : Nat) (h : Hp) : Option Hp :=
  f_X7_init_8 n v0 v0 h.1.length (hnew h (0, nFf 0))
set_option maxRecDepth 100000 in
set_option maxHeartbeats 4000000 in
theorem r_X7_init_0 {X : Nat → Int32} {d : Nat} (hd : 109 ≤ (d + 1)) {n : Nat} {v0 : Nat} {h : Hp} {o : Hp} (hf : f_X7_init_0 n v0 h = some o) : Run X (d + 1) 66 0 [some (.ref v0), none] [] h (none, o) := by
  unfold f_X7_init_0 at hf
  refine rs_aload_n i_X7_init_0 rfl ?_
  refine rs_objI i_X7_init_1 (Nat.le_of_ble_eq_true rfl) ?_
  refine rs_aload_n i_X7_init_4 rfl ?_
  refine rs_new i_X7_init_5 (by decide) ?_
  exact r_X7_init_8 hd hf
def f_X7_init (n : Nat) (v0 : Nat) (h : Hp) : Option Hp := f_X7_init_0 n v0 h
theorem c_X7_init {X : Nat → Int32} {d : Nat} (hd : 109 ≤ d) {n : Nat} {v0 : Nat} {h : Hp} {o : Hp} (hf : f_X7_init n v0 h = some o) : Calls X d 66 [.ref v0] h (none, o) := by
  obtain ⟨d, rfl⟩ : ∃ z, d = z + 1 := ⟨d - 1, by omega⟩
  exact ⟨_, rfl, r_X7_init_0 hd hf⟩
theorem i_X7_roll_0 : fetch 67 0 = some (.iload_n 1, 1, 0, 0, 0, 0) := by decide +kernel
theorem i_X7_roll_1 : fetch 67 1 = some (.iconst 0, 2, 0, 0, 0, 0) := by decide +kernel
theorem i_X7_roll_2 : fetch 67 2 = some (.bipush 11, 4, 0, 0, 0, 0) := by decide +kernel
theorem i_X7_roll_4 : fetch 67 4 = some (.invokestatic 112, 7, 110, 0, 0, 534) := by decide +kernel
theorem i_X7_roll_7 : fetch 67 7 = some (.ifCond .ne 6, 10, 0, 0, 0, 0) := by decide +kernel
theorem i_X7_roll_10 : fetch 67 10 = some (.bipush (-5), 12, 0, 0, 0, 0) := by decide +kernel
theorem i_X7_roll_12 : fetch 67 12 = some (.ireturn, 13, 0, 0, 0, 0) := by decide +kernel
theorem i_X7_roll_13 : fetch 67 13 = some (.iload_n 2, 14, 0, 0, 0, 0) := by decide +kernel
theorem i_X7_roll_14 : fetch 67 14 = some (.iconst 0, 15, 0, 0, 0, 0) := by decide +kernel
theorem i_X7_roll_15 : fetch 67 15 = some (.iconst 1, 16, 0, 0, 0, 0) := by decide +kernel
theorem i_X7_roll_16 : fetch 67 16 = some (.invokestatic 112, 19, 110, 0, 0, 534) := by decide +kernel
theorem i_X7_roll_19 : fetch 67 19 = some (.ifCond .eq 23, 22, 0, 0, 0, 0) := by decide +kernel
theorem i_X7_roll_22 : fetch 67 22 = some (.iload_n 3, 23, 0, 0, 0, 0) := by decide +kernel
theorem i_X7_roll_23 : fetch 67 23 = some (.iconst 1, 24, 0, 0, 0, 0) := by decide +kernel
theorem i_X7_roll_24 : fetch 67 24 = some (.iload_n 2, 25, 0, 0, 0, 0) := by decide +kernel
theorem i_X7_roll_25 : fetch 67 25 = some (.ifCond .ne 8, 28, 0, 0, 0, 0) := by decide +kernel
theorem i_X7_roll_28 : fetch 67 28 = some (.ldc 116, 30, 0, 0, 99999, 535) := by decide +kernel
theorem i_X7_roll_30 : fetch 67 30 = some (.goto 6, 33, 0, 0, 0, 0) := by decide +kernel
theorem i_X7_roll_33 : fetch 67 33 = some (.sipush 999, 36, 0, 0, 0, 0) := by decide +kernel
theorem i_X7_roll_36 : fetch 67 36 = some (.invokestatic 112, 39, 110, 0, 0, 534) := by decide +kernel
theorem i_X7_roll_39 : fetch 67 39 = some (.ifCond .ne 6, 42, 0, 0, 0, 0) := by decide +kernel
theorem i_X7_roll_42 : fetch 67 42 = some (.bipush (-7), 44, 0, 0, 0, 0) := by decide +kernel
theorem i_X7_roll_44 : fetch 67 44 = some (.ireturn, 45, 0, 0, 0, 0) := by decide +kernel
theorem i_X7_roll_45 : fetch 67 45 = some (.iload_n 2, 46, 0, 0, 0, 0) := by decide +kernel
theorem i_X7_roll_46 : fetch 67 46 = some (.ifCond .ne 13, 49, 0, 0, 0, 0) := by decide +kernel
theorem i_X7_roll_49 : fetch 67 49 = some (.aload_n 0, 50, 0, 0, 0, 0) := by decide +kernel
theorem i_X7_roll_50 : fetch 67 50 = some (.getfield 10, 53, 7, 0, 0, 483) := by decide +kernel
theorem i_X7_roll_53 : fetch 67 53 = some (.getfield 117, 56, 0, 0, 0, 94) := by decide +kernel
theorem i_X7_roll_56 : fetch 67 56 = some (.goto 10, 59, 0, 0, 0, 0) := by decide +kernel
theorem i_X7_roll_59 : fetch 67 59 = some (.aload_n 0, 60, 0, 0, 0, 0) := by decide +kernel
theorem i_X7_roll_60 : fetch 67 60 = some (.getfield 10, 63, 7, 0, 0, 483) := by decide +kernel
theorem i_X7_roll_63 : fetch 67 63 = some (.getfield 120, 66, 0, 1, 0, 97) := by decide +kernel
theorem i_X7_roll_66 : fetch 67 66 = some (.astore 4, 68, 0, 0, 0, 0) := by decide +kernel
theorem i_X7_roll_68 : fetch 67 68 = some (.aload 4, 70, 0, 0, 0, 0) := by decide +kernel
theorem i_X7_roll_70 : fetch 67 70 = some (.iload_n 1, 71, 0, 0, 0, 0) := by decide +kernel
theorem i_X7_roll_71 : fetch 67 71 = some (.iaload, 72, 0, 0, 0, 0) := by decide +kernel
theorem i_X7_roll_72 : fetch 67 72 = some (.istore 5, 74, 0, 0, 0, 0) := by decide +kernel
theorem i_X7_roll_74 : fetch 67 74 = some (.aload 4, 76, 0, 0, 0, 0) := by decide +kernel
theorem i_X7_roll_76 : fetch 67 76 = some (.iload_n 1, 77, 0, 0, 0, 0) := by decide +kernel
theorem i_X7_roll_77 : fetch 67 77 = some (.iload_n 3, 78, 0, 0, 0, 0) := by decide +kernel
theorem i_X7_roll_78 : fetch 67 78 = some (.iastore, 79, 0, 0, 0, 0) := by decide +kernel
theorem i_X7_roll_79 : fetch 67 79 = some (.iload 5, 81, 0, 0, 0, 0) := by decide +kernel
theorem i_X7_roll_81 : fetch 67 81 = some (.ireturn, 82, 0, 0, 0, 0) := by decide +kernel
def f_X7_roll_66 (v1 : Int32) (v3 : Int32) (s0 : Nat) (h : Hp) : Option (Int32 × Hp) :=
  if okI h s0 v1 then
  some ((gI h s0 (ix v1)), (hsi h s0 (ix v1) v3))
  else none
set_option maxRecDepth 100000 in
set_option maxHeartbeats 4000000 in
theorem r_X7_roll_66 {X : Nat → Int32} {d : Nat} (hd : 1 ≤ (d + 1)) {v1 : Int32} {v3 : Int32} {s0 : Nat} {d0 : Nat} {d2 : Int32} {h : Hp} {o : (Int32 × Hp)} (hf : f_X7_roll_66 v1 v3 s0 h = some o) : Run X (d + 1) 67 66 [some (.ref d0), some (.int v1), some (.int d2), some (.int v3), none, none] [.ref s0] h (some (.int o.1), o.2) := by
  unfold f_X7_roll_66 at hf
  refine rs_astore i_X7_roll_66 (Nat.le_of_ble_eq_true rfl) (lv' := [some (.ref d0), some (.int v1), some (.int d2), some (.int v3), some (.ref s0), none]) rfl ?_
  refine rs_aload i_X7_roll_68 rfl ?_
  refine rs_iload_n i_X7_roll_70 rfl ?_
  obtain ⟨c1, hf⟩ := ite_some hf
  refine rs_iald i_X7_roll_71 c1 ?_
  refine rs_istore i_X7_roll_72 (Nat.le_of_ble_eq_true rfl) (lv' := [some (.ref d0), some (.int v1), some (.int d2), some (.int v3), some (.ref s0), some (.int (gI h s0 (ix v1)))]) rfl ?_
  refine rs_aload i_X7_roll_74 rfl ?_
  refine rs_iload_n i_X7_roll_76 rfl ?_
  refine rs_iload_n i_X7_roll_77 rfl ?_
  refine rs_iast i_X7_roll_78 c1 ?_
  refine rs_iload i_X7_roll_79 rfl ?_
  have hf := Option.some.inj hf
  subst hf
  exact rs_iret i_X7_roll_81 m_X7_roll rfl
def f_X7_roll_36 (v0 : Nat) (v1 : Int32) (v2 : Int32) (v3 : Int32) (s0 : Int32) (s1 : Int32) (s2 : Int32) (h : Hp) : Option (Int32 × Hp) :=
  (f_X7_within s0 s1 s2 h).bind fun o1 =>
  if o1.1 ≠ 0 then
    if v2 ≠ 0 then
      if okO o1.2 v0 7 then
      (gR o1.2 v0 0).bind fun a5 =>
      if okO o1.2 a5 0 then
      (gR o1.2 a5 1).bind fun a7 =>
      f_X7_roll_66 v1 v3 a7 o1.2
      else none
      else none
    else
      if okO o1.2 v0 7 then
      (gR o1.2 v0 0).bind fun a9 =>
      if okO o1.2 a9 0 then
      (gR o1.2 a9 0).bind fun a11 =>
      f_X7_roll_66 v1 v3 a11 o1.2
      else none
      else none
  else
    some ((-7), o1.2)
set_option maxRecDepth 100000 in
set_option maxHeartbeats 4000000 in
theorem r_X7_roll_36 {X : Nat → Int32} {d : Nat} (hd : 1 ≤ (d + 1)) {v0 : Nat} {v1 : Int32} {v2 : Int32} {v3 : Int32} {s0 : Int32} {s1 : Int32} {s2 : Int32} {h : Hp} {o : (Int32 × Hp)} (hf : f_X7_roll_36 v0 v1 v2 v3 s0 s1 s2 h = some o) : Run X (d + 1) 67 36 [some (.ref v0), some (.int v1), some (.int v2), some (.int v3), none, none] [.int s2, .int s1, .int s0] h (some (.int o.1), o.2) := by
  unfold f_X7_roll_36 at hf
  obtain ⟨o1, e1, hf⟩ := bind_some hf
  refine rs_inS i_X7_roll_36 (by decide) m_X7_within rfl (As := [.int s0, .int s1, .int s2]) (rest := []) rfl rfl (Nat.le_of_ble_eq_true rfl) (c_X7_within (by omega) e1) (st' := [.int o1.1]) rfl ?_
  by_cases c2 : o1.1 ≠ 0
  · replace hf := (if_pos c2).symm.trans hf
    refine rs_ifT i_X7_roll_39 (ct_ne c2) (tg := 45) (by decide) ?_
    refine rs_iload_n i_X7_roll_45 rfl ?_
    by_cases c3 : v2 ≠ 0
    · replace hf := (if_pos c3).symm.trans hf
      refine rs_ifT i_X7_roll_46 (ct_ne c3) (tg := 59) (by decide) ?_
      refine rs_aload_n i_X7_roll_59 rfl ?_
      obtain ⟨c4, hf⟩ := ite_some hf
      obtain ⟨a5, e5, hf⟩ := bind_some hf
      refine rs_getR i_X7_roll_60 (by decide) (by decide) c4 e5 ?_
      obtain ⟨c6, hf⟩ := ite_some hf
      obtain ⟨a7, e7, hf⟩ := bind_some hf
      refine rs_getR i_X7_roll_63 (by decide) (by decide) c6 e7 ?_
      exact r_X7_roll_66 hd hf
    · replace hf := (if_neg c3).symm.trans hf
      refine rs_ifF i_X7_roll_46 (cf_ne c3) ?_
      refine rs_aload_n i_X7_roll_49 rfl ?_
      obtain ⟨c8, hf⟩ := ite_some hf
      obtain ⟨a9, e9, hf⟩ := bind_some hf
      refine rs_getR i_X7_roll_50 (by decide) (by decide) c8 e9 ?_
      obtain ⟨c10, hf⟩ := ite_some hf
      obtain ⟨a11, e11, hf⟩ := bind_some hf
      refine rs_getR i_X7_roll_53 (by decide) (by decide) c10 e11 ?_
      refine rs_goto i_X7_roll_56 (tg := 66) (by decide) ?_
      exact r_X7_roll_66 hd hf
  · replace hf := (if_neg c2).symm.trans hf
    refine rs_ifF i_X7_roll_39 (cf_ne c2) ?_
    refine rs_bipush i_X7_roll_42 (v := (-7)) (by decide) ?_
    have hf := Option.some.inj hf
    subst hf
    exact rs_iret i_X7_roll_44 m_X7_roll rfl
def f_X7_roll_0 (v0 : Nat) (v1 : Int32) (v2 : Int32) (v3 : Int32) (h : Hp) : Option (Int32 × Hp) :=
  (f_X7_within v1 0 11 h).bind fun o1 =>
  if o1.1 ≠ 0 then
    (f_X7_within v2 0 1 o1.2).bind fun o3 =>
    if o3.1 = 0 then
      some ((-7), o3.2)
    else
      if v2 ≠ 0 then
        f_X7_roll_36 v0 v1 v2 v3 v3 1 999 o3.2
      else
        f_X7_roll_36 v0 v1 v2 v3 v3 1 99999 o3.2
  else
    some ((-5), o1.2)
set_option maxRecDepth 100000 in
set_option maxHeartbeats 4000000 in
theorem r_X7_roll_0 {X : Nat → Int32} {d : Nat} (hd : 1 ≤ (d + 1)) {v0 : Nat} {v1 : Int32} {v2 : Int32} {v3 : Int32} {h : Hp} {o : (Int32 × Hp)} (hf : f_X7_roll_0 v0 v1 v2 v3 h = some o) : Run X (d + 1) 67 0 [some (.ref v0), some (.int v1), some (.int v2), some (.int v3), none, none] [] h (some (.int o.1), o.2) := by
  unfold f_X7_roll_0 at hf
  refine rs_iload_n i_X7_roll_0 rfl ?_
  refine rs_iconst i_X7_roll_1 (v := 0) (by decide) ?_
  refine rs_bipush i_X7_roll_2 (v := 11) (by decide) ?_
  obtain ⟨o1, e1, hf⟩ := bind_some hf
  refine rs_inS i_X7_roll_4 (by decide) m_X7_within rfl (As := [.int v1, .int 0, .int 11]) (rest := []) rfl rfl (Nat.le_of_ble_eq_true rfl) (c_X7_within (by omega) e1) (st' := [.int o1.1]) rfl ?_
  by_cases c2 : o1.1 ≠ 0
  · replace hf := (if_pos c2).symm.trans hf
    refine rs_ifT i_X7_roll_7 (ct_ne c2) (tg := 13) (by decide) ?_
    refine rs_iload_n i_X7_roll_13 rfl ?_
    refine rs_iconst i_X7_roll_14 (v := 0) (by decide) ?_
    refine rs_iconst i_X7_roll_15 (v := 1) (by decide) ?_
    obtain ⟨o3, e3, hf⟩ := bind_some hf
    refine rs_inS i_X7_roll_16 (by decide) m_X7_within rfl (As := [.int v2, .int 0, .int 1]) (rest := []) rfl rfl (Nat.le_of_ble_eq_true rfl) (c_X7_within (by omega) e3) (st' := [.int o3.1]) rfl ?_
    by_cases c4 : o3.1 = 0
    · replace hf := (if_pos c4).symm.trans hf
      refine rs_ifT i_X7_roll_19 (ct_eq c4) (tg := 42) (by decide) ?_
      refine rs_bipush i_X7_roll_42 (v := (-7)) (by decide) ?_
      have hf := Option.some.inj hf
      subst hf
      exact rs_iret i_X7_roll_44 m_X7_roll rfl
    · replace hf := (if_neg c4).symm.trans hf
      refine rs_ifF i_X7_roll_19 (cf_eq c4) ?_
      refine rs_iload_n i_X7_roll_22 rfl ?_
      refine rs_iconst i_X7_roll_23 (v := 1) (by decide) ?_
      refine rs_iload_n i_X7_roll_24 rfl ?_
      by_cases c5 : v2 ≠ 0
      · replace hf := (if_pos c5).symm.trans hf
        refine rs_ifT i_X7_roll_25 (ct_ne c5) (tg := 33) (by decide) ?_
        refine rs_sipush i_X7_roll_33 (v := 999) (by decide) ?_
        exact r_X7_roll_36 hd hf
      · replace hf := (if_neg c5).symm.trans hf
        refine rs_ifF i_X7_roll_25 (cf_ne c5) ?_
        refine rs_ldc i_X7_roll_28 (v := 99999) (by decide) ?_
        refine rs_goto i_X7_roll_30 (tg := 36) (by decide) ?_
        exact r_X7_roll_36 hd hf
  · replace hf := (if_neg c2).symm.trans hf
    refine rs_ifF i_X7_roll_7 (cf_ne c2) ?_
    refine rs_bipush i_X7_roll_10 (v := (-5)) (by decide) ?_
    have hf := Option.some.inj hf
    subst hf
    exact rs_iret i_X7_roll_12 m_X7_roll rfl
def f_X7_roll (v0 : Nat) (v1 : Int32) (v2 : Int32) (v3 : Int32) (h : Hp) : Option (Int32 × Hp) := f_X7_roll_0 v0 v1 v2 v3 h
theorem c_X7_roll {X : Nat → Int32} {d : Nat} (hd : 1 ≤ d) {v0 : Nat} {v1 : Int32} {v2 : Int32} {v3 : Int32} {h : Hp} {o : (Int32 × Hp)} (hf : f_X7_roll v0 v1 v2 v3 h = some o) : Calls X d 67 [.ref v0, .int v1, .int v2, .int v3] h (some (.int o.1), o.2) := by
  obtain ⟨d, rfl⟩ : ∃ z, d = z + 1 := ⟨d - 1, by omega⟩
  exact ⟨_, rfl, r_X7_roll_0 hd hf⟩
theorem i_X7_set_0 : fetch 68 0 = some (.iload_n 1, 1, 0, 0, 0, 0) := by decide +kernel
theorem i_X7_set_1 : fetch 68 1 = some (.iconst 0, 2, 0, 0, 0, 0) := by decide +kernel
theorem i_X7_set_2 : fetch 68 2 = some (.iconst 2, 3, 0, 0, 0, 0) := by decide +kernel
theorem i_X7_set_3 : fetch 68 3 = some (.invokestatic 112, 6, 110, 0, 0, 534) := by decide +kernel
theorem i_X7_set_6 : fetch 68 6 = some (.ifCond .ne 5, 9, 0, 0, 0, 0) := by decide +kernel
theorem i_X7_set_9 : fetch 68 9 = some (.iconst (-1), 10, 0, 0, 0, 0) := by decide +kernel
theorem i_X7_set_10 : fetch 68 10 = some (.ireturn, 11, 0, 0, 0, 0) := by decide +kernel
theorem i_X7_set_11 : fetch 68 11 = some (.iload_n 2, 12, 0, 0, 0, 0) := by decide +kernel
theorem i_X7_set_12 : fetch 68 12 = some (.iconst 0, 13, 0, 0, 0, 0) := by decide +kernel
theorem i_X7_set_13 : fetch 68 13 = some (.bipush 9, 15, 0, 0, 0, 0) := by decide +kernel
theorem i_X7_set_15 : fetch 68 15 = some (.invokestatic 112, 18, 110, 0, 0, 534) := by decide +kernel
theorem i_X7_set_18 : fetch 68 18 = some (.ifCond .ne 6, 21, 0, 0, 0, 0) := by decide +kernel
theorem i_X7_set_21 : fetch 68 21 = some (.bipush (-2), 23, 0, 0, 0, 0) := by decide +kernel
theorem i_X7_set_23 : fetch 68 23 = some (.ireturn, 24, 0, 0, 0, 0) := by decide +kernel
theorem i_X7_set_24 : fetch 68 24 = some (.aload_n 0, 25, 0, 0, 0, 0) := by decide +kernel
theorem i_X7_set_25 : fetch 68 25 = some (.getfield 10, 28, 7, 0, 0, 483) := by decide +kernel
theorem i_X7_set_28 : fetch 68 28 = some (.getfield 122, 31, 0, 2, 0, 99) := by decide +kernel
theorem i_X7_set_31 : fetch 68 31 = some (.iload_n 1, 32, 0, 0, 0, 0) := by decide +kernel
theorem i_X7_set_32 : fetch 68 32 = some (.iaload, 33, 0, 0, 0, 0) := by decide +kernel
theorem i_X7_set_33 : fetch 68 33 = some (.istore_n 3, 34, 0, 0, 0, 0) := by decide +kernel
theorem i_X7_set_34 : fetch 68 34 = some (.aload_n 0, 35, 0, 0, 0, 0) := by decide +kernel
theorem i_X7_set_35 : fetch 68 35 = some (.getfield 10, 38, 7, 0, 0, 483) := by decide +kernel
theorem i_X7_set_38 : fetch 68 38 = some (.getfield 122, 41, 0, 2, 0, 99) := by decide +kernel
theorem i_X7_set_41 : fetch 68 41 = some (.iload_n 1, 42, 0, 0, 0, 0) := by decide +kernel
theorem i_X7_set_42 : fetch 68 42 = some (.iload_n 2, 43, 0, 0, 0, 0) := by decide +kernel
theorem i_X7_set_43 : fetch 68 43 = some (.iastore, 44, 0, 0, 0, 0) := by decide +kernel
theorem i_X7_set_44 : fetch 68 44 = some (.iload_n 3, 45, 0, 0, 0, 0) := by decide +kernel
theorem i_X7_set_45 : fetch 68 45 = some (.ireturn, 46, 0, 0, 0, 0) := by decide +kernel
def f_X7_set_0 (v0 : Nat) (v1 : Int32) (v2 : Int32) (h : Hp) : Option (Int32 × Hp) :=
  (f_X7_within v1 0 2 h).bind fun o1 =>
  if o1.1 ≠ 0 then
    (f_X7_within v2 0 9 o1.2).bind fun o3 =>
    if o3.1 ≠ 0 then
      if okO o3.2 v0 7 then
      (gR o3.2 v0 0).bind fun a6 =>
      if okO o3.2 a6 0 then
      (gR o3.2 a6 2).bind fun a8 =>
      if okI o3.2 a8 v1 then
      some ((gI o3.2 a8 (ix v1)), (hsi o3.2 a8 (ix v1) v2))
      else none
      else none
      else none
    else
      some ((-2), o3.2)
  else
    some ((-1), o1.2)
set_option maxRecDepth 100000 in
set_option maxHeartbeats 4000000 in
theorem r_X7_set_0 {X : Nat → Int32} {d : Nat} (hd : 1 ≤ (d + 1)) {v0 : Nat} {v1 : Int32} {v2 : Int32} {h : Hp} {o : (Int32 × Hp)} (hf : f_X7_set_0 v0 v1 v2 h = some o) : Run X (d + 1) 68 0 [some (.ref v0), some (.int v1), some (.int v2), none] [] h (some (.int o.1), o.2) := by
  unfold f_X7_set_0 at hf
  refine rs_iload_n i_X7_set_0 rfl ?_
  refine rs_iconst i_X7_set_1 (v := 0) (by decide) ?_
  refine rs_iconst i_X7_set_2 (v := 2) (by decide) ?_
  obtain ⟨o1, e1, hf⟩ := bind_some hf
  refine rs_inS i_X7_set_3 (by decide) m_X7_within rfl (As := [.int v1, .int 0, .int 2]) (rest := []) rfl rfl (Nat.le_of_ble_eq_true rfl) (c_X7_within (by omega) e1) (st' := [.int o1.1]) rfl ?_
  by_cases c2 : o1.1 ≠ 0
  · replace hf := (if_pos c2).symm.trans hf
    refine rs_ifT i_X7_set_6 (ct_ne c2) (tg := 11) (by decide) ?_
    refine rs_iload_n i_X7_set_11 rfl ?_
    refine rs_iconst i_X7_set_12 (v := 0) (by decide) ?_
    refine rs_bipush i_X7_set_13 (v := 9) (by decide) ?_
    obtain ⟨o3, e3, hf⟩ := bind_some hf
    refine rs_inS i_X7_set_15 (by decide) m_X7_within rfl (As := [.int v2, .int 0, .int 9]) (rest := []) rfl rfl (Nat.le_of_ble_eq_true rfl) (c_X7_within (by omega) e3) (st' := [.int o3.1]) rfl ?_
    by_cases c4 : o3.1 ≠ 0
    · replace hf := (if_pos c4).symm.trans hf
      refine rs_ifT i_X7_set_18 (ct_ne c4) (tg := 24) (by decide) ?_
      refine rs_aload_n i_X7_set_24 rfl ?_
      obtain ⟨c5, hf⟩ := ite_some hf
      obtain ⟨a6, e6, hf⟩ := bind_some hf
      refine rs_getR i_X7_set_25 (by decide) (by decide) c5 e6 ?_
      obtain ⟨c7, hf⟩ := ite_some hf
      obtain ⟨a8, e8, hf⟩ := bind_some hf
      refine rs_getR i_X7_set_28 (by decide) (by decide) c7 e8 ?_
      refine rs_iload_n i_X7_set_31 rfl ?_
      obtain ⟨c9, hf⟩ := ite_some hf
      refine rs_iald i_X7_set_32 c9 ?_
      refine rs_istore_n i_X7_set_33 (Nat.le_of_ble_eq_true rfl) (lv' := [some (.ref v0), some (.int v1), some (.int v2), some (.int (gI o3.2 a8 (ix v1)))]) rfl ?_
      refine rs_aload_n i_X7_set_34 rfl ?_
      refine rs_getR i_X7_set_35 (by decide) (by decide) c5 e6 ?_
      refine rs_getR i_X7_set_38 (by decide) (by decide) c7 e8 ?_
      refine rs_iload_n i_X7_set_41 rfl ?_
      refine rs_iload_n i_X7_set_42 rfl ?_
      refine rs_iast i_X7_set_43 c9 ?_
      refine rs_iload_n i_X7_set_44 rfl ?_
      have hf := Option.some.inj hf
      subst hf
      exact rs_iret i_X7_set_45 m_X7_set rfl
    · replace hf := (if_neg c4).symm.trans hf
      refine rs_ifF i_X7_set_18 (cf_ne c4) ?_
      refine rs_bipush i_X7_set_21 (v := (-2)) (by decide) ?_
      have hf := Option.some.inj hf
      subst hf
      exact rs_iret i_X7_set_23 m_X7_set rfl
  · replace hf := (if_neg c2).symm.trans hf
    refine rs_ifF i_X7_set_6 (cf_ne c2) ?_
    refine rs_iconst i_X7_set_9 (v := (-1)) (by decide) ?_
    have hf := Option.some.inj hf
    subst hf
    exact rs_iret i_X7_set_10 m_X7_set rfl
def f_X7_set (v0 : Nat) (v1 : Int32) (v2 : Int32) (h : Hp) : Option (Int32 × Hp) := f_X7_set_0 v0 v1 v2 h
theorem c_X7_set {X : Nat → Int32} {d : Nat} (hd : 1 ≤ d) {v0 : Nat} {v1 : Int32} {v2 : Int32} {h : Hp} {o : (Int32 × Hp)} (hf : f_X7_set v0 v1 v2 h = some o) : Calls X d 68 [.ref v0, .int v1, .int v2] h (some (.int o.1), o.2) := by
  obtain ⟨d, rfl⟩ : ∃ z, d = z + 1 := ⟨d - 1, by omega⟩
  exact ⟨_, rfl, r_X7_set_0 hd hf⟩
theorem i_X7_count_0 : fetch 69 0 = some (.iload_n 1, 1, 0, 0, 0, 0) := by decide +kernel
theorem i_X7_count_1 : fetch 69 1 = some (.iconst 0, 2, 0, 0, 0, 0) := by decide +kernel
theorem i_X7_count_2 : fetch 69 2 = some (.iconst 2, 3, 0, 0, 0, 0) := by decide +kernel
theorem i_X7_count_3 : fetch 69 3 = some (.invokestatic 112, 6, 110, 0, 0, 534) := by decide +kernel
theorem i_X7_count_6 : fetch 69 6 = some (.ifCond .eq 13, 9, 0, 0, 0, 0) := by decide +kernel
theorem i_X7_count_9 : fetch 69 9 = some (.aload_n 0, 10, 0, 0, 0, 0) := by decide +kernel
theorem i_X7_count_10 : fetch 69 10 = some (.getfield 10, 13, 7, 0, 0, 483) := by decide +kernel
theorem i_X7_count_13 : fetch 69 13 = some (.getfield 122, 16, 0, 2, 0, 99) := by decide +kernel
theorem i_X7_count_16 : fetch 69 16 = some (.iload_n 1, 17, 0, 0, 0, 0) := by decide +kernel
theorem i_X7_count_17 : fetch 69 17 = some (.iaload, 18, 0, 0, 0, 0) := by decide +kernel
theorem i_X7_count_18 : fetch 69 18 = some (.ireturn, 19, 0, 0, 0, 0) := by decide +kernel
theorem i_X7_count_19 : fetch 69 19 = some (.iload_n 1, 20, 0, 0, 0, 0) := by decide +kernel
theorem i_X7_count_20 : fetch 69 20 = some (.tableswitch 58 3 6 #[32, 37, 42, 50], 52, 0, 0, 0, 0) := by decide +kernel
theorem i_X7_count_52 : fetch 69 52 = some (.aload_n 0, 53, 0, 0, 0, 0) := by decide +kernel
theorem i_X7_count_53 : fetch 69 53 = some (.getfield 54, 56, 7, 12, 0, 495) := by decide +kernel
theorem i_X7_count_56 : fetch 69 56 = some (.ireturn, 57, 0, 0, 0, 0) := by decide +kernel
theorem i_X7_count_57 : fetch 69 57 = some (.aload_n 0, 58, 0, 0, 0, 0) := by decide +kernel
theorem i_X7_count_58 : fetch 69 58 = some (.getfield 58, 61, 7, 13, 0, 496) := by decide +kernel
theorem i_X7_count_61 : fetch 69 61 = some (.ireturn, 62, 0, 0, 0, 0) := by decide +kernel
theorem i_X7_count_62 : fetch 69 62 = some (.aload_n 0, 63, 0, 0, 0, 0) := by decide +kernel
theorem i_X7_count_63 : fetch 69 63 = some (.getfield 10, 66, 7, 0, 0, 483) := by decide +kernel
theorem i_X7_count_66 : fetch 69 66 = some (.getfield 125, 69, 0, 3, 0, 101) := by decide +kernel
theorem i_X7_count_69 : fetch 69 69 = some (.ireturn, 70, 0, 0, 0, 0) := by decide +kernel
theorem i_X7_count_70 : fetch 69 70 = some (.aload_n 0, 71, 0, 0, 0, 0) := by decide +kernel
theorem i_X7_count_71 : fetch 69 71 = some (.getfield 37, 74, 7, 5, 0, 488) := by decide +kernel
theorem i_X7_count_74 : fetch 69 74 = some (.getfield 128, 77, 2, 1, 0, 124) := by decide +kernel
theorem i_X7_count_77 : fetch 69 77 = some (.ireturn, 78, 0, 0, 0, 0) := by decide +kernel
theorem i_X7_count_78 : fetch 69 78 = some (.bipush (-2), 80, 0, 0, 0, 0) := by decide +kernel
theorem i_X7_count_80 : fetch 69 80 = some (.ireturn, 81, 0, 0, 0, 0) := by decide +kernel
def f_X7_count_0 (v0 : Nat) (v1 : Int32) (h : Hp) : Option (Int32 × Hp) :=
  (f_X7_within v1 0 2 h).bind fun o1 =>
  if o1.1 = 0 then
    if v1 = 3 then
      if okO o1.2 v0 7 then
      some ((gI o1.2 v0 12), o1.2)
      else none
    else
      if v1 = 4 then
        if okO o1.2 v0 7 then
        some ((gI o1.2 v0 13), o1.2)
        else none
      else
        if v1 = 5 then
          if okO o1.2 v0 7 then
          (gR o1.2 v0 0).bind fun a11 =>
          if okO o1.2 a11 0 then
          some ((gI o1.2 a11 3), o1.2)
          else none
          else none
        else
          if v1 = 6 then
            if okO o1.2 v0 7 then
            (gR o1.2 v0 5).bind fun a8 =>
            if okO o1.2 a8 2 then
            some ((gI o1.2 a8 1), o1.2)
            else none
            else none
          else
            some ((-2), o1.2)
  else
    if okO o1.2 v0 7 then
    (gR o1.2 v0 0).bind fun a16 =>
    if okO o1.2 a16 0 then
    (gR o1.2 a16 2).bind fun a18 =>
    if okI o1.2 a18 v1 then
    some ((gI o1.2 a18 (ix v1)), o1.2)
    else none
    else none
    else none
set_option maxRecDepth 100000 in
set_option maxHeartbeats 4000000 in
theorem r_X7_count_0 {X : Nat → Int32} {d : Nat} (hd : 1 ≤ (d + 1)) {v0 : Nat} {v1 : Int32} {h : Hp} {o : (Int32 × Hp)} (hf : f_X7_count_0 v0 v1 h = some o) : Run X (d + 1) 69 0 [some (.ref v0), some (.int v1)] [] h (some (.int o.1), o.2) := by
  unfold f_X7_count_0 at hf
  refine rs_iload_n i_X7_count_0 rfl ?_
  refine rs_iconst i_X7_count_1 (v := 0) (by decide) ?_
  refine rs_iconst i_X7_count_2 (v := 2) (by decide) ?_
  obtain ⟨o1, e1, hf⟩ := bind_some hf
  refine rs_inS i_X7_count_3 (by decide) m_X7_within rfl (As := [.int v1, .int 0, .int 2]) (rest := []) rfl rfl (Nat.le_of_ble_eq_true rfl) (c_X7_within (by omega) e1) (st' := [.int o1.1]) rfl ?_
  by_cases c2 : o1.1 = 0
  · replace hf := (if_pos c2).symm.trans hf
    refine rs_ifT i_X7_count_6 (ct_eq c2) (tg := 19) (by decide) ?_
    refine rs_iload_n i_X7_count_19 rfl ?_
    by_cases c3 : v1 = 3
    · replace hf := (if_pos c3).symm.trans hf
      refine rs_tsw i_X7_count_20 (off := 32) (by rw [c3]; decide) (tg := 52) (by decide) ?_
      refine rs_aload_n i_X7_count_52 rfl ?_
      obtain ⟨c14, hf⟩ := ite_some hf
      refine rs_getI i_X7_count_53 (by decide) (by decide) c14 ?_
      have hf := Option.some.inj hf
      subst hf
      exact rs_iret i_X7_count_56 m_X7_count rfl
    · replace hf := (if_neg c3).symm.trans hf
      by_cases c4 : v1 = 4
      · replace hf := (if_pos c4).symm.trans hf
        refine rs_tsw i_X7_count_20 (off := 37) (by rw [c4]; decide) (tg := 57) (by decide) ?_
        refine rs_aload_n i_X7_count_57 rfl ?_
        obtain ⟨c13, hf⟩ := ite_some hf
        refine rs_getI i_X7_count_58 (by decide) (by decide) c13 ?_
        have hf := Option.some.inj hf
        subst hf
        exact rs_iret i_X7_count_61 m_X7_count rfl
      · replace hf := (if_neg c4).symm.trans hf
        by_cases c5 : v1 = 5
        · replace hf := (if_pos c5).symm.trans hf
          refine rs_tsw i_X7_count_20 (off := 42) (by rw [c5]; decide) (tg := 62) (by decide) ?_
          refine rs_aload_n i_X7_count_62 rfl ?_
          obtain ⟨c10, hf⟩ := ite_some hf
          obtain ⟨a11, e11, hf⟩ := bind_some hf
          refine rs_getR i_X7_count_63 (by decide) (by decide) c10 e11 ?_
          obtain ⟨c12, hf⟩ := ite_some hf
          refine rs_getI i_X7_count_66 (by decide) (by decide) c12 ?_
          have hf := Option.some.inj hf
          subst hf
          exact rs_iret i_X7_count_69 m_X7_count rfl
        · replace hf := (if_neg c5).symm.trans hf
          by_cases c6 : v1 = 6
          · replace hf := (if_pos c6).symm.trans hf
            refine rs_tsw i_X7_count_20 (off := 50) (by rw [c6]; decide) (tg := 70) (by decide) ?_
            refine rs_aload_n i_X7_count_70 rfl ?_
            obtain ⟨c7, hf⟩ := ite_some hf
            obtain ⟨a8, e8, hf⟩ := bind_some hf
            refine rs_getR i_X7_count_71 (by decide) (by decide) c7 e8 ?_
            obtain ⟨c9, hf⟩ := ite_some hf
            refine rs_getI i_X7_count_74 (by decide) (by decide) c9 ?_
            have hf := Option.some.inj hf
            subst hf
            exact rs_iret i_X7_count_77 m_X7_count rfl
          · replace hf := (if_neg c6).symm.trans hf
            refine rs_tsw i_X7_count_20 (off := 58) (swt_df (by have z0 := ne_ti c3; rw [show (3 : Int32).toInt = 3 from by decide] at z0; have z1 := ne_ti c4; rw [show (4 : Int32).toInt = 4 from by decide] at z1; have z2 := ne_ti c5; rw [show (5 : Int32).toInt = 5 from by decide] at z2; have z3 := ne_ti c6; rw [show (6 : Int32).toInt = 6 from by decide] at z3; omega)) (tg := 78) (by decide) ?_
            refine rs_bipush i_X7_count_78 (v := (-2)) (by decide) ?_
            have hf := Option.some.inj hf
            subst hf
            exact rs_iret i_X7_count_80 m_X7_count rfl
  · replace hf := (if_neg c2).symm.trans hf
    refine rs_ifF i_X7_count_6 (cf_eq c2) ?_
    refine rs_aload_n i_X7_count_9 rfl ?_
    obtain ⟨c15, hf⟩ := ite_some hf
    obtain ⟨a16, e16, hf⟩ := bind_some hf
    refine rs_getR i_X7_count_10 (by decide) (by decide) c15 e16 ?_
    obtain ⟨c17, hf⟩ := ite_some hf
    obtain ⟨a18, e18, hf⟩ := bind_some hf
    refine rs_getR i_X7_count_13 (by decide) (by decide) c17 e18 ?_
    refine rs_iload_n i_X7_count_16 rfl ?_
    obtain ⟨c19, hf⟩ := ite_some hf
    refine rs_iald i_X7_count_17 c19 ?_
    have hf := Option.some.inj hf
    subst hf
    exact rs_iret i_X7_count_18 m_X7_count rfl
def f_X7_count (v0 : Nat) (v1 : Int32) (h : Hp) : Option (Int32 × Hp) := f_X7_count_0 v0 v1 h
theorem c_X7_count {X : Nat → Int32} {d : Nat} (hd : 1 ≤ d) {v0 : Nat} {v1 : Int32} {h : Hp} {o : (Int32 × Hp)} (hf : f_X7_count v0 v1 h = some o) : Calls X d 69 [.ref v0, .int v1] h (some (.int o.1), o.2) := by
  obtain ⟨d, rfl⟩ : ∃ z, d = z + 1 := ⟨d - 1, by omega⟩
  exact ⟨_, rfl, r_X7_count_0 hd hf⟩
theorem i_X7_feed_0 : fetch 70 0 = some (.iload_n 3, 1, 0, 0, 0, 0) := by decide +kernel
theorem i_X7_feed_1 : fetch 70 1 = some (.iconst 1, 2, 0, 0, 0, 0) := by decide +kernel
theorem i_X7_feed_2 : fetch 70 2 = some (.bipush 8, 4, 0, 0, 0, 0) := by decide +kernel
theorem i_X7_feed_4 : fetch 70 4 = some (.invokestatic 112, 7, 110, 0, 0, 534) := by decide +kernel
theorem i_X7_feed_7 : fetch 70 7 = some (.ifCond .ne 6, 10, 0, 0, 0, 0) := by decide +kernel
theorem i_X7_feed_10 : fetch 70 10 = some (.bipush (-2), 12, 0, 0, 0, 0) := by decide +kernel
theorem i_X7_feed_12 : fetch 70 12 = some (.ireturn, 13, 0, 0, 0, 0) := by decide +kernel
theorem i_X7_feed_13 : fetch 70 13 = some (.aload_n 0, 14, 0, 0, 0, 0) := by decide +kernel
theorem i_X7_feed_14 : fetch 70 14 = some (.getfield 37, 17, 7, 5, 0, 488) := by decide +kernel
theorem i_X7_feed_17 : fetch 70 17 = some (.getfield 128, 20, 2, 1, 0, 124) := by decide +kernel
theorem i_X7_feed_20 : fetch 70 20 = some (.iload_n 3, 21, 0, 0, 0, 0) := by decide +kernel
theorem i_X7_feed_21 : fetch 70 21 = some (.iadd, 22, 0, 0, 0, 0) := by decide +kernel
theorem i_X7_feed_22 : fetch 70 22 = some (.sipush 160, 25, 0, 0, 0, 0) := by decide +kernel
theorem i_X7_feed_25 : fetch 70 25 = some (.if_icmp .le 6, 28, 0, 0, 0, 0) := by decide +kernel
theorem i_X7_feed_28 : fetch 70 28 = some (.bipush (-4), 30, 0, 0, 0, 0) := by decide +kernel
theorem i_X7_feed_30 : fetch 70 30 = some (.ireturn, 31, 0, 0, 0, 0) := by decide +kernel
theorem i_X7_feed_31 : fetch 70 31 = some (.iload_n 3, 32, 0, 0, 0, 0) := by decide +kernel
theorem i_X7_feed_32 : fetch 70 32 = some (.iconst 1, 33, 0, 0, 0, 0) := by decide +kernel
theorem i_X7_feed_33 : fetch 70 33 = some (.isub, 34, 0, 0, 0, 0) := by decide +kernel
theorem i_X7_feed_34 : fetch 70 34 = some (.istore 4, 36, 0, 0, 0, 0) := by decide +kernel
theorem i_X7_feed_36 : fetch 70 36 = some (.iload 4, 38, 0, 0, 0, 0) := by decide +kernel
theorem i_X7_feed_38 : fetch 70 38 = some (.ifCond .lt 28, 41, 0, 0, 0, 0) := by decide +kernel
theorem i_X7_feed_41 : fetch 70 41 = some (.aload_n 0, 42, 0, 0, 0, 0) := by decide +kernel
theorem i_X7_feed_42 : fetch 70 42 = some (.getfield 37, 45, 7, 5, 0, 488) := by decide +kernel
theorem i_X7_feed_45 : fetch 70 45 = some (.lload_n 1, 46, 0, 0, 0, 0) := by decide +kernel
theorem i_X7_feed_46 : fetch 70 46 = some (.bipush 8, 48, 0, 0, 0, 0) := by decide +kernel
theorem i_X7_feed_48 : fetch 70 48 = some (.iload 4, 50, 0, 0, 0, 0) := by decide +kernel
theorem i_X7_feed_50 : fetch 70 50 = some (.imul, 51, 0, 0, 0, 0) := by decide +kernel
theorem i_X7_feed_51 : fetch 70 51 = some (.lushr, 52, 0, 0, 0, 0) := by decide +kernel
theorem i_X7_feed_52 : fetch 70 52 = some (.l2i, 53, 0, 0, 0, 0) := by decide +kernel
theorem i_X7_feed_53 : fetch 70 53 = some (.sipush 255, 56, 0, 0, 0, 0) := by decide +kernel
theorem i_X7_feed_56 : fetch 70 56 = some (.iand, 57, 0, 0, 0, 0) := by decide +kernel
theorem i_X7_feed_57 : fetch 70 57 = some (.invokevirtual 101, 60, 10, 0, 0, 335) := by decide +kernel
theorem i_X7_feed_60 : fetch 70 60 = some (.iinc 4 (-1), 63, 0, 0, 0, 0) := by decide +kernel
theorem i_X7_feed_63 : fetch 70 63 = some (.goto (-27), 66, 0, 0, 0, 0) := by decide +kernel
theorem i_X7_feed_66 : fetch 70 66 = some (.aload_n 0, 67, 0, 0, 0, 0) := by decide +kernel
theorem i_X7_feed_67 : fetch 70 67 = some (.getfield 37, 70, 7, 5, 0, 488) := by decide +kernel
theorem i_X7_feed_70 : fetch 70 70 = some (.getfield 128, 73, 2, 1, 0, 124) := by decide +kernel
theorem i_X7_feed_73 : fetch 70 73 = some (.ireturn, 74, 0, 0, 0, 0) := by decide +kernel
def f_X7_feed_36 (n : Nat) : Nat → Nat → Int64 → Int32 → Hp → Option (Int32 × Hp)
  | 0, _, _, _, _ => none
  | m + 1, v0, v1, v4, h =>
    if v4 < 0 then
      if okO h v0 7 then
      (gR h v0 5).bind fun a3 =>
      if okO h a3 2 then
      some ((gI h a3 1), h)
      else none
      else none
    else
      if okO h v0 7 then
      (gR h v0 5).bind fun a6 =>
      if okO h a6 2 then
      (f_X2_add a6 ((Int64.toInt32 ((Int64.toUInt64 v1 >>> ((Int32.toInt64 (8 * v4)).toUInt64 &&& Int64.toUInt64 63)).toInt64)) &&& 255) h).bind fun o7 =>
      (f_X7_feed_36 n m) v0 v1 (v4 + (-1)) o7
      else none
      else none
set_option maxRecDepth 100000 in
set_option maxHeartbeats 4000000 in
theorem r_X7_feed_36 {X : Nat → Int32} {d : Nat} (hd : 1 ≤ (d + 1)) {n : Nat} : ∀ (m : Nat) (v0 : Nat) (v1 : Int64) (v4 : Int32) (d3 : Int32) (h : Hp) (o : (Int32 × Hp)), f_X7_feed_36 n m v0 v1 v4 h = some o → Run X (d + 1) 70 36 [some (.ref v0), some (.long v1), none, some (.int d3), some (.int v4)] [] h (some (.int o.1), o.2) := by
  intro m
  induction m with
  | zero => intro v0 v1 v4 d3 h o hf; cases hf
  | succ m ih =>
    intro v0 v1 v4 d3 h o hf
    rw [f_X7_feed_36] at hf
    refine rs_iload i_X7_feed_36 rfl ?_
    by_cases c1 : v4 < 0
    · replace hf := (if_pos c1).symm.trans hf
      refine rs_ifT i_X7_feed_38 (ct_lt c1) (tg := 66) (by decide) ?_
      refine rs_aload_n i_X7_feed_66 rfl ?_
      obtain ⟨c2, hf⟩ := ite_some hf
      obtain ⟨a3, e3, hf⟩ := bind_some hf
      refine rs_getR i_X7_feed_67 (by decide) (by decide) c2 e3 ?_
      obtain ⟨c4, hf⟩ := ite_some hf
      refine rs_getI i_X7_feed_70 (by decide) (by decide) c4 ?_
      have hf := Option.some.inj hf
      subst hf
      exact rs_iret i_X7_feed_73 m_X7_feed rfl
    · replace hf := (if_neg c1).symm.trans hf
      refine rs_ifF i_X7_feed_38 (cf_lt c1) ?_
      refine rs_aload_n i_X7_feed_41 rfl ?_
      obtain ⟨c5, hf⟩ := ite_some hf
      obtain ⟨a6, e6, hf⟩ := bind_some hf
      refine rs_getR i_X7_feed_42 (by decide) (by decide) c5 e6 ?_
      refine rs_lload_n i_X7_feed_45 rfl ?_
      refine rs_bipush i_X7_feed_46 (v := 8) (by decide) ?_
      refine rs_iload i_X7_feed_48 rfl ?_
      refine rs_imul i_X7_feed_50 ?_
      refine rs_lushr i_X7_feed_51 ?_
      refine rs_l2i i_X7_feed_52 ?_
      refine rs_sipush i_X7_feed_53 (v := 255) (by decide) ?_
      refine rs_iand i_X7_feed_56 ?_
      obtain ⟨c8, hf⟩ := ite_some hf
      obtain ⟨o7, e7, hf⟩ := bind_some hf
      refine rs_inV i_X7_feed_57 m_X2_add rfl (As := [.int ((Int64.toInt32 ((Int64.toUInt64 v1 >>> ((Int32.toInt64 (8 * v4)).toUInt64 &&& Int64.toUInt64 63)).toInt64)) &&& 255)]) (rest := []) rfl rfl (Nat.le_of_ble_eq_true rfl) c8 (c_X2_add (by omega) e7) (st' := []) rfl ?_
      refine rs_iinc i_X7_feed_60 rfl (v := v4 + (-1)) rfl (Nat.le_of_ble_eq_true rfl) (lv' := [some (.ref v0), some (.long v1), none, some (.int d3), some (.int (v4 + (-1)))]) rfl ?_
      refine rs_goto i_X7_feed_63 (tg := 36) (by decide) ?_
      exact ih _ _ _ _ _ _ hf
def f_X7_feed_0 (n : Nat) (v0 : Nat) (v1 : Int64) (v3 : Int32) (h : Hp) : Option (Int32 × Hp) :=
  (f_X7_within v3 1 8 h).bind fun o1 =>
  if o1.1 ≠ 0 then
    if okO o1.2 v0 7 then
    (gR o1.2 v0 5).bind fun a4 =>
    if okO o1.2 a4 2 then
    if ((gI o1.2 a4 1) + v3) ≤ 160 then
      f_X7_feed_36 n n v0 v1 (v3 - 1) o1.2
    else
      some ((-4), o1.2)
    else none
    else none
  else
    some ((-2), o1.2)
set_option maxRecDepth 100000 in
set_option maxHeartbeats 4000000 in
theorem r_X7_feed_0 {X : Nat → Int32} {d : Nat} (hd : 1 ≤ (d + 1)) {n : Nat} {v0 : Nat} {v1 : Int64} {v3 : Int32} {h : Hp} {o : (Int32 × Hp)} (hf : f_X7_feed_0 n v0 v1 v3 h = some o) : Run X (d + 1) 70 0 [some (.ref v0), some (.long v1), none, some (.int v3), none] [] h (some (.int o.1), o.2) := by
  unfold f_X7_feed_0 at hf
  refine rs_iload_n i_X7_feed_0 rfl ?_
  refine rs_iconst i_X7_feed_1 (v := 1) (by decide) ?_
  refine rs_bipush i_X7_feed_2 (v := 8) (by decide) ?_
  obtain ⟨o1, e1, hf⟩ := bind_some hf
  refine rs_inS i_X7_feed_4 (by decide) m_X7_within rfl (As := [.int v3, .int 1, .int 8]) (rest := []) rfl rfl (Nat.le_of_ble_eq_true rfl) (c_X7_within (by omega) e1) (st' := [.int o1.1]) rfl ?_
  by_cases c2 : o1.1 ≠ 0
  · replace hf := (if_pos c2).symm.trans hf
    refine rs_ifT i_X7_feed_7 (ct_ne c2) (tg := 13) (by decide) ?_
    refine rs_aload_n i_X7_feed_13 rfl ?_
    obtain ⟨c3, hf⟩ := ite_some hf
    obtain ⟨a4, e4, hf⟩ := bind_some hf
    refine rs_getR i_X7_feed_14 (by decide) (by decide) c3 e4 ?_
    obtain ⟨c5, hf⟩ := ite_some hf
    refine rs_getI i_X7_feed_17 (by decide) (by decide) c5 ?_
    refine rs_iload_n i_X7_feed_20 rfl ?_
    refine rs_iadd i_X7_feed_21 ?_
    refine rs_sipush i_X7_feed_22 (v := 160) (by decide) ?_
    by_cases c6 : ((gI o1.2 a4 1) + v3) ≤ 160
    · replace hf := (if_pos c6).symm.trans hf
      refine rs_icT i_X7_feed_25 (ct_le c6) (tg := 31) (by decide) ?_
      refine rs_iload_n i_X7_feed_31 rfl ?_
      refine rs_iconst i_X7_feed_32 (v := 1) (by decide) ?_
      refine rs_isub i_X7_feed_33 ?_
      refine rs_istore i_X7_feed_34 (Nat.le_of_ble_eq_true rfl) (lv' := [some (.ref v0), some (.long v1), none, some (.int v3), some (.int (v3 - 1))]) rfl ?_
      exact r_X7_feed_36 hd _ _ _ _ _ _ _ hf
    · replace hf := (if_neg c6).symm.trans hf
      refine rs_icF i_X7_feed_25 (cf_le c6) ?_
      refine rs_bipush i_X7_feed_28 (v := (-4)) (by decide) ?_
      have hf := Option.some.inj hf
      subst hf
      exact rs_iret i_X7_feed_30 m_X7_feed rfl
  · replace hf := (if_neg c2).symm.trans hf
    refine rs_ifF i_X7_feed_7 (cf_ne c2) ?_
    refine rs_bipush i_X7_feed_10 (v := (-2)) (by decide) ?_
    have hf := Option.some.inj hf
    subst hf
    exact rs_iret i_X7_feed_12 m_X7_feed rfl
def f_X7_feed (n : Nat) (v0 : Nat) (v1 : Int64) (v3 : Int32) (h : Hp) : Option (Int32 × Hp) := f_X7_feed_0 n v0 v1 v3 h
theorem c_X7_feed {X : Nat → Int32} {d : Nat} (hd : 1 ≤ d) {n : Nat} {v0 : Nat} {v1 : Int64} {v3 : Int32} {h : Hp} {o : (Int32 × Hp)} (hf : f_X7_feed n v0 v1 v3 h = some o) : Calls X d 70 [.ref v0, .long v1, .int v3] h (some (.int o.1), o.2) := by
  obtain ⟨d, rfl⟩ : ∃ z, d = z + 1 := ⟨d - 1, by omega⟩
  exact ⟨_, rfl, r_X7_feed_0 hd hf⟩
theorem i_X7_text_0 : fetch 71 0 = some (.aload_n 0, 1, 0, 0, 0, 0) := by decide +kernel
theorem i_X7_text_1 : fetch 71 1 = some (.getfield 58, 4, 7, 13, 0, 496) := by decide +kernel
theorem i_X7_text_4 : fetch 71 4 = some (.iconst 0, 5, 0, 0, 0, 0) := by decide +kernel
theorem i_X7_text_5 : fetch 71 5 = some (.iconst 5, 6, 0, 0, 0, 0) := by decide +kernel
theorem i_X7_text_6 : fetch 71 6 = some (.invokestatic 112, 9, 110, 0, 0, 534) := by decide +kernel
theorem i_X7_text_9 : fetch 71 9 = some (.ifCond .ne 6, 12, 0, 0, 0, 0) := by decide +kernel
theorem i_X7_text_12 : fetch 71 12 = some (.bipush (-4), 14, 0, 0, 0, 0) := by decide +kernel
theorem i_X7_text_14 : fetch 71 14 = some (.ireturn, 15, 0, 0, 0, 0) := by decide +kernel
theorem i_X7_text_15 : fetch 71 15 = some (.aload_n 0, 16, 0, 0, 0, 0) := by decide +kernel
theorem i_X7_text_16 : fetch 71 16 = some (.getfield 37, 19, 7, 5, 0, 488) := by decide +kernel
theorem i_X7_text_19 : fetch 71 19 = some (.aload_n 0, 20, 0, 0, 0, 0) := by decide +kernel
theorem i_X7_text_20 : fetch 71 20 = some (.getfield 30, 23, 7, 4, 0, 487) := by decide +kernel
theorem i_X7_text_23 : fetch 71 23 = some (.aload_n 0, 24, 0, 0, 0, 0) := by decide +kernel
theorem i_X7_text_24 : fetch 71 24 = some (.getfield 58, 27, 7, 13, 0, 496) := by decide +kernel
theorem i_X7_text_27 : fetch 71 27 = some (.aaload, 28, 0, 0, 0, 0) := by decide +kernel
theorem i_X7_text_28 : fetch 71 28 = some (.invokevirtual 105, 31, 12, 0, 0, 339) := by decide +kernel
theorem i_X7_text_31 : fetch 71 31 = some (.istore_n 1, 32, 0, 0, 0, 0) := by decide +kernel
theorem i_X7_text_32 : fetch 71 32 = some (.aload_n 0, 33, 0, 0, 0, 0) := by decide +kernel
theorem i_X7_text_33 : fetch 71 33 = some (.getfield 37, 36, 7, 5, 0, 488) := by decide +kernel
theorem i_X7_text_36 : fetch 71 36 = some (.invokevirtual 109, 39, 11, 0, 0, 479) := by decide +kernel
theorem i_X7_text_39 : fetch 71 39 = some (.iload_n 1, 40, 0, 0, 0, 0) := by decide +kernel
theorem i_X7_text_40 : fetch 71 40 = some (.iconst (-1), 41, 0, 0, 0, 0) := by decide +kernel
theorem i_X7_text_41 : fetch 71 41 = some (.if_icmp .eq 8, 44, 0, 0, 0, 0) := by decide +kernel
theorem i_X7_text_44 : fetch 71 44 = some (.bipush (-100), 46, 0, 0, 0, 0) := by decide +kernel
theorem i_X7_text_46 : fetch 71 46 = some (.iload_n 1, 47, 0, 0, 0, 0) := by decide +kernel
theorem i_X7_text_47 : fetch 71 47 = some (.isub, 48, 0, 0, 0, 0) := by decide +kernel
theorem i_X7_text_48 : fetch 71 48 = some (.ireturn, 49, 0, 0, 0, 0) := by decide +kernel
theorem i_X7_text_49 : fetch 71 49 = some (.aload_n 0, 50, 0, 0, 0, 0) := by decide +kernel
theorem i_X7_text_50 : fetch 71 50 = some (.dup, 51, 0, 0, 0, 0) := by decide +kernel
theorem i_X7_text_51 : fetch 71 51 = some (.getfield 58, 54, 7, 13, 0, 496) := by decide +kernel
theorem i_X7_text_54 : fetch 71 54 = some (.iconst 1, 55, 0, 0, 0, 0) := by decide +kernel
theorem i_X7_text_55 : fetch 71 55 = some (.iadd, 56, 0, 0, 0, 0) := by decide +kernel
theorem i_X7_text_56 : fetch 71 56 = some (.putfield 58, 59, 7, 13, 0, 496) := by decide +kernel
theorem i_X7_text_59 : fetch 71 59 = some (.aload_n 0, 60, 0, 0, 0, 0) := by decide +kernel
theorem i_X7_text_60 : fetch 71 60 = some (.getfield 58, 63, 7, 13, 0, 496) := by decide +kernel
theorem i_X7_text_63 : fetch 71 63 = some (.iconst 1, 64, 0, 0, 0, 0) := by decide +kernel
theorem i_X7_text_64 : fetch 71 64 = some (.isub, 65, 0, 0, 0, 0) := by decide +kernel
theorem i_X7_text_65 : fetch 71 65 = some (.ireturn, 66, 0, 0, 0, 0) := by decide +kernel
def f_X7_text_59 (n : Nat) (v0 : Nat) (h : Hp) : Option (Int32 × Hp) :=
  if okO h v0 7 then
  some (((gI h v0 13) - 1), h)
  else none
set_option maxRecDepth 100000 in
set_option maxHeartbeats 4000000 in
theorem r_X7_text_59 {X : Nat → Int32} {d : Nat} (hd : 109 ≤ (d + 1)) {n : Nat} {v0 : Nat} {d1 : Int32} {h : Hp} {o : (Int32 × Hp)} (hf : f_X7_text_59 n v0 h = some o) : Run X (d + 1) 71 59 [some (.ref v0), some (.int d1)] [] h (some (.int o.1), o.2) := by
  unfold f_X7_text_59 at hf
  refine rs_aload_n i_X7_text_59 rfl ?_
  obtain ⟨c1, hf⟩ := ite_some hf
  refine rs_getI i_X7_text_60 (by decide) (by decide) c1 ?_
  refine rs_iconst i_X7_text_63 (v := 1) (by decide) ?_
  refine rs_isub i_X7_text_64 ?_
  have hf := Option.some.inj hf
  subst hf
  exact rs_iret i_X7_text_65 m_X7_text rfl
def f_X7_text_0 (n : Nat) (v0 : Nat) (h : Hp) : Option (Int32 × Hp) :=
  if okO h v0 7 then
  (f_X7_within (gI h v0 13) 0 5 h).bind fun o2 =>
  if o2.1 ≠ 0 then
    if okO o2.2 v0 7 then
    (gR o2.2 v0 5).bind fun a5 =>
    (gR o2.2 v0 4).bind fun a6 =>
    if okR o2.2 a6 (gI o2.2 v0 13) then
    (gR o2.2 a6 (ix (gI o2.2 v0 13))).bind fun a8 =>
    if okO o2.2 a5 2 then
    (f_X2_read n a5 a8 o2.2).bind fun o9 =>
    if okO o9.2 v0 7 then
    (gR o9.2 v0 5).bind fun a12 =>
    if okO o9.2 a12 2 then
    (f_X2_empty a12 o9.2).bind fun o13 =>
    if o9.1 = (-1) then
      if okO o13 v0 7 then
      f_X7_text_59 n v0 (hsi o13 v0 13 ((gI o13 v0 13) + 1))
      else none
    else
      some (((-100) - o9.1), o13)
    else none
    else none
    else none
    else none
    else none
  else
    some ((-4), o2.2)
  else none
set_option maxRecDepth 100000 in
set_option maxHeartbeats 4000000 in
theorem r_X7_text_0 {X : Nat → Int32} {d : Nat} (hd : 109 ≤ (d + 1)) {n : Nat} {v0 : Nat} {h : Hp} {o : (Int32 × Hp)} (hf : f_X7_text_0 n v0 h = some o) : Run X (d + 1) 71 0 [some (.ref v0), none] [] h (some (.int o.1), o.2) := by
  unfold f_X7_text_0 at hf
  refine rs_aload_n i_X7_text_0 rfl ?_
  obtain ⟨c1, hf⟩ := ite_some hf
  refine rs_getI i_X7_text_1 (by decide) (by decide) c1 ?_
  refine rs_iconst i_X7_text_4 (v := 0) (by decide) ?_
  refine rs_iconst i_X7_text_5 (v := 5) (by decide) ?_
  obtain ⟨o2, e2, hf⟩ := bind_some hf
  refine rs_inS i_X7_text_6 (by decide) m_X7_within rfl (As := [.int (gI h v0 13), .int 0, .int 5]) (rest := []) rfl rfl (Nat.le_of_ble_eq_true rfl) (c_X7_within (by omega) e2) (st' := [.int o2.1]) rfl ?_
  by_cases c3 : o2.1 ≠ 0
  · replace hf := (if_pos c3).symm.trans hf
    refine rs_ifT i_X7_text_9 (ct_ne c3) (tg := 15) (by decide) ?_
    refine rs_aload_n i_X7_text_15 rfl ?_
    obtain ⟨c4, hf⟩ := ite_some hf
    obtain ⟨a5, e5, hf⟩ := bind_some hf
    refine rs_getR i_X7_text_16 (by decide) (by decide) c4 e5 ?_
    refine rs_aload_n i_X7_text_19 rfl ?_
    obtain ⟨a6, e6, hf⟩ := bind_some hf
    refine rs_getR i_X7_text_20 (by decide) (by decide) c4 e6 ?_
    refine rs_aload_n i_X7_text_23 rfl ?_
    refine rs_getI i_X7_text_24 (by decide) (by decide) c4 ?_
    obtain ⟨c7, hf⟩ := ite_some hf
    obtain ⟨a8, e8, hf⟩ := bind_some hf
    refine rs_aald i_X7_text_27 c7 e8 ?_
    obtain ⟨c10, hf⟩ := ite_some hf
    obtain ⟨o9, e9, hf⟩ := bind_some hf
    refine rs_inV i_X7_text_28 m_X2_read rfl (As := [.ref a8]) (rest := []) rfl rfl (Nat.le_of_ble_eq_true rfl) c10 (c_X2_read (by omega) e9) (st' := [.int o9.1]) rfl ?_
    refine rs_istore_n i_X7_text_31 (Nat.le_of_ble_eq_true rfl) (lv' := [some (.ref v0), some (.int o9.1)]) rfl ?_
    refine rs_aload_n i_X7_text_32 rfl ?_
    obtain ⟨c11, hf⟩ := ite_some hf
    obtain ⟨a12, e12, hf⟩ := bind_some hf
    refine rs_getR i_X7_text_33 (by decide) (by decide) c11 e12 ?_
    obtain ⟨c14, hf⟩ := ite_some hf
    obtain ⟨o13, e13, hf⟩ := bind_some hf
    refine rs_inV i_X7_text_36 m_X2_empty rfl (As := []) (rest := []) rfl rfl (Nat.le_of_ble_eq_true rfl) c14 (c_X2_empty (by omega) e13) (st' := []) rfl ?_
    refine rs_iload_n i_X7_text_39 rfl ?_
    refine rs_iconst i_X7_text_40 (v := (-1)) (by decide) ?_
    by_cases c15 : o9.1 = (-1)
    · replace hf := (if_pos c15).symm.trans hf
      refine rs_icT i_X7_text_41 (ct_eq c15) (tg := 49) (by decide) ?_
      refine rs_aload_n i_X7_text_49 rfl ?_
      refine rs_dup i_X7_text_50 rfl ?_
      obtain ⟨c16, hf⟩ := ite_some hf
      refine rs_getI i_X7_text_51 (by decide) (by decide) c16 ?_
      refine rs_iconst i_X7_text_54 (v := 1) (by decide) ?_
      refine rs_iadd i_X7_text_55 ?_
      refine rs_putI i_X7_text_56 (by decide) c16 ?_
      exact r_X7_text_59 hd hf
    · replace hf := (if_neg c15).symm.trans hf
      refine rs_icF i_X7_text_41 (cf_eq c15) ?_
      refine rs_bipush i_X7_text_44 (v := (-100)) (by decide) ?_
      refine rs_iload_n i_X7_text_46 rfl ?_
      refine rs_isub i_X7_text_47 ?_
      have hf := Option.some.inj hf
      subst hf
      exact rs_iret i_X7_text_48 m_X7_text rfl
  · replace hf := (if_neg c3).symm.trans hf
    refine rs_ifF i_X7_text_9 (cf_ne c3) ?_
    refine rs_bipush i_X7_text_12 (v := (-4)) (by decide) ?_
    have hf := Option.some.inj hf
    subst hf
    exact rs_iret i_X7_text_14 m_X7_text rfl
def f_X7_text (n : Nat) (v0 : Nat) (h : Hp) : Option (Int32 × Hp) := f_X7_text_0 n v0 h
theorem c_X7_text {X : Nat → Int32} {d : Nat} (hd : 109 ≤ d) {n : Nat} {v0 : Nat} {h : Hp} {o : (Int32 × Hp)} (hf : f_X7_text n v0 h = some o) : Calls X d 71 [.ref v0] h (some (.int o.1), o.2) := by
  obtain ⟨d, rfl⟩ : ∃ z, d = z + 1 := ⟨d - 1, by omega⟩
  exact ⟨_, rfl, r_X7_text_0 hd hf⟩
theorem i_X7_force_0 : fetch 72 0 = some (.iload_n 1, 1, 0, 0, 0, 0) := by decide +kernel
theorem i_X7_force_1 : fetch 72 1 = some (.iconst 0, 2, 0, 0, 0, 0) := by decide +kernel
theorem i_X7_force_2 : fetch 72 2 = some (.aload_n 0, 3, 0, 0, 0, 0) := by decide +kernel
theorem i_X7_force_3 : fetch 72 3 = some (.getfield 58, 6, 7, 13, 0, 496) := by decide +kernel
theorem i_X7_force_6 : fetch 72 6 = some (.iconst 1, 7, 0, 0, 0, 0) := by decide +kernel
theorem i_X7_force_7 : fetch 72 7 = some (.isub, 8, 0, 0, 0, 0) := by decide +kernel
theorem i_X7_force_8 : fetch 72 8 = some (.invokestatic 112, 11, 110, 0, 0, 534) := by decide +kernel
theorem i_X7_force_11 : fetch 72 11 = some (.ifCond .ne 6, 14, 0, 0, 0, 0) := by decide +kernel
theorem i_X7_force_14 : fetch 72 14 = some (.bipush (-2), 16, 0, 0, 0, 0) := by decide +kernel
theorem i_X7_force_16 : fetch 72 16 = some (.ireturn, 17, 0, 0, 0, 0) := by decide +kernel
theorem i_X7_force_17 : fetch 72 17 = some (.aload_n 0, 18, 0, 0, 0, 0) := by decide +kernel
theorem i_X7_force_18 : fetch 72 18 = some (.getfield 10, 21, 7, 0, 0, 483) := by decide +kernel
theorem i_X7_force_21 : fetch 72 21 = some (.getfield 125, 24, 0, 3, 0, 101) := by decide +kernel
theorem i_X7_force_24 : fetch 72 24 = some (.istore_n 2, 25, 0, 0, 0, 0) := by decide +kernel
theorem i_X7_force_25 : fetch 72 25 = some (.aload_n 0, 26, 0, 0, 0, 0) := by decide +kernel
theorem i_X7_force_26 : fetch 72 26 = some (.getfield 10, 29, 7, 0, 0, 483) := by decide +kernel
theorem i_X7_force_29 : fetch 72 29 = some (.iload_n 1, 30, 0, 0, 0, 0) := by decide +kernel
theorem i_X7_force_30 : fetch 72 30 = some (.putfield 125, 33, 0, 3, 0, 101) := by decide +kernel
theorem i_X7_force_33 : fetch 72 33 = some (.iload_n 2, 34, 0, 0, 0, 0) := by decide +kernel
theorem i_X7_force_34 : fetch 72 34 = some (.ireturn, 35, 0, 0, 0, 0) := by decide +kernel
def f_X7_force_0 (v0 : Nat) (v1 : Int32) (h : Hp) : Option (Int32 × Hp) :=
  if okO h v0 7 then
  (f_X7_within v1 0 ((gI h v0 13) - 1) h).bind fun o2 =>
  if o2.1 ≠ 0 then
    if okO o2.2 v0 7 then
    (gR o2.2 v0 0).bind fun a5 =>
    if okO o2.2 a5 0 then
    some ((gI o2.2 a5 3), (hsi o2.2 a5 3 v1))
    else none
    else none
  else
    some ((-2), o2.2)
  else none
set_option maxRecDepth 100000 in
set_option maxHeartbeats 4000000 in
theorem r_X7_force_0 {X : Nat → Int32} {d : Nat} (hd : 1 ≤ (d + 1)) {v0 : Nat} {v1 : Int32} {h : Hp} {o : (Int32 × Hp)} (hf : f_X7_force_0 v0 v1 h = some o) : Run X (d + 1) 72 0 [some (.ref v0), some (.int v1), none] [] h (some (.int o.1), o.2) := by
  unfold f_X7_force_0 at hf
  refine rs_iload_n i_X7_force_0 rfl ?_
  refine rs_iconst i_X7_force_1 (v := 0) (by decide) ?_
  refine rs_aload_n i_X7_force_2 rfl ?_
  obtain ⟨c1, hf⟩ := ite_some hf
  refine rs_getI i_X7_force_3 (by decide) (by decide) c1 ?_
  refine rs_iconst i_X7_force_6 (v := 1) (by decide) ?_
  refine rs_isub i_X7_force_7 ?_
  obtain ⟨o2, e2, hf⟩ := bind_some hf
  refine rs_inS i_X7_force_8 (by decide) m_X7_within rfl (As := [.int v1, .int 0, .int ((gI h v0 13) - 1)]) (rest := []) rfl rfl (Nat.le_of_ble_eq_true rfl) (c_X7_within (by omega) e2) (st' := [.int o2.1]) rfl ?_
  by_cases c3 : o2.1 ≠ 0
  · replace hf := (if_pos c3).symm.trans hf
    refine rs_ifT i_X7_force_11 (ct_ne c3) (tg := 17) (by decide) ?_
    refine rs_aload_n i_X7_force_17 rfl ?_
    obtain ⟨c4, hf⟩ := ite_some hf
    obtain ⟨a5, e5, hf⟩ := bind_some hf
    refine rs_getR i_X7_force_18 (by decide) (by decide) c4 e5 ?_
    obtain ⟨c6, hf⟩ := ite_some hf
    refine rs_getI i_X7_force_21 (by decide) (by decide) c6 ?_
    refine rs_istore_n i_X7_force_24 (Nat.le_of_ble_eq_true rfl) (lv' := [some (.ref v0), some (.int v1), some (.int (gI o2.2 a5 3))]) rfl ?_
    refine rs_aload_n i_X7_force_25 rfl ?_
    refine rs_getR i_X7_force_26 (by decide) (by decide) c4 e5 ?_
    refine rs_iload_n i_X7_force_29 rfl ?_
    refine rs_putI i_X7_force_30 (by decide) c6 ?_
    refine rs_iload_n i_X7_force_33 rfl ?_
    have hf := Option.some.inj hf
    subst hf
    exact rs_iret i_X7_force_34 m_X7_force rfl
  · replace hf := (if_neg c3).symm.trans hf
    refine rs_ifF i_X7_force_11 (cf_ne c3) ?_
    refine rs_bipush i_X7_force_14 (v := (-2)) (by decide) ?_
    have hf := Option.some.inj hf
    subst hf
    exact rs_iret i_X7_force_16 m_X7_force rfl
def f_X7_force (v0 : Nat) (v1 : Int32) (h : Hp) : Option (Int32 × Hp) := f_X7_force_0 v0 v1 h
theorem c_X7_force {X : Nat → Int32} {d : Nat} (hd : 1 ≤ d) {v0 : Nat} {v1 : Int32} {h : Hp} {o : (Int32 × Hp)} (hf : f_X7_force v0 v1 h = some o) : Calls X d 72 [.ref v0, .int v1] h (some (.int o.1), o.2) := by
  obtain ⟨d, rfl⟩ : ∃ z, d = z + 1 := ⟨d - 1, by omega⟩
  exact ⟨_, rfl, r_X7_force_0 hd hf⟩
theorem i_X7_step_0 : fetch 73 0 = some (.iload_n 1, 1, 0, 0, 0, 0) := by decide +kernel
theorem i_X7_step_1 : fetch 73 1 = some (.iconst 0, 2, 0, 0, 0, 0) := by decide +kernel
theorem i_X7_step_2 : fetch 73 2 = some (.iconst 5, 3, 0, 0, 0, 0) := by decide +kernel
theorem i_X7_step_3 : fetch 73 3 = some (.invokestatic 112, 6, 110, 0, 0, 534) := by decide +kernel
theorem i_X7_step_6 : fetch 73 6 = some (.ifCond .eq 23, 9, 0, 0, 0, 0) := by decide +kernel
theorem i_X7_step_9 : fetch 73 9 = some (.iload_n 2, 10, 0, 0, 0, 0) := by decide +kernel
theorem i_X7_step_10 : fetch 73 10 = some (.iconst 0, 11, 0, 0, 0, 0) := by decide +kernel
theorem i_X7_step_11 : fetch 73 11 = some (.bipush 9, 13, 0, 0, 0, 0) := by decide +kernel
theorem i_X7_step_13 : fetch 73 13 = some (.invokestatic 112, 16, 110, 0, 0, 534) := by decide +kernel
theorem i_X7_step_16 : fetch 73 16 = some (.ifCond .eq 13, 19, 0, 0, 0, 0) := by decide +kernel
theorem i_X7_step_19 : fetch 73 19 = some (.iload_n 3, 20, 0, 0, 0, 0) := by decide +kernel
theorem i_X7_step_20 : fetch 73 20 = some (.iconst 1, 21, 0, 0, 0, 0) := by decide +kernel
theorem i_X7_step_21 : fetch 73 21 = some (.bipush 9, 23, 0, 0, 0, 0) := by decide +kernel
theorem i_X7_step_23 : fetch 73 23 = some (.invokestatic 112, 26, 110, 0, 0, 534) := by decide +kernel
theorem i_X7_step_26 : fetch 73 26 = some (.ifCond .ne 6, 29, 0, 0, 0, 0) := by decide +kernel
theorem i_X7_step_29 : fetch 73 29 = some (.bipush (-2), 31, 0, 0, 0, 0) := by decide +kernel
theorem i_X7_step_31 : fetch 73 31 = some (.ireturn, 32, 0, 0, 0, 0) := by decide +kernel
theorem i_X7_step_32 : fetch 73 32 = some (.aload_n 0, 33, 0, 0, 0, 0) := by decide +kernel
theorem i_X7_step_33 : fetch 73 33 = some (.getfield 54, 36, 7, 12, 0, 495) := by decide +kernel
theorem i_X7_step_36 : fetch 73 36 = some (.iconst 0, 37, 0, 0, 0, 0) := by decide +kernel
theorem i_X7_step_37 : fetch 73 37 = some (.bipush 11, 39, 0, 0, 0, 0) := by decide +kernel
theorem i_X7_step_39 : fetch 73 39 = some (.invokestatic 112, 42, 110, 0, 0, 534) := by decide +kernel
theorem i_X7_step_42 : fetch 73 42 = some (.ifCond .ne 6, 45, 0, 0, 0, 0) := by decide +kernel
theorem i_X7_step_45 : fetch 73 45 = some (.bipush (-4), 47, 0, 0, 0, 0) := by decide +kernel
theorem i_X7_step_47 : fetch 73 47 = some (.ireturn, 48, 0, 0, 0, 0) := by decide +kernel
theorem i_X7_step_48 : fetch 73 48 = some (.aload_n 0, 49, 0, 0, 0, 0) := by decide +kernel
theorem i_X7_step_49 : fetch 73 49 = some (.getfield 24, 52, 7, 3, 0, 486) := by decide +kernel
theorem i_X7_step_52 : fetch 73 52 = some (.aload_n 0, 53, 0, 0, 0, 0) := by decide +kernel
theorem i_X7_step_53 : fetch 73 53 = some (.getfield 54, 56, 7, 12, 0, 495) := by decide +kernel
theorem i_X7_step_56 : fetch 73 56 = some (.aaload, 57, 0, 0, 0, 0) := by decide +kernel
theorem i_X7_step_57 : fetch 73 57 = some (.iload_n 1, 58, 0, 0, 0, 0) := by decide +kernel
theorem i_X7_step_58 : fetch 73 58 = some (.iload_n 2, 59, 0, 0, 0, 0) := by decide +kernel
theorem i_X7_step_59 : fetch 73 59 = some (.iload_n 3, 60, 0, 0, 0, 0) := by decide +kernel
theorem i_X7_step_60 : fetch 73 60 = some (.invokevirtual 131, 63, 55, 0, 0, 560) := by decide +kernel
theorem i_X7_step_63 : fetch 73 63 = some (.aload_n 0, 64, 0, 0, 0, 0) := by decide +kernel
theorem i_X7_step_64 : fetch 73 64 = some (.dup, 65, 0, 0, 0, 0) := by decide +kernel
theorem i_X7_step_65 : fetch 73 65 = some (.getfield 54, 68, 7, 12, 0, 495) := by decide +kernel
theorem i_X7_step_68 : fetch 73 68 = some (.iconst 1, 69, 0, 0, 0, 0) := by decide +kernel
theorem i_X7_step_69 : fetch 73 69 = some (.iadd, 70, 0, 0, 0, 0) := by decide +kernel
theorem i_X7_step_70 : fetch 73 70 = some (.putfield 54, 73, 7, 12, 0, 495) := by decide +kernel
theorem i_X7_step_73 : fetch 73 73 = some (.aload_n 0, 74, 0, 0, 0, 0) := by decide +kernel
theorem i_X7_step_74 : fetch 73 74 = some (.getfield 54, 77, 7, 12, 0, 495) := by decide +kernel
theorem i_X7_step_77 : fetch 73 77 = some (.iconst 1, 78, 0, 0, 0, 0) := by decide +kernel
theorem i_X7_step_78 : fetch 73 78 = some (.isub, 79, 0, 0, 0, 0) := by decide +kernel
theorem i_X7_step_79 : fetch 73 79 = some (.ireturn, 80, 0, 0, 0, 0) := by decide +kernel
def f_X7_step_73 (v0 : Nat) (h : Hp) : Option (Int32 × Hp) :=
  if okO h v0 7 then
  some (((gI h v0 12) - 1), h)
  else none
set_option maxRecDepth 100000 in
set_option maxHeartbeats 4000000 in
theorem r_X7_step_73 {X : Nat → Int32} {d : Nat} (hd : 1 ≤ (d + 1)) {v0 : Nat} {d1 : Int32} {d2 : Int32} {d3 : Int32} {h : Hp} {o : (Int32 × Hp)} (hf : f_X7_step_73 v0 h = some o) : Run X (d + 1) 73 73 [some (.ref v0), some (.int d1), some (.int d2), some (.int d3)] [] h (some (.int o.1), o.2) := by
  unfold f_X7_step_73 at hf
  refine rs_aload_n i_X7_step_73 rfl ?_
  obtain ⟨c1, hf⟩ := ite_some hf
  refine rs_getI i_X7_step_74 (by decide) (by decide) c1 ?_
  refine rs_iconst i_X7_step_77 (v := 1) (by decide) ?_
  refine rs_isub i_X7_step_78 ?_
  have hf := Option.some.inj hf
  subst hf
  exact rs_iret i_X7_step_79 m_X7_step rfl
def f_X7_step_0 (v0 : Nat) (v1 : Int32) (v2 : Int32) (v3 : Int32) (h : Hp) : Option (Int32 × Hp) :=
  (f_X7_within v1 0 5 h).bind fun o1 =>
  if o1.1 = 0 then
    some ((-2), o1.2)
  else
    (f_X7_within v2 0 9 o1.2).bind fun o3 =>
    if o3.1 = 0 then
      some ((-2), o3.2)
    else
      (f_X7_within v3 1 9 o3.2).bind fun o5 =>
      if o5.1 ≠ 0 then
        if okO o5.2 v0 7 then
        (f_X7_within (gI o5.2 v0 12) 0 11 o5.2).bind fun o8 =>
        if o8.1 ≠ 0 then
          if okO o8.2 v0 7 then
          (gR o8.2 v0 3).bind fun a11 =>
          if okR o8.2 a11 (gI o8.2 v0 12) then
          (gR o8.2 a11 (ix (gI o8.2 v0 12))).bind fun a13 =>
          if okO o8.2 a13 5 then
          (f_X5_become a13 v1 v2 v3 o8.2).bind fun o14 =>
          if okO o14 v0 7 then
          f_X7_step_73 v0 (hsi o14 v0 12 ((gI o14 v0 12) + 1))
          else none
          else none
          else none
          else none
        else
          some ((-4), o8.2)
        else none
      else
        some ((-2), o5.2)
set_option maxRecDepth 100000 in
set_option maxHeartbeats 4000000 in
theorem r_X7_step_0 {X : Nat → Int32} {d : Nat} (hd : 1 ≤ (d + 1)) {v0 : Nat} {v1 : Int32} {v2 : Int32} {v3 : Int32} {h : Hp} {o : (Int32 × Hp)} (hf : f_X7_step_0 v0 v1 v2 v3 h = some o) : Run X (d + 1) 73 0 [some (.ref v0), some (.int v1), some (.int v2), some (.int v3)] [] h (some (.int o.1), o.2) := by
  unfold f_X7_step_0 at hf
  refine rs_iload_n i_X7_step_0 rfl ?_
  refine rs_iconst i_X7_step_1 (v := 0) (by decide) ?_
  refine rs_iconst i_X7_step_2 (v := 5) (by decide) ?_
  obtain ⟨o1, e1, hf⟩ := bind_some hf
  refine rs_inS i_X7_step_3 (by decide) m_X7_within rfl (As := [.int v1, .int 0, .int 5]) (rest := []) rfl rfl (Nat.le_of_ble_eq_true rfl) (c_X7_within (by omega) e1) (st' := [.int o1.1]) rfl ?_
  by_cases c2 : o1.1 = 0
  · replace hf := (if_pos c2).symm.trans hf
    refine rs_ifT i_X7_step_6 (ct_eq c2) (tg := 29) (by decide) ?_
    refine rs_bipush i_X7_step_29 (v := (-2)) (by decide) ?_
    have hf := Option.some.inj hf
    subst hf
    exact rs_iret i_X7_step_31 m_X7_step rfl
  · replace hf := (if_neg c2).symm.trans hf
    refine rs_ifF i_X7_step_6 (cf_eq c2) ?_
    refine rs_iload_n i_X7_step_9 rfl ?_
    refine rs_iconst i_X7_step_10 (v := 0) (by decide) ?_
    refine rs_bipush i_X7_step_11 (v := 9) (by decide) ?_
    obtain ⟨o3, e3, hf⟩ := bind_some hf
    refine rs_inS i_X7_step_13 (by decide) m_X7_within rfl (As := [.int v2, .int 0, .int 9]) (rest := []) rfl rfl (Nat.le_of_ble_eq_true rfl) (c_X7_within (by omega) e3) (st' := [.int o3.1]) rfl ?_
    by_cases c4 : o3.1 = 0
    · replace hf := (if_pos c4).symm.trans hf
      refine rs_ifT i_X7_step_16 (ct_eq c4) (tg := 29) (by decide) ?_
      refine rs_bipush i_X7_step_29 (v := (-2)) (by decide) ?_
      have hf := Option.some.inj hf
      subst hf
      exact rs_iret i_X7_step_31 m_X7_step rfl
    · replace hf := (if_neg c4).symm.trans hf
      refine rs_ifF i_X7_step_16 (cf_eq c4) ?_
      refine rs_iload_n i_X7_step_19 rfl ?_
      refine rs_iconst i_X7_step_20 (v := 1) (by decide) ?_
      refine rs_bipush i_X7_step_21 (v := 9) (by decide) ?_
      obtain ⟨o5, e5, hf⟩ := bind_some hf
      refine rs_inS i_X7_step_23 (by decide) m_X7_within rfl (As := [.int v3, .int 1, .int 9]) (rest := []) rfl rfl (Nat.le_of_ble_eq_true rfl) (c_X7_within (by omega) e5) (st' := [.int o5.1]) rfl ?_
      by_cases c6 : o5.1 ≠ 0
      · replace hf := (if_pos c6).symm.trans hf
        refine rs_ifT i_X7_step_26 (ct_ne c6) (tg := 32) (by decide) ?_
        refine rs_aload_n i_X7_step_32 rfl ?_
        obtain ⟨c7, hf⟩ := ite_some hf
        refine rs_getI i_X7_step_33 (by decide) (by decide) c7 ?_
        refine rs_iconst i_X7_step_36 (v := 0) (by decide) ?_
        refine rs_bipush i_X7_step_37 (v := 11) (by decide) ?_
        obtain ⟨o8, e8, hf⟩ := bind_some hf
        refine rs_inS i_X7_step_39 (by decide) m_X7_within rfl (As := [.int (gI o5.2 v0 12), .int 0, .int 11]) (rest := []) rfl rfl (Nat.le_of_ble_eq_true rfl) (c_X7_within (by omega) e8) (st' := [.int o8.1]) rfl ?_
        by_cases c9 : o8.1 ≠ 0
        · replace hf := (if_pos c9).symm.trans hf
          refine rs_ifT i_X7_step_42 (ct_ne c9) (tg := 48) (by decide) ?_
          refine rs_aload_n i_X7_step_48 rfl ?_
          obtain ⟨c10, hf⟩ := ite_some hf
          obtain ⟨a11, e11, hf⟩ := bind_some hf
          refine rs_getR i_X7_step_49 (by decide) (by decide) c10 e11 ?_
          refine rs_aload_n i_X7_step_52 rfl ?_
          refine rs_getI i_X7_step_53 (by decide) (by decide) c10 ?_
          obtain ⟨c12, hf⟩ := ite_some hf
          obtain ⟨a13, e13, hf⟩ := bind_some hf
          refine rs_aald i_X7_step_56 c12 e13 ?_
          refine rs_iload_n i_X7_step_57 rfl ?_
          refine rs_iload_n i_X7_step_58 rfl ?_
          refine rs_iload_n i_X7_step_59 rfl ?_
          obtain ⟨c15, hf⟩ := ite_some hf
          obtain ⟨o14, e14, hf⟩ := bind_some hf
          refine rs_inV i_X7_step_60 m_X5_become rfl (As := [.int v1, .int v2, .int v3]) (rest := []) rfl rfl (Nat.le_of_ble_eq_true rfl) c15 (c_X5_become (by omega) e14) (st' := []) rfl ?_
          refine rs_aload_n i_X7_step_63 rfl ?_
          refine rs_dup i_X7_step_64 rfl ?_
          obtain ⟨c16, hf⟩ := ite_some hf
          refine rs_getI i_X7_step_65 (by decide) (by decide) c16 ?_
          refine rs_iconst i_X7_step_68 (v := 1) (by decide) ?_
          refine rs_iadd i_X7_step_69 ?_
          refine rs_putI i_X7_step_70 (by decide) c16 ?_
          exact r_X7_step_73 hd hf
        · replace hf := (if_neg c9).symm.trans hf
          refine rs_ifF i_X7_step_42 (cf_ne c9) ?_
          refine rs_bipush i_X7_step_45 (v := (-4)) (by decide) ?_
          have hf := Option.some.inj hf
          subst hf
          exact rs_iret i_X7_step_47 m_X7_step rfl
      · replace hf := (if_neg c6).symm.trans hf
        refine rs_ifF i_X7_step_26 (cf_ne c6) ?_
        refine rs_bipush i_X7_step_29 (v := (-2)) (by decide) ?_
        have hf := Option.some.inj hf
        subst hf
        exact rs_iret i_X7_step_31 m_X7_step rfl
def f_X7_step (v0 : Nat) (v1 : Int32) (v2 : Int32) (v3 : Int32) (h : Hp) : Option (Int32 × Hp) := f_X7_step_0 v0 v1 v2 v3 h
theorem c_X7_step {X : Nat → Int32} {d : Nat} (hd : 1 ≤ d) {v0 : Nat} {v1 : Int32} {v2 : Int32} {v3 : Int32} {h : Hp} {o : (Int32 × Hp)} (hf : f_X7_step v0 v1 v2 v3 h = some o) : Calls X d 73 [.ref v0, .int v1, .int v2, .int v3] h (some (.int o.1), o.2) := by
  obtain ⟨d, rfl⟩ : ∃ z, d = z + 1 := ⟨d - 1, by omega⟩
  exact ⟨_, rfl, r_X7_step_0 hd hf⟩
theorem i_X7_forget_0 : fetch 74 0 = some (.aload_n 0, 1, 0, 0, 0, 0) := by decide +kernel
theorem i_X7_forget_1 : fetch 74 1 = some (.getfield 54, 4, 7, 12, 0, 495) := by decide +kernel
theorem i_X7_forget_4 : fetch 74 4 = some (.iconst 1, 5, 0, 0, 0, 0) := by decide +kernel
theorem i_X7_forget_5 : fetch 74 5 = some (.if_icmp .ge 6, 8, 0, 0, 0, 0) := by decide +kernel
theorem i_X7_forget_8 : fetch 74 8 = some (.bipush (-3), 10, 0, 0, 0, 0) := by decide +kernel
theorem i_X7_forget_10 : fetch 74 10 = some (.ireturn, 11, 0, 0, 0, 0) := by decide +kernel
theorem i_X7_forget_11 : fetch 74 11 = some (.aload_n 0, 12, 0, 0, 0, 0) := by decide +kernel
theorem i_X7_forget_12 : fetch 74 12 = some (.dup, 13, 0, 0, 0, 0) := by decide +kernel
theorem i_X7_forget_13 : fetch 74 13 = some (.getfield 54, 16, 7, 12, 0, 495) := by decide +kernel
theorem i_X7_forget_16 : fetch 74 16 = some (.iconst 1, 17, 0, 0, 0, 0) := by decide +kernel
theorem i_X7_forget_17 : fetch 74 17 = some (.isub, 18, 0, 0, 0, 0) := by decide +kernel
theorem i_X7_forget_18 : fetch 74 18 = some (.putfield 54, 21, 7, 12, 0, 495) := by decide +kernel
theorem i_X7_forget_21 : fetch 74 21 = some (.aload_n 0, 22, 0, 0, 0, 0) := by decide +kernel
theorem i_X7_forget_22 : fetch 74 22 = some (.getfield 54, 25, 7, 12, 0, 495) := by decide +kernel
theorem i_X7_forget_25 : fetch 74 25 = some (.ireturn, 26, 0, 0, 0, 0) := by decide +kernel
def f_X7_forget_21 (v0 : Nat) (h : Hp) : Option (Int32 × Hp) :=
  if okO h v0 7 then
  some ((gI h v0 12), h)
  else none
set_option maxRecDepth 100000 in
set_option maxHeartbeats 4000000 in
theorem r_X7_forget_21 {X : Nat → Int32} {d : Nat} (hd : 0 ≤ d) {v0 : Nat} {h : Hp} {o : (Int32 × Hp)} (hf : f_X7_forget_21 v0 h = some o) : Run X d 74 21 [some (.ref v0)] [] h (some (.int o.1), o.2) := by
  unfold f_X7_forget_21 at hf
  refine rs_aload_n i_X7_forget_21 rfl ?_
  obtain ⟨c1, hf⟩ := ite_some hf
  refine rs_getI i_X7_forget_22 (by decide) (by decide) c1 ?_
  have hf := Option.some.inj hf
  subst hf
  exact rs_iret i_X7_forget_25 m_X7_forget rfl
def f_X7_forget_0 (v0 : Nat) (h : Hp) : Option (Int32 × Hp) :=
  if okO h v0 7 then
  if 1 ≤ (gI h v0 12) then
    f_X7_forget_21 v0 (hsi h v0 12 ((gI h v0 12) - 1))
  else
    some ((-3), h)
  else none
set_option maxRecDepth 100000 in
set_option maxHeartbeats 4000000 in
theorem r_X7_forget_0 {X : Nat → Int32} {d : Nat} (hd : 0 ≤ d) {v0 : Nat} {h : Hp} {o : (Int32 × Hp)} (hf : f_X7_forget_0 v0 h = some o) : Run X d 74 0 [some (.ref v0)] [] h (some (.int o.1), o.2) := by
  unfold f_X7_forget_0 at hf
  refine rs_aload_n i_X7_forget_0 rfl ?_
  obtain ⟨c1, hf⟩ := ite_some hf
  refine rs_getI i_X7_forget_1 (by decide) (by decide) c1 ?_
  refine rs_iconst i_X7_forget_4 (v := 1) (by decide) ?_
  by_cases c2 : 1 ≤ (gI h v0 12)
  · replace hf := (if_pos c2).symm.trans hf
    refine rs_icT i_X7_forget_5 (ct_ge c2) (tg := 11) (by decide) ?_
    refine rs_aload_n i_X7_forget_11 rfl ?_
    refine rs_dup i_X7_forget_12 rfl ?_
    refine rs_getI i_X7_forget_13 (by decide) (by decide) c1 ?_
    refine rs_iconst i_X7_forget_16 (v := 1) (by decide) ?_
    refine rs_isub i_X7_forget_17 ?_
    refine rs_putI i_X7_forget_18 (by decide) c1 ?_
    exact r_X7_forget_21 hd hf
  · replace hf := (if_neg c2).symm.trans hf
    refine rs_icF i_X7_forget_5 (cf_ge c2) ?_
    refine rs_bipush i_X7_forget_8 (v := (-3)) (by decide) ?_
    have hf := Option.some.inj hf
    subst hf
    exact rs_iret i_X7_forget_10 m_X7_forget rfl
def f_X7_forget (v0 : Nat) (h : Hp) : Option (Int32 × Hp) := f_X7_forget_0 v0 h
theorem c_X7_forget {X : Nat → Int32} {d : Nat} (hd : 0 ≤ d) {v0 : Nat} {h : Hp} {o : (Int32 × Hp)} (hf : f_X7_forget v0 h = some o) : Calls X d 74 [.ref v0] h (some (.int o.1), o.2) := by
  exact ⟨_, rfl, r_X7_forget_0 hd hf⟩
theorem i_X7_isStep_0 : fetch 112 0 = some (.iload_n 1, 1, 0, 0, 0, 0) := by decide +kernel
theorem i_X7_isStep_1 : fetch 112 1 = some (.iconst 0, 2, 0, 0, 0, 0) := by decide +kernel
theorem i_X7_isStep_2 : fetch 112 2 = some (.aload_n 0, 3, 0, 0, 0, 0) := by decide +kernel
theorem i_X7_isStep_3 : fetch 112 3 = some (.getfield 54, 6, 7, 12, 0, 495) := by decide +kernel
theorem i_X7_isStep_6 : fetch 112 6 = some (.iconst 1, 7, 0, 0, 0, 0) := by decide +kernel
theorem i_X7_isStep_7 : fetch 112 7 = some (.isub, 8, 0, 0, 0, 0) := by decide +kernel
theorem i_X7_isStep_8 : fetch 112 8 = some (.invokestatic 112, 11, 110, 0, 0, 534) := by decide +kernel
theorem i_X7_isStep_11 : fetch 112 11 = some (.ifCond .eq 13, 14, 0, 0, 0, 0) := by decide +kernel
theorem i_X7_isStep_14 : fetch 112 14 = some (.iload_n 1, 15, 0, 0, 0, 0) := by decide +kernel
theorem i_X7_isStep_15 : fetch 112 15 = some (.bipush 12, 17, 0, 0, 0, 0) := by decide +kernel
theorem i_X7_isStep_17 : fetch 112 17 = some (.if_icmp .ge 7, 20, 0, 0, 0, 0) := by decide +kernel
theorem i_X7_isStep_20 : fetch 112 20 = some (.iconst 1, 21, 0, 0, 0, 0) := by decide +kernel
theorem i_X7_isStep_21 : fetch 112 21 = some (.goto 4, 24, 0, 0, 0, 0) := by decide +kernel
theorem i_X7_isStep_24 : fetch 112 24 = some (.iconst 0, 25, 0, 0, 0, 0) := by decide +kernel
theorem i_X7_isStep_25 : fetch 112 25 = some (.ireturn, 26, 0, 0, 0, 0) := by decide +kernel
def f_X7_isStep_0 (v0 : Nat) (v1 : Int32) (h : Hp) : Option (Int32 × Hp) :=
  if okO h v0 7 then
  (f_X7_within v1 0 ((gI h v0 12) - 1) h).bind fun o2 =>
  if o2.1 = 0 then
    some (0, o2.2)
  else
    if 12 ≤ v1 then
      some (0, o2.2)
    else
      some (1, o2.2)
  else none
set_option maxRecDepth 100000 in
set_option maxHeartbeats 4000000 in
theorem r_X7_isStep_0 {X : Nat → Int32} {d : Nat} (hd : 1 ≤ (d + 1)) {v0 : Nat} {v1 : Int32} {h : Hp} {o : (Int32 × Hp)} (hf : f_X7_isStep_0 v0 v1 h = some o) : Run X (d + 1) 112 0 [some (.ref v0), some (.int v1)] [] h (some (.int o.1), o.2) := by
  unfold f_X7_isStep_0 at hf
  refine rs_iload_n i_X7_isStep_0 rfl ?_
  refine rs_iconst i_X7_isStep_1 (v := 0) (by decide) ?_
  refine rs_aload_n i_X7_isStep_2 rfl ?_
  obtain ⟨c1, hf⟩ := ite_some hf
  refine rs_getI i_X7_isStep_3 (by decide) (by decide) c1 ?_
  refine rs_iconst i_X7_isStep_6 (v := 1) (by decide) ?_
  refine rs_isub i_X7_isStep_7 ?_
  obtain ⟨o2, e2, hf⟩ := bind_some hf
  refine rs_inS i_X7_isStep_8 (by decide) m_X7_within rfl (As := [.int v1, .int 0, .int ((gI h v0 12) - 1)]) (rest := []) rfl rfl (Nat.le_of_ble_eq_true rfl) (c_X7_within (by omega) e2) (st' := [.int o2.1]) rfl ?_
  by_cases c3 : o2.1 = 0
  · replace hf := (if_pos c3).symm.trans hf
    refine rs_ifT i_X7_isStep_11 (ct_eq c3) (tg := 24) (by decide) ?_
    refine rs_iconst i_X7_isStep_24 (v := 0) (by decide) ?_
    have hf := Option.some.inj hf
    subst hf
    exact rs_iret i_X7_isStep_25 m_X7_isStep (by decide)
  · replace hf := (if_neg c3).symm.trans hf
    refine rs_ifF i_X7_isStep_11 (cf_eq c3) ?_
    refine rs_iload_n i_X7_isStep_14 rfl ?_
    refine rs_bipush i_X7_isStep_15 (v := 12) (by decide) ?_
    by_cases c4 : 12 ≤ v1
    · replace hf := (if_pos c4).symm.trans hf
      refine rs_icT i_X7_isStep_17 (ct_ge c4) (tg := 24) (by decide) ?_
      refine rs_iconst i_X7_isStep_24 (v := 0) (by decide) ?_
      have hf := Option.some.inj hf
      subst hf
      exact rs_iret i_X7_isStep_25 m_X7_isStep (by decide)
    · replace hf := (if_neg c4).symm.trans hf
      refine rs_icF i_X7_isStep_17 (cf_ge c4) ?_
      refine rs_iconst i_X7_isStep_20 (v := 1) (by decide) ?_
      refine rs_goto i_X7_isStep_21 (tg := 25) (by decide) ?_
      have hf := Option.some.inj hf
      subst hf
      exact rs_iret i_X7_isStep_25 m_X7_isStep (by decide)
def f_X7_isStep (v0 : Nat) (v1 : Int32) (h : Hp) : Option (Int32 × Hp) := f_X7_isStep_0 v0 v1 h
theorem c_X7_isStep {X : Nat → Int32} {d : Nat} (hd : 1 ≤ d) {v0 : Nat} {v1 : Int32} {h : Hp} {o : (Int32 × Hp)} (hf : f_X7_isStep v0 v1 h = some o) : Calls X d 112 [.ref v0, .int v1] h (some (.int o.1), o.2) := by
  obtain ⟨d, rfl⟩ : ∃ z, d = z + 1 := ⟨d - 1, by omega⟩
  exact ⟨_, rfl, r_X7_isStep_0 hd hf⟩
theorem i_X7_stepTold_0 : fetch 75 0 = some (.aload_n 0, 1, 0, 0, 0, 0) := by decide +kernel
theorem i_X7_stepTold_1 : fetch 75 1 = some (.iload_n 1, 2, 0, 0, 0, 0) := by decide +kernel
theorem i_X7_stepTold_2 : fetch 75 2 = some (.invokevirtual 135, 5, 112, 0, 0, 572) := by decide +kernel
theorem i_X7_stepTold_5 : fetch 75 5 = some (.ifCond .ne 6, 8, 0, 0, 0, 0) := by decide +kernel
theorem i_X7_stepTold_8 : fetch 75 8 = some (.bipush (-5), 10, 0, 0, 0, 0) := by decide +kernel
theorem i_X7_stepTold_10 : fetch 75 10 = some (.ireturn, 11, 0, 0, 0, 0) := by decide +kernel
theorem i_X7_stepTold_11 : fetch 75 11 = some (.iload_n 2, 12, 0, 0, 0, 0) := by decide +kernel
theorem i_X7_stepTold_12 : fetch 75 12 = some (.tableswitch 72 0 3 #[32, 42, 52, 62], 44, 0, 0, 0, 0) := by decide +kernel
theorem i_X7_stepTold_44 : fetch 75 44 = some (.aload_n 0, 45, 0, 0, 0, 0) := by decide +kernel
theorem i_X7_stepTold_45 : fetch 75 45 = some (.getfield 24, 48, 7, 3, 0, 486) := by decide +kernel
theorem i_X7_stepTold_48 : fetch 75 48 = some (.iload_n 1, 49, 0, 0, 0, 0) := by decide +kernel
theorem i_X7_stepTold_49 : fetch 75 49 = some (.aaload, 50, 0, 0, 0, 0) := by decide +kernel
theorem i_X7_stepTold_50 : fetch 75 50 = some (.getfield 139, 53, 5, 0, 0, 151) := by decide +kernel
theorem i_X7_stepTold_53 : fetch 75 53 = some (.ireturn, 54, 0, 0, 0, 0) := by decide +kernel
theorem i_X7_stepTold_54 : fetch 75 54 = some (.aload_n 0, 55, 0, 0, 0, 0) := by decide +kernel
theorem i_X7_stepTold_55 : fetch 75 55 = some (.getfield 24, 58, 7, 3, 0, 486) := by decide +kernel
theorem i_X7_stepTold_58 : fetch 75 58 = some (.iload_n 1, 59, 0, 0, 0, 0) := by decide +kernel
theorem i_X7_stepTold_59 : fetch 75 59 = some (.aaload, 60, 0, 0, 0, 0) := by decide +kernel
theorem i_X7_stepTold_60 : fetch 75 60 = some (.getfield 142, 63, 5, 1, 0, 154) := by decide +kernel
theorem i_X7_stepTold_63 : fetch 75 63 = some (.ireturn, 64, 0, 0, 0, 0) := by decide +kernel
theorem i_X7_stepTold_64 : fetch 75 64 = some (.aload_n 0, 65, 0, 0, 0, 0) := by decide +kernel
theorem i_X7_stepTold_65 : fetch 75 65 = some (.getfield 24, 68, 7, 3, 0, 486) := by decide +kernel
theorem i_X7_stepTold_68 : fetch 75 68 = some (.iload_n 1, 69, 0, 0, 0, 0) := by decide +kernel
theorem i_X7_stepTold_69 : fetch 75 69 = some (.aaload, 70, 0, 0, 0, 0) := by decide +kernel
theorem i_X7_stepTold_70 : fetch 75 70 = some (.getfield 145, 73, 5, 2, 0, 157) := by decide +kernel
theorem i_X7_stepTold_73 : fetch 75 73 = some (.ireturn, 74, 0, 0, 0, 0) := by decide +kernel
theorem i_X7_stepTold_74 : fetch 75 74 = some (.aload_n 0, 75, 0, 0, 0, 0) := by decide +kernel
theorem i_X7_stepTold_75 : fetch 75 75 = some (.getfield 24, 78, 7, 3, 0, 486) := by decide +kernel
theorem i_X7_stepTold_78 : fetch 75 78 = some (.iload_n 1, 79, 0, 0, 0, 0) := by decide +kernel
theorem i_X7_stepTold_79 : fetch 75 79 = some (.aaload, 80, 0, 0, 0, 0) := by decide +kernel
theorem i_X7_stepTold_80 : fetch 75 80 = some (.invokevirtual 148, 83, 56, 0, 0, 576) := by decide +kernel
theorem i_X7_stepTold_83 : fetch 75 83 = some (.ireturn, 84, 0, 0, 0, 0) := by decide +kernel
theorem i_X7_stepTold_84 : fetch 75 84 = some (.bipush (-7), 86, 0, 0, 0, 0) := by decide +kernel
theorem i_X7_stepTold_86 : fetch 75 86 = some (.ireturn, 87, 0, 0, 0, 0) := by decide +kernel
def f_X7_stepTold_0 (v0 : Nat) (v1 : Int32) (v2 : Int32) (h : Hp) : Option (Int32 × Hp) :=
  if okO h v0 7 then
  (f_X7_isStep v0 v1 h).bind fun o1 =>
  if o1.1 ≠ 0 then
    if v2 = 0 then
      if okO o1.2 v0 7 then
      (gR o1.2 v0 3).bind fun a25 =>
      if okR o1.2 a25 v1 then
      (gR o1.2 a25 (ix v1)).bind fun a27 =>
      if okO o1.2 a27 5 then
      some ((gI o1.2 a27 0), o1.2)
      else none
      else none
      else none
    else
      if v2 = 1 then
        if okO o1.2 v0 7 then
        (gR o1.2 v0 3).bind fun a20 =>
        if okR o1.2 a20 v1 then
        (gR o1.2 a20 (ix v1)).bind fun a22 =>
        if okO o1.2 a22 5 then
        some ((gI o1.2 a22 1), o1.2)
        else none
        else none
        else none
      else
        if v2 = 2 then
          if okO o1.2 v0 7 then
          (gR o1.2 v0 3).bind fun a15 =>
          if okR o1.2 a15 v1 then
          (gR o1.2 a15 (ix v1)).bind fun a17 =>
          if okO o1.2 a17 5 then
          some ((gI o1.2 a17 2), o1.2)
          else none
          else none
          else none
        else
          if v2 = 3 then
            if okO o1.2 v0 7 then
            (gR o1.2 v0 3).bind fun a9 =>
            if okR o1.2 a9 v1 then
            (gR o1.2 a9 (ix v1)).bind fun a11 =>
            if okO o1.2 a11 5 then
            (f_X5_takes a11 o1.2).bind fun o12 =>
            some (o12.1, o12.2)
            else none
            else none
            else none
          else
            some ((-7), o1.2)
  else
    some ((-5), o1.2)
  else none
set_option maxRecDepth 100000 in
set_option maxHeartbeats 4000000 in
theorem r_X7_stepTold_0 {X : Nat → Int32} {d : Nat} (hd : 2 ≤ (d + 1)) {v0 : Nat} {v1 : Int32} {v2 : Int32} {h : Hp} {o : (Int32 × Hp)} (hf : f_X7_stepTold_0 v0 v1 v2 h = some o) : Run X (d + 1) 75 0 [some (.ref v0), some (.int v1), some (.int v2)] [] h (some (.int o.1), o.2) := by
  unfold f_X7_stepTold_0 at hf
  refine rs_aload_n i_X7_stepTold_0 rfl ?_
  refine rs_iload_n i_X7_stepTold_1 rfl ?_
  obtain ⟨c2, hf⟩ := ite_some hf
  obtain ⟨o1, e1, hf⟩ := bind_some hf
  refine rs_inV i_X7_stepTold_2 m_X7_isStep rfl (As := [.int v1]) (rest := []) rfl rfl (Nat.le_of_ble_eq_true rfl) c2 (c_X7_isStep (by omega) e1) (st' := [.int o1.1]) rfl ?_
  by_cases c3 : o1.1 ≠ 0
  · replace hf := (if_pos c3).symm.trans hf
    refine rs_ifT i_X7_stepTold_5 (ct_ne c3) (tg := 11) (by decide) ?_
    refine rs_iload_n i_X7_stepTold_11 rfl ?_
    by_cases c4 : v2 = 0
    · replace hf := (if_pos c4).symm.trans hf
      refine rs_tsw i_X7_stepTold_12 (off := 32) (by rw [c4]; decide) (tg := 44) (by decide) ?_
      refine rs_aload_n i_X7_stepTold_44 rfl ?_
      obtain ⟨c24, hf⟩ := ite_some hf
      obtain ⟨a25, e25, hf⟩ := bind_some hf
      refine rs_getR i_X7_stepTold_45 (by decide) (by decide) c24 e25 ?_
      refine rs_iload_n i_X7_stepTold_48 rfl ?_
      obtain ⟨c26, hf⟩ := ite_some hf
      obtain ⟨a27, e27, hf⟩ := bind_some hf
      refine rs_aald i_X7_stepTold_49 c26 e27 ?_
      obtain ⟨c28, hf⟩ := ite_some hf
      refine rs_getI i_X7_stepTold_50 (by decide) (by decide) c28 ?_
      have hf := Option.some.inj hf
      subst hf
      exact rs_iret i_X7_stepTold_53 m_X7_stepTold rfl
    · replace hf := (if_neg c4).symm.trans hf
      by_cases c5 : v2 = 1
      · replace hf := (if_pos c5).symm.trans hf
        refine rs_tsw i_X7_stepTold_12 (off := 42) (by rw [c5]; decide) (tg := 54) (by decide) ?_
        refine rs_aload_n i_X7_stepTold_54 rfl ?_
        obtain ⟨c19, hf⟩ := ite_some hf
        obtain ⟨a20, e20, hf⟩ := bind_some hf
        refine rs_getR i_X7_stepTold_55 (by decide) (by decide) c19 e20 ?_
        refine rs_iload_n i_X7_stepTold_58 rfl ?_
        obtain ⟨c21, hf⟩ := ite_some hf
        obtain ⟨a22, e22, hf⟩ := bind_some hf
        refine rs_aald i_X7_stepTold_59 c21 e22 ?_
        obtain ⟨c23, hf⟩ := ite_some hf
        refine rs_getI i_X7_stepTold_60 (by decide) (by decide) c23 ?_
        have hf := Option.some.inj hf
        subst hf
        exact rs_iret i_X7_stepTold_63 m_X7_stepTold rfl
      · replace hf := (if_neg c5).symm.trans hf
        by_cases c6 : v2 = 2
        · replace hf := (if_pos c6).symm.trans hf
          refine rs_tsw i_X7_stepTold_12 (off := 52) (by rw [c6]; decide) (tg := 64) (by decide) ?_
          refine rs_aload_n i_X7_stepTold_64 rfl ?_
          obtain ⟨c14, hf⟩ := ite_some hf
          obtain ⟨a15, e15, hf⟩ := bind_some hf
          refine rs_getR i_X7_stepTold_65 (by decide) (by decide) c14 e15 ?_
          refine rs_iload_n i_X7_stepTold_68 rfl ?_
          obtain ⟨c16, hf⟩ := ite_some hf
          obtain ⟨a17, e17, hf⟩ := bind_some hf
          refine rs_aald i_X7_stepTold_69 c16 e17 ?_
          obtain ⟨c18, hf⟩ := ite_some hf
          refine rs_getI i_X7_stepTold_70 (by decide) (by decide) c18 ?_
          have hf := Option.some.inj hf
          subst hf
          exact rs_iret i_X7_stepTold_73 m_X7_stepTold rfl
        · replace hf := (if_neg c6).symm.trans hf
          by_cases c7 : v2 = 3
          · replace hf := (if_pos c7).symm.trans hf
            refine rs_tsw i_X7_stepTold_12 (off := 62) (by rw [c7]; decide) (tg := 74) (by decide) ?_
            refine rs_aload_n i_X7_stepTold_74 rfl ?_
            obtain ⟨c8, hf⟩ := ite_some hf
            obtain ⟨a9, e9, hf⟩ := bind_some hf
            refine rs_getR i_X7_stepTold_75 (by decide) (by decide) c8 e9 ?_
            refine rs_iload_n i_X7_stepTold_78 rfl ?_
            obtain ⟨c10, hf⟩ := ite_some hf
            obtain ⟨a11, e11, hf⟩ := bind_some hf
            refine rs_aald i_X7_stepTold_79 c10 e11 ?_
            obtain ⟨c13, hf⟩ := ite_some hf
            obtain ⟨o12, e12, hf⟩ := bind_some hf
            refine rs_inV i_X7_stepTold_80 m_X5_takes rfl (As := []) (rest := []) rfl rfl (Nat.le_of_ble_eq_true rfl) c13 (c_X5_takes (by omega) e12) (st' := [.int o12.1]) rfl ?_
            have hf := Option.some.inj hf
            subst hf
            exact rs_iret i_X7_stepTold_83 m_X7_stepTold rfl
          · replace hf := (if_neg c7).symm.trans hf
            refine rs_tsw i_X7_stepTold_12 (off := 72) (swt_df (by have z0 := ne_ti c4; rw [show (0 : Int32).toInt = 0 from by decide] at z0; have z1 := ne_ti c5; rw [show (1 : Int32).toInt = 1 from by decide] at z1; have z2 := ne_ti c6; rw [show (2 : Int32).toInt = 2 from by decide] at z2; have z3 := ne_ti c7; rw [show (3 : Int32).toInt = 3 from by decide] at z3; omega)) (tg := 84) (by decide) ?_
            refine rs_bipush i_X7_stepTold_84 (v := (-7)) (by decide) ?_
            have hf := Option.some.inj hf
            subst hf
            exact rs_iret i_X7_stepTold_86 m_X7_stepTold rfl
  · replace hf := (if_neg c3).symm.trans hf
    refine rs_ifF i_X7_stepTold_5 (cf_ne c3) ?_
    refine rs_bipush i_X7_stepTold_8 (v := (-5)) (by decide) ?_
    have hf := Option.some.inj hf
    subst hf
    exact rs_iret i_X7_stepTold_10 m_X7_stepTold rfl
def f_X7_stepTold (v0 : Nat) (v1 : Int32) (v2 : Int32) (h : Hp) : Option (Int32 × Hp) := f_X7_stepTold_0 v0 v1 v2 h
theorem c_X7_stepTold {X : Nat → Int32} {d : Nat} (hd : 2 ≤ d) {v0 : Nat} {v1 : Int32} {v2 : Int32} {h : Hp} {o : (Int32 × Hp)} (hf : f_X7_stepTold v0 v1 v2 h = some o) : Calls X d 75 [.ref v0, .int v1, .int v2] h (some (.int o.1), o.2) := by
  obtain ⟨d, rfl⟩ : ∃ z, d = z + 1 := ⟨d - 1, by omega⟩
  exact ⟨_, rfl, r_X7_stepTold_0 hd hf⟩
