theorem i_X7_uneven_0 : fetch 91 0 = some (.aload_n 0, 1, 0, 0, 0, 0) := by decide +kernel
theorem i_X7_uneven_1 : fetch 91 1 = some (.iload_n 1, 2, 0, 0, 0, 0) := by decide +kernel
theorem i_X7_uneven_2 : fetch 91 2 = some (.invokevirtual 151, 5, 113, 0, 0, 584) := by decide +kernel
theorem i_X7_uneven_5 : fetch 91 5 = some (.ifCond .ne 6, 8, 0, 0, 0, 0) := by decide +kernel
theorem i_X7_uneven_8 : fetch 91 8 = some (.bipush (-5), 10, 0, 0, 0, 0) := by decide +kernel
theorem i_X7_uneven_10 : fetch 91 10 = some (.ireturn, 11, 0, 0, 0, 0) := by decide +kernel
theorem i_X7_uneven_11 : fetch 91 11 = some (.iload_n 2, 12, 0, 0, 0, 0) := by decide +kernel
theorem i_X7_uneven_12 : fetch 91 12 = some (.iconst 0, 13, 0, 0, 0, 0) := by decide +kernel
theorem i_X7_uneven_13 : fetch 91 13 = some (.iconst 1, 14, 0, 0, 0, 0) := by decide +kernel
theorem i_X7_uneven_14 : fetch 91 14 = some (.invokestatic 112, 17, 110, 0, 0, 534) := by decide +kernel
theorem i_X7_uneven_17 : fetch 91 17 = some (.ifCond .ne 6, 20, 0, 0, 0, 0) := by decide +kernel
theorem i_X7_uneven_20 : fetch 91 20 = some (.bipush (-7), 22, 0, 0, 0, 0) := by decide +kernel
theorem i_X7_uneven_22 : fetch 91 22 = some (.ireturn, 23, 0, 0, 0, 0) := by decide +kernel
theorem i_X7_uneven_23 : fetch 91 23 = some (.aload_n 0, 24, 0, 0, 0, 0) := by decide +kernel
theorem i_X7_uneven_24 : fetch 91 24 = some (.aload_n 0, 25, 0, 0, 0, 0) := by decide +kernel
theorem i_X7_uneven_25 : fetch 91 25 = some (.getfield 10, 28, 7, 0, 0, 483) := by decide +kernel
theorem i_X7_uneven_28 : fetch 91 28 = some (.iload_n 1, 29, 0, 0, 0, 0) := by decide +kernel
theorem i_X7_uneven_29 : fetch 91 29 = some (.iconst (-1), 30, 0, 0, 0, 0) := by decide +kernel
theorem i_X7_uneven_30 : fetch 91 30 = some (.iconst (-1), 31, 0, 0, 0, 0) := by decide +kernel
theorem i_X7_uneven_31 : fetch 91 31 = some (.invokevirtual 154, 34, 118, 0, 0, 588) := by decide +kernel
theorem i_X7_uneven_34 : fetch 91 34 = some (.aload_n 0, 35, 0, 0, 0, 0) := by decide +kernel
theorem i_X7_uneven_35 : fetch 91 35 = some (.getfield 82, 38, 7, 7, 0, 490) := by decide +kernel
theorem i_X7_uneven_38 : fetch 91 38 = some (.invokevirtual 176, 41, 42, 0, 0, 716) := by decide +kernel
theorem i_X7_uneven_41 : fetch 91 41 = some (.istore_n 3, 42, 0, 0, 0, 0) := by decide +kernel
theorem i_X7_uneven_42 : fetch 91 42 = some (.iconst 0, 43, 0, 0, 0, 0) := by decide +kernel
theorem i_X7_uneven_43 : fetch 91 43 = some (.istore 4, 45, 0, 0, 0, 0) := by decide +kernel
theorem i_X7_uneven_45 : fetch 91 45 = some (.iconst 0, 46, 0, 0, 0, 0) := by decide +kernel
theorem i_X7_uneven_46 : fetch 91 46 = some (.istore 5, 48, 0, 0, 0, 0) := by decide +kernel
theorem i_X7_uneven_48 : fetch 91 48 = some (.iconst 0, 49, 0, 0, 0, 0) := by decide +kernel
theorem i_X7_uneven_49 : fetch 91 49 = some (.istore 6, 51, 0, 0, 0, 0) := by decide +kernel
theorem i_X7_uneven_51 : fetch 91 51 = some (.iload 6, 53, 0, 0, 0, 0) := by decide +kernel
theorem i_X7_uneven_53 : fetch 91 53 = some (.bipush 12, 55, 0, 0, 0, 0) := by decide +kernel
theorem i_X7_uneven_55 : fetch 91 55 = some (.if_icmp .ge 86, 58, 0, 0, 0, 0) := by decide +kernel
theorem i_X7_uneven_58 : fetch 91 58 = some (.aload_n 0, 59, 0, 0, 0, 0) := by decide +kernel
theorem i_X7_uneven_59 : fetch 91 59 = some (.getfield 19, 62, 7, 2, 0, 485) := by decide +kernel
theorem i_X7_uneven_62 : fetch 91 62 = some (.aload_n 0, 63, 0, 0, 0, 0) := by decide +kernel
theorem i_X7_uneven_63 : fetch 91 63 = some (.getfield 10, 66, 7, 0, 0, 483) := by decide +kernel
theorem i_X7_uneven_66 : fetch 91 66 = some (.invokevirtual 258, 69, 2, 0, 0, 820) := by decide +kernel
theorem i_X7_uneven_69 : fetch 91 69 = some (.aload_n 0, 70, 0, 0, 0, 0) := by decide +kernel
theorem i_X7_uneven_70 : fetch 91 70 = some (.getfield 19, 73, 7, 2, 0, 485) := by decide +kernel
theorem i_X7_uneven_73 : fetch 91 73 = some (.getfield 117, 76, 0, 0, 0, 94) := by decide +kernel
theorem i_X7_uneven_76 : fetch 91 76 = some (.iload 6, 78, 0, 0, 0, 0) := by decide +kernel
theorem i_X7_uneven_78 : fetch 91 78 = some (.dup2, 79, 0, 0, 0, 0) := by decide +kernel
theorem i_X7_uneven_79 : fetch 91 79 = some (.iaload, 80, 0, 0, 0, 0) := by decide +kernel
theorem i_X7_uneven_80 : fetch 91 80 = some (.aload_n 0, 81, 0, 0, 0, 0) := by decide +kernel
theorem i_X7_uneven_81 : fetch 91 81 = some (.getfield 10, 84, 7, 0, 0, 483) := by decide +kernel
theorem i_X7_uneven_84 : fetch 91 84 = some (.getfield 117, 87, 0, 0, 0, 94) := by decide +kernel
theorem i_X7_uneven_87 : fetch 91 87 = some (.iload 6, 89, 0, 0, 0, 0) := by decide +kernel
theorem i_X7_uneven_89 : fetch 91 89 = some (.iaload, 90, 0, 0, 0, 0) := by decide +kernel
theorem i_X7_uneven_90 : fetch 91 90 = some (.bipush 10, 92, 0, 0, 0, 0) := by decide +kernel
theorem i_X7_uneven_92 : fetch 91 92 = some (.idiv, 93, 0, 0, 0, 0) := by decide +kernel
theorem i_X7_uneven_93 : fetch 91 93 = some (.iadd, 94, 0, 0, 0, 0) := by decide +kernel
theorem i_X7_uneven_94 : fetch 91 94 = some (.iastore, 95, 0, 0, 0, 0) := by decide +kernel
theorem i_X7_uneven_95 : fetch 91 95 = some (.aload_n 0, 96, 0, 0, 0, 0) := by decide +kernel
theorem i_X7_uneven_96 : fetch 91 96 = some (.aload_n 0, 97, 0, 0, 0, 0) := by decide +kernel
theorem i_X7_uneven_97 : fetch 91 97 = some (.getfield 19, 100, 7, 2, 0, 485) := by decide +kernel
theorem i_X7_uneven_100 : fetch 91 100 = some (.iload_n 1, 101, 0, 0, 0, 0) := by decide +kernel
theorem i_X7_uneven_101 : fetch 91 101 = some (.iconst (-1), 102, 0, 0, 0, 0) := by decide +kernel
theorem i_X7_uneven_102 : fetch 91 102 = some (.iconst (-1), 103, 0, 0, 0, 0) := by decide +kernel
theorem i_X7_uneven_103 : fetch 91 103 = some (.invokevirtual 154, 106, 118, 0, 0, 588) := by decide +kernel
theorem i_X7_uneven_106 : fetch 91 106 = some (.aload_n 0, 107, 0, 0, 0, 0) := by decide +kernel
theorem i_X7_uneven_107 : fetch 91 107 = some (.getfield 82, 110, 7, 7, 0, 490) := by decide +kernel
theorem i_X7_uneven_110 : fetch 91 110 = some (.invokevirtual 176, 113, 42, 0, 0, 716) := by decide +kernel
theorem i_X7_uneven_113 : fetch 91 113 = some (.iload_n 3, 114, 0, 0, 0, 0) := by decide +kernel
theorem i_X7_uneven_114 : fetch 91 114 = some (.isub, 115, 0, 0, 0, 0) := by decide +kernel
theorem i_X7_uneven_115 : fetch 91 115 = some (.invokestatic 265, 118, 1002, 0, 0, 842) := by decide +kernel
theorem i_X7_uneven_118 : fetch 91 118 = some (.istore 7, 120, 0, 0, 0, 0) := by decide +kernel
theorem i_X7_uneven_120 : fetch 91 120 = some (.iload 7, 122, 0, 0, 0, 0) := by decide +kernel
theorem i_X7_uneven_122 : fetch 91 122 = some (.iload 5, 124, 0, 0, 0, 0) := by decide +kernel
theorem i_X7_uneven_124 : fetch 91 124 = some (.if_icmp .le 11, 127, 0, 0, 0, 0) := by decide +kernel
theorem i_X7_uneven_127 : fetch 91 127 = some (.iload 7, 129, 0, 0, 0, 0) := by decide +kernel
theorem i_X7_uneven_129 : fetch 91 129 = some (.istore 5, 131, 0, 0, 0, 0) := by decide +kernel
theorem i_X7_uneven_131 : fetch 91 131 = some (.iload 6, 133, 0, 0, 0, 0) := by decide +kernel
theorem i_X7_uneven_133 : fetch 91 133 = some (.istore 4, 135, 0, 0, 0, 0) := by decide +kernel
theorem i_X7_uneven_135 : fetch 91 135 = some (.iinc 6 1, 138, 0, 0, 0, 0) := by decide +kernel
theorem i_X7_uneven_138 : fetch 91 138 = some (.goto (-87), 141, 0, 0, 0, 0) := by decide +kernel
theorem i_X7_uneven_141 : fetch 91 141 = some (.iload_n 2, 142, 0, 0, 0, 0) := by decide +kernel
theorem i_X7_uneven_142 : fetch 91 142 = some (.ifCond .ne 8, 145, 0, 0, 0, 0) := by decide +kernel
theorem i_X7_uneven_145 : fetch 91 145 = some (.iload 4, 147, 0, 0, 0, 0) := by decide +kernel
theorem i_X7_uneven_147 : fetch 91 147 = some (.goto 5, 150, 0, 0, 0, 0) := by decide +kernel
theorem i_X7_uneven_150 : fetch 91 150 = some (.iload 5, 152, 0, 0, 0, 0) := by decide +kernel
theorem i_X7_uneven_152 : fetch 91 152 = some (.ireturn, 153, 0, 0, 0, 0) := by decide +kernel
def f_X7_uneven_135 (n : Nat) (K51 : Nat → Int32 → Int32 → Int32 → Int32 → Int32 → Int32 → Hp → Option (Int32 × Hp)) (v0 : Nat) (v1 : Int32) (v2 : Int32) (v3 : Int32) (v4 : Int32) (v5 : Int32) (v6 : Int32) (h : Hp) : Option (Int32 × Hp) :=
  K51 v0 v1 v2 v3 v4 v5 (v6 + 1) h
set_option maxRecDepth 100000 in
set_option maxHeartbeats 4000000 in
theorem r_X7_uneven_135 {X : Nat → Int32} {d : Nat} (hd : 7 ≤ (d + 1)) {n : Nat} {K51 : Nat → Int32 → Int32 → Int32 → Int32 → Int32 → Int32 → Hp → Option (Int32 × Hp)} (HK51 : ∀ (v0 : Nat) (v1 : Int32) (v2 : Int32) (v3 : Int32) (v4 : Int32) (v5 : Int32) (v6 : Int32) (w7 : Option Value) (h : Hp) (o : (Int32 × Hp)), K51 v0 v1 v2 v3 v4 v5 v6 h = some o → Run X (d + 1) 91 51 [some (.ref v0), some (.int v1), some (.int v2), some (.int v3), some (.int v4), some (.int v5), some (.int v6), w7] [] h (some (.int o.1), o.2)) {v0 : Nat} {v1 : Int32} {v2 : Int32} {v3 : Int32} {v4 : Int32} {v5 : Int32} {v6 : Int32} {d7 : Int32} {h : Hp} {o : (Int32 × Hp)} (hf : f_X7_uneven_135 n K51 v0 v1 v2 v3 v4 v5 v6 h = some o) : Run X (d + 1) 91 135 [some (.ref v0), some (.int v1), some (.int v2), some (.int v3), some (.int v4), some (.int v5), some (.int v6), some (.int d7)] [] h (some (.int o.1), o.2) := by
  unfold f_X7_uneven_135 at hf
  refine rs_iinc i_X7_uneven_135 rfl (v := v6 + 1) rfl (Nat.le_of_ble_eq_true rfl) (lv' := [some (.ref v0), some (.int v1), some (.int v2), some (.int v3), some (.int v4), some (.int v5), some (.int (v6 + 1)), some (.int d7)]) rfl ?_
  refine rs_goto i_X7_uneven_138 (tg := 51) (by decide) ?_
  exact HK51 _ _ _ _ _ _ _ _ _ _ hf
def f_X7_uneven_120 (n : Nat) (K51 : Nat → Int32 → Int32 → Int32 → Int32 → Int32 → Int32 → Hp → Option (Int32 × Hp)) (v0 : Nat) (v1 : Int32) (v2 : Int32) (v3 : Int32) (v4 : Int32) (v5 : Int32) (v6 : Int32) (v7 : Int32) (h : Hp) : Option (Int32 × Hp) :=
  if v7 ≤ v5 then
    f_X7_uneven_135 n K51 v0 v1 v2 v3 v4 v5 v6 h
  else
    f_X7_uneven_135 n K51 v0 v1 v2 v3 v6 v7 v6 h
set_option maxRecDepth 100000 in
set_option maxHeartbeats 4000000 in
theorem r_X7_uneven_120 {X : Nat → Int32} {d : Nat} (hd : 7 ≤ (d + 1)) {n : Nat} {K51 : Nat → Int32 → Int32 → Int32 → Int32 → Int32 → Int32 → Hp → Option (Int32 × Hp)} (HK51 : ∀ (v0 : Nat) (v1 : Int32) (v2 : Int32) (v3 : Int32) (v4 : Int32) (v5 : Int32) (v6 : Int32) (w7 : Option Value) (h : Hp) (o : (Int32 × Hp)), K51 v0 v1 v2 v3 v4 v5 v6 h = some o → Run X (d + 1) 91 51 [some (.ref v0), some (.int v1), some (.int v2), some (.int v3), some (.int v4), some (.int v5), some (.int v6), w7] [] h (some (.int o.1), o.2)) {v0 : Nat} {v1 : Int32} {v2 : Int32} {v3 : Int32} {v4 : Int32} {v5 : Int32} {v6 : Int32} {v7 : Int32} {h : Hp} {o : (Int32 × Hp)} (hf : f_X7_uneven_120 n K51 v0 v1 v2 v3 v4 v5 v6 v7 h = some o) : Run X (d + 1) 91 120 [some (.ref v0), some (.int v1), some (.int v2), some (.int v3), some (.int v4), some (.int v5), some (.int v6), some (.int v7)] [] h (some (.int o.1), o.2) := by
  unfold f_X7_uneven_120 at hf
  refine rs_iload i_X7_uneven_120 rfl ?_
  refine rs_iload i_X7_uneven_122 rfl ?_
  by_cases c1 : v7 ≤ v5
  · replace hf := (if_pos c1).symm.trans hf
    refine rs_icT i_X7_uneven_124 (ct_le c1) (tg := 135) (by decide) ?_
    exact r_X7_uneven_135 hd HK51 hf
  · replace hf := (if_neg c1).symm.trans hf
    refine rs_icF i_X7_uneven_124 (cf_le c1) ?_
    refine rs_iload i_X7_uneven_127 rfl ?_
    refine rs_istore i_X7_uneven_129 (Nat.le_of_ble_eq_true rfl) (lv' := [some (.ref v0), some (.int v1), some (.int v2), some (.int v3), some (.int v4), some (.int v7), some (.int v6), some (.int v7)]) rfl ?_
    refine rs_iload i_X7_uneven_131 rfl ?_
    refine rs_istore i_X7_uneven_133 (Nat.le_of_ble_eq_true rfl) (lv' := [some (.ref v0), some (.int v1), some (.int v2), some (.int v3), some (.int v6), some (.int v7), some (.int v6), some (.int v7)]) rfl ?_
    exact r_X7_uneven_135 hd HK51 hf
def f_X7_uneven_95 (n : Nat) (K51 : Nat → Int32 → Int32 → Int32 → Int32 → Int32 → Int32 → Hp → Option (Int32 × Hp)) (v0 : Nat) (v1 : Int32) (v2 : Int32) (v3 : Int32) (v4 : Int32) (v5 : Int32) (v6 : Int32) (h : Hp) : Option (Int32 × Hp) :=
  if okO h v0 7 then
  (gR h v0 2).bind fun a2 =>
  (f_X7_make n v0 a2 v1 (-1) (-1) h).bind fun o3 =>
  if okO o3 v0 7 then
  (gR o3 v0 7).bind fun a5 =>
  if okO o3 a5 3 then
  (f_X3_spread n a5 o3).bind fun o6 =>
  f_X7_uneven_120 n K51 v0 v1 v2 v3 v4 v5 v6 (if 0 ≤ (o6.1 - v3) then (o6.1 - v3) else 0 - (o6.1 - v3)) o6.2
  else none
  else none
  else none
set_option maxRecDepth 100000 in
set_option maxHeartbeats 4000000 in
theorem r_X7_uneven_95 {X : Nat → Int32} {d : Nat} (hd : 7 ≤ (d + 1)) {n : Nat} {K51 : Nat → Int32 → Int32 → Int32 → Int32 → Int32 → Int32 → Hp → Option (Int32 × Hp)} (HK51 : ∀ (v0 : Nat) (v1 : Int32) (v2 : Int32) (v3 : Int32) (v4 : Int32) (v5 : Int32) (v6 : Int32) (w7 : Option Value) (h : Hp) (o : (Int32 × Hp)), K51 v0 v1 v2 v3 v4 v5 v6 h = some o → Run X (d + 1) 91 51 [some (.ref v0), some (.int v1), some (.int v2), some (.int v3), some (.int v4), some (.int v5), some (.int v6), w7] [] h (some (.int o.1), o.2)) {v0 : Nat} {v1 : Int32} {v2 : Int32} {v3 : Int32} {v4 : Int32} {v5 : Int32} {v6 : Int32} {w7 : Option Value} {h : Hp} {o : (Int32 × Hp)} (hf : f_X7_uneven_95 n K51 v0 v1 v2 v3 v4 v5 v6 h = some o) : Run X (d + 1) 91 95 [some (.ref v0), some (.int v1), some (.int v2), some (.int v3), some (.int v4), some (.int v5), some (.int v6), w7] [] h (some (.int o.1), o.2) := by
  unfold f_X7_uneven_95 at hf
  refine rs_aload_n i_X7_uneven_95 rfl ?_
  refine rs_aload_n i_X7_uneven_96 rfl ?_
  obtain ⟨c1, hf⟩ := ite_some hf
  obtain ⟨a2, e2, hf⟩ := bind_some hf
  refine rs_getR i_X7_uneven_97 (by decide) (by decide) c1 e2 ?_
  refine rs_iload_n i_X7_uneven_100 rfl ?_
  refine rs_iconst i_X7_uneven_101 (v := (-1)) (by decide) ?_
  refine rs_iconst i_X7_uneven_102 (v := (-1)) (by decide) ?_
  obtain ⟨o3, e3, hf⟩ := bind_some hf
  refine rs_inV i_X7_uneven_103 m_X7_make rfl (As := [.ref a2, .int v1, .int (-1), .int (-1)]) (rest := []) rfl rfl (Nat.le_of_ble_eq_true rfl) c1 (c_X7_make (by omega) e3) (st' := []) rfl ?_
  refine rs_aload_n i_X7_uneven_106 rfl ?_
  obtain ⟨c4, hf⟩ := ite_some hf
  obtain ⟨a5, e5, hf⟩ := bind_some hf
  refine rs_getR i_X7_uneven_107 (by decide) (by decide) c4 e5 ?_
  obtain ⟨c7, hf⟩ := ite_some hf
  obtain ⟨o6, e6, hf⟩ := bind_some hf
  refine rs_inV i_X7_uneven_110 m_X3_spread rfl (As := []) (rest := []) rfl rfl (Nat.le_of_ble_eq_true rfl) c7 (c_X3_spread (by omega) e6) (st' := [.int o6.1]) rfl ?_
  refine rs_iload_n i_X7_uneven_113 rfl ?_
  refine rs_isub i_X7_uneven_114 ?_
  refine rs_abs i_X7_uneven_115 (Nat.le_of_ble_eq_true rfl) ?_
  refine rs_istore i_X7_uneven_118 (Nat.le_of_ble_eq_true rfl) (lv' := [some (.ref v0), some (.int v1), some (.int v2), some (.int v3), some (.int v4), some (.int v5), some (.int v6), some (.int (if 0 ≤ (o6.1 - v3) then (o6.1 - v3) else 0 - (o6.1 - v3)))]) rfl ?_
  exact r_X7_uneven_120 hd HK51 hf
def f_X7_uneven_51 (n : Nat) : Nat → Nat → Int32 → Int32 → Int32 → Int32 → Int32 → Int32 → Hp → Option (Int32 × Hp)
  | 0, _, _, _, _, _, _, _, _ => none
  | m + 1, v0, v1, v2, v3, v4, v5, v6, h =>
    if 12 ≤ v6 then
      if v2 ≠ 0 then
        some (v5, h)
      else
        some (v4, h)
    else
      if okO h v0 7 then
      (gR h v0 2).bind fun a4 =>
      (gR h v0 0).bind fun a5 =>
      if okO h a4 0 then
      (f_X0_become a4 a5 h).bind fun o6 =>
      if okO o6 v0 7 then
      (gR o6 v0 2).bind fun a9 =>
      if okO o6 a9 0 then
      (gR o6 a9 0).bind fun a11 =>
      if okI o6 a11 v6 then
      (gR o6 v0 0).bind fun a13 =>
      if okO o6 a13 0 then
      (gR o6 a13 0).bind fun a15 =>
      if okI o6 a15 v6 then
      f_X7_uneven_95 n (f_X7_uneven_51 n m) v0 v1 v2 v3 v4 v5 v6 (hsi o6 a11 (ix v6) ((gI o6 a11 (ix v6)) + ((gI o6 a15 (ix v6)) / 10)))
      else none
      else none
      else none
      else none
      else none
      else none
      else none
set_option maxRecDepth 100000 in
set_option maxHeartbeats 4000000 in
theorem r_X7_uneven_51 {X : Nat → Int32} {d : Nat} (hd : 7 ≤ (d + 1)) {n : Nat} : ∀ (m : Nat) (v0 : Nat) (v1 : Int32) (v2 : Int32) (v3 : Int32) (v4 : Int32) (v5 : Int32) (v6 : Int32) (w7 : Option Value) (h : Hp) (o : (Int32 × Hp)), f_X7_uneven_51 n m v0 v1 v2 v3 v4 v5 v6 h = some o → Run X (d + 1) 91 51 [some (.ref v0), some (.int v1), some (.int v2), some (.int v3), some (.int v4), some (.int v5), some (.int v6), w7] [] h (some (.int o.1), o.2) := by
  intro m
  induction m with
  | zero => intro v0 v1 v2 v3 v4 v5 v6 w7 h o hf; cases hf
  | succ m ih =>
    intro v0 v1 v2 v3 v4 v5 v6 w7 h o hf
    rw [f_X7_uneven_51] at hf
    refine rs_iload i_X7_uneven_51 rfl ?_
    refine rs_bipush i_X7_uneven_53 (v := 12) (by decide) ?_
    by_cases c1 : 12 ≤ v6
    · replace hf := (if_pos c1).symm.trans hf
      refine rs_icT i_X7_uneven_55 (ct_ge c1) (tg := 141) (by decide) ?_
      refine rs_iload_n i_X7_uneven_141 rfl ?_
      by_cases c2 : v2 ≠ 0
      · replace hf := (if_pos c2).symm.trans hf
        refine rs_ifT i_X7_uneven_142 (ct_ne c2) (tg := 150) (by decide) ?_
        refine rs_iload i_X7_uneven_150 rfl ?_
        have hf := Option.some.inj hf
        subst hf
        exact rs_iret i_X7_uneven_152 m_X7_uneven rfl
      · replace hf := (if_neg c2).symm.trans hf
        refine rs_ifF i_X7_uneven_142 (cf_ne c2) ?_
        refine rs_iload i_X7_uneven_145 rfl ?_
        refine rs_goto i_X7_uneven_147 (tg := 152) (by decide) ?_
        have hf := Option.some.inj hf
        subst hf
        exact rs_iret i_X7_uneven_152 m_X7_uneven rfl
    · replace hf := (if_neg c1).symm.trans hf
      refine rs_icF i_X7_uneven_55 (cf_ge c1) ?_
      refine rs_aload_n i_X7_uneven_58 rfl ?_
      obtain ⟨c3, hf⟩ := ite_some hf
      obtain ⟨a4, e4, hf⟩ := bind_some hf
      refine rs_getR i_X7_uneven_59 (by decide) (by decide) c3 e4 ?_
      refine rs_aload_n i_X7_uneven_62 rfl ?_
      obtain ⟨a5, e5, hf⟩ := bind_some hf
      refine rs_getR i_X7_uneven_63 (by decide) (by decide) c3 e5 ?_
      obtain ⟨c7, hf⟩ := ite_some hf
      obtain ⟨o6, e6, hf⟩ := bind_some hf
      refine rs_inV i_X7_uneven_66 m_X0_become rfl (As := [.ref a5]) (rest := []) rfl rfl (Nat.le_of_ble_eq_true rfl) c7 (c_X0_become (by omega) e6) (st' := []) rfl ?_
      refine rs_aload_n i_X7_uneven_69 rfl ?_
      obtain ⟨c8, hf⟩ := ite_some hf
      obtain ⟨a9, e9, hf⟩ := bind_some hf
      refine rs_getR i_X7_uneven_70 (by decide) (by decide) c8 e9 ?_
      obtain ⟨c10, hf⟩ := ite_some hf
      obtain ⟨a11, e11, hf⟩ := bind_some hf
      refine rs_getR i_X7_uneven_73 (by decide) (by decide) c10 e11 ?_
      refine rs_iload i_X7_uneven_76 rfl ?_
      refine rs_dup2 i_X7_uneven_78 ⟨rfl, rfl⟩ ?_
      obtain ⟨c12, hf⟩ := ite_some hf
      refine rs_iald i_X7_uneven_79 c12 ?_
      refine rs_aload_n i_X7_uneven_80 rfl ?_
      obtain ⟨a13, e13, hf⟩ := bind_some hf
      refine rs_getR i_X7_uneven_81 (by decide) (by decide) c8 e13 ?_
      obtain ⟨c14, hf⟩ := ite_some hf
      obtain ⟨a15, e15, hf⟩ := bind_some hf
      refine rs_getR i_X7_uneven_84 (by decide) (by decide) c14 e15 ?_
      refine rs_iload i_X7_uneven_87 rfl ?_
      obtain ⟨c16, hf⟩ := ite_some hf
      refine rs_iald i_X7_uneven_89 c16 ?_
      refine rs_bipush i_X7_uneven_90 (v := 10) (by decide) ?_
      refine rs_idiv i_X7_uneven_92 (by decide) ?_
      refine rs_iadd i_X7_uneven_93 ?_
      refine rs_iast i_X7_uneven_94 c12 ?_
      exact r_X7_uneven_95 hd ih hf
def f_X7_uneven_0 (n : Nat) (v0 : Nat) (v1 : Int32) (v2 : Int32) (h : Hp) : Option (Int32 × Hp) :=
  if okO h v0 7 then
  (f_X7_areSteps v0 v1 h).bind fun o1 =>
  if o1.1 ≠ 0 then
    (f_X7_within v2 0 1 o1.2).bind fun o4 =>
    if o4.1 ≠ 0 then
      if okO o4.2 v0 7 then
      (gR o4.2 v0 0).bind fun a7 =>
      (f_X7_make n v0 a7 v1 (-1) (-1) o4.2).bind fun o8 =>
      if okO o8 v0 7 then
      (gR o8 v0 7).bind fun a10 =>
      if okO o8 a10 3 then
      (f_X3_spread n a10 o8).bind fun o11 =>
      f_X7_uneven_51 n n v0 v1 v2 o11.1 0 0 0 o11.2
      else none
      else none
      else none
    else
      some ((-7), o4.2)
  else
    some ((-5), o1.2)
  else none
set_option maxRecDepth 100000 in
set_option maxHeartbeats 4000000 in
theorem r_X7_uneven_0 {X : Nat → Int32} {d : Nat} (hd : 7 ≤ (d + 1)) {n : Nat} {v0 : Nat} {v1 : Int32} {v2 : Int32} {h : Hp} {o : (Int32 × Hp)} (hf : f_X7_uneven_0 n v0 v1 v2 h = some o) : Run X (d + 1) 91 0 [some (.ref v0), some (.int v1), some (.int v2), none, none, none, none, none] [] h (some (.int o.1), o.2) := by
  unfold f_X7_uneven_0 at hf
  refine rs_aload_n i_X7_uneven_0 rfl ?_
  refine rs_iload_n i_X7_uneven_1 rfl ?_
  obtain ⟨c2, hf⟩ := ite_some hf
  obtain ⟨o1, e1, hf⟩ := bind_some hf
  refine rs_inV i_X7_uneven_2 m_X7_areSteps rfl (As := [.int v1]) (rest := []) rfl rfl (Nat.le_of_ble_eq_true rfl) c2 (c_X7_areSteps (by omega) e1) (st' := [.int o1.1]) rfl ?_
  by_cases c3 : o1.1 ≠ 0
  · replace hf := (if_pos c3).symm.trans hf
    refine rs_ifT i_X7_uneven_5 (ct_ne c3) (tg := 11) (by decide) ?_
    refine rs_iload_n i_X7_uneven_11 rfl ?_
    refine rs_iconst i_X7_uneven_12 (v := 0) (by decide) ?_
    refine rs_iconst i_X7_uneven_13 (v := 1) (by decide) ?_
    obtain ⟨o4, e4, hf⟩ := bind_some hf
    refine rs_inS i_X7_uneven_14 (by decide) m_X7_within rfl (As := [.int v2, .int 0, .int 1]) (rest := []) rfl rfl (Nat.le_of_ble_eq_true rfl) (c_X7_within (by omega) e4) (st' := [.int o4.1]) rfl ?_
    by_cases c5 : o4.1 ≠ 0
    · replace hf := (if_pos c5).symm.trans hf
      refine rs_ifT i_X7_uneven_17 (ct_ne c5) (tg := 23) (by decide) ?_
      refine rs_aload_n i_X7_uneven_23 rfl ?_
      refine rs_aload_n i_X7_uneven_24 rfl ?_
      obtain ⟨c6, hf⟩ := ite_some hf
      obtain ⟨a7, e7, hf⟩ := bind_some hf
      refine rs_getR i_X7_uneven_25 (by decide) (by decide) c6 e7 ?_
      refine rs_iload_n i_X7_uneven_28 rfl ?_
      refine rs_iconst i_X7_uneven_29 (v := (-1)) (by decide) ?_
      refine rs_iconst i_X7_uneven_30 (v := (-1)) (by decide) ?_
      obtain ⟨o8, e8, hf⟩ := bind_some hf
      refine rs_inV i_X7_uneven_31 m_X7_make rfl (As := [.ref a7, .int v1, .int (-1), .int (-1)]) (rest := []) rfl rfl (Nat.le_of_ble_eq_true rfl) c6 (c_X7_make (by omega) e8) (st' := []) rfl ?_
      refine rs_aload_n i_X7_uneven_34 rfl ?_
      obtain ⟨c9, hf⟩ := ite_some hf
      obtain ⟨a10, e10, hf⟩ := bind_some hf
      refine rs_getR i_X7_uneven_35 (by decide) (by decide) c9 e10 ?_
      obtain ⟨c12, hf⟩ := ite_some hf
      obtain ⟨o11, e11, hf⟩ := bind_some hf
      refine rs_inV i_X7_uneven_38 m_X3_spread rfl (As := []) (rest := []) rfl rfl (Nat.le_of_ble_eq_true rfl) c12 (c_X3_spread (by omega) e11) (st' := [.int o11.1]) rfl ?_
      refine rs_istore_n i_X7_uneven_41 (Nat.le_of_ble_eq_true rfl) (lv' := [some (.ref v0), some (.int v1), some (.int v2), some (.int o11.1), none, none, none, none]) rfl ?_
      refine rs_iconst i_X7_uneven_42 (v := 0) (by decide) ?_
      refine rs_istore i_X7_uneven_43 (Nat.le_of_ble_eq_true rfl) (lv' := [some (.ref v0), some (.int v1), some (.int v2), some (.int o11.1), some (.int 0), none, none, none]) rfl ?_
      refine rs_iconst i_X7_uneven_45 (v := 0) (by decide) ?_
      refine rs_istore i_X7_uneven_46 (Nat.le_of_ble_eq_true rfl) (lv' := [some (.ref v0), some (.int v1), some (.int v2), some (.int o11.1), some (.int 0), some (.int 0), none, none]) rfl ?_
      refine rs_iconst i_X7_uneven_48 (v := 0) (by decide) ?_
      refine rs_istore i_X7_uneven_49 (Nat.le_of_ble_eq_true rfl) (lv' := [some (.ref v0), some (.int v1), some (.int v2), some (.int o11.1), some (.int 0), some (.int 0), some (.int 0), none]) rfl ?_
      exact r_X7_uneven_51 hd _ _ _ _ _ _ _ _ _ _ _ hf
    · replace hf := (if_neg c5).symm.trans hf
      refine rs_ifF i_X7_uneven_17 (cf_ne c5) ?_
      refine rs_bipush i_X7_uneven_20 (v := (-7)) (by decide) ?_
      have hf := Option.some.inj hf
      subst hf
      exact rs_iret i_X7_uneven_22 m_X7_uneven rfl
  · replace hf := (if_neg c3).symm.trans hf
    refine rs_ifF i_X7_uneven_5 (cf_ne c3) ?_
    refine rs_bipush i_X7_uneven_8 (v := (-5)) (by decide) ?_
    have hf := Option.some.inj hf
    subst hf
    exact rs_iret i_X7_uneven_10 m_X7_uneven rfl
def f_X7_uneven (n : Nat) (v0 : Nat) (v1 : Int32) (v2 : Int32) (h : Hp) : Option (Int32 × Hp) := f_X7_uneven_0 n v0 v1 v2 h
theorem c_X7_uneven {X : Nat → Int32} {d : Nat} (hd : 7 ≤ d) {n : Nat} {v0 : Nat} {v1 : Int32} {v2 : Int32} {h : Hp} {o : (Int32 × Hp)} (hf : f_X7_uneven n v0 v1 v2 h = some o) : Calls X d 91 [.ref v0, .int v1, .int v2] h (some (.int o.1), o.2) := by
  obtain ⟨d, rfl⟩ : ∃ z, d = z + 1 := ⟨d - 1, by omega⟩
  exact ⟨_, rfl, r_X7_uneven_0 hd hf⟩
theorem i_X7_cooks_0 : fetch 92 0 = some (.aload_n 0, 1, 0, 0, 0, 0) := by decide +kernel
theorem i_X7_cooks_1 : fetch 92 1 = some (.iload_n 1, 2, 0, 0, 0, 0) := by decide +kernel
theorem i_X7_cooks_2 : fetch 92 2 = some (.invokevirtual 151, 5, 113, 0, 0, 584) := by decide +kernel
theorem i_X7_cooks_5 : fetch 92 5 = some (.ifCond .ne 6, 8, 0, 0, 0, 0) := by decide +kernel
theorem i_X7_cooks_8 : fetch 92 8 = some (.bipush (-5), 10, 0, 0, 0, 0) := by decide +kernel
theorem i_X7_cooks_10 : fetch 92 10 = some (.ireturn, 11, 0, 0, 0, 0) := by decide +kernel
theorem i_X7_cooks_11 : fetch 92 11 = some (.iload_n 2, 12, 0, 0, 0, 0) := by decide +kernel
theorem i_X7_cooks_12 : fetch 92 12 = some (.iconst 0, 13, 0, 0, 0, 0) := by decide +kernel
theorem i_X7_cooks_13 : fetch 92 13 = some (.sipush 9999, 16, 0, 0, 0, 0) := by decide +kernel
theorem i_X7_cooks_16 : fetch 92 16 = some (.invokestatic 112, 19, 110, 0, 0, 534) := by decide +kernel
theorem i_X7_cooks_19 : fetch 92 19 = some (.ifCond .eq 12, 22, 0, 0, 0, 0) := by decide +kernel
theorem i_X7_cooks_22 : fetch 92 22 = some (.iload_n 3, 23, 0, 0, 0, 0) := by decide +kernel
theorem i_X7_cooks_23 : fetch 92 23 = some (.iconst 0, 24, 0, 0, 0, 0) := by decide +kernel
theorem i_X7_cooks_24 : fetch 92 24 = some (.iconst 2, 25, 0, 0, 0, 0) := by decide +kernel
theorem i_X7_cooks_25 : fetch 92 25 = some (.invokestatic 112, 28, 110, 0, 0, 534) := by decide +kernel
theorem i_X7_cooks_28 : fetch 92 28 = some (.ifCond .ne 6, 31, 0, 0, 0, 0) := by decide +kernel
theorem i_X7_cooks_31 : fetch 92 31 = some (.bipush (-7), 33, 0, 0, 0, 0) := by decide +kernel
theorem i_X7_cooks_33 : fetch 92 33 = some (.ireturn, 34, 0, 0, 0, 0) := by decide +kernel
theorem i_X7_cooks_34 : fetch 92 34 = some (.aload_n 0, 35, 0, 0, 0, 0) := by decide +kernel
theorem i_X7_cooks_35 : fetch 92 35 = some (.aload_n 0, 36, 0, 0, 0, 0) := by decide +kernel
theorem i_X7_cooks_36 : fetch 92 36 = some (.getfield 10, 39, 7, 0, 0, 483) := by decide +kernel
theorem i_X7_cooks_39 : fetch 92 39 = some (.iload_n 1, 40, 0, 0, 0, 0) := by decide +kernel
theorem i_X7_cooks_40 : fetch 92 40 = some (.iconst (-1), 41, 0, 0, 0, 0) := by decide +kernel
theorem i_X7_cooks_41 : fetch 92 41 = some (.iconst (-1), 42, 0, 0, 0, 0) := by decide +kernel
theorem i_X7_cooks_42 : fetch 92 42 = some (.invokevirtual 154, 45, 118, 0, 0, 588) := by decide +kernel
theorem i_X7_cooks_45 : fetch 92 45 = some (.aload_n 0, 46, 0, 0, 0, 0) := by decide +kernel
theorem i_X7_cooks_46 : fetch 92 46 = some (.getfield 82, 49, 7, 7, 0, 490) := by decide +kernel
theorem i_X7_cooks_49 : fetch 92 49 = some (.iload_n 2, 50, 0, 0, 0, 0) := by decide +kernel
theorem i_X7_cooks_50 : fetch 92 50 = some (.iload_n 3, 51, 0, 0, 0, 0) := by decide +kernel
theorem i_X7_cooks_51 : fetch 92 51 = some (.invokevirtual 270, 54, 47, 0, 0, 849) := by decide +kernel
theorem i_X7_cooks_54 : fetch 92 54 = some (.ireturn, 55, 0, 0, 0, 0) := by decide +kernel
def f_X7_cooks_0 (n : Nat) (v0 : Nat) (v1 : Int32) (v2 : Int32) (v3 : Int32) (h : Hp) : Option (Int32 × Hp) :=
  if okO h v0 7 then
  (f_X7_areSteps v0 v1 h).bind fun o1 =>
  if o1.1 ≠ 0 then
    (f_X7_within v2 0 9999 o1.2).bind fun o4 =>
    if o4.1 = 0 then
      some ((-7), o4.2)
    else
      (f_X7_within v3 0 2 o4.2).bind fun o6 =>
      if o6.1 ≠ 0 then
        if okO o6.2 v0 7 then
        (gR o6.2 v0 0).bind fun a9 =>
        (f_X7_make n v0 a9 v1 (-1) (-1) o6.2).bind fun o10 =>
        if okO o10 v0 7 then
        (gR o10 v0 7).bind fun a12 =>
        if okO o10 a12 3 then
        (f_X3_cooked n a12 v2 v3 o10).bind fun o13 =>
        some (o13.1, o13.2)
        else none
        else none
        else none
      else
        some ((-7), o6.2)
  else
    some ((-5), o1.2)
  else none
set_option maxRecDepth 100000 in
set_option maxHeartbeats 4000000 in
theorem r_X7_cooks_0 {X : Nat → Int32} {d : Nat} (hd : 7 ≤ (d + 1)) {n : Nat} {v0 : Nat} {v1 : Int32} {v2 : Int32} {v3 : Int32} {h : Hp} {o : (Int32 × Hp)} (hf : f_X7_cooks_0 n v0 v1 v2 v3 h = some o) : Run X (d + 1) 92 0 [some (.ref v0), some (.int v1), some (.int v2), some (.int v3)] [] h (some (.int o.1), o.2) := by
  unfold f_X7_cooks_0 at hf
  refine rs_aload_n i_X7_cooks_0 rfl ?_
  refine rs_iload_n i_X7_cooks_1 rfl ?_
  obtain ⟨c2, hf⟩ := ite_some hf
  obtain ⟨o1, e1, hf⟩ := bind_some hf
  refine rs_inV i_X7_cooks_2 m_X7_areSteps rfl (As := [.int v1]) (rest := []) rfl rfl (Nat.le_of_ble_eq_true rfl) c2 (c_X7_areSteps (by omega) e1) (st' := [.int o1.1]) rfl ?_
  by_cases c3 : o1.1 ≠ 0
  · replace hf := (if_pos c3).symm.trans hf
    refine rs_ifT i_X7_cooks_5 (ct_ne c3) (tg := 11) (by decide) ?_
    refine rs_iload_n i_X7_cooks_11 rfl ?_
    refine rs_iconst i_X7_cooks_12 (v := 0) (by decide) ?_
    refine rs_sipush i_X7_cooks_13 (v := 9999) (by decide) ?_
    obtain ⟨o4, e4, hf⟩ := bind_some hf
    refine rs_inS i_X7_cooks_16 (by decide) m_X7_within rfl (As := [.int v2, .int 0, .int 9999]) (rest := []) rfl rfl (Nat.le_of_ble_eq_true rfl) (c_X7_within (by omega) e4) (st' := [.int o4.1]) rfl ?_
    by_cases c5 : o4.1 = 0
    · replace hf := (if_pos c5).symm.trans hf
      refine rs_ifT i_X7_cooks_19 (ct_eq c5) (tg := 31) (by decide) ?_
      refine rs_bipush i_X7_cooks_31 (v := (-7)) (by decide) ?_
      have hf := Option.some.inj hf
      subst hf
      exact rs_iret i_X7_cooks_33 m_X7_cooks rfl
    · replace hf := (if_neg c5).symm.trans hf
      refine rs_ifF i_X7_cooks_19 (cf_eq c5) ?_
      refine rs_iload_n i_X7_cooks_22 rfl ?_
      refine rs_iconst i_X7_cooks_23 (v := 0) (by decide) ?_
      refine rs_iconst i_X7_cooks_24 (v := 2) (by decide) ?_
      obtain ⟨o6, e6, hf⟩ := bind_some hf
      refine rs_inS i_X7_cooks_25 (by decide) m_X7_within rfl (As := [.int v3, .int 0, .int 2]) (rest := []) rfl rfl (Nat.le_of_ble_eq_true rfl) (c_X7_within (by omega) e6) (st' := [.int o6.1]) rfl ?_
      by_cases c7 : o6.1 ≠ 0
      · replace hf := (if_pos c7).symm.trans hf
        refine rs_ifT i_X7_cooks_28 (ct_ne c7) (tg := 34) (by decide) ?_
        refine rs_aload_n i_X7_cooks_34 rfl ?_
        refine rs_aload_n i_X7_cooks_35 rfl ?_
        obtain ⟨c8, hf⟩ := ite_some hf
        obtain ⟨a9, e9, hf⟩ := bind_some hf
        refine rs_getR i_X7_cooks_36 (by decide) (by decide) c8 e9 ?_
        refine rs_iload_n i_X7_cooks_39 rfl ?_
        refine rs_iconst i_X7_cooks_40 (v := (-1)) (by decide) ?_
        refine rs_iconst i_X7_cooks_41 (v := (-1)) (by decide) ?_
        obtain ⟨o10, e10, hf⟩ := bind_some hf
        refine rs_inV i_X7_cooks_42 m_X7_make rfl (As := [.ref a9, .int v1, .int (-1), .int (-1)]) (rest := []) rfl rfl (Nat.le_of_ble_eq_true rfl) c8 (c_X7_make (by omega) e10) (st' := []) rfl ?_
        refine rs_aload_n i_X7_cooks_45 rfl ?_
        obtain ⟨c11, hf⟩ := ite_some hf
        obtain ⟨a12, e12, hf⟩ := bind_some hf
        refine rs_getR i_X7_cooks_46 (by decide) (by decide) c11 e12 ?_
        refine rs_iload_n i_X7_cooks_49 rfl ?_
        refine rs_iload_n i_X7_cooks_50 rfl ?_
        obtain ⟨c14, hf⟩ := ite_some hf
        obtain ⟨o13, e13, hf⟩ := bind_some hf
        refine rs_inV i_X7_cooks_51 m_X3_cooked rfl (As := [.int v2, .int v3]) (rest := []) rfl rfl (Nat.le_of_ble_eq_true rfl) c14 (c_X3_cooked (by omega) e13) (st' := [.int o13.1]) rfl ?_
        have hf := Option.some.inj hf
        subst hf
        exact rs_iret i_X7_cooks_54 m_X7_cooks rfl
      · replace hf := (if_neg c7).symm.trans hf
        refine rs_ifF i_X7_cooks_28 (cf_ne c7) ?_
        refine rs_bipush i_X7_cooks_31 (v := (-7)) (by decide) ?_
        have hf := Option.some.inj hf
        subst hf
        exact rs_iret i_X7_cooks_33 m_X7_cooks rfl
  · replace hf := (if_neg c3).symm.trans hf
    refine rs_ifF i_X7_cooks_5 (cf_ne c3) ?_
    refine rs_bipush i_X7_cooks_8 (v := (-5)) (by decide) ?_
    have hf := Option.some.inj hf
    subst hf
    exact rs_iret i_X7_cooks_10 m_X7_cooks rfl
def f_X7_cooks (n : Nat) (v0 : Nat) (v1 : Int32) (v2 : Int32) (v3 : Int32) (h : Hp) : Option (Int32 × Hp) := f_X7_cooks_0 n v0 v1 v2 v3 h
theorem c_X7_cooks {X : Nat → Int32} {d : Nat} (hd : 7 ≤ d) {n : Nat} {v0 : Nat} {v1 : Int32} {v2 : Int32} {v3 : Int32} {h : Hp} {o : (Int32 × Hp)} (hf : f_X7_cooks n v0 v1 v2 v3 h = some o) : Calls X d 92 [.ref v0, .int v1, .int v2, .int v3] h (some (.int o.1), o.2) := by
  obtain ⟨d, rfl⟩ : ∃ z, d = z + 1 := ⟨d - 1, by omega⟩
  exact ⟨_, rfl, r_X7_cooks_0 hd hf⟩
theorem i_X7_pot_0 : fetch 93 0 = some (.aload_n 0, 1, 0, 0, 0, 0) := by decide +kernel
theorem i_X7_pot_1 : fetch 93 1 = some (.iload_n 1, 2, 0, 0, 0, 0) := by decide +kernel
theorem i_X7_pot_2 : fetch 93 2 = some (.invokevirtual 151, 5, 113, 0, 0, 584) := by decide +kernel
theorem i_X7_pot_5 : fetch 93 5 = some (.ifCond .ne 6, 8, 0, 0, 0, 0) := by decide +kernel
theorem i_X7_pot_8 : fetch 93 8 = some (.bipush (-5), 10, 0, 0, 0, 0) := by decide +kernel
theorem i_X7_pot_10 : fetch 93 10 = some (.ireturn, 11, 0, 0, 0, 0) := by decide +kernel
theorem i_X7_pot_11 : fetch 93 11 = some (.aload_n 0, 12, 0, 0, 0, 0) := by decide +kernel
theorem i_X7_pot_12 : fetch 93 12 = some (.aload_n 0, 13, 0, 0, 0, 0) := by decide +kernel
theorem i_X7_pot_13 : fetch 93 13 = some (.getfield 10, 16, 7, 0, 0, 483) := by decide +kernel
theorem i_X7_pot_16 : fetch 93 16 = some (.iload_n 1, 17, 0, 0, 0, 0) := by decide +kernel
theorem i_X7_pot_17 : fetch 93 17 = some (.iconst (-1), 18, 0, 0, 0, 0) := by decide +kernel
theorem i_X7_pot_18 : fetch 93 18 = some (.iconst (-1), 19, 0, 0, 0, 0) := by decide +kernel
theorem i_X7_pot_19 : fetch 93 19 = some (.invokevirtual 154, 22, 118, 0, 0, 588) := by decide +kernel
theorem i_X7_pot_22 : fetch 93 22 = some (.iconst 0, 23, 0, 0, 0, 0) := by decide +kernel
theorem i_X7_pot_23 : fetch 93 23 = some (.istore_n 2, 24, 0, 0, 0, 0) := by decide +kernel
theorem i_X7_pot_24 : fetch 93 24 = some (.iconst 0, 25, 0, 0, 0, 0) := by decide +kernel
theorem i_X7_pot_25 : fetch 93 25 = some (.istore_n 3, 26, 0, 0, 0, 0) := by decide +kernel
theorem i_X7_pot_26 : fetch 93 26 = some (.iconst 0, 27, 0, 0, 0, 0) := by decide +kernel
theorem i_X7_pot_27 : fetch 93 27 = some (.istore 4, 29, 0, 0, 0, 0) := by decide +kernel
theorem i_X7_pot_29 : fetch 93 29 = some (.iload 4, 31, 0, 0, 0, 0) := by decide +kernel
theorem i_X7_pot_31 : fetch 93 31 = some (.bipush 12, 33, 0, 0, 0, 0) := by decide +kernel
theorem i_X7_pot_33 : fetch 93 33 = some (.if_icmp .ge 56, 36, 0, 0, 0, 0) := by decide +kernel
theorem i_X7_pot_36 : fetch 93 36 = some (.aload_n 0, 37, 0, 0, 0, 0) := by decide +kernel
theorem i_X7_pot_37 : fetch 93 37 = some (.getfield 82, 40, 7, 7, 0, 490) := by decide +kernel
theorem i_X7_pot_40 : fetch 93 40 = some (.iload 4, 42, 0, 0, 0, 0) := by decide +kernel
theorem i_X7_pot_42 : fetch 93 42 = some (.invokevirtual 158, 45, 39, 0, 0, 700) := by decide +kernel
theorem i_X7_pot_45 : fetch 93 45 = some (.istore 5, 47, 0, 0, 0, 0) := by decide +kernel
theorem i_X7_pot_47 : fetch 93 47 = some (.aload_n 0, 48, 0, 0, 0, 0) := by decide +kernel
theorem i_X7_pot_48 : fetch 93 48 = some (.getfield 82, 51, 7, 7, 0, 490) := by decide +kernel
theorem i_X7_pot_51 : fetch 93 51 = some (.iload 5, 53, 0, 0, 0, 0) := by decide +kernel
theorem i_X7_pot_53 : fetch 93 53 = some (.iconst 1, 54, 0, 0, 0, 0) := by decide +kernel
theorem i_X7_pot_54 : fetch 93 54 = some (.invokevirtual 270, 57, 47, 0, 0, 849) := by decide +kernel
theorem i_X7_pot_57 : fetch 93 57 = some (.istore 6, 59, 0, 0, 0, 0) := by decide +kernel
theorem i_X7_pot_59 : fetch 93 59 = some (.iload 6, 61, 0, 0, 0, 0) := by decide +kernel
theorem i_X7_pot_61 : fetch 93 61 = some (.iload_n 3, 62, 0, 0, 0, 0) := by decide +kernel
theorem i_X7_pot_62 : fetch 93 62 = some (.if_icmp .gt 15, 65, 0, 0, 0, 0) := by decide +kernel
theorem i_X7_pot_65 : fetch 93 65 = some (.iload 6, 67, 0, 0, 0, 0) := by decide +kernel
theorem i_X7_pot_67 : fetch 93 67 = some (.iload_n 3, 68, 0, 0, 0, 0) := by decide +kernel
theorem i_X7_pot_68 : fetch 93 68 = some (.if_icmp .ne 15, 71, 0, 0, 0, 0) := by decide +kernel
theorem i_X7_pot_71 : fetch 93 71 = some (.iload 5, 73, 0, 0, 0, 0) := by decide +kernel
theorem i_X7_pot_73 : fetch 93 73 = some (.iload_n 2, 74, 0, 0, 0, 0) := by decide +kernel
theorem i_X7_pot_74 : fetch 93 74 = some (.if_icmp .ge 9, 77, 0, 0, 0, 0) := by decide +kernel
theorem i_X7_pot_77 : fetch 93 77 = some (.iload 6, 79, 0, 0, 0, 0) := by decide +kernel
theorem i_X7_pot_79 : fetch 93 79 = some (.istore_n 3, 80, 0, 0, 0, 0) := by decide +kernel
theorem i_X7_pot_80 : fetch 93 80 = some (.iload 5, 82, 0, 0, 0, 0) := by decide +kernel
theorem i_X7_pot_82 : fetch 93 82 = some (.istore_n 2, 83, 0, 0, 0, 0) := by decide +kernel
theorem i_X7_pot_83 : fetch 93 83 = some (.iinc 4 1, 86, 0, 0, 0, 0) := by decide +kernel
theorem i_X7_pot_86 : fetch 93 86 = some (.goto (-57), 89, 0, 0, 0, 0) := by decide +kernel
theorem i_X7_pot_89 : fetch 93 89 = some (.iload_n 2, 90, 0, 0, 0, 0) := by decide +kernel
theorem i_X7_pot_90 : fetch 93 90 = some (.ireturn, 91, 0, 0, 0, 0) := by decide +kernel
def f_X7_pot_83 (n : Nat) (K29 : Nat → Int32 → Int32 → Int32 → Hp → Option (Int32 × Hp)) (v0 : Nat) (v2 : Int32) (v3 : Int32) (v4 : Int32) (h : Hp) : Option (Int32 × Hp) :=
  K29 v0 v2 v3 (v4 + 1) h
set_option maxRecDepth 100000 in
set_option maxHeartbeats 4000000 in
theorem r_X7_pot_83 {X : Nat → Int32} {d : Nat} (hd : 7 ≤ (d + 1)) {n : Nat} {K29 : Nat → Int32 → Int32 → Int32 → Hp → Option (Int32 × Hp)} (HK29 : ∀ (v0 : Nat) (v2 : Int32) (v3 : Int32) (v4 : Int32) (d1 : Int32) (w5 : Option Value) (w6 : Option Value) (h : Hp) (o : (Int32 × Hp)), K29 v0 v2 v3 v4 h = some o → Run X (d + 1) 93 29 [some (.ref v0), some (.int d1), some (.int v2), some (.int v3), some (.int v4), w5, w6] [] h (some (.int o.1), o.2)) {v0 : Nat} {v2 : Int32} {v3 : Int32} {v4 : Int32} {d1 : Int32} {d5 : Int32} {d6 : Int32} {h : Hp} {o : (Int32 × Hp)} (hf : f_X7_pot_83 n K29 v0 v2 v3 v4 h = some o) : Run X (d + 1) 93 83 [some (.ref v0), some (.int d1), some (.int v2), some (.int v3), some (.int v4), some (.int d5), some (.int d6)] [] h (some (.int o.1), o.2) := by
  unfold f_X7_pot_83 at hf
  refine rs_iinc i_X7_pot_83 rfl (v := v4 + 1) rfl (Nat.le_of_ble_eq_true rfl) (lv' := [some (.ref v0), some (.int d1), some (.int v2), some (.int v3), some (.int (v4 + 1)), some (.int d5), some (.int d6)]) rfl ?_
  refine rs_goto i_X7_pot_86 (tg := 29) (by decide) ?_
  exact HK29 _ _ _ _ _ _ _ _ _ hf
def f_X7_pot_77 (n : Nat) (K29 : Nat → Int32 → Int32 → Int32 → Hp → Option (Int32 × Hp)) (v0 : Nat) (v4 : Int32) (v5 : Int32) (v6 : Int32) (h : Hp) : Option (Int32 × Hp) :=
  f_X7_pot_83 n K29 v0 v5 v6 v4 h
set_option maxRecDepth 100000 in
set_option maxHeartbeats 4000000 in
theorem r_X7_pot_77 {X : Nat → Int32} {d : Nat} (hd : 7 ≤ (d + 1)) {n : Nat} {K29 : Nat → Int32 → Int32 → Int32 → Hp → Option (Int32 × Hp)} (HK29 : ∀ (v0 : Nat) (v2 : Int32) (v3 : Int32) (v4 : Int32) (d1 : Int32) (w5 : Option Value) (w6 : Option Value) (h : Hp) (o : (Int32 × Hp)), K29 v0 v2 v3 v4 h = some o → Run X (d + 1) 93 29 [some (.ref v0), some (.int d1), some (.int v2), some (.int v3), some (.int v4), w5, w6] [] h (some (.int o.1), o.2)) {v0 : Nat} {v4 : Int32} {v5 : Int32} {v6 : Int32} {d1 : Int32} {d2 : Int32} {d3 : Int32} {h : Hp} {o : (Int32 × Hp)} (hf : f_X7_pot_77 n K29 v0 v4 v5 v6 h = some o) : Run X (d + 1) 93 77 [some (.ref v0), some (.int d1), some (.int d2), some (.int d3), some (.int v4), some (.int v5), some (.int v6)] [] h (some (.int o.1), o.2) := by
  unfold f_X7_pot_77 at hf
  refine rs_iload i_X7_pot_77 rfl ?_
  refine rs_istore_n i_X7_pot_79 (Nat.le_of_ble_eq_true rfl) (lv' := [some (.ref v0), some (.int d1), some (.int d2), some (.int v6), some (.int v4), some (.int v5), some (.int v6)]) rfl ?_
  refine rs_iload i_X7_pot_80 rfl ?_
  refine rs_istore_n i_X7_pot_82 (Nat.le_of_ble_eq_true rfl) (lv' := [some (.ref v0), some (.int d1), some (.int v5), some (.int v6), some (.int v4), some (.int v5), some (.int v6)]) rfl ?_
  exact r_X7_pot_83 hd HK29 hf
def f_X7_pot_29 (n : Nat) : Nat → Nat → Int32 → Int32 → Int32 → Hp → Option (Int32 × Hp)
  | 0, _, _, _, _, _ => none
  | m + 1, v0, v2, v3, v4, h =>
    if 12 ≤ v4 then
      some (v2, h)
    else
      if okO h v0 7 then
      (gR h v0 7).bind fun a3 =>
      if okO h a3 3 then
      (f_X3_thick a3 v4 h).bind fun o4 =>
      if okO o4.2 v0 7 then
      (gR o4.2 v0 7).bind fun a7 =>
      if okO o4.2 a7 3 then
      (f_X3_cooked n a7 o4.1 1 o4.2).bind fun o8 =>
      if v3 < o8.1 then
        f_X7_pot_77 n (f_X7_pot_29 n m) v0 v4 o4.1 o8.1 o8.2
      else
        if o8.1 ≠ v3 then
          f_X7_pot_83 n (f_X7_pot_29 n m) v0 v2 v3 v4 o8.2
        else
          if v2 ≤ o4.1 then
            f_X7_pot_83 n (f_X7_pot_29 n m) v0 v2 v3 v4 o8.2
          else
            f_X7_pot_77 n (f_X7_pot_29 n m) v0 v4 o4.1 o8.1 o8.2
      else none
      else none
      else none
      else none
set_option maxRecDepth 100000 in
set_option maxHeartbeats 4000000 in
theorem r_X7_pot_29 {X : Nat → Int32} {d : Nat} (hd : 7 ≤ (d + 1)) {n : Nat} : ∀ (m : Nat) (v0 : Nat) (v2 : Int32) (v3 : Int32) (v4 : Int32) (d1 : Int32) (w5 : Option Value) (w6 : Option Value) (h : Hp) (o : (Int32 × Hp)), f_X7_pot_29 n m v0 v2 v3 v4 h = some o → Run X (d + 1) 93 29 [some (.ref v0), some (.int d1), some (.int v2), some (.int v3), some (.int v4), w5, w6] [] h (some (.int o.1), o.2) := by
  intro m
  induction m with
  | zero => intro v0 v2 v3 v4 d1 w5 w6 h o hf; cases hf
  | succ m ih =>
    intro v0 v2 v3 v4 d1 w5 w6 h o hf
    rw [f_X7_pot_29] at hf
    refine rs_iload i_X7_pot_29 rfl ?_
    refine rs_bipush i_X7_pot_31 (v := 12) (by decide) ?_
    by_cases c1 : 12 ≤ v4
    · replace hf := (if_pos c1).symm.trans hf
      refine rs_icT i_X7_pot_33 (ct_ge c1) (tg := 89) (by decide) ?_
      refine rs_iload_n i_X7_pot_89 rfl ?_
      have hf := Option.some.inj hf
      subst hf
      exact rs_iret i_X7_pot_90 m_X7_pot rfl
    · replace hf := (if_neg c1).symm.trans hf
      refine rs_icF i_X7_pot_33 (cf_ge c1) ?_
      refine rs_aload_n i_X7_pot_36 rfl ?_
      obtain ⟨c2, hf⟩ := ite_some hf
      obtain ⟨a3, e3, hf⟩ := bind_some hf
      refine rs_getR i_X7_pot_37 (by decide) (by decide) c2 e3 ?_
      refine rs_iload i_X7_pot_40 rfl ?_
      obtain ⟨c5, hf⟩ := ite_some hf
      obtain ⟨o4, e4, hf⟩ := bind_some hf
      refine rs_inV i_X7_pot_42 m_X3_thick rfl (As := [.int v4]) (rest := []) rfl rfl (Nat.le_of_ble_eq_true rfl) c5 (c_X3_thick (by omega) e4) (st' := [.int o4.1]) rfl ?_
      refine rs_istore i_X7_pot_45 (Nat.le_of_ble_eq_true rfl) (lv' := [some (.ref v0), some (.int d1), some (.int v2), some (.int v3), some (.int v4), some (.int o4.1), w6]) rfl ?_
      refine rs_aload_n i_X7_pot_47 rfl ?_
      obtain ⟨c6, hf⟩ := ite_some hf
      obtain ⟨a7, e7, hf⟩ := bind_some hf
      refine rs_getR i_X7_pot_48 (by decide) (by decide) c6 e7 ?_
      refine rs_iload i_X7_pot_51 rfl ?_
      refine rs_iconst i_X7_pot_53 (v := 1) (by decide) ?_
      obtain ⟨c9, hf⟩ := ite_some hf
      obtain ⟨o8, e8, hf⟩ := bind_some hf
      refine rs_inV i_X7_pot_54 m_X3_cooked rfl (As := [.int o4.1, .int 1]) (rest := []) rfl rfl (Nat.le_of_ble_eq_true rfl) c9 (c_X3_cooked (by omega) e8) (st' := [.int o8.1]) rfl ?_
      refine rs_istore i_X7_pot_57 (Nat.le_of_ble_eq_true rfl) (lv' := [some (.ref v0), some (.int d1), some (.int v2), some (.int v3), some (.int v4), some (.int o4.1), some (.int o8.1)]) rfl ?_
      refine rs_iload i_X7_pot_59 rfl ?_
      refine rs_iload_n i_X7_pot_61 rfl ?_
      by_cases c10 : v3 < o8.1
      · replace hf := (if_pos c10).symm.trans hf
        refine rs_icT i_X7_pot_62 (ct_gt c10) (tg := 77) (by decide) ?_
        exact r_X7_pot_77 hd ih hf
      · replace hf := (if_neg c10).symm.trans hf
        refine rs_icF i_X7_pot_62 (cf_gt c10) ?_
        refine rs_iload i_X7_pot_65 rfl ?_
        refine rs_iload_n i_X7_pot_67 rfl ?_
        by_cases c11 : o8.1 ≠ v3
        · replace hf := (if_pos c11).symm.trans hf
          refine rs_icT i_X7_pot_68 (ct_ne c11) (tg := 83) (by decide) ?_
          exact r_X7_pot_83 hd ih hf
        · replace hf := (if_neg c11).symm.trans hf
          refine rs_icF i_X7_pot_68 (cf_ne c11) ?_
          refine rs_iload i_X7_pot_71 rfl ?_
          refine rs_iload_n i_X7_pot_73 rfl ?_
          by_cases c12 : v2 ≤ o4.1
          · replace hf := (if_pos c12).symm.trans hf
            refine rs_icT i_X7_pot_74 (ct_ge c12) (tg := 83) (by decide) ?_
            exact r_X7_pot_83 hd ih hf
          · replace hf := (if_neg c12).symm.trans hf
            refine rs_icF i_X7_pot_74 (cf_ge c12) ?_
            exact r_X7_pot_77 hd ih hf
def f_X7_pot_0 (n : Nat) (v0 : Nat) (v1 : Int32) (h : Hp) : Option (Int32 × Hp) :=
  if okO h v0 7 then
  (f_X7_areSteps v0 v1 h).bind fun o1 =>
  if o1.1 ≠ 0 then
    if okO o1.2 v0 7 then
    (gR o1.2 v0 0).bind fun a5 =>
    (f_X7_make n v0 a5 v1 (-1) (-1) o1.2).bind fun o6 =>
    f_X7_pot_29 n n v0 0 0 0 o6
    else none
  else
    some ((-5), o1.2)
  else none
set_option maxRecDepth 100000 in
set_option maxHeartbeats 4000000 in
theorem r_X7_pot_0 {X : Nat → Int32} {d : Nat} (hd : 7 ≤ (d + 1)) {n : Nat} {v0 : Nat} {v1 : Int32} {h : Hp} {o : (Int32 × Hp)} (hf : f_X7_pot_0 n v0 v1 h = some o) : Run X (d + 1) 93 0 [some (.ref v0), some (.int v1), none, none, none, none, none] [] h (some (.int o.1), o.2) := by
  unfold f_X7_pot_0 at hf
  refine rs_aload_n i_X7_pot_0 rfl ?_
  refine rs_iload_n i_X7_pot_1 rfl ?_
  obtain ⟨c2, hf⟩ := ite_some hf
  obtain ⟨o1, e1, hf⟩ := bind_some hf
  refine rs_inV i_X7_pot_2 m_X7_areSteps rfl (As := [.int v1]) (rest := []) rfl rfl (Nat.le_of_ble_eq_true rfl) c2 (c_X7_areSteps (by omega) e1) (st' := [.int o1.1]) rfl ?_
  by_cases c3 : o1.1 ≠ 0
  · replace hf := (if_pos c3).symm.trans hf
    refine rs_ifT i_X7_pot_5 (ct_ne c3) (tg := 11) (by decide) ?_
    refine rs_aload_n i_X7_pot_11 rfl ?_
    refine rs_aload_n i_X7_pot_12 rfl ?_
    obtain ⟨c4, hf⟩ := ite_some hf
    obtain ⟨a5, e5, hf⟩ := bind_some hf
    refine rs_getR i_X7_pot_13 (by decide) (by decide) c4 e5 ?_
    refine rs_iload_n i_X7_pot_16 rfl ?_
    refine rs_iconst i_X7_pot_17 (v := (-1)) (by decide) ?_
    refine rs_iconst i_X7_pot_18 (v := (-1)) (by decide) ?_
    obtain ⟨o6, e6, hf⟩ := bind_some hf
    refine rs_inV i_X7_pot_19 m_X7_make rfl (As := [.ref a5, .int v1, .int (-1), .int (-1)]) (rest := []) rfl rfl (Nat.le_of_ble_eq_true rfl) c4 (c_X7_make (by omega) e6) (st' := []) rfl ?_
    refine rs_iconst i_X7_pot_22 (v := 0) (by decide) ?_
    refine rs_istore_n i_X7_pot_23 (Nat.le_of_ble_eq_true rfl) (lv' := [some (.ref v0), some (.int v1), some (.int 0), none, none, none, none]) rfl ?_
    refine rs_iconst i_X7_pot_24 (v := 0) (by decide) ?_
    refine rs_istore_n i_X7_pot_25 (Nat.le_of_ble_eq_true rfl) (lv' := [some (.ref v0), some (.int v1), some (.int 0), some (.int 0), none, none, none]) rfl ?_
    refine rs_iconst i_X7_pot_26 (v := 0) (by decide) ?_
    refine rs_istore i_X7_pot_27 (Nat.le_of_ble_eq_true rfl) (lv' := [some (.ref v0), some (.int v1), some (.int 0), some (.int 0), some (.int 0), none, none]) rfl ?_
    exact r_X7_pot_29 hd _ _ _ _ _ _ _ _ _ _ hf
  · replace hf := (if_neg c3).symm.trans hf
    refine rs_ifF i_X7_pot_5 (cf_ne c3) ?_
    refine rs_bipush i_X7_pot_8 (v := (-5)) (by decide) ?_
    have hf := Option.some.inj hf
    subst hf
    exact rs_iret i_X7_pot_10 m_X7_pot rfl
def f_X7_pot (n : Nat) (v0 : Nat) (v1 : Int32) (h : Hp) : Option (Int32 × Hp) := f_X7_pot_0 n v0 v1 h
theorem c_X7_pot {X : Nat → Int32} {d : Nat} (hd : 7 ≤ d) {n : Nat} {v0 : Nat} {v1 : Int32} {h : Hp} {o : (Int32 × Hp)} (hf : f_X7_pot n v0 v1 h = some o) : Calls X d 93 [.ref v0, .int v1] h (some (.int o.1), o.2) := by
  obtain ⟨d, rfl⟩ : ∃ z, d = z + 1 := ⟨d - 1, by omega⟩
  exact ⟨_, rfl, r_X7_pot_0 hd hf⟩
theorem i_X7_isPlace_0 : fetch 115 0 = some (.iload_n 0, 1, 0, 0, 0, 0) := by decide +kernel
theorem i_X7_isPlace_1 : fetch 115 1 = some (.iconst 0, 2, 0, 0, 0, 0) := by decide +kernel
theorem i_X7_isPlace_2 : fetch 115 2 = some (.sipush 4095, 5, 0, 0, 0, 0) := by decide +kernel
theorem i_X7_isPlace_5 : fetch 115 5 = some (.invokestatic 112, 8, 110, 0, 0, 534) := by decide +kernel
theorem i_X7_isPlace_8 : fetch 115 8 = some (.ireturn, 9, 0, 0, 0, 0) := by decide +kernel
def f_X7_isPlace_0 (v0 : Int32) (h : Hp) : Option (Int32 × Hp) :=
  (f_X7_within v0 0 4095 h).bind fun o1 =>
  if o1.1 = 0 ∨ o1.1 = 1 then
  some (o1.1, o1.2)
  else none
set_option maxRecDepth 100000 in
set_option maxHeartbeats 4000000 in
theorem r_X7_isPlace_0 {X : Nat → Int32} {d : Nat} (hd : 1 ≤ (d + 1)) {v0 : Int32} {h : Hp} {o : (Int32 × Hp)} (hf : f_X7_isPlace_0 v0 h = some o) : Run X (d + 1) 115 0 [some (.int v0)] [] h (some (.int o.1), o.2) := by
  unfold f_X7_isPlace_0 at hf
  refine rs_iload_n i_X7_isPlace_0 rfl ?_
  refine rs_iconst i_X7_isPlace_1 (v := 0) (by decide) ?_
  refine rs_sipush i_X7_isPlace_2 (v := 4095) (by decide) ?_
  obtain ⟨o1, e1, hf⟩ := bind_some hf
  refine rs_inS i_X7_isPlace_5 (by decide) m_X7_within rfl (As := [.int v0, .int 0, .int 4095]) (rest := []) rfl rfl (Nat.le_of_ble_eq_true rfl) (c_X7_within (by omega) e1) (st' := [.int o1.1]) rfl ?_
  obtain ⟨c2, hf⟩ := ite_some hf
  have hf := Option.some.inj hf
  subst hf
  exact rs_iret i_X7_isPlace_8 m_X7_isPlace (decide_eq_true c2)
def f_X7_isPlace (v0 : Int32) (h : Hp) : Option (Int32 × Hp) := f_X7_isPlace_0 v0 h
theorem c_X7_isPlace {X : Nat → Int32} {d : Nat} (hd : 1 ≤ d) {v0 : Int32} {h : Hp} {o : (Int32 × Hp)} (hf : f_X7_isPlace v0 h = some o) : Calls X d 115 [.int v0] h (some (.int o.1), o.2) := by
  obtain ⟨d, rfl⟩ : ∃ z, d = z + 1 := ⟨d - 1, by omega⟩
  exact ⟨_, rfl, r_X7_isPlace_0 hd hf⟩
theorem i_X7_placeBehind_0 : fetch 121 0 = some (.iload_n 0, 1, 0, 0, 0, 0) := by decide +kernel
theorem i_X7_placeBehind_1 : fetch 121 1 = some (.istore_n 2, 2, 0, 0, 0, 0) := by decide +kernel
theorem i_X7_placeBehind_2 : fetch 121 2 = some (.iconst 0, 3, 0, 0, 0, 0) := by decide +kernel
theorem i_X7_placeBehind_3 : fetch 121 3 = some (.istore_n 3, 4, 0, 0, 0, 0) := by decide +kernel
theorem i_X7_placeBehind_4 : fetch 121 4 = some (.iload_n 3, 5, 0, 0, 0, 0) := by decide +kernel
theorem i_X7_placeBehind_5 : fetch 121 5 = some (.iload_n 1, 6, 0, 0, 0, 0) := by decide +kernel
theorem i_X7_placeBehind_6 : fetch 121 6 = some (.if_icmp .ge 32, 9, 0, 0, 0, 0) := by decide +kernel
theorem i_X7_placeBehind_9 : fetch 121 9 = some (.iload_n 2, 10, 0, 0, 0, 0) := by decide +kernel
theorem i_X7_placeBehind_10 : fetch 121 10 = some (.sipush 2048, 13, 0, 0, 0, 0) := by decide +kernel
theorem i_X7_placeBehind_13 : fetch 121 13 = some (.if_icmp .ge 9, 16, 0, 0, 0, 0) := by decide +kernel
theorem i_X7_placeBehind_16 : fetch 121 16 = some (.iconst 2, 17, 0, 0, 0, 0) := by decide +kernel
theorem i_X7_placeBehind_17 : fetch 121 17 = some (.iload_n 2, 18, 0, 0, 0, 0) := by decide +kernel
theorem i_X7_placeBehind_18 : fetch 121 18 = some (.imul, 19, 0, 0, 0, 0) := by decide +kernel
theorem i_X7_placeBehind_19 : fetch 121 19 = some (.goto 12, 22, 0, 0, 0, 0) := by decide +kernel
theorem i_X7_placeBehind_22 : fetch 121 22 = some (.iconst 2, 23, 0, 0, 0, 0) := by decide +kernel
theorem i_X7_placeBehind_23 : fetch 121 23 = some (.sipush 4095, 26, 0, 0, 0, 0) := by decide +kernel
theorem i_X7_placeBehind_26 : fetch 121 26 = some (.iload_n 2, 27, 0, 0, 0, 0) := by decide +kernel
theorem i_X7_placeBehind_27 : fetch 121 27 = some (.isub, 28, 0, 0, 0, 0) := by decide +kernel
theorem i_X7_placeBehind_28 : fetch 121 28 = some (.imul, 29, 0, 0, 0, 0) := by decide +kernel
theorem i_X7_placeBehind_29 : fetch 121 29 = some (.iconst 1, 30, 0, 0, 0, 0) := by decide +kernel
theorem i_X7_placeBehind_30 : fetch 121 30 = some (.iadd, 31, 0, 0, 0, 0) := by decide +kernel
theorem i_X7_placeBehind_31 : fetch 121 31 = some (.istore_n 2, 32, 0, 0, 0, 0) := by decide +kernel
theorem i_X7_placeBehind_32 : fetch 121 32 = some (.iinc 3 1, 35, 0, 0, 0, 0) := by decide +kernel
theorem i_X7_placeBehind_35 : fetch 121 35 = some (.goto (-31), 38, 0, 0, 0, 0) := by decide +kernel
theorem i_X7_placeBehind_38 : fetch 121 38 = some (.iload_n 2, 39, 0, 0, 0, 0) := by decide +kernel
theorem i_X7_placeBehind_39 : fetch 121 39 = some (.ireturn, 40, 0, 0, 0, 0) := by decide +kernel
def f_X7_placeBehind_31 (n : Nat) (K4 : Int32 → Int32 → Int32 → Hp → Option (Int32 × Hp)) (v1 : Int32) (v3 : Int32) (s0 : Int32) (h : Hp) : Option (Int32 × Hp) :=
  K4 v1 s0 (v3 + 1) h
set_option maxRecDepth 100000 in
set_option maxHeartbeats 4000000 in
theorem r_X7_placeBehind_31 {X : Nat → Int32} {d : Nat} (hd : 0 ≤ d) {n : Nat} {K4 : Int32 → Int32 → Int32 → Hp → Option (Int32 × Hp)} (HK4 : ∀ (v1 : Int32) (v2 : Int32) (v3 : Int32) (d0 : Int32) (h : Hp) (o : (Int32 × Hp)), K4 v1 v2 v3 h = some o → Run X d 121 4 [some (.int d0), some (.int v1), some (.int v2), some (.int v3)] [] h (some (.int o.1), o.2)) {v1 : Int32} {v3 : Int32} {s0 : Int32} {d0 : Int32} {d2 : Int32} {h : Hp} {o : (Int32 × Hp)} (hf : f_X7_placeBehind_31 n K4 v1 v3 s0 h = some o) : Run X d 121 31 [some (.int d0), some (.int v1), some (.int d2), some (.int v3)] [.int s0] h (some (.int o.1), o.2) := by
  unfold f_X7_placeBehind_31 at hf
  refine rs_istore_n i_X7_placeBehind_31 (Nat.le_of_ble_eq_true rfl) (lv' := [some (.int d0), some (.int v1), some (.int s0), some (.int v3)]) rfl ?_
  refine rs_iinc i_X7_placeBehind_32 rfl (v := v3 + 1) rfl (Nat.le_of_ble_eq_true rfl) (lv' := [some (.int d0), some (.int v1), some (.int s0), some (.int (v3 + 1))]) rfl ?_
  refine rs_goto i_X7_placeBehind_35 (tg := 4) (by decide) ?_
  exact HK4 _ _ _ _ _ _ hf
def f_X7_placeBehind_4 (n : Nat) : Nat → Int32 → Int32 → Int32 → Hp → Option (Int32 × Hp)
  | 0, _, _, _, _ => none
  | m + 1, v1, v2, v3, h =>
    if v1 ≤ v3 then
      some (v2, h)
    else
      if 2048 ≤ v2 then
        f_X7_placeBehind_31 n (f_X7_placeBehind_4 n m) v1 v3 ((2 * (4095 - v2)) + 1) h
      else
        f_X7_placeBehind_31 n (f_X7_placeBehind_4 n m) v1 v3 (2 * v2) h
set_option maxRecDepth 100000 in
set_option maxHeartbeats 4000000 in
theorem r_X7_placeBehind_4 {X : Nat → Int32} {d : Nat} (hd : 0 ≤ d) {n : Nat} : ∀ (m : Nat) (v1 : Int32) (v2 : Int32) (v3 : Int32) (d0 : Int32) (h : Hp) (o : (Int32 × Hp)), f_X7_placeBehind_4 n m v1 v2 v3 h = some o → Run X d 121 4 [some (.int d0), some (.int v1), some (.int v2), some (.int v3)] [] h (some (.int o.1), o.2) := by
  intro m
  induction m with
  | zero => intro v1 v2 v3 d0 h o hf; cases hf
  | succ m ih =>
    intro v1 v2 v3 d0 h o hf
    rw [f_X7_placeBehind_4] at hf
    refine rs_iload_n i_X7_placeBehind_4 rfl ?_
    refine rs_iload_n i_X7_placeBehind_5 rfl ?_
    by_cases c1 : v1 ≤ v3
    · replace hf := (if_pos c1).symm.trans hf
      refine rs_icT i_X7_placeBehind_6 (ct_ge c1) (tg := 38) (by decide) ?_
      refine rs_iload_n i_X7_placeBehind_38 rfl ?_
      have hf := Option.some.inj hf
      subst hf
      exact rs_iret i_X7_placeBehind_39 m_X7_placeBehind rfl
    · replace hf := (if_neg c1).symm.trans hf
      refine rs_icF i_X7_placeBehind_6 (cf_ge c1) ?_
      refine rs_iload_n i_X7_placeBehind_9 rfl ?_
      refine rs_sipush i_X7_placeBehind_10 (v := 2048) (by decide) ?_
      by_cases c2 : 2048 ≤ v2
      · replace hf := (if_pos c2).symm.trans hf
        refine rs_icT i_X7_placeBehind_13 (ct_ge c2) (tg := 22) (by decide) ?_
        refine rs_iconst i_X7_placeBehind_22 (v := 2) (by decide) ?_
        refine rs_sipush i_X7_placeBehind_23 (v := 4095) (by decide) ?_
        refine rs_iload_n i_X7_placeBehind_26 rfl ?_
        refine rs_isub i_X7_placeBehind_27 ?_
        refine rs_imul i_X7_placeBehind_28 ?_
        refine rs_iconst i_X7_placeBehind_29 (v := 1) (by decide) ?_
        refine rs_iadd i_X7_placeBehind_30 ?_
        exact r_X7_placeBehind_31 hd ih hf
      · replace hf := (if_neg c2).symm.trans hf
        refine rs_icF i_X7_placeBehind_13 (cf_ge c2) ?_
        refine rs_iconst i_X7_placeBehind_16 (v := 2) (by decide) ?_
        refine rs_iload_n i_X7_placeBehind_17 rfl ?_
        refine rs_imul i_X7_placeBehind_18 ?_
        refine rs_goto i_X7_placeBehind_19 (tg := 31) (by decide) ?_
        exact r_X7_placeBehind_31 hd ih hf
def f_X7_placeBehind_0 (n : Nat) (v0 : Int32) (v1 : Int32) (h : Hp) : Option (Int32 × Hp) :=
  f_X7_placeBehind_4 n n v1 v0 0 h
set_option maxRecDepth 100000 in
set_option maxHeartbeats 4000000 in
theorem r_X7_placeBehind_0 {X : Nat → Int32} {d : Nat} (hd : 0 ≤ d) {n : Nat} {v0 : Int32} {v1 : Int32} {h : Hp} {o : (Int32 × Hp)} (hf : f_X7_placeBehind_0 n v0 v1 h = some o) : Run X d 121 0 [some (.int v0), some (.int v1), none, none] [] h (some (.int o.1), o.2) := by
  unfold f_X7_placeBehind_0 at hf
  refine rs_iload_n i_X7_placeBehind_0 rfl ?_
  refine rs_istore_n i_X7_placeBehind_1 (Nat.le_of_ble_eq_true rfl) (lv' := [some (.int v0), some (.int v1), some (.int v0), none]) rfl ?_
  refine rs_iconst i_X7_placeBehind_2 (v := 0) (by decide) ?_
  refine rs_istore_n i_X7_placeBehind_3 (Nat.le_of_ble_eq_true rfl) (lv' := [some (.int v0), some (.int v1), some (.int v0), some (.int 0)]) rfl ?_
  exact r_X7_placeBehind_4 hd _ _ _ _ _ _ _ hf
def f_X7_placeBehind (n : Nat) (v0 : Int32) (v1 : Int32) (h : Hp) : Option (Int32 × Hp) := f_X7_placeBehind_0 n v0 v1 h
theorem c_X7_placeBehind {X : Nat → Int32} {d : Nat} (hd : 0 ≤ d) {n : Nat} {v0 : Int32} {v1 : Int32} {h : Hp} {o : (Int32 × Hp)} (hf : f_X7_placeBehind n v0 v1 h = some o) : Calls X d 121 [.int v0, .int v1] h (some (.int o.1), o.2) := by
  exact ⟨_, rfl, r_X7_placeBehind_0 hd hf⟩
theorem i_X7_place_0 : fetch 94 0 = some (.iload_n 1, 1, 0, 0, 0, 0) := by decide +kernel
theorem i_X7_place_1 : fetch 94 1 = some (.invokestatic 273, 4, 115, 0, 0, 861) := by decide +kernel
theorem i_X7_place_4 : fetch 94 4 = some (.ifCond .eq 13, 7, 0, 0, 0, 0) := by decide +kernel
theorem i_X7_place_7 : fetch 94 7 = some (.iload_n 2, 8, 0, 0, 0, 0) := by decide +kernel
theorem i_X7_place_8 : fetch 94 8 = some (.iconst 0, 9, 0, 0, 0, 0) := by decide +kernel
theorem i_X7_place_9 : fetch 94 9 = some (.bipush 64, 11, 0, 0, 0, 0) := by decide +kernel
theorem i_X7_place_11 : fetch 94 11 = some (.invokestatic 112, 14, 110, 0, 0, 534) := by decide +kernel
theorem i_X7_place_14 : fetch 94 14 = some (.ifCond .ne 6, 17, 0, 0, 0, 0) := by decide +kernel
theorem i_X7_place_17 : fetch 94 17 = some (.bipush (-2), 19, 0, 0, 0, 0) := by decide +kernel
theorem i_X7_place_19 : fetch 94 19 = some (.ireturn, 20, 0, 0, 0, 0) := by decide +kernel
theorem i_X7_place_20 : fetch 94 20 = some (.iload_n 1, 21, 0, 0, 0, 0) := by decide +kernel
theorem i_X7_place_21 : fetch 94 21 = some (.iload_n 2, 22, 0, 0, 0, 0) := by decide +kernel
theorem i_X7_place_22 : fetch 94 22 = some (.invokestatic 276, 25, 121, 0, 0, 864) := by decide +kernel
theorem i_X7_place_25 : fetch 94 25 = some (.ireturn, 26, 0, 0, 0, 0) := by decide +kernel
def f_X7_place_0 (n : Nat) (v1 : Int32) (v2 : Int32) (h : Hp) : Option (Int32 × Hp) :=
  (f_X7_isPlace v1 h).bind fun o1 =>
  if o1.1 = 0 then
    some ((-2), o1.2)
  else
    (f_X7_within v2 0 64 o1.2).bind fun o3 =>
    if o3.1 ≠ 0 then
      (f_X7_placeBehind n v1 v2 o3.2).bind fun o5 =>
      some (o5.1, o5.2)
    else
      some ((-2), o3.2)
set_option maxRecDepth 100000 in
set_option maxHeartbeats 4000000 in
theorem r_X7_place_0 {X : Nat → Int32} {d : Nat} (hd : 2 ≤ (d + 1)) {n : Nat} {v1 : Int32} {v2 : Int32} {d0 : Nat} {h : Hp} {o : (Int32 × Hp)} (hf : f_X7_place_0 n v1 v2 h = some o) : Run X (d + 1) 94 0 [some (.ref d0), some (.int v1), some (.int v2)] [] h (some (.int o.1), o.2) := by
  unfold f_X7_place_0 at hf
  refine rs_iload_n i_X7_place_0 rfl ?_
  obtain ⟨o1, e1, hf⟩ := bind_some hf
  refine rs_inS i_X7_place_1 (by decide) m_X7_isPlace rfl (As := [.int v1]) (rest := []) rfl rfl (Nat.le_of_ble_eq_true rfl) (c_X7_isPlace (by omega) e1) (st' := [.int o1.1]) rfl ?_
  by_cases c2 : o1.1 = 0
  · replace hf := (if_pos c2).symm.trans hf
    refine rs_ifT i_X7_place_4 (ct_eq c2) (tg := 17) (by decide) ?_
    refine rs_bipush i_X7_place_17 (v := (-2)) (by decide) ?_
    have hf := Option.some.inj hf
    subst hf
    exact rs_iret i_X7_place_19 m_X7_place rfl
  · replace hf := (if_neg c2).symm.trans hf
    refine rs_ifF i_X7_place_4 (cf_eq c2) ?_
    refine rs_iload_n i_X7_place_7 rfl ?_
    refine rs_iconst i_X7_place_8 (v := 0) (by decide) ?_
    refine rs_bipush i_X7_place_9 (v := 64) (by decide) ?_
    obtain ⟨o3, e3, hf⟩ := bind_some hf
    refine rs_inS i_X7_place_11 (by decide) m_X7_within rfl (As := [.int v2, .int 0, .int 64]) (rest := []) rfl rfl (Nat.le_of_ble_eq_true rfl) (c_X7_within (by omega) e3) (st' := [.int o3.1]) rfl ?_
    by_cases c4 : o3.1 ≠ 0
    · replace hf := (if_pos c4).symm.trans hf
      refine rs_ifT i_X7_place_14 (ct_ne c4) (tg := 20) (by decide) ?_
      refine rs_iload_n i_X7_place_20 rfl ?_
      refine rs_iload_n i_X7_place_21 rfl ?_
      obtain ⟨o5, e5, hf⟩ := bind_some hf
      refine rs_inS i_X7_place_22 (by decide) m_X7_placeBehind rfl (As := [.int v1, .int v2]) (rest := []) rfl rfl (Nat.le_of_ble_eq_true rfl) (c_X7_placeBehind (by omega) e5) (st' := [.int o5.1]) rfl ?_
      have hf := Option.some.inj hf
      subst hf
      exact rs_iret i_X7_place_25 m_X7_place rfl
    · replace hf := (if_neg c4).symm.trans hf
      refine rs_ifF i_X7_place_14 (cf_ne c4) ?_
      refine rs_bipush i_X7_place_17 (v := (-2)) (by decide) ?_
      have hf := Option.some.inj hf
      subst hf
      exact rs_iret i_X7_place_19 m_X7_place rfl
def f_X7_place (n : Nat) (v0 : Nat) (v1 : Int32) (v2 : Int32) (h : Hp) : Option (Int32 × Hp) := f_X7_place_0 n v1 v2 h
theorem c_X7_place {X : Nat → Int32} {d : Nat} (hd : 2 ≤ d) {n : Nat} {v0 : Nat} {v1 : Int32} {v2 : Int32} {h : Hp} {o : (Int32 × Hp)} (hf : f_X7_place n v0 v1 v2 h = some o) : Calls X d 94 [.ref v0, .int v1, .int v2] h (some (.int o.1), o.2) := by
  obtain ⟨d, rfl⟩ : ∃ z, d = z + 1 := ⟨d - 1, by omega⟩
  exact ⟨_, rfl, r_X7_place_0 hd hf⟩
theorem i_X7_apart_0 : fetch 95 0 = some (.iload_n 1, 1, 0, 0, 0, 0) := by decide +kernel
theorem i_X7_apart_1 : fetch 95 1 = some (.invokestatic 273, 4, 115, 0, 0, 861) := by decide +kernel
theorem i_X7_apart_4 : fetch 95 4 = some (.ifCond .eq 20, 7, 0, 0, 0, 0) := by decide +kernel
theorem i_X7_apart_7 : fetch 95 7 = some (.iload_n 2, 8, 0, 0, 0, 0) := by decide +kernel
theorem i_X7_apart_8 : fetch 95 8 = some (.invokestatic 273, 11, 115, 0, 0, 861) := by decide +kernel
theorem i_X7_apart_11 : fetch 95 11 = some (.ifCond .eq 13, 14, 0, 0, 0, 0) := by decide +kernel
theorem i_X7_apart_14 : fetch 95 14 = some (.iload_n 3, 15, 0, 0, 0, 0) := by decide +kernel
theorem i_X7_apart_15 : fetch 95 15 = some (.iconst 0, 16, 0, 0, 0, 0) := by decide +kernel
theorem i_X7_apart_16 : fetch 95 16 = some (.bipush 64, 18, 0, 0, 0, 0) := by decide +kernel
theorem i_X7_apart_18 : fetch 95 18 = some (.invokestatic 112, 21, 110, 0, 0, 534) := by decide +kernel
theorem i_X7_apart_21 : fetch 95 21 = some (.ifCond .ne 6, 24, 0, 0, 0, 0) := by decide +kernel
theorem i_X7_apart_24 : fetch 95 24 = some (.bipush (-2), 26, 0, 0, 0, 0) := by decide +kernel
theorem i_X7_apart_26 : fetch 95 26 = some (.ireturn, 27, 0, 0, 0, 0) := by decide +kernel
theorem i_X7_apart_27 : fetch 95 27 = some (.iload_n 1, 28, 0, 0, 0, 0) := by decide +kernel
theorem i_X7_apart_28 : fetch 95 28 = some (.iload_n 3, 29, 0, 0, 0, 0) := by decide +kernel
theorem i_X7_apart_29 : fetch 95 29 = some (.invokestatic 276, 32, 121, 0, 0, 864) := by decide +kernel
theorem i_X7_apart_32 : fetch 95 32 = some (.iload_n 2, 33, 0, 0, 0, 0) := by decide +kernel
theorem i_X7_apart_33 : fetch 95 33 = some (.iload_n 3, 34, 0, 0, 0, 0) := by decide +kernel
theorem i_X7_apart_34 : fetch 95 34 = some (.invokestatic 276, 37, 121, 0, 0, 864) := by decide +kernel
theorem i_X7_apart_37 : fetch 95 37 = some (.isub, 38, 0, 0, 0, 0) := by decide +kernel
theorem i_X7_apart_38 : fetch 95 38 = some (.invokestatic 265, 41, 1002, 0, 0, 842) := by decide +kernel
theorem i_X7_apart_41 : fetch 95 41 = some (.ireturn, 42, 0, 0, 0, 0) := by decide +kernel
def f_X7_apart_0 (n : Nat) (v1 : Int32) (v2 : Int32) (v3 : Int32) (h : Hp) : Option (Int32 × Hp) :=
  (f_X7_isPlace v1 h).bind fun o1 =>
  if o1.1 = 0 then
    some ((-2), o1.2)
  else
    (f_X7_isPlace v2 o1.2).bind fun o3 =>
    if o3.1 = 0 then
      some ((-2), o3.2)
    else
      (f_X7_within v3 0 64 o3.2).bind fun o5 =>
      if o5.1 ≠ 0 then
        (f_X7_placeBehind n v1 v3 o5.2).bind fun o7 =>
        (f_X7_placeBehind n v2 v3 o7.2).bind fun o8 =>
        some ((if 0 ≤ (o7.1 - o8.1) then (o7.1 - o8.1) else 0 - (o7.1 - o8.1)), o8.2)
      else
        some ((-2), o5.2)
set_option maxRecDepth 100000 in
set_option maxHeartbeats 4000000 in
theorem r_X7_apart_0 {X : Nat → Int32} {d : Nat} (hd : 2 ≤ (d + 1)) {n : Nat} {v1 : Int32} {v2 : Int32} {v3 : Int32} {d0 : Nat} {h : Hp} {o : (Int32 × Hp)} (hf : f_X7_apart_0 n v1 v2 v3 h = some o) : Run X (d + 1) 95 0 [some (.ref d0), some (.int v1), some (.int v2), some (.int v3)] [] h (some (.int o.1), o.2) := by
  unfold f_X7_apart_0 at hf
  refine rs_iload_n i_X7_apart_0 rfl ?_
  obtain ⟨o1, e1, hf⟩ := bind_some hf
  refine rs_inS i_X7_apart_1 (by decide) m_X7_isPlace rfl (As := [.int v1]) (rest := []) rfl rfl (Nat.le_of_ble_eq_true rfl) (c_X7_isPlace (by omega) e1) (st' := [.int o1.1]) rfl ?_
  by_cases c2 : o1.1 = 0
  · replace hf := (if_pos c2).symm.trans hf
    refine rs_ifT i_X7_apart_4 (ct_eq c2) (tg := 24) (by decide) ?_
    refine rs_bipush i_X7_apart_24 (v := (-2)) (by decide) ?_
    have hf := Option.some.inj hf
    subst hf
    exact rs_iret i_X7_apart_26 m_X7_apart rfl
  · replace hf := (if_neg c2).symm.trans hf
    refine rs_ifF i_X7_apart_4 (cf_eq c2) ?_
    refine rs_iload_n i_X7_apart_7 rfl ?_
    obtain ⟨o3, e3, hf⟩ := bind_some hf
    refine rs_inS i_X7_apart_8 (by decide) m_X7_isPlace rfl (As := [.int v2]) (rest := []) rfl rfl (Nat.le_of_ble_eq_true rfl) (c_X7_isPlace (by omega) e3) (st' := [.int o3.1]) rfl ?_
    by_cases c4 : o3.1 = 0
    · replace hf := (if_pos c4).symm.trans hf
      refine rs_ifT i_X7_apart_11 (ct_eq c4) (tg := 24) (by decide) ?_
      refine rs_bipush i_X7_apart_24 (v := (-2)) (by decide) ?_
      have hf := Option.some.inj hf
      subst hf
      exact rs_iret i_X7_apart_26 m_X7_apart rfl
    · replace hf := (if_neg c4).symm.trans hf
      refine rs_ifF i_X7_apart_11 (cf_eq c4) ?_
      refine rs_iload_n i_X7_apart_14 rfl ?_
      refine rs_iconst i_X7_apart_15 (v := 0) (by decide) ?_
      refine rs_bipush i_X7_apart_16 (v := 64) (by decide) ?_
      obtain ⟨o5, e5, hf⟩ := bind_some hf
      refine rs_inS i_X7_apart_18 (by decide) m_X7_within rfl (As := [.int v3, .int 0, .int 64]) (rest := []) rfl rfl (Nat.le_of_ble_eq_true rfl) (c_X7_within (by omega) e5) (st' := [.int o5.1]) rfl ?_
      by_cases c6 : o5.1 ≠ 0
      · replace hf := (if_pos c6).symm.trans hf
        refine rs_ifT i_X7_apart_21 (ct_ne c6) (tg := 27) (by decide) ?_
        refine rs_iload_n i_X7_apart_27 rfl ?_
        refine rs_iload_n i_X7_apart_28 rfl ?_
        obtain ⟨o7, e7, hf⟩ := bind_some hf
        refine rs_inS i_X7_apart_29 (by decide) m_X7_placeBehind rfl (As := [.int v1, .int v3]) (rest := []) rfl rfl (Nat.le_of_ble_eq_true rfl) (c_X7_placeBehind (by omega) e7) (st' := [.int o7.1]) rfl ?_
        refine rs_iload_n i_X7_apart_32 rfl ?_
        refine rs_iload_n i_X7_apart_33 rfl ?_
        obtain ⟨o8, e8, hf⟩ := bind_some hf
        refine rs_inS i_X7_apart_34 (by decide) m_X7_placeBehind rfl (As := [.int v2, .int v3]) (rest := [.int o7.1]) rfl rfl (Nat.le_of_ble_eq_true rfl) (c_X7_placeBehind (by omega) e8) (st' := [.int o8.1, .int o7.1]) rfl ?_
        refine rs_isub i_X7_apart_37 ?_
        refine rs_abs i_X7_apart_38 (Nat.le_of_ble_eq_true rfl) ?_
        have hf := Option.some.inj hf
        subst hf
        exact rs_iret i_X7_apart_41 m_X7_apart rfl
      · replace hf := (if_neg c6).symm.trans hf
        refine rs_ifF i_X7_apart_21 (cf_ne c6) ?_
        refine rs_bipush i_X7_apart_24 (v := (-2)) (by decide) ?_
        have hf := Option.some.inj hf
        subst hf
        exact rs_iret i_X7_apart_26 m_X7_apart rfl
def f_X7_apart (n : Nat) (v0 : Nat) (v1 : Int32) (v2 : Int32) (v3 : Int32) (h : Hp) : Option (Int32 × Hp) := f_X7_apart_0 n v1 v2 v3 h
theorem c_X7_apart {X : Nat → Int32} {d : Nat} (hd : 2 ≤ d) {n : Nat} {v0 : Nat} {v1 : Int32} {v2 : Int32} {v3 : Int32} {h : Hp} {o : (Int32 × Hp)} (hf : f_X7_apart n v0 v1 v2 v3 h = some o) : Calls X d 95 [.ref v0, .int v1, .int v2, .int v3] h (some (.int o.1), o.2) := by
  obtain ⟨d, rfl⟩ : ∃ z, d = z + 1 := ⟨d - 1, by omega⟩
  exact ⟨_, rfl, r_X7_apart_0 hd hf⟩
theorem i_X7_parted_0 : fetch 96 0 = some (.iload_n 1, 1, 0, 0, 0, 0) := by decide +kernel
theorem i_X7_parted_1 : fetch 96 1 = some (.invokestatic 273, 4, 115, 0, 0, 861) := by decide +kernel
theorem i_X7_parted_4 : fetch 96 4 = some (.ifCond .eq 17, 7, 0, 0, 0, 0) := by decide +kernel
theorem i_X7_parted_7 : fetch 96 7 = some (.iload_n 2, 8, 0, 0, 0, 0) := by decide +kernel
theorem i_X7_parted_8 : fetch 96 8 = some (.invokestatic 273, 11, 115, 0, 0, 861) := by decide +kernel
theorem i_X7_parted_11 : fetch 96 11 = some (.ifCond .eq 10, 14, 0, 0, 0, 0) := by decide +kernel
theorem i_X7_parted_14 : fetch 96 14 = some (.iload_n 3, 15, 0, 0, 0, 0) := by decide +kernel
theorem i_X7_parted_15 : fetch 96 15 = some (.invokestatic 273, 18, 115, 0, 0, 861) := by decide +kernel
theorem i_X7_parted_18 : fetch 96 18 = some (.ifCond .ne 6, 21, 0, 0, 0, 0) := by decide +kernel
theorem i_X7_parted_21 : fetch 96 21 = some (.bipush (-2), 23, 0, 0, 0, 0) := by decide +kernel
theorem i_X7_parted_23 : fetch 96 23 = some (.ireturn, 24, 0, 0, 0, 0) := by decide +kernel
theorem i_X7_parted_24 : fetch 96 24 = some (.iload_n 1, 25, 0, 0, 0, 0) := by decide +kernel
theorem i_X7_parted_25 : fetch 96 25 = some (.istore 4, 27, 0, 0, 0, 0) := by decide +kernel
theorem i_X7_parted_27 : fetch 96 27 = some (.iload_n 2, 28, 0, 0, 0, 0) := by decide +kernel
theorem i_X7_parted_28 : fetch 96 28 = some (.istore 5, 30, 0, 0, 0, 0) := by decide +kernel
theorem i_X7_parted_30 : fetch 96 30 = some (.iconst 0, 31, 0, 0, 0, 0) := by decide +kernel
theorem i_X7_parted_31 : fetch 96 31 = some (.istore 6, 33, 0, 0, 0, 0) := by decide +kernel
theorem i_X7_parted_33 : fetch 96 33 = some (.iload 6, 35, 0, 0, 0, 0) := by decide +kernel
theorem i_X7_parted_35 : fetch 96 35 = some (.bipush 64, 37, 0, 0, 0, 0) := by decide +kernel
theorem i_X7_parted_37 : fetch 96 37 = some (.if_icmp .gt 40, 40, 0, 0, 0, 0) := by decide +kernel
theorem i_X7_parted_40 : fetch 96 40 = some (.iload 4, 42, 0, 0, 0, 0) := by decide +kernel
theorem i_X7_parted_42 : fetch 96 42 = some (.iload 5, 44, 0, 0, 0, 0) := by decide +kernel
theorem i_X7_parted_44 : fetch 96 44 = some (.isub, 45, 0, 0, 0, 0) := by decide +kernel
theorem i_X7_parted_45 : fetch 96 45 = some (.invokestatic 265, 48, 1002, 0, 0, 842) := by decide +kernel
theorem i_X7_parted_48 : fetch 96 48 = some (.iload_n 3, 49, 0, 0, 0, 0) := by decide +kernel
theorem i_X7_parted_49 : fetch 96 49 = some (.if_icmp .lt 6, 52, 0, 0, 0, 0) := by decide +kernel
theorem i_X7_parted_52 : fetch 96 52 = some (.iload 6, 54, 0, 0, 0, 0) := by decide +kernel
theorem i_X7_parted_54 : fetch 96 54 = some (.ireturn, 55, 0, 0, 0, 0) := by decide +kernel
theorem i_X7_parted_55 : fetch 96 55 = some (.iload 4, 57, 0, 0, 0, 0) := by decide +kernel
theorem i_X7_parted_57 : fetch 96 57 = some (.iconst 1, 58, 0, 0, 0, 0) := by decide +kernel
theorem i_X7_parted_58 : fetch 96 58 = some (.invokestatic 276, 61, 121, 0, 0, 864) := by decide +kernel
theorem i_X7_parted_61 : fetch 96 61 = some (.istore 4, 63, 0, 0, 0, 0) := by decide +kernel
theorem i_X7_parted_63 : fetch 96 63 = some (.iload 5, 65, 0, 0, 0, 0) := by decide +kernel
theorem i_X7_parted_65 : fetch 96 65 = some (.iconst 1, 66, 0, 0, 0, 0) := by decide +kernel
theorem i_X7_parted_66 : fetch 96 66 = some (.invokestatic 276, 69, 121, 0, 0, 864) := by decide +kernel
theorem i_X7_parted_69 : fetch 96 69 = some (.istore 5, 71, 0, 0, 0, 0) := by decide +kernel
theorem i_X7_parted_71 : fetch 96 71 = some (.iinc 6 1, 74, 0, 0, 0, 0) := by decide +kernel
theorem i_X7_parted_74 : fetch 96 74 = some (.goto (-41), 77, 0, 0, 0, 0) := by decide +kernel
theorem i_X7_parted_77 : fetch 96 77 = some (.iconst (-1), 78, 0, 0, 0, 0) := by decide +kernel
theorem i_X7_parted_78 : fetch 96 78 = some (.ireturn, 79, 0, 0, 0, 0) := by decide +kernel
def f_X7_parted_33 (n : Nat) : Nat → Int32 → Int32 → Int32 → Int32 → Hp → Option (Int32 × Hp)
  | 0, _, _, _, _, _ => none
  | m + 1, v3, v4, v5, v6, h =>
    if 64 < v6 then
      some ((-1), h)
    else
      if (if 0 ≤ (v4 - v5) then (v4 - v5) else 0 - (v4 - v5)) < v3 then
        (f_X7_placeBehind n v4 1 h).bind fun o3 =>
        (f_X7_placeBehind n v5 1 o3.2).bind fun o4 =>
        (f_X7_parted_33 n m) v3 o3.1 o4.1 (v6 + 1) o4.2
      else
        some (v6, h)
set_option maxRecDepth 100000 in
set_option maxHeartbeats 4000000 in
theorem r_X7_parted_33 {X : Nat → Int32} {d : Nat} (hd : 2 ≤ (d + 1)) {n : Nat} : ∀ (m : Nat) (v3 : Int32) (v4 : Int32) (v5 : Int32) (v6 : Int32) (d0 : Nat) (d1 : Int32) (d2 : Int32) (h : Hp) (o : (Int32 × Hp)), f_X7_parted_33 n m v3 v4 v5 v6 h = some o → Run X (d + 1) 96 33 [some (.ref d0), some (.int d1), some (.int d2), some (.int v3), some (.int v4), some (.int v5), some (.int v6)] [] h (some (.int o.1), o.2) := by
  intro m
  induction m with
  | zero => intro v3 v4 v5 v6 d0 d1 d2 h o hf; cases hf
  | succ m ih =>
    intro v3 v4 v5 v6 d0 d1 d2 h o hf
    rw [f_X7_parted_33] at hf
    refine rs_iload i_X7_parted_33 rfl ?_
    refine rs_bipush i_X7_parted_35 (v := 64) (by decide) ?_
    by_cases c1 : 64 < v6
    · replace hf := (if_pos c1).symm.trans hf
      refine rs_icT i_X7_parted_37 (ct_gt c1) (tg := 77) (by decide) ?_
      refine rs_iconst i_X7_parted_77 (v := (-1)) (by decide) ?_
      have hf := Option.some.inj hf
      subst hf
      exact rs_iret i_X7_parted_78 m_X7_parted rfl
    · replace hf := (if_neg c1).symm.trans hf
      refine rs_icF i_X7_parted_37 (cf_gt c1) ?_
      refine rs_iload i_X7_parted_40 rfl ?_
      refine rs_iload i_X7_parted_42 rfl ?_
      refine rs_isub i_X7_parted_44 ?_
      refine rs_abs i_X7_parted_45 (Nat.le_of_ble_eq_true rfl) ?_
      refine rs_iload_n i_X7_parted_48 rfl ?_
      by_cases c2 : (if 0 ≤ (v4 - v5) then (v4 - v5) else 0 - (v4 - v5)) < v3
      · replace hf := (if_pos c2).symm.trans hf
        refine rs_icT i_X7_parted_49 (ct_lt c2) (tg := 55) (by decide) ?_
        refine rs_iload i_X7_parted_55 rfl ?_
        refine rs_iconst i_X7_parted_57 (v := 1) (by decide) ?_
        obtain ⟨o3, e3, hf⟩ := bind_some hf
        refine rs_inS i_X7_parted_58 (by decide) m_X7_placeBehind rfl (As := [.int v4, .int 1]) (rest := []) rfl rfl (Nat.le_of_ble_eq_true rfl) (c_X7_placeBehind (by omega) e3) (st' := [.int o3.1]) rfl ?_
        refine rs_istore i_X7_parted_61 (Nat.le_of_ble_eq_true rfl) (lv' := [some (.ref d0), some (.int d1), some (.int d2), some (.int v3), some (.int o3.1), some (.int v5), some (.int v6)]) rfl ?_
        refine rs_iload i_X7_parted_63 rfl ?_
        refine rs_iconst i_X7_parted_65 (v := 1) (by decide) ?_
        obtain ⟨o4, e4, hf⟩ := bind_some hf
        refine rs_inS i_X7_parted_66 (by decide) m_X7_placeBehind rfl (As := [.int v5, .int 1]) (rest := []) rfl rfl (Nat.le_of_ble_eq_true rfl) (c_X7_placeBehind (by omega) e4) (st' := [.int o4.1]) rfl ?_
        refine rs_istore i_X7_parted_69 (Nat.le_of_ble_eq_true rfl) (lv' := [some (.ref d0), some (.int d1), some (.int d2), some (.int v3), some (.int o3.1), some (.int o4.1), some (.int v6)]) rfl ?_
        refine rs_iinc i_X7_parted_71 rfl (v := v6 + 1) rfl (Nat.le_of_ble_eq_true rfl) (lv' := [some (.ref d0), some (.int d1), some (.int d2), some (.int v3), some (.int o3.1), some (.int o4.1), some (.int (v6 + 1))]) rfl ?_
        refine rs_goto i_X7_parted_74 (tg := 33) (by decide) ?_
        exact ih _ _ _ _ _ _ _ _ _ hf
      · replace hf := (if_neg c2).symm.trans hf
        refine rs_icF i_X7_parted_49 (cf_lt c2) ?_
        refine rs_iload i_X7_parted_52 rfl ?_
        have hf := Option.some.inj hf
        subst hf
        exact rs_iret i_X7_parted_54 m_X7_parted rfl
def f_X7_parted_0 (n : Nat) (v1 : Int32) (v2 : Int32) (v3 : Int32) (h : Hp) : Option (Int32 × Hp) :=
  (f_X7_isPlace v1 h).bind fun o1 =>
  if o1.1 = 0 then
    some ((-2), o1.2)
  else
    (f_X7_isPlace v2 o1.2).bind fun o3 =>
    if o3.1 = 0 then
      some ((-2), o3.2)
    else
      (f_X7_isPlace v3 o3.2).bind fun o5 =>
      if o5.1 ≠ 0 then
        f_X7_parted_33 n n v3 v1 v2 0 o5.2
      else
        some ((-2), o5.2)
set_option maxRecDepth 100000 in
set_option maxHeartbeats 4000000 in
theorem r_X7_parted_0 {X : Nat → Int32} {d : Nat} (hd : 2 ≤ (d + 1)) {n : Nat} {v1 : Int32} {v2 : Int32} {v3 : Int32} {d0 : Nat} {h : Hp} {o : (Int32 × Hp)} (hf : f_X7_parted_0 n v1 v2 v3 h = some o) : Run X (d + 1) 96 0 [some (.ref d0), some (.int v1), some (.int v2), some (.int v3), none, none, none] [] h (some (.int o.1), o.2) := by
  unfold f_X7_parted_0 at hf
  refine rs_iload_n i_X7_parted_0 rfl ?_
  obtain ⟨o1, e1, hf⟩ := bind_some hf
  refine rs_inS i_X7_parted_1 (by decide) m_X7_isPlace rfl (As := [.int v1]) (rest := []) rfl rfl (Nat.le_of_ble_eq_true rfl) (c_X7_isPlace (by omega) e1) (st' := [.int o1.1]) rfl ?_
  by_cases c2 : o1.1 = 0
  · replace hf := (if_pos c2).symm.trans hf
    refine rs_ifT i_X7_parted_4 (ct_eq c2) (tg := 21) (by decide) ?_
    refine rs_bipush i_X7_parted_21 (v := (-2)) (by decide) ?_
    have hf := Option.some.inj hf
    subst hf
    exact rs_iret i_X7_parted_23 m_X7_parted rfl
  · replace hf := (if_neg c2).symm.trans hf
    refine rs_ifF i_X7_parted_4 (cf_eq c2) ?_
    refine rs_iload_n i_X7_parted_7 rfl ?_
    obtain ⟨o3, e3, hf⟩ := bind_some hf
    refine rs_inS i_X7_parted_8 (by decide) m_X7_isPlace rfl (As := [.int v2]) (rest := []) rfl rfl (Nat.le_of_ble_eq_true rfl) (c_X7_isPlace (by omega) e3) (st' := [.int o3.1]) rfl ?_
    by_cases c4 : o3.1 = 0
    · replace hf := (if_pos c4).symm.trans hf
      refine rs_ifT i_X7_parted_11 (ct_eq c4) (tg := 21) (by decide) ?_
      refine rs_bipush i_X7_parted_21 (v := (-2)) (by decide) ?_
      have hf := Option.some.inj hf
      subst hf
      exact rs_iret i_X7_parted_23 m_X7_parted rfl
    · replace hf := (if_neg c4).symm.trans hf
      refine rs_ifF i_X7_parted_11 (cf_eq c4) ?_
      refine rs_iload_n i_X7_parted_14 rfl ?_
      obtain ⟨o5, e5, hf⟩ := bind_some hf
      refine rs_inS i_X7_parted_15 (by decide) m_X7_isPlace rfl (As := [.int v3]) (rest := []) rfl rfl (Nat.le_of_ble_eq_true rfl) (c_X7_isPlace (by omega) e5) (st' := [.int o5.1]) rfl ?_
      by_cases c6 : o5.1 ≠ 0
      · replace hf := (if_pos c6).symm.trans hf
        refine rs_ifT i_X7_parted_18 (ct_ne c6) (tg := 24) (by decide) ?_
        refine rs_iload_n i_X7_parted_24 rfl ?_
        refine rs_istore i_X7_parted_25 (Nat.le_of_ble_eq_true rfl) (lv' := [some (.ref d0), some (.int v1), some (.int v2), some (.int v3), some (.int v1), none, none]) rfl ?_
        refine rs_iload_n i_X7_parted_27 rfl ?_
        refine rs_istore i_X7_parted_28 (Nat.le_of_ble_eq_true rfl) (lv' := [some (.ref d0), some (.int v1), some (.int v2), some (.int v3), some (.int v1), some (.int v2), none]) rfl ?_
        refine rs_iconst i_X7_parted_30 (v := 0) (by decide) ?_
        refine rs_istore i_X7_parted_31 (Nat.le_of_ble_eq_true rfl) (lv' := [some (.ref d0), some (.int v1), some (.int v2), some (.int v3), some (.int v1), some (.int v2), some (.int 0)]) rfl ?_
        exact r_X7_parted_33 hd _ _ _ _ _ _ _ _ _ _ hf
      · replace hf := (if_neg c6).symm.trans hf
        refine rs_ifF i_X7_parted_18 (cf_ne c6) ?_
        refine rs_bipush i_X7_parted_21 (v := (-2)) (by decide) ?_
        have hf := Option.some.inj hf
        subst hf
        exact rs_iret i_X7_parted_23 m_X7_parted rfl
def f_X7_parted (n : Nat) (v0 : Nat) (v1 : Int32) (v2 : Int32) (v3 : Int32) (h : Hp) : Option (Int32 × Hp) := f_X7_parted_0 n v1 v2 v3 h
theorem c_X7_parted {X : Nat → Int32} {d : Nat} (hd : 2 ≤ d) {n : Nat} {v0 : Nat} {v1 : Int32} {v2 : Int32} {v3 : Int32} {h : Hp} {o : (Int32 × Hp)} (hf : f_X7_parted n v0 v1 v2 v3 h = some o) : Calls X d 96 [.ref v0, .int v1, .int v2, .int v3] h (some (.int o.1), o.2) := by
  obtain ⟨d, rfl⟩ : ∃ z, d = z + 1 := ⟨d - 1, by omega⟩
  exact ⟨_, rfl, r_X7_parted_0 hd hf⟩
theorem i_X7_round_0 : fetch 97 0 = some (.iload_n 1, 1, 0, 0, 0, 0) := by decide +kernel
theorem i_X7_round_1 : fetch 97 1 = some (.invokestatic 273, 4, 115, 0, 0, 861) := by decide +kernel
theorem i_X7_round_4 : fetch 97 4 = some (.ifCond .ne 6, 7, 0, 0, 0, 0) := by decide +kernel
theorem i_X7_round_7 : fetch 97 7 = some (.bipush (-2), 9, 0, 0, 0, 0) := by decide +kernel
theorem i_X7_round_9 : fetch 97 9 = some (.ireturn, 10, 0, 0, 0, 0) := by decide +kernel
theorem i_X7_round_10 : fetch 97 10 = some (.iload_n 1, 11, 0, 0, 0, 0) := by decide +kernel
theorem i_X7_round_11 : fetch 97 11 = some (.istore_n 2, 12, 0, 0, 0, 0) := by decide +kernel
theorem i_X7_round_12 : fetch 97 12 = some (.iconst 1, 13, 0, 0, 0, 0) := by decide +kernel
theorem i_X7_round_13 : fetch 97 13 = some (.istore_n 3, 14, 0, 0, 0, 0) := by decide +kernel
theorem i_X7_round_14 : fetch 97 14 = some (.iload_n 3, 15, 0, 0, 0, 0) := by decide +kernel
theorem i_X7_round_15 : fetch 97 15 = some (.bipush 64, 17, 0, 0, 0, 0) := by decide +kernel
theorem i_X7_round_17 : fetch 97 17 = some (.if_icmp .gt 22, 20, 0, 0, 0, 0) := by decide +kernel
theorem i_X7_round_20 : fetch 97 20 = some (.iload_n 2, 21, 0, 0, 0, 0) := by decide +kernel
theorem i_X7_round_21 : fetch 97 21 = some (.iconst 1, 22, 0, 0, 0, 0) := by decide +kernel
theorem i_X7_round_22 : fetch 97 22 = some (.invokestatic 276, 25, 121, 0, 0, 864) := by decide +kernel
theorem i_X7_round_25 : fetch 97 25 = some (.istore_n 2, 26, 0, 0, 0, 0) := by decide +kernel
theorem i_X7_round_26 : fetch 97 26 = some (.iload_n 2, 27, 0, 0, 0, 0) := by decide +kernel
theorem i_X7_round_27 : fetch 97 27 = some (.iload_n 1, 28, 0, 0, 0, 0) := by decide +kernel
theorem i_X7_round_28 : fetch 97 28 = some (.if_icmp .ne 5, 31, 0, 0, 0, 0) := by decide +kernel
theorem i_X7_round_31 : fetch 97 31 = some (.iload_n 3, 32, 0, 0, 0, 0) := by decide +kernel
theorem i_X7_round_32 : fetch 97 32 = some (.ireturn, 33, 0, 0, 0, 0) := by decide +kernel
theorem i_X7_round_33 : fetch 97 33 = some (.iinc 3 1, 36, 0, 0, 0, 0) := by decide +kernel
theorem i_X7_round_36 : fetch 97 36 = some (.goto (-22), 39, 0, 0, 0, 0) := by decide +kernel
theorem i_X7_round_39 : fetch 97 39 = some (.iconst (-1), 40, 0, 0, 0, 0) := by decide +kernel
theorem i_X7_round_40 : fetch 97 40 = some (.ireturn, 41, 0, 0, 0, 0) := by decide +kernel
def f_X7_round_14 (n : Nat) : Nat → Int32 → Int32 → Int32 → Hp → Option (Int32 × Hp)
  | 0, _, _, _, _ => none
  | m + 1, v1, v2, v3, h =>
    if 64 < v3 then
      some ((-1), h)
    else
      (f_X7_placeBehind n v2 1 h).bind fun o2 =>
      if o2.1 ≠ v1 then
        (f_X7_round_14 n m) v1 o2.1 (v3 + 1) o2.2
      else
        some (v3, o2.2)
set_option maxRecDepth 100000 in
set_option maxHeartbeats 4000000 in
theorem r_X7_round_14 {X : Nat → Int32} {d : Nat} (hd : 2 ≤ (d + 1)) {n : Nat} : ∀ (m : Nat) (v1 : Int32) (v2 : Int32) (v3 : Int32) (d0 : Nat) (h : Hp) (o : (Int32 × Hp)), f_X7_round_14 n m v1 v2 v3 h = some o → Run X (d + 1) 97 14 [some (.ref d0), some (.int v1), some (.int v2), some (.int v3)] [] h (some (.int o.1), o.2) := by
  intro m
  induction m with
  | zero => intro v1 v2 v3 d0 h o hf; cases hf
  | succ m ih =>
    intro v1 v2 v3 d0 h o hf
    rw [f_X7_round_14] at hf
    refine rs_iload_n i_X7_round_14 rfl ?_
    refine rs_bipush i_X7_round_15 (v := 64) (by decide) ?_
    by_cases c1 : 64 < v3
    · replace hf := (if_pos c1).symm.trans hf
      refine rs_icT i_X7_round_17 (ct_gt c1) (tg := 39) (by decide) ?_
      refine rs_iconst i_X7_round_39 (v := (-1)) (by decide) ?_
      have hf := Option.some.inj hf
      subst hf
      exact rs_iret i_X7_round_40 m_X7_round rfl
    · replace hf := (if_neg c1).symm.trans hf
      refine rs_icF i_X7_round_17 (cf_gt c1) ?_
      refine rs_iload_n i_X7_round_20 rfl ?_
      refine rs_iconst i_X7_round_21 (v := 1) (by decide) ?_
      obtain ⟨o2, e2, hf⟩ := bind_some hf
      refine rs_inS i_X7_round_22 (by decide) m_X7_placeBehind rfl (As := [.int v2, .int 1]) (rest := []) rfl rfl (Nat.le_of_ble_eq_true rfl) (c_X7_placeBehind (by omega) e2) (st' := [.int o2.1]) rfl ?_
      refine rs_istore_n i_X7_round_25 (Nat.le_of_ble_eq_true rfl) (lv' := [some (.ref d0), some (.int v1), some (.int o2.1), some (.int v3)]) rfl ?_
      refine rs_iload_n i_X7_round_26 rfl ?_
      refine rs_iload_n i_X7_round_27 rfl ?_
      by_cases c3 : o2.1 ≠ v1
      · replace hf := (if_pos c3).symm.trans hf
        refine rs_icT i_X7_round_28 (ct_ne c3) (tg := 33) (by decide) ?_
        refine rs_iinc i_X7_round_33 rfl (v := v3 + 1) rfl (Nat.le_of_ble_eq_true rfl) (lv' := [some (.ref d0), some (.int v1), some (.int o2.1), some (.int (v3 + 1))]) rfl ?_
        refine rs_goto i_X7_round_36 (tg := 14) (by decide) ?_
        exact ih _ _ _ _ _ _ hf
      · replace hf := (if_neg c3).symm.trans hf
        refine rs_icF i_X7_round_28 (cf_ne c3) ?_
        refine rs_iload_n i_X7_round_31 rfl ?_
        have hf := Option.some.inj hf
        subst hf
        exact rs_iret i_X7_round_32 m_X7_round rfl
def f_X7_round_0 (n : Nat) (v1 : Int32) (h : Hp) : Option (Int32 × Hp) :=
  (f_X7_isPlace v1 h).bind fun o1 =>
  if o1.1 ≠ 0 then
    f_X7_round_14 n n v1 v1 1 o1.2
  else
    some ((-2), o1.2)
set_option maxRecDepth 100000 in
set_option maxHeartbeats 4000000 in
theorem r_X7_round_0 {X : Nat → Int32} {d : Nat} (hd : 2 ≤ (d + 1)) {n : Nat} {v1 : Int32} {d0 : Nat} {h : Hp} {o : (Int32 × Hp)} (hf : f_X7_round_0 n v1 h = some o) : Run X (d + 1) 97 0 [some (.ref d0), some (.int v1), none, none] [] h (some (.int o.1), o.2) := by
  unfold f_X7_round_0 at hf
  refine rs_iload_n i_X7_round_0 rfl ?_
  obtain ⟨o1, e1, hf⟩ := bind_some hf
  refine rs_inS i_X7_round_1 (by decide) m_X7_isPlace rfl (As := [.int v1]) (rest := []) rfl rfl (Nat.le_of_ble_eq_true rfl) (c_X7_isPlace (by omega) e1) (st' := [.int o1.1]) rfl ?_
  by_cases c2 : o1.1 ≠ 0
  · replace hf := (if_pos c2).symm.trans hf
    refine rs_ifT i_X7_round_4 (ct_ne c2) (tg := 10) (by decide) ?_
    refine rs_iload_n i_X7_round_10 rfl ?_
    refine rs_istore_n i_X7_round_11 (Nat.le_of_ble_eq_true rfl) (lv' := [some (.ref d0), some (.int v1), some (.int v1), none]) rfl ?_
    refine rs_iconst i_X7_round_12 (v := 1) (by decide) ?_
    refine rs_istore_n i_X7_round_13 (Nat.le_of_ble_eq_true rfl) (lv' := [some (.ref d0), some (.int v1), some (.int v1), some (.int 1)]) rfl ?_
    exact r_X7_round_14 hd _ _ _ _ _ _ _ hf
  · replace hf := (if_neg c2).symm.trans hf
    refine rs_ifF i_X7_round_4 (cf_ne c2) ?_
    refine rs_bipush i_X7_round_7 (v := (-2)) (by decide) ?_
    have hf := Option.some.inj hf
    subst hf
    exact rs_iret i_X7_round_9 m_X7_round rfl
def f_X7_round (n : Nat) (v0 : Nat) (v1 : Int32) (h : Hp) : Option (Int32 × Hp) := f_X7_round_0 n v1 h
theorem c_X7_round {X : Nat → Int32} {d : Nat} (hd : 2 ≤ d) {n : Nat} {v0 : Nat} {v1 : Int32} {h : Hp} {o : (Int32 × Hp)} (hf : f_X7_round n v0 v1 h = some o) : Calls X d 97 [.ref v0, .int v1] h (some (.int o.1), o.2) := by
  obtain ⟨d, rfl⟩ : ∃ z, d = z + 1 := ⟨d - 1, by omega⟩
  exact ⟨_, rfl, r_X7_round_0 hd hf⟩
theorem i_X7_colour_0 : fetch 122 0 = some (.iconst 0, 1, 0, 0, 0, 0) := by decide +kernel
theorem i_X7_colour_1 : fetch 122 1 = some (.istore_n 3, 2, 0, 0, 0, 0) := by decide +kernel
theorem i_X7_colour_2 : fetch 122 2 = some (.iload_n 3, 3, 0, 0, 0, 0) := by decide +kernel
theorem i_X7_colour_3 : fetch 122 3 = some (.bipush 16, 5, 0, 0, 0, 0) := by decide +kernel
theorem i_X7_colour_5 : fetch 122 5 = some (.if_icmp .ge 20, 8, 0, 0, 0, 0) := by decide +kernel
theorem i_X7_colour_8 : fetch 122 8 = some (.aload_n 0, 9, 0, 0, 0, 0) := by decide +kernel
theorem i_X7_colour_9 : fetch 122 9 = some (.getfield 47, 12, 7, 10, 0, 493) := by decide +kernel
theorem i_X7_colour_12 : fetch 122 12 = some (.iload_n 3, 13, 0, 0, 0, 0) := by decide +kernel
theorem i_X7_colour_13 : fetch 122 13 = some (.iload_n 1, 14, 0, 0, 0, 0) := by decide +kernel
theorem i_X7_colour_14 : fetch 122 14 = some (.iload_n 3, 15, 0, 0, 0, 0) := by decide +kernel
theorem i_X7_colour_15 : fetch 122 15 = some (.ishr, 16, 0, 0, 0, 0) := by decide +kernel
theorem i_X7_colour_16 : fetch 122 16 = some (.iconst 1, 17, 0, 0, 0, 0) := by decide +kernel
theorem i_X7_colour_17 : fetch 122 17 = some (.iand, 18, 0, 0, 0, 0) := by decide +kernel
theorem i_X7_colour_18 : fetch 122 18 = some (.iastore, 19, 0, 0, 0, 0) := by decide +kernel
theorem i_X7_colour_19 : fetch 122 19 = some (.iinc 3 1, 22, 0, 0, 0, 0) := by decide +kernel
theorem i_X7_colour_22 : fetch 122 22 = some (.goto (-20), 25, 0, 0, 0, 0) := by decide +kernel
theorem i_X7_colour_25 : fetch 122 25 = some (.iconst 0, 26, 0, 0, 0, 0) := by decide +kernel
theorem i_X7_colour_26 : fetch 122 26 = some (.istore_n 3, 27, 0, 0, 0, 0) := by decide +kernel
theorem i_X7_colour_27 : fetch 122 27 = some (.iload_n 3, 28, 0, 0, 0, 0) := by decide +kernel
theorem i_X7_colour_28 : fetch 122 28 = some (.iload_n 2, 29, 0, 0, 0, 0) := by decide +kernel
theorem i_X7_colour_29 : fetch 122 29 = some (.if_icmp .ge 69, 32, 0, 0, 0, 0) := by decide +kernel
theorem i_X7_colour_32 : fetch 122 32 = some (.iconst 0, 33, 0, 0, 0, 0) := by decide +kernel
theorem i_X7_colour_33 : fetch 122 33 = some (.istore 4, 35, 0, 0, 0, 0) := by decide +kernel
theorem i_X7_colour_35 : fetch 122 35 = some (.iload 4, 37, 0, 0, 0, 0) := by decide +kernel
theorem i_X7_colour_37 : fetch 122 37 = some (.bipush 16, 39, 0, 0, 0, 0) := by decide +kernel
theorem i_X7_colour_39 : fetch 122 39 = some (.if_icmp .ge 38, 42, 0, 0, 0, 0) := by decide +kernel
theorem i_X7_colour_42 : fetch 122 42 = some (.aload_n 0, 43, 0, 0, 0, 0) := by decide +kernel
theorem i_X7_colour_43 : fetch 122 43 = some (.getfield 51, 46, 7, 11, 0, 494) := by decide +kernel
theorem i_X7_colour_46 : fetch 122 46 = some (.iload 4, 48, 0, 0, 0, 0) := by decide +kernel
theorem i_X7_colour_48 : fetch 122 48 = some (.aload_n 0, 49, 0, 0, 0, 0) := by decide +kernel
theorem i_X7_colour_49 : fetch 122 49 = some (.getfield 47, 52, 7, 10, 0, 493) := by decide +kernel
theorem i_X7_colour_52 : fetch 122 52 = some (.iload 4, 54, 0, 0, 0, 0) := by decide +kernel
theorem i_X7_colour_54 : fetch 122 54 = some (.iconst 2, 55, 0, 0, 0, 0) := by decide +kernel
theorem i_X7_colour_55 : fetch 122 55 = some (.idiv, 56, 0, 0, 0, 0) := by decide +kernel
theorem i_X7_colour_56 : fetch 122 56 = some (.iaload, 57, 0, 0, 0, 0) := by decide +kernel
theorem i_X7_colour_57 : fetch 122 57 = some (.aload_n 0, 58, 0, 0, 0, 0) := by decide +kernel
theorem i_X7_colour_58 : fetch 122 58 = some (.getfield 47, 61, 7, 10, 0, 493) := by decide +kernel
theorem i_X7_colour_61 : fetch 122 61 = some (.bipush 15, 63, 0, 0, 0, 0) := by decide +kernel
theorem i_X7_colour_63 : fetch 122 63 = some (.iload 4, 65, 0, 0, 0, 0) := by decide +kernel
theorem i_X7_colour_65 : fetch 122 65 = some (.iconst 2, 66, 0, 0, 0, 0) := by decide +kernel
theorem i_X7_colour_66 : fetch 122 66 = some (.idiv, 67, 0, 0, 0, 0) := by decide +kernel
theorem i_X7_colour_67 : fetch 122 67 = some (.isub, 68, 0, 0, 0, 0) := by decide +kernel
theorem i_X7_colour_68 : fetch 122 68 = some (.iaload, 69, 0, 0, 0, 0) := by decide +kernel
theorem i_X7_colour_69 : fetch 122 69 = some (.iadd, 70, 0, 0, 0, 0) := by decide +kernel
theorem i_X7_colour_70 : fetch 122 70 = some (.iastore, 71, 0, 0, 0, 0) := by decide +kernel
theorem i_X7_colour_71 : fetch 122 71 = some (.iinc 4 1, 74, 0, 0, 0, 0) := by decide +kernel
theorem i_X7_colour_74 : fetch 122 74 = some (.goto (-39), 77, 0, 0, 0, 0) := by decide +kernel
theorem i_X7_colour_77 : fetch 122 77 = some (.aload_n 0, 78, 0, 0, 0, 0) := by decide +kernel
theorem i_X7_colour_78 : fetch 122 78 = some (.getfield 51, 81, 7, 11, 0, 494) := by decide +kernel
theorem i_X7_colour_81 : fetch 122 81 = some (.iconst 0, 82, 0, 0, 0, 0) := by decide +kernel
theorem i_X7_colour_82 : fetch 122 82 = some (.aload_n 0, 83, 0, 0, 0, 0) := by decide +kernel
theorem i_X7_colour_83 : fetch 122 83 = some (.getfield 47, 86, 7, 10, 0, 493) := by decide +kernel
theorem i_X7_colour_86 : fetch 122 86 = some (.iconst 0, 87, 0, 0, 0, 0) := by decide +kernel
theorem i_X7_colour_87 : fetch 122 87 = some (.bipush 16, 89, 0, 0, 0, 0) := by decide +kernel
theorem i_X7_colour_89 : fetch 122 89 = some (.invokestatic 311, 92, 1001, 0, 0, 888) := by decide +kernel
theorem i_X7_colour_92 : fetch 122 92 = some (.iinc 3 1, 95, 0, 0, 0, 0) := by decide +kernel
theorem i_X7_colour_95 : fetch 122 95 = some (.goto (-68), 98, 0, 0, 0, 0) := by decide +kernel
theorem i_X7_colour_98 : fetch 122 98 = some (.return_, 99, 0, 0, 0, 0) := by decide +kernel
def f_X7_colour_35 (n : Nat) (K27 : Nat → Int32 → Int32 → Hp → Option Hp) : Nat → Nat → Int32 → Int32 → Int32 → Hp → Option Hp
  | 0, _, _, _, _, _ => none
  | m + 1, v0, v2, v3, v4, h =>
    if 16 ≤ v4 then
      if okO h v0 7 then
      (gR h v0 11).bind fun a3 =>
      (gR h v0 10).bind fun a4 =>
      if okCp h a3 0 a4 0 16 then
      K27 v0 v2 (v3 + 1) (hcp h a3 (ix 0) a4 (ix 0) (ix 16))
      else none
      else none
    else
      if okO h v0 7 then
      (gR h v0 11).bind fun a7 =>
      (gR h v0 10).bind fun a8 =>
      if okI h a8 (v4 / 2) then
      if okI h a8 (15 - (v4 / 2)) then
      if okI h a7 v4 then
      (f_X7_colour_35 n K27 m) v0 v2 v3 (v4 + 1) (hsi h a7 (ix v4) ((gI h a8 (ix (v4 / 2))) + (gI h a8 (ix (15 - (v4 / 2))))))
      else none
      else none
      else none
      else none
set_option maxRecDepth 100000 in
set_option maxHeartbeats 4000000 in
theorem r_X7_colour_35 {X : Nat → Int32} {d : Nat} (hd : 0 ≤ d) {n : Nat} {K27 : Nat → Int32 → Int32 → Hp → Option Hp} (HK27 : ∀ (v0 : Nat) (v2 : Int32) (v3 : Int32) (d1 : Int32) (w4 : Option Value) (h : Hp) (o : Hp), K27 v0 v2 v3 h = some o → Run X d 122 27 [some (.ref v0), some (.int d1), some (.int v2), some (.int v3), w4] [] h (none, o)) : ∀ (m : Nat) (v0 : Nat) (v2 : Int32) (v3 : Int32) (v4 : Int32) (d1 : Int32) (h : Hp) (o : Hp), f_X7_colour_35 n K27 m v0 v2 v3 v4 h = some o → Run X d 122 35 [some (.ref v0), some (.int d1), some (.int v2), some (.int v3), some (.int v4)] [] h (none, o) := by
  intro m
  induction m with
  | zero => intro v0 v2 v3 v4 d1 h o hf; cases hf
  | succ m ih =>
    intro v0 v2 v3 v4 d1 h o hf
    rw [f_X7_colour_35] at hf
    refine rs_iload i_X7_colour_35 rfl ?_
    refine rs_bipush i_X7_colour_37 (v := 16) (by decide) ?_
    by_cases c1 : 16 ≤ v4
    · replace hf := (if_pos c1).symm.trans hf
      refine rs_icT i_X7_colour_39 (ct_ge c1) (tg := 77) (by decide) ?_
      refine rs_aload_n i_X7_colour_77 rfl ?_
      obtain ⟨c2, hf⟩ := ite_some hf
      obtain ⟨a3, e3, hf⟩ := bind_some hf
      refine rs_getR i_X7_colour_78 (by decide) (by decide) c2 e3 ?_
      refine rs_iconst i_X7_colour_81 (v := 0) (by decide) ?_
      refine rs_aload_n i_X7_colour_82 rfl ?_
      obtain ⟨a4, e4, hf⟩ := bind_some hf
      refine rs_getR i_X7_colour_83 (by decide) (by decide) c2 e4 ?_
      refine rs_iconst i_X7_colour_86 (v := 0) (by decide) ?_
      refine rs_bipush i_X7_colour_87 (v := 16) (by decide) ?_
      obtain ⟨c5, hf⟩ := ite_some hf
      refine rs_acp i_X7_colour_89 c5 (Nat.le_of_ble_eq_true rfl) ?_
      refine rs_iinc i_X7_colour_92 rfl (v := v3 + 1) rfl (Nat.le_of_ble_eq_true rfl) (lv' := [some (.ref v0), some (.int d1), some (.int v2), some (.int (v3 + 1)), some (.int v4)]) rfl ?_
      refine rs_goto i_X7_colour_95 (tg := 27) (by decide) ?_
      exact HK27 _ _ _ _ _ _ _ hf
    · replace hf := (if_neg c1).symm.trans hf
      refine rs_icF i_X7_colour_39 (cf_ge c1) ?_
      refine rs_aload_n i_X7_colour_42 rfl ?_
      obtain ⟨c6, hf⟩ := ite_some hf
      obtain ⟨a7, e7, hf⟩ := bind_some hf
      refine rs_getR i_X7_colour_43 (by decide) (by decide) c6 e7 ?_
      refine rs_iload i_X7_colour_46 rfl ?_
      refine rs_aload_n i_X7_colour_48 rfl ?_
      obtain ⟨a8, e8, hf⟩ := bind_some hf
      refine rs_getR i_X7_colour_49 (by decide) (by decide) c6 e8 ?_
      refine rs_iload i_X7_colour_52 rfl ?_
      refine rs_iconst i_X7_colour_54 (v := 2) (by decide) ?_
      refine rs_idiv i_X7_colour_55 (by decide) ?_
      obtain ⟨c9, hf⟩ := ite_some hf
      refine rs_iald i_X7_colour_56 c9 ?_
      refine rs_aload_n i_X7_colour_57 rfl ?_
      refine rs_getR i_X7_colour_58 (by decide) (by decide) c6 e8 ?_
      refine rs_bipush i_X7_colour_61 (v := 15) (by decide) ?_
      refine rs_iload i_X7_colour_63 rfl ?_
      refine rs_iconst i_X7_colour_65 (v := 2) (by decide) ?_
      refine rs_idiv i_X7_colour_66 (by decide) ?_
      refine rs_isub i_X7_colour_67 ?_
      obtain ⟨c10, hf⟩ := ite_some hf
      refine rs_iald i_X7_colour_68 c10 ?_
      refine rs_iadd i_X7_colour_69 ?_
      obtain ⟨c11, hf⟩ := ite_some hf
      refine rs_iast i_X7_colour_70 c11 ?_
      refine rs_iinc i_X7_colour_71 rfl (v := v4 + 1) rfl (Nat.le_of_ble_eq_true rfl) (lv' := [some (.ref v0), some (.int d1), some (.int v2), some (.int v3), some (.int (v4 + 1))]) rfl ?_
      refine rs_goto i_X7_colour_74 (tg := 35) (by decide) ?_
      exact ih _ _ _ _ _ _ _ hf
def f_X7_colour_27 (n : Nat) : Nat → Nat → Int32 → Int32 → Hp → Option Hp
  | 0, _, _, _, _ => none
  | m + 1, v0, v2, v3, h =>
    if v2 ≤ v3 then
      some h
    else
      f_X7_colour_35 n (f_X7_colour_27 n m) n v0 v2 v3 0 h
set_option maxRecDepth 100000 in
set_option maxHeartbeats 4000000 in
theorem r_X7_colour_27 {X : Nat → Int32} {d : Nat} (hd : 0 ≤ d) {n : Nat} : ∀ (m : Nat) (v0 : Nat) (v2 : Int32) (v3 : Int32) (d1 : Int32) (w4 : Option Value) (h : Hp) (o : Hp), f_X7_colour_27 n m v0 v2 v3 h = some o → Run X d 122 27 [some (.ref v0), some (.int d1), some (.int v2), some (.int v3), w4] [] h (none, o) := by
  intro m
  induction m with
  | zero => intro v0 v2 v3 d1 w4 h o hf; cases hf
  | succ m ih =>
    intro v0 v2 v3 d1 w4 h o hf
    rw [f_X7_colour_27] at hf
    refine rs_iload_n i_X7_colour_27 rfl ?_
    refine rs_iload_n i_X7_colour_28 rfl ?_
    by_cases c1 : v2 ≤ v3
    · replace hf := (if_pos c1).symm.trans hf
      refine rs_icT i_X7_colour_29 (ct_ge c1) (tg := 98) (by decide) ?_
      have hf := Option.some.inj hf
      subst hf
      exact rs_vret i_X7_colour_98 m_X7_colour rfl
    · replace hf := (if_neg c1).symm.trans hf
      refine rs_icF i_X7_colour_29 (cf_ge c1) ?_
      refine rs_iconst i_X7_colour_32 (v := 0) (by decide) ?_
      refine rs_istore i_X7_colour_33 (Nat.le_of_ble_eq_true rfl) (lv' := [some (.ref v0), some (.int d1), some (.int v2), some (.int v3), some (.int 0)]) rfl ?_
      exact r_X7_colour_35 hd ih _ _ _ _ _ _ _ _ hf
def f_X7_colour_2 (n : Nat) : Nat → Nat → Int32 → Int32 → Int32 → Hp → Option Hp
  | 0, _, _, _, _, _ => none
  | m + 1, v0, v1, v2, v3, h =>
    if 16 ≤ v3 then
      f_X7_colour_27 n n v0 v2 0 h
    else
      if okO h v0 7 then
      (gR h v0 10).bind fun a3 =>
      if okI h a3 v3 then
      (f_X7_colour_2 n m) v0 v1 v2 (v3 + 1) (hsi h a3 (ix v3) ((v1 >>> (v3 &&& 31)) &&& 1))
      else none
      else none
set_option maxRecDepth 100000 in
set_option maxHeartbeats 4000000 in
theorem r_X7_colour_2 {X : Nat → Int32} {d : Nat} (hd : 0 ≤ d) {n : Nat} : ∀ (m : Nat) (v0 : Nat) (v1 : Int32) (v2 : Int32) (v3 : Int32) (h : Hp) (o : Hp), f_X7_colour_2 n m v0 v1 v2 v3 h = some o → Run X d 122 2 [some (.ref v0), some (.int v1), some (.int v2), some (.int v3), none] [] h (none, o) := by
  intro m
  induction m with
  | zero => intro v0 v1 v2 v3 h o hf; cases hf
  | succ m ih =>
    intro v0 v1 v2 v3 h o hf
    rw [f_X7_colour_2] at hf
    refine rs_iload_n i_X7_colour_2 rfl ?_
    refine rs_bipush i_X7_colour_3 (v := 16) (by decide) ?_
    by_cases c1 : 16 ≤ v3
    · replace hf := (if_pos c1).symm.trans hf
      refine rs_icT i_X7_colour_5 (ct_ge c1) (tg := 25) (by decide) ?_
      refine rs_iconst i_X7_colour_25 (v := 0) (by decide) ?_
      refine rs_istore_n i_X7_colour_26 (Nat.le_of_ble_eq_true rfl) (lv' := [some (.ref v0), some (.int v1), some (.int v2), some (.int 0), none]) rfl ?_
      exact r_X7_colour_27 hd _ _ _ _ _ _ _ _ hf
    · replace hf := (if_neg c1).symm.trans hf
      refine rs_icF i_X7_colour_5 (cf_ge c1) ?_
      refine rs_aload_n i_X7_colour_8 rfl ?_
      obtain ⟨c2, hf⟩ := ite_some hf
      obtain ⟨a3, e3, hf⟩ := bind_some hf
      refine rs_getR i_X7_colour_9 (by decide) (by decide) c2 e3 ?_
      refine rs_iload_n i_X7_colour_12 rfl ?_
      refine rs_iload_n i_X7_colour_13 rfl ?_
      refine rs_iload_n i_X7_colour_14 rfl ?_
      refine rs_ishr i_X7_colour_15 ?_
      refine rs_iconst i_X7_colour_16 (v := 1) (by decide) ?_
      refine rs_iand i_X7_colour_17 ?_
      obtain ⟨c4, hf⟩ := ite_some hf
      refine rs_iast i_X7_colour_18 c4 ?_
      refine rs_iinc i_X7_colour_19 rfl (v := v3 + 1) rfl (Nat.le_of_ble_eq_true rfl) (lv' := [some (.ref v0), some (.int v1), some (.int v2), some (.int (v3 + 1)), none]) rfl ?_
      refine rs_goto i_X7_colour_22 (tg := 2) (by decide) ?_
      exact ih _ _ _ _ _ _ hf
def f_X7_colour_0 (n : Nat) (v0 : Nat) (v1 : Int32) (v2 : Int32) (h : Hp) : Option Hp :=
  f_X7_colour_2 n n v0 v1 v2 0 h
set_option maxRecDepth 100000 in
set_option maxHeartbeats 4000000 in
theorem r_X7_colour_0 {X : Nat → Int32} {d : Nat} (hd : 0 ≤ d) {n : Nat} {v0 : Nat} {v1 : Int32} {v2 : Int32} {h : Hp} {o : Hp} (hf : f_X7_colour_0 n v0 v1 v2 h = some o) : Run X d 122 0 [some (.ref v0), some (.int v1), some (.int v2), none, none] [] h (none, o) := by
  unfold f_X7_colour_0 at hf
  refine rs_iconst i_X7_colour_0 (v := 0) (by decide) ?_
  refine rs_istore_n i_X7_colour_1 (Nat.le_of_ble_eq_true rfl) (lv' := [some (.ref v0), some (.int v1), some (.int v2), some (.int 0), none]) rfl ?_
  exact r_X7_colour_2 hd _ _ _ _ _ _ _ hf
def f_X7_colour (n : Nat) (v0 : Nat) (v1 : Int32) (v2 : Int32) (h : Hp) : Option Hp := f_X7_colour_0 n v0 v1 v2 h
theorem c_X7_colour {X : Nat → Int32} {d : Nat} (hd : 0 ≤ d) {n : Nat} {v0 : Nat} {v1 : Int32} {v2 : Int32} {h : Hp} {o : Hp} (hf : f_X7_colour n v0 v1 v2 h = some o) : Calls X d 122 [.ref v0, .int v1, .int v2] h (none, o) := by
  exact ⟨_, rfl, r_X7_colour_0 hd hf⟩
theorem i_X7_colours_0 : fetch 98 0 = some (.iload_n 1, 1, 0, 0, 0, 0) := by decide +kernel
theorem i_X7_colours_1 : fetch 98 1 = some (.iconst 0, 2, 0, 0, 0, 0) := by decide +kernel
theorem i_X7_colours_2 : fetch 98 2 = some (.ldc_w 279, 5, 0, 0, 65535, 883) := by decide +kernel
theorem i_X7_colours_5 : fetch 98 5 = some (.invokestatic 112, 8, 110, 0, 0, 534) := by decide +kernel
theorem i_X7_colours_8 : fetch 98 8 = some (.ifCond .eq 22, 11, 0, 0, 0, 0) := by decide +kernel
theorem i_X7_colours_11 : fetch 98 11 = some (.iload_n 2, 12, 0, 0, 0, 0) := by decide +kernel
theorem i_X7_colours_12 : fetch 98 12 = some (.iconst 0, 13, 0, 0, 0, 0) := by decide +kernel
theorem i_X7_colours_13 : fetch 98 13 = some (.bipush 10, 15, 0, 0, 0, 0) := by decide +kernel
theorem i_X7_colours_15 : fetch 98 15 = some (.invokestatic 112, 18, 110, 0, 0, 534) := by decide +kernel
theorem i_X7_colours_18 : fetch 98 18 = some (.ifCond .eq 12, 21, 0, 0, 0, 0) := by decide +kernel
theorem i_X7_colours_21 : fetch 98 21 = some (.iload_n 3, 22, 0, 0, 0, 0) := by decide +kernel
theorem i_X7_colours_22 : fetch 98 22 = some (.iconst 0, 23, 0, 0, 0, 0) := by decide +kernel
theorem i_X7_colours_23 : fetch 98 23 = some (.iconst 2, 24, 0, 0, 0, 0) := by decide +kernel
theorem i_X7_colours_24 : fetch 98 24 = some (.invokestatic 112, 27, 110, 0, 0, 534) := by decide +kernel
theorem i_X7_colours_27 : fetch 98 27 = some (.ifCond .ne 6, 30, 0, 0, 0, 0) := by decide +kernel
theorem i_X7_colours_30 : fetch 98 30 = some (.bipush (-2), 32, 0, 0, 0, 0) := by decide +kernel
theorem i_X7_colours_32 : fetch 98 32 = some (.ireturn, 33, 0, 0, 0, 0) := by decide +kernel
theorem i_X7_colours_33 : fetch 98 33 = some (.aload_n 0, 34, 0, 0, 0, 0) := by decide +kernel
theorem i_X7_colours_34 : fetch 98 34 = some (.iload_n 1, 35, 0, 0, 0, 0) := by decide +kernel
theorem i_X7_colours_35 : fetch 98 35 = some (.iload_n 2, 36, 0, 0, 0, 0) := by decide +kernel
theorem i_X7_colours_36 : fetch 98 36 = some (.invokevirtual 280, 39, 122, 0, 0, 884) := by decide +kernel
theorem i_X7_colours_39 : fetch 98 39 = some (.aload_n 0, 40, 0, 0, 0, 0) := by decide +kernel
theorem i_X7_colours_40 : fetch 98 40 = some (.getfield 47, 43, 7, 10, 0, 493) := by decide +kernel
theorem i_X7_colours_43 : fetch 98 43 = some (.iconst 0, 44, 0, 0, 0, 0) := by decide +kernel
theorem i_X7_colours_44 : fetch 98 44 = some (.iaload, 45, 0, 0, 0, 0) := by decide +kernel
theorem i_X7_colours_45 : fetch 98 45 = some (.istore 4, 47, 0, 0, 0, 0) := by decide +kernel
theorem i_X7_colours_47 : fetch 98 47 = some (.aload_n 0, 48, 0, 0, 0, 0) := by decide +kernel
theorem i_X7_colours_48 : fetch 98 48 = some (.getfield 47, 51, 7, 10, 0, 493) := by decide +kernel
theorem i_X7_colours_51 : fetch 98 51 = some (.iconst 0, 52, 0, 0, 0, 0) := by decide +kernel
theorem i_X7_colours_52 : fetch 98 52 = some (.iaload, 53, 0, 0, 0, 0) := by decide +kernel
theorem i_X7_colours_53 : fetch 98 53 = some (.istore 5, 55, 0, 0, 0, 0) := by decide +kernel
theorem i_X7_colours_55 : fetch 98 55 = some (.iconst 0, 56, 0, 0, 0, 0) := by decide +kernel
theorem i_X7_colours_56 : fetch 98 56 = some (.istore 6, 58, 0, 0, 0, 0) := by decide +kernel
theorem i_X7_colours_58 : fetch 98 58 = some (.iconst 0, 59, 0, 0, 0, 0) := by decide +kernel
theorem i_X7_colours_59 : fetch 98 59 = some (.istore 7, 61, 0, 0, 0, 0) := by decide +kernel
theorem i_X7_colours_61 : fetch 98 61 = some (.iload 7, 63, 0, 0, 0, 0) := by decide +kernel
theorem i_X7_colours_63 : fetch 98 63 = some (.bipush 16, 65, 0, 0, 0, 0) := by decide +kernel
theorem i_X7_colours_65 : fetch 98 65 = some (.if_icmp .ge 59, 68, 0, 0, 0, 0) := by decide +kernel
theorem i_X7_colours_68 : fetch 98 68 = some (.iload 4, 70, 0, 0, 0, 0) := by decide +kernel
theorem i_X7_colours_70 : fetch 98 70 = some (.aload_n 0, 71, 0, 0, 0, 0) := by decide +kernel
theorem i_X7_colours_71 : fetch 98 71 = some (.getfield 47, 74, 7, 10, 0, 493) := by decide +kernel
theorem i_X7_colours_74 : fetch 98 74 = some (.iload 7, 76, 0, 0, 0, 0) := by decide +kernel
theorem i_X7_colours_76 : fetch 98 76 = some (.iaload, 77, 0, 0, 0, 0) := by decide +kernel
theorem i_X7_colours_77 : fetch 98 77 = some (.invokestatic 283, 80, 1005, 0, 0, 889) := by decide +kernel
theorem i_X7_colours_80 : fetch 98 80 = some (.istore 4, 82, 0, 0, 0, 0) := by decide +kernel
theorem i_X7_colours_82 : fetch 98 82 = some (.iload 5, 84, 0, 0, 0, 0) := by decide +kernel
theorem i_X7_colours_84 : fetch 98 84 = some (.aload_n 0, 85, 0, 0, 0, 0) := by decide +kernel
theorem i_X7_colours_85 : fetch 98 85 = some (.getfield 47, 88, 7, 10, 0, 493) := by decide +kernel
theorem i_X7_colours_88 : fetch 98 88 = some (.iload 7, 90, 0, 0, 0, 0) := by decide +kernel
theorem i_X7_colours_90 : fetch 98 90 = some (.iaload, 91, 0, 0, 0, 0) := by decide +kernel
theorem i_X7_colours_91 : fetch 98 91 = some (.invokestatic 286, 94, 1003, 0, 0, 890) := by decide +kernel
theorem i_X7_colours_94 : fetch 98 94 = some (.istore 5, 96, 0, 0, 0, 0) := by decide +kernel
theorem i_X7_colours_96 : fetch 98 96 = some (.aload_n 0, 97, 0, 0, 0, 0) := by decide +kernel
theorem i_X7_colours_97 : fetch 98 97 = some (.getfield 47, 100, 7, 10, 0, 493) := by decide +kernel
theorem i_X7_colours_100 : fetch 98 100 = some (.iload 7, 102, 0, 0, 0, 0) := by decide +kernel
theorem i_X7_colours_102 : fetch 98 102 = some (.iaload, 103, 0, 0, 0, 0) := by decide +kernel
theorem i_X7_colours_103 : fetch 98 103 = some (.iconst 1, 104, 0, 0, 0, 0) := by decide +kernel
theorem i_X7_colours_104 : fetch 98 104 = some (.iconst 1, 105, 0, 0, 0, 0) := by decide +kernel
theorem i_X7_colours_105 : fetch 98 105 = some (.iload_n 2, 106, 0, 0, 0, 0) := by decide +kernel
theorem i_X7_colours_106 : fetch 98 106 = some (.ishl, 107, 0, 0, 0, 0) := by decide +kernel
theorem i_X7_colours_107 : fetch 98 107 = some (.iconst 1, 108, 0, 0, 0, 0) := by decide +kernel
theorem i_X7_colours_108 : fetch 98 108 = some (.isub, 109, 0, 0, 0, 0) := by decide +kernel
theorem i_X7_colours_109 : fetch 98 109 = some (.invokestatic 112, 112, 110, 0, 0, 534) := by decide +kernel
theorem i_X7_colours_112 : fetch 98 112 = some (.ifCond .eq 6, 115, 0, 0, 0, 0) := by decide +kernel
theorem i_X7_colours_115 : fetch 98 115 = some (.iinc 6 1, 118, 0, 0, 0, 0) := by decide +kernel
theorem i_X7_colours_118 : fetch 98 118 = some (.iinc 7 1, 121, 0, 0, 0, 0) := by decide +kernel
theorem i_X7_colours_121 : fetch 98 121 = some (.goto (-60), 124, 0, 0, 0, 0) := by decide +kernel
theorem i_X7_colours_124 : fetch 98 124 = some (.iload_n 3, 125, 0, 0, 0, 0) := by decide +kernel
theorem i_X7_colours_125 : fetch 98 125 = some (.ifCond .ne 8, 128, 0, 0, 0, 0) := by decide +kernel
theorem i_X7_colours_128 : fetch 98 128 = some (.iload 4, 130, 0, 0, 0, 0) := by decide +kernel
theorem i_X7_colours_130 : fetch 98 130 = some (.goto 15, 133, 0, 0, 0, 0) := by decide +kernel
theorem i_X7_colours_133 : fetch 98 133 = some (.iload_n 3, 134, 0, 0, 0, 0) := by decide +kernel
theorem i_X7_colours_134 : fetch 98 134 = some (.iconst 1, 135, 0, 0, 0, 0) := by decide +kernel
theorem i_X7_colours_135 : fetch 98 135 = some (.if_icmp .ne 8, 138, 0, 0, 0, 0) := by decide +kernel
theorem i_X7_colours_138 : fetch 98 138 = some (.iload 5, 140, 0, 0, 0, 0) := by decide +kernel
theorem i_X7_colours_140 : fetch 98 140 = some (.goto 5, 143, 0, 0, 0, 0) := by decide +kernel
theorem i_X7_colours_143 : fetch 98 143 = some (.iload 6, 145, 0, 0, 0, 0) := by decide +kernel
theorem i_X7_colours_145 : fetch 98 145 = some (.ireturn, 146, 0, 0, 0, 0) := by decide +kernel
def f_X7_colours_118 (n : Nat) (K61 : Nat → Int32 → Int32 → Int32 → Int32 → Int32 → Int32 → Hp → Option (Int32 × Hp)) (v0 : Nat) (v2 : Int32) (v3 : Int32) (v4 : Int32) (v5 : Int32) (v6 : Int32) (v7 : Int32) (h : Hp) : Option (Int32 × Hp) :=
  K61 v0 v2 v3 v4 v5 v6 (v7 + 1) h
set_option maxRecDepth 100000 in
set_option maxHeartbeats 4000000 in
theorem r_X7_colours_118 {X : Nat → Int32} {d : Nat} (hd : 1 ≤ (d + 1)) {n : Nat} {K61 : Nat → Int32 → Int32 → Int32 → Int32 → Int32 → Int32 → Hp → Option (Int32 × Hp)} (HK61 : ∀ (v0 : Nat) (v2 : Int32) (v3 : Int32) (v4 : Int32) (v5 : Int32) (v6 : Int32) (v7 : Int32) (d1 : Int32) (h : Hp) (o : (Int32 × Hp)), K61 v0 v2 v3 v4 v5 v6 v7 h = some o → Run X (d + 1) 98 61 [some (.ref v0), some (.int d1), some (.int v2), some (.int v3), some (.int v4), some (.int v5), some (.int v6), some (.int v7)] [] h (some (.int o.1), o.2)) {v0 : Nat} {v2 : Int32} {v3 : Int32} {v4 : Int32} {v5 : Int32} {v6 : Int32} {v7 : Int32} {d1 : Int32} {h : Hp} {o : (Int32 × Hp)} (hf : f_X7_colours_118 n K61 v0 v2 v3 v4 v5 v6 v7 h = some o) : Run X (d + 1) 98 118 [some (.ref v0), some (.int d1), some (.int v2), some (.int v3), some (.int v4), some (.int v5), some (.int v6), some (.int v7)] [] h (some (.int o.1), o.2) := by
  unfold f_X7_colours_118 at hf
  refine rs_iinc i_X7_colours_118 rfl (v := v7 + 1) rfl (Nat.le_of_ble_eq_true rfl) (lv' := [some (.ref v0), some (.int d1), some (.int v2), some (.int v3), some (.int v4), some (.int v5), some (.int v6), some (.int (v7 + 1))]) rfl ?_
  refine rs_goto i_X7_colours_121 (tg := 61) (by decide) ?_
  exact HK61 _ _ _ _ _ _ _ _ _ _ hf
def f_X7_colours_96 (n : Nat) (K61 : Nat → Int32 → Int32 → Int32 → Int32 → Int32 → Int32 → Hp → Option (Int32 × Hp)) (v0 : Nat) (v2 : Int32) (v3 : Int32) (v4 : Int32) (v5 : Int32) (v6 : Int32) (v7 : Int32) (h : Hp) : Option (Int32 × Hp) :=
  if okO h v0 7 then
  (gR h v0 10).bind fun a2 =>
  if okI h a2 v7 then
  (f_X7_within (gI h a2 (ix v7)) 1 ((1 <<< (v2 &&& 31)) - 1) h).bind fun o4 =>
  if o4.1 = 0 then
    f_X7_colours_118 n K61 v0 v2 v3 v4 v5 v6 v7 o4.2
  else
    f_X7_colours_118 n K61 v0 v2 v3 v4 v5 (v6 + 1) v7 o4.2
  else none
  else none
set_option maxRecDepth 100000 in
set_option maxHeartbeats 4000000 in
theorem r_X7_colours_96 {X : Nat → Int32} {d : Nat} (hd : 1 ≤ (d + 1)) {n : Nat} {K61 : Nat → Int32 → Int32 → Int32 → Int32 → Int32 → Int32 → Hp → Option (Int32 × Hp)} (HK61 : ∀ (v0 : Nat) (v2 : Int32) (v3 : Int32) (v4 : Int32) (v5 : Int32) (v6 : Int32) (v7 : Int32) (d1 : Int32) (h : Hp) (o : (Int32 × Hp)), K61 v0 v2 v3 v4 v5 v6 v7 h = some o → Run X (d + 1) 98 61 [some (.ref v0), some (.int d1), some (.int v2), some (.int v3), some (.int v4), some (.int v5), some (.int v6), some (.int v7)] [] h (some (.int o.1), o.2)) {v0 : Nat} {v2 : Int32} {v3 : Int32} {v4 : Int32} {v5 : Int32} {v6 : Int32} {v7 : Int32} {d1 : Int32} {h : Hp} {o : (Int32 × Hp)} (hf : f_X7_colours_96 n K61 v0 v2 v3 v4 v5 v6 v7 h = some o) : Run X (d + 1) 98 96 [some (.ref v0), some (.int d1), some (.int v2), some (.int v3), some (.int v4), some (.int v5), some (.int v6), some (.int v7)] [] h (some (.int o.1), o.2) := by
  unfold f_X7_colours_96 at hf
  refine rs_aload_n i_X7_colours_96 rfl ?_
  obtain ⟨c1, hf⟩ := ite_some hf
  obtain ⟨a2, e2, hf⟩ := bind_some hf
  refine rs_getR i_X7_colours_97 (by decide) (by decide) c1 e2 ?_
  refine rs_iload i_X7_colours_100 rfl ?_
  obtain ⟨c3, hf⟩ := ite_some hf
  refine rs_iald i_X7_colours_102 c3 ?_
  refine rs_iconst i_X7_colours_103 (v := 1) (by decide) ?_
  refine rs_iconst i_X7_colours_104 (v := 1) (by decide) ?_
  refine rs_iload_n i_X7_colours_105 rfl ?_
  refine rs_ishl i_X7_colours_106 ?_
  refine rs_iconst i_X7_colours_107 (v := 1) (by decide) ?_
  refine rs_isub i_X7_colours_108 ?_
  obtain ⟨o4, e4, hf⟩ := bind_some hf
  refine rs_inS i_X7_colours_109 (by decide) m_X7_within rfl (As := [.int (gI h a2 (ix v7)), .int 1, .int ((1 <<< (v2 &&& 31)) - 1)]) (rest := []) rfl rfl (Nat.le_of_ble_eq_true rfl) (c_X7_within (by omega) e4) (st' := [.int o4.1]) rfl ?_
  by_cases c5 : o4.1 = 0
  · replace hf := (if_pos c5).symm.trans hf
    refine rs_ifT i_X7_colours_112 (ct_eq c5) (tg := 118) (by decide) ?_
    exact r_X7_colours_118 hd HK61 hf
  · replace hf := (if_neg c5).symm.trans hf
    refine rs_ifF i_X7_colours_112 (cf_eq c5) ?_
    refine rs_iinc i_X7_colours_115 rfl (v := v6 + 1) rfl (Nat.le_of_ble_eq_true rfl) (lv' := [some (.ref v0), some (.int d1), some (.int v2), some (.int v3), some (.int v4), some (.int v5), some (.int (v6 + 1)), some (.int v7)]) rfl ?_
    exact r_X7_colours_118 hd HK61 hf
def f_X7_colours_82 (n : Nat) (K61 : Nat → Int32 → Int32 → Int32 → Int32 → Int32 → Int32 → Hp → Option (Int32 × Hp)) (v0 : Nat) (v2 : Int32) (v3 : Int32) (v4 : Int32) (v5 : Int32) (v6 : Int32) (v7 : Int32) (h : Hp) : Option (Int32 × Hp) :=
  if okO h v0 7 then
  (gR h v0 10).bind fun a2 =>
  if okI h a2 v7 then
  f_X7_colours_96 n K61 v0 v2 v3 v4 (if v5 < (gI h a2 (ix v7)) then (gI h a2 (ix v7)) else v5) v6 v7 h
  else none
  else none
set_option maxRecDepth 100000 in
set_option maxHeartbeats 4000000 in
theorem r_X7_colours_82 {X : Nat → Int32} {d : Nat} (hd : 1 ≤ (d + 1)) {n : Nat} {K61 : Nat → Int32 → Int32 → Int32 → Int32 → Int32 → Int32 → Hp → Option (Int32 × Hp)} (HK61 : ∀ (v0 : Nat) (v2 : Int32) (v3 : Int32) (v4 : Int32) (v5 : Int32) (v6 : Int32) (v7 : Int32) (d1 : Int32) (h : Hp) (o : (Int32 × Hp)), K61 v0 v2 v3 v4 v5 v6 v7 h = some o → Run X (d + 1) 98 61 [some (.ref v0), some (.int d1), some (.int v2), some (.int v3), some (.int v4), some (.int v5), some (.int v6), some (.int v7)] [] h (some (.int o.1), o.2)) {v0 : Nat} {v2 : Int32} {v3 : Int32} {v4 : Int32} {v5 : Int32} {v6 : Int32} {v7 : Int32} {d1 : Int32} {h : Hp} {o : (Int32 × Hp)} (hf : f_X7_colours_82 n K61 v0 v2 v3 v4 v5 v6 v7 h = some o) : Run X (d + 1) 98 82 [some (.ref v0), some (.int d1), some (.int v2), some (.int v3), some (.int v4), some (.int v5), some (.int v6), some (.int v7)] [] h (some (.int o.1), o.2) := by
  unfold f_X7_colours_82 at hf
  refine rs_iload i_X7_colours_82 rfl ?_
  refine rs_aload_n i_X7_colours_84 rfl ?_
  obtain ⟨c1, hf⟩ := ite_some hf
  obtain ⟨a2, e2, hf⟩ := bind_some hf
  refine rs_getR i_X7_colours_85 (by decide) (by decide) c1 e2 ?_
  refine rs_iload i_X7_colours_88 rfl ?_
  obtain ⟨c3, hf⟩ := ite_some hf
  refine rs_iald i_X7_colours_90 c3 ?_
  refine rs_max i_X7_colours_91 (Nat.le_of_ble_eq_true rfl) ?_
  refine rs_istore i_X7_colours_94 (Nat.le_of_ble_eq_true rfl) (lv' := [some (.ref v0), some (.int d1), some (.int v2), some (.int v3), some (.int v4), some (.int (if v5 < (gI h a2 (ix v7)) then (gI h a2 (ix v7)) else v5)), some (.int v6), some (.int v7)]) rfl ?_
  exact r_X7_colours_96 hd HK61 hf
def f_X7_colours_61 (n : Nat) : Nat → Nat → Int32 → Int32 → Int32 → Int32 → Int32 → Int32 → Hp → Option (Int32 × Hp)
  | 0, _, _, _, _, _, _, _, _ => none
  | m + 1, v0, v2, v3, v4, v5, v6, v7, h =>
    if 16 ≤ v7 then
      if v3 ≠ 0 then
        if v3 ≠ 1 then
          some (v6, h)
        else
          some (v5, h)
      else
        some (v4, h)
    else
      if okO h v0 7 then
      (gR h v0 10).bind fun a5 =>
      if okI h a5 v7 then
      f_X7_colours_82 n (f_X7_colours_61 n m) v0 v2 v3 (if (gI h a5 (ix v7)) < v4 then (gI h a5 (ix v7)) else v4) v5 v6 v7 h
      else none
      else none
set_option maxRecDepth 100000 in
set_option maxHeartbeats 4000000 in
theorem r_X7_colours_61 {X : Nat → Int32} {d : Nat} (hd : 1 ≤ (d + 1)) {n : Nat} : ∀ (m : Nat) (v0 : Nat) (v2 : Int32) (v3 : Int32) (v4 : Int32) (v5 : Int32) (v6 : Int32) (v7 : Int32) (d1 : Int32) (h : Hp) (o : (Int32 × Hp)), f_X7_colours_61 n m v0 v2 v3 v4 v5 v6 v7 h = some o → Run X (d + 1) 98 61 [some (.ref v0), some (.int d1), some (.int v2), some (.int v3), some (.int v4), some (.int v5), some (.int v6), some (.int v7)] [] h (some (.int o.1), o.2) := by
  intro m
  induction m with
  | zero => intro v0 v2 v3 v4 v5 v6 v7 d1 h o hf; cases hf
  | succ m ih =>
    intro v0 v2 v3 v4 v5 v6 v7 d1 h o hf
    rw [f_X7_colours_61] at hf
    refine rs_iload i_X7_colours_61 rfl ?_
    refine rs_bipush i_X7_colours_63 (v := 16) (by decide) ?_
    by_cases c1 : 16 ≤ v7
    · replace hf := (if_pos c1).symm.trans hf
      refine rs_icT i_X7_colours_65 (ct_ge c1) (tg := 124) (by decide) ?_
      refine rs_iload_n i_X7_colours_124 rfl ?_
      by_cases c2 : v3 ≠ 0
      · replace hf := (if_pos c2).symm.trans hf
        refine rs_ifT i_X7_colours_125 (ct_ne c2) (tg := 133) (by decide) ?_
        refine rs_iload_n i_X7_colours_133 rfl ?_
        refine rs_iconst i_X7_colours_134 (v := 1) (by decide) ?_
        by_cases c3 : v3 ≠ 1
        · replace hf := (if_pos c3).symm.trans hf
          refine rs_icT i_X7_colours_135 (ct_ne c3) (tg := 143) (by decide) ?_
          refine rs_iload i_X7_colours_143 rfl ?_
          have hf := Option.some.inj hf
          subst hf
          exact rs_iret i_X7_colours_145 m_X7_colours rfl
        · replace hf := (if_neg c3).symm.trans hf
          refine rs_icF i_X7_colours_135 (cf_ne c3) ?_
          refine rs_iload i_X7_colours_138 rfl ?_
          refine rs_goto i_X7_colours_140 (tg := 145) (by decide) ?_
          have hf := Option.some.inj hf
          subst hf
          exact rs_iret i_X7_colours_145 m_X7_colours rfl
      · replace hf := (if_neg c2).symm.trans hf
        refine rs_ifF i_X7_colours_125 (cf_ne c2) ?_
        refine rs_iload i_X7_colours_128 rfl ?_
        refine rs_goto i_X7_colours_130 (tg := 145) (by decide) ?_
        have hf := Option.some.inj hf
        subst hf
        exact rs_iret i_X7_colours_145 m_X7_colours rfl
    · replace hf := (if_neg c1).symm.trans hf
      refine rs_icF i_X7_colours_65 (cf_ge c1) ?_
      refine rs_iload i_X7_colours_68 rfl ?_
      refine rs_aload_n i_X7_colours_70 rfl ?_
      obtain ⟨c4, hf⟩ := ite_some hf
      obtain ⟨a5, e5, hf⟩ := bind_some hf
      refine rs_getR i_X7_colours_71 (by decide) (by decide) c4 e5 ?_
      refine rs_iload i_X7_colours_74 rfl ?_
      obtain ⟨c6, hf⟩ := ite_some hf
      refine rs_iald i_X7_colours_76 c6 ?_
      refine rs_min i_X7_colours_77 (Nat.le_of_ble_eq_true rfl) ?_
      refine rs_istore i_X7_colours_80 (Nat.le_of_ble_eq_true rfl) (lv' := [some (.ref v0), some (.int d1), some (.int v2), some (.int v3), some (.int (if (gI h a5 (ix v7)) < v4 then (gI h a5 (ix v7)) else v4)), some (.int v5), some (.int v6), some (.int v7)]) rfl ?_
      exact r_X7_colours_82 hd ih hf
def f_X7_colours_0 (n : Nat) (v0 : Nat) (v1 : Int32) (v2 : Int32) (v3 : Int32) (h : Hp) : Option (Int32 × Hp) :=
  (f_X7_within v1 0 65535 h).bind fun o1 =>
  if o1.1 = 0 then
    some ((-2), o1.2)
  else
    (f_X7_within v2 0 10 o1.2).bind fun o3 =>
    if o3.1 = 0 then
      some ((-2), o3.2)
    else
      (f_X7_within v3 0 2 o3.2).bind fun o5 =>
      if o5.1 ≠ 0 then
        if okO o5.2 v0 7 then
        (f_X7_colour n v0 v1 v2 o5.2).bind fun o7 =>
        if okO o7 v0 7 then
        (gR o7 v0 10).bind fun a10 =>
        if okI o7 a10 0 then
        f_X7_colours_61 n n v0 v2 v3 (gI o7 a10 (ix 0)) (gI o7 a10 (ix 0)) 0 0 o7
        else none
        else none
        else none
      else
        some ((-2), o5.2)
set_option maxRecDepth 100000 in
set_option maxHeartbeats 4000000 in
theorem r_X7_colours_0 {X : Nat → Int32} {d : Nat} (hd : 1 ≤ (d + 1)) {n : Nat} {v0 : Nat} {v1 : Int32} {v2 : Int32} {v3 : Int32} {h : Hp} {o : (Int32 × Hp)} (hf : f_X7_colours_0 n v0 v1 v2 v3 h = some o) : Run X (d + 1) 98 0 [some (.ref v0), some (.int v1), some (.int v2), some (.int v3), none, none, none, none] [] h (some (.int o.1), o.2) := by
  unfold f_X7_colours_0 at hf
  refine rs_iload_n i_X7_colours_0 rfl ?_
  refine rs_iconst i_X7_colours_1 (v := 0) (by decide) ?_
  refine rs_ldcw i_X7_colours_2 (v := 65535) (by decide) ?_
  obtain ⟨o1, e1, hf⟩ := bind_some hf
  refine rs_inS i_X7_colours_5 (by decide) m_X7_within rfl (As := [.int v1, .int 0, .int 65535]) (rest := []) rfl rfl (Nat.le_of_ble_eq_true rfl) (c_X7_within (by omega) e1) (st' := [.int o1.1]) rfl ?_
  by_cases c2 : o1.1 = 0
  · replace hf := (if_pos c2).symm.trans hf
    refine rs_ifT i_X7_colours_8 (ct_eq c2) (tg := 30) (by decide) ?_
    refine rs_bipush i_X7_colours_30 (v := (-2)) (by decide) ?_
    have hf := Option.some.inj hf
    subst hf
    exact rs_iret i_X7_colours_32 m_X7_colours rfl
  · replace hf := (if_neg c2).symm.trans hf
    refine rs_ifF i_X7_colours_8 (cf_eq c2) ?_
    refine rs_iload_n i_X7_colours_11 rfl ?_
    refine rs_iconst i_X7_colours_12 (v := 0) (by decide) ?_
    refine rs_bipush i_X7_colours_13 (v := 10) (by decide) ?_
    obtain ⟨o3, e3, hf⟩ := bind_some hf
    refine rs_inS i_X7_colours_15 (by decide) m_X7_within rfl (As := [.int v2, .int 0, .int 10]) (rest := []) rfl rfl (Nat.le_of_ble_eq_true rfl) (c_X7_within (by omega) e3) (st' := [.int o3.1]) rfl ?_
    by_cases c4 : o3.1 = 0
    · replace hf := (if_pos c4).symm.trans hf
      refine rs_ifT i_X7_colours_18 (ct_eq c4) (tg := 30) (by decide) ?_
      refine rs_bipush i_X7_colours_30 (v := (-2)) (by decide) ?_
      have hf := Option.some.inj hf
      subst hf
      exact rs_iret i_X7_colours_32 m_X7_colours rfl
    · replace hf := (if_neg c4).symm.trans hf
      refine rs_ifF i_X7_colours_18 (cf_eq c4) ?_
      refine rs_iload_n i_X7_colours_21 rfl ?_
      refine rs_iconst i_X7_colours_22 (v := 0) (by decide) ?_
      refine rs_iconst i_X7_colours_23 (v := 2) (by decide) ?_
      obtain ⟨o5, e5, hf⟩ := bind_some hf
      refine rs_inS i_X7_colours_24 (by decide) m_X7_within rfl (As := [.int v3, .int 0, .int 2]) (rest := []) rfl rfl (Nat.le_of_ble_eq_true rfl) (c_X7_within (by omega) e5) (st' := [.int o5.1]) rfl ?_
      by_cases c6 : o5.1 ≠ 0
      · replace hf := (if_pos c6).symm.trans hf
        refine rs_ifT i_X7_colours_27 (ct_ne c6) (tg := 33) (by decide) ?_
        refine rs_aload_n i_X7_colours_33 rfl ?_
        refine rs_iload_n i_X7_colours_34 rfl ?_
        refine rs_iload_n i_X7_colours_35 rfl ?_
        obtain ⟨c8, hf⟩ := ite_some hf
        obtain ⟨o7, e7, hf⟩ := bind_some hf
        refine rs_inV i_X7_colours_36 m_X7_colour rfl (As := [.int v1, .int v2]) (rest := []) rfl rfl (Nat.le_of_ble_eq_true rfl) c8 (c_X7_colour (by omega) e7) (st' := []) rfl ?_
        refine rs_aload_n i_X7_colours_39 rfl ?_
        obtain ⟨c9, hf⟩ := ite_some hf
        obtain ⟨a10, e10, hf⟩ := bind_some hf
        refine rs_getR i_X7_colours_40 (by decide) (by decide) c9 e10 ?_
        refine rs_iconst i_X7_colours_43 (v := 0) (by decide) ?_
        obtain ⟨c11, hf⟩ := ite_some hf
        refine rs_iald i_X7_colours_44 c11 ?_
        refine rs_istore i_X7_colours_45 (Nat.le_of_ble_eq_true rfl) (lv' := [some (.ref v0), some (.int v1), some (.int v2), some (.int v3), some (.int (gI o7 a10 (ix 0))), none, none, none]) rfl ?_
        refine rs_aload_n i_X7_colours_47 rfl ?_
        refine rs_getR i_X7_colours_48 (by decide) (by decide) c9 e10 ?_
        refine rs_iconst i_X7_colours_51 (v := 0) (by decide) ?_
        refine rs_iald i_X7_colours_52 c11 ?_
        refine rs_istore i_X7_colours_53 (Nat.le_of_ble_eq_true rfl) (lv' := [some (.ref v0), some (.int v1), some (.int v2), some (.int v3), some (.int (gI o7 a10 (ix 0))), some (.int (gI o7 a10 (ix 0))), none, none]) rfl ?_
        refine rs_iconst i_X7_colours_55 (v := 0) (by decide) ?_
        refine rs_istore i_X7_colours_56 (Nat.le_of_ble_eq_true rfl) (lv' := [some (.ref v0), some (.int v1), some (.int v2), some (.int v3), some (.int (gI o7 a10 (ix 0))), some (.int (gI o7 a10 (ix 0))), some (.int 0), none]) rfl ?_
        refine rs_iconst i_X7_colours_58 (v := 0) (by decide) ?_
        refine rs_istore i_X7_colours_59 (Nat.le_of_ble_eq_true rfl) (lv' := [some (.ref v0), some (.int v1), some (.int v2), some (.int v3), some (.int (gI o7 a10 (ix 0))), some (.int (gI o7 a10 (ix 0))), some (.int 0), some (.int 0)]) rfl ?_
        exact r_X7_colours_61 hd _ _ _ _ _ _ _ _ _ _ _ hf
      · replace hf := (if_neg c6).symm.trans hf
        refine rs_ifF i_X7_colours_27 (cf_ne c6) ?_
        refine rs_bipush i_X7_colours_30 (v := (-2)) (by decide) ?_
        have hf := Option.some.inj hf
        subst hf
        exact rs_iret i_X7_colours_32 m_X7_colours rfl
def f_X7_colours (n : Nat) (v0 : Nat) (v1 : Int32) (v2 : Int32) (v3 : Int32) (h : Hp) : Option (Int32 × Hp) := f_X7_colours_0 n v0 v1 v2 v3 h
theorem c_X7_colours {X : Nat → Int32} {d : Nat} (hd : 1 ≤ d) {n : Nat} {v0 : Nat} {v1 : Int32} {v2 : Int32} {v3 : Int32} {h : Hp} {o : (Int32 × Hp)} (hf : f_X7_colours n v0 v1 v2 v3 h = some o) : Calls X d 98 [.ref v0, .int v1, .int v2, .int v3] h (some (.int o.1), o.2) := by
  obtain ⟨d, rfl⟩ : ∃ z, d = z + 1 := ⟨d - 1, by omega⟩
  exact ⟨_, rfl, r_X7_colours_0 hd hf⟩
theorem i_X7_inLowestTerms_0 : fetch 124 0 = some (.lload_n 0, 1, 0, 0, 0, 0) := by decide +kernel
theorem i_X7_inLowestTerms_1 : fetch 124 1 = some (.lstore 5, 3, 0, 0, 0, 0) := by decide +kernel
theorem i_X7_inLowestTerms_3 : fetch 124 3 = some (.lload_n 2, 4, 0, 0, 0, 0) := by decide +kernel
theorem i_X7_inLowestTerms_4 : fetch 124 4 = some (.lstore 7, 6, 0, 0, 0, 0) := by decide +kernel
theorem i_X7_inLowestTerms_6 : fetch 124 6 = some (.iconst 0, 7, 0, 0, 0, 0) := by decide +kernel
theorem i_X7_inLowestTerms_7 : fetch 124 7 = some (.istore 9, 9, 0, 0, 0, 0) := by decide +kernel
theorem i_X7_inLowestTerms_9 : fetch 124 9 = some (.iload 9, 11, 0, 0, 0, 0) := by decide +kernel
theorem i_X7_inLowestTerms_11 : fetch 124 11 = some (.sipush 200, 14, 0, 0, 0, 0) := by decide +kernel
theorem i_X7_inLowestTerms_14 : fetch 124 14 = some (.if_icmp .ge 31, 17, 0, 0, 0, 0) := by decide +kernel
theorem i_X7_inLowestTerms_17 : fetch 124 17 = some (.lload 7, 19, 0, 0, 0, 0) := by decide +kernel
theorem i_X7_inLowestTerms_19 : fetch 124 19 = some (.lconst 0, 20, 0, 0, 0, 0) := by decide +kernel
theorem i_X7_inLowestTerms_20 : fetch 124 20 = some (.lcmp, 21, 0, 0, 0, 0) := by decide +kernel
theorem i_X7_inLowestTerms_21 : fetch 124 21 = some (.ifCond .eq 24, 24, 0, 0, 0, 0) := by decide +kernel
theorem i_X7_inLowestTerms_24 : fetch 124 24 = some (.lload 5, 26, 0, 0, 0, 0) := by decide +kernel
theorem i_X7_inLowestTerms_26 : fetch 124 26 = some (.lload 7, 28, 0, 0, 0, 0) := by decide +kernel
theorem i_X7_inLowestTerms_28 : fetch 124 28 = some (.lrem, 29, 0, 0, 0, 0) := by decide +kernel
theorem i_X7_inLowestTerms_29 : fetch 124 29 = some (.lstore 10, 31, 0, 0, 0, 0) := by decide +kernel
theorem i_X7_inLowestTerms_31 : fetch 124 31 = some (.lload 7, 33, 0, 0, 0, 0) := by decide +kernel
theorem i_X7_inLowestTerms_33 : fetch 124 33 = some (.lstore 5, 35, 0, 0, 0, 0) := by decide +kernel
theorem i_X7_inLowestTerms_35 : fetch 124 35 = some (.lload 10, 37, 0, 0, 0, 0) := by decide +kernel
theorem i_X7_inLowestTerms_37 : fetch 124 37 = some (.lstore 7, 39, 0, 0, 0, 0) := by decide +kernel
theorem i_X7_inLowestTerms_39 : fetch 124 39 = some (.iinc 9 1, 42, 0, 0, 0, 0) := by decide +kernel
theorem i_X7_inLowestTerms_42 : fetch 124 42 = some (.goto (-33), 45, 0, 0, 0, 0) := by decide +kernel
theorem i_X7_inLowestTerms_45 : fetch 124 45 = some (.iload 4, 47, 0, 0, 0, 0) := by decide +kernel
theorem i_X7_inLowestTerms_47 : fetch 124 47 = some (.ifCond .ne 7, 50, 0, 0, 0, 0) := by decide +kernel
theorem i_X7_inLowestTerms_50 : fetch 124 50 = some (.lload_n 0, 51, 0, 0, 0, 0) := by decide +kernel
theorem i_X7_inLowestTerms_51 : fetch 124 51 = some (.goto 4, 54, 0, 0, 0, 0) := by decide +kernel
theorem i_X7_inLowestTerms_54 : fetch 124 54 = some (.lload_n 2, 55, 0, 0, 0, 0) := by decide +kernel
theorem i_X7_inLowestTerms_55 : fetch 124 55 = some (.lload 5, 57, 0, 0, 0, 0) := by decide +kernel
theorem i_X7_inLowestTerms_57 : fetch 124 57 = some (.invokestatic 340, 60, 111, 0, 0, 899) := by decide +kernel
theorem i_X7_inLowestTerms_60 : fetch 124 60 = some (.lreturn, 61, 0, 0, 0, 0) := by decide +kernel
def f_X7_inLowestTerms_55 (n : Nat) (v5 : Int64) (s0 : Int64) (h : Hp) : Option (Int64 × Hp) :=
  (f_X7_quotient s0 v5 h).bind fun o1 =>
  some (o1.1, o1.2)
set_option maxRecDepth 100000 in
set_option maxHeartbeats 4000000 in
theorem r_X7_inLowestTerms_55 {X : Nat → Int32} {d : Nat} (hd : 1 ≤ (d + 1)) {n : Nat} {v5 : Int64} {s0 : Int64} {d0 : Int64} {d2 : Int64} {d4 : Int32} {d7 : Int64} {d9 : Int32} {w10 : Option Value} {w11 : Option Value} {h : Hp} {o : (Int64 × Hp)} (hf : f_X7_inLowestTerms_55 n v5 s0 h = some o) : Run X (d + 1) 124 55 [some (.long d0), none, some (.long d2), none, some (.int d4), some (.long v5), none, some (.long d7), none, some (.int d9), w10, w11] [.long s0] h (some (.long o.1), o.2) := by
  unfold f_X7_inLowestTerms_55 at hf
  refine rs_lload i_X7_inLowestTerms_55 rfl ?_
  obtain ⟨o1, e1, hf⟩ := bind_some hf
  refine rs_inS i_X7_inLowestTerms_57 (by decide) m_X7_quotient rfl (As := [.long s0, .long v5]) (rest := []) rfl rfl (Nat.le_of_ble_eq_true rfl) (c_X7_quotient (by omega) e1) (st' := [.long o1.1]) rfl ?_
  have hf := Option.some.inj hf
  subst hf
  exact rs_lret i_X7_inLowestTerms_60 m_X7_inLowestTerms rfl
def f_X7_inLowestTerms_45 (n : Nat) (v0 : Int64) (v2 : Int64) (v4 : Int32) (v5 : Int64) (h : Hp) : Option (Int64 × Hp) :=
  if v4 ≠ 0 then
    f_X7_inLowestTerms_55 n v5 v2 h
  else
    f_X7_inLowestTerms_55 n v5 v0 h
set_option maxRecDepth 100000 in
set_option maxHeartbeats 4000000 in
theorem r_X7_inLowestTerms_45 {X : Nat → Int32} {d : Nat} (hd : 1 ≤ (d + 1)) {n : Nat} {v0 : Int64} {v2 : Int64} {v4 : Int32} {v5 : Int64} {d7 : Int64} {d9 : Int32} {w10 : Option Value} {w11 : Option Value} {h : Hp} {o : (Int64 × Hp)} (hf : f_X7_inLowestTerms_45 n v0 v2 v4 v5 h = some o) : Run X (d + 1) 124 45 [some (.long v0), none, some (.long v2), none, some (.int v4), some (.long v5), none, some (.long d7), none, some (.int d9), w10, w11] [] h (some (.long o.1), o.2) := by
  unfold f_X7_inLowestTerms_45 at hf
  refine rs_iload i_X7_inLowestTerms_45 rfl ?_
  by_cases c1 : v4 ≠ 0
  · replace hf := (if_pos c1).symm.trans hf
    refine rs_ifT i_X7_inLowestTerms_47 (ct_ne c1) (tg := 54) (by decide) ?_
    refine rs_lload_n i_X7_inLowestTerms_54 rfl ?_
    exact r_X7_inLowestTerms_55 hd hf
  · replace hf := (if_neg c1).symm.trans hf
    refine rs_ifF i_X7_inLowestTerms_47 (cf_ne c1) ?_
    refine rs_lload_n i_X7_inLowestTerms_50 rfl ?_
    refine rs_goto i_X7_inLowestTerms_51 (tg := 55) (by decide) ?_
    exact r_X7_inLowestTerms_55 hd hf
def f_X7_inLowestTerms_9 (n : Nat) : Nat → Int64 → Int64 → Int32 → Int64 → Int64 → Int32 → Hp → Option (Int64 × Hp)
  | 0, _, _, _, _, _, _, _ => none
  | m + 1, v0, v2, v4, v5, v7, v9, h =>
    if 200 ≤ v9 then
      f_X7_inLowestTerms_45 n v0 v2 v4 v5 h
    else
      if v7 = 0 then
        f_X7_inLowestTerms_45 n v0 v2 v4 v5 h
      else
        if ¬ v7 = 0 then
        (f_X7_inLowestTerms_9 n m) v0 v2 v4 v7 (v5 - v5 / v7 * v7) (v9 + 1) h
        else none
set_option maxRecDepth 100000 in
set_option maxHeartbeats 4000000 in
theorem r_X7_inLowestTerms_9 {X : Nat → Int32} {d : Nat} (hd : 1 ≤ (d + 1)) {n : Nat} : ∀ (m : Nat) (v0 : Int64) (v2 : Int64) (v4 : Int32) (v5 : Int64) (v7 : Int64) (v9 : Int32) (w10 : Option Value) (w11 : Option Value) (h : Hp) (o : (Int64 × Hp)), f_X7_inLowestTerms_9 n m v0 v2 v4 v5 v7 v9 h = some o → Run X (d + 1) 124 9 [some (.long v0), none, some (.long v2), none, some (.int v4), some (.long v5), none, some (.long v7), none, some (.int v9), w10, w11] [] h (some (.long o.1), o.2) := by
  intro m
  induction m with
  | zero => intro v0 v2 v4 v5 v7 v9 w10 w11 h o hf; cases hf
  | succ m ih =>
    intro v0 v2 v4 v5 v7 v9 w10 w11 h o hf
    rw [f_X7_inLowestTerms_9] at hf
    refine rs_iload i_X7_inLowestTerms_9 rfl ?_
    refine rs_sipush i_X7_inLowestTerms_11 (v := 200) (by decide) ?_
    by_cases c1 : 200 ≤ v9
    · replace hf := (if_pos c1).symm.trans hf
      refine rs_icT i_X7_inLowestTerms_14 (ct_ge c1) (tg := 45) (by decide) ?_
      exact r_X7_inLowestTerms_45 hd hf
    · replace hf := (if_neg c1).symm.trans hf
      refine rs_icF i_X7_inLowestTerms_14 (cf_ge c1) ?_
      refine rs_lload i_X7_inLowestTerms_17 rfl ?_
      refine rs_lconst i_X7_inLowestTerms_19 (v := 0) (by decide) ?_
      refine rs_lcmp i_X7_inLowestTerms_20 ?_
      by_cases c2 : v7 = 0
      · replace hf := (if_pos c2).symm.trans hf
        refine rs_ifT i_X7_inLowestTerms_21 (by rw [lc_eq]; exact decide_eq_true c2) (tg := 45) (by decide) ?_
        exact r_X7_inLowestTerms_45 hd hf
      · replace hf := (if_neg c2).symm.trans hf
        refine rs_ifF i_X7_inLowestTerms_21 (by rw [lc_eq]; exact decide_eq_false c2) ?_
        refine rs_lload i_X7_inLowestTerms_24 rfl ?_
        refine rs_lload i_X7_inLowestTerms_26 rfl ?_
        obtain ⟨c3, hf⟩ := ite_some hf
        refine rs_lrem i_X7_inLowestTerms_28 c3 ?_
        refine rs_lstore i_X7_inLowestTerms_29 (Nat.le_of_ble_eq_true rfl) (lv' := [some (.long v0), none, some (.long v2), none, some (.int v4), some (.long v5), none, some (.long v7), none, some (.int v9), some (.long (v5 - v5 / v7 * v7)), none]) rfl ?_
        refine rs_lload i_X7_inLowestTerms_31 rfl ?_
        refine rs_lstore i_X7_inLowestTerms_33 (Nat.le_of_ble_eq_true rfl) (lv' := [some (.long v0), none, some (.long v2), none, some (.int v4), some (.long v7), none, some (.long v7), none, some (.int v9), some (.long (v5 - v5 / v7 * v7)), none]) rfl ?_
        refine rs_lload i_X7_inLowestTerms_35 rfl ?_
        refine rs_lstore i_X7_inLowestTerms_37 (Nat.le_of_ble_eq_true rfl) (lv' := [some (.long v0), none, some (.long v2), none, some (.int v4), some (.long v7), none, some (.long (v5 - v5 / v7 * v7)), none, some (.int v9), some (.long (v5 - v5 / v7 * v7)), none]) rfl ?_
        refine rs_iinc i_X7_inLowestTerms_39 rfl (v := v9 + 1) rfl (Nat.le_of_ble_eq_true rfl) (lv' := [some (.long v0), none, some (.long v2), none, some (.int v4), some (.long v7), none, some (.long (v5 - v5 / v7 * v7)), none, some (.int (v9 + 1)), some (.long (v5 - v5 / v7 * v7)), none]) rfl ?_
        refine rs_goto i_X7_inLowestTerms_42 (tg := 9) (by decide) ?_
        exact ih _ _ _ _ _ _ _ _ _ _ hf
def f_X7_inLowestTerms_0 (n : Nat) (v0 : Int64) (v2 : Int64) (v4 : Int32) (h : Hp) : Option (Int64 × Hp) :=
  f_X7_inLowestTerms_9 n n v0 v2 v4 v0 v2 0 h
set_option maxRecDepth 100000 in
set_option maxHeartbeats 4000000 in
theorem r_X7_inLowestTerms_0 {X : Nat → Int32} {d : Nat} (hd : 1 ≤ (d + 1)) {n : Nat} {v0 : Int64} {v2 : Int64} {v4 : Int32} {h : Hp} {o : (Int64 × Hp)} (hf : f_X7_inLowestTerms_0 n v0 v2 v4 h = some o) : Run X (d + 1) 124 0 [some (.long v0), none, some (.long v2), none, some (.int v4), none, none, none, none, none, none, none] [] h (some (.long o.1), o.2) := by
  unfold f_X7_inLowestTerms_0 at hf
  refine rs_lload_n i_X7_inLowestTerms_0 rfl ?_
  refine rs_lstore i_X7_inLowestTerms_1 (Nat.le_of_ble_eq_true rfl) (lv' := [some (.long v0), none, some (.long v2), none, some (.int v4), some (.long v0), none, none, none, none, none, none]) rfl ?_
  refine rs_lload_n i_X7_inLowestTerms_3 rfl ?_
  refine rs_lstore i_X7_inLowestTerms_4 (Nat.le_of_ble_eq_true rfl) (lv' := [some (.long v0), none, some (.long v2), none, some (.int v4), some (.long v0), none, some (.long v2), none, none, none, none]) rfl ?_
  refine rs_iconst i_X7_inLowestTerms_6 (v := 0) (by decide) ?_
  refine rs_istore i_X7_inLowestTerms_7 (Nat.le_of_ble_eq_true rfl) (lv' := [some (.long v0), none, some (.long v2), none, some (.int v4), some (.long v0), none, some (.long v2), none, some (.int 0), none, none]) rfl ?_
  exact r_X7_inLowestTerms_9 hd _ _ _ _ _ _ _ _ _ _ _ hf
def f_X7_inLowestTerms (n : Nat) (v0 : Int64) (v2 : Int64) (v4 : Int32) (h : Hp) : Option (Int64 × Hp) := f_X7_inLowestTerms_0 n v0 v2 v4 h
theorem c_X7_inLowestTerms {X : Nat → Int32} {d : Nat} (hd : 1 ≤ d) {n : Nat} {v0 : Int64} {v2 : Int64} {v4 : Int32} {h : Hp} {o : (Int64 × Hp)} (hf : f_X7_inLowestTerms n v0 v2 v4 h = some o) : Calls X d 124 [.long v0, .long v2, .int v4] h (some (.long o.1), o.2) := by
  obtain ⟨d, rfl⟩ : ∃ z, d = z + 1 := ⟨d - 1, by omega⟩
  exact ⟨_, rfl, r_X7_inLowestTerms_0 hd hf⟩
theorem i_X7_thin_0 : fetch 99 0 = some (.iload_n 1, 1, 0, 0, 0, 0) := by decide +kernel
theorem i_X7_thin_1 : fetch 99 1 = some (.iconst 1, 2, 0, 0, 0, 0) := by decide +kernel
theorem i_X7_thin_2 : fetch 99 2 = some (.ldc_w 289, 5, 0, 0, 999999, 895) := by decide +kernel
theorem i_X7_thin_5 : fetch 99 5 = some (.invokestatic 112, 8, 110, 0, 0, 534) := by decide +kernel
theorem i_X7_thin_8 : fetch 99 8 = some (.ifCond .eq 22, 11, 0, 0, 0, 0) := by decide +kernel
theorem i_X7_thin_11 : fetch 99 11 = some (.iload_n 2, 12, 0, 0, 0, 0) := by decide +kernel
theorem i_X7_thin_12 : fetch 99 12 = some (.iconst 0, 13, 0, 0, 0, 0) := by decide +kernel
theorem i_X7_thin_13 : fetch 99 13 = some (.bipush 30, 15, 0, 0, 0, 0) := by decide +kernel
theorem i_X7_thin_15 : fetch 99 15 = some (.invokestatic 112, 18, 110, 0, 0, 534) := by decide +kernel
theorem i_X7_thin_18 : fetch 99 18 = some (.ifCond .eq 12, 21, 0, 0, 0, 0) := by decide +kernel
theorem i_X7_thin_21 : fetch 99 21 = some (.iload_n 3, 22, 0, 0, 0, 0) := by decide +kernel
theorem i_X7_thin_22 : fetch 99 22 = some (.iconst 0, 23, 0, 0, 0, 0) := by decide +kernel
theorem i_X7_thin_23 : fetch 99 23 = some (.iconst 1, 24, 0, 0, 0, 0) := by decide +kernel
theorem i_X7_thin_24 : fetch 99 24 = some (.invokestatic 112, 27, 110, 0, 0, 534) := by decide +kernel
theorem i_X7_thin_27 : fetch 99 27 = some (.ifCond .ne 7, 30, 0, 0, 0, 0) := by decide +kernel
theorem i_X7_thin_30 : fetch 99 30 = some (.ldc2_w 195, 33, 0, 0, (-4611686018427387904), 731) := by decide +kernel
theorem i_X7_thin_33 : fetch 99 33 = some (.lreturn, 34, 0, 0, 0, 0) := by decide +kernel
theorem i_X7_thin_34 : fetch 99 34 = some (.iload_n 1, 35, 0, 0, 0, 0) := by decide +kernel
theorem i_X7_thin_35 : fetch 99 35 = some (.i2l, 36, 0, 0, 0, 0) := by decide +kernel
theorem i_X7_thin_36 : fetch 99 36 = some (.lconst 1, 37, 0, 0, 0, 0) := by decide +kernel
theorem i_X7_thin_37 : fetch 99 37 = some (.iload_n 2, 38, 0, 0, 0, 0) := by decide +kernel
theorem i_X7_thin_38 : fetch 99 38 = some (.lshl, 39, 0, 0, 0, 0) := by decide +kernel
theorem i_X7_thin_39 : fetch 99 39 = some (.iload_n 3, 40, 0, 0, 0, 0) := by decide +kernel
theorem i_X7_thin_40 : fetch 99 40 = some (.invokestatic 290, 43, 124, 0, 0, 896) := by decide +kernel
theorem i_X7_thin_43 : fetch 99 43 = some (.lreturn, 44, 0, 0, 0, 0) := by decide +kernel
def f_X7_thin_0 (n : Nat) (v1 : Int32) (v2 : Int32) (v3 : Int32) (h : Hp) : Option (Int64 × Hp) :=
  (f_X7_within v1 1 999999 h).bind fun o1 =>
  if o1.1 = 0 then
    some ((-4611686018427387904), o1.2)
  else
    (f_X7_within v2 0 30 o1.2).bind fun o3 =>
    if o3.1 = 0 then
      some ((-4611686018427387904), o3.2)
    else
      (f_X7_within v3 0 1 o3.2).bind fun o5 =>
      if o5.1 ≠ 0 then
        (f_X7_inLowestTerms n (Int32.toInt64 v1) (1 <<< (Int32.toInt64 v2 &&& 63)) v3 o5.2).bind fun o7 =>
        some (o7.1, o7.2)
      else
        some ((-4611686018427387904), o5.2)
set_option maxRecDepth 100000 in
set_option maxHeartbeats 4000000 in
theorem r_X7_thin_0 {X : Nat → Int32} {d : Nat} (hd : 2 ≤ (d + 1)) {n : Nat} {v1 : Int32} {v2 : Int32} {v3 : Int32} {d0 : Nat} {h : Hp} {o : (Int64 × Hp)} (hf : f_X7_thin_0 n v1 v2 v3 h = some o) : Run X (d + 1) 99 0 [some (.ref d0), some (.int v1), some (.int v2), some (.int v3)] [] h (some (.long o.1), o.2) := by
  unfold f_X7_thin_0 at hf
  refine rs_iload_n i_X7_thin_0 rfl ?_
  refine rs_iconst i_X7_thin_1 (v := 1) (by decide) ?_
  refine rs_ldcw i_X7_thin_2 (v := 999999) (by decide) ?_
  obtain ⟨o1, e1, hf⟩ := bind_some hf
  refine rs_inS i_X7_thin_5 (by decide) m_X7_within rfl (As := [.int v1, .int 1, .int 999999]) (rest := []) rfl rfl (Nat.le_of_ble_eq_true rfl) (c_X7_within (by omega) e1) (st' := [.int o1.1]) rfl ?_
  by_cases c2 : o1.1 = 0
  · replace hf := (if_pos c2).symm.trans hf
    refine rs_ifT i_X7_thin_8 (ct_eq c2) (tg := 30) (by decide) ?_
    refine rs_ldc2 i_X7_thin_30 (v := (-4611686018427387904)) (by decide) ?_
    have hf := Option.some.inj hf
    subst hf
    exact rs_lret i_X7_thin_33 m_X7_thin rfl
  · replace hf := (if_neg c2).symm.trans hf
    refine rs_ifF i_X7_thin_8 (cf_eq c2) ?_
    refine rs_iload_n i_X7_thin_11 rfl ?_
    refine rs_iconst i_X7_thin_12 (v := 0) (by decide) ?_
    refine rs_bipush i_X7_thin_13 (v := 30) (by decide) ?_
    obtain ⟨o3, e3, hf⟩ := bind_some hf
    refine rs_inS i_X7_thin_15 (by decide) m_X7_within rfl (As := [.int v2, .int 0, .int 30]) (rest := []) rfl rfl (Nat.le_of_ble_eq_true rfl) (c_X7_within (by omega) e3) (st' := [.int o3.1]) rfl ?_
    by_cases c4 : o3.1 = 0
    · replace hf := (if_pos c4).symm.trans hf
      refine rs_ifT i_X7_thin_18 (ct_eq c4) (tg := 30) (by decide) ?_
      refine rs_ldc2 i_X7_thin_30 (v := (-4611686018427387904)) (by decide) ?_
      have hf := Option.some.inj hf
      subst hf
      exact rs_lret i_X7_thin_33 m_X7_thin rfl
    · replace hf := (if_neg c4).symm.trans hf
      refine rs_ifF i_X7_thin_18 (cf_eq c4) ?_
      refine rs_iload_n i_X7_thin_21 rfl ?_
      refine rs_iconst i_X7_thin_22 (v := 0) (by decide) ?_
      refine rs_iconst i_X7_thin_23 (v := 1) (by decide) ?_
      obtain ⟨o5, e5, hf⟩ := bind_some hf
      refine rs_inS i_X7_thin_24 (by decide) m_X7_within rfl (As := [.int v3, .int 0, .int 1]) (rest := []) rfl rfl (Nat.le_of_ble_eq_true rfl) (c_X7_within (by omega) e5) (st' := [.int o5.1]) rfl ?_
      by_cases c6 : o5.1 ≠ 0
      · replace hf := (if_pos c6).symm.trans hf
        refine rs_ifT i_X7_thin_27 (ct_ne c6) (tg := 34) (by decide) ?_
        refine rs_iload_n i_X7_thin_34 rfl ?_
        refine rs_i2l i_X7_thin_35 ?_
        refine rs_lconst i_X7_thin_36 (v := 1) (by decide) ?_
        refine rs_iload_n i_X7_thin_37 rfl ?_
        refine rs_lshl i_X7_thin_38 ?_
        refine rs_iload_n i_X7_thin_39 rfl ?_
        obtain ⟨o7, e7, hf⟩ := bind_some hf
        refine rs_inS i_X7_thin_40 (by decide) m_X7_inLowestTerms rfl (As := [.long (Int32.toInt64 v1), .long (1 <<< (Int32.toInt64 v2 &&& 63)), .int v3]) (rest := []) rfl rfl (Nat.le_of_ble_eq_true rfl) (c_X7_inLowestTerms (by omega) e7) (st' := [.long o7.1]) rfl ?_
        have hf := Option.some.inj hf
        subst hf
        exact rs_lret i_X7_thin_43 m_X7_thin rfl
      · replace hf := (if_neg c6).symm.trans hf
        refine rs_ifF i_X7_thin_27 (cf_ne c6) ?_
        refine rs_ldc2 i_X7_thin_30 (v := (-4611686018427387904)) (by decide) ?_
        have hf := Option.some.inj hf
        subst hf
        exact rs_lret i_X7_thin_33 m_X7_thin rfl
def f_X7_thin (n : Nat) (v0 : Nat) (v1 : Int32) (v2 : Int32) (v3 : Int32) (h : Hp) : Option (Int64 × Hp) := f_X7_thin_0 n v1 v2 v3 h
theorem c_X7_thin {X : Nat → Int32} {d : Nat} (hd : 2 ≤ d) {n : Nat} {v0 : Nat} {v1 : Int32} {v2 : Int32} {v3 : Int32} {h : Hp} {o : (Int64 × Hp)} (hf : f_X7_thin n v0 v1 v2 v3 h = some o) : Calls X d 99 [.ref v0, .int v1, .int v2, .int v3] h (some (.long o.1), o.2) := by
  obtain ⟨d, rfl⟩ : ∃ z, d = z + 1 := ⟨d - 1, by omega⟩
  exact ⟨_, rfl, r_X7_thin_0 hd hf⟩
theorem i_X7_areOdds_0 : fetch 116 0 = some (.iload_n 1, 1, 0, 0, 0, 0) := by decide +kernel
theorem i_X7_areOdds_1 : fetch 116 1 = some (.iconst 1, 2, 0, 0, 0, 0) := by decide +kernel
theorem i_X7_areOdds_2 : fetch 116 2 = some (.bipush 30, 4, 0, 0, 0, 0) := by decide +kernel
theorem i_X7_areOdds_4 : fetch 116 4 = some (.invokestatic 112, 7, 110, 0, 0, 534) := by decide +kernel
theorem i_X7_areOdds_7 : fetch 116 7 = some (.ifCond .eq 16, 10, 0, 0, 0, 0) := by decide +kernel
theorem i_X7_areOdds_10 : fetch 116 10 = some (.iload_n 0, 11, 0, 0, 0, 0) := by decide +kernel
theorem i_X7_areOdds_11 : fetch 116 11 = some (.iconst 0, 12, 0, 0, 0, 0) := by decide +kernel
theorem i_X7_areOdds_12 : fetch 116 12 = some (.iload_n 1, 13, 0, 0, 0, 0) := by decide +kernel
theorem i_X7_areOdds_13 : fetch 116 13 = some (.invokestatic 112, 16, 110, 0, 0, 534) := by decide +kernel
theorem i_X7_areOdds_16 : fetch 116 16 = some (.ifCond .eq 7, 19, 0, 0, 0, 0) := by decide +kernel
theorem i_X7_areOdds_19 : fetch 116 19 = some (.iconst 1, 20, 0, 0, 0, 0) := by decide +kernel
theorem i_X7_areOdds_20 : fetch 116 20 = some (.goto 4, 23, 0, 0, 0, 0) := by decide +kernel
theorem i_X7_areOdds_23 : fetch 116 23 = some (.iconst 0, 24, 0, 0, 0, 0) := by decide +kernel
theorem i_X7_areOdds_24 : fetch 116 24 = some (.ireturn, 25, 0, 0, 0, 0) := by decide +kernel
def f_X7_areOdds_0 (v0 : Int32) (v1 : Int32) (h : Hp) : Option (Int32 × Hp) :=
  (f_X7_within v1 1 30 h).bind fun o1 =>
  if o1.1 = 0 then
    some (0, o1.2)
  else
    (f_X7_within v0 0 v1 o1.2).bind fun o3 =>
    if o3.1 = 0 then
      some (0, o3.2)
    else
      some (1, o3.2)
set_option maxRecDepth 100000 in
set_option maxHeartbeats 4000000 in
theorem r_X7_areOdds_0 {X : Nat → Int32} {d : Nat} (hd : 1 ≤ (d + 1)) {v0 : Int32} {v1 : Int32} {h : Hp} {o : (Int32 × Hp)} (hf : f_X7_areOdds_0 v0 v1 h = some o) : Run X (d + 1) 116 0 [some (.int v0), some (.int v1)] [] h (some (.int o.1), o.2) := by
  unfold f_X7_areOdds_0 at hf
  refine rs_iload_n i_X7_areOdds_0 rfl ?_
  refine rs_iconst i_X7_areOdds_1 (v := 1) (by decide) ?_
  refine rs_bipush i_X7_areOdds_2 (v := 30) (by decide) ?_
  obtain ⟨o1, e1, hf⟩ := bind_some hf
  refine rs_inS i_X7_areOdds_4 (by decide) m_X7_within rfl (As := [.int v1, .int 1, .int 30]) (rest := []) rfl rfl (Nat.le_of_ble_eq_true rfl) (c_X7_within (by omega) e1) (st' := [.int o1.1]) rfl ?_
  by_cases c2 : o1.1 = 0
  · replace hf := (if_pos c2).symm.trans hf
    refine rs_ifT i_X7_areOdds_7 (ct_eq c2) (tg := 23) (by decide) ?_
    refine rs_iconst i_X7_areOdds_23 (v := 0) (by decide) ?_
    have hf := Option.some.inj hf
    subst hf
    exact rs_iret i_X7_areOdds_24 m_X7_areOdds (by decide)
  · replace hf := (if_neg c2).symm.trans hf
    refine rs_ifF i_X7_areOdds_7 (cf_eq c2) ?_
    refine rs_iload_n i_X7_areOdds_10 rfl ?_
    refine rs_iconst i_X7_areOdds_11 (v := 0) (by decide) ?_
    refine rs_iload_n i_X7_areOdds_12 rfl ?_
    obtain ⟨o3, e3, hf⟩ := bind_some hf
    refine rs_inS i_X7_areOdds_13 (by decide) m_X7_within rfl (As := [.int v0, .int 0, .int v1]) (rest := []) rfl rfl (Nat.le_of_ble_eq_true rfl) (c_X7_within (by omega) e3) (st' := [.int o3.1]) rfl ?_
    by_cases c4 : o3.1 = 0
    · replace hf := (if_pos c4).symm.trans hf
      refine rs_ifT i_X7_areOdds_16 (ct_eq c4) (tg := 23) (by decide) ?_
      refine rs_iconst i_X7_areOdds_23 (v := 0) (by decide) ?_
      have hf := Option.some.inj hf
      subst hf
      exact rs_iret i_X7_areOdds_24 m_X7_areOdds (by decide)
    · replace hf := (if_neg c4).symm.trans hf
      refine rs_ifF i_X7_areOdds_16 (cf_eq c4) ?_
      refine rs_iconst i_X7_areOdds_19 (v := 1) (by decide) ?_
      refine rs_goto i_X7_areOdds_20 (tg := 24) (by decide) ?_
      have hf := Option.some.inj hf
      subst hf
      exact rs_iret i_X7_areOdds_24 m_X7_areOdds (by decide)
def f_X7_areOdds (v0 : Int32) (v1 : Int32) (h : Hp) : Option (Int32 × Hp) := f_X7_areOdds_0 v0 v1 h
theorem c_X7_areOdds {X : Nat → Int32} {d : Nat} (hd : 1 ≤ d) {v0 : Int32} {v1 : Int32} {h : Hp} {o : (Int32 × Hp)} (hf : f_X7_areOdds v0 v1 h = some o) : Calls X d 116 [.int v0, .int v1] h (some (.int o.1), o.2) := by
  obtain ⟨d, rfl⟩ : ∃ z, d = z + 1 := ⟨d - 1, by omega⟩
  exact ⟨_, rfl, r_X7_areOdds_0 hd hf⟩
theorem i_X7_multiplied_0 : fetch 123 0 = some (.lconst 1, 1, 0, 0, 0, 0) := by decide +kernel
theorem i_X7_multiplied_1 : fetch 123 1 = some (.lstore_n 2, 2, 0, 0, 0, 0) := by decide +kernel
theorem i_X7_multiplied_2 : fetch 123 2 = some (.iconst 0, 3, 0, 0, 0, 0) := by decide +kernel
theorem i_X7_multiplied_3 : fetch 123 3 = some (.istore 4, 5, 0, 0, 0, 0) := by decide +kernel
theorem i_X7_multiplied_5 : fetch 123 5 = some (.iload 4, 7, 0, 0, 0, 0) := by decide +kernel
theorem i_X7_multiplied_7 : fetch 123 7 = some (.iload_n 1, 8, 0, 0, 0, 0) := by decide +kernel
theorem i_X7_multiplied_8 : fetch 123 8 = some (.if_icmp .ge 14, 11, 0, 0, 0, 0) := by decide +kernel
theorem i_X7_multiplied_11 : fetch 123 11 = some (.lload_n 2, 12, 0, 0, 0, 0) := by decide +kernel
theorem i_X7_multiplied_12 : fetch 123 12 = some (.iload_n 0, 13, 0, 0, 0, 0) := by decide +kernel
theorem i_X7_multiplied_13 : fetch 123 13 = some (.i2l, 14, 0, 0, 0, 0) := by decide +kernel
theorem i_X7_multiplied_14 : fetch 123 14 = some (.lmul, 15, 0, 0, 0, 0) := by decide +kernel
theorem i_X7_multiplied_15 : fetch 123 15 = some (.lstore_n 2, 16, 0, 0, 0, 0) := by decide +kernel
theorem i_X7_multiplied_16 : fetch 123 16 = some (.iinc 4 1, 19, 0, 0, 0, 0) := by decide +kernel
theorem i_X7_multiplied_19 : fetch 123 19 = some (.goto (-14), 22, 0, 0, 0, 0) := by decide +kernel
theorem i_X7_multiplied_22 : fetch 123 22 = some (.lload_n 2, 23, 0, 0, 0, 0) := by decide +kernel
theorem i_X7_multiplied_23 : fetch 123 23 = some (.lreturn, 24, 0, 0, 0, 0) := by decide +kernel
def f_X7_multiplied_5 (n : Nat) : Nat → Int32 → Int32 → Int64 → Int32 → Hp → Option (Int64 × Hp)
  | 0, _, _, _, _, _ => none
  | m + 1, v0, v1, v2, v4, h =>
    if v1 ≤ v4 then
      some (v2, h)
    else
      (f_X7_multiplied_5 n m) v0 v1 (v2 * (Int32.toInt64 v0)) (v4 + 1) h
set_option maxRecDepth 100000 in
set_option maxHeartbeats 4000000 in
theorem r_X7_multiplied_5 {X : Nat → Int32} {d : Nat} (hd : 0 ≤ d) {n : Nat} : ∀ (m : Nat) (v0 : Int32) (v1 : Int32) (v2 : Int64) (v4 : Int32) (h : Hp) (o : (Int64 × Hp)), f_X7_multiplied_5 n m v0 v1 v2 v4 h = some o → Run X d 123 5 [some (.int v0), some (.int v1), some (.long v2), none, some (.int v4)] [] h (some (.long o.1), o.2) := by
  intro m
  induction m with
  | zero => intro v0 v1 v2 v4 h o hf; cases hf
  | succ m ih =>
    intro v0 v1 v2 v4 h o hf
    rw [f_X7_multiplied_5] at hf
    refine rs_iload i_X7_multiplied_5 rfl ?_
    refine rs_iload_n i_X7_multiplied_7 rfl ?_
    by_cases c1 : v1 ≤ v4
    · replace hf := (if_pos c1).symm.trans hf
      refine rs_icT i_X7_multiplied_8 (ct_ge c1) (tg := 22) (by decide) ?_
      refine rs_lload_n i_X7_multiplied_22 rfl ?_
      have hf := Option.some.inj hf
      subst hf
      exact rs_lret i_X7_multiplied_23 m_X7_multiplied rfl
    · replace hf := (if_neg c1).symm.trans hf
      refine rs_icF i_X7_multiplied_8 (cf_ge c1) ?_
      refine rs_lload_n i_X7_multiplied_11 rfl ?_
      refine rs_iload_n i_X7_multiplied_12 rfl ?_
      refine rs_i2l i_X7_multiplied_13 ?_
      refine rs_lmul i_X7_multiplied_14 ?_
      refine rs_lstore_n i_X7_multiplied_15 (Nat.le_of_ble_eq_true rfl) (lv' := [some (.int v0), some (.int v1), some (.long (v2 * (Int32.toInt64 v0))), none, some (.int v4)]) rfl ?_
      refine rs_iinc i_X7_multiplied_16 rfl (v := v4 + 1) rfl (Nat.le_of_ble_eq_true rfl) (lv' := [some (.int v0), some (.int v1), some (.long (v2 * (Int32.toInt64 v0))), none, some (.int (v4 + 1))]) rfl ?_
      refine rs_goto i_X7_multiplied_19 (tg := 5) (by decide) ?_
      exact ih _ _ _ _ _ _ hf
def f_X7_multiplied_0 (n : Nat) (v0 : Int32) (v1 : Int32) (h : Hp) : Option (Int64 × Hp) :=
  f_X7_multiplied_5 n n v0 v1 1 0 h
set_option maxRecDepth 100000 in
set_option maxHeartbeats 4000000 in
theorem r_X7_multiplied_0 {X : Nat → Int32} {d : Nat} (hd : 0 ≤ d) {n : Nat} {v0 : Int32} {v1 : Int32} {h : Hp} {o : (Int64 × Hp)} (hf : f_X7_multiplied_0 n v0 v1 h = some o) : Run X d 123 0 [some (.int v0), some (.int v1), none, none, none] [] h (some (.long o.1), o.2) := by
  unfold f_X7_multiplied_0 at hf
  refine rs_lconst i_X7_multiplied_0 (v := 1) (by decide) ?_
  refine rs_lstore_n i_X7_multiplied_1 (Nat.le_of_ble_eq_true rfl) (lv' := [some (.int v0), some (.int v1), some (.long 1), none, none]) rfl ?_
  refine rs_iconst i_X7_multiplied_2 (v := 0) (by decide) ?_
  refine rs_istore i_X7_multiplied_3 (Nat.le_of_ble_eq_true rfl) (lv' := [some (.int v0), some (.int v1), some (.long 1), none, some (.int 0)]) rfl ?_
  exact r_X7_multiplied_5 hd _ _ _ _ _ _ _ hf
def f_X7_multiplied (n : Nat) (v0 : Int32) (v1 : Int32) (h : Hp) : Option (Int64 × Hp) := f_X7_multiplied_0 n v0 v1 h
theorem c_X7_multiplied {X : Nat → Int32} {d : Nat} (hd : 0 ≤ d) {n : Nat} {v0 : Int32} {v1 : Int32} {h : Hp} {o : (Int64 × Hp)} (hf : f_X7_multiplied n v0 v1 h = some o) : Calls X d 123 [.int v0, .int v1] h (some (.long o.1), o.2) := by
  exact ⟨_, rfl, r_X7_multiplied_0 hd hf⟩
theorem i_X7_odds_0 : fetch 100 0 = some (.iload_n 1, 1, 0, 0, 0, 0) := by decide +kernel
theorem i_X7_odds_1 : fetch 100 1 = some (.iload_n 2, 2, 0, 0, 0, 0) := by decide +kernel
theorem i_X7_odds_2 : fetch 100 2 = some (.invokestatic 294, 5, 116, 0, 0, 904) := by decide +kernel
theorem i_X7_odds_5 : fetch 100 5 = some (.ifCond .eq 23, 8, 0, 0, 0, 0) := by decide +kernel
theorem i_X7_odds_8 : fetch 100 8 = some (.iload_n 3, 9, 0, 0, 0, 0) := by decide +kernel
theorem i_X7_odds_9 : fetch 100 9 = some (.iconst 0, 10, 0, 0, 0, 0) := by decide +kernel
theorem i_X7_odds_10 : fetch 100 10 = some (.bipush 10, 12, 0, 0, 0, 0) := by decide +kernel
theorem i_X7_odds_12 : fetch 100 12 = some (.invokestatic 112, 15, 110, 0, 0, 534) := by decide +kernel
theorem i_X7_odds_15 : fetch 100 15 = some (.ifCond .eq 13, 18, 0, 0, 0, 0) := by decide +kernel
theorem i_X7_odds_18 : fetch 100 18 = some (.iload 4, 20, 0, 0, 0, 0) := by decide +kernel
theorem i_X7_odds_20 : fetch 100 20 = some (.iconst 0, 21, 0, 0, 0, 0) := by decide +kernel
theorem i_X7_odds_21 : fetch 100 21 = some (.iconst 1, 22, 0, 0, 0, 0) := by decide +kernel
theorem i_X7_odds_22 : fetch 100 22 = some (.invokestatic 112, 25, 110, 0, 0, 534) := by decide +kernel
theorem i_X7_odds_25 : fetch 100 25 = some (.ifCond .ne 7, 28, 0, 0, 0, 0) := by decide +kernel
theorem i_X7_odds_28 : fetch 100 28 = some (.ldc2_w 195, 31, 0, 0, (-4611686018427387904), 731) := by decide +kernel
theorem i_X7_odds_31 : fetch 100 31 = some (.lreturn, 32, 0, 0, 0, 0) := by decide +kernel
theorem i_X7_odds_32 : fetch 100 32 = some (.iload_n 2, 33, 0, 0, 0, 0) := by decide +kernel
theorem i_X7_odds_33 : fetch 100 33 = some (.iload_n 1, 34, 0, 0, 0, 0) := by decide +kernel
theorem i_X7_odds_34 : fetch 100 34 = some (.isub, 35, 0, 0, 0, 0) := by decide +kernel
theorem i_X7_odds_35 : fetch 100 35 = some (.iload_n 3, 36, 0, 0, 0, 0) := by decide +kernel
theorem i_X7_odds_36 : fetch 100 36 = some (.invokestatic 298, 39, 123, 0, 0, 907) := by decide +kernel
theorem i_X7_odds_39 : fetch 100 39 = some (.iload_n 2, 40, 0, 0, 0, 0) := by decide +kernel
theorem i_X7_odds_40 : fetch 100 40 = some (.iload_n 3, 41, 0, 0, 0, 0) := by decide +kernel
theorem i_X7_odds_41 : fetch 100 41 = some (.invokestatic 298, 44, 123, 0, 0, 907) := by decide +kernel
theorem i_X7_odds_44 : fetch 100 44 = some (.iload 4, 46, 0, 0, 0, 0) := by decide +kernel
theorem i_X7_odds_46 : fetch 100 46 = some (.invokestatic 290, 49, 124, 0, 0, 896) := by decide +kernel
theorem i_X7_odds_49 : fetch 100 49 = some (.lreturn, 50, 0, 0, 0, 0) := by decide +kernel
def f_X7_odds_0 (n : Nat) (v1 : Int32) (v2 : Int32) (v3 : Int32) (v4 : Int32) (h : Hp) : Option (Int64 × Hp) :=
  (f_X7_areOdds v1 v2 h).bind fun o1 =>
  if o1.1 = 0 then
    some ((-4611686018427387904), o1.2)
  else
    (f_X7_within v3 0 10 o1.2).bind fun o3 =>
    if o3.1 = 0 then
      some ((-4611686018427387904), o3.2)
    else
      (f_X7_within v4 0 1 o3.2).bind fun o5 =>
      if o5.1 ≠ 0 then
        (f_X7_multiplied n (v2 - v1) v3 o5.2).bind fun o7 =>
        (f_X7_multiplied n v2 v3 o7.2).bind fun o8 =>
        (f_X7_inLowestTerms n o7.1 o8.1 v4 o8.2).bind fun o9 =>
        some (o9.1, o9.2)
      else
        some ((-4611686018427387904), o5.2)
set_option maxRecDepth 100000 in
set_option maxHeartbeats 4000000 in
theorem r_X7_odds_0 {X : Nat → Int32} {d : Nat} (hd : 2 ≤ (d + 1)) {n : Nat} {v1 : Int32} {v2 : Int32} {v3 : Int32} {v4 : Int32} {d0 : Nat} {h : Hp} {o : (Int64 × Hp)} (hf : f_X7_odds_0 n v1 v2 v3 v4 h = some o) : Run X (d + 1) 100 0 [some (.ref d0), some (.int v1), some (.int v2), some (.int v3), some (.int v4)] [] h (some (.long o.1), o.2) := by
  unfold f_X7_odds_0 at hf
  refine rs_iload_n i_X7_odds_0 rfl ?_
  refine rs_iload_n i_X7_odds_1 rfl ?_
  obtain ⟨o1, e1, hf⟩ := bind_some hf
  refine rs_inS i_X7_odds_2 (by decide) m_X7_areOdds rfl (As := [.int v1, .int v2]) (rest := []) rfl rfl (Nat.le_of_ble_eq_true rfl) (c_X7_areOdds (by omega) e1) (st' := [.int o1.1]) rfl ?_
  by_cases c2 : o1.1 = 0
  · replace hf := (if_pos c2).symm.trans hf
    refine rs_ifT i_X7_odds_5 (ct_eq c2) (tg := 28) (by decide) ?_
    refine rs_ldc2 i_X7_odds_28 (v := (-4611686018427387904)) (by decide) ?_
    have hf := Option.some.inj hf
    subst hf
    exact rs_lret i_X7_odds_31 m_X7_odds rfl
  · replace hf := (if_neg c2).symm.trans hf
    refine rs_ifF i_X7_odds_5 (cf_eq c2) ?_
    refine rs_iload_n i_X7_odds_8 rfl ?_
    refine rs_iconst i_X7_odds_9 (v := 0) (by decide) ?_
    refine rs_bipush i_X7_odds_10 (v := 10) (by decide) ?_
    obtain ⟨o3, e3, hf⟩ := bind_some hf
    refine rs_inS i_X7_odds_12 (by decide) m_X7_within rfl (As := [.int v3, .int 0, .int 10]) (rest := []) rfl rfl (Nat.le_of_ble_eq_true rfl) (c_X7_within (by omega) e3) (st' := [.int o3.1]) rfl ?_
    by_cases c4 : o3.1 = 0
    · replace hf := (if_pos c4).symm.trans hf
      refine rs_ifT i_X7_odds_15 (ct_eq c4) (tg := 28) (by decide) ?_
      refine rs_ldc2 i_X7_odds_28 (v := (-4611686018427387904)) (by decide) ?_
      have hf := Option.some.inj hf
      subst hf
      exact rs_lret i_X7_odds_31 m_X7_odds rfl
    · replace hf := (if_neg c4).symm.trans hf
      refine rs_ifF i_X7_odds_15 (cf_eq c4) ?_
      refine rs_iload i_X7_odds_18 rfl ?_
      refine rs_iconst i_X7_odds_20 (v := 0) (by decide) ?_
      refine rs_iconst i_X7_odds_21 (v := 1) (by decide) ?_
      obtain ⟨o5, e5, hf⟩ := bind_some hf
      refine rs_inS i_X7_odds_22 (by decide) m_X7_within rfl (As := [.int v4, .int 0, .int 1]) (rest := []) rfl rfl (Nat.le_of_ble_eq_true rfl) (c_X7_within (by omega) e5) (st' := [.int o5.1]) rfl ?_
      by_cases c6 : o5.1 ≠ 0
      · replace hf := (if_pos c6).symm.trans hf
        refine rs_ifT i_X7_odds_25 (ct_ne c6) (tg := 32) (by decide) ?_
        refine rs_iload_n i_X7_odds_32 rfl ?_
        refine rs_iload_n i_X7_odds_33 rfl ?_
        refine rs_isub i_X7_odds_34 ?_
        refine rs_iload_n i_X7_odds_35 rfl ?_
        obtain ⟨o7, e7, hf⟩ := bind_some hf
        refine rs_inS i_X7_odds_36 (by decide) m_X7_multiplied rfl (As := [.int (v2 - v1), .int v3]) (rest := []) rfl rfl (Nat.le_of_ble_eq_true rfl) (c_X7_multiplied (by omega) e7) (st' := [.long o7.1]) rfl ?_
        refine rs_iload_n i_X7_odds_39 rfl ?_
        refine rs_iload_n i_X7_odds_40 rfl ?_
        obtain ⟨o8, e8, hf⟩ := bind_some hf
        refine rs_inS i_X7_odds_41 (by decide) m_X7_multiplied rfl (As := [.int v2, .int v3]) (rest := [.long o7.1]) rfl rfl (Nat.le_of_ble_eq_true rfl) (c_X7_multiplied (by omega) e8) (st' := [.long o8.1, .long o7.1]) rfl ?_
        refine rs_iload i_X7_odds_44 rfl ?_
        obtain ⟨o9, e9, hf⟩ := bind_some hf
        refine rs_inS i_X7_odds_46 (by decide) m_X7_inLowestTerms rfl (As := [.long o7.1, .long o8.1, .int v4]) (rest := []) rfl rfl (Nat.le_of_ble_eq_true rfl) (c_X7_inLowestTerms (by omega) e9) (st' := [.long o9.1]) rfl ?_
        have hf := Option.some.inj hf
        subst hf
        exact rs_lret i_X7_odds_49 m_X7_odds rfl
      · replace hf := (if_neg c6).symm.trans hf
        refine rs_ifF i_X7_odds_25 (cf_ne c6) ?_
        refine rs_ldc2 i_X7_odds_28 (v := (-4611686018427387904)) (by decide) ?_
        have hf := Option.some.inj hf
        subst hf
        exact rs_lret i_X7_odds_31 m_X7_odds rfl
def f_X7_odds (n : Nat) (v0 : Nat) (v1 : Int32) (v2 : Int32) (v3 : Int32) (v4 : Int32) (h : Hp) : Option (Int64 × Hp) := f_X7_odds_0 n v1 v2 v3 v4 h
theorem c_X7_odds {X : Nat → Int32} {d : Nat} (hd : 2 ≤ d) {n : Nat} {v0 : Nat} {v1 : Int32} {v2 : Int32} {v3 : Int32} {v4 : Int32} {h : Hp} {o : (Int64 × Hp)} (hf : f_X7_odds n v0 v1 v2 v3 v4 h = some o) : Calls X d 100 [.ref v0, .int v1, .int v2, .int v3, .int v4] h (some (.long o.1), o.2) := by
  obtain ⟨d, rfl⟩ : ∃ z, d = z + 1 := ⟨d - 1, by omega⟩
  exact ⟨_, rfl, r_X7_odds_0 hd hf⟩
theorem i_X7_record_0 : fetch 101 0 = some (.iload_n 1, 1, 0, 0, 0, 0) := by decide +kernel
theorem i_X7_record_1 : fetch 101 1 = some (.iload_n 2, 2, 0, 0, 0, 0) := by decide +kernel
theorem i_X7_record_2 : fetch 101 2 = some (.invokestatic 294, 5, 116, 0, 0, 904) := by decide +kernel
theorem i_X7_record_5 : fetch 101 5 = some (.ifCond .eq 13, 8, 0, 0, 0, 0) := by decide +kernel
theorem i_X7_record_8 : fetch 101 8 = some (.iload_n 3, 9, 0, 0, 0, 0) := by decide +kernel
theorem i_X7_record_9 : fetch 101 9 = some (.iconst 0, 10, 0, 0, 0, 0) := by decide +kernel
theorem i_X7_record_10 : fetch 101 10 = some (.bipush 100, 12, 0, 0, 0, 0) := by decide +kernel
theorem i_X7_record_12 : fetch 101 12 = some (.invokestatic 112, 15, 110, 0, 0, 534) := by decide +kernel
theorem i_X7_record_15 : fetch 101 15 = some (.ifCond .ne 6, 18, 0, 0, 0, 0) := by decide +kernel
theorem i_X7_record_18 : fetch 101 18 = some (.bipush (-2), 20, 0, 0, 0, 0) := by decide +kernel
theorem i_X7_record_20 : fetch 101 20 = some (.ireturn, 21, 0, 0, 0, 0) := by decide +kernel
theorem i_X7_record_21 : fetch 101 21 = some (.iconst 0, 22, 0, 0, 0, 0) := by decide +kernel
theorem i_X7_record_22 : fetch 101 22 = some (.istore 4, 24, 0, 0, 0, 0) := by decide +kernel
theorem i_X7_record_24 : fetch 101 24 = some (.iconst 0, 25, 0, 0, 0, 0) := by decide +kernel
theorem i_X7_record_25 : fetch 101 25 = some (.istore 5, 27, 0, 0, 0, 0) := by decide +kernel
theorem i_X7_record_27 : fetch 101 27 = some (.iload 5, 29, 0, 0, 0, 0) := by decide +kernel
theorem i_X7_record_29 : fetch 101 29 = some (.bipush 10, 31, 0, 0, 0, 0) := by decide +kernel
theorem i_X7_record_31 : fetch 101 31 = some (.if_icmp .gt 38, 34, 0, 0, 0, 0) := by decide +kernel
theorem i_X7_record_34 : fetch 101 34 = some (.iload_n 2, 35, 0, 0, 0, 0) := by decide +kernel
theorem i_X7_record_35 : fetch 101 35 = some (.iload_n 1, 36, 0, 0, 0, 0) := by decide +kernel
theorem i_X7_record_36 : fetch 101 36 = some (.isub, 37, 0, 0, 0, 0) := by decide +kernel
theorem i_X7_record_37 : fetch 101 37 = some (.iload 5, 39, 0, 0, 0, 0) := by decide +kernel
theorem i_X7_record_39 : fetch 101 39 = some (.invokestatic 298, 42, 123, 0, 0, 907) := by decide +kernel
theorem i_X7_record_42 : fetch 101 42 = some (.ldc2_w 210, 45, 0, 0, 100, 740) := by decide +kernel
theorem i_X7_record_45 : fetch 101 45 = some (.lmul, 46, 0, 0, 0, 0) := by decide +kernel
theorem i_X7_record_46 : fetch 101 46 = some (.iload_n 3, 47, 0, 0, 0, 0) := by decide +kernel
theorem i_X7_record_47 : fetch 101 47 = some (.i2l, 48, 0, 0, 0, 0) := by decide +kernel
theorem i_X7_record_48 : fetch 101 48 = some (.iload_n 2, 49, 0, 0, 0, 0) := by decide +kernel
theorem i_X7_record_49 : fetch 101 49 = some (.iload 5, 51, 0, 0, 0, 0) := by decide +kernel
theorem i_X7_record_51 : fetch 101 51 = some (.invokestatic 298, 54, 123, 0, 0, 907) := by decide +kernel
theorem i_X7_record_54 : fetch 101 54 = some (.lmul, 55, 0, 0, 0, 0) := by decide +kernel
theorem i_X7_record_55 : fetch 101 55 = some (.lcmp, 56, 0, 0, 0, 0) := by decide +kernel
theorem i_X7_record_56 : fetch 101 56 = some (.ifCond .lt 7, 59, 0, 0, 0, 0) := by decide +kernel
theorem i_X7_record_59 : fetch 101 59 = some (.iload 5, 61, 0, 0, 0, 0) := by decide +kernel
theorem i_X7_record_61 : fetch 101 61 = some (.istore 4, 63, 0, 0, 0, 0) := by decide +kernel
theorem i_X7_record_63 : fetch 101 63 = some (.iinc 5 1, 66, 0, 0, 0, 0) := by decide +kernel
theorem i_X7_record_66 : fetch 101 66 = some (.goto (-39), 69, 0, 0, 0, 0) := by decide +kernel
theorem i_X7_record_69 : fetch 101 69 = some (.iload 4, 71, 0, 0, 0, 0) := by decide +kernel
theorem i_X7_record_71 : fetch 101 71 = some (.ireturn, 72, 0, 0, 0, 0) := by decide +kernel
def f_X7_record_63 (n : Nat) (K27 : Int32 → Int32 → Int32 → Int32 → Int32 → Hp → Option (Int32 × Hp)) (v1 : Int32) (v2 : Int32) (v3 : Int32) (v4 : Int32) (v5 : Int32) (h : Hp) : Option (Int32 × Hp) :=
  K27 v1 v2 v3 v4 (v5 + 1) h
set_option maxRecDepth 100000 in
set_option maxHeartbeats 4000000 in
theorem r_X7_record_63 {X : Nat → Int32} {d : Nat} (hd : 2 ≤ (d + 1)) {n : Nat} {K27 : Int32 → Int32 → Int32 → Int32 → Int32 → Hp → Option (Int32 × Hp)} (HK27 : ∀ (v1 : Int32) (v2 : Int32) (v3 : Int32) (v4 : Int32) (v5 : Int32) (d0 : Nat) (h : Hp) (o : (Int32 × Hp)), K27 v1 v2 v3 v4 v5 h = some o → Run X (d + 1) 101 27 [some (.ref d0), some (.int v1), some (.int v2), some (.int v3), some (.int v4), some (.int v5)] [] h (some (.int o.1), o.2)) {v1 : Int32} {v2 : Int32} {v3 : Int32} {v4 : Int32} {v5 : Int32} {d0 : Nat} {h : Hp} {o : (Int32 × Hp)} (hf : f_X7_record_63 n K27 v1 v2 v3 v4 v5 h = some o) : Run X (d + 1) 101 63 [some (.ref d0), some (.int v1), some (.int v2), some (.int v3), some (.int v4), some (.int v5)] [] h (some (.int o.1), o.2) := by
  unfold f_X7_record_63 at hf
  refine rs_iinc i_X7_record_63 rfl (v := v5 + 1) rfl (Nat.le_of_ble_eq_true rfl) (lv' := [some (.ref d0), some (.int v1), some (.int v2), some (.int v3), some (.int v4), some (.int (v5 + 1))]) rfl ?_
  refine rs_goto i_X7_record_66 (tg := 27) (by decide) ?_
  exact HK27 _ _ _ _ _ _ _ _ hf
def f_X7_record_27 (n : Nat) : Nat → Int32 → Int32 → Int32 → Int32 → Int32 → Hp → Option (Int32 × Hp)
  | 0, _, _, _, _, _, _ => none
  | m + 1, v1, v2, v3, v4, v5, h =>
    if 10 < v5 then
      some (v4, h)
    else
      (f_X7_multiplied n (v2 - v1) v5 h).bind fun o2 =>
      (f_X7_multiplied n v2 v5 o2.2).bind fun o3 =>
      if (o2.1 * 100) < ((Int32.toInt64 v3) * o3.1) then
        f_X7_record_63 n (f_X7_record_27 n m) v1 v2 v3 v4 v5 o3.2
      else
        f_X7_record_63 n (f_X7_record_27 n m) v1 v2 v3 v5 v5 o3.2
set_option maxRecDepth 100000 in
set_option maxHeartbeats 4000000 in
theorem r_X7_record_27 {X : Nat → Int32} {d : Nat} (hd : 2 ≤ (d + 1)) {n : Nat} : ∀ (m : Nat) (v1 : Int32) (v2 : Int32) (v3 : Int32) (v4 : Int32) (v5 : Int32) (d0 : Nat) (h : Hp) (o : (Int32 × Hp)), f_X7_record_27 n m v1 v2 v3 v4 v5 h = some o → Run X (d + 1) 101 27 [some (.ref d0), some (.int v1), some (.int v2), some (.int v3), some (.int v4), some (.int v5)] [] h (some (.int o.1), o.2) := by
  intro m
  induction m with
  | zero => intro v1 v2 v3 v4 v5 d0 h o hf; cases hf
  | succ m ih =>
    intro v1 v2 v3 v4 v5 d0 h o hf
    rw [f_X7_record_27] at hf
    refine rs_iload i_X7_record_27 rfl ?_
    refine rs_bipush i_X7_record_29 (v := 10) (by decide) ?_
    by_cases c1 : 10 < v5
    · replace hf := (if_pos c1).symm.trans hf
      refine rs_icT i_X7_record_31 (ct_gt c1) (tg := 69) (by decide) ?_
      refine rs_iload i_X7_record_69 rfl ?_
      have hf := Option.some.inj hf
      subst hf
      exact rs_iret i_X7_record_71 m_X7_record rfl
    · replace hf := (if_neg c1).symm.trans hf
      refine rs_icF i_X7_record_31 (cf_gt c1) ?_
      refine rs_iload_n i_X7_record_34 rfl ?_
      refine rs_iload_n i_X7_record_35 rfl ?_
      refine rs_isub i_X7_record_36 ?_
      refine rs_iload i_X7_record_37 rfl ?_
      obtain ⟨o2, e2, hf⟩ := bind_some hf
      refine rs_inS i_X7_record_39 (by decide) m_X7_multiplied rfl (As := [.int (v2 - v1), .int v5]) (rest := []) rfl rfl (Nat.le_of_ble_eq_true rfl) (c_X7_multiplied (by omega) e2) (st' := [.long o2.1]) rfl ?_
      refine rs_ldc2 i_X7_record_42 (v := 100) (by decide) ?_
      refine rs_lmul i_X7_record_45 ?_
      refine rs_iload_n i_X7_record_46 rfl ?_
      refine rs_i2l i_X7_record_47 ?_
      refine rs_iload_n i_X7_record_48 rfl ?_
      refine rs_iload i_X7_record_49 rfl ?_
      obtain ⟨o3, e3, hf⟩ := bind_some hf
      refine rs_inS i_X7_record_51 (by decide) m_X7_multiplied rfl (As := [.int v2, .int v5]) (rest := [.long (Int32.toInt64 v3), .long (o2.1 * 100)]) rfl rfl (Nat.le_of_ble_eq_true rfl) (c_X7_multiplied (by omega) e3) (st' := [.long o3.1, .long (Int32.toInt64 v3), .long (o2.1 * 100)]) rfl ?_
      refine rs_lmul i_X7_record_54 ?_
      refine rs_lcmp i_X7_record_55 ?_
      by_cases c4 : (o2.1 * 100) < ((Int32.toInt64 v3) * o3.1)
      · replace hf := (if_pos c4).symm.trans hf
        refine rs_ifT i_X7_record_56 (by rw [lc_lt]; exact decide_eq_true c4) (tg := 63) (by decide) ?_
        exact r_X7_record_63 hd ih hf
      · replace hf := (if_neg c4).symm.trans hf
        refine rs_ifF i_X7_record_56 (by rw [lc_lt]; exact decide_eq_false c4) ?_
        refine rs_iload i_X7_record_59 rfl ?_
        refine rs_istore i_X7_record_61 (Nat.le_of_ble_eq_true rfl) (lv' := [some (.ref d0), some (.int v1), some (.int v2), some (.int v3), some (.int v5), some (.int v5)]) rfl ?_
        exact r_X7_record_63 hd ih hf
def f_X7_record_0 (n : Nat) (v1 : Int32) (v2 : Int32) (v3 : Int32) (h : Hp) : Option (Int32 × Hp) :=
  (f_X7_areOdds v1 v2 h).bind fun o1 =>
  if o1.1 = 0 then
    some ((-2), o1.2)
  else
    (f_X7_within v3 0 100 o1.2).bind fun o3 =>
    if o3.1 ≠ 0 then
      f_X7_record_27 n n v1 v2 v3 0 0 o3.2
    else
      some ((-2), o3.2)
set_option maxRecDepth 100000 in
set_option maxHeartbeats 4000000 in
theorem r_X7_record_0 {X : Nat → Int32} {d : Nat} (hd : 2 ≤ (d + 1)) {n : Nat} {v1 : Int32} {v2 : Int32} {v3 : Int32} {d0 : Nat} {h : Hp} {o : (Int32 × Hp)} (hf : f_X7_record_0 n v1 v2 v3 h = some o) : Run X (d + 1) 101 0 [some (.ref d0), some (.int v1), some (.int v2), some (.int v3), none, none] [] h (some (.int o.1), o.2) := by
  unfold f_X7_record_0 at hf
  refine rs_iload_n i_X7_record_0 rfl ?_
  refine rs_iload_n i_X7_record_1 rfl ?_
  obtain ⟨o1, e1, hf⟩ := bind_some hf
  refine rs_inS i_X7_record_2 (by decide) m_X7_areOdds rfl (As := [.int v1, .int v2]) (rest := []) rfl rfl (Nat.le_of_ble_eq_true rfl) (c_X7_areOdds (by omega) e1) (st' := [.int o1.1]) rfl ?_
  by_cases c2 : o1.1 = 0
  · replace hf := (if_pos c2).symm.trans hf
    refine rs_ifT i_X7_record_5 (ct_eq c2) (tg := 18) (by decide) ?_
    refine rs_bipush i_X7_record_18 (v := (-2)) (by decide) ?_
    have hf := Option.some.inj hf
    subst hf
    exact rs_iret i_X7_record_20 m_X7_record rfl
  · replace hf := (if_neg c2).symm.trans hf
    refine rs_ifF i_X7_record_5 (cf_eq c2) ?_
    refine rs_iload_n i_X7_record_8 rfl ?_
    refine rs_iconst i_X7_record_9 (v := 0) (by decide) ?_
    refine rs_bipush i_X7_record_10 (v := 100) (by decide) ?_
    obtain ⟨o3, e3, hf⟩ := bind_some hf
    refine rs_inS i_X7_record_12 (by decide) m_X7_within rfl (As := [.int v3, .int 0, .int 100]) (rest := []) rfl rfl (Nat.le_of_ble_eq_true rfl) (c_X7_within (by omega) e3) (st' := [.int o3.1]) rfl ?_
    by_cases c4 : o3.1 ≠ 0
    · replace hf := (if_pos c4).symm.trans hf
      refine rs_ifT i_X7_record_15 (ct_ne c4) (tg := 21) (by decide) ?_
      refine rs_iconst i_X7_record_21 (v := 0) (by decide) ?_
      refine rs_istore i_X7_record_22 (Nat.le_of_ble_eq_true rfl) (lv' := [some (.ref d0), some (.int v1), some (.int v2), some (.int v3), some (.int 0), none]) rfl ?_
      refine rs_iconst i_X7_record_24 (v := 0) (by decide) ?_
      refine rs_istore i_X7_record_25 (Nat.le_of_ble_eq_true rfl) (lv' := [some (.ref d0), some (.int v1), some (.int v2), some (.int v3), some (.int 0), some (.int 0)]) rfl ?_
      exact r_X7_record_27 hd _ _ _ _ _ _ _ _ _ hf
    · replace hf := (if_neg c4).symm.trans hf
      refine rs_ifF i_X7_record_15 (cf_ne c4) ?_
      refine rs_bipush i_X7_record_18 (v := (-2)) (by decide) ?_
      have hf := Option.some.inj hf
      subst hf
      exact rs_iret i_X7_record_20 m_X7_record rfl
def f_X7_record (n : Nat) (v0 : Nat) (v1 : Int32) (v2 : Int32) (v3 : Int32) (h : Hp) : Option (Int32 × Hp) := f_X7_record_0 n v1 v2 v3 h
theorem c_X7_record {X : Nat → Int32} {d : Nat} (hd : 2 ≤ d) {n : Nat} {v0 : Nat} {v1 : Int32} {v2 : Int32} {v3 : Int32} {h : Hp} {o : (Int32 × Hp)} (hf : f_X7_record n v0 v1 v2 v3 h = some o) : Calls X d 101 [.ref v0, .int v1, .int v2, .int v3] h (some (.int o.1), o.2) := by
  obtain ⟨d, rfl⟩ : ∃ z, d = z + 1 := ⟨d - 1, by omega⟩
  exact ⟨_, rfl, r_X7_record_0 hd hf⟩
theorem i_X7_drawn_0 : fetch 102 0 = some (.aload_n 0, 1, 0, 0, 0, 0) := by decide +kernel
theorem i_X7_drawn_1 : fetch 102 1 = some (.iload_n 1, 2, 0, 0, 0, 0) := by decide +kernel
theorem i_X7_drawn_2 : fetch 102 2 = some (.invokevirtual 151, 5, 113, 0, 0, 584) := by decide +kernel
theorem i_X7_drawn_5 : fetch 102 5 = some (.ifCond .ne 6, 8, 0, 0, 0, 0) := by decide +kernel
theorem i_X7_drawn_8 : fetch 102 8 = some (.bipush (-5), 10, 0, 0, 0, 0) := by decide +kernel
theorem i_X7_drawn_10 : fetch 102 10 = some (.ireturn, 11, 0, 0, 0, 0) := by decide +kernel
theorem i_X7_drawn_11 : fetch 102 11 = some (.iload_n 2, 12, 0, 0, 0, 0) := by decide +kernel
theorem i_X7_drawn_12 : fetch 102 12 = some (.iconst 0, 13, 0, 0, 0, 0) := by decide +kernel
theorem i_X7_drawn_13 : fetch 102 13 = some (.bipush 11, 15, 0, 0, 0, 0) := by decide +kernel
theorem i_X7_drawn_15 : fetch 102 15 = some (.invokestatic 112, 18, 110, 0, 0, 534) := by decide +kernel
theorem i_X7_drawn_18 : fetch 102 18 = some (.ifCond .eq 23, 21, 0, 0, 0, 0) := by decide +kernel
theorem i_X7_drawn_21 : fetch 102 21 = some (.iload_n 3, 22, 0, 0, 0, 0) := by decide +kernel
theorem i_X7_drawn_22 : fetch 102 22 = some (.iconst 0, 23, 0, 0, 0, 0) := by decide +kernel
theorem i_X7_drawn_23 : fetch 102 23 = some (.ldc 116, 25, 0, 0, 99999, 535) := by decide +kernel
theorem i_X7_drawn_25 : fetch 102 25 = some (.invokestatic 112, 28, 110, 0, 0, 534) := by decide +kernel
theorem i_X7_drawn_28 : fetch 102 28 = some (.ifCond .eq 13, 31, 0, 0, 0, 0) := by decide +kernel
theorem i_X7_drawn_31 : fetch 102 31 = some (.iload 4, 33, 0, 0, 0, 0) := by decide +kernel
theorem i_X7_drawn_33 : fetch 102 33 = some (.iconst 0, 34, 0, 0, 0, 0) := by decide +kernel
theorem i_X7_drawn_34 : fetch 102 34 = some (.iconst 1, 35, 0, 0, 0, 0) := by decide +kernel
theorem i_X7_drawn_35 : fetch 102 35 = some (.invokestatic 112, 38, 110, 0, 0, 534) := by decide +kernel
theorem i_X7_drawn_38 : fetch 102 38 = some (.ifCond .ne 6, 41, 0, 0, 0, 0) := by decide +kernel
theorem i_X7_drawn_41 : fetch 102 41 = some (.bipush (-7), 43, 0, 0, 0, 0) := by decide +kernel
theorem i_X7_drawn_43 : fetch 102 43 = some (.ireturn, 44, 0, 0, 0, 0) := by decide +kernel
theorem i_X7_drawn_44 : fetch 102 44 = some (.aload_n 0, 45, 0, 0, 0, 0) := by decide +kernel
theorem i_X7_drawn_45 : fetch 102 45 = some (.aload_n 0, 46, 0, 0, 0, 0) := by decide +kernel
theorem i_X7_drawn_46 : fetch 102 46 = some (.getfield 10, 49, 7, 0, 0, 483) := by decide +kernel
theorem i_X7_drawn_49 : fetch 102 49 = some (.iload_n 1, 50, 0, 0, 0, 0) := by decide +kernel
theorem i_X7_drawn_50 : fetch 102 50 = some (.iconst (-1), 51, 0, 0, 0, 0) := by decide +kernel
theorem i_X7_drawn_51 : fetch 102 51 = some (.iload_n 3, 52, 0, 0, 0, 0) := by decide +kernel
theorem i_X7_drawn_52 : fetch 102 52 = some (.invokevirtual 154, 55, 118, 0, 0, 588) := by decide +kernel
theorem i_X7_drawn_55 : fetch 102 55 = some (.iload 4, 57, 0, 0, 0, 0) := by decide +kernel
theorem i_X7_drawn_57 : fetch 102 57 = some (.ifCond .ne 14, 60, 0, 0, 0, 0) := by decide +kernel
theorem i_X7_drawn_60 : fetch 102 60 = some (.aload_n 0, 61, 0, 0, 0, 0) := by decide +kernel
theorem i_X7_drawn_61 : fetch 102 61 = some (.getfield 82, 64, 7, 7, 0, 490) := by decide +kernel
theorem i_X7_drawn_64 : fetch 102 64 = some (.iload_n 2, 65, 0, 0, 0, 0) := by decide +kernel
theorem i_X7_drawn_65 : fetch 102 65 = some (.invokevirtual 158, 68, 39, 0, 0, 700) := by decide +kernel
theorem i_X7_drawn_68 : fetch 102 68 = some (.goto 10, 71, 0, 0, 0, 0) := by decide +kernel
theorem i_X7_drawn_71 : fetch 102 71 = some (.aload_n 0, 72, 0, 0, 0, 0) := by decide +kernel
theorem i_X7_drawn_72 : fetch 102 72 = some (.getfield 82, 75, 7, 7, 0, 490) := by decide +kernel
theorem i_X7_drawn_75 : fetch 102 75 = some (.invokevirtual 176, 78, 42, 0, 0, 716) := by decide +kernel
theorem i_X7_drawn_78 : fetch 102 78 = some (.ireturn, 79, 0, 0, 0, 0) := by decide +kernel
def f_X7_drawn_0 (n : Nat) (v0 : Nat) (v1 : Int32) (v2 : Int32) (v3 : Int32) (v4 : Int32) (h : Hp) : Option (Int32 × Hp) :=
  if okO h v0 7 then
  (f_X7_areSteps v0 v1 h).bind fun o1 =>
  if o1.1 ≠ 0 then
    (f_X7_within v2 0 11 o1.2).bind fun o4 =>
    if o4.1 = 0 then
      some ((-7), o4.2)
    else
      (f_X7_within v3 0 99999 o4.2).bind fun o6 =>
      if o6.1 = 0 then
        some ((-7), o6.2)
      else
        (f_X7_within v4 0 1 o6.2).bind fun o8 =>
        if o8.1 ≠ 0 then
          if okO o8.2 v0 7 then
          (gR o8.2 v0 0).bind fun a11 =>
          (f_X7_make n v0 a11 v1 (-1) v3 o8.2).bind fun o12 =>
          if v4 ≠ 0 then
            if okO o12 v0 7 then
            (gR o12 v0 7).bind fun a15 =>
            if okO o12 a15 3 then
            (f_X3_spread n a15 o12).bind fun o16 =>
            some (o16.1, o16.2)
            else none
            else none
          else
            if okO o12 v0 7 then
            (gR o12 v0 7).bind fun a19 =>
            if okO o12 a19 3 then
            (f_X3_thick a19 v2 o12).bind fun o20 =>
            some (o20.1, o20.2)
            else none
            else none
          else none
        else
          some ((-7), o8.2)
  else
    some ((-5), o1.2)
  else none
set_option maxRecDepth 100000 in
set_option maxHeartbeats 4000000 in
theorem r_X7_drawn_0 {X : Nat → Int32} {d : Nat} (hd : 7 ≤ (d + 1)) {n : Nat} {v0 : Nat} {v1 : Int32} {v2 : Int32} {v3 : Int32} {v4 : Int32} {h : Hp} {o : (Int32 × Hp)} (hf : f_X7_drawn_0 n v0 v1 v2 v3 v4 h = some o) : Run X (d + 1) 102 0 [some (.ref v0), some (.int v1), some (.int v2), some (.int v3), some (.int v4)] [] h (some (.int o.1), o.2) := by
  unfold f_X7_drawn_0 at hf
  refine rs_aload_n i_X7_drawn_0 rfl ?_
  refine rs_iload_n i_X7_drawn_1 rfl ?_
  obtain ⟨c2, hf⟩ := ite_some hf
  obtain ⟨o1, e1, hf⟩ := bind_some hf
  refine rs_inV i_X7_drawn_2 m_X7_areSteps rfl (As := [.int v1]) (rest := []) rfl rfl (Nat.le_of_ble_eq_true rfl) c2 (c_X7_areSteps (by omega) e1) (st' := [.int o1.1]) rfl ?_
  by_cases c3 : o1.1 ≠ 0
  · replace hf := (if_pos c3).symm.trans hf
    refine rs_ifT i_X7_drawn_5 (ct_ne c3) (tg := 11) (by decide) ?_
    refine rs_iload_n i_X7_drawn_11 rfl ?_
    refine rs_iconst i_X7_drawn_12 (v := 0) (by decide) ?_
    refine rs_bipush i_X7_drawn_13 (v := 11) (by decide) ?_
    obtain ⟨o4, e4, hf⟩ := bind_some hf
    refine rs_inS i_X7_drawn_15 (by decide) m_X7_within rfl (As := [.int v2, .int 0, .int 11]) (rest := []) rfl rfl (Nat.le_of_ble_eq_true rfl) (c_X7_within (by omega) e4) (st' := [.int o4.1]) rfl ?_
    by_cases c5 : o4.1 = 0
    · replace hf := (if_pos c5).symm.trans hf
      refine rs_ifT i_X7_drawn_18 (ct_eq c5) (tg := 41) (by decide) ?_
      refine rs_bipush i_X7_drawn_41 (v := (-7)) (by decide) ?_
      have hf := Option.some.inj hf
      subst hf
      exact rs_iret i_X7_drawn_43 m_X7_drawn rfl
    · replace hf := (if_neg c5).symm.trans hf
      refine rs_ifF i_X7_drawn_18 (cf_eq c5) ?_
      refine rs_iload_n i_X7_drawn_21 rfl ?_
      refine rs_iconst i_X7_drawn_22 (v := 0) (by decide) ?_
      refine rs_ldc i_X7_drawn_23 (v := 99999) (by decide) ?_
      obtain ⟨o6, e6, hf⟩ := bind_some hf
      refine rs_inS i_X7_drawn_25 (by decide) m_X7_within rfl (As := [.int v3, .int 0, .int 99999]) (rest := []) rfl rfl (Nat.le_of_ble_eq_true rfl) (c_X7_within (by omega) e6) (st' := [.int o6.1]) rfl ?_
      by_cases c7 : o6.1 = 0
      · replace hf := (if_pos c7).symm.trans hf
        refine rs_ifT i_X7_drawn_28 (ct_eq c7) (tg := 41) (by decide) ?_
        refine rs_bipush i_X7_drawn_41 (v := (-7)) (by decide) ?_
        have hf := Option.some.inj hf
        subst hf
        exact rs_iret i_X7_drawn_43 m_X7_drawn rfl
      · replace hf := (if_neg c7).symm.trans hf
        refine rs_ifF i_X7_drawn_28 (cf_eq c7) ?_
        refine rs_iload i_X7_drawn_31 rfl ?_
        refine rs_iconst i_X7_drawn_33 (v := 0) (by decide) ?_
        refine rs_iconst i_X7_drawn_34 (v := 1) (by decide) ?_
        obtain ⟨o8, e8, hf⟩ := bind_some hf
        refine rs_inS i_X7_drawn_35 (by decide) m_X7_within rfl (As := [.int v4, .int 0, .int 1]) (rest := []) rfl rfl (Nat.le_of_ble_eq_true rfl) (c_X7_within (by omega) e8) (st' := [.int o8.1]) rfl ?_
        by_cases c9 : o8.1 ≠ 0
        · replace hf := (if_pos c9).symm.trans hf
          refine rs_ifT i_X7_drawn_38 (ct_ne c9) (tg := 44) (by decide) ?_
          refine rs_aload_n i_X7_drawn_44 rfl ?_
          refine rs_aload_n i_X7_drawn_45 rfl ?_
          obtain ⟨c10, hf⟩ := ite_some hf
          obtain ⟨a11, e11, hf⟩ := bind_some hf
          refine rs_getR i_X7_drawn_46 (by decide) (by decide) c10 e11 ?_
          refine rs_iload_n i_X7_drawn_49 rfl ?_
          refine rs_iconst i_X7_drawn_50 (v := (-1)) (by decide) ?_
          refine rs_iload_n i_X7_drawn_51 rfl ?_
          obtain ⟨o12, e12, hf⟩ := bind_some hf
          refine rs_inV i_X7_drawn_52 m_X7_make rfl (As := [.ref a11, .int v1, .int (-1), .int v3]) (rest := []) rfl rfl (Nat.le_of_ble_eq_true rfl) c10 (c_X7_make (by omega) e12) (st' := []) rfl ?_
          refine rs_iload i_X7_drawn_55 rfl ?_
          by_cases c13 : v4 ≠ 0
          · replace hf := (if_pos c13).symm.trans hf
            refine rs_ifT i_X7_drawn_57 (ct_ne c13) (tg := 71) (by decide) ?_
            refine rs_aload_n i_X7_drawn_71 rfl ?_
            obtain ⟨c14, hf⟩ := ite_some hf
            obtain ⟨a15, e15, hf⟩ := bind_some hf
            refine rs_getR i_X7_drawn_72 (by decide) (by decide) c14 e15 ?_
            obtain ⟨c17, hf⟩ := ite_some hf
            obtain ⟨o16, e16, hf⟩ := bind_some hf
            refine rs_inV i_X7_drawn_75 m_X3_spread rfl (As := []) (rest := []) rfl rfl (Nat.le_of_ble_eq_true rfl) c17 (c_X3_spread (by omega) e16) (st' := [.int o16.1]) rfl ?_
            have hf := Option.some.inj hf
            subst hf
            exact rs_iret i_X7_drawn_78 m_X7_drawn rfl
          · replace hf := (if_neg c13).symm.trans hf
            refine rs_ifF i_X7_drawn_57 (cf_ne c13) ?_
            refine rs_aload_n i_X7_drawn_60 rfl ?_
            obtain ⟨c18, hf⟩ := ite_some hf
            obtain ⟨a19, e19, hf⟩ := bind_some hf
            refine rs_getR i_X7_drawn_61 (by decide) (by decide) c18 e19 ?_
            refine rs_iload_n i_X7_drawn_64 rfl ?_
            obtain ⟨c21, hf⟩ := ite_some hf
            obtain ⟨o20, e20, hf⟩ := bind_some hf
            refine rs_inV i_X7_drawn_65 m_X3_thick rfl (As := [.int v2]) (rest := []) rfl rfl (Nat.le_of_ble_eq_true rfl) c21 (c_X3_thick (by omega) e20) (st' := [.int o20.1]) rfl ?_
            refine rs_goto i_X7_drawn_68 (tg := 78) (by decide) ?_
            have hf := Option.some.inj hf
            subst hf
            exact rs_iret i_X7_drawn_78 m_X7_drawn rfl
        · replace hf := (if_neg c9).symm.trans hf
          refine rs_ifF i_X7_drawn_38 (cf_ne c9) ?_
          refine rs_bipush i_X7_drawn_41 (v := (-7)) (by decide) ?_
          have hf := Option.some.inj hf
          subst hf
          exact rs_iret i_X7_drawn_43 m_X7_drawn rfl
  · replace hf := (if_neg c3).symm.trans hf
    refine rs_ifF i_X7_drawn_5 (cf_ne c3) ?_
    refine rs_bipush i_X7_drawn_8 (v := (-5)) (by decide) ?_
    have hf := Option.some.inj hf
    subst hf
    exact rs_iret i_X7_drawn_10 m_X7_drawn rfl
def f_X7_drawn (n : Nat) (v0 : Nat) (v1 : Int32) (v2 : Int32) (v3 : Int32) (v4 : Int32) (h : Hp) : Option (Int32 × Hp) := f_X7_drawn_0 n v0 v1 v2 v3 v4 h
theorem c_X7_drawn {X : Nat → Int32} {d : Nat} (hd : 7 ≤ d) {n : Nat} {v0 : Nat} {v1 : Int32} {v2 : Int32} {v3 : Int32} {v4 : Int32} {h : Hp} {o : (Int32 × Hp)} (hf : f_X7_drawn n v0 v1 v2 v3 v4 h = some o) : Calls X d 102 [.ref v0, .int v1, .int v2, .int v3, .int v4] h (some (.int o.1), o.2) := by
  obtain ⟨d, rfl⟩ : ∃ z, d = z + 1 := ⟨d - 1, by omega⟩
  exact ⟨_, rfl, r_X7_drawn_0 hd hf⟩
theorem i_X7_image_0 : fetch 103 0 = some (.aload_n 0, 1, 0, 0, 0, 0) := by decide +kernel
theorem i_X7_image_1 : fetch 103 1 = some (.getfield 16, 4, 7, 1, 0, 484) := by decide +kernel
theorem i_X7_image_4 : fetch 103 4 = some (.aload_n 0, 5, 0, 0, 0, 0) := by decide +kernel
theorem i_X7_image_5 : fetch 103 5 = some (.getfield 10, 8, 7, 0, 0, 483) := by decide +kernel
theorem i_X7_image_8 : fetch 103 8 = some (.invokevirtual 258, 11, 2, 0, 0, 820) := by decide +kernel
theorem i_X7_image_11 : fetch 103 11 = some (.aload_n 0, 12, 0, 0, 0, 0) := by decide +kernel
theorem i_X7_image_12 : fetch 103 12 = some (.iconst 1, 13, 0, 0, 0, 0) := by decide +kernel
theorem i_X7_image_13 : fetch 103 13 = some (.putfield 61, 16, 7, 14, 0, 497) := by decide +kernel
theorem i_X7_image_16 : fetch 103 16 = some (.aload_n 0, 17, 0, 0, 0, 0) := by decide +kernel
theorem i_X7_image_17 : fetch 103 17 = some (.getfield 54, 20, 7, 12, 0, 495) := by decide +kernel
theorem i_X7_image_20 : fetch 103 20 = some (.ireturn, 21, 0, 0, 0, 0) := by decide +kernel
def f_X7_image_16 (v0 : Nat) (h : Hp) : Option (Int32 × Hp) :=
  if okO h v0 7 then
  some ((gI h v0 12), h)
  else none
set_option maxRecDepth 100000 in
set_option maxHeartbeats 4000000 in
theorem r_X7_image_16 {X : Nat → Int32} {d : Nat} (hd : 1 ≤ (d + 1)) {v0 : Nat} {h : Hp} {o : (Int32 × Hp)} (hf : f_X7_image_16 v0 h = some o) : Run X (d + 1) 103 16 [some (.ref v0)] [] h (some (.int o.1), o.2) := by
  unfold f_X7_image_16 at hf
  refine rs_aload_n i_X7_image_16 rfl ?_
  obtain ⟨c1, hf⟩ := ite_some hf
  refine rs_getI i_X7_image_17 (by decide) (by decide) c1 ?_
  have hf := Option.some.inj hf
  subst hf
  exact rs_iret i_X7_image_20 m_X7_image rfl
def f_X7_image_0 (v0 : Nat) (h : Hp) : Option (Int32 × Hp) :=
  if okO h v0 7 then
  (gR h v0 1).bind fun a2 =>
  (gR h v0 0).bind fun a3 =>
  if okO h a2 0 then
  (f_X0_become a2 a3 h).bind fun o4 =>
  if okO o4 v0 7 then
  f_X7_image_16 v0 (hsi o4 v0 14 1)
  else none
  else none
  else none
set_option maxRecDepth 100000 in
set_option maxHeartbeats 4000000 in
theorem r_X7_image_0 {X : Nat → Int32} {d : Nat} (hd : 1 ≤ (d + 1)) {v0 : Nat} {h : Hp} {o : (Int32 × Hp)} (hf : f_X7_image_0 v0 h = some o) : Run X (d + 1) 103 0 [some (.ref v0)] [] h (some (.int o.1), o.2) := by
  unfold f_X7_image_0 at hf
  refine rs_aload_n i_X7_image_0 rfl ?_
  obtain ⟨c1, hf⟩ := ite_some hf
  obtain ⟨a2, e2, hf⟩ := bind_some hf
  refine rs_getR i_X7_image_1 (by decide) (by decide) c1 e2 ?_
  refine rs_aload_n i_X7_image_4 rfl ?_
  obtain ⟨a3, e3, hf⟩ := bind_some hf
  refine rs_getR i_X7_image_5 (by decide) (by decide) c1 e3 ?_
  obtain ⟨c5, hf⟩ := ite_some hf
  obtain ⟨o4, e4, hf⟩ := bind_some hf
  refine rs_inV i_X7_image_8 m_X0_become rfl (As := [.ref a3]) (rest := []) rfl rfl (Nat.le_of_ble_eq_true rfl) c5 (c_X0_become (by omega) e4) (st' := []) rfl ?_
  refine rs_aload_n i_X7_image_11 rfl ?_
  refine rs_iconst i_X7_image_12 (v := 1) (by decide) ?_
  obtain ⟨c6, hf⟩ := ite_some hf
  refine rs_putZ i_X7_image_13 (by decide) (by decide) c6 ?_
  exact r_X7_image_16 hd hf
def f_X7_image (v0 : Nat) (h : Hp) : Option (Int32 × Hp) := f_X7_image_0 v0 h
theorem c_X7_image {X : Nat → Int32} {d : Nat} (hd : 1 ≤ d) {v0 : Nat} {h : Hp} {o : (Int32 × Hp)} (hf : f_X7_image v0 h = some o) : Calls X d 103 [.ref v0] h (some (.int o.1), o.2) := by
  obtain ⟨d, rfl⟩ : ∃ z, d = z + 1 := ⟨d - 1, by omega⟩
  exact ⟨_, rfl, r_X7_image_0 hd hf⟩
theorem i_X7_back_0 : fetch 104 0 = some (.aload_n 0, 1, 0, 0, 0, 0) := by decide +kernel
theorem i_X7_back_1 : fetch 104 1 = some (.getfield 61, 4, 7, 14, 0, 497) := by decide +kernel
theorem i_X7_back_4 : fetch 104 4 = some (.ifCond .ne 6, 7, 0, 0, 0, 0) := by decide +kernel
theorem i_X7_back_7 : fetch 104 7 = some (.bipush (-3), 9, 0, 0, 0, 0) := by decide +kernel
theorem i_X7_back_9 : fetch 104 9 = some (.ireturn, 10, 0, 0, 0, 0) := by decide +kernel
theorem i_X7_back_10 : fetch 104 10 = some (.aload_n 0, 11, 0, 0, 0, 0) := by decide +kernel
theorem i_X7_back_11 : fetch 104 11 = some (.getfield 10, 14, 7, 0, 0, 483) := by decide +kernel
theorem i_X7_back_14 : fetch 104 14 = some (.aload_n 0, 15, 0, 0, 0, 0) := by decide +kernel
theorem i_X7_back_15 : fetch 104 15 = some (.getfield 16, 18, 7, 1, 0, 484) := by decide +kernel
theorem i_X7_back_18 : fetch 104 18 = some (.invokevirtual 258, 21, 2, 0, 0, 820) := by decide +kernel
theorem i_X7_back_21 : fetch 104 21 = some (.aload_n 0, 22, 0, 0, 0, 0) := by decide +kernel
theorem i_X7_back_22 : fetch 104 22 = some (.getfield 54, 25, 7, 12, 0, 495) := by decide +kernel
theorem i_X7_back_25 : fetch 104 25 = some (.ireturn, 26, 0, 0, 0, 0) := by decide +kernel
def f_X7_back_0 (v0 : Nat) (h : Hp) : Option (Int32 × Hp) :=
  if okO h v0 7 then
  if (gI h v0 14) ≠ 0 then
    (gR h v0 0).bind fun a3 =>
    (gR h v0 1).bind fun a4 =>
    if okO h a3 0 then
    (f_X0_become a3 a4 h).bind fun o5 =>
    if okO o5 v0 7 then
    some ((gI o5 v0 12), o5)
    else none
    else none
  else
    some ((-3), h)
  else none
set_option maxRecDepth 100000 in
set_option maxHeartbeats 4000000 in
theorem r_X7_back_0 {X : Nat → Int32} {d : Nat} (hd : 1 ≤ (d + 1)) {v0 : Nat} {h : Hp} {o : (Int32 × Hp)} (hf : f_X7_back_0 v0 h = some o) : Run X (d + 1) 104 0 [some (.ref v0)] [] h (some (.int o.1), o.2) := by
  unfold f_X7_back_0 at hf
  refine rs_aload_n i_X7_back_0 rfl ?_
  obtain ⟨c1, hf⟩ := ite_some hf
  refine rs_getI i_X7_back_1 (by decide) (by decide) c1 ?_
  by_cases c2 : (gI h v0 14) ≠ 0
  · replace hf := (if_pos c2).symm.trans hf
    refine rs_ifT i_X7_back_4 (ct_ne c2) (tg := 10) (by decide) ?_
    refine rs_aload_n i_X7_back_10 rfl ?_
    obtain ⟨a3, e3, hf⟩ := bind_some hf
    refine rs_getR i_X7_back_11 (by decide) (by decide) c1 e3 ?_
    refine rs_aload_n i_X7_back_14 rfl ?_
    obtain ⟨a4, e4, hf⟩ := bind_some hf
    refine rs_getR i_X7_back_15 (by decide) (by decide) c1 e4 ?_
    obtain ⟨c6, hf⟩ := ite_some hf
    obtain ⟨o5, e5, hf⟩ := bind_some hf
    refine rs_inV i_X7_back_18 m_X0_become rfl (As := [.ref a4]) (rest := []) rfl rfl (Nat.le_of_ble_eq_true rfl) c6 (c_X0_become (by omega) e5) (st' := []) rfl ?_
    refine rs_aload_n i_X7_back_21 rfl ?_
    obtain ⟨c7, hf⟩ := ite_some hf
    refine rs_getI i_X7_back_22 (by decide) (by decide) c7 ?_
    have hf := Option.some.inj hf
    subst hf
    exact rs_iret i_X7_back_25 m_X7_back rfl
  · replace hf := (if_neg c2).symm.trans hf
    refine rs_ifF i_X7_back_4 (cf_ne c2) ?_
    refine rs_bipush i_X7_back_7 (v := (-3)) (by decide) ?_
    have hf := Option.some.inj hf
    subst hf
    exact rs_iret i_X7_back_9 m_X7_back rfl
def f_X7_back (v0 : Nat) (h : Hp) : Option (Int32 × Hp) := f_X7_back_0 v0 h
theorem c_X7_back {X : Nat → Int32} {d : Nat} (hd : 1 ≤ d) {v0 : Nat} {h : Hp} {o : (Int32 × Hp)} (hf : f_X7_back v0 h = some o) : Calls X d 104 [.ref v0] h (some (.int o.1), o.2) := by
  obtain ⟨d, rfl⟩ : ∃ z, d = z + 1 := ⟨d - 1, by omega⟩
  exact ⟨_, rfl, r_X7_back_0 hd hf⟩
theorem i_X7_sheet_0 : fetch 105 0 = some (.iload_n 1, 1, 0, 0, 0, 0) := by decide +kernel
theorem i_X7_sheet_1 : fetch 105 1 = some (.invokestatic 250, 4, 114, 0, 0, 791) := by decide +kernel
theorem i_X7_sheet_4 : fetch 105 4 = some (.ifCond .eq 12, 7, 0, 0, 0, 0) := by decide +kernel
theorem i_X7_sheet_7 : fetch 105 7 = some (.iload_n 2, 8, 0, 0, 0, 0) := by decide +kernel
theorem i_X7_sheet_8 : fetch 105 8 = some (.iconst (-1), 9, 0, 0, 0, 0) := by decide +kernel
theorem i_X7_sheet_9 : fetch 105 9 = some (.iconst 2, 10, 0, 0, 0, 0) := by decide +kernel
theorem i_X7_sheet_10 : fetch 105 10 = some (.invokestatic 112, 13, 110, 0, 0, 534) := by decide +kernel
theorem i_X7_sheet_13 : fetch 105 13 = some (.ifCond .ne 6, 16, 0, 0, 0, 0) := by decide +kernel
theorem i_X7_sheet_16 : fetch 105 16 = some (.bipush (-2), 18, 0, 0, 0, 0) := by decide +kernel
theorem i_X7_sheet_18 : fetch 105 18 = some (.ireturn, 19, 0, 0, 0, 0) := by decide +kernel
theorem i_X7_sheet_19 : fetch 105 19 = some (.iload_n 2, 20, 0, 0, 0, 0) := by decide +kernel
theorem i_X7_sheet_20 : fetch 105 20 = some (.iconst (-1), 21, 0, 0, 0, 0) := by decide +kernel
theorem i_X7_sheet_21 : fetch 105 21 = some (.if_icmp .ne 16, 24, 0, 0, 0, 0) := by decide +kernel
theorem i_X7_sheet_24 : fetch 105 24 = some (.aload_n 0, 25, 0, 0, 0, 0) := by decide +kernel
theorem i_X7_sheet_25 : fetch 105 25 = some (.getfield 43, 28, 7, 9, 0, 492) := by decide +kernel
theorem i_X7_sheet_28 : fetch 105 28 = some (.iload_n 1, 29, 0, 0, 0, 0) := by decide +kernel
theorem i_X7_sheet_29 : fetch 105 29 = some (.aaload, 30, 0, 0, 0, 0) := by decide +kernel
theorem i_X7_sheet_30 : fetch 105 30 = some (.iconst (-1), 31, 0, 0, 0, 0) := by decide +kernel
theorem i_X7_sheet_31 : fetch 105 31 = some (.iconst 0, 32, 0, 0, 0, 0) := by decide +kernel
theorem i_X7_sheet_32 : fetch 105 32 = some (.invokevirtual 253, 35, 51, 0, 0, 802) := by decide +kernel
theorem i_X7_sheet_35 : fetch 105 35 = some (.iconst 1, 36, 0, 0, 0, 0) := by decide +kernel
theorem i_X7_sheet_36 : fetch 105 36 = some (.ireturn, 37, 0, 0, 0, 0) := by decide +kernel
theorem i_X7_sheet_37 : fetch 105 37 = some (.iload_n 3, 38, 0, 0, 0, 0) := by decide +kernel
theorem i_X7_sheet_38 : fetch 105 38 = some (.bipush 40, 40, 0, 0, 0, 0) := by decide +kernel
theorem i_X7_sheet_40 : fetch 105 40 = some (.if_icmp .le 6, 43, 0, 0, 0, 0) := by decide +kernel
theorem i_X7_sheet_43 : fetch 105 43 = some (.bipush (-2), 45, 0, 0, 0, 0) := by decide +kernel
theorem i_X7_sheet_45 : fetch 105 45 = some (.ireturn, 46, 0, 0, 0, 0) := by decide +kernel
theorem i_X7_sheet_46 : fetch 105 46 = some (.iload_n 3, 47, 0, 0, 0, 0) := by decide +kernel
theorem i_X7_sheet_47 : fetch 105 47 = some (.ifCond .ge 6, 50, 0, 0, 0, 0) := by decide +kernel
theorem i_X7_sheet_50 : fetch 105 50 = some (.bipush (-14), 52, 0, 0, 0, 0) := by decide +kernel
theorem i_X7_sheet_52 : fetch 105 52 = some (.ireturn, 53, 0, 0, 0, 0) := by decide +kernel
theorem i_X7_sheet_53 : fetch 105 53 = some (.aload_n 0, 54, 0, 0, 0, 0) := by decide +kernel
theorem i_X7_sheet_54 : fetch 105 54 = some (.getfield 43, 57, 7, 9, 0, 492) := by decide +kernel
theorem i_X7_sheet_57 : fetch 105 57 = some (.iload_n 1, 58, 0, 0, 0, 0) := by decide +kernel
theorem i_X7_sheet_58 : fetch 105 58 = some (.aaload, 59, 0, 0, 0, 0) := by decide +kernel
theorem i_X7_sheet_59 : fetch 105 59 = some (.iload_n 2, 60, 0, 0, 0, 0) := by decide +kernel
theorem i_X7_sheet_60 : fetch 105 60 = some (.iload_n 3, 61, 0, 0, 0, 0) := by decide +kernel
theorem i_X7_sheet_61 : fetch 105 61 = some (.invokevirtual 253, 64, 51, 0, 0, 802) := by decide +kernel
theorem i_X7_sheet_64 : fetch 105 64 = some (.iconst 1, 65, 0, 0, 0, 0) := by decide +kernel
theorem i_X7_sheet_65 : fetch 105 65 = some (.ireturn, 66, 0, 0, 0, 0) := by decide +kernel
def f_X7_sheet_0 (n : Nat) (v0 : Nat) (v1 : Int32) (v2 : Int32) (v3 : Int32) (h : Hp) : Option (Int32 × Hp) :=
  (f_X7_isSheet v1 h).bind fun o1 =>
  if o1.1 = 0 then
    some ((-2), o1.2)
  else
    (f_X7_within v2 (-1) 2 o1.2).bind fun o3 =>
    if o3.1 ≠ 0 then
      if v2 ≠ (-1) then
        if v3 ≤ 40 then
          if 0 ≤ v3 then
            if okO o3.2 v0 7 then
            (gR o3.2 v0 9).bind fun a9 =>
            if okR o3.2 a9 v1 then
            (gR o3.2 a9 (ix v1)).bind fun a11 =>
            if okO o3.2 a11 4 then
            (f_X4_become n a11 v2 v3 o3.2).bind fun o12 =>
            some (1, o12)
            else none
            else none
            else none
          else
            some ((-14), o3.2)
        else
          some ((-2), o3.2)
      else
        if okO o3.2 v0 7 then
        (gR o3.2 v0 9).bind fun a15 =>
        if okR o3.2 a15 v1 then
        (gR o3.2 a15 (ix v1)).bind fun a17 =>
        if okO o3.2 a17 4 then
        (f_X4_become n a17 (-1) 0 o3.2).bind fun o18 =>
        some (1, o18)
        else none
        else none
        else none
    else
      some ((-2), o3.2)
set_option maxRecDepth 100000 in
set_option maxHeartbeats 4000000 in
theorem r_X7_sheet_0 {X : Nat → Int32} {d : Nat} (hd : 2 ≤ (d + 1)) {n : Nat} {v0 : Nat} {v1 : Int32} {v2 : Int32} {v3 : Int32} {h : Hp} {o : (Int32 × Hp)} (hf : f_X7_sheet_0 n v0 v1 v2 v3 h = some o) : Run X (d + 1) 105 0 [some (.ref v0), some (.int v1), some (.int v2), some (.int v3)] [] h (some (.int o.1), o.2) := by
  unfold f_X7_sheet_0 at hf
  refine rs_iload_n i_X7_sheet_0 rfl ?_
  obtain ⟨o1, e1, hf⟩ := bind_some hf
  refine rs_inS i_X7_sheet_1 (by decide) m_X7_isSheet rfl (As := [.int v1]) (rest := []) rfl rfl (Nat.le_of_ble_eq_true rfl) (c_X7_isSheet (by omega) e1) (st' := [.int o1.1]) rfl ?_
  by_cases c2 : o1.1 = 0
  · replace hf := (if_pos c2).symm.trans hf
    refine rs_ifT i_X7_sheet_4 (ct_eq c2) (tg := 16) (by decide) ?_
    refine rs_bipush i_X7_sheet_16 (v := (-2)) (by decide) ?_
    have hf := Option.some.inj hf
    subst hf
    exact rs_iret i_X7_sheet_18 m_X7_sheet rfl
  · replace hf := (if_neg c2).symm.trans hf
    refine rs_ifF i_X7_sheet_4 (cf_eq c2) ?_
    refine rs_iload_n i_X7_sheet_7 rfl ?_
    refine rs_iconst i_X7_sheet_8 (v := (-1)) (by decide) ?_
    refine rs_iconst i_X7_sheet_9 (v := 2) (by decide) ?_
    obtain ⟨o3, e3, hf⟩ := bind_some hf
    refine rs_inS i_X7_sheet_10 (by decide) m_X7_within rfl (As := [.int v2, .int (-1), .int 2]) (rest := []) rfl rfl (Nat.le_of_ble_eq_true rfl) (c_X7_within (by omega) e3) (st' := [.int o3.1]) rfl ?_
    by_cases c4 : o3.1 ≠ 0
    · replace hf := (if_pos c4).symm.trans hf
      refine rs_ifT i_X7_sheet_13 (ct_ne c4) (tg := 19) (by decide) ?_
      refine rs_iload_n i_X7_sheet_19 rfl ?_
      refine rs_iconst i_X7_sheet_20 (v := (-1)) (by decide) ?_
      by_cases c5 : v2 ≠ (-1)
      · replace hf := (if_pos c5).symm.trans hf
        refine rs_icT i_X7_sheet_21 (ct_ne c5) (tg := 37) (by decide) ?_
        refine rs_iload_n i_X7_sheet_37 rfl ?_
        refine rs_bipush i_X7_sheet_38 (v := 40) (by decide) ?_
        by_cases c6 : v3 ≤ 40
        · replace hf := (if_pos c6).symm.trans hf
          refine rs_icT i_X7_sheet_40 (ct_le c6) (tg := 46) (by decide) ?_
          refine rs_iload_n i_X7_sheet_46 rfl ?_
          by_cases c7 : 0 ≤ v3
          · replace hf := (if_pos c7).symm.trans hf
            refine rs_ifT i_X7_sheet_47 (ct_ge c7) (tg := 53) (by decide) ?_
            refine rs_aload_n i_X7_sheet_53 rfl ?_
            obtain ⟨c8, hf⟩ := ite_some hf
            obtain ⟨a9, e9, hf⟩ := bind_some hf
            refine rs_getR i_X7_sheet_54 (by decide) (by decide) c8 e9 ?_
            refine rs_iload_n i_X7_sheet_57 rfl ?_
            obtain ⟨c10, hf⟩ := ite_some hf
            obtain ⟨a11, e11, hf⟩ := bind_some hf
            refine rs_aald i_X7_sheet_58 c10 e11 ?_
            refine rs_iload_n i_X7_sheet_59 rfl ?_
            refine rs_iload_n i_X7_sheet_60 rfl ?_
            obtain ⟨c13, hf⟩ := ite_some hf
            obtain ⟨o12, e12, hf⟩ := bind_some hf
            refine rs_inV i_X7_sheet_61 m_X4_become rfl (As := [.int v2, .int v3]) (rest := []) rfl rfl (Nat.le_of_ble_eq_true rfl) c13 (c_X4_become (by omega) e12) (st' := []) rfl ?_
            refine rs_iconst i_X7_sheet_64 (v := 1) (by decide) ?_
            have hf := Option.some.inj hf
            subst hf
            exact rs_iret i_X7_sheet_65 m_X7_sheet rfl
          · replace hf := (if_neg c7).symm.trans hf
            refine rs_ifF i_X7_sheet_47 (cf_ge c7) ?_
            refine rs_bipush i_X7_sheet_50 (v := (-14)) (by decide) ?_
            have hf := Option.some.inj hf
            subst hf
            exact rs_iret i_X7_sheet_52 m_X7_sheet rfl
        · replace hf := (if_neg c6).symm.trans hf
          refine rs_icF i_X7_sheet_40 (cf_le c6) ?_
          refine rs_bipush i_X7_sheet_43 (v := (-2)) (by decide) ?_
          have hf := Option.some.inj hf
          subst hf
          exact rs_iret i_X7_sheet_45 m_X7_sheet rfl
      · replace hf := (if_neg c5).symm.trans hf
        refine rs_icF i_X7_sheet_21 (cf_ne c5) ?_
        refine rs_aload_n i_X7_sheet_24 rfl ?_
        obtain ⟨c14, hf⟩ := ite_some hf
        obtain ⟨a15, e15, hf⟩ := bind_some hf
        refine rs_getR i_X7_sheet_25 (by decide) (by decide) c14 e15 ?_
        refine rs_iload_n i_X7_sheet_28 rfl ?_
        obtain ⟨c16, hf⟩ := ite_some hf
        obtain ⟨a17, e17, hf⟩ := bind_some hf
        refine rs_aald i_X7_sheet_29 c16 e17 ?_
        refine rs_iconst i_X7_sheet_30 (v := (-1)) (by decide) ?_
        refine rs_iconst i_X7_sheet_31 (v := 0) (by decide) ?_
        obtain ⟨c19, hf⟩ := ite_some hf
        obtain ⟨o18, e18, hf⟩ := bind_some hf
        refine rs_inV i_X7_sheet_32 m_X4_become rfl (As := [.int (-1), .int 0]) (rest := []) rfl rfl (Nat.le_of_ble_eq_true rfl) c19 (c_X4_become (by omega) e18) (st' := []) rfl ?_
        refine rs_iconst i_X7_sheet_35 (v := 1) (by decide) ?_
        have hf := Option.some.inj hf
        subst hf
        exact rs_iret i_X7_sheet_36 m_X7_sheet rfl
    · replace hf := (if_neg c4).symm.trans hf
      refine rs_ifF i_X7_sheet_13 (cf_ne c4) ?_
      refine rs_bipush i_X7_sheet_16 (v := (-2)) (by decide) ?_
      have hf := Option.some.inj hf
      subst hf
      exact rs_iret i_X7_sheet_18 m_X7_sheet rfl
def f_X7_sheet (n : Nat) (v0 : Nat) (v1 : Int32) (v2 : Int32) (v3 : Int32) (h : Hp) : Option (Int32 × Hp) := f_X7_sheet_0 n v0 v1 v2 v3 h
theorem c_X7_sheet {X : Nat → Int32} {d : Nat} (hd : 2 ≤ d) {n : Nat} {v0 : Nat} {v1 : Int32} {v2 : Int32} {v3 : Int32} {h : Hp} {o : (Int32 × Hp)} (hf : f_X7_sheet n v0 v1 v2 v3 h = some o) : Calls X d 105 [.ref v0, .int v1, .int v2, .int v3] h (some (.int o.1), o.2) := by
  obtain ⟨d, rfl⟩ : ∃ z, d = z + 1 := ⟨d - 1, by omega⟩
  exact ⟨_, rfl, r_X7_sheet_0 hd hf⟩
theorem i_X7_cell_0 : fetch 106 0 = some (.iload_n 1, 1, 0, 0, 0, 0) := by decide +kernel
theorem i_X7_cell_1 : fetch 106 1 = some (.invokestatic 250, 4, 114, 0, 0, 791) := by decide +kernel
theorem i_X7_cell_4 : fetch 106 4 = some (.ifCond .ne 6, 7, 0, 0, 0, 0) := by decide +kernel
theorem i_X7_cell_7 : fetch 106 7 = some (.bipush (-2), 9, 0, 0, 0, 0) := by decide +kernel
theorem i_X7_cell_9 : fetch 106 9 = some (.ireturn, 10, 0, 0, 0, 0) := by decide +kernel
theorem i_X7_cell_10 : fetch 106 10 = some (.aload_n 0, 11, 0, 0, 0, 0) := by decide +kernel
theorem i_X7_cell_11 : fetch 106 11 = some (.getfield 43, 14, 7, 9, 0, 492) := by decide +kernel
theorem i_X7_cell_14 : fetch 106 14 = some (.iload_n 1, 15, 0, 0, 0, 0) := by decide +kernel
theorem i_X7_cell_15 : fetch 106 15 = some (.aaload, 16, 0, 0, 0, 0) := by decide +kernel
theorem i_X7_cell_16 : fetch 106 16 = some (.getfield 302, 19, 4, 1, 0, 192) := by decide +kernel
theorem i_X7_cell_19 : fetch 106 19 = some (.iconst (-1), 20, 0, 0, 0, 0) := by decide +kernel
theorem i_X7_cell_20 : fetch 106 20 = some (.if_icmp .ne 6, 23, 0, 0, 0, 0) := by decide +kernel
theorem i_X7_cell_23 : fetch 106 23 = some (.bipush (-11), 25, 0, 0, 0, 0) := by decide +kernel
theorem i_X7_cell_25 : fetch 106 25 = some (.ireturn, 26, 0, 0, 0, 0) := by decide +kernel
theorem i_X7_cell_26 : fetch 106 26 = some (.aload_n 0, 27, 0, 0, 0, 0) := by decide +kernel
theorem i_X7_cell_27 : fetch 106 27 = some (.getfield 43, 30, 7, 9, 0, 492) := by decide +kernel
theorem i_X7_cell_30 : fetch 106 30 = some (.iload_n 1, 31, 0, 0, 0, 0) := by decide +kernel
theorem i_X7_cell_31 : fetch 106 31 = some (.aaload, 32, 0, 0, 0, 0) := by decide +kernel
theorem i_X7_cell_32 : fetch 106 32 = some (.iload_n 2, 33, 0, 0, 0, 0) := by decide +kernel
theorem i_X7_cell_33 : fetch 106 33 = some (.iconst 1, 34, 0, 0, 0, 0) := by decide +kernel
theorem i_X7_cell_34 : fetch 106 34 = some (.invokevirtual 305, 37, 52, 0, 0, 934) := by decide +kernel
theorem i_X7_cell_37 : fetch 106 37 = some (.ifCond .ne 6, 40, 0, 0, 0, 0) := by decide +kernel
theorem i_X7_cell_40 : fetch 106 40 = some (.bipush (-12), 42, 0, 0, 0, 0) := by decide +kernel
theorem i_X7_cell_42 : fetch 106 42 = some (.ireturn, 43, 0, 0, 0, 0) := by decide +kernel
theorem i_X7_cell_43 : fetch 106 43 = some (.aload_n 0, 44, 0, 0, 0, 0) := by decide +kernel
theorem i_X7_cell_44 : fetch 106 44 = some (.getfield 43, 47, 7, 9, 0, 492) := by decide +kernel
theorem i_X7_cell_47 : fetch 106 47 = some (.iload_n 1, 48, 0, 0, 0, 0) := by decide +kernel
theorem i_X7_cell_48 : fetch 106 48 = some (.aaload, 49, 0, 0, 0, 0) := by decide +kernel
theorem i_X7_cell_49 : fetch 106 49 = some (.iload_n 2, 50, 0, 0, 0, 0) := by decide +kernel
theorem i_X7_cell_50 : fetch 106 50 = some (.iload_n 3, 51, 0, 0, 0, 0) := by decide +kernel
theorem i_X7_cell_51 : fetch 106 51 = some (.invokevirtual 255, 54, 53, 0, 0, 808) := by decide +kernel
theorem i_X7_cell_54 : fetch 106 54 = some (.iconst 1, 55, 0, 0, 0, 0) := by decide +kernel
theorem i_X7_cell_55 : fetch 106 55 = some (.ireturn, 56, 0, 0, 0, 0) := by decide +kernel
def f_X7_cell_0 (v0 : Nat) (v1 : Int32) (v2 : Int32) (v3 : Int32) (h : Hp) : Option (Int32 × Hp) :=
  (f_X7_isSheet v1 h).bind fun o1 =>
  if o1.1 ≠ 0 then
    if okO o1.2 v0 7 then
    (gR o1.2 v0 9).bind fun a4 =>
    if okR o1.2 a4 v1 then
    (gR o1.2 a4 (ix v1)).bind fun a6 =>
    if okO o1.2 a6 4 then
    if (gI o1.2 a6 1) ≠ (-1) then
      (gR o1.2 a4 (ix v1)).bind fun a9 =>
      if okO o1.2 a9 4 then
      (f_X4_has a9 v2 1 o1.2).bind fun o10 =>
      if o10.1 ≠ 0 then
        if okO o10.2 v0 7 then
        (gR o10.2 v0 9).bind fun a14 =>
        if okR o10.2 a14 v1 then
        (gR o10.2 a14 (ix v1)).bind fun a16 =>
        if okO o10.2 a16 4 then
        (f_X4_put a16 v2 v3 o10.2).bind fun o17 =>
        some (1, o17)
        else none
        else none
        else none
      else
        some ((-12), o10.2)
      else none
    else
      some ((-11), o1.2)
    else none
    else none
    else none
  else
    some ((-2), o1.2)
set_option maxRecDepth 100000 in
set_option maxHeartbeats 4000000 in
theorem r_X7_cell_0 {X : Nat → Int32} {d : Nat} (hd : 2 ≤ (d + 1)) {v0 : Nat} {v1 : Int32} {v2 : Int32} {v3 : Int32} {h : Hp} {o : (Int32 × Hp)} (hf : f_X7_cell_0 v0 v1 v2 v3 h = some o) : Run X (d + 1) 106 0 [some (.ref v0), some (.int v1), some (.int v2), some (.int v3)] [] h (some (.int o.1), o.2) := by
  unfold f_X7_cell_0 at hf
  refine rs_iload_n i_X7_cell_0 rfl ?_
  obtain ⟨o1, e1, hf⟩ := bind_some hf
  refine rs_inS i_X7_cell_1 (by decide) m_X7_isSheet rfl (As := [.int v1]) (rest := []) rfl rfl (Nat.le_of_ble_eq_true rfl) (c_X7_isSheet (by omega) e1) (st' := [.int o1.1]) rfl ?_
  by_cases c2 : o1.1 ≠ 0
  · replace hf := (if_pos c2).symm.trans hf
    refine rs_ifT i_X7_cell_4 (ct_ne c2) (tg := 10) (by decide) ?_
    refine rs_aload_n i_X7_cell_10 rfl ?_
    obtain ⟨c3, hf⟩ := ite_some hf
    obtain ⟨a4, e4, hf⟩ := bind_some hf
    refine rs_getR i_X7_cell_11 (by decide) (by decide) c3 e4 ?_
    refine rs_iload_n i_X7_cell_14 rfl ?_
    obtain ⟨c5, hf⟩ := ite_some hf
    obtain ⟨a6, e6, hf⟩ := bind_some hf
    refine rs_aald i_X7_cell_15 c5 e6 ?_
    obtain ⟨c7, hf⟩ := ite_some hf
    refine rs_getI i_X7_cell_16 (by decide) (by decide) c7 ?_
    refine rs_iconst i_X7_cell_19 (v := (-1)) (by decide) ?_
    by_cases c8 : (gI o1.2 a6 1) ≠ (-1)
    · replace hf := (if_pos c8).symm.trans hf
      refine rs_icT i_X7_cell_20 (ct_ne c8) (tg := 26) (by decide) ?_
      refine rs_aload_n i_X7_cell_26 rfl ?_
      refine rs_getR i_X7_cell_27 (by decide) (by decide) c3 e4 ?_
      refine rs_iload_n i_X7_cell_30 rfl ?_
      obtain ⟨a9, e9, hf⟩ := bind_some hf
      refine rs_aald i_X7_cell_31 c5 e9 ?_
      refine rs_iload_n i_X7_cell_32 rfl ?_
      refine rs_iconst i_X7_cell_33 (v := 1) (by decide) ?_
      obtain ⟨c11, hf⟩ := ite_some hf
      obtain ⟨o10, e10, hf⟩ := bind_some hf
      refine rs_inV i_X7_cell_34 m_X4_has rfl (As := [.int v2, .int 1]) (rest := []) rfl rfl (Nat.le_of_ble_eq_true rfl) c11 (c_X4_has (by omega) e10) (st' := [.int o10.1]) rfl ?_
      by_cases c12 : o10.1 ≠ 0
      · replace hf := (if_pos c12).symm.trans hf
        refine rs_ifT i_X7_cell_37 (ct_ne c12) (tg := 43) (by decide) ?_
        refine rs_aload_n i_X7_cell_43 rfl ?_
        obtain ⟨c13, hf⟩ := ite_some hf
        obtain ⟨a14, e14, hf⟩ := bind_some hf
        refine rs_getR i_X7_cell_44 (by decide) (by decide) c13 e14 ?_
        refine rs_iload_n i_X7_cell_47 rfl ?_
        obtain ⟨c15, hf⟩ := ite_some hf
        obtain ⟨a16, e16, hf⟩ := bind_some hf
        refine rs_aald i_X7_cell_48 c15 e16 ?_
        refine rs_iload_n i_X7_cell_49 rfl ?_
        refine rs_iload_n i_X7_cell_50 rfl ?_
        obtain ⟨c18, hf⟩ := ite_some hf
        obtain ⟨o17, e17, hf⟩ := bind_some hf
        refine rs_inV i_X7_cell_51 m_X4_put rfl (As := [.int v2, .int v3]) (rest := []) rfl rfl (Nat.le_of_ble_eq_true rfl) c18 (c_X4_put (by omega) e17) (st' := []) rfl ?_
        refine rs_iconst i_X7_cell_54 (v := 1) (by decide) ?_
        have hf := Option.some.inj hf
        subst hf
        exact rs_iret i_X7_cell_55 m_X7_cell rfl
      · replace hf := (if_neg c12).symm.trans hf
        refine rs_ifF i_X7_cell_37 (cf_ne c12) ?_
        refine rs_bipush i_X7_cell_40 (v := (-12)) (by decide) ?_
        have hf := Option.some.inj hf
        subst hf
        exact rs_iret i_X7_cell_42 m_X7_cell rfl
    · replace hf := (if_neg c8).symm.trans hf
      refine rs_icF i_X7_cell_20 (cf_ne c8) ?_
      refine rs_bipush i_X7_cell_23 (v := (-11)) (by decide) ?_
      have hf := Option.some.inj hf
      subst hf
      exact rs_iret i_X7_cell_25 m_X7_cell rfl
  · replace hf := (if_neg c2).symm.trans hf
    refine rs_ifF i_X7_cell_4 (cf_ne c2) ?_
    refine rs_bipush i_X7_cell_7 (v := (-2)) (by decide) ?_
    have hf := Option.some.inj hf
    subst hf
    exact rs_iret i_X7_cell_9 m_X7_cell rfl
def f_X7_cell (v0 : Nat) (v1 : Int32) (v2 : Int32) (v3 : Int32) (h : Hp) : Option (Int32 × Hp) := f_X7_cell_0 v0 v1 v2 v3 h
theorem c_X7_cell {X : Nat → Int32} {d : Nat} (hd : 2 ≤ d) {v0 : Nat} {v1 : Int32} {v2 : Int32} {v3 : Int32} {h : Hp} {o : (Int32 × Hp)} (hf : f_X7_cell v0 v1 v2 v3 h = some o) : Calls X d 106 [.ref v0, .int v1, .int v2, .int v3] h (some (.int o.1), o.2) := by
  obtain ⟨d, rfl⟩ : ∃ z, d = z + 1 := ⟨d - 1, by omega⟩
  exact ⟨_, rfl, r_X7_cell_0 hd hf⟩
theorem i_X7_copy_0 : fetch 107 0 = some (.iload_n 1, 1, 0, 0, 0, 0) := by decide +kernel
theorem i_X7_copy_1 : fetch 107 1 = some (.invokestatic 250, 4, 114, 0, 0, 791) := by decide +kernel
theorem i_X7_copy_4 : fetch 107 4 = some (.ifCond .eq 10, 7, 0, 0, 0, 0) := by decide +kernel
theorem i_X7_copy_7 : fetch 107 7 = some (.iload_n 3, 8, 0, 0, 0, 0) := by decide +kernel
theorem i_X7_copy_8 : fetch 107 8 = some (.invokestatic 250, 11, 114, 0, 0, 791) := by decide +kernel
theorem i_X7_copy_11 : fetch 107 11 = some (.ifCond .ne 6, 14, 0, 0, 0, 0) := by decide +kernel
theorem i_X7_copy_14 : fetch 107 14 = some (.bipush (-2), 16, 0, 0, 0, 0) := by decide +kernel
theorem i_X7_copy_16 : fetch 107 16 = some (.ireturn, 17, 0, 0, 0, 0) := by decide +kernel
theorem i_X7_copy_17 : fetch 107 17 = some (.aload_n 0, 18, 0, 0, 0, 0) := by decide +kernel
theorem i_X7_copy_18 : fetch 107 18 = some (.getfield 43, 21, 7, 9, 0, 492) := by decide +kernel
theorem i_X7_copy_21 : fetch 107 21 = some (.iload_n 1, 22, 0, 0, 0, 0) := by decide +kernel
theorem i_X7_copy_22 : fetch 107 22 = some (.aaload, 23, 0, 0, 0, 0) := by decide +kernel
theorem i_X7_copy_23 : fetch 107 23 = some (.getfield 302, 26, 4, 1, 0, 192) := by decide +kernel
theorem i_X7_copy_26 : fetch 107 26 = some (.iconst (-1), 27, 0, 0, 0, 0) := by decide +kernel
theorem i_X7_copy_27 : fetch 107 27 = some (.if_icmp .eq 16, 30, 0, 0, 0, 0) := by decide +kernel
theorem i_X7_copy_30 : fetch 107 30 = some (.aload_n 0, 31, 0, 0, 0, 0) := by decide +kernel
theorem i_X7_copy_31 : fetch 107 31 = some (.getfield 43, 34, 7, 9, 0, 492) := by decide +kernel
theorem i_X7_copy_34 : fetch 107 34 = some (.iload_n 3, 35, 0, 0, 0, 0) := by decide +kernel
theorem i_X7_copy_35 : fetch 107 35 = some (.aaload, 36, 0, 0, 0, 0) := by decide +kernel
theorem i_X7_copy_36 : fetch 107 36 = some (.getfield 302, 39, 4, 1, 0, 192) := by decide +kernel
theorem i_X7_copy_39 : fetch 107 39 = some (.iconst (-1), 40, 0, 0, 0, 0) := by decide +kernel
theorem i_X7_copy_40 : fetch 107 40 = some (.if_icmp .ne 6, 43, 0, 0, 0, 0) := by decide +kernel
theorem i_X7_copy_43 : fetch 107 43 = some (.bipush (-11), 45, 0, 0, 0, 0) := by decide +kernel
theorem i_X7_copy_45 : fetch 107 45 = some (.ireturn, 46, 0, 0, 0, 0) := by decide +kernel
theorem i_X7_copy_46 : fetch 107 46 = some (.aload_n 0, 47, 0, 0, 0, 0) := by decide +kernel
theorem i_X7_copy_47 : fetch 107 47 = some (.getfield 43, 50, 7, 9, 0, 492) := by decide +kernel
theorem i_X7_copy_50 : fetch 107 50 = some (.iload_n 1, 51, 0, 0, 0, 0) := by decide +kernel
theorem i_X7_copy_51 : fetch 107 51 = some (.aaload, 52, 0, 0, 0, 0) := by decide +kernel
theorem i_X7_copy_52 : fetch 107 52 = some (.getfield 302, 55, 4, 1, 0, 192) := by decide +kernel
theorem i_X7_copy_55 : fetch 107 55 = some (.aload_n 0, 56, 0, 0, 0, 0) := by decide +kernel
theorem i_X7_copy_56 : fetch 107 56 = some (.getfield 43, 59, 7, 9, 0, 492) := by decide +kernel
theorem i_X7_copy_59 : fetch 107 59 = some (.iload_n 3, 60, 0, 0, 0, 0) := by decide +kernel
theorem i_X7_copy_60 : fetch 107 60 = some (.aaload, 61, 0, 0, 0, 0) := by decide +kernel
theorem i_X7_copy_61 : fetch 107 61 = some (.getfield 302, 64, 4, 1, 0, 192) := by decide +kernel
theorem i_X7_copy_64 : fetch 107 64 = some (.if_icmp .eq 6, 67, 0, 0, 0, 0) := by decide +kernel
theorem i_X7_copy_67 : fetch 107 67 = some (.bipush (-13), 69, 0, 0, 0, 0) := by decide +kernel
theorem i_X7_copy_69 : fetch 107 69 = some (.ireturn, 70, 0, 0, 0, 0) := by decide +kernel
theorem i_X7_copy_70 : fetch 107 70 = some (.aload_n 0, 71, 0, 0, 0, 0) := by decide +kernel
theorem i_X7_copy_71 : fetch 107 71 = some (.getfield 43, 74, 7, 9, 0, 492) := by decide +kernel
theorem i_X7_copy_74 : fetch 107 74 = some (.iload_n 1, 75, 0, 0, 0, 0) := by decide +kernel
theorem i_X7_copy_75 : fetch 107 75 = some (.aaload, 76, 0, 0, 0, 0) := by decide +kernel
theorem i_X7_copy_76 : fetch 107 76 = some (.iload_n 2, 77, 0, 0, 0, 0) := by decide +kernel
theorem i_X7_copy_77 : fetch 107 77 = some (.iload 5, 79, 0, 0, 0, 0) := by decide +kernel
theorem i_X7_copy_79 : fetch 107 79 = some (.invokevirtual 305, 82, 52, 0, 0, 934) := by decide +kernel
theorem i_X7_copy_82 : fetch 107 82 = some (.ifCond .eq 19, 85, 0, 0, 0, 0) := by decide +kernel
theorem i_X7_copy_85 : fetch 107 85 = some (.aload_n 0, 86, 0, 0, 0, 0) := by decide +kernel
theorem i_X7_copy_86 : fetch 107 86 = some (.getfield 43, 89, 7, 9, 0, 492) := by decide +kernel
theorem i_X7_copy_89 : fetch 107 89 = some (.iload_n 3, 90, 0, 0, 0, 0) := by decide +kernel
theorem i_X7_copy_90 : fetch 107 90 = some (.aaload, 91, 0, 0, 0, 0) := by decide +kernel
theorem i_X7_copy_91 : fetch 107 91 = some (.iload 4, 93, 0, 0, 0, 0) := by decide +kernel
theorem i_X7_copy_93 : fetch 107 93 = some (.iload 5, 95, 0, 0, 0, 0) := by decide +kernel
theorem i_X7_copy_95 : fetch 107 95 = some (.invokevirtual 305, 98, 52, 0, 0, 934) := by decide +kernel
theorem i_X7_copy_98 : fetch 107 98 = some (.ifCond .ne 6, 101, 0, 0, 0, 0) := by decide +kernel
theorem i_X7_copy_101 : fetch 107 101 = some (.bipush (-12), 103, 0, 0, 0, 0) := by decide +kernel
theorem i_X7_copy_103 : fetch 107 103 = some (.ireturn, 104, 0, 0, 0, 0) := by decide +kernel
theorem i_X7_copy_104 : fetch 107 104 = some (.aload_n 0, 105, 0, 0, 0, 0) := by decide +kernel
theorem i_X7_copy_105 : fetch 107 105 = some (.getfield 43, 108, 7, 9, 0, 492) := by decide +kernel
theorem i_X7_copy_108 : fetch 107 108 = some (.iload_n 1, 109, 0, 0, 0, 0) := by decide +kernel
theorem i_X7_copy_109 : fetch 107 109 = some (.aaload, 110, 0, 0, 0, 0) := by decide +kernel
theorem i_X7_copy_110 : fetch 107 110 = some (.getfield 308, 113, 4, 0, 0, 190) := by decide +kernel
theorem i_X7_copy_113 : fetch 107 113 = some (.iload_n 2, 114, 0, 0, 0, 0) := by decide +kernel
theorem i_X7_copy_114 : fetch 107 114 = some (.aload_n 0, 115, 0, 0, 0, 0) := by decide +kernel
theorem i_X7_copy_115 : fetch 107 115 = some (.getfield 43, 118, 7, 9, 0, 492) := by decide +kernel
theorem i_X7_copy_118 : fetch 107 118 = some (.iload_n 3, 119, 0, 0, 0, 0) := by decide +kernel
theorem i_X7_copy_119 : fetch 107 119 = some (.aaload, 120, 0, 0, 0, 0) := by decide +kernel
theorem i_X7_copy_120 : fetch 107 120 = some (.getfield 308, 123, 4, 0, 0, 190) := by decide +kernel
theorem i_X7_copy_123 : fetch 107 123 = some (.iload 4, 125, 0, 0, 0, 0) := by decide +kernel
theorem i_X7_copy_125 : fetch 107 125 = some (.iload 5, 127, 0, 0, 0, 0) := by decide +kernel
theorem i_X7_copy_127 : fetch 107 127 = some (.invokestatic 311, 130, 1001, 0, 0, 888) := by decide +kernel
theorem i_X7_copy_130 : fetch 107 130 = some (.iload 5, 132, 0, 0, 0, 0) := by decide +kernel
theorem i_X7_copy_132 : fetch 107 132 = some (.ireturn, 133, 0, 0, 0, 0) := by decide +kernel
def f_X7_copy_0 (v0 : Nat) (v1 : Int32) (v2 : Int32) (v3 : Int32) (v4 : Int32) (v5 : Int32) (h : Hp) : Option (Int32 × Hp) :=
  (f_X7_isSheet v1 h).bind fun o1 =>
  if o1.1 = 0 then
    some ((-2), o1.2)
  else
    (f_X7_isSheet v3 o1.2).bind fun o3 =>
    if o3.1 ≠ 0 then
      if okO o3.2 v0 7 then
      (gR o3.2 v0 9).bind fun a6 =>
      if okR o3.2 a6 v1 then
      (gR o3.2 a6 (ix v1)).bind fun a8 =>
      if okO o3.2 a8 4 then
      if (gI o3.2 a8 1) = (-1) then
        some ((-11), o3.2)
      else
        if okR o3.2 a6 v3 then
        (gR o3.2 a6 (ix v3)).bind fun a12 =>
        if okO o3.2 a12 4 then
        if (gI o3.2 a12 1) ≠ (-1) then
          (gR o3.2 a6 (ix v1)).bind fun a15 =>
          if okO o3.2 a15 4 then
          (gR o3.2 a6 (ix v3)).bind fun a17 =>
          if okO o3.2 a17 4 then
          if (gI o3.2 a15 1) = (gI o3.2 a17 1) then
            (gR o3.2 a6 (ix v1)).bind fun a20 =>
            if okO o3.2 a20 4 then
            (f_X4_has a20 v2 v5 o3.2).bind fun o21 =>
            if o21.1 = 0 then
              some ((-12), o21.2)
            else
              if okO o21.2 v0 7 then
              (gR o21.2 v0 9).bind fun a25 =>
              if okR o21.2 a25 v3 then
              (gR o21.2 a25 (ix v3)).bind fun a27 =>
              if okO o21.2 a27 4 then
              (f_X4_has a27 v4 v5 o21.2).bind fun o28 =>
              if o28.1 ≠ 0 then
                if okO o28.2 v0 7 then
                (gR o28.2 v0 9).bind fun a32 =>
                if okR o28.2 a32 v1 then
                (gR o28.2 a32 (ix v1)).bind fun a34 =>
                if okO o28.2 a34 4 then
                (gR o28.2 a34 0).bind fun a36 =>
                if okR o28.2 a32 v3 then
                (gR o28.2 a32 (ix v3)).bind fun a38 =>
                if okO o28.2 a38 4 then
                (gR o28.2 a38 0).bind fun a40 =>
                if okCp o28.2 a36 v2 a40 v4 v5 then
                some (v5, (hcp o28.2 a36 (ix v2) a40 (ix v4) (ix v5)))
                else none
                else none
                else none
                else none
                else none
                else none
              else
                some ((-12), o28.2)
              else none
              else none
              else none
            else none
          else
            some ((-13), o3.2)
          else none
          else none
        else
          some ((-11), o3.2)
        else none
        else none
      else none
      else none
      else none
    else
      some ((-2), o3.2)
set_option maxRecDepth 100000 in
set_option maxHeartbeats 4000000 in
theorem r_X7_copy_0 {X : Nat → Int32} {d : Nat} (hd : 2 ≤ (d + 1)) {v0 : Nat} {v1 : Int32} {v2 : Int32} {v3 : Int32} {v4 : Int32} {v5 : Int32} {h : Hp} {o : (Int32 × Hp)} (hf : f_X7_copy_0 v0 v1 v2 v3 v4 v5 h = some o) : Run X (d + 1) 107 0 [some (.ref v0), some (.int v1), some (.int v2), some (.int v3), some (.int v4), some (.int v5)] [] h (some (.int o.1), o.2) := by
  unfold f_X7_copy_0 at hf
  refine rs_iload_n i_X7_copy_0 rfl ?_
  obtain ⟨o1, e1, hf⟩ := bind_some hf
  refine rs_inS i_X7_copy_1 (by decide) m_X7_isSheet rfl (As := [.int v1]) (rest := []) rfl rfl (Nat.le_of_ble_eq_true rfl) (c_X7_isSheet (by omega) e1) (st' := [.int o1.1]) rfl ?_
  by_cases c2 : o1.1 = 0
  · replace hf := (if_pos c2).symm.trans hf
    refine rs_ifT i_X7_copy_4 (ct_eq c2) (tg := 14) (by decide) ?_
    refine rs_bipush i_X7_copy_14 (v := (-2)) (by decide) ?_
    have hf := Option.some.inj hf
    subst hf
    exact rs_iret i_X7_copy_16 m_X7_copy rfl
  · replace hf := (if_neg c2).symm.trans hf
    refine rs_ifF i_X7_copy_4 (cf_eq c2) ?_
    refine rs_iload_n i_X7_copy_7 rfl ?_
    obtain ⟨o3, e3, hf⟩ := bind_some hf
    refine rs_inS i_X7_copy_8 (by decide) m_X7_isSheet rfl (As := [.int v3]) (rest := []) rfl rfl (Nat.le_of_ble_eq_true rfl) (c_X7_isSheet (by omega) e3) (st' := [.int o3.1]) rfl ?_
    by_cases c4 : o3.1 ≠ 0
    · replace hf := (if_pos c4).symm.trans hf
      refine rs_ifT i_X7_copy_11 (ct_ne c4) (tg := 17) (by decide) ?_
      refine rs_aload_n i_X7_copy_17 rfl ?_
      obtain ⟨c5, hf⟩ := ite_some hf
      obtain ⟨a6, e6, hf⟩ := bind_some hf
      refine rs_getR i_X7_copy_18 (by decide) (by decide) c5 e6 ?_
      refine rs_iload_n i_X7_copy_21 rfl ?_
      obtain ⟨c7, hf⟩ := ite_some hf
      obtain ⟨a8, e8, hf⟩ := bind_some hf
      refine rs_aald i_X7_copy_22 c7 e8 ?_
      obtain ⟨c9, hf⟩ := ite_some hf
      refine rs_getI i_X7_copy_23 (by decide) (by decide) c9 ?_
      refine rs_iconst i_X7_copy_26 (v := (-1)) (by decide) ?_
      by_cases c10 : (gI o3.2 a8 1) = (-1)
      · replace hf := (if_pos c10).symm.trans hf
        refine rs_icT i_X7_copy_27 (ct_eq c10) (tg := 43) (by decide) ?_
        refine rs_bipush i_X7_copy_43 (v := (-11)) (by decide) ?_
        have hf := Option.some.inj hf
        subst hf
        exact rs_iret i_X7_copy_45 m_X7_copy rfl
      · replace hf := (if_neg c10).symm.trans hf
        refine rs_icF i_X7_copy_27 (cf_eq c10) ?_
        refine rs_aload_n i_X7_copy_30 rfl ?_
        refine rs_getR i_X7_copy_31 (by decide) (by decide) c5 e6 ?_
        refine rs_iload_n i_X7_copy_34 rfl ?_
        obtain ⟨c11, hf⟩ := ite_some hf
        obtain ⟨a12, e12, hf⟩ := bind_some hf
        refine rs_aald i_X7_copy_35 c11 e12 ?_
        obtain ⟨c13, hf⟩ := ite_some hf
        refine rs_getI i_X7_copy_36 (by decide) (by decide) c13 ?_
        refine rs_iconst i_X7_copy_39 (v := (-1)) (by decide) ?_
        by_cases c14 : (gI o3.2 a12 1) ≠ (-1)
        · replace hf := (if_pos c14).symm.trans hf
          refine rs_icT i_X7_copy_40 (ct_ne c14) (tg := 46) (by decide) ?_
          refine rs_aload_n i_X7_copy_46 rfl ?_
          refine rs_getR i_X7_copy_47 (by decide) (by decide) c5 e6 ?_
          refine rs_iload_n i_X7_copy_50 rfl ?_
          obtain ⟨a15, e15, hf⟩ := bind_some hf
          refine rs_aald i_X7_copy_51 c7 e15 ?_
          obtain ⟨c16, hf⟩ := ite_some hf
          refine rs_getI i_X7_copy_52 (by decide) (by decide) c16 ?_
          refine rs_aload_n i_X7_copy_55 rfl ?_
          refine rs_getR i_X7_copy_56 (by decide) (by decide) c5 e6 ?_
          refine rs_iload_n i_X7_copy_59 rfl ?_
          obtain ⟨a17, e17, hf⟩ := bind_some hf
          refine rs_aald i_X7_copy_60 c11 e17 ?_
          obtain ⟨c18, hf⟩ := ite_some hf
          refine rs_getI i_X7_copy_61 (by decide) (by decide) c18 ?_
          by_cases c19 : (gI o3.2 a15 1) = (gI o3.2 a17 1)
          · replace hf := (if_pos c19).symm.trans hf
            refine rs_icT i_X7_copy_64 (ct_eq c19) (tg := 70) (by decide) ?_
            refine rs_aload_n i_X7_copy_70 rfl ?_
            refine rs_getR i_X7_copy_71 (by decide) (by decide) c5 e6 ?_
            refine rs_iload_n i_X7_copy_74 rfl ?_
            obtain ⟨a20, e20, hf⟩ := bind_some hf
            refine rs_aald i_X7_copy_75 c7 e20 ?_
            refine rs_iload_n i_X7_copy_76 rfl ?_
            refine rs_iload i_X7_copy_77 rfl ?_
            obtain ⟨c22, hf⟩ := ite_some hf
            obtain ⟨o21, e21, hf⟩ := bind_some hf
            refine rs_inV i_X7_copy_79 m_X4_has rfl (As := [.int v2, .int v5]) (rest := []) rfl rfl (Nat.le_of_ble_eq_true rfl) c22 (c_X4_has (by omega) e21) (st' := [.int o21.1]) rfl ?_
            by_cases c23 : o21.1 = 0
            · replace hf := (if_pos c23).symm.trans hf
              refine rs_ifT i_X7_copy_82 (ct_eq c23) (tg := 101) (by decide) ?_
              refine rs_bipush i_X7_copy_101 (v := (-12)) (by decide) ?_
              have hf := Option.some.inj hf
              subst hf
              exact rs_iret i_X7_copy_103 m_X7_copy rfl
            · replace hf := (if_neg c23).symm.trans hf
              refine rs_ifF i_X7_copy_82 (cf_eq c23) ?_
              refine rs_aload_n i_X7_copy_85 rfl ?_
              obtain ⟨c24, hf⟩ := ite_some hf
              obtain ⟨a25, e25, hf⟩ := bind_some hf
              refine rs_getR i_X7_copy_86 (by decide) (by decide) c24 e25 ?_
              refine rs_iload_n i_X7_copy_89 rfl ?_
              obtain ⟨c26, hf⟩ := ite_some hf
              obtain ⟨a27, e27, hf⟩ := bind_some hf
              refine rs_aald i_X7_copy_90 c26 e27 ?_
              refine rs_iload i_X7_copy_91 rfl ?_
              refine rs_iload i_X7_copy_93 rfl ?_
              obtain ⟨c29, hf⟩ := ite_some hf
              obtain ⟨o28, e28, hf⟩ := bind_some hf
              refine rs_inV i_X7_copy_95 m_X4_has rfl (As := [.int v4, .int v5]) (rest := []) rfl rfl (Nat.le_of_ble_eq_true rfl) c29 (c_X4_has (by omega) e28) (st' := [.int o28.1]) rfl ?_
              by_cases c30 : o28.1 ≠ 0
              · replace hf := (if_pos c30).symm.trans hf
                refine rs_ifT i_X7_copy_98 (ct_ne c30) (tg := 104) (by decide) ?_
                refine rs_aload_n i_X7_copy_104 rfl ?_
                obtain ⟨c31, hf⟩ := ite_some hf
                obtain ⟨a32, e32, hf⟩ := bind_some hf
                refine rs_getR i_X7_copy_105 (by decide) (by decide) c31 e32 ?_
                refine rs_iload_n i_X7_copy_108 rfl ?_
                obtain ⟨c33, hf⟩ := ite_some hf
                obtain ⟨a34, e34, hf⟩ := bind_some hf
                refine rs_aald i_X7_copy_109 c33 e34 ?_
                obtain ⟨c35, hf⟩ := ite_some hf
                obtain ⟨a36, e36, hf⟩ := bind_some hf
                refine rs_getR i_X7_copy_110 (by decide) (by decide) c35 e36 ?_
                refine rs_iload_n i_X7_copy_113 rfl ?_
                refine rs_aload_n i_X7_copy_114 rfl ?_
                refine rs_getR i_X7_copy_115 (by decide) (by decide) c31 e32 ?_
                refine rs_iload_n i_X7_copy_118 rfl ?_
                obtain ⟨c37, hf⟩ := ite_some hf
                obtain ⟨a38, e38, hf⟩ := bind_some hf
                refine rs_aald i_X7_copy_119 c37 e38 ?_
                obtain ⟨c39, hf⟩ := ite_some hf
                obtain ⟨a40, e40, hf⟩ := bind_some hf
                refine rs_getR i_X7_copy_120 (by decide) (by decide) c39 e40 ?_
                refine rs_iload i_X7_copy_123 rfl ?_
                refine rs_iload i_X7_copy_125 rfl ?_
                obtain ⟨c41, hf⟩ := ite_some hf
                refine rs_acp i_X7_copy_127 c41 (Nat.le_of_ble_eq_true rfl) ?_
                refine rs_iload i_X7_copy_130 rfl ?_
                have hf := Option.some.inj hf
                subst hf
                exact rs_iret i_X7_copy_132 m_X7_copy rfl
              · replace hf := (if_neg c30).symm.trans hf
                refine rs_ifF i_X7_copy_98 (cf_ne c30) ?_
                refine rs_bipush i_X7_copy_101 (v := (-12)) (by decide) ?_
                have hf := Option.some.inj hf
                subst hf
                exact rs_iret i_X7_copy_103 m_X7_copy rfl
          · replace hf := (if_neg c19).symm.trans hf
            refine rs_icF i_X7_copy_64 (cf_eq c19) ?_
            refine rs_bipush i_X7_copy_67 (v := (-13)) (by decide) ?_
            have hf := Option.some.inj hf
            subst hf
            exact rs_iret i_X7_copy_69 m_X7_copy rfl
        · replace hf := (if_neg c14).symm.trans hf
          refine rs_icF i_X7_copy_40 (cf_ne c14) ?_
          refine rs_bipush i_X7_copy_43 (v := (-11)) (by decide) ?_
          have hf := Option.some.inj hf
          subst hf
          exact rs_iret i_X7_copy_45 m_X7_copy rfl
    · replace hf := (if_neg c4).symm.trans hf
      refine rs_ifF i_X7_copy_11 (cf_ne c4) ?_
      refine rs_bipush i_X7_copy_14 (v := (-2)) (by decide) ?_
      have hf := Option.some.inj hf
      subst hf
      exact rs_iret i_X7_copy_16 m_X7_copy rfl
def f_X7_copy (v0 : Nat) (v1 : Int32) (v2 : Int32) (v3 : Int32) (v4 : Int32) (v5 : Int32) (h : Hp) : Option (Int32 × Hp) := f_X7_copy_0 v0 v1 v2 v3 v4 v5 h
theorem c_X7_copy {X : Nat → Int32} {d : Nat} (hd : 2 ≤ d) {v0 : Nat} {v1 : Int32} {v2 : Int32} {v3 : Int32} {v4 : Int32} {v5 : Int32} {h : Hp} {o : (Int32 × Hp)} (hf : f_X7_copy v0 v1 v2 v3 v4 v5 h = some o) : Calls X d 107 [.ref v0, .int v1, .int v2, .int v3, .int v4, .int v5] h (some (.int o.1), o.2) := by
  obtain ⟨d, rfl⟩ : ∃ z, d = z + 1 := ⟨d - 1, by omega⟩
  exact ⟨_, rfl, r_X7_copy_0 hd hf⟩
theorem i_X7_stepsBy_0 : fetch 108 0 = some (.iload_n 1, 1, 0, 0, 0, 0) := by decide +kernel
theorem i_X7_stepsBy_1 : fetch 108 1 = some (.invokestatic 250, 4, 114, 0, 0, 791) := by decide +kernel
theorem i_X7_stepsBy_4 : fetch 108 4 = some (.ifCond .eq 23, 7, 0, 0, 0, 0) := by decide +kernel
theorem i_X7_stepsBy_7 : fetch 108 7 = some (.iload_n 2, 8, 0, 0, 0, 0) := by decide +kernel
theorem i_X7_stepsBy_8 : fetch 108 8 = some (.iconst 0, 9, 0, 0, 0, 0) := by decide +kernel
theorem i_X7_stepsBy_9 : fetch 108 9 = some (.iconst 2, 10, 0, 0, 0, 0) := by decide +kernel
theorem i_X7_stepsBy_10 : fetch 108 10 = some (.invokestatic 112, 13, 110, 0, 0, 534) := by decide +kernel
theorem i_X7_stepsBy_13 : fetch 108 13 = some (.ifCond .eq 14, 16, 0, 0, 0, 0) := by decide +kernel
theorem i_X7_stepsBy_16 : fetch 108 16 = some (.iload 4, 18, 0, 0, 0, 0) := by decide +kernel
theorem i_X7_stepsBy_18 : fetch 108 18 = some (.iconst 0, 19, 0, 0, 0, 0) := by decide +kernel
theorem i_X7_stepsBy_19 : fetch 108 19 = some (.bipush 12, 21, 0, 0, 0, 0) := by decide +kernel
theorem i_X7_stepsBy_21 : fetch 108 21 = some (.invokestatic 112, 24, 110, 0, 0, 534) := by decide +kernel
theorem i_X7_stepsBy_24 : fetch 108 24 = some (.ifCond .ne 6, 27, 0, 0, 0, 0) := by decide +kernel
theorem i_X7_stepsBy_27 : fetch 108 27 = some (.bipush (-2), 29, 0, 0, 0, 0) := by decide +kernel
theorem i_X7_stepsBy_29 : fetch 108 29 = some (.ireturn, 30, 0, 0, 0, 0) := by decide +kernel
theorem i_X7_stepsBy_30 : fetch 108 30 = some (.aload_n 0, 31, 0, 0, 0, 0) := by decide +kernel
theorem i_X7_stepsBy_31 : fetch 108 31 = some (.getfield 43, 34, 7, 9, 0, 492) := by decide +kernel
theorem i_X7_stepsBy_34 : fetch 108 34 = some (.iload_n 1, 35, 0, 0, 0, 0) := by decide +kernel
theorem i_X7_stepsBy_35 : fetch 108 35 = some (.aaload, 36, 0, 0, 0, 0) := by decide +kernel
theorem i_X7_stepsBy_36 : fetch 108 36 = some (.getfield 302, 39, 4, 1, 0, 192) := by decide +kernel
theorem i_X7_stepsBy_39 : fetch 108 39 = some (.iconst (-1), 40, 0, 0, 0, 0) := by decide +kernel
theorem i_X7_stepsBy_40 : fetch 108 40 = some (.if_icmp .ne 6, 43, 0, 0, 0, 0) := by decide +kernel
theorem i_X7_stepsBy_43 : fetch 108 43 = some (.bipush (-11), 45, 0, 0, 0, 0) := by decide +kernel
theorem i_X7_stepsBy_45 : fetch 108 45 = some (.ireturn, 46, 0, 0, 0, 0) := by decide +kernel
theorem i_X7_stepsBy_46 : fetch 108 46 = some (.aload_n 0, 47, 0, 0, 0, 0) := by decide +kernel
theorem i_X7_stepsBy_47 : fetch 108 47 = some (.getfield 43, 50, 7, 9, 0, 492) := by decide +kernel
theorem i_X7_stepsBy_50 : fetch 108 50 = some (.iload_n 1, 51, 0, 0, 0, 0) := by decide +kernel
theorem i_X7_stepsBy_51 : fetch 108 51 = some (.aaload, 52, 0, 0, 0, 0) := by decide +kernel
theorem i_X7_stepsBy_52 : fetch 108 52 = some (.getfield 302, 55, 4, 1, 0, 192) := by decide +kernel
theorem i_X7_stepsBy_55 : fetch 108 55 = some (.iload_n 2, 56, 0, 0, 0, 0) := by decide +kernel
theorem i_X7_stepsBy_56 : fetch 108 56 = some (.if_icmp .eq 6, 59, 0, 0, 0, 0) := by decide +kernel
theorem i_X7_stepsBy_59 : fetch 108 59 = some (.bipush (-13), 61, 0, 0, 0, 0) := by decide +kernel
theorem i_X7_stepsBy_61 : fetch 108 61 = some (.ireturn, 62, 0, 0, 0, 0) := by decide +kernel
theorem i_X7_stepsBy_62 : fetch 108 62 = some (.iconst 0, 63, 0, 0, 0, 0) := by decide +kernel
theorem i_X7_stepsBy_63 : fetch 108 63 = some (.istore 5, 65, 0, 0, 0, 0) := by decide +kernel
theorem i_X7_stepsBy_65 : fetch 108 65 = some (.iload_n 3, 66, 0, 0, 0, 0) := by decide +kernel
theorem i_X7_stepsBy_66 : fetch 108 66 = some (.istore 6, 68, 0, 0, 0, 0) := by decide +kernel
theorem i_X7_stepsBy_68 : fetch 108 68 = some (.iconst 0, 69, 0, 0, 0, 0) := by decide +kernel
theorem i_X7_stepsBy_69 : fetch 108 69 = some (.istore 7, 71, 0, 0, 0, 0) := by decide +kernel
theorem i_X7_stepsBy_71 : fetch 108 71 = some (.iload 7, 73, 0, 0, 0, 0) := by decide +kernel
theorem i_X7_stepsBy_73 : fetch 108 73 = some (.iload 4, 75, 0, 0, 0, 0) := by decide +kernel
theorem i_X7_stepsBy_75 : fetch 108 75 = some (.if_icmp .ge 70, 78, 0, 0, 0, 0) := by decide +kernel
theorem i_X7_stepsBy_78 : fetch 108 78 = some (.aload_n 0, 79, 0, 0, 0, 0) := by decide +kernel
theorem i_X7_stepsBy_79 : fetch 108 79 = some (.getfield 43, 82, 7, 9, 0, 492) := by decide +kernel
theorem i_X7_stepsBy_82 : fetch 108 82 = some (.iload_n 1, 83, 0, 0, 0, 0) := by decide +kernel
theorem i_X7_stepsBy_83 : fetch 108 83 = some (.aaload, 84, 0, 0, 0, 0) := by decide +kernel
theorem i_X7_stepsBy_84 : fetch 108 84 = some (.iload 6, 86, 0, 0, 0, 0) := by decide +kernel
theorem i_X7_stepsBy_86 : fetch 108 86 = some (.iconst 3, 87, 0, 0, 0, 0) := by decide +kernel
theorem i_X7_stepsBy_87 : fetch 108 87 = some (.invokevirtual 305, 90, 52, 0, 0, 934) := by decide +kernel
theorem i_X7_stepsBy_90 : fetch 108 90 = some (.ifCond .ne 6, 93, 0, 0, 0, 0) := by decide +kernel
theorem i_X7_stepsBy_93 : fetch 108 93 = some (.bipush (-12), 95, 0, 0, 0, 0) := by decide +kernel
theorem i_X7_stepsBy_95 : fetch 108 95 = some (.ireturn, 96, 0, 0, 0, 0) := by decide +kernel
theorem i_X7_stepsBy_96 : fetch 108 96 = some (.aload_n 0, 97, 0, 0, 0, 0) := by decide +kernel
theorem i_X7_stepsBy_97 : fetch 108 97 = some (.getfield 43, 100, 7, 9, 0, 492) := by decide +kernel
theorem i_X7_stepsBy_100 : fetch 108 100 = some (.iload_n 1, 101, 0, 0, 0, 0) := by decide +kernel
theorem i_X7_stepsBy_101 : fetch 108 101 = some (.aaload, 102, 0, 0, 0, 0) := by decide +kernel
theorem i_X7_stepsBy_102 : fetch 108 102 = some (.getfield 308, 105, 4, 0, 0, 190) := by decide +kernel
theorem i_X7_stepsBy_105 : fetch 108 105 = some (.astore 8, 107, 0, 0, 0, 0) := by decide +kernel
theorem i_X7_stepsBy_107 : fetch 108 107 = some (.aload_n 0, 108, 0, 0, 0, 0) := by decide +kernel
theorem i_X7_stepsBy_108 : fetch 108 108 = some (.aload 8, 110, 0, 0, 0, 0) := by decide +kernel
theorem i_X7_stepsBy_110 : fetch 108 110 = some (.iload 6, 112, 0, 0, 0, 0) := by decide +kernel
theorem i_X7_stepsBy_112 : fetch 108 112 = some (.iaload, 113, 0, 0, 0, 0) := by decide +kernel
theorem i_X7_stepsBy_113 : fetch 108 113 = some (.aload 8, 115, 0, 0, 0, 0) := by decide +kernel
theorem i_X7_stepsBy_115 : fetch 108 115 = some (.iload 6, 117, 0, 0, 0, 0) := by decide +kernel
theorem i_X7_stepsBy_117 : fetch 108 117 = some (.iconst 1, 118, 0, 0, 0, 0) := by decide +kernel
theorem i_X7_stepsBy_118 : fetch 108 118 = some (.iadd, 119, 0, 0, 0, 0) := by decide +kernel
theorem i_X7_stepsBy_119 : fetch 108 119 = some (.iaload, 120, 0, 0, 0, 0) := by decide +kernel
theorem i_X7_stepsBy_120 : fetch 108 120 = some (.aload 8, 122, 0, 0, 0, 0) := by decide +kernel
theorem i_X7_stepsBy_122 : fetch 108 122 = some (.iload 6, 124, 0, 0, 0, 0) := by decide +kernel
theorem i_X7_stepsBy_124 : fetch 108 124 = some (.iconst 2, 125, 0, 0, 0, 0) := by decide +kernel
theorem i_X7_stepsBy_125 : fetch 108 125 = some (.iadd, 126, 0, 0, 0, 0) := by decide +kernel
theorem i_X7_stepsBy_126 : fetch 108 126 = some (.iaload, 127, 0, 0, 0, 0) := by decide +kernel
theorem i_X7_stepsBy_127 : fetch 108 127 = some (.invokevirtual 317, 130, 73, 0, 0, 943) := by decide +kernel
theorem i_X7_stepsBy_130 : fetch 108 130 = some (.ifCond .lt 6, 133, 0, 0, 0, 0) := by decide +kernel
theorem i_X7_stepsBy_133 : fetch 108 133 = some (.iinc 5 1, 136, 0, 0, 0, 0) := by decide +kernel
theorem i_X7_stepsBy_136 : fetch 108 136 = some (.iinc 6 3, 139, 0, 0, 0, 0) := by decide +kernel
theorem i_X7_stepsBy_139 : fetch 108 139 = some (.iinc 7 1, 142, 0, 0, 0, 0) := by decide +kernel
theorem i_X7_stepsBy_142 : fetch 108 142 = some (.goto (-71), 145, 0, 0, 0, 0) := by decide +kernel
theorem i_X7_stepsBy_145 : fetch 108 145 = some (.iload 5, 147, 0, 0, 0, 0) := by decide +kernel
theorem i_X7_stepsBy_147 : fetch 108 147 = some (.ireturn, 148, 0, 0, 0, 0) := by decide +kernel
def f_X7_stepsBy_136 (n : Nat) (K71 : Nat → Int32 → Int32 → Int32 → Int32 → Int32 → Hp → Option (Int32 × Hp)) (v0 : Nat) (v1 : Int32) (v4 : Int32) (v5 : Int32) (v6 : Int32) (v7 : Int32) (h : Hp) : Option (Int32 × Hp) :=
  K71 v0 v1 v4 v5 (v6 + 3) (v7 + 1) h
set_option maxRecDepth 100000 in
set_option maxHeartbeats 4000000 in
theorem r_X7_stepsBy_136 {X : Nat → Int32} {d : Nat} (hd : 2 ≤ (d + 1)) {n : Nat} {K71 : Nat → Int32 → Int32 → Int32 → Int32 → Int32 → Hp → Option (Int32 × Hp)} (HK71 : ∀ (v0 : Nat) (v1 : Int32) (v4 : Int32) (v5 : Int32) (v6 : Int32) (v7 : Int32) (d2 : Int32) (d3 : Int32) (w8 : Option Value) (h : Hp) (o : (Int32 × Hp)), K71 v0 v1 v4 v5 v6 v7 h = some o → Run X (d + 1) 108 71 [some (.ref v0), some (.int v1), some (.int d2), some (.int d3), some (.int v4), some (.int v5), some (.int v6), some (.int v7), w8] [] h (some (.int o.1), o.2)) {v0 : Nat} {v1 : Int32} {v4 : Int32} {v5 : Int32} {v6 : Int32} {v7 : Int32} {d2 : Int32} {d3 : Int32} {d8 : Nat} {h : Hp} {o : (Int32 × Hp)} (hf : f_X7_stepsBy_136 n K71 v0 v1 v4 v5 v6 v7 h = some o) : Run X (d + 1) 108 136 [some (.ref v0), some (.int v1), some (.int d2), some (.int d3), some (.int v4), some (.int v5), some (.int v6), some (.int v7), some (.ref d8)] [] h (some (.int o.1), o.2) := by
  unfold f_X7_stepsBy_136 at hf
  refine rs_iinc i_X7_stepsBy_136 rfl (v := v6 + 3) rfl (Nat.le_of_ble_eq_true rfl) (lv' := [some (.ref v0), some (.int v1), some (.int d2), some (.int d3), some (.int v4), some (.int v5), some (.int (v6 + 3)), some (.int v7), some (.ref d8)]) rfl ?_
  refine rs_iinc i_X7_stepsBy_139 rfl (v := v7 + 1) rfl (Nat.le_of_ble_eq_true rfl) (lv' := [some (.ref v0), some (.int v1), some (.int d2), some (.int d3), some (.int v4), some (.int v5), some (.int (v6 + 3)), some (.int (v7 + 1)), some (.ref d8)]) rfl ?_
  refine rs_goto i_X7_stepsBy_142 (tg := 71) (by decide) ?_
  exact HK71 _ _ _ _ _ _ _ _ _ _ _ hf
def f_X7_stepsBy_71 (n : Nat) : Nat → Nat → Int32 → Int32 → Int32 → Int32 → Int32 → Hp → Option (Int32 × Hp)
  | 0, _, _, _, _, _, _, _ => none
  | m + 1, v0, v1, v4, v5, v6, v7, h =>
    if v4 ≤ v7 then
      some (v5, h)
    else
      if okO h v0 7 then
      (gR h v0 9).bind fun a3 =>
      if okR h a3 v1 then
      (gR h a3 (ix v1)).bind fun a5 =>
      if okO h a5 4 then
      (f_X4_has a5 v6 3 h).bind fun o6 =>
      if o6.1 ≠ 0 then
        if okO o6.2 v0 7 then
        (gR o6.2 v0 9).bind fun a10 =>
        if okR o6.2 a10 v1 then
        (gR o6.2 a10 (ix v1)).bind fun a12 =>
        if okO o6.2 a12 4 then
        (gR o6.2 a12 0).bind fun a14 =>
        if okI o6.2 a14 v6 then
        if okI o6.2 a14 (v6 + 1) then
        if okI o6.2 a14 (v6 + 2) then
        (f_X7_step v0 (gI o6.2 a14 (ix v6)) (gI o6.2 a14 (ix (v6 + 1))) (gI o6.2 a14 (ix (v6 + 2))) o6.2).bind fun o18 =>
        if o18.1 < 0 then
          f_X7_stepsBy_136 n (f_X7_stepsBy_71 n m) v0 v1 v4 v5 v6 v7 o18.2
        else
          f_X7_stepsBy_136 n (f_X7_stepsBy_71 n m) v0 v1 v4 (v5 + 1) v6 v7 o18.2
        else none
        else none
        else none
        else none
        else none
        else none
      else
        some ((-12), o6.2)
      else none
      else none
      else none
set_option maxRecDepth 100000 in
set_option maxHeartbeats 4000000 in
theorem r_X7_stepsBy_71 {X : Nat → Int32} {d : Nat} (hd : 2 ≤ (d + 1)) {n : Nat} : ∀ (m : Nat) (v0 : Nat) (v1 : Int32) (v4 : Int32) (v5 : Int32) (v6 : Int32) (v7 : Int32) (d2 : Int32) (d3 : Int32) (w8 : Option Value) (h : Hp) (o : (Int32 × Hp)), f_X7_stepsBy_71 n m v0 v1 v4 v5 v6 v7 h = some o → Run X (d + 1) 108 71 [some (.ref v0), some (.int v1), some (.int d2), some (.int d3), some (.int v4), some (.int v5), some (.int v6), some (.int v7), w8] [] h (some (.int o.1), o.2) := by
  intro m
  induction m with
  | zero => intro v0 v1 v4 v5 v6 v7 d2 d3 w8 h o hf; cases hf
  | succ m ih =>
    intro v0 v1 v4 v5 v6 v7 d2 d3 w8 h o hf
    rw [f_X7_stepsBy_71] at hf
    refine rs_iload i_X7_stepsBy_71 rfl ?_
    refine rs_iload i_X7_stepsBy_73 rfl ?_
    by_cases c1 : v4 ≤ v7
    · replace hf := (if_pos c1).symm.trans hf
      refine rs_icT i_X7_stepsBy_75 (ct_ge c1) (tg := 145) (by decide) ?_
      refine rs_iload i_X7_stepsBy_145 rfl ?_
      have hf := Option.some.inj hf
      subst hf
      exact rs_iret i_X7_stepsBy_147 m_X7_stepsBy rfl
    · replace hf := (if_neg c1).symm.trans hf
      refine rs_icF i_X7_stepsBy_75 (cf_ge c1) ?_
      refine rs_aload_n i_X7_stepsBy_78 rfl ?_
      obtain ⟨c2, hf⟩ := ite_some hf
      obtain ⟨a3, e3, hf⟩ := bind_some hf
      refine rs_getR i_X7_stepsBy_79 (by decide) (by decide) c2 e3 ?_
      refine rs_iload_n i_X7_stepsBy_82 rfl ?_
      obtain ⟨c4, hf⟩ := ite_some hf
      obtain ⟨a5, e5, hf⟩ := bind_some hf
      refine rs_aald i_X7_stepsBy_83 c4 e5 ?_
      refine rs_iload i_X7_stepsBy_84 rfl ?_
      refine rs_iconst i_X7_stepsBy_86 (v := 3) (by decide) ?_
      obtain ⟨c7, hf⟩ := ite_some hf
      obtain ⟨o6, e6, hf⟩ := bind_some hf
      refine rs_inV i_X7_stepsBy_87 m_X4_has rfl (As := [.int v6, .int 3]) (rest := []) rfl rfl (Nat.le_of_ble_eq_true rfl) c7 (c_X4_has (by omega) e6) (st' := [.int o6.1]) rfl ?_
      by_cases c8 : o6.1 ≠ 0
      · replace hf := (if_pos c8).symm.trans hf
        refine rs_ifT i_X7_stepsBy_90 (ct_ne c8) (tg := 96) (by decide) ?_
        refine rs_aload_n i_X7_stepsBy_96 rfl ?_
        obtain ⟨c9, hf⟩ := ite_some hf
        obtain ⟨a10, e10, hf⟩ := bind_some hf
        refine rs_getR i_X7_stepsBy_97 (by decide) (by decide) c9 e10 ?_
        refine rs_iload_n i_X7_stepsBy_100 rfl ?_
        obtain ⟨c11, hf⟩ := ite_some hf
        obtain ⟨a12, e12, hf⟩ := bind_some hf
        refine rs_aald i_X7_stepsBy_101 c11 e12 ?_
        obtain ⟨c13, hf⟩ := ite_some hf
        obtain ⟨a14, e14, hf⟩ := bind_some hf
        refine rs_getR i_X7_stepsBy_102 (by decide) (by decide) c13 e14 ?_
        refine rs_astore i_X7_stepsBy_105 (Nat.le_of_ble_eq_true rfl) (lv' := [some (.ref v0), some (.int v1), some (.int d2), some (.int d3), some (.int v4), some (.int v5), some (.int v6), some (.int v7), some (.ref a14)]) rfl ?_
        refine rs_aload_n i_X7_stepsBy_107 rfl ?_
        refine rs_aload i_X7_stepsBy_108 rfl ?_
        refine rs_iload i_X7_stepsBy_110 rfl ?_
        obtain ⟨c15, hf⟩ := ite_some hf
        refine rs_iald i_X7_stepsBy_112 c15 ?_
        refine rs_aload i_X7_stepsBy_113 rfl ?_
        refine rs_iload i_X7_stepsBy_115 rfl ?_
        refine rs_iconst i_X7_stepsBy_117 (v := 1) (by decide) ?_
        refine rs_iadd i_X7_stepsBy_118 ?_
        obtain ⟨c16, hf⟩ := ite_some hf
        refine rs_iald i_X7_stepsBy_119 c16 ?_
        refine rs_aload i_X7_stepsBy_120 rfl ?_
        refine rs_iload i_X7_stepsBy_122 rfl ?_
        refine rs_iconst i_X7_stepsBy_124 (v := 2) (by decide) ?_
        refine rs_iadd i_X7_stepsBy_125 ?_
        obtain ⟨c17, hf⟩ := ite_some hf
        refine rs_iald i_X7_stepsBy_126 c17 ?_
        obtain ⟨o18, e18, hf⟩ := bind_some hf
        refine rs_inV i_X7_stepsBy_127 m_X7_step rfl (As := [.int (gI o6.2 a14 (ix v6)), .int (gI o6.2 a14 (ix (v6 + 1))), .int (gI o6.2 a14 (ix (v6 + 2)))]) (rest := []) rfl rfl (Nat.le_of_ble_eq_true rfl) c9 (c_X7_step (by omega) e18) (st' := [.int o18.1]) rfl ?_
        by_cases c19 : o18.1 < 0
        · replace hf := (if_pos c19).symm.trans hf
          refine rs_ifT i_X7_stepsBy_130 (ct_lt c19) (tg := 136) (by decide) ?_
          exact r_X7_stepsBy_136 hd ih hf
        · replace hf := (if_neg c19).symm.trans hf
          refine rs_ifF i_X7_stepsBy_130 (cf_lt c19) ?_
          refine rs_iinc i_X7_stepsBy_133 rfl (v := v5 + 1) rfl (Nat.le_of_ble_eq_true rfl) (lv' := [some (.ref v0), some (.int v1), some (.int d2), some (.int d3), some (.int v4), some (.int (v5 + 1)), some (.int v6), some (.int v7), some (.ref a14)]) rfl ?_
          exact r_X7_stepsBy_136 hd ih hf
      · replace hf := (if_neg c8).symm.trans hf
        refine rs_ifF i_X7_stepsBy_90 (cf_ne c8) ?_
        refine rs_bipush i_X7_stepsBy_93 (v := (-12)) (by decide) ?_
        have hf := Option.some.inj hf
        subst hf
        exact rs_iret i_X7_stepsBy_95 m_X7_stepsBy rfl
def f_X7_stepsBy_0 (n : Nat) (v0 : Nat) (v1 : Int32) (v2 : Int32) (v3 : Int32) (v4 : Int32) (h : Hp) : Option (Int32 × Hp) :=
  (f_X7_isSheet v1 h).bind fun o1 =>
  if o1.1 = 0 then
    some ((-2), o1.2)
  else
    (f_X7_within v2 0 2 o1.2).bind fun o3 =>
    if o3.1 = 0 then
      some ((-2), o3.2)
    else
      (f_X7_within v4 0 12 o3.2).bind fun o5 =>
      if o5.1 ≠ 0 then
        if okO o5.2 v0 7 then
        (gR o5.2 v0 9).bind fun a8 =>
        if okR o5.2 a8 v1 then
        (gR o5.2 a8 (ix v1)).bind fun a10 =>
        if okO o5.2 a10 4 then
        if (gI o5.2 a10 1) ≠ (-1) then
          (gR o5.2 a8 (ix v1)).bind fun a13 =>
          if okO o5.2 a13 4 then
          if (gI o5.2 a13 1) = v2 then
            f_X7_stepsBy_71 n n v0 v1 v4 0 v3 0 o5.2
          else
            some ((-13), o5.2)
          else none
        else
          some ((-11), o5.2)
        else none
        else none
        else none
      else
        some ((-2), o5.2)
set_option maxRecDepth 100000 in
set_option maxHeartbeats 4000000 in
theorem r_X7_stepsBy_0 {X : Nat → Int32} {d : Nat} (hd : 2 ≤ (d + 1)) {n : Nat} {v0 : Nat} {v1 : Int32} {v2 : Int32} {v3 : Int32} {v4 : Int32} {h : Hp} {o : (Int32 × Hp)} (hf : f_X7_stepsBy_0 n v0 v1 v2 v3 v4 h = some o) : Run X (d + 1) 108 0 [some (.ref v0), some (.int v1), some (.int v2), some (.int v3), some (.int v4), none, none, none, none] [] h (some (.int o.1), o.2) := by
  unfold f_X7_stepsBy_0 at hf
  refine rs_iload_n i_X7_stepsBy_0 rfl ?_
  obtain ⟨o1, e1, hf⟩ := bind_some hf
  refine rs_inS i_X7_stepsBy_1 (by decide) m_X7_isSheet rfl (As := [.int v1]) (rest := []) rfl rfl (Nat.le_of_ble_eq_true rfl) (c_X7_isSheet (by omega) e1) (st' := [.int o1.1]) rfl ?_
  by_cases c2 : o1.1 = 0
  · replace hf := (if_pos c2).symm.trans hf
    refine rs_ifT i_X7_stepsBy_4 (ct_eq c2) (tg := 27) (by decide) ?_
    refine rs_bipush i_X7_stepsBy_27 (v := (-2)) (by decide) ?_
    have hf := Option.some.inj hf
    subst hf
    exact rs_iret i_X7_stepsBy_29 m_X7_stepsBy rfl
  · replace hf := (if_neg c2).symm.trans hf
    refine rs_ifF i_X7_stepsBy_4 (cf_eq c2) ?_
    refine rs_iload_n i_X7_stepsBy_7 rfl ?_
    refine rs_iconst i_X7_stepsBy_8 (v := 0) (by decide) ?_
    refine rs_iconst i_X7_stepsBy_9 (v := 2) (by decide) ?_
    obtain ⟨o3, e3, hf⟩ := bind_some hf
    refine rs_inS i_X7_stepsBy_10 (by decide) m_X7_within rfl (As := [.int v2, .int 0, .int 2]) (rest := []) rfl rfl (Nat.le_of_ble_eq_true rfl) (c_X7_within (by omega) e3) (st' := [.int o3.1]) rfl ?_
    by_cases c4 : o3.1 = 0
    · replace hf := (if_pos c4).symm.trans hf
      refine rs_ifT i_X7_stepsBy_13 (ct_eq c4) (tg := 27) (by decide) ?_
      refine rs_bipush i_X7_stepsBy_27 (v := (-2)) (by decide) ?_
      have hf := Option.some.inj hf
      subst hf
      exact rs_iret i_X7_stepsBy_29 m_X7_stepsBy rfl
    · replace hf := (if_neg c4).symm.trans hf
      refine rs_ifF i_X7_stepsBy_13 (cf_eq c4) ?_
      refine rs_iload i_X7_stepsBy_16 rfl ?_
      refine rs_iconst i_X7_stepsBy_18 (v := 0) (by decide) ?_
      refine rs_bipush i_X7_stepsBy_19 (v := 12) (by decide) ?_
      obtain ⟨o5, e5, hf⟩ := bind_some hf
      refine rs_inS i_X7_stepsBy_21 (by decide) m_X7_within rfl (As := [.int v4, .int 0, .int 12]) (rest := []) rfl rfl (Nat.le_of_ble_eq_true rfl) (c_X7_within (by omega) e5) (st' := [.int o5.1]) rfl ?_
      by_cases c6 : o5.1 ≠ 0
      · replace hf := (if_pos c6).symm.trans hf
        refine rs_ifT i_X7_stepsBy_24 (ct_ne c6) (tg := 30) (by decide) ?_
        refine rs_aload_n i_X7_stepsBy_30 rfl ?_
        obtain ⟨c7, hf⟩ := ite_some hf
        obtain ⟨a8, e8, hf⟩ := bind_some hf
        refine rs_getR i_X7_stepsBy_31 (by decide) (by decide) c7 e8 ?_
        refine rs_iload_n i_X7_stepsBy_34 rfl ?_
        obtain ⟨c9, hf⟩ := ite_some hf
        obtain ⟨a10, e10, hf⟩ := bind_some hf
        refine rs_aald i_X7_stepsBy_35 c9 e10 ?_
        obtain ⟨c11, hf⟩ := ite_some hf
        refine rs_getI i_X7_stepsBy_36 (by decide) (by decide) c11 ?_
        refine rs_iconst i_X7_stepsBy_39 (v := (-1)) (by decide) ?_
        by_cases c12 : (gI o5.2 a10 1) ≠ (-1)
        · replace hf := (if_pos c12).symm.trans hf
          refine rs_icT i_X7_stepsBy_40 (ct_ne c12) (tg := 46) (by decide) ?_
          refine rs_aload_n i_X7_stepsBy_46 rfl ?_
          refine rs_getR i_X7_stepsBy_47 (by decide) (by decide) c7 e8 ?_
          refine rs_iload_n i_X7_stepsBy_50 rfl ?_
          obtain ⟨a13, e13, hf⟩ := bind_some hf
          refine rs_aald i_X7_stepsBy_51 c9 e13 ?_
          obtain ⟨c14, hf⟩ := ite_some hf
          refine rs_getI i_X7_stepsBy_52 (by decide) (by decide) c14 ?_
          refine rs_iload_n i_X7_stepsBy_55 rfl ?_
          by_cases c15 : (gI o5.2 a13 1) = v2
          · replace hf := (if_pos c15).symm.trans hf
            refine rs_icT i_X7_stepsBy_56 (ct_eq c15) (tg := 62) (by decide) ?_
            refine rs_iconst i_X7_stepsBy_62 (v := 0) (by decide) ?_
            refine rs_istore i_X7_stepsBy_63 (Nat.le_of_ble_eq_true rfl) (lv' := [some (.ref v0), some (.int v1), some (.int v2), some (.int v3), some (.int v4), some (.int 0), none, none, none]) rfl ?_
            refine rs_iload_n i_X7_stepsBy_65 rfl ?_
            refine rs_istore i_X7_stepsBy_66 (Nat.le_of_ble_eq_true rfl) (lv' := [some (.ref v0), some (.int v1), some (.int v2), some (.int v3), some (.int v4), some (.int 0), some (.int v3), none, none]) rfl ?_
            refine rs_iconst i_X7_stepsBy_68 (v := 0) (by decide) ?_
            refine rs_istore i_X7_stepsBy_69 (Nat.le_of_ble_eq_true rfl) (lv' := [some (.ref v0), some (.int v1), some (.int v2), some (.int v3), some (.int v4), some (.int 0), some (.int v3), some (.int 0), none]) rfl ?_
            exact r_X7_stepsBy_71 hd _ _ _ _ _ _ _ _ _ _ _ _ hf
          · replace hf := (if_neg c15).symm.trans hf
            refine rs_icF i_X7_stepsBy_56 (cf_eq c15) ?_
            refine rs_bipush i_X7_stepsBy_59 (v := (-13)) (by decide) ?_
            have hf := Option.some.inj hf
            subst hf
            exact rs_iret i_X7_stepsBy_61 m_X7_stepsBy rfl
        · replace hf := (if_neg c12).symm.trans hf
          refine rs_icF i_X7_stepsBy_40 (cf_ne c12) ?_
          refine rs_bipush i_X7_stepsBy_43 (v := (-11)) (by decide) ?_
          have hf := Option.some.inj hf
          subst hf
          exact rs_iret i_X7_stepsBy_45 m_X7_stepsBy rfl
      · replace hf := (if_neg c6).symm.trans hf
        refine rs_ifF i_X7_stepsBy_24 (cf_ne c6) ?_
        refine rs_bipush i_X7_stepsBy_27 (v := (-2)) (by decide) ?_
        have hf := Option.some.inj hf
        subst hf
        exact rs_iret i_X7_stepsBy_29 m_X7_stepsBy rfl
def f_X7_stepsBy (n : Nat) (v0 : Nat) (v1 : Int32) (v2 : Int32) (v3 : Int32) (v4 : Int32) (h : Hp) : Option (Int32 × Hp) := f_X7_stepsBy_0 n v0 v1 v2 v3 v4 h
theorem c_X7_stepsBy {X : Nat → Int32} {d : Nat} (hd : 2 ≤ d) {n : Nat} {v0 : Nat} {v1 : Int32} {v2 : Int32} {v3 : Int32} {v4 : Int32} {h : Hp} {o : (Int32 × Hp)} (hf : f_X7_stepsBy n v0 v1 v2 v3 v4 h = some o) : Calls X d 108 [.ref v0, .int v1, .int v2, .int v3, .int v4] h (some (.int o.1), o.2) := by
  obtain ⟨d, rfl⟩ : ∃ z, d = z + 1 := ⟨d - 1, by omega⟩
  exact ⟨_, rfl, r_X7_stepsBy_0 hd hf⟩
