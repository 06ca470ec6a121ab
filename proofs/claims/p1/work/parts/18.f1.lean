noncomputable def f_X0_init_60 (n : Nat) (K46 : Nat → Int32 → Hp → Option Hp) (v0 : Nat) (v1 : Int32) (h : Hp) : Option Hp :=
  if okO h v0 0 then
  (gR h v0 1).bind fun a2 =>
  if okI h a2 v1 then
  K46 v0 (v1 + 1) (hsi h a2 (ix v1) 100)
  else none
  else none
set_option maxRecDepth 100000 in
set_option maxHeartbeats 4000000 in
theorem r_X0_init_60 {X : Nat → Int32} {d : Nat} (hd : 0 ≤ d) {n : Nat} {K46 : Nat → Int32 → Hp → Option Hp} (HK46 : ∀ (v0 : Nat) (v1 : Int32) (h : Hp) (o : Hp), K46 v0 v1 h = some o → Run X d 1 46 [some (.ref v0), some (.int v1)] [] h (none, o)) {v0 : Nat} {v1 : Int32} {h : Hp} {o : Hp} (hf : f_X0_init_60 n K46 v0 v1 h = some o) : Run X d 1 60 [some (.ref v0), some (.int v1)] [] h (none, o) := by
  unfold f_X0_init_60 at hf
  refine rs_aload_n i_X0_init_60 rfl ?_
  obtain ⟨c1, hf⟩ := ite_some hf
  obtain ⟨a2, e2, hf⟩ := bind_some hf
  refine rs_getR i_X0_init_61 (by decide) (by decide) c1 e2 ?_
  refine rs_iload_n i_X0_init_64 rfl ?_
  refine rs_bipush i_X0_init_65 (v := 100) (by decide) ?_
  obtain ⟨c3, hf⟩ := ite_some hf
  refine rs_iast i_X0_init_67 c3 ?_
  refine rs_iinc i_X0_init_68 rfl (v := v1 + 1) rfl (Nat.le_of_ble_eq_true rfl) (lv' := [some (.ref v0), some (.int (v1 + 1))]) rfl ?_
  refine rs_goto i_X0_init_71 (tg := 46) (by decide) ?_
  exact HK46 _ _ _ _ hf
noncomputable def f_X0_init_46 (n : Nat) : Nat → Nat → Int32 → Hp → Option Hp
  | 0, _, _, _ => none
  | m + 1, v0, v1, h =>
    if 12 ≤ v1 then
      some h
    else
      if okO h v0 0 then
      (gR h v0 0).bind fun a3 =>
      if okI h a3 v1 then
      f_X0_init_60 n (f_X0_init_46 n m) v0 v1 (hsi h a3 (ix v1) 60000)
      else none
      else none
set_option maxRecDepth 100000 in
set_option maxHeartbeats 4000000 in
theorem r_X0_init_46 {X : Nat → Int32} {d : Nat} (hd : 0 ≤ d) {n : Nat} : ∀ (m : Nat) (v0 : Nat) (v1 : Int32) (h : Hp) (o : Hp), f_X0_init_46 n m v0 v1 h = some o → Run X d 1 46 [some (.ref v0), some (.int v1)] [] h (none, o) := by
  intro m
  induction m with
  | zero => intro v0 v1 h o hf; cases hf
  | succ m ih =>
    intro v0 v1 h o hf
    rw [f_X0_init_46] at hf
    refine rs_iload_n i_X0_init_46 rfl ?_
    refine rs_bipush i_X0_init_47 (v := 12) (by decide) ?_
    by_cases c1 : 12 ≤ v1
    · replace hf := (if_pos c1).symm.trans hf
      refine rs_icT i_X0_init_49 (ct_ge c1) (tg := 74) (by decide) ?_
      have hf := Option.some.inj hf
      subst hf
      exact rs_vret i_X0_init_74 m_X0_init rfl
    · replace hf := (if_neg c1).symm.trans hf
      refine rs_icF i_X0_init_49 (cf_ge c1) ?_
      refine rs_aload_n i_X0_init_52 rfl ?_
      obtain ⟨c2, hf⟩ := ite_some hf
      obtain ⟨a3, e3, hf⟩ := bind_some hf
      refine rs_getR i_X0_init_53 (by decide) (by decide) c2 e3 ?_
      refine rs_iload_n i_X0_init_56 rfl ?_
      refine rs_ldc i_X0_init_57 (v := 60000) (by decide) ?_
      obtain ⟨c4, hf⟩ := ite_some hf
      refine rs_iast i_X0_init_59 c4 ?_
      exact r_X0_init_60 hd ih hf
noncomputable def f_X0_init_39 (n : Nat) (v0 : Nat) (h : Hp) : Option Hp :=
  if okO h v0 0 then
  f_X0_init_46 n n v0 0 (hsi h v0 3 0)
  else none
set_option maxRecDepth 100000 in
set_option maxHeartbeats 4000000 in
theorem r_X0_init_39 {X : Nat → Int32} {d : Nat} (hd : 0 ≤ d) {n : Nat} {v0 : Nat} {h : Hp} {o : Hp} (hf : f_X0_init_39 n v0 h = some o) : Run X d 1 39 [some (.ref v0), none] [] h (none, o) := by
  unfold f_X0_init_39 at hf
  refine rs_aload_n i_X0_init_39 rfl ?_
  refine rs_iconst i_X0_init_40 (v := 0) (by decide) ?_
  obtain ⟨c1, hf⟩ := ite_some hf
  refine rs_putI i_X0_init_41 (by decide) c1 ?_
  refine rs_iconst i_X0_init_44 (v := 0) (by decide) ?_
  refine rs_istore_n i_X0_init_45 (Nat.le_of_ble_eq_true rfl) (lv' := [some (.ref v0), some (.int 0)]) rfl ?_
  exact r_X0_init_46 hd _ _ _ _ _ hf
noncomputable def f_X0_init_36 (n : Nat) (v0 : Nat) (s0 : Nat) (s1 : Nat) (h : Hp) : Option Hp :=
  if okO h s0 0 then
  if 16 ≤ s1 then
  f_X0_init_39 n v0 (hsr h s0 2 (some s1))
  else none
  else none
set_option maxRecDepth 100000 in
set_option maxHeartbeats 4000000 in
theorem r_X0_init_36 {X : Nat → Int32} {d : Nat} (hd : 0 ≤ d) {n : Nat} {v0 : Nat} {s0 : Nat} {s1 : Nat} {h : Hp} {o : Hp} (hf : f_X0_init_36 n v0 s0 s1 h = some o) : Run X d 1 36 [some (.ref v0), none] [.ref s1, .ref s0] h (none, o) := by
  unfold f_X0_init_36 at hf
  obtain ⟨c1, hf⟩ := ite_some hf
  obtain ⟨c2, hf⟩ := ite_some hf
  refine rs_putR i_X0_init_36 (by decide) c2 c1 ?_
  exact r_X0_init_39 hd hf
noncomputable def f_X0_init_32 (n : Nat) (v0 : Nat) (s0 : Nat) (s1 : Nat) (h : Hp) : Option Hp :=
  if okI h s1 2 then
  f_X0_init_36 n v0 s0 s1 (hsi h s1 (ix 2) 5)
  else none
set_option maxRecDepth 100000 in
set_option maxHeartbeats 4000000 in
theorem r_X0_init_32 {X : Nat → Int32} {d : Nat} (hd : 0 ≤ d) {n : Nat} {v0 : Nat} {s0 : Nat} {s1 : Nat} {h : Hp} {o : Hp} (hf : f_X0_init_32 n v0 s0 s1 h = some o) : Run X d 1 32 [some (.ref v0), none] [.ref s1, .ref s0] h (none, o) := by
  unfold f_X0_init_32 at hf
  refine rs_dup i_X0_init_32 rfl ?_
  refine rs_iconst i_X0_init_33 (v := 2) (by decide) ?_
  refine rs_iconst i_X0_init_34 (v := 5) (by decide) ?_
  obtain ⟨c1, hf⟩ := ite_some hf
  refine rs_iast i_X0_init_35 c1 ?_
  exact r_X0_init_36 hd hf
noncomputable def f_X0_init_28 (n : Nat) (v0 : Nat) (s0 : Nat) (s1 : Nat) (h : Hp) : Option Hp :=
  if okI h s1 1 then
  f_X0_init_32 n v0 s0 s1 (hsi h s1 (ix 1) 2)
  else none
set_option maxRecDepth 100000 in
set_option maxHeartbeats 4000000 in
theorem r_X0_init_28 {X : Nat → Int32} {d : Nat} (hd : 0 ≤ d) {n : Nat} {v0 : Nat} {s0 : Nat} {s1 : Nat} {h : Hp} {o : Hp} (hf : f_X0_init_28 n v0 s0 s1 h = some o) : Run X d 1 28 [some (.ref v0), none] [.ref s1, .ref s0] h (none, o) := by
  unfold f_X0_init_28 at hf
  refine rs_dup i_X0_init_28 rfl ?_
  refine rs_iconst i_X0_init_29 (v := 1) (by decide) ?_
  refine rs_iconst i_X0_init_30 (v := 2) (by decide) ?_
  obtain ⟨c1, hf⟩ := ite_some hf
  refine rs_iast i_X0_init_31 c1 ?_
  exact r_X0_init_32 hd hf
noncomputable def f_X0_init_24 (n : Nat) (v0 : Nat) (s0 : Nat) (s1 : Nat) (h : Hp) : Option Hp :=
  if okI h s1 0 then
  f_X0_init_28 n v0 s0 s1 (hsi h s1 (ix 0) 5)
  else none
set_option maxRecDepth 100000 in
set_option maxHeartbeats 4000000 in
theorem r_X0_init_24 {X : Nat → Int32} {d : Nat} (hd : 0 ≤ d) {n : Nat} {v0 : Nat} {s0 : Nat} {s1 : Nat} {h : Hp} {o : Hp} (hf : f_X0_init_24 n v0 s0 s1 h = some o) : Run X d 1 24 [some (.ref v0), none] [.ref s1, .ref s0] h (none, o) := by
  unfold f_X0_init_24 at hf
  refine rs_dup i_X0_init_24 rfl ?_
  refine rs_iconst i_X0_init_25 (v := 0) (by decide) ?_
  refine rs_iconst i_X0_init_26 (v := 5) (by decide) ?_
  obtain ⟨c1, hf⟩ := ite_some hf
  refine rs_iast i_X0_init_27 c1 ?_
  exact r_X0_init_28 hd hf
noncomputable def f_X0_init_20 (n : Nat) (v0 : Nat) (h : Hp) : Option Hp :=
  f_X0_init_24 n v0 v0 h.1.length (hnew h (9, ix 3))
set_option maxRecDepth 100000 in
set_option maxHeartbeats 4000000 in
theorem r_X0_init_20 {X : Nat → Int32} {d : Nat} (hd : 0 ≤ d) {n : Nat} {v0 : Nat} {h : Hp} {o : Hp} (hf : f_X0_init_20 n v0 h = some o) : Run X d 1 20 [some (.ref v0), none] [] h (none, o) := by
  unfold f_X0_init_20 at hf
  refine rs_aload_n i_X0_init_20 rfl ?_
  refine rs_iconst i_X0_init_21 (v := 3) (by decide) ?_
  refine rs_newa i_X0_init_22 (by decide) ?_
  exact r_X0_init_24 hd hf
noncomputable def f_X0_init_17 (n : Nat) (v0 : Nat) (s0 : Nat) (s1 : Nat) (h : Hp) : Option Hp :=
  if okO h s0 0 then
  if 16 ≤ s1 then
  f_X0_init_20 n v0 (hsr h s0 1 (some s1))
  else none
  else none
set_option maxRecDepth 100000 in
set_option maxHeartbeats 4000000 in
theorem r_X0_init_17 {X : Nat → Int32} {d : Nat} (hd : 0 ≤ d) {n : Nat} {v0 : Nat} {s0 : Nat} {s1 : Nat} {h : Hp} {o : Hp} (hf : f_X0_init_17 n v0 s0 s1 h = some o) : Run X d 1 17 [some (.ref v0), none] [.ref s1, .ref s0] h (none, o) := by
  unfold f_X0_init_17 at hf
  obtain ⟨c1, hf⟩ := ite_some hf
  obtain ⟨c2, hf⟩ := ite_some hf
  refine rs_putR i_X0_init_17 (by decide) c2 c1 ?_
  exact r_X0_init_20 hd hf
noncomputable def f_X0_init_12 (n : Nat) (v0 : Nat) (h : Hp) : Option Hp :=
  f_X0_init_17 n v0 v0 h.1.length (hnew h (9, ix 12))
set_option maxRecDepth 100000 in
set_option maxHeartbeats 4000000 in
theorem r_X0_init_12 {X : Nat → Int32} {d : Nat} (hd : 0 ≤ d) {n : Nat} {v0 : Nat} {h : Hp} {o : Hp} (hf : f_X0_init_12 n v0 h = some o) : Run X d 1 12 [some (.ref v0), none] [] h (none, o) := by
  unfold f_X0_init_12 at hf
  refine rs_aload_n i_X0_init_12 rfl ?_
  refine rs_bipush i_X0_init_13 (v := 12) (by decide) ?_
  refine rs_newa i_X0_init_15 (by decide) ?_
  exact r_X0_init_17 hd hf
noncomputable def f_X0_init_9 (n : Nat) (v0 : Nat) (s0 : Nat) (s1 : Nat) (h : Hp) : Option Hp :=
  if okO h s0 0 then
  if 16 ≤ s1 then
  f_X0_init_12 n v0 (hsr h s0 0 (some s1))
  else none
  else none
set_option maxRecDepth 100000 in
set_option maxHeartbeats 4000000 in
theorem r_X0_init_9 {X : Nat → Int32} {d : Nat} (hd : 0 ≤ d) {n : Nat} {v0 : Nat} {s0 : Nat} {s1 : Nat} {h : Hp} {o : Hp} (hf : f_X0_init_9 n v0 s0 s1 h = some o) : Run X d 1 9 [some (.ref v0), none] [.ref s1, .ref s0] h (none, o) := by
  unfold f_X0_init_9 at hf
  obtain ⟨c1, hf⟩ := ite_some hf
  obtain ⟨c2, hf⟩ := ite_some hf
  refine rs_putR i_X0_init_9 (by decide) c2 c1 ?_
  exact r_X0_init_12 hd hf
noncomputable def f_X0_init_0 (n : Nat) (v0 : Nat) (h : Hp) : Option Hp :=
  f_X0_init_9 n v0 v0 h.1.length (hnew h (9, ix 12))
set_option maxRecDepth 100000 in
set_option maxHeartbeats 4000000 in
theorem r_X0_init_0 {X : Nat → Int32} {d : Nat} (hd : 0 ≤ d) {n : Nat} {v0 : Nat} {h : Hp} {o : Hp} (hf : f_X0_init_0 n v0 h = some o) : Run X d 1 0 [some (.ref v0), none] [] h (none, o) := by
  unfold f_X0_init_0 at hf
  refine rs_aload_n i_X0_init_0 rfl ?_
  refine rs_objI i_X0_init_1 (Nat.le_of_ble_eq_true rfl) ?_
  refine rs_aload_n i_X0_init_4 rfl ?_
  refine rs_bipush i_X0_init_5 (v := 12) (by decide) ?_
  refine rs_newa i_X0_init_7 (by decide) ?_
  exact r_X0_init_9 hd hf
noncomputable def f_X0_init (n : Nat) (v0 : Nat) (h : Hp) : Option Hp := f_X0_init_0 n v0 h
theorem c_X0_init {X : Nat → Int32} {d : Nat} (hd : 0 ≤ d) {n : Nat} {v0 : Nat} {h : Hp} {o : Hp} (hf : f_X0_init n v0 h = some o) : Calls X d 1 [.ref v0] h (none, o) := by
  exact ⟨_, rfl, r_X0_init_0 hd hf⟩
noncomputable def f_X1_init_32 (v0 : Nat) (v1 : Nat) (h : Hp) : Option Hp :=
  if okO h v0 1 then
  if 16 ≤ v1 then
  some (hsr h v0 1 (some v1))
  else none
  else none
set_option maxRecDepth 100000 in
set_option maxHeartbeats 4000000 in
theorem r_X1_init_32 {X : Nat → Int32} {d : Nat} (hd : 0 ≤ d) {v0 : Nat} {v1 : Nat} {h : Hp} {o : Hp} (hf : f_X1_init_32 v0 v1 h = some o) : Run X d 3 32 [some (.ref v0), some (.ref v1)] [] h (none, o) := by
  unfold f_X1_init_32 at hf
  refine rs_aload_n i_X1_init_32 rfl ?_
  refine rs_aload_n i_X1_init_33 rfl ?_
  obtain ⟨c1, hf⟩ := ite_some hf
  obtain ⟨c2, hf⟩ := ite_some hf
  refine rs_putR i_X1_init_34 (by decide) c2 c1 ?_
  have hf := Option.some.inj hf
  subst hf
  exact rs_vret i_X1_init_37 m_X1_init rfl
noncomputable def f_X1_init_27 (v0 : Nat) (v1 : Nat) (h : Hp) : Option Hp :=
  if okO h v0 1 then
  f_X1_init_32 v0 v1 (hsl h v0 5 1)
  else none
set_option maxRecDepth 100000 in
set_option maxHeartbeats 4000000 in
theorem r_X1_init_27 {X : Nat → Int32} {d : Nat} (hd : 0 ≤ d) {v0 : Nat} {v1 : Nat} {h : Hp} {o : Hp} (hf : f_X1_init_27 v0 v1 h = some o) : Run X d 3 27 [some (.ref v0), some (.ref v1)] [] h (none, o) := by
  unfold f_X1_init_27 at hf
  refine rs_aload_n i_X1_init_27 rfl ?_
  refine rs_lconst i_X1_init_28 (v := 1) (by decide) ?_
  obtain ⟨c1, hf⟩ := ite_some hf
  refine rs_putL i_X1_init_29 (by decide) c1 ?_
  exact r_X1_init_32 hd hf
noncomputable def f_X1_init_22 (v0 : Nat) (v1 : Nat) (h : Hp) : Option Hp :=
  if okO h v0 1 then
  f_X1_init_27 v0 v1 (hsi h v0 4 0)
  else none
set_option maxRecDepth 100000 in
set_option maxHeartbeats 4000000 in
theorem r_X1_init_22 {X : Nat → Int32} {d : Nat} (hd : 0 ≤ d) {v0 : Nat} {v1 : Nat} {h : Hp} {o : Hp} (hf : f_X1_init_22 v0 v1 h = some o) : Run X d 3 22 [some (.ref v0), some (.ref v1)] [] h (none, o) := by
  unfold f_X1_init_22 at hf
  refine rs_aload_n i_X1_init_22 rfl ?_
  refine rs_iconst i_X1_init_23 (v := 0) (by decide) ?_
  obtain ⟨c1, hf⟩ := ite_some hf
  refine rs_putZ i_X1_init_24 (by decide) (by decide) c1 ?_
  exact r_X1_init_27 hd hf
noncomputable def f_X1_init_17 (v0 : Nat) (v1 : Nat) (h : Hp) : Option Hp :=
  if okO h v0 1 then
  f_X1_init_22 v0 v1 (hsi h v0 3 0)
  else none
set_option maxRecDepth 100000 in
set_option maxHeartbeats 4000000 in
theorem r_X1_init_17 {X : Nat → Int32} {d : Nat} (hd : 0 ≤ d) {v0 : Nat} {v1 : Nat} {h : Hp} {o : Hp} (hf : f_X1_init_17 v0 v1 h = some o) : Run X d 3 17 [some (.ref v0), some (.ref v1)] [] h (none, o) := by
  unfold f_X1_init_17 at hf
  refine rs_aload_n i_X1_init_17 rfl ?_
  refine rs_iconst i_X1_init_18 (v := 0) (by decide) ?_
  obtain ⟨c1, hf⟩ := ite_some hf
  refine rs_putI i_X1_init_19 (by decide) c1 ?_
  exact r_X1_init_22 hd hf
noncomputable def f_X1_init_12 (v0 : Nat) (v1 : Nat) (h : Hp) : Option Hp :=
  if okO h v0 1 then
  f_X1_init_17 v0 v1 (hsi h v0 2 0)
  else none
set_option maxRecDepth 100000 in
set_option maxHeartbeats 4000000 in
theorem r_X1_init_12 {X : Nat → Int32} {d : Nat} (hd : 0 ≤ d) {v0 : Nat} {v1 : Nat} {h : Hp} {o : Hp} (hf : f_X1_init_12 v0 v1 h = some o) : Run X d 3 12 [some (.ref v0), some (.ref v1)] [] h (none, o) := by
  unfold f_X1_init_12 at hf
  refine rs_aload_n i_X1_init_12 rfl ?_
  refine rs_iconst i_X1_init_13 (v := 0) (by decide) ?_
  obtain ⟨c1, hf⟩ := ite_some hf
  refine rs_putI i_X1_init_14 (by decide) c1 ?_
  exact r_X1_init_17 hd hf
noncomputable def f_X1_init_9 (v0 : Nat) (v1 : Nat) (s0 : Nat) (s1 : Nat) (h : Hp) : Option Hp :=
  if okO h s0 1 then
  if 16 ≤ s1 then
  f_X1_init_12 v0 v1 (hsr h s0 0 (some s1))
  else none
  else none
set_option maxRecDepth 100000 in
set_option maxHeartbeats 4000000 in
theorem r_X1_init_9 {X : Nat → Int32} {d : Nat} (hd : 0 ≤ d) {v0 : Nat} {v1 : Nat} {s0 : Nat} {s1 : Nat} {h : Hp} {o : Hp} (hf : f_X1_init_9 v0 v1 s0 s1 h = some o) : Run X d 3 9 [some (.ref v0), some (.ref v1)] [.ref s1, .ref s0] h (none, o) := by
  unfold f_X1_init_9 at hf
  obtain ⟨c1, hf⟩ := ite_some hf
  obtain ⟨c2, hf⟩ := ite_some hf
  refine rs_putR i_X1_init_9 (by decide) c2 c1 ?_
  exact r_X1_init_12 hd hf
noncomputable def f_X1_init_0 (v0 : Nat) (v1 : Nat) (h : Hp) : Option Hp :=
  f_X1_init_9 v0 v1 v0 h.1.length (hnew h (9, ix 6))
set_option maxRecDepth 100000 in
set_option maxHeartbeats 4000000 in
theorem r_X1_init_0 {X : Nat → Int32} {d : Nat} (hd : 0 ≤ d) {v0 : Nat} {v1 : Nat} {h : Hp} {o : Hp} (hf : f_X1_init_0 v0 v1 h = some o) : Run X d 3 0 [some (.ref v0), some (.ref v1)] [] h (none, o) := by
  unfold f_X1_init_0 at hf
  refine rs_aload_n i_X1_init_0 rfl ?_
  refine rs_objI i_X1_init_1 (Nat.le_of_ble_eq_true rfl) ?_
  refine rs_aload_n i_X1_init_4 rfl ?_
  refine rs_bipush i_X1_init_5 (v := 6) (by decide) ?_
  refine rs_newa i_X1_init_7 (by decide) ?_
  exact r_X1_init_9 hd hf
noncomputable def f_X1_init (v0 : Nat) (v1 : Nat) (h : Hp) : Option Hp := f_X1_init_0 v0 v1 h
theorem c_X1_init {X : Nat → Int32} {d : Nat} (hd : 0 ≤ d) {v0 : Nat} {v1 : Nat} {h : Hp} {o : Hp} (hf : f_X1_init v0 v1 h = some o) : Calls X d 3 [.ref v0, .ref v1] h (none, o) := by
  exact ⟨_, rfl, r_X1_init_0 hd hf⟩
noncomputable def f_X2_init_33 (v0 : Nat) (h : Hp) : Option Hp :=
  if okO h v0 2 then
  some (hsi h v0 5 0)
  else none
set_option maxRecDepth 100000 in
set_option maxHeartbeats 4000000 in
theorem r_X2_init_33 {X : Nat → Int32} {d : Nat} (hd : 0 ≤ d) {v0 : Nat} {h : Hp} {o : Hp} (hf : f_X2_init_33 v0 h = some o) : Run X d 9 33 [some (.ref v0)] [] h (none, o) := by
  unfold f_X2_init_33 at hf
  refine rs_aload_n i_X2_init_33 rfl ?_
  refine rs_iconst i_X2_init_34 (v := 0) (by decide) ?_
  obtain ⟨c1, hf⟩ := ite_some hf
  refine rs_putI i_X2_init_35 (by decide) c1 ?_
  have hf := Option.some.inj hf
  subst hf
  exact rs_vret i_X2_init_38 m_X2_init rfl
noncomputable def f_X2_init_28 (v0 : Nat) (h : Hp) : Option Hp :=
  if okO h v0 2 then
  f_X2_init_33 v0 (hsi h v0 4 0)
  else none
set_option maxRecDepth 100000 in
set_option maxHeartbeats 4000000 in
theorem r_X2_init_28 {X : Nat → Int32} {d : Nat} (hd : 0 ≤ d) {v0 : Nat} {h : Hp} {o : Hp} (hf : f_X2_init_28 v0 h = some o) : Run X d 9 28 [some (.ref v0)] [] h (none, o) := by
  unfold f_X2_init_28 at hf
  refine rs_aload_n i_X2_init_28 rfl ?_
  refine rs_iconst i_X2_init_29 (v := 0) (by decide) ?_
  obtain ⟨c1, hf⟩ := ite_some hf
  refine rs_putI i_X2_init_30 (by decide) c1 ?_
  exact r_X2_init_33 hd hf
noncomputable def f_X2_init_23 (v0 : Nat) (h : Hp) : Option Hp :=
  if okO h v0 2 then
  f_X2_init_28 v0 (hsi h v0 3 0)
  else none
set_option maxRecDepth 100000 in
set_option maxHeartbeats 4000000 in
theorem r_X2_init_23 {X : Nat → Int32} {d : Nat} (hd : 0 ≤ d) {v0 : Nat} {h : Hp} {o : Hp} (hf : f_X2_init_23 v0 h = some o) : Run X d 9 23 [some (.ref v0)] [] h (none, o) := by
  unfold f_X2_init_23 at hf
  refine rs_aload_n i_X2_init_23 rfl ?_
  refine rs_iconst i_X2_init_24 (v := 0) (by decide) ?_
  obtain ⟨c1, hf⟩ := ite_some hf
  refine rs_putI i_X2_init_25 (by decide) c1 ?_
  exact r_X2_init_28 hd hf
noncomputable def f_X2_init_18 (v0 : Nat) (h : Hp) : Option Hp :=
  if okO h v0 2 then
  f_X2_init_23 v0 (hsi h v0 2 0)
  else none
set_option maxRecDepth 100000 in
set_option maxHeartbeats 4000000 in
theorem r_X2_init_18 {X : Nat → Int32} {d : Nat} (hd : 0 ≤ d) {v0 : Nat} {h : Hp} {o : Hp} (hf : f_X2_init_18 v0 h = some o) : Run X d 9 18 [some (.ref v0)] [] h (none, o) := by
  unfold f_X2_init_18 at hf
  refine rs_aload_n i_X2_init_18 rfl ?_
  refine rs_iconst i_X2_init_19 (v := 0) (by decide) ?_
  obtain ⟨c1, hf⟩ := ite_some hf
  refine rs_putI i_X2_init_20 (by decide) c1 ?_
  exact r_X2_init_23 hd hf
noncomputable def f_X2_init_13 (v0 : Nat) (h : Hp) : Option Hp :=
  if okO h v0 2 then
  f_X2_init_18 v0 (hsi h v0 1 0)
  else none
set_option maxRecDepth 100000 in
set_option maxHeartbeats 4000000 in
theorem r_X2_init_13 {X : Nat → Int32} {d : Nat} (hd : 0 ≤ d) {v0 : Nat} {h : Hp} {o : Hp} (hf : f_X2_init_13 v0 h = some o) : Run X d 9 13 [some (.ref v0)] [] h (none, o) := by
  unfold f_X2_init_13 at hf
  refine rs_aload_n i_X2_init_13 rfl ?_
  refine rs_iconst i_X2_init_14 (v := 0) (by decide) ?_
  obtain ⟨c1, hf⟩ := ite_some hf
  refine rs_putI i_X2_init_15 (by decide) c1 ?_
  exact r_X2_init_18 hd hf
noncomputable def f_X2_init_10 (v0 : Nat) (s0 : Nat) (s1 : Nat) (h : Hp) : Option Hp :=
  if okO h s0 2 then
  if 16 ≤ s1 then
  f_X2_init_13 v0 (hsr h s0 0 (some s1))
  else none
  else none
set_option maxRecDepth 100000 in
set_option maxHeartbeats 4000000 in
theorem r_X2_init_10 {X : Nat → Int32} {d : Nat} (hd : 0 ≤ d) {v0 : Nat} {s0 : Nat} {s1 : Nat} {h : Hp} {o : Hp} (hf : f_X2_init_10 v0 s0 s1 h = some o) : Run X d 9 10 [some (.ref v0)] [.ref s1, .ref s0] h (none, o) := by
  unfold f_X2_init_10 at hf
  obtain ⟨c1, hf⟩ := ite_some hf
  obtain ⟨c2, hf⟩ := ite_some hf
  refine rs_putR i_X2_init_10 (by decide) c2 c1 ?_
  exact r_X2_init_13 hd hf
noncomputable def f_X2_init_0 (v0 : Nat) (h : Hp) : Option Hp :=
  f_X2_init_10 v0 v0 h.1.length (hnew h (9, ix 160))
set_option maxRecDepth 100000 in
set_option maxHeartbeats 4000000 in
theorem r_X2_init_0 {X : Nat → Int32} {d : Nat} (hd : 0 ≤ d) {v0 : Nat} {h : Hp} {o : Hp} (hf : f_X2_init_0 v0 h = some o) : Run X d 9 0 [some (.ref v0)] [] h (none, o) := by
  unfold f_X2_init_0 at hf
  refine rs_aload_n i_X2_init_0 rfl ?_
  refine rs_objI i_X2_init_1 (Nat.le_of_ble_eq_true rfl) ?_
  refine rs_aload_n i_X2_init_4 rfl ?_
  refine rs_sipush i_X2_init_5 (v := 160) (by decide) ?_
  refine rs_newa i_X2_init_8 (by decide) ?_
  exact r_X2_init_10 hd hf
noncomputable def f_X2_init (v0 : Nat) (h : Hp) : Option Hp := f_X2_init_0 v0 h
theorem c_X2_init {X : Nat → Int32} {d : Nat} (hd : 0 ≤ d) {v0 : Nat} {h : Hp} {o : Hp} (hf : f_X2_init v0 h = some o) : Calls X d 9 [.ref v0] h (none, o) := by
  exact ⟨_, rfl, r_X2_init_0 hd hf⟩
noncomputable def f_J0_isLatin1_aae02_0 (v0 : Nat) (h : Hp) : Option (Int32 × Hp) :=
  if hk h v0 = (20, 2) then
  some (1, h)
  else none
set_option maxRecDepth 100000 in
set_option maxHeartbeats 4000000 in
theorem r_J0_isLatin1_aae02_0 {X : Nat → Int32} {d : Nat} (hd : 0 ≤ d) {v0 : Nat} {h : Hp} {o : (Int32 × Hp)} (hf : f_J0_isLatin1_aae02_0 v0 h = some o) : Run X d 224 0 [some (.ref v0)] [] h (some (.int o.1), o.2) := by
  unfold f_J0_isLatin1_aae02_0 at hf
  refine rs_gst1 i_J0_isLatin1_aae02_0 rfl ?_
  refine rs_ifF i_J0_isLatin1_aae02_3 (by decide) ?_
  refine rs_aload_n i_J0_isLatin1_aae02_6 rfl ?_
  obtain ⟨c1, hf⟩ := ite_some hf
  refine rs_getSc i_J0_isLatin1_aae02_7 c1 ?_
  refine rs_ifF i_J0_isLatin1_aae02_10 (by decide) ?_
  refine rs_iconst i_J0_isLatin1_aae02_13 (v := 1) (by decide) ?_
  refine rs_goto i_J0_isLatin1_aae02_14 (tg := 18) (by decide) ?_
  have hf := Option.some.inj hf
  subst hf
  exact rs_iret i_J0_isLatin1_aae02_18 m_J0_isLatin1_aae02 (by decide)
noncomputable def f_J0_isLatin1_aae02 (v0 : Nat) (h : Hp) : Option (Int32 × Hp) := f_J0_isLatin1_aae02_0 v0 h
theorem c_J0_isLatin1_aae02 {X : Nat → Int32} {d : Nat} (hd : 0 ≤ d) {v0 : Nat} {h : Hp} {o : (Int32 × Hp)} (hf : f_J0_isLatin1_aae02 v0 h = some o) : Calls X d 224 [.ref v0] h (some (.int o.1), o.2) := by
  exact ⟨_, rfl, r_J0_isLatin1_aae02_0 hd hf⟩
noncomputable def f_J0_coder_7d493_0 (v0 : Nat) (h : Hp) : Option (Int32 × Hp) :=
  if hk h v0 = (20, 2) then
  some (0, h)
  else none
set_option maxRecDepth 100000 in
set_option maxHeartbeats 4000000 in
theorem r_J0_coder_7d493_0 {X : Nat → Int32} {d : Nat} (hd : 0 ≤ d) {v0 : Nat} {h : Hp} {o : (Int32 × Hp)} (hf : f_J0_coder_7d493_0 v0 h = some o) : Run X d 223 0 [some (.ref v0)] [] h (some (.int o.1), o.2) := by
  unfold f_J0_coder_7d493_0 at hf
  refine rs_gst1 i_J0_coder_7d493_0 rfl ?_
  refine rs_ifF i_J0_coder_7d493_3 (by decide) ?_
  refine rs_aload_n i_J0_coder_7d493_6 rfl ?_
  obtain ⟨c1, hf⟩ := ite_some hf
  refine rs_getSc i_J0_coder_7d493_7 c1 ?_
  refine rs_goto i_J0_coder_7d493_10 (tg := 14) (by decide) ?_
  have hf := Option.some.inj hf
  subst hf
  exact rs_iret i_J0_coder_7d493_14 m_J0_coder_7d493 (by decide)
noncomputable def f_J0_coder_7d493 (v0 : Nat) (h : Hp) : Option (Int32 × Hp) := f_J0_coder_7d493_0 v0 h
theorem c_J0_coder_7d493 {X : Nat → Int32} {d : Nat} (hd : 0 ≤ d) {v0 : Nat} {h : Hp} {o : (Int32 × Hp)} (hf : f_J0_coder_7d493 v0 h = some o) : Calls X d 223 [.ref v0] h (some (.int o.1), o.2) := by
  exact ⟨_, rfl, r_J0_coder_7d493_0 hd hf⟩
noncomputable def f_J0_length_8abf5_0 (v0 : Nat) (h : Hp) : Option (Int32 × Hp) :=
  if hk h v0 = (20, 2) then
  if (hk h (v0 + 3)).1 = 21 then
  (f_J0_coder_7d493 v0 h).bind fun o3 =>
  some (((Int32.ofNat (hk h (v0 + 3)).2) >>> (o3.1 &&& 31)), o3.2)
  else none
  else none
set_option maxRecDepth 100000 in
set_option maxHeartbeats 4000000 in
theorem r_J0_length_8abf5_0 {X : Nat → Int32} {d : Nat} (hd : 1 ≤ (d + 1)) {v0 : Nat} {h : Hp} {o : (Int32 × Hp)} (hf : f_J0_length_8abf5_0 v0 h = some o) : Run X (d + 1) 219 0 [some (.ref v0)] [] h (some (.int o.1), o.2) := by
  unfold f_J0_length_8abf5_0 at hf
  refine rs_aload_n i_J0_length_8abf5_0 rfl ?_
  obtain ⟨c1, hf⟩ := ite_some hf
  refine rs_getSv i_J0_length_8abf5_1 c1 ?_
  obtain ⟨c2, hf⟩ := ite_some hf
  refine rs_alB i_J0_length_8abf5_4 c2 ?_
  refine rs_aload_n i_J0_length_8abf5_5 rfl ?_
  obtain ⟨o3, e3, hf⟩ := bind_some hf
  refine rs_inV i_J0_length_8abf5_6 m_J0_coder_7d493 rfl (As := []) (rest := [.int (Int32.ofNat (hk h (v0 + 3)).2)]) rfl rfl (Nat.le_of_ble_eq_true rfl) c1 (c_J0_coder_7d493 (by omega) e3) (st' := [.int o3.1, .int (Int32.ofNat (hk h (v0 + 3)).2)]) rfl ?_
  refine rs_ishr i_J0_length_8abf5_9 ?_
  have hf := Option.some.inj hf
  subst hf
  exact rs_iret i_J0_length_8abf5_10 m_J0_length_8abf5 rfl
noncomputable def f_J0_length_8abf5 (v0 : Nat) (h : Hp) : Option (Int32 × Hp) := f_J0_length_8abf5_0 v0 h
theorem c_J0_length_8abf5 {X : Nat → Int32} {d : Nat} (hd : 1 ≤ d) {v0 : Nat} {h : Hp} {o : (Int32 × Hp)} (hf : f_J0_length_8abf5 v0 h = some o) : Calls X d 219 [.ref v0] h (some (.int o.1), o.2) := by
  obtain ⟨d, rfl⟩ : ∃ z, d = z + 1 := ⟨d - 1, by omega⟩
  exact ⟨_, rfl, r_J0_length_8abf5_0 hd hf⟩
noncomputable def f_J1_canEncode_9a6ad_0 (v0 : Int32) (h : Hp) : Option (Int32 × Hp) :=
  if v0 < 0 then
    some (0, h)
  else
    if 255 < v0 then
      some (0, h)
    else
      some (1, h)
set_option maxRecDepth 100000 in
set_option maxHeartbeats 4000000 in
theorem r_J1_canEncode_9a6ad_0 {X : Nat → Int32} {d : Nat} (hd : 0 ≤ d) {v0 : Int32} {h : Hp} {o : (Int32 × Hp)} (hf : f_J1_canEncode_9a6ad_0 v0 h = some o) : Run X d 227 0 [some (.int v0)] [] h (some (.int o.1), o.2) := by
  unfold f_J1_canEncode_9a6ad_0 at hf
  refine rs_iload_n i_J1_canEncode_9a6ad_0 rfl ?_
  by_cases c1 : v0 < 0
  · replace hf := (if_pos c1).symm.trans hf
    refine rs_ifT i_J1_canEncode_9a6ad_1 (ct_lt c1) (tg := 15) (by decide) ?_
    refine rs_iconst i_J1_canEncode_9a6ad_15 (v := 0) (by decide) ?_
    have hf := Option.some.inj hf
    subst hf
    exact rs_iret i_J1_canEncode_9a6ad_16 m_J1_canEncode_9a6ad (by decide)
  · replace hf := (if_neg c1).symm.trans hf
    refine rs_ifF i_J1_canEncode_9a6ad_1 (cf_lt c1) ?_
    refine rs_iload_n i_J1_canEncode_9a6ad_4 rfl ?_
    refine rs_sipush i_J1_canEncode_9a6ad_5 (v := 255) (by decide) ?_
    by_cases c2 : 255 < v0
    · replace hf := (if_pos c2).symm.trans hf
      refine rs_icT i_J1_canEncode_9a6ad_8 (ct_gt c2) (tg := 15) (by decide) ?_
      refine rs_iconst i_J1_canEncode_9a6ad_15 (v := 0) (by decide) ?_
      have hf := Option.some.inj hf
      subst hf
      exact rs_iret i_J1_canEncode_9a6ad_16 m_J1_canEncode_9a6ad (by decide)
    · replace hf := (if_neg c2).symm.trans hf
      refine rs_icF i_J1_canEncode_9a6ad_8 (cf_gt c2) ?_
      refine rs_iconst i_J1_canEncode_9a6ad_11 (v := 1) (by decide) ?_
      refine rs_goto i_J1_canEncode_9a6ad_12 (tg := 16) (by decide) ?_
      have hf := Option.some.inj hf
      subst hf
      exact rs_iret i_J1_canEncode_9a6ad_16 m_J1_canEncode_9a6ad (by decide)
noncomputable def f_J1_canEncode_9a6ad (v0 : Int32) (h : Hp) : Option (Int32 × Hp) := f_J1_canEncode_9a6ad_0 v0 h
theorem c_J1_canEncode_9a6ad {X : Nat → Int32} {d : Nat} (hd : 0 ≤ d) {v0 : Int32} {h : Hp} {o : (Int32 × Hp)} (hf : f_J1_canEncode_9a6ad v0 h = some o) : Calls X d 227 [.int v0] h (some (.int o.1), o.2) := by
  exact ⟨_, rfl, r_J1_canEncode_9a6ad_0 hd hf⟩
noncomputable def f_J1_indexOfChar_4cfef_7 (n : Nat) : Nat → Nat → Int32 → Int32 → Int32 → Hp → Option (Int32 × Hp)
  | 0, _, _, _, _, _ => none
  | m + 1, v0, v3, v4, v5, h =>
    if v3 ≤ v5 then
      some ((-1), h)
    else
      if okB h v0 v5 then
      if ¬ v0 = 14 then
      if (roC v0 (ix v5)) ≠ v4 then
        (f_J1_indexOfChar_4cfef_7 n m) v0 v3 v4 (v5 + 1) h
      else
        some (v5, h)
      else none
      else none
set_option maxRecDepth 100000 in
set_option maxHeartbeats 4000000 in
theorem r_J1_indexOfChar_4cfef_7 {X : Nat → Int32} {d : Nat} (hd : 0 ≤ d) {n : Nat} : ∀ (m : Nat) (v0 : Nat) (v3 : Int32) (v4 : Int32) (v5 : Int32) (d1 : Int32) (d2 : Int32) (h : Hp) (o : (Int32 × Hp)), f_J1_indexOfChar_4cfef_7 n m v0 v3 v4 v5 h = some o → Run X d 229 7 [some (.ref v0), some (.int d1), some (.int d2), some (.int v3), some (.int v4), some (.int v5)] [] h (some (.int o.1), o.2) := by
  intro m
  induction m with
  | zero => intro v0 v3 v4 v5 d1 d2 h o hf; cases hf
  | succ m ih =>
    intro v0 v3 v4 v5 d1 d2 h o hf
    rw [f_J1_indexOfChar_4cfef_7] at hf
    refine rs_iload i_J1_indexOfChar_4cfef_7 rfl ?_
    refine rs_iload_n i_J1_indexOfChar_4cfef_9 rfl ?_
    by_cases c1 : v3 ≤ v5
    · replace hf := (if_pos c1).symm.trans hf
      refine rs_icT i_J1_indexOfChar_4cfef_10 (ct_ge c1) (tg := 31) (by decide) ?_
      refine rs_iconst i_J1_indexOfChar_4cfef_31 (v := (-1)) (by decide) ?_
      have hf := Option.some.inj hf
      subst hf
      exact rs_iret i_J1_indexOfChar_4cfef_32 m_J1_indexOfChar_4cfef rfl
    · replace hf := (if_neg c1).symm.trans hf
      refine rs_icF i_J1_indexOfChar_4cfef_10 (cf_ge c1) ?_
      refine rs_aload_n i_J1_indexOfChar_4cfef_13 rfl ?_
      refine rs_iload i_J1_indexOfChar_4cfef_14 rfl ?_
      obtain ⟨c2, hf⟩ := ite_some hf
      obtain ⟨c3, hf⟩ := ite_some hf
      refine rs_bald i_J1_indexOfChar_4cfef_16 c2 c3 ?_
      refine rs_iload i_J1_indexOfChar_4cfef_17 rfl ?_
      by_cases c4 : (roC v0 (ix v5)) ≠ v4
      · replace hf := (if_pos c4).symm.trans hf
        refine rs_icT i_J1_indexOfChar_4cfef_19 (ct_ne c4) (tg := 25) (by decide) ?_
        refine rs_iinc i_J1_indexOfChar_4cfef_25 rfl (v := v5 + 1) rfl (Nat.le_of_ble_eq_true rfl) (lv' := [some (.ref v0), some (.int d1), some (.int d2), some (.int v3), some (.int v4), some (.int (v5 + 1))]) rfl ?_
        refine rs_goto i_J1_indexOfChar_4cfef_28 (tg := 7) (by decide) ?_
        exact ih _ _ _ _ _ _ _ _ hf
      · replace hf := (if_neg c4).symm.trans hf
        refine rs_icF i_J1_indexOfChar_4cfef_19 (cf_ne c4) ?_
        refine rs_iload i_J1_indexOfChar_4cfef_22 rfl ?_
        have hf := Option.some.inj hf
        subst hf
        exact rs_iret i_J1_indexOfChar_4cfef_24 m_J1_indexOfChar_4cfef rfl
noncomputable def f_J1_indexOfChar_4cfef_0 (n : Nat) (v0 : Nat) (v1 : Int32) (v2 : Int32) (v3 : Int32) (h : Hp) : Option (Int32 × Hp) :=
  f_J1_indexOfChar_4cfef_7 n n v0 v3 ((Int32.toInt8 v1).toInt32) v2 h
set_option maxRecDepth 100000 in
set_option maxHeartbeats 4000000 in
theorem r_J1_indexOfChar_4cfef_0 {X : Nat → Int32} {d : Nat} (hd : 0 ≤ d) {n : Nat} {v0 : Nat} {v1 : Int32} {v2 : Int32} {v3 : Int32} {h : Hp} {o : (Int32 × Hp)} (hf : f_J1_indexOfChar_4cfef_0 n v0 v1 v2 v3 h = some o) : Run X d 229 0 [some (.ref v0), some (.int v1), some (.int v2), some (.int v3), none, none] [] h (some (.int o.1), o.2) := by
  unfold f_J1_indexOfChar_4cfef_0 at hf
  refine rs_iload_n i_J1_indexOfChar_4cfef_0 rfl ?_
  refine rs_i2b i_J1_indexOfChar_4cfef_1 ?_
  refine rs_istore i_J1_indexOfChar_4cfef_2 (Nat.le_of_ble_eq_true rfl) (lv' := [some (.ref v0), some (.int v1), some (.int v2), some (.int v3), some (.int ((Int32.toInt8 v1).toInt32)), none]) rfl ?_
  refine rs_iload_n i_J1_indexOfChar_4cfef_4 rfl ?_
  refine rs_istore i_J1_indexOfChar_4cfef_5 (Nat.le_of_ble_eq_true rfl) (lv' := [some (.ref v0), some (.int v1), some (.int v2), some (.int v3), some (.int ((Int32.toInt8 v1).toInt32)), some (.int v2)]) rfl ?_
  exact r_J1_indexOfChar_4cfef_7 hd _ _ _ _ _ _ _ _ _ hf
noncomputable def f_J1_indexOfChar_4cfef (n : Nat) (v0 : Nat) (v1 : Int32) (v2 : Int32) (v3 : Int32) (h : Hp) : Option (Int32 × Hp) := f_J1_indexOfChar_4cfef_0 n v0 v1 v2 v3 h
theorem c_J1_indexOfChar_4cfef {X : Nat → Int32} {d : Nat} (hd : 0 ≤ d) {n : Nat} {v0 : Nat} {v1 : Int32} {v2 : Int32} {v3 : Int32} {h : Hp} {o : (Int32 × Hp)} (hf : f_J1_indexOfChar_4cfef n v0 v1 v2 v3 h = some o) : Calls X d 229 [.ref v0, .int v1, .int v2, .int v3] h (some (.int o.1), o.2) := by
  exact ⟨_, rfl, r_J1_indexOfChar_4cfef_0 hd hf⟩
noncomputable def f_J1_indexOf_4cfef_22 (n : Nat) (v0 : Nat) (v1 : Int32) (v2 : Int32) (v3 : Int32) (h : Hp) : Option (Int32 × Hp) :=
  if v2 < v3 then
    (f_J1_indexOfChar_4cfef n v0 v1 v2 v3 h).bind fun o2 =>
    some (o2.1, o2.2)
  else
    some ((-1), h)
set_option maxRecDepth 100000 in
set_option maxHeartbeats 4000000 in
theorem r_J1_indexOf_4cfef_22 {X : Nat → Int32} {d : Nat} (hd : 1 ≤ (d + 1)) {n : Nat} {v0 : Nat} {v1 : Int32} {v2 : Int32} {v3 : Int32} {h : Hp} {o : (Int32 × Hp)} (hf : f_J1_indexOf_4cfef_22 n v0 v1 v2 v3 h = some o) : Run X (d + 1) 228 22 [some (.ref v0), some (.int v1), some (.int v2), some (.int v3)] [] h (some (.int o.1), o.2) := by
  unfold f_J1_indexOf_4cfef_22 at hf
  refine rs_iload_n i_J1_indexOf_4cfef_22 rfl ?_
  refine rs_iload_n i_J1_indexOf_4cfef_23 rfl ?_
  by_cases c1 : v2 < v3
  · replace hf := (if_pos c1).symm.trans hf
    refine rs_icT i_J1_indexOf_4cfef_24 (ct_lt c1) (tg := 29) (by decide) ?_
    refine rs_aload_n i_J1_indexOf_4cfef_29 rfl ?_
    refine rs_iload_n i_J1_indexOf_4cfef_30 rfl ?_
    refine rs_iload_n i_J1_indexOf_4cfef_31 rfl ?_
    refine rs_iload_n i_J1_indexOf_4cfef_32 rfl ?_
    obtain ⟨o2, e2, hf⟩ := bind_some hf
    refine rs_inS i_J1_indexOf_4cfef_33 (by decide) m_J1_indexOfChar_4cfef rfl (As := [.ref v0, .int v1, .int v2, .int v3]) (rest := []) rfl rfl (Nat.le_of_ble_eq_true rfl) (c_J1_indexOfChar_4cfef (by omega) e2) (st' := [.int o2.1]) rfl ?_
    have hf := Option.some.inj hf
    subst hf
    exact rs_iret i_J1_indexOf_4cfef_36 m_J1_indexOf_4cfef rfl
  · replace hf := (if_neg c1).symm.trans hf
    refine rs_icF i_J1_indexOf_4cfef_24 (cf_lt c1) ?_
    refine rs_iconst i_J1_indexOf_4cfef_27 (v := (-1)) (by decide) ?_
    have hf := Option.some.inj hf
    subst hf
    exact rs_iret i_J1_indexOf_4cfef_28 m_J1_indexOf_4cfef rfl
noncomputable def f_J1_indexOf_4cfef_0 (n : Nat) (v0 : Nat) (v1 : Int32) (v2 : Int32) (v3 : Int32) (h : Hp) : Option (Int32 × Hp) :=
  (f_J1_canEncode_9a6ad v1 h).bind fun o1 =>
  if o1.1 ≠ 0 then
    if (hk o1.2 v0).1 = 21 then
    f_J1_indexOf_4cfef_22 n v0 v1 (if v2 < 0 then 0 else v2) (if (Int32.ofNat (hk o1.2 v0).2) < v3 then (Int32.ofNat (hk o1.2 v0).2) else v3) o1.2
    else none
  else
    some ((-1), o1.2)
set_option maxRecDepth 100000 in
set_option maxHeartbeats 4000000 in
theorem r_J1_indexOf_4cfef_0 {X : Nat → Int32} {d : Nat} (hd : 1 ≤ (d + 1)) {n : Nat} {v0 : Nat} {v1 : Int32} {v2 : Int32} {v3 : Int32} {h : Hp} {o : (Int32 × Hp)} (hf : f_J1_indexOf_4cfef_0 n v0 v1 v2 v3 h = some o) : Run X (d + 1) 228 0 [some (.ref v0), some (.int v1), some (.int v2), some (.int v3)] [] h (some (.int o.1), o.2) := by
  unfold f_J1_indexOf_4cfef_0 at hf
  refine rs_iload_n i_J1_indexOf_4cfef_0 rfl ?_
  obtain ⟨o1, e1, hf⟩ := bind_some hf
  refine rs_inS i_J1_indexOf_4cfef_1 (by decide) m_J1_canEncode_9a6ad rfl (As := [.int v1]) (rest := []) rfl rfl (Nat.le_of_ble_eq_true rfl) (c_J1_canEncode_9a6ad (by omega) e1) (st' := [.int o1.1]) rfl ?_
  by_cases c2 : o1.1 ≠ 0
  · replace hf := (if_pos c2).symm.trans hf
    refine rs_ifT i_J1_indexOf_4cfef_4 (ct_ne c2) (tg := 9) (by decide) ?_
    refine rs_iload_n i_J1_indexOf_4cfef_9 rfl ?_
    refine rs_iconst i_J1_indexOf_4cfef_10 (v := 0) (by decide) ?_
    refine rs_max i_J1_indexOf_4cfef_11 (Nat.le_of_ble_eq_true rfl) ?_
    refine rs_istore_n i_J1_indexOf_4cfef_14 (Nat.le_of_ble_eq_true rfl) (lv' := [some (.ref v0), some (.int v1), some (.int (if v2 < 0 then 0 else v2)), some (.int v3)]) rfl ?_
    refine rs_iload_n i_J1_indexOf_4cfef_15 rfl ?_
    refine rs_aload_n i_J1_indexOf_4cfef_16 rfl ?_
    obtain ⟨c3, hf⟩ := ite_some hf
    refine rs_alB i_J1_indexOf_4cfef_17 c3 ?_
    refine rs_min i_J1_indexOf_4cfef_18 (Nat.le_of_ble_eq_true rfl) ?_
    refine rs_istore_n i_J1_indexOf_4cfef_21 (Nat.le_of_ble_eq_true rfl) (lv' := [some (.ref v0), some (.int v1), some (.int (if v2 < 0 then 0 else v2)), some (.int (if (Int32.ofNat (hk o1.2 v0).2) < v3 then (Int32.ofNat (hk o1.2 v0).2) else v3))]) rfl ?_
    exact r_J1_indexOf_4cfef_22 hd hf
  · replace hf := (if_neg c2).symm.trans hf
    refine rs_ifF i_J1_indexOf_4cfef_4 (cf_ne c2) ?_
    refine rs_iconst i_J1_indexOf_4cfef_7 (v := (-1)) (by decide) ?_
    have hf := Option.some.inj hf
    subst hf
    exact rs_iret i_J1_indexOf_4cfef_8 m_J1_indexOf_4cfef rfl
noncomputable def f_J1_indexOf_4cfef (n : Nat) (v0 : Nat) (v1 : Int32) (v2 : Int32) (v3 : Int32) (h : Hp) : Option (Int32 × Hp) := f_J1_indexOf_4cfef_0 n v0 v1 v2 v3 h
theorem c_J1_indexOf_4cfef {X : Nat → Int32} {d : Nat} (hd : 1 ≤ d) {n : Nat} {v0 : Nat} {v1 : Int32} {v2 : Int32} {v3 : Int32} {h : Hp} {o : (Int32 × Hp)} (hf : f_J1_indexOf_4cfef n v0 v1 v2 v3 h = some o) : Calls X d 228 [.ref v0, .int v1, .int v2, .int v3] h (some (.int o.1), o.2) := by
  obtain ⟨d, rfl⟩ : ∃ z, d = z + 1 := ⟨d - 1, by omega⟩
  exact ⟨_, rfl, r_J1_indexOf_4cfef_0 hd hf⟩
noncomputable def f_J0_indexOf_7cf53_0 (n : Nat) (v0 : Nat) (v1 : Int32) (v2 : Int32) (h : Hp) : Option (Int32 × Hp) :=
  if hk h v0 = (20, 2) then
  (f_J0_isLatin1_aae02 v0 h).bind fun o1 =>
  if o1.1 = 0 then
    if hk o1.2 v0 = (20, 2) then
    (f_J0_length_8abf5 v0 o1.2).bind fun o5 =>
    none
    else none
  else
    if hk o1.2 v0 = (20, 2) then
    (f_J0_length_8abf5 v0 o1.2).bind fun o7 =>
    (f_J1_indexOf_4cfef n (v0 + 3) v1 v2 o7.1 o7.2).bind fun o8 =>
    some (o8.1, o8.2)
    else none
  else none
set_option maxRecDepth 100000 in
set_option maxHeartbeats 4000000 in
theorem r_J0_indexOf_7cf53_0 {X : Nat → Int32} {d : Nat} (hd : 2 ≤ (d + 1)) {n : Nat} {v0 : Nat} {v1 : Int32} {v2 : Int32} {h : Hp} {o : (Int32 × Hp)} (hf : f_J0_indexOf_7cf53_0 n v0 v1 v2 h = some o) : Run X (d + 1) 222 0 [some (.ref v0), some (.int v1), some (.int v2)] [] h (some (.int o.1), o.2) := by
  unfold f_J0_indexOf_7cf53_0 at hf
  refine rs_aload_n i_J0_indexOf_7cf53_0 rfl ?_
  obtain ⟨c2, hf⟩ := ite_some hf
  obtain ⟨o1, e1, hf⟩ := bind_some hf
  refine rs_inV i_J0_indexOf_7cf53_1 m_J0_isLatin1_aae02 rfl (As := []) (rest := []) rfl rfl (Nat.le_of_ble_eq_true rfl) c2 (c_J0_isLatin1_aae02 (by omega) e1) (st' := [.int o1.1]) rfl ?_
  by_cases c3 : o1.1 = 0
  · replace hf := (if_pos c3).symm.trans hf
    refine rs_ifT i_J0_indexOf_7cf53_4 (ct_eq c3) (tg := 23) (by decide) ?_
    refine rs_aload_n i_J0_indexOf_7cf53_23 rfl ?_
    obtain ⟨c4, hf⟩ := ite_some hf
    refine rs_getSv i_J0_indexOf_7cf53_24 c4 ?_
    refine rs_iload_n i_J0_indexOf_7cf53_27 rfl ?_
    refine rs_iload_n i_J0_indexOf_7cf53_28 rfl ?_
    refine rs_aload_n i_J0_indexOf_7cf53_29 rfl ?_
    obtain ⟨o5, e5, hf⟩ := bind_some hf
    refine rs_inV i_J0_indexOf_7cf53_30 m_J0_length_8abf5 rfl (As := []) (rest := [.int v2, .int v1, .ref (v0 + 3)]) rfl rfl (Nat.le_of_ble_eq_true rfl) c4 (c_J0_length_8abf5 (by omega) e5) (st' := [.int o5.1, .int v2, .int v1, .ref (v0 + 3)]) rfl ?_
    cases hf
  · replace hf := (if_neg c3).symm.trans hf
    refine rs_ifF i_J0_indexOf_7cf53_4 (cf_eq c3) ?_
    refine rs_aload_n i_J0_indexOf_7cf53_7 rfl ?_
    obtain ⟨c6, hf⟩ := ite_some hf
    refine rs_getSv i_J0_indexOf_7cf53_8 c6 ?_
    refine rs_iload_n i_J0_indexOf_7cf53_11 rfl ?_
    refine rs_iload_n i_J0_indexOf_7cf53_12 rfl ?_
    refine rs_aload_n i_J0_indexOf_7cf53_13 rfl ?_
    obtain ⟨o7, e7, hf⟩ := bind_some hf
    refine rs_inV i_J0_indexOf_7cf53_14 m_J0_length_8abf5 rfl (As := []) (rest := [.int v2, .int v1, .ref (v0 + 3)]) rfl rfl (Nat.le_of_ble_eq_true rfl) c6 (c_J0_length_8abf5 (by omega) e7) (st' := [.int o7.1, .int v2, .int v1, .ref (v0 + 3)]) rfl ?_
    obtain ⟨o8, e8, hf⟩ := bind_some hf
    refine rs_inS i_J0_indexOf_7cf53_17 (by decide) m_J1_indexOf_4cfef rfl (As := [.ref (v0 + 3), .int v1, .int v2, .int o7.1]) (rest := []) rfl rfl (Nat.le_of_ble_eq_true rfl) (c_J1_indexOf_4cfef (by omega) e8) (st' := [.int o8.1]) rfl ?_
    refine rs_goto i_J0_indexOf_7cf53_20 (tg := 36) (by decide) ?_
    have hf := Option.some.inj hf
    subst hf
    exact rs_iret i_J0_indexOf_7cf53_36 m_J0_indexOf_7cf53 rfl
noncomputable def f_J0_indexOf_7cf53 (n : Nat) (v0 : Nat) (v1 : Int32) (v2 : Int32) (h : Hp) : Option (Int32 × Hp) := f_J0_indexOf_7cf53_0 n v0 v1 v2 h
theorem c_J0_indexOf_7cf53 {X : Nat → Int32} {d : Nat} (hd : 2 ≤ d) {n : Nat} {v0 : Nat} {v1 : Int32} {v2 : Int32} {h : Hp} {o : (Int32 × Hp)} (hf : f_J0_indexOf_7cf53 n v0 v1 v2 h = some o) : Calls X d 222 [.ref v0, .int v1, .int v2] h (some (.int o.1), o.2) := by
  obtain ⟨d, rfl⟩ : ∃ z, d = z + 1 := ⟨d - 1, by omega⟩
  exact ⟨_, rfl, r_J0_indexOf_7cf53_0 hd hf⟩
noncomputable def f_J0_indexOf_0f7a4_0 (n : Nat) (v0 : Nat) (v1 : Int32) (h : Hp) : Option (Int32 × Hp) :=
  if hk h v0 = (20, 2) then
  (f_J0_indexOf_7cf53 n v0 v1 0 h).bind fun o1 =>
  some (o1.1, o1.2)
  else none
set_option maxRecDepth 100000 in
set_option maxHeartbeats 4000000 in
theorem r_J0_indexOf_0f7a4_0 {X : Nat → Int32} {d : Nat} (hd : 3 ≤ (d + 1)) {n : Nat} {v0 : Nat} {v1 : Int32} {h : Hp} {o : (Int32 × Hp)} (hf : f_J0_indexOf_0f7a4_0 n v0 v1 h = some o) : Run X (d + 1) 221 0 [some (.ref v0), some (.int v1)] [] h (some (.int o.1), o.2) := by
  unfold f_J0_indexOf_0f7a4_0 at hf
  refine rs_aload_n i_J0_indexOf_0f7a4_0 rfl ?_
  refine rs_iload_n i_J0_indexOf_0f7a4_1 rfl ?_
  refine rs_iconst i_J0_indexOf_0f7a4_2 (v := 0) (by decide) ?_
  obtain ⟨c2, hf⟩ := ite_some hf
  obtain ⟨o1, e1, hf⟩ := bind_some hf
  refine rs_inV i_J0_indexOf_0f7a4_3 m_J0_indexOf_7cf53 rfl (As := [.int v1, .int 0]) (rest := []) rfl rfl (Nat.le_of_ble_eq_true rfl) c2 (c_J0_indexOf_7cf53 (by omega) e1) (st' := [.int o1.1]) rfl ?_
  have hf := Option.some.inj hf
  subst hf
  exact rs_iret i_J0_indexOf_0f7a4_6 m_J0_indexOf_0f7a4 rfl
noncomputable def f_J0_indexOf_0f7a4 (n : Nat) (v0 : Nat) (v1 : Int32) (h : Hp) : Option (Int32 × Hp) := f_J0_indexOf_0f7a4_0 n v0 v1 h
theorem c_J0_indexOf_0f7a4 {X : Nat → Int32} {d : Nat} (hd : 3 ≤ d) {n : Nat} {v0 : Nat} {v1 : Int32} {h : Hp} {o : (Int32 × Hp)} (hf : f_J0_indexOf_0f7a4 n v0 v1 h = some o) : Calls X d 221 [.ref v0, .int v1] h (some (.int o.1), o.2) := by
  obtain ⟨d, rfl⟩ : ∃ z, d = z + 1 := ⟨d - 1, by omega⟩
  exact ⟨_, rfl, r_J0_indexOf_0f7a4_0 hd hf⟩
noncomputable def f_J3_checkIndex_8e157_0 (v0 : Int32) (v1 : Int32) (h : Hp) : Option (Int32 × Hp) :=
  if v0 < 0 then
    none
  else
    if v0 < v1 then
      some (v0, h)
    else
      none
set_option maxRecDepth 100000 in
set_option maxHeartbeats 4000000 in
theorem r_J3_checkIndex_8e157_0 {X : Nat → Int32} {d : Nat} (hd : 0 ≤ d) {v0 : Int32} {v1 : Int32} {h : Hp} {o : (Int32 × Hp)} (hf : f_J3_checkIndex_8e157_0 v0 v1 h = some o) : Run X d 230 0 [some (.int v0), some (.int v1), some (.retAddr 0)] [] h (some (.int o.1), o.2) := by
  unfold f_J3_checkIndex_8e157_0 at hf
  refine rs_iload_n i_J3_checkIndex_8e157_0 rfl ?_
  by_cases c1 : v0 < 0
  · replace hf := (if_pos c1).symm.trans hf
    refine rs_ifT i_J3_checkIndex_8e157_1 (ct_lt c1) (tg := 9) (by decide) ?_
    cases hf
  · replace hf := (if_neg c1).symm.trans hf
    refine rs_ifF i_J3_checkIndex_8e157_1 (cf_lt c1) ?_
    refine rs_iload_n i_J3_checkIndex_8e157_4 rfl ?_
    refine rs_iload_n i_J3_checkIndex_8e157_5 rfl ?_
    by_cases c2 : v0 < v1
    · replace hf := (if_pos c2).symm.trans hf
      refine rs_icT i_J3_checkIndex_8e157_6 (ct_lt c2) (tg := 16) (by decide) ?_
      refine rs_iload_n i_J3_checkIndex_8e157_16 rfl ?_
      have hf := Option.some.inj hf
      subst hf
      exact rs_iret i_J3_checkIndex_8e157_17 m_J3_checkIndex_8e157 rfl
    · replace hf := (if_neg c2).symm.trans hf
      refine rs_icF i_J3_checkIndex_8e157_6 (cf_lt c2) ?_
      cases hf
noncomputable def f_J3_checkIndex_8e157 (v0 : Int32) (v1 : Int32) (h : Hp) : Option (Int32 × Hp) := f_J3_checkIndex_8e157_0 v0 v1 h
theorem c_J3_checkIndex_8e157 {X : Nat → Int32} {d : Nat} (hd : 0 ≤ d) {v0 : Int32} {v1 : Int32} {h : Hp} {o : (Int32 × Hp)} (hf : f_J3_checkIndex_8e157 v0 v1 h = some o) : Calls X d 230 [.int v0, .int v1, .retAddr 0] h (some (.int o.1), o.2) := by
  exact ⟨_, rfl, r_J3_checkIndex_8e157_0 hd hf⟩
noncomputable def f_J0_checkIndex_df160_0 (v0 : Int32) (v1 : Int32) (h : Hp) : Option Hp :=
  (f_J3_checkIndex_8e157 v0 v1 h).bind fun o1 =>
  some o1.2
set_option maxRecDepth 100000 in
set_option maxHeartbeats 4000000 in
theorem r_J0_checkIndex_df160_0 {X : Nat → Int32} {d : Nat} (hd : 1 ≤ (d + 1)) {v0 : Int32} {v1 : Int32} {h : Hp} {o : Hp} (hf : f_J0_checkIndex_df160_0 v0 v1 h = some o) : Run X (d + 1) 225 0 [some (.int v0), some (.int v1)] [] h (none, o) := by
  unfold f_J0_checkIndex_df160_0 at hf
  refine rs_iload_n i_J0_checkIndex_df160_0 rfl ?_
  refine rs_iload_n i_J0_checkIndex_df160_1 rfl ?_
  refine rs_gst2 i_J0_checkIndex_df160_2 rfl ?_
  obtain ⟨o1, e1, hf⟩ := bind_some hf
  refine rs_inS i_J0_checkIndex_df160_5 (by decide) m_J3_checkIndex_8e157 rfl (As := [.int v0, .int v1, .retAddr 0]) (rest := []) rfl rfl (Nat.le_of_ble_eq_true rfl) (c_J3_checkIndex_8e157 (by omega) e1) (st' := [.int o1.1]) rfl ?_
  refine rs_pop i_J0_checkIndex_df160_8 rfl ?_
  have hf := Option.some.inj hf
  subst hf
  exact rs_vret i_J0_checkIndex_df160_9 m_J0_checkIndex_df160 rfl
noncomputable def f_J0_checkIndex_df160 (v0 : Int32) (v1 : Int32) (h : Hp) : Option Hp := f_J0_checkIndex_df160_0 v0 v1 h
theorem c_J0_checkIndex_df160 {X : Nat → Int32} {d : Nat} (hd : 1 ≤ d) {v0 : Int32} {v1 : Int32} {h : Hp} {o : Hp} (hf : f_J0_checkIndex_df160 v0 v1 h = some o) : Calls X d 225 [.int v0, .int v1] h (none, o) := by
  obtain ⟨d, rfl⟩ : ∃ z, d = z + 1 := ⟨d - 1, by omega⟩
  exact ⟨_, rfl, r_J0_checkIndex_df160_0 hd hf⟩
noncomputable def f_J1_charAt_3b067_0 (v0 : Nat) (v1 : Int32) (h : Hp) : Option (Int32 × Hp) :=
  if (hk h v0).1 = 21 then
  (f_J0_checkIndex_df160 v1 (Int32.ofNat (hk h v0).2) h).bind fun o2 =>
  if okB o2 v0 v1 then
  if ¬ v0 = 14 then
  if narrow .char (.int (((Int32.toUInt32 ((roC v0 (ix v1)) &&& 255)) % 65536).toInt32)) = .int (((Int32.toUInt32 ((roC v0 (ix v1)) &&& 255)) % 65536).toInt32) then
  some ((((Int32.toUInt32 ((roC v0 (ix v1)) &&& 255)) % 65536).toInt32), o2)
  else none
  else none
  else none
  else none
set_option maxRecDepth 100000 in
set_option maxHeartbeats 4000000 in
theorem r_J1_charAt_3b067_0 {X : Nat → Int32} {d : Nat} (hd : 2 ≤ (d + 1)) {v0 : Nat} {v1 : Int32} {h : Hp} {o : (Int32 × Hp)} (hf : f_J1_charAt_3b067_0 v0 v1 h = some o) : Run X (d + 1) 226 0 [some (.ref v0), some (.int v1)] [] h (some (.int o.1), o.2) := by
  unfold f_J1_charAt_3b067_0 at hf
  refine rs_iload_n i_J1_charAt_3b067_0 rfl ?_
  refine rs_aload_n i_J1_charAt_3b067_1 rfl ?_
  obtain ⟨c1, hf⟩ := ite_some hf
  refine rs_alB i_J1_charAt_3b067_2 c1 ?_
  obtain ⟨o2, e2, hf⟩ := bind_some hf
  refine rs_inS i_J1_charAt_3b067_3 (by decide) m_J0_checkIndex_df160 rfl (As := [.int v1, .int (Int32.ofNat (hk h v0).2)]) (rest := []) rfl rfl (Nat.le_of_ble_eq_true rfl) (c_J0_checkIndex_df160 (by omega) e2) (st' := []) rfl ?_
  refine rs_aload_n i_J1_charAt_3b067_6 rfl ?_
  refine rs_iload_n i_J1_charAt_3b067_7 rfl ?_
  obtain ⟨c3, hf⟩ := ite_some hf
  obtain ⟨c4, hf⟩ := ite_some hf
  refine rs_bald i_J1_charAt_3b067_8 c3 c4 ?_
  refine rs_sipush i_J1_charAt_3b067_9 (v := 255) (by decide) ?_
  refine rs_iand i_J1_charAt_3b067_12 ?_
  refine rs_i2c i_J1_charAt_3b067_13 ?_
  obtain ⟨c5, hf⟩ := ite_some hf
  have hf := Option.some.inj hf
  subst hf
  exact rs_iret i_J1_charAt_3b067_14 m_J1_charAt_3b067 (decide_eq_true c5)
noncomputable def f_J1_charAt_3b067 (v0 : Nat) (v1 : Int32) (h : Hp) : Option (Int32 × Hp) := f_J1_charAt_3b067_0 v0 v1 h
theorem c_J1_charAt_3b067 {X : Nat → Int32} {d : Nat} (hd : 2 ≤ d) {v0 : Nat} {v1 : Int32} {h : Hp} {o : (Int32 × Hp)} (hf : f_J1_charAt_3b067 v0 v1 h = some o) : Calls X d 226 [.ref v0, .int v1] h (some (.int o.1), o.2) := by
  obtain ⟨d, rfl⟩ : ∃ z, d = z + 1 := ⟨d - 1, by omega⟩
  exact ⟨_, rfl, r_J1_charAt_3b067_0 hd hf⟩
noncomputable def f_J0_charAt_5068e_0 (v0 : Nat) (v1 : Int32) (h : Hp) : Option (Int32 × Hp) :=
  if hk h v0 = (20, 2) then
  (f_J0_isLatin1_aae02 v0 h).bind fun o1 =>
  if o1.1 = 0 then
    if hk o1.2 v0 = (20, 2) then
    none
    else none
  else
    if hk o1.2 v0 = (20, 2) then
    (f_J1_charAt_3b067 (v0 + 3) v1 o1.2).bind fun o6 =>
    if narrow .char (.int o6.1) = .int o6.1 then
    some (o6.1, o6.2)
    else none
    else none
  else none
set_option maxRecDepth 100000 in
set_option maxHeartbeats 4000000 in
theorem r_J0_charAt_5068e_0 {X : Nat → Int32} {d : Nat} (hd : 3 ≤ (d + 1)) {v0 : Nat} {v1 : Int32} {h : Hp} {o : (Int32 × Hp)} (hf : f_J0_charAt_5068e_0 v0 v1 h = some o) : Run X (d + 1) 220 0 [some (.ref v0), some (.int v1)] [] h (some (.int o.1), o.2) := by
  unfold f_J0_charAt_5068e_0 at hf
  refine rs_aload_n i_J0_charAt_5068e_0 rfl ?_
  obtain ⟨c2, hf⟩ := ite_some hf
  obtain ⟨o1, e1, hf⟩ := bind_some hf
  refine rs_inV i_J0_charAt_5068e_1 m_J0_isLatin1_aae02 rfl (As := []) (rest := []) rfl rfl (Nat.le_of_ble_eq_true rfl) c2 (c_J0_isLatin1_aae02 (by omega) e1) (st' := [.int o1.1]) rfl ?_
  by_cases c3 : o1.1 = 0
  · replace hf := (if_pos c3).symm.trans hf
    refine rs_ifT i_J0_charAt_5068e_4 (ct_eq c3) (tg := 16) (by decide) ?_
    refine rs_aload_n i_J0_charAt_5068e_16 rfl ?_
    obtain ⟨c4, hf⟩ := ite_some hf
    cases hf
  · replace hf := (if_neg c3).symm.trans hf
    refine rs_ifF i_J0_charAt_5068e_4 (cf_eq c3) ?_
    refine rs_aload_n i_J0_charAt_5068e_7 rfl ?_
    obtain ⟨c5, hf⟩ := ite_some hf
    refine rs_getSv i_J0_charAt_5068e_8 c5 ?_
    refine rs_iload_n i_J0_charAt_5068e_11 rfl ?_
    obtain ⟨o6, e6, hf⟩ := bind_some hf
    refine rs_inS i_J0_charAt_5068e_12 (by decide) m_J1_charAt_3b067 rfl (As := [.ref (v0 + 3), .int v1]) (rest := []) rfl rfl (Nat.le_of_ble_eq_true rfl) (c_J1_charAt_3b067 (by omega) e6) (st' := [.int o6.1]) rfl ?_
    obtain ⟨c7, hf⟩ := ite_some hf
    have hf := Option.some.inj hf
    subst hf
    exact rs_iret i_J0_charAt_5068e_15 m_J0_charAt_5068e (decide_eq_true c7)
noncomputable def f_J0_charAt_5068e (v0 : Nat) (v1 : Int32) (h : Hp) : Option (Int32 × Hp) := f_J0_charAt_5068e_0 v0 v1 h
theorem c_J0_charAt_5068e {X : Nat → Int32} {d : Nat} (hd : 3 ≤ d) {v0 : Nat} {v1 : Int32} {h : Hp} {o : (Int32 × Hp)} (hf : f_J0_charAt_5068e v0 v1 h = some o) : Calls X d 220 [.ref v0, .int v1] h (some (.int o.1), o.2) := by
  obtain ⟨d, rfl⟩ : ∃ z, d = z + 1 := ⟨d - 1, by omega⟩
  exact ⟨_, rfl, r_J0_charAt_5068e_0 hd hf⟩
noncomputable def f_X3_init_81 (v0 : Nat) (v1 : Nat) (h : Hp) : Option Hp :=
  if okO h v0 3 then
  if 16 ≤ v1 then
  some (hsr h v0 6 (some v1))
  else none
  else none
set_option maxRecDepth 100000 in
set_option maxHeartbeats 4000000 in
theorem r_X3_init_81 {X : Nat → Int32} {d : Nat} (hd : 0 ≤ d) {v0 : Nat} {v1 : Nat} {h : Hp} {o : Hp} (hf : f_X3_init_81 v0 v1 h = some o) : Run X d 27 81 [some (.ref v0), some (.ref v1)] [] h (none, o) := by
  unfold f_X3_init_81 at hf
  refine rs_aload_n i_X3_init_81 rfl ?_
  refine rs_aload_n i_X3_init_82 rfl ?_
  obtain ⟨c1, hf⟩ := ite_some hf
  obtain ⟨c2, hf⟩ := ite_some hf
  refine rs_putR i_X3_init_83 (by decide) c2 c1 ?_
  have hf := Option.some.inj hf
  subst hf
  exact rs_vret i_X3_init_86 m_X3_init rfl
noncomputable def f_X3_init_74 (v0 : Nat) (v1 : Nat) (h : Hp) : Option Hp :=
  if okO h v0 3 then
  f_X3_init_81 v0 v1 (hsl h v0 11 1000000000)
  else none
set_option maxRecDepth 100000 in
set_option maxHeartbeats 4000000 in
theorem r_X3_init_74 {X : Nat → Int32} {d : Nat} (hd : 0 ≤ d) {v0 : Nat} {v1 : Nat} {h : Hp} {o : Hp} (hf : f_X3_init_74 v0 v1 h = some o) : Run X d 27 74 [some (.ref v0), some (.ref v1)] [] h (none, o) := by
  unfold f_X3_init_74 at hf
  refine rs_aload_n i_X3_init_74 rfl ?_
  refine rs_ldc2 i_X3_init_75 (v := 1000000000) (by decide) ?_
  obtain ⟨c1, hf⟩ := ite_some hf
  refine rs_putL i_X3_init_78 (by decide) c1 ?_
  exact r_X3_init_81 hd hf
noncomputable def f_X3_init_67 (v0 : Nat) (v1 : Nat) (h : Hp) : Option Hp :=
  if okO h v0 3 then
  f_X3_init_74 v0 v1 (hsl h v0 10 1000000000)
  else none
set_option maxRecDepth 100000 in
set_option maxHeartbeats 4000000 in
theorem r_X3_init_67 {X : Nat → Int32} {d : Nat} (hd : 0 ≤ d) {v0 : Nat} {v1 : Nat} {h : Hp} {o : Hp} (hf : f_X3_init_67 v0 v1 h = some o) : Run X d 27 67 [some (.ref v0), some (.ref v1)] [] h (none, o) := by
  unfold f_X3_init_67 at hf
  refine rs_aload_n i_X3_init_67 rfl ?_
  refine rs_ldc2 i_X3_init_68 (v := 1000000000) (by decide) ?_
  obtain ⟨c1, hf⟩ := ite_some hf
  refine rs_putL i_X3_init_71 (by decide) c1 ?_
  exact r_X3_init_74 hd hf
noncomputable def f_X3_init_62 (v0 : Nat) (v1 : Nat) (h : Hp) : Option Hp :=
  if okO h v0 3 then
  f_X3_init_67 v0 v1 (hsi h v0 9 0)
  else none
set_option maxRecDepth 100000 in
set_option maxHeartbeats 4000000 in
theorem r_X3_init_62 {X : Nat → Int32} {d : Nat} (hd : 0 ≤ d) {v0 : Nat} {v1 : Nat} {h : Hp} {o : Hp} (hf : f_X3_init_62 v0 v1 h = some o) : Run X d 27 62 [some (.ref v0), some (.ref v1)] [] h (none, o) := by
  unfold f_X3_init_62 at hf
  refine rs_aload_n i_X3_init_62 rfl ?_
  refine rs_iconst i_X3_init_63 (v := 0) (by decide) ?_
  obtain ⟨c1, hf⟩ := ite_some hf
  refine rs_putI i_X3_init_64 (by decide) c1 ?_
  exact r_X3_init_67 hd hf
noncomputable def f_X3_init_57 (v0 : Nat) (v1 : Nat) (h : Hp) : Option Hp :=
  if okO h v0 3 then
  f_X3_init_62 v0 v1 (hsi h v0 8 0)
  else none
set_option maxRecDepth 100000 in
set_option maxHeartbeats 4000000 in
theorem r_X3_init_57 {X : Nat → Int32} {d : Nat} (hd : 0 ≤ d) {v0 : Nat} {v1 : Nat} {h : Hp} {o : Hp} (hf : f_X3_init_57 v0 v1 h = some o) : Run X d 27 57 [some (.ref v0), some (.ref v1)] [] h (none, o) := by
  unfold f_X3_init_57 at hf
  refine rs_aload_n i_X3_init_57 rfl ?_
  refine rs_iconst i_X3_init_58 (v := 0) (by decide) ?_
  obtain ⟨c1, hf⟩ := ite_some hf
  refine rs_putI i_X3_init_59 (by decide) c1 ?_
  exact r_X3_init_62 hd hf
noncomputable def f_X3_init_52 (v0 : Nat) (v1 : Nat) (h : Hp) : Option Hp :=
  if okO h v0 3 then
  f_X3_init_57 v0 v1 (hsi h v0 7 0)
  else none
set_option maxRecDepth 100000 in
set_option maxHeartbeats 4000000 in
theorem r_X3_init_52 {X : Nat → Int32} {d : Nat} (hd : 0 ≤ d) {v0 : Nat} {v1 : Nat} {h : Hp} {o : Hp} (hf : f_X3_init_52 v0 v1 h = some o) : Run X d 27 52 [some (.ref v0), some (.ref v1)] [] h (none, o) := by
  unfold f_X3_init_52 at hf
  refine rs_aload_n i_X3_init_52 rfl ?_
  refine rs_iconst i_X3_init_53 (v := 0) (by decide) ?_
  obtain ⟨c1, hf⟩ := ite_some hf
  refine rs_putI i_X3_init_54 (by decide) c1 ?_
  exact r_X3_init_57 hd hf
noncomputable def f_X3_init_49 (v0 : Nat) (v1 : Nat) (s0 : Nat) (s1 : Nat) (h : Hp) : Option Hp :=
  if okO h s0 3 then
  if 16 ≤ s1 then
  f_X3_init_52 v0 v1 (hsr h s0 5 (some s1))
  else none
  else none
set_option maxRecDepth 100000 in
set_option maxHeartbeats 4000000 in
theorem r_X3_init_49 {X : Nat → Int32} {d : Nat} (hd : 0 ≤ d) {v0 : Nat} {v1 : Nat} {s0 : Nat} {s1 : Nat} {h : Hp} {o : Hp} (hf : f_X3_init_49 v0 v1 s0 s1 h = some o) : Run X d 27 49 [some (.ref v0), some (.ref v1)] [.ref s1, .ref s0] h (none, o) := by
  unfold f_X3_init_49 at hf
  obtain ⟨c1, hf⟩ := ite_some hf
  obtain ⟨c2, hf⟩ := ite_some hf
  refine rs_putR i_X3_init_49 (by decide) c2 c1 ?_
  exact r_X3_init_52 hd hf
noncomputable def f_X3_init_44 (v0 : Nat) (v1 : Nat) (h : Hp) : Option Hp :=
  f_X3_init_49 v0 v1 v0 h.1.length (hnew h (10, ix 12))
set_option maxRecDepth 100000 in
set_option maxHeartbeats 4000000 in
theorem r_X3_init_44 {X : Nat → Int32} {d : Nat} (hd : 0 ≤ d) {v0 : Nat} {v1 : Nat} {h : Hp} {o : Hp} (hf : f_X3_init_44 v0 v1 h = some o) : Run X d 27 44 [some (.ref v0), some (.ref v1)] [] h (none, o) := by
  unfold f_X3_init_44 at hf
  refine rs_aload_n i_X3_init_44 rfl ?_
  refine rs_bipush i_X3_init_45 (v := 12) (by decide) ?_
  refine rs_newa i_X3_init_47 (by decide) ?_
  exact r_X3_init_49 hd hf
noncomputable def f_X3_init_41 (v0 : Nat) (v1 : Nat) (s0 : Nat) (s1 : Nat) (h : Hp) : Option Hp :=
  if okO h s0 3 then
  if 16 ≤ s1 then
  f_X3_init_44 v0 v1 (hsr h s0 4 (some s1))
  else none
  else none
set_option maxRecDepth 100000 in
set_option maxHeartbeats 4000000 in
theorem r_X3_init_41 {X : Nat → Int32} {d : Nat} (hd : 0 ≤ d) {v0 : Nat} {v1 : Nat} {s0 : Nat} {s1 : Nat} {h : Hp} {o : Hp} (hf : f_X3_init_41 v0 v1 s0 s1 h = some o) : Run X d 27 41 [some (.ref v0), some (.ref v1)] [.ref s1, .ref s0] h (none, o) := by
  unfold f_X3_init_41 at hf
  obtain ⟨c1, hf⟩ := ite_some hf
  obtain ⟨c2, hf⟩ := ite_some hf
  refine rs_putR i_X3_init_41 (by decide) c2 c1 ?_
  exact r_X3_init_44 hd hf
noncomputable def f_X3_init_36 (v0 : Nat) (v1 : Nat) (h : Hp) : Option Hp :=
  f_X3_init_41 v0 v1 v0 h.1.length (hnew h (9, ix 12))
set_option maxRecDepth 100000 in
set_option maxHeartbeats 4000000 in
theorem r_X3_init_36 {X : Nat → Int32} {d : Nat} (hd : 0 ≤ d) {v0 : Nat} {v1 : Nat} {h : Hp} {o : Hp} (hf : f_X3_init_36 v0 v1 h = some o) : Run X d 27 36 [some (.ref v0), some (.ref v1)] [] h (none, o) := by
  unfold f_X3_init_36 at hf
  refine rs_aload_n i_X3_init_36 rfl ?_
  refine rs_bipush i_X3_init_37 (v := 12) (by decide) ?_
  refine rs_newa i_X3_init_39 (by decide) ?_
  exact r_X3_init_41 hd hf
noncomputable def f_X3_init_33 (v0 : Nat) (v1 : Nat) (s0 : Nat) (s1 : Nat) (h : Hp) : Option Hp :=
  if okO h s0 3 then
  if 16 ≤ s1 then
  f_X3_init_36 v0 v1 (hsr h s0 3 (some s1))
  else none
  else none
set_option maxRecDepth 100000 in
set_option maxHeartbeats 4000000 in
theorem r_X3_init_33 {X : Nat → Int32} {d : Nat} (hd : 0 ≤ d) {v0 : Nat} {v1 : Nat} {s0 : Nat} {s1 : Nat} {h : Hp} {o : Hp} (hf : f_X3_init_33 v0 v1 s0 s1 h = some o) : Run X d 27 33 [some (.ref v0), some (.ref v1)] [.ref s1, .ref s0] h (none, o) := by
  unfold f_X3_init_33 at hf
  obtain ⟨c1, hf⟩ := ite_some hf
  obtain ⟨c2, hf⟩ := ite_some hf
  refine rs_putR i_X3_init_33 (by decide) c2 c1 ?_
  exact r_X3_init_36 hd hf
noncomputable def f_X3_init_28 (v0 : Nat) (v1 : Nat) (h : Hp) : Option Hp :=
  f_X3_init_33 v0 v1 v0 h.1.length (hnew h (9, ix 12))
set_option maxRecDepth 100000 in
set_option maxHeartbeats 4000000 in
theorem r_X3_init_28 {X : Nat → Int32} {d : Nat} (hd : 0 ≤ d) {v0 : Nat} {v1 : Nat} {h : Hp} {o : Hp} (hf : f_X3_init_28 v0 v1 h = some o) : Run X d 27 28 [some (.ref v0), some (.ref v1)] [] h (none, o) := by
  unfold f_X3_init_28 at hf
  refine rs_aload_n i_X3_init_28 rfl ?_
  refine rs_bipush i_X3_init_29 (v := 12) (by decide) ?_
  refine rs_newa i_X3_init_31 (by decide) ?_
  exact r_X3_init_33 hd hf
noncomputable def f_X3_init_25 (v0 : Nat) (v1 : Nat) (s0 : Nat) (s1 : Nat) (h : Hp) : Option Hp :=
  if okO h s0 3 then
  if 16 ≤ s1 then
  f_X3_init_28 v0 v1 (hsr h s0 2 (some s1))
  else none
  else none
set_option maxRecDepth 100000 in
set_option maxHeartbeats 4000000 in
theorem r_X3_init_25 {X : Nat → Int32} {d : Nat} (hd : 0 ≤ d) {v0 : Nat} {v1 : Nat} {s0 : Nat} {s1 : Nat} {h : Hp} {o : Hp} (hf : f_X3_init_25 v0 v1 s0 s1 h = some o) : Run X d 27 25 [some (.ref v0), some (.ref v1)] [.ref s1, .ref s0] h (none, o) := by
  unfold f_X3_init_25 at hf
  obtain ⟨c1, hf⟩ := ite_some hf
  obtain ⟨c2, hf⟩ := ite_some hf
  refine rs_putR i_X3_init_25 (by decide) c2 c1 ?_
  exact r_X3_init_28 hd hf
noncomputable def f_X3_init_20 (v0 : Nat) (v1 : Nat) (h : Hp) : Option Hp :=
  f_X3_init_25 v0 v1 v0 h.1.length (hnew h (9, ix 12))
set_option maxRecDepth 100000 in
set_option maxHeartbeats 4000000 in
theorem r_X3_init_20 {X : Nat → Int32} {d : Nat} (hd : 0 ≤ d) {v0 : Nat} {v1 : Nat} {h : Hp} {o : Hp} (hf : f_X3_init_20 v0 v1 h = some o) : Run X d 27 20 [some (.ref v0), some (.ref v1)] [] h (none, o) := by
  unfold f_X3_init_20 at hf
  refine rs_aload_n i_X3_init_20 rfl ?_
  refine rs_bipush i_X3_init_21 (v := 12) (by decide) ?_
  refine rs_newa i_X3_init_23 (by decide) ?_
  exact r_X3_init_25 hd hf
noncomputable def f_X3_init_17 (v0 : Nat) (v1 : Nat) (s0 : Nat) (s1 : Nat) (h : Hp) : Option Hp :=
  if okO h s0 3 then
  if 16 ≤ s1 then
  f_X3_init_20 v0 v1 (hsr h s0 1 (some s1))
  else none
  else none
set_option maxRecDepth 100000 in
set_option maxHeartbeats 4000000 in
theorem r_X3_init_17 {X : Nat → Int32} {d : Nat} (hd : 0 ≤ d) {v0 : Nat} {v1 : Nat} {s0 : Nat} {s1 : Nat} {h : Hp} {o : Hp} (hf : f_X3_init_17 v0 v1 s0 s1 h = some o) : Run X d 27 17 [some (.ref v0), some (.ref v1)] [.ref s1, .ref s0] h (none, o) := by
  unfold f_X3_init_17 at hf
  obtain ⟨c1, hf⟩ := ite_some hf
  obtain ⟨c2, hf⟩ := ite_some hf
  refine rs_putR i_X3_init_17 (by decide) c2 c1 ?_
  exact r_X3_init_20 hd hf
noncomputable def f_X3_init_12 (v0 : Nat) (v1 : Nat) (h : Hp) : Option Hp :=
  f_X3_init_17 v0 v1 v0 h.1.length (hnew h (9, ix 12))
set_option maxRecDepth 100000 in
set_option maxHeartbeats 4000000 in
theorem r_X3_init_12 {X : Nat → Int32} {d : Nat} (hd : 0 ≤ d) {v0 : Nat} {v1 : Nat} {h : Hp} {o : Hp} (hf : f_X3_init_12 v0 v1 h = some o) : Run X d 27 12 [some (.ref v0), some (.ref v1)] [] h (none, o) := by
  unfold f_X3_init_12 at hf
  refine rs_aload_n i_X3_init_12 rfl ?_
  refine rs_bipush i_X3_init_13 (v := 12) (by decide) ?_
  refine rs_newa i_X3_init_15 (by decide) ?_
  exact r_X3_init_17 hd hf
noncomputable def f_X3_init_9 (v0 : Nat) (v1 : Nat) (s0 : Nat) (s1 : Nat) (h : Hp) : Option Hp :=
  if okO h s0 3 then
  if 16 ≤ s1 then
  f_X3_init_12 v0 v1 (hsr h s0 0 (some s1))
  else none
  else none
set_option maxRecDepth 100000 in
set_option maxHeartbeats 4000000 in
theorem r_X3_init_9 {X : Nat → Int32} {d : Nat} (hd : 0 ≤ d) {v0 : Nat} {v1 : Nat} {s0 : Nat} {s1 : Nat} {h : Hp} {o : Hp} (hf : f_X3_init_9 v0 v1 s0 s1 h = some o) : Run X d 27 9 [some (.ref v0), some (.ref v1)] [.ref s1, .ref s0] h (none, o) := by
  unfold f_X3_init_9 at hf
  obtain ⟨c1, hf⟩ := ite_some hf
  obtain ⟨c2, hf⟩ := ite_some hf
  refine rs_putR i_X3_init_9 (by decide) c2 c1 ?_
  exact r_X3_init_12 hd hf
noncomputable def f_X3_init_0 (v0 : Nat) (v1 : Nat) (h : Hp) : Option Hp :=
  f_X3_init_9 v0 v1 v0 h.1.length (hnew h (9, ix 12))
set_option maxRecDepth 100000 in
set_option maxHeartbeats 4000000 in
theorem r_X3_init_0 {X : Nat → Int32} {d : Nat} (hd : 0 ≤ d) {v0 : Nat} {v1 : Nat} {h : Hp} {o : Hp} (hf : f_X3_init_0 v0 v1 h = some o) : Run X d 27 0 [some (.ref v0), some (.ref v1)] [] h (none, o) := by
  unfold f_X3_init_0 at hf
  refine rs_aload_n i_X3_init_0 rfl ?_
  refine rs_objI i_X3_init_1 (Nat.le_of_ble_eq_true rfl) ?_
  refine rs_aload_n i_X3_init_4 rfl ?_
  refine rs_bipush i_X3_init_5 (v := 12) (by decide) ?_
  refine rs_newa i_X3_init_7 (by decide) ?_
  exact r_X3_init_9 hd hf
noncomputable def f_X3_init (v0 : Nat) (v1 : Nat) (h : Hp) : Option Hp := f_X3_init_0 v0 v1 h
theorem c_X3_init {X : Nat → Int32} {d : Nat} (hd : 0 ≤ d) {v0 : Nat} {v1 : Nat} {h : Hp} {o : Hp} (hf : f_X3_init v0 v1 h = some o) : Calls X d 27 [.ref v0, .ref v1] h (none, o) := by
  exact ⟨_, rfl, r_X3_init_0 hd hf⟩
noncomputable def f_X4_init_17 (v0 : Nat) (h : Hp) : Option Hp :=
  if okO h v0 4 then
  some (hsi h v0 2 0)
  else none
set_option maxRecDepth 100000 in
set_option maxHeartbeats 4000000 in
theorem r_X4_init_17 {X : Nat → Int32} {d : Nat} (hd : 0 ≤ d) {v0 : Nat} {h : Hp} {o : Hp} (hf : f_X4_init_17 v0 h = some o) : Run X d 50 17 [some (.ref v0)] [] h (none, o) := by
  unfold f_X4_init_17 at hf
  refine rs_aload_n i_X4_init_17 rfl ?_
  refine rs_iconst i_X4_init_18 (v := 0) (by decide) ?_
  obtain ⟨c1, hf⟩ := ite_some hf
  refine rs_putI i_X4_init_19 (by decide) c1 ?_
  have hf := Option.some.inj hf
  subst hf
  exact rs_vret i_X4_init_22 m_X4_init rfl
noncomputable def f_X4_init_12 (v0 : Nat) (h : Hp) : Option Hp :=
  if okO h v0 4 then
  f_X4_init_17 v0 (hsi h v0 1 (-1))
  else none
set_option maxRecDepth 100000 in
set_option maxHeartbeats 4000000 in
theorem r_X4_init_12 {X : Nat → Int32} {d : Nat} (hd : 0 ≤ d) {v0 : Nat} {h : Hp} {o : Hp} (hf : f_X4_init_12 v0 h = some o) : Run X d 50 12 [some (.ref v0)] [] h (none, o) := by
  unfold f_X4_init_12 at hf
  refine rs_aload_n i_X4_init_12 rfl ?_
  refine rs_iconst i_X4_init_13 (v := (-1)) (by decide) ?_
  obtain ⟨c1, hf⟩ := ite_some hf
  refine rs_putI i_X4_init_14 (by decide) c1 ?_
  exact r_X4_init_17 hd hf
noncomputable def f_X4_init_9 (v0 : Nat) (s0 : Nat) (s1 : Nat) (h : Hp) : Option Hp :=
  if okO h s0 4 then
  if 16 ≤ s1 then
  f_X4_init_12 v0 (hsr h s0 0 (some s1))
  else none
  else none
set_option maxRecDepth 100000 in
set_option maxHeartbeats 4000000 in
theorem r_X4_init_9 {X : Nat → Int32} {d : Nat} (hd : 0 ≤ d) {v0 : Nat} {s0 : Nat} {s1 : Nat} {h : Hp} {o : Hp} (hf : f_X4_init_9 v0 s0 s1 h = some o) : Run X d 50 9 [some (.ref v0)] [.ref s1, .ref s0] h (none, o) := by
  unfold f_X4_init_9 at hf
  obtain ⟨c1, hf⟩ := ite_some hf
  obtain ⟨c2, hf⟩ := ite_some hf
  refine rs_putR i_X4_init_9 (by decide) c2 c1 ?_
  exact r_X4_init_12 hd hf
noncomputable def f_X4_init_0 (v0 : Nat) (h : Hp) : Option Hp :=
  f_X4_init_9 v0 v0 h.1.length (hnew h (9, ix 40))
set_option maxRecDepth 100000 in
set_option maxHeartbeats 4000000 in
theorem r_X4_init_0 {X : Nat → Int32} {d : Nat} (hd : 0 ≤ d) {v0 : Nat} {h : Hp} {o : Hp} (hf : f_X4_init_0 v0 h = some o) : Run X d 50 0 [some (.ref v0)] [] h (none, o) := by
  unfold f_X4_init_0 at hf
  refine rs_aload_n i_X4_init_0 rfl ?_
  refine rs_objI i_X4_init_1 (Nat.le_of_ble_eq_true rfl) ?_
  refine rs_aload_n i_X4_init_4 rfl ?_
  refine rs_bipush i_X4_init_5 (v := 40) (by decide) ?_
  refine rs_newa i_X4_init_7 (by decide) ?_
  exact r_X4_init_9 hd hf
noncomputable def f_X4_init (v0 : Nat) (h : Hp) : Option Hp := f_X4_init_0 v0 h
theorem c_X4_init {X : Nat → Int32} {d : Nat} (hd : 0 ≤ d) {v0 : Nat} {h : Hp} {o : Hp} (hf : f_X4_init v0 h = some o) : Calls X d 50 [.ref v0] h (none, o) := by
  exact ⟨_, rfl, r_X4_init_0 hd hf⟩
noncomputable def f_X5_init_14 (v0 : Nat) (h : Hp) : Option Hp :=
  if okO h v0 5 then
  some (hsi h v0 2 1)
  else none
set_option maxRecDepth 100000 in
set_option maxHeartbeats 4000000 in
theorem r_X5_init_14 {X : Nat → Int32} {d : Nat} (hd : 0 ≤ d) {v0 : Nat} {h : Hp} {o : Hp} (hf : f_X5_init_14 v0 h = some o) : Run X d 54 14 [some (.ref v0)] [] h (none, o) := by
  unfold f_X5_init_14 at hf
  refine rs_aload_n i_X5_init_14 rfl ?_
  refine rs_iconst i_X5_init_15 (v := 1) (by decide) ?_
  obtain ⟨c1, hf⟩ := ite_some hf
  refine rs_putI i_X5_init_16 (by decide) c1 ?_
  have hf := Option.some.inj hf
  subst hf
  exact rs_vret i_X5_init_19 m_X5_init rfl
noncomputable def f_X5_init_9 (v0 : Nat) (h : Hp) : Option Hp :=
  if okO h v0 5 then
  f_X5_init_14 v0 (hsi h v0 1 0)
  else none
set_option maxRecDepth 100000 in
set_option maxHeartbeats 4000000 in
theorem r_X5_init_9 {X : Nat → Int32} {d : Nat} (hd : 0 ≤ d) {v0 : Nat} {h : Hp} {o : Hp} (hf : f_X5_init_9 v0 h = some o) : Run X d 54 9 [some (.ref v0)] [] h (none, o) := by
  unfold f_X5_init_9 at hf
  refine rs_aload_n i_X5_init_9 rfl ?_
  refine rs_iconst i_X5_init_10 (v := 0) (by decide) ?_
  obtain ⟨c1, hf⟩ := ite_some hf
  refine rs_putI i_X5_init_11 (by decide) c1 ?_
  exact r_X5_init_14 hd hf
noncomputable def f_X5_init_0 (v0 : Nat) (h : Hp) : Option Hp :=
  if okO h v0 5 then
  f_X5_init_9 v0 (hsi h v0 0 0)
  else none
set_option maxRecDepth 100000 in
set_option maxHeartbeats 4000000 in
theorem r_X5_init_0 {X : Nat → Int32} {d : Nat} (hd : 0 ≤ d) {v0 : Nat} {h : Hp} {o : Hp} (hf : f_X5_init_0 v0 h = some o) : Run X d 54 0 [some (.ref v0)] [] h (none, o) := by
  unfold f_X5_init_0 at hf
  refine rs_aload_n i_X5_init_0 rfl ?_
  refine rs_objI i_X5_init_1 (Nat.le_of_ble_eq_true rfl) ?_
  refine rs_aload_n i_X5_init_4 rfl ?_
  refine rs_iconst i_X5_init_5 (v := 0) (by decide) ?_
  obtain ⟨c1, hf⟩ := ite_some hf
  refine rs_putI i_X5_init_6 (by decide) c1 ?_
  exact r_X5_init_9 hd hf
noncomputable def f_X5_init (v0 : Nat) (h : Hp) : Option Hp := f_X5_init_0 v0 h
theorem c_X5_init {X : Nat → Int32} {d : Nat} (hd : 0 ≤ d) {v0 : Nat} {h : Hp} {o : Hp} (hf : f_X5_init v0 h = some o) : Calls X d 54 [.ref v0] h (none, o) := by
  exact ⟨_, rfl, r_X5_init_0 hd hf⟩
noncomputable def f_X6_init_28 (v0 : Nat) (h : Hp) : Option Hp :=
  if okO h v0 6 then
  some (hsi h v0 3 0)
  else none
set_option maxRecDepth 100000 in
set_option maxHeartbeats 4000000 in
theorem r_X6_init_28 {X : Nat → Int32} {d : Nat} (hd : 0 ≤ d) {v0 : Nat} {h : Hp} {o : Hp} (hf : f_X6_init_28 v0 h = some o) : Run X d 58 28 [some (.ref v0)] [] h (none, o) := by
  unfold f_X6_init_28 at hf
  refine rs_aload_n i_X6_init_28 rfl ?_
  refine rs_iconst i_X6_init_29 (v := 0) (by decide) ?_
  obtain ⟨c1, hf⟩ := ite_some hf
  refine rs_putI i_X6_init_30 (by decide) c1 ?_
  have hf := Option.some.inj hf
  subst hf
  exact rs_vret i_X6_init_33 m_X6_init rfl
noncomputable def f_X6_init_25 (v0 : Nat) (s0 : Nat) (s1 : Nat) (h : Hp) : Option Hp :=
  if okO h s0 6 then
  if 16 ≤ s1 then
  f_X6_init_28 v0 (hsr h s0 2 (some s1))
  else none
  else none
set_option maxRecDepth 100000 in
set_option maxHeartbeats 4000000 in
theorem r_X6_init_25 {X : Nat → Int32} {d : Nat} (hd : 0 ≤ d) {v0 : Nat} {s0 : Nat} {s1 : Nat} {h : Hp} {o : Hp} (hf : f_X6_init_25 v0 s0 s1 h = some o) : Run X d 58 25 [some (.ref v0)] [.ref s1, .ref s0] h (none, o) := by
  unfold f_X6_init_25 at hf
  obtain ⟨c1, hf⟩ := ite_some hf
  obtain ⟨c2, hf⟩ := ite_some hf
  refine rs_putR i_X6_init_25 (by decide) c2 c1 ?_
  exact r_X6_init_28 hd hf
noncomputable def f_X6_init_20 (v0 : Nat) (h : Hp) : Option Hp :=
  f_X6_init_25 v0 v0 h.1.length (hnew h (9, ix 40))
set_option maxRecDepth 100000 in
set_option maxHeartbeats 4000000 in
theorem r_X6_init_20 {X : Nat → Int32} {d : Nat} (hd : 0 ≤ d) {v0 : Nat} {h : Hp} {o : Hp} (hf : f_X6_init_20 v0 h = some o) : Run X d 58 20 [some (.ref v0)] [] h (none, o) := by
  unfold f_X6_init_20 at hf
  refine rs_aload_n i_X6_init_20 rfl ?_
  refine rs_bipush i_X6_init_21 (v := 40) (by decide) ?_
  refine rs_newa i_X6_init_23 (by decide) ?_
  exact r_X6_init_25 hd hf
noncomputable def f_X6_init_17 (v0 : Nat) (s0 : Nat) (s1 : Nat) (h : Hp) : Option Hp :=
  if okO h s0 6 then
  if 16 ≤ s1 then
  f_X6_init_20 v0 (hsr h s0 1 (some s1))
  else none
  else none
set_option maxRecDepth 100000 in
set_option maxHeartbeats 4000000 in
theorem r_X6_init_17 {X : Nat → Int32} {d : Nat} (hd : 0 ≤ d) {v0 : Nat} {s0 : Nat} {s1 : Nat} {h : Hp} {o : Hp} (hf : f_X6_init_17 v0 s0 s1 h = some o) : Run X d 58 17 [some (.ref v0)] [.ref s1, .ref s0] h (none, o) := by
  unfold f_X6_init_17 at hf
  obtain ⟨c1, hf⟩ := ite_some hf
  obtain ⟨c2, hf⟩ := ite_some hf
  refine rs_putR i_X6_init_17 (by decide) c2 c1 ?_
  exact r_X6_init_20 hd hf
noncomputable def f_X6_init_13 (v0 : Nat) (h : Hp) : Option Hp :=
  f_X6_init_17 v0 v0 h.1.length (hnew h (9, ix 3))
set_option maxRecDepth 100000 in
set_option maxHeartbeats 4000000 in
theorem r_X6_init_13 {X : Nat → Int32} {d : Nat} (hd : 0 ≤ d) {v0 : Nat} {h : Hp} {o : Hp} (hf : f_X6_init_13 v0 h = some o) : Run X d 58 13 [some (.ref v0)] [] h (none, o) := by
  unfold f_X6_init_13 at hf
  refine rs_aload_n i_X6_init_13 rfl ?_
  refine rs_iconst i_X6_init_14 (v := 3) (by decide) ?_
  refine rs_newa i_X6_init_15 (by decide) ?_
  exact r_X6_init_17 hd hf
noncomputable def f_X6_init_10 (v0 : Nat) (s0 : Nat) (s1 : Nat) (h : Hp) : Option Hp :=
  if okO h s0 6 then
  if 16 ≤ s1 then
  f_X6_init_13 v0 (hsr h s0 0 (some s1))
  else none
  else none
set_option maxRecDepth 100000 in
set_option maxHeartbeats 4000000 in
theorem r_X6_init_10 {X : Nat → Int32} {d : Nat} (hd : 0 ≤ d) {v0 : Nat} {s0 : Nat} {s1 : Nat} {h : Hp} {o : Hp} (hf : f_X6_init_10 v0 s0 s1 h = some o) : Run X d 58 10 [some (.ref v0)] [.ref s1, .ref s0] h (none, o) := by
  unfold f_X6_init_10 at hf
  obtain ⟨c1, hf⟩ := ite_some hf
  obtain ⟨c2, hf⟩ := ite_some hf
  refine rs_putR i_X6_init_10 (by decide) c2 c1 ?_
  exact r_X6_init_13 hd hf
noncomputable def f_X6_init_0 (v0 : Nat) (h : Hp) : Option Hp :=
  f_X6_init_10 v0 v0 h.1.length (hnew h (9, ix 160))
set_option maxRecDepth 100000 in
set_option maxHeartbeats 4000000 in
theorem r_X6_init_0 {X : Nat → Int32} {d : Nat} (hd : 0 ≤ d) {v0 : Nat} {h : Hp} {o : Hp} (hf : f_X6_init_0 v0 h = some o) : Run X d 58 0 [some (.ref v0)] [] h (none, o) := by
  unfold f_X6_init_0 at hf
  refine rs_aload_n i_X6_init_0 rfl ?_
  refine rs_objI i_X6_init_1 (Nat.le_of_ble_eq_true rfl) ?_
  refine rs_aload_n i_X6_init_4 rfl ?_
  refine rs_sipush i_X6_init_5 (v := 160) (by decide) ?_
  refine rs_newa i_X6_init_8 (by decide) ?_
  exact r_X6_init_10 hd hf
noncomputable def f_X6_init (v0 : Nat) (h : Hp) : Option Hp := f_X6_init_0 v0 h
theorem c_X6_init {X : Nat → Int32} {d : Nat} (hd : 0 ≤ d) {v0 : Nat} {h : Hp} {o : Hp} (hf : f_X6_init v0 h = some o) : Calls X d 58 [.ref v0] h (none, o) := by
  exact ⟨_, rfl, r_X6_init_0 hd hf⟩
noncomputable def f_X7_init_221 (n : Nat) (K232 : Nat → Hp → Option Hp) (v0 : Nat) (s0 : Nat) (s1 : Nat) (h : Hp) : Option Hp :=
  if okO h v0 7 then
  (gR h v0 6).bind fun a2 =>
  if okO h s1 3 then
  (f_X3_init s1 a2 h).bind fun o3 =>
  if okO o3 s0 7 then
  if 16 ≤ s1 then
  K232 v0 (hsr o3 s0 8 (some s1))
  else none
  else none
  else none
  else none
set_option maxRecDepth 100000 in
set_option maxHeartbeats 4000000 in
theorem r_X7_init_221 {X : Nat → Int32} {d : Nat} (hd : 109 ≤ (d + 1)) {n : Nat} {K232 : Nat → Hp → Option Hp} (HK232 : ∀ (v0 : Nat) (d1 : Int32) (h : Hp) (o : Hp), K232 v0 h = some o → Run X (d + 1) 66 232 [some (.ref v0), some (.int d1)] [] h (none, o)) {v0 : Nat} {s0 : Nat} {s1 : Nat} {d1 : Int32} {h : Hp} {o : Hp} (hf : f_X7_init_221 n K232 v0 s0 s1 h = some o) : Run X (d + 1) 66 221 [some (.ref v0), some (.int d1)] [.ref s1, .ref s0] h (none, o) := by
  unfold f_X7_init_221 at hf
  refine rs_dup i_X7_init_221 rfl ?_
  refine rs_aload_n i_X7_init_222 rfl ?_
  obtain ⟨c1, hf⟩ := ite_some hf
  obtain ⟨a2, e2, hf⟩ := bind_some hf
  refine rs_getR i_X7_init_223 (by decide) (by decide) c1 e2 ?_
  obtain ⟨c4, hf⟩ := ite_some hf
  obtain ⟨o3, e3, hf⟩ := bind_some hf
  refine rs_inI i_X7_init_226 (by decide) m_X3_init rfl (As := [.ref a2]) (rest := [.ref s1, .ref s0]) rfl rfl (Nat.le_of_ble_eq_true rfl) c4 (c_X3_init (by omega) e3) (st' := [.ref s1, .ref s0]) rfl ?_
  obtain ⟨c5, hf⟩ := ite_some hf
  obtain ⟨c6, hf⟩ := ite_some hf
  refine rs_putR i_X7_init_229 (by decide) c6 c5 ?_
  exact HK232 _ _ _ _ hf
noncomputable def f_X7_init_217 (n : Nat) (K232 : Nat → Hp → Option Hp) (v0 : Nat) (h : Hp) : Option Hp :=
  f_X7_init_221 n K232 v0 v0 h.1.length (hnew h (3, nFf 3))
set_option maxRecDepth 100000 in
set_option maxHeartbeats 4000000 in
theorem r_X7_init_217 {X : Nat → Int32} {d : Nat} (hd : 109 ≤ (d + 1)) {n : Nat} {K232 : Nat → Hp → Option Hp} (HK232 : ∀ (v0 : Nat) (d1 : Int32) (h : Hp) (o : Hp), K232 v0 h = some o → Run X (d + 1) 66 232 [some (.ref v0), some (.int d1)] [] h (none, o)) {v0 : Nat} {d1 : Int32} {h : Hp} {o : Hp} (hf : f_X7_init_217 n K232 v0 h = some o) : Run X (d + 1) 66 217 [some (.ref v0), some (.int d1)] [] h (none, o) := by
  unfold f_X7_init_217 at hf
  refine rs_aload_n i_X7_init_217 rfl ?_
  refine rs_new i_X7_init_218 (by decide) ?_
  exact r_X7_init_221 hd HK232 hf
noncomputable def f_X7_init_206 (n : Nat) (K232 : Nat → Hp → Option Hp) (v0 : Nat) (s0 : Nat) (s1 : Nat) (h : Hp) : Option Hp :=
  if okO h v0 7 then
  (gR h v0 6).bind fun a2 =>
  if okO h s1 3 then
  (f_X3_init s1 a2 h).bind fun o3 =>
  if okO o3 s0 7 then
  if 16 ≤ s1 then
  f_X7_init_217 n K232 v0 (hsr o3 s0 7 (some s1))
  else none
  else none
  else none
  else none
set_option maxRecDepth 100000 in
set_option maxHeartbeats 4000000 in
theorem r_X7_init_206 {X : Nat → Int32} {d : Nat} (hd : 109 ≤ (d + 1)) {n : Nat} {K232 : Nat → Hp → Option Hp} (HK232 : ∀ (v0 : Nat) (d1 : Int32) (h : Hp) (o : Hp), K232 v0 h = some o → Run X (d + 1) 66 232 [some (.ref v0), some (.int d1)] [] h (none, o)) {v0 : Nat} {s0 : Nat} {s1 : Nat} {d1 : Int32} {h : Hp} {o : Hp} (hf : f_X7_init_206 n K232 v0 s0 s1 h = some o) : Run X (d + 1) 66 206 [some (.ref v0), some (.int d1)] [.ref s1, .ref s0] h (none, o) := by
  unfold f_X7_init_206 at hf
  refine rs_dup i_X7_init_206 rfl ?_
  refine rs_aload_n i_X7_init_207 rfl ?_
  obtain ⟨c1, hf⟩ := ite_some hf
  obtain ⟨a2, e2, hf⟩ := bind_some hf
  refine rs_getR i_X7_init_208 (by decide) (by decide) c1 e2 ?_
  obtain ⟨c4, hf⟩ := ite_some hf
  obtain ⟨o3, e3, hf⟩ := bind_some hf
  refine rs_inI i_X7_init_211 (by decide) m_X3_init rfl (As := [.ref a2]) (rest := [.ref s1, .ref s0]) rfl rfl (Nat.le_of_ble_eq_true rfl) c4 (c_X3_init (by omega) e3) (st' := [.ref s1, .ref s0]) rfl ?_
  obtain ⟨c5, hf⟩ := ite_some hf
  obtain ⟨c6, hf⟩ := ite_some hf
  refine rs_putR i_X7_init_214 (by decide) c6 c5 ?_
  exact r_X7_init_217 hd HK232 hf
noncomputable def f_X7_init_202 (n : Nat) (K232 : Nat → Hp → Option Hp) (v0 : Nat) (h : Hp) : Option Hp :=
  f_X7_init_206 n K232 v0 v0 h.1.length (hnew h (3, nFf 3))
set_option maxRecDepth 100000 in
set_option maxHeartbeats 4000000 in
theorem r_X7_init_202 {X : Nat → Int32} {d : Nat} (hd : 109 ≤ (d + 1)) {n : Nat} {K232 : Nat → Hp → Option Hp} (HK232 : ∀ (v0 : Nat) (d1 : Int32) (h : Hp) (o : Hp), K232 v0 h = some o → Run X (d + 1) 66 232 [some (.ref v0), some (.int d1)] [] h (none, o)) {v0 : Nat} {d1 : Int32} {h : Hp} {o : Hp} (hf : f_X7_init_202 n K232 v0 h = some o) : Run X (d + 1) 66 202 [some (.ref v0), some (.int d1)] [] h (none, o) := by
  unfold f_X7_init_202 at hf
  refine rs_aload_n i_X7_init_202 rfl ?_
  refine rs_new i_X7_init_203 (by decide) ?_
  exact r_X7_init_206 hd HK232 hf
noncomputable def f_X7_init_189 (n : Nat) (K232 : Nat → Hp → Option Hp) (v0 : Nat) (s0 : Nat) (s1 : Nat) (h : Hp) : Option Hp :=
  if okO h v0 7 then
  (gR h v0 4).bind fun a2 =>
  if okR h a2 0 then
  (gR h a2 (ix 0)).bind fun a4 =>
  if okO h s1 1 then
  (f_X1_init s1 a4 h).bind fun o5 =>
  if okO o5 s0 7 then
  if 16 ≤ s1 then
  f_X7_init_202 n K232 v0 (hsr o5 s0 6 (some s1))
  else none
  else none
  else none
  else none
  else none
set_option maxRecDepth 100000 in
set_option maxHeartbeats 4000000 in
theorem r_X7_init_189 {X : Nat → Int32} {d : Nat} (hd : 109 ≤ (d + 1)) {n : Nat} {K232 : Nat → Hp → Option Hp} (HK232 : ∀ (v0 : Nat) (d1 : Int32) (h : Hp) (o : Hp), K232 v0 h = some o → Run X (d + 1) 66 232 [some (.ref v0), some (.int d1)] [] h (none, o)) {v0 : Nat} {s0 : Nat} {s1 : Nat} {d1 : Int32} {h : Hp} {o : Hp} (hf : f_X7_init_189 n K232 v0 s0 s1 h = some o) : Run X (d + 1) 66 189 [some (.ref v0), some (.int d1)] [.ref s1, .ref s0] h (none, o) := by
  unfold f_X7_init_189 at hf
  refine rs_dup i_X7_init_189 rfl ?_
  refine rs_aload_n i_X7_init_190 rfl ?_
  obtain ⟨c1, hf⟩ := ite_some hf
  obtain ⟨a2, e2, hf⟩ := bind_some hf
  refine rs_getR i_X7_init_191 (by decide) (by decide) c1 e2 ?_
  refine rs_iconst i_X7_init_194 (v := 0) (by decide) ?_
  obtain ⟨c3, hf⟩ := ite_some hf
  obtain ⟨a4, e4, hf⟩ := bind_some hf
  refine rs_aald i_X7_init_195 c3 e4 ?_
  obtain ⟨c6, hf⟩ := ite_some hf
  obtain ⟨o5, e5, hf⟩ := bind_some hf
  refine rs_inI i_X7_init_196 (by decide) m_X1_init rfl (As := [.ref a4]) (rest := [.ref s1, .ref s0]) rfl rfl (Nat.le_of_ble_eq_true rfl) c6 (c_X1_init (by omega) e5) (st' := [.ref s1, .ref s0]) rfl ?_
  obtain ⟨c7, hf⟩ := ite_some hf
  obtain ⟨c8, hf⟩ := ite_some hf
  refine rs_putR i_X7_init_199 (by decide) c8 c7 ?_
  exact r_X7_init_202 hd HK232 hf
noncomputable def f_X7_init_174 (n : Nat) (K161 : Nat → Int32 → Hp → Option Hp) (K232 : Nat → Hp → Option Hp) (v0 : Nat) (v1 : Int32) (s0 : Nat) (s1 : Int32) (s2 : Nat) (h : Hp) : Option Hp :=
  if okO h s2 4 then
  (f_X4_init s2 h).bind fun o1 =>
  if okR o1 s0 s1 then
  if hk o1 s2 = (comps (hk o1 s0).1, nFf (comps (hk o1 s0).1)) then
  K161 v0 (v1 + 1) (hsr o1 s0 (ix s1) (some s2))
  else none
  else none
  else none
set_option maxRecDepth 100000 in
set_option maxHeartbeats 4000000 in
theorem r_X7_init_174 {X : Nat → Int32} {d : Nat} (hd : 109 ≤ (d + 1)) {n : Nat} {K161 : Nat → Int32 → Hp → Option Hp} {K232 : Nat → Hp → Option Hp} (HK161 : ∀ (v0 : Nat) (v1 : Int32) (h : Hp) (o : Hp), K161 v0 v1 h = some o → Run X (d + 1) 66 161 [some (.ref v0), some (.int v1)] [] h (none, o)) (HK232 : ∀ (v0 : Nat) (d1 : Int32) (h : Hp) (o : Hp), K232 v0 h = some o → Run X (d + 1) 66 232 [some (.ref v0), some (.int d1)] [] h (none, o)) {v0 : Nat} {v1 : Int32} {s0 : Nat} {s1 : Int32} {s2 : Nat} {h : Hp} {o : Hp} (hf : f_X7_init_174 n K161 K232 v0 v1 s0 s1 s2 h = some o) : Run X (d + 1) 66 174 [some (.ref v0), some (.int v1)] [.ref s2, .int s1, .ref s0] h (none, o) := by
  unfold f_X7_init_174 at hf
  refine rs_dup i_X7_init_174 rfl ?_
  obtain ⟨c2, hf⟩ := ite_some hf
  obtain ⟨o1, e1, hf⟩ := bind_some hf
  refine rs_inI i_X7_init_175 (by decide) m_X4_init rfl (As := []) (rest := [.ref s2, .int s1, .ref s0]) rfl rfl (Nat.le_of_ble_eq_true rfl) c2 (c_X4_init (by omega) e1) (st' := [.ref s2, .int s1, .ref s0]) rfl ?_
  obtain ⟨c3, hf⟩ := ite_some hf
  obtain ⟨c4, hf⟩ := ite_some hf
  refine rs_aast i_X7_init_178 c3 c4 ?_
  refine rs_iinc i_X7_init_179 rfl (v := v1 + 1) rfl (Nat.le_of_ble_eq_true rfl) (lv' := [some (.ref v0), some (.int (v1 + 1))]) rfl ?_
  refine rs_goto i_X7_init_182 (tg := 161) (by decide) ?_
  exact HK161 _ _ _ _ hf
noncomputable def f_X7_init_161 (n : Nat) (K232 : Nat → Hp → Option Hp) : Nat → Nat → Int32 → Hp → Option Hp
  | 0, _, _, _ => none
  | m + 1, v0, v1, h =>
    if 4 ≤ v1 then
      f_X7_init_189 n K232 v0 v0 h.1.length (hnew h (1, nFf 1))
    else
      if okO h v0 7 then
      (gR h v0 9).bind fun a3 =>
      f_X7_init_174 n (f_X7_init_161 n K232 m) K232 v0 v1 a3 v1 h.1.length (hnew h (4, nFf 4))
      else none
set_option maxRecDepth 100000 in
set_option maxHeartbeats 4000000 in
theorem r_X7_init_161 {X : Nat → Int32} {d : Nat} (hd : 109 ≤ (d + 1)) {n : Nat} {K232 : Nat → Hp → Option Hp} (HK232 : ∀ (v0 : Nat) (d1 : Int32) (h : Hp) (o : Hp), K232 v0 h = some o → Run X (d + 1) 66 232 [some (.ref v0), some (.int d1)] [] h (none, o)) : ∀ (m : Nat) (v0 : Nat) (v1 : Int32) (h : Hp) (o : Hp), f_X7_init_161 n K232 m v0 v1 h = some o → Run X (d + 1) 66 161 [some (.ref v0), some (.int v1)] [] h (none, o) := by
  intro m
  induction m with
  | zero => intro v0 v1 h o hf; cases hf
  | succ m ih =>
    intro v0 v1 h o hf
    rw [f_X7_init_161] at hf
    refine rs_iload_n i_X7_init_161 rfl ?_
    refine rs_iconst i_X7_init_162 (v := 4) (by decide) ?_
    by_cases c1 : 4 ≤ v1
    · replace hf := (if_pos c1).symm.trans hf
      refine rs_icT i_X7_init_163 (ct_ge c1) (tg := 185) (by decide) ?_
      refine rs_aload_n i_X7_init_185 rfl ?_
      refine rs_new i_X7_init_186 (by decide) ?_
      exact r_X7_init_189 hd HK232 hf
    · replace hf := (if_neg c1).symm.trans hf
      refine rs_icF i_X7_init_163 (cf_ge c1) ?_
      refine rs_aload_n i_X7_init_166 rfl ?_
      obtain ⟨c2, hf⟩ := ite_some hf
      obtain ⟨a3, e3, hf⟩ := bind_some hf
      refine rs_getR i_X7_init_167 (by decide) (by decide) c2 e3 ?_
      refine rs_iload_n i_X7_init_170 rfl ?_
      refine rs_new i_X7_init_171 (by decide) ?_
      exact r_X7_init_174 hd ih HK232 hf
noncomputable def f_X7_init_148 (n : Nat) (K134 : Nat → Int32 → Hp → Option Hp) (K232 : Nat → Hp → Option Hp) (v0 : Nat) (v1 : Int32) (s0 : Nat) (s1 : Int32) (s2 : Nat) (h : Hp) : Option Hp :=
  if okO h s2 6 then
  (f_X6_init s2 h).bind fun o1 =>
  if okR o1 s0 s1 then
  if hk o1 s2 = (comps (hk o1 s0).1, nFf (comps (hk o1 s0).1)) then
  K134 v0 (v1 + 1) (hsr o1 s0 (ix s1) (some s2))
  else none
  else none
  else none
set_option maxRecDepth 100000 in
set_option maxHeartbeats 4000000 in
theorem r_X7_init_148 {X : Nat → Int32} {d : Nat} (hd : 109 ≤ (d + 1)) {n : Nat} {K134 : Nat → Int32 → Hp → Option Hp} {K232 : Nat → Hp → Option Hp} (HK134 : ∀ (v0 : Nat) (v1 : Int32) (h : Hp) (o : Hp), K134 v0 v1 h = some o → Run X (d + 1) 66 134 [some (.ref v0), some (.int v1)] [] h (none, o)) (HK232 : ∀ (v0 : Nat) (d1 : Int32) (h : Hp) (o : Hp), K232 v0 h = some o → Run X (d + 1) 66 232 [some (.ref v0), some (.int d1)] [] h (none, o)) {v0 : Nat} {v1 : Int32} {s0 : Nat} {s1 : Int32} {s2 : Nat} {h : Hp} {o : Hp} (hf : f_X7_init_148 n K134 K232 v0 v1 s0 s1 s2 h = some o) : Run X (d + 1) 66 148 [some (.ref v0), some (.int v1)] [.ref s2, .int s1, .ref s0] h (none, o) := by
  unfold f_X7_init_148 at hf
  refine rs_dup i_X7_init_148 rfl ?_
  obtain ⟨c2, hf⟩ := ite_some hf
  obtain ⟨o1, e1, hf⟩ := bind_some hf
  refine rs_inI i_X7_init_149 (by decide) m_X6_init rfl (As := []) (rest := [.ref s2, .int s1, .ref s0]) rfl rfl (Nat.le_of_ble_eq_true rfl) c2 (c_X6_init (by omega) e1) (st' := [.ref s2, .int s1, .ref s0]) rfl ?_
  obtain ⟨c3, hf⟩ := ite_some hf
  obtain ⟨c4, hf⟩ := ite_some hf
  refine rs_aast i_X7_init_152 c3 c4 ?_
  refine rs_iinc i_X7_init_153 rfl (v := v1 + 1) rfl (Nat.le_of_ble_eq_true rfl) (lv' := [some (.ref v0), some (.int (v1 + 1))]) rfl ?_
  refine rs_goto i_X7_init_156 (tg := 134) (by decide) ?_
  exact HK134 _ _ _ _ hf
noncomputable def f_X7_init_134 (n : Nat) (K232 : Nat → Hp → Option Hp) : Nat → Nat → Int32 → Hp → Option Hp
  | 0, _, _, _ => none
  | m + 1, v0, v1, h =>
    if 6 ≤ v1 then
      f_X7_init_161 n K232 n v0 0 h
    else
      if okO h v0 7 then
      (gR h v0 4).bind fun a3 =>
      f_X7_init_148 n (f_X7_init_134 n K232 m) K232 v0 v1 a3 v1 h.1.length (hnew h (6, nFf 6))
      else none
set_option maxRecDepth 100000 in
set_option maxHeartbeats 4000000 in
theorem r_X7_init_134 {X : Nat → Int32} {d : Nat} (hd : 109 ≤ (d + 1)) {n : Nat} {K232 : Nat → Hp → Option Hp} (HK232 : ∀ (v0 : Nat) (d1 : Int32) (h : Hp) (o : Hp), K232 v0 h = some o → Run X (d + 1) 66 232 [some (.ref v0), some (.int d1)] [] h (none, o)) : ∀ (m : Nat) (v0 : Nat) (v1 : Int32) (h : Hp) (o : Hp), f_X7_init_134 n K232 m v0 v1 h = some o → Run X (d + 1) 66 134 [some (.ref v0), some (.int v1)] [] h (none, o) := by
  intro m
  induction m with
  | zero => intro v0 v1 h o hf; cases hf
  | succ m ih =>
    intro v0 v1 h o hf
    rw [f_X7_init_134] at hf
    refine rs_iload_n i_X7_init_134 rfl ?_
    refine rs_bipush i_X7_init_135 (v := 6) (by decide) ?_
    by_cases c1 : 6 ≤ v1
    · replace hf := (if_pos c1).symm.trans hf
      refine rs_icT i_X7_init_137 (ct_ge c1) (tg := 159) (by decide) ?_
      refine rs_iconst i_X7_init_159 (v := 0) (by decide) ?_
      refine rs_istore_n i_X7_init_160 (Nat.le_of_ble_eq_true rfl) (lv' := [some (.ref v0), some (.int 0)]) rfl ?_
      exact r_X7_init_161 hd HK232 _ _ _ _ _ hf
    · replace hf := (if_neg c1).symm.trans hf
      refine rs_icF i_X7_init_137 (cf_ge c1) ?_
      refine rs_aload_n i_X7_init_140 rfl ?_
      obtain ⟨c2, hf⟩ := ite_some hf
      obtain ⟨a3, e3, hf⟩ := bind_some hf
      refine rs_getR i_X7_init_141 (by decide) (by decide) c2 e3 ?_
      refine rs_iload_n i_X7_init_144 rfl ?_
      refine rs_new i_X7_init_145 (by decide) ?_
      exact r_X7_init_148 hd ih HK232 hf
noncomputable def f_X7_init_121 (n : Nat) (K107 : Nat → Int32 → Hp → Option Hp) (K232 : Nat → Hp → Option Hp) (v0 : Nat) (v1 : Int32) (s0 : Nat) (s1 : Int32) (s2 : Nat) (h : Hp) : Option Hp :=
  if okO h s2 5 then
  (f_X5_init s2 h).bind fun o1 =>
  if okR o1 s0 s1 then
  if hk o1 s2 = (comps (hk o1 s0).1, nFf (comps (hk o1 s0).1)) then
  K107 v0 (v1 + 1) (hsr o1 s0 (ix s1) (some s2))
  else none
  else none
  else none
set_option maxRecDepth 100000 in
set_option maxHeartbeats 4000000 in
theorem r_X7_init_121 {X : Nat → Int32} {d : Nat} (hd : 109 ≤ (d + 1)) {n : Nat} {K107 : Nat → Int32 → Hp → Option Hp} {K232 : Nat → Hp → Option Hp} (HK107 : ∀ (v0 : Nat) (v1 : Int32) (h : Hp) (o : Hp), K107 v0 v1 h = some o → Run X (d + 1) 66 107 [some (.ref v0), some (.int v1)] [] h (none, o)) (HK232 : ∀ (v0 : Nat) (d1 : Int32) (h : Hp) (o : Hp), K232 v0 h = some o → Run X (d + 1) 66 232 [some (.ref v0), some (.int d1)] [] h (none, o)) {v0 : Nat} {v1 : Int32} {s0 : Nat} {s1 : Int32} {s2 : Nat} {h : Hp} {o : Hp} (hf : f_X7_init_121 n K107 K232 v0 v1 s0 s1 s2 h = some o) : Run X (d + 1) 66 121 [some (.ref v0), some (.int v1)] [.ref s2, .int s1, .ref s0] h (none, o) := by
  unfold f_X7_init_121 at hf
  refine rs_dup i_X7_init_121 rfl ?_
  obtain ⟨c2, hf⟩ := ite_some hf
  obtain ⟨o1, e1, hf⟩ := bind_some hf
  refine rs_inI i_X7_init_122 (by decide) m_X5_init rfl (As := []) (rest := [.ref s2, .int s1, .ref s0]) rfl rfl (Nat.le_of_ble_eq_true rfl) c2 (c_X5_init (by omega) e1) (st' := [.ref s2, .int s1, .ref s0]) rfl ?_
  obtain ⟨c3, hf⟩ := ite_some hf
  obtain ⟨c4, hf⟩ := ite_some hf
  refine rs_aast i_X7_init_125 c3 c4 ?_
  refine rs_iinc i_X7_init_126 rfl (v := v1 + 1) rfl (Nat.le_of_ble_eq_true rfl) (lv' := [some (.ref v0), some (.int (v1 + 1))]) rfl ?_
  refine rs_goto i_X7_init_129 (tg := 107) (by decide) ?_
  exact HK107 _ _ _ _ hf
noncomputable def f_X7_init_107 (n : Nat) (K232 : Nat → Hp → Option Hp) : Nat → Nat → Int32 → Hp → Option Hp
  | 0, _, _, _ => none
  | m + 1, v0, v1, h =>
    if 12 ≤ v1 then
      f_X7_init_134 n K232 n v0 0 h
    else
      if okO h v0 7 then
      (gR h v0 3).bind fun a3 =>
      f_X7_init_121 n (f_X7_init_107 n K232 m) K232 v0 v1 a3 v1 h.1.length (hnew h (5, nFf 5))
      else none
set_option maxRecDepth 100000 in
set_option maxHeartbeats 4000000 in
theorem r_X7_init_107 {X : Nat → Int32} {d : Nat} (hd : 109 ≤ (d + 1)) {n : Nat} {K232 : Nat → Hp → Option Hp} (HK232 : ∀ (v0 : Nat) (d1 : Int32) (h : Hp) (o : Hp), K232 v0 h = some o → Run X (d + 1) 66 232 [some (.ref v0), some (.int d1)] [] h (none, o)) : ∀ (m : Nat) (v0 : Nat) (v1 : Int32) (h : Hp) (o : Hp), f_X7_init_107 n K232 m v0 v1 h = some o → Run X (d + 1) 66 107 [some (.ref v0), some (.int v1)] [] h (none, o) := by
  intro m
  induction m with
  | zero => intro v0 v1 h o hf; cases hf
  | succ m ih =>
    intro v0 v1 h o hf
    rw [f_X7_init_107] at hf
    refine rs_iload_n i_X7_init_107 rfl ?_
    refine rs_bipush i_X7_init_108 (v := 12) (by decide) ?_
    by_cases c1 : 12 ≤ v1
    · replace hf := (if_pos c1).symm.trans hf
      refine rs_icT i_X7_init_110 (ct_ge c1) (tg := 132) (by decide) ?_
      refine rs_iconst i_X7_init_132 (v := 0) (by decide) ?_
      refine rs_istore_n i_X7_init_133 (Nat.le_of_ble_eq_true rfl) (lv' := [some (.ref v0), some (.int 0)]) rfl ?_
      exact r_X7_init_134 hd HK232 _ _ _ _ _ hf
    · replace hf := (if_neg c1).symm.trans hf
      refine rs_icF i_X7_init_110 (cf_ge c1) ?_
      refine rs_aload_n i_X7_init_113 rfl ?_
      obtain ⟨c2, hf⟩ := ite_some hf
      obtain ⟨a3, e3, hf⟩ := bind_some hf
      refine rs_getR i_X7_init_114 (by decide) (by decide) c2 e3 ?_
      refine rs_iload_n i_X7_init_117 rfl ?_
      refine rs_new i_X7_init_118 (by decide) ?_
      exact r_X7_init_121 hd ih HK232 hf
noncomputable def f_X7_init_100 (n : Nat) (K232 : Nat → Hp → Option Hp) (v0 : Nat) (h : Hp) : Option Hp :=
  if okO h v0 7 then
  f_X7_init_107 n K232 n v0 0 (hsi h v0 14 0)
  else none
set_option maxRecDepth 100000 in
set_option maxHeartbeats 4000000 in
theorem r_X7_init_100 {X : Nat → Int32} {d : Nat} (hd : 109 ≤ (d + 1)) {n : Nat} {K232 : Nat → Hp → Option Hp} (HK232 : ∀ (v0 : Nat) (d1 : Int32) (h : Hp) (o : Hp), K232 v0 h = some o → Run X (d + 1) 66 232 [some (.ref v0), some (.int d1)] [] h (none, o)) {v0 : Nat} {h : Hp} {o : Hp} (hf : f_X7_init_100 n K232 v0 h = some o) : Run X (d + 1) 66 100 [some (.ref v0), none] [] h (none, o) := by
  unfold f_X7_init_100 at hf
  refine rs_aload_n i_X7_init_100 rfl ?_
  refine rs_iconst i_X7_init_101 (v := 0) (by decide) ?_
  obtain ⟨c1, hf⟩ := ite_some hf
  refine rs_putZ i_X7_init_102 (by decide) (by decide) c1 ?_
  refine rs_iconst i_X7_init_105 (v := 0) (by decide) ?_
  refine rs_istore_n i_X7_init_106 (Nat.le_of_ble_eq_true rfl) (lv' := [some (.ref v0), some (.int 0)]) rfl ?_
  exact r_X7_init_107 hd HK232 _ _ _ _ _ hf
noncomputable def f_X7_init_95 (n : Nat) (K232 : Nat → Hp → Option Hp) (v0 : Nat) (h : Hp) : Option Hp :=
  if okO h v0 7 then
  f_X7_init_100 n K232 v0 (hsi h v0 13 1)
  else none
set_option maxRecDepth 100000 in
set_option maxHeartbeats 4000000 in
theorem r_X7_init_95 {X : Nat → Int32} {d : Nat} (hd : 109 ≤ (d + 1)) {n : Nat} {K232 : Nat → Hp → Option Hp} (HK232 : ∀ (v0 : Nat) (d1 : Int32) (h : Hp) (o : Hp), K232 v0 h = some o → Run X (d + 1) 66 232 [some (.ref v0), some (.int d1)] [] h (none, o)) {v0 : Nat} {h : Hp} {o : Hp} (hf : f_X7_init_95 n K232 v0 h = some o) : Run X (d + 1) 66 95 [some (.ref v0), none] [] h (none, o) := by
  unfold f_X7_init_95 at hf
  refine rs_aload_n i_X7_init_95 rfl ?_
  refine rs_iconst i_X7_init_96 (v := 1) (by decide) ?_
  obtain ⟨c1, hf⟩ := ite_some hf
  refine rs_putI i_X7_init_97 (by decide) c1 ?_
  exact r_X7_init_100 hd HK232 hf
noncomputable def f_X7_init_90 (n : Nat) (K232 : Nat → Hp → Option Hp) (v0 : Nat) (h : Hp) : Option Hp :=
  if okO h v0 7 then
  f_X7_init_95 n K232 v0 (hsi h v0 12 0)
  else none
set_option maxRecDepth 100000 in
set_option maxHeartbeats 4000000 in
theorem r_X7_init_90 {X : Nat → Int32} {d : Nat} (hd : 109 ≤ (d + 1)) {n : Nat} {K232 : Nat → Hp → Option Hp} (HK232 : ∀ (v0 : Nat) (d1 : Int32) (h : Hp) (o : Hp), K232 v0 h = some o → Run X (d + 1) 66 232 [some (.ref v0), some (.int d1)] [] h (none, o)) {v0 : Nat} {h : Hp} {o : Hp} (hf : f_X7_init_90 n K232 v0 h = some o) : Run X (d + 1) 66 90 [some (.ref v0), none] [] h (none, o) := by
  unfold f_X7_init_90 at hf
  refine rs_aload_n i_X7_init_90 rfl ?_
  refine rs_iconst i_X7_init_91 (v := 0) (by decide) ?_
  obtain ⟨c1, hf⟩ := ite_some hf
  refine rs_putI i_X7_init_92 (by decide) c1 ?_
  exact r_X7_init_95 hd HK232 hf
noncomputable def f_X7_init_87 (n : Nat) (K232 : Nat → Hp → Option Hp) (v0 : Nat) (s0 : Nat) (s1 : Nat) (h : Hp) : Option Hp :=
  if okO h s0 7 then
  if 16 ≤ s1 then
  f_X7_init_90 n K232 v0 (hsr h s0 11 (some s1))
  else none
  else none
set_option maxRecDepth 100000 in
set_option maxHeartbeats 4000000 in
theorem r_X7_init_87 {X : Nat → Int32} {d : Nat} (hd : 109 ≤ (d + 1)) {n : Nat} {K232 : Nat → Hp → Option Hp} (HK232 : ∀ (v0 : Nat) (d1 : Int32) (h : Hp) (o : Hp), K232 v0 h = some o → Run X (d + 1) 66 232 [some (.ref v0), some (.int d1)] [] h (none, o)) {v0 : Nat} {s0 : Nat} {s1 : Nat} {h : Hp} {o : Hp} (hf : f_X7_init_87 n K232 v0 s0 s1 h = some o) : Run X (d + 1) 66 87 [some (.ref v0), none] [.ref s1, .ref s0] h (none, o) := by
  unfold f_X7_init_87 at hf
  obtain ⟨c1, hf⟩ := ite_some hf
  obtain ⟨c2, hf⟩ := ite_some hf
  refine rs_putR i_X7_init_87 (by decide) c2 c1 ?_
  exact r_X7_init_90 hd HK232 hf
noncomputable def f_X7_init_82 (n : Nat) (K232 : Nat → Hp → Option Hp) (v0 : Nat) (h : Hp) : Option Hp :=
  f_X7_init_87 n K232 v0 v0 h.1.length (hnew h (9, ix 16))
set_option maxRecDepth 100000 in
set_option maxHeartbeats 4000000 in
theorem r_X7_init_82 {X : Nat → Int32} {d : Nat} (hd : 109 ≤ (d + 1)) {n : Nat} {K232 : Nat → Hp → Option Hp} (HK232 : ∀ (v0 : Nat) (d1 : Int32) (h : Hp) (o : Hp), K232 v0 h = some o → Run X (d + 1) 66 232 [some (.ref v0), some (.int d1)] [] h (none, o)) {v0 : Nat} {h : Hp} {o : Hp} (hf : f_X7_init_82 n K232 v0 h = some o) : Run X (d + 1) 66 82 [some (.ref v0), none] [] h (none, o) := by
  unfold f_X7_init_82 at hf
  refine rs_aload_n i_X7_init_82 rfl ?_
  refine rs_bipush i_X7_init_83 (v := 16) (by decide) ?_
  refine rs_newa i_X7_init_85 (by decide) ?_
  exact r_X7_init_87 hd HK232 hf
noncomputable def f_X7_init_79 (n : Nat) (K232 : Nat → Hp → Option Hp) (v0 : Nat) (s0 : Nat) (s1 : Nat) (h : Hp) : Option Hp :=
  if okO h s0 7 then
  if 16 ≤ s1 then
  f_X7_init_82 n K232 v0 (hsr h s0 10 (some s1))
  else none
  else none
set_option maxRecDepth 100000 in
set_option maxHeartbeats 4000000 in
theorem r_X7_init_79 {X : Nat → Int32} {d : Nat} (hd : 109 ≤ (d + 1)) {n : Nat} {K232 : Nat → Hp → Option Hp} (HK232 : ∀ (v0 : Nat) (d1 : Int32) (h : Hp) (o : Hp), K232 v0 h = some o → Run X (d + 1) 66 232 [some (.ref v0), some (.int d1)] [] h (none, o)) {v0 : Nat} {s0 : Nat} {s1 : Nat} {h : Hp} {o : Hp} (hf : f_X7_init_79 n K232 v0 s0 s1 h = some o) : Run X (d + 1) 66 79 [some (.ref v0), none] [.ref s1, .ref s0] h (none, o) := by
  unfold f_X7_init_79 at hf
  obtain ⟨c1, hf⟩ := ite_some hf
  obtain ⟨c2, hf⟩ := ite_some hf
  refine rs_putR i_X7_init_79 (by decide) c2 c1 ?_
  exact r_X7_init_82 hd HK232 hf
noncomputable def f_X7_init_74 (n : Nat) (K232 : Nat → Hp → Option Hp) (v0 : Nat) (h : Hp) : Option Hp :=
  f_X7_init_79 n K232 v0 v0 h.1.length (hnew h (9, ix 16))
set_option maxRecDepth 100000 in
set_option maxHeartbeats 4000000 in
theorem r_X7_init_74 {X : Nat → Int32} {d : Nat} (hd : 109 ≤ (d + 1)) {n : Nat} {K232 : Nat → Hp → Option Hp} (HK232 : ∀ (v0 : Nat) (d1 : Int32) (h : Hp) (o : Hp), K232 v0 h = some o → Run X (d + 1) 66 232 [some (.ref v0), some (.int d1)] [] h (none, o)) {v0 : Nat} {h : Hp} {o : Hp} (hf : f_X7_init_74 n K232 v0 h = some o) : Run X (d + 1) 66 74 [some (.ref v0), none] [] h (none, o) := by
  unfold f_X7_init_74 at hf
  refine rs_aload_n i_X7_init_74 rfl ?_
  refine rs_bipush i_X7_init_75 (v := 16) (by decide) ?_
  refine rs_newa i_X7_init_77 (by decide) ?_
  exact r_X7_init_79 hd HK232 hf
noncomputable def f_X7_init_71 (n : Nat) (K232 : Nat → Hp → Option Hp) (v0 : Nat) (s0 : Nat) (s1 : Nat) (h : Hp) : Option Hp :=
  if okO h s0 7 then
  if 16 ≤ s1 then
  f_X7_init_74 n K232 v0 (hsr h s0 9 (some s1))
  else none
  else none
set_option maxRecDepth 100000 in
set_option maxHeartbeats 4000000 in
theorem r_X7_init_71 {X : Nat → Int32} {d : Nat} (hd : 109 ≤ (d + 1)) {n : Nat} {K232 : Nat → Hp → Option Hp} (HK232 : ∀ (v0 : Nat) (d1 : Int32) (h : Hp) (o : Hp), K232 v0 h = some o → Run X (d + 1) 66 232 [some (.ref v0), some (.int d1)] [] h (none, o)) {v0 : Nat} {s0 : Nat} {s1 : Nat} {h : Hp} {o : Hp} (hf : f_X7_init_71 n K232 v0 s0 s1 h = some o) : Run X (d + 1) 66 71 [some (.ref v0), none] [.ref s1, .ref s0] h (none, o) := by
  unfold f_X7_init_71 at hf
  obtain ⟨c1, hf⟩ := ite_some hf
  obtain ⟨c2, hf⟩ := ite_some hf
  refine rs_putR i_X7_init_71 (by decide) c2 c1 ?_
  exact r_X7_init_74 hd HK232 hf
noncomputable def f_X7_init_66 (n : Nat) (K232 : Nat → Hp → Option Hp) (v0 : Nat) (h : Hp) : Option Hp :=
  f_X7_init_71 n K232 v0 v0 h.1.length (hnew h (11, ix 4))
set_option maxRecDepth 100000 in
set_option maxHeartbeats 4000000 in
theorem r_X7_init_66 {X : Nat → Int32} {d : Nat} (hd : 109 ≤ (d + 1)) {n : Nat} {K232 : Nat → Hp → Option Hp} (HK232 : ∀ (v0 : Nat) (d1 : Int32) (h : Hp) (o : Hp), K232 v0 h = some o → Run X (d + 1) 66 232 [some (.ref v0), some (.int d1)] [] h (none, o)) {v0 : Nat} {h : Hp} {o : Hp} (hf : f_X7_init_66 n K232 v0 h = some o) : Run X (d + 1) 66 66 [some (.ref v0), none] [] h (none, o) := by
  unfold f_X7_init_66 at hf
  refine rs_aload_n i_X7_init_66 rfl ?_
  refine rs_iconst i_X7_init_67 (v := 4) (by decide) ?_
  refine rs_newq i_X7_init_68 (by decide) ?_
  exact r_X7_init_71 hd HK232 hf
noncomputable def f_X7_init_59 (n : Nat) (K232 : Nat → Hp → Option Hp) (v0 : Nat) (s0 : Nat) (s1 : Nat) (h : Hp) : Option Hp :=
  if okO h s1 2 then
  (f_X2_init s1 h).bind fun o1 =>
  if okO o1 s0 7 then
  if 16 ≤ s1 then
  f_X7_init_66 n K232 v0 (hsr o1 s0 5 (some s1))
  else none
  else none
  else none
set_option maxRecDepth 100000 in
set_option maxHeartbeats 4000000 in
theorem r_X7_init_59 {X : Nat → Int32} {d : Nat} (hd : 109 ≤ (d + 1)) {n : Nat} {K232 : Nat → Hp → Option Hp} (HK232 : ∀ (v0 : Nat) (d1 : Int32) (h : Hp) (o : Hp), K232 v0 h = some o → Run X (d + 1) 66 232 [some (.ref v0), some (.int d1)] [] h (none, o)) {v0 : Nat} {s0 : Nat} {s1 : Nat} {h : Hp} {o : Hp} (hf : f_X7_init_59 n K232 v0 s0 s1 h = some o) : Run X (d + 1) 66 59 [some (.ref v0), none] [.ref s1, .ref s0] h (none, o) := by
  unfold f_X7_init_59 at hf
  refine rs_dup i_X7_init_59 rfl ?_
  obtain ⟨c2, hf⟩ := ite_some hf
  obtain ⟨o1, e1, hf⟩ := bind_some hf
  refine rs_inI i_X7_init_60 (by decide) m_X2_init rfl (As := []) (rest := [.ref s1, .ref s0]) rfl rfl (Nat.le_of_ble_eq_true rfl) c2 (c_X2_init (by omega) e1) (st' := [.ref s1, .ref s0]) rfl ?_
  obtain ⟨c3, hf⟩ := ite_some hf
  obtain ⟨c4, hf⟩ := ite_some hf
  refine rs_putR i_X7_init_63 (by decide) c4 c3 ?_
  exact r_X7_init_66 hd HK232 hf
noncomputable def f_X7_init_55 (n : Nat) (K232 : Nat → Hp → Option Hp) (v0 : Nat) (h : Hp) : Option Hp :=
  f_X7_init_59 n K232 v0 v0 h.1.length (hnew h (2, nFf 2))
set_option maxRecDepth 100000 in
set_option maxHeartbeats 4000000 in
theorem r_X7_init_55 {X : Nat → Int32} {d : Nat} (hd : 109 ≤ (d + 1)) {n : Nat} {K232 : Nat → Hp → Option Hp} (HK232 : ∀ (v0 : Nat) (d1 : Int32) (h : Hp) (o : Hp), K232 v0 h = some o → Run X (d + 1) 66 232 [some (.ref v0), some (.int d1)] [] h (none, o)) {v0 : Nat} {h : Hp} {o : Hp} (hf : f_X7_init_55 n K232 v0 h = some o) : Run X (d + 1) 66 55 [some (.ref v0), none] [] h (none, o) := by
  unfold f_X7_init_55 at hf
  refine rs_aload_n i_X7_init_55 rfl ?_
  refine rs_new i_X7_init_56 (by decide) ?_
  exact r_X7_init_59 hd HK232 hf
noncomputable def f_X7_init_52 (n : Nat) (K232 : Nat → Hp → Option Hp) (v0 : Nat) (s0 : Nat) (s1 : Nat) (h : Hp) : Option Hp :=
  if okO h s0 7 then
  if 16 ≤ s1 then
  f_X7_init_55 n K232 v0 (hsr h s0 4 (some s1))
  else none
  else none
set_option maxRecDepth 100000 in
set_option maxHeartbeats 4000000 in
theorem r_X7_init_52 {X : Nat → Int32} {d : Nat} (hd : 109 ≤ (d + 1)) {n : Nat} {K232 : Nat → Hp → Option Hp} (HK232 : ∀ (v0 : Nat) (d1 : Int32) (h : Hp) (o : Hp), K232 v0 h = some o → Run X (d + 1) 66 232 [some (.ref v0), some (.int d1)] [] h (none, o)) {v0 : Nat} {s0 : Nat} {s1 : Nat} {h : Hp} {o : Hp} (hf : f_X7_init_52 n K232 v0 s0 s1 h = some o) : Run X (d + 1) 66 52 [some (.ref v0), none] [.ref s1, .ref s0] h (none, o) := by
  unfold f_X7_init_52 at hf
  obtain ⟨c1, hf⟩ := ite_some hf
  obtain ⟨c2, hf⟩ := ite_some hf
  refine rs_putR i_X7_init_52 (by decide) c2 c1 ?_
  exact r_X7_init_55 hd HK232 hf
noncomputable def f_X7_init_46 (n : Nat) (K232 : Nat → Hp → Option Hp) (v0 : Nat) (h : Hp) : Option Hp :=
  f_X7_init_52 n K232 v0 v0 h.1.length (hnew h (13, ix 6))
set_option maxRecDepth 100000 in
set_option maxHeartbeats 4000000 in
theorem r_X7_init_46 {X : Nat → Int32} {d : Nat} (hd : 109 ≤ (d + 1)) {n : Nat} {K232 : Nat → Hp → Option Hp} (HK232 : ∀ (v0 : Nat) (d1 : Int32) (h : Hp) (o : Hp), K232 v0 h = some o → Run X (d + 1) 66 232 [some (.ref v0), some (.int d1)] [] h (none, o)) {v0 : Nat} {h : Hp} {o : Hp} (hf : f_X7_init_46 n K232 v0 h = some o) : Run X (d + 1) 66 46 [some (.ref v0), none] [] h (none, o) := by
  unfold f_X7_init_46 at hf
  refine rs_aload_n i_X7_init_46 rfl ?_
  refine rs_bipush i_X7_init_47 (v := 6) (by decide) ?_
  refine rs_newq i_X7_init_49 (by decide) ?_
  exact r_X7_init_52 hd HK232 hf
noncomputable def f_X7_init_43 (n : Nat) (K232 : Nat → Hp → Option Hp) (v0 : Nat) (s0 : Nat) (s1 : Nat) (h : Hp) : Option Hp :=
  if okO h s0 7 then
  if 16 ≤ s1 then
  f_X7_init_46 n K232 v0 (hsr h s0 3 (some s1))
  else none
  else none
set_option maxRecDepth 100000 in
set_option maxHeartbeats 4000000 in
theorem r_X7_init_43 {X : Nat → Int32} {d : Nat} (hd : 109 ≤ (d + 1)) {n : Nat} {K232 : Nat → Hp → Option Hp} (HK232 : ∀ (v0 : Nat) (d1 : Int32) (h : Hp) (o : Hp), K232 v0 h = some o → Run X (d + 1) 66 232 [some (.ref v0), some (.int d1)] [] h (none, o)) {v0 : Nat} {s0 : Nat} {s1 : Nat} {h : Hp} {o : Hp} (hf : f_X7_init_43 n K232 v0 s0 s1 h = some o) : Run X (d + 1) 66 43 [some (.ref v0), none] [.ref s1, .ref s0] h (none, o) := by
  unfold f_X7_init_43 at hf
  obtain ⟨c1, hf⟩ := ite_some hf
  obtain ⟨c2, hf⟩ := ite_some hf
  refine rs_putR i_X7_init_43 (by decide) c2 c1 ?_
  exact r_X7_init_46 hd HK232 hf
noncomputable def f_X7_init_37 (n : Nat) (K232 : Nat → Hp → Option Hp) (v0 : Nat) (h : Hp) : Option Hp :=
  f_X7_init_43 n K232 v0 v0 h.1.length (hnew h (12, ix 12))
set_option maxRecDepth 100000 in
set_option maxHeartbeats 4000000 in
theorem r_X7_init_37 {X : Nat → Int32} {d : Nat} (hd : 109 ≤ (d + 1)) {n : Nat} {K232 : Nat → Hp → Option Hp} (HK232 : ∀ (v0 : Nat) (d1 : Int32) (h : Hp) (o : Hp), K232 v0 h = some o → Run X (d + 1) 66 232 [some (.ref v0), some (.int d1)] [] h (none, o)) {v0 : Nat} {h : Hp} {o : Hp} (hf : f_X7_init_37 n K232 v0 h = some o) : Run X (d + 1) 66 37 [some (.ref v0), none] [] h (none, o) := by
  unfold f_X7_init_37 at hf
  refine rs_aload_n i_X7_init_37 rfl ?_
  refine rs_bipush i_X7_init_38 (v := 12) (by decide) ?_
  refine rs_newq i_X7_init_40 (by decide) ?_
  exact r_X7_init_43 hd HK232 hf
noncomputable def f_X7_init_30 (n : Nat) (K232 : Nat → Hp → Option Hp) (v0 : Nat) (s0 : Nat) (s1 : Nat) (h : Hp) : Option Hp :=
  if okO h s1 0 then
  (f_X0_init n s1 h).bind fun o1 =>
  if okO o1 s0 7 then
  if 16 ≤ s1 then
  f_X7_init_37 n K232 v0 (hsr o1 s0 2 (some s1))
  else none
  else none
  else none
set_option maxRecDepth 100000 in
set_option maxHeartbeats 4000000 in
theorem r_X7_init_30 {X : Nat → Int32} {d : Nat} (hd : 109 ≤ (d + 1)) {n : Nat} {K232 : Nat → Hp → Option Hp} (HK232 : ∀ (v0 : Nat) (d1 : Int32) (h : Hp) (o : Hp), K232 v0 h = some o → Run X (d + 1) 66 232 [some (.ref v0), some (.int d1)] [] h (none, o)) {v0 : Nat} {s0 : Nat} {s1 : Nat} {h : Hp} {o : Hp} (hf : f_X7_init_30 n K232 v0 s0 s1 h = some o) : Run X (d + 1) 66 30 [some (.ref v0), none] [.ref s1, .ref s0] h (none, o) := by
  unfold f_X7_init_30 at hf
  refine rs_dup i_X7_init_30 rfl ?_
  obtain ⟨c2, hf⟩ := ite_some hf
  obtain ⟨o1, e1, hf⟩ := bind_some hf
  refine rs_inI i_X7_init_31 (by decide) m_X0_init rfl (As := []) (rest := [.ref s1, .ref s0]) rfl rfl (Nat.le_of_ble_eq_true rfl) c2 (c_X0_init (by omega) e1) (st' := [.ref s1, .ref s0]) rfl ?_
  obtain ⟨c3, hf⟩ := ite_some hf
  obtain ⟨c4, hf⟩ := ite_some hf
  refine rs_putR i_X7_init_34 (by decide) c4 c3 ?_
  exact r_X7_init_37 hd HK232 hf
noncomputable def f_X7_init_26 (n : Nat) (K232 : Nat → Hp → Option Hp) (v0 : Nat) (h : Hp) : Option Hp :=
  f_X7_init_30 n K232 v0 v0 h.1.length (hnew h (0, nFf 0))
set_option maxRecDepth 100000 in
set_option maxHeartbeats 4000000 in
theorem r_X7_init_26 {X : Nat → Int32} {d : Nat} (hd : 109 ≤ (d + 1)) {n : Nat} {K232 : Nat → Hp → Option Hp} (HK232 : ∀ (v0 : Nat) (d1 : Int32) (h : Hp) (o : Hp), K232 v0 h = some o → Run X (d + 1) 66 232 [some (.ref v0), some (.int d1)] [] h (none, o)) {v0 : Nat} {h : Hp} {o : Hp} (hf : f_X7_init_26 n K232 v0 h = some o) : Run X (d + 1) 66 26 [some (.ref v0), none] [] h (none, o) := by
  unfold f_X7_init_26 at hf
  refine rs_aload_n i_X7_init_26 rfl ?_
  refine rs_new i_X7_init_27 (by decide) ?_
  exact r_X7_init_30 hd HK232 hf
noncomputable def f_X7_init_19 (n : Nat) (K232 : Nat → Hp → Option Hp) (v0 : Nat) (s0 : Nat) (s1 : Nat) (h : Hp) : Option Hp :=
  if okO h s1 0 then
  (f_X0_init n s1 h).bind fun o1 =>
  if okO o1 s0 7 then
  if 16 ≤ s1 then
  f_X7_init_26 n K232 v0 (hsr o1 s0 1 (some s1))
  else none
  else none
  else none
set_option maxRecDepth 100000 in
set_option maxHeartbeats 4000000 in
theorem r_X7_init_19 {X : Nat → Int32} {d : Nat} (hd : 109 ≤ (d + 1)) {n : Nat} {K232 : Nat → Hp → Option Hp} (HK232 : ∀ (v0 : Nat) (d1 : Int32) (h : Hp) (o : Hp), K232 v0 h = some o → Run X (d + 1) 66 232 [some (.ref v0), some (.int d1)] [] h (none, o)) {v0 : Nat} {s0 : Nat} {s1 : Nat} {h : Hp} {o : Hp} (hf : f_X7_init_19 n K232 v0 s0 s1 h = some o) : Run X (d + 1) 66 19 [some (.ref v0), none] [.ref s1, .ref s0] h (none, o) := by
  unfold f_X7_init_19 at hf
  refine rs_dup i_X7_init_19 rfl ?_
  obtain ⟨c2, hf⟩ := ite_some hf
  obtain ⟨o1, e1, hf⟩ := bind_some hf
  refine rs_inI i_X7_init_20 (by decide) m_X0_init rfl (As := []) (rest := [.ref s1, .ref s0]) rfl rfl (Nat.le_of_ble_eq_true rfl) c2 (c_X0_init (by omega) e1) (st' := [.ref s1, .ref s0]) rfl ?_
  obtain ⟨c3, hf⟩ := ite_some hf
  obtain ⟨c4, hf⟩ := ite_some hf
  refine rs_putR i_X7_init_23 (by decide) c4 c3 ?_
  exact r_X7_init_26 hd HK232 hf
noncomputable def f_X7_init_15 (n : Nat) (K232 : Nat → Hp → Option Hp) (v0 : Nat) (h : Hp) : Option Hp :=
  f_X7_init_19 n K232 v0 v0 h.1.length (hnew h (0, nFf 0))
set_option maxRecDepth 100000 in
set_option maxHeartbeats 4000000 in
theorem r_X7_init_15 {X : Nat → Int32} {d : Nat} (hd : 109 ≤ (d + 1)) {n : Nat} {K232 : Nat → Hp → Option Hp} (HK232 : ∀ (v0 : Nat) (d1 : Int32) (h : Hp) (o : Hp), K232 v0 h = some o → Run X (d + 1) 66 232 [some (.ref v0), some (.int d1)] [] h (none, o)) {v0 : Nat} {h : Hp} {o : Hp} (hf : f_X7_init_15 n K232 v0 h = some o) : Run X (d + 1) 66 15 [some (.ref v0), none] [] h (none, o) := by
  unfold f_X7_init_15 at hf
  refine rs_aload_n i_X7_init_15 rfl ?_
  refine rs_new i_X7_init_16 (by decide) ?_
  exact r_X7_init_19 hd HK232 hf
noncomputable def f_X7_init_8 (n : Nat) (K232 : Nat → Hp → Option Hp) (v0 : Nat) (s0 : Nat) (s1 : Nat) (h : Hp) : Option Hp :=
  if okO h s1 0 then
  (f_X0_init n s1 h).bind fun o1 =>
  if okO o1 s0 7 then
  if 16 ≤ s1 then
  f_X7_init_15 n K232 v0 (hsr o1 s0 0 (some s1))
  else none
  else none
  else none
set_option maxRecDepth 100000 in
set_option maxHeartbeats 4000000 in
theorem r_X7_init_8 {X : Nat → Int32} {d : Nat} (hd : 109 ≤ (d + 1)) {n : Nat} {K232 : Nat → Hp → Option Hp} (HK232 : ∀ (v0 : Nat) (d1 : Int32) (h : Hp) (o : Hp), K232 v0 h = some o → Run X (d + 1) 66 232 [some (.ref v0), some (.int d1)] [] h (none, o)) {v0 : Nat} {s0 : Nat} {s1 : Nat} {h : Hp} {o : Hp} (hf : f_X7_init_8 n K232 v0 s0 s1 h = some o) : Run X (d + 1) 66 8 [some (.ref v0), none] [.ref s1, .ref s0] h (none, o) := by
  unfold f_X7_init_8 at hf
  refine rs_dup i_X7_init_8 rfl ?_
  obtain ⟨c2, hf⟩ := ite_some hf
  obtain ⟨o1, e1, hf⟩ := bind_some hf
  refine rs_inI i_X7_init_9 (by decide) m_X0_init rfl (As := []) (rest := [.ref s1, .ref s0]) rfl rfl (Nat.le_of_ble_eq_true rfl) c2 (c_X0_init (by omega) e1) (st' := [.ref s1, .ref s0]) rfl ?_
  obtain ⟨c3, hf⟩ := ite_some hf
  obtain ⟨c4, hf⟩ := ite_some hf
  refine rs_putR i_X7_init_12 (by decide) c4 c3 ?_
  exact r_X7_init_15 hd HK232 hf
noncomputable def f_X7_init_0 (n : Nat) (K232 : Nat → Hp → Option Hp) (v0 : Nat) (h : Hp) : Option Hp :=
  f_X7_init_8 n K232 v0 v0 h.1.length (hnew h (0, nFf 0))
set_option maxRecDepth 100000 in
set_option maxHeartbeats 4000000 in
theorem r_X7_init_0 {X : Nat → Int32} {d : Nat} (hd : 109 ≤ (d + 1)) {n : Nat} {K232 : Nat → Hp → Option Hp} (HK232 : ∀ (v0 : Nat) (d1 : Int32) (h : Hp) (o : Hp), K232 v0 h = some o → Run X (d + 1) 66 232 [some (.ref v0), some (.int d1)] [] h (none, o)) {v0 : Nat} {h : Hp} {o : Hp} (hf : f_X7_init_0 n K232 v0 h = some o) : Run X (d + 1) 66 0 [some (.ref v0), none] [] h (none, o) := by
  unfold f_X7_init_0 at hf
  refine rs_aload_n i_X7_init_0 rfl ?_
  refine rs_objI i_X7_init_1 (Nat.le_of_ble_eq_true rfl) ?_
  refine rs_aload_n i_X7_init_4 rfl ?_
  refine rs_new i_X7_init_5 (by decide) ?_
  exact r_X7_init_8 hd HK232 hf
noncomputable def f_X8_init_1453 (n : Nat) (K1456 : Nat → Hp → Option Hp) (v0 : Nat) (s0 : Nat) (s1 : Nat) (h : Hp) : Option Hp :=
  if okO h s0 8 then
  if 16 ≤ s1 then
  K1456 v0 (hsr h s0 53 (some s1))
  else none
  else none
set_option maxRecDepth 100000 in
set_option maxHeartbeats 4000000 in
theorem r_X8_init_1453 {X : Nat → Int32} {d : Nat} (hd : 5 ≤ (d + 1)) {n : Nat} {K1456 : Nat → Hp → Option Hp} (HK1456 : ∀ (v0 : Nat) (h : Hp) (o : Hp), K1456 v0 h = some o → Run X (d + 1) 125 1456 [some (.ref v0), none] [] h (none, o)) {v0 : Nat} {s0 : Nat} {s1 : Nat} {h : Hp} {o : Hp} (hf : f_X8_init_1453 n K1456 v0 s0 s1 h = some o) : Run X (d + 1) 125 1453 [some (.ref v0), none] [.ref s1, .ref s0] h (none, o) := by
  unfold f_X8_init_1453 at hf
  obtain ⟨c1, hf⟩ := ite_some hf
  obtain ⟨c2, hf⟩ := ite_some hf
  refine rs_putR i_X8_init_1453 (by decide) c2 c1 ?_
  exact HK1456 _ _ _ hf
noncomputable def f_X8_init_1448 (n : Nat) (K1456 : Nat → Hp → Option Hp) (v0 : Nat) (h : Hp) : Option Hp :=
  f_X8_init_1453 n K1456 v0 v0 h.1.length (hnew h (9, ix 16))
set_option maxRecDepth 100000 in
set_option maxHeartbeats 4000000 in
theorem r_X8_init_1448 {X : Nat → Int32} {d : Nat} (hd : 5 ≤ (d + 1)) {n : Nat} {K1456 : Nat → Hp → Option Hp} (HK1456 : ∀ (v0 : Nat) (h : Hp) (o : Hp), K1456 v0 h = some o → Run X (d + 1) 125 1456 [some (.ref v0), none] [] h (none, o)) {v0 : Nat} {h : Hp} {o : Hp} (hf : f_X8_init_1448 n K1456 v0 h = some o) : Run X (d + 1) 125 1448 [some (.ref v0), none] [] h (none, o) := by
  unfold f_X8_init_1448 at hf
  refine rs_aload_n i_X8_init_1448 rfl ?_
  refine rs_bipush i_X8_init_1449 (v := 16) (by decide) ?_
  refine rs_newa i_X8_init_1451 (by decide) ?_
  exact r_X8_init_1453 hd HK1456 hf
noncomputable def f_X8_init_1445 (n : Nat) (K1456 : Nat → Hp → Option Hp) (v0 : Nat) (s0 : Nat) (s1 : Nat) (h : Hp) : Option Hp :=
  if okO h s0 8 then
  if 16 ≤ s1 then
  f_X8_init_1448 n K1456 v0 (hsr h s0 52 (some s1))
  else none
  else none
set_option maxRecDepth 100000 in
set_option maxHeartbeats 4000000 in
theorem r_X8_init_1445 {X : Nat → Int32} {d : Nat} (hd : 5 ≤ (d + 1)) {n : Nat} {K1456 : Nat → Hp → Option Hp} (HK1456 : ∀ (v0 : Nat) (h : Hp) (o : Hp), K1456 v0 h = some o → Run X (d + 1) 125 1456 [some (.ref v0), none] [] h (none, o)) {v0 : Nat} {s0 : Nat} {s1 : Nat} {h : Hp} {o : Hp} (hf : f_X8_init_1445 n K1456 v0 s0 s1 h = some o) : Run X (d + 1) 125 1445 [some (.ref v0), none] [.ref s1, .ref s0] h (none, o) := by
  unfold f_X8_init_1445 at hf
  obtain ⟨c1, hf⟩ := ite_some hf
  obtain ⟨c2, hf⟩ := ite_some hf
  refine rs_putR i_X8_init_1445 (by decide) c2 c1 ?_
  exact r_X8_init_1448 hd HK1456 hf
noncomputable def f_X8_init_1440 (n : Nat) (K1456 : Nat → Hp → Option Hp) (v0 : Nat) (h : Hp) : Option Hp :=
  f_X8_init_1445 n K1456 v0 v0 h.1.length (hnew h (9, ix 16))
set_option maxRecDepth 100000 in
set_option maxHeartbeats 4000000 in
theorem r_X8_init_1440 {X : Nat → Int32} {d : Nat} (hd : 5 ≤ (d + 1)) {n : Nat} {K1456 : Nat → Hp → Option Hp} (HK1456 : ∀ (v0 : Nat) (h : Hp) (o : Hp), K1456 v0 h = some o → Run X (d + 1) 125 1456 [some (.ref v0), none] [] h (none, o)) {v0 : Nat} {h : Hp} {o : Hp} (hf : f_X8_init_1440 n K1456 v0 h = some o) : Run X (d + 1) 125 1440 [some (.ref v0), none] [] h (none, o) := by
  unfold f_X8_init_1440 at hf
  refine rs_aload_n i_X8_init_1440 rfl ?_
  refine rs_bipush i_X8_init_1441 (v := 16) (by decide) ?_
  refine rs_newa i_X8_init_1443 (by decide) ?_
  exact r_X8_init_1445 hd HK1456 hf
noncomputable def f_X8_init_1437 (n : Nat) (K1456 : Nat → Hp → Option Hp) (v0 : Nat) (s0 : Nat) (s1 : Nat) (h : Hp) : Option Hp :=
  if okO h s0 8 then
  if 16 ≤ s1 then
  f_X8_init_1440 n K1456 v0 (hsr h s0 51 (some s1))
  else none
  else none
set_option maxRecDepth 100000 in
set_option maxHeartbeats 4000000 in
theorem r_X8_init_1437 {X : Nat → Int32} {d : Nat} (hd : 5 ≤ (d + 1)) {n : Nat} {K1456 : Nat → Hp → Option Hp} (HK1456 : ∀ (v0 : Nat) (h : Hp) (o : Hp), K1456 v0 h = some o → Run X (d + 1) 125 1456 [some (.ref v0), none] [] h (none, o)) {v0 : Nat} {s0 : Nat} {s1 : Nat} {h : Hp} {o : Hp} (hf : f_X8_init_1437 n K1456 v0 s0 s1 h = some o) : Run X (d + 1) 125 1437 [some (.ref v0), none] [.ref s1, .ref s0] h (none, o) := by
  unfold f_X8_init_1437 at hf
  obtain ⟨c1, hf⟩ := ite_some hf
  obtain ⟨c2, hf⟩ := ite_some hf
  refine rs_putR i_X8_init_1437 (by decide) c2 c1 ?_
  exact r_X8_init_1440 hd HK1456 hf
noncomputable def f_X8_init_1432 (n : Nat) (K1456 : Nat → Hp → Option Hp) (v0 : Nat) (h : Hp) : Option Hp :=
  f_X8_init_1437 n K1456 v0 v0 h.1.length (hnew h (9, ix 12))
set_option maxRecDepth 100000 in
set_option maxHeartbeats 4000000 in
theorem r_X8_init_1432 {X : Nat → Int32} {d : Nat} (hd : 5 ≤ (d + 1)) {n : Nat} {K1456 : Nat → Hp → Option Hp} (HK1456 : ∀ (v0 : Nat) (h : Hp) (o : Hp), K1456 v0 h = some o → Run X (d + 1) 125 1456 [some (.ref v0), none] [] h (none, o)) {v0 : Nat} {h : Hp} {o : Hp} (hf : f_X8_init_1432 n K1456 v0 h = some o) : Run X (d + 1) 125 1432 [some (.ref v0), none] [] h (none, o) := by
  unfold f_X8_init_1432 at hf
  refine rs_aload_n i_X8_init_1432 rfl ?_
  refine rs_bipush i_X8_init_1433 (v := 12) (by decide) ?_
  refine rs_newa i_X8_init_1435 (by decide) ?_
  exact r_X8_init_1437 hd HK1456 hf
noncomputable def f_X8_init_1429 (n : Nat) (K1456 : Nat → Hp → Option Hp) (v0 : Nat) (s0 : Nat) (s1 : Nat) (h : Hp) : Option Hp :=
  if okO h s0 8 then
  if 16 ≤ s1 then
  f_X8_init_1432 n K1456 v0 (hsr h s0 50 (some s1))
  else none
  else none
set_option maxRecDepth 100000 in
set_option maxHeartbeats 4000000 in
theorem r_X8_init_1429 {X : Nat → Int32} {d : Nat} (hd : 5 ≤ (d + 1)) {n : Nat} {K1456 : Nat → Hp → Option Hp} (HK1456 : ∀ (v0 : Nat) (h : Hp) (o : Hp), K1456 v0 h = some o → Run X (d + 1) 125 1456 [some (.ref v0), none] [] h (none, o)) {v0 : Nat} {s0 : Nat} {s1 : Nat} {h : Hp} {o : Hp} (hf : f_X8_init_1429 n K1456 v0 s0 s1 h = some o) : Run X (d + 1) 125 1429 [some (.ref v0), none] [.ref s1, .ref s0] h (none, o) := by
  unfold f_X8_init_1429 at hf
  obtain ⟨c1, hf⟩ := ite_some hf
  obtain ⟨c2, hf⟩ := ite_some hf
  refine rs_putR i_X8_init_1429 (by decide) c2 c1 ?_
  exact r_X8_init_1432 hd HK1456 hf
noncomputable def f_X8_init_1424 (n : Nat) (K1456 : Nat → Hp → Option Hp) (v0 : Nat) (h : Hp) : Option Hp :=
  f_X8_init_1429 n K1456 v0 v0 h.1.length (hnew h (9, ix 12))
set_option maxRecDepth 100000 in
set_option maxHeartbeats 4000000 in
theorem r_X8_init_1424 {X : Nat → Int32} {d : Nat} (hd : 5 ≤ (d + 1)) {n : Nat} {K1456 : Nat → Hp → Option Hp} (HK1456 : ∀ (v0 : Nat) (h : Hp) (o : Hp), K1456 v0 h = some o → Run X (d + 1) 125 1456 [some (.ref v0), none] [] h (none, o)) {v0 : Nat} {h : Hp} {o : Hp} (hf : f_X8_init_1424 n K1456 v0 h = some o) : Run X (d + 1) 125 1424 [some (.ref v0), none] [] h (none, o) := by
  unfold f_X8_init_1424 at hf
  refine rs_aload_n i_X8_init_1424 rfl ?_
  refine rs_bipush i_X8_init_1425 (v := 12) (by decide) ?_
  refine rs_newa i_X8_init_1427 (by decide) ?_
  exact r_X8_init_1429 hd HK1456 hf
noncomputable def f_X8_init_1421 (n : Nat) (K1456 : Nat → Hp → Option Hp) (v0 : Nat) (s0 : Nat) (s1 : Nat) (h : Hp) : Option Hp :=
  if okO h s0 8 then
  if 16 ≤ s1 then
  f_X8_init_1424 n K1456 v0 (hsr h s0 49 (some s1))
  else none
  else none
set_option maxRecDepth 100000 in
set_option maxHeartbeats 4000000 in
theorem r_X8_init_1421 {X : Nat → Int32} {d : Nat} (hd : 5 ≤ (d + 1)) {n : Nat} {K1456 : Nat → Hp → Option Hp} (HK1456 : ∀ (v0 : Nat) (h : Hp) (o : Hp), K1456 v0 h = some o → Run X (d + 1) 125 1456 [some (.ref v0), none] [] h (none, o)) {v0 : Nat} {s0 : Nat} {s1 : Nat} {h : Hp} {o : Hp} (hf : f_X8_init_1421 n K1456 v0 s0 s1 h = some o) : Run X (d + 1) 125 1421 [some (.ref v0), none] [.ref s1, .ref s0] h (none, o) := by
  unfold f_X8_init_1421 at hf
  obtain ⟨c1, hf⟩ := ite_some hf
  obtain ⟨c2, hf⟩ := ite_some hf
  refine rs_putR i_X8_init_1421 (by decide) c2 c1 ?_
  exact r_X8_init_1424 hd HK1456 hf
noncomputable def f_X8_init_1416 (n : Nat) (K1456 : Nat → Hp → Option Hp) (v0 : Nat) (h : Hp) : Option Hp :=
  f_X8_init_1421 n K1456 v0 v0 h.1.length (hnew h (9, ix 12))
set_option maxRecDepth 100000 in
set_option maxHeartbeats 4000000 in
theorem r_X8_init_1416 {X : Nat → Int32} {d : Nat} (hd : 5 ≤ (d + 1)) {n : Nat} {K1456 : Nat → Hp → Option Hp} (HK1456 : ∀ (v0 : Nat) (h : Hp) (o : Hp), K1456 v0 h = some o → Run X (d + 1) 125 1456 [some (.ref v0), none] [] h (none, o)) {v0 : Nat} {h : Hp} {o : Hp} (hf : f_X8_init_1416 n K1456 v0 h = some o) : Run X (d + 1) 125 1416 [some (.ref v0), none] [] h (none, o) := by
  unfold f_X8_init_1416 at hf
  refine rs_aload_n i_X8_init_1416 rfl ?_
  refine rs_bipush i_X8_init_1417 (v := 12) (by decide) ?_
  refine rs_newa i_X8_init_1419 (by decide) ?_
  exact r_X8_init_1421 hd HK1456 hf
noncomputable def f_X8_init_1413 (n : Nat) (K1456 : Nat → Hp → Option Hp) (v0 : Nat) (s0 : Nat) (s1 : Nat) (h : Hp) : Option Hp :=
  if okO h s0 8 then
  if 16 ≤ s1 then
  f_X8_init_1416 n K1456 v0 (hsr h s0 48 (some s1))
  else none
  else none
set_option maxRecDepth 100000 in
set_option maxHeartbeats 4000000 in
theorem r_X8_init_1413 {X : Nat → Int32} {d : Nat} (hd : 5 ≤ (d + 1)) {n : Nat} {K1456 : Nat → Hp → Option Hp} (HK1456 : ∀ (v0 : Nat) (h : Hp) (o : Hp), K1456 v0 h = some o → Run X (d + 1) 125 1456 [some (.ref v0), none] [] h (none, o)) {v0 : Nat} {s0 : Nat} {s1 : Nat} {h : Hp} {o : Hp} (hf : f_X8_init_1413 n K1456 v0 s0 s1 h = some o) : Run X (d + 1) 125 1413 [some (.ref v0), none] [.ref s1, .ref s0] h (none, o) := by
  unfold f_X8_init_1413 at hf
  obtain ⟨c1, hf⟩ := ite_some hf
  obtain ⟨c2, hf⟩ := ite_some hf
  refine rs_putR i_X8_init_1413 (by decide) c2 c1 ?_
  exact r_X8_init_1416 hd HK1456 hf
noncomputable def f_X8_init_1408 (n : Nat) (K1456 : Nat → Hp → Option Hp) (v0 : Nat) (h : Hp) : Option Hp :=
  f_X8_init_1413 n K1456 v0 v0 h.1.length (hnew h (9, ix 12))
set_option maxRecDepth 100000 in
set_option maxHeartbeats 4000000 in
theorem r_X8_init_1408 {X : Nat → Int32} {d : Nat} (hd : 5 ≤ (d + 1)) {n : Nat} {K1456 : Nat → Hp → Option Hp} (HK1456 : ∀ (v0 : Nat) (h : Hp) (o : Hp), K1456 v0 h = some o → Run X (d + 1) 125 1456 [some (.ref v0), none] [] h (none, o)) {v0 : Nat} {h : Hp} {o : Hp} (hf : f_X8_init_1408 n K1456 v0 h = some o) : Run X (d + 1) 125 1408 [some (.ref v0), none] [] h (none, o) := by
  unfold f_X8_init_1408 at hf
  refine rs_aload_n i_X8_init_1408 rfl ?_
  refine rs_bipush i_X8_init_1409 (v := 12) (by decide) ?_
  refine rs_newa i_X8_init_1411 (by decide) ?_
  exact r_X8_init_1413 hd HK1456 hf
noncomputable def f_X8_init_1405 (n : Nat) (K1456 : Nat → Hp → Option Hp) (v0 : Nat) (s0 : Nat) (s1 : Nat) (h : Hp) : Option Hp :=
  if okO h s0 8 then
  if 16 ≤ s1 then
  f_X8_init_1408 n K1456 v0 (hsr h s0 47 (some s1))
  else none
  else none
set_option maxRecDepth 100000 in
set_option maxHeartbeats 4000000 in
theorem r_X8_init_1405 {X : Nat → Int32} {d : Nat} (hd : 5 ≤ (d + 1)) {n : Nat} {K1456 : Nat → Hp → Option Hp} (HK1456 : ∀ (v0 : Nat) (h : Hp) (o : Hp), K1456 v0 h = some o → Run X (d + 1) 125 1456 [some (.ref v0), none] [] h (none, o)) {v0 : Nat} {s0 : Nat} {s1 : Nat} {h : Hp} {o : Hp} (hf : f_X8_init_1405 n K1456 v0 s0 s1 h = some o) : Run X (d + 1) 125 1405 [some (.ref v0), none] [.ref s1, .ref s0] h (none, o) := by
  unfold f_X8_init_1405 at hf
  obtain ⟨c1, hf⟩ := ite_some hf
  obtain ⟨c2, hf⟩ := ite_some hf
  refine rs_putR i_X8_init_1405 (by decide) c2 c1 ?_
  exact r_X8_init_1408 hd HK1456 hf
noncomputable def f_X8_init_1400 (n : Nat) (K1456 : Nat → Hp → Option Hp) (v0 : Nat) (h : Hp) : Option Hp :=
  f_X8_init_1405 n K1456 v0 v0 h.1.length (hnew h (9, ix 12))
set_option maxRecDepth 100000 in
set_option maxHeartbeats 4000000 in
theorem r_X8_init_1400 {X : Nat → Int32} {d : Nat} (hd : 5 ≤ (d + 1)) {n : Nat} {K1456 : Nat → Hp → Option Hp} (HK1456 : ∀ (v0 : Nat) (h : Hp) (o : Hp), K1456 v0 h = some o → Run X (d + 1) 125 1456 [some (.ref v0), none] [] h (none, o)) {v0 : Nat} {h : Hp} {o : Hp} (hf : f_X8_init_1400 n K1456 v0 h = some o) : Run X (d + 1) 125 1400 [some (.ref v0), none] [] h (none, o) := by
  unfold f_X8_init_1400 at hf
  refine rs_aload_n i_X8_init_1400 rfl ?_
  refine rs_bipush i_X8_init_1401 (v := 12) (by decide) ?_
  refine rs_newa i_X8_init_1403 (by decide) ?_
  exact r_X8_init_1405 hd HK1456 hf
noncomputable def f_X8_init_1397 (n : Nat) (K1456 : Nat → Hp → Option Hp) (v0 : Nat) (s0 : Nat) (s1 : Nat) (h : Hp) : Option Hp :=
  if okO h s0 8 then
  if 16 ≤ s1 then
  f_X8_init_1400 n K1456 v0 (hsr h s0 39 (some s1))
  else none
  else none
set_option maxRecDepth 100000 in
set_option maxHeartbeats 4000000 in
theorem r_X8_init_1397 {X : Nat → Int32} {d : Nat} (hd : 5 ≤ (d + 1)) {n : Nat} {K1456 : Nat → Hp → Option Hp} (HK1456 : ∀ (v0 : Nat) (h : Hp) (o : Hp), K1456 v0 h = some o → Run X (d + 1) 125 1456 [some (.ref v0), none] [] h (none, o)) {v0 : Nat} {s0 : Nat} {s1 : Nat} {h : Hp} {o : Hp} (hf : f_X8_init_1397 n K1456 v0 s0 s1 h = some o) : Run X (d + 1) 125 1397 [some (.ref v0), none] [.ref s1, .ref s0] h (none, o) := by
  unfold f_X8_init_1397 at hf
  obtain ⟨c1, hf⟩ := ite_some hf
  obtain ⟨c2, hf⟩ := ite_some hf
  refine rs_putR i_X8_init_1397 (by decide) c2 c1 ?_
  exact r_X8_init_1400 hd HK1456 hf
noncomputable def f_X8_init_1392 (n : Nat) (K1456 : Nat → Hp → Option Hp) (v0 : Nat) (h : Hp) : Option Hp :=
  f_X8_init_1397 n K1456 v0 v0 h.1.length (hnew h (9, ix 12))
set_option maxRecDepth 100000 in
set_option maxHeartbeats 4000000 in
theorem r_X8_init_1392 {X : Nat → Int32} {d : Nat} (hd : 5 ≤ (d + 1)) {n : Nat} {K1456 : Nat → Hp → Option Hp} (HK1456 : ∀ (v0 : Nat) (h : Hp) (o : Hp), K1456 v0 h = some o → Run X (d + 1) 125 1456 [some (.ref v0), none] [] h (none, o)) {v0 : Nat} {h : Hp} {o : Hp} (hf : f_X8_init_1392 n K1456 v0 h = some o) : Run X (d + 1) 125 1392 [some (.ref v0), none] [] h (none, o) := by
  unfold f_X8_init_1392 at hf
  refine rs_aload_n i_X8_init_1392 rfl ?_
  refine rs_bipush i_X8_init_1393 (v := 12) (by decide) ?_
  refine rs_newa i_X8_init_1395 (by decide) ?_
  exact r_X8_init_1397 hd HK1456 hf
noncomputable def f_X8_init_1389 (n : Nat) (K1456 : Nat → Hp → Option Hp) (v0 : Nat) (s0 : Nat) (s1 : Nat) (h : Hp) : Option Hp :=
  if okO h s0 8 then
  if 16 ≤ s1 then
  f_X8_init_1392 n K1456 v0 (hsr h s0 38 (some s1))
  else none
  else none
set_option maxRecDepth 100000 in
set_option maxHeartbeats 4000000 in
theorem r_X8_init_1389 {X : Nat → Int32} {d : Nat} (hd : 5 ≤ (d + 1)) {n : Nat} {K1456 : Nat → Hp → Option Hp} (HK1456 : ∀ (v0 : Nat) (h : Hp) (o : Hp), K1456 v0 h = some o → Run X (d + 1) 125 1456 [some (.ref v0), none] [] h (none, o)) {v0 : Nat} {s0 : Nat} {s1 : Nat} {h : Hp} {o : Hp} (hf : f_X8_init_1389 n K1456 v0 s0 s1 h = some o) : Run X (d + 1) 125 1389 [some (.ref v0), none] [.ref s1, .ref s0] h (none, o) := by
  unfold f_X8_init_1389 at hf
  obtain ⟨c1, hf⟩ := ite_some hf
  obtain ⟨c2, hf⟩ := ite_some hf
  refine rs_putR i_X8_init_1389 (by decide) c2 c1 ?_
  exact r_X8_init_1392 hd HK1456 hf
noncomputable def f_X8_init_1384 (n : Nat) (K1456 : Nat → Hp → Option Hp) (v0 : Nat) (h : Hp) : Option Hp :=
  f_X8_init_1389 n K1456 v0 v0 h.1.length (hnew h (9, ix 12))
set_option maxRecDepth 100000 in
set_option maxHeartbeats 4000000 in
theorem r_X8_init_1384 {X : Nat → Int32} {d : Nat} (hd : 5 ≤ (d + 1)) {n : Nat} {K1456 : Nat → Hp → Option Hp} (HK1456 : ∀ (v0 : Nat) (h : Hp) (o : Hp), K1456 v0 h = some o → Run X (d + 1) 125 1456 [some (.ref v0), none] [] h (none, o)) {v0 : Nat} {h : Hp} {o : Hp} (hf : f_X8_init_1384 n K1456 v0 h = some o) : Run X (d + 1) 125 1384 [some (.ref v0), none] [] h (none, o) := by
  unfold f_X8_init_1384 at hf
  refine rs_aload_n i_X8_init_1384 rfl ?_
  refine rs_bipush i_X8_init_1385 (v := 12) (by decide) ?_
  refine rs_newa i_X8_init_1387 (by decide) ?_
  exact r_X8_init_1389 hd HK1456 hf
noncomputable def f_X8_init_1381 (n : Nat) (K1456 : Nat → Hp → Option Hp) (v0 : Nat) (s0 : Nat) (s1 : Nat) (h : Hp) : Option Hp :=
  if okO h s0 8 then
  if 16 ≤ s1 then
  f_X8_init_1384 n K1456 v0 (hsr h s0 37 (some s1))
  else none
  else none
set_option maxRecDepth 100000 in
set_option maxHeartbeats 4000000 in
theorem r_X8_init_1381 {X : Nat → Int32} {d : Nat} (hd : 5 ≤ (d + 1)) {n : Nat} {K1456 : Nat → Hp → Option Hp} (HK1456 : ∀ (v0 : Nat) (h : Hp) (o : Hp), K1456 v0 h = some o → Run X (d + 1) 125 1456 [some (.ref v0), none] [] h (none, o)) {v0 : Nat} {s0 : Nat} {s1 : Nat} {h : Hp} {o : Hp} (hf : f_X8_init_1381 n K1456 v0 s0 s1 h = some o) : Run X (d + 1) 125 1381 [some (.ref v0), none] [.ref s1, .ref s0] h (none, o) := by
  unfold f_X8_init_1381 at hf
  obtain ⟨c1, hf⟩ := ite_some hf
  obtain ⟨c2, hf⟩ := ite_some hf
  refine rs_putR i_X8_init_1381 (by decide) c2 c1 ?_
  exact r_X8_init_1384 hd HK1456 hf
noncomputable def f_X8_init_1376 (n : Nat) (K1456 : Nat → Hp → Option Hp) (v0 : Nat) (h : Hp) : Option Hp :=
  f_X8_init_1381 n K1456 v0 v0 h.1.length (hnew h (9, ix 12))
set_option maxRecDepth 100000 in
set_option maxHeartbeats 4000000 in
theorem r_X8_init_1376 {X : Nat → Int32} {d : Nat} (hd : 5 ≤ (d + 1)) {n : Nat} {K1456 : Nat → Hp → Option Hp} (HK1456 : ∀ (v0 : Nat) (h : Hp) (o : Hp), K1456 v0 h = some o → Run X (d + 1) 125 1456 [some (.ref v0), none] [] h (none, o)) {v0 : Nat} {h : Hp} {o : Hp} (hf : f_X8_init_1376 n K1456 v0 h = some o) : Run X (d + 1) 125 1376 [some (.ref v0), none] [] h (none, o) := by
  unfold f_X8_init_1376 at hf
  refine rs_aload_n i_X8_init_1376 rfl ?_
  refine rs_bipush i_X8_init_1377 (v := 12) (by decide) ?_
  refine rs_newa i_X8_init_1379 (by decide) ?_
  exact r_X8_init_1381 hd HK1456 hf
noncomputable def f_X8_init_1373 (n : Nat) (K1456 : Nat → Hp → Option Hp) (v0 : Nat) (s0 : Nat) (s1 : Nat) (h : Hp) : Option Hp :=
  if okO h s0 8 then
  if 16 ≤ s1 then
  f_X8_init_1376 n K1456 v0 (hsr h s0 36 (some s1))
  else none
  else none
set_option maxRecDepth 100000 in
set_option maxHeartbeats 4000000 in
theorem r_X8_init_1373 {X : Nat → Int32} {d : Nat} (hd : 5 ≤ (d + 1)) {n : Nat} {K1456 : Nat → Hp → Option Hp} (HK1456 : ∀ (v0 : Nat) (h : Hp) (o : Hp), K1456 v0 h = some o → Run X (d + 1) 125 1456 [some (.ref v0), none] [] h (none, o)) {v0 : Nat} {s0 : Nat} {s1 : Nat} {h : Hp} {o : Hp} (hf : f_X8_init_1373 n K1456 v0 s0 s1 h = some o) : Run X (d + 1) 125 1373 [some (.ref v0), none] [.ref s1, .ref s0] h (none, o) := by
  unfold f_X8_init_1373 at hf
  obtain ⟨c1, hf⟩ := ite_some hf
  obtain ⟨c2, hf⟩ := ite_some hf
  refine rs_putR i_X8_init_1373 (by decide) c2 c1 ?_
  exact r_X8_init_1376 hd HK1456 hf
noncomputable def f_X8_init_1368 (n : Nat) (K1456 : Nat → Hp → Option Hp) (v0 : Nat) (h : Hp) : Option Hp :=
  f_X8_init_1373 n K1456 v0 v0 h.1.length (hnew h (9, ix 6))
set_option maxRecDepth 100000 in
set_option maxHeartbeats 4000000 in
theorem r_X8_init_1368 {X : Nat → Int32} {d : Nat} (hd : 5 ≤ (d + 1)) {n : Nat} {K1456 : Nat → Hp → Option Hp} (HK1456 : ∀ (v0 : Nat) (h : Hp) (o : Hp), K1456 v0 h = some o → Run X (d + 1) 125 1456 [some (.ref v0), none] [] h (none, o)) {v0 : Nat} {h : Hp} {o : Hp} (hf : f_X8_init_1368 n K1456 v0 h = some o) : Run X (d + 1) 125 1368 [some (.ref v0), none] [] h (none, o) := by
  unfold f_X8_init_1368 at hf
  refine rs_aload_n i_X8_init_1368 rfl ?_
  refine rs_bipush i_X8_init_1369 (v := 6) (by decide) ?_
  refine rs_newa i_X8_init_1371 (by decide) ?_
  exact r_X8_init_1373 hd HK1456 hf
noncomputable def f_X8_init_1365 (n : Nat) (K1456 : Nat → Hp → Option Hp) (v0 : Nat) (s0 : Nat) (s1 : Nat) (h : Hp) : Option Hp :=
  if okO h s0 8 then
  if 16 ≤ s1 then
  f_X8_init_1368 n K1456 v0 (hsr h s0 35 (some s1))
  else none
  else none
set_option maxRecDepth 100000 in
set_option maxHeartbeats 4000000 in
theorem r_X8_init_1365 {X : Nat → Int32} {d : Nat} (hd : 5 ≤ (d + 1)) {n : Nat} {K1456 : Nat → Hp → Option Hp} (HK1456 : ∀ (v0 : Nat) (h : Hp) (o : Hp), K1456 v0 h = some o → Run X (d + 1) 125 1456 [some (.ref v0), none] [] h (none, o)) {v0 : Nat} {s0 : Nat} {s1 : Nat} {h : Hp} {o : Hp} (hf : f_X8_init_1365 n K1456 v0 s0 s1 h = some o) : Run X (d + 1) 125 1365 [some (.ref v0), none] [.ref s1, .ref s0] h (none, o) := by
  unfold f_X8_init_1365 at hf
  obtain ⟨c1, hf⟩ := ite_some hf
  obtain ⟨c2, hf⟩ := ite_some hf
  refine rs_putR i_X8_init_1365 (by decide) c2 c1 ?_
  exact r_X8_init_1368 hd HK1456 hf
noncomputable def f_X8_init_1359 (n : Nat) (K1456 : Nat → Hp → Option Hp) (v0 : Nat) (h : Hp) : Option Hp :=
  f_X8_init_1365 n K1456 v0 v0 h.1.length (hnew h (9, ix 200))
set_option maxRecDepth 100000 in
set_option maxHeartbeats 4000000 in
theorem r_X8_init_1359 {X : Nat → Int32} {d : Nat} (hd : 5 ≤ (d + 1)) {n : Nat} {K1456 : Nat → Hp → Option Hp} (HK1456 : ∀ (v0 : Nat) (h : Hp) (o : Hp), K1456 v0 h = some o → Run X (d + 1) 125 1456 [some (.ref v0), none] [] h (none, o)) {v0 : Nat} {h : Hp} {o : Hp} (hf : f_X8_init_1359 n K1456 v0 h = some o) : Run X (d + 1) 125 1359 [some (.ref v0), none] [] h (none, o) := by
  unfold f_X8_init_1359 at hf
  refine rs_aload_n i_X8_init_1359 rfl ?_
  refine rs_sipush i_X8_init_1360 (v := 200) (by decide) ?_
  refine rs_newa i_X8_init_1363 (by decide) ?_
  exact r_X8_init_1365 hd HK1456 hf
noncomputable def f_X8_init_1356 (n : Nat) (K1456 : Nat → Hp → Option Hp) (v0 : Nat) (s0 : Nat) (s1 : Nat) (h : Hp) : Option Hp :=
  if okO h s0 8 then
  if 16 ≤ s1 then
  f_X8_init_1359 n K1456 v0 (hsr h s0 31 (some s1))
  else none
  else none
set_option maxRecDepth 100000 in
set_option maxHeartbeats 4000000 in
theorem r_X8_init_1356 {X : Nat → Int32} {d : Nat} (hd : 5 ≤ (d + 1)) {n : Nat} {K1456 : Nat → Hp → Option Hp} (HK1456 : ∀ (v0 : Nat) (h : Hp) (o : Hp), K1456 v0 h = some o → Run X (d + 1) 125 1456 [some (.ref v0), none] [] h (none, o)) {v0 : Nat} {s0 : Nat} {s1 : Nat} {h : Hp} {o : Hp} (hf : f_X8_init_1356 n K1456 v0 s0 s1 h = some o) : Run X (d + 1) 125 1356 [some (.ref v0), none] [.ref s1, .ref s0] h (none, o) := by
  unfold f_X8_init_1356 at hf
  obtain ⟨c1, hf⟩ := ite_some hf
  obtain ⟨c2, hf⟩ := ite_some hf
  refine rs_putR i_X8_init_1356 (by decide) c2 c1 ?_
  exact r_X8_init_1359 hd HK1456 hf
noncomputable def f_X8_init_1350 (n : Nat) (K1456 : Nat → Hp → Option Hp) (v0 : Nat) (h : Hp) : Option Hp :=
  f_X8_init_1356 n K1456 v0 v0 h.1.length (hnew h (9, ix 200))
set_option maxRecDepth 100000 in
set_option maxHeartbeats 4000000 in
theorem r_X8_init_1350 {X : Nat → Int32} {d : Nat} (hd : 5 ≤ (d + 1)) {n : Nat} {K1456 : Nat → Hp → Option Hp} (HK1456 : ∀ (v0 : Nat) (h : Hp) (o : Hp), K1456 v0 h = some o → Run X (d + 1) 125 1456 [some (.ref v0), none] [] h (none, o)) {v0 : Nat} {h : Hp} {o : Hp} (hf : f_X8_init_1350 n K1456 v0 h = some o) : Run X (d + 1) 125 1350 [some (.ref v0), none] [] h (none, o) := by
  unfold f_X8_init_1350 at hf
  refine rs_aload_n i_X8_init_1350 rfl ?_
  refine rs_sipush i_X8_init_1351 (v := 200) (by decide) ?_
  refine rs_newa i_X8_init_1354 (by decide) ?_
  exact r_X8_init_1356 hd HK1456 hf
noncomputable def f_X8_init_1347 (n : Nat) (K1456 : Nat → Hp → Option Hp) (v0 : Nat) (s0 : Nat) (s1 : Nat) (h : Hp) : Option Hp :=
  if okO h s0 8 then
  if 16 ≤ s1 then
  f_X8_init_1350 n K1456 v0 (hsr h s0 30 (some s1))
  else none
  else none
set_option maxRecDepth 100000 in
set_option maxHeartbeats 4000000 in
theorem r_X8_init_1347 {X : Nat → Int32} {d : Nat} (hd : 5 ≤ (d + 1)) {n : Nat} {K1456 : Nat → Hp → Option Hp} (HK1456 : ∀ (v0 : Nat) (h : Hp) (o : Hp), K1456 v0 h = some o → Run X (d + 1) 125 1456 [some (.ref v0), none] [] h (none, o)) {v0 : Nat} {s0 : Nat} {s1 : Nat} {h : Hp} {o : Hp} (hf : f_X8_init_1347 n K1456 v0 s0 s1 h = some o) : Run X (d + 1) 125 1347 [some (.ref v0), none] [.ref s1, .ref s0] h (none, o) := by
  unfold f_X8_init_1347 at hf
  obtain ⟨c1, hf⟩ := ite_some hf
  obtain ⟨c2, hf⟩ := ite_some hf
  refine rs_putR i_X8_init_1347 (by decide) c2 c1 ?_
  exact r_X8_init_1350 hd HK1456 hf
noncomputable def f_X8_init_1341 (n : Nat) (K1456 : Nat → Hp → Option Hp) (v0 : Nat) (s0 : Nat) (s1 : Nat) (h : Hp) : Option Hp :=
  if okI h s1 95 then
  f_X8_init_1347 n K1456 v0 s0 s1 (hsi h s1 (ix 95) 32)
  else none
set_option maxRecDepth 100000 in
set_option maxHeartbeats 4000000 in
theorem r_X8_init_1341 {X : Nat → Int32} {d : Nat} (hd : 5 ≤ (d + 1)) {n : Nat} {K1456 : Nat → Hp → Option Hp} (HK1456 : ∀ (v0 : Nat) (h : Hp) (o : Hp), K1456 v0 h = some o → Run X (d + 1) 125 1456 [some (.ref v0), none] [] h (none, o)) {v0 : Nat} {s0 : Nat} {s1 : Nat} {h : Hp} {o : Hp} (hf : f_X8_init_1341 n K1456 v0 s0 s1 h = some o) : Run X (d + 1) 125 1341 [some (.ref v0), none] [.ref s1, .ref s0] h (none, o) := by
  unfold f_X8_init_1341 at hf
  refine rs_dup i_X8_init_1341 rfl ?_
  refine rs_bipush i_X8_init_1342 (v := 95) (by decide) ?_
  refine rs_bipush i_X8_init_1344 (v := 32) (by decide) ?_
  obtain ⟨c1, hf⟩ := ite_some hf
  refine rs_iast i_X8_init_1346 c1 ?_
  exact r_X8_init_1347 hd HK1456 hf
noncomputable def f_X8_init_1335 (n : Nat) (K1456 : Nat → Hp → Option Hp) (v0 : Nat) (s0 : Nat) (s1 : Nat) (h : Hp) : Option Hp :=
  if okI h s1 94 then
  f_X8_init_1341 n K1456 v0 s0 s1 (hsi h s1 (ix 94) 32)
  else none
set_option maxRecDepth 100000 in
set_option maxHeartbeats 4000000 in
theorem r_X8_init_1335 {X : Nat → Int32} {d : Nat} (hd : 5 ≤ (d + 1)) {n : Nat} {K1456 : Nat → Hp → Option Hp} (HK1456 : ∀ (v0 : Nat) (h : Hp) (o : Hp), K1456 v0 h = some o → Run X (d + 1) 125 1456 [some (.ref v0), none] [] h (none, o)) {v0 : Nat} {s0 : Nat} {s1 : Nat} {h : Hp} {o : Hp} (hf : f_X8_init_1335 n K1456 v0 s0 s1 h = some o) : Run X (d + 1) 125 1335 [some (.ref v0), none] [.ref s1, .ref s0] h (none, o) := by
  unfold f_X8_init_1335 at hf
  refine rs_dup i_X8_init_1335 rfl ?_
  refine rs_bipush i_X8_init_1336 (v := 94) (by decide) ?_
  refine rs_bipush i_X8_init_1338 (v := 32) (by decide) ?_
  obtain ⟨c1, hf⟩ := ite_some hf
  refine rs_iast i_X8_init_1340 c1 ?_
  exact r_X8_init_1341 hd HK1456 hf
noncomputable def f_X8_init_1329 (n : Nat) (K1456 : Nat → Hp → Option Hp) (v0 : Nat) (s0 : Nat) (s1 : Nat) (h : Hp) : Option Hp :=
  if okI h s1 93 then
  f_X8_init_1335 n K1456 v0 s0 s1 (hsi h s1 (ix 93) 32)
  else none
set_option maxRecDepth 100000 in
set_option maxHeartbeats 4000000 in
theorem r_X8_init_1329 {X : Nat → Int32} {d : Nat} (hd : 5 ≤ (d + 1)) {n : Nat} {K1456 : Nat → Hp → Option Hp} (HK1456 : ∀ (v0 : Nat) (h : Hp) (o : Hp), K1456 v0 h = some o → Run X (d + 1) 125 1456 [some (.ref v0), none] [] h (none, o)) {v0 : Nat} {s0 : Nat} {s1 : Nat} {h : Hp} {o : Hp} (hf : f_X8_init_1329 n K1456 v0 s0 s1 h = some o) : Run X (d + 1) 125 1329 [some (.ref v0), none] [.ref s1, .ref s0] h (none, o) := by
  unfold f_X8_init_1329 at hf
  refine rs_dup i_X8_init_1329 rfl ?_
  refine rs_bipush i_X8_init_1330 (v := 93) (by decide) ?_
  refine rs_bipush i_X8_init_1332 (v := 32) (by decide) ?_
  obtain ⟨c1, hf⟩ := ite_some hf
  refine rs_iast i_X8_init_1334 c1 ?_
  exact r_X8_init_1335 hd HK1456 hf
noncomputable def f_X8_init_1323 (n : Nat) (K1456 : Nat → Hp → Option Hp) (v0 : Nat) (s0 : Nat) (s1 : Nat) (h : Hp) : Option Hp :=
  if okI h s1 92 then
  f_X8_init_1329 n K1456 v0 s0 s1 (hsi h s1 (ix 92) 32)
  else none
set_option maxRecDepth 100000 in
set_option maxHeartbeats 4000000 in
theorem r_X8_init_1323 {X : Nat → Int32} {d : Nat} (hd : 5 ≤ (d + 1)) {n : Nat} {K1456 : Nat → Hp → Option Hp} (HK1456 : ∀ (v0 : Nat) (h : Hp) (o : Hp), K1456 v0 h = some o → Run X (d + 1) 125 1456 [some (.ref v0), none] [] h (none, o)) {v0 : Nat} {s0 : Nat} {s1 : Nat} {h : Hp} {o : Hp} (hf : f_X8_init_1323 n K1456 v0 s0 s1 h = some o) : Run X (d + 1) 125 1323 [some (.ref v0), none] [.ref s1, .ref s0] h (none, o) := by
  unfold f_X8_init_1323 at hf
  refine rs_dup i_X8_init_1323 rfl ?_
  refine rs_bipush i_X8_init_1324 (v := 92) (by decide) ?_
  refine rs_bipush i_X8_init_1326 (v := 32) (by decide) ?_
  obtain ⟨c1, hf⟩ := ite_some hf
  refine rs_iast i_X8_init_1328 c1 ?_
  exact r_X8_init_1329 hd HK1456 hf
noncomputable def f_X8_init_1317 (n : Nat) (K1456 : Nat → Hp → Option Hp) (v0 : Nat) (s0 : Nat) (s1 : Nat) (h : Hp) : Option Hp :=
  if okI h s1 91 then
  f_X8_init_1323 n K1456 v0 s0 s1 (hsi h s1 (ix 91) 32)
  else none
set_option maxRecDepth 100000 in
set_option maxHeartbeats 4000000 in
theorem r_X8_init_1317 {X : Nat → Int32} {d : Nat} (hd : 5 ≤ (d + 1)) {n : Nat} {K1456 : Nat → Hp → Option Hp} (HK1456 : ∀ (v0 : Nat) (h : Hp) (o : Hp), K1456 v0 h = some o → Run X (d + 1) 125 1456 [some (.ref v0), none] [] h (none, o)) {v0 : Nat} {s0 : Nat} {s1 : Nat} {h : Hp} {o : Hp} (hf : f_X8_init_1317 n K1456 v0 s0 s1 h = some o) : Run X (d + 1) 125 1317 [some (.ref v0), none] [.ref s1, .ref s0] h (none, o) := by
  unfold f_X8_init_1317 at hf
  refine rs_dup i_X8_init_1317 rfl ?_
  refine rs_bipush i_X8_init_1318 (v := 91) (by decide) ?_
  refine rs_bipush i_X8_init_1320 (v := 32) (by decide) ?_
  obtain ⟨c1, hf⟩ := ite_some hf
  refine rs_iast i_X8_init_1322 c1 ?_
  exact r_X8_init_1323 hd HK1456 hf
noncomputable def f_X8_init_1311 (n : Nat) (K1456 : Nat → Hp → Option Hp) (v0 : Nat) (s0 : Nat) (s1 : Nat) (h : Hp) : Option Hp :=
  if okI h s1 90 then
  f_X8_init_1317 n K1456 v0 s0 s1 (hsi h s1 (ix 90) 116)
  else none
set_option maxRecDepth 100000 in
set_option maxHeartbeats 4000000 in
theorem r_X8_init_1311 {X : Nat → Int32} {d : Nat} (hd : 5 ≤ (d + 1)) {n : Nat} {K1456 : Nat → Hp → Option Hp} (HK1456 : ∀ (v0 : Nat) (h : Hp) (o : Hp), K1456 v0 h = some o → Run X (d + 1) 125 1456 [some (.ref v0), none] [] h (none, o)) {v0 : Nat} {s0 : Nat} {s1 : Nat} {h : Hp} {o : Hp} (hf : f_X8_init_1311 n K1456 v0 s0 s1 h = some o) : Run X (d + 1) 125 1311 [some (.ref v0), none] [.ref s1, .ref s0] h (none, o) := by
  unfold f_X8_init_1311 at hf
  refine rs_dup i_X8_init_1311 rfl ?_
  refine rs_bipush i_X8_init_1312 (v := 90) (by decide) ?_
  refine rs_bipush i_X8_init_1314 (v := 116) (by decide) ?_
  obtain ⟨c1, hf⟩ := ite_some hf
  refine rs_iast i_X8_init_1316 c1 ?_
  exact r_X8_init_1317 hd HK1456 hf
noncomputable def f_X8_init_1305 (n : Nat) (K1456 : Nat → Hp → Option Hp) (v0 : Nat) (s0 : Nat) (s1 : Nat) (h : Hp) : Option Hp :=
  if okI h s1 89 then
  f_X8_init_1311 n K1456 v0 s0 s1 (hsi h s1 (ix 89) 111)
  else none
set_option maxRecDepth 100000 in
set_option maxHeartbeats 4000000 in
theorem r_X8_init_1305 {X : Nat → Int32} {d : Nat} (hd : 5 ≤ (d + 1)) {n : Nat} {K1456 : Nat → Hp → Option Hp} (HK1456 : ∀ (v0 : Nat) (h : Hp) (o : Hp), K1456 v0 h = some o → Run X (d + 1) 125 1456 [some (.ref v0), none] [] h (none, o)) {v0 : Nat} {s0 : Nat} {s1 : Nat} {h : Hp} {o : Hp} (hf : f_X8_init_1305 n K1456 v0 s0 s1 h = some o) : Run X (d + 1) 125 1305 [some (.ref v0), none] [.ref s1, .ref s0] h (none, o) := by
  unfold f_X8_init_1305 at hf
  refine rs_dup i_X8_init_1305 rfl ?_
  refine rs_bipush i_X8_init_1306 (v := 89) (by decide) ?_
  refine rs_bipush i_X8_init_1308 (v := 111) (by decide) ?_
  obtain ⟨c1, hf⟩ := ite_some hf
  refine rs_iast i_X8_init_1310 c1 ?_
  exact r_X8_init_1311 hd HK1456 hf
noncomputable def f_X8_init_1299 (n : Nat) (K1456 : Nat → Hp → Option Hp) (v0 : Nat) (s0 : Nat) (s1 : Nat) (h : Hp) : Option Hp :=
  if okI h s1 88 then
  f_X8_init_1305 n K1456 v0 s0 s1 (hsi h s1 (ix 88) 110)
  else none
set_option maxRecDepth 100000 in
set_option maxHeartbeats 4000000 in
theorem r_X8_init_1299 {X : Nat → Int32} {d : Nat} (hd : 5 ≤ (d + 1)) {n : Nat} {K1456 : Nat → Hp → Option Hp} (HK1456 : ∀ (v0 : Nat) (h : Hp) (o : Hp), K1456 v0 h = some o → Run X (d + 1) 125 1456 [some (.ref v0), none] [] h (none, o)) {v0 : Nat} {s0 : Nat} {s1 : Nat} {h : Hp} {o : Hp} (hf : f_X8_init_1299 n K1456 v0 s0 s1 h = some o) : Run X (d + 1) 125 1299 [some (.ref v0), none] [.ref s1, .ref s0] h (none, o) := by
  unfold f_X8_init_1299 at hf
  refine rs_dup i_X8_init_1299 rfl ?_
  refine rs_bipush i_X8_init_1300 (v := 88) (by decide) ?_
  refine rs_bipush i_X8_init_1302 (v := 110) (by decide) ?_
  obtain ⟨c1, hf⟩ := ite_some hf
  refine rs_iast i_X8_init_1304 c1 ?_
  exact r_X8_init_1305 hd HK1456 hf
noncomputable def f_X8_init_1293 (n : Nat) (K1456 : Nat → Hp → Option Hp) (v0 : Nat) (s0 : Nat) (s1 : Nat) (h : Hp) : Option Hp :=
  if okI h s1 87 then
  f_X8_init_1299 n K1456 v0 s0 s1 (hsi h s1 (ix 87) 32)
  else none
set_option maxRecDepth 100000 in
set_option maxHeartbeats 4000000 in
theorem r_X8_init_1293 {X : Nat → Int32} {d : Nat} (hd : 5 ≤ (d + 1)) {n : Nat} {K1456 : Nat → Hp → Option Hp} (HK1456 : ∀ (v0 : Nat) (h : Hp) (o : Hp), K1456 v0 h = some o → Run X (d + 1) 125 1456 [some (.ref v0), none] [] h (none, o)) {v0 : Nat} {s0 : Nat} {s1 : Nat} {h : Hp} {o : Hp} (hf : f_X8_init_1293 n K1456 v0 s0 s1 h = some o) : Run X (d + 1) 125 1293 [some (.ref v0), none] [.ref s1, .ref s0] h (none, o) := by
  unfold f_X8_init_1293 at hf
  refine rs_dup i_X8_init_1293 rfl ?_
  refine rs_bipush i_X8_init_1294 (v := 87) (by decide) ?_
  refine rs_bipush i_X8_init_1296 (v := 32) (by decide) ?_
  obtain ⟨c1, hf⟩ := ite_some hf
  refine rs_iast i_X8_init_1298 c1 ?_
  exact r_X8_init_1299 hd HK1456 hf
noncomputable def f_X8_init_1287 (n : Nat) (K1456 : Nat → Hp → Option Hp) (v0 : Nat) (s0 : Nat) (s1 : Nat) (h : Hp) : Option Hp :=
  if okI h s1 86 then
  f_X8_init_1293 n K1456 v0 s0 s1 (hsi h s1 (ix 86) 32)
  else none
set_option maxRecDepth 100000 in
set_option maxHeartbeats 4000000 in
theorem r_X8_init_1287 {X : Nat → Int32} {d : Nat} (hd : 5 ≤ (d + 1)) {n : Nat} {K1456 : Nat → Hp → Option Hp} (HK1456 : ∀ (v0 : Nat) (h : Hp) (o : Hp), K1456 v0 h = some o → Run X (d + 1) 125 1456 [some (.ref v0), none] [] h (none, o)) {v0 : Nat} {s0 : Nat} {s1 : Nat} {h : Hp} {o : Hp} (hf : f_X8_init_1287 n K1456 v0 s0 s1 h = some o) : Run X (d + 1) 125 1287 [some (.ref v0), none] [.ref s1, .ref s0] h (none, o) := by
  unfold f_X8_init_1287 at hf
  refine rs_dup i_X8_init_1287 rfl ?_
  refine rs_bipush i_X8_init_1288 (v := 86) (by decide) ?_
  refine rs_bipush i_X8_init_1290 (v := 32) (by decide) ?_
  obtain ⟨c1, hf⟩ := ite_some hf
  refine rs_iast i_X8_init_1292 c1 ?_
  exact r_X8_init_1293 hd HK1456 hf
noncomputable def f_X8_init_1281 (n : Nat) (K1456 : Nat → Hp → Option Hp) (v0 : Nat) (s0 : Nat) (s1 : Nat) (h : Hp) : Option Hp :=
  if okI h s1 85 then
  f_X8_init_1287 n K1456 v0 s0 s1 (hsi h s1 (ix 85) 32)
  else none
set_option maxRecDepth 100000 in
set_option maxHeartbeats 4000000 in
theorem r_X8_init_1281 {X : Nat → Int32} {d : Nat} (hd : 5 ≤ (d + 1)) {n : Nat} {K1456 : Nat → Hp → Option Hp} (HK1456 : ∀ (v0 : Nat) (h : Hp) (o : Hp), K1456 v0 h = some o → Run X (d + 1) 125 1456 [some (.ref v0), none] [] h (none, o)) {v0 : Nat} {s0 : Nat} {s1 : Nat} {h : Hp} {o : Hp} (hf : f_X8_init_1281 n K1456 v0 s0 s1 h = some o) : Run X (d + 1) 125 1281 [some (.ref v0), none] [.ref s1, .ref s0] h (none, o) := by
  unfold f_X8_init_1281 at hf
  refine rs_dup i_X8_init_1281 rfl ?_
  refine rs_bipush i_X8_init_1282 (v := 85) (by decide) ?_
  refine rs_bipush i_X8_init_1284 (v := 32) (by decide) ?_
  obtain ⟨c1, hf⟩ := ite_some hf
  refine rs_iast i_X8_init_1286 c1 ?_
  exact r_X8_init_1287 hd HK1456 hf
noncomputable def f_X8_init_1275 (n : Nat) (K1456 : Nat → Hp → Option Hp) (v0 : Nat) (s0 : Nat) (s1 : Nat) (h : Hp) : Option Hp :=
  if okI h s1 84 then
  f_X8_init_1281 n K1456 v0 s0 s1 (hsi h s1 (ix 84) 32)
  else none
set_option maxRecDepth 100000 in
set_option maxHeartbeats 4000000 in
theorem r_X8_init_1275 {X : Nat → Int32} {d : Nat} (hd : 5 ≤ (d + 1)) {n : Nat} {K1456 : Nat → Hp → Option Hp} (HK1456 : ∀ (v0 : Nat) (h : Hp) (o : Hp), K1456 v0 h = some o → Run X (d + 1) 125 1456 [some (.ref v0), none] [] h (none, o)) {v0 : Nat} {s0 : Nat} {s1 : Nat} {h : Hp} {o : Hp} (hf : f_X8_init_1275 n K1456 v0 s0 s1 h = some o) : Run X (d + 1) 125 1275 [some (.ref v0), none] [.ref s1, .ref s0] h (none, o) := by
  unfold f_X8_init_1275 at hf
  refine rs_dup i_X8_init_1275 rfl ?_
  refine rs_bipush i_X8_init_1276 (v := 84) (by decide) ?_
  refine rs_bipush i_X8_init_1278 (v := 32) (by decide) ?_
  obtain ⟨c1, hf⟩ := ite_some hf
  refine rs_iast i_X8_init_1280 c1 ?_
  exact r_X8_init_1281 hd HK1456 hf
noncomputable def f_X8_init_1269 (n : Nat) (K1456 : Nat → Hp → Option Hp) (v0 : Nat) (s0 : Nat) (s1 : Nat) (h : Hp) : Option Hp :=
  if okI h s1 83 then
  f_X8_init_1275 n K1456 v0 s0 s1 (hsi h s1 (ix 83) 32)
  else none
set_option maxRecDepth 100000 in
set_option maxHeartbeats 4000000 in
theorem r_X8_init_1269 {X : Nat → Int32} {d : Nat} (hd : 5 ≤ (d + 1)) {n : Nat} {K1456 : Nat → Hp → Option Hp} (HK1456 : ∀ (v0 : Nat) (h : Hp) (o : Hp), K1456 v0 h = some o → Run X (d + 1) 125 1456 [some (.ref v0), none] [] h (none, o)) {v0 : Nat} {s0 : Nat} {s1 : Nat} {h : Hp} {o : Hp} (hf : f_X8_init_1269 n K1456 v0 s0 s1 h = some o) : Run X (d + 1) 125 1269 [some (.ref v0), none] [.ref s1, .ref s0] h (none, o) := by
  unfold f_X8_init_1269 at hf
  refine rs_dup i_X8_init_1269 rfl ?_
  refine rs_bipush i_X8_init_1270 (v := 83) (by decide) ?_
  refine rs_bipush i_X8_init_1272 (v := 32) (by decide) ?_
  obtain ⟨c1, hf⟩ := ite_some hf
  refine rs_iast i_X8_init_1274 c1 ?_
  exact r_X8_init_1275 hd HK1456 hf
noncomputable def f_X8_init_1263 (n : Nat) (K1456 : Nat → Hp → Option Hp) (v0 : Nat) (s0 : Nat) (s1 : Nat) (h : Hp) : Option Hp :=
  if okI h s1 82 then
  f_X8_init_1269 n K1456 v0 s0 s1 (hsi h s1 (ix 82) 100)
  else none
set_option maxRecDepth 100000 in
set_option maxHeartbeats 4000000 in
theorem r_X8_init_1263 {X : Nat → Int32} {d : Nat} (hd : 5 ≤ (d + 1)) {n : Nat} {K1456 : Nat → Hp → Option Hp} (HK1456 : ∀ (v0 : Nat) (h : Hp) (o : Hp), K1456 v0 h = some o → Run X (d + 1) 125 1456 [some (.ref v0), none] [] h (none, o)) {v0 : Nat} {s0 : Nat} {s1 : Nat} {h : Hp} {o : Hp} (hf : f_X8_init_1263 n K1456 v0 s0 s1 h = some o) : Run X (d + 1) 125 1263 [some (.ref v0), none] [.ref s1, .ref s0] h (none, o) := by
  unfold f_X8_init_1263 at hf
  refine rs_dup i_X8_init_1263 rfl ?_
  refine rs_bipush i_X8_init_1264 (v := 82) (by decide) ?_
  refine rs_bipush i_X8_init_1266 (v := 100) (by decide) ?_
  obtain ⟨c1, hf⟩ := ite_some hf
  refine rs_iast i_X8_init_1268 c1 ?_
  exact r_X8_init_1269 hd HK1456 hf
noncomputable def f_X8_init_1257 (n : Nat) (K1456 : Nat → Hp → Option Hp) (v0 : Nat) (s0 : Nat) (s1 : Nat) (h : Hp) : Option Hp :=
  if okI h s1 81 then
  f_X8_init_1263 n K1456 v0 s0 s1 (hsi h s1 (ix 81) 110)
  else none
set_option maxRecDepth 100000 in
set_option maxHeartbeats 4000000 in
theorem r_X8_init_1257 {X : Nat → Int32} {d : Nat} (hd : 5 ≤ (d + 1)) {n : Nat} {K1456 : Nat → Hp → Option Hp} (HK1456 : ∀ (v0 : Nat) (h : Hp) (o : Hp), K1456 v0 h = some o → Run X (d + 1) 125 1456 [some (.ref v0), none] [] h (none, o)) {v0 : Nat} {s0 : Nat} {s1 : Nat} {h : Hp} {o : Hp} (hf : f_X8_init_1257 n K1456 v0 s0 s1 h = some o) : Run X (d + 1) 125 1257 [some (.ref v0), none] [.ref s1, .ref s0] h (none, o) := by
  unfold f_X8_init_1257 at hf
  refine rs_dup i_X8_init_1257 rfl ?_
  refine rs_bipush i_X8_init_1258 (v := 81) (by decide) ?_
  refine rs_bipush i_X8_init_1260 (v := 110) (by decide) ?_
  obtain ⟨c1, hf⟩ := ite_some hf
  refine rs_iast i_X8_init_1262 c1 ?_
  exact r_X8_init_1263 hd HK1456 hf
noncomputable def f_X8_init_1251 (n : Nat) (K1456 : Nat → Hp → Option Hp) (v0 : Nat) (s0 : Nat) (s1 : Nat) (h : Hp) : Option Hp :=
  if okI h s1 80 then
  f_X8_init_1257 n K1456 v0 s0 s1 (hsi h s1 (ix 80) 97)
  else none
set_option maxRecDepth 100000 in
set_option maxHeartbeats 4000000 in
theorem r_X8_init_1251 {X : Nat → Int32} {d : Nat} (hd : 5 ≤ (d + 1)) {n : Nat} {K1456 : Nat → Hp → Option Hp} (HK1456 : ∀ (v0 : Nat) (h : Hp) (o : Hp), K1456 v0 h = some o → Run X (d + 1) 125 1456 [some (.ref v0), none] [] h (none, o)) {v0 : Nat} {s0 : Nat} {s1 : Nat} {h : Hp} {o : Hp} (hf : f_X8_init_1251 n K1456 v0 s0 s1 h = some o) : Run X (d + 1) 125 1251 [some (.ref v0), none] [.ref s1, .ref s0] h (none, o) := by
  unfold f_X8_init_1251 at hf
  refine rs_dup i_X8_init_1251 rfl ?_
  refine rs_bipush i_X8_init_1252 (v := 80) (by decide) ?_
  refine rs_bipush i_X8_init_1254 (v := 97) (by decide) ?_
  obtain ⟨c1, hf⟩ := ite_some hf
  refine rs_iast i_X8_init_1256 c1 ?_
  exact r_X8_init_1257 hd HK1456 hf
noncomputable def f_X8_init_1245 (n : Nat) (K1456 : Nat → Hp → Option Hp) (v0 : Nat) (s0 : Nat) (s1 : Nat) (h : Hp) : Option Hp :=
  if okI h s1 79 then
  f_X8_init_1251 n K1456 v0 s0 s1 (hsi h s1 (ix 79) 32)
  else none
set_option maxRecDepth 100000 in
set_option maxHeartbeats 4000000 in
theorem r_X8_init_1245 {X : Nat → Int32} {d : Nat} (hd : 5 ≤ (d + 1)) {n : Nat} {K1456 : Nat → Hp → Option Hp} (HK1456 : ∀ (v0 : Nat) (h : Hp) (o : Hp), K1456 v0 h = some o → Run X (d + 1) 125 1456 [some (.ref v0), none] [] h (none, o)) {v0 : Nat} {s0 : Nat} {s1 : Nat} {h : Hp} {o : Hp} (hf : f_X8_init_1245 n K1456 v0 s0 s1 h = some o) : Run X (d + 1) 125 1245 [some (.ref v0), none] [.ref s1, .ref s0] h (none, o) := by
  unfold f_X8_init_1245 at hf
  refine rs_dup i_X8_init_1245 rfl ?_
  refine rs_bipush i_X8_init_1246 (v := 79) (by decide) ?_
  refine rs_bipush i_X8_init_1248 (v := 32) (by decide) ?_
  obtain ⟨c1, hf⟩ := ite_some hf
  refine rs_iast i_X8_init_1250 c1 ?_
  exact r_X8_init_1251 hd HK1456 hf
noncomputable def f_X8_init_1239 (n : Nat) (K1456 : Nat → Hp → Option Hp) (v0 : Nat) (s0 : Nat) (s1 : Nat) (h : Hp) : Option Hp :=
  if okI h s1 78 then
  f_X8_init_1245 n K1456 v0 s0 s1 (hsi h s1 (ix 78) 32)
  else none
set_option maxRecDepth 100000 in
set_option maxHeartbeats 4000000 in
theorem r_X8_init_1239 {X : Nat → Int32} {d : Nat} (hd : 5 ≤ (d + 1)) {n : Nat} {K1456 : Nat → Hp → Option Hp} (HK1456 : ∀ (v0 : Nat) (h : Hp) (o : Hp), K1456 v0 h = some o → Run X (d + 1) 125 1456 [some (.ref v0), none] [] h (none, o)) {v0 : Nat} {s0 : Nat} {s1 : Nat} {h : Hp} {o : Hp} (hf : f_X8_init_1239 n K1456 v0 s0 s1 h = some o) : Run X (d + 1) 125 1239 [some (.ref v0), none] [.ref s1, .ref s0] h (none, o) := by
  unfold f_X8_init_1239 at hf
  refine rs_dup i_X8_init_1239 rfl ?_
  refine rs_bipush i_X8_init_1240 (v := 78) (by decide) ?_
  refine rs_bipush i_X8_init_1242 (v := 32) (by decide) ?_
  obtain ⟨c1, hf⟩ := ite_some hf
  refine rs_iast i_X8_init_1244 c1 ?_
  exact r_X8_init_1245 hd HK1456 hf
noncomputable def f_X8_init_1233 (n : Nat) (K1456 : Nat → Hp → Option Hp) (v0 : Nat) (s0 : Nat) (s1 : Nat) (h : Hp) : Option Hp :=
  if okI h s1 77 then
  f_X8_init_1239 n K1456 v0 s0 s1 (hsi h s1 (ix 77) 32)
  else none
set_option maxRecDepth 100000 in
set_option maxHeartbeats 4000000 in
theorem r_X8_init_1233 {X : Nat → Int32} {d : Nat} (hd : 5 ≤ (d + 1)) {n : Nat} {K1456 : Nat → Hp → Option Hp} (HK1456 : ∀ (v0 : Nat) (h : Hp) (o : Hp), K1456 v0 h = some o → Run X (d + 1) 125 1456 [some (.ref v0), none] [] h (none, o)) {v0 : Nat} {s0 : Nat} {s1 : Nat} {h : Hp} {o : Hp} (hf : f_X8_init_1233 n K1456 v0 s0 s1 h = some o) : Run X (d + 1) 125 1233 [some (.ref v0), none] [.ref s1, .ref s0] h (none, o) := by
  unfold f_X8_init_1233 at hf
  refine rs_dup i_X8_init_1233 rfl ?_
  refine rs_bipush i_X8_init_1234 (v := 77) (by decide) ?_
  refine rs_bipush i_X8_init_1236 (v := 32) (by decide) ?_
  obtain ⟨c1, hf⟩ := ite_some hf
  refine rs_iast i_X8_init_1238 c1 ?_
  exact r_X8_init_1239 hd HK1456 hf
noncomputable def f_X8_init_1227 (n : Nat) (K1456 : Nat → Hp → Option Hp) (v0 : Nat) (s0 : Nat) (s1 : Nat) (h : Hp) : Option Hp :=
  if okI h s1 76 then
  f_X8_init_1233 n K1456 v0 s0 s1 (hsi h s1 (ix 76) 32)
  else none
set_option maxRecDepth 100000 in
set_option maxHeartbeats 4000000 in
theorem r_X8_init_1227 {X : Nat → Int32} {d : Nat} (hd : 5 ≤ (d + 1)) {n : Nat} {K1456 : Nat → Hp → Option Hp} (HK1456 : ∀ (v0 : Nat) (h : Hp) (o : Hp), K1456 v0 h = some o → Run X (d + 1) 125 1456 [some (.ref v0), none] [] h (none, o)) {v0 : Nat} {s0 : Nat} {s1 : Nat} {h : Hp} {o : Hp} (hf : f_X8_init_1227 n K1456 v0 s0 s1 h = some o) : Run X (d + 1) 125 1227 [some (.ref v0), none] [.ref s1, .ref s0] h (none, o) := by
  unfold f_X8_init_1227 at hf
  refine rs_dup i_X8_init_1227 rfl ?_
  refine rs_bipush i_X8_init_1228 (v := 76) (by decide) ?_
  refine rs_bipush i_X8_init_1230 (v := 32) (by decide) ?_
  obtain ⟨c1, hf⟩ := ite_some hf
  refine rs_iast i_X8_init_1232 c1 ?_
  exact r_X8_init_1233 hd HK1456 hf
noncomputable def f_X8_init_1221 (n : Nat) (K1456 : Nat → Hp → Option Hp) (v0 : Nat) (s0 : Nat) (s1 : Nat) (h : Hp) : Option Hp :=
  if okI h s1 75 then
  f_X8_init_1227 n K1456 v0 s0 s1 (hsi h s1 (ix 75) 32)
  else none
set_option maxRecDepth 100000 in
set_option maxHeartbeats 4000000 in
theorem r_X8_init_1221 {X : Nat → Int32} {d : Nat} (hd : 5 ≤ (d + 1)) {n : Nat} {K1456 : Nat → Hp → Option Hp} (HK1456 : ∀ (v0 : Nat) (h : Hp) (o : Hp), K1456 v0 h = some o → Run X (d + 1) 125 1456 [some (.ref v0), none] [] h (none, o)) {v0 : Nat} {s0 : Nat} {s1 : Nat} {h : Hp} {o : Hp} (hf : f_X8_init_1221 n K1456 v0 s0 s1 h = some o) : Run X (d + 1) 125 1221 [some (.ref v0), none] [.ref s1, .ref s0] h (none, o) := by
  unfold f_X8_init_1221 at hf
  refine rs_dup i_X8_init_1221 rfl ?_
  refine rs_bipush i_X8_init_1222 (v := 75) (by decide) ?_
  refine rs_bipush i_X8_init_1224 (v := 32) (by decide) ?_
  obtain ⟨c1, hf⟩ := ite_some hf
  refine rs_iast i_X8_init_1226 c1 ?_
  exact r_X8_init_1227 hd HK1456 hf
noncomputable def f_X8_init_1215 (n : Nat) (K1456 : Nat → Hp → Option Hp) (v0 : Nat) (s0 : Nat) (s1 : Nat) (h : Hp) : Option Hp :=
  if okI h s1 74 then
  f_X8_init_1221 n K1456 v0 s0 s1 (hsi h s1 (ix 74) 32)
  else none
set_option maxRecDepth 100000 in
set_option maxHeartbeats 4000000 in
theorem r_X8_init_1215 {X : Nat → Int32} {d : Nat} (hd : 5 ≤ (d + 1)) {n : Nat} {K1456 : Nat → Hp → Option Hp} (HK1456 : ∀ (v0 : Nat) (h : Hp) (o : Hp), K1456 v0 h = some o → Run X (d + 1) 125 1456 [some (.ref v0), none] [] h (none, o)) {v0 : Nat} {s0 : Nat} {s1 : Nat} {h : Hp} {o : Hp} (hf : f_X8_init_1215 n K1456 v0 s0 s1 h = some o) : Run X (d + 1) 125 1215 [some (.ref v0), none] [.ref s1, .ref s0] h (none, o) := by
  unfold f_X8_init_1215 at hf
  refine rs_dup i_X8_init_1215 rfl ?_
  refine rs_bipush i_X8_init_1216 (v := 74) (by decide) ?_
  refine rs_bipush i_X8_init_1218 (v := 32) (by decide) ?_
  obtain ⟨c1, hf⟩ := ite_some hf
  refine rs_iast i_X8_init_1220 c1 ?_
  exact r_X8_init_1221 hd HK1456 hf
noncomputable def f_X8_init_1209 (n : Nat) (K1456 : Nat → Hp → Option Hp) (v0 : Nat) (s0 : Nat) (s1 : Nat) (h : Hp) : Option Hp :=
  if okI h s1 73 then
  f_X8_init_1215 n K1456 v0 s0 s1 (hsi h s1 (ix 73) 114)
  else none
set_option maxRecDepth 100000 in
set_option maxHeartbeats 4000000 in
theorem r_X8_init_1209 {X : Nat → Int32} {d : Nat} (hd : 5 ≤ (d + 1)) {n : Nat} {K1456 : Nat → Hp → Option Hp} (HK1456 : ∀ (v0 : Nat) (h : Hp) (o : Hp), K1456 v0 h = some o → Run X (d + 1) 125 1456 [some (.ref v0), none] [] h (none, o)) {v0 : Nat} {s0 : Nat} {s1 : Nat} {h : Hp} {o : Hp} (hf : f_X8_init_1209 n K1456 v0 s0 s1 h = some o) : Run X (d + 1) 125 1209 [some (.ref v0), none] [.ref s1, .ref s0] h (none, o) := by
  unfold f_X8_init_1209 at hf
  refine rs_dup i_X8_init_1209 rfl ?_
  refine rs_bipush i_X8_init_1210 (v := 73) (by decide) ?_
  refine rs_bipush i_X8_init_1212 (v := 114) (by decide) ?_
  obtain ⟨c1, hf⟩ := ite_some hf
  refine rs_iast i_X8_init_1214 c1 ?_
  exact r_X8_init_1215 hd HK1456 hf
noncomputable def f_X8_init_1203 (n : Nat) (K1456 : Nat → Hp → Option Hp) (v0 : Nat) (s0 : Nat) (s1 : Nat) (h : Hp) : Option Hp :=
  if okI h s1 72 then
  f_X8_init_1209 n K1456 v0 s0 s1 (hsi h s1 (ix 72) 111)
  else none
set_option maxRecDepth 100000 in
set_option maxHeartbeats 4000000 in
theorem r_X8_init_1203 {X : Nat → Int32} {d : Nat} (hd : 5 ≤ (d + 1)) {n : Nat} {K1456 : Nat → Hp → Option Hp} (HK1456 : ∀ (v0 : Nat) (h : Hp) (o : Hp), K1456 v0 h = some o → Run X (d + 1) 125 1456 [some (.ref v0), none] [] h (none, o)) {v0 : Nat} {s0 : Nat} {s1 : Nat} {h : Hp} {o : Hp} (hf : f_X8_init_1203 n K1456 v0 s0 s1 h = some o) : Run X (d + 1) 125 1203 [some (.ref v0), none] [.ref s1, .ref s0] h (none, o) := by
  unfold f_X8_init_1203 at hf
  refine rs_dup i_X8_init_1203 rfl ?_
  refine rs_bipush i_X8_init_1204 (v := 72) (by decide) ?_
  refine rs_bipush i_X8_init_1206 (v := 111) (by decide) ?_
  obtain ⟨c1, hf⟩ := ite_some hf
  refine rs_iast i_X8_init_1208 c1 ?_
  exact r_X8_init_1209 hd HK1456 hf
noncomputable def f_X8_init_1197 (n : Nat) (K1456 : Nat → Hp → Option Hp) (v0 : Nat) (s0 : Nat) (s1 : Nat) (h : Hp) : Option Hp :=
  if okI h s1 71 then
  f_X8_init_1203 n K1456 v0 s0 s1 (hsi h s1 (ix 71) 32)
  else none
set_option maxRecDepth 100000 in
set_option maxHeartbeats 4000000 in
theorem r_X8_init_1197 {X : Nat → Int32} {d : Nat} (hd : 5 ≤ (d + 1)) {n : Nat} {K1456 : Nat → Hp → Option Hp} (HK1456 : ∀ (v0 : Nat) (h : Hp) (o : Hp), K1456 v0 h = some o → Run X (d + 1) 125 1456 [some (.ref v0), none] [] h (none, o)) {v0 : Nat} {s0 : Nat} {s1 : Nat} {h : Hp} {o : Hp} (hf : f_X8_init_1197 n K1456 v0 s0 s1 h = some o) : Run X (d + 1) 125 1197 [some (.ref v0), none] [.ref s1, .ref s0] h (none, o) := by
  unfold f_X8_init_1197 at hf
  refine rs_dup i_X8_init_1197 rfl ?_
  refine rs_bipush i_X8_init_1198 (v := 71) (by decide) ?_
  refine rs_bipush i_X8_init_1200 (v := 32) (by decide) ?_
  obtain ⟨c1, hf⟩ := ite_some hf
  refine rs_iast i_X8_init_1202 c1 ?_
  exact r_X8_init_1203 hd HK1456 hf
noncomputable def f_X8_init_1191 (n : Nat) (K1456 : Nat → Hp → Option Hp) (v0 : Nat) (s0 : Nat) (s1 : Nat) (h : Hp) : Option Hp :=
  if okI h s1 70 then
  f_X8_init_1197 n K1456 v0 s0 s1 (hsi h s1 (ix 70) 32)
  else none
set_option maxRecDepth 100000 in
set_option maxHeartbeats 4000000 in
theorem r_X8_init_1191 {X : Nat → Int32} {d : Nat} (hd : 5 ≤ (d + 1)) {n : Nat} {K1456 : Nat → Hp → Option Hp} (HK1456 : ∀ (v0 : Nat) (h : Hp) (o : Hp), K1456 v0 h = some o → Run X (d + 1) 125 1456 [some (.ref v0), none] [] h (none, o)) {v0 : Nat} {s0 : Nat} {s1 : Nat} {h : Hp} {o : Hp} (hf : f_X8_init_1191 n K1456 v0 s0 s1 h = some o) : Run X (d + 1) 125 1191 [some (.ref v0), none] [.ref s1, .ref s0] h (none, o) := by
  unfold f_X8_init_1191 at hf
  refine rs_dup i_X8_init_1191 rfl ?_
  refine rs_bipush i_X8_init_1192 (v := 70) (by decide) ?_
  refine rs_bipush i_X8_init_1194 (v := 32) (by decide) ?_
  obtain ⟨c1, hf⟩ := ite_some hf
  refine rs_iast i_X8_init_1196 c1 ?_
  exact r_X8_init_1197 hd HK1456 hf
noncomputable def f_X8_init_1185 (n : Nat) (K1456 : Nat → Hp → Option Hp) (v0 : Nat) (s0 : Nat) (s1 : Nat) (h : Hp) : Option Hp :=
  if okI h s1 69 then
  f_X8_init_1191 n K1456 v0 s0 s1 (hsi h s1 (ix 69) 32)
  else none
set_option maxRecDepth 100000 in
set_option maxHeartbeats 4000000 in
theorem r_X8_init_1185 {X : Nat → Int32} {d : Nat} (hd : 5 ≤ (d + 1)) {n : Nat} {K1456 : Nat → Hp → Option Hp} (HK1456 : ∀ (v0 : Nat) (h : Hp) (o : Hp), K1456 v0 h = some o → Run X (d + 1) 125 1456 [some (.ref v0), none] [] h (none, o)) {v0 : Nat} {s0 : Nat} {s1 : Nat} {h : Hp} {o : Hp} (hf : f_X8_init_1185 n K1456 v0 s0 s1 h = some o) : Run X (d + 1) 125 1185 [some (.ref v0), none] [.ref s1, .ref s0] h (none, o) := by
  unfold f_X8_init_1185 at hf
  refine rs_dup i_X8_init_1185 rfl ?_
  refine rs_bipush i_X8_init_1186 (v := 69) (by decide) ?_
  refine rs_bipush i_X8_init_1188 (v := 32) (by decide) ?_
  obtain ⟨c1, hf⟩ := ite_some hf
  refine rs_iast i_X8_init_1190 c1 ?_
  exact r_X8_init_1191 hd HK1456 hf
noncomputable def f_X8_init_1179 (n : Nat) (K1456 : Nat → Hp → Option Hp) (v0 : Nat) (s0 : Nat) (s1 : Nat) (h : Hp) : Option Hp :=
  if okI h s1 68 then
  f_X8_init_1185 n K1456 v0 s0 s1 (hsi h s1 (ix 68) 32)
  else none
set_option maxRecDepth 100000 in
set_option maxHeartbeats 4000000 in
theorem r_X8_init_1179 {X : Nat → Int32} {d : Nat} (hd : 5 ≤ (d + 1)) {n : Nat} {K1456 : Nat → Hp → Option Hp} (HK1456 : ∀ (v0 : Nat) (h : Hp) (o : Hp), K1456 v0 h = some o → Run X (d + 1) 125 1456 [some (.ref v0), none] [] h (none, o)) {v0 : Nat} {s0 : Nat} {s1 : Nat} {h : Hp} {o : Hp} (hf : f_X8_init_1179 n K1456 v0 s0 s1 h = some o) : Run X (d + 1) 125 1179 [some (.ref v0), none] [.ref s1, .ref s0] h (none, o) := by
  unfold f_X8_init_1179 at hf
  refine rs_dup i_X8_init_1179 rfl ?_
  refine rs_bipush i_X8_init_1180 (v := 68) (by decide) ?_
  refine rs_bipush i_X8_init_1182 (v := 32) (by decide) ?_
  obtain ⟨c1, hf⟩ := ite_some hf
  refine rs_iast i_X8_init_1184 c1 ?_
  exact r_X8_init_1185 hd HK1456 hf
noncomputable def f_X8_init_1173 (n : Nat) (K1456 : Nat → Hp → Option Hp) (v0 : Nat) (s0 : Nat) (s1 : Nat) (h : Hp) : Option Hp :=
  if okI h s1 67 then
  f_X8_init_1179 n K1456 v0 s0 s1 (hsi h s1 (ix 67) 116)
  else none
set_option maxRecDepth 100000 in
set_option maxHeartbeats 4000000 in
theorem r_X8_init_1173 {X : Nat → Int32} {d : Nat} (hd : 5 ≤ (d + 1)) {n : Nat} {K1456 : Nat → Hp → Option Hp} (HK1456 : ∀ (v0 : Nat) (h : Hp) (o : Hp), K1456 v0 h = some o → Run X (d + 1) 125 1456 [some (.ref v0), none] [] h (none, o)) {v0 : Nat} {s0 : Nat} {s1 : Nat} {h : Hp} {o : Hp} (hf : f_X8_init_1173 n K1456 v0 s0 s1 h = some o) : Run X (d + 1) 125 1173 [some (.ref v0), none] [.ref s1, .ref s0] h (none, o) := by
  unfold f_X8_init_1173 at hf
  refine rs_dup i_X8_init_1173 rfl ?_
  refine rs_bipush i_X8_init_1174 (v := 67) (by decide) ?_
  refine rs_bipush i_X8_init_1176 (v := 116) (by decide) ?_
  obtain ⟨c1, hf⟩ := ite_some hf
  refine rs_iast i_X8_init_1178 c1 ?_
  exact r_X8_init_1179 hd HK1456 hf
noncomputable def f_X8_init_1167 (n : Nat) (K1456 : Nat → Hp → Option Hp) (v0 : Nat) (s0 : Nat) (s1 : Nat) (h : Hp) : Option Hp :=
  if okI h s1 66 then
  f_X8_init_1173 n K1456 v0 s0 s1 (hsi h s1 (ix 66) 115)
  else none
set_option maxRecDepth 100000 in
set_option maxHeartbeats 4000000 in
theorem r_X8_init_1167 {X : Nat → Int32} {d : Nat} (hd : 5 ≤ (d + 1)) {n : Nat} {K1456 : Nat → Hp → Option Hp} (HK1456 : ∀ (v0 : Nat) (h : Hp) (o : Hp), K1456 v0 h = some o → Run X (d + 1) 125 1456 [some (.ref v0), none] [] h (none, o)) {v0 : Nat} {s0 : Nat} {s1 : Nat} {h : Hp} {o : Hp} (hf : f_X8_init_1167 n K1456 v0 s0 s1 h = some o) : Run X (d + 1) 125 1167 [some (.ref v0), none] [.ref s1, .ref s0] h (none, o) := by
  unfold f_X8_init_1167 at hf
  refine rs_dup i_X8_init_1167 rfl ?_
  refine rs_bipush i_X8_init_1168 (v := 66) (by decide) ?_
  refine rs_bipush i_X8_init_1170 (v := 115) (by decide) ?_
  obtain ⟨c1, hf⟩ := ite_some hf
  refine rs_iast i_X8_init_1172 c1 ?_
  exact r_X8_init_1173 hd HK1456 hf
noncomputable def f_X8_init_1161 (n : Nat) (K1456 : Nat → Hp → Option Hp) (v0 : Nat) (s0 : Nat) (s1 : Nat) (h : Hp) : Option Hp :=
  if okI h s1 65 then
  f_X8_init_1167 n K1456 v0 s0 s1 (hsi h s1 (ix 65) 117)
  else none
set_option maxRecDepth 100000 in
set_option maxHeartbeats 4000000 in
theorem r_X8_init_1161 {X : Nat → Int32} {d : Nat} (hd : 5 ≤ (d + 1)) {n : Nat} {K1456 : Nat → Hp → Option Hp} (HK1456 : ∀ (v0 : Nat) (h : Hp) (o : Hp), K1456 v0 h = some o → Run X (d + 1) 125 1456 [some (.ref v0), none] [] h (none, o)) {v0 : Nat} {s0 : Nat} {s1 : Nat} {h : Hp} {o : Hp} (hf : f_X8_init_1161 n K1456 v0 s0 s1 h = some o) : Run X (d + 1) 125 1161 [some (.ref v0), none] [.ref s1, .ref s0] h (none, o) := by
  unfold f_X8_init_1161 at hf
  refine rs_dup i_X8_init_1161 rfl ?_
  refine rs_bipush i_X8_init_1162 (v := 65) (by decide) ?_
  refine rs_bipush i_X8_init_1164 (v := 117) (by decide) ?_
  obtain ⟨c1, hf⟩ := ite_some hf
  refine rs_iast i_X8_init_1166 c1 ?_
  exact r_X8_init_1167 hd HK1456 hf
noncomputable def f_X8_init_1155 (n : Nat) (K1456 : Nat → Hp → Option Hp) (v0 : Nat) (s0 : Nat) (s1 : Nat) (h : Hp) : Option Hp :=
  if okI h s1 64 then
  f_X8_init_1161 n K1456 v0 s0 s1 (hsi h s1 (ix 64) 100)
  else none
set_option maxRecDepth 100000 in
set_option maxHeartbeats 4000000 in
theorem r_X8_init_1155 {X : Nat → Int32} {d : Nat} (hd : 5 ≤ (d + 1)) {n : Nat} {K1456 : Nat → Hp → Option Hp} (HK1456 : ∀ (v0 : Nat) (h : Hp) (o : Hp), K1456 v0 h = some o → Run X (d + 1) 125 1456 [some (.ref v0), none] [] h (none, o)) {v0 : Nat} {s0 : Nat} {s1 : Nat} {h : Hp} {o : Hp} (hf : f_X8_init_1155 n K1456 v0 s0 s1 h = some o) : Run X (d + 1) 125 1155 [some (.ref v0), none] [.ref s1, .ref s0] h (none, o) := by
  unfold f_X8_init_1155 at hf
  refine rs_dup i_X8_init_1155 rfl ?_
  refine rs_bipush i_X8_init_1156 (v := 64) (by decide) ?_
  refine rs_bipush i_X8_init_1158 (v := 100) (by decide) ?_
  obtain ⟨c1, hf⟩ := ite_some hf
  refine rs_iast i_X8_init_1160 c1 ?_
  exact r_X8_init_1161 hd HK1456 hf
noncomputable def f_X8_init_1149 (n : Nat) (K1456 : Nat → Hp → Option Hp) (v0 : Nat) (s0 : Nat) (s1 : Nat) (h : Hp) : Option Hp :=
  if okI h s1 63 then
  f_X8_init_1155 n K1456 v0 s0 s1 (hsi h s1 (ix 63) 32)
  else none
set_option maxRecDepth 100000 in
set_option maxHeartbeats 4000000 in
theorem r_X8_init_1149 {X : Nat → Int32} {d : Nat} (hd : 5 ≤ (d + 1)) {n : Nat} {K1456 : Nat → Hp → Option Hp} (HK1456 : ∀ (v0 : Nat) (h : Hp) (o : Hp), K1456 v0 h = some o → Run X (d + 1) 125 1456 [some (.ref v0), none] [] h (none, o)) {v0 : Nat} {s0 : Nat} {s1 : Nat} {h : Hp} {o : Hp} (hf : f_X8_init_1149 n K1456 v0 s0 s1 h = some o) : Run X (d + 1) 125 1149 [some (.ref v0), none] [.ref s1, .ref s0] h (none, o) := by
  unfold f_X8_init_1149 at hf
  refine rs_dup i_X8_init_1149 rfl ?_
  refine rs_bipush i_X8_init_1150 (v := 63) (by decide) ?_
  refine rs_bipush i_X8_init_1152 (v := 32) (by decide) ?_
  obtain ⟨c1, hf⟩ := ite_some hf
  refine rs_iast i_X8_init_1154 c1 ?_
  exact r_X8_init_1155 hd HK1456 hf
noncomputable def f_X8_init_1143 (n : Nat) (K1456 : Nat → Hp → Option Hp) (v0 : Nat) (s0 : Nat) (s1 : Nat) (h : Hp) : Option Hp :=
  if okI h s1 62 then
  f_X8_init_1149 n K1456 v0 s0 s1 (hsi h s1 (ix 62) 32)
  else none
set_option maxRecDepth 100000 in
set_option maxHeartbeats 4000000 in
theorem r_X8_init_1143 {X : Nat → Int32} {d : Nat} (hd : 5 ≤ (d + 1)) {n : Nat} {K1456 : Nat → Hp → Option Hp} (HK1456 : ∀ (v0 : Nat) (h : Hp) (o : Hp), K1456 v0 h = some o → Run X (d + 1) 125 1456 [some (.ref v0), none] [] h (none, o)) {v0 : Nat} {s0 : Nat} {s1 : Nat} {h : Hp} {o : Hp} (hf : f_X8_init_1143 n K1456 v0 s0 s1 h = some o) : Run X (d + 1) 125 1143 [some (.ref v0), none] [.ref s1, .ref s0] h (none, o) := by
  unfold f_X8_init_1143 at hf
  refine rs_dup i_X8_init_1143 rfl ?_
  refine rs_bipush i_X8_init_1144 (v := 62) (by decide) ?_
  refine rs_bipush i_X8_init_1146 (v := 32) (by decide) ?_
  obtain ⟨c1, hf⟩ := ite_some hf
  refine rs_iast i_X8_init_1148 c1 ?_
  exact r_X8_init_1149 hd HK1456 hf
noncomputable def f_X8_init_1137 (n : Nat) (K1456 : Nat → Hp → Option Hp) (v0 : Nat) (s0 : Nat) (s1 : Nat) (h : Hp) : Option Hp :=
  if okI h s1 61 then
  f_X8_init_1143 n K1456 v0 s0 s1 (hsi h s1 (ix 61) 32)
  else none
set_option maxRecDepth 100000 in
set_option maxHeartbeats 4000000 in
theorem r_X8_init_1137 {X : Nat → Int32} {d : Nat} (hd : 5 ≤ (d + 1)) {n : Nat} {K1456 : Nat → Hp → Option Hp} (HK1456 : ∀ (v0 : Nat) (h : Hp) (o : Hp), K1456 v0 h = some o → Run X (d + 1) 125 1456 [some (.ref v0), none] [] h (none, o)) {v0 : Nat} {s0 : Nat} {s1 : Nat} {h : Hp} {o : Hp} (hf : f_X8_init_1137 n K1456 v0 s0 s1 h = some o) : Run X (d + 1) 125 1137 [some (.ref v0), none] [.ref s1, .ref s0] h (none, o) := by
  unfold f_X8_init_1137 at hf
  refine rs_dup i_X8_init_1137 rfl ?_
  refine rs_bipush i_X8_init_1138 (v := 61) (by decide) ?_
  refine rs_bipush i_X8_init_1140 (v := 32) (by decide) ?_
  obtain ⟨c1, hf⟩ := ite_some hf
  refine rs_iast i_X8_init_1142 c1 ?_
  exact r_X8_init_1143 hd HK1456 hf
noncomputable def f_X8_init_1131 (n : Nat) (K1456 : Nat → Hp → Option Hp) (v0 : Nat) (s0 : Nat) (s1 : Nat) (h : Hp) : Option Hp :=
  if okI h s1 60 then
  f_X8_init_1137 n K1456 v0 s0 s1 (hsi h s1 (ix 60) 115)
  else none
set_option maxRecDepth 100000 in
set_option maxHeartbeats 4000000 in
theorem r_X8_init_1131 {X : Nat → Int32} {d : Nat} (hd : 5 ≤ (d + 1)) {n : Nat} {K1456 : Nat → Hp → Option Hp} (HK1456 : ∀ (v0 : Nat) (h : Hp) (o : Hp), K1456 v0 h = some o → Run X (d + 1) 125 1456 [some (.ref v0), none] [] h (none, o)) {v0 : Nat} {s0 : Nat} {s1 : Nat} {h : Hp} {o : Hp} (hf : f_X8_init_1131 n K1456 v0 s0 s1 h = some o) : Run X (d + 1) 125 1131 [some (.ref v0), none] [.ref s1, .ref s0] h (none, o) := by
  unfold f_X8_init_1131 at hf
  refine rs_dup i_X8_init_1131 rfl ?_
  refine rs_bipush i_X8_init_1132 (v := 60) (by decide) ?_
  refine rs_bipush i_X8_init_1134 (v := 115) (by decide) ?_
  obtain ⟨c1, hf⟩ := ite_some hf
  refine rs_iast i_X8_init_1136 c1 ?_
  exact r_X8_init_1137 hd HK1456 hf
noncomputable def f_X8_init_1125 (n : Nat) (K1456 : Nat → Hp → Option Hp) (v0 : Nat) (s0 : Nat) (s1 : Nat) (h : Hp) : Option Hp :=
  if okI h s1 59 then
  f_X8_init_1131 n K1456 v0 s0 s1 (hsi h s1 (ix 59) 100)
  else none
set_option maxRecDepth 100000 in
set_option maxHeartbeats 4000000 in
theorem r_X8_init_1125 {X : Nat → Int32} {d : Nat} (hd : 5 ≤ (d + 1)) {n : Nat} {K1456 : Nat → Hp → Option Hp} (HK1456 : ∀ (v0 : Nat) (h : Hp) (o : Hp), K1456 v0 h = some o → Run X (d + 1) 125 1456 [some (.ref v0), none] [] h (none, o)) {v0 : Nat} {s0 : Nat} {s1 : Nat} {h : Hp} {o : Hp} (hf : f_X8_init_1125 n K1456 v0 s0 s1 h = some o) : Run X (d + 1) 125 1125 [some (.ref v0), none] [.ref s1, .ref s0] h (none, o) := by
  unfold f_X8_init_1125 at hf
  refine rs_dup i_X8_init_1125 rfl ?_
  refine rs_bipush i_X8_init_1126 (v := 59) (by decide) ?_
  refine rs_bipush i_X8_init_1128 (v := 100) (by decide) ?_
  obtain ⟨c1, hf⟩ := ite_some hf
  refine rs_iast i_X8_init_1130 c1 ?_
  exact r_X8_init_1131 hd HK1456 hf
noncomputable def f_X8_init_1119 (n : Nat) (K1456 : Nat → Hp → Option Hp) (v0 : Nat) (s0 : Nat) (s1 : Nat) (h : Hp) : Option Hp :=
  if okI h s1 58 then
  f_X8_init_1125 n K1456 v0 s0 s1 (hsi h s1 (ix 58) 108)
  else none
set_option maxRecDepth 100000 in
set_option maxHeartbeats 4000000 in
theorem r_X8_init_1119 {X : Nat → Int32} {d : Nat} (hd : 5 ≤ (d + 1)) {n : Nat} {K1456 : Nat → Hp → Option Hp} (HK1456 : ∀ (v0 : Nat) (h : Hp) (o : Hp), K1456 v0 h = some o → Run X (d + 1) 125 1456 [some (.ref v0), none] [] h (none, o)) {v0 : Nat} {s0 : Nat} {s1 : Nat} {h : Hp} {o : Hp} (hf : f_X8_init_1119 n K1456 v0 s0 s1 h = some o) : Run X (d + 1) 125 1119 [some (.ref v0), none] [.ref s1, .ref s0] h (none, o) := by
  unfold f_X8_init_1119 at hf
  refine rs_dup i_X8_init_1119 rfl ?_
  refine rs_bipush i_X8_init_1120 (v := 58) (by decide) ?_
  refine rs_bipush i_X8_init_1122 (v := 108) (by decide) ?_
  obtain ⟨c1, hf⟩ := ite_some hf
  refine rs_iast i_X8_init_1124 c1 ?_
  exact r_X8_init_1125 hd HK1456 hf
noncomputable def f_X8_init_1113 (n : Nat) (K1456 : Nat → Hp → Option Hp) (v0 : Nat) (s0 : Nat) (s1 : Nat) (h : Hp) : Option Hp :=
  if okI h s1 57 then
  f_X8_init_1119 n K1456 v0 s0 s1 (hsi h s1 (ix 57) 111)
  else none
set_option maxRecDepth 100000 in
set_option maxHeartbeats 4000000 in
theorem r_X8_init_1113 {X : Nat → Int32} {d : Nat} (hd : 5 ≤ (d + 1)) {n : Nat} {K1456 : Nat → Hp → Option Hp} (HK1456 : ∀ (v0 : Nat) (h : Hp) (o : Hp), K1456 v0 h = some o → Run X (d + 1) 125 1456 [some (.ref v0), none] [] h (none, o)) {v0 : Nat} {s0 : Nat} {s1 : Nat} {h : Hp} {o : Hp} (hf : f_X8_init_1113 n K1456 v0 s0 s1 h = some o) : Run X (d + 1) 125 1113 [some (.ref v0), none] [.ref s1, .ref s0] h (none, o) := by
  unfold f_X8_init_1113 at hf
  refine rs_dup i_X8_init_1113 rfl ?_
  refine rs_bipush i_X8_init_1114 (v := 57) (by decide) ?_
  refine rs_bipush i_X8_init_1116 (v := 111) (by decide) ?_
  obtain ⟨c1, hf⟩ := ite_some hf
  refine rs_iast i_X8_init_1118 c1 ?_
  exact r_X8_init_1119 hd HK1456 hf
noncomputable def f_X8_init_1107 (n : Nat) (K1456 : Nat → Hp → Option Hp) (v0 : Nat) (s0 : Nat) (s1 : Nat) (h : Hp) : Option Hp :=
  if okI h s1 56 then
  f_X8_init_1113 n K1456 v0 s0 s1 (hsi h s1 (ix 56) 102)
  else none
set_option maxRecDepth 100000 in
set_option maxHeartbeats 4000000 in
theorem r_X8_init_1107 {X : Nat → Int32} {d : Nat} (hd : 5 ≤ (d + 1)) {n : Nat} {K1456 : Nat → Hp → Option Hp} (HK1456 : ∀ (v0 : Nat) (h : Hp) (o : Hp), K1456 v0 h = some o → Run X (d + 1) 125 1456 [some (.ref v0), none] [] h (none, o)) {v0 : Nat} {s0 : Nat} {s1 : Nat} {h : Hp} {o : Hp} (hf : f_X8_init_1107 n K1456 v0 s0 s1 h = some o) : Run X (d + 1) 125 1107 [some (.ref v0), none] [.ref s1, .ref s0] h (none, o) := by
  unfold f_X8_init_1107 at hf
  refine rs_dup i_X8_init_1107 rfl ?_
  refine rs_bipush i_X8_init_1108 (v := 56) (by decide) ?_
  refine rs_bipush i_X8_init_1110 (v := 102) (by decide) ?_
  obtain ⟨c1, hf⟩ := ite_some hf
  refine rs_iast i_X8_init_1112 c1 ?_
  exact r_X8_init_1113 hd HK1456 hf
noncomputable def f_X8_init_1101 (n : Nat) (K1456 : Nat → Hp → Option Hp) (v0 : Nat) (s0 : Nat) (s1 : Nat) (h : Hp) : Option Hp :=
  if okI h s1 55 then
  f_X8_init_1107 n K1456 v0 s0 s1 (hsi h s1 (ix 55) 32)
  else none
set_option maxRecDepth 100000 in
set_option maxHeartbeats 4000000 in
theorem r_X8_init_1101 {X : Nat → Int32} {d : Nat} (hd : 5 ≤ (d + 1)) {n : Nat} {K1456 : Nat → Hp → Option Hp} (HK1456 : ∀ (v0 : Nat) (h : Hp) (o : Hp), K1456 v0 h = some o → Run X (d + 1) 125 1456 [some (.ref v0), none] [] h (none, o)) {v0 : Nat} {s0 : Nat} {s1 : Nat} {h : Hp} {o : Hp} (hf : f_X8_init_1101 n K1456 v0 s0 s1 h = some o) : Run X (d + 1) 125 1101 [some (.ref v0), none] [.ref s1, .ref s0] h (none, o) := by
  unfold f_X8_init_1101 at hf
  refine rs_dup i_X8_init_1101 rfl ?_
  refine rs_bipush i_X8_init_1102 (v := 55) (by decide) ?_
  refine rs_bipush i_X8_init_1104 (v := 32) (by decide) ?_
  obtain ⟨c1, hf⟩ := ite_some hf
  refine rs_iast i_X8_init_1106 c1 ?_
  exact r_X8_init_1107 hd HK1456 hf
noncomputable def f_X8_init_1095 (n : Nat) (K1456 : Nat → Hp → Option Hp) (v0 : Nat) (s0 : Nat) (s1 : Nat) (h : Hp) : Option Hp :=
  if okI h s1 54 then
  f_X8_init_1101 n K1456 v0 s0 s1 (hsi h s1 (ix 54) 32)
  else none
set_option maxRecDepth 100000 in
set_option maxHeartbeats 4000000 in
theorem r_X8_init_1095 {X : Nat → Int32} {d : Nat} (hd : 5 ≤ (d + 1)) {n : Nat} {K1456 : Nat → Hp → Option Hp} (HK1456 : ∀ (v0 : Nat) (h : Hp) (o : Hp), K1456 v0 h = some o → Run X (d + 1) 125 1456 [some (.ref v0), none] [] h (none, o)) {v0 : Nat} {s0 : Nat} {s1 : Nat} {h : Hp} {o : Hp} (hf : f_X8_init_1095 n K1456 v0 s0 s1 h = some o) : Run X (d + 1) 125 1095 [some (.ref v0), none] [.ref s1, .ref s0] h (none, o) := by
  unfold f_X8_init_1095 at hf
  refine rs_dup i_X8_init_1095 rfl ?_
  refine rs_bipush i_X8_init_1096 (v := 54) (by decide) ?_
  refine rs_bipush i_X8_init_1098 (v := 32) (by decide) ?_
  obtain ⟨c1, hf⟩ := ite_some hf
  refine rs_iast i_X8_init_1100 c1 ?_
  exact r_X8_init_1101 hd HK1456 hf
noncomputable def f_X8_init_1089 (n : Nat) (K1456 : Nat → Hp → Option Hp) (v0 : Nat) (s0 : Nat) (s1 : Nat) (h : Hp) : Option Hp :=
  if okI h s1 53 then
  f_X8_init_1095 n K1456 v0 s0 s1 (hsi h s1 (ix 53) 32)
  else none
set_option maxRecDepth 100000 in
set_option maxHeartbeats 4000000 in
theorem r_X8_init_1089 {X : Nat → Int32} {d : Nat} (hd : 5 ≤ (d + 1)) {n : Nat} {K1456 : Nat → Hp → Option Hp} (HK1456 : ∀ (v0 : Nat) (h : Hp) (o : Hp), K1456 v0 h = some o → Run X (d + 1) 125 1456 [some (.ref v0), none] [] h (none, o)) {v0 : Nat} {s0 : Nat} {s1 : Nat} {h : Hp} {o : Hp} (hf : f_X8_init_1089 n K1456 v0 s0 s1 h = some o) : Run X (d + 1) 125 1089 [some (.ref v0), none] [.ref s1, .ref s0] h (none, o) := by
  unfold f_X8_init_1089 at hf
  refine rs_dup i_X8_init_1089 rfl ?_
  refine rs_bipush i_X8_init_1090 (v := 53) (by decide) ?_
  refine rs_bipush i_X8_init_1092 (v := 32) (by decide) ?_
  obtain ⟨c1, hf⟩ := ite_some hf
  refine rs_iast i_X8_init_1094 c1 ?_
  exact r_X8_init_1095 hd HK1456 hf
noncomputable def f_X8_init_1083 (n : Nat) (K1456 : Nat → Hp → Option Hp) (v0 : Nat) (s0 : Nat) (s1 : Nat) (h : Hp) : Option Hp :=
  if okI h s1 52 then
  f_X8_init_1089 n K1456 v0 s0 s1 (hsi h s1 (ix 52) 32)
  else none
set_option maxRecDepth 100000 in
set_option maxHeartbeats 4000000 in
theorem r_X8_init_1083 {X : Nat → Int32} {d : Nat} (hd : 5 ≤ (d + 1)) {n : Nat} {K1456 : Nat → Hp → Option Hp} (HK1456 : ∀ (v0 : Nat) (h : Hp) (o : Hp), K1456 v0 h = some o → Run X (d + 1) 125 1456 [some (.ref v0), none] [] h (none, o)) {v0 : Nat} {s0 : Nat} {s1 : Nat} {h : Hp} {o : Hp} (hf : f_X8_init_1083 n K1456 v0 s0 s1 h = some o) : Run X (d + 1) 125 1083 [some (.ref v0), none] [.ref s1, .ref s0] h (none, o) := by
  unfold f_X8_init_1083 at hf
  refine rs_dup i_X8_init_1083 rfl ?_
  refine rs_bipush i_X8_init_1084 (v := 52) (by decide) ?_
  refine rs_bipush i_X8_init_1086 (v := 32) (by decide) ?_
  obtain ⟨c1, hf⟩ := ite_some hf
  refine rs_iast i_X8_init_1088 c1 ?_
  exact r_X8_init_1089 hd HK1456 hf
noncomputable def f_X8_init_1077 (n : Nat) (K1456 : Nat → Hp → Option Hp) (v0 : Nat) (s0 : Nat) (s1 : Nat) (h : Hp) : Option Hp :=
  if okI h s1 51 then
  f_X8_init_1083 n K1456 v0 s0 s1 (hsi h s1 (ix 51) 101)
  else none
set_option maxRecDepth 100000 in
set_option maxHeartbeats 4000000 in
theorem r_X8_init_1077 {X : Nat → Int32} {d : Nat} (hd : 5 ≤ (d + 1)) {n : Nat} {K1456 : Nat → Hp → Option Hp} (HK1456 : ∀ (v0 : Nat) (h : Hp) (o : Hp), K1456 v0 h = some o → Run X (d + 1) 125 1456 [some (.ref v0), none] [] h (none, o)) {v0 : Nat} {s0 : Nat} {s1 : Nat} {h : Hp} {o : Hp} (hf : f_X8_init_1077 n K1456 v0 s0 s1 h = some o) : Run X (d + 1) 125 1077 [some (.ref v0), none] [.ref s1, .ref s0] h (none, o) := by
  unfold f_X8_init_1077 at hf
  refine rs_dup i_X8_init_1077 rfl ?_
  refine rs_bipush i_X8_init_1078 (v := 51) (by decide) ?_
  refine rs_bipush i_X8_init_1080 (v := 101) (by decide) ?_
  obtain ⟨c1, hf⟩ := ite_some hf
  refine rs_iast i_X8_init_1082 c1 ?_
  exact r_X8_init_1083 hd HK1456 hf
noncomputable def f_X8_init_1071 (n : Nat) (K1456 : Nat → Hp → Option Hp) (v0 : Nat) (s0 : Nat) (s1 : Nat) (h : Hp) : Option Hp :=
  if okI h s1 50 then
  f_X8_init_1077 n K1456 v0 s0 s1 (hsi h s1 (ix 50) 99)
  else none
set_option maxRecDepth 100000 in
set_option maxHeartbeats 4000000 in
theorem r_X8_init_1071 {X : Nat → Int32} {d : Nat} (hd : 5 ≤ (d + 1)) {n : Nat} {K1456 : Nat → Hp → Option Hp} (HK1456 : ∀ (v0 : Nat) (h : Hp) (o : Hp), K1456 v0 h = some o → Run X (d + 1) 125 1456 [some (.ref v0), none] [] h (none, o)) {v0 : Nat} {s0 : Nat} {s1 : Nat} {h : Hp} {o : Hp} (hf : f_X8_init_1071 n K1456 v0 s0 s1 h = some o) : Run X (d + 1) 125 1071 [some (.ref v0), none] [.ref s1, .ref s0] h (none, o) := by
  unfold f_X8_init_1071 at hf
  refine rs_dup i_X8_init_1071 rfl ?_
  refine rs_bipush i_X8_init_1072 (v := 50) (by decide) ?_
  refine rs_bipush i_X8_init_1074 (v := 99) (by decide) ?_
  obtain ⟨c1, hf⟩ := ite_some hf
  refine rs_iast i_X8_init_1076 c1 ?_
  exact r_X8_init_1077 hd HK1456 hf
noncomputable def f_X8_init_1065 (n : Nat) (K1456 : Nat → Hp → Option Hp) (v0 : Nat) (s0 : Nat) (s1 : Nat) (h : Hp) : Option Hp :=
  if okI h s1 49 then
  f_X8_init_1071 n K1456 v0 s0 s1 (hsi h s1 (ix 49) 97)
  else none
set_option maxRecDepth 100000 in
set_option maxHeartbeats 4000000 in
theorem r_X8_init_1065 {X : Nat → Int32} {d : Nat} (hd : 5 ≤ (d + 1)) {n : Nat} {K1456 : Nat → Hp → Option Hp} (HK1456 : ∀ (v0 : Nat) (h : Hp) (o : Hp), K1456 v0 h = some o → Run X (d + 1) 125 1456 [some (.ref v0), none] [] h (none, o)) {v0 : Nat} {s0 : Nat} {s1 : Nat} {h : Hp} {o : Hp} (hf : f_X8_init_1065 n K1456 v0 s0 s1 h = some o) : Run X (d + 1) 125 1065 [some (.ref v0), none] [.ref s1, .ref s0] h (none, o) := by
  unfold f_X8_init_1065 at hf
  refine rs_dup i_X8_init_1065 rfl ?_
  refine rs_bipush i_X8_init_1066 (v := 49) (by decide) ?_
  refine rs_bipush i_X8_init_1068 (v := 97) (by decide) ?_
  obtain ⟨c1, hf⟩ := ite_some hf
  refine rs_iast i_X8_init_1070 c1 ?_
  exact r_X8_init_1071 hd HK1456 hf
noncomputable def f_X8_init_1059 (n : Nat) (K1456 : Nat → Hp → Option Hp) (v0 : Nat) (s0 : Nat) (s1 : Nat) (h : Hp) : Option Hp :=
  if okI h s1 48 then
  f_X8_init_1065 n K1456 v0 s0 s1 (hsi h s1 (ix 48) 112)
  else none
set_option maxRecDepth 100000 in
set_option maxHeartbeats 4000000 in
theorem r_X8_init_1059 {X : Nat → Int32} {d : Nat} (hd : 5 ≤ (d + 1)) {n : Nat} {K1456 : Nat → Hp → Option Hp} (HK1456 : ∀ (v0 : Nat) (h : Hp) (o : Hp), K1456 v0 h = some o → Run X (d + 1) 125 1456 [some (.ref v0), none] [] h (none, o)) {v0 : Nat} {s0 : Nat} {s1 : Nat} {h : Hp} {o : Hp} (hf : f_X8_init_1059 n K1456 v0 s0 s1 h = some o) : Run X (d + 1) 125 1059 [some (.ref v0), none] [.ref s1, .ref s0] h (none, o) := by
  unfold f_X8_init_1059 at hf
  refine rs_dup i_X8_init_1059 rfl ?_
  refine rs_bipush i_X8_init_1060 (v := 48) (by decide) ?_
  refine rs_bipush i_X8_init_1062 (v := 112) (by decide) ?_
  obtain ⟨c1, hf⟩ := ite_some hf
  refine rs_iast i_X8_init_1064 c1 ?_
  exact r_X8_init_1065 hd HK1456 hf
noncomputable def f_X8_init_1053 (n : Nat) (K1456 : Nat → Hp → Option Hp) (v0 : Nat) (s0 : Nat) (s1 : Nat) (h : Hp) : Option Hp :=
  if okI h s1 47 then
  f_X8_init_1059 n K1456 v0 s0 s1 (hsi h s1 (ix 47) 32)
  else none
set_option maxRecDepth 100000 in
set_option maxHeartbeats 4000000 in
theorem r_X8_init_1053 {X : Nat → Int32} {d : Nat} (hd : 5 ≤ (d + 1)) {n : Nat} {K1456 : Nat → Hp → Option Hp} (HK1456 : ∀ (v0 : Nat) (h : Hp) (o : Hp), K1456 v0 h = some o → Run X (d + 1) 125 1456 [some (.ref v0), none] [] h (none, o)) {v0 : Nat} {s0 : Nat} {s1 : Nat} {h : Hp} {o : Hp} (hf : f_X8_init_1053 n K1456 v0 s0 s1 h = some o) : Run X (d + 1) 125 1053 [some (.ref v0), none] [.ref s1, .ref s0] h (none, o) := by
  unfold f_X8_init_1053 at hf
  refine rs_dup i_X8_init_1053 rfl ?_
  refine rs_bipush i_X8_init_1054 (v := 47) (by decide) ?_
  refine rs_bipush i_X8_init_1056 (v := 32) (by decide) ?_
  obtain ⟨c1, hf⟩ := ite_some hf
  refine rs_iast i_X8_init_1058 c1 ?_
  exact r_X8_init_1059 hd HK1456 hf
noncomputable def f_X8_init_1047 (n : Nat) (K1456 : Nat → Hp → Option Hp) (v0 : Nat) (s0 : Nat) (s1 : Nat) (h : Hp) : Option Hp :=
  if okI h s1 46 then
  f_X8_init_1053 n K1456 v0 s0 s1 (hsi h s1 (ix 46) 32)
  else none
set_option maxRecDepth 100000 in
set_option maxHeartbeats 4000000 in
theorem r_X8_init_1047 {X : Nat → Int32} {d : Nat} (hd : 5 ≤ (d + 1)) {n : Nat} {K1456 : Nat → Hp → Option Hp} (HK1456 : ∀ (v0 : Nat) (h : Hp) (o : Hp), K1456 v0 h = some o → Run X (d + 1) 125 1456 [some (.ref v0), none] [] h (none, o)) {v0 : Nat} {s0 : Nat} {s1 : Nat} {h : Hp} {o : Hp} (hf : f_X8_init_1047 n K1456 v0 s0 s1 h = some o) : Run X (d + 1) 125 1047 [some (.ref v0), none] [.ref s1, .ref s0] h (none, o) := by
  unfold f_X8_init_1047 at hf
  refine rs_dup i_X8_init_1047 rfl ?_
  refine rs_bipush i_X8_init_1048 (v := 46) (by decide) ?_
  refine rs_bipush i_X8_init_1050 (v := 32) (by decide) ?_
  obtain ⟨c1, hf⟩ := ite_some hf
  refine rs_iast i_X8_init_1052 c1 ?_
  exact r_X8_init_1053 hd HK1456 hf
noncomputable def f_X8_init_1041 (n : Nat) (K1456 : Nat → Hp → Option Hp) (v0 : Nat) (s0 : Nat) (s1 : Nat) (h : Hp) : Option Hp :=
  if okI h s1 45 then
  f_X8_init_1047 n K1456 v0 s0 s1 (hsi h s1 (ix 45) 32)
  else none
set_option maxRecDepth 100000 in
set_option maxHeartbeats 4000000 in
theorem r_X8_init_1041 {X : Nat → Int32} {d : Nat} (hd : 5 ≤ (d + 1)) {n : Nat} {K1456 : Nat → Hp → Option Hp} (HK1456 : ∀ (v0 : Nat) (h : Hp) (o : Hp), K1456 v0 h = some o → Run X (d + 1) 125 1456 [some (.ref v0), none] [] h (none, o)) {v0 : Nat} {s0 : Nat} {s1 : Nat} {h : Hp} {o : Hp} (hf : f_X8_init_1041 n K1456 v0 s0 s1 h = some o) : Run X (d + 1) 125 1041 [some (.ref v0), none] [.ref s1, .ref s0] h (none, o) := by
  unfold f_X8_init_1041 at hf
  refine rs_dup i_X8_init_1041 rfl ?_
  refine rs_bipush i_X8_init_1042 (v := 45) (by decide) ?_
  refine rs_bipush i_X8_init_1044 (v := 32) (by decide) ?_
  obtain ⟨c1, hf⟩ := ite_some hf
  refine rs_iast i_X8_init_1046 c1 ?_
  exact r_X8_init_1047 hd HK1456 hf
noncomputable def f_X8_init_1035 (n : Nat) (K1456 : Nat → Hp → Option Hp) (v0 : Nat) (s0 : Nat) (s1 : Nat) (h : Hp) : Option Hp :=
  if okI h s1 44 then
  f_X8_init_1041 n K1456 v0 s0 s1 (hsi h s1 (ix 44) 102)
  else none
set_option maxRecDepth 100000 in
set_option maxHeartbeats 4000000 in
theorem r_X8_init_1035 {X : Nat → Int32} {d : Nat} (hd : 5 ≤ (d + 1)) {n : Nat} {K1456 : Nat → Hp → Option Hp} (HK1456 : ∀ (v0 : Nat) (h : Hp) (o : Hp), K1456 v0 h = some o → Run X (d + 1) 125 1456 [some (.ref v0), none] [] h (none, o)) {v0 : Nat} {s0 : Nat} {s1 : Nat} {h : Hp} {o : Hp} (hf : f_X8_init_1035 n K1456 v0 s0 s1 h = some o) : Run X (d + 1) 125 1035 [some (.ref v0), none] [.ref s1, .ref s0] h (none, o) := by
  unfold f_X8_init_1035 at hf
  refine rs_dup i_X8_init_1035 rfl ?_
  refine rs_bipush i_X8_init_1036 (v := 44) (by decide) ?_
  refine rs_bipush i_X8_init_1038 (v := 102) (by decide) ?_
  obtain ⟨c1, hf⟩ := ite_some hf
  refine rs_iast i_X8_init_1040 c1 ?_
  exact r_X8_init_1041 hd HK1456 hf
noncomputable def f_X8_init_1029 (n : Nat) (K1456 : Nat → Hp → Option Hp) (v0 : Nat) (s0 : Nat) (s1 : Nat) (h : Hp) : Option Hp :=
  if okI h s1 43 then
  f_X8_init_1035 n K1456 v0 s0 s1 (hsi h s1 (ix 43) 102)
  else none
set_option maxRecDepth 100000 in
set_option maxHeartbeats 4000000 in
theorem r_X8_init_1029 {X : Nat → Int32} {d : Nat} (hd : 5 ≤ (d + 1)) {n : Nat} {K1456 : Nat → Hp → Option Hp} (HK1456 : ∀ (v0 : Nat) (h : Hp) (o : Hp), K1456 v0 h = some o → Run X (d + 1) 125 1456 [some (.ref v0), none] [] h (none, o)) {v0 : Nat} {s0 : Nat} {s1 : Nat} {h : Hp} {o : Hp} (hf : f_X8_init_1029 n K1456 v0 s0 s1 h = some o) : Run X (d + 1) 125 1029 [some (.ref v0), none] [.ref s1, .ref s0] h (none, o) := by
  unfold f_X8_init_1029 at hf
  refine rs_dup i_X8_init_1029 rfl ?_
  refine rs_bipush i_X8_init_1030 (v := 43) (by decide) ?_
  refine rs_bipush i_X8_init_1032 (v := 102) (by decide) ?_
  obtain ⟨c1, hf⟩ := ite_some hf
  refine rs_iast i_X8_init_1034 c1 ?_
  exact r_X8_init_1035 hd HK1456 hf
noncomputable def f_X8_init_1023 (n : Nat) (K1456 : Nat → Hp → Option Hp) (v0 : Nat) (s0 : Nat) (s1 : Nat) (h : Hp) : Option Hp :=
  if okI h s1 42 then
  f_X8_init_1029 n K1456 v0 s0 s1 (hsi h s1 (ix 42) 105)
  else none
set_option maxRecDepth 100000 in
set_option maxHeartbeats 4000000 in
theorem r_X8_init_1023 {X : Nat → Int32} {d : Nat} (hd : 5 ≤ (d + 1)) {n : Nat} {K1456 : Nat → Hp → Option Hp} (HK1456 : ∀ (v0 : Nat) (h : Hp) (o : Hp), K1456 v0 h = some o → Run X (d + 1) 125 1456 [some (.ref v0), none] [] h (none, o)) {v0 : Nat} {s0 : Nat} {s1 : Nat} {h : Hp} {o : Hp} (hf : f_X8_init_1023 n K1456 v0 s0 s1 h = some o) : Run X (d + 1) 125 1023 [some (.ref v0), none] [.ref s1, .ref s0] h (none, o) := by
  unfold f_X8_init_1023 at hf
  refine rs_dup i_X8_init_1023 rfl ?_
  refine rs_bipush i_X8_init_1024 (v := 42) (by decide) ?_
  refine rs_bipush i_X8_init_1026 (v := 105) (by decide) ?_
  obtain ⟨c1, hf⟩ := ite_some hf
  refine rs_iast i_X8_init_1028 c1 ?_
  exact r_X8_init_1029 hd HK1456 hf
noncomputable def f_X8_init_1017 (n : Nat) (K1456 : Nat → Hp → Option Hp) (v0 : Nat) (s0 : Nat) (s1 : Nat) (h : Hp) : Option Hp :=
  if okI h s1 41 then
  f_X8_init_1023 n K1456 v0 s0 s1 (hsi h s1 (ix 41) 116)
  else none
set_option maxRecDepth 100000 in
set_option maxHeartbeats 4000000 in
theorem r_X8_init_1017 {X : Nat → Int32} {d : Nat} (hd : 5 ≤ (d + 1)) {n : Nat} {K1456 : Nat → Hp → Option Hp} (HK1456 : ∀ (v0 : Nat) (h : Hp) (o : Hp), K1456 v0 h = some o → Run X (d + 1) 125 1456 [some (.ref v0), none] [] h (none, o)) {v0 : Nat} {s0 : Nat} {s1 : Nat} {h : Hp} {o : Hp} (hf : f_X8_init_1017 n K1456 v0 s0 s1 h = some o) : Run X (d + 1) 125 1017 [some (.ref v0), none] [.ref s1, .ref s0] h (none, o) := by
  unfold f_X8_init_1017 at hf
  refine rs_dup i_X8_init_1017 rfl ?_
  refine rs_bipush i_X8_init_1018 (v := 41) (by decide) ?_
  refine rs_bipush i_X8_init_1020 (v := 116) (by decide) ?_
  obtain ⟨c1, hf⟩ := ite_some hf
  refine rs_iast i_X8_init_1022 c1 ?_
  exact r_X8_init_1023 hd HK1456 hf
noncomputable def f_X8_init_1011 (n : Nat) (K1456 : Nat → Hp → Option Hp) (v0 : Nat) (s0 : Nat) (s1 : Nat) (h : Hp) : Option Hp :=
  if okI h s1 40 then
  f_X8_init_1017 n K1456 v0 s0 s1 (hsi h s1 (ix 40) 115)
  else none
set_option maxRecDepth 100000 in
set_option maxHeartbeats 4000000 in
theorem r_X8_init_1011 {X : Nat → Int32} {d : Nat} (hd : 5 ≤ (d + 1)) {n : Nat} {K1456 : Nat → Hp → Option Hp} (HK1456 : ∀ (v0 : Nat) (h : Hp) (o : Hp), K1456 v0 h = some o → Run X (d + 1) 125 1456 [some (.ref v0), none] [] h (none, o)) {v0 : Nat} {s0 : Nat} {s1 : Nat} {h : Hp} {o : Hp} (hf : f_X8_init_1011 n K1456 v0 s0 s1 h = some o) : Run X (d + 1) 125 1011 [some (.ref v0), none] [.ref s1, .ref s0] h (none, o) := by
  unfold f_X8_init_1011 at hf
  refine rs_dup i_X8_init_1011 rfl ?_
  refine rs_bipush i_X8_init_1012 (v := 40) (by decide) ?_
  refine rs_bipush i_X8_init_1014 (v := 115) (by decide) ?_
  obtain ⟨c1, hf⟩ := ite_some hf
  refine rs_iast i_X8_init_1016 c1 ?_
  exact r_X8_init_1017 hd HK1456 hf
noncomputable def f_X8_init_1005 (n : Nat) (K1456 : Nat → Hp → Option Hp) (v0 : Nat) (s0 : Nat) (s1 : Nat) (h : Hp) : Option Hp :=
  if okI h s1 39 then
  f_X8_init_1011 n K1456 v0 s0 s1 (hsi h s1 (ix 39) 32)
  else none
set_option maxRecDepth 100000 in
set_option maxHeartbeats 4000000 in
theorem r_X8_init_1005 {X : Nat → Int32} {d : Nat} (hd : 5 ≤ (d + 1)) {n : Nat} {K1456 : Nat → Hp → Option Hp} (HK1456 : ∀ (v0 : Nat) (h : Hp) (o : Hp), K1456 v0 h = some o → Run X (d + 1) 125 1456 [some (.ref v0), none] [] h (none, o)) {v0 : Nat} {s0 : Nat} {s1 : Nat} {h : Hp} {o : Hp} (hf : f_X8_init_1005 n K1456 v0 s0 s1 h = some o) : Run X (d + 1) 125 1005 [some (.ref v0), none] [.ref s1, .ref s0] h (none, o) := by
  unfold f_X8_init_1005 at hf
  refine rs_dup i_X8_init_1005 rfl ?_
  refine rs_bipush i_X8_init_1006 (v := 39) (by decide) ?_
  refine rs_bipush i_X8_init_1008 (v := 32) (by decide) ?_
  obtain ⟨c1, hf⟩ := ite_some hf
  refine rs_iast i_X8_init_1010 c1 ?_
  exact r_X8_init_1011 hd HK1456 hf
noncomputable def f_X8_init_999 (n : Nat) (K1456 : Nat → Hp → Option Hp) (v0 : Nat) (s0 : Nat) (s1 : Nat) (h : Hp) : Option Hp :=
  if okI h s1 38 then
  f_X8_init_1005 n K1456 v0 s0 s1 (hsi h s1 (ix 38) 32)
  else none
set_option maxRecDepth 100000 in
set_option maxHeartbeats 4000000 in
theorem r_X8_init_999 {X : Nat → Int32} {d : Nat} (hd : 5 ≤ (d + 1)) {n : Nat} {K1456 : Nat → Hp → Option Hp} (HK1456 : ∀ (v0 : Nat) (h : Hp) (o : Hp), K1456 v0 h = some o → Run X (d + 1) 125 1456 [some (.ref v0), none] [] h (none, o)) {v0 : Nat} {s0 : Nat} {s1 : Nat} {h : Hp} {o : Hp} (hf : f_X8_init_999 n K1456 v0 s0 s1 h = some o) : Run X (d + 1) 125 999 [some (.ref v0), none] [.ref s1, .ref s0] h (none, o) := by
  unfold f_X8_init_999 at hf
  refine rs_dup i_X8_init_999 rfl ?_
  refine rs_bipush i_X8_init_1000 (v := 38) (by decide) ?_
  refine rs_bipush i_X8_init_1002 (v := 32) (by decide) ?_
  obtain ⟨c1, hf⟩ := ite_some hf
  refine rs_iast i_X8_init_1004 c1 ?_
  exact r_X8_init_1005 hd HK1456 hf
noncomputable def f_X8_init_993 (n : Nat) (K1456 : Nat → Hp → Option Hp) (v0 : Nat) (s0 : Nat) (s1 : Nat) (h : Hp) : Option Hp :=
  if okI h s1 37 then
  f_X8_init_999 n K1456 v0 s0 s1 (hsi h s1 (ix 37) 32)
  else none
set_option maxRecDepth 100000 in
set_option maxHeartbeats 4000000 in
theorem r_X8_init_993 {X : Nat → Int32} {d : Nat} (hd : 5 ≤ (d + 1)) {n : Nat} {K1456 : Nat → Hp → Option Hp} (HK1456 : ∀ (v0 : Nat) (h : Hp) (o : Hp), K1456 v0 h = some o → Run X (d + 1) 125 1456 [some (.ref v0), none] [] h (none, o)) {v0 : Nat} {s0 : Nat} {s1 : Nat} {h : Hp} {o : Hp} (hf : f_X8_init_993 n K1456 v0 s0 s1 h = some o) : Run X (d + 1) 125 993 [some (.ref v0), none] [.ref s1, .ref s0] h (none, o) := by
  unfold f_X8_init_993 at hf
  refine rs_dup i_X8_init_993 rfl ?_
  refine rs_bipush i_X8_init_994 (v := 37) (by decide) ?_
  refine rs_bipush i_X8_init_996 (v := 32) (by decide) ?_
  obtain ⟨c1, hf⟩ := ite_some hf
  refine rs_iast i_X8_init_998 c1 ?_
  exact r_X8_init_999 hd HK1456 hf
noncomputable def f_X8_init_987 (n : Nat) (K1456 : Nat → Hp → Option Hp) (v0 : Nat) (s0 : Nat) (s1 : Nat) (h : Hp) : Option Hp :=
  if okI h s1 36 then
  f_X8_init_993 n K1456 v0 s0 s1 (hsi h s1 (ix 36) 107)
  else none
set_option maxRecDepth 100000 in
set_option maxHeartbeats 4000000 in
theorem r_X8_init_987 {X : Nat → Int32} {d : Nat} (hd : 5 ≤ (d + 1)) {n : Nat} {K1456 : Nat → Hp → Option Hp} (HK1456 : ∀ (v0 : Nat) (h : Hp) (o : Hp), K1456 v0 h = some o → Run X (d + 1) 125 1456 [some (.ref v0), none] [] h (none, o)) {v0 : Nat} {s0 : Nat} {s1 : Nat} {h : Hp} {o : Hp} (hf : f_X8_init_987 n K1456 v0 s0 s1 h = some o) : Run X (d + 1) 125 987 [some (.ref v0), none] [.ref s1, .ref s0] h (none, o) := by
  unfold f_X8_init_987 at hf
  refine rs_dup i_X8_init_987 rfl ?_
  refine rs_bipush i_X8_init_988 (v := 36) (by decide) ?_
  refine rs_bipush i_X8_init_990 (v := 107) (by decide) ?_
  obtain ⟨c1, hf⟩ := ite_some hf
  refine rs_iast i_X8_init_992 c1 ?_
  exact r_X8_init_993 hd HK1456 hf
noncomputable def f_X8_init_981 (n : Nat) (K1456 : Nat → Hp → Option Hp) (v0 : Nat) (s0 : Nat) (s1 : Nat) (h : Hp) : Option Hp :=
  if okI h s1 35 then
  f_X8_init_987 n K1456 v0 s0 s1 (hsi h s1 (ix 35) 99)
  else none
set_option maxRecDepth 100000 in
set_option maxHeartbeats 4000000 in
theorem r_X8_init_981 {X : Nat → Int32} {d : Nat} (hd : 5 ≤ (d + 1)) {n : Nat} {K1456 : Nat → Hp → Option Hp} (HK1456 : ∀ (v0 : Nat) (h : Hp) (o : Hp), K1456 v0 h = some o → Run X (d + 1) 125 1456 [some (.ref v0), none] [] h (none, o)) {v0 : Nat} {s0 : Nat} {s1 : Nat} {h : Hp} {o : Hp} (hf : f_X8_init_981 n K1456 v0 s0 s1 h = some o) : Run X (d + 1) 125 981 [some (.ref v0), none] [.ref s1, .ref s0] h (none, o) := by
  unfold f_X8_init_981 at hf
  refine rs_dup i_X8_init_981 rfl ?_
  refine rs_bipush i_X8_init_982 (v := 35) (by decide) ?_
  refine rs_bipush i_X8_init_984 (v := 99) (by decide) ?_
  obtain ⟨c1, hf⟩ := ite_some hf
  refine rs_iast i_X8_init_986 c1 ?_
  exact r_X8_init_987 hd HK1456 hf
noncomputable def f_X8_init_975 (n : Nat) (K1456 : Nat → Hp → Option Hp) (v0 : Nat) (s0 : Nat) (s1 : Nat) (h : Hp) : Option Hp :=
  if okI h s1 34 then
  f_X8_init_981 n K1456 v0 s0 s1 (hsi h s1 (ix 34) 105)
  else none
set_option maxRecDepth 100000 in
set_option maxHeartbeats 4000000 in
theorem r_X8_init_975 {X : Nat → Int32} {d : Nat} (hd : 5 ≤ (d + 1)) {n : Nat} {K1456 : Nat → Hp → Option Hp} (HK1456 : ∀ (v0 : Nat) (h : Hp) (o : Hp), K1456 v0 h = some o → Run X (d + 1) 125 1456 [some (.ref v0), none] [] h (none, o)) {v0 : Nat} {s0 : Nat} {s1 : Nat} {h : Hp} {o : Hp} (hf : f_X8_init_975 n K1456 v0 s0 s1 h = some o) : Run X (d + 1) 125 975 [some (.ref v0), none] [.ref s1, .ref s0] h (none, o) := by
  unfold f_X8_init_975 at hf
  refine rs_dup i_X8_init_975 rfl ?_
  refine rs_bipush i_X8_init_976 (v := 34) (by decide) ?_
  refine rs_bipush i_X8_init_978 (v := 105) (by decide) ?_
  obtain ⟨c1, hf⟩ := ite_some hf
  refine rs_iast i_X8_init_980 c1 ?_
  exact r_X8_init_981 hd HK1456 hf
noncomputable def f_X8_init_969 (n : Nat) (K1456 : Nat → Hp → Option Hp) (v0 : Nat) (s0 : Nat) (s1 : Nat) (h : Hp) : Option Hp :=
  if okI h s1 33 then
  f_X8_init_975 n K1456 v0 s0 s1 (hsi h s1 (ix 33) 104)
  else none
set_option maxRecDepth 100000 in
set_option maxHeartbeats 4000000 in
theorem r_X8_init_969 {X : Nat → Int32} {d : Nat} (hd : 5 ≤ (d + 1)) {n : Nat} {K1456 : Nat → Hp → Option Hp} (HK1456 : ∀ (v0 : Nat) (h : Hp) (o : Hp), K1456 v0 h = some o → Run X (d + 1) 125 1456 [some (.ref v0), none] [] h (none, o)) {v0 : Nat} {s0 : Nat} {s1 : Nat} {h : Hp} {o : Hp} (hf : f_X8_init_969 n K1456 v0 s0 s1 h = some o) : Run X (d + 1) 125 969 [some (.ref v0), none] [.ref s1, .ref s0] h (none, o) := by
  unfold f_X8_init_969 at hf
  refine rs_dup i_X8_init_969 rfl ?_
  refine rs_bipush i_X8_init_970 (v := 33) (by decide) ?_
  refine rs_bipush i_X8_init_972 (v := 104) (by decide) ?_
  obtain ⟨c1, hf⟩ := ite_some hf
  refine rs_iast i_X8_init_974 c1 ?_
  exact r_X8_init_975 hd HK1456 hf
noncomputable def f_X8_init_963 (n : Nat) (K1456 : Nat → Hp → Option Hp) (v0 : Nat) (s0 : Nat) (s1 : Nat) (h : Hp) : Option Hp :=
  if okI h s1 32 then
  f_X8_init_969 n K1456 v0 s0 s1 (hsi h s1 (ix 32) 116)
  else none
set_option maxRecDepth 100000 in
set_option maxHeartbeats 4000000 in
theorem r_X8_init_963 {X : Nat → Int32} {d : Nat} (hd : 5 ≤ (d + 1)) {n : Nat} {K1456 : Nat → Hp → Option Hp} (HK1456 : ∀ (v0 : Nat) (h : Hp) (o : Hp), K1456 v0 h = some o → Run X (d + 1) 125 1456 [some (.ref v0), none] [] h (none, o)) {v0 : Nat} {s0 : Nat} {s1 : Nat} {h : Hp} {o : Hp} (hf : f_X8_init_963 n K1456 v0 s0 s1 h = some o) : Run X (d + 1) 125 963 [some (.ref v0), none] [.ref s1, .ref s0] h (none, o) := by
  unfold f_X8_init_963 at hf
  refine rs_dup i_X8_init_963 rfl ?_
  refine rs_bipush i_X8_init_964 (v := 32) (by decide) ?_
  refine rs_bipush i_X8_init_966 (v := 116) (by decide) ?_
  obtain ⟨c1, hf⟩ := ite_some hf
  refine rs_iast i_X8_init_968 c1 ?_
  exact r_X8_init_969 hd HK1456 hf
noncomputable def f_X8_init_957 (n : Nat) (K1456 : Nat → Hp → Option Hp) (v0 : Nat) (s0 : Nat) (s1 : Nat) (h : Hp) : Option Hp :=
  if okI h s1 31 then
  f_X8_init_963 n K1456 v0 s0 s1 (hsi h s1 (ix 31) 32)
  else none
set_option maxRecDepth 100000 in
set_option maxHeartbeats 4000000 in
theorem r_X8_init_957 {X : Nat → Int32} {d : Nat} (hd : 5 ≤ (d + 1)) {n : Nat} {K1456 : Nat → Hp → Option Hp} (HK1456 : ∀ (v0 : Nat) (h : Hp) (o : Hp), K1456 v0 h = some o → Run X (d + 1) 125 1456 [some (.ref v0), none] [] h (none, o)) {v0 : Nat} {s0 : Nat} {s1 : Nat} {h : Hp} {o : Hp} (hf : f_X8_init_957 n K1456 v0 s0 s1 h = some o) : Run X (d + 1) 125 957 [some (.ref v0), none] [.ref s1, .ref s0] h (none, o) := by
  unfold f_X8_init_957 at hf
  refine rs_dup i_X8_init_957 rfl ?_
  refine rs_bipush i_X8_init_958 (v := 31) (by decide) ?_
  refine rs_bipush i_X8_init_960 (v := 32) (by decide) ?_
  obtain ⟨c1, hf⟩ := ite_some hf
  refine rs_iast i_X8_init_962 c1 ?_
  exact r_X8_init_963 hd HK1456 hf
noncomputable def f_X8_init_951 (n : Nat) (K1456 : Nat → Hp → Option Hp) (v0 : Nat) (s0 : Nat) (s1 : Nat) (h : Hp) : Option Hp :=
  if okI h s1 30 then
  f_X8_init_957 n K1456 v0 s0 s1 (hsi h s1 (ix 30) 32)
  else none
set_option maxRecDepth 100000 in
set_option maxHeartbeats 4000000 in
theorem r_X8_init_951 {X : Nat → Int32} {d : Nat} (hd : 5 ≤ (d + 1)) {n : Nat} {K1456 : Nat → Hp → Option Hp} (HK1456 : ∀ (v0 : Nat) (h : Hp) (o : Hp), K1456 v0 h = some o → Run X (d + 1) 125 1456 [some (.ref v0), none] [] h (none, o)) {v0 : Nat} {s0 : Nat} {s1 : Nat} {h : Hp} {o : Hp} (hf : f_X8_init_951 n K1456 v0 s0 s1 h = some o) : Run X (d + 1) 125 951 [some (.ref v0), none] [.ref s1, .ref s0] h (none, o) := by
  unfold f_X8_init_951 at hf
  refine rs_dup i_X8_init_951 rfl ?_
  refine rs_bipush i_X8_init_952 (v := 30) (by decide) ?_
  refine rs_bipush i_X8_init_954 (v := 32) (by decide) ?_
  obtain ⟨c1, hf⟩ := ite_some hf
  refine rs_iast i_X8_init_956 c1 ?_
  exact r_X8_init_957 hd HK1456 hf
noncomputable def f_X8_init_945 (n : Nat) (K1456 : Nat → Hp → Option Hp) (v0 : Nat) (s0 : Nat) (s1 : Nat) (h : Hp) : Option Hp :=
  if okI h s1 29 then
  f_X8_init_951 n K1456 v0 s0 s1 (hsi h s1 (ix 29) 32)
  else none
set_option maxRecDepth 100000 in
set_option maxHeartbeats 4000000 in
theorem r_X8_init_945 {X : Nat → Int32} {d : Nat} (hd : 5 ≤ (d + 1)) {n : Nat} {K1456 : Nat → Hp → Option Hp} (HK1456 : ∀ (v0 : Nat) (h : Hp) (o : Hp), K1456 v0 h = some o → Run X (d + 1) 125 1456 [some (.ref v0), none] [] h (none, o)) {v0 : Nat} {s0 : Nat} {s1 : Nat} {h : Hp} {o : Hp} (hf : f_X8_init_945 n K1456 v0 s0 s1 h = some o) : Run X (d + 1) 125 945 [some (.ref v0), none] [.ref s1, .ref s0] h (none, o) := by
  unfold f_X8_init_945 at hf
  refine rs_dup i_X8_init_945 rfl ?_
  refine rs_bipush i_X8_init_946 (v := 29) (by decide) ?_
  refine rs_bipush i_X8_init_948 (v := 32) (by decide) ?_
  obtain ⟨c1, hf⟩ := ite_some hf
  refine rs_iast i_X8_init_950 c1 ?_
  exact r_X8_init_951 hd HK1456 hf
noncomputable def f_X8_init_939 (n : Nat) (K1456 : Nat → Hp → Option Hp) (v0 : Nat) (s0 : Nat) (s1 : Nat) (h : Hp) : Option Hp :=
  if okI h s1 28 then
  f_X8_init_945 n K1456 v0 s0 s1 (hsi h s1 (ix 28) 32)
  else none
set_option maxRecDepth 100000 in
set_option maxHeartbeats 4000000 in
theorem r_X8_init_939 {X : Nat → Int32} {d : Nat} (hd : 5 ≤ (d + 1)) {n : Nat} {K1456 : Nat → Hp → Option Hp} (HK1456 : ∀ (v0 : Nat) (h : Hp) (o : Hp), K1456 v0 h = some o → Run X (d + 1) 125 1456 [some (.ref v0), none] [] h (none, o)) {v0 : Nat} {s0 : Nat} {s1 : Nat} {h : Hp} {o : Hp} (hf : f_X8_init_939 n K1456 v0 s0 s1 h = some o) : Run X (d + 1) 125 939 [some (.ref v0), none] [.ref s1, .ref s0] h (none, o) := by
  unfold f_X8_init_939 at hf
  refine rs_dup i_X8_init_939 rfl ?_
  refine rs_bipush i_X8_init_940 (v := 28) (by decide) ?_
  refine rs_bipush i_X8_init_942 (v := 32) (by decide) ?_
  obtain ⟨c1, hf⟩ := ite_some hf
  refine rs_iast i_X8_init_944 c1 ?_
  exact r_X8_init_945 hd HK1456 hf
noncomputable def f_X8_init_933 (n : Nat) (K1456 : Nat → Hp → Option Hp) (v0 : Nat) (s0 : Nat) (s1 : Nat) (h : Hp) : Option Hp :=
  if okI h s1 27 then
  f_X8_init_939 n K1456 v0 s0 s1 (hsi h s1 (ix 27) 32)
  else none
set_option maxRecDepth 100000 in
set_option maxHeartbeats 4000000 in
theorem r_X8_init_933 {X : Nat → Int32} {d : Nat} (hd : 5 ≤ (d + 1)) {n : Nat} {K1456 : Nat → Hp → Option Hp} (HK1456 : ∀ (v0 : Nat) (h : Hp) (o : Hp), K1456 v0 h = some o → Run X (d + 1) 125 1456 [some (.ref v0), none] [] h (none, o)) {v0 : Nat} {s0 : Nat} {s1 : Nat} {h : Hp} {o : Hp} (hf : f_X8_init_933 n K1456 v0 s0 s1 h = some o) : Run X (d + 1) 125 933 [some (.ref v0), none] [.ref s1, .ref s0] h (none, o) := by
  unfold f_X8_init_933 at hf
  refine rs_dup i_X8_init_933 rfl ?_
  refine rs_bipush i_X8_init_934 (v := 27) (by decide) ?_
  refine rs_bipush i_X8_init_936 (v := 32) (by decide) ?_
  obtain ⟨c1, hf⟩ := ite_some hf
  refine rs_iast i_X8_init_938 c1 ?_
  exact r_X8_init_939 hd HK1456 hf
noncomputable def f_X8_init_927 (n : Nat) (K1456 : Nat → Hp → Option Hp) (v0 : Nat) (s0 : Nat) (s1 : Nat) (h : Hp) : Option Hp :=
  if okI h s1 26 then
  f_X8_init_933 n K1456 v0 s0 s1 (hsi h s1 (ix 26) 116)
  else none
set_option maxRecDepth 100000 in
set_option maxHeartbeats 4000000 in
theorem r_X8_init_927 {X : Nat → Int32} {d : Nat} (hd : 5 ≤ (d + 1)) {n : Nat} {K1456 : Nat → Hp → Option Hp} (HK1456 : ∀ (v0 : Nat) (h : Hp) (o : Hp), K1456 v0 h = some o → Run X (d + 1) 125 1456 [some (.ref v0), none] [] h (none, o)) {v0 : Nat} {s0 : Nat} {s1 : Nat} {h : Hp} {o : Hp} (hf : f_X8_init_927 n K1456 v0 s0 s1 h = some o) : Run X (d + 1) 125 927 [some (.ref v0), none] [.ref s1, .ref s0] h (none, o) := by
  unfold f_X8_init_927 at hf
  refine rs_dup i_X8_init_927 rfl ?_
  refine rs_bipush i_X8_init_928 (v := 26) (by decide) ?_
  refine rs_bipush i_X8_init_930 (v := 116) (by decide) ?_
  obtain ⟨c1, hf⟩ := ite_some hf
  refine rs_iast i_X8_init_932 c1 ?_
  exact r_X8_init_933 hd HK1456 hf
noncomputable def f_X8_init_921 (n : Nat) (K1456 : Nat → Hp → Option Hp) (v0 : Nat) (s0 : Nat) (s1 : Nat) (h : Hp) : Option Hp :=
  if okI h s1 25 then
  f_X8_init_927 n K1456 v0 s0 s1 (hsi h s1 (ix 25) 101)
  else none
set_option maxRecDepth 100000 in
set_option maxHeartbeats 4000000 in
theorem r_X8_init_921 {X : Nat → Int32} {d : Nat} (hd : 5 ≤ (d + 1)) {n : Nat} {K1456 : Nat → Hp → Option Hp} (HK1456 : ∀ (v0 : Nat) (h : Hp) (o : Hp), K1456 v0 h = some o → Run X (d + 1) 125 1456 [some (.ref v0), none] [] h (none, o)) {v0 : Nat} {s0 : Nat} {s1 : Nat} {h : Hp} {o : Hp} (hf : f_X8_init_921 n K1456 v0 s0 s1 h = some o) : Run X (d + 1) 125 921 [some (.ref v0), none] [.ref s1, .ref s0] h (none, o) := by
  unfold f_X8_init_921 at hf
  refine rs_dup i_X8_init_921 rfl ?_
  refine rs_bipush i_X8_init_922 (v := 25) (by decide) ?_
  refine rs_bipush i_X8_init_924 (v := 101) (by decide) ?_
  obtain ⟨c1, hf⟩ := ite_some hf
  refine rs_iast i_X8_init_926 c1 ?_
  exact r_X8_init_927 hd HK1456 hf
noncomputable def f_X8_init_915 (n : Nat) (K1456 : Nat → Hp → Option Hp) (v0 : Nat) (s0 : Nat) (s1 : Nat) (h : Hp) : Option Hp :=
  if okI h s1 24 then
  f_X8_init_921 n K1456 v0 s0 s1 (hsi h s1 (ix 24) 119)
  else none
set_option maxRecDepth 100000 in
set_option maxHeartbeats 4000000 in
theorem r_X8_init_915 {X : Nat → Int32} {d : Nat} (hd : 5 ≤ (d + 1)) {n : Nat} {K1456 : Nat → Hp → Option Hp} (HK1456 : ∀ (v0 : Nat) (h : Hp) (o : Hp), K1456 v0 h = some o → Run X (d + 1) 125 1456 [some (.ref v0), none] [] h (none, o)) {v0 : Nat} {s0 : Nat} {s1 : Nat} {h : Hp} {o : Hp} (hf : f_X8_init_915 n K1456 v0 s0 s1 h = some o) : Run X (d + 1) 125 915 [some (.ref v0), none] [.ref s1, .ref s0] h (none, o) := by
  unfold f_X8_init_915 at hf
  refine rs_dup i_X8_init_915 rfl ?_
  refine rs_bipush i_X8_init_916 (v := 24) (by decide) ?_
  refine rs_bipush i_X8_init_918 (v := 119) (by decide) ?_
  obtain ⟨c1, hf⟩ := ite_some hf
  refine rs_iast i_X8_init_920 c1 ?_
  exact r_X8_init_921 hd HK1456 hf
noncomputable def f_X8_init_909 (n : Nat) (K1456 : Nat → Hp → Option Hp) (v0 : Nat) (s0 : Nat) (s1 : Nat) (h : Hp) : Option Hp :=
  if okI h s1 23 then
  f_X8_init_915 n K1456 v0 s0 s1 (hsi h s1 (ix 23) 32)
  else none
set_option maxRecDepth 100000 in
set_option maxHeartbeats 4000000 in
theorem r_X8_init_909 {X : Nat → Int32} {d : Nat} (hd : 5 ≤ (d + 1)) {n : Nat} {K1456 : Nat → Hp → Option Hp} (HK1456 : ∀ (v0 : Nat) (h : Hp) (o : Hp), K1456 v0 h = some o → Run X (d + 1) 125 1456 [some (.ref v0), none] [] h (none, o)) {v0 : Nat} {s0 : Nat} {s1 : Nat} {h : Hp} {o : Hp} (hf : f_X8_init_909 n K1456 v0 s0 s1 h = some o) : Run X (d + 1) 125 909 [some (.ref v0), none] [.ref s1, .ref s0] h (none, o) := by
  unfold f_X8_init_909 at hf
  refine rs_dup i_X8_init_909 rfl ?_
  refine rs_bipush i_X8_init_910 (v := 23) (by decide) ?_
  refine rs_bipush i_X8_init_912 (v := 32) (by decide) ?_
  obtain ⟨c1, hf⟩ := ite_some hf
  refine rs_iast i_X8_init_914 c1 ?_
  exact r_X8_init_915 hd HK1456 hf
noncomputable def f_X8_init_903 (n : Nat) (K1456 : Nat → Hp → Option Hp) (v0 : Nat) (s0 : Nat) (s1 : Nat) (h : Hp) : Option Hp :=
  if okI h s1 22 then
  f_X8_init_909 n K1456 v0 s0 s1 (hsi h s1 (ix 22) 32)
  else none
set_option maxRecDepth 100000 in
set_option maxHeartbeats 4000000 in
theorem r_X8_init_903 {X : Nat → Int32} {d : Nat} (hd : 5 ≤ (d + 1)) {n : Nat} {K1456 : Nat → Hp → Option Hp} (HK1456 : ∀ (v0 : Nat) (h : Hp) (o : Hp), K1456 v0 h = some o → Run X (d + 1) 125 1456 [some (.ref v0), none] [] h (none, o)) {v0 : Nat} {s0 : Nat} {s1 : Nat} {h : Hp} {o : Hp} (hf : f_X8_init_903 n K1456 v0 s0 s1 h = some o) : Run X (d + 1) 125 903 [some (.ref v0), none] [.ref s1, .ref s0] h (none, o) := by
  unfold f_X8_init_903 at hf
  refine rs_dup i_X8_init_903 rfl ?_
  refine rs_bipush i_X8_init_904 (v := 22) (by decide) ?_
  refine rs_bipush i_X8_init_906 (v := 32) (by decide) ?_
  obtain ⟨c1, hf⟩ := ite_some hf
  refine rs_iast i_X8_init_908 c1 ?_
  exact r_X8_init_909 hd HK1456 hf
noncomputable def f_X8_init_897 (n : Nat) (K1456 : Nat → Hp → Option Hp) (v0 : Nat) (s0 : Nat) (s1 : Nat) (h : Hp) : Option Hp :=
  if okI h s1 21 then
  f_X8_init_903 n K1456 v0 s0 s1 (hsi h s1 (ix 21) 115)
  else none
set_option maxRecDepth 100000 in
set_option maxHeartbeats 4000000 in
theorem r_X8_init_897 {X : Nat → Int32} {d : Nat} (hd : 5 ≤ (d + 1)) {n : Nat} {K1456 : Nat → Hp → Option Hp} (HK1456 : ∀ (v0 : Nat) (h : Hp) (o : Hp), K1456 v0 h = some o → Run X (d + 1) 125 1456 [some (.ref v0), none] [] h (none, o)) {v0 : Nat} {s0 : Nat} {s1 : Nat} {h : Hp} {o : Hp} (hf : f_X8_init_897 n K1456 v0 s0 s1 h = some o) : Run X (d + 1) 125 897 [some (.ref v0), none] [.ref s1, .ref s0] h (none, o) := by
  unfold f_X8_init_897 at hf
  refine rs_dup i_X8_init_897 rfl ?_
  refine rs_bipush i_X8_init_898 (v := 21) (by decide) ?_
  refine rs_bipush i_X8_init_900 (v := 115) (by decide) ?_
  obtain ⟨c1, hf⟩ := ite_some hf
  refine rs_iast i_X8_init_902 c1 ?_
  exact r_X8_init_903 hd HK1456 hf
noncomputable def f_X8_init_891 (n : Nat) (K1456 : Nat → Hp → Option Hp) (v0 : Nat) (s0 : Nat) (s1 : Nat) (h : Hp) : Option Hp :=
  if okI h s1 20 then
  f_X8_init_897 n K1456 v0 s0 s1 (hsi h s1 (ix 20) 107)
  else none
set_option maxRecDepth 100000 in
set_option maxHeartbeats 4000000 in
theorem r_X8_init_891 {X : Nat → Int32} {d : Nat} (hd : 5 ≤ (d + 1)) {n : Nat} {K1456 : Nat → Hp → Option Hp} (HK1456 : ∀ (v0 : Nat) (h : Hp) (o : Hp), K1456 v0 h = some o → Run X (d + 1) 125 1456 [some (.ref v0), none] [] h (none, o)) {v0 : Nat} {s0 : Nat} {s1 : Nat} {h : Hp} {o : Hp} (hf : f_X8_init_891 n K1456 v0 s0 s1 h = some o) : Run X (d + 1) 125 891 [some (.ref v0), none] [.ref s1, .ref s0] h (none, o) := by
  unfold f_X8_init_891 at hf
  refine rs_dup i_X8_init_891 rfl ?_
  refine rs_bipush i_X8_init_892 (v := 20) (by decide) ?_
  refine rs_bipush i_X8_init_894 (v := 107) (by decide) ?_
  obtain ⟨c1, hf⟩ := ite_some hf
  refine rs_iast i_X8_init_896 c1 ?_
  exact r_X8_init_897 hd HK1456 hf
noncomputable def f_X8_init_885 (n : Nat) (K1456 : Nat → Hp → Option Hp) (v0 : Nat) (s0 : Nat) (s1 : Nat) (h : Hp) : Option Hp :=
  if okI h s1 19 then
  f_X8_init_891 n K1456 v0 s0 s1 (hsi h s1 (ix 19) 99)
  else none
set_option maxRecDepth 100000 in
set_option maxHeartbeats 4000000 in
theorem r_X8_init_885 {X : Nat → Int32} {d : Nat} (hd : 5 ≤ (d + 1)) {n : Nat} {K1456 : Nat → Hp → Option Hp} (HK1456 : ∀ (v0 : Nat) (h : Hp) (o : Hp), K1456 v0 h = some o → Run X (d + 1) 125 1456 [some (.ref v0), none] [] h (none, o)) {v0 : Nat} {s0 : Nat} {s1 : Nat} {h : Hp} {o : Hp} (hf : f_X8_init_885 n K1456 v0 s0 s1 h = some o) : Run X (d + 1) 125 885 [some (.ref v0), none] [.ref s1, .ref s0] h (none, o) := by
  unfold f_X8_init_885 at hf
  refine rs_dup i_X8_init_885 rfl ?_
  refine rs_bipush i_X8_init_886 (v := 19) (by decide) ?_
  refine rs_bipush i_X8_init_888 (v := 99) (by decide) ?_
  obtain ⟨c1, hf⟩ := ite_some hf
  refine rs_iast i_X8_init_890 c1 ?_
  exact r_X8_init_891 hd HK1456 hf
noncomputable def f_X8_init_879 (n : Nat) (K1456 : Nat → Hp → Option Hp) (v0 : Nat) (s0 : Nat) (s1 : Nat) (h : Hp) : Option Hp :=
  if okI h s1 18 then
  f_X8_init_885 n K1456 v0 s0 s1 (hsi h s1 (ix 18) 105)
  else none
set_option maxRecDepth 100000 in
set_option maxHeartbeats 4000000 in
theorem r_X8_init_879 {X : Nat → Int32} {d : Nat} (hd : 5 ≤ (d + 1)) {n : Nat} {K1456 : Nat → Hp → Option Hp} (HK1456 : ∀ (v0 : Nat) (h : Hp) (o : Hp), K1456 v0 h = some o → Run X (d + 1) 125 1456 [some (.ref v0), none] [] h (none, o)) {v0 : Nat} {s0 : Nat} {s1 : Nat} {h : Hp} {o : Hp} (hf : f_X8_init_879 n K1456 v0 s0 s1 h = some o) : Run X (d + 1) 125 879 [some (.ref v0), none] [.ref s1, .ref s0] h (none, o) := by
  unfold f_X8_init_879 at hf
  refine rs_dup i_X8_init_879 rfl ?_
  refine rs_bipush i_X8_init_880 (v := 18) (by decide) ?_
  refine rs_bipush i_X8_init_882 (v := 105) (by decide) ?_
  obtain ⟨c1, hf⟩ := ite_some hf
  refine rs_iast i_X8_init_884 c1 ?_
  exact r_X8_init_885 hd HK1456 hf
noncomputable def f_X8_init_873 (n : Nat) (K1456 : Nat → Hp → Option Hp) (v0 : Nat) (s0 : Nat) (s1 : Nat) (h : Hp) : Option Hp :=
  if okI h s1 17 then
  f_X8_init_879 n K1456 v0 s0 s1 (hsi h s1 (ix 17) 116)
  else none
set_option maxRecDepth 100000 in
set_option maxHeartbeats 4000000 in
theorem r_X8_init_873 {X : Nat → Int32} {d : Nat} (hd : 5 ≤ (d + 1)) {n : Nat} {K1456 : Nat → Hp → Option Hp} (HK1456 : ∀ (v0 : Nat) (h : Hp) (o : Hp), K1456 v0 h = some o → Run X (d + 1) 125 1456 [some (.ref v0), none] [] h (none, o)) {v0 : Nat} {s0 : Nat} {s1 : Nat} {h : Hp} {o : Hp} (hf : f_X8_init_873 n K1456 v0 s0 s1 h = some o) : Run X (d + 1) 125 873 [some (.ref v0), none] [.ref s1, .ref s0] h (none, o) := by
  unfold f_X8_init_873 at hf
  refine rs_dup i_X8_init_873 rfl ?_
  refine rs_bipush i_X8_init_874 (v := 17) (by decide) ?_
  refine rs_bipush i_X8_init_876 (v := 116) (by decide) ?_
  obtain ⟨c1, hf⟩ := ite_some hf
  refine rs_iast i_X8_init_878 c1 ?_
  exact r_X8_init_879 hd HK1456 hf
noncomputable def f_X8_init_867 (n : Nat) (K1456 : Nat → Hp → Option Hp) (v0 : Nat) (s0 : Nat) (s1 : Nat) (h : Hp) : Option Hp :=
  if okI h s1 16 then
  f_X8_init_873 n K1456 v0 s0 s1 (hsi h s1 (ix 16) 115)
  else none
set_option maxRecDepth 100000 in
set_option maxHeartbeats 4000000 in
theorem r_X8_init_867 {X : Nat → Int32} {d : Nat} (hd : 5 ≤ (d + 1)) {n : Nat} {K1456 : Nat → Hp → Option Hp} (HK1456 : ∀ (v0 : Nat) (h : Hp) (o : Hp), K1456 v0 h = some o → Run X (d + 1) 125 1456 [some (.ref v0), none] [] h (none, o)) {v0 : Nat} {s0 : Nat} {s1 : Nat} {h : Hp} {o : Hp} (hf : f_X8_init_867 n K1456 v0 s0 s1 h = some o) : Run X (d + 1) 125 867 [some (.ref v0), none] [.ref s1, .ref s0] h (none, o) := by
  unfold f_X8_init_867 at hf
  refine rs_dup i_X8_init_867 rfl ?_
  refine rs_bipush i_X8_init_868 (v := 16) (by decide) ?_
  refine rs_bipush i_X8_init_870 (v := 115) (by decide) ?_
  obtain ⟨c1, hf⟩ := ite_some hf
  refine rs_iast i_X8_init_872 c1 ?_
  exact r_X8_init_873 hd HK1456 hf
noncomputable def f_X8_init_861 (n : Nat) (K1456 : Nat → Hp → Option Hp) (v0 : Nat) (s0 : Nat) (s1 : Nat) (h : Hp) : Option Hp :=
  if okI h s1 15 then
  f_X8_init_867 n K1456 v0 s0 s1 (hsi h s1 (ix 15) 32)
  else none
set_option maxRecDepth 100000 in
set_option maxHeartbeats 4000000 in
theorem r_X8_init_861 {X : Nat → Int32} {d : Nat} (hd : 5 ≤ (d + 1)) {n : Nat} {K1456 : Nat → Hp → Option Hp} (HK1456 : ∀ (v0 : Nat) (h : Hp) (o : Hp), K1456 v0 h = some o → Run X (d + 1) 125 1456 [some (.ref v0), none] [] h (none, o)) {v0 : Nat} {s0 : Nat} {s1 : Nat} {h : Hp} {o : Hp} (hf : f_X8_init_861 n K1456 v0 s0 s1 h = some o) : Run X (d + 1) 125 861 [some (.ref v0), none] [.ref s1, .ref s0] h (none, o) := by
  unfold f_X8_init_861 at hf
  refine rs_dup i_X8_init_861 rfl ?_
  refine rs_bipush i_X8_init_862 (v := 15) (by decide) ?_
  refine rs_bipush i_X8_init_864 (v := 32) (by decide) ?_
  obtain ⟨c1, hf⟩ := ite_some hf
  refine rs_iast i_X8_init_866 c1 ?_
  exact r_X8_init_867 hd HK1456 hf
noncomputable def f_X8_init_855 (n : Nat) (K1456 : Nat → Hp → Option Hp) (v0 : Nat) (s0 : Nat) (s1 : Nat) (h : Hp) : Option Hp :=
  if okI h s1 14 then
  f_X8_init_861 n K1456 v0 s0 s1 (hsi h s1 (ix 14) 32)
  else none
set_option maxRecDepth 100000 in
set_option maxHeartbeats 4000000 in
theorem r_X8_init_855 {X : Nat → Int32} {d : Nat} (hd : 5 ≤ (d + 1)) {n : Nat} {K1456 : Nat → Hp → Option Hp} (HK1456 : ∀ (v0 : Nat) (h : Hp) (o : Hp), K1456 v0 h = some o → Run X (d + 1) 125 1456 [some (.ref v0), none] [] h (none, o)) {v0 : Nat} {s0 : Nat} {s1 : Nat} {h : Hp} {o : Hp} (hf : f_X8_init_855 n K1456 v0 s0 s1 h = some o) : Run X (d + 1) 125 855 [some (.ref v0), none] [.ref s1, .ref s0] h (none, o) := by
  unfold f_X8_init_855 at hf
  refine rs_dup i_X8_init_855 rfl ?_
  refine rs_bipush i_X8_init_856 (v := 14) (by decide) ?_
  refine rs_bipush i_X8_init_858 (v := 32) (by decide) ?_
  obtain ⟨c1, hf⟩ := ite_some hf
  refine rs_iast i_X8_init_860 c1 ?_
  exact r_X8_init_861 hd HK1456 hf
noncomputable def f_X8_init_849 (n : Nat) (K1456 : Nat → Hp → Option Hp) (v0 : Nat) (s0 : Nat) (s1 : Nat) (h : Hp) : Option Hp :=
  if okI h s1 13 then
  f_X8_init_855 n K1456 v0 s0 s1 (hsi h s1 (ix 13) 32)
  else none
set_option maxRecDepth 100000 in
set_option maxHeartbeats 4000000 in
theorem r_X8_init_849 {X : Nat → Int32} {d : Nat} (hd : 5 ≤ (d + 1)) {n : Nat} {K1456 : Nat → Hp → Option Hp} (HK1456 : ∀ (v0 : Nat) (h : Hp) (o : Hp), K1456 v0 h = some o → Run X (d + 1) 125 1456 [some (.ref v0), none] [] h (none, o)) {v0 : Nat} {s0 : Nat} {s1 : Nat} {h : Hp} {o : Hp} (hf : f_X8_init_849 n K1456 v0 s0 s1 h = some o) : Run X (d + 1) 125 849 [some (.ref v0), none] [.ref s1, .ref s0] h (none, o) := by
  unfold f_X8_init_849 at hf
  refine rs_dup i_X8_init_849 rfl ?_
  refine rs_bipush i_X8_init_850 (v := 13) (by decide) ?_
  refine rs_bipush i_X8_init_852 (v := 32) (by decide) ?_
  obtain ⟨c1, hf⟩ := ite_some hf
  refine rs_iast i_X8_init_854 c1 ?_
  exact r_X8_init_855 hd HK1456 hf
noncomputable def f_X8_init_843 (n : Nat) (K1456 : Nat → Hp → Option Hp) (v0 : Nat) (s0 : Nat) (s1 : Nat) (h : Hp) : Option Hp :=
  if okI h s1 12 then
  f_X8_init_849 n K1456 v0 s0 s1 (hsi h s1 (ix 12) 115)
  else none
set_option maxRecDepth 100000 in
set_option maxHeartbeats 4000000 in
theorem r_X8_init_843 {X : Nat → Int32} {d : Nat} (hd : 5 ≤ (d + 1)) {n : Nat} {K1456 : Nat → Hp → Option Hp} (HK1456 : ∀ (v0 : Nat) (h : Hp) (o : Hp), K1456 v0 h = some o → Run X (d + 1) 125 1456 [some (.ref v0), none] [] h (none, o)) {v0 : Nat} {s0 : Nat} {s1 : Nat} {h : Hp} {o : Hp} (hf : f_X8_init_843 n K1456 v0 s0 s1 h = some o) : Run X (d + 1) 125 843 [some (.ref v0), none] [.ref s1, .ref s0] h (none, o) := by
  unfold f_X8_init_843 at hf
  refine rs_dup i_X8_init_843 rfl ?_
  refine rs_bipush i_X8_init_844 (v := 12) (by decide) ?_
  refine rs_bipush i_X8_init_846 (v := 115) (by decide) ?_
  obtain ⟨c1, hf⟩ := ite_some hf
  refine rs_iast i_X8_init_848 c1 ?_
  exact r_X8_init_849 hd HK1456 hf
noncomputable def f_X8_init_837 (n : Nat) (K1456 : Nat → Hp → Option Hp) (v0 : Nat) (s0 : Nat) (s1 : Nat) (h : Hp) : Option Hp :=
  if okI h s1 11 then
  f_X8_init_843 n K1456 v0 s0 s1 (hsi h s1 (ix 11) 114)
  else none
set_option maxRecDepth 100000 in
set_option maxHeartbeats 4000000 in
theorem r_X8_init_837 {X : Nat → Int32} {d : Nat} (hd : 5 ≤ (d + 1)) {n : Nat} {K1456 : Nat → Hp → Option Hp} (HK1456 : ∀ (v0 : Nat) (h : Hp) (o : Hp), K1456 v0 h = some o → Run X (d + 1) 125 1456 [some (.ref v0), none] [] h (none, o)) {v0 : Nat} {s0 : Nat} {s1 : Nat} {h : Hp} {o : Hp} (hf : f_X8_init_837 n K1456 v0 s0 s1 h = some o) : Run X (d + 1) 125 837 [some (.ref v0), none] [.ref s1, .ref s0] h (none, o) := by
  unfold f_X8_init_837 at hf
  refine rs_dup i_X8_init_837 rfl ?_
  refine rs_bipush i_X8_init_838 (v := 11) (by decide) ?_
  refine rs_bipush i_X8_init_840 (v := 114) (by decide) ?_
  obtain ⟨c1, hf⟩ := ite_some hf
  refine rs_iast i_X8_init_842 c1 ?_
  exact r_X8_init_843 hd HK1456 hf
noncomputable def f_X8_init_831 (n : Nat) (K1456 : Nat → Hp → Option Hp) (v0 : Nat) (s0 : Nat) (s1 : Nat) (h : Hp) : Option Hp :=
  if okI h s1 10 then
  f_X8_init_837 n K1456 v0 s0 s1 (hsi h s1 (ix 10) 97)
  else none
set_option maxRecDepth 100000 in
set_option maxHeartbeats 4000000 in
theorem r_X8_init_831 {X : Nat → Int32} {d : Nat} (hd : 5 ≤ (d + 1)) {n : Nat} {K1456 : Nat → Hp → Option Hp} (HK1456 : ∀ (v0 : Nat) (h : Hp) (o : Hp), K1456 v0 h = some o → Run X (d + 1) 125 1456 [some (.ref v0), none] [] h (none, o)) {v0 : Nat} {s0 : Nat} {s1 : Nat} {h : Hp} {o : Hp} (hf : f_X8_init_831 n K1456 v0 s0 s1 h = some o) : Run X (d + 1) 125 831 [some (.ref v0), none] [.ref s1, .ref s0] h (none, o) := by
  unfold f_X8_init_831 at hf
  refine rs_dup i_X8_init_831 rfl ?_
  refine rs_bipush i_X8_init_832 (v := 10) (by decide) ?_
  refine rs_bipush i_X8_init_834 (v := 97) (by decide) ?_
  obtain ⟨c1, hf⟩ := ite_some hf
  refine rs_iast i_X8_init_836 c1 ?_
  exact r_X8_init_837 hd HK1456 hf
noncomputable def f_X8_init_825 (n : Nat) (K1456 : Nat → Hp → Option Hp) (v0 : Nat) (s0 : Nat) (s1 : Nat) (h : Hp) : Option Hp :=
  if okI h s1 9 then
  f_X8_init_831 n K1456 v0 s0 s1 (hsi h s1 (ix 9) 101)
  else none
set_option maxRecDepth 100000 in
set_option maxHeartbeats 4000000 in
theorem r_X8_init_825 {X : Nat → Int32} {d : Nat} (hd : 5 ≤ (d + 1)) {n : Nat} {K1456 : Nat → Hp → Option Hp} (HK1456 : ∀ (v0 : Nat) (h : Hp) (o : Hp), K1456 v0 h = some o → Run X (d + 1) 125 1456 [some (.ref v0), none] [] h (none, o)) {v0 : Nat} {s0 : Nat} {s1 : Nat} {h : Hp} {o : Hp} (hf : f_X8_init_825 n K1456 v0 s0 s1 h = some o) : Run X (d + 1) 125 825 [some (.ref v0), none] [.ref s1, .ref s0] h (none, o) := by
  unfold f_X8_init_825 at hf
  refine rs_dup i_X8_init_825 rfl ?_
  refine rs_bipush i_X8_init_826 (v := 9) (by decide) ?_
  refine rs_bipush i_X8_init_828 (v := 101) (by decide) ?_
  obtain ⟨c1, hf⟩ := ite_some hf
  refine rs_iast i_X8_init_830 c1 ?_
  exact r_X8_init_831 hd HK1456 hf
noncomputable def f_X8_init_819 (n : Nat) (K1456 : Nat → Hp → Option Hp) (v0 : Nat) (s0 : Nat) (s1 : Nat) (h : Hp) : Option Hp :=
  if okI h s1 8 then
  f_X8_init_825 n K1456 v0 s0 s1 (hsi h s1 (ix 8) 116)
  else none
set_option maxRecDepth 100000 in
set_option maxHeartbeats 4000000 in
theorem r_X8_init_819 {X : Nat → Int32} {d : Nat} (hd : 5 ≤ (d + 1)) {n : Nat} {K1456 : Nat → Hp → Option Hp} (HK1456 : ∀ (v0 : Nat) (h : Hp) (o : Hp), K1456 v0 h = some o → Run X (d + 1) 125 1456 [some (.ref v0), none] [] h (none, o)) {v0 : Nat} {s0 : Nat} {s1 : Nat} {h : Hp} {o : Hp} (hf : f_X8_init_819 n K1456 v0 s0 s1 h = some o) : Run X (d + 1) 125 819 [some (.ref v0), none] [.ref s1, .ref s0] h (none, o) := by
  unfold f_X8_init_819 at hf
  refine rs_dup i_X8_init_819 rfl ?_
  refine rs_bipush i_X8_init_820 (v := 8) (by decide) ?_
  refine rs_bipush i_X8_init_822 (v := 116) (by decide) ?_
  obtain ⟨c1, hf⟩ := ite_some hf
  refine rs_iast i_X8_init_824 c1 ?_
  exact r_X8_init_825 hd HK1456 hf
noncomputable def f_X8_init_813 (n : Nat) (K1456 : Nat → Hp → Option Hp) (v0 : Nat) (s0 : Nat) (s1 : Nat) (h : Hp) : Option Hp :=
  if okI h s1 7 then
  f_X8_init_819 n K1456 v0 s0 s1 (hsi h s1 (ix 7) 32)
  else none
set_option maxRecDepth 100000 in
set_option maxHeartbeats 4000000 in
theorem r_X8_init_813 {X : Nat → Int32} {d : Nat} (hd : 5 ≤ (d + 1)) {n : Nat} {K1456 : Nat → Hp → Option Hp} (HK1456 : ∀ (v0 : Nat) (h : Hp) (o : Hp), K1456 v0 h = some o → Run X (d + 1) 125 1456 [some (.ref v0), none] [] h (none, o)) {v0 : Nat} {s0 : Nat} {s1 : Nat} {h : Hp} {o : Hp} (hf : f_X8_init_813 n K1456 v0 s0 s1 h = some o) : Run X (d + 1) 125 813 [some (.ref v0), none] [.ref s1, .ref s0] h (none, o) := by
  unfold f_X8_init_813 at hf
  refine rs_dup i_X8_init_813 rfl ?_
  refine rs_bipush i_X8_init_814 (v := 7) (by decide) ?_
  refine rs_bipush i_X8_init_816 (v := 32) (by decide) ?_
  obtain ⟨c1, hf⟩ := ite_some hf
  refine rs_iast i_X8_init_818 c1 ?_
  exact r_X8_init_819 hd HK1456 hf
noncomputable def f_X8_init_807 (n : Nat) (K1456 : Nat → Hp → Option Hp) (v0 : Nat) (s0 : Nat) (s1 : Nat) (h : Hp) : Option Hp :=
  if okI h s1 6 then
  f_X8_init_813 n K1456 v0 s0 s1 (hsi h s1 (ix 6) 32)
  else none
set_option maxRecDepth 100000 in
set_option maxHeartbeats 4000000 in
theorem r_X8_init_807 {X : Nat → Int32} {d : Nat} (hd : 5 ≤ (d + 1)) {n : Nat} {K1456 : Nat → Hp → Option Hp} (HK1456 : ∀ (v0 : Nat) (h : Hp) (o : Hp), K1456 v0 h = some o → Run X (d + 1) 125 1456 [some (.ref v0), none] [] h (none, o)) {v0 : Nat} {s0 : Nat} {s1 : Nat} {h : Hp} {o : Hp} (hf : f_X8_init_807 n K1456 v0 s0 s1 h = some o) : Run X (d + 1) 125 807 [some (.ref v0), none] [.ref s1, .ref s0] h (none, o) := by
  unfold f_X8_init_807 at hf
  refine rs_dup i_X8_init_807 rfl ?_
  refine rs_bipush i_X8_init_808 (v := 6) (by decide) ?_
  refine rs_bipush i_X8_init_810 (v := 32) (by decide) ?_
  obtain ⟨c1, hf⟩ := ite_some hf
  refine rs_iast i_X8_init_812 c1 ?_
  exact r_X8_init_813 hd HK1456 hf
noncomputable def f_X8_init_802 (n : Nat) (K1456 : Nat → Hp → Option Hp) (v0 : Nat) (s0 : Nat) (s1 : Nat) (h : Hp) : Option Hp :=
  if okI h s1 5 then
  f_X8_init_807 n K1456 v0 s0 s1 (hsi h s1 (ix 5) 32)
  else none
set_option maxRecDepth 100000 in
set_option maxHeartbeats 4000000 in
theorem r_X8_init_802 {X : Nat → Int32} {d : Nat} (hd : 5 ≤ (d + 1)) {n : Nat} {K1456 : Nat → Hp → Option Hp} (HK1456 : ∀ (v0 : Nat) (h : Hp) (o : Hp), K1456 v0 h = some o → Run X (d + 1) 125 1456 [some (.ref v0), none] [] h (none, o)) {v0 : Nat} {s0 : Nat} {s1 : Nat} {h : Hp} {o : Hp} (hf : f_X8_init_802 n K1456 v0 s0 s1 h = some o) : Run X (d + 1) 125 802 [some (.ref v0), none] [.ref s1, .ref s0] h (none, o) := by
  unfold f_X8_init_802 at hf
  refine rs_dup i_X8_init_802 rfl ?_
  refine rs_iconst i_X8_init_803 (v := 5) (by decide) ?_
  refine rs_bipush i_X8_init_804 (v := 32) (by decide) ?_
  obtain ⟨c1, hf⟩ := ite_some hf
  refine rs_iast i_X8_init_806 c1 ?_
  exact r_X8_init_807 hd HK1456 hf
noncomputable def f_X8_init_797 (n : Nat) (K1456 : Nat → Hp → Option Hp) (v0 : Nat) (s0 : Nat) (s1 : Nat) (h : Hp) : Option Hp :=
  if okI h s1 4 then
  f_X8_init_802 n K1456 v0 s0 s1 (hsi h s1 (ix 4) 32)
  else none
set_option maxRecDepth 100000 in
set_option maxHeartbeats 4000000 in
theorem r_X8_init_797 {X : Nat → Int32} {d : Nat} (hd : 5 ≤ (d + 1)) {n : Nat} {K1456 : Nat → Hp → Option Hp} (HK1456 : ∀ (v0 : Nat) (h : Hp) (o : Hp), K1456 v0 h = some o → Run X (d + 1) 125 1456 [some (.ref v0), none] [] h (none, o)) {v0 : Nat} {s0 : Nat} {s1 : Nat} {h : Hp} {o : Hp} (hf : f_X8_init_797 n K1456 v0 s0 s1 h = some o) : Run X (d + 1) 125 797 [some (.ref v0), none] [.ref s1, .ref s0] h (none, o) := by
  unfold f_X8_init_797 at hf
  refine rs_dup i_X8_init_797 rfl ?_
  refine rs_iconst i_X8_init_798 (v := 4) (by decide) ?_
  refine rs_bipush i_X8_init_799 (v := 32) (by decide) ?_
  obtain ⟨c1, hf⟩ := ite_some hf
  refine rs_iast i_X8_init_801 c1 ?_
  exact r_X8_init_802 hd HK1456 hf
noncomputable def f_X8_init_792 (n : Nat) (K1456 : Nat → Hp → Option Hp) (v0 : Nat) (s0 : Nat) (s1 : Nat) (h : Hp) : Option Hp :=
  if okI h s1 3 then
  f_X8_init_797 n K1456 v0 s0 s1 (hsi h s1 (ix 3) 119)
  else none
set_option maxRecDepth 100000 in
set_option maxHeartbeats 4000000 in
theorem r_X8_init_792 {X : Nat → Int32} {d : Nat} (hd : 5 ≤ (d + 1)) {n : Nat} {K1456 : Nat → Hp → Option Hp} (HK1456 : ∀ (v0 : Nat) (h : Hp) (o : Hp), K1456 v0 h = some o → Run X (d + 1) 125 1456 [some (.ref v0), none] [] h (none, o)) {v0 : Nat} {s0 : Nat} {s1 : Nat} {h : Hp} {o : Hp} (hf : f_X8_init_792 n K1456 v0 s0 s1 h = some o) : Run X (d + 1) 125 792 [some (.ref v0), none] [.ref s1, .ref s0] h (none, o) := by
  unfold f_X8_init_792 at hf
  refine rs_dup i_X8_init_792 rfl ?_
  refine rs_iconst i_X8_init_793 (v := 3) (by decide) ?_
  refine rs_bipush i_X8_init_794 (v := 119) (by decide) ?_
  obtain ⟨c1, hf⟩ := ite_some hf
  refine rs_iast i_X8_init_796 c1 ?_
  exact r_X8_init_797 hd HK1456 hf
noncomputable def f_X8_init_787 (n : Nat) (K1456 : Nat → Hp → Option Hp) (v0 : Nat) (s0 : Nat) (s1 : Nat) (h : Hp) : Option Hp :=
  if okI h s1 2 then
  f_X8_init_792 n K1456 v0 s0 s1 (hsi h s1 (ix 2) 97)
  else none
set_option maxRecDepth 100000 in
set_option maxHeartbeats 4000000 in
theorem r_X8_init_787 {X : Nat → Int32} {d : Nat} (hd : 5 ≤ (d + 1)) {n : Nat} {K1456 : Nat → Hp → Option Hp} (HK1456 : ∀ (v0 : Nat) (h : Hp) (o : Hp), K1456 v0 h = some o → Run X (d + 1) 125 1456 [some (.ref v0), none] [] h (none, o)) {v0 : Nat} {s0 : Nat} {s1 : Nat} {h : Hp} {o : Hp} (hf : f_X8_init_787 n K1456 v0 s0 s1 h = some o) : Run X (d + 1) 125 787 [some (.ref v0), none] [.ref s1, .ref s0] h (none, o) := by
  unfold f_X8_init_787 at hf
  refine rs_dup i_X8_init_787 rfl ?_
  refine rs_iconst i_X8_init_788 (v := 2) (by decide) ?_
  refine rs_bipush i_X8_init_789 (v := 97) (by decide) ?_
  obtain ⟨c1, hf⟩ := ite_some hf
  refine rs_iast i_X8_init_791 c1 ?_
  exact r_X8_init_792 hd HK1456 hf
noncomputable def f_X8_init_782 (n : Nat) (K1456 : Nat → Hp → Option Hp) (v0 : Nat) (s0 : Nat) (s1 : Nat) (h : Hp) : Option Hp :=
  if okI h s1 1 then
  f_X8_init_787 n K1456 v0 s0 s1 (hsi h s1 (ix 1) 114)
  else none
set_option maxRecDepth 100000 in
set_option maxHeartbeats 4000000 in
theorem r_X8_init_782 {X : Nat → Int32} {d : Nat} (hd : 5 ≤ (d + 1)) {n : Nat} {K1456 : Nat → Hp → Option Hp} (HK1456 : ∀ (v0 : Nat) (h : Hp) (o : Hp), K1456 v0 h = some o → Run X (d + 1) 125 1456 [some (.ref v0), none] [] h (none, o)) {v0 : Nat} {s0 : Nat} {s1 : Nat} {h : Hp} {o : Hp} (hf : f_X8_init_782 n K1456 v0 s0 s1 h = some o) : Run X (d + 1) 125 782 [some (.ref v0), none] [.ref s1, .ref s0] h (none, o) := by
  unfold f_X8_init_782 at hf
  refine rs_dup i_X8_init_782 rfl ?_
  refine rs_iconst i_X8_init_783 (v := 1) (by decide) ?_
  refine rs_bipush i_X8_init_784 (v := 114) (by decide) ?_
  obtain ⟨c1, hf⟩ := ite_some hf
  refine rs_iast i_X8_init_786 c1 ?_
  exact r_X8_init_787 hd HK1456 hf
noncomputable def f_X8_init_777 (n : Nat) (K1456 : Nat → Hp → Option Hp) (v0 : Nat) (s0 : Nat) (s1 : Nat) (h : Hp) : Option Hp :=
  if okI h s1 0 then
  f_X8_init_782 n K1456 v0 s0 s1 (hsi h s1 (ix 0) 100)
  else none
set_option maxRecDepth 100000 in
set_option maxHeartbeats 4000000 in
theorem r_X8_init_777 {X : Nat → Int32} {d : Nat} (hd : 5 ≤ (d + 1)) {n : Nat} {K1456 : Nat → Hp → Option Hp} (HK1456 : ∀ (v0 : Nat) (h : Hp) (o : Hp), K1456 v0 h = some o → Run X (d + 1) 125 1456 [some (.ref v0), none] [] h (none, o)) {v0 : Nat} {s0 : Nat} {s1 : Nat} {h : Hp} {o : Hp} (hf : f_X8_init_777 n K1456 v0 s0 s1 h = some o) : Run X (d + 1) 125 777 [some (.ref v0), none] [.ref s1, .ref s0] h (none, o) := by
  unfold f_X8_init_777 at hf
  refine rs_dup i_X8_init_777 rfl ?_
  refine rs_iconst i_X8_init_778 (v := 0) (by decide) ?_
  refine rs_bipush i_X8_init_779 (v := 100) (by decide) ?_
  obtain ⟨c1, hf⟩ := ite_some hf
  refine rs_iast i_X8_init_781 c1 ?_
  exact r_X8_init_782 hd HK1456 hf
noncomputable def f_X8_init_772 (n : Nat) (K1456 : Nat → Hp → Option Hp) (v0 : Nat) (h : Hp) : Option Hp :=
  f_X8_init_777 n K1456 v0 v0 h.1.length (hnew h (9, ix 96))
set_option maxRecDepth 100000 in
set_option maxHeartbeats 4000000 in
theorem r_X8_init_772 {X : Nat → Int32} {d : Nat} (hd : 5 ≤ (d + 1)) {n : Nat} {K1456 : Nat → Hp → Option Hp} (HK1456 : ∀ (v0 : Nat) (h : Hp) (o : Hp), K1456 v0 h = some o → Run X (d + 1) 125 1456 [some (.ref v0), none] [] h (none, o)) {v0 : Nat} {h : Hp} {o : Hp} (hf : f_X8_init_772 n K1456 v0 h = some o) : Run X (d + 1) 125 772 [some (.ref v0), none] [] h (none, o) := by
  unfold f_X8_init_772 at hf
  refine rs_aload_n i_X8_init_772 rfl ?_
  refine rs_bipush i_X8_init_773 (v := 96) (by decide) ?_
  refine rs_newa i_X8_init_775 (by decide) ?_
  exact r_X8_init_777 hd HK1456 hf
noncomputable def f_X8_init_769 (n : Nat) (K1456 : Nat → Hp → Option Hp) (v0 : Nat) (s0 : Nat) (s1 : Nat) (h : Hp) : Option Hp :=
  if okO h s0 8 then
  if 16 ≤ s1 then
  f_X8_init_772 n K1456 v0 (hsr h s0 25 (some s1))
  else none
  else none
set_option maxRecDepth 100000 in
set_option maxHeartbeats 4000000 in
theorem r_X8_init_769 {X : Nat → Int32} {d : Nat} (hd : 5 ≤ (d + 1)) {n : Nat} {K1456 : Nat → Hp → Option Hp} (HK1456 : ∀ (v0 : Nat) (h : Hp) (o : Hp), K1456 v0 h = some o → Run X (d + 1) 125 1456 [some (.ref v0), none] [] h (none, o)) {v0 : Nat} {s0 : Nat} {s1 : Nat} {h : Hp} {o : Hp} (hf : f_X8_init_769 n K1456 v0 s0 s1 h = some o) : Run X (d + 1) 125 769 [some (.ref v0), none] [.ref s1, .ref s0] h (none, o) := by
  unfold f_X8_init_769 at hf
  obtain ⟨c1, hf⟩ := ite_some hf
  obtain ⟨c2, hf⟩ := ite_some hf
  refine rs_putR i_X8_init_769 (by decide) c2 c1 ?_
  exact r_X8_init_772 hd HK1456 hf
noncomputable def f_X8_init_763 (n : Nat) (K1456 : Nat → Hp → Option Hp) (v0 : Nat) (s0 : Nat) (s1 : Nat) (h : Hp) : Option Hp :=
  if okI h s1 82 then
  f_X8_init_769 n K1456 v0 s0 s1 (hsi h s1 (ix 82) 59)
  else none
set_option maxRecDepth 100000 in
set_option maxHeartbeats 4000000 in
theorem r_X8_init_763 {X : Nat → Int32} {d : Nat} (hd : 5 ≤ (d + 1)) {n : Nat} {K1456 : Nat → Hp → Option Hp} (HK1456 : ∀ (v0 : Nat) (h : Hp) (o : Hp), K1456 v0 h = some o → Run X (d + 1) 125 1456 [some (.ref v0), none] [] h (none, o)) {v0 : Nat} {s0 : Nat} {s1 : Nat} {h : Hp} {o : Hp} (hf : f_X8_init_763 n K1456 v0 s0 s1 h = some o) : Run X (d + 1) 125 763 [some (.ref v0), none] [.ref s1, .ref s0] h (none, o) := by
  unfold f_X8_init_763 at hf
  refine rs_dup i_X8_init_763 rfl ?_
  refine rs_bipush i_X8_init_764 (v := 82) (by decide) ?_
  refine rs_bipush i_X8_init_766 (v := 59) (by decide) ?_
  obtain ⟨c1, hf⟩ := ite_some hf
  refine rs_iast i_X8_init_768 c1 ?_
  exact r_X8_init_769 hd HK1456 hf
noncomputable def f_X8_init_757 (n : Nat) (K1456 : Nat → Hp → Option Hp) (v0 : Nat) (s0 : Nat) (s1 : Nat) (h : Hp) : Option Hp :=
  if okI h s1 81 then
  f_X8_init_763 n K1456 v0 s0 s1 (hsi h s1 (ix 81) 32)
  else none
set_option maxRecDepth 100000 in
set_option maxHeartbeats 4000000 in
theorem r_X8_init_757 {X : Nat → Int32} {d : Nat} (hd : 5 ≤ (d + 1)) {n : Nat} {K1456 : Nat → Hp → Option Hp} (HK1456 : ∀ (v0 : Nat) (h : Hp) (o : Hp), K1456 v0 h = some o → Run X (d + 1) 125 1456 [some (.ref v0), none] [] h (none, o)) {v0 : Nat} {s0 : Nat} {s1 : Nat} {h : Hp} {o : Hp} (hf : f_X8_init_757 n K1456 v0 s0 s1 h = some o) : Run X (d + 1) 125 757 [some (.ref v0), none] [.ref s1, .ref s0] h (none, o) := by
  unfold f_X8_init_757 at hf
  refine rs_dup i_X8_init_757 rfl ?_
  refine rs_bipush i_X8_init_758 (v := 81) (by decide) ?_
  refine rs_bipush i_X8_init_760 (v := 32) (by decide) ?_
  obtain ⟨c1, hf⟩ := ite_some hf
  refine rs_iast i_X8_init_762 c1 ?_
  exact r_X8_init_763 hd HK1456 hf
noncomputable def f_X8_init_751 (n : Nat) (K1456 : Nat → Hp → Option Hp) (v0 : Nat) (s0 : Nat) (s1 : Nat) (h : Hp) : Option Hp :=
  if okI h s1 80 then
  f_X8_init_757 n K1456 v0 s0 s1 (hsi h s1 (ix 80) 116)
  else none
set_option maxRecDepth 100000 in
set_option maxHeartbeats 4000000 in
theorem r_X8_init_751 {X : Nat → Int32} {d : Nat} (hd : 5 ≤ (d + 1)) {n : Nat} {K1456 : Nat → Hp → Option Hp} (HK1456 : ∀ (v0 : Nat) (h : Hp) (o : Hp), K1456 v0 h = some o → Run X (d + 1) 125 1456 [some (.ref v0), none] [] h (none, o)) {v0 : Nat} {s0 : Nat} {s1 : Nat} {h : Hp} {o : Hp} (hf : f_X8_init_751 n K1456 v0 s0 s1 h = some o) : Run X (d + 1) 125 751 [some (.ref v0), none] [.ref s1, .ref s0] h (none, o) := by
  unfold f_X8_init_751 at hf
  refine rs_dup i_X8_init_751 rfl ?_
  refine rs_bipush i_X8_init_752 (v := 80) (by decide) ?_
  refine rs_bipush i_X8_init_754 (v := 116) (by decide) ?_
  obtain ⟨c1, hf⟩ := ite_some hf
  refine rs_iast i_X8_init_756 c1 ?_
  exact r_X8_init_757 hd HK1456 hf
noncomputable def f_X8_init_745 (n : Nat) (K1456 : Nat → Hp → Option Hp) (v0 : Nat) (s0 : Nat) (s1 : Nat) (h : Hp) : Option Hp :=
  if okI h s1 79 then
  f_X8_init_751 n K1456 v0 s0 s1 (hsi h s1 (ix 79) 115)
  else none
set_option maxRecDepth 100000 in
set_option maxHeartbeats 4000000 in
theorem r_X8_init_745 {X : Nat → Int32} {d : Nat} (hd : 5 ≤ (d + 1)) {n : Nat} {K1456 : Nat → Hp → Option Hp} (HK1456 : ∀ (v0 : Nat) (h : Hp) (o : Hp), K1456 v0 h = some o → Run X (d + 1) 125 1456 [some (.ref v0), none] [] h (none, o)) {v0 : Nat} {s0 : Nat} {s1 : Nat} {h : Hp} {o : Hp} (hf : f_X8_init_745 n K1456 v0 s0 s1 h = some o) : Run X (d + 1) 125 745 [some (.ref v0), none] [.ref s1, .ref s0] h (none, o) := by
  unfold f_X8_init_745 at hf
  refine rs_dup i_X8_init_745 rfl ?_
  refine rs_bipush i_X8_init_746 (v := 79) (by decide) ?_
  refine rs_bipush i_X8_init_748 (v := 115) (by decide) ?_
  obtain ⟨c1, hf⟩ := ite_some hf
  refine rs_iast i_X8_init_750 c1 ?_
  exact r_X8_init_751 hd HK1456 hf
noncomputable def f_X8_init_739 (n : Nat) (K1456 : Nat → Hp → Option Hp) (v0 : Nat) (s0 : Nat) (s1 : Nat) (h : Hp) : Option Hp :=
  if okI h s1 78 then
  f_X8_init_745 n K1456 v0 s0 s1 (hsi h s1 (ix 78) 117)
  else none
set_option maxRecDepth 100000 in
set_option maxHeartbeats 4000000 in
theorem r_X8_init_739 {X : Nat → Int32} {d : Nat} (hd : 5 ≤ (d + 1)) {n : Nat} {K1456 : Nat → Hp → Option Hp} (HK1456 : ∀ (v0 : Nat) (h : Hp) (o : Hp), K1456 v0 h = some o → Run X (d + 1) 125 1456 [some (.ref v0), none] [] h (none, o)) {v0 : Nat} {s0 : Nat} {s1 : Nat} {h : Hp} {o : Hp} (hf : f_X8_init_739 n K1456 v0 s0 s1 h = some o) : Run X (d + 1) 125 739 [some (.ref v0), none] [.ref s1, .ref s0] h (none, o) := by
  unfold f_X8_init_739 at hf
  refine rs_dup i_X8_init_739 rfl ?_
  refine rs_bipush i_X8_init_740 (v := 78) (by decide) ?_
  refine rs_bipush i_X8_init_742 (v := 117) (by decide) ?_
  obtain ⟨c1, hf⟩ := ite_some hf
  refine rs_iast i_X8_init_744 c1 ?_
  exact r_X8_init_745 hd HK1456 hf
noncomputable def f_X8_init_733 (n : Nat) (K1456 : Nat → Hp → Option Hp) (v0 : Nat) (s0 : Nat) (s1 : Nat) (h : Hp) : Option Hp :=
  if okI h s1 77 then
  f_X8_init_739 n K1456 v0 s0 s1 (hsi h s1 (ix 77) 100)
  else none
set_option maxRecDepth 100000 in
set_option maxHeartbeats 4000000 in
theorem r_X8_init_733 {X : Nat → Int32} {d : Nat} (hd : 5 ≤ (d + 1)) {n : Nat} {K1456 : Nat → Hp → Option Hp} (HK1456 : ∀ (v0 : Nat) (h : Hp) (o : Hp), K1456 v0 h = some o → Run X (d + 1) 125 1456 [some (.ref v0), none] [] h (none, o)) {v0 : Nat} {s0 : Nat} {s1 : Nat} {h : Hp} {o : Hp} (hf : f_X8_init_733 n K1456 v0 s0 s1 h = some o) : Run X (d + 1) 125 733 [some (.ref v0), none] [.ref s1, .ref s0] h (none, o) := by
  unfold f_X8_init_733 at hf
  refine rs_dup i_X8_init_733 rfl ?_
  refine rs_bipush i_X8_init_734 (v := 77) (by decide) ?_
  refine rs_bipush i_X8_init_736 (v := 100) (by decide) ?_
  obtain ⟨c1, hf⟩ := ite_some hf
  refine rs_iast i_X8_init_738 c1 ?_
  exact r_X8_init_739 hd HK1456 hf
noncomputable def f_X8_init_727 (n : Nat) (K1456 : Nat → Hp → Option Hp) (v0 : Nat) (s0 : Nat) (s1 : Nat) (h : Hp) : Option Hp :=
  if okI h s1 76 then
  f_X8_init_733 n K1456 v0 s0 s1 (hsi h s1 (ix 76) 32)
  else none
set_option maxRecDepth 100000 in
set_option maxHeartbeats 4000000 in
theorem r_X8_init_727 {X : Nat → Int32} {d : Nat} (hd : 5 ≤ (d + 1)) {n : Nat} {K1456 : Nat → Hp → Option Hp} (HK1456 : ∀ (v0 : Nat) (h : Hp) (o : Hp), K1456 v0 h = some o → Run X (d + 1) 125 1456 [some (.ref v0), none] [] h (none, o)) {v0 : Nat} {s0 : Nat} {s1 : Nat} {h : Hp} {o : Hp} (hf : f_X8_init_727 n K1456 v0 s0 s1 h = some o) : Run X (d + 1) 125 727 [some (.ref v0), none] [.ref s1, .ref s0] h (none, o) := by
  unfold f_X8_init_727 at hf
  refine rs_dup i_X8_init_727 rfl ?_
  refine rs_bipush i_X8_init_728 (v := 76) (by decide) ?_
  refine rs_bipush i_X8_init_730 (v := 32) (by decide) ?_
  obtain ⟨c1, hf⟩ := ite_some hf
  refine rs_iast i_X8_init_732 c1 ?_
  exact r_X8_init_733 hd HK1456 hf
noncomputable def f_X8_init_721 (n : Nat) (K1456 : Nat → Hp → Option Hp) (v0 : Nat) (s0 : Nat) (s1 : Nat) (h : Hp) : Option Hp :=
  if okI h s1 75 then
  f_X8_init_727 n K1456 v0 s0 s1 (hsi h s1 (ix 75) 45)
  else none
set_option maxRecDepth 100000 in
set_option maxHeartbeats 4000000 in
theorem r_X8_init_721 {X : Nat → Int32} {d : Nat} (hd : 5 ≤ (d + 1)) {n : Nat} {K1456 : Nat → Hp → Option Hp} (HK1456 : ∀ (v0 : Nat) (h : Hp) (o : Hp), K1456 v0 h = some o → Run X (d + 1) 125 1456 [some (.ref v0), none] [] h (none, o)) {v0 : Nat} {s0 : Nat} {s1 : Nat} {h : Hp} {o : Hp} (hf : f_X8_init_721 n K1456 v0 s0 s1 h = some o) : Run X (d + 1) 125 721 [some (.ref v0), none] [.ref s1, .ref s0] h (none, o) := by
  unfold f_X8_init_721 at hf
  refine rs_dup i_X8_init_721 rfl ?_
  refine rs_bipush i_X8_init_722 (v := 75) (by decide) ?_
  refine rs_bipush i_X8_init_724 (v := 45) (by decide) ?_
  obtain ⟨c1, hf⟩ := ite_some hf
  refine rs_iast i_X8_init_726 c1 ?_
  exact r_X8_init_727 hd HK1456 hf
noncomputable def f_X8_init_715 (n : Nat) (K1456 : Nat → Hp → Option Hp) (v0 : Nat) (s0 : Nat) (s1 : Nat) (h : Hp) : Option Hp :=
  if okI h s1 74 then
  f_X8_init_721 n K1456 v0 s0 s1 (hsi h s1 (ix 74) 32)
  else none
set_option maxRecDepth 100000 in
set_option maxHeartbeats 4000000 in
theorem r_X8_init_715 {X : Nat → Int32} {d : Nat} (hd : 5 ≤ (d + 1)) {n : Nat} {K1456 : Nat → Hp → Option Hp} (HK1456 : ∀ (v0 : Nat) (h : Hp) (o : Hp), K1456 v0 h = some o → Run X (d + 1) 125 1456 [some (.ref v0), none] [] h (none, o)) {v0 : Nat} {s0 : Nat} {s1 : Nat} {h : Hp} {o : Hp} (hf : f_X8_init_715 n K1456 v0 s0 s1 h = some o) : Run X (d + 1) 125 715 [some (.ref v0), none] [.ref s1, .ref s0] h (none, o) := by
  unfold f_X8_init_715 at hf
  refine rs_dup i_X8_init_715 rfl ?_
  refine rs_bipush i_X8_init_716 (v := 74) (by decide) ?_
  refine rs_bipush i_X8_init_718 (v := 32) (by decide) ?_
  obtain ⟨c1, hf⟩ := ite_some hf
  refine rs_iast i_X8_init_720 c1 ?_
  exact r_X8_init_721 hd HK1456 hf
noncomputable def f_X8_init_709 (n : Nat) (K1456 : Nat → Hp → Option Hp) (v0 : Nat) (s0 : Nat) (s1 : Nat) (h : Hp) : Option Hp :=
  if okI h s1 73 then
  f_X8_init_715 n K1456 v0 s0 s1 (hsi h s1 (ix 73) 50)
  else none
set_option maxRecDepth 100000 in
set_option maxHeartbeats 4000000 in
theorem r_X8_init_709 {X : Nat → Int32} {d : Nat} (hd : 5 ≤ (d + 1)) {n : Nat} {K1456 : Nat → Hp → Option Hp} (HK1456 : ∀ (v0 : Nat) (h : Hp) (o : Hp), K1456 v0 h = some o → Run X (d + 1) 125 1456 [some (.ref v0), none] [] h (none, o)) {v0 : Nat} {s0 : Nat} {s1 : Nat} {h : Hp} {o : Hp} (hf : f_X8_init_709 n K1456 v0 s0 s1 h = some o) : Run X (d + 1) 125 709 [some (.ref v0), none] [.ref s1, .ref s0] h (none, o) := by
  unfold f_X8_init_709 at hf
  refine rs_dup i_X8_init_709 rfl ?_
  refine rs_bipush i_X8_init_710 (v := 73) (by decide) ?_
  refine rs_bipush i_X8_init_712 (v := 50) (by decide) ?_
  obtain ⟨c1, hf⟩ := ite_some hf
  refine rs_iast i_X8_init_714 c1 ?_
  exact r_X8_init_715 hd HK1456 hf
noncomputable def f_X8_init_703 (n : Nat) (K1456 : Nat → Hp → Option Hp) (v0 : Nat) (s0 : Nat) (s1 : Nat) (h : Hp) : Option Hp :=
  if okI h s1 72 then
  f_X8_init_709 n K1456 v0 s0 s1 (hsi h s1 (ix 72) 32)
  else none
set_option maxRecDepth 100000 in
set_option maxHeartbeats 4000000 in
theorem r_X8_init_703 {X : Nat → Int32} {d : Nat} (hd : 5 ≤ (d + 1)) {n : Nat} {K1456 : Nat → Hp → Option Hp} (HK1456 : ∀ (v0 : Nat) (h : Hp) (o : Hp), K1456 v0 h = some o → Run X (d + 1) 125 1456 [some (.ref v0), none] [] h (none, o)) {v0 : Nat} {s0 : Nat} {s1 : Nat} {h : Hp} {o : Hp} (hf : f_X8_init_703 n K1456 v0 s0 s1 h = some o) : Run X (d + 1) 125 703 [some (.ref v0), none] [.ref s1, .ref s0] h (none, o) := by
  unfold f_X8_init_703 at hf
  refine rs_dup i_X8_init_703 rfl ?_
  refine rs_bipush i_X8_init_704 (v := 72) (by decide) ?_
  refine rs_bipush i_X8_init_706 (v := 32) (by decide) ?_
  obtain ⟨c1, hf⟩ := ite_some hf
  refine rs_iast i_X8_init_708 c1 ?_
  exact r_X8_init_709 hd HK1456 hf
noncomputable def f_X8_init_697 (n : Nat) (K1456 : Nat → Hp → Option Hp) (v0 : Nat) (s0 : Nat) (s1 : Nat) (h : Hp) : Option Hp :=
  if okI h s1 71 then
  f_X8_init_703 n K1456 v0 s0 s1 (hsi h s1 (ix 71) 42)
  else none
set_option maxRecDepth 100000 in
set_option maxHeartbeats 4000000 in
theorem r_X8_init_697 {X : Nat → Int32} {d : Nat} (hd : 5 ≤ (d + 1)) {n : Nat} {K1456 : Nat → Hp → Option Hp} (HK1456 : ∀ (v0 : Nat) (h : Hp) (o : Hp), K1456 v0 h = some o → Run X (d + 1) 125 1456 [some (.ref v0), none] [] h (none, o)) {v0 : Nat} {s0 : Nat} {s1 : Nat} {h : Hp} {o : Hp} (hf : f_X8_init_697 n K1456 v0 s0 s1 h = some o) : Run X (d + 1) 125 697 [some (.ref v0), none] [.ref s1, .ref s0] h (none, o) := by
  unfold f_X8_init_697 at hf
  refine rs_dup i_X8_init_697 rfl ?_
  refine rs_bipush i_X8_init_698 (v := 71) (by decide) ?_
  refine rs_bipush i_X8_init_700 (v := 42) (by decide) ?_
  obtain ⟨c1, hf⟩ := ite_some hf
  refine rs_iast i_X8_init_702 c1 ?_
  exact r_X8_init_703 hd HK1456 hf
noncomputable def f_X8_init_691 (n : Nat) (K1456 : Nat → Hp → Option Hp) (v0 : Nat) (s0 : Nat) (s1 : Nat) (h : Hp) : Option Hp :=
  if okI h s1 70 then
  f_X8_init_697 n K1456 v0 s0 s1 (hsi h s1 (ix 70) 32)
  else none
set_option maxRecDepth 100000 in
set_option maxHeartbeats 4000000 in
theorem r_X8_init_691 {X : Nat → Int32} {d : Nat} (hd : 5 ≤ (d + 1)) {n : Nat} {K1456 : Nat → Hp → Option Hp} (HK1456 : ∀ (v0 : Nat) (h : Hp) (o : Hp), K1456 v0 h = some o → Run X (d + 1) 125 1456 [some (.ref v0), none] [] h (none, o)) {v0 : Nat} {s0 : Nat} {s1 : Nat} {h : Hp} {o : Hp} (hf : f_X8_init_691 n K1456 v0 s0 s1 h = some o) : Run X (d + 1) 125 691 [some (.ref v0), none] [.ref s1, .ref s0] h (none, o) := by
  unfold f_X8_init_691 at hf
  refine rs_dup i_X8_init_691 rfl ?_
  refine rs_bipush i_X8_init_692 (v := 70) (by decide) ?_
  refine rs_bipush i_X8_init_694 (v := 32) (by decide) ?_
  obtain ⟨c1, hf⟩ := ite_some hf
  refine rs_iast i_X8_init_696 c1 ?_
  exact r_X8_init_697 hd HK1456 hf
noncomputable def f_X8_init_685 (n : Nat) (K1456 : Nat → Hp → Option Hp) (v0 : Nat) (s0 : Nat) (s1 : Nat) (h : Hp) : Option Hp :=
  if okI h s1 69 then
  f_X8_init_691 n K1456 v0 s0 s1 (hsi h s1 (ix 69) 115)
  else none
set_option maxRecDepth 100000 in
set_option maxHeartbeats 4000000 in
theorem r_X8_init_685 {X : Nat → Int32} {d : Nat} (hd : 5 ≤ (d + 1)) {n : Nat} {K1456 : Nat → Hp → Option Hp} (HK1456 : ∀ (v0 : Nat) (h : Hp) (o : Hp), K1456 v0 h = some o → Run X (d + 1) 125 1456 [some (.ref v0), none] [] h (none, o)) {v0 : Nat} {s0 : Nat} {s1 : Nat} {h : Hp} {o : Hp} (hf : f_X8_init_685 n K1456 v0 s0 s1 h = some o) : Run X (d + 1) 125 685 [some (.ref v0), none] [.ref s1, .ref s0] h (none, o) := by
  unfold f_X8_init_685 at hf
  refine rs_dup i_X8_init_685 rfl ?_
  refine rs_bipush i_X8_init_686 (v := 69) (by decide) ?_
  refine rs_bipush i_X8_init_688 (v := 115) (by decide) ?_
  obtain ⟨c1, hf⟩ := ite_some hf
  refine rs_iast i_X8_init_690 c1 ?_
  exact r_X8_init_691 hd HK1456 hf
noncomputable def f_X8_init_679 (n : Nat) (K1456 : Nat → Hp → Option Hp) (v0 : Nat) (s0 : Nat) (s1 : Nat) (h : Hp) : Option Hp :=
  if okI h s1 68 then
  f_X8_init_685 n K1456 v0 s0 s1 (hsi h s1 (ix 68) 100)
  else none
set_option maxRecDepth 100000 in
set_option maxHeartbeats 4000000 in
theorem r_X8_init_679 {X : Nat → Int32} {d : Nat} (hd : 5 ≤ (d + 1)) {n : Nat} {K1456 : Nat → Hp → Option Hp} (HK1456 : ∀ (v0 : Nat) (h : Hp) (o : Hp), K1456 v0 h = some o → Run X (d + 1) 125 1456 [some (.ref v0), none] [] h (none, o)) {v0 : Nat} {s0 : Nat} {s1 : Nat} {h : Hp} {o : Hp} (hf : f_X8_init_679 n K1456 v0 s0 s1 h = some o) : Run X (d + 1) 125 679 [some (.ref v0), none] [.ref s1, .ref s0] h (none, o) := by
  unfold f_X8_init_679 at hf
  refine rs_dup i_X8_init_679 rfl ?_
  refine rs_bipush i_X8_init_680 (v := 68) (by decide) ?_
  refine rs_bipush i_X8_init_682 (v := 100) (by decide) ?_
  obtain ⟨c1, hf⟩ := ite_some hf
  refine rs_iast i_X8_init_684 c1 ?_
  exact r_X8_init_685 hd HK1456 hf
noncomputable def f_X8_init_673 (n : Nat) (K1456 : Nat → Hp → Option Hp) (v0 : Nat) (s0 : Nat) (s1 : Nat) (h : Hp) : Option Hp :=
  if okI h s1 67 then
  f_X8_init_679 n K1456 v0 s0 s1 (hsi h s1 (ix 67) 108)
  else none
set_option maxRecDepth 100000 in
set_option maxHeartbeats 4000000 in
theorem r_X8_init_673 {X : Nat → Int32} {d : Nat} (hd : 5 ≤ (d + 1)) {n : Nat} {K1456 : Nat → Hp → Option Hp} (HK1456 : ∀ (v0 : Nat) (h : Hp) (o : Hp), K1456 v0 h = some o → Run X (d + 1) 125 1456 [some (.ref v0), none] [] h (none, o)) {v0 : Nat} {s0 : Nat} {s1 : Nat} {h : Hp} {o : Hp} (hf : f_X8_init_673 n K1456 v0 s0 s1 h = some o) : Run X (d + 1) 125 673 [some (.ref v0), none] [.ref s1, .ref s0] h (none, o) := by
  unfold f_X8_init_673 at hf
  refine rs_dup i_X8_init_673 rfl ?_
  refine rs_bipush i_X8_init_674 (v := 67) (by decide) ?_
  refine rs_bipush i_X8_init_676 (v := 108) (by decide) ?_
  obtain ⟨c1, hf⟩ := ite_some hf
  refine rs_iast i_X8_init_678 c1 ?_
  exact r_X8_init_679 hd HK1456 hf
noncomputable def f_X8_init_667 (n : Nat) (K1456 : Nat → Hp → Option Hp) (v0 : Nat) (s0 : Nat) (s1 : Nat) (h : Hp) : Option Hp :=
  if okI h s1 66 then
  f_X8_init_673 n K1456 v0 s0 s1 (hsi h s1 (ix 66) 111)
  else none
set_option maxRecDepth 100000 in
set_option maxHeartbeats 4000000 in
theorem r_X8_init_667 {X : Nat → Int32} {d : Nat} (hd : 5 ≤ (d + 1)) {n : Nat} {K1456 : Nat → Hp → Option Hp} (HK1456 : ∀ (v0 : Nat) (h : Hp) (o : Hp), K1456 v0 h = some o → Run X (d + 1) 125 1456 [some (.ref v0), none] [] h (none, o)) {v0 : Nat} {s0 : Nat} {s1 : Nat} {h : Hp} {o : Hp} (hf : f_X8_init_667 n K1456 v0 s0 s1 h = some o) : Run X (d + 1) 125 667 [some (.ref v0), none] [.ref s1, .ref s0] h (none, o) := by
  unfold f_X8_init_667 at hf
  refine rs_dup i_X8_init_667 rfl ?_
  refine rs_bipush i_X8_init_668 (v := 66) (by decide) ?_
  refine rs_bipush i_X8_init_670 (v := 111) (by decide) ?_
  obtain ⟨c1, hf⟩ := ite_some hf
  refine rs_iast i_X8_init_672 c1 ?_
  exact r_X8_init_673 hd HK1456 hf
noncomputable def f_X8_init_661 (n : Nat) (K1456 : Nat → Hp → Option Hp) (v0 : Nat) (s0 : Nat) (s1 : Nat) (h : Hp) : Option Hp :=
  if okI h s1 65 then
  f_X8_init_667 n K1456 v0 s0 s1 (hsi h s1 (ix 65) 102)
  else none
set_option maxRecDepth 100000 in
set_option maxHeartbeats 4000000 in
theorem r_X8_init_661 {X : Nat → Int32} {d : Nat} (hd : 5 ≤ (d + 1)) {n : Nat} {K1456 : Nat → Hp → Option Hp} (HK1456 : ∀ (v0 : Nat) (h : Hp) (o : Hp), K1456 v0 h = some o → Run X (d + 1) 125 1456 [some (.ref v0), none] [] h (none, o)) {v0 : Nat} {s0 : Nat} {s1 : Nat} {h : Hp} {o : Hp} (hf : f_X8_init_661 n K1456 v0 s0 s1 h = some o) : Run X (d + 1) 125 661 [some (.ref v0), none] [.ref s1, .ref s0] h (none, o) := by
  unfold f_X8_init_661 at hf
  refine rs_dup i_X8_init_661 rfl ?_
  refine rs_bipush i_X8_init_662 (v := 65) (by decide) ?_
  refine rs_bipush i_X8_init_664 (v := 102) (by decide) ?_
  obtain ⟨c1, hf⟩ := ite_some hf
  refine rs_iast i_X8_init_666 c1 ?_
  exact r_X8_init_667 hd HK1456 hf
noncomputable def f_X8_init_655 (n : Nat) (K1456 : Nat → Hp → Option Hp) (v0 : Nat) (s0 : Nat) (s1 : Nat) (h : Hp) : Option Hp :=
  if okI h s1 64 then
  f_X8_init_661 n K1456 v0 s0 s1 (hsi h s1 (ix 64) 32)
  else none
set_option maxRecDepth 100000 in
set_option maxHeartbeats 4000000 in
theorem r_X8_init_655 {X : Nat → Int32} {d : Nat} (hd : 5 ≤ (d + 1)) {n : Nat} {K1456 : Nat → Hp → Option Hp} (HK1456 : ∀ (v0 : Nat) (h : Hp) (o : Hp), K1456 v0 h = some o → Run X (d + 1) 125 1456 [some (.ref v0), none] [] h (none, o)) {v0 : Nat} {s0 : Nat} {s1 : Nat} {h : Hp} {o : Hp} (hf : f_X8_init_655 n K1456 v0 s0 s1 h = some o) : Run X (d + 1) 125 655 [some (.ref v0), none] [.ref s1, .ref s0] h (none, o) := by
  unfold f_X8_init_655 at hf
  refine rs_dup i_X8_init_655 rfl ?_
  refine rs_bipush i_X8_init_656 (v := 64) (by decide) ?_
  refine rs_bipush i_X8_init_658 (v := 32) (by decide) ?_
  obtain ⟨c1, hf⟩ := ite_some hf
  refine rs_iast i_X8_init_660 c1 ?_
  exact r_X8_init_661 hd HK1456 hf
noncomputable def f_X8_init_649 (n : Nat) (K1456 : Nat → Hp → Option Hp) (v0 : Nat) (s0 : Nat) (s1 : Nat) (h : Hp) : Option Hp :=
  if okI h s1 63 then
  f_X8_init_655 n K1456 v0 s0 s1 (hsi h s1 (ix 63) 115)
  else none
set_option maxRecDepth 100000 in
set_option maxHeartbeats 4000000 in
theorem r_X8_init_649 {X : Nat → Int32} {d : Nat} (hd : 5 ≤ (d + 1)) {n : Nat} {K1456 : Nat → Hp → Option Hp} (HK1456 : ∀ (v0 : Nat) (h : Hp) (o : Hp), K1456 v0 h = some o → Run X (d + 1) 125 1456 [some (.ref v0), none] [] h (none, o)) {v0 : Nat} {s0 : Nat} {s1 : Nat} {h : Hp} {o : Hp} (hf : f_X8_init_649 n K1456 v0 s0 s1 h = some o) : Run X (d + 1) 125 649 [some (.ref v0), none] [.ref s1, .ref s0] h (none, o) := by
  unfold f_X8_init_649 at hf
  refine rs_dup i_X8_init_649 rfl ?_
  refine rs_bipush i_X8_init_650 (v := 63) (by decide) ?_
  refine rs_bipush i_X8_init_652 (v := 115) (by decide) ?_
  obtain ⟨c1, hf⟩ := ite_some hf
  refine rs_iast i_X8_init_654 c1 ?_
  exact r_X8_init_655 hd HK1456 hf
noncomputable def f_X8_init_643 (n : Nat) (K1456 : Nat → Hp → Option Hp) (v0 : Nat) (s0 : Nat) (s1 : Nat) (h : Hp) : Option Hp :=
  if okI h s1 62 then
  f_X8_init_649 n K1456 v0 s0 s1 (hsi h s1 (ix 62) 107)
  else none
set_option maxRecDepth 100000 in
set_option maxHeartbeats 4000000 in
theorem r_X8_init_643 {X : Nat → Int32} {d : Nat} (hd : 5 ≤ (d + 1)) {n : Nat} {K1456 : Nat → Hp → Option Hp} (HK1456 : ∀ (v0 : Nat) (h : Hp) (o : Hp), K1456 v0 h = some o → Run X (d + 1) 125 1456 [some (.ref v0), none] [] h (none, o)) {v0 : Nat} {s0 : Nat} {s1 : Nat} {h : Hp} {o : Hp} (hf : f_X8_init_643 n K1456 v0 s0 s1 h = some o) : Run X (d + 1) 125 643 [some (.ref v0), none] [.ref s1, .ref s0] h (none, o) := by
  unfold f_X8_init_643 at hf
  refine rs_dup i_X8_init_643 rfl ?_
  refine rs_bipush i_X8_init_644 (v := 62) (by decide) ?_
  refine rs_bipush i_X8_init_646 (v := 107) (by decide) ?_
  obtain ⟨c1, hf⟩ := ite_some hf
  refine rs_iast i_X8_init_648 c1 ?_
  exact r_X8_init_649 hd HK1456 hf
noncomputable def f_X8_init_637 (n : Nat) (K1456 : Nat → Hp → Option Hp) (v0 : Nat) (s0 : Nat) (s1 : Nat) (h : Hp) : Option Hp :=
  if okI h s1 61 then
  f_X8_init_643 n K1456 v0 s0 s1 (hsi h s1 (ix 61) 99)
  else none
set_option maxRecDepth 100000 in
set_option maxHeartbeats 4000000 in
theorem r_X8_init_637 {X : Nat → Int32} {d : Nat} (hd : 5 ≤ (d + 1)) {n : Nat} {K1456 : Nat → Hp → Option Hp} (HK1456 : ∀ (v0 : Nat) (h : Hp) (o : Hp), K1456 v0 h = some o → Run X (d + 1) 125 1456 [some (.ref v0), none] [] h (none, o)) {v0 : Nat} {s0 : Nat} {s1 : Nat} {h : Hp} {o : Hp} (hf : f_X8_init_637 n K1456 v0 s0 s1 h = some o) : Run X (d + 1) 125 637 [some (.ref v0), none] [.ref s1, .ref s0] h (none, o) := by
  unfold f_X8_init_637 at hf
  refine rs_dup i_X8_init_637 rfl ?_
  refine rs_bipush i_X8_init_638 (v := 61) (by decide) ?_
  refine rs_bipush i_X8_init_640 (v := 99) (by decide) ?_
  obtain ⟨c1, hf⟩ := ite_some hf
  refine rs_iast i_X8_init_642 c1 ?_
  exact r_X8_init_643 hd HK1456 hf
noncomputable def f_X8_init_631 (n : Nat) (K1456 : Nat → Hp → Option Hp) (v0 : Nat) (s0 : Nat) (s1 : Nat) (h : Hp) : Option Hp :=
  if okI h s1 60 then
  f_X8_init_637 n K1456 v0 s0 s1 (hsi h s1 (ix 60) 105)
  else none
set_option maxRecDepth 100000 in
set_option maxHeartbeats 4000000 in
theorem r_X8_init_631 {X : Nat → Int32} {d : Nat} (hd : 5 ≤ (d + 1)) {n : Nat} {K1456 : Nat → Hp → Option Hp} (HK1456 : ∀ (v0 : Nat) (h : Hp) (o : Hp), K1456 v0 h = some o → Run X (d + 1) 125 1456 [some (.ref v0), none] [] h (none, o)) {v0 : Nat} {s0 : Nat} {s1 : Nat} {h : Hp} {o : Hp} (hf : f_X8_init_631 n K1456 v0 s0 s1 h = some o) : Run X (d + 1) 125 631 [some (.ref v0), none] [.ref s1, .ref s0] h (none, o) := by
  unfold f_X8_init_631 at hf
  refine rs_dup i_X8_init_631 rfl ?_
  refine rs_bipush i_X8_init_632 (v := 60) (by decide) ?_
  refine rs_bipush i_X8_init_634 (v := 105) (by decide) ?_
  obtain ⟨c1, hf⟩ := ite_some hf
  refine rs_iast i_X8_init_636 c1 ?_
  exact r_X8_init_637 hd HK1456 hf
noncomputable def f_X8_init_625 (n : Nat) (K1456 : Nat → Hp → Option Hp) (v0 : Nat) (s0 : Nat) (s1 : Nat) (h : Hp) : Option Hp :=
  if okI h s1 59 then
  f_X8_init_631 n K1456 v0 s0 s1 (hsi h s1 (ix 59) 116)
  else none
set_option maxRecDepth 100000 in
set_option maxHeartbeats 4000000 in
theorem r_X8_init_625 {X : Nat → Int32} {d : Nat} (hd : 5 ≤ (d + 1)) {n : Nat} {K1456 : Nat → Hp → Option Hp} (HK1456 : ∀ (v0 : Nat) (h : Hp) (o : Hp), K1456 v0 h = some o → Run X (d + 1) 125 1456 [some (.ref v0), none] [] h (none, o)) {v0 : Nat} {s0 : Nat} {s1 : Nat} {h : Hp} {o : Hp} (hf : f_X8_init_625 n K1456 v0 s0 s1 h = some o) : Run X (d + 1) 125 625 [some (.ref v0), none] [.ref s1, .ref s0] h (none, o) := by
  unfold f_X8_init_625 at hf
  refine rs_dup i_X8_init_625 rfl ?_
  refine rs_bipush i_X8_init_626 (v := 59) (by decide) ?_
  refine rs_bipush i_X8_init_628 (v := 116) (by decide) ?_
  obtain ⟨c1, hf⟩ := ite_some hf
  refine rs_iast i_X8_init_630 c1 ?_
  exact r_X8_init_631 hd HK1456 hf
noncomputable def f_X8_init_619 (n : Nat) (K1456 : Nat → Hp → Option Hp) (v0 : Nat) (s0 : Nat) (s1 : Nat) (h : Hp) : Option Hp :=
  if okI h s1 58 then
  f_X8_init_625 n K1456 v0 s0 s1 (hsi h s1 (ix 58) 115)
  else none
set_option maxRecDepth 100000 in
set_option maxHeartbeats 4000000 in
theorem r_X8_init_619 {X : Nat → Int32} {d : Nat} (hd : 5 ≤ (d + 1)) {n : Nat} {K1456 : Nat → Hp → Option Hp} (HK1456 : ∀ (v0 : Nat) (h : Hp) (o : Hp), K1456 v0 h = some o → Run X (d + 1) 125 1456 [some (.ref v0), none] [] h (none, o)) {v0 : Nat} {s0 : Nat} {s1 : Nat} {h : Hp} {o : Hp} (hf : f_X8_init_619 n K1456 v0 s0 s1 h = some o) : Run X (d + 1) 125 619 [some (.ref v0), none] [.ref s1, .ref s0] h (none, o) := by
  unfold f_X8_init_619 at hf
  refine rs_dup i_X8_init_619 rfl ?_
  refine rs_bipush i_X8_init_620 (v := 58) (by decide) ?_
  refine rs_bipush i_X8_init_622 (v := 115) (by decide) ?_
  obtain ⟨c1, hf⟩ := ite_some hf
  refine rs_iast i_X8_init_624 c1 ?_
  exact r_X8_init_625 hd HK1456 hf
noncomputable def f_X8_init_613 (n : Nat) (K1456 : Nat → Hp → Option Hp) (v0 : Nat) (s0 : Nat) (s1 : Nat) (h : Hp) : Option Hp :=
  if okI h s1 57 then
  f_X8_init_619 n K1456 v0 s0 s1 (hsi h s1 (ix 57) 32)
  else none
set_option maxRecDepth 100000 in
set_option maxHeartbeats 4000000 in
theorem r_X8_init_613 {X : Nat → Int32} {d : Nat} (hd : 5 ≤ (d + 1)) {n : Nat} {K1456 : Nat → Hp → Option Hp} (HK1456 : ∀ (v0 : Nat) (h : Hp) (o : Hp), K1456 v0 h = some o → Run X (d + 1) 125 1456 [some (.ref v0), none] [] h (none, o)) {v0 : Nat} {s0 : Nat} {s1 : Nat} {h : Hp} {o : Hp} (hf : f_X8_init_613 n K1456 v0 s0 s1 h = some o) : Run X (d + 1) 125 613 [some (.ref v0), none] [.ref s1, .ref s0] h (none, o) := by
  unfold f_X8_init_613 at hf
  refine rs_dup i_X8_init_613 rfl ?_
  refine rs_bipush i_X8_init_614 (v := 57) (by decide) ?_
  refine rs_bipush i_X8_init_616 (v := 32) (by decide) ?_
  obtain ⟨c1, hf⟩ := ite_some hf
  refine rs_iast i_X8_init_618 c1 ?_
  exact r_X8_init_619 hd HK1456 hf
noncomputable def f_X8_init_607 (n : Nat) (K1456 : Nat → Hp → Option Hp) (v0 : Nat) (s0 : Nat) (s1 : Nat) (h : Hp) : Option Hp :=
  if okI h s1 56 then
  f_X8_init_613 n K1456 v0 s0 s1 (hsi h s1 (ix 56) 59)
  else none
set_option maxRecDepth 100000 in
set_option maxHeartbeats 4000000 in
theorem r_X8_init_607 {X : Nat → Int32} {d : Nat} (hd : 5 ≤ (d + 1)) {n : Nat} {K1456 : Nat → Hp → Option Hp} (HK1456 : ∀ (v0 : Nat) (h : Hp) (o : Hp), K1456 v0 h = some o → Run X (d + 1) 125 1456 [some (.ref v0), none] [] h (none, o)) {v0 : Nat} {s0 : Nat} {s1 : Nat} {h : Hp} {o : Hp} (hf : f_X8_init_607 n K1456 v0 s0 s1 h = some o) : Run X (d + 1) 125 607 [some (.ref v0), none] [.ref s1, .ref s0] h (none, o) := by
  unfold f_X8_init_607 at hf
  refine rs_dup i_X8_init_607 rfl ?_
  refine rs_bipush i_X8_init_608 (v := 56) (by decide) ?_
  refine rs_bipush i_X8_init_610 (v := 59) (by decide) ?_
  obtain ⟨c1, hf⟩ := ite_some hf
  refine rs_iast i_X8_init_612 c1 ?_
  exact r_X8_init_613 hd HK1456 hf
noncomputable def f_X8_init_601 (n : Nat) (K1456 : Nat → Hp → Option Hp) (v0 : Nat) (s0 : Nat) (s1 : Nat) (h : Hp) : Option Hp :=
  if okI h s1 55 then
  f_X8_init_607 n K1456 v0 s0 s1 (hsi h s1 (ix 55) 32)
  else none
set_option maxRecDepth 100000 in
set_option maxHeartbeats 4000000 in
theorem r_X8_init_601 {X : Nat → Int32} {d : Nat} (hd : 5 ≤ (d + 1)) {n : Nat} {K1456 : Nat → Hp → Option Hp} (HK1456 : ∀ (v0 : Nat) (h : Hp) (o : Hp), K1456 v0 h = some o → Run X (d + 1) 125 1456 [some (.ref v0), none] [] h (none, o)) {v0 : Nat} {s0 : Nat} {s1 : Nat} {h : Hp} {o : Hp} (hf : f_X8_init_601 n K1456 v0 s0 s1 h = some o) : Run X (d + 1) 125 601 [some (.ref v0), none] [.ref s1, .ref s0] h (none, o) := by
  unfold f_X8_init_601 at hf
  refine rs_dup i_X8_init_601 rfl ?_
  refine rs_bipush i_X8_init_602 (v := 55) (by decide) ?_
  refine rs_bipush i_X8_init_604 (v := 32) (by decide) ?_
  obtain ⟨c1, hf⟩ := ite_some hf
  refine rs_iast i_X8_init_606 c1 ?_
  exact r_X8_init_607 hd HK1456 hf
noncomputable def f_X8_init_595 (n : Nat) (K1456 : Nat → Hp → Option Hp) (v0 : Nat) (s0 : Nat) (s1 : Nat) (h : Hp) : Option Hp :=
  if okI h s1 54 then
  f_X8_init_601 n K1456 v0 s0 s1 (hsi h s1 (ix 54) 107)
  else none
set_option maxRecDepth 100000 in
set_option maxHeartbeats 4000000 in
theorem r_X8_init_595 {X : Nat → Int32} {d : Nat} (hd : 5 ≤ (d + 1)) {n : Nat} {K1456 : Nat → Hp → Option Hp} (HK1456 : ∀ (v0 : Nat) (h : Hp) (o : Hp), K1456 v0 h = some o → Run X (d + 1) 125 1456 [some (.ref v0), none] [] h (none, o)) {v0 : Nat} {s0 : Nat} {s1 : Nat} {h : Hp} {o : Hp} (hf : f_X8_init_595 n K1456 v0 s0 s1 h = some o) : Run X (d + 1) 125 595 [some (.ref v0), none] [.ref s1, .ref s0] h (none, o) := by
  unfold f_X8_init_595 at hf
  refine rs_dup i_X8_init_595 rfl ?_
  refine rs_bipush i_X8_init_596 (v := 54) (by decide) ?_
  refine rs_bipush i_X8_init_598 (v := 107) (by decide) ?_
  obtain ⟨c1, hf⟩ := ite_some hf
  refine rs_iast i_X8_init_600 c1 ?_
  exact r_X8_init_601 hd HK1456 hf
noncomputable def f_X8_init_589 (n : Nat) (K1456 : Nat → Hp → Option Hp) (v0 : Nat) (s0 : Nat) (s1 : Nat) (h : Hp) : Option Hp :=
  if okI h s1 53 then
  f_X8_init_595 n K1456 v0 s0 s1 (hsi h s1 (ix 53) 99)
  else none
set_option maxRecDepth 100000 in
set_option maxHeartbeats 4000000 in
theorem r_X8_init_589 {X : Nat → Int32} {d : Nat} (hd : 5 ≤ (d + 1)) {n : Nat} {K1456 : Nat → Hp → Option Hp} (HK1456 : ∀ (v0 : Nat) (h : Hp) (o : Hp), K1456 v0 h = some o → Run X (d + 1) 125 1456 [some (.ref v0), none] [] h (none, o)) {v0 : Nat} {s0 : Nat} {s1 : Nat} {h : Hp} {o : Hp} (hf : f_X8_init_589 n K1456 v0 s0 s1 h = some o) : Run X (d + 1) 125 589 [some (.ref v0), none] [.ref s1, .ref s0] h (none, o) := by
  unfold f_X8_init_589 at hf
  refine rs_dup i_X8_init_589 rfl ?_
  refine rs_bipush i_X8_init_590 (v := 53) (by decide) ?_
  refine rs_bipush i_X8_init_592 (v := 99) (by decide) ?_
  obtain ⟨c1, hf⟩ := ite_some hf
  refine rs_iast i_X8_init_594 c1 ?_
  exact r_X8_init_595 hd HK1456 hf
noncomputable def f_X8_init_583 (n : Nat) (K1456 : Nat → Hp → Option Hp) (v0 : Nat) (s0 : Nat) (s1 : Nat) (h : Hp) : Option Hp :=
  if okI h s1 52 then
  f_X8_init_589 n K1456 v0 s0 s1 (hsi h s1 (ix 52) 105)
  else none
set_option maxRecDepth 100000 in
set_option maxHeartbeats 4000000 in
theorem r_X8_init_583 {X : Nat → Int32} {d : Nat} (hd : 5 ≤ (d + 1)) {n : Nat} {K1456 : Nat → Hp → Option Hp} (HK1456 : ∀ (v0 : Nat) (h : Hp) (o : Hp), K1456 v0 h = some o → Run X (d + 1) 125 1456 [some (.ref v0), none] [] h (none, o)) {v0 : Nat} {s0 : Nat} {s1 : Nat} {h : Hp} {o : Hp} (hf : f_X8_init_583 n K1456 v0 s0 s1 h = some o) : Run X (d + 1) 125 583 [some (.ref v0), none] [.ref s1, .ref s0] h (none, o) := by
  unfold f_X8_init_583 at hf
  refine rs_dup i_X8_init_583 rfl ?_
  refine rs_bipush i_X8_init_584 (v := 52) (by decide) ?_
  refine rs_bipush i_X8_init_586 (v := 105) (by decide) ?_
  obtain ⟨c1, hf⟩ := ite_some hf
  refine rs_iast i_X8_init_588 c1 ?_
  exact r_X8_init_589 hd HK1456 hf
noncomputable def f_X8_init_577 (n : Nat) (K1456 : Nat → Hp → Option Hp) (v0 : Nat) (s0 : Nat) (s1 : Nat) (h : Hp) : Option Hp :=
  if okI h s1 51 then
  f_X8_init_583 n K1456 v0 s0 s1 (hsi h s1 (ix 51) 104)
  else none
set_option maxRecDepth 100000 in
set_option maxHeartbeats 4000000 in
theorem r_X8_init_577 {X : Nat → Int32} {d : Nat} (hd : 5 ≤ (d + 1)) {n : Nat} {K1456 : Nat → Hp → Option Hp} (HK1456 : ∀ (v0 : Nat) (h : Hp) (o : Hp), K1456 v0 h = some o → Run X (d + 1) 125 1456 [some (.ref v0), none] [] h (none, o)) {v0 : Nat} {s0 : Nat} {s1 : Nat} {h : Hp} {o : Hp} (hf : f_X8_init_577 n K1456 v0 s0 s1 h = some o) : Run X (d + 1) 125 577 [some (.ref v0), none] [.ref s1, .ref s0] h (none, o) := by
  unfold f_X8_init_577 at hf
  refine rs_dup i_X8_init_577 rfl ?_
  refine rs_bipush i_X8_init_578 (v := 51) (by decide) ?_
  refine rs_bipush i_X8_init_580 (v := 104) (by decide) ?_
  obtain ⟨c1, hf⟩ := ite_some hf
  refine rs_iast i_X8_init_582 c1 ?_
  exact r_X8_init_583 hd HK1456 hf
noncomputable def f_X8_init_571 (n : Nat) (K1456 : Nat → Hp → Option Hp) (v0 : Nat) (s0 : Nat) (s1 : Nat) (h : Hp) : Option Hp :=
  if okI h s1 50 then
  f_X8_init_577 n K1456 v0 s0 s1 (hsi h s1 (ix 50) 116)
  else none
set_option maxRecDepth 100000 in
set_option maxHeartbeats 4000000 in
theorem r_X8_init_571 {X : Nat → Int32} {d : Nat} (hd : 5 ≤ (d + 1)) {n : Nat} {K1456 : Nat → Hp → Option Hp} (HK1456 : ∀ (v0 : Nat) (h : Hp) (o : Hp), K1456 v0 h = some o → Run X (d + 1) 125 1456 [some (.ref v0), none] [] h (none, o)) {v0 : Nat} {s0 : Nat} {s1 : Nat} {h : Hp} {o : Hp} (hf : f_X8_init_571 n K1456 v0 s0 s1 h = some o) : Run X (d + 1) 125 571 [some (.ref v0), none] [.ref s1, .ref s0] h (none, o) := by
  unfold f_X8_init_571 at hf
  refine rs_dup i_X8_init_571 rfl ?_
  refine rs_bipush i_X8_init_572 (v := 50) (by decide) ?_
  refine rs_bipush i_X8_init_574 (v := 116) (by decide) ?_
  obtain ⟨c1, hf⟩ := ite_some hf
  refine rs_iast i_X8_init_576 c1 ?_
  exact r_X8_init_577 hd HK1456 hf
noncomputable def f_X8_init_565 (n : Nat) (K1456 : Nat → Hp → Option Hp) (v0 : Nat) (s0 : Nat) (s1 : Nat) (h : Hp) : Option Hp :=
  if okI h s1 49 then
  f_X8_init_571 n K1456 v0 s0 s1 (hsi h s1 (ix 49) 32)
  else none
set_option maxRecDepth 100000 in
set_option maxHeartbeats 4000000 in
theorem r_X8_init_565 {X : Nat → Int32} {d : Nat} (hd : 5 ≤ (d + 1)) {n : Nat} {K1456 : Nat → Hp → Option Hp} (HK1456 : ∀ (v0 : Nat) (h : Hp) (o : Hp), K1456 v0 h = some o → Run X (d + 1) 125 1456 [some (.ref v0), none] [] h (none, o)) {v0 : Nat} {s0 : Nat} {s1 : Nat} {h : Hp} {o : Hp} (hf : f_X8_init_565 n K1456 v0 s0 s1 h = some o) : Run X (d + 1) 125 565 [some (.ref v0), none] [.ref s1, .ref s0] h (none, o) := by
  unfold f_X8_init_565 at hf
  refine rs_dup i_X8_init_565 rfl ?_
  refine rs_bipush i_X8_init_566 (v := 49) (by decide) ?_
  refine rs_bipush i_X8_init_568 (v := 32) (by decide) ?_
  obtain ⟨c1, hf⟩ := ite_some hf
  refine rs_iast i_X8_init_570 c1 ?_
  exact r_X8_init_571 hd HK1456 hf
noncomputable def f_X8_init_559 (n : Nat) (K1456 : Nat → Hp → Option Hp) (v0 : Nat) (s0 : Nat) (s1 : Nat) (h : Hp) : Option Hp :=
  if okI h s1 48 then
  f_X8_init_565 n K1456 v0 s0 s1 (hsi h s1 (ix 48) 45)
  else none
set_option maxRecDepth 100000 in
set_option maxHeartbeats 4000000 in
theorem r_X8_init_559 {X : Nat → Int32} {d : Nat} (hd : 5 ≤ (d + 1)) {n : Nat} {K1456 : Nat → Hp → Option Hp} (HK1456 : ∀ (v0 : Nat) (h : Hp) (o : Hp), K1456 v0 h = some o → Run X (d + 1) 125 1456 [some (.ref v0), none] [] h (none, o)) {v0 : Nat} {s0 : Nat} {s1 : Nat} {h : Hp} {o : Hp} (hf : f_X8_init_559 n K1456 v0 s0 s1 h = some o) : Run X (d + 1) 125 559 [some (.ref v0), none] [.ref s1, .ref s0] h (none, o) := by
  unfold f_X8_init_559 at hf
  refine rs_dup i_X8_init_559 rfl ?_
  refine rs_bipush i_X8_init_560 (v := 48) (by decide) ?_
  refine rs_bipush i_X8_init_562 (v := 45) (by decide) ?_
  obtain ⟨c1, hf⟩ := ite_some hf
  refine rs_iast i_X8_init_564 c1 ?_
  exact r_X8_init_565 hd HK1456 hf
noncomputable def f_X8_init_553 (n : Nat) (K1456 : Nat → Hp → Option Hp) (v0 : Nat) (s0 : Nat) (s1 : Nat) (h : Hp) : Option Hp :=
  if okI h s1 47 then
  f_X8_init_559 n K1456 v0 s0 s1 (hsi h s1 (ix 47) 32)
  else none
set_option maxRecDepth 100000 in
set_option maxHeartbeats 4000000 in
theorem r_X8_init_553 {X : Nat → Int32} {d : Nat} (hd : 5 ≤ (d + 1)) {n : Nat} {K1456 : Nat → Hp → Option Hp} (HK1456 : ∀ (v0 : Nat) (h : Hp) (o : Hp), K1456 v0 h = some o → Run X (d + 1) 125 1456 [some (.ref v0), none] [] h (none, o)) {v0 : Nat} {s0 : Nat} {s1 : Nat} {h : Hp} {o : Hp} (hf : f_X8_init_553 n K1456 v0 s0 s1 h = some o) : Run X (d + 1) 125 553 [some (.ref v0), none] [.ref s1, .ref s0] h (none, o) := by
  unfold f_X8_init_553 at hf
  refine rs_dup i_X8_init_553 rfl ?_
  refine rs_bipush i_X8_init_554 (v := 47) (by decide) ?_
  refine rs_bipush i_X8_init_556 (v := 32) (by decide) ?_
  obtain ⟨c1, hf⟩ := ite_some hf
  refine rs_iast i_X8_init_558 c1 ?_
  exact r_X8_init_559 hd HK1456 hf
noncomputable def f_X8_init_547 (n : Nat) (K1456 : Nat → Hp → Option Hp) (v0 : Nat) (s0 : Nat) (s1 : Nat) (h : Hp) : Option Hp :=
  if okI h s1 46 then
  f_X8_init_553 n K1456 v0 s0 s1 (hsi h s1 (ix 46) 57)
  else none
set_option maxRecDepth 100000 in
set_option maxHeartbeats 4000000 in
theorem r_X8_init_547 {X : Nat → Int32} {d : Nat} (hd : 5 ≤ (d + 1)) {n : Nat} {K1456 : Nat → Hp → Option Hp} (HK1456 : ∀ (v0 : Nat) (h : Hp) (o : Hp), K1456 v0 h = some o → Run X (d + 1) 125 1456 [some (.ref v0), none] [] h (none, o)) {v0 : Nat} {s0 : Nat} {s1 : Nat} {h : Hp} {o : Hp} (hf : f_X8_init_547 n K1456 v0 s0 s1 h = some o) : Run X (d + 1) 125 547 [some (.ref v0), none] [.ref s1, .ref s0] h (none, o) := by
  unfold f_X8_init_547 at hf
  refine rs_dup i_X8_init_547 rfl ?_
  refine rs_bipush i_X8_init_548 (v := 46) (by decide) ?_
  refine rs_bipush i_X8_init_550 (v := 57) (by decide) ?_
  obtain ⟨c1, hf⟩ := ite_some hf
  refine rs_iast i_X8_init_552 c1 ?_
  exact r_X8_init_553 hd HK1456 hf
noncomputable def f_X8_init_541 (n : Nat) (K1456 : Nat → Hp → Option Hp) (v0 : Nat) (s0 : Nat) (s1 : Nat) (h : Hp) : Option Hp :=
  if okI h s1 45 then
  f_X8_init_547 n K1456 v0 s0 s1 (hsi h s1 (ix 45) 32)
  else none
set_option maxRecDepth 100000 in
set_option maxHeartbeats 4000000 in
theorem r_X8_init_541 {X : Nat → Int32} {d : Nat} (hd : 5 ≤ (d + 1)) {n : Nat} {K1456 : Nat → Hp → Option Hp} (HK1456 : ∀ (v0 : Nat) (h : Hp) (o : Hp), K1456 v0 h = some o → Run X (d + 1) 125 1456 [some (.ref v0), none] [] h (none, o)) {v0 : Nat} {s0 : Nat} {s1 : Nat} {h : Hp} {o : Hp} (hf : f_X8_init_541 n K1456 v0 s0 s1 h = some o) : Run X (d + 1) 125 541 [some (.ref v0), none] [.ref s1, .ref s0] h (none, o) := by
  unfold f_X8_init_541 at hf
  refine rs_dup i_X8_init_541 rfl ?_
  refine rs_bipush i_X8_init_542 (v := 45) (by decide) ?_
  refine rs_bipush i_X8_init_544 (v := 32) (by decide) ?_
  obtain ⟨c1, hf⟩ := ite_some hf
  refine rs_iast i_X8_init_546 c1 ?_
  exact r_X8_init_547 hd HK1456 hf
noncomputable def f_X8_init_535 (n : Nat) (K1456 : Nat → Hp → Option Hp) (v0 : Nat) (s0 : Nat) (s1 : Nat) (h : Hp) : Option Hp :=
  if okI h s1 44 then
  f_X8_init_541 n K1456 v0 s0 s1 (hsi h s1 (ix 44) 42)
  else none
set_option maxRecDepth 100000 in
set_option maxHeartbeats 4000000 in
theorem r_X8_init_535 {X : Nat → Int32} {d : Nat} (hd : 5 ≤ (d + 1)) {n : Nat} {K1456 : Nat → Hp → Option Hp} (HK1456 : ∀ (v0 : Nat) (h : Hp) (o : Hp), K1456 v0 h = some o → Run X (d + 1) 125 1456 [some (.ref v0), none] [] h (none, o)) {v0 : Nat} {s0 : Nat} {s1 : Nat} {h : Hp} {o : Hp} (hf : f_X8_init_535 n K1456 v0 s0 s1 h = some o) : Run X (d + 1) 125 535 [some (.ref v0), none] [.ref s1, .ref s0] h (none, o) := by
  unfold f_X8_init_535 at hf
  refine rs_dup i_X8_init_535 rfl ?_
  refine rs_bipush i_X8_init_536 (v := 44) (by decide) ?_
  refine rs_bipush i_X8_init_538 (v := 42) (by decide) ?_
  obtain ⟨c1, hf⟩ := ite_some hf
  refine rs_iast i_X8_init_540 c1 ?_
  exact r_X8_init_541 hd HK1456 hf
noncomputable def f_X8_init_529 (n : Nat) (K1456 : Nat → Hp → Option Hp) (v0 : Nat) (s0 : Nat) (s1 : Nat) (h : Hp) : Option Hp :=
  if okI h s1 43 then
  f_X8_init_535 n K1456 v0 s0 s1 (hsi h s1 (ix 43) 32)
  else none
set_option maxRecDepth 100000 in
set_option maxHeartbeats 4000000 in
theorem r_X8_init_529 {X : Nat → Int32} {d : Nat} (hd : 5 ≤ (d + 1)) {n : Nat} {K1456 : Nat → Hp → Option Hp} (HK1456 : ∀ (v0 : Nat) (h : Hp) (o : Hp), K1456 v0 h = some o → Run X (d + 1) 125 1456 [some (.ref v0), none] [] h (none, o)) {v0 : Nat} {s0 : Nat} {s1 : Nat} {h : Hp} {o : Hp} (hf : f_X8_init_529 n K1456 v0 s0 s1 h = some o) : Run X (d + 1) 125 529 [some (.ref v0), none] [.ref s1, .ref s0] h (none, o) := by
  unfold f_X8_init_529 at hf
  refine rs_dup i_X8_init_529 rfl ?_
  refine rs_bipush i_X8_init_530 (v := 43) (by decide) ?_
  refine rs_bipush i_X8_init_532 (v := 32) (by decide) ?_
  obtain ⟨c1, hf⟩ := ite_some hf
  refine rs_iast i_X8_init_534 c1 ?_
  exact r_X8_init_535 hd HK1456 hf
noncomputable def f_X8_init_523 (n : Nat) (K1456 : Nat → Hp → Option Hp) (v0 : Nat) (s0 : Nat) (s1 : Nat) (h : Hp) : Option Hp :=
  if okI h s1 42 then
  f_X8_init_529 n K1456 v0 s0 s1 (hsi h s1 (ix 42) 101)
  else none
set_option maxRecDepth 100000 in
set_option maxHeartbeats 4000000 in
theorem r_X8_init_523 {X : Nat → Int32} {d : Nat} (hd : 5 ≤ (d + 1)) {n : Nat} {K1456 : Nat → Hp → Option Hp} (HK1456 : ∀ (v0 : Nat) (h : Hp) (o : Hp), K1456 v0 h = some o → Run X (d + 1) 125 1456 [some (.ref v0), none] [] h (none, o)) {v0 : Nat} {s0 : Nat} {s1 : Nat} {h : Hp} {o : Hp} (hf : f_X8_init_523 n K1456 v0 s0 s1 h = some o) : Run X (d + 1) 125 523 [some (.ref v0), none] [.ref s1, .ref s0] h (none, o) := by
  unfold f_X8_init_523 at hf
  refine rs_dup i_X8_init_523 rfl ?_
  refine rs_bipush i_X8_init_524 (v := 42) (by decide) ?_
  refine rs_bipush i_X8_init_526 (v := 101) (by decide) ?_
  obtain ⟨c1, hf⟩ := ite_some hf
  refine rs_iast i_X8_init_528 c1 ?_
  exact r_X8_init_529 hd HK1456 hf
noncomputable def f_X8_init_517 (n : Nat) (K1456 : Nat → Hp → Option Hp) (v0 : Nat) (s0 : Nat) (s1 : Nat) (h : Hp) : Option Hp :=
  if okI h s1 41 then
  f_X8_init_523 n K1456 v0 s0 s1 (hsi h s1 (ix 41) 99)
  else none
set_option maxRecDepth 100000 in
set_option maxHeartbeats 4000000 in
theorem r_X8_init_517 {X : Nat → Int32} {d : Nat} (hd : 5 ≤ (d + 1)) {n : Nat} {K1456 : Nat → Hp → Option Hp} (HK1456 : ∀ (v0 : Nat) (h : Hp) (o : Hp), K1456 v0 h = some o → Run X (d + 1) 125 1456 [some (.ref v0), none] [] h (none, o)) {v0 : Nat} {s0 : Nat} {s1 : Nat} {h : Hp} {o : Hp} (hf : f_X8_init_517 n K1456 v0 s0 s1 h = some o) : Run X (d + 1) 125 517 [some (.ref v0), none] [.ref s1, .ref s0] h (none, o) := by
  unfold f_X8_init_517 at hf
  refine rs_dup i_X8_init_517 rfl ?_
  refine rs_bipush i_X8_init_518 (v := 41) (by decide) ?_
  refine rs_bipush i_X8_init_520 (v := 99) (by decide) ?_
  obtain ⟨c1, hf⟩ := ite_some hf
  refine rs_iast i_X8_init_522 c1 ?_
  exact r_X8_init_523 hd HK1456 hf
noncomputable def f_X8_init_511 (n : Nat) (K1456 : Nat → Hp → Option Hp) (v0 : Nat) (s0 : Nat) (s1 : Nat) (h : Hp) : Option Hp :=
  if okI h s1 40 then
  f_X8_init_517 n K1456 v0 s0 s1 (hsi h s1 (ix 40) 97)
  else none
set_option maxRecDepth 100000 in
set_option maxHeartbeats 4000000 in
theorem r_X8_init_511 {X : Nat → Int32} {d : Nat} (hd : 5 ≤ (d + 1)) {n : Nat} {K1456 : Nat → Hp → Option Hp} (HK1456 : ∀ (v0 : Nat) (h : Hp) (o : Hp), K1456 v0 h = some o → Run X (d + 1) 125 1456 [some (.ref v0), none] [] h (none, o)) {v0 : Nat} {s0 : Nat} {s1 : Nat} {h : Hp} {o : Hp} (hf : f_X8_init_511 n K1456 v0 s0 s1 h = some o) : Run X (d + 1) 125 511 [some (.ref v0), none] [.ref s1, .ref s0] h (none, o) := by
  unfold f_X8_init_511 at hf
  refine rs_dup i_X8_init_511 rfl ?_
  refine rs_bipush i_X8_init_512 (v := 40) (by decide) ?_
  refine rs_bipush i_X8_init_514 (v := 97) (by decide) ?_
  obtain ⟨c1, hf⟩ := ite_some hf
  refine rs_iast i_X8_init_516 c1 ?_
  exact r_X8_init_517 hd HK1456 hf
noncomputable def f_X8_init_505 (n : Nat) (K1456 : Nat → Hp → Option Hp) (v0 : Nat) (s0 : Nat) (s1 : Nat) (h : Hp) : Option Hp :=
  if okI h s1 39 then
  f_X8_init_511 n K1456 v0 s0 s1 (hsi h s1 (ix 39) 112)
  else none
set_option maxRecDepth 100000 in
set_option maxHeartbeats 4000000 in
theorem r_X8_init_505 {X : Nat → Int32} {d : Nat} (hd : 5 ≤ (d + 1)) {n : Nat} {K1456 : Nat → Hp → Option Hp} (HK1456 : ∀ (v0 : Nat) (h : Hp) (o : Hp), K1456 v0 h = some o → Run X (d + 1) 125 1456 [some (.ref v0), none] [] h (none, o)) {v0 : Nat} {s0 : Nat} {s1 : Nat} {h : Hp} {o : Hp} (hf : f_X8_init_505 n K1456 v0 s0 s1 h = some o) : Run X (d + 1) 125 505 [some (.ref v0), none] [.ref s1, .ref s0] h (none, o) := by
  unfold f_X8_init_505 at hf
  refine rs_dup i_X8_init_505 rfl ?_
  refine rs_bipush i_X8_init_506 (v := 39) (by decide) ?_
  refine rs_bipush i_X8_init_508 (v := 112) (by decide) ?_
  obtain ⟨c1, hf⟩ := ite_some hf
  refine rs_iast i_X8_init_510 c1 ?_
  exact r_X8_init_511 hd HK1456 hf
noncomputable def f_X8_init_499 (n : Nat) (K1456 : Nat → Hp → Option Hp) (v0 : Nat) (s0 : Nat) (s1 : Nat) (h : Hp) : Option Hp :=
  if okI h s1 38 then
  f_X8_init_505 n K1456 v0 s0 s1 (hsi h s1 (ix 38) 32)
  else none
set_option maxRecDepth 100000 in
set_option maxHeartbeats 4000000 in
theorem r_X8_init_499 {X : Nat → Int32} {d : Nat} (hd : 5 ≤ (d + 1)) {n : Nat} {K1456 : Nat → Hp → Option Hp} (HK1456 : ∀ (v0 : Nat) (h : Hp) (o : Hp), K1456 v0 h = some o → Run X (d + 1) 125 1456 [some (.ref v0), none] [] h (none, o)) {v0 : Nat} {s0 : Nat} {s1 : Nat} {h : Hp} {o : Hp} (hf : f_X8_init_499 n K1456 v0 s0 s1 h = some o) : Run X (d + 1) 125 499 [some (.ref v0), none] [.ref s1, .ref s0] h (none, o) := by
  unfold f_X8_init_499 at hf
  refine rs_dup i_X8_init_499 rfl ?_
  refine rs_bipush i_X8_init_500 (v := 38) (by decide) ?_
  refine rs_bipush i_X8_init_502 (v := 32) (by decide) ?_
  obtain ⟨c1, hf⟩ := ite_some hf
  refine rs_iast i_X8_init_504 c1 ?_
  exact r_X8_init_505 hd HK1456 hf
noncomputable def f_X8_init_493 (n : Nat) (K1456 : Nat → Hp → Option Hp) (v0 : Nat) (s0 : Nat) (s1 : Nat) (h : Hp) : Option Hp :=
  if okI h s1 37 then
  f_X8_init_499 n K1456 v0 s0 s1 (hsi h s1 (ix 37) 60)
  else none
set_option maxRecDepth 100000 in
set_option maxHeartbeats 4000000 in
theorem r_X8_init_493 {X : Nat → Int32} {d : Nat} (hd : 5 ≤ (d + 1)) {n : Nat} {K1456 : Nat → Hp → Option Hp} (HK1456 : ∀ (v0 : Nat) (h : Hp) (o : Hp), K1456 v0 h = some o → Run X (d + 1) 125 1456 [some (.ref v0), none] [] h (none, o)) {v0 : Nat} {s0 : Nat} {s1 : Nat} {h : Hp} {o : Hp} (hf : f_X8_init_493 n K1456 v0 s0 s1 h = some o) : Run X (d + 1) 125 493 [some (.ref v0), none] [.ref s1, .ref s0] h (none, o) := by
  unfold f_X8_init_493 at hf
  refine rs_dup i_X8_init_493 rfl ?_
  refine rs_bipush i_X8_init_494 (v := 37) (by decide) ?_
  refine rs_bipush i_X8_init_496 (v := 60) (by decide) ?_
  obtain ⟨c1, hf⟩ := ite_some hf
  refine rs_iast i_X8_init_498 c1 ?_
  exact r_X8_init_499 hd HK1456 hf
noncomputable def f_X8_init_487 (n : Nat) (K1456 : Nat → Hp → Option Hp) (v0 : Nat) (s0 : Nat) (s1 : Nat) (h : Hp) : Option Hp :=
  if okI h s1 36 then
  f_X8_init_493 n K1456 v0 s0 s1 (hsi h s1 (ix 36) 32)
  else none
set_option maxRecDepth 100000 in
set_option maxHeartbeats 4000000 in
theorem r_X8_init_487 {X : Nat → Int32} {d : Nat} (hd : 5 ≤ (d + 1)) {n : Nat} {K1456 : Nat → Hp → Option Hp} (HK1456 : ∀ (v0 : Nat) (h : Hp) (o : Hp), K1456 v0 h = some o → Run X (d + 1) 125 1456 [some (.ref v0), none] [] h (none, o)) {v0 : Nat} {s0 : Nat} {s1 : Nat} {h : Hp} {o : Hp} (hf : f_X8_init_487 n K1456 v0 s0 s1 h = some o) : Run X (d + 1) 125 487 [some (.ref v0), none] [.ref s1, .ref s0] h (none, o) := by
  unfold f_X8_init_487 at hf
  refine rs_dup i_X8_init_487 rfl ?_
  refine rs_bipush i_X8_init_488 (v := 36) (by decide) ?_
  refine rs_bipush i_X8_init_490 (v := 32) (by decide) ?_
  obtain ⟨c1, hf⟩ := ite_some hf
  refine rs_iast i_X8_init_492 c1 ?_
  exact r_X8_init_493 hd HK1456 hf
noncomputable def f_X8_init_481 (n : Nat) (K1456 : Nat → Hp → Option Hp) (v0 : Nat) (s0 : Nat) (s1 : Nat) (h : Hp) : Option Hp :=
  if okI h s1 35 then
  f_X8_init_487 n K1456 v0 s0 s1 (hsi h s1 (ix 35) 48)
  else none
set_option maxRecDepth 100000 in
set_option maxHeartbeats 4000000 in
theorem r_X8_init_481 {X : Nat → Int32} {d : Nat} (hd : 5 ≤ (d + 1)) {n : Nat} {K1456 : Nat → Hp → Option Hp} (HK1456 : ∀ (v0 : Nat) (h : Hp) (o : Hp), K1456 v0 h = some o → Run X (d + 1) 125 1456 [some (.ref v0), none] [] h (none, o)) {v0 : Nat} {s0 : Nat} {s1 : Nat} {h : Hp} {o : Hp} (hf : f_X8_init_481 n K1456 v0 s0 s1 h = some o) : Run X (d + 1) 125 481 [some (.ref v0), none] [.ref s1, .ref s0] h (none, o) := by
  unfold f_X8_init_481 at hf
  refine rs_dup i_X8_init_481 rfl ?_
  refine rs_bipush i_X8_init_482 (v := 35) (by decide) ?_
  refine rs_bipush i_X8_init_484 (v := 48) (by decide) ?_
  obtain ⟨c1, hf⟩ := ite_some hf
  refine rs_iast i_X8_init_486 c1 ?_
  exact r_X8_init_487 hd HK1456 hf
noncomputable def f_X8_init_475 (n : Nat) (K1456 : Nat → Hp → Option Hp) (v0 : Nat) (s0 : Nat) (s1 : Nat) (h : Hp) : Option Hp :=
  if okI h s1 34 then
  f_X8_init_481 n K1456 v0 s0 s1 (hsi h s1 (ix 34) 52)
  else none
set_option maxRecDepth 100000 in
set_option maxHeartbeats 4000000 in
theorem r_X8_init_475 {X : Nat → Int32} {d : Nat} (hd : 5 ≤ (d + 1)) {n : Nat} {K1456 : Nat → Hp → Option Hp} (HK1456 : ∀ (v0 : Nat) (h : Hp) (o : Hp), K1456 v0 h = some o → Run X (d + 1) 125 1456 [some (.ref v0), none] [] h (none, o)) {v0 : Nat} {s0 : Nat} {s1 : Nat} {h : Hp} {o : Hp} (hf : f_X8_init_475 n K1456 v0 s0 s1 h = some o) : Run X (d + 1) 125 475 [some (.ref v0), none] [.ref s1, .ref s0] h (none, o) := by
  unfold f_X8_init_475 at hf
  refine rs_dup i_X8_init_475 rfl ?_
  refine rs_bipush i_X8_init_476 (v := 34) (by decide) ?_
  refine rs_bipush i_X8_init_478 (v := 52) (by decide) ?_
  obtain ⟨c1, hf⟩ := ite_some hf
  refine rs_iast i_X8_init_480 c1 ?_
  exact r_X8_init_481 hd HK1456 hf
noncomputable def f_X8_init_469 (n : Nat) (K1456 : Nat → Hp → Option Hp) (v0 : Nat) (s0 : Nat) (s1 : Nat) (h : Hp) : Option Hp :=
  if okI h s1 33 then
  f_X8_init_475 n K1456 v0 s0 s1 (hsi h s1 (ix 33) 32)
  else none
set_option maxRecDepth 100000 in
set_option maxHeartbeats 4000000 in
theorem r_X8_init_469 {X : Nat → Int32} {d : Nat} (hd : 5 ≤ (d + 1)) {n : Nat} {K1456 : Nat → Hp → Option Hp} (HK1456 : ∀ (v0 : Nat) (h : Hp) (o : Hp), K1456 v0 h = some o → Run X (d + 1) 125 1456 [some (.ref v0), none] [] h (none, o)) {v0 : Nat} {s0 : Nat} {s1 : Nat} {h : Hp} {o : Hp} (hf : f_X8_init_469 n K1456 v0 s0 s1 h = some o) : Run X (d + 1) 125 469 [some (.ref v0), none] [.ref s1, .ref s0] h (none, o) := by
  unfold f_X8_init_469 at hf
  refine rs_dup i_X8_init_469 rfl ?_
  refine rs_bipush i_X8_init_470 (v := 33) (by decide) ?_
  refine rs_bipush i_X8_init_472 (v := 32) (by decide) ?_
  obtain ⟨c1, hf⟩ := ite_some hf
  refine rs_iast i_X8_init_474 c1 ?_
  exact r_X8_init_475 hd HK1456 hf
noncomputable def f_X8_init_463 (n : Nat) (K1456 : Nat → Hp → Option Hp) (v0 : Nat) (s0 : Nat) (s1 : Nat) (h : Hp) : Option Hp :=
  if okI h s1 32 then
  f_X8_init_469 n K1456 v0 s0 s1 (hsi h s1 (ix 32) 115)
  else none
set_option maxRecDepth 100000 in
set_option maxHeartbeats 4000000 in
theorem r_X8_init_463 {X : Nat → Int32} {d : Nat} (hd : 5 ≤ (d + 1)) {n : Nat} {K1456 : Nat → Hp → Option Hp} (HK1456 : ∀ (v0 : Nat) (h : Hp) (o : Hp), K1456 v0 h = some o → Run X (d + 1) 125 1456 [some (.ref v0), none] [] h (none, o)) {v0 : Nat} {s0 : Nat} {s1 : Nat} {h : Hp} {o : Hp} (hf : f_X8_init_463 n K1456 v0 s0 s1 h = some o) : Run X (d + 1) 125 463 [some (.ref v0), none] [.ref s1, .ref s0] h (none, o) := by
  unfold f_X8_init_463 at hf
  refine rs_dup i_X8_init_463 rfl ?_
  refine rs_bipush i_X8_init_464 (v := 32) (by decide) ?_
  refine rs_bipush i_X8_init_466 (v := 115) (by decide) ?_
  obtain ⟨c1, hf⟩ := ite_some hf
  refine rs_iast i_X8_init_468 c1 ?_
  exact r_X8_init_469 hd HK1456 hf
noncomputable def f_X8_init_457 (n : Nat) (K1456 : Nat → Hp → Option Hp) (v0 : Nat) (s0 : Nat) (s1 : Nat) (h : Hp) : Option Hp :=
  if okI h s1 31 then
  f_X8_init_463 n K1456 v0 s0 s1 (hsi h s1 (ix 31) 114)
  else none
set_option maxRecDepth 100000 in
set_option maxHeartbeats 4000000 in
theorem r_X8_init_457 {X : Nat → Int32} {d : Nat} (hd : 5 ≤ (d + 1)) {n : Nat} {K1456 : Nat → Hp → Option Hp} (HK1456 : ∀ (v0 : Nat) (h : Hp) (o : Hp), K1456 v0 h = some o → Run X (d + 1) 125 1456 [some (.ref v0), none] [] h (none, o)) {v0 : Nat} {s0 : Nat} {s1 : Nat} {h : Hp} {o : Hp} (hf : f_X8_init_457 n K1456 v0 s0 s1 h = some o) : Run X (d + 1) 125 457 [some (.ref v0), none] [.ref s1, .ref s0] h (none, o) := by
  unfold f_X8_init_457 at hf
  refine rs_dup i_X8_init_457 rfl ?_
  refine rs_bipush i_X8_init_458 (v := 31) (by decide) ?_
  refine rs_bipush i_X8_init_460 (v := 114) (by decide) ?_
  obtain ⟨c1, hf⟩ := ite_some hf
  refine rs_iast i_X8_init_462 c1 ?_
  exact r_X8_init_463 hd HK1456 hf
noncomputable def f_X8_init_451 (n : Nat) (K1456 : Nat → Hp → Option Hp) (v0 : Nat) (s0 : Nat) (s1 : Nat) (h : Hp) : Option Hp :=
  if okI h s1 30 then
  f_X8_init_457 n K1456 v0 s0 s1 (hsi h s1 (ix 30) 97)
  else none
set_option maxRecDepth 100000 in
set_option maxHeartbeats 4000000 in
theorem r_X8_init_451 {X : Nat → Int32} {d : Nat} (hd : 5 ≤ (d + 1)) {n : Nat} {K1456 : Nat → Hp → Option Hp} (HK1456 : ∀ (v0 : Nat) (h : Hp) (o : Hp), K1456 v0 h = some o → Run X (d + 1) 125 1456 [some (.ref v0), none] [] h (none, o)) {v0 : Nat} {s0 : Nat} {s1 : Nat} {h : Hp} {o : Hp} (hf : f_X8_init_451 n K1456 v0 s0 s1 h = some o) : Run X (d + 1) 125 451 [some (.ref v0), none] [.ref s1, .ref s0] h (none, o) := by
  unfold f_X8_init_451 at hf
  refine rs_dup i_X8_init_451 rfl ?_
  refine rs_bipush i_X8_init_452 (v := 30) (by decide) ?_
  refine rs_bipush i_X8_init_454 (v := 97) (by decide) ?_
  obtain ⟨c1, hf⟩ := ite_some hf
  refine rs_iast i_X8_init_456 c1 ?_
  exact r_X8_init_457 hd HK1456 hf
noncomputable def f_X8_init_445 (n : Nat) (K1456 : Nat → Hp → Option Hp) (v0 : Nat) (s0 : Nat) (s1 : Nat) (h : Hp) : Option Hp :=
  if okI h s1 29 then
  f_X8_init_451 n K1456 v0 s0 s1 (hsi h s1 (ix 29) 101)
  else none
set_option maxRecDepth 100000 in
set_option maxHeartbeats 4000000 in
theorem r_X8_init_445 {X : Nat → Int32} {d : Nat} (hd : 5 ≤ (d + 1)) {n : Nat} {K1456 : Nat → Hp → Option Hp} (HK1456 : ∀ (v0 : Nat) (h : Hp) (o : Hp), K1456 v0 h = some o → Run X (d + 1) 125 1456 [some (.ref v0), none] [] h (none, o)) {v0 : Nat} {s0 : Nat} {s1 : Nat} {h : Hp} {o : Hp} (hf : f_X8_init_445 n K1456 v0 s0 s1 h = some o) : Run X (d + 1) 125 445 [some (.ref v0), none] [.ref s1, .ref s0] h (none, o) := by
  unfold f_X8_init_445 at hf
  refine rs_dup i_X8_init_445 rfl ?_
  refine rs_bipush i_X8_init_446 (v := 29) (by decide) ?_
  refine rs_bipush i_X8_init_448 (v := 101) (by decide) ?_
  obtain ⟨c1, hf⟩ := ite_some hf
  refine rs_iast i_X8_init_450 c1 ?_
  exact r_X8_init_451 hd HK1456 hf
noncomputable def f_X8_init_439 (n : Nat) (K1456 : Nat → Hp → Option Hp) (v0 : Nat) (s0 : Nat) (s1 : Nat) (h : Hp) : Option Hp :=
  if okI h s1 28 then
  f_X8_init_445 n K1456 v0 s0 s1 (hsi h s1 (ix 28) 116)
  else none
set_option maxRecDepth 100000 in
set_option maxHeartbeats 4000000 in
theorem r_X8_init_439 {X : Nat → Int32} {d : Nat} (hd : 5 ≤ (d + 1)) {n : Nat} {K1456 : Nat → Hp → Option Hp} (HK1456 : ∀ (v0 : Nat) (h : Hp) (o : Hp), K1456 v0 h = some o → Run X (d + 1) 125 1456 [some (.ref v0), none] [] h (none, o)) {v0 : Nat} {s0 : Nat} {s1 : Nat} {h : Hp} {o : Hp} (hf : f_X8_init_439 n K1456 v0 s0 s1 h = some o) : Run X (d + 1) 125 439 [some (.ref v0), none] [.ref s1, .ref s0] h (none, o) := by
  unfold f_X8_init_439 at hf
  refine rs_dup i_X8_init_439 rfl ?_
  refine rs_bipush i_X8_init_440 (v := 28) (by decide) ?_
  refine rs_bipush i_X8_init_442 (v := 116) (by decide) ?_
  obtain ⟨c1, hf⟩ := ite_some hf
  refine rs_iast i_X8_init_444 c1 ?_
  exact r_X8_init_445 hd HK1456 hf
noncomputable def f_X8_init_433 (n : Nat) (K1456 : Nat → Hp → Option Hp) (v0 : Nat) (s0 : Nat) (s1 : Nat) (h : Hp) : Option Hp :=
  if okI h s1 27 then
  f_X8_init_439 n K1456 v0 s0 s1 (hsi h s1 (ix 27) 32)
  else none
set_option maxRecDepth 100000 in
set_option maxHeartbeats 4000000 in
theorem r_X8_init_433 {X : Nat → Int32} {d : Nat} (hd : 5 ≤ (d + 1)) {n : Nat} {K1456 : Nat → Hp → Option Hp} (HK1456 : ∀ (v0 : Nat) (h : Hp) (o : Hp), K1456 v0 h = some o → Run X (d + 1) 125 1456 [some (.ref v0), none] [] h (none, o)) {v0 : Nat} {s0 : Nat} {s1 : Nat} {h : Hp} {o : Hp} (hf : f_X8_init_433 n K1456 v0 s0 s1 h = some o) : Run X (d + 1) 125 433 [some (.ref v0), none] [.ref s1, .ref s0] h (none, o) := by
  unfold f_X8_init_433 at hf
  refine rs_dup i_X8_init_433 rfl ?_
  refine rs_bipush i_X8_init_434 (v := 27) (by decide) ?_
  refine rs_bipush i_X8_init_436 (v := 32) (by decide) ?_
  obtain ⟨c1, hf⟩ := ite_some hf
  refine rs_iast i_X8_init_438 c1 ?_
  exact r_X8_init_439 hd HK1456 hf
noncomputable def f_X8_init_427 (n : Nat) (K1456 : Nat → Hp → Option Hp) (v0 : Nat) (s0 : Nat) (s1 : Nat) (h : Hp) : Option Hp :=
  if okI h s1 26 then
  f_X8_init_433 n K1456 v0 s0 s1 (hsi h s1 (ix 26) 59)
  else none
set_option maxRecDepth 100000 in
set_option maxHeartbeats 4000000 in
theorem r_X8_init_427 {X : Nat → Int32} {d : Nat} (hd : 5 ≤ (d + 1)) {n : Nat} {K1456 : Nat → Hp → Option Hp} (HK1456 : ∀ (v0 : Nat) (h : Hp) (o : Hp), K1456 v0 h = some o → Run X (d + 1) 125 1456 [some (.ref v0), none] [] h (none, o)) {v0 : Nat} {s0 : Nat} {s1 : Nat} {h : Hp} {o : Hp} (hf : f_X8_init_427 n K1456 v0 s0 s1 h = some o) : Run X (d + 1) 125 427 [some (.ref v0), none] [.ref s1, .ref s0] h (none, o) := by
  unfold f_X8_init_427 at hf
  refine rs_dup i_X8_init_427 rfl ?_
  refine rs_bipush i_X8_init_428 (v := 26) (by decide) ?_
  refine rs_bipush i_X8_init_430 (v := 59) (by decide) ?_
  obtain ⟨c1, hf⟩ := ite_some hf
  refine rs_iast i_X8_init_432 c1 ?_
  exact r_X8_init_433 hd HK1456 hf
noncomputable def f_X8_init_421 (n : Nat) (K1456 : Nat → Hp → Option Hp) (v0 : Nat) (s0 : Nat) (s1 : Nat) (h : Hp) : Option Hp :=
  if okI h s1 25 then
  f_X8_init_427 n K1456 v0 s0 s1 (hsi h s1 (ix 25) 32)
  else none
set_option maxRecDepth 100000 in
set_option maxHeartbeats 4000000 in
theorem r_X8_init_421 {X : Nat → Int32} {d : Nat} (hd : 5 ≤ (d + 1)) {n : Nat} {K1456 : Nat → Hp → Option Hp} (HK1456 : ∀ (v0 : Nat) (h : Hp) (o : Hp), K1456 v0 h = some o → Run X (d + 1) 125 1456 [some (.ref v0), none] [] h (none, o)) {v0 : Nat} {s0 : Nat} {s1 : Nat} {h : Hp} {o : Hp} (hf : f_X8_init_421 n K1456 v0 s0 s1 h = some o) : Run X (d + 1) 125 421 [some (.ref v0), none] [.ref s1, .ref s0] h (none, o) := by
  unfold f_X8_init_421 at hf
  refine rs_dup i_X8_init_421 rfl ?_
  refine rs_bipush i_X8_init_422 (v := 25) (by decide) ?_
  refine rs_bipush i_X8_init_424 (v := 32) (by decide) ?_
  obtain ⟨c1, hf⟩ := ite_some hf
  refine rs_iast i_X8_init_426 c1 ?_
  exact r_X8_init_427 hd HK1456 hf
noncomputable def f_X8_init_415 (n : Nat) (K1456 : Nat → Hp → Option Hp) (v0 : Nat) (s0 : Nat) (s1 : Nat) (h : Hp) : Option Hp :=
  if okI h s1 24 then
  f_X8_init_421 n K1456 v0 s0 s1 (hsi h s1 (ix 24) 102)
  else none
set_option maxRecDepth 100000 in
set_option maxHeartbeats 4000000 in
theorem r_X8_init_415 {X : Nat → Int32} {d : Nat} (hd : 5 ≤ (d + 1)) {n : Nat} {K1456 : Nat → Hp → Option Hp} (HK1456 : ∀ (v0 : Nat) (h : Hp) (o : Hp), K1456 v0 h = some o → Run X (d + 1) 125 1456 [some (.ref v0), none] [] h (none, o)) {v0 : Nat} {s0 : Nat} {s1 : Nat} {h : Hp} {o : Hp} (hf : f_X8_init_415 n K1456 v0 s0 s1 h = some o) : Run X (d + 1) 125 415 [some (.ref v0), none] [.ref s1, .ref s0] h (none, o) := by
  unfold f_X8_init_415 at hf
  refine rs_dup i_X8_init_415 rfl ?_
  refine rs_bipush i_X8_init_416 (v := 24) (by decide) ?_
  refine rs_bipush i_X8_init_418 (v := 102) (by decide) ?_
  obtain ⟨c1, hf⟩ := ite_some hf
  refine rs_iast i_X8_init_420 c1 ?_
  exact r_X8_init_421 hd HK1456 hf
noncomputable def f_X8_init_409 (n : Nat) (K1456 : Nat → Hp → Option Hp) (v0 : Nat) (s0 : Nat) (s1 : Nat) (h : Hp) : Option Hp :=
  if okI h s1 23 then
  f_X8_init_415 n K1456 v0 s0 s1 (hsi h s1 (ix 23) 102)
  else none
set_option maxRecDepth 100000 in
set_option maxHeartbeats 4000000 in
theorem r_X8_init_409 {X : Nat → Int32} {d : Nat} (hd : 5 ≤ (d + 1)) {n : Nat} {K1456 : Nat → Hp → Option Hp} (HK1456 : ∀ (v0 : Nat) (h : Hp) (o : Hp), K1456 v0 h = some o → Run X (d + 1) 125 1456 [some (.ref v0), none] [] h (none, o)) {v0 : Nat} {s0 : Nat} {s1 : Nat} {h : Hp} {o : Hp} (hf : f_X8_init_409 n K1456 v0 s0 s1 h = some o) : Run X (d + 1) 125 409 [some (.ref v0), none] [.ref s1, .ref s0] h (none, o) := by
  unfold f_X8_init_409 at hf
  refine rs_dup i_X8_init_409 rfl ?_
  refine rs_bipush i_X8_init_410 (v := 23) (by decide) ?_
  refine rs_bipush i_X8_init_412 (v := 102) (by decide) ?_
  obtain ⟨c1, hf⟩ := ite_some hf
  refine rs_iast i_X8_init_414 c1 ?_
  exact r_X8_init_415 hd HK1456 hf
noncomputable def f_X8_init_403 (n : Nat) (K1456 : Nat → Hp → Option Hp) (v0 : Nat) (s0 : Nat) (s1 : Nat) (h : Hp) : Option Hp :=
  if okI h s1 22 then
  f_X8_init_409 n K1456 v0 s0 s1 (hsi h s1 (ix 22) 105)
  else none
set_option maxRecDepth 100000 in
set_option maxHeartbeats 4000000 in
theorem r_X8_init_403 {X : Nat → Int32} {d : Nat} (hd : 5 ≤ (d + 1)) {n : Nat} {K1456 : Nat → Hp → Option Hp} (HK1456 : ∀ (v0 : Nat) (h : Hp) (o : Hp), K1456 v0 h = some o → Run X (d + 1) 125 1456 [some (.ref v0), none] [] h (none, o)) {v0 : Nat} {s0 : Nat} {s1 : Nat} {h : Hp} {o : Hp} (hf : f_X8_init_403 n K1456 v0 s0 s1 h = some o) : Run X (d + 1) 125 403 [some (.ref v0), none] [.ref s1, .ref s0] h (none, o) := by
  unfold f_X8_init_403 at hf
  refine rs_dup i_X8_init_403 rfl ?_
  refine rs_bipush i_X8_init_404 (v := 22) (by decide) ?_
  refine rs_bipush i_X8_init_406 (v := 105) (by decide) ?_
  obtain ⟨c1, hf⟩ := ite_some hf
  refine rs_iast i_X8_init_408 c1 ?_
  exact r_X8_init_409 hd HK1456 hf
noncomputable def f_X8_init_397 (n : Nat) (K1456 : Nat → Hp → Option Hp) (v0 : Nat) (s0 : Nat) (s1 : Nat) (h : Hp) : Option Hp :=
  if okI h s1 21 then
  f_X8_init_403 n K1456 v0 s0 s1 (hsi h s1 (ix 21) 116)
  else none
set_option maxRecDepth 100000 in
set_option maxHeartbeats 4000000 in
theorem r_X8_init_397 {X : Nat → Int32} {d : Nat} (hd : 5 ≤ (d + 1)) {n : Nat} {K1456 : Nat → Hp → Option Hp} (HK1456 : ∀ (v0 : Nat) (h : Hp) (o : Hp), K1456 v0 h = some o → Run X (d + 1) 125 1456 [some (.ref v0), none] [] h (none, o)) {v0 : Nat} {s0 : Nat} {s1 : Nat} {h : Hp} {o : Hp} (hf : f_X8_init_397 n K1456 v0 s0 s1 h = some o) : Run X (d + 1) 125 397 [some (.ref v0), none] [.ref s1, .ref s0] h (none, o) := by
  unfold f_X8_init_397 at hf
  refine rs_dup i_X8_init_397 rfl ?_
  refine rs_bipush i_X8_init_398 (v := 21) (by decide) ?_
  refine rs_bipush i_X8_init_400 (v := 116) (by decide) ?_
  obtain ⟨c1, hf⟩ := ite_some hf
  refine rs_iast i_X8_init_402 c1 ?_
  exact r_X8_init_403 hd HK1456 hf
noncomputable def f_X8_init_391 (n : Nat) (K1456 : Nat → Hp → Option Hp) (v0 : Nat) (s0 : Nat) (s1 : Nat) (h : Hp) : Option Hp :=
  if okI h s1 20 then
  f_X8_init_397 n K1456 v0 s0 s1 (hsi h s1 (ix 20) 115)
  else none
set_option maxRecDepth 100000 in
set_option maxHeartbeats 4000000 in
theorem r_X8_init_391 {X : Nat → Int32} {d : Nat} (hd : 5 ≤ (d + 1)) {n : Nat} {K1456 : Nat → Hp → Option Hp} (HK1456 : ∀ (v0 : Nat) (h : Hp) (o : Hp), K1456 v0 h = some o → Run X (d + 1) 125 1456 [some (.ref v0), none] [] h (none, o)) {v0 : Nat} {s0 : Nat} {s1 : Nat} {h : Hp} {o : Hp} (hf : f_X8_init_391 n K1456 v0 s0 s1 h = some o) : Run X (d + 1) 125 391 [some (.ref v0), none] [.ref s1, .ref s0] h (none, o) := by
  unfold f_X8_init_391 at hf
  refine rs_dup i_X8_init_391 rfl ?_
  refine rs_bipush i_X8_init_392 (v := 20) (by decide) ?_
  refine rs_bipush i_X8_init_394 (v := 115) (by decide) ?_
  obtain ⟨c1, hf⟩ := ite_some hf
  refine rs_iast i_X8_init_396 c1 ?_
  exact r_X8_init_397 hd HK1456 hf
noncomputable def f_X8_init_385 (n : Nat) (K1456 : Nat → Hp → Option Hp) (v0 : Nat) (s0 : Nat) (s1 : Nat) (h : Hp) : Option Hp :=
  if okI h s1 19 then
  f_X8_init_391 n K1456 v0 s0 s1 (hsi h s1 (ix 19) 32)
  else none
set_option maxRecDepth 100000 in
set_option maxHeartbeats 4000000 in
theorem r_X8_init_385 {X : Nat → Int32} {d : Nat} (hd : 5 ≤ (d + 1)) {n : Nat} {K1456 : Nat → Hp → Option Hp} (HK1456 : ∀ (v0 : Nat) (h : Hp) (o : Hp), K1456 v0 h = some o → Run X (d + 1) 125 1456 [some (.ref v0), none] [] h (none, o)) {v0 : Nat} {s0 : Nat} {s1 : Nat} {h : Hp} {o : Hp} (hf : f_X8_init_385 n K1456 v0 s0 s1 h = some o) : Run X (d + 1) 125 385 [some (.ref v0), none] [.ref s1, .ref s0] h (none, o) := by
  unfold f_X8_init_385 at hf
  refine rs_dup i_X8_init_385 rfl ?_
  refine rs_bipush i_X8_init_386 (v := 19) (by decide) ?_
  refine rs_bipush i_X8_init_388 (v := 32) (by decide) ?_
  obtain ⟨c1, hf⟩ := ite_some hf
  refine rs_iast i_X8_init_390 c1 ?_
  exact r_X8_init_391 hd HK1456 hf
noncomputable def f_X8_init_379 (n : Nat) (K1456 : Nat → Hp → Option Hp) (v0 : Nat) (s0 : Nat) (s1 : Nat) (h : Hp) : Option Hp :=
  if okI h s1 18 then
  f_X8_init_385 n K1456 v0 s0 s1 (hsi h s1 (ix 18) 45)
  else none
set_option maxRecDepth 100000 in
set_option maxHeartbeats 4000000 in
theorem r_X8_init_379 {X : Nat → Int32} {d : Nat} (hd : 5 ≤ (d + 1)) {n : Nat} {K1456 : Nat → Hp → Option Hp} (HK1456 : ∀ (v0 : Nat) (h : Hp) (o : Hp), K1456 v0 h = some o → Run X (d + 1) 125 1456 [some (.ref v0), none] [] h (none, o)) {v0 : Nat} {s0 : Nat} {s1 : Nat} {h : Hp} {o : Hp} (hf : f_X8_init_379 n K1456 v0 s0 s1 h = some o) : Run X (d + 1) 125 379 [some (.ref v0), none] [.ref s1, .ref s0] h (none, o) := by
  unfold f_X8_init_379 at hf
  refine rs_dup i_X8_init_379 rfl ?_
  refine rs_bipush i_X8_init_380 (v := 18) (by decide) ?_
  refine rs_bipush i_X8_init_382 (v := 45) (by decide) ?_
  obtain ⟨c1, hf⟩ := ite_some hf
  refine rs_iast i_X8_init_384 c1 ?_
  exact r_X8_init_385 hd HK1456 hf
noncomputable def f_X8_init_373 (n : Nat) (K1456 : Nat → Hp → Option Hp) (v0 : Nat) (s0 : Nat) (s1 : Nat) (h : Hp) : Option Hp :=
  if okI h s1 17 then
  f_X8_init_379 n K1456 v0 s0 s1 (hsi h s1 (ix 17) 32)
  else none
set_option maxRecDepth 100000 in
set_option maxHeartbeats 4000000 in
theorem r_X8_init_373 {X : Nat → Int32} {d : Nat} (hd : 5 ≤ (d + 1)) {n : Nat} {K1456 : Nat → Hp → Option Hp} (HK1456 : ∀ (v0 : Nat) (h : Hp) (o : Hp), K1456 v0 h = some o → Run X (d + 1) 125 1456 [some (.ref v0), none] [] h (none, o)) {v0 : Nat} {s0 : Nat} {s1 : Nat} {h : Hp} {o : Hp} (hf : f_X8_init_373 n K1456 v0 s0 s1 h = some o) : Run X (d + 1) 125 373 [some (.ref v0), none] [.ref s1, .ref s0] h (none, o) := by
  unfold f_X8_init_373 at hf
  refine rs_dup i_X8_init_373 rfl ?_
  refine rs_bipush i_X8_init_374 (v := 17) (by decide) ?_
  refine rs_bipush i_X8_init_376 (v := 32) (by decide) ?_
  obtain ⟨c1, hf⟩ := ite_some hf
  refine rs_iast i_X8_init_378 c1 ?_
  exact r_X8_init_379 hd HK1456 hf
noncomputable def f_X8_init_367 (n : Nat) (K1456 : Nat → Hp → Option Hp) (v0 : Nat) (s0 : Nat) (s1 : Nat) (h : Hp) : Option Hp :=
  if okI h s1 16 then
  f_X8_init_373 n K1456 v0 s0 s1 (hsi h s1 (ix 16) 50)
  else none
set_option maxRecDepth 100000 in
set_option maxHeartbeats 4000000 in
theorem r_X8_init_367 {X : Nat → Int32} {d : Nat} (hd : 5 ≤ (d + 1)) {n : Nat} {K1456 : Nat → Hp → Option Hp} (HK1456 : ∀ (v0 : Nat) (h : Hp) (o : Hp), K1456 v0 h = some o → Run X (d + 1) 125 1456 [some (.ref v0), none] [] h (none, o)) {v0 : Nat} {s0 : Nat} {s1 : Nat} {h : Hp} {o : Hp} (hf : f_X8_init_367 n K1456 v0 s0 s1 h = some o) : Run X (d + 1) 125 367 [some (.ref v0), none] [.ref s1, .ref s0] h (none, o) := by
  unfold f_X8_init_367 at hf
  refine rs_dup i_X8_init_367 rfl ?_
  refine rs_bipush i_X8_init_368 (v := 16) (by decide) ?_
  refine rs_bipush i_X8_init_370 (v := 50) (by decide) ?_
  obtain ⟨c1, hf⟩ := ite_some hf
  refine rs_iast i_X8_init_372 c1 ?_
  exact r_X8_init_373 hd HK1456 hf
noncomputable def f_X8_init_361 (n : Nat) (K1456 : Nat → Hp → Option Hp) (v0 : Nat) (s0 : Nat) (s1 : Nat) (h : Hp) : Option Hp :=
  if okI h s1 15 then
  f_X8_init_367 n K1456 v0 s0 s1 (hsi h s1 (ix 15) 32)
  else none
set_option maxRecDepth 100000 in
set_option maxHeartbeats 4000000 in
theorem r_X8_init_361 {X : Nat → Int32} {d : Nat} (hd : 5 ≤ (d + 1)) {n : Nat} {K1456 : Nat → Hp → Option Hp} (HK1456 : ∀ (v0 : Nat) (h : Hp) (o : Hp), K1456 v0 h = some o → Run X (d + 1) 125 1456 [some (.ref v0), none] [] h (none, o)) {v0 : Nat} {s0 : Nat} {s1 : Nat} {h : Hp} {o : Hp} (hf : f_X8_init_361 n K1456 v0 s0 s1 h = some o) : Run X (d + 1) 125 361 [some (.ref v0), none] [.ref s1, .ref s0] h (none, o) := by
  unfold f_X8_init_361 at hf
  refine rs_dup i_X8_init_361 rfl ?_
  refine rs_bipush i_X8_init_362 (v := 15) (by decide) ?_
  refine rs_bipush i_X8_init_364 (v := 32) (by decide) ?_
  obtain ⟨c1, hf⟩ := ite_some hf
  refine rs_iast i_X8_init_366 c1 ?_
  exact r_X8_init_367 hd HK1456 hf
noncomputable def f_X8_init_355 (n : Nat) (K1456 : Nat → Hp → Option Hp) (v0 : Nat) (s0 : Nat) (s1 : Nat) (h : Hp) : Option Hp :=
  if okI h s1 14 then
  f_X8_init_361 n K1456 v0 s0 s1 (hsi h s1 (ix 14) 42)
  else none
set_option maxRecDepth 100000 in
set_option maxHeartbeats 4000000 in
theorem r_X8_init_355 {X : Nat → Int32} {d : Nat} (hd : 5 ≤ (d + 1)) {n : Nat} {K1456 : Nat → Hp → Option Hp} (HK1456 : ∀ (v0 : Nat) (h : Hp) (o : Hp), K1456 v0 h = some o → Run X (d + 1) 125 1456 [some (.ref v0), none] [] h (none, o)) {v0 : Nat} {s0 : Nat} {s1 : Nat} {h : Hp} {o : Hp} (hf : f_X8_init_355 n K1456 v0 s0 s1 h = some o) : Run X (d + 1) 125 355 [some (.ref v0), none] [.ref s1, .ref s0] h (none, o) := by
  unfold f_X8_init_355 at hf
  refine rs_dup i_X8_init_355 rfl ?_
  refine rs_bipush i_X8_init_356 (v := 14) (by decide) ?_
  refine rs_bipush i_X8_init_358 (v := 42) (by decide) ?_
  obtain ⟨c1, hf⟩ := ite_some hf
  refine rs_iast i_X8_init_360 c1 ?_
  exact r_X8_init_361 hd HK1456 hf
noncomputable def f_X8_init_349 (n : Nat) (K1456 : Nat → Hp → Option Hp) (v0 : Nat) (s0 : Nat) (s1 : Nat) (h : Hp) : Option Hp :=
  if okI h s1 13 then
  f_X8_init_355 n K1456 v0 s0 s1 (hsi h s1 (ix 13) 32)
  else none
set_option maxRecDepth 100000 in
set_option maxHeartbeats 4000000 in
theorem r_X8_init_349 {X : Nat → Int32} {d : Nat} (hd : 5 ≤ (d + 1)) {n : Nat} {K1456 : Nat → Hp → Option Hp} (HK1456 : ∀ (v0 : Nat) (h : Hp) (o : Hp), K1456 v0 h = some o → Run X (d + 1) 125 1456 [some (.ref v0), none] [] h (none, o)) {v0 : Nat} {s0 : Nat} {s1 : Nat} {h : Hp} {o : Hp} (hf : f_X8_init_349 n K1456 v0 s0 s1 h = some o) : Run X (d + 1) 125 349 [some (.ref v0), none] [.ref s1, .ref s0] h (none, o) := by
  unfold f_X8_init_349 at hf
  refine rs_dup i_X8_init_349 rfl ?_
  refine rs_bipush i_X8_init_350 (v := 13) (by decide) ?_
  refine rs_bipush i_X8_init_352 (v := 32) (by decide) ?_
  obtain ⟨c1, hf⟩ := ite_some hf
  refine rs_iast i_X8_init_354 c1 ?_
  exact r_X8_init_355 hd HK1456 hf
noncomputable def f_X8_init_343 (n : Nat) (K1456 : Nat → Hp → Option Hp) (v0 : Nat) (s0 : Nat) (s1 : Nat) (h : Hp) : Option Hp :=
  if okI h s1 12 then
  f_X8_init_349 n K1456 v0 s0 s1 (hsi h s1 (ix 12) 116)
  else none
set_option maxRecDepth 100000 in
set_option maxHeartbeats 4000000 in
theorem r_X8_init_343 {X : Nat → Int32} {d : Nat} (hd : 5 ≤ (d + 1)) {n : Nat} {K1456 : Nat → Hp → Option Hp} (HK1456 : ∀ (v0 : Nat) (h : Hp) (o : Hp), K1456 v0 h = some o → Run X (d + 1) 125 1456 [some (.ref v0), none] [] h (none, o)) {v0 : Nat} {s0 : Nat} {s1 : Nat} {h : Hp} {o : Hp} (hf : f_X8_init_343 n K1456 v0 s0 s1 h = some o) : Run X (d + 1) 125 343 [some (.ref v0), none] [.ref s1, .ref s0] h (none, o) := by
  unfold f_X8_init_343 at hf
  refine rs_dup i_X8_init_343 rfl ?_
  refine rs_bipush i_X8_init_344 (v := 12) (by decide) ?_
  refine rs_bipush i_X8_init_346 (v := 116) (by decide) ?_
  obtain ⟨c1, hf⟩ := ite_some hf
  refine rs_iast i_X8_init_348 c1 ?_
  exact r_X8_init_349 hd HK1456 hf
noncomputable def f_X8_init_337 (n : Nat) (K1456 : Nat → Hp → Option Hp) (v0 : Nat) (s0 : Nat) (s1 : Nat) (h : Hp) : Option Hp :=
  if okI h s1 11 then
  f_X8_init_343 n K1456 v0 s0 s1 (hsi h s1 (ix 11) 101)
  else none
set_option maxRecDepth 100000 in
set_option maxHeartbeats 4000000 in
theorem r_X8_init_337 {X : Nat → Int32} {d : Nat} (hd : 5 ≤ (d + 1)) {n : Nat} {K1456 : Nat → Hp → Option Hp} (HK1456 : ∀ (v0 : Nat) (h : Hp) (o : Hp), K1456 v0 h = some o → Run X (d + 1) 125 1456 [some (.ref v0), none] [] h (none, o)) {v0 : Nat} {s0 : Nat} {s1 : Nat} {h : Hp} {o : Hp} (hf : f_X8_init_337 n K1456 v0 s0 s1 h = some o) : Run X (d + 1) 125 337 [some (.ref v0), none] [.ref s1, .ref s0] h (none, o) := by
  unfold f_X8_init_337 at hf
  refine rs_dup i_X8_init_337 rfl ?_
  refine rs_bipush i_X8_init_338 (v := 11) (by decide) ?_
  refine rs_bipush i_X8_init_340 (v := 101) (by decide) ?_
  obtain ⟨c1, hf⟩ := ite_some hf
  refine rs_iast i_X8_init_342 c1 ?_
  exact r_X8_init_343 hd HK1456 hf
noncomputable def f_X8_init_331 (n : Nat) (K1456 : Nat → Hp → Option Hp) (v0 : Nat) (s0 : Nat) (s1 : Nat) (h : Hp) : Option Hp :=
  if okI h s1 10 then
  f_X8_init_337 n K1456 v0 s0 s1 (hsi h s1 (ix 10) 119)
  else none
set_option maxRecDepth 100000 in
set_option maxHeartbeats 4000000 in
theorem r_X8_init_331 {X : Nat → Int32} {d : Nat} (hd : 5 ≤ (d + 1)) {n : Nat} {K1456 : Nat → Hp → Option Hp} (HK1456 : ∀ (v0 : Nat) (h : Hp) (o : Hp), K1456 v0 h = some o → Run X (d + 1) 125 1456 [some (.ref v0), none] [] h (none, o)) {v0 : Nat} {s0 : Nat} {s1 : Nat} {h : Hp} {o : Hp} (hf : f_X8_init_331 n K1456 v0 s0 s1 h = some o) : Run X (d + 1) 125 331 [some (.ref v0), none] [.ref s1, .ref s0] h (none, o) := by
  unfold f_X8_init_331 at hf
  refine rs_dup i_X8_init_331 rfl ?_
  refine rs_bipush i_X8_init_332 (v := 10) (by decide) ?_
  refine rs_bipush i_X8_init_334 (v := 119) (by decide) ?_
  obtain ⟨c1, hf⟩ := ite_some hf
  refine rs_iast i_X8_init_336 c1 ?_
  exact r_X8_init_337 hd HK1456 hf
noncomputable def f_X8_init_325 (n : Nat) (K1456 : Nat → Hp → Option Hp) (v0 : Nat) (s0 : Nat) (s1 : Nat) (h : Hp) : Option Hp :=
  if okI h s1 9 then
  f_X8_init_331 n K1456 v0 s0 s1 (hsi h s1 (ix 9) 32)
  else none
set_option maxRecDepth 100000 in
set_option maxHeartbeats 4000000 in
theorem r_X8_init_325 {X : Nat → Int32} {d : Nat} (hd : 5 ≤ (d + 1)) {n : Nat} {K1456 : Nat → Hp → Option Hp} (HK1456 : ∀ (v0 : Nat) (h : Hp) (o : Hp), K1456 v0 h = some o → Run X (d + 1) 125 1456 [some (.ref v0), none] [] h (none, o)) {v0 : Nat} {s0 : Nat} {s1 : Nat} {h : Hp} {o : Hp} (hf : f_X8_init_325 n K1456 v0 s0 s1 h = some o) : Run X (d + 1) 125 325 [some (.ref v0), none] [.ref s1, .ref s0] h (none, o) := by
  unfold f_X8_init_325 at hf
  refine rs_dup i_X8_init_325 rfl ?_
  refine rs_bipush i_X8_init_326 (v := 9) (by decide) ?_
  refine rs_bipush i_X8_init_328 (v := 32) (by decide) ?_
  obtain ⟨c1, hf⟩ := ite_some hf
  refine rs_iast i_X8_init_330 c1 ?_
  exact r_X8_init_331 hd HK1456 hf
noncomputable def f_X8_init_319 (n : Nat) (K1456 : Nat → Hp → Option Hp) (v0 : Nat) (s0 : Nat) (s1 : Nat) (h : Hp) : Option Hp :=
  if okI h s1 8 then
  f_X8_init_325 n K1456 v0 s0 s1 (hsi h s1 (ix 8) 43)
  else none
set_option maxRecDepth 100000 in
set_option maxHeartbeats 4000000 in
theorem r_X8_init_319 {X : Nat → Int32} {d : Nat} (hd : 5 ≤ (d + 1)) {n : Nat} {K1456 : Nat → Hp → Option Hp} (HK1456 : ∀ (v0 : Nat) (h : Hp) (o : Hp), K1456 v0 h = some o → Run X (d + 1) 125 1456 [some (.ref v0), none] [] h (none, o)) {v0 : Nat} {s0 : Nat} {s1 : Nat} {h : Hp} {o : Hp} (hf : f_X8_init_319 n K1456 v0 s0 s1 h = some o) : Run X (d + 1) 125 319 [some (.ref v0), none] [.ref s1, .ref s0] h (none, o) := by
  unfold f_X8_init_319 at hf
  refine rs_dup i_X8_init_319 rfl ?_
  refine rs_bipush i_X8_init_320 (v := 8) (by decide) ?_
  refine rs_bipush i_X8_init_322 (v := 43) (by decide) ?_
  obtain ⟨c1, hf⟩ := ite_some hf
  refine rs_iast i_X8_init_324 c1 ?_
  exact r_X8_init_325 hd HK1456 hf
noncomputable def f_X8_init_313 (n : Nat) (K1456 : Nat → Hp → Option Hp) (v0 : Nat) (s0 : Nat) (s1 : Nat) (h : Hp) : Option Hp :=
  if okI h s1 7 then
  f_X8_init_319 n K1456 v0 s0 s1 (hsi h s1 (ix 7) 32)
  else none
set_option maxRecDepth 100000 in
set_option maxHeartbeats 4000000 in
theorem r_X8_init_313 {X : Nat → Int32} {d : Nat} (hd : 5 ≤ (d + 1)) {n : Nat} {K1456 : Nat → Hp → Option Hp} (HK1456 : ∀ (v0 : Nat) (h : Hp) (o : Hp), K1456 v0 h = some o → Run X (d + 1) 125 1456 [some (.ref v0), none] [] h (none, o)) {v0 : Nat} {s0 : Nat} {s1 : Nat} {h : Hp} {o : Hp} (hf : f_X8_init_313 n K1456 v0 s0 s1 h = some o) : Run X (d + 1) 125 313 [some (.ref v0), none] [.ref s1, .ref s0] h (none, o) := by
  unfold f_X8_init_313 at hf
  refine rs_dup i_X8_init_313 rfl ?_
  refine rs_bipush i_X8_init_314 (v := 7) (by decide) ?_
  refine rs_bipush i_X8_init_316 (v := 32) (by decide) ?_
  obtain ⟨c1, hf⟩ := ite_some hf
  refine rs_iast i_X8_init_318 c1 ?_
  exact r_X8_init_319 hd HK1456 hf
noncomputable def f_X8_init_307 (n : Nat) (K1456 : Nat → Hp → Option Hp) (v0 : Nat) (s0 : Nat) (s1 : Nat) (h : Hp) : Option Hp :=
  if okI h s1 6 then
  f_X8_init_313 n K1456 v0 s0 s1 (hsi h s1 (ix 6) 48)
  else none
set_option maxRecDepth 100000 in
set_option maxHeartbeats 4000000 in
theorem r_X8_init_307 {X : Nat → Int32} {d : Nat} (hd : 5 ≤ (d + 1)) {n : Nat} {K1456 : Nat → Hp → Option Hp} (HK1456 : ∀ (v0 : Nat) (h : Hp) (o : Hp), K1456 v0 h = some o → Run X (d + 1) 125 1456 [some (.ref v0), none] [] h (none, o)) {v0 : Nat} {s0 : Nat} {s1 : Nat} {h : Hp} {o : Hp} (hf : f_X8_init_307 n K1456 v0 s0 s1 h = some o) : Run X (d + 1) 125 307 [some (.ref v0), none] [.ref s1, .ref s0] h (none, o) := by
  unfold f_X8_init_307 at hf
  refine rs_dup i_X8_init_307 rfl ?_
  refine rs_bipush i_X8_init_308 (v := 6) (by decide) ?_
  refine rs_bipush i_X8_init_310 (v := 48) (by decide) ?_
  obtain ⟨c1, hf⟩ := ite_some hf
  refine rs_iast i_X8_init_312 c1 ?_
  exact r_X8_init_313 hd HK1456 hf
noncomputable def f_X8_init_302 (n : Nat) (K1456 : Nat → Hp → Option Hp) (v0 : Nat) (s0 : Nat) (s1 : Nat) (h : Hp) : Option Hp :=
  if okI h s1 5 then
  f_X8_init_307 n K1456 v0 s0 s1 (hsi h s1 (ix 5) 50)
  else none
set_option maxRecDepth 100000 in
set_option maxHeartbeats 4000000 in
theorem r_X8_init_302 {X : Nat → Int32} {d : Nat} (hd : 5 ≤ (d + 1)) {n : Nat} {K1456 : Nat → Hp → Option Hp} (HK1456 : ∀ (v0 : Nat) (h : Hp) (o : Hp), K1456 v0 h = some o → Run X (d + 1) 125 1456 [some (.ref v0), none] [] h (none, o)) {v0 : Nat} {s0 : Nat} {s1 : Nat} {h : Hp} {o : Hp} (hf : f_X8_init_302 n K1456 v0 s0 s1 h = some o) : Run X (d + 1) 125 302 [some (.ref v0), none] [.ref s1, .ref s0] h (none, o) := by
  unfold f_X8_init_302 at hf
  refine rs_dup i_X8_init_302 rfl ?_
  refine rs_iconst i_X8_init_303 (v := 5) (by decide) ?_
  refine rs_bipush i_X8_init_304 (v := 50) (by decide) ?_
  obtain ⟨c1, hf⟩ := ite_some hf
  refine rs_iast i_X8_init_306 c1 ?_
  exact r_X8_init_307 hd HK1456 hf
noncomputable def f_X8_init_297 (n : Nat) (K1456 : Nat → Hp → Option Hp) (v0 : Nat) (s0 : Nat) (s1 : Nat) (h : Hp) : Option Hp :=
  if okI h s1 4 then
  f_X8_init_302 n K1456 v0 s0 s1 (hsi h s1 (ix 4) 32)
  else none
set_option maxRecDepth 100000 in
set_option maxHeartbeats 4000000 in
theorem r_X8_init_297 {X : Nat → Int32} {d : Nat} (hd : 5 ≤ (d + 1)) {n : Nat} {K1456 : Nat → Hp → Option Hp} (HK1456 : ∀ (v0 : Nat) (h : Hp) (o : Hp), K1456 v0 h = some o → Run X (d + 1) 125 1456 [some (.ref v0), none] [] h (none, o)) {v0 : Nat} {s0 : Nat} {s1 : Nat} {h : Hp} {o : Hp} (hf : f_X8_init_297 n K1456 v0 s0 s1 h = some o) : Run X (d + 1) 125 297 [some (.ref v0), none] [.ref s1, .ref s0] h (none, o) := by
  unfold f_X8_init_297 at hf
  refine rs_dup i_X8_init_297 rfl ?_
  refine rs_iconst i_X8_init_298 (v := 4) (by decide) ?_
  refine rs_bipush i_X8_init_299 (v := 32) (by decide) ?_
  obtain ⟨c1, hf⟩ := ite_some hf
  refine rs_iast i_X8_init_301 c1 ?_
  exact r_X8_init_302 hd HK1456 hf
noncomputable def f_X8_init_292 (n : Nat) (K1456 : Nat → Hp → Option Hp) (v0 : Nat) (s0 : Nat) (s1 : Nat) (h : Hp) : Option Hp :=
  if okI h s1 3 then
  f_X8_init_297 n K1456 v0 s0 s1 (hsi h s1 (ix 3) 119)
  else none
set_option maxRecDepth 100000 in
set_option maxHeartbeats 4000000 in
theorem r_X8_init_292 {X : Nat → Int32} {d : Nat} (hd : 5 ≤ (d + 1)) {n : Nat} {K1456 : Nat → Hp → Option Hp} (HK1456 : ∀ (v0 : Nat) (h : Hp) (o : Hp), K1456 v0 h = some o → Run X (d + 1) 125 1456 [some (.ref v0), none] [] h (none, o)) {v0 : Nat} {s0 : Nat} {s1 : Nat} {h : Hp} {o : Hp} (hf : f_X8_init_292 n K1456 v0 s0 s1 h = some o) : Run X (d + 1) 125 292 [some (.ref v0), none] [.ref s1, .ref s0] h (none, o) := by
  unfold f_X8_init_292 at hf
  refine rs_dup i_X8_init_292 rfl ?_
  refine rs_iconst i_X8_init_293 (v := 3) (by decide) ?_
  refine rs_bipush i_X8_init_294 (v := 119) (by decide) ?_
  obtain ⟨c1, hf⟩ := ite_some hf
  refine rs_iast i_X8_init_296 c1 ?_
  exact r_X8_init_297 hd HK1456 hf
noncomputable def f_X8_init_287 (n : Nat) (K1456 : Nat → Hp → Option Hp) (v0 : Nat) (s0 : Nat) (s1 : Nat) (h : Hp) : Option Hp :=
  if okI h s1 2 then
  f_X8_init_292 n K1456 v0 s0 s1 (hsi h s1 (ix 2) 97)
  else none
set_option maxRecDepth 100000 in
set_option maxHeartbeats 4000000 in
theorem r_X8_init_287 {X : Nat → Int32} {d : Nat} (hd : 5 ≤ (d + 1)) {n : Nat} {K1456 : Nat → Hp → Option Hp} (HK1456 : ∀ (v0 : Nat) (h : Hp) (o : Hp), K1456 v0 h = some o → Run X (d + 1) 125 1456 [some (.ref v0), none] [] h (none, o)) {v0 : Nat} {s0 : Nat} {s1 : Nat} {h : Hp} {o : Hp} (hf : f_X8_init_287 n K1456 v0 s0 s1 h = some o) : Run X (d + 1) 125 287 [some (.ref v0), none] [.ref s1, .ref s0] h (none, o) := by
  unfold f_X8_init_287 at hf
  refine rs_dup i_X8_init_287 rfl ?_
  refine rs_iconst i_X8_init_288 (v := 2) (by decide) ?_
  refine rs_bipush i_X8_init_289 (v := 97) (by decide) ?_
  obtain ⟨c1, hf⟩ := ite_some hf
  refine rs_iast i_X8_init_291 c1 ?_
  exact r_X8_init_292 hd HK1456 hf
noncomputable def f_X8_init_282 (n : Nat) (K1456 : Nat → Hp → Option Hp) (v0 : Nat) (s0 : Nat) (s1 : Nat) (h : Hp) : Option Hp :=
  if okI h s1 1 then
  f_X8_init_287 n K1456 v0 s0 s1 (hsi h s1 (ix 1) 114)
  else none
set_option maxRecDepth 100000 in
set_option maxHeartbeats 4000000 in
theorem r_X8_init_282 {X : Nat → Int32} {d : Nat} (hd : 5 ≤ (d + 1)) {n : Nat} {K1456 : Nat → Hp → Option Hp} (HK1456 : ∀ (v0 : Nat) (h : Hp) (o : Hp), K1456 v0 h = some o → Run X (d + 1) 125 1456 [some (.ref v0), none] [] h (none, o)) {v0 : Nat} {s0 : Nat} {s1 : Nat} {h : Hp} {o : Hp} (hf : f_X8_init_282 n K1456 v0 s0 s1 h = some o) : Run X (d + 1) 125 282 [some (.ref v0), none] [.ref s1, .ref s0] h (none, o) := by
  unfold f_X8_init_282 at hf
  refine rs_dup i_X8_init_282 rfl ?_
  refine rs_iconst i_X8_init_283 (v := 1) (by decide) ?_
  refine rs_bipush i_X8_init_284 (v := 114) (by decide) ?_
  obtain ⟨c1, hf⟩ := ite_some hf
  refine rs_iast i_X8_init_286 c1 ?_
  exact r_X8_init_287 hd HK1456 hf
noncomputable def f_X8_init_277 (n : Nat) (K1456 : Nat → Hp → Option Hp) (v0 : Nat) (s0 : Nat) (s1 : Nat) (h : Hp) : Option Hp :=
  if okI h s1 0 then
  f_X8_init_282 n K1456 v0 s0 s1 (hsi h s1 (ix 0) 100)
  else none
set_option maxRecDepth 100000 in
set_option maxHeartbeats 4000000 in
theorem r_X8_init_277 {X : Nat → Int32} {d : Nat} (hd : 5 ≤ (d + 1)) {n : Nat} {K1456 : Nat → Hp → Option Hp} (HK1456 : ∀ (v0 : Nat) (h : Hp) (o : Hp), K1456 v0 h = some o → Run X (d + 1) 125 1456 [some (.ref v0), none] [] h (none, o)) {v0 : Nat} {s0 : Nat} {s1 : Nat} {h : Hp} {o : Hp} (hf : f_X8_init_277 n K1456 v0 s0 s1 h = some o) : Run X (d + 1) 125 277 [some (.ref v0), none] [.ref s1, .ref s0] h (none, o) := by
  unfold f_X8_init_277 at hf
  refine rs_dup i_X8_init_277 rfl ?_
  refine rs_iconst i_X8_init_278 (v := 0) (by decide) ?_
  refine rs_bipush i_X8_init_279 (v := 100) (by decide) ?_
  obtain ⟨c1, hf⟩ := ite_some hf
  refine rs_iast i_X8_init_281 c1 ?_
  exact r_X8_init_282 hd HK1456 hf
noncomputable def f_X8_init_272 (n : Nat) (K1456 : Nat → Hp → Option Hp) (v0 : Nat) (h : Hp) : Option Hp :=
  f_X8_init_277 n K1456 v0 v0 h.1.length (hnew h (9, ix 83))
set_option maxRecDepth 100000 in
set_option maxHeartbeats 4000000 in
theorem r_X8_init_272 {X : Nat → Int32} {d : Nat} (hd : 5 ≤ (d + 1)) {n : Nat} {K1456 : Nat → Hp → Option Hp} (HK1456 : ∀ (v0 : Nat) (h : Hp) (o : Hp), K1456 v0 h = some o → Run X (d + 1) 125 1456 [some (.ref v0), none] [] h (none, o)) {v0 : Nat} {h : Hp} {o : Hp} (hf : f_X8_init_272 n K1456 v0 h = some o) : Run X (d + 1) 125 272 [some (.ref v0), none] [] h (none, o) := by
  unfold f_X8_init_272 at hf
  refine rs_aload_n i_X8_init_272 rfl ?_
  refine rs_bipush i_X8_init_273 (v := 83) (by decide) ?_
  refine rs_newa i_X8_init_275 (by decide) ?_
  exact r_X8_init_277 hd HK1456 hf
noncomputable def f_X8_init_269 (n : Nat) (K1456 : Nat → Hp → Option Hp) (v0 : Nat) (s0 : Nat) (s1 : Nat) (h : Hp) : Option Hp :=
  if okO h s0 8 then
  if 16 ≤ s1 then
  f_X8_init_272 n K1456 v0 (hsr h s0 24 (some s1))
  else none
  else none
set_option maxRecDepth 100000 in
set_option maxHeartbeats 4000000 in
theorem r_X8_init_269 {X : Nat → Int32} {d : Nat} (hd : 5 ≤ (d + 1)) {n : Nat} {K1456 : Nat → Hp → Option Hp} (HK1456 : ∀ (v0 : Nat) (h : Hp) (o : Hp), K1456 v0 h = some o → Run X (d + 1) 125 1456 [some (.ref v0), none] [] h (none, o)) {v0 : Nat} {s0 : Nat} {s1 : Nat} {h : Hp} {o : Hp} (hf : f_X8_init_269 n K1456 v0 s0 s1 h = some o) : Run X (d + 1) 125 269 [some (.ref v0), none] [.ref s1, .ref s0] h (none, o) := by
  unfold f_X8_init_269 at hf
  obtain ⟨c1, hf⟩ := ite_some hf
  obtain ⟨c2, hf⟩ := ite_some hf
  refine rs_putR i_X8_init_269 (by decide) c2 c1 ?_
  exact r_X8_init_272 hd HK1456 hf
noncomputable def f_X8_init_263 (n : Nat) (K1456 : Nat → Hp → Option Hp) (v0 : Nat) (h : Hp) : Option Hp :=
  f_X8_init_269 n K1456 v0 v0 h.1.length (hnew h (9, ix 160))
set_option maxRecDepth 100000 in
set_option maxHeartbeats 4000000 in
theorem r_X8_init_263 {X : Nat → Int32} {d : Nat} (hd : 5 ≤ (d + 1)) {n : Nat} {K1456 : Nat → Hp → Option Hp} (HK1456 : ∀ (v0 : Nat) (h : Hp) (o : Hp), K1456 v0 h = some o → Run X (d + 1) 125 1456 [some (.ref v0), none] [] h (none, o)) {v0 : Nat} {h : Hp} {o : Hp} (hf : f_X8_init_263 n K1456 v0 h = some o) : Run X (d + 1) 125 263 [some (.ref v0), none] [] h (none, o) := by
  unfold f_X8_init_263 at hf
  refine rs_aload_n i_X8_init_263 rfl ?_
  refine rs_sipush i_X8_init_264 (v := 160) (by decide) ?_
  refine rs_newa i_X8_init_267 (by decide) ?_
  exact r_X8_init_269 hd HK1456 hf
noncomputable def f_X8_init_260 (n : Nat) (K1456 : Nat → Hp → Option Hp) (v0 : Nat) (s0 : Nat) (s1 : Nat) (h : Hp) : Option Hp :=
  if okO h s0 8 then
  if 16 ≤ s1 then
  f_X8_init_263 n K1456 v0 (hsr h s0 23 (some s1))
  else none
  else none
set_option maxRecDepth 100000 in
set_option maxHeartbeats 4000000 in
theorem r_X8_init_260 {X : Nat → Int32} {d : Nat} (hd : 5 ≤ (d + 1)) {n : Nat} {K1456 : Nat → Hp → Option Hp} (HK1456 : ∀ (v0 : Nat) (h : Hp) (o : Hp), K1456 v0 h = some o → Run X (d + 1) 125 1456 [some (.ref v0), none] [] h (none, o)) {v0 : Nat} {s0 : Nat} {s1 : Nat} {h : Hp} {o : Hp} (hf : f_X8_init_260 n K1456 v0 s0 s1 h = some o) : Run X (d + 1) 125 260 [some (.ref v0), none] [.ref s1, .ref s0] h (none, o) := by
  unfold f_X8_init_260 at hf
  obtain ⟨c1, hf⟩ := ite_some hf
  obtain ⟨c2, hf⟩ := ite_some hf
  refine rs_putR i_X8_init_260 (by decide) c2 c1 ?_
  exact r_X8_init_263 hd HK1456 hf
noncomputable def f_X8_init_256 (n : Nat) (K1456 : Nat → Hp → Option Hp) (v0 : Nat) (h : Hp) : Option Hp :=
  f_X8_init_260 n K1456 v0 v0 h.1.length (hnew h (9, ix 4))
set_option maxRecDepth 100000 in
set_option maxHeartbeats 4000000 in
theorem r_X8_init_256 {X : Nat → Int32} {d : Nat} (hd : 5 ≤ (d + 1)) {n : Nat} {K1456 : Nat → Hp → Option Hp} (HK1456 : ∀ (v0 : Nat) (h : Hp) (o : Hp), K1456 v0 h = some o → Run X (d + 1) 125 1456 [some (.ref v0), none] [] h (none, o)) {v0 : Nat} {h : Hp} {o : Hp} (hf : f_X8_init_256 n K1456 v0 h = some o) : Run X (d + 1) 125 256 [some (.ref v0), none] [] h (none, o) := by
  unfold f_X8_init_256 at hf
  refine rs_aload_n i_X8_init_256 rfl ?_
  refine rs_iconst i_X8_init_257 (v := 4) (by decide) ?_
  refine rs_newa i_X8_init_258 (by decide) ?_
  exact r_X8_init_260 hd HK1456 hf
noncomputable def f_X8_init_253 (n : Nat) (K1456 : Nat → Hp → Option Hp) (v0 : Nat) (s0 : Nat) (s1 : Nat) (h : Hp) : Option Hp :=
  if okO h s0 8 then
  if 16 ≤ s1 then
  f_X8_init_256 n K1456 v0 (hsr h s0 22 (some s1))
  else none
  else none
set_option maxRecDepth 100000 in
set_option maxHeartbeats 4000000 in
theorem r_X8_init_253 {X : Nat → Int32} {d : Nat} (hd : 5 ≤ (d + 1)) {n : Nat} {K1456 : Nat → Hp → Option Hp} (HK1456 : ∀ (v0 : Nat) (h : Hp) (o : Hp), K1456 v0 h = some o → Run X (d + 1) 125 1456 [some (.ref v0), none] [] h (none, o)) {v0 : Nat} {s0 : Nat} {s1 : Nat} {h : Hp} {o : Hp} (hf : f_X8_init_253 n K1456 v0 s0 s1 h = some o) : Run X (d + 1) 125 253 [some (.ref v0), none] [.ref s1, .ref s0] h (none, o) := by
  unfold f_X8_init_253 at hf
  obtain ⟨c1, hf⟩ := ite_some hf
  obtain ⟨c2, hf⟩ := ite_some hf
  refine rs_putR i_X8_init_253 (by decide) c2 c1 ?_
  exact r_X8_init_256 hd HK1456 hf
noncomputable def f_X8_init_249 (n : Nat) (K1456 : Nat → Hp → Option Hp) (v0 : Nat) (s0 : Nat) (s1 : Nat) (h : Hp) : Option Hp :=
  if okI h s1 3 then
  f_X8_init_253 n K1456 v0 s0 s1 (hsi h s1 (ix 3) (-1))
  else none
set_option maxRecDepth 100000 in
set_option maxHeartbeats 4000000 in
theorem r_X8_init_249 {X : Nat → Int32} {d : Nat} (hd : 5 ≤ (d + 1)) {n : Nat} {K1456 : Nat → Hp → Option Hp} (HK1456 : ∀ (v0 : Nat) (h : Hp) (o : Hp), K1456 v0 h = some o → Run X (d + 1) 125 1456 [some (.ref v0), none] [] h (none, o)) {v0 : Nat} {s0 : Nat} {s1 : Nat} {h : Hp} {o : Hp} (hf : f_X8_init_249 n K1456 v0 s0 s1 h = some o) : Run X (d + 1) 125 249 [some (.ref v0), none] [.ref s1, .ref s0] h (none, o) := by
  unfold f_X8_init_249 at hf
  refine rs_dup i_X8_init_249 rfl ?_
  refine rs_iconst i_X8_init_250 (v := 3) (by decide) ?_
  refine rs_iconst i_X8_init_251 (v := (-1)) (by decide) ?_
  obtain ⟨c1, hf⟩ := ite_some hf
  refine rs_iast i_X8_init_252 c1 ?_
  exact r_X8_init_253 hd HK1456 hf
noncomputable def f_X8_init_245 (n : Nat) (K1456 : Nat → Hp → Option Hp) (v0 : Nat) (s0 : Nat) (s1 : Nat) (h : Hp) : Option Hp :=
  if okI h s1 2 then
  f_X8_init_249 n K1456 v0 s0 s1 (hsi h s1 (ix 2) (-1))
  else none
set_option maxRecDepth 100000 in
set_option maxHeartbeats 4000000 in
theorem r_X8_init_245 {X : Nat → Int32} {d : Nat} (hd : 5 ≤ (d + 1)) {n : Nat} {K1456 : Nat → Hp → Option Hp} (HK1456 : ∀ (v0 : Nat) (h : Hp) (o : Hp), K1456 v0 h = some o → Run X (d + 1) 125 1456 [some (.ref v0), none] [] h (none, o)) {v0 : Nat} {s0 : Nat} {s1 : Nat} {h : Hp} {o : Hp} (hf : f_X8_init_245 n K1456 v0 s0 s1 h = some o) : Run X (d + 1) 125 245 [some (.ref v0), none] [.ref s1, .ref s0] h (none, o) := by
  unfold f_X8_init_245 at hf
  refine rs_dup i_X8_init_245 rfl ?_
  refine rs_iconst i_X8_init_246 (v := 2) (by decide) ?_
  refine rs_iconst i_X8_init_247 (v := (-1)) (by decide) ?_
  obtain ⟨c1, hf⟩ := ite_some hf
  refine rs_iast i_X8_init_248 c1 ?_
  exact r_X8_init_249 hd HK1456 hf
noncomputable def f_X8_init_241 (n : Nat) (K1456 : Nat → Hp → Option Hp) (v0 : Nat) (s0 : Nat) (s1 : Nat) (h : Hp) : Option Hp :=
  if okI h s1 1 then
  f_X8_init_245 n K1456 v0 s0 s1 (hsi h s1 (ix 1) (-1))
  else none
set_option maxRecDepth 100000 in
set_option maxHeartbeats 4000000 in
theorem r_X8_init_241 {X : Nat → Int32} {d : Nat} (hd : 5 ≤ (d + 1)) {n : Nat} {K1456 : Nat → Hp → Option Hp} (HK1456 : ∀ (v0 : Nat) (h : Hp) (o : Hp), K1456 v0 h = some o → Run X (d + 1) 125 1456 [some (.ref v0), none] [] h (none, o)) {v0 : Nat} {s0 : Nat} {s1 : Nat} {h : Hp} {o : Hp} (hf : f_X8_init_241 n K1456 v0 s0 s1 h = some o) : Run X (d + 1) 125 241 [some (.ref v0), none] [.ref s1, .ref s0] h (none, o) := by
  unfold f_X8_init_241 at hf
  refine rs_dup i_X8_init_241 rfl ?_
  refine rs_iconst i_X8_init_242 (v := 1) (by decide) ?_
  refine rs_iconst i_X8_init_243 (v := (-1)) (by decide) ?_
  obtain ⟨c1, hf⟩ := ite_some hf
  refine rs_iast i_X8_init_244 c1 ?_
  exact r_X8_init_245 hd HK1456 hf
noncomputable def f_X8_init_237 (n : Nat) (K1456 : Nat → Hp → Option Hp) (v0 : Nat) (s0 : Nat) (s1 : Nat) (h : Hp) : Option Hp :=
  if okI h s1 0 then
  f_X8_init_241 n K1456 v0 s0 s1 (hsi h s1 (ix 0) (-1))
  else none
set_option maxRecDepth 100000 in
set_option maxHeartbeats 4000000 in
theorem r_X8_init_237 {X : Nat → Int32} {d : Nat} (hd : 5 ≤ (d + 1)) {n : Nat} {K1456 : Nat → Hp → Option Hp} (HK1456 : ∀ (v0 : Nat) (h : Hp) (o : Hp), K1456 v0 h = some o → Run X (d + 1) 125 1456 [some (.ref v0), none] [] h (none, o)) {v0 : Nat} {s0 : Nat} {s1 : Nat} {h : Hp} {o : Hp} (hf : f_X8_init_237 n K1456 v0 s0 s1 h = some o) : Run X (d + 1) 125 237 [some (.ref v0), none] [.ref s1, .ref s0] h (none, o) := by
  unfold f_X8_init_237 at hf
  refine rs_dup i_X8_init_237 rfl ?_
  refine rs_iconst i_X8_init_238 (v := 0) (by decide) ?_
  refine rs_iconst i_X8_init_239 (v := (-1)) (by decide) ?_
  obtain ⟨c1, hf⟩ := ite_some hf
  refine rs_iast i_X8_init_240 c1 ?_
  exact r_X8_init_241 hd HK1456 hf
noncomputable def f_X8_init_233 (n : Nat) (K1456 : Nat → Hp → Option Hp) (v0 : Nat) (h : Hp) : Option Hp :=
  f_X8_init_237 n K1456 v0 v0 h.1.length (hnew h (9, ix 4))
set_option maxRecDepth 100000 in
set_option maxHeartbeats 4000000 in
theorem r_X8_init_233 {X : Nat → Int32} {d : Nat} (hd : 5 ≤ (d + 1)) {n : Nat} {K1456 : Nat → Hp → Option Hp} (HK1456 : ∀ (v0 : Nat) (h : Hp) (o : Hp), K1456 v0 h = some o → Run X (d + 1) 125 1456 [some (.ref v0), none] [] h (none, o)) {v0 : Nat} {h : Hp} {o : Hp} (hf : f_X8_init_233 n K1456 v0 h = some o) : Run X (d + 1) 125 233 [some (.ref v0), none] [] h (none, o) := by
  unfold f_X8_init_233 at hf
  refine rs_aload_n i_X8_init_233 rfl ?_
  refine rs_iconst i_X8_init_234 (v := 4) (by decide) ?_
  refine rs_newa i_X8_init_235 (by decide) ?_
  exact r_X8_init_237 hd HK1456 hf
noncomputable def f_X8_init_230 (n : Nat) (K1456 : Nat → Hp → Option Hp) (v0 : Nat) (s0 : Nat) (s1 : Nat) (h : Hp) : Option Hp :=
  if okO h s0 8 then
  if 16 ≤ s1 then
  f_X8_init_233 n K1456 v0 (hsr h s0 21 (some s1))
  else none
  else none
set_option maxRecDepth 100000 in
set_option maxHeartbeats 4000000 in
theorem r_X8_init_230 {X : Nat → Int32} {d : Nat} (hd : 5 ≤ (d + 1)) {n : Nat} {K1456 : Nat → Hp → Option Hp} (HK1456 : ∀ (v0 : Nat) (h : Hp) (o : Hp), K1456 v0 h = some o → Run X (d + 1) 125 1456 [some (.ref v0), none] [] h (none, o)) {v0 : Nat} {s0 : Nat} {s1 : Nat} {h : Hp} {o : Hp} (hf : f_X8_init_230 n K1456 v0 s0 s1 h = some o) : Run X (d + 1) 125 230 [some (.ref v0), none] [.ref s1, .ref s0] h (none, o) := by
  unfold f_X8_init_230 at hf
  obtain ⟨c1, hf⟩ := ite_some hf
  obtain ⟨c2, hf⟩ := ite_some hf
  refine rs_putR i_X8_init_230 (by decide) c2 c1 ?_
  exact r_X8_init_233 hd HK1456 hf
noncomputable def f_X8_init_225 (n : Nat) (K1456 : Nat → Hp → Option Hp) (v0 : Nat) (h : Hp) : Option Hp :=
  f_X8_init_230 n K1456 v0 v0 h.1.length (hnew h (9, ix 12))
set_option maxRecDepth 100000 in
set_option maxHeartbeats 4000000 in
theorem r_X8_init_225 {X : Nat → Int32} {d : Nat} (hd : 5 ≤ (d + 1)) {n : Nat} {K1456 : Nat → Hp → Option Hp} (HK1456 : ∀ (v0 : Nat) (h : Hp) (o : Hp), K1456 v0 h = some o → Run X (d + 1) 125 1456 [some (.ref v0), none] [] h (none, o)) {v0 : Nat} {h : Hp} {o : Hp} (hf : f_X8_init_225 n K1456 v0 h = some o) : Run X (d + 1) 125 225 [some (.ref v0), none] [] h (none, o) := by
  unfold f_X8_init_225 at hf
  refine rs_aload_n i_X8_init_225 rfl ?_
  refine rs_bipush i_X8_init_226 (v := 12) (by decide) ?_
  refine rs_newa i_X8_init_228 (by decide) ?_
  exact r_X8_init_230 hd HK1456 hf
noncomputable def f_X8_init_222 (n : Nat) (K1456 : Nat → Hp → Option Hp) (v0 : Nat) (s0 : Nat) (s1 : Nat) (h : Hp) : Option Hp :=
  if okO h s0 8 then
  if 16 ≤ s1 then
  f_X8_init_225 n K1456 v0 (hsr h s0 20 (some s1))
  else none
  else none
set_option maxRecDepth 100000 in
set_option maxHeartbeats 4000000 in
theorem r_X8_init_222 {X : Nat → Int32} {d : Nat} (hd : 5 ≤ (d + 1)) {n : Nat} {K1456 : Nat → Hp → Option Hp} (HK1456 : ∀ (v0 : Nat) (h : Hp) (o : Hp), K1456 v0 h = some o → Run X (d + 1) 125 1456 [some (.ref v0), none] [] h (none, o)) {v0 : Nat} {s0 : Nat} {s1 : Nat} {h : Hp} {o : Hp} (hf : f_X8_init_222 n K1456 v0 s0 s1 h = some o) : Run X (d + 1) 125 222 [some (.ref v0), none] [.ref s1, .ref s0] h (none, o) := by
  unfold f_X8_init_222 at hf
  obtain ⟨c1, hf⟩ := ite_some hf
  obtain ⟨c2, hf⟩ := ite_some hf
  refine rs_putR i_X8_init_222 (by decide) c2 c1 ?_
  exact r_X8_init_225 hd HK1456 hf
noncomputable def f_X8_init_217 (n : Nat) (K1456 : Nat → Hp → Option Hp) (v0 : Nat) (h : Hp) : Option Hp :=
  f_X8_init_222 n K1456 v0 v0 h.1.length (hnew h (9, ix 12))
set_option maxRecDepth 100000 in
set_option maxHeartbeats 4000000 in
theorem r_X8_init_217 {X : Nat → Int32} {d : Nat} (hd : 5 ≤ (d + 1)) {n : Nat} {K1456 : Nat → Hp → Option Hp} (HK1456 : ∀ (v0 : Nat) (h : Hp) (o : Hp), K1456 v0 h = some o → Run X (d + 1) 125 1456 [some (.ref v0), none] [] h (none, o)) {v0 : Nat} {h : Hp} {o : Hp} (hf : f_X8_init_217 n K1456 v0 h = some o) : Run X (d + 1) 125 217 [some (.ref v0), none] [] h (none, o) := by
  unfold f_X8_init_217 at hf
  refine rs_aload_n i_X8_init_217 rfl ?_
  refine rs_bipush i_X8_init_218 (v := 12) (by decide) ?_
  refine rs_newa i_X8_init_220 (by decide) ?_
  exact r_X8_init_222 hd HK1456 hf
noncomputable def f_X8_init_214 (n : Nat) (K1456 : Nat → Hp → Option Hp) (v0 : Nat) (s0 : Nat) (s1 : Nat) (h : Hp) : Option Hp :=
  if okO h s0 8 then
  if 16 ≤ s1 then
  f_X8_init_217 n K1456 v0 (hsr h s0 12 (some s1))
  else none
  else none
set_option maxRecDepth 100000 in
set_option maxHeartbeats 4000000 in
theorem r_X8_init_214 {X : Nat → Int32} {d : Nat} (hd : 5 ≤ (d + 1)) {n : Nat} {K1456 : Nat → Hp → Option Hp} (HK1456 : ∀ (v0 : Nat) (h : Hp) (o : Hp), K1456 v0 h = some o → Run X (d + 1) 125 1456 [some (.ref v0), none] [] h (none, o)) {v0 : Nat} {s0 : Nat} {s1 : Nat} {h : Hp} {o : Hp} (hf : f_X8_init_214 n K1456 v0 s0 s1 h = some o) : Run X (d + 1) 125 214 [some (.ref v0), none] [.ref s1, .ref s0] h (none, o) := by
  unfold f_X8_init_214 at hf
  obtain ⟨c1, hf⟩ := ite_some hf
  obtain ⟨c2, hf⟩ := ite_some hf
  refine rs_putR i_X8_init_214 (by decide) c2 c1 ?_
  exact r_X8_init_217 hd HK1456 hf
noncomputable def f_X8_init_209 (n : Nat) (K1456 : Nat → Hp → Option Hp) (v0 : Nat) (h : Hp) : Option Hp :=
  f_X8_init_214 n K1456 v0 v0 h.1.length (hnew h (9, ix 24))
set_option maxRecDepth 100000 in
set_option maxHeartbeats 4000000 in
theorem r_X8_init_209 {X : Nat → Int32} {d : Nat} (hd : 5 ≤ (d + 1)) {n : Nat} {K1456 : Nat → Hp → Option Hp} (HK1456 : ∀ (v0 : Nat) (h : Hp) (o : Hp), K1456 v0 h = some o → Run X (d + 1) 125 1456 [some (.ref v0), none] [] h (none, o)) {v0 : Nat} {h : Hp} {o : Hp} (hf : f_X8_init_209 n K1456 v0 h = some o) : Run X (d + 1) 125 209 [some (.ref v0), none] [] h (none, o) := by
  unfold f_X8_init_209 at hf
  refine rs_aload_n i_X8_init_209 rfl ?_
  refine rs_bipush i_X8_init_210 (v := 24) (by decide) ?_
  refine rs_newa i_X8_init_212 (by decide) ?_
  exact r_X8_init_214 hd HK1456 hf
noncomputable def f_X8_init_206 (n : Nat) (K1456 : Nat → Hp → Option Hp) (v0 : Nat) (s0 : Nat) (s1 : Nat) (h : Hp) : Option Hp :=
  if okO h s0 8 then
  if 16 ≤ s1 then
  f_X8_init_209 n K1456 v0 (hsr h s0 11 (some s1))
  else none
  else none
set_option maxRecDepth 100000 in
set_option maxHeartbeats 4000000 in
theorem r_X8_init_206 {X : Nat → Int32} {d : Nat} (hd : 5 ≤ (d + 1)) {n : Nat} {K1456 : Nat → Hp → Option Hp} (HK1456 : ∀ (v0 : Nat) (h : Hp) (o : Hp), K1456 v0 h = some o → Run X (d + 1) 125 1456 [some (.ref v0), none] [] h (none, o)) {v0 : Nat} {s0 : Nat} {s1 : Nat} {h : Hp} {o : Hp} (hf : f_X8_init_206 n K1456 v0 s0 s1 h = some o) : Run X (d + 1) 125 206 [some (.ref v0), none] [.ref s1, .ref s0] h (none, o) := by
  unfold f_X8_init_206 at hf
  obtain ⟨c1, hf⟩ := ite_some hf
  obtain ⟨c2, hf⟩ := ite_some hf
  refine rs_putR i_X8_init_206 (by decide) c2 c1 ?_
  exact r_X8_init_209 hd HK1456 hf
noncomputable def f_X8_init_200 (n : Nat) (K1456 : Nat → Hp → Option Hp) (v0 : Nat) (h : Hp) : Option Hp :=
  f_X8_init_206 n K1456 v0 v0 h.1.length (hnew h (9, ix 1200))
set_option maxRecDepth 100000 in
set_option maxHeartbeats 4000000 in
theorem r_X8_init_200 {X : Nat → Int32} {d : Nat} (hd : 5 ≤ (d + 1)) {n : Nat} {K1456 : Nat → Hp → Option Hp} (HK1456 : ∀ (v0 : Nat) (h : Hp) (o : Hp), K1456 v0 h = some o → Run X (d + 1) 125 1456 [some (.ref v0), none] [] h (none, o)) {v0 : Nat} {h : Hp} {o : Hp} (hf : f_X8_init_200 n K1456 v0 h = some o) : Run X (d + 1) 125 200 [some (.ref v0), none] [] h (none, o) := by
  unfold f_X8_init_200 at hf
  refine rs_aload_n i_X8_init_200 rfl ?_
  refine rs_sipush i_X8_init_201 (v := 1200) (by decide) ?_
  refine rs_newa i_X8_init_204 (by decide) ?_
  exact r_X8_init_206 hd HK1456 hf
noncomputable def f_X8_init_197 (n : Nat) (K1456 : Nat → Hp → Option Hp) (v0 : Nat) (s0 : Nat) (s1 : Nat) (h : Hp) : Option Hp :=
  if okO h s0 8 then
  if 16 ≤ s1 then
  f_X8_init_200 n K1456 v0 (hsr h s0 9 (some s1))
  else none
  else none
set_option maxRecDepth 100000 in
set_option maxHeartbeats 4000000 in
theorem r_X8_init_197 {X : Nat → Int32} {d : Nat} (hd : 5 ≤ (d + 1)) {n : Nat} {K1456 : Nat → Hp → Option Hp} (HK1456 : ∀ (v0 : Nat) (h : Hp) (o : Hp), K1456 v0 h = some o → Run X (d + 1) 125 1456 [some (.ref v0), none] [] h (none, o)) {v0 : Nat} {s0 : Nat} {s1 : Nat} {h : Hp} {o : Hp} (hf : f_X8_init_197 n K1456 v0 s0 s1 h = some o) : Run X (d + 1) 125 197 [some (.ref v0), none] [.ref s1, .ref s0] h (none, o) := by
  unfold f_X8_init_197 at hf
  obtain ⟨c1, hf⟩ := ite_some hf
  obtain ⟨c2, hf⟩ := ite_some hf
  refine rs_putR i_X8_init_197 (by decide) c2 c1 ?_
  exact r_X8_init_200 hd HK1456 hf
noncomputable def f_X8_init_191 (n : Nat) (K1456 : Nat → Hp → Option Hp) (v0 : Nat) (h : Hp) : Option Hp :=
  f_X8_init_197 n K1456 v0 v0 h.1.length (hnew h (9, ix 160))
set_option maxRecDepth 100000 in
set_option maxHeartbeats 4000000 in
theorem r_X8_init_191 {X : Nat → Int32} {d : Nat} (hd : 5 ≤ (d + 1)) {n : Nat} {K1456 : Nat → Hp → Option Hp} (HK1456 : ∀ (v0 : Nat) (h : Hp) (o : Hp), K1456 v0 h = some o → Run X (d + 1) 125 1456 [some (.ref v0), none] [] h (none, o)) {v0 : Nat} {h : Hp} {o : Hp} (hf : f_X8_init_191 n K1456 v0 h = some o) : Run X (d + 1) 125 191 [some (.ref v0), none] [] h (none, o) := by
  unfold f_X8_init_191 at hf
  refine rs_aload_n i_X8_init_191 rfl ?_
  refine rs_sipush i_X8_init_192 (v := 160) (by decide) ?_
  refine rs_newa i_X8_init_195 (by decide) ?_
  exact r_X8_init_197 hd HK1456 hf
noncomputable def f_X8_init_188 (n : Nat) (K1456 : Nat → Hp → Option Hp) (v0 : Nat) (s0 : Nat) (s1 : Nat) (h : Hp) : Option Hp :=
  if okO h s0 8 then
  if 16 ≤ s1 then
  f_X8_init_191 n K1456 v0 (hsr h s0 8 (some s1))
  else none
  else none
set_option maxRecDepth 100000 in
set_option maxHeartbeats 4000000 in
theorem r_X8_init_188 {X : Nat → Int32} {d : Nat} (hd : 5 ≤ (d + 1)) {n : Nat} {K1456 : Nat → Hp → Option Hp} (HK1456 : ∀ (v0 : Nat) (h : Hp) (o : Hp), K1456 v0 h = some o → Run X (d + 1) 125 1456 [some (.ref v0), none] [] h (none, o)) {v0 : Nat} {s0 : Nat} {s1 : Nat} {h : Hp} {o : Hp} (hf : f_X8_init_188 n K1456 v0 s0 s1 h = some o) : Run X (d + 1) 125 188 [some (.ref v0), none] [.ref s1, .ref s0] h (none, o) := by
  unfold f_X8_init_188 at hf
  obtain ⟨c1, hf⟩ := ite_some hf
  obtain ⟨c2, hf⟩ := ite_some hf
  refine rs_putR i_X8_init_188 (by decide) c2 c1 ?_
  exact r_X8_init_191 hd HK1456 hf
noncomputable def f_X8_init_183 (n : Nat) (K1456 : Nat → Hp → Option Hp) (v0 : Nat) (h : Hp) : Option Hp :=
  f_X8_init_188 n K1456 v0 v0 h.1.length (hnew h (9, ix 12))
set_option maxRecDepth 100000 in
set_option maxHeartbeats 4000000 in
theorem r_X8_init_183 {X : Nat → Int32} {d : Nat} (hd : 5 ≤ (d + 1)) {n : Nat} {K1456 : Nat → Hp → Option Hp} (HK1456 : ∀ (v0 : Nat) (h : Hp) (o : Hp), K1456 v0 h = some o → Run X (d + 1) 125 1456 [some (.ref v0), none] [] h (none, o)) {v0 : Nat} {h : Hp} {o : Hp} (hf : f_X8_init_183 n K1456 v0 h = some o) : Run X (d + 1) 125 183 [some (.ref v0), none] [] h (none, o) := by
  unfold f_X8_init_183 at hf
  refine rs_aload_n i_X8_init_183 rfl ?_
  refine rs_bipush i_X8_init_184 (v := 12) (by decide) ?_
  refine rs_newa i_X8_init_186 (by decide) ?_
  exact r_X8_init_188 hd HK1456 hf
noncomputable def f_X8_init_180 (n : Nat) (K1456 : Nat → Hp → Option Hp) (v0 : Nat) (s0 : Nat) (s1 : Nat) (h : Hp) : Option Hp :=
  if okO h s0 8 then
  if 16 ≤ s1 then
  f_X8_init_183 n K1456 v0 (hsr h s0 7 (some s1))
  else none
  else none
set_option maxRecDepth 100000 in
set_option maxHeartbeats 4000000 in
theorem r_X8_init_180 {X : Nat → Int32} {d : Nat} (hd : 5 ≤ (d + 1)) {n : Nat} {K1456 : Nat → Hp → Option Hp} (HK1456 : ∀ (v0 : Nat) (h : Hp) (o : Hp), K1456 v0 h = some o → Run X (d + 1) 125 1456 [some (.ref v0), none] [] h (none, o)) {v0 : Nat} {s0 : Nat} {s1 : Nat} {h : Hp} {o : Hp} (hf : f_X8_init_180 n K1456 v0 s0 s1 h = some o) : Run X (d + 1) 125 180 [some (.ref v0), none] [.ref s1, .ref s0] h (none, o) := by
  unfold f_X8_init_180 at hf
  obtain ⟨c1, hf⟩ := ite_some hf
  obtain ⟨c2, hf⟩ := ite_some hf
  refine rs_putR i_X8_init_180 (by decide) c2 c1 ?_
  exact r_X8_init_183 hd HK1456 hf
noncomputable def f_X8_init_175 (n : Nat) (K1456 : Nat → Hp → Option Hp) (v0 : Nat) (h : Hp) : Option Hp :=
  f_X8_init_180 n K1456 v0 v0 h.1.length (hnew h (9, ix 12))
set_option maxRecDepth 100000 in
set_option maxHeartbeats 4000000 in
theorem r_X8_init_175 {X : Nat → Int32} {d : Nat} (hd : 5 ≤ (d + 1)) {n : Nat} {K1456 : Nat → Hp → Option Hp} (HK1456 : ∀ (v0 : Nat) (h : Hp) (o : Hp), K1456 v0 h = some o → Run X (d + 1) 125 1456 [some (.ref v0), none] [] h (none, o)) {v0 : Nat} {h : Hp} {o : Hp} (hf : f_X8_init_175 n K1456 v0 h = some o) : Run X (d + 1) 125 175 [some (.ref v0), none] [] h (none, o) := by
  unfold f_X8_init_175 at hf
  refine rs_aload_n i_X8_init_175 rfl ?_
  refine rs_bipush i_X8_init_176 (v := 12) (by decide) ?_
  refine rs_newa i_X8_init_178 (by decide) ?_
  exact r_X8_init_180 hd HK1456 hf
noncomputable def f_X8_init_172 (n : Nat) (K1456 : Nat → Hp → Option Hp) (v0 : Nat) (s0 : Nat) (s1 : Nat) (h : Hp) : Option Hp :=
  if okO h s0 8 then
  if 16 ≤ s1 then
  f_X8_init_175 n K1456 v0 (hsr h s0 6 (some s1))
  else none
  else none
set_option maxRecDepth 100000 in
set_option maxHeartbeats 4000000 in
theorem r_X8_init_172 {X : Nat → Int32} {d : Nat} (hd : 5 ≤ (d + 1)) {n : Nat} {K1456 : Nat → Hp → Option Hp} (HK1456 : ∀ (v0 : Nat) (h : Hp) (o : Hp), K1456 v0 h = some o → Run X (d + 1) 125 1456 [some (.ref v0), none] [] h (none, o)) {v0 : Nat} {s0 : Nat} {s1 : Nat} {h : Hp} {o : Hp} (hf : f_X8_init_172 n K1456 v0 s0 s1 h = some o) : Run X (d + 1) 125 172 [some (.ref v0), none] [.ref s1, .ref s0] h (none, o) := by
  unfold f_X8_init_172 at hf
  obtain ⟨c1, hf⟩ := ite_some hf
  obtain ⟨c2, hf⟩ := ite_some hf
  refine rs_putR i_X8_init_172 (by decide) c2 c1 ?_
  exact r_X8_init_175 hd HK1456 hf
noncomputable def f_X8_init_167 (n : Nat) (K1456 : Nat → Hp → Option Hp) (v0 : Nat) (h : Hp) : Option Hp :=
  f_X8_init_172 n K1456 v0 v0 h.1.length (hnew h (9, ix 12))
set_option maxRecDepth 100000 in
set_option maxHeartbeats 4000000 in
theorem r_X8_init_167 {X : Nat → Int32} {d : Nat} (hd : 5 ≤ (d + 1)) {n : Nat} {K1456 : Nat → Hp → Option Hp} (HK1456 : ∀ (v0 : Nat) (h : Hp) (o : Hp), K1456 v0 h = some o → Run X (d + 1) 125 1456 [some (.ref v0), none] [] h (none, o)) {v0 : Nat} {h : Hp} {o : Hp} (hf : f_X8_init_167 n K1456 v0 h = some o) : Run X (d + 1) 125 167 [some (.ref v0), none] [] h (none, o) := by
  unfold f_X8_init_167 at hf
  refine rs_aload_n i_X8_init_167 rfl ?_
  refine rs_bipush i_X8_init_168 (v := 12) (by decide) ?_
  refine rs_newa i_X8_init_170 (by decide) ?_
  exact r_X8_init_172 hd HK1456 hf
noncomputable def f_X8_init_162 (n : Nat) (K1456 : Nat → Hp → Option Hp) (v0 : Nat) (h : Hp) : Option Hp :=
  if okO h v0 8 then
  f_X8_init_167 n K1456 v0 (hsi h v0 4 5)
  else none
set_option maxRecDepth 100000 in
set_option maxHeartbeats 4000000 in
theorem r_X8_init_162 {X : Nat → Int32} {d : Nat} (hd : 5 ≤ (d + 1)) {n : Nat} {K1456 : Nat → Hp → Option Hp} (HK1456 : ∀ (v0 : Nat) (h : Hp) (o : Hp), K1456 v0 h = some o → Run X (d + 1) 125 1456 [some (.ref v0), none] [] h (none, o)) {v0 : Nat} {h : Hp} {o : Hp} (hf : f_X8_init_162 n K1456 v0 h = some o) : Run X (d + 1) 125 162 [some (.ref v0), none] [] h (none, o) := by
  unfold f_X8_init_162 at hf
  refine rs_aload_n i_X8_init_162 rfl ?_
  refine rs_iconst i_X8_init_163 (v := 5) (by decide) ?_
  obtain ⟨c1, hf⟩ := ite_some hf
  refine rs_putI i_X8_init_164 (by decide) c1 ?_
  exact r_X8_init_167 hd HK1456 hf
noncomputable def f_X8_init_157 (n : Nat) (K1456 : Nat → Hp → Option Hp) (v0 : Nat) (h : Hp) : Option Hp :=
  if okO h v0 8 then
  f_X8_init_162 n K1456 v0 (hsi h v0 3 2)
  else none
set_option maxRecDepth 100000 in
set_option maxHeartbeats 4000000 in
theorem r_X8_init_157 {X : Nat → Int32} {d : Nat} (hd : 5 ≤ (d + 1)) {n : Nat} {K1456 : Nat → Hp → Option Hp} (HK1456 : ∀ (v0 : Nat) (h : Hp) (o : Hp), K1456 v0 h = some o → Run X (d + 1) 125 1456 [some (.ref v0), none] [] h (none, o)) {v0 : Nat} {h : Hp} {o : Hp} (hf : f_X8_init_157 n K1456 v0 h = some o) : Run X (d + 1) 125 157 [some (.ref v0), none] [] h (none, o) := by
  unfold f_X8_init_157 at hf
  refine rs_aload_n i_X8_init_157 rfl ?_
  refine rs_iconst i_X8_init_158 (v := 2) (by decide) ?_
  obtain ⟨c1, hf⟩ := ite_some hf
  refine rs_putI i_X8_init_159 (by decide) c1 ?_
  exact r_X8_init_162 hd HK1456 hf
noncomputable def f_X8_init_152 (n : Nat) (K1456 : Nat → Hp → Option Hp) (v0 : Nat) (h : Hp) : Option Hp :=
  if okO h v0 8 then
  f_X8_init_157 n K1456 v0 (hsi h v0 2 5)
  else none
set_option maxRecDepth 100000 in
set_option maxHeartbeats 4000000 in
theorem r_X8_init_152 {X : Nat → Int32} {d : Nat} (hd : 5 ≤ (d + 1)) {n : Nat} {K1456 : Nat → Hp → Option Hp} (HK1456 : ∀ (v0 : Nat) (h : Hp) (o : Hp), K1456 v0 h = some o → Run X (d + 1) 125 1456 [some (.ref v0), none] [] h (none, o)) {v0 : Nat} {h : Hp} {o : Hp} (hf : f_X8_init_152 n K1456 v0 h = some o) : Run X (d + 1) 125 152 [some (.ref v0), none] [] h (none, o) := by
  unfold f_X8_init_152 at hf
  refine rs_aload_n i_X8_init_152 rfl ?_
  refine rs_iconst i_X8_init_153 (v := 5) (by decide) ?_
  obtain ⟨c1, hf⟩ := ite_some hf
  refine rs_putI i_X8_init_154 (by decide) c1 ?_
  exact r_X8_init_157 hd HK1456 hf
noncomputable def f_X8_init_149 (n : Nat) (K1456 : Nat → Hp → Option Hp) (v0 : Nat) (s0 : Nat) (s1 : Nat) (h : Hp) : Option Hp :=
  if okO h s0 8 then
  if 16 ≤ s1 then
  f_X8_init_152 n K1456 v0 (hsr h s0 1 (some s1))
  else none
  else none
set_option maxRecDepth 100000 in
set_option maxHeartbeats 4000000 in
theorem r_X8_init_149 {X : Nat → Int32} {d : Nat} (hd : 5 ≤ (d + 1)) {n : Nat} {K1456 : Nat → Hp → Option Hp} (HK1456 : ∀ (v0 : Nat) (h : Hp) (o : Hp), K1456 v0 h = some o → Run X (d + 1) 125 1456 [some (.ref v0), none] [] h (none, o)) {v0 : Nat} {s0 : Nat} {s1 : Nat} {h : Hp} {o : Hp} (hf : f_X8_init_149 n K1456 v0 s0 s1 h = some o) : Run X (d + 1) 125 149 [some (.ref v0), none] [.ref s1, .ref s0] h (none, o) := by
  unfold f_X8_init_149 at hf
  obtain ⟨c1, hf⟩ := ite_some hf
  obtain ⟨c2, hf⟩ := ite_some hf
  refine rs_putR i_X8_init_149 (by decide) c2 c1 ?_
  exact r_X8_init_152 hd HK1456 hf
noncomputable def f_X8_init_143 (n : Nat) (K1456 : Nat → Hp → Option Hp) (v0 : Nat) (s0 : Nat) (s1 : Nat) (h : Hp) : Option Hp :=
  if okI h s1 11 then
  f_X8_init_149 n K1456 v0 s0 s1 (hsi h s1 (ix 11) 100)
  else none
set_option maxRecDepth 100000 in
set_option maxHeartbeats 4000000 in
theorem r_X8_init_143 {X : Nat → Int32} {d : Nat} (hd : 5 ≤ (d + 1)) {n : Nat} {K1456 : Nat → Hp → Option Hp} (HK1456 : ∀ (v0 : Nat) (h : Hp) (o : Hp), K1456 v0 h = some o → Run X (d + 1) 125 1456 [some (.ref v0), none] [] h (none, o)) {v0 : Nat} {s0 : Nat} {s1 : Nat} {h : Hp} {o : Hp} (hf : f_X8_init_143 n K1456 v0 s0 s1 h = some o) : Run X (d + 1) 125 143 [some (.ref v0), none] [.ref s1, .ref s0] h (none, o) := by
  unfold f_X8_init_143 at hf
  refine rs_dup i_X8_init_143 rfl ?_
  refine rs_bipush i_X8_init_144 (v := 11) (by decide) ?_
  refine rs_bipush i_X8_init_146 (v := 100) (by decide) ?_
  obtain ⟨c1, hf⟩ := ite_some hf
  refine rs_iast i_X8_init_148 c1 ?_
  exact r_X8_init_149 hd HK1456 hf
noncomputable def f_X8_init_137 (n : Nat) (K1456 : Nat → Hp → Option Hp) (v0 : Nat) (s0 : Nat) (s1 : Nat) (h : Hp) : Option Hp :=
  if okI h s1 10 then
  f_X8_init_143 n K1456 v0 s0 s1 (hsi h s1 (ix 10) 100)
  else none
set_option maxRecDepth 100000 in
set_option maxHeartbeats 4000000 in
theorem r_X8_init_137 {X : Nat → Int32} {d : Nat} (hd : 5 ≤ (d + 1)) {n : Nat} {K1456 : Nat → Hp → Option Hp} (HK1456 : ∀ (v0 : Nat) (h : Hp) (o : Hp), K1456 v0 h = some o → Run X (d + 1) 125 1456 [some (.ref v0), none] [] h (none, o)) {v0 : Nat} {s0 : Nat} {s1 : Nat} {h : Hp} {o : Hp} (hf : f_X8_init_137 n K1456 v0 s0 s1 h = some o) : Run X (d + 1) 125 137 [some (.ref v0), none] [.ref s1, .ref s0] h (none, o) := by
  unfold f_X8_init_137 at hf
  refine rs_dup i_X8_init_137 rfl ?_
  refine rs_bipush i_X8_init_138 (v := 10) (by decide) ?_
  refine rs_bipush i_X8_init_140 (v := 100) (by decide) ?_
  obtain ⟨c1, hf⟩ := ite_some hf
  refine rs_iast i_X8_init_142 c1 ?_
  exact r_X8_init_143 hd HK1456 hf
noncomputable def f_X8_init_131 (n : Nat) (K1456 : Nat → Hp → Option Hp) (v0 : Nat) (s0 : Nat) (s1 : Nat) (h : Hp) : Option Hp :=
  if okI h s1 9 then
  f_X8_init_137 n K1456 v0 s0 s1 (hsi h s1 (ix 9) 100)
  else none
set_option maxRecDepth 100000 in
set_option maxHeartbeats 4000000 in
theorem r_X8_init_131 {X : Nat → Int32} {d : Nat} (hd : 5 ≤ (d + 1)) {n : Nat} {K1456 : Nat → Hp → Option Hp} (HK1456 : ∀ (v0 : Nat) (h : Hp) (o : Hp), K1456 v0 h = some o → Run X (d + 1) 125 1456 [some (.ref v0), none] [] h (none, o)) {v0 : Nat} {s0 : Nat} {s1 : Nat} {h : Hp} {o : Hp} (hf : f_X8_init_131 n K1456 v0 s0 s1 h = some o) : Run X (d + 1) 125 131 [some (.ref v0), none] [.ref s1, .ref s0] h (none, o) := by
  unfold f_X8_init_131 at hf
  refine rs_dup i_X8_init_131 rfl ?_
  refine rs_bipush i_X8_init_132 (v := 9) (by decide) ?_
  refine rs_bipush i_X8_init_134 (v := 100) (by decide) ?_
  obtain ⟨c1, hf⟩ := ite_some hf
  refine rs_iast i_X8_init_136 c1 ?_
  exact r_X8_init_137 hd HK1456 hf
noncomputable def f_X8_init_125 (n : Nat) (K1456 : Nat → Hp → Option Hp) (v0 : Nat) (s0 : Nat) (s1 : Nat) (h : Hp) : Option Hp :=
  if okI h s1 8 then
  f_X8_init_131 n K1456 v0 s0 s1 (hsi h s1 (ix 8) 100)
  else none
set_option maxRecDepth 100000 in
set_option maxHeartbeats 4000000 in
theorem r_X8_init_125 {X : Nat → Int32} {d : Nat} (hd : 5 ≤ (d + 1)) {n : Nat} {K1456 : Nat → Hp → Option Hp} (HK1456 : ∀ (v0 : Nat) (h : Hp) (o : Hp), K1456 v0 h = some o → Run X (d + 1) 125 1456 [some (.ref v0), none] [] h (none, o)) {v0 : Nat} {s0 : Nat} {s1 : Nat} {h : Hp} {o : Hp} (hf : f_X8_init_125 n K1456 v0 s0 s1 h = some o) : Run X (d + 1) 125 125 [some (.ref v0), none] [.ref s1, .ref s0] h (none, o) := by
  unfold f_X8_init_125 at hf
  refine rs_dup i_X8_init_125 rfl ?_
  refine rs_bipush i_X8_init_126 (v := 8) (by decide) ?_
  refine rs_bipush i_X8_init_128 (v := 100) (by decide) ?_
  obtain ⟨c1, hf⟩ := ite_some hf
  refine rs_iast i_X8_init_130 c1 ?_
  exact r_X8_init_131 hd HK1456 hf
noncomputable def f_X8_init_119 (n : Nat) (K1456 : Nat → Hp → Option Hp) (v0 : Nat) (s0 : Nat) (s1 : Nat) (h : Hp) : Option Hp :=
  if okI h s1 7 then
  f_X8_init_125 n K1456 v0 s0 s1 (hsi h s1 (ix 7) 100)
  else none
set_option maxRecDepth 100000 in
set_option maxHeartbeats 4000000 in
theorem r_X8_init_119 {X : Nat → Int32} {d : Nat} (hd : 5 ≤ (d + 1)) {n : Nat} {K1456 : Nat → Hp → Option Hp} (HK1456 : ∀ (v0 : Nat) (h : Hp) (o : Hp), K1456 v0 h = some o → Run X (d + 1) 125 1456 [some (.ref v0), none] [] h (none, o)) {v0 : Nat} {s0 : Nat} {s1 : Nat} {h : Hp} {o : Hp} (hf : f_X8_init_119 n K1456 v0 s0 s1 h = some o) : Run X (d + 1) 125 119 [some (.ref v0), none] [.ref s1, .ref s0] h (none, o) := by
  unfold f_X8_init_119 at hf
  refine rs_dup i_X8_init_119 rfl ?_
  refine rs_bipush i_X8_init_120 (v := 7) (by decide) ?_
  refine rs_bipush i_X8_init_122 (v := 100) (by decide) ?_
  obtain ⟨c1, hf⟩ := ite_some hf
  refine rs_iast i_X8_init_124 c1 ?_
  exact r_X8_init_125 hd HK1456 hf
noncomputable def f_X8_init_113 (n : Nat) (K1456 : Nat → Hp → Option Hp) (v0 : Nat) (s0 : Nat) (s1 : Nat) (h : Hp) : Option Hp :=
  if okI h s1 6 then
  f_X8_init_119 n K1456 v0 s0 s1 (hsi h s1 (ix 6) 100)
  else none
set_option maxRecDepth 100000 in
set_option maxHeartbeats 4000000 in
theorem r_X8_init_113 {X : Nat → Int32} {d : Nat} (hd : 5 ≤ (d + 1)) {n : Nat} {K1456 : Nat → Hp → Option Hp} (HK1456 : ∀ (v0 : Nat) (h : Hp) (o : Hp), K1456 v0 h = some o → Run X (d + 1) 125 1456 [some (.ref v0), none] [] h (none, o)) {v0 : Nat} {s0 : Nat} {s1 : Nat} {h : Hp} {o : Hp} (hf : f_X8_init_113 n K1456 v0 s0 s1 h = some o) : Run X (d + 1) 125 113 [some (.ref v0), none] [.ref s1, .ref s0] h (none, o) := by
  unfold f_X8_init_113 at hf
  refine rs_dup i_X8_init_113 rfl ?_
  refine rs_bipush i_X8_init_114 (v := 6) (by decide) ?_
  refine rs_bipush i_X8_init_116 (v := 100) (by decide) ?_
  obtain ⟨c1, hf⟩ := ite_some hf
  refine rs_iast i_X8_init_118 c1 ?_
  exact r_X8_init_119 hd HK1456 hf
noncomputable def f_X8_init_108 (n : Nat) (K1456 : Nat → Hp → Option Hp) (v0 : Nat) (s0 : Nat) (s1 : Nat) (h : Hp) : Option Hp :=
  if okI h s1 5 then
  f_X8_init_113 n K1456 v0 s0 s1 (hsi h s1 (ix 5) 100)
  else none
set_option maxRecDepth 100000 in
set_option maxHeartbeats 4000000 in
theorem r_X8_init_108 {X : Nat → Int32} {d : Nat} (hd : 5 ≤ (d + 1)) {n : Nat} {K1456 : Nat → Hp → Option Hp} (HK1456 : ∀ (v0 : Nat) (h : Hp) (o : Hp), K1456 v0 h = some o → Run X (d + 1) 125 1456 [some (.ref v0), none] [] h (none, o)) {v0 : Nat} {s0 : Nat} {s1 : Nat} {h : Hp} {o : Hp} (hf : f_X8_init_108 n K1456 v0 s0 s1 h = some o) : Run X (d + 1) 125 108 [some (.ref v0), none] [.ref s1, .ref s0] h (none, o) := by
  unfold f_X8_init_108 at hf
  refine rs_dup i_X8_init_108 rfl ?_
  refine rs_iconst i_X8_init_109 (v := 5) (by decide) ?_
  refine rs_bipush i_X8_init_110 (v := 100) (by decide) ?_
  obtain ⟨c1, hf⟩ := ite_some hf
  refine rs_iast i_X8_init_112 c1 ?_
  exact r_X8_init_113 hd HK1456 hf
noncomputable def f_X8_init_103 (n : Nat) (K1456 : Nat → Hp → Option Hp) (v0 : Nat) (s0 : Nat) (s1 : Nat) (h : Hp) : Option Hp :=
  if okI h s1 4 then
  f_X8_init_108 n K1456 v0 s0 s1 (hsi h s1 (ix 4) 100)
  else none
set_option maxRecDepth 100000 in
set_option maxHeartbeats 4000000 in
theorem r_X8_init_103 {X : Nat → Int32} {d : Nat} (hd : 5 ≤ (d + 1)) {n : Nat} {K1456 : Nat → Hp → Option Hp} (HK1456 : ∀ (v0 : Nat) (h : Hp) (o : Hp), K1456 v0 h = some o → Run X (d + 1) 125 1456 [some (.ref v0), none] [] h (none, o)) {v0 : Nat} {s0 : Nat} {s1 : Nat} {h : Hp} {o : Hp} (hf : f_X8_init_103 n K1456 v0 s0 s1 h = some o) : Run X (d + 1) 125 103 [some (.ref v0), none] [.ref s1, .ref s0] h (none, o) := by
  unfold f_X8_init_103 at hf
  refine rs_dup i_X8_init_103 rfl ?_
  refine rs_iconst i_X8_init_104 (v := 4) (by decide) ?_
  refine rs_bipush i_X8_init_105 (v := 100) (by decide) ?_
  obtain ⟨c1, hf⟩ := ite_some hf
  refine rs_iast i_X8_init_107 c1 ?_
  exact r_X8_init_108 hd HK1456 hf
noncomputable def f_X8_init_98 (n : Nat) (K1456 : Nat → Hp → Option Hp) (v0 : Nat) (s0 : Nat) (s1 : Nat) (h : Hp) : Option Hp :=
  if okI h s1 3 then
  f_X8_init_103 n K1456 v0 s0 s1 (hsi h s1 (ix 3) 100)
  else none
set_option maxRecDepth 100000 in
set_option maxHeartbeats 4000000 in
theorem r_X8_init_98 {X : Nat → Int32} {d : Nat} (hd : 5 ≤ (d + 1)) {n : Nat} {K1456 : Nat → Hp → Option Hp} (HK1456 : ∀ (v0 : Nat) (h : Hp) (o : Hp), K1456 v0 h = some o → Run X (d + 1) 125 1456 [some (.ref v0), none] [] h (none, o)) {v0 : Nat} {s0 : Nat} {s1 : Nat} {h : Hp} {o : Hp} (hf : f_X8_init_98 n K1456 v0 s0 s1 h = some o) : Run X (d + 1) 125 98 [some (.ref v0), none] [.ref s1, .ref s0] h (none, o) := by
  unfold f_X8_init_98 at hf
  refine rs_dup i_X8_init_98 rfl ?_
  refine rs_iconst i_X8_init_99 (v := 3) (by decide) ?_
  refine rs_bipush i_X8_init_100 (v := 100) (by decide) ?_
  obtain ⟨c1, hf⟩ := ite_some hf
  refine rs_iast i_X8_init_102 c1 ?_
  exact r_X8_init_103 hd HK1456 hf
noncomputable def f_X8_init_93 (n : Nat) (K1456 : Nat → Hp → Option Hp) (v0 : Nat) (s0 : Nat) (s1 : Nat) (h : Hp) : Option Hp :=
  if okI h s1 2 then
  f_X8_init_98 n K1456 v0 s0 s1 (hsi h s1 (ix 2) 100)
  else none
set_option maxRecDepth 100000 in
set_option maxHeartbeats 4000000 in
theorem r_X8_init_93 {X : Nat → Int32} {d : Nat} (hd : 5 ≤ (d + 1)) {n : Nat} {K1456 : Nat → Hp → Option Hp} (HK1456 : ∀ (v0 : Nat) (h : Hp) (o : Hp), K1456 v0 h = some o → Run X (d + 1) 125 1456 [some (.ref v0), none] [] h (none, o)) {v0 : Nat} {s0 : Nat} {s1 : Nat} {h : Hp} {o : Hp} (hf : f_X8_init_93 n K1456 v0 s0 s1 h = some o) : Run X (d + 1) 125 93 [some (.ref v0), none] [.ref s1, .ref s0] h (none, o) := by
  unfold f_X8_init_93 at hf
  refine rs_dup i_X8_init_93 rfl ?_
  refine rs_iconst i_X8_init_94 (v := 2) (by decide) ?_
  refine rs_bipush i_X8_init_95 (v := 100) (by decide) ?_
  obtain ⟨c1, hf⟩ := ite_some hf
  refine rs_iast i_X8_init_97 c1 ?_
  exact r_X8_init_98 hd HK1456 hf
noncomputable def f_X8_init_88 (n : Nat) (K1456 : Nat → Hp → Option Hp) (v0 : Nat) (s0 : Nat) (s1 : Nat) (h : Hp) : Option Hp :=
  if okI h s1 1 then
  f_X8_init_93 n K1456 v0 s0 s1 (hsi h s1 (ix 1) 100)
  else none
set_option maxRecDepth 100000 in
set_option maxHeartbeats 4000000 in
theorem r_X8_init_88 {X : Nat → Int32} {d : Nat} (hd : 5 ≤ (d + 1)) {n : Nat} {K1456 : Nat → Hp → Option Hp} (HK1456 : ∀ (v0 : Nat) (h : Hp) (o : Hp), K1456 v0 h = some o → Run X (d + 1) 125 1456 [some (.ref v0), none] [] h (none, o)) {v0 : Nat} {s0 : Nat} {s1 : Nat} {h : Hp} {o : Hp} (hf : f_X8_init_88 n K1456 v0 s0 s1 h = some o) : Run X (d + 1) 125 88 [some (.ref v0), none] [.ref s1, .ref s0] h (none, o) := by
  unfold f_X8_init_88 at hf
  refine rs_dup i_X8_init_88 rfl ?_
  refine rs_iconst i_X8_init_89 (v := 1) (by decide) ?_
  refine rs_bipush i_X8_init_90 (v := 100) (by decide) ?_
  obtain ⟨c1, hf⟩ := ite_some hf
  refine rs_iast i_X8_init_92 c1 ?_
  exact r_X8_init_93 hd HK1456 hf
noncomputable def f_X8_init_83 (n : Nat) (K1456 : Nat → Hp → Option Hp) (v0 : Nat) (s0 : Nat) (s1 : Nat) (h : Hp) : Option Hp :=
  if okI h s1 0 then
  f_X8_init_88 n K1456 v0 s0 s1 (hsi h s1 (ix 0) 100)
  else none
set_option maxRecDepth 100000 in
set_option maxHeartbeats 4000000 in
theorem r_X8_init_83 {X : Nat → Int32} {d : Nat} (hd : 5 ≤ (d + 1)) {n : Nat} {K1456 : Nat → Hp → Option Hp} (HK1456 : ∀ (v0 : Nat) (h : Hp) (o : Hp), K1456 v0 h = some o → Run X (d + 1) 125 1456 [some (.ref v0), none] [] h (none, o)) {v0 : Nat} {s0 : Nat} {s1 : Nat} {h : Hp} {o : Hp} (hf : f_X8_init_83 n K1456 v0 s0 s1 h = some o) : Run X (d + 1) 125 83 [some (.ref v0), none] [.ref s1, .ref s0] h (none, o) := by
  unfold f_X8_init_83 at hf
  refine rs_dup i_X8_init_83 rfl ?_
  refine rs_iconst i_X8_init_84 (v := 0) (by decide) ?_
  refine rs_bipush i_X8_init_85 (v := 100) (by decide) ?_
  obtain ⟨c1, hf⟩ := ite_some hf
  refine rs_iast i_X8_init_87 c1 ?_
  exact r_X8_init_88 hd HK1456 hf
noncomputable def f_X8_init_78 (n : Nat) (K1456 : Nat → Hp → Option Hp) (v0 : Nat) (h : Hp) : Option Hp :=
  f_X8_init_83 n K1456 v0 v0 h.1.length (hnew h (9, ix 12))
set_option maxRecDepth 100000 in
set_option maxHeartbeats 4000000 in
theorem r_X8_init_78 {X : Nat → Int32} {d : Nat} (hd : 5 ≤ (d + 1)) {n : Nat} {K1456 : Nat → Hp → Option Hp} (HK1456 : ∀ (v0 : Nat) (h : Hp) (o : Hp), K1456 v0 h = some o → Run X (d + 1) 125 1456 [some (.ref v0), none] [] h (none, o)) {v0 : Nat} {h : Hp} {o : Hp} (hf : f_X8_init_78 n K1456 v0 h = some o) : Run X (d + 1) 125 78 [some (.ref v0), none] [] h (none, o) := by
  unfold f_X8_init_78 at hf
  refine rs_aload_n i_X8_init_78 rfl ?_
  refine rs_bipush i_X8_init_79 (v := 12) (by decide) ?_
  refine rs_newa i_X8_init_81 (by decide) ?_
  exact r_X8_init_83 hd HK1456 hf
noncomputable def f_X8_init_75 (n : Nat) (K1456 : Nat → Hp → Option Hp) (v0 : Nat) (s0 : Nat) (s1 : Nat) (h : Hp) : Option Hp :=
  if okO h s0 8 then
  if 16 ≤ s1 then
  f_X8_init_78 n K1456 v0 (hsr h s0 0 (some s1))
  else none
  else none
set_option maxRecDepth 100000 in
set_option maxHeartbeats 4000000 in
theorem r_X8_init_75 {X : Nat → Int32} {d : Nat} (hd : 5 ≤ (d + 1)) {n : Nat} {K1456 : Nat → Hp → Option Hp} (HK1456 : ∀ (v0 : Nat) (h : Hp) (o : Hp), K1456 v0 h = some o → Run X (d + 1) 125 1456 [some (.ref v0), none] [] h (none, o)) {v0 : Nat} {s0 : Nat} {s1 : Nat} {h : Hp} {o : Hp} (hf : f_X8_init_75 n K1456 v0 s0 s1 h = some o) : Run X (d + 1) 125 75 [some (.ref v0), none] [.ref s1, .ref s0] h (none, o) := by
  unfold f_X8_init_75 at hf
  obtain ⟨c1, hf⟩ := ite_some hf
  obtain ⟨c2, hf⟩ := ite_some hf
  refine rs_putR i_X8_init_75 (by decide) c2 c1 ?_
  exact r_X8_init_78 hd HK1456 hf
noncomputable def f_X8_init_69 (n : Nat) (K1456 : Nat → Hp → Option Hp) (v0 : Nat) (s0 : Nat) (s1 : Nat) (h : Hp) : Option Hp :=
  if okI h s1 11 then
  f_X8_init_75 n K1456 v0 s0 s1 (hsi h s1 (ix 11) 60000)
  else none
set_option maxRecDepth 100000 in
set_option maxHeartbeats 4000000 in
theorem r_X8_init_69 {X : Nat → Int32} {d : Nat} (hd : 5 ≤ (d + 1)) {n : Nat} {K1456 : Nat → Hp → Option Hp} (HK1456 : ∀ (v0 : Nat) (h : Hp) (o : Hp), K1456 v0 h = some o → Run X (d + 1) 125 1456 [some (.ref v0), none] [] h (none, o)) {v0 : Nat} {s0 : Nat} {s1 : Nat} {h : Hp} {o : Hp} (hf : f_X8_init_69 n K1456 v0 s0 s1 h = some o) : Run X (d + 1) 125 69 [some (.ref v0), none] [.ref s1, .ref s0] h (none, o) := by
  unfold f_X8_init_69 at hf
  refine rs_dup i_X8_init_69 rfl ?_
  refine rs_bipush i_X8_init_70 (v := 11) (by decide) ?_
  refine rs_ldc i_X8_init_72 (v := 60000) (by decide) ?_
  obtain ⟨c1, hf⟩ := ite_some hf
  refine rs_iast i_X8_init_74 c1 ?_
  exact r_X8_init_75 hd HK1456 hf
noncomputable def f_X8_init_63 (n : Nat) (K1456 : Nat → Hp → Option Hp) (v0 : Nat) (s0 : Nat) (s1 : Nat) (h : Hp) : Option Hp :=
  if okI h s1 10 then
  f_X8_init_69 n K1456 v0 s0 s1 (hsi h s1 (ix 10) 60000)
  else none
set_option maxRecDepth 100000 in
set_option maxHeartbeats 4000000 in
theorem r_X8_init_63 {X : Nat → Int32} {d : Nat} (hd : 5 ≤ (d + 1)) {n : Nat} {K1456 : Nat → Hp → Option Hp} (HK1456 : ∀ (v0 : Nat) (h : Hp) (o : Hp), K1456 v0 h = some o → Run X (d + 1) 125 1456 [some (.ref v0), none] [] h (none, o)) {v0 : Nat} {s0 : Nat} {s1 : Nat} {h : Hp} {o : Hp} (hf : f_X8_init_63 n K1456 v0 s0 s1 h = some o) : Run X (d + 1) 125 63 [some (.ref v0), none] [.ref s1, .ref s0] h (none, o) := by
  unfold f_X8_init_63 at hf
  refine rs_dup i_X8_init_63 rfl ?_
  refine rs_bipush i_X8_init_64 (v := 10) (by decide) ?_
  refine rs_ldc i_X8_init_66 (v := 60000) (by decide) ?_
  obtain ⟨c1, hf⟩ := ite_some hf
  refine rs_iast i_X8_init_68 c1 ?_
  exact r_X8_init_69 hd HK1456 hf
noncomputable def f_X8_init_57 (n : Nat) (K1456 : Nat → Hp → Option Hp) (v0 : Nat) (s0 : Nat) (s1 : Nat) (h : Hp) : Option Hp :=
  if okI h s1 9 then
  f_X8_init_63 n K1456 v0 s0 s1 (hsi h s1 (ix 9) 60000)
  else none
set_option maxRecDepth 100000 in
set_option maxHeartbeats 4000000 in
theorem r_X8_init_57 {X : Nat → Int32} {d : Nat} (hd : 5 ≤ (d + 1)) {n : Nat} {K1456 : Nat → Hp → Option Hp} (HK1456 : ∀ (v0 : Nat) (h : Hp) (o : Hp), K1456 v0 h = some o → Run X (d + 1) 125 1456 [some (.ref v0), none] [] h (none, o)) {v0 : Nat} {s0 : Nat} {s1 : Nat} {h : Hp} {o : Hp} (hf : f_X8_init_57 n K1456 v0 s0 s1 h = some o) : Run X (d + 1) 125 57 [some (.ref v0), none] [.ref s1, .ref s0] h (none, o) := by
  unfold f_X8_init_57 at hf
  refine rs_dup i_X8_init_57 rfl ?_
  refine rs_bipush i_X8_init_58 (v := 9) (by decide) ?_
  refine rs_ldc i_X8_init_60 (v := 60000) (by decide) ?_
  obtain ⟨c1, hf⟩ := ite_some hf
  refine rs_iast i_X8_init_62 c1 ?_
  exact r_X8_init_63 hd HK1456 hf
noncomputable def f_X8_init_51 (n : Nat) (K1456 : Nat → Hp → Option Hp) (v0 : Nat) (s0 : Nat) (s1 : Nat) (h : Hp) : Option Hp :=
  if okI h s1 8 then
  f_X8_init_57 n K1456 v0 s0 s1 (hsi h s1 (ix 8) 60000)
  else none
set_option maxRecDepth 100000 in
set_option maxHeartbeats 4000000 in
theorem r_X8_init_51 {X : Nat → Int32} {d : Nat} (hd : 5 ≤ (d + 1)) {n : Nat} {K1456 : Nat → Hp → Option Hp} (HK1456 : ∀ (v0 : Nat) (h : Hp) (o : Hp), K1456 v0 h = some o → Run X (d + 1) 125 1456 [some (.ref v0), none] [] h (none, o)) {v0 : Nat} {s0 : Nat} {s1 : Nat} {h : Hp} {o : Hp} (hf : f_X8_init_51 n K1456 v0 s0 s1 h = some o) : Run X (d + 1) 125 51 [some (.ref v0), none] [.ref s1, .ref s0] h (none, o) := by
  unfold f_X8_init_51 at hf
  refine rs_dup i_X8_init_51 rfl ?_
  refine rs_bipush i_X8_init_52 (v := 8) (by decide) ?_
  refine rs_ldc i_X8_init_54 (v := 60000) (by decide) ?_
  obtain ⟨c1, hf⟩ := ite_some hf
  refine rs_iast i_X8_init_56 c1 ?_
  exact r_X8_init_57 hd HK1456 hf
noncomputable def f_X8_init_45 (n : Nat) (K1456 : Nat → Hp → Option Hp) (v0 : Nat) (s0 : Nat) (s1 : Nat) (h : Hp) : Option Hp :=
  if okI h s1 7 then
  f_X8_init_51 n K1456 v0 s0 s1 (hsi h s1 (ix 7) 60000)
  else none
set_option maxRecDepth 100000 in
set_option maxHeartbeats 4000000 in
theorem r_X8_init_45 {X : Nat → Int32} {d : Nat} (hd : 5 ≤ (d + 1)) {n : Nat} {K1456 : Nat → Hp → Option Hp} (HK1456 : ∀ (v0 : Nat) (h : Hp) (o : Hp), K1456 v0 h = some o → Run X (d + 1) 125 1456 [some (.ref v0), none] [] h (none, o)) {v0 : Nat} {s0 : Nat} {s1 : Nat} {h : Hp} {o : Hp} (hf : f_X8_init_45 n K1456 v0 s0 s1 h = some o) : Run X (d + 1) 125 45 [some (.ref v0), none] [.ref s1, .ref s0] h (none, o) := by
  unfold f_X8_init_45 at hf
  refine rs_dup i_X8_init_45 rfl ?_
  refine rs_bipush i_X8_init_46 (v := 7) (by decide) ?_
  refine rs_ldc i_X8_init_48 (v := 60000) (by decide) ?_
  obtain ⟨c1, hf⟩ := ite_some hf
  refine rs_iast i_X8_init_50 c1 ?_
  exact r_X8_init_51 hd HK1456 hf
noncomputable def f_X8_init_39 (n : Nat) (K1456 : Nat → Hp → Option Hp) (v0 : Nat) (s0 : Nat) (s1 : Nat) (h : Hp) : Option Hp :=
  if okI h s1 6 then
  f_X8_init_45 n K1456 v0 s0 s1 (hsi h s1 (ix 6) 60000)
  else none
set_option maxRecDepth 100000 in
set_option maxHeartbeats 4000000 in
theorem r_X8_init_39 {X : Nat → Int32} {d : Nat} (hd : 5 ≤ (d + 1)) {n : Nat} {K1456 : Nat → Hp → Option Hp} (HK1456 : ∀ (v0 : Nat) (h : Hp) (o : Hp), K1456 v0 h = some o → Run X (d + 1) 125 1456 [some (.ref v0), none] [] h (none, o)) {v0 : Nat} {s0 : Nat} {s1 : Nat} {h : Hp} {o : Hp} (hf : f_X8_init_39 n K1456 v0 s0 s1 h = some o) : Run X (d + 1) 125 39 [some (.ref v0), none] [.ref s1, .ref s0] h (none, o) := by
  unfold f_X8_init_39 at hf
  refine rs_dup i_X8_init_39 rfl ?_
  refine rs_bipush i_X8_init_40 (v := 6) (by decide) ?_
  refine rs_ldc i_X8_init_42 (v := 60000) (by decide) ?_
  obtain ⟨c1, hf⟩ := ite_some hf
  refine rs_iast i_X8_init_44 c1 ?_
  exact r_X8_init_45 hd HK1456 hf
noncomputable def f_X8_init_34 (n : Nat) (K1456 : Nat → Hp → Option Hp) (v0 : Nat) (s0 : Nat) (s1 : Nat) (h : Hp) : Option Hp :=
  if okI h s1 5 then
  f_X8_init_39 n K1456 v0 s0 s1 (hsi h s1 (ix 5) 60000)
  else none
set_option maxRecDepth 100000 in
set_option maxHeartbeats 4000000 in
theorem r_X8_init_34 {X : Nat → Int32} {d : Nat} (hd : 5 ≤ (d + 1)) {n : Nat} {K1456 : Nat → Hp → Option Hp} (HK1456 : ∀ (v0 : Nat) (h : Hp) (o : Hp), K1456 v0 h = some o → Run X (d + 1) 125 1456 [some (.ref v0), none] [] h (none, o)) {v0 : Nat} {s0 : Nat} {s1 : Nat} {h : Hp} {o : Hp} (hf : f_X8_init_34 n K1456 v0 s0 s1 h = some o) : Run X (d + 1) 125 34 [some (.ref v0), none] [.ref s1, .ref s0] h (none, o) := by
  unfold f_X8_init_34 at hf
  refine rs_dup i_X8_init_34 rfl ?_
  refine rs_iconst i_X8_init_35 (v := 5) (by decide) ?_
  refine rs_ldc i_X8_init_36 (v := 60000) (by decide) ?_
  obtain ⟨c1, hf⟩ := ite_some hf
  refine rs_iast i_X8_init_38 c1 ?_
  exact r_X8_init_39 hd HK1456 hf
noncomputable def f_X8_init_29 (n : Nat) (K1456 : Nat → Hp → Option Hp) (v0 : Nat) (s0 : Nat) (s1 : Nat) (h : Hp) : Option Hp :=
  if okI h s1 4 then
  f_X8_init_34 n K1456 v0 s0 s1 (hsi h s1 (ix 4) 60000)
  else none
set_option maxRecDepth 100000 in
set_option maxHeartbeats 4000000 in
theorem r_X8_init_29 {X : Nat → Int32} {d : Nat} (hd : 5 ≤ (d + 1)) {n : Nat} {K1456 : Nat → Hp → Option Hp} (HK1456 : ∀ (v0 : Nat) (h : Hp) (o : Hp), K1456 v0 h = some o → Run X (d + 1) 125 1456 [some (.ref v0), none] [] h (none, o)) {v0 : Nat} {s0 : Nat} {s1 : Nat} {h : Hp} {o : Hp} (hf : f_X8_init_29 n K1456 v0 s0 s1 h = some o) : Run X (d + 1) 125 29 [some (.ref v0), none] [.ref s1, .ref s0] h (none, o) := by
  unfold f_X8_init_29 at hf
  refine rs_dup i_X8_init_29 rfl ?_
  refine rs_iconst i_X8_init_30 (v := 4) (by decide) ?_
  refine rs_ldc i_X8_init_31 (v := 60000) (by decide) ?_
  obtain ⟨c1, hf⟩ := ite_some hf
  refine rs_iast i_X8_init_33 c1 ?_
  exact r_X8_init_34 hd HK1456 hf
noncomputable def f_X8_init_24 (n : Nat) (K1456 : Nat → Hp → Option Hp) (v0 : Nat) (s0 : Nat) (s1 : Nat) (h : Hp) : Option Hp :=
  if okI h s1 3 then
  f_X8_init_29 n K1456 v0 s0 s1 (hsi h s1 (ix 3) 60000)
  else none
set_option maxRecDepth 100000 in
set_option maxHeartbeats 4000000 in
theorem r_X8_init_24 {X : Nat → Int32} {d : Nat} (hd : 5 ≤ (d + 1)) {n : Nat} {K1456 : Nat → Hp → Option Hp} (HK1456 : ∀ (v0 : Nat) (h : Hp) (o : Hp), K1456 v0 h = some o → Run X (d + 1) 125 1456 [some (.ref v0), none] [] h (none, o)) {v0 : Nat} {s0 : Nat} {s1 : Nat} {h : Hp} {o : Hp} (hf : f_X8_init_24 n K1456 v0 s0 s1 h = some o) : Run X (d + 1) 125 24 [some (.ref v0), none] [.ref s1, .ref s0] h (none, o) := by
  unfold f_X8_init_24 at hf
  refine rs_dup i_X8_init_24 rfl ?_
  refine rs_iconst i_X8_init_25 (v := 3) (by decide) ?_
  refine rs_ldc i_X8_init_26 (v := 60000) (by decide) ?_
  obtain ⟨c1, hf⟩ := ite_some hf
  refine rs_iast i_X8_init_28 c1 ?_
  exact r_X8_init_29 hd HK1456 hf
noncomputable def f_X8_init_19 (n : Nat) (K1456 : Nat → Hp → Option Hp) (v0 : Nat) (s0 : Nat) (s1 : Nat) (h : Hp) : Option Hp :=
  if okI h s1 2 then
  f_X8_init_24 n K1456 v0 s0 s1 (hsi h s1 (ix 2) 60000)
  else none
set_option maxRecDepth 100000 in
set_option maxHeartbeats 4000000 in
theorem r_X8_init_19 {X : Nat → Int32} {d : Nat} (hd : 5 ≤ (d + 1)) {n : Nat} {K1456 : Nat → Hp → Option Hp} (HK1456 : ∀ (v0 : Nat) (h : Hp) (o : Hp), K1456 v0 h = some o → Run X (d + 1) 125 1456 [some (.ref v0), none] [] h (none, o)) {v0 : Nat} {s0 : Nat} {s1 : Nat} {h : Hp} {o : Hp} (hf : f_X8_init_19 n K1456 v0 s0 s1 h = some o) : Run X (d + 1) 125 19 [some (.ref v0), none] [.ref s1, .ref s0] h (none, o) := by
  unfold f_X8_init_19 at hf
  refine rs_dup i_X8_init_19 rfl ?_
  refine rs_iconst i_X8_init_20 (v := 2) (by decide) ?_
  refine rs_ldc i_X8_init_21 (v := 60000) (by decide) ?_
  obtain ⟨c1, hf⟩ := ite_some hf
  refine rs_iast i_X8_init_23 c1 ?_
  exact r_X8_init_24 hd HK1456 hf
noncomputable def f_X8_init_14 (n : Nat) (K1456 : Nat → Hp → Option Hp) (v0 : Nat) (s0 : Nat) (s1 : Nat) (h : Hp) : Option Hp :=
  if okI h s1 1 then
  f_X8_init_19 n K1456 v0 s0 s1 (hsi h s1 (ix 1) 60000)
  else none
set_option maxRecDepth 100000 in
set_option maxHeartbeats 4000000 in
theorem r_X8_init_14 {X : Nat → Int32} {d : Nat} (hd : 5 ≤ (d + 1)) {n : Nat} {K1456 : Nat → Hp → Option Hp} (HK1456 : ∀ (v0 : Nat) (h : Hp) (o : Hp), K1456 v0 h = some o → Run X (d + 1) 125 1456 [some (.ref v0), none] [] h (none, o)) {v0 : Nat} {s0 : Nat} {s1 : Nat} {h : Hp} {o : Hp} (hf : f_X8_init_14 n K1456 v0 s0 s1 h = some o) : Run X (d + 1) 125 14 [some (.ref v0), none] [.ref s1, .ref s0] h (none, o) := by
  unfold f_X8_init_14 at hf
  refine rs_dup i_X8_init_14 rfl ?_
  refine rs_iconst i_X8_init_15 (v := 1) (by decide) ?_
  refine rs_ldc i_X8_init_16 (v := 60000) (by decide) ?_
  obtain ⟨c1, hf⟩ := ite_some hf
  refine rs_iast i_X8_init_18 c1 ?_
  exact r_X8_init_19 hd HK1456 hf
noncomputable def f_X8_init_9 (n : Nat) (K1456 : Nat → Hp → Option Hp) (v0 : Nat) (s0 : Nat) (s1 : Nat) (h : Hp) : Option Hp :=
  if okI h s1 0 then
  f_X8_init_14 n K1456 v0 s0 s1 (hsi h s1 (ix 0) 60000)
  else none
set_option maxRecDepth 100000 in
set_option maxHeartbeats 4000000 in
theorem r_X8_init_9 {X : Nat → Int32} {d : Nat} (hd : 5 ≤ (d + 1)) {n : Nat} {K1456 : Nat → Hp → Option Hp} (HK1456 : ∀ (v0 : Nat) (h : Hp) (o : Hp), K1456 v0 h = some o → Run X (d + 1) 125 1456 [some (.ref v0), none] [] h (none, o)) {v0 : Nat} {s0 : Nat} {s1 : Nat} {h : Hp} {o : Hp} (hf : f_X8_init_9 n K1456 v0 s0 s1 h = some o) : Run X (d + 1) 125 9 [some (.ref v0), none] [.ref s1, .ref s0] h (none, o) := by
  unfold f_X8_init_9 at hf
  refine rs_dup i_X8_init_9 rfl ?_
  refine rs_iconst i_X8_init_10 (v := 0) (by decide) ?_
  refine rs_ldc i_X8_init_11 (v := 60000) (by decide) ?_
  obtain ⟨c1, hf⟩ := ite_some hf
  refine rs_iast i_X8_init_13 c1 ?_
  exact r_X8_init_14 hd HK1456 hf
noncomputable def f_X8_init_0 (n : Nat) (K1456 : Nat → Hp → Option Hp) (v0 : Nat) (h : Hp) : Option Hp :=
  f_X8_init_9 n K1456 v0 v0 h.1.length (hnew h (9, ix 12))
set_option maxRecDepth 100000 in
set_option maxHeartbeats 4000000 in
theorem r_X8_init_0 {X : Nat → Int32} {d : Nat} (hd : 5 ≤ (d + 1)) {n : Nat} {K1456 : Nat → Hp → Option Hp} (HK1456 : ∀ (v0 : Nat) (h : Hp) (o : Hp), K1456 v0 h = some o → Run X (d + 1) 125 1456 [some (.ref v0), none] [] h (none, o)) {v0 : Nat} {h : Hp} {o : Hp} (hf : f_X8_init_0 n K1456 v0 h = some o) : Run X (d + 1) 125 0 [some (.ref v0), none] [] h (none, o) := by
  unfold f_X8_init_0 at hf
  refine rs_aload_n i_X8_init_0 rfl ?_
  refine rs_objI i_X8_init_1 (Nat.le_of_ble_eq_true rfl) ?_
  refine rs_aload_n i_X8_init_4 rfl ?_
  refine rs_bipush i_X8_init_5 (v := 12) (by decide) ?_
  refine rs_newa i_X8_init_7 (by decide) ?_
  exact r_X8_init_9 hd HK1456 hf
