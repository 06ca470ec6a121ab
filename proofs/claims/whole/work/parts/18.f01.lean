theorem i_X0_init_0 : fetch 1 0 = some (.aload_n 0, 1, 0, 0, 0, 0) := by decide +kernel
theorem i_X0_init_1 : fetch 1 1 = some (.invokespecial 3, 4, 1000, 0, 0, 90) := by decide +kernel
theorem i_X0_init_4 : fetch 1 4 = some (.aload_n 0, 5, 0, 0, 0, 0) := by decide +kernel
theorem i_X0_init_5 : fetch 1 5 = some (.bipush 12, 7, 0, 0, 0, 0) := by decide +kernel
theorem i_X0_init_7 : fetch 1 7 = some (.newarray .int, 9, 9, 0, 0, 0) := by decide +kernel
theorem i_X0_init_9 : fetch 1 9 = some (.putfield 9, 12, 0, 0, 0, 92) := by decide +kernel
theorem i_X0_init_12 : fetch 1 12 = some (.aload_n 0, 13, 0, 0, 0, 0) := by decide +kernel
theorem i_X0_init_13 : fetch 1 13 = some (.bipush 12, 15, 0, 0, 0, 0) := by decide +kernel
theorem i_X0_init_15 : fetch 1 15 = some (.newarray .int, 17, 9, 0, 0, 0) := by decide +kernel
theorem i_X0_init_17 : fetch 1 17 = some (.putfield 15, 20, 0, 1, 0, 95) := by decide +kernel
theorem i_X0_init_20 : fetch 1 20 = some (.aload_n 0, 21, 0, 0, 0, 0) := by decide +kernel
theorem i_X0_init_21 : fetch 1 21 = some (.iconst 3, 22, 0, 0, 0, 0) := by decide +kernel
theorem i_X0_init_22 : fetch 1 22 = some (.newarray .int, 24, 9, 0, 0, 0) := by decide +kernel
theorem i_X0_init_24 : fetch 1 24 = some (.dup, 25, 0, 0, 0, 0) := by decide +kernel
theorem i_X0_init_25 : fetch 1 25 = some (.iconst 0, 26, 0, 0, 0, 0) := by decide +kernel
theorem i_X0_init_26 : fetch 1 26 = some (.iconst 5, 27, 0, 0, 0, 0) := by decide +kernel
theorem i_X0_init_27 : fetch 1 27 = some (.iastore, 28, 0, 0, 0, 0) := by decide +kernel
theorem i_X0_init_28 : fetch 1 28 = some (.dup, 29, 0, 0, 0, 0) := by decide +kernel
theorem i_X0_init_29 : fetch 1 29 = some (.iconst 1, 30, 0, 0, 0, 0) := by decide +kernel
theorem i_X0_init_30 : fetch 1 30 = some (.iconst 2, 31, 0, 0, 0, 0) := by decide +kernel
theorem i_X0_init_31 : fetch 1 31 = some (.iastore, 32, 0, 0, 0, 0) := by decide +kernel
theorem i_X0_init_32 : fetch 1 32 = some (.dup, 33, 0, 0, 0, 0) := by decide +kernel
theorem i_X0_init_33 : fetch 1 33 = some (.iconst 2, 34, 0, 0, 0, 0) := by decide +kernel
theorem i_X0_init_34 : fetch 1 34 = some (.iconst 5, 35, 0, 0, 0, 0) := by decide +kernel
theorem i_X0_init_35 : fetch 1 35 = some (.iastore, 36, 0, 0, 0, 0) := by decide +kernel
theorem i_X0_init_36 : fetch 1 36 = some (.putfield 18, 39, 0, 2, 0, 98) := by decide +kernel
theorem i_X0_init_39 : fetch 1 39 = some (.aload_n 0, 40, 0, 0, 0, 0) := by decide +kernel
theorem i_X0_init_40 : fetch 1 40 = some (.iconst 0, 41, 0, 0, 0, 0) := by decide +kernel
theorem i_X0_init_41 : fetch 1 41 = some (.putfield 21, 44, 0, 3, 0, 100) := by decide +kernel
theorem i_X0_init_44 : fetch 1 44 = some (.iconst 0, 45, 0, 0, 0, 0) := by decide +kernel
theorem i_X0_init_45 : fetch 1 45 = some (.istore_n 1, 46, 0, 0, 0, 0) := by decide +kernel
theorem i_X0_init_46 : fetch 1 46 = some (.iload_n 1, 47, 0, 0, 0, 0) := by decide +kernel
theorem i_X0_init_47 : fetch 1 47 = some (.bipush 12, 49, 0, 0, 0, 0) := by decide +kernel
theorem i_X0_init_49 : fetch 1 49 = some (.if_icmp .ge 25, 52, 0, 0, 0, 0) := by decide +kernel
theorem i_X0_init_52 : fetch 1 52 = some (.aload_n 0, 53, 0, 0, 0, 0) := by decide +kernel
theorem i_X0_init_53 : fetch 1 53 = some (.getfield 9, 56, 0, 0, 0, 92) := by decide +kernel
theorem i_X0_init_56 : fetch 1 56 = some (.iload_n 1, 57, 0, 0, 0, 0) := by decide +kernel
theorem i_X0_init_57 : fetch 1 57 = some (.ldc 25, 59, 0, 0, 60000, 91) := by decide +kernel
theorem i_X0_init_59 : fetch 1 59 = some (.iastore, 60, 0, 0, 0, 0) := by decide +kernel
theorem i_X0_init_60 : fetch 1 60 = some (.aload_n 0, 61, 0, 0, 0, 0) := by decide +kernel
theorem i_X0_init_61 : fetch 1 61 = some (.getfield 15, 64, 0, 1, 0, 95) := by decide +kernel
theorem i_X0_init_64 : fetch 1 64 = some (.iload_n 1, 65, 0, 0, 0, 0) := by decide +kernel
theorem i_X0_init_65 : fetch 1 65 = some (.bipush 100, 67, 0, 0, 0, 0) := by decide +kernel
theorem i_X0_init_67 : fetch 1 67 = some (.iastore, 68, 0, 0, 0, 0) := by decide +kernel
theorem i_X0_init_68 : fetch 1 68 = some (.iinc 1 1, 71, 0, 0, 0, 0) := by decide +kernel
theorem i_X0_init_71 : fetch 1 71 = some (.goto (-25), 74, 0, 0, 0, 0) := by decide +kernel
theorem i_X0_init_74 : fetch 1 74 = some (.return_, 75, 0, 0, 0, 0) := by decide +kernel
def f_X0_init_60 (n : Nat) (K46 : Nat → Int32 → Hp → Option Hp) (v0 : Nat) (v1 : Int32) (h : Hp) : Option Hp :=
  if okO h v0 0 then
  (gR h v0 1).bind fun a2 =>
  if okI h a2 v1 then
  K46 v0 (v1 + 1) (hsi h a2 (ix v1) 100)
  else none
  else none
set_option maxRecDepth 100000 in
set_option maxHeartbeats 4000000 in
theorem r_X0_init_60 {X : Nat → Int32} {d : Nat} (hd : 0 ≤ d) {n : Nat} {K46 : Nat → Int32 → Hp → Option Hp} (HK46 : ∀ (v0 : Nat) (v1 : Int32) (h : Hp) (o : Hp), K46 v0 v1 h = some o → Run X d 1 46 [some (.ref v0), some (.int v1)] [] h (none, o)) {v0 : Nat} {v1 : Int32} {h : Hp} {o : Hp} (hf : f_X0_init_60 n K46 v0 v1 h = some o) : Run X d 1 60 [some (.ref v0), some (.int v1)] [] h (none, o) := by
  unfold f_X0_init_60 at hf
  refine rs_aload_n i_X0_init_60 rfl ?_
  obtain ⟨c1, hf⟩ := ite_some hf
  obtain ⟨a2, e2, hf⟩ := bind_some hf
  refine rs_getR i_X0_init_61 (by decide) (by decide) c1 e2 ?_
  refine rs_iload_n i_X0_init_64 rfl ?_
  refine rs_bipush i_X0_init_65 (v := 100) (by decide) ?_
  obtain ⟨c3, hf⟩ := ite_some hf
  refine rs_iast i_X0_init_67 c3 ?_
  refine rs_iinc i_X0_init_68 rfl (v := v1 + 1) rfl (Nat.le_of_ble_eq_true rfl) (lv' := [some (.ref v0), some (.int (v1 + 1))]) rfl ?_
  refine rs_goto i_X0_init_71 (tg := 46) (by decide) ?_
  exact HK46 _ _ _ _ hf
def f_X0_init_46 (n : Nat) : Nat → Nat → Int32 → Hp → Option Hp
  | 0, _, _, _ => none
  | m + 1, v0, v1, h =>
    if 12 ≤ v1 then
      some h
    else
      if okO h v0 0 then
      (gR h v0 0).bind fun a3 =>
      if okI h a3 v1 then
      f_X0_init_60 n (f_X0_init_46 n m) v0 v1 (hsi h a3 (ix v1) 60000)
      else none
      else none
set_option maxRecDepth 100000 in
set_option maxHeartbeats 4000000 in
theorem r_X0_init_46 {X : Nat → Int32} {d : Nat} (hd : 0 ≤ d) {n : Nat} : ∀ (m : Nat) (v0 : Nat) (v1 : Int32) (h : Hp) (o : Hp), f_X0_init_46 n m v0 v1 h = some o → Run X d 1 46 [some (.ref v0), some (.int v1)] [] h (none, o) := by
  intro m
  induction m with
  | zero => intro v0 v1 h o hf; cases hf
  | succ m ih =>
    intro v0 v1 h o hf
    rw [f_X0_init_46] at hf
    refine rs_iload_n i_X0_init_46 rfl ?_
    refine rs_bipush i_X0_init_47 (v := 12) (by decide) ?_
    by_cases c1 : 12 ≤ v1
    · replace hf := (if_pos c1).symm.trans hf
      refine rs_icT i_X0_init_49 (ct_ge c1) (tg := 74) (by decide) ?_
      have hf := Option.some.inj hf
      subst hf
      exact rs_vret i_X0_init_74 m_X0_init rfl
    · replace hf := (if_neg c1).symm.trans hf
      refine rs_icF i_X0_init_49 (cf_ge c1) ?_
      refine rs_aload_n i_X0_init_52 rfl ?_
      obtain ⟨c2, hf⟩ := ite_some hf
      obtain ⟨a3, e3, hf⟩ := bind_some hf
      refine rs_getR i_X0_init_53 (by decide) (by decide) c2 e3 ?_
      refine rs_iload_n i_X0_init_56 rfl ?_
      refine rs_ldc i_X0_init_57 (v := 60000) (by decide) ?_
      obtain ⟨c4, hf⟩ := ite_some hf
      refine rs_iast i_X0_init_59 c4 ?_
      exact r_X0_init_60 hd ih hf
def f_X0_init_39 (n : Nat) (v0 : Nat) (h : Hp) : Option Hp :=
  if okO h v0 0 then
  f_X0_init_46 n n v0 0 (hsi h v0 3 0)
  else none
set_option maxRecDepth 100000 in
set_option maxHeartbeats 4000000 in
theorem r_X0_init_39 {X : Nat → Int32} {d : Nat} (hd : 0 ≤ d) {n : Nat} {v0 : Nat} {h : Hp} {o : Hp} (hf : f_X0_init_39 n v0 h = some o) : Run X d 1 39 [some (.ref v0), none] [] h (none, o) := by
  unfold f_X0_init_39 at hf
  refine rs_aload_n i_X0_init_39 rfl ?_
  refine rs_iconst i_X0_init_40 (v := 0) (by decide) ?_
  obtain ⟨c1, hf⟩ := ite_some hf
  refine rs_putI i_X0_init_41 (by decide) c1 ?_
  refine rs_iconst i_X0_init_44 (v := 0) (by decide) ?_
  refine rs_istore_n i_X0_init_45 (Nat.le_of_ble_eq_true rfl) (lv' := [some (.ref v0), some (.int 0)]) rfl ?_
  exact r_X0_init_46 hd _ _ _ _ _ hf
def f_X0_init_36 (n : Nat) (v0 : Nat) (s0 : Nat) (s1 : Nat) (h : Hp) : Option Hp :=
  if okO h s0 0 then
  if 16 ≤ s1 then
  f_X0_init_39 n v0 (hsr h s0 2 (some s1))
  else none
  else none
set_option maxRecDepth 100000 in
set_option maxHeartbeats 4000000 in
theorem r_X0_init_36 {X : Nat → Int32} {d : Nat} (hd : 0 ≤ d) {n : Nat} {v0 : Nat} {s0 : Nat} {s1 : Nat} {h : Hp} {o : Hp} (hf : f_X0_init_36 n v0 s0 s1 h = some o) : Run X d 1 36 [some (.ref v0), none] [.ref s1, .ref s0] h (none, o) := by
  unfold f_X0_init_36 at hf
  obtain ⟨c1, hf⟩ := ite_some hf
  obtain ⟨c2, hf⟩ := ite_some hf
  refine rs_putR i_X0_init_36 (by decide) c2 c1 ?_
  exact r_X0_init_39 hd hf
def f_X0_init_32 (n : Nat) (v0 : Nat) (s0 : Nat) (s1 : Nat) (h : Hp) : Option Hp :=
  if okI h s1 2 then
  f_X0_init_36 n v0 s0 s1 (hsi h s1 (ix 2) 5)
  else none
set_option maxRecDepth 100000 in
set_option maxHeartbeats 4000000 in
theorem r_X0_init_32 {X : Nat → Int32} {d : Nat} (hd : 0 ≤ d) {n : Nat} {v0 : Nat} {s0 : Nat} {s1 : Nat} {h : Hp} {o : Hp} (hf : f_X0_init_32 n v0 s0 s1 h = some o) : Run X d 1 32 [some (.ref v0), none] [.ref s1, .ref s0] h (none, o) := by
  unfold f_X0_init_32 at hf
  refine rs_dup i_X0_init_32 rfl ?_
  refine rs_iconst i_X0_init_33 (v := 2) (by decide) ?_
  refine rs_iconst i_X0_init_34 (v := 5) (by decide) ?_
  obtain ⟨c1, hf⟩ := ite_some hf
  refine rs_iast i_X0_init_35 c1 ?_
  exact r_X0_init_36 hd hf
def f_X0_init_28 (n : Nat) (v0 : Nat) (s0 : Nat) (s1 : Nat) (h : Hp) : Option Hp :=
  if okI h s1 1 then
  f_X0_init_32 n v0 s0 s1 (hsi h s1 (ix 1) 2)
  else none
set_option maxRecDepth 100000 in
set_option maxHeartbeats 4000000 in
theorem r_X0_init_28 {X : Nat → Int32} {d : Nat} (hd : 0 ≤ d) {n : Nat} {v0 : Nat} {s0 : Nat} {s1 : Nat} {h : Hp} {o : Hp} (hf : f_X0_init_28 n v0 s0 s1 h = some o) : Run X d 1 28 [some (.ref v0), none] [.ref s1, .ref s0] h (none, o) := by
  unfold f_X0_init_28 at hf
  refine rs_dup i_X0_init_28 rfl ?_
  refine rs_iconst i_X0_init_29 (v := 1) (by decide) ?_
  refine rs_iconst i_X0_init_30 (v := 2) (by decide) ?_
  obtain ⟨c1, hf⟩ := ite_some hf
  refine rs_iast i_X0_init_31 c1 ?_
  exact r_X0_init_32 hd hf
def f_X0_init_24 (n : Nat) (v0 : Nat) (s0 : Nat) (s1 : Nat) (h : Hp) : Option Hp :=
  if okI h s1 0 then
  f_X0_init_28 n v0 s0 s1 (hsi h s1 (ix 0) 5)
  else none
set_option maxRecDepth 100000 in
set_option maxHeartbeats 4000000 in
theorem r_X0_init_24 {X : Nat → Int32} {d : Nat} (hd : 0 ≤ d) {n : Nat} {v0 : Nat} {s0 : Nat} {s1 : Nat} {h : Hp} {o : Hp} (hf : f_X0_init_24 n v0 s0 s1 h = some o) : Run X d 1 24 [some (.ref v0), none] [.ref s1, .ref s0] h (none, o) := by
  unfold f_X0_init_24 at hf
  refine rs_dup i_X0_init_24 rfl ?_
  refine rs_iconst i_X0_init_25 (v := 0) (by decide) ?_
  refine rs_iconst i_X0_init_26 (v := 5) (by decide) ?_
  obtain ⟨c1, hf⟩ := ite_some hf
  refine rs_iast i_X0_init_27 c1 ?_
  exact r_X0_init_28 hd hf
def f_X0_init_20 (n : Nat) (v0 : Nat) (h : Hp) : Option Hp :=
  f_X0_init_24 n v0 v0 h.1.length (hnew h (9, ix 3))
set_option maxRecDepth 100000 in
set_option maxHeartbeats 4000000 in
theorem r_X0_init_20 {X : Nat → Int32} {d : Nat} (hd : 0 ≤ d) {n : Nat} {v0 : Nat} {h : Hp} {o : Hp} (hf : f_X0_init_20 n v0 h = some o) : Run X d 1 20 [some (.ref v0), none] [] h (none, o) := by
  unfold f_X0_init_20 at hf
  refine rs_aload_n i_X0_init_20 rfl ?_
  refine rs_iconst i_X0_init_21 (v := 3) (by decide) ?_
  refine rs_newa i_X0_init_22 (by decide) ?_
  exact r_X0_init_24 hd hf
def f_X0_init_17 (n : Nat) (v0 : Nat) (s0 : Nat) (s1 : Nat) (h : Hp) : Option Hp :=
  if okO h s0 0 then
  if 16 ≤ s1 then
  f_X0_init_20 n v0 (hsr h s0 1 (some s1))
  else none
  else none
set_option maxRecDepth 100000 in
set_option maxHeartbeats 4000000 in
theorem r_X0_init_17 {X : Nat → Int32} {d : Nat} (hd : 0 ≤ d) {n : Nat} {v0 : Nat} {s0 : Nat} {s1 : Nat} {h : Hp} {o : Hp} (hf : f_X0_init_17 n v0 s0 s1 h = some o) : Run X d 1 17 [some (.ref v0), none] [.ref s1, .ref s0] h (none, o) := by
  unfold f_X0_init_17 at hf
  obtain ⟨c1, hf⟩ := ite_some hf
  obtain ⟨c2, hf⟩ := ite_some hf
  refine rs_putR i_X0_init_17 (by decide) c2 c1 ?_
  exact r_X0_init_20 hd hf
def f_X0_init_12 (n : Nat) (v0 : Nat) (h : Hp) : Option Hp :=
  f_X0_init_17 n v0 v0 h.1.length (hnew h (9, ix 12))
set_option maxRecDepth 100000 in
set_option maxHeartbeats 4000000 in
theorem r_X0_init_12 {X : Nat → Int32} {d : Nat} (hd : 0 ≤ d) {n : Nat} {v0 : Nat} {h : Hp} {o : Hp} (hf : f_X0_init_12 n v0 h = some o) : Run X d 1 12 [some (.ref v0), none] [] h (none, o) := by
  unfold f_X0_init_12 at hf
  refine rs_aload_n i_X0_init_12 rfl ?_
  refine rs_bipush i_X0_init_13 (v := 12) (by decide) ?_
  refine rs_newa i_X0_init_15 (by decide) ?_
  exact r_X0_init_17 hd hf
def f_X0_init_9 (n : Nat) (v0 : Nat) (s0 : Nat) (s1 : Nat) (h : Hp) : Option Hp :=
  if okO h s0 0 then
  if 16 ≤ s1 then
  f_X0_init_12 n v0 (hsr h s0 0 (some s1))
  else none
  else none
set_option maxRecDepth 100000 in
set_option maxHeartbeats 4000000 in
theorem r_X0_init_9 {X : Nat → Int32} {d : Nat} (hd : 0 ≤ d) {n : Nat} {v0 : Nat} {s0 : Nat} {s1 : Nat} {h : Hp} {o : Hp} (hf : f_X0_init_9 n v0 s0 s1 h = some o) : Run X d 1 9 [some (.ref v0), none] [.ref s1, .ref s0] h (none, o) := by
  unfold f_X0_init_9 at hf
  obtain ⟨c1, hf⟩ := ite_some hf
  obtain ⟨c2, hf⟩ := ite_some hf
  refine rs_putR i_X0_init_9 (by decide) c2 c1 ?_
  exact r_X0_init_12 hd hf
def f_X0_init_0 (n : Nat) (v0 : Nat) (h : Hp) : Option Hp :=
  f_X0_init_9 n v0 v0 h.1.length (hnew h (9, ix 12))
set_option maxRecDepth 100000 in
set_option maxHeartbeats 4000000 in
theorem r_X0_init_0 {X : Nat → Int32} {d : Nat} (hd : 0 ≤ d) {n : Nat} {v0 : Nat} {h : Hp} {o : Hp} (hf : f_X0_init_0 n v0 h = some o) : Run X d 1 0 [some (.ref v0), none] [] h (none, o) := by
  unfold f_X0_init_0 at hf
  refine rs_aload_n i_X0_init_0 rfl ?_
  refine rs_objI i_X0_init_1 (Nat.le_of_ble_eq_true rfl) ?_
  refine rs_aload_n i_X0_init_4 rfl ?_
  refine rs_bipush i_X0_init_5 (v := 12) (by decide) ?_
  refine rs_newa i_X0_init_7 (by decide) ?_
  exact r_X0_init_9 hd hf
def f_X0_init (n : Nat) (v0 : Nat) (h : Hp) : Option Hp := f_X0_init_0 n v0 h
theorem c_X0_init {X : Nat → Int32} {d : Nat} (hd : 0 ≤ d) {n : Nat} {v0 : Nat} {h : Hp} {o : Hp} (hf : f_X0_init n v0 h = some o) : Calls X d 1 [.ref v0] h (none, o) := by
  exact ⟨_, rfl, r_X0_init_0 hd hf⟩
theorem i_X0_become_0 : fetch 2 0 = some (.aload_n 1, 1, 0, 0, 0, 0) := by decide +kernel
theorem i_X0_become_1 : fetch 2 1 = some (.getfield 9, 4, 0, 0, 0, 92) := by decide +kernel
theorem i_X0_become_4 : fetch 2 4 = some (.iconst 0, 5, 0, 0, 0, 0) := by decide +kernel
theorem i_X0_become_5 : fetch 2 5 = some (.aload_n 0, 6, 0, 0, 0, 0) := by decide +kernel
theorem i_X0_become_6 : fetch 2 6 = some (.getfield 9, 9, 0, 0, 0, 92) := by decide +kernel
theorem i_X0_become_9 : fetch 2 9 = some (.iconst 0, 10, 0, 0, 0, 0) := by decide +kernel
theorem i_X0_become_10 : fetch 2 10 = some (.bipush 12, 12, 0, 0, 0, 0) := by decide +kernel
theorem i_X0_become_12 : fetch 2 12 = some (.invokestatic 26, 15, 1001, 0, 0, 824) := by decide +kernel
theorem i_X0_become_15 : fetch 2 15 = some (.aload_n 1, 16, 0, 0, 0, 0) := by decide +kernel
theorem i_X0_become_16 : fetch 2 16 = some (.getfield 15, 19, 0, 1, 0, 95) := by decide +kernel
theorem i_X0_become_19 : fetch 2 19 = some (.iconst 0, 20, 0, 0, 0, 0) := by decide +kernel
theorem i_X0_become_20 : fetch 2 20 = some (.aload_n 0, 21, 0, 0, 0, 0) := by decide +kernel
theorem i_X0_become_21 : fetch 2 21 = some (.getfield 15, 24, 0, 1, 0, 95) := by decide +kernel
theorem i_X0_become_24 : fetch 2 24 = some (.iconst 0, 25, 0, 0, 0, 0) := by decide +kernel
theorem i_X0_become_25 : fetch 2 25 = some (.bipush 12, 27, 0, 0, 0, 0) := by decide +kernel
theorem i_X0_become_27 : fetch 2 27 = some (.invokestatic 26, 30, 1001, 0, 0, 824) := by decide +kernel
theorem i_X0_become_30 : fetch 2 30 = some (.aload_n 1, 31, 0, 0, 0, 0) := by decide +kernel
theorem i_X0_become_31 : fetch 2 31 = some (.getfield 18, 34, 0, 2, 0, 98) := by decide +kernel
theorem i_X0_become_34 : fetch 2 34 = some (.iconst 0, 35, 0, 0, 0, 0) := by decide +kernel
theorem i_X0_become_35 : fetch 2 35 = some (.aload_n 0, 36, 0, 0, 0, 0) := by decide +kernel
theorem i_X0_become_36 : fetch 2 36 = some (.getfield 18, 39, 0, 2, 0, 98) := by decide +kernel
theorem i_X0_become_39 : fetch 2 39 = some (.iconst 0, 40, 0, 0, 0, 0) := by decide +kernel
theorem i_X0_become_40 : fetch 2 40 = some (.iconst 3, 41, 0, 0, 0, 0) := by decide +kernel
theorem i_X0_become_41 : fetch 2 41 = some (.invokestatic 26, 44, 1001, 0, 0, 824) := by decide +kernel
theorem i_X0_become_44 : fetch 2 44 = some (.aload_n 0, 45, 0, 0, 0, 0) := by decide +kernel
theorem i_X0_become_45 : fetch 2 45 = some (.aload_n 1, 46, 0, 0, 0, 0) := by decide +kernel
theorem i_X0_become_46 : fetch 2 46 = some (.getfield 21, 49, 0, 3, 0, 100) := by decide +kernel
theorem i_X0_become_49 : fetch 2 49 = some (.putfield 21, 52, 0, 3, 0, 100) := by decide +kernel
theorem i_X0_become_52 : fetch 2 52 = some (.return_, 53, 0, 0, 0, 0) := by decide +kernel
def f_X0_become_44 (v0 : Nat) (v1 : Nat) (h : Hp) : Option Hp :=
  if okO h v1 0 then
  if okO h v0 0 then
  some (hsi h v0 3 (gI h v1 3))
  else none
  else none
set_option maxRecDepth 100000 in
set_option maxHeartbeats 4000000 in
theorem r_X0_become_44 {X : Nat → Int32} {d : Nat} (hd : 0 ≤ d) {v0 : Nat} {v1 : Nat} {h : Hp} {o : Hp} (hf : f_X0_become_44 v0 v1 h = some o) : Run X d 2 44 [some (.ref v0), some (.ref v1)] [] h (none, o) := by
  unfold f_X0_become_44 at hf
  refine rs_aload_n i_X0_become_44 rfl ?_
  refine rs_aload_n i_X0_become_45 rfl ?_
  obtain ⟨c1, hf⟩ := ite_some hf
  refine rs_getI i_X0_become_46 (by decide) (by decide) c1 ?_
  obtain ⟨c2, hf⟩ := ite_some hf
  refine rs_putI i_X0_become_49 (by decide) c2 ?_
  have hf := Option.some.inj hf
  subst hf
  exact rs_vret i_X0_become_52 m_X0_become rfl
def f_X0_become_30 (v0 : Nat) (v1 : Nat) (h : Hp) : Option Hp :=
  if okO h v1 0 then
  (gR h v1 2).bind fun a2 =>
  if okO h v0 0 then
  (gR h v0 2).bind fun a4 =>
  if okCp h a2 0 a4 0 3 then
  f_X0_become_44 v0 v1 (hcp h a2 (ix 0) a4 (ix 0) (ix 3))
  else none
  else none
  else none
set_option maxRecDepth 100000 in
set_option maxHeartbeats 4000000 in
theorem r_X0_become_30 {X : Nat → Int32} {d : Nat} (hd : 0 ≤ d) {v0 : Nat} {v1 : Nat} {h : Hp} {o : Hp} (hf : f_X0_become_30 v0 v1 h = some o) : Run X d 2 30 [some (.ref v0), some (.ref v1)] [] h (none, o) := by
  unfold f_X0_become_30 at hf
  refine rs_aload_n i_X0_become_30 rfl ?_
  obtain ⟨c1, hf⟩ := ite_some hf
  obtain ⟨a2, e2, hf⟩ := bind_some hf
  refine rs_getR i_X0_become_31 (by decide) (by decide) c1 e2 ?_
  refine rs_iconst i_X0_become_34 (v := 0) (by decide) ?_
  refine rs_aload_n i_X0_become_35 rfl ?_
  obtain ⟨c3, hf⟩ := ite_some hf
  obtain ⟨a4, e4, hf⟩ := bind_some hf
  refine rs_getR i_X0_become_36 (by decide) (by decide) c3 e4 ?_
  refine rs_iconst i_X0_become_39 (v := 0) (by decide) ?_
  refine rs_iconst i_X0_become_40 (v := 3) (by decide) ?_
  obtain ⟨c5, hf⟩ := ite_some hf
  refine rs_acp i_X0_become_41 c5 (Nat.le_of_ble_eq_true rfl) ?_
  exact r_X0_become_44 hd hf
def f_X0_become_15 (v0 : Nat) (v1 : Nat) (h : Hp) : Option Hp :=
  if okO h v1 0 then
  (gR h v1 1).bind fun a2 =>
  if okO h v0 0 then
  (gR h v0 1).bind fun a4 =>
  if okCp h a2 0 a4 0 12 then
  f_X0_become_30 v0 v1 (hcp h a2 (ix 0) a4 (ix 0) (ix 12))
  else none
  else none
  else none
set_option maxRecDepth 100000 in
set_option maxHeartbeats 4000000 in
theorem r_X0_become_15 {X : Nat → Int32} {d : Nat} (hd : 0 ≤ d) {v0 : Nat} {v1 : Nat} {h : Hp} {o : Hp} (hf : f_X0_become_15 v0 v1 h = some o) : Run X d 2 15 [some (.ref v0), some (.ref v1)] [] h (none, o) := by
  unfold f_X0_become_15 at hf
  refine rs_aload_n i_X0_become_15 rfl ?_
  obtain ⟨c1, hf⟩ := ite_some hf
  obtain ⟨a2, e2, hf⟩ := bind_some hf
  refine rs_getR i_X0_become_16 (by decide) (by decide) c1 e2 ?_
  refine rs_iconst i_X0_become_19 (v := 0) (by decide) ?_
  refine rs_aload_n i_X0_become_20 rfl ?_
  obtain ⟨c3, hf⟩ := ite_some hf
  obtain ⟨a4, e4, hf⟩ := bind_some hf
  refine rs_getR i_X0_become_21 (by decide) (by decide) c3 e4 ?_
  refine rs_iconst i_X0_become_24 (v := 0) (by decide) ?_
  refine rs_bipush i_X0_become_25 (v := 12) (by decide) ?_
  obtain ⟨c5, hf⟩ := ite_some hf
  refine rs_acp i_X0_become_27 c5 (Nat.le_of_ble_eq_true rfl) ?_
  exact r_X0_become_30 hd hf
def f_X0_become_0 (v0 : Nat) (v1 : Nat) (h : Hp) : Option Hp :=
  if okO h v1 0 then
  (gR h v1 0).bind fun a2 =>
  if okO h v0 0 then
  (gR h v0 0).bind fun a4 =>
  if okCp h a2 0 a4 0 12 then
  f_X0_become_15 v0 v1 (hcp h a2 (ix 0) a4 (ix 0) (ix 12))
  else none
  else none
  else none
set_option maxRecDepth 100000 in
set_option maxHeartbeats 4000000 in
theorem r_X0_become_0 {X : Nat → Int32} {d : Nat} (hd : 0 ≤ d) {v0 : Nat} {v1 : Nat} {h : Hp} {o : Hp} (hf : f_X0_become_0 v0 v1 h = some o) : Run X d 2 0 [some (.ref v0), some (.ref v1)] [] h (none, o) := by
  unfold f_X0_become_0 at hf
  refine rs_aload_n i_X0_become_0 rfl ?_
  obtain ⟨c1, hf⟩ := ite_some hf
  obtain ⟨a2, e2, hf⟩ := bind_some hf
  refine rs_getR i_X0_become_1 (by decide) (by decide) c1 e2 ?_
  refine rs_iconst i_X0_become_4 (v := 0) (by decide) ?_
  refine rs_aload_n i_X0_become_5 rfl ?_
  obtain ⟨c3, hf⟩ := ite_some hf
  obtain ⟨a4, e4, hf⟩ := bind_some hf
  refine rs_getR i_X0_become_6 (by decide) (by decide) c3 e4 ?_
  refine rs_iconst i_X0_become_9 (v := 0) (by decide) ?_
  refine rs_bipush i_X0_become_10 (v := 12) (by decide) ?_
  obtain ⟨c5, hf⟩ := ite_some hf
  refine rs_acp i_X0_become_12 c5 (Nat.le_of_ble_eq_true rfl) ?_
  exact r_X0_become_15 hd hf
def f_X0_become (v0 : Nat) (v1 : Nat) (h : Hp) : Option Hp := f_X0_become_0 v0 v1 h
theorem c_X0_become {X : Nat → Int32} {d : Nat} (hd : 0 ≤ d) {v0 : Nat} {v1 : Nat} {h : Hp} {o : Hp} (hf : f_X0_become v0 v1 h = some o) : Calls X d 2 [.ref v0, .ref v1] h (none, o) := by
  exact ⟨_, rfl, r_X0_become_0 hd hf⟩
theorem i_X1_init_0 : fetch 3 0 = some (.aload_n 0, 1, 0, 0, 0, 0) := by decide +kernel
theorem i_X1_init_1 : fetch 3 1 = some (.invokespecial 3, 4, 1000, 0, 0, 207) := by decide +kernel
theorem i_X1_init_4 : fetch 3 4 = some (.aload_n 0, 5, 0, 0, 0, 0) := by decide +kernel
theorem i_X1_init_5 : fetch 3 5 = some (.bipush 6, 7, 0, 0, 0, 0) := by decide +kernel
theorem i_X1_init_7 : fetch 3 7 = some (.newarray .int, 9, 9, 0, 0, 0) := by decide +kernel
theorem i_X1_init_9 : fetch 3 9 = some (.putfield 11, 12, 1, 0, 0, 208) := by decide +kernel
theorem i_X1_init_12 : fetch 3 12 = some (.aload_n 0, 13, 0, 0, 0, 0) := by decide +kernel
theorem i_X1_init_13 : fetch 3 13 = some (.iconst 0, 14, 0, 0, 0, 0) := by decide +kernel
theorem i_X1_init_14 : fetch 3 14 = some (.putfield 17, 17, 1, 2, 0, 211) := by decide +kernel
theorem i_X1_init_17 : fetch 3 17 = some (.aload_n 0, 18, 0, 0, 0, 0) := by decide +kernel
theorem i_X1_init_18 : fetch 3 18 = some (.iconst 0, 19, 0, 0, 0, 0) := by decide +kernel
theorem i_X1_init_19 : fetch 3 19 = some (.putfield 21, 22, 1, 3, 0, 213) := by decide +kernel
theorem i_X1_init_22 : fetch 3 22 = some (.aload_n 0, 23, 0, 0, 0, 0) := by decide +kernel
theorem i_X1_init_23 : fetch 3 23 = some (.iconst 0, 24, 0, 0, 0, 0) := by decide +kernel
theorem i_X1_init_24 : fetch 3 24 = some (.putfield 24, 27, 1, 4, 0, 216) := by decide +kernel
theorem i_X1_init_27 : fetch 3 27 = some (.aload_n 0, 28, 0, 0, 0, 0) := by decide +kernel
theorem i_X1_init_28 : fetch 3 28 = some (.lconst 1, 29, 0, 0, 0, 0) := by decide +kernel
theorem i_X1_init_29 : fetch 3 29 = some (.putfield 28, 32, 1, 5, 0, 217) := by decide +kernel
theorem i_X1_init_32 : fetch 3 32 = some (.aload_n 0, 33, 0, 0, 0, 0) := by decide +kernel
theorem i_X1_init_33 : fetch 3 33 = some (.aload_n 1, 34, 0, 0, 0, 0) := by decide +kernel
theorem i_X1_init_34 : fetch 3 34 = some (.putfield 32, 37, 1, 1, 0, 209) := by decide +kernel
theorem i_X1_init_37 : fetch 3 37 = some (.return_, 38, 0, 0, 0, 0) := by decide +kernel
def f_X1_init_32 (v0 : Nat) (v1 : Nat) (h : Hp) : Option Hp :=
  if okO h v0 1 then
  if 16 ≤ v1 then
  some (hsr h v0 1 (some v1))
  else none
  else none
set_option maxRecDepth 100000 in
set_option maxHeartbeats 4000000 in
theorem r_X1_init_32 {X : Nat → Int32} {d : Nat} (hd : 0 ≤ d) {v0 : Nat} {v1 : Nat} {h : Hp} {o : Hp} (hf : f_X1_init_32 v0 v1 h = some o) : Run X d 3 32 [some (.ref v0), some (.ref v1)] [] h (none, o) := by
  unfold f_X1_init_32 at hf
  refine rs_aload_n i_X1_init_32 rfl ?_
  refine rs_aload_n i_X1_init_33 rfl ?_
  obtain ⟨c1, hf⟩ := ite_some hf
  obtain ⟨c2, hf⟩ := ite_some hf
  refine rs_putR i_X1_init_34 (by decide) c2 c1 ?_
  have hf := Option.some.inj hf
  subst hf
  exact rs_vret i_X1_init_37 m_X1_init rfl
def f_X1_init_27 (v0 : Nat) (v1 : Nat) (h : Hp) : Option Hp :=
  if okO h v0 1 then
  f_X1_init_32 v0 v1 (hsl h v0 5 1)
  else none
set_option maxRecDepth 100000 in
set_option maxHeartbeats 4000000 in
theorem r_X1_init_27 {X : Nat → Int32} {d : Nat} (hd : 0 ≤ d) {v0 : Nat} {v1 : Nat} {h : Hp} {o : Hp} (hf : f_X1_init_27 v0 v1 h = some o) : Run X d 3 27 [some (.ref v0), some (.ref v1)] [] h (none, o) := by
  unfold f_X1_init_27 at hf
  refine rs_aload_n i_X1_init_27 rfl ?_
  refine rs_lconst i_X1_init_28 (v := 1) (by decide) ?_
  obtain ⟨c1, hf⟩ := ite_some hf
  refine rs_putL i_X1_init_29 (by decide) c1 ?_
  exact r_X1_init_32 hd hf
def f_X1_init_22 (v0 : Nat) (v1 : Nat) (h : Hp) : Option Hp :=
  if okO h v0 1 then
  f_X1_init_27 v0 v1 (hsi h v0 4 0)
  else none
set_option maxRecDepth 100000 in
set_option maxHeartbeats 4000000 in
theorem r_X1_init_22 {X : Nat → Int32} {d : Nat} (hd : 0 ≤ d) {v0 : Nat} {v1 : Nat} {h : Hp} {o : Hp} (hf : f_X1_init_22 v0 v1 h = some o) : Run X d 3 22 [some (.ref v0), some (.ref v1)] [] h (none, o) := by
  unfold f_X1_init_22 at hf
  refine rs_aload_n i_X1_init_22 rfl ?_
  refine rs_iconst i_X1_init_23 (v := 0) (by decide) ?_
  obtain ⟨c1, hf⟩ := ite_some hf
  refine rs_putZ i_X1_init_24 (by decide) (by decide) c1 ?_
  exact r_X1_init_27 hd hf
def f_X1_init_17 (v0 : Nat) (v1 : Nat) (h : Hp) : Option Hp :=
  if okO h v0 1 then
  f_X1_init_22 v0 v1 (hsi h v0 3 0)
  else none
set_option maxRecDepth 100000 in
set_option maxHeartbeats 4000000 in
theorem r_X1_init_17 {X : Nat → Int32} {d : Nat} (hd : 0 ≤ d) {v0 : Nat} {v1 : Nat} {h : Hp} {o : Hp} (hf : f_X1_init_17 v0 v1 h = some o) : Run X d 3 17 [some (.ref v0), some (.ref v1)] [] h (none, o) := by
  unfold f_X1_init_17 at hf
  refine rs_aload_n i_X1_init_17 rfl ?_
  refine rs_iconst i_X1_init_18 (v := 0) (by decide) ?_
  obtain ⟨c1, hf⟩ := ite_some hf
  refine rs_putI i_X1_init_19 (by decide) c1 ?_
  exact r_X1_init_22 hd hf
def f_X1_init_12 (v0 : Nat) (v1 : Nat) (h : Hp) : Option Hp :=
  if okO h v0 1 then
  f_X1_init_17 v0 v1 (hsi h v0 2 0)
  else none
set_option maxRecDepth 100000 in
set_option maxHeartbeats 4000000 in
theorem r_X1_init_12 {X : Nat → Int32} {d : Nat} (hd : 0 ≤ d) {v0 : Nat} {v1 : Nat} {h : Hp} {o : Hp} (hf : f_X1_init_12 v0 v1 h = some o) : Run X d 3 12 [some (.ref v0), some (.ref v1)] [] h (none, o) := by
  unfold f_X1_init_12 at hf
  refine rs_aload_n i_X1_init_12 rfl ?_
  refine rs_iconst i_X1_init_13 (v := 0) (by decide) ?_
  obtain ⟨c1, hf⟩ := ite_some hf
  refine rs_putI i_X1_init_14 (by decide) c1 ?_
  exact r_X1_init_17 hd hf
def f_X1_init_9 (v0 : Nat) (v1 : Nat) (s0 : Nat) (s1 : Nat) (h : Hp) : Option Hp :=
  if okO h s0 1 then
  if 16 ≤ s1 then
  f_X1_init_12 v0 v1 (hsr h s0 0 (some s1))
  else none
  else none
set_option maxRecDepth 100000 in
set_option maxHeartbeats 4000000 in
theorem r_X1_init_9 {X : Nat → Int32} {d : Nat} (hd : 0 ≤ d) {v0 : Nat} {v1 : Nat} {s0 : Nat} {s1 : Nat} {h : Hp} {o : Hp} (hf : f_X1_init_9 v0 v1 s0 s1 h = some o) : Run X d 3 9 [some (.ref v0), some (.ref v1)] [.ref s1, .ref s0] h (none, o) := by
  unfold f_X1_init_9 at hf
  obtain ⟨c1, hf⟩ := ite_some hf
  obtain ⟨c2, hf⟩ := ite_some hf
  refine rs_putR i_X1_init_9 (by decide) c2 c1 ?_
  exact r_X1_init_12 hd hf
def f_X1_init_0 (v0 : Nat) (v1 : Nat) (h : Hp) : Option Hp :=
  f_X1_init_9 v0 v1 v0 h.1.length (hnew h (9, ix 6))
set_option maxRecDepth 100000 in
set_option maxHeartbeats 4000000 in
theorem r_X1_init_0 {X : Nat → Int32} {d : Nat} (hd : 0 ≤ d) {v0 : Nat} {v1 : Nat} {h : Hp} {o : Hp} (hf : f_X1_init_0 v0 v1 h = some o) : Run X d 3 0 [some (.ref v0), some (.ref v1)] [] h (none, o) := by
  unfold f_X1_init_0 at hf
  refine rs_aload_n i_X1_init_0 rfl ?_
  refine rs_objI i_X1_init_1 (Nat.le_of_ble_eq_true rfl) ?_
  refine rs_aload_n i_X1_init_4 rfl ?_
  refine rs_bipush i_X1_init_5 (v := 6) (by decide) ?_
  refine rs_newa i_X1_init_7 (by decide) ?_
  exact r_X1_init_9 hd hf
def f_X1_init (v0 : Nat) (v1 : Nat) (h : Hp) : Option Hp := f_X1_init_0 v0 v1 h
theorem c_X1_init {X : Nat → Int32} {d : Nat} (hd : 0 ≤ d) {v0 : Nat} {v1 : Nat} {h : Hp} {o : Hp} (hf : f_X1_init v0 v1 h = some o) : Calls X d 3 [.ref v0, .ref v1] h (none, o) := by
  exact ⟨_, rfl, r_X1_init_0 hd hf⟩
theorem i_X1_wander_0 : fetch 4 0 = some (.aload_n 0, 1, 0, 0, 0, 0) := by decide +kernel
theorem i_X1_wander_1 : fetch 4 1 = some (.iload_n 1, 2, 0, 0, 0, 0) := by decide +kernel
theorem i_X1_wander_2 : fetch 4 2 = some (.iconst (-1), 3, 0, 0, 0, 0) := by decide +kernel
theorem i_X1_wander_3 : fetch 4 3 = some (.if_icmp .eq 7, 6, 0, 0, 0, 0) := by decide +kernel
theorem i_X1_wander_6 : fetch 4 6 = some (.iconst 1, 7, 0, 0, 0, 0) := by decide +kernel
theorem i_X1_wander_7 : fetch 4 7 = some (.goto 4, 10, 0, 0, 0, 0) := by decide +kernel
theorem i_X1_wander_10 : fetch 4 10 = some (.iconst 0, 11, 0, 0, 0, 0) := by decide +kernel
theorem i_X1_wander_11 : fetch 4 11 = some (.putfield 24, 14, 1, 4, 0, 216) := by decide +kernel
theorem i_X1_wander_14 : fetch 4 14 = some (.aload_n 0, 15, 0, 0, 0, 0) := by decide +kernel
theorem i_X1_wander_15 : fetch 4 15 = some (.iload_n 1, 16, 0, 0, 0, 0) := by decide +kernel
theorem i_X1_wander_16 : fetch 4 16 = some (.i2l, 17, 0, 0, 0, 0) := by decide +kernel
theorem i_X1_wander_17 : fetch 4 17 = some (.lconst 1, 18, 0, 0, 0, 0) := by decide +kernel
theorem i_X1_wander_18 : fetch 4 18 = some (.ladd, 19, 0, 0, 0, 0) := by decide +kernel
theorem i_X1_wander_19 : fetch 4 19 = some (.putfield 28, 22, 1, 5, 0, 217) := by decide +kernel
theorem i_X1_wander_22 : fetch 4 22 = some (.return_, 23, 0, 0, 0, 0) := by decide +kernel
def f_X1_wander_14 (v0 : Nat) (v1 : Int32) (h : Hp) : Option Hp :=
  if okO h v0 1 then
  some (hsl h v0 5 ((Int32.toInt64 v1) + 1))
  else none
set_option maxRecDepth 100000 in
set_option maxHeartbeats 4000000 in
theorem r_X1_wander_14 {X : Nat → Int32} {d : Nat} (hd : 0 ≤ d) {v0 : Nat} {v1 : Int32} {h : Hp} {o : Hp} (hf : f_X1_wander_14 v0 v1 h = some o) : Run X d 4 14 [some (.ref v0), some (.int v1)] [] h (none, o) := by
  unfold f_X1_wander_14 at hf
  refine rs_aload_n i_X1_wander_14 rfl ?_
  refine rs_iload_n i_X1_wander_15 rfl ?_
  refine rs_i2l i_X1_wander_16 ?_
  refine rs_lconst i_X1_wander_17 (v := 1) (by decide) ?_
  refine rs_ladd i_X1_wander_18 ?_
  obtain ⟨c1, hf⟩ := ite_some hf
  refine rs_putL i_X1_wander_19 (by decide) c1 ?_
  have hf := Option.some.inj hf
  subst hf
  exact rs_vret i_X1_wander_22 m_X1_wander rfl
def f_X1_wander_11 (v0 : Nat) (v1 : Int32) (s0 : Nat) (s1 : Int32) (h : Hp) : Option Hp :=
  if okO h s0 1 then
  if s1 = 0 ∨ s1 = 1 then
  f_X1_wander_14 v0 v1 (hsi h s0 4 s1)
  else none
  else none
set_option maxRecDepth 100000 in
set_option maxHeartbeats 4000000 in
theorem r_X1_wander_11 {X : Nat → Int32} {d : Nat} (hd : 0 ≤ d) {v0 : Nat} {v1 : Int32} {s0 : Nat} {s1 : Int32} {h : Hp} {o : Hp} (hf : f_X1_wander_11 v0 v1 s0 s1 h = some o) : Run X d 4 11 [some (.ref v0), some (.int v1)] [.int s1, .ref s0] h (none, o) := by
  unfold f_X1_wander_11 at hf
  obtain ⟨c1, hf⟩ := ite_some hf
  obtain ⟨c2, hf⟩ := ite_some hf
  refine rs_putZ i_X1_wander_11 (by decide) c2 c1 ?_
  exact r_X1_wander_14 hd hf
def f_X1_wander_0 (v0 : Nat) (v1 : Int32) (h : Hp) : Option Hp :=
  if v1 = (-1) then
    f_X1_wander_11 v0 v1 v0 0 h
  else
    f_X1_wander_11 v0 v1 v0 1 h
set_option maxRecDepth 100000 in
set_option maxHeartbeats 4000000 in
theorem r_X1_wander_0 {X : Nat → Int32} {d : Nat} (hd : 0 ≤ d) {v0 : Nat} {v1 : Int32} {h : Hp} {o : Hp} (hf : f_X1_wander_0 v0 v1 h = some o) : Run X d 4 0 [some (.ref v0), some (.int v1)] [] h (none, o) := by
  unfold f_X1_wander_0 at hf
  refine rs_aload_n i_X1_wander_0 rfl ?_
  refine rs_iload_n i_X1_wander_1 rfl ?_
  refine rs_iconst i_X1_wander_2 (v := (-1)) (by decide) ?_
  by_cases c1 : v1 = (-1)
  · replace hf := (if_pos c1).symm.trans hf
    refine rs_icT i_X1_wander_3 (ct_eq c1) (tg := 10) (by decide) ?_
    refine rs_iconst i_X1_wander_10 (v := 0) (by decide) ?_
    exact r_X1_wander_11 hd hf
  · replace hf := (if_neg c1).symm.trans hf
    refine rs_icF i_X1_wander_3 (cf_eq c1) ?_
    refine rs_iconst i_X1_wander_6 (v := 1) (by decide) ?_
    refine rs_goto i_X1_wander_7 (tg := 11) (by decide) ?_
    exact r_X1_wander_11 hd hf
def f_X1_wander (v0 : Nat) (v1 : Int32) (h : Hp) : Option Hp := f_X1_wander_0 v0 v1 h
theorem c_X1_wander {X : Nat → Int32} {d : Nat} (hd : 0 ≤ d) {v0 : Nat} {v1 : Int32} {h : Hp} {o : Hp} (hf : f_X1_wander v0 v1 h = some o) : Calls X d 4 [.ref v0, .int v1] h (none, o) := by
  exact ⟨_, rfl, r_X1_wander_0 hd hf⟩
theorem i_X3_thick_0 : fetch 39 0 = some (.iload_n 1, 1, 0, 0, 0, 0) := by decide +kernel
theorem i_X3_thick_1 : fetch 39 1 = some (.ifCond .lt 34, 4, 0, 0, 0, 0) := by decide +kernel
theorem i_X3_thick_4 : fetch 39 4 = some (.iload_n 1, 5, 0, 0, 0, 0) := by decide +kernel
theorem i_X3_thick_5 : fetch 39 5 = some (.bipush 12, 7, 0, 0, 0, 0) := by decide +kernel
theorem i_X3_thick_7 : fetch 39 7 = some (.if_icmp .ge 28, 10, 0, 0, 0, 0) := by decide +kernel
theorem i_X3_thick_10 : fetch 39 10 = some (.aload_n 0, 11, 0, 0, 0, 0) := by decide +kernel
theorem i_X3_thick_11 : fetch 39 11 = some (.getfield 15, 14, 3, 1, 0, 239) := by decide +kernel
theorem i_X3_thick_14 : fetch 39 14 = some (.iload_n 1, 15, 0, 0, 0, 0) := by decide +kernel
theorem i_X3_thick_15 : fetch 39 15 = some (.iaload, 16, 0, 0, 0, 0) := by decide +kernel
theorem i_X3_thick_16 : fetch 39 16 = some (.ifCond .le 19, 19, 0, 0, 0, 0) := by decide +kernel
theorem i_X3_thick_19 : fetch 39 19 = some (.aload_n 0, 20, 0, 0, 0, 0) := by decide +kernel
theorem i_X3_thick_20 : fetch 39 20 = some (.getfield 9, 23, 3, 0, 0, 238) := by decide +kernel
theorem i_X3_thick_23 : fetch 39 23 = some (.iload_n 1, 24, 0, 0, 0, 0) := by decide +kernel
theorem i_X3_thick_24 : fetch 39 24 = some (.iaload, 25, 0, 0, 0, 0) := by decide +kernel
theorem i_X3_thick_25 : fetch 39 25 = some (.aload_n 0, 26, 0, 0, 0, 0) := by decide +kernel
theorem i_X3_thick_26 : fetch 39 26 = some (.getfield 15, 29, 3, 1, 0, 239) := by decide +kernel
theorem i_X3_thick_29 : fetch 39 29 = some (.iload_n 1, 30, 0, 0, 0, 0) := by decide +kernel
theorem i_X3_thick_30 : fetch 39 30 = some (.iaload, 31, 0, 0, 0, 0) := by decide +kernel
theorem i_X3_thick_31 : fetch 39 31 = some (.idiv, 32, 0, 0, 0, 0) := by decide +kernel
theorem i_X3_thick_32 : fetch 39 32 = some (.goto 4, 35, 0, 0, 0, 0) := by decide +kernel
theorem i_X3_thick_35 : fetch 39 35 = some (.iconst 0, 36, 0, 0, 0, 0) := by decide +kernel
theorem i_X3_thick_36 : fetch 39 36 = some (.ireturn, 37, 0, 0, 0, 0) := by decide +kernel
def f_X3_thick_0 (v0 : Nat) (v1 : Int32) (h : Hp) : Option (Int32 × Hp) :=
  if v1 < 0 then
    some (0, h)
  else
    if 12 ≤ v1 then
      some (0, h)
    else
      if okO h v0 3 then
      (gR h v0 1).bind fun a4 =>
      if okI h a4 v1 then
      if (gI h a4 (ix v1)) ≤ 0 then
        some (0, h)
      else
        (gR h v0 0).bind fun a7 =>
        if okI h a7 v1 then
        if ¬ (gI h a4 (ix v1)) = 0 then
        some (((gI h a7 (ix v1)) / (gI h a4 (ix v1))), h)
        else none
        else none
      else none
      else none
set_option maxRecDepth 100000 in
set_option maxHeartbeats 4000000 in
theorem r_X3_thick_0 {X : Nat → Int32} {d : Nat} (hd : 0 ≤ d) {v0 : Nat} {v1 : Int32} {h : Hp} {o : (Int32 × Hp)} (hf : f_X3_thick_0 v0 v1 h = some o) : Run X d 39 0 [some (.ref v0), some (.int v1)] [] h (some (.int o.1), o.2) := by
  unfold f_X3_thick_0 at hf
  refine rs_iload_n i_X3_thick_0 rfl ?_
  by_cases c1 : v1 < 0
  · replace hf := (if_pos c1).symm.trans hf
    refine rs_ifT i_X3_thick_1 (ct_lt c1) (tg := 35) (by decide) ?_
    refine rs_iconst i_X3_thick_35 (v := 0) (by decide) ?_
    have hf := Option.some.inj hf
    subst hf
    exact rs_iret i_X3_thick_36 m_X3_thick rfl
  · replace hf := (if_neg c1).symm.trans hf
    refine rs_ifF i_X3_thick_1 (cf_lt c1) ?_
    refine rs_iload_n i_X3_thick_4 rfl ?_
    refine rs_bipush i_X3_thick_5 (v := 12) (by decide) ?_
    by_cases c2 : 12 ≤ v1
    · replace hf := (if_pos c2).symm.trans hf
      refine rs_icT i_X3_thick_7 (ct_ge c2) (tg := 35) (by decide) ?_
      refine rs_iconst i_X3_thick_35 (v := 0) (by decide) ?_
      have hf := Option.some.inj hf
      subst hf
      exact rs_iret i_X3_thick_36 m_X3_thick rfl
    · replace hf := (if_neg c2).symm.trans hf
      refine rs_icF i_X3_thick_7 (cf_ge c2) ?_
      refine rs_aload_n i_X3_thick_10 rfl ?_
      obtain ⟨c3, hf⟩ := ite_some hf
      obtain ⟨a4, e4, hf⟩ := bind_some hf
      refine rs_getR i_X3_thick_11 (by decide) (by decide) c3 e4 ?_
      refine rs_iload_n i_X3_thick_14 rfl ?_
      obtain ⟨c5, hf⟩ := ite_some hf
      refine rs_iald i_X3_thick_15 c5 ?_
      by_cases c6 : (gI h a4 (ix v1)) ≤ 0
      · replace hf := (if_pos c6).symm.trans hf
        refine rs_ifT i_X3_thick_16 (ct_le c6) (tg := 35) (by decide) ?_
        refine rs_iconst i_X3_thick_35 (v := 0) (by decide) ?_
        have hf := Option.some.inj hf
        subst hf
        exact rs_iret i_X3_thick_36 m_X3_thick rfl
      · replace hf := (if_neg c6).symm.trans hf
        refine rs_ifF i_X3_thick_16 (cf_le c6) ?_
        refine rs_aload_n i_X3_thick_19 rfl ?_
        obtain ⟨a7, e7, hf⟩ := bind_some hf
        refine rs_getR i_X3_thick_20 (by decide) (by decide) c3 e7 ?_
        refine rs_iload_n i_X3_thick_23 rfl ?_
        obtain ⟨c8, hf⟩ := ite_some hf
        refine rs_iald i_X3_thick_24 c8 ?_
        refine rs_aload_n i_X3_thick_25 rfl ?_
        refine rs_getR i_X3_thick_26 (by decide) (by decide) c3 e4 ?_
        refine rs_iload_n i_X3_thick_29 rfl ?_
        refine rs_iald i_X3_thick_30 c5 ?_
        obtain ⟨c9, hf⟩ := ite_some hf
        refine rs_idiv i_X3_thick_31 c9 ?_
        refine rs_goto i_X3_thick_32 (tg := 36) (by decide) ?_
        have hf := Option.some.inj hf
        subst hf
        exact rs_iret i_X3_thick_36 m_X3_thick rfl
def f_X3_thick (v0 : Nat) (v1 : Int32) (h : Hp) : Option (Int32 × Hp) := f_X3_thick_0 v0 v1 h
theorem c_X3_thick {X : Nat → Int32} {d : Nat} (hd : 0 ≤ d) {v0 : Nat} {v1 : Int32} {h : Hp} {o : (Int32 × Hp)} (hf : f_X3_thick v0 v1 h = some o) : Calls X d 39 [.ref v0, .int v1] h (some (.int o.1), o.2) := by
  exact ⟨_, rfl, r_X3_thick_0 hd hf⟩
theorem i_X6_joined_0 : fetch 65 0 = some (.iload_n 0, 1, 0, 0, 0, 0) := by decide +kernel
theorem i_X6_joined_1 : fetch 65 1 = some (.tableswitch 101 (-17) (-11) #[97, 93, 82, 71, 101, 57, 43], 44, 0, 0, 0, 0) := by decide +kernel
theorem i_X6_joined_44 : fetch 65 44 = some (.iload_n 1, 45, 0, 0, 0, 0) := by decide +kernel
theorem i_X6_joined_45 : fetch 65 45 = some (.ifCond .ne 7, 48, 0, 0, 0, 0) := by decide +kernel
theorem i_X6_joined_48 : fetch 65 48 = some (.iload_n 2, 49, 0, 0, 0, 0) := by decide +kernel
theorem i_X6_joined_49 : fetch 65 49 = some (.ifCond .eq 7, 52, 0, 0, 0, 0) := by decide +kernel
theorem i_X6_joined_52 : fetch 65 52 = some (.iconst 1, 53, 0, 0, 0, 0) := by decide +kernel
theorem i_X6_joined_53 : fetch 65 53 = some (.goto 4, 56, 0, 0, 0, 0) := by decide +kernel
theorem i_X6_joined_56 : fetch 65 56 = some (.iconst 0, 57, 0, 0, 0, 0) := by decide +kernel
theorem i_X6_joined_57 : fetch 65 57 = some (.ireturn, 58, 0, 0, 0, 0) := by decide +kernel
theorem i_X6_joined_58 : fetch 65 58 = some (.iload_n 1, 59, 0, 0, 0, 0) := by decide +kernel
theorem i_X6_joined_59 : fetch 65 59 = some (.ifCond .eq 11, 62, 0, 0, 0, 0) := by decide +kernel
theorem i_X6_joined_62 : fetch 65 62 = some (.iload_n 2, 63, 0, 0, 0, 0) := by decide +kernel
theorem i_X6_joined_63 : fetch 65 63 = some (.ifCond .eq 7, 66, 0, 0, 0, 0) := by decide +kernel
theorem i_X6_joined_66 : fetch 65 66 = some (.iconst 1, 67, 0, 0, 0, 0) := by decide +kernel
theorem i_X6_joined_67 : fetch 65 67 = some (.goto 4, 70, 0, 0, 0, 0) := by decide +kernel
theorem i_X6_joined_70 : fetch 65 70 = some (.iconst 0, 71, 0, 0, 0, 0) := by decide +kernel
theorem i_X6_joined_71 : fetch 65 71 = some (.ireturn, 72, 0, 0, 0, 0) := by decide +kernel
theorem i_X6_joined_72 : fetch 65 72 = some (.iload_n 1, 73, 0, 0, 0, 0) := by decide +kernel
theorem i_X6_joined_73 : fetch 65 73 = some (.iload_n 2, 74, 0, 0, 0, 0) := by decide +kernel
theorem i_X6_joined_74 : fetch 65 74 = some (.if_icmp .ge 7, 77, 0, 0, 0, 0) := by decide +kernel
theorem i_X6_joined_77 : fetch 65 77 = some (.iconst 1, 78, 0, 0, 0, 0) := by decide +kernel
theorem i_X6_joined_78 : fetch 65 78 = some (.goto 4, 81, 0, 0, 0, 0) := by decide +kernel
theorem i_X6_joined_81 : fetch 65 81 = some (.iconst 0, 82, 0, 0, 0, 0) := by decide +kernel
theorem i_X6_joined_82 : fetch 65 82 = some (.ireturn, 83, 0, 0, 0, 0) := by decide +kernel
theorem i_X6_joined_83 : fetch 65 83 = some (.iload_n 1, 84, 0, 0, 0, 0) := by decide +kernel
theorem i_X6_joined_84 : fetch 65 84 = some (.iload_n 2, 85, 0, 0, 0, 0) := by decide +kernel
theorem i_X6_joined_85 : fetch 65 85 = some (.if_icmp .ne 7, 88, 0, 0, 0, 0) := by decide +kernel
theorem i_X6_joined_88 : fetch 65 88 = some (.iconst 1, 89, 0, 0, 0, 0) := by decide +kernel
theorem i_X6_joined_89 : fetch 65 89 = some (.goto 4, 92, 0, 0, 0, 0) := by decide +kernel
theorem i_X6_joined_92 : fetch 65 92 = some (.iconst 0, 93, 0, 0, 0, 0) := by decide +kernel
theorem i_X6_joined_93 : fetch 65 93 = some (.ireturn, 94, 0, 0, 0, 0) := by decide +kernel
theorem i_X6_joined_94 : fetch 65 94 = some (.iload_n 1, 95, 0, 0, 0, 0) := by decide +kernel
theorem i_X6_joined_95 : fetch 65 95 = some (.iload_n 2, 96, 0, 0, 0, 0) := by decide +kernel
theorem i_X6_joined_96 : fetch 65 96 = some (.iadd, 97, 0, 0, 0, 0) := by decide +kernel
theorem i_X6_joined_97 : fetch 65 97 = some (.ireturn, 98, 0, 0, 0, 0) := by decide +kernel
theorem i_X6_joined_98 : fetch 65 98 = some (.iload_n 1, 99, 0, 0, 0, 0) := by decide +kernel
theorem i_X6_joined_99 : fetch 65 99 = some (.iload_n 2, 100, 0, 0, 0, 0) := by decide +kernel
theorem i_X6_joined_100 : fetch 65 100 = some (.isub, 101, 0, 0, 0, 0) := by decide +kernel
theorem i_X6_joined_101 : fetch 65 101 = some (.ireturn, 102, 0, 0, 0, 0) := by decide +kernel
theorem i_X6_joined_102 : fetch 65 102 = some (.iload_n 1, 103, 0, 0, 0, 0) := by decide +kernel
theorem i_X6_joined_103 : fetch 65 103 = some (.iload_n 2, 104, 0, 0, 0, 0) := by decide +kernel
theorem i_X6_joined_104 : fetch 65 104 = some (.imul, 105, 0, 0, 0, 0) := by decide +kernel
theorem i_X6_joined_105 : fetch 65 105 = some (.ireturn, 106, 0, 0, 0, 0) := by decide +kernel
def f_X6_joined_52  (h : Hp) : Option (Int32 × Hp) :=
  some (1, h)
set_option maxRecDepth 100000 in
set_option maxHeartbeats 4000000 in
theorem r_X6_joined_52 {X : Nat → Int32} {d : Nat} (hd : 0 ≤ d) {d0 : Int32} {d1 : Int32} {d2 : Int32} {h : Hp} {o : (Int32 × Hp)} (hf : f_X6_joined_52 h = some o) : Run X d 65 52 [some (.int d0), some (.int d1), some (.int d2)] [] h (some (.int o.1), o.2) := by
  unfold f_X6_joined_52 at hf
  refine rs_iconst i_X6_joined_52 (v := 1) (by decide) ?_
  refine rs_goto i_X6_joined_53 (tg := 57) (by decide) ?_
  have hf := Option.some.inj hf
  subst hf
  exact rs_iret i_X6_joined_57 m_X6_joined rfl
def f_X6_joined_0 (v0 : Int32) (v1 : Int32) (v2 : Int32) (h : Hp) : Option (Int32 × Hp) :=
  if v0 = (-17) then
    some ((v1 - v2), h)
  else
    if v0 = (-16) then
      some ((v1 + v2), h)
    else
      if v0 = (-15) then
        if v1 ≠ v2 then
          some (0, h)
        else
          some (1, h)
      else
        if v0 = (-14) then
          if v2 ≤ v1 then
            some (0, h)
          else
            some (1, h)
        else
          if v0 = (-13) then
            some ((v1 * v2), h)
          else
            if v0 = (-12) then
              if v1 = 0 then
                some (0, h)
              else
                if v2 = 0 then
                  some (0, h)
                else
                  some (1, h)
            else
              if v0 = (-11) then
                if v1 ≠ 0 then
                  f_X6_joined_52 h
                else
                  if v2 = 0 then
                    some (0, h)
                  else
                    f_X6_joined_52 h
              else
                some ((v1 * v2), h)
set_option maxRecDepth 100000 in
set_option maxHeartbeats 4000000 in
theorem r_X6_joined_0 {X : Nat → Int32} {d : Nat} (hd : 0 ≤ d) {v0 : Int32} {v1 : Int32} {v2 : Int32} {h : Hp} {o : (Int32 × Hp)} (hf : f_X6_joined_0 v0 v1 v2 h = some o) : Run X d 65 0 [some (.int v0), some (.int v1), some (.int v2)] [] h (some (.int o.1), o.2) := by
  unfold f_X6_joined_0 at hf
  refine rs_iload_n i_X6_joined_0 rfl ?_
  by_cases c1 : v0 = (-17)
  · replace hf := (if_pos c1).symm.trans hf
    refine rs_tsw i_X6_joined_1 (off := 97) (by rw [c1]; decide) (tg := 98) (by decide) ?_
    refine rs_iload_n i_X6_joined_98 rfl ?_
    refine rs_iload_n i_X6_joined_99 rfl ?_
    refine rs_isub i_X6_joined_100 ?_
    have hf := Option.some.inj hf
    subst hf
    exact rs_iret i_X6_joined_101 m_X6_joined rfl
  · replace hf := (if_neg c1).symm.trans hf
    by_cases c2 : v0 = (-16)
    · replace hf := (if_pos c2).symm.trans hf
      refine rs_tsw i_X6_joined_1 (off := 93) (by rw [c2]; decide) (tg := 94) (by decide) ?_
      refine rs_iload_n i_X6_joined_94 rfl ?_
      refine rs_iload_n i_X6_joined_95 rfl ?_
      refine rs_iadd i_X6_joined_96 ?_
      have hf := Option.some.inj hf
      subst hf
      exact rs_iret i_X6_joined_97 m_X6_joined rfl
    · replace hf := (if_neg c2).symm.trans hf
      by_cases c3 : v0 = (-15)
      · replace hf := (if_pos c3).symm.trans hf
        refine rs_tsw i_X6_joined_1 (off := 82) (by rw [c3]; decide) (tg := 83) (by decide) ?_
        refine rs_iload_n i_X6_joined_83 rfl ?_
        refine rs_iload_n i_X6_joined_84 rfl ?_
        by_cases c13 : v1 ≠ v2
        · replace hf := (if_pos c13).symm.trans hf
          refine rs_icT i_X6_joined_85 (ct_ne c13) (tg := 92) (by decide) ?_
          refine rs_iconst i_X6_joined_92 (v := 0) (by decide) ?_
          have hf := Option.some.inj hf
          subst hf
          exact rs_iret i_X6_joined_93 m_X6_joined rfl
        · replace hf := (if_neg c13).symm.trans hf
          refine rs_icF i_X6_joined_85 (cf_ne c13) ?_
          refine rs_iconst i_X6_joined_88 (v := 1) (by decide) ?_
          refine rs_goto i_X6_joined_89 (tg := 93) (by decide) ?_
          have hf := Option.some.inj hf
          subst hf
          exact rs_iret i_X6_joined_93 m_X6_joined rfl
      · replace hf := (if_neg c3).symm.trans hf
        by_cases c4 : v0 = (-14)
        · replace hf := (if_pos c4).symm.trans hf
          refine rs_tsw i_X6_joined_1 (off := 71) (by rw [c4]; decide) (tg := 72) (by decide) ?_
          refine rs_iload_n i_X6_joined_72 rfl ?_
          refine rs_iload_n i_X6_joined_73 rfl ?_
          by_cases c12 : v2 ≤ v1
          · replace hf := (if_pos c12).symm.trans hf
            refine rs_icT i_X6_joined_74 (ct_ge c12) (tg := 81) (by decide) ?_
            refine rs_iconst i_X6_joined_81 (v := 0) (by decide) ?_
            have hf := Option.some.inj hf
            subst hf
            exact rs_iret i_X6_joined_82 m_X6_joined rfl
          · replace hf := (if_neg c12).symm.trans hf
            refine rs_icF i_X6_joined_74 (cf_ge c12) ?_
            refine rs_iconst i_X6_joined_77 (v := 1) (by decide) ?_
            refine rs_goto i_X6_joined_78 (tg := 82) (by decide) ?_
            have hf := Option.some.inj hf
            subst hf
            exact rs_iret i_X6_joined_82 m_X6_joined rfl
        · replace hf := (if_neg c4).symm.trans hf
          by_cases c5 : v0 = (-13)
          · replace hf := (if_pos c5).symm.trans hf
            refine rs_tsw i_X6_joined_1 (off := 101) (by rw [c5]; decide) (tg := 102) (by decide) ?_
            refine rs_iload_n i_X6_joined_102 rfl ?_
            refine rs_iload_n i_X6_joined_103 rfl ?_
            refine rs_imul i_X6_joined_104 ?_
            have hf := Option.some.inj hf
            subst hf
            exact rs_iret i_X6_joined_105 m_X6_joined rfl
          · replace hf := (if_neg c5).symm.trans hf
            by_cases c6 : v0 = (-12)
            · replace hf := (if_pos c6).symm.trans hf
              refine rs_tsw i_X6_joined_1 (off := 57) (by rw [c6]; decide) (tg := 58) (by decide) ?_
              refine rs_iload_n i_X6_joined_58 rfl ?_
              by_cases c10 : v1 = 0
              · replace hf := (if_pos c10).symm.trans hf
                refine rs_ifT i_X6_joined_59 (ct_eq c10) (tg := 70) (by decide) ?_
                refine rs_iconst i_X6_joined_70 (v := 0) (by decide) ?_
                have hf := Option.some.inj hf
                subst hf
                exact rs_iret i_X6_joined_71 m_X6_joined rfl
              · replace hf := (if_neg c10).symm.trans hf
                refine rs_ifF i_X6_joined_59 (cf_eq c10) ?_
                refine rs_iload_n i_X6_joined_62 rfl ?_
                by_cases c11 : v2 = 0
                · replace hf := (if_pos c11).symm.trans hf
                  refine rs_ifT i_X6_joined_63 (ct_eq c11) (tg := 70) (by decide) ?_
                  refine rs_iconst i_X6_joined_70 (v := 0) (by decide) ?_
                  have hf := Option.some.inj hf
                  subst hf
                  exact rs_iret i_X6_joined_71 m_X6_joined rfl
                · replace hf := (if_neg c11).symm.trans hf
                  refine rs_ifF i_X6_joined_63 (cf_eq c11) ?_
                  refine rs_iconst i_X6_joined_66 (v := 1) (by decide) ?_
                  refine rs_goto i_X6_joined_67 (tg := 71) (by decide) ?_
                  have hf := Option.some.inj hf
                  subst hf
                  exact rs_iret i_X6_joined_71 m_X6_joined rfl
            · replace hf := (if_neg c6).symm.trans hf
              by_cases c7 : v0 = (-11)
              · replace hf := (if_pos c7).symm.trans hf
                refine rs_tsw i_X6_joined_1 (off := 43) (by rw [c7]; decide) (tg := 44) (by decide) ?_
                refine rs_iload_n i_X6_joined_44 rfl ?_
                by_cases c8 : v1 ≠ 0
                · replace hf := (if_pos c8).symm.trans hf
                  refine rs_ifT i_X6_joined_45 (ct_ne c8) (tg := 52) (by decide) ?_
                  exact r_X6_joined_52 hd hf
                · replace hf := (if_neg c8).symm.trans hf
                  refine rs_ifF i_X6_joined_45 (cf_ne c8) ?_
                  refine rs_iload_n i_X6_joined_48 rfl ?_
                  by_cases c9 : v2 = 0
                  · replace hf := (if_pos c9).symm.trans hf
                    refine rs_ifT i_X6_joined_49 (ct_eq c9) (tg := 56) (by decide) ?_
                    refine rs_iconst i_X6_joined_56 (v := 0) (by decide) ?_
                    have hf := Option.some.inj hf
                    subst hf
                    exact rs_iret i_X6_joined_57 m_X6_joined rfl
                  · replace hf := (if_neg c9).symm.trans hf
                    refine rs_ifF i_X6_joined_49 (cf_eq c9) ?_
                    exact r_X6_joined_52 hd hf
              · replace hf := (if_neg c7).symm.trans hf
                refine rs_tsw i_X6_joined_1 (off := 101) (swt_df (by have z0 := ne_ti c1; rw [show ((-17) : Int32).toInt = -17 from by decide] at z0; have z1 := ne_ti c2; rw [show ((-16) : Int32).toInt = -16 from by decide] at z1; have z2 := ne_ti c3; rw [show ((-15) : Int32).toInt = -15 from by decide] at z2; have z3 := ne_ti c4; rw [show ((-14) : Int32).toInt = -14 from by decide] at z3; have z4 := ne_ti c5; rw [show ((-13) : Int32).toInt = -13 from by decide] at z4; have z5 := ne_ti c6; rw [show ((-12) : Int32).toInt = -12 from by decide] at z5; have z6 := ne_ti c7; rw [show ((-11) : Int32).toInt = -11 from by decide] at z6; omega)) (tg := 102) (by decide) ?_
                refine rs_iload_n i_X6_joined_102 rfl ?_
                refine rs_iload_n i_X6_joined_103 rfl ?_
                refine rs_imul i_X6_joined_104 ?_
                have hf := Option.some.inj hf
                subst hf
                exact rs_iret i_X6_joined_105 m_X6_joined rfl
def f_X6_joined (v0 : Int32) (v1 : Int32) (v2 : Int32) (h : Hp) : Option (Int32 × Hp) := f_X6_joined_0 v0 v1 v2 h
theorem c_X6_joined {X : Nat → Int32} {d : Nat} (hd : 0 ≤ d) {v0 : Int32} {v1 : Int32} {v2 : Int32} {h : Hp} {o : (Int32 × Hp)} (hf : f_X6_joined v0 v1 v2 h = some o) : Calls X d 65 [.int v0, .int v1, .int v2] h (some (.int o.1), o.2) := by
  exact ⟨_, rfl, r_X6_joined_0 hd hf⟩
theorem i_X6_named_0 : fetch 64 0 = some (.iconst (-1), 1, 0, 0, 0, 0) := by decide +kernel
theorem i_X6_named_1 : fetch 64 1 = some (.iload_n 0, 2, 0, 0, 0, 0) := by decide +kernel
theorem i_X6_named_2 : fetch 64 2 = some (.isub, 3, 0, 0, 0, 0) := by decide +kernel
theorem i_X6_named_3 : fetch 64 3 = some (.istore_n 2, 4, 0, 0, 0, 0) := by decide +kernel
theorem i_X6_named_4 : fetch 64 4 = some (.iload_n 2, 5, 0, 0, 0, 0) := by decide +kernel
theorem i_X6_named_5 : fetch 64 5 = some (.ifCond .lt 15, 8, 0, 0, 0, 0) := by decide +kernel
theorem i_X6_named_8 : fetch 64 8 = some (.iload_n 2, 9, 0, 0, 0, 0) := by decide +kernel
theorem i_X6_named_9 : fetch 64 9 = some (.aload_n 1, 10, 0, 0, 0, 0) := by decide +kernel
theorem i_X6_named_10 : fetch 64 10 = some (.arraylength, 11, 0, 0, 0, 0) := by decide +kernel
theorem i_X6_named_11 : fetch 64 11 = some (.if_icmp .ge 9, 14, 0, 0, 0, 0) := by decide +kernel
theorem i_X6_named_14 : fetch 64 14 = some (.aload_n 1, 15, 0, 0, 0, 0) := by decide +kernel
theorem i_X6_named_15 : fetch 64 15 = some (.iload_n 2, 16, 0, 0, 0, 0) := by decide +kernel
theorem i_X6_named_16 : fetch 64 16 = some (.iaload, 17, 0, 0, 0, 0) := by decide +kernel
theorem i_X6_named_17 : fetch 64 17 = some (.goto 4, 20, 0, 0, 0, 0) := by decide +kernel
theorem i_X6_named_20 : fetch 64 20 = some (.iconst 0, 21, 0, 0, 0, 0) := by decide +kernel
theorem i_X6_named_21 : fetch 64 21 = some (.ireturn, 22, 0, 0, 0, 0) := by decide +kernel
def f_X6_named_0 (v0 : Int32) (v1 : Nat) (h : Hp) : Option (Int32 × Hp) :=
  if ((-1) - v0) < 0 then
    some (0, h)
  else
    if (hk h v1).1 = 9 then
    if (Int32.ofNat (hk h v1).2) ≤ ((-1) - v0) then
      some (0, h)
    else
      if okI h v1 ((-1) - v0) then
      some ((gI h v1 (ix ((-1) - v0))), h)
      else none
    else none
set_option maxRecDepth 100000 in
set_option maxHeartbeats 4000000 in
theorem r_X6_named_0 {X : Nat → Int32} {d : Nat} (hd : 0 ≤ d) {v0 : Int32} {v1 : Nat} {h : Hp} {o : (Int32 × Hp)} (hf : f_X6_named_0 v0 v1 h = some o) : Run X d 64 0 [some (.int v0), some (.ref v1), none] [] h (some (.int o.1), o.2) := by
  unfold f_X6_named_0 at hf
  refine rs_iconst i_X6_named_0 (v := (-1)) (by decide) ?_
  refine rs_iload_n i_X6_named_1 rfl ?_
  refine rs_isub i_X6_named_2 ?_
  refine rs_istore_n i_X6_named_3 (Nat.le_of_ble_eq_true rfl) (lv' := [some (.int v0), some (.ref v1), some (.int ((-1) - v0))]) rfl ?_
  refine rs_iload_n i_X6_named_4 rfl ?_
  by_cases c1 : ((-1) - v0) < 0
  · replace hf := (if_pos c1).symm.trans hf
    refine rs_ifT i_X6_named_5 (ct_lt c1) (tg := 20) (by decide) ?_
    refine rs_iconst i_X6_named_20 (v := 0) (by decide) ?_
    have hf := Option.some.inj hf
    subst hf
    exact rs_iret i_X6_named_21 m_X6_named rfl
  · replace hf := (if_neg c1).symm.trans hf
    refine rs_ifF i_X6_named_5 (cf_lt c1) ?_
    refine rs_iload_n i_X6_named_8 rfl ?_
    refine rs_aload_n i_X6_named_9 rfl ?_
    obtain ⟨c2, hf⟩ := ite_some hf
    refine rs_alI i_X6_named_10 c2 ?_
    by_cases c3 : (Int32.ofNat (hk h v1).2) ≤ ((-1) - v0)
    · replace hf := (if_pos c3).symm.trans hf
      refine rs_icT i_X6_named_11 (ct_ge c3) (tg := 20) (by decide) ?_
      refine rs_iconst i_X6_named_20 (v := 0) (by decide) ?_
      have hf := Option.some.inj hf
      subst hf
      exact rs_iret i_X6_named_21 m_X6_named rfl
    · replace hf := (if_neg c3).symm.trans hf
      refine rs_icF i_X6_named_11 (cf_ge c3) ?_
      refine rs_aload_n i_X6_named_14 rfl ?_
      refine rs_iload_n i_X6_named_15 rfl ?_
      obtain ⟨c4, hf⟩ := ite_some hf
      refine rs_iald i_X6_named_16 c4 ?_
      refine rs_goto i_X6_named_17 (tg := 21) (by decide) ?_
      have hf := Option.some.inj hf
      subst hf
      exact rs_iret i_X6_named_21 m_X6_named rfl
def f_X6_named (v0 : Int32) (v1 : Nat) (h : Hp) : Option (Int32 × Hp) := f_X6_named_0 v0 v1 h
theorem c_X6_named {X : Nat → Int32} {d : Nat} (hd : 0 ≤ d) {v0 : Int32} {v1 : Nat} {h : Hp} {o : (Int32 × Hp)} (hf : f_X6_named v0 v1 h = some o) : Calls X d 64 [.int v0, .ref v1] h (some (.int o.1), o.2) := by
  exact ⟨_, rfl, r_X6_named_0 hd hf⟩
theorem i_X7_within_0 : fetch 110 0 = some (.iload_n 0, 1, 0, 0, 0, 0) := by decide +kernel
theorem i_X7_within_1 : fetch 110 1 = some (.iload_n 1, 2, 0, 0, 0, 0) := by decide +kernel
theorem i_X7_within_2 : fetch 110 2 = some (.if_icmp .lt 12, 5, 0, 0, 0, 0) := by decide +kernel
theorem i_X7_within_5 : fetch 110 5 = some (.iload_n 0, 6, 0, 0, 0, 0) := by decide +kernel
theorem i_X7_within_6 : fetch 110 6 = some (.iload_n 2, 7, 0, 0, 0, 0) := by decide +kernel
theorem i_X7_within_7 : fetch 110 7 = some (.if_icmp .gt 7, 10, 0, 0, 0, 0) := by decide +kernel
theorem i_X7_within_10 : fetch 110 10 = some (.iconst 1, 11, 0, 0, 0, 0) := by decide +kernel
theorem i_X7_within_11 : fetch 110 11 = some (.goto 4, 14, 0, 0, 0, 0) := by decide +kernel
theorem i_X7_within_14 : fetch 110 14 = some (.iconst 0, 15, 0, 0, 0, 0) := by decide +kernel
theorem i_X7_within_15 : fetch 110 15 = some (.ireturn, 16, 0, 0, 0, 0) := by decide +kernel
def f_X7_within_0 (v0 : Int32) (v1 : Int32) (v2 : Int32) (h : Hp) : Option (Int32 × Hp) :=
  if v0 < v1 then
    some (0, h)
  else
    if v2 < v0 then
      some (0, h)
    else
      some (1, h)
set_option maxRecDepth 100000 in
set_option maxHeartbeats 4000000 in
theorem r_X7_within_0 {X : Nat → Int32} {d : Nat} (hd : 0 ≤ d) {v0 : Int32} {v1 : Int32} {v2 : Int32} {h : Hp} {o : (Int32 × Hp)} (hf : f_X7_within_0 v0 v1 v2 h = some o) : Run X d 110 0 [some (.int v0), some (.int v1), some (.int v2)] [] h (some (.int o.1), o.2) := by
  unfold f_X7_within_0 at hf
  refine rs_iload_n i_X7_within_0 rfl ?_
  refine rs_iload_n i_X7_within_1 rfl ?_
  by_cases c1 : v0 < v1
  · replace hf := (if_pos c1).symm.trans hf
    refine rs_icT i_X7_within_2 (ct_lt c1) (tg := 14) (by decide) ?_
    refine rs_iconst i_X7_within_14 (v := 0) (by decide) ?_
    have hf := Option.some.inj hf
    subst hf
    exact rs_iret i_X7_within_15 m_X7_within (by decide)
  · replace hf := (if_neg c1).symm.trans hf
    refine rs_icF i_X7_within_2 (cf_lt c1) ?_
    refine rs_iload_n i_X7_within_5 rfl ?_
    refine rs_iload_n i_X7_within_6 rfl ?_
    by_cases c2 : v2 < v0
    · replace hf := (if_pos c2).symm.trans hf
      refine rs_icT i_X7_within_7 (ct_gt c2) (tg := 14) (by decide) ?_
      refine rs_iconst i_X7_within_14 (v := 0) (by decide) ?_
      have hf := Option.some.inj hf
      subst hf
      exact rs_iret i_X7_within_15 m_X7_within (by decide)
    · replace hf := (if_neg c2).symm.trans hf
      refine rs_icF i_X7_within_7 (cf_gt c2) ?_
      refine rs_iconst i_X7_within_10 (v := 1) (by decide) ?_
      refine rs_goto i_X7_within_11 (tg := 15) (by decide) ?_
      have hf := Option.some.inj hf
      subst hf
      exact rs_iret i_X7_within_15 m_X7_within (by decide)
def f_X7_within (v0 : Int32) (v1 : Int32) (v2 : Int32) (h : Hp) : Option (Int32 × Hp) := f_X7_within_0 v0 v1 v2 h
theorem c_X7_within {X : Nat → Int32} {d : Nat} (hd : 0 ≤ d) {v0 : Int32} {v1 : Int32} {v2 : Int32} {h : Hp} {o : (Int32 × Hp)} (hf : f_X7_within v0 v1 v2 h = some o) : Calls X d 110 [.int v0, .int v1, .int v2] h (some (.int o.1), o.2) := by
  exact ⟨_, rfl, r_X7_within_0 hd hf⟩
theorem i_X6_value_0 : fetch 63 0 = some (.iload_n 1, 1, 0, 0, 0, 0) := by decide +kernel
theorem i_X6_value_1 : fetch 63 1 = some (.iconst 0, 2, 0, 0, 0, 0) := by decide +kernel
theorem i_X6_value_2 : fetch 63 2 = some (.iconst 2, 3, 0, 0, 0, 0) := by decide +kernel
theorem i_X6_value_3 : fetch 63 3 = some (.invokestatic 25, 6, 110, 1, 0, 478) := by decide +kernel
theorem i_X6_value_6 : fetch 63 6 = some (.ifCond .ne 5, 9, 0, 0, 0, 0) := by decide +kernel
theorem i_X6_value_9 : fetch 63 9 = some (.iconst 0, 10, 0, 0, 0, 0) := by decide +kernel
theorem i_X6_value_10 : fetch 63 10 = some (.ireturn, 11, 0, 0, 0, 0) := by decide +kernel
theorem i_X6_value_11 : fetch 63 11 = some (.iconst (-1), 12, 0, 0, 0, 0) := by decide +kernel
theorem i_X6_value_12 : fetch 63 12 = some (.istore_n 3, 13, 0, 0, 0, 0) := by decide +kernel
theorem i_X6_value_13 : fetch 63 13 = some (.iload_n 1, 14, 0, 0, 0, 0) := by decide +kernel
theorem i_X6_value_14 : fetch 63 14 = some (.ifCond .ne 7, 17, 0, 0, 0, 0) := by decide +kernel
theorem i_X6_value_17 : fetch 63 17 = some (.iconst 0, 18, 0, 0, 0, 0) := by decide +kernel
theorem i_X6_value_18 : fetch 63 18 = some (.goto 11, 21, 0, 0, 0, 0) := by decide +kernel
theorem i_X6_value_21 : fetch 63 21 = some (.aload_n 0, 22, 0, 0, 0, 0) := by decide +kernel
theorem i_X6_value_22 : fetch 63 22 = some (.getfield 15, 25, 6, 1, 0, 171) := by decide +kernel
theorem i_X6_value_25 : fetch 63 25 = some (.iload_n 1, 26, 0, 0, 0, 0) := by decide +kernel
theorem i_X6_value_26 : fetch 63 26 = some (.iconst 1, 27, 0, 0, 0, 0) := by decide +kernel
theorem i_X6_value_27 : fetch 63 27 = some (.isub, 28, 0, 0, 0, 0) := by decide +kernel
theorem i_X6_value_28 : fetch 63 28 = some (.iaload, 29, 0, 0, 0, 0) := by decide +kernel
theorem i_X6_value_29 : fetch 63 29 = some (.istore 4, 31, 0, 0, 0, 0) := by decide +kernel
theorem i_X6_value_31 : fetch 63 31 = some (.iload 4, 33, 0, 0, 0, 0) := by decide +kernel
theorem i_X6_value_33 : fetch 63 33 = some (.aload_n 0, 34, 0, 0, 0, 0) := by decide +kernel
theorem i_X6_value_34 : fetch 63 34 = some (.getfield 15, 37, 6, 1, 0, 171) := by decide +kernel
theorem i_X6_value_37 : fetch 63 37 = some (.iload_n 1, 38, 0, 0, 0, 0) := by decide +kernel
theorem i_X6_value_38 : fetch 63 38 = some (.iaload, 39, 0, 0, 0, 0) := by decide +kernel
theorem i_X6_value_39 : fetch 63 39 = some (.if_icmp .ge 164, 42, 0, 0, 0, 0) := by decide +kernel
theorem i_X6_value_42 : fetch 63 42 = some (.iload 4, 44, 0, 0, 0, 0) := by decide +kernel
theorem i_X6_value_44 : fetch 63 44 = some (.sipush 160, 47, 0, 0, 0, 0) := by decide +kernel
theorem i_X6_value_47 : fetch 63 47 = some (.if_icmp .ge 156, 50, 0, 0, 0, 0) := by decide +kernel
theorem i_X6_value_50 : fetch 63 50 = some (.aload_n 0, 51, 0, 0, 0, 0) := by decide +kernel
theorem i_X6_value_51 : fetch 63 51 = some (.getfield 9, 54, 6, 0, 0, 170) := by decide +kernel
theorem i_X6_value_54 : fetch 63 54 = some (.iload 4, 56, 0, 0, 0, 0) := by decide +kernel
theorem i_X6_value_56 : fetch 63 56 = some (.iaload, 57, 0, 0, 0, 0) := by decide +kernel
theorem i_X6_value_57 : fetch 63 57 = some (.istore 5, 59, 0, 0, 0, 0) := by decide +kernel
theorem i_X6_value_59 : fetch 63 59 = some (.iload 5, 61, 0, 0, 0, 0) := by decide +kernel
theorem i_X6_value_61 : fetch 63 61 = some (.bipush (-11), 63, 0, 0, 0, 0) := by decide +kernel
theorem i_X6_value_63 : fetch 63 63 = some (.if_icmp .le 39, 66, 0, 0, 0, 0) := by decide +kernel
theorem i_X6_value_66 : fetch 63 66 = some (.iinc 3 1, 69, 0, 0, 0, 0) := by decide +kernel
theorem i_X6_value_69 : fetch 63 69 = some (.iload_n 3, 70, 0, 0, 0, 0) := by decide +kernel
theorem i_X6_value_70 : fetch 63 70 = some (.bipush 40, 72, 0, 0, 0, 0) := by decide +kernel
theorem i_X6_value_72 : fetch 63 72 = some (.if_icmp .lt 5, 75, 0, 0, 0, 0) := by decide +kernel
theorem i_X6_value_75 : fetch 63 75 = some (.iconst 0, 76, 0, 0, 0, 0) := by decide +kernel
theorem i_X6_value_76 : fetch 63 76 = some (.ireturn, 77, 0, 0, 0, 0) := by decide +kernel
theorem i_X6_value_77 : fetch 63 77 = some (.aload_n 0, 78, 0, 0, 0, 0) := by decide +kernel
theorem i_X6_value_78 : fetch 63 78 = some (.getfield 18, 81, 6, 2, 0, 172) := by decide +kernel
theorem i_X6_value_81 : fetch 63 81 = some (.iload_n 3, 82, 0, 0, 0, 0) := by decide +kernel
theorem i_X6_value_82 : fetch 63 82 = some (.iload 5, 84, 0, 0, 0, 0) := by decide +kernel
theorem i_X6_value_84 : fetch 63 84 = some (.ifCond .lt 8, 87, 0, 0, 0, 0) := by decide +kernel
theorem i_X6_value_87 : fetch 63 87 = some (.iload 5, 89, 0, 0, 0, 0) := by decide +kernel
theorem i_X6_value_89 : fetch 63 89 = some (.goto 9, 92, 0, 0, 0, 0) := by decide +kernel
theorem i_X6_value_92 : fetch 63 92 = some (.iload 5, 94, 0, 0, 0, 0) := by decide +kernel
theorem i_X6_value_94 : fetch 63 94 = some (.aload_n 2, 95, 0, 0, 0, 0) := by decide +kernel
theorem i_X6_value_95 : fetch 63 95 = some (.invokestatic 29, 98, 64, 0, 0, 636) := by decide +kernel
theorem i_X6_value_98 : fetch 63 98 = some (.iastore, 99, 0, 0, 0, 0) := by decide +kernel
theorem i_X6_value_99 : fetch 63 99 = some (.goto 98, 102, 0, 0, 0, 0) := by decide +kernel
theorem i_X6_value_102 : fetch 63 102 = some (.iload 5, 104, 0, 0, 0, 0) := by decide +kernel
theorem i_X6_value_104 : fetch 63 104 = some (.bipush (-13), 106, 0, 0, 0, 0) := by decide +kernel
theorem i_X6_value_106 : fetch 63 106 = some (.if_icmp .eq 10, 109, 0, 0, 0, 0) := by decide +kernel
theorem i_X6_value_109 : fetch 63 109 = some (.iload 5, 111, 0, 0, 0, 0) := by decide +kernel
theorem i_X6_value_111 : fetch 63 111 = some (.bipush (-19), 113, 0, 0, 0, 0) := by decide +kernel
theorem i_X6_value_113 : fetch 63 113 = some (.if_icmp .ne 49, 116, 0, 0, 0, 0) := by decide +kernel
theorem i_X6_value_116 : fetch 63 116 = some (.iload_n 3, 117, 0, 0, 0, 0) := by decide +kernel
theorem i_X6_value_117 : fetch 63 117 = some (.ifCond .ge 5, 120, 0, 0, 0, 0) := by decide +kernel
theorem i_X6_value_120 : fetch 63 120 = some (.iconst 0, 121, 0, 0, 0, 0) := by decide +kernel
theorem i_X6_value_121 : fetch 63 121 = some (.ireturn, 122, 0, 0, 0, 0) := by decide +kernel
theorem i_X6_value_122 : fetch 63 122 = some (.aload_n 0, 123, 0, 0, 0, 0) := by decide +kernel
theorem i_X6_value_123 : fetch 63 123 = some (.getfield 18, 126, 6, 2, 0, 172) := by decide +kernel
theorem i_X6_value_126 : fetch 63 126 = some (.iload_n 3, 127, 0, 0, 0, 0) := by decide +kernel
theorem i_X6_value_127 : fetch 63 127 = some (.iload 5, 129, 0, 0, 0, 0) := by decide +kernel
theorem i_X6_value_129 : fetch 63 129 = some (.bipush (-19), 131, 0, 0, 0, 0) := by decide +kernel
theorem i_X6_value_131 : fetch 63 131 = some (.if_icmp .ne 13, 134, 0, 0, 0, 0) := by decide +kernel
theorem i_X6_value_134 : fetch 63 134 = some (.aload_n 0, 135, 0, 0, 0, 0) := by decide +kernel
theorem i_X6_value_135 : fetch 63 135 = some (.getfield 18, 138, 6, 2, 0, 172) := by decide +kernel
theorem i_X6_value_138 : fetch 63 138 = some (.iload_n 3, 139, 0, 0, 0, 0) := by decide +kernel
theorem i_X6_value_139 : fetch 63 139 = some (.iaload, 140, 0, 0, 0, 0) := by decide +kernel
theorem i_X6_value_140 : fetch 63 140 = some (.ineg, 141, 0, 0, 0, 0) := by decide +kernel
theorem i_X6_value_141 : fetch 63 141 = some (.goto 17, 144, 0, 0, 0, 0) := by decide +kernel
theorem i_X6_value_144 : fetch 63 144 = some (.aload_n 0, 145, 0, 0, 0, 0) := by decide +kernel
theorem i_X6_value_145 : fetch 63 145 = some (.getfield 18, 148, 6, 2, 0, 172) := by decide +kernel
theorem i_X6_value_148 : fetch 63 148 = some (.iload_n 3, 149, 0, 0, 0, 0) := by decide +kernel
theorem i_X6_value_149 : fetch 63 149 = some (.iaload, 150, 0, 0, 0, 0) := by decide +kernel
theorem i_X6_value_150 : fetch 63 150 = some (.ifCond .ne 7, 153, 0, 0, 0, 0) := by decide +kernel
theorem i_X6_value_153 : fetch 63 153 = some (.iconst 1, 154, 0, 0, 0, 0) := by decide +kernel
theorem i_X6_value_154 : fetch 63 154 = some (.goto 4, 157, 0, 0, 0, 0) := by decide +kernel
theorem i_X6_value_157 : fetch 63 157 = some (.iconst 0, 158, 0, 0, 0, 0) := by decide +kernel
theorem i_X6_value_158 : fetch 63 158 = some (.iastore, 159, 0, 0, 0, 0) := by decide +kernel
theorem i_X6_value_159 : fetch 63 159 = some (.goto 38, 162, 0, 0, 0, 0) := by decide +kernel
theorem i_X6_value_162 : fetch 63 162 = some (.iload_n 3, 163, 0, 0, 0, 0) := by decide +kernel
theorem i_X6_value_163 : fetch 63 163 = some (.iconst 1, 164, 0, 0, 0, 0) := by decide +kernel
theorem i_X6_value_164 : fetch 63 164 = some (.if_icmp .ge 5, 167, 0, 0, 0, 0) := by decide +kernel
theorem i_X6_value_167 : fetch 63 167 = some (.iconst 0, 168, 0, 0, 0, 0) := by decide +kernel
theorem i_X6_value_168 : fetch 63 168 = some (.ireturn, 169, 0, 0, 0, 0) := by decide +kernel
theorem i_X6_value_169 : fetch 63 169 = some (.iinc 3 (-1), 172, 0, 0, 0, 0) := by decide +kernel
theorem i_X6_value_172 : fetch 63 172 = some (.aload_n 0, 173, 0, 0, 0, 0) := by decide +kernel
theorem i_X6_value_173 : fetch 63 173 = some (.getfield 18, 176, 6, 2, 0, 172) := by decide +kernel
theorem i_X6_value_176 : fetch 63 176 = some (.iload_n 3, 177, 0, 0, 0, 0) := by decide +kernel
theorem i_X6_value_177 : fetch 63 177 = some (.iload 5, 179, 0, 0, 0, 0) := by decide +kernel
theorem i_X6_value_179 : fetch 63 179 = some (.aload_n 0, 180, 0, 0, 0, 0) := by decide +kernel
theorem i_X6_value_180 : fetch 63 180 = some (.getfield 18, 183, 6, 2, 0, 172) := by decide +kernel
theorem i_X6_value_183 : fetch 63 183 = some (.iload_n 3, 184, 0, 0, 0, 0) := by decide +kernel
theorem i_X6_value_184 : fetch 63 184 = some (.iaload, 185, 0, 0, 0, 0) := by decide +kernel
theorem i_X6_value_185 : fetch 63 185 = some (.aload_n 0, 186, 0, 0, 0, 0) := by decide +kernel
theorem i_X6_value_186 : fetch 63 186 = some (.getfield 18, 189, 6, 2, 0, 172) := by decide +kernel
theorem i_X6_value_189 : fetch 63 189 = some (.iload_n 3, 190, 0, 0, 0, 0) := by decide +kernel
theorem i_X6_value_190 : fetch 63 190 = some (.iconst 1, 191, 0, 0, 0, 0) := by decide +kernel
theorem i_X6_value_191 : fetch 63 191 = some (.iadd, 192, 0, 0, 0, 0) := by decide +kernel
theorem i_X6_value_192 : fetch 63 192 = some (.iaload, 193, 0, 0, 0, 0) := by decide +kernel
theorem i_X6_value_193 : fetch 63 193 = some (.invokestatic 33, 196, 65, 0, 0, 639) := by decide +kernel
theorem i_X6_value_196 : fetch 63 196 = some (.iastore, 197, 0, 0, 0, 0) := by decide +kernel
theorem i_X6_value_197 : fetch 63 197 = some (.iinc 4 1, 200, 0, 0, 0, 0) := by decide +kernel
theorem i_X6_value_200 : fetch 63 200 = some (.goto (-169), 203, 0, 0, 0, 0) := by decide +kernel
theorem i_X6_value_203 : fetch 63 203 = some (.iload_n 3, 204, 0, 0, 0, 0) := by decide +kernel
theorem i_X6_value_204 : fetch 63 204 = some (.ifCond .ge 7, 207, 0, 0, 0, 0) := by decide +kernel
theorem i_X6_value_207 : fetch 63 207 = some (.iconst 0, 208, 0, 0, 0, 0) := by decide +kernel
theorem i_X6_value_208 : fetch 63 208 = some (.goto 9, 211, 0, 0, 0, 0) := by decide +kernel
theorem i_X6_value_211 : fetch 63 211 = some (.aload_n 0, 212, 0, 0, 0, 0) := by decide +kernel
theorem i_X6_value_212 : fetch 63 212 = some (.getfield 18, 215, 6, 2, 0, 172) := by decide +kernel
theorem i_X6_value_215 : fetch 63 215 = some (.iload_n 3, 216, 0, 0, 0, 0) := by decide +kernel
theorem i_X6_value_216 : fetch 63 216 = some (.iaload, 217, 0, 0, 0, 0) := by decide +kernel
theorem i_X6_value_217 : fetch 63 217 = some (.ireturn, 218, 0, 0, 0, 0) := by decide +kernel
def f_X6_value_203 (n : Nat) (v0 : Nat) (v3 : Int32) (h : Hp) : Option (Int32 × Hp) :=
  if 0 ≤ v3 then
    if okO h v0 6 then
    (gR h v0 2).bind fun a3 =>
    if okI h a3 v3 then
    some ((gI h a3 (ix v3)), h)
    else none
    else none
  else
    some (0, h)
set_option maxRecDepth 100000 in
set_option maxHeartbeats 4000000 in
theorem r_X6_value_203 {X : Nat → Int32} {d : Nat} (hd : 1 ≤ (d + 1)) {n : Nat} {v0 : Nat} {v3 : Int32} {d1 : Int32} {d2 : Nat} {d4 : Int32} {w5 : Option Value} {h : Hp} {o : (Int32 × Hp)} (hf : f_X6_value_203 n v0 v3 h = some o) : Run X (d + 1) 63 203 [some (.ref v0), some (.int d1), some (.ref d2), some (.int v3), some (.int d4), w5] [] h (some (.int o.1), o.2) := by
  unfold f_X6_value_203 at hf
  refine rs_iload_n i_X6_value_203 rfl ?_
  by_cases c1 : 0 ≤ v3
  · replace hf := (if_pos c1).symm.trans hf
    refine rs_ifT i_X6_value_204 (ct_ge c1) (tg := 211) (by decide) ?_
    refine rs_aload_n i_X6_value_211 rfl ?_
    obtain ⟨c2, hf⟩ := ite_some hf
    obtain ⟨a3, e3, hf⟩ := bind_some hf
    refine rs_getR i_X6_value_212 (by decide) (by decide) c2 e3 ?_
    refine rs_iload_n i_X6_value_215 rfl ?_
    obtain ⟨c4, hf⟩ := ite_some hf
    refine rs_iald i_X6_value_216 c4 ?_
    have hf := Option.some.inj hf
    subst hf
    exact rs_iret i_X6_value_217 m_X6_value rfl
  · replace hf := (if_neg c1).symm.trans hf
    refine rs_ifF i_X6_value_204 (cf_ge c1) ?_
    refine rs_iconst i_X6_value_207 (v := 0) (by decide) ?_
    refine rs_goto i_X6_value_208 (tg := 217) (by decide) ?_
    have hf := Option.some.inj hf
    subst hf
    exact rs_iret i_X6_value_217 m_X6_value rfl
def f_X6_value_197 (n : Nat) (K31 : Nat → Int32 → Nat → Int32 → Int32 → Hp → Option (Int32 × Hp)) (v0 : Nat) (v1 : Int32) (v2 : Nat) (v3 : Int32) (v4 : Int32) (h : Hp) : Option (Int32 × Hp) :=
  K31 v0 v1 v2 v3 (v4 + 1) h
set_option maxRecDepth 100000 in
set_option maxHeartbeats 4000000 in
theorem r_X6_value_197 {X : Nat → Int32} {d : Nat} (hd : 1 ≤ (d + 1)) {n : Nat} {K31 : Nat → Int32 → Nat → Int32 → Int32 → Hp → Option (Int32 × Hp)} (HK31 : ∀ (v0 : Nat) (v1 : Int32) (v2 : Nat) (v3 : Int32) (v4 : Int32) (w5 : Option Value) (h : Hp) (o : (Int32 × Hp)), K31 v0 v1 v2 v3 v4 h = some o → Run X (d + 1) 63 31 [some (.ref v0), some (.int v1), some (.ref v2), some (.int v3), some (.int v4), w5] [] h (some (.int o.1), o.2)) {v0 : Nat} {v1 : Int32} {v2 : Nat} {v3 : Int32} {v4 : Int32} {d5 : Int32} {h : Hp} {o : (Int32 × Hp)} (hf : f_X6_value_197 n K31 v0 v1 v2 v3 v4 h = some o) : Run X (d + 1) 63 197 [some (.ref v0), some (.int v1), some (.ref v2), some (.int v3), some (.int v4), some (.int d5)] [] h (some (.int o.1), o.2) := by
  unfold f_X6_value_197 at hf
  refine rs_iinc i_X6_value_197 rfl (v := v4 + 1) rfl (Nat.le_of_ble_eq_true rfl) (lv' := [some (.ref v0), some (.int v1), some (.ref v2), some (.int v3), some (.int (v4 + 1)), some (.int d5)]) rfl ?_
  refine rs_goto i_X6_value_200 (tg := 31) (by decide) ?_
  exact HK31 _ _ _ _ _ _ _ _ hf
def f_X6_value_158 (n : Nat) (K31 : Nat → Int32 → Nat → Int32 → Int32 → Hp → Option (Int32 × Hp)) (v0 : Nat) (v1 : Int32) (v2 : Nat) (v3 : Int32) (v4 : Int32) (s0 : Nat) (s1 : Int32) (s2 : Int32) (h : Hp) : Option (Int32 × Hp) :=
  if okI h s0 s1 then
  f_X6_value_197 n K31 v0 v1 v2 v3 v4 (hsi h s0 (ix s1) s2)
  else none
set_option maxRecDepth 100000 in
set_option maxHeartbeats 4000000 in
theorem r_X6_value_158 {X : Nat → Int32} {d : Nat} (hd : 1 ≤ (d + 1)) {n : Nat} {K31 : Nat → Int32 → Nat → Int32 → Int32 → Hp → Option (Int32 × Hp)} (HK31 : ∀ (v0 : Nat) (v1 : Int32) (v2 : Nat) (v3 : Int32) (v4 : Int32) (w5 : Option Value) (h : Hp) (o : (Int32 × Hp)), K31 v0 v1 v2 v3 v4 h = some o → Run X (d + 1) 63 31 [some (.ref v0), some (.int v1), some (.ref v2), some (.int v3), some (.int v4), w5] [] h (some (.int o.1), o.2)) {v0 : Nat} {v1 : Int32} {v2 : Nat} {v3 : Int32} {v4 : Int32} {s0 : Nat} {s1 : Int32} {s2 : Int32} {d5 : Int32} {h : Hp} {o : (Int32 × Hp)} (hf : f_X6_value_158 n K31 v0 v1 v2 v3 v4 s0 s1 s2 h = some o) : Run X (d + 1) 63 158 [some (.ref v0), some (.int v1), some (.ref v2), some (.int v3), some (.int v4), some (.int d5)] [.int s2, .int s1, .ref s0] h (some (.int o.1), o.2) := by
  unfold f_X6_value_158 at hf
  obtain ⟨c1, hf⟩ := ite_some hf
  refine rs_iast i_X6_value_158 c1 ?_
  refine rs_goto i_X6_value_159 (tg := 197) (by decide) ?_
  exact r_X6_value_197 hd HK31 hf
def f_X6_value_116 (n : Nat) (K31 : Nat → Int32 → Nat → Int32 → Int32 → Hp → Option (Int32 × Hp)) (v0 : Nat) (v1 : Int32) (v2 : Nat) (v3 : Int32) (v4 : Int32) (v5 : Int32) (h : Hp) : Option (Int32 × Hp) :=
  if 0 ≤ v3 then
    if okO h v0 6 then
    (gR h v0 2).bind fun a3 =>
    if v5 ≠ (-19) then
      if okI h a3 v3 then
      if (gI h a3 (ix v3)) ≠ 0 then
        f_X6_value_158 n K31 v0 v1 v2 v3 v4 a3 v3 0 h
      else
        f_X6_value_158 n K31 v0 v1 v2 v3 v4 a3 v3 1 h
      else none
    else
      if okI h a3 v3 then
      f_X6_value_158 n K31 v0 v1 v2 v3 v4 a3 v3 (-(gI h a3 (ix v3))) h
      else none
    else none
  else
    some (0, h)
set_option maxRecDepth 100000 in
set_option maxHeartbeats 4000000 in
theorem r_X6_value_116 {X : Nat → Int32} {d : Nat} (hd : 1 ≤ (d + 1)) {n : Nat} {K31 : Nat → Int32 → Nat → Int32 → Int32 → Hp → Option (Int32 × Hp)} (HK31 : ∀ (v0 : Nat) (v1 : Int32) (v2 : Nat) (v3 : Int32) (v4 : Int32) (w5 : Option Value) (h : Hp) (o : (Int32 × Hp)), K31 v0 v1 v2 v3 v4 h = some o → Run X (d + 1) 63 31 [some (.ref v0), some (.int v1), some (.ref v2), some (.int v3), some (.int v4), w5] [] h (some (.int o.1), o.2)) {v0 : Nat} {v1 : Int32} {v2 : Nat} {v3 : Int32} {v4 : Int32} {v5 : Int32} {h : Hp} {o : (Int32 × Hp)} (hf : f_X6_value_116 n K31 v0 v1 v2 v3 v4 v5 h = some o) : Run X (d + 1) 63 116 [some (.ref v0), some (.int v1), some (.ref v2), some (.int v3), some (.int v4), some (.int v5)] [] h (some (.int o.1), o.2) := by
  unfold f_X6_value_116 at hf
  refine rs_iload_n i_X6_value_116 rfl ?_
  by_cases c1 : 0 ≤ v3
  · replace hf := (if_pos c1).symm.trans hf
    refine rs_ifT i_X6_value_117 (ct_ge c1) (tg := 122) (by decide) ?_
    refine rs_aload_n i_X6_value_122 rfl ?_
    obtain ⟨c2, hf⟩ := ite_some hf
    obtain ⟨a3, e3, hf⟩ := bind_some hf
    refine rs_getR i_X6_value_123 (by decide) (by decide) c2 e3 ?_
    refine rs_iload_n i_X6_value_126 rfl ?_
    refine rs_iload i_X6_value_127 rfl ?_
    refine rs_bipush i_X6_value_129 (v := (-19)) (by decide) ?_
    by_cases c4 : v5 ≠ (-19)
    · replace hf := (if_pos c4).symm.trans hf
      refine rs_icT i_X6_value_131 (ct_ne c4) (tg := 144) (by decide) ?_
      refine rs_aload_n i_X6_value_144 rfl ?_
      refine rs_getR i_X6_value_145 (by decide) (by decide) c2 e3 ?_
      refine rs_iload_n i_X6_value_148 rfl ?_
      obtain ⟨c5, hf⟩ := ite_some hf
      refine rs_iald i_X6_value_149 c5 ?_
      by_cases c6 : (gI h a3 (ix v3)) ≠ 0
      · replace hf := (if_pos c6).symm.trans hf
        refine rs_ifT i_X6_value_150 (ct_ne c6) (tg := 157) (by decide) ?_
        refine rs_iconst i_X6_value_157 (v := 0) (by decide) ?_
        exact r_X6_value_158 hd HK31 hf
      · replace hf := (if_neg c6).symm.trans hf
        refine rs_ifF i_X6_value_150 (cf_ne c6) ?_
        refine rs_iconst i_X6_value_153 (v := 1) (by decide) ?_
        refine rs_goto i_X6_value_154 (tg := 158) (by decide) ?_
        exact r_X6_value_158 hd HK31 hf
    · replace hf := (if_neg c4).symm.trans hf
      refine rs_icF i_X6_value_131 (cf_ne c4) ?_
      refine rs_aload_n i_X6_value_134 rfl ?_
      refine rs_getR i_X6_value_135 (by decide) (by decide) c2 e3 ?_
      refine rs_iload_n i_X6_value_138 rfl ?_
      obtain ⟨c7, hf⟩ := ite_some hf
      refine rs_iald i_X6_value_139 c7 ?_
      refine rs_ineg i_X6_value_140 ?_
      refine rs_goto i_X6_value_141 (tg := 158) (by decide) ?_
      exact r_X6_value_158 hd HK31 hf
  · replace hf := (if_neg c1).symm.trans hf
    refine rs_ifF i_X6_value_117 (cf_ge c1) ?_
    refine rs_iconst i_X6_value_120 (v := 0) (by decide) ?_
    have hf := Option.some.inj hf
    subst hf
    exact rs_iret i_X6_value_121 m_X6_value rfl
def f_X6_value_98 (n : Nat) (K31 : Nat → Int32 → Nat → Int32 → Int32 → Hp → Option (Int32 × Hp)) (v0 : Nat) (v1 : Int32) (v2 : Nat) (v3 : Int32) (v4 : Int32) (s0 : Nat) (s1 : Int32) (s2 : Int32) (h : Hp) : Option (Int32 × Hp) :=
  if okI h s0 s1 then
  f_X6_value_197 n K31 v0 v1 v2 v3 v4 (hsi h s0 (ix s1) s2)
  else none
set_option maxRecDepth 100000 in
set_option maxHeartbeats 4000000 in
theorem r_X6_value_98 {X : Nat → Int32} {d : Nat} (hd : 1 ≤ (d + 1)) {n : Nat} {K31 : Nat → Int32 → Nat → Int32 → Int32 → Hp → Option (Int32 × Hp)} (HK31 : ∀ (v0 : Nat) (v1 : Int32) (v2 : Nat) (v3 : Int32) (v4 : Int32) (w5 : Option Value) (h : Hp) (o : (Int32 × Hp)), K31 v0 v1 v2 v3 v4 h = some o → Run X (d + 1) 63 31 [some (.ref v0), some (.int v1), some (.ref v2), some (.int v3), some (.int v4), w5] [] h (some (.int o.1), o.2)) {v0 : Nat} {v1 : Int32} {v2 : Nat} {v3 : Int32} {v4 : Int32} {s0 : Nat} {s1 : Int32} {s2 : Int32} {d5 : Int32} {h : Hp} {o : (Int32 × Hp)} (hf : f_X6_value_98 n K31 v0 v1 v2 v3 v4 s0 s1 s2 h = some o) : Run X (d + 1) 63 98 [some (.ref v0), some (.int v1), some (.ref v2), some (.int v3), some (.int v4), some (.int d5)] [.int s2, .int s1, .ref s0] h (some (.int o.1), o.2) := by
  unfold f_X6_value_98 at hf
  obtain ⟨c1, hf⟩ := ite_some hf
  refine rs_iast i_X6_value_98 c1 ?_
  refine rs_goto i_X6_value_99 (tg := 197) (by decide) ?_
  exact r_X6_value_197 hd HK31 hf
def f_X6_value_31 (n : Nat) : Nat → Nat → Int32 → Nat → Int32 → Int32 → Hp → Option (Int32 × Hp)
  | 0, _, _, _, _, _, _ => none
  | m + 1, v0, v1, v2, v3, v4, h =>
    if okO h v0 6 then
    (gR h v0 1).bind fun a2 =>
    if okI h a2 v1 then
    if (gI h a2 (ix v1)) ≤ v4 then
      f_X6_value_203 n v0 v3 h
    else
      if 160 ≤ v4 then
        f_X6_value_203 n v0 v3 h
      else
        (gR h v0 0).bind fun a6 =>
        if okI h a6 v4 then
        if (gI h a6 (ix v4)) ≤ (-11) then
          if (gI h a6 (ix v4)) = (-13) then
            f_X6_value_116 n (f_X6_value_31 n m) v0 v1 v2 v3 v4 (gI h a6 (ix v4)) h
          else
            if (gI h a6 (ix v4)) ≠ (-19) then
              if 1 ≤ v3 then
                (gR h v0 2).bind fun a12 =>
                if okI h a12 (v3 + (-1)) then
                if okI h a12 ((v3 + (-1)) + 1) then
                (f_X6_joined (gI h a6 (ix v4)) (gI h a12 (ix (v3 + (-1)))) (gI h a12 (ix ((v3 + (-1)) + 1))) h).bind fun o15 =>
                if okI o15.2 a12 (v3 + (-1)) then
                f_X6_value_197 n (f_X6_value_31 n m) v0 v1 v2 (v3 + (-1)) v4 (hsi o15.2 a12 (ix (v3 + (-1))) o15.1)
                else none
                else none
                else none
              else
                some (0, h)
            else
              f_X6_value_116 n (f_X6_value_31 n m) v0 v1 v2 v3 v4 (gI h a6 (ix v4)) h
        else
          if (v3 + 1) < 40 then
            (gR h v0 2).bind fun a18 =>
            if (gI h a6 (ix v4)) < 0 then
              (f_X6_named (gI h a6 (ix v4)) v2 h).bind fun o20 =>
              f_X6_value_98 n (f_X6_value_31 n m) v0 v1 v2 (v3 + 1) v4 a18 (v3 + 1) o20.1 o20.2
            else
              f_X6_value_98 n (f_X6_value_31 n m) v0 v1 v2 (v3 + 1) v4 a18 (v3 + 1) (gI h a6 (ix v4)) h
          else
            some (0, h)
        else none
    else none
    else none
set_option maxRecDepth 100000 in
set_option maxHeartbeats 4000000 in
theorem r_X6_value_31 {X : Nat → Int32} {d : Nat} (hd : 1 ≤ (d + 1)) {n : Nat} : ∀ (m : Nat) (v0 : Nat) (v1 : Int32) (v2 : Nat) (v3 : Int32) (v4 : Int32) (w5 : Option Value) (h : Hp) (o : (Int32 × Hp)), f_X6_value_31 n m v0 v1 v2 v3 v4 h = some o → Run X (d + 1) 63 31 [some (.ref v0), some (.int v1), some (.ref v2), some (.int v3), some (.int v4), w5] [] h (some (.int o.1), o.2) := by
  intro m
  induction m with
  | zero => intro v0 v1 v2 v3 v4 w5 h o hf; cases hf
  | succ m ih =>
    intro v0 v1 v2 v3 v4 w5 h o hf
    rw [f_X6_value_31] at hf
    refine rs_iload i_X6_value_31 rfl ?_
    refine rs_aload_n i_X6_value_33 rfl ?_
    obtain ⟨c1, hf⟩ := ite_some hf
    obtain ⟨a2, e2, hf⟩ := bind_some hf
    refine rs_getR i_X6_value_34 (by decide) (by decide) c1 e2 ?_
    refine rs_iload_n i_X6_value_37 rfl ?_
    obtain ⟨c3, hf⟩ := ite_some hf
    refine rs_iald i_X6_value_38 c3 ?_
    by_cases c4 : (gI h a2 (ix v1)) ≤ v4
    · replace hf := (if_pos c4).symm.trans hf
      refine rs_icT i_X6_value_39 (ct_ge c4) (tg := 203) (by decide) ?_
      exact r_X6_value_203 hd hf
    · replace hf := (if_neg c4).symm.trans hf
      refine rs_icF i_X6_value_39 (cf_ge c4) ?_
      refine rs_iload i_X6_value_42 rfl ?_
      refine rs_sipush i_X6_value_44 (v := 160) (by decide) ?_
      by_cases c5 : 160 ≤ v4
      · replace hf := (if_pos c5).symm.trans hf
        refine rs_icT i_X6_value_47 (ct_ge c5) (tg := 203) (by decide) ?_
        exact r_X6_value_203 hd hf
      · replace hf := (if_neg c5).symm.trans hf
        refine rs_icF i_X6_value_47 (cf_ge c5) ?_
        refine rs_aload_n i_X6_value_50 rfl ?_
        obtain ⟨a6, e6, hf⟩ := bind_some hf
        refine rs_getR i_X6_value_51 (by decide) (by decide) c1 e6 ?_
        refine rs_iload i_X6_value_54 rfl ?_
        obtain ⟨c7, hf⟩ := ite_some hf
        refine rs_iald i_X6_value_56 c7 ?_
        refine rs_istore i_X6_value_57 (Nat.le_of_ble_eq_true rfl) (lv' := [some (.ref v0), some (.int v1), some (.ref v2), some (.int v3), some (.int v4), some (.int (gI h a6 (ix v4)))]) rfl ?_
        refine rs_iload i_X6_value_59 rfl ?_
        refine rs_bipush i_X6_value_61 (v := (-11)) (by decide) ?_
        by_cases c8 : (gI h a6 (ix v4)) ≤ (-11)
        · replace hf := (if_pos c8).symm.trans hf
          refine rs_icT i_X6_value_63 (ct_le c8) (tg := 102) (by decide) ?_
          refine rs_iload i_X6_value_102 rfl ?_
          refine rs_bipush i_X6_value_104 (v := (-13)) (by decide) ?_
          by_cases c9 : (gI h a6 (ix v4)) = (-13)
          · replace hf := (if_pos c9).symm.trans hf
            refine rs_icT i_X6_value_106 (ct_eq c9) (tg := 116) (by decide) ?_
            exact r_X6_value_116 hd ih hf
          · replace hf := (if_neg c9).symm.trans hf
            refine rs_icF i_X6_value_106 (cf_eq c9) ?_
            refine rs_iload i_X6_value_109 rfl ?_
            refine rs_bipush i_X6_value_111 (v := (-19)) (by decide) ?_
            by_cases c10 : (gI h a6 (ix v4)) ≠ (-19)
            · replace hf := (if_pos c10).symm.trans hf
              refine rs_icT i_X6_value_113 (ct_ne c10) (tg := 162) (by decide) ?_
              refine rs_iload_n i_X6_value_162 rfl ?_
              refine rs_iconst i_X6_value_163 (v := 1) (by decide) ?_
              by_cases c11 : 1 ≤ v3
              · replace hf := (if_pos c11).symm.trans hf
                refine rs_icT i_X6_value_164 (ct_ge c11) (tg := 169) (by decide) ?_
                refine rs_iinc i_X6_value_169 rfl (v := v3 + (-1)) rfl (Nat.le_of_ble_eq_true rfl) (lv' := [some (.ref v0), some (.int v1), some (.ref v2), some (.int (v3 + (-1))), some (.int v4), some (.int (gI h a6 (ix v4)))]) rfl ?_
                refine rs_aload_n i_X6_value_172 rfl ?_
                obtain ⟨a12, e12, hf⟩ := bind_some hf
                refine rs_getR i_X6_value_173 (by decide) (by decide) c1 e12 ?_
                refine rs_iload_n i_X6_value_176 rfl ?_
                refine rs_iload i_X6_value_177 rfl ?_
                refine rs_aload_n i_X6_value_179 rfl ?_
                refine rs_getR i_X6_value_180 (by decide) (by decide) c1 e12 ?_
                refine rs_iload_n i_X6_value_183 rfl ?_
                obtain ⟨c13, hf⟩ := ite_some hf
                refine rs_iald i_X6_value_184 c13 ?_
                refine rs_aload_n i_X6_value_185 rfl ?_
                refine rs_getR i_X6_value_186 (by decide) (by decide) c1 e12 ?_
                refine rs_iload_n i_X6_value_189 rfl ?_
                refine rs_iconst i_X6_value_190 (v := 1) (by decide) ?_
                refine rs_iadd i_X6_value_191 ?_
                obtain ⟨c14, hf⟩ := ite_some hf
                refine rs_iald i_X6_value_192 c14 ?_
                obtain ⟨o15, e15, hf⟩ := bind_some hf
                refine rs_inS i_X6_value_193 (by decide) m_X6_joined rfl (As := [.int (gI h a6 (ix v4)), .int (gI h a12 (ix (v3 + (-1)))), .int (gI h a12 (ix ((v3 + (-1)) + 1)))]) (rest := [.int (v3 + (-1)), .ref a12]) rfl rfl (Nat.le_of_ble_eq_true rfl) (c_X6_joined (by omega) e15) (st' := [.int o15.1, .int (v3 + (-1)), .ref a12]) rfl ?_
                obtain ⟨c16, hf⟩ := ite_some hf
                refine rs_iast i_X6_value_196 c16 ?_
                exact r_X6_value_197 hd ih hf
              · replace hf := (if_neg c11).symm.trans hf
                refine rs_icF i_X6_value_164 (cf_ge c11) ?_
                refine rs_iconst i_X6_value_167 (v := 0) (by decide) ?_
                have hf := Option.some.inj hf
                subst hf
                exact rs_iret i_X6_value_168 m_X6_value rfl
            · replace hf := (if_neg c10).symm.trans hf
              refine rs_icF i_X6_value_113 (cf_ne c10) ?_
              exact r_X6_value_116 hd ih hf
        · replace hf := (if_neg c8).symm.trans hf
          refine rs_icF i_X6_value_63 (cf_le c8) ?_
          refine rs_iinc i_X6_value_66 rfl (v := v3 + 1) rfl (Nat.le_of_ble_eq_true rfl) (lv' := [some (.ref v0), some (.int v1), some (.ref v2), some (.int (v3 + 1)), some (.int v4), some (.int (gI h a6 (ix v4)))]) rfl ?_
          refine rs_iload_n i_X6_value_69 rfl ?_
          refine rs_bipush i_X6_value_70 (v := 40) (by decide) ?_
          by_cases c17 : (v3 + 1) < 40
          · replace hf := (if_pos c17).symm.trans hf
            refine rs_icT i_X6_value_72 (ct_lt c17) (tg := 77) (by decide) ?_
            refine rs_aload_n i_X6_value_77 rfl ?_
            obtain ⟨a18, e18, hf⟩ := bind_some hf
            refine rs_getR i_X6_value_78 (by decide) (by decide) c1 e18 ?_
            refine rs_iload_n i_X6_value_81 rfl ?_
            refine rs_iload i_X6_value_82 rfl ?_
            by_cases c19 : (gI h a6 (ix v4)) < 0
            · replace hf := (if_pos c19).symm.trans hf
              refine rs_ifT i_X6_value_84 (ct_lt c19) (tg := 92) (by decide) ?_
              refine rs_iload i_X6_value_92 rfl ?_
              refine rs_aload_n i_X6_value_94 rfl ?_
              obtain ⟨o20, e20, hf⟩ := bind_some hf
              refine rs_inS i_X6_value_95 (by decide) m_X6_named rfl (As := [.int (gI h a6 (ix v4)), .ref v2]) (rest := [.int (v3 + 1), .ref a18]) rfl rfl (Nat.le_of_ble_eq_true rfl) (c_X6_named (by omega) e20) (st' := [.int o20.1, .int (v3 + 1), .ref a18]) rfl ?_
              exact r_X6_value_98 hd ih hf
            · replace hf := (if_neg c19).symm.trans hf
              refine rs_ifF i_X6_value_84 (cf_lt c19) ?_
              refine rs_iload i_X6_value_87 rfl ?_
              refine rs_goto i_X6_value_89 (tg := 98) (by decide) ?_
              exact r_X6_value_98 hd ih hf
          · replace hf := (if_neg c17).symm.trans hf
            refine rs_icF i_X6_value_72 (cf_lt c17) ?_
            refine rs_iconst i_X6_value_75 (v := 0) (by decide) ?_
            have hf := Option.some.inj hf
            subst hf
            exact rs_iret i_X6_value_76 m_X6_value rfl
def f_X6_value_29 (n : Nat) (v0 : Nat) (v1 : Int32) (v2 : Nat) (v3 : Int32) (s0 : Int32) (h : Hp) : Option (Int32 × Hp) :=
  f_X6_value_31 n n v0 v1 v2 v3 s0 h
set_option maxRecDepth 100000 in
set_option maxHeartbeats 4000000 in
theorem r_X6_value_29 {X : Nat → Int32} {d : Nat} (hd : 1 ≤ (d + 1)) {n : Nat} {v0 : Nat} {v1 : Int32} {v2 : Nat} {v3 : Int32} {s0 : Int32} {h : Hp} {o : (Int32 × Hp)} (hf : f_X6_value_29 n v0 v1 v2 v3 s0 h = some o) : Run X (d + 1) 63 29 [some (.ref v0), some (.int v1), some (.ref v2), some (.int v3), none, none] [.int s0] h (some (.int o.1), o.2) := by
  unfold f_X6_value_29 at hf
  refine rs_istore i_X6_value_29 (Nat.le_of_ble_eq_true rfl) (lv' := [some (.ref v0), some (.int v1), some (.ref v2), some (.int v3), some (.int s0), none]) rfl ?_
  exact r_X6_value_31 hd _ _ _ _ _ _ _ _ _ hf
def f_X6_value_0 (n : Nat) (v0 : Nat) (v1 : Int32) (v2 : Nat) (h : Hp) : Option (Int32 × Hp) :=
  (f_X7_within v1 0 2 h).bind fun o1 =>
  if o1.1 ≠ 0 then
    if v1 ≠ 0 then
      if okO o1.2 v0 6 then
      (gR o1.2 v0 1).bind fun a5 =>
      if okI o1.2 a5 (v1 - 1) then
      f_X6_value_29 n v0 v1 v2 (-1) (gI o1.2 a5 (ix (v1 - 1))) o1.2
      else none
      else none
    else
      f_X6_value_29 n v0 v1 v2 (-1) 0 o1.2
  else
    some (0, o1.2)
set_option maxRecDepth 100000 in
set_option maxHeartbeats 4000000 in
theorem r_X6_value_0 {X : Nat → Int32} {d : Nat} (hd : 1 ≤ (d + 1)) {n : Nat} {v0 : Nat} {v1 : Int32} {v2 : Nat} {h : Hp} {o : (Int32 × Hp)} (hf : f_X6_value_0 n v0 v1 v2 h = some o) : Run X (d + 1) 63 0 [some (.ref v0), some (.int v1), some (.ref v2), none, none, none] [] h (some (.int o.1), o.2) := by
  unfold f_X6_value_0 at hf
  refine rs_iload_n i_X6_value_0 rfl ?_
  refine rs_iconst i_X6_value_1 (v := 0) (by decide) ?_
  refine rs_iconst i_X6_value_2 (v := 2) (by decide) ?_
  obtain ⟨o1, e1, hf⟩ := bind_some hf
  refine rs_inS i_X6_value_3 (by decide) m_X7_within rfl (As := [.int v1, .int 0, .int 2]) (rest := []) rfl rfl (Nat.le_of_ble_eq_true rfl) (c_X7_within (by omega) e1) (st' := [.int o1.1]) rfl ?_
  by_cases c2 : o1.1 ≠ 0
  · replace hf := (if_pos c2).symm.trans hf
    refine rs_ifT i_X6_value_6 (ct_ne c2) (tg := 11) (by decide) ?_
    refine rs_iconst i_X6_value_11 (v := (-1)) (by decide) ?_
    refine rs_istore_n i_X6_value_12 (Nat.le_of_ble_eq_true rfl) (lv' := [some (.ref v0), some (.int v1), some (.ref v2), some (.int (-1)), none, none]) rfl ?_
    refine rs_iload_n i_X6_value_13 rfl ?_
    by_cases c3 : v1 ≠ 0
    · replace hf := (if_pos c3).symm.trans hf
      refine rs_ifT i_X6_value_14 (ct_ne c3) (tg := 21) (by decide) ?_
      refine rs_aload_n i_X6_value_21 rfl ?_
      obtain ⟨c4, hf⟩ := ite_some hf
      obtain ⟨a5, e5, hf⟩ := bind_some hf
      refine rs_getR i_X6_value_22 (by decide) (by decide) c4 e5 ?_
      refine rs_iload_n i_X6_value_25 rfl ?_
      refine rs_iconst i_X6_value_26 (v := 1) (by decide) ?_
      refine rs_isub i_X6_value_27 ?_
      obtain ⟨c6, hf⟩ := ite_some hf
      refine rs_iald i_X6_value_28 c6 ?_
      exact r_X6_value_29 hd hf
    · replace hf := (if_neg c3).symm.trans hf
      refine rs_ifF i_X6_value_14 (cf_ne c3) ?_
      refine rs_iconst i_X6_value_17 (v := 0) (by decide) ?_
      refine rs_goto i_X6_value_18 (tg := 29) (by decide) ?_
      exact r_X6_value_29 hd hf
  · replace hf := (if_neg c2).symm.trans hf
    refine rs_ifF i_X6_value_6 (cf_ne c2) ?_
    refine rs_iconst i_X6_value_9 (v := 0) (by decide) ?_
    have hf := Option.some.inj hf
    subst hf
    exact rs_iret i_X6_value_10 m_X6_value rfl
def f_X6_value (n : Nat) (v0 : Nat) (v1 : Int32) (v2 : Nat) (h : Hp) : Option (Int32 × Hp) := f_X6_value_0 n v0 v1 v2 h
theorem c_X6_value {X : Nat → Int32} {d : Nat} (hd : 1 ≤ d) {n : Nat} {v0 : Nat} {v1 : Int32} {v2 : Nat} {h : Hp} {o : (Int32 × Hp)} (hf : f_X6_value n v0 v1 v2 h = some o) : Calls X d 63 [.ref v0, .int v1, .ref v2] h (some (.int o.1), o.2) := by
  obtain ⟨d, rfl⟩ : ∃ z, d = z + 1 := ⟨d - 1, by omega⟩
  exact ⟨_, rfl, r_X6_value_0 hd hf⟩
theorem i_X1_says_0 : fetch 8 0 = some (.aload_n 0, 1, 0, 0, 0, 0) := by decide +kernel
theorem i_X1_says_1 : fetch 8 1 = some (.getfield 11, 4, 1, 0, 0, 208) := by decide +kernel
theorem i_X1_says_4 : fetch 8 4 = some (.iconst 0, 5, 0, 0, 0, 0) := by decide +kernel
theorem i_X1_says_5 : fetch 8 5 = some (.aload_n 0, 6, 0, 0, 0, 0) := by decide +kernel
theorem i_X1_says_6 : fetch 8 6 = some (.getfield 17, 9, 1, 2, 0, 211) := by decide +kernel
theorem i_X1_says_9 : fetch 8 9 = some (.iastore, 10, 0, 0, 0, 0) := by decide +kernel
theorem i_X1_says_10 : fetch 8 10 = some (.aload_n 0, 11, 0, 0, 0, 0) := by decide +kernel
theorem i_X1_says_11 : fetch 8 11 = some (.getfield 11, 14, 1, 0, 0, 208) := by decide +kernel
theorem i_X1_says_14 : fetch 8 14 = some (.iconst 1, 15, 0, 0, 0, 0) := by decide +kernel
theorem i_X1_says_15 : fetch 8 15 = some (.aload_n 2, 16, 0, 0, 0, 0) := by decide +kernel
theorem i_X1_says_16 : fetch 8 16 = some (.iload_n 3, 17, 0, 0, 0, 0) := by decide +kernel
theorem i_X1_says_17 : fetch 8 17 = some (.invokevirtual 64, 20, 39, 0, 0, 628) := by decide +kernel
theorem i_X1_says_20 : fetch 8 20 = some (.iastore, 21, 0, 0, 0, 0) := by decide +kernel
theorem i_X1_says_21 : fetch 8 21 = some (.aload_n 0, 22, 0, 0, 0, 0) := by decide +kernel
theorem i_X1_says_22 : fetch 8 22 = some (.getfield 11, 25, 1, 0, 0, 208) := by decide +kernel
theorem i_X1_says_25 : fetch 8 25 = some (.iconst 2, 26, 0, 0, 0, 0) := by decide +kernel
theorem i_X1_says_26 : fetch 8 26 = some (.aload_n 2, 27, 0, 0, 0, 0) := by decide +kernel
theorem i_X1_says_27 : fetch 8 27 = some (.getfield 70, 30, 3, 2, 0, 242) := by decide +kernel
theorem i_X1_says_30 : fetch 8 30 = some (.iload_n 3, 31, 0, 0, 0, 0) := by decide +kernel
theorem i_X1_says_31 : fetch 8 31 = some (.iaload, 32, 0, 0, 0, 0) := by decide +kernel
theorem i_X1_says_32 : fetch 8 32 = some (.iastore, 33, 0, 0, 0, 0) := by decide +kernel
theorem i_X1_says_33 : fetch 8 33 = some (.aload_n 0, 34, 0, 0, 0, 0) := by decide +kernel
theorem i_X1_says_34 : fetch 8 34 = some (.getfield 11, 37, 1, 0, 0, 208) := by decide +kernel
theorem i_X1_says_37 : fetch 8 37 = some (.iconst 3, 38, 0, 0, 0, 0) := by decide +kernel
theorem i_X1_says_38 : fetch 8 38 = some (.iload 4, 40, 0, 0, 0, 0) := by decide +kernel
theorem i_X1_says_40 : fetch 8 40 = some (.iastore, 41, 0, 0, 0, 0) := by decide +kernel
theorem i_X1_says_41 : fetch 8 41 = some (.aload_n 0, 42, 0, 0, 0, 0) := by decide +kernel
theorem i_X1_says_42 : fetch 8 42 = some (.getfield 11, 45, 1, 0, 0, 208) := by decide +kernel
theorem i_X1_says_45 : fetch 8 45 = some (.iconst 4, 46, 0, 0, 0, 0) := by decide +kernel
theorem i_X1_says_46 : fetch 8 46 = some (.aload_n 2, 47, 0, 0, 0, 0) := by decide +kernel
theorem i_X1_says_47 : fetch 8 47 = some (.getfield 73, 50, 3, 7, 0, 249) := by decide +kernel
theorem i_X1_says_50 : fetch 8 50 = some (.iastore, 51, 0, 0, 0, 0) := by decide +kernel
theorem i_X1_says_51 : fetch 8 51 = some (.aload_n 0, 52, 0, 0, 0, 0) := by decide +kernel
theorem i_X1_says_52 : fetch 8 52 = some (.getfield 11, 55, 1, 0, 0, 208) := by decide +kernel
theorem i_X1_says_55 : fetch 8 55 = some (.iconst 5, 56, 0, 0, 0, 0) := by decide +kernel
theorem i_X1_says_56 : fetch 8 56 = some (.aload_n 2, 57, 0, 0, 0, 0) := by decide +kernel
theorem i_X1_says_57 : fetch 8 57 = some (.getfield 76, 60, 3, 8, 0, 252) := by decide +kernel
theorem i_X1_says_60 : fetch 8 60 = some (.iastore, 61, 0, 0, 0, 0) := by decide +kernel
theorem i_X1_says_61 : fetch 8 61 = some (.aload_n 0, 62, 0, 0, 0, 0) := by decide +kernel
theorem i_X1_says_62 : fetch 8 62 = some (.getfield 32, 65, 1, 1, 0, 209) := by decide +kernel
theorem i_X1_says_65 : fetch 8 65 = some (.iload_n 1, 66, 0, 0, 0, 0) := by decide +kernel
theorem i_X1_says_66 : fetch 8 66 = some (.aload_n 0, 67, 0, 0, 0, 0) := by decide +kernel
theorem i_X1_says_67 : fetch 8 67 = some (.getfield 11, 70, 1, 0, 0, 208) := by decide +kernel
theorem i_X1_says_70 : fetch 8 70 = some (.invokevirtual 79, 73, 63, 0, 0, 632) := by decide +kernel
theorem i_X1_says_73 : fetch 8 73 = some (.ireturn, 74, 0, 0, 0, 0) := by decide +kernel
def f_X1_says_61 (n : Nat) (v0 : Nat) (v1 : Int32) (h : Hp) : Option (Int32 × Hp) :=
  if okO h v0 1 then
  (gR h v0 1).bind fun a2 =>
  (gR h v0 0).bind fun a3 =>
  if okO h a2 6 then
  (f_X6_value n a2 v1 a3 h).bind fun o4 =>
  some (o4.1, o4.2)
  else none
  else none
set_option maxRecDepth 100000 in
set_option maxHeartbeats 4000000 in
theorem r_X1_says_61 {X : Nat → Int32} {d : Nat} (hd : 2 ≤ (d + 1)) {n : Nat} {v0 : Nat} {v1 : Int32} {d2 : Nat} {d3 : Int32} {d4 : Int32} {h : Hp} {o : (Int32 × Hp)} (hf : f_X1_says_61 n v0 v1 h = some o) : Run X (d + 1) 8 61 [some (.ref v0), some (.int v1), some (.ref d2), some (.int d3), some (.int d4)] [] h (some (.int o.1), o.2) := by
  unfold f_X1_says_61 at hf
  refine rs_aload_n i_X1_says_61 rfl ?_
  obtain ⟨c1, hf⟩ := ite_some hf
  obtain ⟨a2, e2, hf⟩ := bind_some hf
  refine rs_getR i_X1_says_62 (by decide) (by decide) c1 e2 ?_
  refine rs_iload_n i_X1_says_65 rfl ?_
  refine rs_aload_n i_X1_says_66 rfl ?_
  obtain ⟨a3, e3, hf⟩ := bind_some hf
  refine rs_getR i_X1_says_67 (by decide) (by decide) c1 e3 ?_
  obtain ⟨c5, hf⟩ := ite_some hf
  obtain ⟨o4, e4, hf⟩ := bind_some hf
  refine rs_inV i_X1_says_70 m_X6_value rfl (As := [.int v1, .ref a3]) (rest := []) rfl rfl (Nat.le_of_ble_eq_true rfl) c5 (c_X6_value (by omega) e4) (st' := [.int o4.1]) rfl ?_
  have hf := Option.some.inj hf
  subst hf
  exact rs_iret i_X1_says_73 m_X1_says rfl
def f_X1_says_51 (n : Nat) (v0 : Nat) (v1 : Int32) (v2 : Nat) (h : Hp) : Option (Int32 × Hp) :=
  if okO h v0 1 then
  (gR h v0 0).bind fun a2 =>
  if okO h v2 3 then
  if okI h a2 5 then
  f_X1_says_61 n v0 v1 (hsi h a2 (ix 5) (gI h v2 8))
  else none
  else none
  else none
set_option maxRecDepth 100000 in
set_option maxHeartbeats 4000000 in
theorem r_X1_says_51 {X : Nat → Int32} {d : Nat} (hd : 2 ≤ (d + 1)) {n : Nat} {v0 : Nat} {v1 : Int32} {v2 : Nat} {d3 : Int32} {d4 : Int32} {h : Hp} {o : (Int32 × Hp)} (hf : f_X1_says_51 n v0 v1 v2 h = some o) : Run X (d + 1) 8 51 [some (.ref v0), some (.int v1), some (.ref v2), some (.int d3), some (.int d4)] [] h (some (.int o.1), o.2) := by
  unfold f_X1_says_51 at hf
  refine rs_aload_n i_X1_says_51 rfl ?_
  obtain ⟨c1, hf⟩ := ite_some hf
  obtain ⟨a2, e2, hf⟩ := bind_some hf
  refine rs_getR i_X1_says_52 (by decide) (by decide) c1 e2 ?_
  refine rs_iconst i_X1_says_55 (v := 5) (by decide) ?_
  refine rs_aload_n i_X1_says_56 rfl ?_
  obtain ⟨c3, hf⟩ := ite_some hf
  refine rs_getI i_X1_says_57 (by decide) (by decide) c3 ?_
  obtain ⟨c4, hf⟩ := ite_some hf
  refine rs_iast i_X1_says_60 c4 ?_
  exact r_X1_says_61 hd hf
def f_X1_says_41 (n : Nat) (v0 : Nat) (v1 : Int32) (v2 : Nat) (h : Hp) : Option (Int32 × Hp) :=
  if okO h v0 1 then
  (gR h v0 0).bind fun a2 =>
  if okO h v2 3 then
  if okI h a2 4 then
  f_X1_says_51 n v0 v1 v2 (hsi h a2 (ix 4) (gI h v2 7))
  else none
  else none
  else none
set_option maxRecDepth 100000 in
set_option maxHeartbeats 4000000 in
theorem r_X1_says_41 {X : Nat → Int32} {d : Nat} (hd : 2 ≤ (d + 1)) {n : Nat} {v0 : Nat} {v1 : Int32} {v2 : Nat} {d3 : Int32} {d4 : Int32} {h : Hp} {o : (Int32 × Hp)} (hf : f_X1_says_41 n v0 v1 v2 h = some o) : Run X (d + 1) 8 41 [some (.ref v0), some (.int v1), some (.ref v2), some (.int d3), some (.int d4)] [] h (some (.int o.1), o.2) := by
  unfold f_X1_says_41 at hf
  refine rs_aload_n i_X1_says_41 rfl ?_
  obtain ⟨c1, hf⟩ := ite_some hf
  obtain ⟨a2, e2, hf⟩ := bind_some hf
  refine rs_getR i_X1_says_42 (by decide) (by decide) c1 e2 ?_
  refine rs_iconst i_X1_says_45 (v := 4) (by decide) ?_
  refine rs_aload_n i_X1_says_46 rfl ?_
  obtain ⟨c3, hf⟩ := ite_some hf
  refine rs_getI i_X1_says_47 (by decide) (by decide) c3 ?_
  obtain ⟨c4, hf⟩ := ite_some hf
  refine rs_iast i_X1_says_50 c4 ?_
  exact r_X1_says_51 hd hf
def f_X1_says_33 (n : Nat) (v0 : Nat) (v1 : Int32) (v2 : Nat) (v4 : Int32) (h : Hp) : Option (Int32 × Hp) :=
  if okO h v0 1 then
  (gR h v0 0).bind fun a2 =>
  if okI h a2 3 then
  f_X1_says_41 n v0 v1 v2 (hsi h a2 (ix 3) v4)
  else none
  else none
set_option maxRecDepth 100000 in
set_option maxHeartbeats 4000000 in
theorem r_X1_says_33 {X : Nat → Int32} {d : Nat} (hd : 2 ≤ (d + 1)) {n : Nat} {v0 : Nat} {v1 : Int32} {v2 : Nat} {v4 : Int32} {d3 : Int32} {h : Hp} {o : (Int32 × Hp)} (hf : f_X1_says_33 n v0 v1 v2 v4 h = some o) : Run X (d + 1) 8 33 [some (.ref v0), some (.int v1), some (.ref v2), some (.int d3), some (.int v4)] [] h (some (.int o.1), o.2) := by
  unfold f_X1_says_33 at hf
  refine rs_aload_n i_X1_says_33 rfl ?_
  obtain ⟨c1, hf⟩ := ite_some hf
  obtain ⟨a2, e2, hf⟩ := bind_some hf
  refine rs_getR i_X1_says_34 (by decide) (by decide) c1 e2 ?_
  refine rs_iconst i_X1_says_37 (v := 3) (by decide) ?_
  refine rs_iload i_X1_says_38 rfl ?_
  obtain ⟨c3, hf⟩ := ite_some hf
  refine rs_iast i_X1_says_40 c3 ?_
  exact r_X1_says_41 hd hf
def f_X1_says_21 (n : Nat) (v0 : Nat) (v1 : Int32) (v2 : Nat) (v3 : Int32) (v4 : Int32) (h : Hp) : Option (Int32 × Hp) :=
  if okO h v0 1 then
  (gR h v0 0).bind fun a2 =>
  if okO h v2 3 then
  (gR h v2 2).bind fun a4 =>
  if okI h a4 v3 then
  if okI h a2 2 then
  f_X1_says_33 n v0 v1 v2 v4 (hsi h a2 (ix 2) (gI h a4 (ix v3)))
  else none
  else none
  else none
  else none
set_option maxRecDepth 100000 in
set_option maxHeartbeats 4000000 in
theorem r_X1_says_21 {X : Nat → Int32} {d : Nat} (hd : 2 ≤ (d + 1)) {n : Nat} {v0 : Nat} {v1 : Int32} {v2 : Nat} {v3 : Int32} {v4 : Int32} {h : Hp} {o : (Int32 × Hp)} (hf : f_X1_says_21 n v0 v1 v2 v3 v4 h = some o) : Run X (d + 1) 8 21 [some (.ref v0), some (.int v1), some (.ref v2), some (.int v3), some (.int v4)] [] h (some (.int o.1), o.2) := by
  unfold f_X1_says_21 at hf
  refine rs_aload_n i_X1_says_21 rfl ?_
  obtain ⟨c1, hf⟩ := ite_some hf
  obtain ⟨a2, e2, hf⟩ := bind_some hf
  refine rs_getR i_X1_says_22 (by decide) (by decide) c1 e2 ?_
  refine rs_iconst i_X1_says_25 (v := 2) (by decide) ?_
  refine rs_aload_n i_X1_says_26 rfl ?_
  obtain ⟨c3, hf⟩ := ite_some hf
  obtain ⟨a4, e4, hf⟩ := bind_some hf
  refine rs_getR i_X1_says_27 (by decide) (by decide) c3 e4 ?_
  refine rs_iload_n i_X1_says_30 rfl ?_
  obtain ⟨c5, hf⟩ := ite_some hf
  refine rs_iald i_X1_says_31 c5 ?_
  obtain ⟨c6, hf⟩ := ite_some hf
  refine rs_iast i_X1_says_32 c6 ?_
  exact r_X1_says_33 hd hf
def f_X1_says_10 (n : Nat) (v0 : Nat) (v1 : Int32) (v2 : Nat) (v3 : Int32) (v4 : Int32) (h : Hp) : Option (Int32 × Hp) :=
  if okO h v0 1 then
  (gR h v0 0).bind fun a2 =>
  if okO h v2 3 then
  (f_X3_thick v2 v3 h).bind fun o3 =>
  if okI o3.2 a2 1 then
  f_X1_says_21 n v0 v1 v2 v3 v4 (hsi o3.2 a2 (ix 1) o3.1)
  else none
  else none
  else none
set_option maxRecDepth 100000 in
set_option maxHeartbeats 4000000 in
theorem r_X1_says_10 {X : Nat → Int32} {d : Nat} (hd : 2 ≤ (d + 1)) {n : Nat} {v0 : Nat} {v1 : Int32} {v2 : Nat} {v3 : Int32} {v4 : Int32} {h : Hp} {o : (Int32 × Hp)} (hf : f_X1_says_10 n v0 v1 v2 v3 v4 h = some o) : Run X (d + 1) 8 10 [some (.ref v0), some (.int v1), some (.ref v2), some (.int v3), some (.int v4)] [] h (some (.int o.1), o.2) := by
  unfold f_X1_says_10 at hf
  refine rs_aload_n i_X1_says_10 rfl ?_
  obtain ⟨c1, hf⟩ := ite_some hf
  obtain ⟨a2, e2, hf⟩ := bind_some hf
  refine rs_getR i_X1_says_11 (by decide) (by decide) c1 e2 ?_
  refine rs_iconst i_X1_says_14 (v := 1) (by decide) ?_
  refine rs_aload_n i_X1_says_15 rfl ?_
  refine rs_iload_n i_X1_says_16 rfl ?_
  obtain ⟨c4, hf⟩ := ite_some hf
  obtain ⟨o3, e3, hf⟩ := bind_some hf
  refine rs_inV i_X1_says_17 m_X3_thick rfl (As := [.int v3]) (rest := [.int 1, .ref a2]) rfl rfl (Nat.le_of_ble_eq_true rfl) c4 (c_X3_thick (by omega) e3) (st' := [.int o3.1, .int 1, .ref a2]) rfl ?_
  obtain ⟨c5, hf⟩ := ite_some hf
  refine rs_iast i_X1_says_20 c5 ?_
  exact r_X1_says_21 hd hf
def f_X1_says_0 (n : Nat) (v0 : Nat) (v1 : Int32) (v2 : Nat) (v3 : Int32) (v4 : Int32) (h : Hp) : Option (Int32 × Hp) :=
  if okO h v0 1 then
  (gR h v0 0).bind fun a2 =>
  if okI h a2 0 then
  f_X1_says_10 n v0 v1 v2 v3 v4 (hsi h a2 (ix 0) (gI h v0 2))
  else none
  else none
set_option maxRecDepth 100000 in
set_option maxHeartbeats 4000000 in
theorem r_X1_says_0 {X : Nat → Int32} {d : Nat} (hd : 2 ≤ (d + 1)) {n : Nat} {v0 : Nat} {v1 : Int32} {v2 : Nat} {v3 : Int32} {v4 : Int32} {h : Hp} {o : (Int32 × Hp)} (hf : f_X1_says_0 n v0 v1 v2 v3 v4 h = some o) : Run X (d + 1) 8 0 [some (.ref v0), some (.int v1), some (.ref v2), some (.int v3), some (.int v4)] [] h (some (.int o.1), o.2) := by
  unfold f_X1_says_0 at hf
  refine rs_aload_n i_X1_says_0 rfl ?_
  obtain ⟨c1, hf⟩ := ite_some hf
  obtain ⟨a2, e2, hf⟩ := bind_some hf
  refine rs_getR i_X1_says_1 (by decide) (by decide) c1 e2 ?_
  refine rs_iconst i_X1_says_4 (v := 0) (by decide) ?_
  refine rs_aload_n i_X1_says_5 rfl ?_
  refine rs_getI i_X1_says_6 (by decide) (by decide) c1 ?_
  obtain ⟨c3, hf⟩ := ite_some hf
  refine rs_iast i_X1_says_9 c3 ?_
  exact r_X1_says_10 hd hf
def f_X1_says (n : Nat) (v0 : Nat) (v1 : Int32) (v2 : Nat) (v3 : Int32) (v4 : Int32) (h : Hp) : Option (Int32 × Hp) := f_X1_says_0 n v0 v1 v2 v3 v4 h
theorem c_X1_says {X : Nat → Int32} {d : Nat} (hd : 2 ≤ d) {n : Nat} {v0 : Nat} {v1 : Int32} {v2 : Nat} {v3 : Int32} {v4 : Int32} {h : Hp} {o : (Int32 × Hp)} (hf : f_X1_says n v0 v1 v2 v3 v4 h = some o) : Calls X d 8 [.ref v0, .int v1, .ref v2, .int v3, .int v4] h (some (.int o.1), o.2) := by
  obtain ⟨d, rfl⟩ : ∃ z, d = z + 1 := ⟨d - 1, by omega⟩
  exact ⟨_, rfl, r_X1_says_0 hd hf⟩
theorem i_X1_ease_0 : fetch 5 0 = some (.aload_n 0, 1, 0, 0, 0, 0) := by decide +kernel
theorem i_X1_ease_1 : fetch 5 1 = some (.iconst 0, 2, 0, 0, 0, 0) := by decide +kernel
theorem i_X1_ease_2 : fetch 5 2 = some (.aload_n 1, 3, 0, 0, 0, 0) := by decide +kernel
theorem i_X1_ease_3 : fetch 5 3 = some (.iload_n 2, 4, 0, 0, 0, 0) := by decide +kernel
theorem i_X1_ease_4 : fetch 5 4 = some (.iload_n 3, 5, 0, 0, 0, 0) := by decide +kernel
theorem i_X1_ease_5 : fetch 5 5 = some (.invokevirtual 36, 8, 8, 0, 0, 624) := by decide +kernel
theorem i_X1_ease_8 : fetch 5 8 = some (.i2l, 9, 0, 0, 0, 0) := by decide +kernel
theorem i_X1_ease_9 : fetch 5 9 = some (.lstore 4, 11, 0, 0, 0, 0) := by decide +kernel
theorem i_X1_ease_11 : fetch 5 11 = some (.aload_n 0, 12, 0, 0, 0, 0) := by decide +kernel
theorem i_X1_ease_12 : fetch 5 12 = some (.getfield 24, 15, 1, 4, 0, 216) := by decide +kernel
theorem i_X1_ease_15 : fetch 5 15 = some (.ifCond .eq 36, 18, 0, 0, 0, 0) := by decide +kernel
theorem i_X1_ease_18 : fetch 5 18 = some (.aload_n 0, 19, 0, 0, 0, 0) := by decide +kernel
theorem i_X1_ease_19 : fetch 5 19 = some (.aload_n 0, 20, 0, 0, 0, 0) := by decide +kernel
theorem i_X1_ease_20 : fetch 5 20 = some (.getfield 28, 23, 1, 5, 0, 217) := by decide +kernel
theorem i_X1_ease_23 : fetch 5 23 = some (.ldc2_w 40, 26, 0, 0, 48271, 642) := by decide +kernel
theorem i_X1_ease_26 : fetch 5 26 = some (.lmul, 27, 0, 0, 0, 0) := by decide +kernel
theorem i_X1_ease_27 : fetch 5 27 = some (.ldc2_w 42, 30, 0, 0, 2147483647, 643) := by decide +kernel
theorem i_X1_ease_30 : fetch 5 30 = some (.lrem, 31, 0, 0, 0, 0) := by decide +kernel
theorem i_X1_ease_31 : fetch 5 31 = some (.putfield 28, 34, 1, 5, 0, 217) := by decide +kernel
theorem i_X1_ease_34 : fetch 5 34 = some (.lload 4, 36, 0, 0, 0, 0) := by decide +kernel
theorem i_X1_ease_36 : fetch 5 36 = some (.aload_n 0, 37, 0, 0, 0, 0) := by decide +kernel
theorem i_X1_ease_37 : fetch 5 37 = some (.getfield 28, 40, 1, 5, 0, 217) := by decide +kernel
theorem i_X1_ease_40 : fetch 5 40 = some (.ldc2_w 44, 43, 0, 0, 5, 644) := by decide +kernel
theorem i_X1_ease_43 : fetch 5 43 = some (.lrem, 44, 0, 0, 0, 0) := by decide +kernel
theorem i_X1_ease_44 : fetch 5 44 = some (.ldc2_w 46, 47, 0, 0, 2, 645) := by decide +kernel
theorem i_X1_ease_47 : fetch 5 47 = some (.lsub, 48, 0, 0, 0, 0) := by decide +kernel
theorem i_X1_ease_48 : fetch 5 48 = some (.ladd, 49, 0, 0, 0, 0) := by decide +kernel
theorem i_X1_ease_49 : fetch 5 49 = some (.lstore 4, 51, 0, 0, 0, 0) := by decide +kernel
theorem i_X1_ease_51 : fetch 5 51 = some (.lconst 1, 52, 0, 0, 0, 0) := by decide +kernel
theorem i_X1_ease_52 : fetch 5 52 = some (.ldc2_w 48, 55, 0, 0, 99, 646) := by decide +kernel
theorem i_X1_ease_55 : fetch 5 55 = some (.lload 4, 57, 0, 0, 0, 0) := by decide +kernel
theorem i_X1_ease_57 : fetch 5 57 = some (.invokestatic 50, 60, 1006, 0, 0, 647) := by decide +kernel
theorem i_X1_ease_60 : fetch 5 60 = some (.invokestatic 56, 63, 1004, 0, 0, 650) := by decide +kernel
theorem i_X1_ease_63 : fetch 5 63 = some (.l2i, 64, 0, 0, 0, 0) := by decide +kernel
theorem i_X1_ease_64 : fetch 5 64 = some (.ireturn, 65, 0, 0, 0, 0) := by decide +kernel
def f_X1_ease_51 (n : Nat) (v4 : Int64) (h : Hp) : Option (Int32 × Hp) :=
  some ((Int64.toInt32 (if (if v4 < 99 then v4 else 99) < 1 then 1 else (if v4 < 99 then v4 else 99))), h)
set_option maxRecDepth 100000 in
set_option maxHeartbeats 4000000 in
theorem r_X1_ease_51 {X : Nat → Int32} {d : Nat} (hd : 3 ≤ (d + 1)) {n : Nat} {v4 : Int64} {d0 : Nat} {d1 : Nat} {d2 : Int32} {d3 : Int32} {h : Hp} {o : (Int32 × Hp)} (hf : f_X1_ease_51 n v4 h = some o) : Run X (d + 1) 5 51 [some (.ref d0), some (.ref d1), some (.int d2), some (.int d3), some (.long v4), none] [] h (some (.int o.1), o.2) := by
  unfold f_X1_ease_51 at hf
  refine rs_lconst i_X1_ease_51 (v := 1) (by decide) ?_
  refine rs_ldc2 i_X1_ease_52 (v := 99) (by decide) ?_
  refine rs_lload i_X1_ease_55 rfl ?_
  refine rs_minl i_X1_ease_57 (Nat.le_of_ble_eq_true rfl) ?_
  refine rs_maxl i_X1_ease_60 (Nat.le_of_ble_eq_true rfl) ?_
  refine rs_l2i i_X1_ease_63 ?_
  have hf := Option.some.inj hf
  subst hf
  exact rs_iret i_X1_ease_64 m_X1_ease rfl
def f_X1_ease_34 (n : Nat) (v0 : Nat) (v4 : Int64) (h : Hp) : Option (Int32 × Hp) :=
  if okO h v0 1 then
  f_X1_ease_51 n (v4 + (((gL' h v0 5) - (gL' h v0 5) / 5 * 5) - 2)) h
  else none
set_option maxRecDepth 100000 in
set_option maxHeartbeats 4000000 in
theorem r_X1_ease_34 {X : Nat → Int32} {d : Nat} (hd : 3 ≤ (d + 1)) {n : Nat} {v0 : Nat} {v4 : Int64} {d1 : Nat} {d2 : Int32} {d3 : Int32} {h : Hp} {o : (Int32 × Hp)} (hf : f_X1_ease_34 n v0 v4 h = some o) : Run X (d + 1) 5 34 [some (.ref v0), some (.ref d1), some (.int d2), some (.int d3), some (.long v4), none] [] h (some (.int o.1), o.2) := by
  unfold f_X1_ease_34 at hf
  refine rs_lload i_X1_ease_34 rfl ?_
  refine rs_aload_n i_X1_ease_36 rfl ?_
  obtain ⟨c1, hf⟩ := ite_some hf
  refine rs_getL i_X1_ease_37 (by decide) (by decide) c1 ?_
  refine rs_ldc2 i_X1_ease_40 (v := 5) (by decide) ?_
  refine rs_lrem i_X1_ease_43 (by decide) ?_
  refine rs_ldc2 i_X1_ease_44 (v := 2) (by decide) ?_
  refine rs_lsub i_X1_ease_47 ?_
  refine rs_ladd i_X1_ease_48 ?_
  refine rs_lstore i_X1_ease_49 (Nat.le_of_ble_eq_true rfl) (lv' := [some (.ref v0), some (.ref d1), some (.int d2), some (.int d3), some (.long (v4 + (((gL' h v0 5) - (gL' h v0 5) / 5 * 5) - 2))), none]) rfl ?_
  exact r_X1_ease_51 hd hf
def f_X1_ease_0 (n : Nat) (v0 : Nat) (v1 : Nat) (v2 : Int32) (v3 : Int32) (h : Hp) : Option (Int32 × Hp) :=
  if okO h v0 1 then
  (f_X1_says n v0 0 v1 v2 v3 h).bind fun o1 =>
  if okO o1.2 v0 1 then
  if (gI o1.2 v0 4) = 0 then
    f_X1_ease_51 n (Int32.toInt64 o1.1) o1.2
  else
    f_X1_ease_34 n v0 (Int32.toInt64 o1.1) (hsl o1.2 v0 5 (((gL' o1.2 v0 5) * 48271) - ((gL' o1.2 v0 5) * 48271) / 2147483647 * 2147483647))
  else none
  else none
set_option maxRecDepth 100000 in
set_option maxHeartbeats 4000000 in
theorem r_X1_ease_0 {X : Nat → Int32} {d : Nat} (hd : 3 ≤ (d + 1)) {n : Nat} {v0 : Nat} {v1 : Nat} {v2 : Int32} {v3 : Int32} {h : Hp} {o : (Int32 × Hp)} (hf : f_X1_ease_0 n v0 v1 v2 v3 h = some o) : Run X (d + 1) 5 0 [some (.ref v0), some (.ref v1), some (.int v2), some (.int v3), none, none] [] h (some (.int o.1), o.2) := by
  unfold f_X1_ease_0 at hf
  refine rs_aload_n i_X1_ease_0 rfl ?_
  refine rs_iconst i_X1_ease_1 (v := 0) (by decide) ?_
  refine rs_aload_n i_X1_ease_2 rfl ?_
  refine rs_iload_n i_X1_ease_3 rfl ?_
  refine rs_iload_n i_X1_ease_4 rfl ?_
  obtain ⟨c2, hf⟩ := ite_some hf
  obtain ⟨o1, e1, hf⟩ := bind_some hf
  refine rs_inV i_X1_ease_5 m_X1_says rfl (As := [.int 0, .ref v1, .int v2, .int v3]) (rest := []) rfl rfl (Nat.le_of_ble_eq_true rfl) c2 (c_X1_says (by omega) e1) (st' := [.int o1.1]) rfl ?_
  refine rs_i2l i_X1_ease_8 ?_
  refine rs_lstore i_X1_ease_9 (Nat.le_of_ble_eq_true rfl) (lv' := [some (.ref v0), some (.ref v1), some (.int v2), some (.int v3), some (.long (Int32.toInt64 o1.1)), none]) rfl ?_
  refine rs_aload_n i_X1_ease_11 rfl ?_
  obtain ⟨c3, hf⟩ := ite_some hf
  refine rs_getI i_X1_ease_12 (by decide) (by decide) c3 ?_
  by_cases c4 : (gI o1.2 v0 4) = 0
  · replace hf := (if_pos c4).symm.trans hf
    refine rs_ifT i_X1_ease_15 (ct_eq c4) (tg := 51) (by decide) ?_
    exact r_X1_ease_51 hd hf
  · replace hf := (if_neg c4).symm.trans hf
    refine rs_ifF i_X1_ease_15 (cf_eq c4) ?_
    refine rs_aload_n i_X1_ease_18 rfl ?_
    refine rs_aload_n i_X1_ease_19 rfl ?_
    refine rs_getL i_X1_ease_20 (by decide) (by decide) c3 ?_
    refine rs_ldc2 i_X1_ease_23 (v := 48271) (by decide) ?_
    refine rs_lmul i_X1_ease_26 ?_
    refine rs_ldc2 i_X1_ease_27 (v := 2147483647) (by decide) ?_
    refine rs_lrem i_X1_ease_30 (by decide) ?_
    refine rs_putL i_X1_ease_31 (by decide) c3 ?_
    exact r_X1_ease_34 hd hf
def f_X1_ease (n : Nat) (v0 : Nat) (v1 : Nat) (v2 : Int32) (v3 : Int32) (h : Hp) : Option (Int32 × Hp) := f_X1_ease_0 n v0 v1 v2 v3 h
theorem c_X1_ease {X : Nat → Int32} {d : Nat} (hd : 3 ≤ d) {n : Nat} {v0 : Nat} {v1 : Nat} {v2 : Int32} {v3 : Int32} {h : Hp} {o : (Int32 × Hp)} (hf : f_X1_ease n v0 v1 v2 v3 h = some o) : Calls X d 5 [.ref v0, .ref v1, .int v2, .int v3] h (some (.int o.1), o.2) := by
  obtain ⟨d, rfl⟩ : ∃ z, d = z + 1 := ⟨d - 1, by omega⟩
  exact ⟨_, rfl, r_X1_ease_0 hd hf⟩
theorem i_X1_tears_0 : fetch 6 0 = some (.iconst 0, 1, 0, 0, 0, 0) := by decide +kernel
theorem i_X1_tears_1 : fetch 6 1 = some (.bipush 100, 3, 0, 0, 0, 0) := by decide +kernel
theorem i_X1_tears_3 : fetch 6 3 = some (.aload_n 0, 4, 0, 0, 0, 0) := by decide +kernel
theorem i_X1_tears_4 : fetch 6 4 = some (.iconst 1, 5, 0, 0, 0, 0) := by decide +kernel
theorem i_X1_tears_5 : fetch 6 5 = some (.aload_n 1, 6, 0, 0, 0, 0) := by decide +kernel
theorem i_X1_tears_6 : fetch 6 6 = some (.iload_n 2, 7, 0, 0, 0, 0) := by decide +kernel
theorem i_X1_tears_7 : fetch 6 7 = some (.iload_n 3, 8, 0, 0, 0, 0) := by decide +kernel
theorem i_X1_tears_8 : fetch 6 8 = some (.invokevirtual 36, 11, 8, 0, 0, 624) := by decide +kernel
theorem i_X1_tears_11 : fetch 6 11 = some (.invokestatic 59, 14, 1005, 0, 0, 667) := by decide +kernel
theorem i_X1_tears_14 : fetch 6 14 = some (.invokestatic 62, 17, 1003, 0, 0, 668) := by decide +kernel
theorem i_X1_tears_17 : fetch 6 17 = some (.ireturn, 18, 0, 0, 0, 0) := by decide +kernel
def f_X1_tears_0 (n : Nat) (v0 : Nat) (v1 : Nat) (v2 : Int32) (v3 : Int32) (h : Hp) : Option (Int32 × Hp) :=
  if okO h v0 1 then
  (f_X1_says n v0 1 v1 v2 v3 h).bind fun o1 =>
  some ((if 0 < (if o1.1 < 100 then o1.1 else 100) then (if o1.1 < 100 then o1.1 else 100) else 0), o1.2)
  else none
set_option maxRecDepth 100000 in
set_option maxHeartbeats 4000000 in
theorem r_X1_tears_0 {X : Nat → Int32} {d : Nat} (hd : 3 ≤ (d + 1)) {n : Nat} {v0 : Nat} {v1 : Nat} {v2 : Int32} {v3 : Int32} {h : Hp} {o : (Int32 × Hp)} (hf : f_X1_tears_0 n v0 v1 v2 v3 h = some o) : Run X (d + 1) 6 0 [some (.ref v0), some (.ref v1), some (.int v2), some (.int v3)] [] h (some (.int o.1), o.2) := by
  unfold f_X1_tears_0 at hf
  refine rs_iconst i_X1_tears_0 (v := 0) (by decide) ?_
  refine rs_bipush i_X1_tears_1 (v := 100) (by decide) ?_
  refine rs_aload_n i_X1_tears_3 rfl ?_
  refine rs_iconst i_X1_tears_4 (v := 1) (by decide) ?_
  refine rs_aload_n i_X1_tears_5 rfl ?_
  refine rs_iload_n i_X1_tears_6 rfl ?_
  refine rs_iload_n i_X1_tears_7 rfl ?_
  obtain ⟨c2, hf⟩ := ite_some hf
  obtain ⟨o1, e1, hf⟩ := bind_some hf
  refine rs_inV i_X1_tears_8 m_X1_says rfl (As := [.int 1, .ref v1, .int v2, .int v3]) (rest := [.int 100, .int 0]) rfl rfl (Nat.le_of_ble_eq_true rfl) c2 (c_X1_says (by omega) e1) (st' := [.int o1.1, .int 100, .int 0]) rfl ?_
  refine rs_min i_X1_tears_11 (Nat.le_of_ble_eq_true rfl) ?_
  refine rs_max i_X1_tears_14 (Nat.le_of_ble_eq_true rfl) ?_
  have hf := Option.some.inj hf
  subst hf
  exact rs_iret i_X1_tears_17 m_X1_tears rfl
def f_X1_tears (n : Nat) (v0 : Nat) (v1 : Nat) (v2 : Int32) (v3 : Int32) (h : Hp) : Option (Int32 × Hp) := f_X1_tears_0 n v0 v1 v2 v3 h
theorem c_X1_tears {X : Nat → Int32} {d : Nat} (hd : 3 ≤ d) {n : Nat} {v0 : Nat} {v1 : Nat} {v2 : Int32} {v3 : Int32} {h : Hp} {o : (Int32 × Hp)} (hf : f_X1_tears n v0 v1 v2 v3 h = some o) : Calls X d 6 [.ref v0, .ref v1, .int v2, .int v3] h (some (.int o.1), o.2) := by
  obtain ⟨d, rfl⟩ : ∃ z, d = z + 1 := ⟨d - 1, by omega⟩
  exact ⟨_, rfl, r_X1_tears_0 hd hf⟩
theorem i_X1_sticks_0 : fetch 7 0 = some (.iconst 0, 1, 0, 0, 0, 0) := by decide +kernel
theorem i_X1_sticks_1 : fetch 7 1 = some (.bipush 100, 3, 0, 0, 0, 0) := by decide +kernel
theorem i_X1_sticks_3 : fetch 7 3 = some (.aload_n 0, 4, 0, 0, 0, 0) := by decide +kernel
theorem i_X1_sticks_4 : fetch 7 4 = some (.iconst 2, 5, 0, 0, 0, 0) := by decide +kernel
theorem i_X1_sticks_5 : fetch 7 5 = some (.aload_n 1, 6, 0, 0, 0, 0) := by decide +kernel
theorem i_X1_sticks_6 : fetch 7 6 = some (.iconst 0, 7, 0, 0, 0, 0) := by decide +kernel
theorem i_X1_sticks_7 : fetch 7 7 = some (.iconst 0, 8, 0, 0, 0, 0) := by decide +kernel
theorem i_X1_sticks_8 : fetch 7 8 = some (.invokevirtual 36, 11, 8, 0, 0, 624) := by decide +kernel
theorem i_X1_sticks_11 : fetch 7 11 = some (.invokestatic 59, 14, 1005, 0, 0, 667) := by decide +kernel
theorem i_X1_sticks_14 : fetch 7 14 = some (.invokestatic 62, 17, 1003, 0, 0, 668) := by decide +kernel
theorem i_X1_sticks_17 : fetch 7 17 = some (.ireturn, 18, 0, 0, 0, 0) := by decide +kernel
def f_X1_sticks_0 (n : Nat) (v0 : Nat) (v1 : Nat) (h : Hp) : Option (Int32 × Hp) :=
  if okO h v0 1 then
  (f_X1_says n v0 2 v1 0 0 h).bind fun o1 =>
  some ((if 0 < (if o1.1 < 100 then o1.1 else 100) then (if o1.1 < 100 then o1.1 else 100) else 0), o1.2)
  else none
set_option maxRecDepth 100000 in
set_option maxHeartbeats 4000000 in
theorem r_X1_sticks_0 {X : Nat → Int32} {d : Nat} (hd : 3 ≤ (d + 1)) {n : Nat} {v0 : Nat} {v1 : Nat} {h : Hp} {o : (Int32 × Hp)} (hf : f_X1_sticks_0 n v0 v1 h = some o) : Run X (d + 1) 7 0 [some (.ref v0), some (.ref v1)] [] h (some (.int o.1), o.2) := by
  unfold f_X1_sticks_0 at hf
  refine rs_iconst i_X1_sticks_0 (v := 0) (by decide) ?_
  refine rs_bipush i_X1_sticks_1 (v := 100) (by decide) ?_
  refine rs_aload_n i_X1_sticks_3 rfl ?_
  refine rs_iconst i_X1_sticks_4 (v := 2) (by decide) ?_
  refine rs_aload_n i_X1_sticks_5 rfl ?_
  refine rs_iconst i_X1_sticks_6 (v := 0) (by decide) ?_
  refine rs_iconst i_X1_sticks_7 (v := 0) (by decide) ?_
  obtain ⟨c2, hf⟩ := ite_some hf
  obtain ⟨o1, e1, hf⟩ := bind_some hf
  refine rs_inV i_X1_sticks_8 m_X1_says rfl (As := [.int 2, .ref v1, .int 0, .int 0]) (rest := [.int 100, .int 0]) rfl rfl (Nat.le_of_ble_eq_true rfl) c2 (c_X1_says (by omega) e1) (st' := [.int o1.1, .int 100, .int 0]) rfl ?_
  refine rs_min i_X1_sticks_11 (Nat.le_of_ble_eq_true rfl) ?_
  refine rs_max i_X1_sticks_14 (Nat.le_of_ble_eq_true rfl) ?_
  have hf := Option.some.inj hf
  subst hf
  exact rs_iret i_X1_sticks_17 m_X1_sticks rfl
def f_X1_sticks (n : Nat) (v0 : Nat) (v1 : Nat) (h : Hp) : Option (Int32 × Hp) := f_X1_sticks_0 n v0 v1 h
theorem c_X1_sticks {X : Nat → Int32} {d : Nat} (hd : 3 ≤ d) {n : Nat} {v0 : Nat} {v1 : Nat} {h : Hp} {o : (Int32 × Hp)} (hf : f_X1_sticks n v0 v1 h = some o) : Calls X d 7 [.ref v0, .ref v1] h (some (.int o.1), o.2) := by
  obtain ⟨d, rfl⟩ : ∃ z, d = z + 1 := ⟨d - 1, by omega⟩
  exact ⟨_, rfl, r_X1_sticks_0 hd hf⟩
theorem i_X2_init_0 : fetch 9 0 = some (.aload_n 0, 1, 0, 0, 0, 0) := by decide +kernel
theorem i_X2_init_1 : fetch 9 1 = some (.invokespecial 3, 4, 1000, 0, 0, 121) := by decide +kernel
theorem i_X2_init_4 : fetch 9 4 = some (.aload_n 0, 5, 0, 0, 0, 0) := by decide +kernel
theorem i_X2_init_5 : fetch 9 5 = some (.sipush 160, 8, 0, 0, 0, 0) := by decide +kernel
theorem i_X2_init_8 : fetch 9 8 = some (.newarray .int, 10, 9, 0, 0, 0) := by decide +kernel
theorem i_X2_init_10 : fetch 9 10 = some (.putfield 9, 13, 2, 0, 0, 122) := by decide +kernel
theorem i_X2_init_13 : fetch 9 13 = some (.aload_n 0, 14, 0, 0, 0, 0) := by decide +kernel
theorem i_X2_init_14 : fetch 9 14 = some (.iconst 0, 15, 0, 0, 0, 0) := by decide +kernel
theorem i_X2_init_15 : fetch 9 15 = some (.putfield 15, 18, 2, 1, 0, 123) := by decide +kernel
theorem i_X2_init_18 : fetch 9 18 = some (.aload_n 0, 19, 0, 0, 0, 0) := by decide +kernel
theorem i_X2_init_19 : fetch 9 19 = some (.iconst 0, 20, 0, 0, 0, 0) := by decide +kernel
theorem i_X2_init_20 : fetch 9 20 = some (.putfield 19, 23, 2, 2, 0, 125) := by decide +kernel
theorem i_X2_init_23 : fetch 9 23 = some (.aload_n 0, 24, 0, 0, 0, 0) := by decide +kernel
theorem i_X2_init_24 : fetch 9 24 = some (.iconst 0, 25, 0, 0, 0, 0) := by decide +kernel
theorem i_X2_init_25 : fetch 9 25 = some (.putfield 22, 28, 2, 3, 0, 126) := by decide +kernel
theorem i_X2_init_28 : fetch 9 28 = some (.aload_n 0, 29, 0, 0, 0, 0) := by decide +kernel
theorem i_X2_init_29 : fetch 9 29 = some (.iconst 0, 30, 0, 0, 0, 0) := by decide +kernel
theorem i_X2_init_30 : fetch 9 30 = some (.putfield 25, 33, 2, 4, 0, 127) := by decide +kernel
theorem i_X2_init_33 : fetch 9 33 = some (.aload_n 0, 34, 0, 0, 0, 0) := by decide +kernel
theorem i_X2_init_34 : fetch 9 34 = some (.iconst 0, 35, 0, 0, 0, 0) := by decide +kernel
theorem i_X2_init_35 : fetch 9 35 = some (.putfield 28, 38, 2, 5, 0, 128) := by decide +kernel
theorem i_X2_init_38 : fetch 9 38 = some (.return_, 39, 0, 0, 0, 0) := by decide +kernel
def f_X2_init_33 (v0 : Nat) (h : Hp) : Option Hp :=
  if okO h v0 2 then
  some (hsi h v0 5 0)
  else none
set_option maxRecDepth 100000 in
set_option maxHeartbeats 4000000 in
theorem r_X2_init_33 {X : Nat → Int32} {d : Nat} (hd : 0 ≤ d) {v0 : Nat} {h : Hp} {o : Hp} (hf : f_X2_init_33 v0 h = some o) : Run X d 9 33 [some (.ref v0)] [] h (none, o) := by
  unfold f_X2_init_33 at hf
  refine rs_aload_n i_X2_init_33 rfl ?_
  refine rs_iconst i_X2_init_34 (v := 0) (by decide) ?_
  obtain ⟨c1, hf⟩ := ite_some hf
  refine rs_putI i_X2_init_35 (by decide) c1 ?_
  have hf := Option.some.inj hf
  subst hf
  exact rs_vret i_X2_init_38 m_X2_init rfl
def f_X2_init_28 (v0 : Nat) (h : Hp) : Option Hp :=
  if okO h v0 2 then
  f_X2_init_33 v0 (hsi h v0 4 0)
  else none
set_option maxRecDepth 100000 in
set_option maxHeartbeats 4000000 in
theorem r_X2_init_28 {X : Nat → Int32} {d : Nat} (hd : 0 ≤ d) {v0 : Nat} {h : Hp} {o : Hp} (hf : f_X2_init_28 v0 h = some o) : Run X d 9 28 [some (.ref v0)] [] h (none, o) := by
  unfold f_X2_init_28 at hf
  refine rs_aload_n i_X2_init_28 rfl ?_
  refine rs_iconst i_X2_init_29 (v := 0) (by decide) ?_
  obtain ⟨c1, hf⟩ := ite_some hf
  refine rs_putI i_X2_init_30 (by decide) c1 ?_
  exact r_X2_init_33 hd hf
def f_X2_init_23 (v0 : Nat) (h : Hp) : Option Hp :=
  if okO h v0 2 then
  f_X2_init_28 v0 (hsi h v0 3 0)
  else none
set_option maxRecDepth 100000 in
set_option maxHeartbeats 4000000 in
theorem r_X2_init_23 {X : Nat → Int32} {d : Nat} (hd : 0 ≤ d) {v0 : Nat} {h : Hp} {o : Hp} (hf : f_X2_init_23 v0 h = some o) : Run X d 9 23 [some (.ref v0)] [] h (none, o) := by
  unfold f_X2_init_23 at hf
  refine rs_aload_n i_X2_init_23 rfl ?_
  refine rs_iconst i_X2_init_24 (v := 0) (by decide) ?_
  obtain ⟨c1, hf⟩ := ite_some hf
  refine rs_putI i_X2_init_25 (by decide) c1 ?_
  exact r_X2_init_28 hd hf
def f_X2_init_18 (v0 : Nat) (h : Hp) : Option Hp :=
  if okO h v0 2 then
  f_X2_init_23 v0 (hsi h v0 2 0)
  else none
set_option maxRecDepth 100000 in
set_option maxHeartbeats 4000000 in
theorem r_X2_init_18 {X : Nat → Int32} {d : Nat} (hd : 0 ≤ d) {v0 : Nat} {h : Hp} {o : Hp} (hf : f_X2_init_18 v0 h = some o) : Run X d 9 18 [some (.ref v0)] [] h (none, o) := by
  unfold f_X2_init_18 at hf
  refine rs_aload_n i_X2_init_18 rfl ?_
  refine rs_iconst i_X2_init_19 (v := 0) (by decide) ?_
  obtain ⟨c1, hf⟩ := ite_some hf
  refine rs_putI i_X2_init_20 (by decide) c1 ?_
  exact r_X2_init_23 hd hf
def f_X2_init_13 (v0 : Nat) (h : Hp) : Option Hp :=
  if okO h v0 2 then
  f_X2_init_18 v0 (hsi h v0 1 0)
  else none
set_option maxRecDepth 100000 in
set_option maxHeartbeats 4000000 in
theorem r_X2_init_13 {X : Nat → Int32} {d : Nat} (hd : 0 ≤ d) {v0 : Nat} {h : Hp} {o : Hp} (hf : f_X2_init_13 v0 h = some o) : Run X d 9 13 [some (.ref v0)] [] h (none, o) := by
  unfold f_X2_init_13 at hf
  refine rs_aload_n i_X2_init_13 rfl ?_
  refine rs_iconst i_X2_init_14 (v := 0) (by decide) ?_
  obtain ⟨c1, hf⟩ := ite_some hf
  refine rs_putI i_X2_init_15 (by decide) c1 ?_
  exact r_X2_init_18 hd hf
def f_X2_init_10 (v0 : Nat) (s0 : Nat) (s1 : Nat) (h : Hp) : Option Hp :=
  if okO h s0 2 then
  if 16 ≤ s1 then
  f_X2_init_13 v0 (hsr h s0 0 (some s1))
  else none
  else none
set_option maxRecDepth 100000 in
set_option maxHeartbeats 4000000 in
theorem r_X2_init_10 {X : Nat → Int32} {d : Nat} (hd : 0 ≤ d) {v0 : Nat} {s0 : Nat} {s1 : Nat} {h : Hp} {o : Hp} (hf : f_X2_init_10 v0 s0 s1 h = some o) : Run X d 9 10 [some (.ref v0)] [.ref s1, .ref s0] h (none, o) := by
  unfold f_X2_init_10 at hf
  obtain ⟨c1, hf⟩ := ite_some hf
  obtain ⟨c2, hf⟩ := ite_some hf
  refine rs_putR i_X2_init_10 (by decide) c2 c1 ?_
  exact r_X2_init_13 hd hf
def f_X2_init_0 (v0 : Nat) (h : Hp) : Option Hp :=
  f_X2_init_10 v0 v0 h.1.length (hnew h (9, ix 160))
set_option maxRecDepth 100000 in
set_option maxHeartbeats 4000000 in
theorem r_X2_init_0 {X : Nat → Int32} {d : Nat} (hd : 0 ≤ d) {v0 : Nat} {h : Hp} {o : Hp} (hf : f_X2_init_0 v0 h = some o) : Run X d 9 0 [some (.ref v0)] [] h (none, o) := by
  unfold f_X2_init_0 at hf
  refine rs_aload_n i_X2_init_0 rfl ?_
  refine rs_objI i_X2_init_1 (Nat.le_of_ble_eq_true rfl) ?_
  refine rs_aload_n i_X2_init_4 rfl ?_
  refine rs_sipush i_X2_init_5 (v := 160) (by decide) ?_
  refine rs_newa i_X2_init_8 (by decide) ?_
  exact r_X2_init_10 hd hf
def f_X2_init (v0 : Nat) (h : Hp) : Option Hp := f_X2_init_0 v0 h
theorem c_X2_init {X : Nat → Int32} {d : Nat} (hd : 0 ≤ d) {v0 : Nat} {h : Hp} {o : Hp} (hf : f_X2_init v0 h = some o) : Calls X d 9 [.ref v0] h (none, o) := by
  exact ⟨_, rfl, r_X2_init_0 hd hf⟩
theorem i_X2_add_0 : fetch 10 0 = some (.aload_n 0, 1, 0, 0, 0, 0) := by decide +kernel
theorem i_X2_add_1 : fetch 10 1 = some (.getfield 15, 4, 2, 1, 0, 123) := by decide +kernel
theorem i_X2_add_4 : fetch 10 4 = some (.sipush 160, 7, 0, 0, 0, 0) := by decide +kernel
theorem i_X2_add_7 : fetch 10 7 = some (.if_icmp .ge 23, 10, 0, 0, 0, 0) := by decide +kernel
theorem i_X2_add_10 : fetch 10 10 = some (.aload_n 0, 11, 0, 0, 0, 0) := by decide +kernel
theorem i_X2_add_11 : fetch 10 11 = some (.getfield 9, 14, 2, 0, 0, 122) := by decide +kernel
theorem i_X2_add_14 : fetch 10 14 = some (.aload_n 0, 15, 0, 0, 0, 0) := by decide +kernel
theorem i_X2_add_15 : fetch 10 15 = some (.getfield 15, 18, 2, 1, 0, 123) := by decide +kernel
theorem i_X2_add_18 : fetch 10 18 = some (.iload_n 1, 19, 0, 0, 0, 0) := by decide +kernel
theorem i_X2_add_19 : fetch 10 19 = some (.iastore, 20, 0, 0, 0, 0) := by decide +kernel
theorem i_X2_add_20 : fetch 10 20 = some (.aload_n 0, 21, 0, 0, 0, 0) := by decide +kernel
theorem i_X2_add_21 : fetch 10 21 = some (.dup, 22, 0, 0, 0, 0) := by decide +kernel
theorem i_X2_add_22 : fetch 10 22 = some (.getfield 15, 25, 2, 1, 0, 123) := by decide +kernel
theorem i_X2_add_25 : fetch 10 25 = some (.iconst 1, 26, 0, 0, 0, 0) := by decide +kernel
theorem i_X2_add_26 : fetch 10 26 = some (.iadd, 27, 0, 0, 0, 0) := by decide +kernel
theorem i_X2_add_27 : fetch 10 27 = some (.putfield 15, 30, 2, 1, 0, 123) := by decide +kernel
theorem i_X2_add_30 : fetch 10 30 = some (.return_, 31, 0, 0, 0, 0) := by decide +kernel
def f_X2_add_20 (v0 : Nat) (h : Hp) : Option Hp :=
  if okO h v0 2 then
  some (hsi h v0 1 ((gI h v0 1) + 1))
  else none
set_option maxRecDepth 100000 in
set_option maxHeartbeats 4000000 in
theorem r_X2_add_20 {X : Nat → Int32} {d : Nat} (hd : 0 ≤ d) {v0 : Nat} {d1 : Int32} {h : Hp} {o : Hp} (hf : f_X2_add_20 v0 h = some o) : Run X d 10 20 [some (.ref v0), some (.int d1)] [] h (none, o) := by
  unfold f_X2_add_20 at hf
  refine rs_aload_n i_X2_add_20 rfl ?_
  refine rs_dup i_X2_add_21 rfl ?_
  obtain ⟨c1, hf⟩ := ite_some hf
  refine rs_getI i_X2_add_22 (by decide) (by decide) c1 ?_
  refine rs_iconst i_X2_add_25 (v := 1) (by decide) ?_
  refine rs_iadd i_X2_add_26 ?_
  refine rs_putI i_X2_add_27 (by decide) c1 ?_
  have hf := Option.some.inj hf
  subst hf
  exact rs_vret i_X2_add_30 m_X2_add rfl
def f_X2_add_0 (v0 : Nat) (v1 : Int32) (h : Hp) : Option Hp :=
  if okO h v0 2 then
  if 160 ≤ (gI h v0 1) then
    some h
  else
    (gR h v0 0).bind fun a3 =>
    if okI h a3 (gI h v0 1) then
    f_X2_add_20 v0 (hsi h a3 (ix (gI h v0 1)) v1)
    else none
  else none
set_option maxRecDepth 100000 in
set_option maxHeartbeats 4000000 in
theorem r_X2_add_0 {X : Nat → Int32} {d : Nat} (hd : 0 ≤ d) {v0 : Nat} {v1 : Int32} {h : Hp} {o : Hp} (hf : f_X2_add_0 v0 v1 h = some o) : Run X d 10 0 [some (.ref v0), some (.int v1)] [] h (none, o) := by
  unfold f_X2_add_0 at hf
  refine rs_aload_n i_X2_add_0 rfl ?_
  obtain ⟨c1, hf⟩ := ite_some hf
  refine rs_getI i_X2_add_1 (by decide) (by decide) c1 ?_
  refine rs_sipush i_X2_add_4 (v := 160) (by decide) ?_
  by_cases c2 : 160 ≤ (gI h v0 1)
  · replace hf := (if_pos c2).symm.trans hf
    refine rs_icT i_X2_add_7 (ct_ge c2) (tg := 30) (by decide) ?_
    have hf := Option.some.inj hf
    subst hf
    exact rs_vret i_X2_add_30 m_X2_add rfl
  · replace hf := (if_neg c2).symm.trans hf
    refine rs_icF i_X2_add_7 (cf_ge c2) ?_
    refine rs_aload_n i_X2_add_10 rfl ?_
    obtain ⟨a3, e3, hf⟩ := bind_some hf
    refine rs_getR i_X2_add_11 (by decide) (by decide) c1 e3 ?_
    refine rs_aload_n i_X2_add_14 rfl ?_
    refine rs_getI i_X2_add_15 (by decide) (by decide) c1 ?_
    refine rs_iload_n i_X2_add_18 rfl ?_
    obtain ⟨c4, hf⟩ := ite_some hf
    refine rs_iast i_X2_add_19 c4 ?_
    exact r_X2_add_20 hd hf
def f_X2_add (v0 : Nat) (v1 : Int32) (h : Hp) : Option Hp := f_X2_add_0 v0 v1 h
theorem c_X2_add {X : Nat → Int32} {d : Nat} (hd : 0 ≤ d) {v0 : Nat} {v1 : Int32} {h : Hp} {o : Hp} (hf : f_X2_add v0 v1 h = some o) : Calls X d 10 [.ref v0, .int v1] h (none, o) := by
  exact ⟨_, rfl, r_X2_add_0 hd hf⟩
theorem i_X2_empty_0 : fetch 11 0 = some (.aload_n 0, 1, 0, 0, 0, 0) := by decide +kernel
theorem i_X2_empty_1 : fetch 11 1 = some (.iconst 0, 2, 0, 0, 0, 0) := by decide +kernel
theorem i_X2_empty_2 : fetch 11 2 = some (.putfield 15, 5, 2, 1, 0, 123) := by decide +kernel
theorem i_X2_empty_5 : fetch 11 5 = some (.return_, 6, 0, 0, 0, 0) := by decide +kernel
def f_X2_empty_0 (v0 : Nat) (h : Hp) : Option Hp :=
  if okO h v0 2 then
  some (hsi h v0 1 0)
  else none
set_option maxRecDepth 100000 in
set_option maxHeartbeats 4000000 in
theorem r_X2_empty_0 {X : Nat → Int32} {d : Nat} (hd : 0 ≤ d) {v0 : Nat} {h : Hp} {o : Hp} (hf : f_X2_empty_0 v0 h = some o) : Run X d 11 0 [some (.ref v0)] [] h (none, o) := by
  unfold f_X2_empty_0 at hf
  refine rs_aload_n i_X2_empty_0 rfl ?_
  refine rs_iconst i_X2_empty_1 (v := 0) (by decide) ?_
  obtain ⟨c1, hf⟩ := ite_some hf
  refine rs_putI i_X2_empty_2 (by decide) c1 ?_
  have hf := Option.some.inj hf
  subst hf
  exact rs_vret i_X2_empty_5 m_X2_empty rfl
def f_X2_empty (v0 : Nat) (h : Hp) : Option Hp := f_X2_empty_0 v0 h
theorem c_X2_empty {X : Nat → Int32} {d : Nat} (hd : 0 ≤ d) {v0 : Nat} {h : Hp} {o : Hp} (hf : f_X2_empty v0 h = some o) : Calls X d 11 [.ref v0] h (none, o) := by
  exact ⟨_, rfl, r_X2_empty_0 hd hf⟩
theorem i_J0_isLatin1_aae02_0 : fetch 224 0 = some (.getstatic 38, 3, 1, 0, 0, 295) := by decide +kernel
theorem i_J0_isLatin1_aae02_3 : fetch 224 3 = some (.ifCond .eq 14, 6, 0, 0, 0, 0) := by decide +kernel
theorem i_J0_isLatin1_aae02_6 : fetch 224 6 = some (.aload_n 0, 7, 0, 0, 0, 0) := by decide +kernel
theorem i_J0_isLatin1_aae02_7 : fetch 224 7 = some (.getfield 15, 10, 20, 1, 0, 1504) := by decide +kernel
theorem i_J0_isLatin1_aae02_10 : fetch 224 10 = some (.ifCond .ne 7, 13, 0, 0, 0, 0) := by decide +kernel
theorem i_J0_isLatin1_aae02_13 : fetch 224 13 = some (.iconst 1, 14, 0, 0, 0, 0) := by decide +kernel
theorem i_J0_isLatin1_aae02_14 : fetch 224 14 = some (.goto 4, 17, 0, 0, 0, 0) := by decide +kernel
theorem i_J0_isLatin1_aae02_17 : fetch 224 17 = some (.iconst 0, 18, 0, 0, 0, 0) := by decide +kernel
theorem i_J0_isLatin1_aae02_18 : fetch 224 18 = some (.ireturn, 19, 0, 0, 0, 0) := by decide +kernel
def f_J0_isLatin1_aae02_0 (v0 : Nat) (h : Hp) : Option (Int32 × Hp) :=
  if hk h v0 = (20, 2) then
  some (1, h)
  else none
set_option maxRecDepth 100000 in
set_option maxHeartbeats 4000000 in
theorem r_J0_isLatin1_aae02_0 {X : Nat → Int32} {d : Nat} (hd : 0 ≤ d) {v0 : Nat} {h : Hp} {o : (Int32 × Hp)} (hf : f_J0_isLatin1_aae02_0 v0 h = some o) : Run X d 224 0 [some (.ref v0)] [] h (some (.int o.1), o.2) := by
  unfold f_J0_isLatin1_aae02_0 at hf
  refine rs_gst1 i_J0_isLatin1_aae02_0 rfl ?_
  refine rs_ifF i_J0_isLatin1_aae02_3 (by decide) ?_
  refine rs_aload_n i_J0_isLatin1_aae02_6 rfl ?_
  obtain ⟨c1, hf⟩ := ite_some hf
  refine rs_getSc i_J0_isLatin1_aae02_7 c1 ?_
  refine rs_ifF i_J0_isLatin1_aae02_10 (by decide) ?_
  refine rs_iconst i_J0_isLatin1_aae02_13 (v := 1) (by decide) ?_
  refine rs_goto i_J0_isLatin1_aae02_14 (tg := 18) (by decide) ?_
  have hf := Option.some.inj hf
  subst hf
  exact rs_iret i_J0_isLatin1_aae02_18 m_J0_isLatin1_aae02 (by decide)
def f_J0_isLatin1_aae02 (v0 : Nat) (h : Hp) : Option (Int32 × Hp) := f_J0_isLatin1_aae02_0 v0 h
theorem c_J0_isLatin1_aae02 {X : Nat → Int32} {d : Nat} (hd : 0 ≤ d) {v0 : Nat} {h : Hp} {o : (Int32 × Hp)} (hf : f_J0_isLatin1_aae02 v0 h = some o) : Calls X d 224 [.ref v0] h (some (.int o.1), o.2) := by
  exact ⟨_, rfl, r_J0_isLatin1_aae02_0 hd hf⟩
theorem i_J0_coder_7d493_0 : fetch 223 0 = some (.getstatic 38, 3, 1, 0, 0, 295) := by decide +kernel
theorem i_J0_coder_7d493_3 : fetch 223 3 = some (.ifCond .eq 10, 6, 0, 0, 0, 0) := by decide +kernel
theorem i_J0_coder_7d493_6 : fetch 223 6 = some (.aload_n 0, 7, 0, 0, 0, 0) := by decide +kernel
theorem i_J0_coder_7d493_7 : fetch 223 7 = some (.getfield 15, 10, 20, 1, 0, 1504) := by decide +kernel
theorem i_J0_coder_7d493_10 : fetch 223 10 = some (.goto 4, 13, 0, 0, 0, 0) := by decide +kernel
theorem i_J0_coder_7d493_13 : fetch 223 13 = some (.iconst 1, 14, 0, 0, 0, 0) := by decide +kernel
theorem i_J0_coder_7d493_14 : fetch 223 14 = some (.ireturn, 15, 0, 0, 0, 0) := by decide +kernel
def f_J0_coder_7d493_0 (v0 : Nat) (h : Hp) : Option (Int32 × Hp) :=
  if hk h v0 = (20, 2) then
  some (0, h)
  else none
set_option maxRecDepth 100000 in
set_option maxHeartbeats 4000000 in
theorem r_J0_coder_7d493_0 {X : Nat → Int32} {d : Nat} (hd : 0 ≤ d) {v0 : Nat} {h : Hp} {o : (Int32 × Hp)} (hf : f_J0_coder_7d493_0 v0 h = some o) : Run X d 223 0 [some (.ref v0)] [] h (some (.int o.1), o.2) := by
  unfold f_J0_coder_7d493_0 at hf
  refine rs_gst1 i_J0_coder_7d493_0 rfl ?_
  refine rs_ifF i_J0_coder_7d493_3 (by decide) ?_
  refine rs_aload_n i_J0_coder_7d493_6 rfl ?_
  obtain ⟨c1, hf⟩ := ite_some hf
  refine rs_getSc i_J0_coder_7d493_7 c1 ?_
  refine rs_goto i_J0_coder_7d493_10 (tg := 14) (by decide) ?_
  have hf := Option.some.inj hf
  subst hf
  exact rs_iret i_J0_coder_7d493_14 m_J0_coder_7d493 (by decide)
def f_J0_coder_7d493 (v0 : Nat) (h : Hp) : Option (Int32 × Hp) := f_J0_coder_7d493_0 v0 h
theorem c_J0_coder_7d493 {X : Nat → Int32} {d : Nat} (hd : 0 ≤ d) {v0 : Nat} {h : Hp} {o : (Int32 × Hp)} (hf : f_J0_coder_7d493 v0 h = some o) : Calls X d 223 [.ref v0] h (some (.int o.1), o.2) := by
  exact ⟨_, rfl, r_J0_coder_7d493_0 hd hf⟩
theorem i_J0_length_8abf5_0 : fetch 219 0 = some (.aload_n 0, 1, 0, 0, 0, 0) := by decide +kernel
theorem i_J0_length_8abf5_1 : fetch 219 1 = some (.getfield 9, 4, 20, 0, 0, 1503) := by decide +kernel
theorem i_J0_length_8abf5_4 : fetch 219 4 = some (.arraylength, 5, 0, 0, 0, 0) := by decide +kernel
theorem i_J0_length_8abf5_5 : fetch 219 5 = some (.aload_n 0, 6, 0, 0, 0, 0) := by decide +kernel
theorem i_J0_length_8abf5_6 : fetch 219 6 = some (.invokevirtual 335, 9, 223, 0, 0, 291) := by decide +kernel
theorem i_J0_length_8abf5_9 : fetch 219 9 = some (.ishr, 10, 0, 0, 0, 0) := by decide +kernel
theorem i_J0_length_8abf5_10 : fetch 219 10 = some (.ireturn, 11, 0, 0, 0, 0) := by decide +kernel
def f_J0_length_8abf5_0 (v0 : Nat) (h : Hp) : Option (Int32 × Hp) :=
  if hk h v0 = (20, 2) then
  if (hk h (v0 + 3)).1 = 21 then
  (f_J0_coder_7d493 v0 h).bind fun o3 =>
  some (((Int32.ofNat (hk h (v0 + 3)).2) >>> (o3.1 &&& 31)), o3.2)
  else none
  else none
set_option maxRecDepth 100000 in
set_option maxHeartbeats 4000000 in
theorem r_J0_length_8abf5_0 {X : Nat → Int32} {d : Nat} (hd : 1 ≤ (d + 1)) {v0 : Nat} {h : Hp} {o : (Int32 × Hp)} (hf : f_J0_length_8abf5_0 v0 h = some o) : Run X (d + 1) 219 0 [some (.ref v0)] [] h (some (.int o.1), o.2) := by
  unfold f_J0_length_8abf5_0 at hf
  refine rs_aload_n i_J0_length_8abf5_0 rfl ?_
  obtain ⟨c1, hf⟩ := ite_some hf
  refine rs_getSv i_J0_length_8abf5_1 c1 ?_
  obtain ⟨c2, hf⟩ := ite_some hf
  refine rs_alB i_J0_length_8abf5_4 c2 ?_
  refine rs_aload_n i_J0_length_8abf5_5 rfl ?_
  obtain ⟨o3, e3, hf⟩ := bind_some hf
  refine rs_inV i_J0_length_8abf5_6 m_J0_coder_7d493 rfl (As := []) (rest := [.int (Int32.ofNat (hk h (v0 + 3)).2)]) rfl rfl (Nat.le_of_ble_eq_true rfl) c1 (c_J0_coder_7d493 (by omega) e3) (st' := [.int o3.1, .int (Int32.ofNat (hk h (v0 + 3)).2)]) rfl ?_
  refine rs_ishr i_J0_length_8abf5_9 ?_
  have hf := Option.some.inj hf
  subst hf
  exact rs_iret i_J0_length_8abf5_10 m_J0_length_8abf5 rfl
def f_J0_length_8abf5 (v0 : Nat) (h : Hp) : Option (Int32 × Hp) := f_J0_length_8abf5_0 v0 h
theorem c_J0_length_8abf5 {X : Nat → Int32} {d : Nat} (hd : 1 ≤ d) {v0 : Nat} {h : Hp} {o : (Int32 × Hp)} (hf : f_J0_length_8abf5 v0 h = some o) : Calls X d 219 [.ref v0] h (some (.int o.1), o.2) := by
  obtain ⟨d, rfl⟩ : ∃ z, d = z + 1 := ⟨d - 1, by omega⟩
  exact ⟨_, rfl, r_J0_length_8abf5_0 hd hf⟩
theorem i_J1_canEncode_9a6ad_0 : fetch 227 0 = some (.iload_n 0, 1, 0, 0, 0, 0) := by decide +kernel
theorem i_J1_canEncode_9a6ad_1 : fetch 227 1 = some (.ifCond .lt 14, 4, 0, 0, 0, 0) := by decide +kernel
theorem i_J1_canEncode_9a6ad_4 : fetch 227 4 = some (.iload_n 0, 5, 0, 0, 0, 0) := by decide +kernel
theorem i_J1_canEncode_9a6ad_5 : fetch 227 5 = some (.sipush 255, 8, 0, 0, 0, 0) := by decide +kernel
theorem i_J1_canEncode_9a6ad_8 : fetch 227 8 = some (.if_icmp .gt 7, 11, 0, 0, 0, 0) := by decide +kernel
theorem i_J1_canEncode_9a6ad_11 : fetch 227 11 = some (.iconst 1, 12, 0, 0, 0, 0) := by decide +kernel
theorem i_J1_canEncode_9a6ad_12 : fetch 227 12 = some (.goto 4, 15, 0, 0, 0, 0) := by decide +kernel
theorem i_J1_canEncode_9a6ad_15 : fetch 227 15 = some (.iconst 0, 16, 0, 0, 0, 0) := by decide +kernel
theorem i_J1_canEncode_9a6ad_16 : fetch 227 16 = some (.ireturn, 17, 0, 0, 0, 0) := by decide +kernel
def f_J1_canEncode_9a6ad_0 (v0 : Int32) (h : Hp) : Option (Int32 × Hp) :=
  if v0 < 0 then
    some (0, h)
  else
    if 255 < v0 then
      some (0, h)
    else
      some (1, h)
set_option maxRecDepth 100000 in
set_option maxHeartbeats 4000000 in
theorem r_J1_canEncode_9a6ad_0 {X : Nat → Int32} {d : Nat} (hd : 0 ≤ d) {v0 : Int32} {h : Hp} {o : (Int32 × Hp)} (hf : f_J1_canEncode_9a6ad_0 v0 h = some o) : Run X d 227 0 [some (.int v0)] [] h (some (.int o.1), o.2) := by
  unfold f_J1_canEncode_9a6ad_0 at hf
  refine rs_iload_n i_J1_canEncode_9a6ad_0 rfl ?_
  by_cases c1 : v0 < 0
  · replace hf := (if_pos c1).symm.trans hf
    refine rs_ifT i_J1_canEncode_9a6ad_1 (ct_lt c1) (tg := 15) (by decide) ?_
    refine rs_iconst i_J1_canEncode_9a6ad_15 (v := 0) (by decide) ?_
    have hf := Option.some.inj hf
    subst hf
    exact rs_iret i_J1_canEncode_9a6ad_16 m_J1_canEncode_9a6ad (by decide)
  · replace hf := (if_neg c1).symm.trans hf
    refine rs_ifF i_J1_canEncode_9a6ad_1 (cf_lt c1) ?_
    refine rs_iload_n i_J1_canEncode_9a6ad_4 rfl ?_
    refine rs_sipush i_J1_canEncode_9a6ad_5 (v := 255) (by decide) ?_
    by_cases c2 : 255 < v0
    · replace hf := (if_pos c2).symm.trans hf
      refine rs_icT i_J1_canEncode_9a6ad_8 (ct_gt c2) (tg := 15) (by decide) ?_
      refine rs_iconst i_J1_canEncode_9a6ad_15 (v := 0) (by decide) ?_
      have hf := Option.some.inj hf
      subst hf
      exact rs_iret i_J1_canEncode_9a6ad_16 m_J1_canEncode_9a6ad (by decide)
    · replace hf := (if_neg c2).symm.trans hf
      refine rs_icF i_J1_canEncode_9a6ad_8 (cf_gt c2) ?_
      refine rs_iconst i_J1_canEncode_9a6ad_11 (v := 1) (by decide) ?_
      refine rs_goto i_J1_canEncode_9a6ad_12 (tg := 16) (by decide) ?_
      have hf := Option.some.inj hf
      subst hf
      exact rs_iret i_J1_canEncode_9a6ad_16 m_J1_canEncode_9a6ad (by decide)
def f_J1_canEncode_9a6ad (v0 : Int32) (h : Hp) : Option (Int32 × Hp) := f_J1_canEncode_9a6ad_0 v0 h
theorem c_J1_canEncode_9a6ad {X : Nat → Int32} {d : Nat} (hd : 0 ≤ d) {v0 : Int32} {h : Hp} {o : (Int32 × Hp)} (hf : f_J1_canEncode_9a6ad v0 h = some o) : Calls X d 227 [.int v0] h (some (.int o.1), o.2) := by
  exact ⟨_, rfl, r_J1_canEncode_9a6ad_0 hd hf⟩
theorem i_J1_indexOfChar_4cfef_0 : fetch 229 0 = some (.iload_n 1, 1, 0, 0, 0, 0) := by decide +kernel
theorem i_J1_indexOfChar_4cfef_1 : fetch 229 1 = some (.i2b, 2, 0, 0, 0, 0) := by decide +kernel
theorem i_J1_indexOfChar_4cfef_2 : fetch 229 2 = some (.istore 4, 4, 0, 0, 0, 0) := by decide +kernel
theorem i_J1_indexOfChar_4cfef_4 : fetch 229 4 = some (.iload_n 2, 5, 0, 0, 0, 0) := by decide +kernel
theorem i_J1_indexOfChar_4cfef_5 : fetch 229 5 = some (.istore 5, 7, 0, 0, 0, 0) := by decide +kernel
theorem i_J1_indexOfChar_4cfef_7 : fetch 229 7 = some (.iload 5, 9, 0, 0, 0, 0) := by decide +kernel
theorem i_J1_indexOfChar_4cfef_9 : fetch 229 9 = some (.iload_n 3, 10, 0, 0, 0, 0) := by decide +kernel
theorem i_J1_indexOfChar_4cfef_10 : fetch 229 10 = some (.if_icmp .ge 21, 13, 0, 0, 0, 0) := by decide +kernel
theorem i_J1_indexOfChar_4cfef_13 : fetch 229 13 = some (.aload_n 0, 14, 0, 0, 0, 0) := by decide +kernel
theorem i_J1_indexOfChar_4cfef_14 : fetch 229 14 = some (.iload 5, 16, 0, 0, 0, 0) := by decide +kernel
theorem i_J1_indexOfChar_4cfef_16 : fetch 229 16 = some (.baload, 17, 0, 0, 0, 0) := by decide +kernel
theorem i_J1_indexOfChar_4cfef_17 : fetch 229 17 = some (.iload 4, 19, 0, 0, 0, 0) := by decide +kernel
theorem i_J1_indexOfChar_4cfef_19 : fetch 229 19 = some (.if_icmp .ne 6, 22, 0, 0, 0, 0) := by decide +kernel
theorem i_J1_indexOfChar_4cfef_22 : fetch 229 22 = some (.iload 5, 24, 0, 0, 0, 0) := by decide +kernel
theorem i_J1_indexOfChar_4cfef_24 : fetch 229 24 = some (.ireturn, 25, 0, 0, 0, 0) := by decide +kernel
theorem i_J1_indexOfChar_4cfef_25 : fetch 229 25 = some (.iinc 5 1, 28, 0, 0, 0, 0) := by decide +kernel
theorem i_J1_indexOfChar_4cfef_28 : fetch 229 28 = some (.goto (-21), 31, 0, 0, 0, 0) := by decide +kernel
theorem i_J1_indexOfChar_4cfef_31 : fetch 229 31 = some (.iconst (-1), 32, 0, 0, 0, 0) := by decide +kernel
theorem i_J1_indexOfChar_4cfef_32 : fetch 229 32 = some (.ireturn, 33, 0, 0, 0, 0) := by decide +kernel
def f_J1_indexOfChar_4cfef_7 (n : Nat) : Nat → Nat → Int32 → Int32 → Int32 → Hp → Option (Int32 × Hp)
  | 0, _, _, _, _, _ => none
  | m + 1, v0, v3, v4, v5, h =>
    if v3 ≤ v5 then
      some ((-1), h)
    else
      if okB h v0 v5 then
      if ¬ v0 = 14 then
      if (roC v0 (ix v5)) ≠ v4 then
        (f_J1_indexOfChar_4cfef_7 n m) v0 v3 v4 (v5 + 1) h
      else
        some (v5, h)
      else none
      else none
set_option maxRecDepth 100000 in
set_option maxHeartbeats 4000000 in
theorem r_J1_indexOfChar_4cfef_7 {X : Nat → Int32} {d : Nat} (hd : 0 ≤ d) {n : Nat} : ∀ (m : Nat) (v0 : Nat) (v3 : Int32) (v4 : Int32) (v5 : Int32) (d1 : Int32) (d2 : Int32) (h : Hp) (o : (Int32 × Hp)), f_J1_indexOfChar_4cfef_7 n m v0 v3 v4 v5 h = some o → Run X d 229 7 [some (.ref v0), some (.int d1), some (.int d2), some (.int v3), some (.int v4), some (.int v5)] [] h (some (.int o.1), o.2) := by
  intro m
  induction m with
  | zero => intro v0 v3 v4 v5 d1 d2 h o hf; cases hf
  | succ m ih =>
    intro v0 v3 v4 v5 d1 d2 h o hf
    rw [f_J1_indexOfChar_4cfef_7] at hf
    refine rs_iload i_J1_indexOfChar_4cfef_7 rfl ?_
    refine rs_iload_n i_J1_indexOfChar_4cfef_9 rfl ?_
    by_cases c1 : v3 ≤ v5
    · replace hf := (if_pos c1).symm.trans hf
      refine rs_icT i_J1_indexOfChar_4cfef_10 (ct_ge c1) (tg := 31) (by decide) ?_
      refine rs_iconst i_J1_indexOfChar_4cfef_31 (v := (-1)) (by decide) ?_
      have hf := Option.some.inj hf
      subst hf
      exact rs_iret i_J1_indexOfChar_4cfef_32 m_J1_indexOfChar_4cfef rfl
    · replace hf := (if_neg c1).symm.trans hf
      refine rs_icF i_J1_indexOfChar_4cfef_10 (cf_ge c1) ?_
      refine rs_aload_n i_J1_indexOfChar_4cfef_13 rfl ?_
      refine rs_iload i_J1_indexOfChar_4cfef_14 rfl ?_
      obtain ⟨c2, hf⟩ := ite_some hf
      obtain ⟨c3, hf⟩ := ite_some hf
      refine rs_bald i_J1_indexOfChar_4cfef_16 c2 c3 ?_
      refine rs_iload i_J1_indexOfChar_4cfef_17 rfl ?_
      by_cases c4 : (roC v0 (ix v5)) ≠ v4
      · replace hf := (if_pos c4).symm.trans hf
        refine rs_icT i_J1_indexOfChar_4cfef_19 (ct_ne c4) (tg := 25) (by decide) ?_
        refine rs_iinc i_J1_indexOfChar_4cfef_25 rfl (v := v5 + 1) rfl (Nat.le_of_ble_eq_true rfl) (lv' := [some (.ref v0), some (.int d1), some (.int d2), some (.int v3), some (.int v4), some (.int (v5 + 1))]) rfl ?_
        refine rs_goto i_J1_indexOfChar_4cfef_28 (tg := 7) (by decide) ?_
        exact ih _ _ _ _ _ _ _ _ hf
      · replace hf := (if_neg c4).symm.trans hf
        refine rs_icF i_J1_indexOfChar_4cfef_19 (cf_ne c4) ?_
        refine rs_iload i_J1_indexOfChar_4cfef_22 rfl ?_
        have hf := Option.some.inj hf
        subst hf
        exact rs_iret i_J1_indexOfChar_4cfef_24 m_J1_indexOfChar_4cfef rfl
def f_J1_indexOfChar_4cfef_0 (n : Nat) (v0 : Nat) (v1 : Int32) (v2 : Int32) (v3 : Int32) (h : Hp) : Option (Int32 × Hp) :=
  f_J1_indexOfChar_4cfef_7 n n v0 v3 ((Int32.toInt8 v1).toInt32) v2 h
set_option maxRecDepth 100000 in
set_option maxHeartbeats 4000000 in
theorem r_J1_indexOfChar_4cfef_0 {X : Nat → Int32} {d : Nat} (hd : 0 ≤ d) {n : Nat} {v0 : Nat} {v1 : Int32} {v2 : Int32} {v3 : Int32} {h : Hp} {o : (Int32 × Hp)} (hf : f_J1_indexOfChar_4cfef_0 n v0 v1 v2 v3 h = some o) : Run X d 229 0 [some (.ref v0), some (.int v1), some (.int v2), some (.int v3), none, none] [] h (some (.int o.1), o.2) := by
  unfold f_J1_indexOfChar_4cfef_0 at hf
  refine rs_iload_n i_J1_indexOfChar_4cfef_0 rfl ?_
  refine rs_i2b i_J1_indexOfChar_4cfef_1 ?_
  refine rs_istore i_J1_indexOfChar_4cfef_2 (Nat.le_of_ble_eq_true rfl) (lv' := [some (.ref v0), some (.int v1), some (.int v2), some (.int v3), some (.int ((Int32.toInt8 v1).toInt32)), none]) rfl ?_
  refine rs_iload_n i_J1_indexOfChar_4cfef_4 rfl ?_
  refine rs_istore i_J1_indexOfChar_4cfef_5 (Nat.le_of_ble_eq_true rfl) (lv' := [some (.ref v0), some (.int v1), some (.int v2), some (.int v3), some (.int ((Int32.toInt8 v1).toInt32)), some (.int v2)]) rfl ?_
  exact r_J1_indexOfChar_4cfef_7 hd _ _ _ _ _ _ _ _ _ hf
def f_J1_indexOfChar_4cfef (n : Nat) (v0 : Nat) (v1 : Int32) (v2 : Int32) (v3 : Int32) (h : Hp) : Option (Int32 × Hp) := f_J1_indexOfChar_4cfef_0 n v0 v1 v2 v3 h
theorem c_J1_indexOfChar_4cfef {X : Nat → Int32} {d : Nat} (hd : 0 ≤ d) {n : Nat} {v0 : Nat} {v1 : Int32} {v2 : Int32} {v3 : Int32} {h : Hp} {o : (Int32 × Hp)} (hf : f_J1_indexOfChar_4cfef n v0 v1 v2 v3 h = some o) : Calls X d 229 [.ref v0, .int v1, .int v2, .int v3] h (some (.int o.1), o.2) := by
  exact ⟨_, rfl, r_J1_indexOfChar_4cfef_0 hd hf⟩
theorem i_J1_indexOf_4cfef_0 : fetch 228 0 = some (.iload_n 1, 1, 0, 0, 0, 0) := by decide +kernel
theorem i_J1_indexOf_4cfef_1 : fetch 228 1 = some (.invokestatic 88, 4, 227, 0, 0, 392) := by decide +kernel
theorem i_J1_indexOf_4cfef_4 : fetch 228 4 = some (.ifCond .ne 5, 7, 0, 0, 0, 0) := by decide +kernel
theorem i_J1_indexOf_4cfef_7 : fetch 228 7 = some (.iconst (-1), 8, 0, 0, 0, 0) := by decide +kernel
theorem i_J1_indexOf_4cfef_8 : fetch 228 8 = some (.ireturn, 9, 0, 0, 0, 0) := by decide +kernel
theorem i_J1_indexOf_4cfef_9 : fetch 228 9 = some (.iload_n 2, 10, 0, 0, 0, 0) := by decide +kernel
theorem i_J1_indexOf_4cfef_10 : fetch 228 10 = some (.iconst 0, 11, 0, 0, 0, 0) := by decide +kernel
theorem i_J1_indexOf_4cfef_11 : fetch 228 11 = some (.invokestatic 92, 14, 1003, 0, 0, 395) := by decide +kernel
theorem i_J1_indexOf_4cfef_14 : fetch 228 14 = some (.istore_n 2, 15, 0, 0, 0, 0) := by decide +kernel
theorem i_J1_indexOf_4cfef_15 : fetch 228 15 = some (.iload_n 3, 16, 0, 0, 0, 0) := by decide +kernel
theorem i_J1_indexOf_4cfef_16 : fetch 228 16 = some (.aload_n 0, 17, 0, 0, 0, 0) := by decide +kernel
theorem i_J1_indexOf_4cfef_17 : fetch 228 17 = some (.arraylength, 18, 0, 0, 0, 0) := by decide +kernel
theorem i_J1_indexOf_4cfef_18 : fetch 228 18 = some (.invokestatic 38, 21, 1005, 0, 0, 398) := by decide +kernel
theorem i_J1_indexOf_4cfef_21 : fetch 228 21 = some (.istore_n 3, 22, 0, 0, 0, 0) := by decide +kernel
theorem i_J1_indexOf_4cfef_22 : fetch 228 22 = some (.iload_n 2, 23, 0, 0, 0, 0) := by decide +kernel
theorem i_J1_indexOf_4cfef_23 : fetch 228 23 = some (.iload_n 3, 24, 0, 0, 0, 0) := by decide +kernel
theorem i_J1_indexOf_4cfef_24 : fetch 228 24 = some (.if_icmp .lt 5, 27, 0, 0, 0, 0) := by decide +kernel
theorem i_J1_indexOf_4cfef_27 : fetch 228 27 = some (.iconst (-1), 28, 0, 0, 0, 0) := by decide +kernel
theorem i_J1_indexOf_4cfef_28 : fetch 228 28 = some (.ireturn, 29, 0, 0, 0, 0) := by decide +kernel
theorem i_J1_indexOf_4cfef_29 : fetch 228 29 = some (.aload_n 0, 30, 0, 0, 0, 0) := by decide +kernel
theorem i_J1_indexOf_4cfef_30 : fetch 228 30 = some (.iload_n 1, 31, 0, 0, 0, 0) := by decide +kernel
theorem i_J1_indexOf_4cfef_31 : fetch 228 31 = some (.iload_n 2, 32, 0, 0, 0, 0) := by decide +kernel
theorem i_J1_indexOf_4cfef_32 : fetch 228 32 = some (.iload_n 3, 33, 0, 0, 0, 0) := by decide +kernel
theorem i_J1_indexOf_4cfef_33 : fetch 228 33 = some (.invokestatic 95, 36, 229, 0, 0, 401) := by decide +kernel
theorem i_J1_indexOf_4cfef_36 : fetch 228 36 = some (.ireturn, 37, 0, 0, 0, 0) := by decide +kernel
def f_J1_indexOf_4cfef_22 (n : Nat) (v0 : Nat) (v1 : Int32) (v2 : Int32) (v3 : Int32) (h : Hp) : Option (Int32 × Hp) :=
  if v2 < v3 then
    (f_J1_indexOfChar_4cfef n v0 v1 v2 v3 h).bind fun o2 =>
    some (o2.1, o2.2)
  else
    some ((-1), h)
set_option maxRecDepth 100000 in
set_option maxHeartbeats 4000000 in
theorem r_J1_indexOf_4cfef_22 {X : Nat → Int32} {d : Nat} (hd : 1 ≤ (d + 1)) {n : Nat} {v0 : Nat} {v1 : Int32} {v2 : Int32} {v3 : Int32} {h : Hp} {o : (Int32 × Hp)} (hf : f_J1_indexOf_4cfef_22 n v0 v1 v2 v3 h = some o) : Run X (d + 1) 228 22 [some (.ref v0), some (.int v1), some (.int v2), some (.int v3)] [] h (some (.int o.1), o.2) := by
  unfold f_J1_indexOf_4cfef_22 at hf
  refine rs_iload_n i_J1_indexOf_4cfef_22 rfl ?_
  refine rs_iload_n i_J1_indexOf_4cfef_23 rfl ?_
  by_cases c1 : v2 < v3
  · replace hf := (if_pos c1).symm.trans hf
    refine rs_icT i_J1_indexOf_4cfef_24 (ct_lt c1) (tg := 29) (by decide) ?_
    refine rs_aload_n i_J1_indexOf_4cfef_29 rfl ?_
    refine rs_iload_n i_J1_indexOf_4cfef_30 rfl ?_
    refine rs_iload_n i_J1_indexOf_4cfef_31 rfl ?_
    refine rs_iload_n i_J1_indexOf_4cfef_32 rfl ?_
    obtain ⟨o2, e2, hf⟩ := bind_some hf
    refine rs_inS i_J1_indexOf_4cfef_33 (by decide) m_J1_indexOfChar_4cfef rfl (As := [.ref v0, .int v1, .int v2, .int v3]) (rest := []) rfl rfl (Nat.le_of_ble_eq_true rfl) (c_J1_indexOfChar_4cfef (by omega) e2) (st' := [.int o2.1]) rfl ?_
    have hf := Option.some.inj hf
    subst hf
    exact rs_iret i_J1_indexOf_4cfef_36 m_J1_indexOf_4cfef rfl
  · replace hf := (if_neg c1).symm.trans hf
    refine rs_icF i_J1_indexOf_4cfef_24 (cf_lt c1) ?_
    refine rs_iconst i_J1_indexOf_4cfef_27 (v := (-1)) (by decide) ?_
    have hf := Option.some.inj hf
    subst hf
    exact rs_iret i_J1_indexOf_4cfef_28 m_J1_indexOf_4cfef rfl
def f_J1_indexOf_4cfef_0 (n : Nat) (v0 : Nat) (v1 : Int32) (v2 : Int32) (v3 : Int32) (h : Hp) : Option (Int32 × Hp) :=
  (f_J1_canEncode_9a6ad v1 h).bind fun o1 =>
  if o1.1 ≠ 0 then
    if (hk o1.2 v0).1 = 21 then
    f_J1_indexOf_4cfef_22 n v0 v1 (if v2 < 0 then 0 else v2) (if (Int32.ofNat (hk o1.2 v0).2) < v3 then (Int32.ofNat (hk o1.2 v0).2) else v3) o1.2
    else none
  else
    some ((-1), o1.2)
set_option maxRecDepth 100000 in
set_option maxHeartbeats 4000000 in
theorem r_J1_indexOf_4cfef_0 {X : Nat → Int32} {d : Nat} (hd : 1 ≤ (d + 1)) {n : Nat} {v0 : Nat} {v1 : Int32} {v2 : Int32} {v3 : Int32} {h : Hp} {o : (Int32 × Hp)} (hf : f_J1_indexOf_4cfef_0 n v0 v1 v2 v3 h = some o) : Run X (d + 1) 228 0 [some (.ref v0), some (.int v1), some (.int v2), some (.int v3)] [] h (some (.int o.1), o.2) := by
  unfold f_J1_indexOf_4cfef_0 at hf
  refine rs_iload_n i_J1_indexOf_4cfef_0 rfl ?_
  obtain ⟨o1, e1, hf⟩ := bind_some hf
  refine rs_inS i_J1_indexOf_4cfef_1 (by decide) m_J1_canEncode_9a6ad rfl (As := [.int v1]) (rest := []) rfl rfl (Nat.le_of_ble_eq_true rfl) (c_J1_canEncode_9a6ad (by omega) e1) (st' := [.int o1.1]) rfl ?_
  by_cases c2 : o1.1 ≠ 0
  · replace hf := (if_pos c2).symm.trans hf
    refine rs_ifT i_J1_indexOf_4cfef_4 (ct_ne c2) (tg := 9) (by decide) ?_
    refine rs_iload_n i_J1_indexOf_4cfef_9 rfl ?_
    refine rs_iconst i_J1_indexOf_4cfef_10 (v := 0) (by decide) ?_
    refine rs_max i_J1_indexOf_4cfef_11 (Nat.le_of_ble_eq_true rfl) ?_
    refine rs_istore_n i_J1_indexOf_4cfef_14 (Nat.le_of_ble_eq_true rfl) (lv' := [some (.ref v0), some (.int v1), some (.int (if v2 < 0 then 0 else v2)), some (.int v3)]) rfl ?_
    refine rs_iload_n i_J1_indexOf_4cfef_15 rfl ?_
    refine rs_aload_n i_J1_indexOf_4cfef_16 rfl ?_
    obtain ⟨c3, hf⟩ := ite_some hf
    refine rs_alB i_J1_indexOf_4cfef_17 c3 ?_
    refine rs_min i_J1_indexOf_4cfef_18 (Nat.le_of_ble_eq_true rfl) ?_
    refine rs_istore_n i_J1_indexOf_4cfef_21 (Nat.le_of_ble_eq_true rfl) (lv' := [some (.ref v0), some (.int v1), some (.int (if v2 < 0 then 0 else v2)), some (.int (if (Int32.ofNat (hk o1.2 v0).2) < v3 then (Int32.ofNat (hk o1.2 v0).2) else v3))]) rfl ?_
    exact r_J1_indexOf_4cfef_22 hd hf
  · replace hf := (if_neg c2).symm.trans hf
    refine rs_ifF i_J1_indexOf_4cfef_4 (cf_ne c2) ?_
    refine rs_iconst i_J1_indexOf_4cfef_7 (v := (-1)) (by decide) ?_
    have hf := Option.some.inj hf
    subst hf
    exact rs_iret i_J1_indexOf_4cfef_8 m_J1_indexOf_4cfef rfl
def f_J1_indexOf_4cfef (n : Nat) (v0 : Nat) (v1 : Int32) (v2 : Int32) (v3 : Int32) (h : Hp) : Option (Int32 × Hp) := f_J1_indexOf_4cfef_0 n v0 v1 v2 v3 h
theorem c_J1_indexOf_4cfef {X : Nat → Int32} {d : Nat} (hd : 1 ≤ d) {n : Nat} {v0 : Nat} {v1 : Int32} {v2 : Int32} {v3 : Int32} {h : Hp} {o : (Int32 × Hp)} (hf : f_J1_indexOf_4cfef n v0 v1 v2 v3 h = some o) : Calls X d 228 [.ref v0, .int v1, .int v2, .int v3] h (some (.int o.1), o.2) := by
  obtain ⟨d, rfl⟩ : ∃ z, d = z + 1 := ⟨d - 1, by omega⟩
  exact ⟨_, rfl, r_J1_indexOf_4cfef_0 hd hf⟩
theorem i_J0_indexOf_7cf53_0 : fetch 222 0 = some (.aload_n 0, 1, 0, 0, 0, 0) := by decide +kernel
theorem i_J0_indexOf_7cf53_1 : fetch 222 1 = some (.invokevirtual 492, 4, 224, 0, 0, 301) := by decide +kernel
theorem i_J0_indexOf_7cf53_4 : fetch 222 4 = some (.ifCond .eq 19, 7, 0, 0, 0, 0) := by decide +kernel
theorem i_J0_indexOf_7cf53_7 : fetch 222 7 = some (.aload_n 0, 8, 0, 0, 0, 0) := by decide +kernel
theorem i_J0_indexOf_7cf53_8 : fetch 222 8 = some (.getfield 9, 11, 20, 0, 0, 1503) := by decide +kernel
theorem i_J0_indexOf_7cf53_11 : fetch 222 11 = some (.iload_n 1, 12, 0, 0, 0, 0) := by decide +kernel
theorem i_J0_indexOf_7cf53_12 : fetch 222 12 = some (.iload_n 2, 13, 0, 0, 0, 0) := by decide +kernel
theorem i_J0_indexOf_7cf53_13 : fetch 222 13 = some (.aload_n 0, 14, 0, 0, 0, 0) := by decide +kernel
theorem i_J0_indexOf_7cf53_14 : fetch 222 14 = some (.invokevirtual 505, 17, 219, 0, 0, 388) := by decide +kernel
theorem i_J0_indexOf_7cf53_17 : fetch 222 17 = some (.invokestatic 637, 20, 228, 0, 0, 389) := by decide +kernel
theorem i_J0_indexOf_7cf53_20 : fetch 222 20 = some (.goto 16, 23, 0, 0, 0, 0) := by decide +kernel
theorem i_J0_indexOf_7cf53_23 : fetch 222 23 = some (.aload_n 0, 24, 0, 0, 0, 0) := by decide +kernel
theorem i_J0_indexOf_7cf53_24 : fetch 222 24 = some (.getfield 9, 27, 20, 0, 0, 1503) := by decide +kernel
theorem i_J0_indexOf_7cf53_27 : fetch 222 27 = some (.iload_n 1, 28, 0, 0, 0, 0) := by decide +kernel
theorem i_J0_indexOf_7cf53_28 : fetch 222 28 = some (.iload_n 2, 29, 0, 0, 0, 0) := by decide +kernel
theorem i_J0_indexOf_7cf53_29 : fetch 222 29 = some (.aload_n 0, 30, 0, 0, 0, 0) := by decide +kernel
theorem i_J0_indexOf_7cf53_30 : fetch 222 30 = some (.invokevirtual 505, 33, 219, 0, 0, 388) := by decide +kernel
theorem i_J0_indexOf_7cf53_36 : fetch 222 36 = some (.ireturn, 37, 0, 0, 0, 0) := by decide +kernel
def f_J0_indexOf_7cf53_0 (n : Nat) (v0 : Nat) (v1 : Int32) (v2 : Int32) (h : Hp) : Option (Int32 × Hp) :=
  if hk h v0 = (20, 2) then
  (f_J0_isLatin1_aae02 v0 h).bind fun o1 =>
  if o1.1 = 0 then
    if hk o1.2 v0 = (20, 2) then
    (f_J0_length_8abf5 v0 o1.2).bind fun o5 =>
    none
    else none
  else
    if hk o1.2 v0 = (20, 2) then
    (f_J0_length_8abf5 v0 o1.2).bind fun o7 =>
    (f_J1_indexOf_4cfef n (v0 + 3) v1 v2 o7.1 o7.2).bind fun o8 =>
    some (o8.1, o8.2)
    else none
  else none
set_option maxRecDepth 100000 in
set_option maxHeartbeats 4000000 in
theorem r_J0_indexOf_7cf53_0 {X : Nat → Int32} {d : Nat} (hd : 2 ≤ (d + 1)) {n : Nat} {v0 : Nat} {v1 : Int32} {v2 : Int32} {h : Hp} {o : (Int32 × Hp)} (hf : f_J0_indexOf_7cf53_0 n v0 v1 v2 h = some o) : Run X (d + 1) 222 0 [some (.ref v0), some (.int v1), some (.int v2)] [] h (some (.int o.1), o.2) := by
  unfold f_J0_indexOf_7cf53_0 at hf
  refine rs_aload_n i_J0_indexOf_7cf53_0 rfl ?_
  obtain ⟨c2, hf⟩ := ite_some hf
  obtain ⟨o1, e1, hf⟩ := bind_some hf
  refine rs_inV i_J0_indexOf_7cf53_1 m_J0_isLatin1_aae02 rfl (As := []) (rest := []) rfl rfl (Nat.le_of_ble_eq_true rfl) c2 (c_J0_isLatin1_aae02 (by omega) e1) (st' := [.int o1.1]) rfl ?_
  by_cases c3 : o1.1 = 0
  · replace hf := (if_pos c3).symm.trans hf
    refine rs_ifT i_J0_indexOf_7cf53_4 (ct_eq c3) (tg := 23) (by decide) ?_
    refine rs_aload_n i_J0_indexOf_7cf53_23 rfl ?_
    obtain ⟨c4, hf⟩ := ite_some hf
    refine rs_getSv i_J0_indexOf_7cf53_24 c4 ?_
    refine rs_iload_n i_J0_indexOf_7cf53_27 rfl ?_
    refine rs_iload_n i_J0_indexOf_7cf53_28 rfl ?_
    refine rs_aload_n i_J0_indexOf_7cf53_29 rfl ?_
    obtain ⟨o5, e5, hf⟩ := bind_some hf
    refine rs_inV i_J0_indexOf_7cf53_30 m_J0_length_8abf5 rfl (As := []) (rest := [.int v2, .int v1, .ref (v0 + 3)]) rfl rfl (Nat.le_of_ble_eq_true rfl) c4 (c_J0_length_8abf5 (by omega) e5) (st' := [.int o5.1, .int v2, .int v1, .ref (v0 + 3)]) rfl ?_
    cases hf
  · replace hf := (if_neg c3).symm.trans hf
    refine rs_ifF i_J0_indexOf_7cf53_4 (cf_eq c3) ?_
    refine rs_aload_n i_J0_indexOf_7cf53_7 rfl ?_
    obtain ⟨c6, hf⟩ := ite_some hf
    refine rs_getSv i_J0_indexOf_7cf53_8 c6 ?_
    refine rs_iload_n i_J0_indexOf_7cf53_11 rfl ?_
    refine rs_iload_n i_J0_indexOf_7cf53_12 rfl ?_
    refine rs_aload_n i_J0_indexOf_7cf53_13 rfl ?_
    obtain ⟨o7, e7, hf⟩ := bind_some hf
    refine rs_inV i_J0_indexOf_7cf53_14 m_J0_length_8abf5 rfl (As := []) (rest := [.int v2, .int v1, .ref (v0 + 3)]) rfl rfl (Nat.le_of_ble_eq_true rfl) c6 (c_J0_length_8abf5 (by omega) e7) (st' := [.int o7.1, .int v2, .int v1, .ref (v0 + 3)]) rfl ?_
    obtain ⟨o8, e8, hf⟩ := bind_some hf
    refine rs_inS i_J0_indexOf_7cf53_17 (by decide) m_J1_indexOf_4cfef rfl (As := [.ref (v0 + 3), .int v1, .int v2, .int o7.1]) (rest := []) rfl rfl (Nat.le_of_ble_eq_true rfl) (c_J1_indexOf_4cfef (by omega) e8) (st' := [.int o8.1]) rfl ?_
    refine rs_goto i_J0_indexOf_7cf53_20 (tg := 36) (by decide) ?_
    have hf := Option.some.inj hf
    subst hf
    exact rs_iret i_J0_indexOf_7cf53_36 m_J0_indexOf_7cf53 rfl
def f_J0_indexOf_7cf53 (n : Nat) (v0 : Nat) (v1 : Int32) (v2 : Int32) (h : Hp) : Option (Int32 × Hp) := f_J0_indexOf_7cf53_0 n v0 v1 v2 h
theorem c_J0_indexOf_7cf53 {X : Nat → Int32} {d : Nat} (hd : 2 ≤ d) {n : Nat} {v0 : Nat} {v1 : Int32} {v2 : Int32} {h : Hp} {o : (Int32 × Hp)} (hf : f_J0_indexOf_7cf53 n v0 v1 v2 h = some o) : Calls X d 222 [.ref v0, .int v1, .int v2] h (some (.int o.1), o.2) := by
  obtain ⟨d, rfl⟩ : ∃ z, d = z + 1 := ⟨d - 1, by omega⟩
  exact ⟨_, rfl, r_J0_indexOf_7cf53_0 hd hf⟩
theorem i_J0_indexOf_0f7a4_0 : fetch 221 0 = some (.aload_n 0, 1, 0, 0, 0, 0) := by decide +kernel
theorem i_J0_indexOf_0f7a4_1 : fetch 221 1 = some (.iload_n 1, 2, 0, 0, 0, 0) := by decide +kernel
theorem i_J0_indexOf_0f7a4_2 : fetch 221 2 = some (.iconst 0, 3, 0, 0, 0, 0) := by decide +kernel
theorem i_J0_indexOf_0f7a4_3 : fetch 221 3 = some (.invokevirtual 633, 6, 222, 0, 0, 384) := by decide +kernel
theorem i_J0_indexOf_0f7a4_6 : fetch 221 6 = some (.ireturn, 7, 0, 0, 0, 0) := by decide +kernel
def f_J0_indexOf_0f7a4_0 (n : Nat) (v0 : Nat) (v1 : Int32) (h : Hp) : Option (Int32 × Hp) :=
  if hk h v0 = (20, 2) then
  (f_J0_indexOf_7cf53 n v0 v1 0 h).bind fun o1 =>
  some (o1.1, o1.2)
  else none
set_option maxRecDepth 100000 in
set_option maxHeartbeats 4000000 in
theorem r_J0_indexOf_0f7a4_0 {X : Nat → Int32} {d : Nat} (hd : 3 ≤ (d + 1)) {n : Nat} {v0 : Nat} {v1 : Int32} {h : Hp} {o : (Int32 × Hp)} (hf : f_J0_indexOf_0f7a4_0 n v0 v1 h = some o) : Run X (d + 1) 221 0 [some (.ref v0), some (.int v1)] [] h (some (.int o.1), o.2) := by
  unfold f_J0_indexOf_0f7a4_0 at hf
  refine rs_aload_n i_J0_indexOf_0f7a4_0 rfl ?_
  refine rs_iload_n i_J0_indexOf_0f7a4_1 rfl ?_
  refine rs_iconst i_J0_indexOf_0f7a4_2 (v := 0) (by decide) ?_
  obtain ⟨c2, hf⟩ := ite_some hf
  obtain ⟨o1, e1, hf⟩ := bind_some hf
  refine rs_inV i_J0_indexOf_0f7a4_3 m_J0_indexOf_7cf53 rfl (As := [.int v1, .int 0]) (rest := []) rfl rfl (Nat.le_of_ble_eq_true rfl) c2 (c_J0_indexOf_7cf53 (by omega) e1) (st' := [.int o1.1]) rfl ?_
  have hf := Option.some.inj hf
  subst hf
  exact rs_iret i_J0_indexOf_0f7a4_6 m_J0_indexOf_0f7a4 rfl
def f_J0_indexOf_0f7a4 (n : Nat) (v0 : Nat) (v1 : Int32) (h : Hp) : Option (Int32 × Hp) := f_J0_indexOf_0f7a4_0 n v0 v1 h
theorem c_J0_indexOf_0f7a4 {X : Nat → Int32} {d : Nat} (hd : 3 ≤ d) {n : Nat} {v0 : Nat} {v1 : Int32} {h : Hp} {o : (Int32 × Hp)} (hf : f_J0_indexOf_0f7a4 n v0 v1 h = some o) : Calls X d 221 [.ref v0, .int v1] h (some (.int o.1), o.2) := by
  obtain ⟨d, rfl⟩ : ∃ z, d = z + 1 := ⟨d - 1, by omega⟩
  exact ⟨_, rfl, r_J0_indexOf_0f7a4_0 hd hf⟩
theorem i_X2_byteAt_0 : fetch 21 0 = some (.iload_n 1, 1, 0, 0, 0, 0) := by decide +kernel
theorem i_X2_byteAt_1 : fetch 21 1 = some (.ifCond .lt 27, 4, 0, 0, 0, 0) := by decide +kernel
theorem i_X2_byteAt_4 : fetch 21 4 = some (.iload_n 1, 5, 0, 0, 0, 0) := by decide +kernel
theorem i_X2_byteAt_5 : fetch 21 5 = some (.aload_n 0, 6, 0, 0, 0, 0) := by decide +kernel
theorem i_X2_byteAt_6 : fetch 21 6 = some (.getfield 15, 9, 2, 1, 0, 123) := by decide +kernel
theorem i_X2_byteAt_9 : fetch 21 9 = some (.if_icmp .ge 19, 12, 0, 0, 0, 0) := by decide +kernel
theorem i_X2_byteAt_12 : fetch 21 12 = some (.iload_n 1, 13, 0, 0, 0, 0) := by decide +kernel
theorem i_X2_byteAt_13 : fetch 21 13 = some (.sipush 160, 16, 0, 0, 0, 0) := by decide +kernel
theorem i_X2_byteAt_16 : fetch 21 16 = some (.if_icmp .ge 12, 19, 0, 0, 0, 0) := by decide +kernel
theorem i_X2_byteAt_19 : fetch 21 19 = some (.aload_n 0, 20, 0, 0, 0, 0) := by decide +kernel
theorem i_X2_byteAt_20 : fetch 21 20 = some (.getfield 9, 23, 2, 0, 0, 122) := by decide +kernel
theorem i_X2_byteAt_23 : fetch 21 23 = some (.iload_n 1, 24, 0, 0, 0, 0) := by decide +kernel
theorem i_X2_byteAt_24 : fetch 21 24 = some (.iaload, 25, 0, 0, 0, 0) := by decide +kernel
theorem i_X2_byteAt_25 : fetch 21 25 = some (.goto 4, 28, 0, 0, 0, 0) := by decide +kernel
theorem i_X2_byteAt_28 : fetch 21 28 = some (.iconst (-1), 29, 0, 0, 0, 0) := by decide +kernel
theorem i_X2_byteAt_29 : fetch 21 29 = some (.ireturn, 30, 0, 0, 0, 0) := by decide +kernel
def f_X2_byteAt_0 (v0 : Nat) (v1 : Int32) (h : Hp) : Option (Int32 × Hp) :=
  if v1 < 0 then
    some ((-1), h)
  else
    if okO h v0 2 then
    if (gI h v0 1) ≤ v1 then
      some ((-1), h)
    else
      if 160 ≤ v1 then
        some ((-1), h)
      else
        (gR h v0 0).bind fun a5 =>
        if okI h a5 v1 then
        some ((gI h a5 (ix v1)), h)
        else none
    else none
set_option maxRecDepth 100000 in
set_option maxHeartbeats 4000000 in
theorem r_X2_byteAt_0 {X : Nat → Int32} {d : Nat} (hd : 0 ≤ d) {v0 : Nat} {v1 : Int32} {h : Hp} {o : (Int32 × Hp)} (hf : f_X2_byteAt_0 v0 v1 h = some o) : Run X d 21 0 [some (.ref v0), some (.int v1)] [] h (some (.int o.1), o.2) := by
  unfold f_X2_byteAt_0 at hf
  refine rs_iload_n i_X2_byteAt_0 rfl ?_
  by_cases c1 : v1 < 0
  · replace hf := (if_pos c1).symm.trans hf
    refine rs_ifT i_X2_byteAt_1 (ct_lt c1) (tg := 28) (by decide) ?_
    refine rs_iconst i_X2_byteAt_28 (v := (-1)) (by decide) ?_
    have hf := Option.some.inj hf
    subst hf
    exact rs_iret i_X2_byteAt_29 m_X2_byteAt rfl
  · replace hf := (if_neg c1).symm.trans hf
    refine rs_ifF i_X2_byteAt_1 (cf_lt c1) ?_
    refine rs_iload_n i_X2_byteAt_4 rfl ?_
    refine rs_aload_n i_X2_byteAt_5 rfl ?_
    obtain ⟨c2, hf⟩ := ite_some hf
    refine rs_getI i_X2_byteAt_6 (by decide) (by decide) c2 ?_
    by_cases c3 : (gI h v0 1) ≤ v1
    · replace hf := (if_pos c3).symm.trans hf
      refine rs_icT i_X2_byteAt_9 (ct_ge c3) (tg := 28) (by decide) ?_
      refine rs_iconst i_X2_byteAt_28 (v := (-1)) (by decide) ?_
      have hf := Option.some.inj hf
      subst hf
      exact rs_iret i_X2_byteAt_29 m_X2_byteAt rfl
    · replace hf := (if_neg c3).symm.trans hf
      refine rs_icF i_X2_byteAt_9 (cf_ge c3) ?_
      refine rs_iload_n i_X2_byteAt_12 rfl ?_
      refine rs_sipush i_X2_byteAt_13 (v := 160) (by decide) ?_
      by_cases c4 : 160 ≤ v1
      · replace hf := (if_pos c4).symm.trans hf
        refine rs_icT i_X2_byteAt_16 (ct_ge c4) (tg := 28) (by decide) ?_
        refine rs_iconst i_X2_byteAt_28 (v := (-1)) (by decide) ?_
        have hf := Option.some.inj hf
        subst hf
        exact rs_iret i_X2_byteAt_29 m_X2_byteAt rfl
      · replace hf := (if_neg c4).symm.trans hf
        refine rs_icF i_X2_byteAt_16 (cf_ge c4) ?_
        refine rs_aload_n i_X2_byteAt_19 rfl ?_
        obtain ⟨a5, e5, hf⟩ := bind_some hf
        refine rs_getR i_X2_byteAt_20 (by decide) (by decide) c2 e5 ?_
        refine rs_iload_n i_X2_byteAt_23 rfl ?_
        obtain ⟨c6, hf⟩ := ite_some hf
        refine rs_iald i_X2_byteAt_24 c6 ?_
        refine rs_goto i_X2_byteAt_25 (tg := 29) (by decide) ?_
        have hf := Option.some.inj hf
        subst hf
        exact rs_iret i_X2_byteAt_29 m_X2_byteAt rfl
def f_X2_byteAt (v0 : Nat) (v1 : Int32) (h : Hp) : Option (Int32 × Hp) := f_X2_byteAt_0 v0 v1 h
theorem c_X2_byteAt {X : Nat → Int32} {d : Nat} (hd : 0 ≤ d) {v0 : Nat} {v1 : Int32} {h : Hp} {o : (Int32 × Hp)} (hf : f_X2_byteAt v0 v1 h = some o) : Calls X d 21 [.ref v0, .int v1] h (some (.int o.1), o.2) := by
  exact ⟨_, rfl, r_X2_byteAt_0 hd hf⟩
theorem i_X2_isDigit_0 : fetch 23 0 = some (.iload_n 0, 1, 0, 0, 0, 0) := by decide +kernel
theorem i_X2_isDigit_1 : fetch 23 1 = some (.bipush 48, 3, 0, 0, 0, 0) := by decide +kernel
theorem i_X2_isDigit_3 : fetch 23 3 = some (.bipush 57, 5, 0, 0, 0, 0) := by decide +kernel
theorem i_X2_isDigit_5 : fetch 23 5 = some (.invokestatic 95, 8, 110, 1, 0, 358) := by decide +kernel
theorem i_X2_isDigit_8 : fetch 23 8 = some (.ireturn, 9, 0, 0, 0, 0) := by decide +kernel
def f_X2_isDigit_0 (v0 : Int32) (h : Hp) : Option (Int32 × Hp) :=
  (f_X7_within v0 48 57 h).bind fun o1 =>
  if o1.1 = 0 ∨ o1.1 = 1 then
  some (o1.1, o1.2)
  else none
set_option maxRecDepth 100000 in
set_option maxHeartbeats 4000000 in
theorem r_X2_isDigit_0 {X : Nat → Int32} {d : Nat} (hd : 1 ≤ (d + 1)) {v0 : Int32} {h : Hp} {o : (Int32 × Hp)} (hf : f_X2_isDigit_0 v0 h = some o) : Run X (d + 1) 23 0 [some (.int v0)] [] h (some (.int o.1), o.2) := by
  unfold f_X2_isDigit_0 at hf
  refine rs_iload_n i_X2_isDigit_0 rfl ?_
  refine rs_bipush i_X2_isDigit_1 (v := 48) (by decide) ?_
  refine rs_bipush i_X2_isDigit_3 (v := 57) (by decide) ?_
  obtain ⟨o1, e1, hf⟩ := bind_some hf
  refine rs_inS i_X2_isDigit_5 (by decide) m_X7_within rfl (As := [.int v0, .int 48, .int 57]) (rest := []) rfl rfl (Nat.le_of_ble_eq_true rfl) (c_X7_within (by omega) e1) (st' := [.int o1.1]) rfl ?_
  obtain ⟨c2, hf⟩ := ite_some hf
  have hf := Option.some.inj hf
  subst hf
  exact rs_iret i_X2_isDigit_8 m_X2_isDigit (decide_eq_true c2)
def f_X2_isDigit (v0 : Int32) (h : Hp) : Option (Int32 × Hp) := f_X2_isDigit_0 v0 h
theorem c_X2_isDigit {X : Nat → Int32} {d : Nat} (hd : 1 ≤ d) {v0 : Int32} {h : Hp} {o : (Int32 × Hp)} (hf : f_X2_isDigit v0 h = some o) : Calls X d 23 [.int v0] h (some (.int o.1), o.2) := by
  obtain ⟨d, rfl⟩ : ∃ z, d = z + 1 := ⟨d - 1, by omega⟩
  exact ⟨_, rfl, r_X2_isDigit_0 hd hf⟩
theorem i_X2_isLetter_0 : fetch 22 0 = some (.iload_n 0, 1, 0, 0, 0, 0) := by decide +kernel
theorem i_X2_isLetter_1 : fetch 22 1 = some (.bipush 97, 3, 0, 0, 0, 0) := by decide +kernel
theorem i_X2_isLetter_3 : fetch 22 3 = some (.bipush 122, 5, 0, 0, 0, 0) := by decide +kernel
theorem i_X2_isLetter_5 : fetch 22 5 = some (.invokestatic 95, 8, 110, 1, 0, 358) := by decide +kernel
theorem i_X2_isLetter_8 : fetch 22 8 = some (.ireturn, 9, 0, 0, 0, 0) := by decide +kernel
def f_X2_isLetter_0 (v0 : Int32) (h : Hp) : Option (Int32 × Hp) :=
  (f_X7_within v0 97 122 h).bind fun o1 =>
  if o1.1 = 0 ∨ o1.1 = 1 then
  some (o1.1, o1.2)
  else none
set_option maxRecDepth 100000 in
set_option maxHeartbeats 4000000 in
theorem r_X2_isLetter_0 {X : Nat → Int32} {d : Nat} (hd : 1 ≤ (d + 1)) {v0 : Int32} {h : Hp} {o : (Int32 × Hp)} (hf : f_X2_isLetter_0 v0 h = some o) : Run X (d + 1) 22 0 [some (.int v0)] [] h (some (.int o.1), o.2) := by
  unfold f_X2_isLetter_0 at hf
  refine rs_iload_n i_X2_isLetter_0 rfl ?_
  refine rs_bipush i_X2_isLetter_1 (v := 97) (by decide) ?_
  refine rs_bipush i_X2_isLetter_3 (v := 122) (by decide) ?_
  obtain ⟨o1, e1, hf⟩ := bind_some hf
  refine rs_inS i_X2_isLetter_5 (by decide) m_X7_within rfl (As := [.int v0, .int 97, .int 122]) (rest := []) rfl rfl (Nat.le_of_ble_eq_true rfl) (c_X7_within (by omega) e1) (st' := [.int o1.1]) rfl ?_
  obtain ⟨c2, hf⟩ := ite_some hf
  have hf := Option.some.inj hf
  subst hf
  exact rs_iret i_X2_isLetter_8 m_X2_isLetter (decide_eq_true c2)
def f_X2_isLetter (v0 : Int32) (h : Hp) : Option (Int32 × Hp) := f_X2_isLetter_0 v0 h
theorem c_X2_isLetter {X : Nat → Int32} {d : Nat} (hd : 1 ≤ d) {v0 : Int32} {h : Hp} {o : (Int32 × Hp)} (hf : f_X2_isLetter v0 h = some o) : Calls X d 22 [.int v0] h (some (.int o.1), o.2) := by
  obtain ⟨d, rfl⟩ : ∃ z, d = z + 1 := ⟨d - 1, by omega⟩
  exact ⟨_, rfl, r_X2_isLetter_0 hd hf⟩
theorem i_X2_readNumber_0 : fetch 24 0 = some (.iconst 0, 1, 0, 0, 0, 0) := by decide +kernel
theorem i_X2_readNumber_1 : fetch 24 1 = some (.istore_n 1, 2, 0, 0, 0, 0) := by decide +kernel
theorem i_X2_readNumber_2 : fetch 24 2 = some (.iconst 0, 3, 0, 0, 0, 0) := by decide +kernel
theorem i_X2_readNumber_3 : fetch 24 3 = some (.istore_n 2, 4, 0, 0, 0, 0) := by decide +kernel
theorem i_X2_readNumber_4 : fetch 24 4 = some (.iload_n 2, 5, 0, 0, 0, 0) := by decide +kernel
theorem i_X2_readNumber_5 : fetch 24 5 = some (.sipush 160, 8, 0, 0, 0, 0) := by decide +kernel
theorem i_X2_readNumber_8 : fetch 24 8 = some (.if_icmp .ge 59, 11, 0, 0, 0, 0) := by decide +kernel
theorem i_X2_readNumber_11 : fetch 24 11 = some (.aload_n 0, 12, 0, 0, 0, 0) := by decide +kernel
theorem i_X2_readNumber_12 : fetch 24 12 = some (.aload_n 0, 13, 0, 0, 0, 0) := by decide +kernel
theorem i_X2_readNumber_13 : fetch 24 13 = some (.getfield 19, 16, 2, 2, 0, 125) := by decide +kernel
theorem i_X2_readNumber_16 : fetch 24 16 = some (.invokevirtual 72, 19, 21, 0, 0, 351) := by decide +kernel
theorem i_X2_readNumber_19 : fetch 24 19 = some (.invokestatic 82, 22, 23, 0, 0, 372) := by decide +kernel
theorem i_X2_readNumber_22 : fetch 24 22 = some (.ifCond .eq 45, 25, 0, 0, 0, 0) := by decide +kernel
theorem i_X2_readNumber_25 : fetch 24 25 = some (.iload_n 2, 26, 0, 0, 0, 0) := by decide +kernel
theorem i_X2_readNumber_26 : fetch 24 26 = some (.iconst 4, 27, 0, 0, 0, 0) := by decide +kernel
theorem i_X2_readNumber_27 : fetch 24 27 = some (.if_icmp .ge 22, 30, 0, 0, 0, 0) := by decide +kernel
theorem i_X2_readNumber_30 : fetch 24 30 = some (.iload_n 1, 31, 0, 0, 0, 0) := by decide +kernel
theorem i_X2_readNumber_31 : fetch 24 31 = some (.bipush 10, 33, 0, 0, 0, 0) := by decide +kernel
theorem i_X2_readNumber_33 : fetch 24 33 = some (.imul, 34, 0, 0, 0, 0) := by decide +kernel
theorem i_X2_readNumber_34 : fetch 24 34 = some (.aload_n 0, 35, 0, 0, 0, 0) := by decide +kernel
theorem i_X2_readNumber_35 : fetch 24 35 = some (.aload_n 0, 36, 0, 0, 0, 0) := by decide +kernel
theorem i_X2_readNumber_36 : fetch 24 36 = some (.getfield 19, 39, 2, 2, 0, 125) := by decide +kernel
theorem i_X2_readNumber_39 : fetch 24 39 = some (.invokevirtual 72, 42, 21, 0, 0, 351) := by decide +kernel
theorem i_X2_readNumber_42 : fetch 24 42 = some (.iadd, 43, 0, 0, 0, 0) := by decide +kernel
theorem i_X2_readNumber_43 : fetch 24 43 = some (.bipush 48, 45, 0, 0, 0, 0) := by decide +kernel
theorem i_X2_readNumber_45 : fetch 24 45 = some (.isub, 46, 0, 0, 0, 0) := by decide +kernel
theorem i_X2_readNumber_46 : fetch 24 46 = some (.goto 4, 49, 0, 0, 0, 0) := by decide +kernel
theorem i_X2_readNumber_49 : fetch 24 49 = some (.iload_n 1, 50, 0, 0, 0, 0) := by decide +kernel
theorem i_X2_readNumber_50 : fetch 24 50 = some (.istore_n 1, 51, 0, 0, 0, 0) := by decide +kernel
theorem i_X2_readNumber_51 : fetch 24 51 = some (.aload_n 0, 52, 0, 0, 0, 0) := by decide +kernel
theorem i_X2_readNumber_52 : fetch 24 52 = some (.dup, 53, 0, 0, 0, 0) := by decide +kernel
theorem i_X2_readNumber_53 : fetch 24 53 = some (.getfield 19, 56, 2, 2, 0, 125) := by decide +kernel
theorem i_X2_readNumber_56 : fetch 24 56 = some (.iconst 1, 57, 0, 0, 0, 0) := by decide +kernel
theorem i_X2_readNumber_57 : fetch 24 57 = some (.iadd, 58, 0, 0, 0, 0) := by decide +kernel
theorem i_X2_readNumber_58 : fetch 24 58 = some (.putfield 19, 61, 2, 2, 0, 125) := by decide +kernel
theorem i_X2_readNumber_61 : fetch 24 61 = some (.iinc 2 1, 64, 0, 0, 0, 0) := by decide +kernel
theorem i_X2_readNumber_64 : fetch 24 64 = some (.goto (-60), 67, 0, 0, 0, 0) := by decide +kernel
theorem i_X2_readNumber_67 : fetch 24 67 = some (.aload_n 0, 68, 0, 0, 0, 0) := by decide +kernel
theorem i_X2_readNumber_68 : fetch 24 68 = some (.aload_n 0, 69, 0, 0, 0, 0) := by decide +kernel
theorem i_X2_readNumber_69 : fetch 24 69 = some (.getfield 19, 72, 2, 2, 0, 125) := by decide +kernel
theorem i_X2_readNumber_72 : fetch 24 72 = some (.aload_n 0, 73, 0, 0, 0, 0) := by decide +kernel
theorem i_X2_readNumber_73 : fetch 24 73 = some (.getfield 25, 76, 2, 4, 0, 127) := by decide +kernel
theorem i_X2_readNumber_76 : fetch 24 76 = some (.isub, 77, 0, 0, 0, 0) := by decide +kernel
theorem i_X2_readNumber_77 : fetch 24 77 = some (.iconst 4, 78, 0, 0, 0, 0) := by decide +kernel
theorem i_X2_readNumber_78 : fetch 24 78 = some (.if_icmp .le 7, 81, 0, 0, 0, 0) := by decide +kernel
theorem i_X2_readNumber_81 : fetch 24 81 = some (.iconst 1, 82, 0, 0, 0, 0) := by decide +kernel
theorem i_X2_readNumber_82 : fetch 24 82 = some (.goto 4, 85, 0, 0, 0, 0) := by decide +kernel
theorem i_X2_readNumber_85 : fetch 24 85 = some (.iconst 2, 86, 0, 0, 0, 0) := by decide +kernel
theorem i_X2_readNumber_86 : fetch 24 86 = some (.putfield 22, 89, 2, 3, 0, 126) := by decide +kernel
theorem i_X2_readNumber_89 : fetch 24 89 = some (.aload_n 0, 90, 0, 0, 0, 0) := by decide +kernel
theorem i_X2_readNumber_90 : fetch 24 90 = some (.iload_n 1, 91, 0, 0, 0, 0) := by decide +kernel
theorem i_X2_readNumber_91 : fetch 24 91 = some (.putfield 28, 94, 2, 5, 0, 128) := by decide +kernel
theorem i_X2_readNumber_94 : fetch 24 94 = some (.return_, 95, 0, 0, 0, 0) := by decide +kernel
def f_X2_readNumber_89 (n : Nat) (v0 : Nat) (v1 : Int32) (h : Hp) : Option Hp :=
  if okO h v0 2 then
  some (hsi h v0 5 v1)
  else none
set_option maxRecDepth 100000 in
set_option maxHeartbeats 4000000 in
theorem r_X2_readNumber_89 {X : Nat → Int32} {d : Nat} (hd : 2 ≤ (d + 1)) {n : Nat} {v0 : Nat} {v1 : Int32} {d2 : Int32} {h : Hp} {o : Hp} (hf : f_X2_readNumber_89 n v0 v1 h = some o) : Run X (d + 1) 24 89 [some (.ref v0), some (.int v1), some (.int d2)] [] h (none, o) := by
  unfold f_X2_readNumber_89 at hf
  refine rs_aload_n i_X2_readNumber_89 rfl ?_
  refine rs_iload_n i_X2_readNumber_90 rfl ?_
  obtain ⟨c1, hf⟩ := ite_some hf
  refine rs_putI i_X2_readNumber_91 (by decide) c1 ?_
  have hf := Option.some.inj hf
  subst hf
  exact rs_vret i_X2_readNumber_94 m_X2_readNumber rfl
def f_X2_readNumber_86 (n : Nat) (v0 : Nat) (v1 : Int32) (s0 : Nat) (s1 : Int32) (h : Hp) : Option Hp :=
  if okO h s0 2 then
  f_X2_readNumber_89 n v0 v1 (hsi h s0 3 s1)
  else none
set_option maxRecDepth 100000 in
set_option maxHeartbeats 4000000 in
theorem r_X2_readNumber_86 {X : Nat → Int32} {d : Nat} (hd : 2 ≤ (d + 1)) {n : Nat} {v0 : Nat} {v1 : Int32} {s0 : Nat} {s1 : Int32} {d2 : Int32} {h : Hp} {o : Hp} (hf : f_X2_readNumber_86 n v0 v1 s0 s1 h = some o) : Run X (d + 1) 24 86 [some (.ref v0), some (.int v1), some (.int d2)] [.int s1, .ref s0] h (none, o) := by
  unfold f_X2_readNumber_86 at hf
  obtain ⟨c1, hf⟩ := ite_some hf
  refine rs_putI i_X2_readNumber_86 (by decide) c1 ?_
  exact r_X2_readNumber_89 hd hf
def f_X2_readNumber_67 (n : Nat) (v0 : Nat) (v1 : Int32) (h : Hp) : Option Hp :=
  if okO h v0 2 then
  if ((gI h v0 2) - (gI h v0 4)) ≤ 4 then
    f_X2_readNumber_86 n v0 v1 v0 2 h
  else
    f_X2_readNumber_86 n v0 v1 v0 1 h
  else none
set_option maxRecDepth 100000 in
set_option maxHeartbeats 4000000 in
theorem r_X2_readNumber_67 {X : Nat → Int32} {d : Nat} (hd : 2 ≤ (d + 1)) {n : Nat} {v0 : Nat} {v1 : Int32} {d2 : Int32} {h : Hp} {o : Hp} (hf : f_X2_readNumber_67 n v0 v1 h = some o) : Run X (d + 1) 24 67 [some (.ref v0), some (.int v1), some (.int d2)] [] h (none, o) := by
  unfold f_X2_readNumber_67 at hf
  refine rs_aload_n i_X2_readNumber_67 rfl ?_
  refine rs_aload_n i_X2_readNumber_68 rfl ?_
  obtain ⟨c1, hf⟩ := ite_some hf
  refine rs_getI i_X2_readNumber_69 (by decide) (by decide) c1 ?_
  refine rs_aload_n i_X2_readNumber_72 rfl ?_
  refine rs_getI i_X2_readNumber_73 (by decide) (by decide) c1 ?_
  refine rs_isub i_X2_readNumber_76 ?_
  refine rs_iconst i_X2_readNumber_77 (v := 4) (by decide) ?_
  by_cases c2 : ((gI h v0 2) - (gI h v0 4)) ≤ 4
  · replace hf := (if_pos c2).symm.trans hf
    refine rs_icT i_X2_readNumber_78 (ct_le c2) (tg := 85) (by decide) ?_
    refine rs_iconst i_X2_readNumber_85 (v := 2) (by decide) ?_
    exact r_X2_readNumber_86 hd hf
  · replace hf := (if_neg c2).symm.trans hf
    refine rs_icF i_X2_readNumber_78 (cf_le c2) ?_
    refine rs_iconst i_X2_readNumber_81 (v := 1) (by decide) ?_
    refine rs_goto i_X2_readNumber_82 (tg := 86) (by decide) ?_
    exact r_X2_readNumber_86 hd hf
def f_X2_readNumber_50 (n : Nat) (K4 : Nat → Int32 → Int32 → Hp → Option Hp) (v0 : Nat) (v2 : Int32) (s0 : Int32) (h : Hp) : Option Hp :=
  if okO h v0 2 then
  K4 v0 s0 (v2 + 1) (hsi h v0 2 ((gI h v0 2) + 1))
  else none
set_option maxRecDepth 100000 in
set_option maxHeartbeats 4000000 in
theorem r_X2_readNumber_50 {X : Nat → Int32} {d : Nat} (hd : 2 ≤ (d + 1)) {n : Nat} {K4 : Nat → Int32 → Int32 → Hp → Option Hp} (HK4 : ∀ (v0 : Nat) (v1 : Int32) (v2 : Int32) (h : Hp) (o : Hp), K4 v0 v1 v2 h = some o → Run X (d + 1) 24 4 [some (.ref v0), some (.int v1), some (.int v2)] [] h (none, o)) {v0 : Nat} {v2 : Int32} {s0 : Int32} {d1 : Int32} {h : Hp} {o : Hp} (hf : f_X2_readNumber_50 n K4 v0 v2 s0 h = some o) : Run X (d + 1) 24 50 [some (.ref v0), some (.int d1), some (.int v2)] [.int s0] h (none, o) := by
  unfold f_X2_readNumber_50 at hf
  refine rs_istore_n i_X2_readNumber_50 (Nat.le_of_ble_eq_true rfl) (lv' := [some (.ref v0), some (.int s0), some (.int v2)]) rfl ?_
  refine rs_aload_n i_X2_readNumber_51 rfl ?_
  refine rs_dup i_X2_readNumber_52 rfl ?_
  obtain ⟨c1, hf⟩ := ite_some hf
  refine rs_getI i_X2_readNumber_53 (by decide) (by decide) c1 ?_
  refine rs_iconst i_X2_readNumber_56 (v := 1) (by decide) ?_
  refine rs_iadd i_X2_readNumber_57 ?_
  refine rs_putI i_X2_readNumber_58 (by decide) c1 ?_
  refine rs_iinc i_X2_readNumber_61 rfl (v := v2 + 1) rfl (Nat.le_of_ble_eq_true rfl) (lv' := [some (.ref v0), some (.int s0), some (.int (v2 + 1))]) rfl ?_
  refine rs_goto i_X2_readNumber_64 (tg := 4) (by decide) ?_
  exact HK4 _ _ _ _ _ hf
def f_X2_readNumber_4 (n : Nat) : Nat → Nat → Int32 → Int32 → Hp → Option Hp
  | 0, _, _, _, _ => none
  | m + 1, v0, v1, v2, h =>
    if 160 ≤ v2 then
      f_X2_readNumber_67 n v0 v1 h
    else
      if okO h v0 2 then
      (f_X2_byteAt v0 (gI h v0 2) h).bind fun o3 =>
      (f_X2_isDigit o3.1 o3.2).bind fun o4 =>
      if o4.1 = 0 then
        f_X2_readNumber_67 n v0 v1 o4.2
      else
        if 4 ≤ v2 then
          f_X2_readNumber_50 n (f_X2_readNumber_4 n m) v0 v2 v1 o4.2
        else
          if okO o4.2 v0 2 then
          (f_X2_byteAt v0 (gI o4.2 v0 2) o4.2).bind fun o8 =>
          f_X2_readNumber_50 n (f_X2_readNumber_4 n m) v0 v2 (((v1 * 10) + o8.1) - 48) o8.2
          else none
      else none
set_option maxRecDepth 100000 in
set_option maxHeartbeats 4000000 in
theorem r_X2_readNumber_4 {X : Nat → Int32} {d : Nat} (hd : 2 ≤ (d + 1)) {n : Nat} : ∀ (m : Nat) (v0 : Nat) (v1 : Int32) (v2 : Int32) (h : Hp) (o : Hp), f_X2_readNumber_4 n m v0 v1 v2 h = some o → Run X (d + 1) 24 4 [some (.ref v0), some (.int v1), some (.int v2)] [] h (none, o) := by
  intro m
  induction m with
  | zero => intro v0 v1 v2 h o hf; cases hf
  | succ m ih =>
    intro v0 v1 v2 h o hf
    rw [f_X2_readNumber_4] at hf
    refine rs_iload_n i_X2_readNumber_4 rfl ?_
    refine rs_sipush i_X2_readNumber_5 (v := 160) (by decide) ?_
    by_cases c1 : 160 ≤ v2
    · replace hf := (if_pos c1).symm.trans hf
      refine rs_icT i_X2_readNumber_8 (ct_ge c1) (tg := 67) (by decide) ?_
      exact r_X2_readNumber_67 hd hf
    · replace hf := (if_neg c1).symm.trans hf
      refine rs_icF i_X2_readNumber_8 (cf_ge c1) ?_
      refine rs_aload_n i_X2_readNumber_11 rfl ?_
      refine rs_aload_n i_X2_readNumber_12 rfl ?_
      obtain ⟨c2, hf⟩ := ite_some hf
      refine rs_getI i_X2_readNumber_13 (by decide) (by decide) c2 ?_
      obtain ⟨o3, e3, hf⟩ := bind_some hf
      refine rs_inV i_X2_readNumber_16 m_X2_byteAt rfl (As := [.int (gI h v0 2)]) (rest := []) rfl rfl (Nat.le_of_ble_eq_true rfl) c2 (c_X2_byteAt (by omega) e3) (st' := [.int o3.1]) rfl ?_
      obtain ⟨o4, e4, hf⟩ := bind_some hf
      refine rs_inS i_X2_readNumber_19 (by decide) m_X2_isDigit rfl (As := [.int o3.1]) (rest := []) rfl rfl (Nat.le_of_ble_eq_true rfl) (c_X2_isDigit (by omega) e4) (st' := [.int o4.1]) rfl ?_
      by_cases c5 : o4.1 = 0
      · replace hf := (if_pos c5).symm.trans hf
        refine rs_ifT i_X2_readNumber_22 (ct_eq c5) (tg := 67) (by decide) ?_
        exact r_X2_readNumber_67 hd hf
      · replace hf := (if_neg c5).symm.trans hf
        refine rs_ifF i_X2_readNumber_22 (cf_eq c5) ?_
        refine rs_iload_n i_X2_readNumber_25 rfl ?_
        refine rs_iconst i_X2_readNumber_26 (v := 4) (by decide) ?_
        by_cases c6 : 4 ≤ v2
        · replace hf := (if_pos c6).symm.trans hf
          refine rs_icT i_X2_readNumber_27 (ct_ge c6) (tg := 49) (by decide) ?_
          refine rs_iload_n i_X2_readNumber_49 rfl ?_
          exact r_X2_readNumber_50 hd ih hf
        · replace hf := (if_neg c6).symm.trans hf
          refine rs_icF i_X2_readNumber_27 (cf_ge c6) ?_
          refine rs_iload_n i_X2_readNumber_30 rfl ?_
          refine rs_bipush i_X2_readNumber_31 (v := 10) (by decide) ?_
          refine rs_imul i_X2_readNumber_33 ?_
          refine rs_aload_n i_X2_readNumber_34 rfl ?_
          refine rs_aload_n i_X2_readNumber_35 rfl ?_
          obtain ⟨c7, hf⟩ := ite_some hf
          refine rs_getI i_X2_readNumber_36 (by decide) (by decide) c7 ?_
          obtain ⟨o8, e8, hf⟩ := bind_some hf
          refine rs_inV i_X2_readNumber_39 m_X2_byteAt rfl (As := [.int (gI o4.2 v0 2)]) (rest := [.int (v1 * 10)]) rfl rfl (Nat.le_of_ble_eq_true rfl) c7 (c_X2_byteAt (by omega) e8) (st' := [.int o8.1, .int (v1 * 10)]) rfl ?_
          refine rs_iadd i_X2_readNumber_42 ?_
          refine rs_bipush i_X2_readNumber_43 (v := 48) (by decide) ?_
          refine rs_isub i_X2_readNumber_45 ?_
          refine rs_goto i_X2_readNumber_46 (tg := 50) (by decide) ?_
          exact r_X2_readNumber_50 hd ih hf
def f_X2_readNumber_0 (n : Nat) (v0 : Nat) (h : Hp) : Option Hp :=
  f_X2_readNumber_4 n n v0 0 0 h
set_option maxRecDepth 100000 in
set_option maxHeartbeats 4000000 in
theorem r_X2_readNumber_0 {X : Nat → Int32} {d : Nat} (hd : 2 ≤ (d + 1)) {n : Nat} {v0 : Nat} {h : Hp} {o : Hp} (hf : f_X2_readNumber_0 n v0 h = some o) : Run X (d + 1) 24 0 [some (.ref v0), none, none] [] h (none, o) := by
  unfold f_X2_readNumber_0 at hf
  refine rs_iconst i_X2_readNumber_0 (v := 0) (by decide) ?_
  refine rs_istore_n i_X2_readNumber_1 (Nat.le_of_ble_eq_true rfl) (lv' := [some (.ref v0), some (.int 0), none]) rfl ?_
  refine rs_iconst i_X2_readNumber_2 (v := 0) (by decide) ?_
  refine rs_istore_n i_X2_readNumber_3 (Nat.le_of_ble_eq_true rfl) (lv' := [some (.ref v0), some (.int 0), some (.int 0)]) rfl ?_
  exact r_X2_readNumber_4 hd _ _ _ _ _ _ hf
def f_X2_readNumber (n : Nat) (v0 : Nat) (h : Hp) : Option Hp := f_X2_readNumber_0 n v0 h
theorem c_X2_readNumber {X : Nat → Int32} {d : Nat} (hd : 2 ≤ d) {n : Nat} {v0 : Nat} {h : Hp} {o : Hp} (hf : f_X2_readNumber n v0 h = some o) : Calls X d 24 [.ref v0] h (none, o) := by
  obtain ⟨d, rfl⟩ : ∃ z, d = z + 1 := ⟨d - 1, by omega⟩
  exact ⟨_, rfl, r_X2_readNumber_0 hd hf⟩
theorem i_J3_checkIndex_8e157_0 : fetch 230 0 = some (.iload_n 0, 1, 0, 0, 0, 0) := by decide +kernel
theorem i_J3_checkIndex_8e157_1 : fetch 230 1 = some (.ifCond .lt 8, 4, 0, 0, 0, 0) := by decide +kernel
theorem i_J3_checkIndex_8e157_4 : fetch 230 4 = some (.iload_n 0, 5, 0, 0, 0, 0) := by decide +kernel
theorem i_J3_checkIndex_8e157_5 : fetch 230 5 = some (.iload_n 1, 6, 0, 0, 0, 0) := by decide +kernel
theorem i_J3_checkIndex_8e157_6 : fetch 230 6 = some (.if_icmp .lt 10, 9, 0, 0, 0, 0) := by decide +kernel
theorem i_J3_checkIndex_8e157_9 : fetch 230 9 = some (.aload_n 2, 10, 0, 0, 0, 0) := by decide +kernel
theorem i_J3_checkIndex_8e157_10 : fetch 230 10 = some (.iload_n 0, 11, 0, 0, 0, 0) := by decide +kernel
theorem i_J3_checkIndex_8e157_11 : fetch 230 11 = some (.iload_n 1, 12, 0, 0, 0, 0) := by decide +kernel
theorem i_J3_checkIndex_8e157_16 : fetch 230 16 = some (.iload_n 0, 17, 0, 0, 0, 0) := by decide +kernel
theorem i_J3_checkIndex_8e157_17 : fetch 230 17 = some (.ireturn, 18, 0, 0, 0, 0) := by decide +kernel
def f_J3_checkIndex_8e157_0 (v0 : Int32) (v1 : Int32) (h : Hp) : Option (Int32 × Hp) :=
  if v0 < 0 then
    none
  else
    if v0 < v1 then
      some (v0, h)
    else
      none
set_option maxRecDepth 100000 in
set_option maxHeartbeats 4000000 in
theorem r_J3_checkIndex_8e157_0 {X : Nat → Int32} {d : Nat} (hd : 0 ≤ d) {v0 : Int32} {v1 : Int32} {h : Hp} {o : (Int32 × Hp)} (hf : f_J3_checkIndex_8e157_0 v0 v1 h = some o) : Run X d 230 0 [some (.int v0), some (.int v1), some (.retAddr 0)] [] h (some (.int o.1), o.2) := by
  unfold f_J3_checkIndex_8e157_0 at hf
  refine rs_iload_n i_J3_checkIndex_8e157_0 rfl ?_
  by_cases c1 : v0 < 0
  · replace hf := (if_pos c1).symm.trans hf
    refine rs_ifT i_J3_checkIndex_8e157_1 (ct_lt c1) (tg := 9) (by decide) ?_
    cases hf
  · replace hf := (if_neg c1).symm.trans hf
    refine rs_ifF i_J3_checkIndex_8e157_1 (cf_lt c1) ?_
    refine rs_iload_n i_J3_checkIndex_8e157_4 rfl ?_
    refine rs_iload_n i_J3_checkIndex_8e157_5 rfl ?_
    by_cases c2 : v0 < v1
    · replace hf := (if_pos c2).symm.trans hf
      refine rs_icT i_J3_checkIndex_8e157_6 (ct_lt c2) (tg := 16) (by decide) ?_
      refine rs_iload_n i_J3_checkIndex_8e157_16 rfl ?_
      have hf := Option.some.inj hf
      subst hf
      exact rs_iret i_J3_checkIndex_8e157_17 m_J3_checkIndex_8e157 rfl
    · replace hf := (if_neg c2).symm.trans hf
      refine rs_icF i_J3_checkIndex_8e157_6 (cf_lt c2) ?_
      cases hf
def f_J3_checkIndex_8e157 (v0 : Int32) (v1 : Int32) (h : Hp) : Option (Int32 × Hp) := f_J3_checkIndex_8e157_0 v0 v1 h
theorem c_J3_checkIndex_8e157 {X : Nat → Int32} {d : Nat} (hd : 0 ≤ d) {v0 : Int32} {v1 : Int32} {h : Hp} {o : (Int32 × Hp)} (hf : f_J3_checkIndex_8e157 v0 v1 h = some o) : Calls X d 230 [.int v0, .int v1, .retAddr 0] h (some (.int o.1), o.2) := by
  exact ⟨_, rfl, r_J3_checkIndex_8e157_0 hd hf⟩
theorem i_J0_checkIndex_df160_0 : fetch 225 0 = some (.iload_n 0, 1, 0, 0, 0, 0) := by decide +kernel
theorem i_J0_checkIndex_df160_1 : fetch 225 1 = some (.iload_n 1, 2, 0, 0, 0, 0) := by decide +kernel
theorem i_J0_checkIndex_df160_2 : fetch 225 2 = some (.getstatic 1053, 5, 2, 0, 0, 311) := by decide +kernel
theorem i_J0_checkIndex_df160_5 : fetch 225 5 = some (.invokestatic 1059, 8, 230, 0, 0, 313) := by decide +kernel
theorem i_J0_checkIndex_df160_8 : fetch 225 8 = some (.pop, 9, 0, 0, 0, 0) := by decide +kernel
theorem i_J0_checkIndex_df160_9 : fetch 225 9 = some (.return_, 10, 0, 0, 0, 0) := by decide +kernel
def f_J0_checkIndex_df160_0 (v0 : Int32) (v1 : Int32) (h : Hp) : Option Hp :=
  (f_J3_checkIndex_8e157 v0 v1 h).bind fun o1 =>
  some o1.2
set_option maxRecDepth 100000 in
set_option maxHeartbeats 4000000 in
theorem r_J0_checkIndex_df160_0 {X : Nat → Int32} {d : Nat} (hd : 1 ≤ (d + 1)) {v0 : Int32} {v1 : Int32} {h : Hp} {o : Hp} (hf : f_J0_checkIndex_df160_0 v0 v1 h = some o) : Run X (d + 1) 225 0 [some (.int v0), some (.int v1)] [] h (none, o) := by
  unfold f_J0_checkIndex_df160_0 at hf
  refine rs_iload_n i_J0_checkIndex_df160_0 rfl ?_
  refine rs_iload_n i_J0_checkIndex_df160_1 rfl ?_
  refine rs_gst2 i_J0_checkIndex_df160_2 rfl ?_
  obtain ⟨o1, e1, hf⟩ := bind_some hf
  refine rs_inS i_J0_checkIndex_df160_5 (by decide) m_J3_checkIndex_8e157 rfl (As := [.int v0, .int v1, .retAddr 0]) (rest := []) rfl rfl (Nat.le_of_ble_eq_true rfl) (c_J3_checkIndex_8e157 (by omega) e1) (st' := [.int o1.1]) rfl ?_
  refine rs_pop i_J0_checkIndex_df160_8 rfl ?_
  have hf := Option.some.inj hf
  subst hf
  exact rs_vret i_J0_checkIndex_df160_9 m_J0_checkIndex_df160 rfl
def f_J0_checkIndex_df160 (v0 : Int32) (v1 : Int32) (h : Hp) : Option Hp := f_J0_checkIndex_df160_0 v0 v1 h
theorem c_J0_checkIndex_df160 {X : Nat → Int32} {d : Nat} (hd : 1 ≤ d) {v0 : Int32} {v1 : Int32} {h : Hp} {o : Hp} (hf : f_J0_checkIndex_df160 v0 v1 h = some o) : Calls X d 225 [.int v0, .int v1] h (none, o) := by
  obtain ⟨d, rfl⟩ : ∃ z, d = z + 1 := ⟨d - 1, by omega⟩
  exact ⟨_, rfl, r_J0_checkIndex_df160_0 hd hf⟩
theorem i_J1_charAt_3b067_0 : fetch 226 0 = some (.iload_n 1, 1, 0, 0, 0, 0) := by decide +kernel
theorem i_J1_charAt_3b067_1 : fetch 226 1 = some (.aload_n 0, 2, 0, 0, 0, 0) := by decide +kernel
theorem i_J1_charAt_3b067_2 : fetch 226 2 = some (.arraylength, 3, 0, 0, 0, 0) := by decide +kernel
theorem i_J1_charAt_3b067_3 : fetch 226 3 = some (.invokestatic 9, 6, 225, 0, 0, 308) := by decide +kernel
theorem i_J1_charAt_3b067_6 : fetch 226 6 = some (.aload_n 0, 7, 0, 0, 0, 0) := by decide +kernel
theorem i_J1_charAt_3b067_7 : fetch 226 7 = some (.iload_n 1, 8, 0, 0, 0, 0) := by decide +kernel
theorem i_J1_charAt_3b067_8 : fetch 226 8 = some (.baload, 9, 0, 0, 0, 0) := by decide +kernel
theorem i_J1_charAt_3b067_9 : fetch 226 9 = some (.sipush 255, 12, 0, 0, 0, 0) := by decide +kernel
theorem i_J1_charAt_3b067_12 : fetch 226 12 = some (.iand, 13, 0, 0, 0, 0) := by decide +kernel
theorem i_J1_charAt_3b067_13 : fetch 226 13 = some (.i2c, 14, 0, 0, 0, 0) := by decide +kernel
theorem i_J1_charAt_3b067_14 : fetch 226 14 = some (.ireturn, 15, 0, 0, 0, 0) := by decide +kernel
def f_J1_charAt_3b067_0 (v0 : Nat) (v1 : Int32) (h : Hp) : Option (Int32 × Hp) :=
  if (hk h v0).1 = 21 then
  (f_J0_checkIndex_df160 v1 (Int32.ofNat (hk h v0).2) h).bind fun o2 =>
  if okB o2 v0 v1 then
  if ¬ v0 = 14 then
  if narrow .char (.int (((Int32.toUInt32 ((roC v0 (ix v1)) &&& 255)) % 65536).toInt32)) = .int (((Int32.toUInt32 ((roC v0 (ix v1)) &&& 255)) % 65536).toInt32) then
  some ((((Int32.toUInt32 ((roC v0 (ix v1)) &&& 255)) % 65536).toInt32), o2)
  else none
  else none
  else none
  else none
set_option maxRecDepth 100000 in
set_option maxHeartbeats 4000000 in
theorem r_J1_charAt_3b067_0 {X : Nat → Int32} {d : Nat} (hd : 2 ≤ (d + 1)) {v0 : Nat} {v1 : Int32} {h : Hp} {o : (Int32 × Hp)} (hf : f_J1_charAt_3b067_0 v0 v1 h = some o) : Run X (d + 1) 226 0 [some (.ref v0), some (.int v1)] [] h (some (.int o.1), o.2) := by
  unfold f_J1_charAt_3b067_0 at hf
  refine rs_iload_n i_J1_charAt_3b067_0 rfl ?_
  refine rs_aload_n i_J1_charAt_3b067_1 rfl ?_
  obtain ⟨c1, hf⟩ := ite_some hf
  refine rs_alB i_J1_charAt_3b067_2 c1 ?_
  obtain ⟨o2, e2, hf⟩ := bind_some hf
  refine rs_inS i_J1_charAt_3b067_3 (by decide) m_J0_checkIndex_df160 rfl (As := [.int v1, .int (Int32.ofNat (hk h v0).2)]) (rest := []) rfl rfl (Nat.le_of_ble_eq_true rfl) (c_J0_checkIndex_df160 (by omega) e2) (st' := []) rfl ?_
  refine rs_aload_n i_J1_charAt_3b067_6 rfl ?_
  refine rs_iload_n i_J1_charAt_3b067_7 rfl ?_
  obtain ⟨c3, hf⟩ := ite_some hf
  obtain ⟨c4, hf⟩ := ite_some hf
  refine rs_bald i_J1_charAt_3b067_8 c3 c4 ?_
  refine rs_sipush i_J1_charAt_3b067_9 (v := 255) (by decide) ?_
  refine rs_iand i_J1_charAt_3b067_12 ?_
  refine rs_i2c i_J1_charAt_3b067_13 ?_
  obtain ⟨c5, hf⟩ := ite_some hf
  have hf := Option.some.inj hf
  subst hf
  exact rs_iret i_J1_charAt_3b067_14 m_J1_charAt_3b067 (decide_eq_true c5)
def f_J1_charAt_3b067 (v0 : Nat) (v1 : Int32) (h : Hp) : Option (Int32 × Hp) := f_J1_charAt_3b067_0 v0 v1 h
theorem c_J1_charAt_3b067 {X : Nat → Int32} {d : Nat} (hd : 2 ≤ d) {v0 : Nat} {v1 : Int32} {h : Hp} {o : (Int32 × Hp)} (hf : f_J1_charAt_3b067 v0 v1 h = some o) : Calls X d 226 [.ref v0, .int v1] h (some (.int o.1), o.2) := by
  obtain ⟨d, rfl⟩ : ∃ z, d = z + 1 := ⟨d - 1, by omega⟩
  exact ⟨_, rfl, r_J1_charAt_3b067_0 hd hf⟩
theorem i_J0_charAt_5068e_0 : fetch 220 0 = some (.aload_n 0, 1, 0, 0, 0, 0) := by decide +kernel
theorem i_J0_charAt_5068e_1 : fetch 220 1 = some (.invokevirtual 492, 4, 224, 0, 0, 301) := by decide +kernel
theorem i_J0_charAt_5068e_4 : fetch 220 4 = some (.ifCond .eq 12, 7, 0, 0, 0, 0) := by decide +kernel
theorem i_J0_charAt_5068e_7 : fetch 220 7 = some (.aload_n 0, 8, 0, 0, 0, 0) := by decide +kernel
theorem i_J0_charAt_5068e_8 : fetch 220 8 = some (.getfield 9, 11, 20, 0, 0, 1503) := by decide +kernel
theorem i_J0_charAt_5068e_11 : fetch 220 11 = some (.iload_n 1, 12, 0, 0, 0, 0) := by decide +kernel
theorem i_J0_charAt_5068e_12 : fetch 220 12 = some (.invokestatic 495, 15, 226, 0, 0, 305) := by decide +kernel
theorem i_J0_charAt_5068e_15 : fetch 220 15 = some (.ireturn, 16, 0, 0, 0, 0) := by decide +kernel
theorem i_J0_charAt_5068e_16 : fetch 220 16 = some (.aload_n 0, 17, 0, 0, 0, 0) := by decide +kernel
theorem i_J0_charAt_5068e_17 : fetch 220 17 = some (.getfield 9, 20, 20, 0, 0, 1503) := by decide +kernel
theorem i_J0_charAt_5068e_20 : fetch 220 20 = some (.iload_n 1, 21, 0, 0, 0, 0) := by decide +kernel
def f_J0_charAt_5068e_0 (v0 : Nat) (v1 : Int32) (h : Hp) : Option (Int32 × Hp) :=
  if hk h v0 = (20, 2) then
  (f_J0_isLatin1_aae02 v0 h).bind fun o1 =>
  if o1.1 = 0 then
    if hk o1.2 v0 = (20, 2) then
    none
    else none
  else
    if hk o1.2 v0 = (20, 2) then
    (f_J1_charAt_3b067 (v0 + 3) v1 o1.2).bind fun o6 =>
    if narrow .char (.int o6.1) = .int o6.1 then
    some (o6.1, o6.2)
    else none
    else none
  else none
set_option maxRecDepth 100000 in
set_option maxHeartbeats 4000000 in
theorem r_J0_charAt_5068e_0 {X : Nat → Int32} {d : Nat} (hd : 3 ≤ (d + 1)) {v0 : Nat} {v1 : Int32} {h : Hp} {o : (Int32 × Hp)} (hf : f_J0_charAt_5068e_0 v0 v1 h = some o) : Run X (d + 1) 220 0 [some (.ref v0), some (.int v1)] [] h (some (.int o.1), o.2) := by
  unfold f_J0_charAt_5068e_0 at hf
  refine rs_aload_n i_J0_charAt_5068e_0 rfl ?_
  obtain ⟨c2, hf⟩ := ite_some hf
  obtain ⟨o1, e1, hf⟩ := bind_some hf
  refine rs_inV i_J0_charAt_5068e_1 m_J0_isLatin1_aae02 rfl (As := []) (rest := []) rfl rfl (Nat.le_of_ble_eq_true rfl) c2 (c_J0_isLatin1_aae02 (by omega) e1) (st' := [.int o1.1]) rfl ?_
  by_cases c3 : o1.1 = 0
  · replace hf := (if_pos c3).symm.trans hf
    refine rs_ifT i_J0_charAt_5068e_4 (ct_eq c3) (tg := 16) (by decide) ?_
    refine rs_aload_n i_J0_charAt_5068e_16 rfl ?_
    obtain ⟨c4, hf⟩ := ite_some hf
    cases hf
  · replace hf := (if_neg c3).symm.trans hf
    refine rs_ifF i_J0_charAt_5068e_4 (cf_eq c3) ?_
    refine rs_aload_n i_J0_charAt_5068e_7 rfl ?_
    obtain ⟨c5, hf⟩ := ite_some hf
    refine rs_getSv i_J0_charAt_5068e_8 c5 ?_
    refine rs_iload_n i_J0_charAt_5068e_11 rfl ?_
    obtain ⟨o6, e6, hf⟩ := bind_some hf
    refine rs_inS i_J0_charAt_5068e_12 (by decide) m_J1_charAt_3b067 rfl (As := [.ref (v0 + 3), .int v1]) (rest := []) rfl rfl (Nat.le_of_ble_eq_true rfl) (c_J1_charAt_3b067 (by omega) e6) (st' := [.int o6.1]) rfl ?_
    obtain ⟨c7, hf⟩ := ite_some hf
    have hf := Option.some.inj hf
    subst hf
    exact rs_iret i_J0_charAt_5068e_15 m_J0_charAt_5068e (decide_eq_true c7)
def f_J0_charAt_5068e (v0 : Nat) (v1 : Int32) (h : Hp) : Option (Int32 × Hp) := f_J0_charAt_5068e_0 v0 v1 h
theorem c_J0_charAt_5068e {X : Nat → Int32} {d : Nat} (hd : 3 ≤ d) {v0 : Nat} {v1 : Int32} {h : Hp} {o : (Int32 × Hp)} (hf : f_J0_charAt_5068e v0 v1 h = some o) : Calls X d 220 [.ref v0, .int v1] h (some (.int o.1), o.2) := by
  obtain ⟨d, rfl⟩ : ∃ z, d = z + 1 := ⟨d - 1, by omega⟩
  exact ⟨_, rfl, r_J0_charAt_5068e_0 hd hf⟩
theorem i_X2_isWord_0 : fetch 26 0 = some (.aload_n 0, 1, 0, 0, 0, 0) := by decide +kernel
theorem i_X2_isWord_1 : fetch 26 1 = some (.getfield 19, 4, 2, 2, 0, 125) := by decide +kernel
theorem i_X2_isWord_4 : fetch 26 4 = some (.aload_n 0, 5, 0, 0, 0, 0) := by decide +kernel
theorem i_X2_isWord_5 : fetch 26 5 = some (.getfield 25, 8, 2, 4, 0, 127) := by decide +kernel
theorem i_X2_isWord_8 : fetch 26 8 = some (.isub, 9, 0, 0, 0, 0) := by decide +kernel
theorem i_X2_isWord_9 : fetch 26 9 = some (.bipush 6, 11, 0, 0, 0, 0) := by decide +kernel
theorem i_X2_isWord_11 : fetch 26 11 = some (.if_icmp .le 5, 14, 0, 0, 0, 0) := by decide +kernel
theorem i_X2_isWord_14 : fetch 26 14 = some (.iconst 0, 15, 0, 0, 0, 0) := by decide +kernel
theorem i_X2_isWord_15 : fetch 26 15 = some (.ireturn, 16, 0, 0, 0, 0) := by decide +kernel
theorem i_X2_isWord_16 : fetch 26 16 = some (.iconst 0, 17, 0, 0, 0, 0) := by decide +kernel
theorem i_X2_isWord_17 : fetch 26 17 = some (.istore_n 2, 18, 0, 0, 0, 0) := by decide +kernel
theorem i_X2_isWord_18 : fetch 26 18 = some (.iload_n 2, 19, 0, 0, 0, 0) := by decide +kernel
theorem i_X2_isWord_19 : fetch 26 19 = some (.bipush 6, 21, 0, 0, 0, 0) := by decide +kernel
theorem i_X2_isWord_21 : fetch 26 21 = some (.if_icmp .ge 74, 24, 0, 0, 0, 0) := by decide +kernel
theorem i_X2_isWord_24 : fetch 26 24 = some (.aload_n 0, 25, 0, 0, 0, 0) := by decide +kernel
theorem i_X2_isWord_25 : fetch 26 25 = some (.getfield 25, 28, 2, 4, 0, 127) := by decide +kernel
theorem i_X2_isWord_28 : fetch 26 28 = some (.iload_n 2, 29, 0, 0, 0, 0) := by decide +kernel
theorem i_X2_isWord_29 : fetch 26 29 = some (.iadd, 30, 0, 0, 0, 0) := by decide +kernel
theorem i_X2_isWord_30 : fetch 26 30 = some (.aload_n 0, 31, 0, 0, 0, 0) := by decide +kernel
theorem i_X2_isWord_31 : fetch 26 31 = some (.getfield 19, 34, 2, 2, 0, 125) := by decide +kernel
theorem i_X2_isWord_34 : fetch 26 34 = some (.if_icmp .ge 16, 37, 0, 0, 0, 0) := by decide +kernel
theorem i_X2_isWord_37 : fetch 26 37 = some (.aload_n 0, 38, 0, 0, 0, 0) := by decide +kernel
theorem i_X2_isWord_38 : fetch 26 38 = some (.aload_n 0, 39, 0, 0, 0, 0) := by decide +kernel
theorem i_X2_isWord_39 : fetch 26 39 = some (.getfield 25, 42, 2, 4, 0, 127) := by decide +kernel
theorem i_X2_isWord_42 : fetch 26 42 = some (.iload_n 2, 43, 0, 0, 0, 0) := by decide +kernel
theorem i_X2_isWord_43 : fetch 26 43 = some (.iadd, 44, 0, 0, 0, 0) := by decide +kernel
theorem i_X2_isWord_44 : fetch 26 44 = some (.invokevirtual 72, 47, 21, 0, 0, 351) := by decide +kernel
theorem i_X2_isWord_47 : fetch 26 47 = some (.goto 5, 50, 0, 0, 0, 0) := by decide +kernel
theorem i_X2_isWord_50 : fetch 26 50 = some (.bipush 32, 52, 0, 0, 0, 0) := by decide +kernel
theorem i_X2_isWord_52 : fetch 26 52 = some (.istore_n 3, 53, 0, 0, 0, 0) := by decide +kernel
theorem i_X2_isWord_53 : fetch 26 53 = some (.iload_n 1, 54, 0, 0, 0, 0) := by decide +kernel
theorem i_X2_isWord_54 : fetch 26 54 = some (.bipush 6, 56, 0, 0, 0, 0) := by decide +kernel
theorem i_X2_isWord_56 : fetch 26 56 = some (.imul, 57, 0, 0, 0, 0) := by decide +kernel
theorem i_X2_isWord_57 : fetch 26 57 = some (.iload_n 2, 58, 0, 0, 0, 0) := by decide +kernel
theorem i_X2_isWord_58 : fetch 26 58 = some (.iadd, 59, 0, 0, 0, 0) := by decide +kernel
theorem i_X2_isWord_59 : fetch 26 59 = some (.istore 4, 61, 0, 0, 0, 0) := by decide +kernel
theorem i_X2_isWord_61 : fetch 26 61 = some (.iload 4, 63, 0, 0, 0, 0) := by decide +kernel
theorem i_X2_isWord_63 : fetch 26 63 = some (.ifCond .lt 24, 66, 0, 0, 0, 0) := by decide +kernel
theorem i_X2_isWord_66 : fetch 26 66 = some (.iload 4, 68, 0, 0, 0, 0) := by decide +kernel
theorem i_X2_isWord_68 : fetch 26 68 = some (.ldc 102, 70, 2, 0, 0, 0) := by decide +kernel
theorem i_X2_isWord_70 : fetch 26 70 = some (.invokevirtual 104, 73, 219, 0, 0, 370) := by decide +kernel
theorem i_X2_isWord_73 : fetch 26 73 = some (.if_icmp .ge 14, 76, 0, 0, 0, 0) := by decide +kernel
theorem i_X2_isWord_76 : fetch 26 76 = some (.ldc 102, 78, 2, 0, 0, 0) := by decide +kernel
theorem i_X2_isWord_78 : fetch 26 78 = some (.iload 4, 80, 0, 0, 0, 0) := by decide +kernel
theorem i_X2_isWord_80 : fetch 26 80 = some (.invokevirtual 108, 83, 220, 0, 0, 371) := by decide +kernel
theorem i_X2_isWord_83 : fetch 26 83 = some (.iload_n 3, 84, 0, 0, 0, 0) := by decide +kernel
theorem i_X2_isWord_84 : fetch 26 84 = some (.if_icmp .eq 5, 87, 0, 0, 0, 0) := by decide +kernel
theorem i_X2_isWord_87 : fetch 26 87 = some (.iconst 0, 88, 0, 0, 0, 0) := by decide +kernel
theorem i_X2_isWord_88 : fetch 26 88 = some (.ireturn, 89, 0, 0, 0, 0) := by decide +kernel
theorem i_X2_isWord_89 : fetch 26 89 = some (.iinc 2 1, 92, 0, 0, 0, 0) := by decide +kernel
theorem i_X2_isWord_92 : fetch 26 92 = some (.goto (-74), 95, 0, 0, 0, 0) := by decide +kernel
theorem i_X2_isWord_95 : fetch 26 95 = some (.iconst 1, 96, 0, 0, 0, 0) := by decide +kernel
theorem i_X2_isWord_96 : fetch 26 96 = some (.ireturn, 97, 0, 0, 0, 0) := by decide +kernel
def f_X2_isWord_52 (n : Nat) (K18 : Nat → Int32 → Int32 → Hp → Option (Int32 × Hp)) (v0 : Nat) (v1 : Int32) (v2 : Int32) (s0 : Int32) (h : Hp) : Option (Int32 × Hp) :=
  if ((v1 * 6) + v2) < 0 then
    some (0, h)
  else
    if hk h 2 = (20, 2) then
    (f_J0_length_8abf5 2 h).bind fun o2 =>
    if o2.1 ≤ ((v1 * 6) + v2) then
      some (0, o2.2)
    else
      if hk o2.2 2 = (20, 2) then
      (f_J0_charAt_5068e 2 ((v1 * 6) + v2) o2.2).bind fun o5 =>
      if o5.1 = s0 then
        K18 v0 v1 (v2 + 1) o5.2
      else
        some (0, o5.2)
      else none
    else none
set_option maxRecDepth 100000 in
set_option maxHeartbeats 4000000 in
theorem r_X2_isWord_52 {X : Nat → Int32} {d : Nat} (hd : 4 ≤ (d + 1)) {n : Nat} {K18 : Nat → Int32 → Int32 → Hp → Option (Int32 × Hp)} (HK18 : ∀ (v0 : Nat) (v1 : Int32) (v2 : Int32) (w3 : Option Value) (w4 : Option Value) (h : Hp) (o : (Int32 × Hp)), K18 v0 v1 v2 h = some o → Run X (d + 1) 26 18 [some (.ref v0), some (.int v1), some (.int v2), w3, w4] [] h (some (.int o.1), o.2)) {v0 : Nat} {v1 : Int32} {v2 : Int32} {s0 : Int32} {w3 : Option Value} {w4 : Option Value} {h : Hp} {o : (Int32 × Hp)} (hf : f_X2_isWord_52 n K18 v0 v1 v2 s0 h = some o) : Run X (d + 1) 26 52 [some (.ref v0), some (.int v1), some (.int v2), w3, w4] [.int s0] h (some (.int o.1), o.2) := by
  unfold f_X2_isWord_52 at hf
  refine rs_istore_n i_X2_isWord_52 (Nat.le_of_ble_eq_true rfl) (lv' := [some (.ref v0), some (.int v1), some (.int v2), some (.int s0), w4]) rfl ?_
  refine rs_iload_n i_X2_isWord_53 rfl ?_
  refine rs_bipush i_X2_isWord_54 (v := 6) (by decide) ?_
  refine rs_imul i_X2_isWord_56 ?_
  refine rs_iload_n i_X2_isWord_57 rfl ?_
  refine rs_iadd i_X2_isWord_58 ?_
  refine rs_istore i_X2_isWord_59 (Nat.le_of_ble_eq_true rfl) (lv' := [some (.ref v0), some (.int v1), some (.int v2), some (.int s0), some (.int ((v1 * 6) + v2))]) rfl ?_
  refine rs_iload i_X2_isWord_61 rfl ?_
  by_cases c1 : ((v1 * 6) + v2) < 0
  · replace hf := (if_pos c1).symm.trans hf
    refine rs_ifT i_X2_isWord_63 (ct_lt c1) (tg := 87) (by decide) ?_
    refine rs_iconst i_X2_isWord_87 (v := 0) (by decide) ?_
    have hf := Option.some.inj hf
    subst hf
    exact rs_iret i_X2_isWord_88 m_X2_isWord (by decide)
  · replace hf := (if_neg c1).symm.trans hf
    refine rs_ifF i_X2_isWord_63 (cf_lt c1) ?_
    refine rs_iload i_X2_isWord_66 rfl ?_
    refine rs_ldcS i_X2_isWord_68 (by decide) ?_
    obtain ⟨c3, hf⟩ := ite_some hf
    obtain ⟨o2, e2, hf⟩ := bind_some hf
    refine rs_inV i_X2_isWord_70 m_J0_length_8abf5 rfl (As := []) (rest := [.int ((v1 * 6) + v2)]) rfl rfl (Nat.le_of_ble_eq_true rfl) c3 (c_J0_length_8abf5 (by omega) e2) (st' := [.int o2.1, .int ((v1 * 6) + v2)]) rfl ?_
    by_cases c4 : o2.1 ≤ ((v1 * 6) + v2)
    · replace hf := (if_pos c4).symm.trans hf
      refine rs_icT i_X2_isWord_73 (ct_ge c4) (tg := 87) (by decide) ?_
      refine rs_iconst i_X2_isWord_87 (v := 0) (by decide) ?_
      have hf := Option.some.inj hf
      subst hf
      exact rs_iret i_X2_isWord_88 m_X2_isWord (by decide)
    · replace hf := (if_neg c4).symm.trans hf
      refine rs_icF i_X2_isWord_73 (cf_ge c4) ?_
      refine rs_ldcS i_X2_isWord_76 (by decide) ?_
      refine rs_iload i_X2_isWord_78 rfl ?_
      obtain ⟨c6, hf⟩ := ite_some hf
      obtain ⟨o5, e5, hf⟩ := bind_some hf
      refine rs_inV i_X2_isWord_80 m_J0_charAt_5068e rfl (As := [.int ((v1 * 6) + v2)]) (rest := []) rfl rfl (Nat.le_of_ble_eq_true rfl) c6 (c_J0_charAt_5068e (by omega) e5) (st' := [.int o5.1]) rfl ?_
      refine rs_iload_n i_X2_isWord_83 rfl ?_
      by_cases c7 : o5.1 = s0
      · replace hf := (if_pos c7).symm.trans hf
        refine rs_icT i_X2_isWord_84 (ct_eq c7) (tg := 89) (by decide) ?_
        refine rs_iinc i_X2_isWord_89 rfl (v := v2 + 1) rfl (Nat.le_of_ble_eq_true rfl) (lv' := [some (.ref v0), some (.int v1), some (.int (v2 + 1)), some (.int s0), some (.int ((v1 * 6) + v2))]) rfl ?_
        refine rs_goto i_X2_isWord_92 (tg := 18) (by decide) ?_
        exact HK18 _ _ _ _ _ _ _ hf
      · replace hf := (if_neg c7).symm.trans hf
        refine rs_icF i_X2_isWord_84 (cf_eq c7) ?_
        refine rs_iconst i_X2_isWord_87 (v := 0) (by decide) ?_
        have hf := Option.some.inj hf
        subst hf
        exact rs_iret i_X2_isWord_88 m_X2_isWord (by decide)
def f_X2_isWord_18 (n : Nat) : Nat → Nat → Int32 → Int32 → Hp → Option (Int32 × Hp)
  | 0, _, _, _, _ => none
  | m + 1, v0, v1, v2, h =>
    if 6 ≤ v2 then
      some (1, h)
    else
      if okO h v0 2 then
      if (gI h v0 2) ≤ ((gI h v0 4) + v2) then
        f_X2_isWord_52 n (f_X2_isWord_18 n m) v0 v1 v2 32 h
      else
        (f_X2_byteAt v0 ((gI h v0 4) + v2) h).bind fun o4 =>
        f_X2_isWord_52 n (f_X2_isWord_18 n m) v0 v1 v2 o4.1 o4.2
      else none
set_option maxRecDepth 100000 in
set_option maxHeartbeats 4000000 in
theorem r_X2_isWord_18 {X : Nat → Int32} {d : Nat} (hd : 4 ≤ (d + 1)) {n : Nat} : ∀ (m : Nat) (v0 : Nat) (v1 : Int32) (v2 : Int32) (w3 : Option Value) (w4 : Option Value) (h : Hp) (o : (Int32 × Hp)), f_X2_isWord_18 n m v0 v1 v2 h = some o → Run X (d + 1) 26 18 [some (.ref v0), some (.int v1), some (.int v2), w3, w4] [] h (some (.int o.1), o.2) := by
  intro m
  induction m with
  | zero => intro v0 v1 v2 w3 w4 h o hf; cases hf
  | succ m ih =>
    intro v0 v1 v2 w3 w4 h o hf
    rw [f_X2_isWord_18] at hf
    refine rs_iload_n i_X2_isWord_18 rfl ?_
    refine rs_bipush i_X2_isWord_19 (v := 6) (by decide) ?_
    by_cases c1 : 6 ≤ v2
    · replace hf := (if_pos c1).symm.trans hf
      refine rs_icT i_X2_isWord_21 (ct_ge c1) (tg := 95) (by decide) ?_
      refine rs_iconst i_X2_isWord_95 (v := 1) (by decide) ?_
      have hf := Option.some.inj hf
      subst hf
      exact rs_iret i_X2_isWord_96 m_X2_isWord (by decide)
    · replace hf := (if_neg c1).symm.trans hf
      refine rs_icF i_X2_isWord_21 (cf_ge c1) ?_
      refine rs_aload_n i_X2_isWord_24 rfl ?_
      obtain ⟨c2, hf⟩ := ite_some hf
      refine rs_getI i_X2_isWord_25 (by decide) (by decide) c2 ?_
      refine rs_iload_n i_X2_isWord_28 rfl ?_
      refine rs_iadd i_X2_isWord_29 ?_
      refine rs_aload_n i_X2_isWord_30 rfl ?_
      refine rs_getI i_X2_isWord_31 (by decide) (by decide) c2 ?_
      by_cases c3 : (gI h v0 2) ≤ ((gI h v0 4) + v2)
      · replace hf := (if_pos c3).symm.trans hf
        refine rs_icT i_X2_isWord_34 (ct_ge c3) (tg := 50) (by decide) ?_
        refine rs_bipush i_X2_isWord_50 (v := 32) (by decide) ?_
        exact r_X2_isWord_52 hd ih hf
      · replace hf := (if_neg c3).symm.trans hf
        refine rs_icF i_X2_isWord_34 (cf_ge c3) ?_
        refine rs_aload_n i_X2_isWord_37 rfl ?_
        refine rs_aload_n i_X2_isWord_38 rfl ?_
        refine rs_getI i_X2_isWord_39 (by decide) (by decide) c2 ?_
        refine rs_iload_n i_X2_isWord_42 rfl ?_
        refine rs_iadd i_X2_isWord_43 ?_
        obtain ⟨o4, e4, hf⟩ := bind_some hf
        refine rs_inV i_X2_isWord_44 m_X2_byteAt rfl (As := [.int ((gI h v0 4) + v2)]) (rest := []) rfl rfl (Nat.le_of_ble_eq_true rfl) c2 (c_X2_byteAt (by omega) e4) (st' := [.int o4.1]) rfl ?_
        refine rs_goto i_X2_isWord_47 (tg := 52) (by decide) ?_
        exact r_X2_isWord_52 hd ih hf
def f_X2_isWord_0 (n : Nat) (v0 : Nat) (v1 : Int32) (h : Hp) : Option (Int32 × Hp) :=
  if okO h v0 2 then
  if ((gI h v0 2) - (gI h v0 4)) ≤ 6 then
    f_X2_isWord_18 n n v0 v1 0 h
  else
    some (0, h)
  else none
set_option maxRecDepth 100000 in
set_option maxHeartbeats 4000000 in
theorem r_X2_isWord_0 {X : Nat → Int32} {d : Nat} (hd : 4 ≤ (d + 1)) {n : Nat} {v0 : Nat} {v1 : Int32} {h : Hp} {o : (Int32 × Hp)} (hf : f_X2_isWord_0 n v0 v1 h = some o) : Run X (d + 1) 26 0 [some (.ref v0), some (.int v1), none, none, none] [] h (some (.int o.1), o.2) := by
  unfold f_X2_isWord_0 at hf
  refine rs_aload_n i_X2_isWord_0 rfl ?_
  obtain ⟨c1, hf⟩ := ite_some hf
  refine rs_getI i_X2_isWord_1 (by decide) (by decide) c1 ?_
  refine rs_aload_n i_X2_isWord_4 rfl ?_
  refine rs_getI i_X2_isWord_5 (by decide) (by decide) c1 ?_
  refine rs_isub i_X2_isWord_8 ?_
  refine rs_bipush i_X2_isWord_9 (v := 6) (by decide) ?_
  by_cases c2 : ((gI h v0 2) - (gI h v0 4)) ≤ 6
  · replace hf := (if_pos c2).symm.trans hf
    refine rs_icT i_X2_isWord_11 (ct_le c2) (tg := 16) (by decide) ?_
    refine rs_iconst i_X2_isWord_16 (v := 0) (by decide) ?_
    refine rs_istore_n i_X2_isWord_17 (Nat.le_of_ble_eq_true rfl) (lv' := [some (.ref v0), some (.int v1), some (.int 0), none, none]) rfl ?_
    exact r_X2_isWord_18 hd _ _ _ _ _ _ _ _ hf
  · replace hf := (if_neg c2).symm.trans hf
    refine rs_icF i_X2_isWord_11 (cf_le c2) ?_
    refine rs_iconst i_X2_isWord_14 (v := 0) (by decide) ?_
    have hf := Option.some.inj hf
    subst hf
    exact rs_iret i_X2_isWord_15 m_X2_isWord (by decide)
def f_X2_isWord (n : Nat) (v0 : Nat) (v1 : Int32) (h : Hp) : Option (Int32 × Hp) := f_X2_isWord_0 n v0 v1 h
theorem c_X2_isWord {X : Nat → Int32} {d : Nat} (hd : 4 ≤ d) {n : Nat} {v0 : Nat} {v1 : Int32} {h : Hp} {o : (Int32 × Hp)} (hf : f_X2_isWord n v0 v1 h = some o) : Calls X d 26 [.ref v0, .int v1] h (some (.int o.1), o.2) := by
  obtain ⟨d, rfl⟩ : ∃ z, d = z + 1 := ⟨d - 1, by omega⟩
  exact ⟨_, rfl, r_X2_isWord_0 hd hf⟩
theorem i_X2_readWord_0 : fetch 25 0 = some (.iconst 0, 1, 0, 0, 0, 0) := by decide +kernel
theorem i_X2_readWord_1 : fetch 25 1 = some (.istore_n 1, 2, 0, 0, 0, 0) := by decide +kernel
theorem i_X2_readWord_2 : fetch 25 2 = some (.iload_n 1, 3, 0, 0, 0, 0) := by decide +kernel
theorem i_X2_readWord_3 : fetch 25 3 = some (.sipush 160, 6, 0, 0, 0, 0) := by decide +kernel
theorem i_X2_readWord_6 : fetch 25 6 = some (.if_icmp .ge 33, 9, 0, 0, 0, 0) := by decide +kernel
theorem i_X2_readWord_9 : fetch 25 9 = some (.aload_n 0, 10, 0, 0, 0, 0) := by decide +kernel
theorem i_X2_readWord_10 : fetch 25 10 = some (.aload_n 0, 11, 0, 0, 0, 0) := by decide +kernel
theorem i_X2_readWord_11 : fetch 25 11 = some (.getfield 19, 14, 2, 2, 0, 125) := by decide +kernel
theorem i_X2_readWord_14 : fetch 25 14 = some (.invokevirtual 72, 17, 21, 0, 0, 351) := by decide +kernel
theorem i_X2_readWord_17 : fetch 25 17 = some (.invokestatic 75, 20, 22, 0, 0, 355) := by decide +kernel
theorem i_X2_readWord_20 : fetch 25 20 = some (.ifCond .eq 19, 23, 0, 0, 0, 0) := by decide +kernel
theorem i_X2_readWord_23 : fetch 25 23 = some (.aload_n 0, 24, 0, 0, 0, 0) := by decide +kernel
theorem i_X2_readWord_24 : fetch 25 24 = some (.dup, 25, 0, 0, 0, 0) := by decide +kernel
theorem i_X2_readWord_25 : fetch 25 25 = some (.getfield 19, 28, 2, 2, 0, 125) := by decide +kernel
theorem i_X2_readWord_28 : fetch 25 28 = some (.iconst 1, 29, 0, 0, 0, 0) := by decide +kernel
theorem i_X2_readWord_29 : fetch 25 29 = some (.iadd, 30, 0, 0, 0, 0) := by decide +kernel
theorem i_X2_readWord_30 : fetch 25 30 = some (.putfield 19, 33, 2, 2, 0, 125) := by decide +kernel
theorem i_X2_readWord_33 : fetch 25 33 = some (.iinc 1 1, 36, 0, 0, 0, 0) := by decide +kernel
theorem i_X2_readWord_36 : fetch 25 36 = some (.goto (-34), 39, 0, 0, 0, 0) := by decide +kernel
theorem i_X2_readWord_39 : fetch 25 39 = some (.aload_n 0, 40, 0, 0, 0, 0) := by decide +kernel
theorem i_X2_readWord_40 : fetch 25 40 = some (.iconst 1, 41, 0, 0, 0, 0) := by decide +kernel
theorem i_X2_readWord_41 : fetch 25 41 = some (.putfield 22, 44, 2, 3, 0, 126) := by decide +kernel
theorem i_X2_readWord_44 : fetch 25 44 = some (.iconst 0, 45, 0, 0, 0, 0) := by decide +kernel
theorem i_X2_readWord_45 : fetch 25 45 = some (.istore_n 1, 46, 0, 0, 0, 0) := by decide +kernel
theorem i_X2_readWord_46 : fetch 25 46 = some (.iload_n 1, 47, 0, 0, 0, 0) := by decide +kernel
theorem i_X2_readWord_47 : fetch 25 47 = some (.bipush 12, 49, 0, 0, 0, 0) := by decide +kernel
theorem i_X2_readWord_49 : fetch 25 49 = some (.if_icmp .ge 51, 52, 0, 0, 0, 0) := by decide +kernel
theorem i_X2_readWord_52 : fetch 25 52 = some (.aload_n 0, 53, 0, 0, 0, 0) := by decide +kernel
theorem i_X2_readWord_53 : fetch 25 53 = some (.getfield 22, 56, 2, 3, 0, 126) := by decide +kernel
theorem i_X2_readWord_56 : fetch 25 56 = some (.iconst 1, 57, 0, 0, 0, 0) := by decide +kernel
theorem i_X2_readWord_57 : fetch 25 57 = some (.if_icmp .ne 43, 60, 0, 0, 0, 0) := by decide +kernel
theorem i_X2_readWord_60 : fetch 25 60 = some (.aload_n 0, 61, 0, 0, 0, 0) := by decide +kernel
theorem i_X2_readWord_61 : fetch 25 61 = some (.iload_n 1, 62, 0, 0, 0, 0) := by decide +kernel
theorem i_X2_readWord_62 : fetch 25 62 = some (.invokevirtual 99, 65, 26, 0, 0, 365) := by decide +kernel
theorem i_X2_readWord_65 : fetch 25 65 = some (.ifCond .eq 29, 68, 0, 0, 0, 0) := by decide +kernel
theorem i_X2_readWord_68 : fetch 25 68 = some (.aload_n 0, 69, 0, 0, 0, 0) := by decide +kernel
theorem i_X2_readWord_69 : fetch 25 69 = some (.iload_n 1, 70, 0, 0, 0, 0) := by decide +kernel
theorem i_X2_readWord_70 : fetch 25 70 = some (.bipush 6, 72, 0, 0, 0, 0) := by decide +kernel
theorem i_X2_readWord_72 : fetch 25 72 = some (.if_icmp .ge 10, 75, 0, 0, 0, 0) := by decide +kernel
theorem i_X2_readWord_75 : fetch 25 75 = some (.bipush 10, 77, 0, 0, 0, 0) := by decide +kernel
theorem i_X2_readWord_77 : fetch 25 77 = some (.iload_n 1, 78, 0, 0, 0, 0) := by decide +kernel
theorem i_X2_readWord_78 : fetch 25 78 = some (.iadd, 79, 0, 0, 0, 0) := by decide +kernel
theorem i_X2_readWord_79 : fetch 25 79 = some (.goto 4, 82, 0, 0, 0, 0) := by decide +kernel
theorem i_X2_readWord_82 : fetch 25 82 = some (.iconst 3, 83, 0, 0, 0, 0) := by decide +kernel
theorem i_X2_readWord_83 : fetch 25 83 = some (.putfield 22, 86, 2, 3, 0, 126) := by decide +kernel
theorem i_X2_readWord_86 : fetch 25 86 = some (.aload_n 0, 87, 0, 0, 0, 0) := by decide +kernel
theorem i_X2_readWord_87 : fetch 25 87 = some (.iload_n 1, 88, 0, 0, 0, 0) := by decide +kernel
theorem i_X2_readWord_88 : fetch 25 88 = some (.bipush 6, 90, 0, 0, 0, 0) := by decide +kernel
theorem i_X2_readWord_90 : fetch 25 90 = some (.isub, 91, 0, 0, 0, 0) := by decide +kernel
theorem i_X2_readWord_91 : fetch 25 91 = some (.putfield 28, 94, 2, 5, 0, 128) := by decide +kernel
theorem i_X2_readWord_94 : fetch 25 94 = some (.iinc 1 1, 97, 0, 0, 0, 0) := by decide +kernel
theorem i_X2_readWord_97 : fetch 25 97 = some (.goto (-51), 100, 0, 0, 0, 0) := by decide +kernel
theorem i_X2_readWord_100 : fetch 25 100 = some (.return_, 101, 0, 0, 0, 0) := by decide +kernel
def f_X2_readWord_94 (n : Nat) (K46 : Nat → Int32 → Hp → Option Hp) (v0 : Nat) (v1 : Int32) (h : Hp) : Option Hp :=
  K46 v0 (v1 + 1) h
set_option maxRecDepth 100000 in
set_option maxHeartbeats 4000000 in
theorem r_X2_readWord_94 {X : Nat → Int32} {d : Nat} (hd : 5 ≤ (d + 1)) {n : Nat} {K46 : Nat → Int32 → Hp → Option Hp} (HK46 : ∀ (v0 : Nat) (v1 : Int32) (h : Hp) (o : Hp), K46 v0 v1 h = some o → Run X (d + 1) 25 46 [some (.ref v0), some (.int v1)] [] h (none, o)) {v0 : Nat} {v1 : Int32} {h : Hp} {o : Hp} (hf : f_X2_readWord_94 n K46 v0 v1 h = some o) : Run X (d + 1) 25 94 [some (.ref v0), some (.int v1)] [] h (none, o) := by
  unfold f_X2_readWord_94 at hf
  refine rs_iinc i_X2_readWord_94 rfl (v := v1 + 1) rfl (Nat.le_of_ble_eq_true rfl) (lv' := [some (.ref v0), some (.int (v1 + 1))]) rfl ?_
  refine rs_goto i_X2_readWord_97 (tg := 46) (by decide) ?_
  exact HK46 _ _ _ _ hf
def f_X2_readWord_86 (n : Nat) (K46 : Nat → Int32 → Hp → Option Hp) (v0 : Nat) (v1 : Int32) (h : Hp) : Option Hp :=
  if okO h v0 2 then
  f_X2_readWord_94 n K46 v0 v1 (hsi h v0 5 (v1 - 6))
  else none
set_option maxRecDepth 100000 in
set_option maxHeartbeats 4000000 in
theorem r_X2_readWord_86 {X : Nat → Int32} {d : Nat} (hd : 5 ≤ (d + 1)) {n : Nat} {K46 : Nat → Int32 → Hp → Option Hp} (HK46 : ∀ (v0 : Nat) (v1 : Int32) (h : Hp) (o : Hp), K46 v0 v1 h = some o → Run X (d + 1) 25 46 [some (.ref v0), some (.int v1)] [] h (none, o)) {v0 : Nat} {v1 : Int32} {h : Hp} {o : Hp} (hf : f_X2_readWord_86 n K46 v0 v1 h = some o) : Run X (d + 1) 25 86 [some (.ref v0), some (.int v1)] [] h (none, o) := by
  unfold f_X2_readWord_86 at hf
  refine rs_aload_n i_X2_readWord_86 rfl ?_
  refine rs_iload_n i_X2_readWord_87 rfl ?_
  refine rs_bipush i_X2_readWord_88 (v := 6) (by decide) ?_
  refine rs_isub i_X2_readWord_90 ?_
  obtain ⟨c1, hf⟩ := ite_some hf
  refine rs_putI i_X2_readWord_91 (by decide) c1 ?_
  exact r_X2_readWord_94 hd HK46 hf
def f_X2_readWord_83 (n : Nat) (K46 : Nat → Int32 → Hp → Option Hp) (v0 : Nat) (v1 : Int32) (s0 : Nat) (s1 : Int32) (h : Hp) : Option Hp :=
  if okO h s0 2 then
  f_X2_readWord_86 n K46 v0 v1 (hsi h s0 3 s1)
  else none
set_option maxRecDepth 100000 in
set_option maxHeartbeats 4000000 in
theorem r_X2_readWord_83 {X : Nat → Int32} {d : Nat} (hd : 5 ≤ (d + 1)) {n : Nat} {K46 : Nat → Int32 → Hp → Option Hp} (HK46 : ∀ (v0 : Nat) (v1 : Int32) (h : Hp) (o : Hp), K46 v0 v1 h = some o → Run X (d + 1) 25 46 [some (.ref v0), some (.int v1)] [] h (none, o)) {v0 : Nat} {v1 : Int32} {s0 : Nat} {s1 : Int32} {h : Hp} {o : Hp} (hf : f_X2_readWord_83 n K46 v0 v1 s0 s1 h = some o) : Run X (d + 1) 25 83 [some (.ref v0), some (.int v1)] [.int s1, .ref s0] h (none, o) := by
  unfold f_X2_readWord_83 at hf
  obtain ⟨c1, hf⟩ := ite_some hf
  refine rs_putI i_X2_readWord_83 (by decide) c1 ?_
  exact r_X2_readWord_86 hd HK46 hf
def f_X2_readWord_46 (n : Nat) : Nat → Nat → Int32 → Hp → Option Hp
  | 0, _, _, _ => none
  | m + 1, v0, v1, h =>
    if 12 ≤ v1 then
      some h
    else
      if okO h v0 2 then
      if (gI h v0 3) ≠ 1 then
        some h
      else
        (f_X2_isWord n v0 v1 h).bind fun o4 =>
        if o4.1 = 0 then
          f_X2_readWord_94 n (f_X2_readWord_46 n m) v0 v1 o4.2
        else
          if 6 ≤ v1 then
            f_X2_readWord_83 n (f_X2_readWord_46 n m) v0 v1 v0 3 o4.2
          else
            f_X2_readWord_83 n (f_X2_readWord_46 n m) v0 v1 v0 (10 + v1) o4.2
      else none
set_option maxRecDepth 100000 in
set_option maxHeartbeats 4000000 in
theorem r_X2_readWord_46 {X : Nat → Int32} {d : Nat} (hd : 5 ≤ (d + 1)) {n : Nat} : ∀ (m : Nat) (v0 : Nat) (v1 : Int32) (h : Hp) (o : Hp), f_X2_readWord_46 n m v0 v1 h = some o → Run X (d + 1) 25 46 [some (.ref v0), some (.int v1)] [] h (none, o) := by
  intro m
  induction m with
  | zero => intro v0 v1 h o hf; cases hf
  | succ m ih =>
    intro v0 v1 h o hf
    rw [f_X2_readWord_46] at hf
    refine rs_iload_n i_X2_readWord_46 rfl ?_
    refine rs_bipush i_X2_readWord_47 (v := 12) (by decide) ?_
    by_cases c1 : 12 ≤ v1
    · replace hf := (if_pos c1).symm.trans hf
      refine rs_icT i_X2_readWord_49 (ct_ge c1) (tg := 100) (by decide) ?_
      have hf := Option.some.inj hf
      subst hf
      exact rs_vret i_X2_readWord_100 m_X2_readWord rfl
    · replace hf := (if_neg c1).symm.trans hf
      refine rs_icF i_X2_readWord_49 (cf_ge c1) ?_
      refine rs_aload_n i_X2_readWord_52 rfl ?_
      obtain ⟨c2, hf⟩ := ite_some hf
      refine rs_getI i_X2_readWord_53 (by decide) (by decide) c2 ?_
      refine rs_iconst i_X2_readWord_56 (v := 1) (by decide) ?_
      by_cases c3 : (gI h v0 3) ≠ 1
      · replace hf := (if_pos c3).symm.trans hf
        refine rs_icT i_X2_readWord_57 (ct_ne c3) (tg := 100) (by decide) ?_
        have hf := Option.some.inj hf
        subst hf
        exact rs_vret i_X2_readWord_100 m_X2_readWord rfl
      · replace hf := (if_neg c3).symm.trans hf
        refine rs_icF i_X2_readWord_57 (cf_ne c3) ?_
        refine rs_aload_n i_X2_readWord_60 rfl ?_
        refine rs_iload_n i_X2_readWord_61 rfl ?_
        obtain ⟨o4, e4, hf⟩ := bind_some hf
        refine rs_inV i_X2_readWord_62 m_X2_isWord rfl (As := [.int v1]) (rest := []) rfl rfl (Nat.le_of_ble_eq_true rfl) c2 (c_X2_isWord (by omega) e4) (st' := [.int o4.1]) rfl ?_
        by_cases c5 : o4.1 = 0
        · replace hf := (if_pos c5).symm.trans hf
          refine rs_ifT i_X2_readWord_65 (ct_eq c5) (tg := 94) (by decide) ?_
          exact r_X2_readWord_94 hd ih hf
        · replace hf := (if_neg c5).symm.trans hf
          refine rs_ifF i_X2_readWord_65 (cf_eq c5) ?_
          refine rs_aload_n i_X2_readWord_68 rfl ?_
          refine rs_iload_n i_X2_readWord_69 rfl ?_
          refine rs_bipush i_X2_readWord_70 (v := 6) (by decide) ?_
          by_cases c6 : 6 ≤ v1
          · replace hf := (if_pos c6).symm.trans hf
            refine rs_icT i_X2_readWord_72 (ct_ge c6) (tg := 82) (by decide) ?_
            refine rs_iconst i_X2_readWord_82 (v := 3) (by decide) ?_
            exact r_X2_readWord_83 hd ih hf
          · replace hf := (if_neg c6).symm.trans hf
            refine rs_icF i_X2_readWord_72 (cf_ge c6) ?_
            refine rs_bipush i_X2_readWord_75 (v := 10) (by decide) ?_
            refine rs_iload_n i_X2_readWord_77 rfl ?_
            refine rs_iadd i_X2_readWord_78 ?_
            refine rs_goto i_X2_readWord_79 (tg := 83) (by decide) ?_
            exact r_X2_readWord_83 hd ih hf
def f_X2_readWord_39 (n : Nat) (v0 : Nat) (h : Hp) : Option Hp :=
  if okO h v0 2 then
  f_X2_readWord_46 n n v0 0 (hsi h v0 3 1)
  else none
set_option maxRecDepth 100000 in
set_option maxHeartbeats 4000000 in
theorem r_X2_readWord_39 {X : Nat → Int32} {d : Nat} (hd : 5 ≤ (d + 1)) {n : Nat} {v0 : Nat} {d1 : Int32} {h : Hp} {o : Hp} (hf : f_X2_readWord_39 n v0 h = some o) : Run X (d + 1) 25 39 [some (.ref v0), some (.int d1)] [] h (none, o) := by
  unfold f_X2_readWord_39 at hf
  refine rs_aload_n i_X2_readWord_39 rfl ?_
  refine rs_iconst i_X2_readWord_40 (v := 1) (by decide) ?_
  obtain ⟨c1, hf⟩ := ite_some hf
  refine rs_putI i_X2_readWord_41 (by decide) c1 ?_
  refine rs_iconst i_X2_readWord_44 (v := 0) (by decide) ?_
  refine rs_istore_n i_X2_readWord_45 (Nat.le_of_ble_eq_true rfl) (lv' := [some (.ref v0), some (.int 0)]) rfl ?_
  exact r_X2_readWord_46 hd _ _ _ _ _ hf
def f_X2_readWord_2 (n : Nat) : Nat → Nat → Int32 → Hp → Option Hp
  | 0, _, _, _ => none
  | m + 1, v0, v1, h =>
    if 160 ≤ v1 then
      f_X2_readWord_39 n v0 h
    else
      if okO h v0 2 then
      (f_X2_byteAt v0 (gI h v0 2) h).bind fun o3 =>
      (f_X2_isLetter o3.1 o3.2).bind fun o4 =>
      if o4.1 = 0 then
        f_X2_readWord_39 n v0 o4.2
      else
        if okO o4.2 v0 2 then
        (f_X2_readWord_2 n m) v0 (v1 + 1) (hsi o4.2 v0 2 ((gI o4.2 v0 2) + 1))
        else none
      else none
set_option maxRecDepth 100000 in
set_option maxHeartbeats 4000000 in
theorem r_X2_readWord_2 {X : Nat → Int32} {d : Nat} (hd : 5 ≤ (d + 1)) {n : Nat} : ∀ (m : Nat) (v0 : Nat) (v1 : Int32) (h : Hp) (o : Hp), f_X2_readWord_2 n m v0 v1 h = some o → Run X (d + 1) 25 2 [some (.ref v0), some (.int v1)] [] h (none, o) := by
  intro m
  induction m with
  | zero => intro v0 v1 h o hf; cases hf
  | succ m ih =>
    intro v0 v1 h o hf
    rw [f_X2_readWord_2] at hf
    refine rs_iload_n i_X2_readWord_2 rfl ?_
    refine rs_sipush i_X2_readWord_3 (v := 160) (by decide) ?_
    by_cases c1 : 160 ≤ v1
    · replace hf := (if_pos c1).symm.trans hf
      refine rs_icT i_X2_readWord_6 (ct_ge c1) (tg := 39) (by decide) ?_
      exact r_X2_readWord_39 hd hf
    · replace hf := (if_neg c1).symm.trans hf
      refine rs_icF i_X2_readWord_6 (cf_ge c1) ?_
      refine rs_aload_n i_X2_readWord_9 rfl ?_
      refine rs_aload_n i_X2_readWord_10 rfl ?_
      obtain ⟨c2, hf⟩ := ite_some hf
      refine rs_getI i_X2_readWord_11 (by decide) (by decide) c2 ?_
      obtain ⟨o3, e3, hf⟩ := bind_some hf
      refine rs_inV i_X2_readWord_14 m_X2_byteAt rfl (As := [.int (gI h v0 2)]) (rest := []) rfl rfl (Nat.le_of_ble_eq_true rfl) c2 (c_X2_byteAt (by omega) e3) (st' := [.int o3.1]) rfl ?_
      obtain ⟨o4, e4, hf⟩ := bind_some hf
      refine rs_inS i_X2_readWord_17 (by decide) m_X2_isLetter rfl (As := [.int o3.1]) (rest := []) rfl rfl (Nat.le_of_ble_eq_true rfl) (c_X2_isLetter (by omega) e4) (st' := [.int o4.1]) rfl ?_
      by_cases c5 : o4.1 = 0
      · replace hf := (if_pos c5).symm.trans hf
        refine rs_ifT i_X2_readWord_20 (ct_eq c5) (tg := 39) (by decide) ?_
        exact r_X2_readWord_39 hd hf
      · replace hf := (if_neg c5).symm.trans hf
        refine rs_ifF i_X2_readWord_20 (cf_eq c5) ?_
        refine rs_aload_n i_X2_readWord_23 rfl ?_
        refine rs_dup i_X2_readWord_24 rfl ?_
        obtain ⟨c6, hf⟩ := ite_some hf
        refine rs_getI i_X2_readWord_25 (by decide) (by decide) c6 ?_
        refine rs_iconst i_X2_readWord_28 (v := 1) (by decide) ?_
        refine rs_iadd i_X2_readWord_29 ?_
        refine rs_putI i_X2_readWord_30 (by decide) c6 ?_
        refine rs_iinc i_X2_readWord_33 rfl (v := v1 + 1) rfl (Nat.le_of_ble_eq_true rfl) (lv' := [some (.ref v0), some (.int (v1 + 1))]) rfl ?_
        refine rs_goto i_X2_readWord_36 (tg := 2) (by decide) ?_
        exact ih _ _ _ _ hf
def f_X2_readWord_0 (n : Nat) (v0 : Nat) (h : Hp) : Option Hp :=
  f_X2_readWord_2 n n v0 0 h
set_option maxRecDepth 100000 in
set_option maxHeartbeats 4000000 in
theorem r_X2_readWord_0 {X : Nat → Int32} {d : Nat} (hd : 5 ≤ (d + 1)) {n : Nat} {v0 : Nat} {h : Hp} {o : Hp} (hf : f_X2_readWord_0 n v0 h = some o) : Run X (d + 1) 25 0 [some (.ref v0), none] [] h (none, o) := by
  unfold f_X2_readWord_0 at hf
  refine rs_iconst i_X2_readWord_0 (v := 0) (by decide) ?_
  refine rs_istore_n i_X2_readWord_1 (Nat.le_of_ble_eq_true rfl) (lv' := [some (.ref v0), some (.int 0)]) rfl ?_
  exact r_X2_readWord_2 hd _ _ _ _ _ hf
def f_X2_readWord (n : Nat) (v0 : Nat) (h : Hp) : Option Hp := f_X2_readWord_0 n v0 h
theorem c_X2_readWord {X : Nat → Int32} {d : Nat} (hd : 5 ≤ d) {n : Nat} {v0 : Nat} {h : Hp} {o : Hp} (hf : f_X2_readWord n v0 h = some o) : Calls X d 25 [.ref v0] h (none, o) := by
  obtain ⟨d, rfl⟩ : ∃ z, d = z + 1 := ⟨d - 1, by omega⟩
  exact ⟨_, rfl, r_X2_readWord_0 hd hf⟩
theorem i_X2_advance_0 : fetch 20 0 = some (.iconst 0, 1, 0, 0, 0, 0) := by decide +kernel
theorem i_X2_advance_1 : fetch 20 1 = some (.istore_n 1, 2, 0, 0, 0, 0) := by decide +kernel
theorem i_X2_advance_2 : fetch 20 2 = some (.iload_n 1, 3, 0, 0, 0, 0) := by decide +kernel
theorem i_X2_advance_3 : fetch 20 3 = some (.sipush 160, 6, 0, 0, 0, 0) := by decide +kernel
theorem i_X2_advance_6 : fetch 20 6 = some (.if_icmp .ge 45, 9, 0, 0, 0, 0) := by decide +kernel
theorem i_X2_advance_9 : fetch 20 9 = some (.aload_n 0, 10, 0, 0, 0, 0) := by decide +kernel
theorem i_X2_advance_10 : fetch 20 10 = some (.aload_n 0, 11, 0, 0, 0, 0) := by decide +kernel
theorem i_X2_advance_11 : fetch 20 11 = some (.getfield 19, 14, 2, 2, 0, 125) := by decide +kernel
theorem i_X2_advance_14 : fetch 20 14 = some (.invokevirtual 72, 17, 21, 0, 0, 351) := by decide +kernel
theorem i_X2_advance_17 : fetch 20 17 = some (.bipush 32, 19, 0, 0, 0, 0) := by decide +kernel
theorem i_X2_advance_19 : fetch 20 19 = some (.if_icmp .eq 16, 22, 0, 0, 0, 0) := by decide +kernel
theorem i_X2_advance_22 : fetch 20 22 = some (.aload_n 0, 23, 0, 0, 0, 0) := by decide +kernel
theorem i_X2_advance_23 : fetch 20 23 = some (.aload_n 0, 24, 0, 0, 0, 0) := by decide +kernel
theorem i_X2_advance_24 : fetch 20 24 = some (.getfield 19, 27, 2, 2, 0, 125) := by decide +kernel
theorem i_X2_advance_27 : fetch 20 27 = some (.invokevirtual 72, 30, 21, 0, 0, 351) := by decide +kernel
theorem i_X2_advance_30 : fetch 20 30 = some (.bipush 10, 32, 0, 0, 0, 0) := by decide +kernel
theorem i_X2_advance_32 : fetch 20 32 = some (.if_icmp .ne 19, 35, 0, 0, 0, 0) := by decide +kernel
theorem i_X2_advance_35 : fetch 20 35 = some (.aload_n 0, 36, 0, 0, 0, 0) := by decide +kernel
theorem i_X2_advance_36 : fetch 20 36 = some (.dup, 37, 0, 0, 0, 0) := by decide +kernel
theorem i_X2_advance_37 : fetch 20 37 = some (.getfield 19, 40, 2, 2, 0, 125) := by decide +kernel
theorem i_X2_advance_40 : fetch 20 40 = some (.iconst 1, 41, 0, 0, 0, 0) := by decide +kernel
theorem i_X2_advance_41 : fetch 20 41 = some (.iadd, 42, 0, 0, 0, 0) := by decide +kernel
theorem i_X2_advance_42 : fetch 20 42 = some (.putfield 19, 45, 2, 2, 0, 125) := by decide +kernel
theorem i_X2_advance_45 : fetch 20 45 = some (.iinc 1 1, 48, 0, 0, 0, 0) := by decide +kernel
theorem i_X2_advance_48 : fetch 20 48 = some (.goto (-46), 51, 0, 0, 0, 0) := by decide +kernel
theorem i_X2_advance_51 : fetch 20 51 = some (.aload_n 0, 52, 0, 0, 0, 0) := by decide +kernel
theorem i_X2_advance_52 : fetch 20 52 = some (.aload_n 0, 53, 0, 0, 0, 0) := by decide +kernel
theorem i_X2_advance_53 : fetch 20 53 = some (.getfield 19, 56, 2, 2, 0, 125) := by decide +kernel
theorem i_X2_advance_56 : fetch 20 56 = some (.putfield 25, 59, 2, 4, 0, 127) := by decide +kernel
theorem i_X2_advance_59 : fetch 20 59 = some (.aload_n 0, 60, 0, 0, 0, 0) := by decide +kernel
theorem i_X2_advance_60 : fetch 20 60 = some (.aload_n 0, 61, 0, 0, 0, 0) := by decide +kernel
theorem i_X2_advance_61 : fetch 20 61 = some (.getfield 19, 64, 2, 2, 0, 125) := by decide +kernel
theorem i_X2_advance_64 : fetch 20 64 = some (.invokevirtual 72, 67, 21, 0, 0, 351) := by decide +kernel
theorem i_X2_advance_67 : fetch 20 67 = some (.istore_n 1, 68, 0, 0, 0, 0) := by decide +kernel
theorem i_X2_advance_68 : fetch 20 68 = some (.iload_n 1, 69, 0, 0, 0, 0) := by decide +kernel
theorem i_X2_advance_69 : fetch 20 69 = some (.iconst (-1), 70, 0, 0, 0, 0) := by decide +kernel
theorem i_X2_advance_70 : fetch 20 70 = some (.if_icmp .ne 11, 73, 0, 0, 0, 0) := by decide +kernel
theorem i_X2_advance_73 : fetch 20 73 = some (.aload_n 0, 74, 0, 0, 0, 0) := by decide +kernel
theorem i_X2_advance_74 : fetch 20 74 = some (.iconst 0, 75, 0, 0, 0, 0) := by decide +kernel
theorem i_X2_advance_75 : fetch 20 75 = some (.putfield 22, 78, 2, 3, 0, 126) := by decide +kernel
theorem i_X2_advance_78 : fetch 20 78 = some (.goto 60, 81, 0, 0, 0, 0) := by decide +kernel
theorem i_X2_advance_81 : fetch 20 81 = some (.iload_n 1, 82, 0, 0, 0, 0) := by decide +kernel
theorem i_X2_advance_82 : fetch 20 82 = some (.invokestatic 75, 85, 22, 0, 0, 355) := by decide +kernel
theorem i_X2_advance_85 : fetch 20 85 = some (.ifCond .eq 10, 88, 0, 0, 0, 0) := by decide +kernel
theorem i_X2_advance_88 : fetch 20 88 = some (.aload_n 0, 89, 0, 0, 0, 0) := by decide +kernel
theorem i_X2_advance_89 : fetch 20 89 = some (.invokevirtual 79, 92, 25, 0, 0, 361) := by decide +kernel
theorem i_X2_advance_92 : fetch 20 92 = some (.goto 46, 95, 0, 0, 0, 0) := by decide +kernel
theorem i_X2_advance_95 : fetch 20 95 = some (.iload_n 1, 96, 0, 0, 0, 0) := by decide +kernel
theorem i_X2_advance_96 : fetch 20 96 = some (.invokestatic 82, 99, 23, 0, 0, 372) := by decide +kernel
theorem i_X2_advance_99 : fetch 20 99 = some (.ifCond .eq 10, 102, 0, 0, 0, 0) := by decide +kernel
theorem i_X2_advance_102 : fetch 20 102 = some (.aload_n 0, 103, 0, 0, 0, 0) := by decide +kernel
theorem i_X2_advance_103 : fetch 20 103 = some (.invokevirtual 85, 106, 24, 0, 0, 375) := by decide +kernel
theorem i_X2_advance_106 : fetch 20 106 = some (.goto 32, 109, 0, 0, 0, 0) := by decide +kernel
theorem i_X2_advance_109 : fetch 20 109 = some (.aload_n 0, 110, 0, 0, 0, 0) := by decide +kernel
theorem i_X2_advance_110 : fetch 20 110 = some (.dup, 111, 0, 0, 0, 0) := by decide +kernel
theorem i_X2_advance_111 : fetch 20 111 = some (.getfield 19, 114, 2, 2, 0, 125) := by decide +kernel
theorem i_X2_advance_114 : fetch 20 114 = some (.iconst 1, 115, 0, 0, 0, 0) := by decide +kernel
theorem i_X2_advance_115 : fetch 20 115 = some (.iadd, 116, 0, 0, 0, 0) := by decide +kernel
theorem i_X2_advance_116 : fetch 20 116 = some (.putfield 19, 119, 2, 2, 0, 125) := by decide +kernel
theorem i_X2_advance_119 : fetch 20 119 = some (.aload_n 0, 120, 0, 0, 0, 0) := by decide +kernel
theorem i_X2_advance_120 : fetch 20 120 = some (.ldc 88, 122, 3, 0, 0, 0) := by decide +kernel
theorem i_X2_advance_122 : fetch 20 122 = some (.iload_n 1, 123, 0, 0, 0, 0) := by decide +kernel
theorem i_X2_advance_123 : fetch 20 123 = some (.i2c, 124, 0, 0, 0, 0) := by decide +kernel
theorem i_X2_advance_124 : fetch 20 124 = some (.invokevirtual 90, 127, 221, 0, 0, 380) := by decide +kernel
theorem i_X2_advance_127 : fetch 20 127 = some (.ifCond .lt 7, 130, 0, 0, 0, 0) := by decide +kernel
theorem i_X2_advance_130 : fetch 20 130 = some (.iload_n 1, 131, 0, 0, 0, 0) := by decide +kernel
theorem i_X2_advance_131 : fetch 20 131 = some (.goto 4, 134, 0, 0, 0, 0) := by decide +kernel
theorem i_X2_advance_134 : fetch 20 134 = some (.iconst 1, 135, 0, 0, 0, 0) := by decide +kernel
theorem i_X2_advance_135 : fetch 20 135 = some (.putfield 22, 138, 2, 3, 0, 126) := by decide +kernel
theorem i_X2_advance_138 : fetch 20 138 = some (.return_, 139, 0, 0, 0, 0) := by decide +kernel
def f_X2_advance_135 (n : Nat) (s0 : Nat) (s1 : Int32) (h : Hp) : Option Hp :=
  if okO h s0 2 then
  some (hsi h s0 3 s1)
  else none
set_option maxRecDepth 100000 in
set_option maxHeartbeats 4000000 in
theorem r_X2_advance_135 {X : Nat → Int32} {d : Nat} (hd : 6 ≤ (d + 1)) {n : Nat} {s0 : Nat} {s1 : Int32} {d0 : Nat} {d1 : Int32} {h : Hp} {o : Hp} (hf : f_X2_advance_135 n s0 s1 h = some o) : Run X (d + 1) 20 135 [some (.ref d0), some (.int d1)] [.int s1, .ref s0] h (none, o) := by
  unfold f_X2_advance_135 at hf
  obtain ⟨c1, hf⟩ := ite_some hf
  refine rs_putI i_X2_advance_135 (by decide) c1 ?_
  have hf := Option.some.inj hf
  subst hf
  exact rs_vret i_X2_advance_138 m_X2_advance rfl
def f_X2_advance_119 (n : Nat) (v0 : Nat) (v1 : Int32) (h : Hp) : Option Hp :=
  if hk h 3 = (20, 2) then
  (f_J0_indexOf_0f7a4 n 3 (((Int32.toUInt32 v1) % 65536).toInt32) h).bind fun o1 =>
  if o1.1 < 0 then
    f_X2_advance_135 n v0 1 o1.2
  else
    f_X2_advance_135 n v0 v1 o1.2
  else none
set_option maxRecDepth 100000 in
set_option maxHeartbeats 4000000 in
theorem r_X2_advance_119 {X : Nat → Int32} {d : Nat} (hd : 6 ≤ (d + 1)) {n : Nat} {v0 : Nat} {v1 : Int32} {h : Hp} {o : Hp} (hf : f_X2_advance_119 n v0 v1 h = some o) : Run X (d + 1) 20 119 [some (.ref v0), some (.int v1)] [] h (none, o) := by
  unfold f_X2_advance_119 at hf
  refine rs_aload_n i_X2_advance_119 rfl ?_
  refine rs_ldcS i_X2_advance_120 (by decide) ?_
  refine rs_iload_n i_X2_advance_122 rfl ?_
  refine rs_i2c i_X2_advance_123 ?_
  obtain ⟨c2, hf⟩ := ite_some hf
  obtain ⟨o1, e1, hf⟩ := bind_some hf
  refine rs_inV i_X2_advance_124 m_J0_indexOf_0f7a4 rfl (As := [.int (((Int32.toUInt32 v1) % 65536).toInt32)]) (rest := [.ref v0]) rfl rfl (Nat.le_of_ble_eq_true rfl) c2 (c_J0_indexOf_0f7a4 (by omega) e1) (st' := [.int o1.1, .ref v0]) rfl ?_
  by_cases c3 : o1.1 < 0
  · replace hf := (if_pos c3).symm.trans hf
    refine rs_ifT i_X2_advance_127 (ct_lt c3) (tg := 134) (by decide) ?_
    refine rs_iconst i_X2_advance_134 (v := 1) (by decide) ?_
    exact r_X2_advance_135 hd hf
  · replace hf := (if_neg c3).symm.trans hf
    refine rs_ifF i_X2_advance_127 (cf_lt c3) ?_
    refine rs_iload_n i_X2_advance_130 rfl ?_
    refine rs_goto i_X2_advance_131 (tg := 135) (by decide) ?_
    exact r_X2_advance_135 hd hf
def f_X2_advance_59 (n : Nat) (v0 : Nat) (h : Hp) : Option Hp :=
  if okO h v0 2 then
  (f_X2_byteAt v0 (gI h v0 2) h).bind fun o2 =>
  if o2.1 ≠ (-1) then
    (f_X2_isLetter o2.1 o2.2).bind fun o4 =>
    if o4.1 = 0 then
      (f_X2_isDigit o2.1 o4.2).bind fun o6 =>
      if o6.1 = 0 then
        if okO o6.2 v0 2 then
        f_X2_advance_119 n v0 o2.1 (hsi o6.2 v0 2 ((gI o6.2 v0 2) + 1))
        else none
      else
        if okO o6.2 v0 2 then
        (f_X2_readNumber n v0 o6.2).bind fun o9 =>
        some o9
        else none
    else
      if okO o4.2 v0 2 then
      (f_X2_readWord n v0 o4.2).bind fun o11 =>
      some o11
      else none
  else
    if okO o2.2 v0 2 then
    some (hsi o2.2 v0 3 0)
    else none
  else none
set_option maxRecDepth 100000 in
set_option maxHeartbeats 4000000 in
theorem r_X2_advance_59 {X : Nat → Int32} {d : Nat} (hd : 6 ≤ (d + 1)) {n : Nat} {v0 : Nat} {d1 : Int32} {h : Hp} {o : Hp} (hf : f_X2_advance_59 n v0 h = some o) : Run X (d + 1) 20 59 [some (.ref v0), some (.int d1)] [] h (none, o) := by
  unfold f_X2_advance_59 at hf
  refine rs_aload_n i_X2_advance_59 rfl ?_
  refine rs_aload_n i_X2_advance_60 rfl ?_
  obtain ⟨c1, hf⟩ := ite_some hf
  refine rs_getI i_X2_advance_61 (by decide) (by decide) c1 ?_
  obtain ⟨o2, e2, hf⟩ := bind_some hf
  refine rs_inV i_X2_advance_64 m_X2_byteAt rfl (As := [.int (gI h v0 2)]) (rest := []) rfl rfl (Nat.le_of_ble_eq_true rfl) c1 (c_X2_byteAt (by omega) e2) (st' := [.int o2.1]) rfl ?_
  refine rs_istore_n i_X2_advance_67 (Nat.le_of_ble_eq_true rfl) (lv' := [some (.ref v0), some (.int o2.1)]) rfl ?_
  refine rs_iload_n i_X2_advance_68 rfl ?_
  refine rs_iconst i_X2_advance_69 (v := (-1)) (by decide) ?_
  by_cases c3 : o2.1 ≠ (-1)
  · replace hf := (if_pos c3).symm.trans hf
    refine rs_icT i_X2_advance_70 (ct_ne c3) (tg := 81) (by decide) ?_
    refine rs_iload_n i_X2_advance_81 rfl ?_
    obtain ⟨o4, e4, hf⟩ := bind_some hf
    refine rs_inS i_X2_advance_82 (by decide) m_X2_isLetter rfl (As := [.int o2.1]) (rest := []) rfl rfl (Nat.le_of_ble_eq_true rfl) (c_X2_isLetter (by omega) e4) (st' := [.int o4.1]) rfl ?_
    by_cases c5 : o4.1 = 0
    · replace hf := (if_pos c5).symm.trans hf
      refine rs_ifT i_X2_advance_85 (ct_eq c5) (tg := 95) (by decide) ?_
      refine rs_iload_n i_X2_advance_95 rfl ?_
      obtain ⟨o6, e6, hf⟩ := bind_some hf
      refine rs_inS i_X2_advance_96 (by decide) m_X2_isDigit rfl (As := [.int o2.1]) (rest := []) rfl rfl (Nat.le_of_ble_eq_true rfl) (c_X2_isDigit (by omega) e6) (st' := [.int o6.1]) rfl ?_
      by_cases c7 : o6.1 = 0
      · replace hf := (if_pos c7).symm.trans hf
        refine rs_ifT i_X2_advance_99 (ct_eq c7) (tg := 109) (by decide) ?_
        refine rs_aload_n i_X2_advance_109 rfl ?_
        refine rs_dup i_X2_advance_110 rfl ?_
        obtain ⟨c8, hf⟩ := ite_some hf
        refine rs_getI i_X2_advance_111 (by decide) (by decide) c8 ?_
        refine rs_iconst i_X2_advance_114 (v := 1) (by decide) ?_
        refine rs_iadd i_X2_advance_115 ?_
        refine rs_putI i_X2_advance_116 (by decide) c8 ?_
        exact r_X2_advance_119 hd hf
      · replace hf := (if_neg c7).symm.trans hf
        refine rs_ifF i_X2_advance_99 (cf_eq c7) ?_
        refine rs_aload_n i_X2_advance_102 rfl ?_
        obtain ⟨c10, hf⟩ := ite_some hf
        obtain ⟨o9, e9, hf⟩ := bind_some hf
        refine rs_inV i_X2_advance_103 m_X2_readNumber rfl (As := []) (rest := []) rfl rfl (Nat.le_of_ble_eq_true rfl) c10 (c_X2_readNumber (by omega) e9) (st' := []) rfl ?_
        refine rs_goto i_X2_advance_106 (tg := 138) (by decide) ?_
        have hf := Option.some.inj hf
        subst hf
        exact rs_vret i_X2_advance_138 m_X2_advance rfl
    · replace hf := (if_neg c5).symm.trans hf
      refine rs_ifF i_X2_advance_85 (cf_eq c5) ?_
      refine rs_aload_n i_X2_advance_88 rfl ?_
      obtain ⟨c12, hf⟩ := ite_some hf
      obtain ⟨o11, e11, hf⟩ := bind_some hf
      refine rs_inV i_X2_advance_89 m_X2_readWord rfl (As := []) (rest := []) rfl rfl (Nat.le_of_ble_eq_true rfl) c12 (c_X2_readWord (by omega) e11) (st' := []) rfl ?_
      refine rs_goto i_X2_advance_92 (tg := 138) (by decide) ?_
      have hf := Option.some.inj hf
      subst hf
      exact rs_vret i_X2_advance_138 m_X2_advance rfl
  · replace hf := (if_neg c3).symm.trans hf
    refine rs_icF i_X2_advance_70 (cf_ne c3) ?_
    refine rs_aload_n i_X2_advance_73 rfl ?_
    refine rs_iconst i_X2_advance_74 (v := 0) (by decide) ?_
    obtain ⟨c13, hf⟩ := ite_some hf
    refine rs_putI i_X2_advance_75 (by decide) c13 ?_
    refine rs_goto i_X2_advance_78 (tg := 138) (by decide) ?_
    have hf := Option.some.inj hf
    subst hf
    exact rs_vret i_X2_advance_138 m_X2_advance rfl
def f_X2_advance_51 (n : Nat) (v0 : Nat) (h : Hp) : Option Hp :=
  if okO h v0 2 then
  f_X2_advance_59 n v0 (hsi h v0 4 (gI h v0 2))
  else none
set_option maxRecDepth 100000 in
set_option maxHeartbeats 4000000 in
theorem r_X2_advance_51 {X : Nat → Int32} {d : Nat} (hd : 6 ≤ (d + 1)) {n : Nat} {v0 : Nat} {d1 : Int32} {h : Hp} {o : Hp} (hf : f_X2_advance_51 n v0 h = some o) : Run X (d + 1) 20 51 [some (.ref v0), some (.int d1)] [] h (none, o) := by
  unfold f_X2_advance_51 at hf
  refine rs_aload_n i_X2_advance_51 rfl ?_
  refine rs_aload_n i_X2_advance_52 rfl ?_
  obtain ⟨c1, hf⟩ := ite_some hf
  refine rs_getI i_X2_advance_53 (by decide) (by decide) c1 ?_
  refine rs_putI i_X2_advance_56 (by decide) c1 ?_
  exact r_X2_advance_59 hd hf
def f_X2_advance_35 (n : Nat) (K2 : Nat → Int32 → Hp → Option Hp) (v0 : Nat) (v1 : Int32) (h : Hp) : Option Hp :=
  if okO h v0 2 then
  K2 v0 (v1 + 1) (hsi h v0 2 ((gI h v0 2) + 1))
  else none
set_option maxRecDepth 100000 in
set_option maxHeartbeats 4000000 in
theorem r_X2_advance_35 {X : Nat → Int32} {d : Nat} (hd : 6 ≤ (d + 1)) {n : Nat} {K2 : Nat → Int32 → Hp → Option Hp} (HK2 : ∀ (v0 : Nat) (v1 : Int32) (h : Hp) (o : Hp), K2 v0 v1 h = some o → Run X (d + 1) 20 2 [some (.ref v0), some (.int v1)] [] h (none, o)) {v0 : Nat} {v1 : Int32} {h : Hp} {o : Hp} (hf : f_X2_advance_35 n K2 v0 v1 h = some o) : Run X (d + 1) 20 35 [some (.ref v0), some (.int v1)] [] h (none, o) := by
  unfold f_X2_advance_35 at hf
  refine rs_aload_n i_X2_advance_35 rfl ?_
  refine rs_dup i_X2_advance_36 rfl ?_
  obtain ⟨c1, hf⟩ := ite_some hf
  refine rs_getI i_X2_advance_37 (by decide) (by decide) c1 ?_
  refine rs_iconst i_X2_advance_40 (v := 1) (by decide) ?_
  refine rs_iadd i_X2_advance_41 ?_
  refine rs_putI i_X2_advance_42 (by decide) c1 ?_
  refine rs_iinc i_X2_advance_45 rfl (v := v1 + 1) rfl (Nat.le_of_ble_eq_true rfl) (lv' := [some (.ref v0), some (.int (v1 + 1))]) rfl ?_
  refine rs_goto i_X2_advance_48 (tg := 2) (by decide) ?_
  exact HK2 _ _ _ _ hf
def f_X2_advance_2 (n : Nat) : Nat → Nat → Int32 → Hp → Option Hp
  | 0, _, _, _ => none
  | m + 1, v0, v1, h =>
    if 160 ≤ v1 then
      f_X2_advance_51 n v0 h
    else
      if okO h v0 2 then
      (f_X2_byteAt v0 (gI h v0 2) h).bind fun o3 =>
      if o3.1 = 32 then
        f_X2_advance_35 n (f_X2_advance_2 n m) v0 v1 o3.2
      else
        if okO o3.2 v0 2 then
        (f_X2_byteAt v0 (gI o3.2 v0 2) o3.2).bind fun o6 =>
        if o6.1 ≠ 10 then
          f_X2_advance_51 n v0 o6.2
        else
          f_X2_advance_35 n (f_X2_advance_2 n m) v0 v1 o6.2
        else none
      else none
set_option maxRecDepth 100000 in
set_option maxHeartbeats 4000000 in
theorem r_X2_advance_2 {X : Nat → Int32} {d : Nat} (hd : 6 ≤ (d + 1)) {n : Nat} : ∀ (m : Nat) (v0 : Nat) (v1 : Int32) (h : Hp) (o : Hp), f_X2_advance_2 n m v0 v1 h = some o → Run X (d + 1) 20 2 [some (.ref v0), some (.int v1)] [] h (none, o) := by
  intro m
  induction m with
  | zero => intro v0 v1 h o hf; cases hf
  | succ m ih =>
    intro v0 v1 h o hf
    rw [f_X2_advance_2] at hf
    refine rs_iload_n i_X2_advance_2 rfl ?_
    refine rs_sipush i_X2_advance_3 (v := 160) (by decide) ?_
    by_cases c1 : 160 ≤ v1
    · replace hf := (if_pos c1).symm.trans hf
      refine rs_icT i_X2_advance_6 (ct_ge c1) (tg := 51) (by decide) ?_
      exact r_X2_advance_51 hd hf
    · replace hf := (if_neg c1).symm.trans hf
      refine rs_icF i_X2_advance_6 (cf_ge c1) ?_
      refine rs_aload_n i_X2_advance_9 rfl ?_
      refine rs_aload_n i_X2_advance_10 rfl ?_
      obtain ⟨c2, hf⟩ := ite_some hf
      refine rs_getI i_X2_advance_11 (by decide) (by decide) c2 ?_
      obtain ⟨o3, e3, hf⟩ := bind_some hf
      refine rs_inV i_X2_advance_14 m_X2_byteAt rfl (As := [.int (gI h v0 2)]) (rest := []) rfl rfl (Nat.le_of_ble_eq_true rfl) c2 (c_X2_byteAt (by omega) e3) (st' := [.int o3.1]) rfl ?_
      refine rs_bipush i_X2_advance_17 (v := 32) (by decide) ?_
      by_cases c4 : o3.1 = 32
      · replace hf := (if_pos c4).symm.trans hf
        refine rs_icT i_X2_advance_19 (ct_eq c4) (tg := 35) (by decide) ?_
        exact r_X2_advance_35 hd ih hf
      · replace hf := (if_neg c4).symm.trans hf
        refine rs_icF i_X2_advance_19 (cf_eq c4) ?_
        refine rs_aload_n i_X2_advance_22 rfl ?_
        refine rs_aload_n i_X2_advance_23 rfl ?_
        obtain ⟨c5, hf⟩ := ite_some hf
        refine rs_getI i_X2_advance_24 (by decide) (by decide) c5 ?_
        obtain ⟨o6, e6, hf⟩ := bind_some hf
        refine rs_inV i_X2_advance_27 m_X2_byteAt rfl (As := [.int (gI o3.2 v0 2)]) (rest := []) rfl rfl (Nat.le_of_ble_eq_true rfl) c5 (c_X2_byteAt (by omega) e6) (st' := [.int o6.1]) rfl ?_
        refine rs_bipush i_X2_advance_30 (v := 10) (by decide) ?_
        by_cases c7 : o6.1 ≠ 10
        · replace hf := (if_pos c7).symm.trans hf
          refine rs_icT i_X2_advance_32 (ct_ne c7) (tg := 51) (by decide) ?_
          exact r_X2_advance_51 hd hf
        · replace hf := (if_neg c7).symm.trans hf
          refine rs_icF i_X2_advance_32 (cf_ne c7) ?_
          exact r_X2_advance_35 hd ih hf
def f_X2_advance_0 (n : Nat) (v0 : Nat) (h : Hp) : Option Hp :=
  f_X2_advance_2 n n v0 0 h
set_option maxRecDepth 100000 in
set_option maxHeartbeats 4000000 in
theorem r_X2_advance_0 {X : Nat → Int32} {d : Nat} (hd : 6 ≤ (d + 1)) {n : Nat} {v0 : Nat} {h : Hp} {o : Hp} (hf : f_X2_advance_0 n v0 h = some o) : Run X (d + 1) 20 0 [some (.ref v0), none] [] h (none, o) := by
  unfold f_X2_advance_0 at hf
  refine rs_iconst i_X2_advance_0 (v := 0) (by decide) ?_
  refine rs_istore_n i_X2_advance_1 (Nat.le_of_ble_eq_true rfl) (lv' := [some (.ref v0), some (.int 0)]) rfl ?_
  exact r_X2_advance_2 hd _ _ _ _ _ hf
def f_X2_advance (n : Nat) (v0 : Nat) (h : Hp) : Option Hp := f_X2_advance_0 n v0 h
theorem c_X2_advance {X : Nat → Int32} {d : Nat} (hd : 6 ≤ d) {n : Nat} {v0 : Nat} {h : Hp} {o : Hp} (hf : f_X2_advance n v0 h = some o) : Calls X d 20 [.ref v0] h (none, o) := by
  obtain ⟨d, rfl⟩ : ∃ z, d = z + 1 := ⟨d - 1, by omega⟩
  exact ⟨_, rfl, r_X2_advance_0 hd hf⟩
