/-! THE CONSTRUCTORS AND THE LAW'S START: where the heap has its shape, the rest goes on in the shape-resolved functions -/
noncomputable def w_X7_init (n : Nat) (v0 : Nat) (h : Hp) : Option Hp :=
  f_X7_init_0 n (fun v0 h => @ite _ (v0 = 16 ∧ ∃ L, SHP L 96 h) (Classical.propDecidable _) (g_X7_init_232 n h) none) v0 h
noncomputable def w_X8_init (n : Nat) (v0 : Nat) (h : Hp) : Option Hp :=
  f_X8_init_0 n (fun v0 h => @ite _ (v0 = 96 ∧ ∃ L, SHP L 125 h) (Classical.propDecidable _) (g_X8_init_1456 n h) none) v0 h
theorem w_ite {α : Type} {p : Prop} {x : Option α} {o : α} (hf : @ite _ p (Classical.propDecidable _) x none = some o) : p ∧ x = some o := by
  by_cases hp : p
  · rw [if_pos hp] at hf; exact ⟨hp, hf⟩
  · rw [if_neg hp] at hf; cases hf
theorem cw_X7_init {X : Nat → Int32} {d : Nat} (hd : 109 ≤ d) {n v0 : Nat} {h o : Hp} (hf : w_X7_init n v0 h = some o) : Calls X d 66 [.ref v0] h (none, o) := by
  obtain ⟨d, rfl⟩ : ∃ z, d = z + 1 := ⟨d - 1, by omega⟩
  refine ⟨_, rfl, r_X7_init_0 hd (fun v0 d1 h o hk => ?_) hf⟩
  obtain ⟨hp, hk2⟩ := w_ite hk
  obtain ⟨rfl, L, SH⟩ := hp
  exact (q_X7_init_232 hd (Nat.le_refl 96) SH hk2).1
theorem cw_X8_init {X : Nat → Int32} {d : Nat} (hd : 5 ≤ d) {n v0 : Nat} {h o : Hp} (hf : w_X8_init n v0 h = some o) : Calls X d 125 [.ref v0] h (none, o) := by
  obtain ⟨d, rfl⟩ : ∃ z, d = z + 1 := ⟨d - 1, by omega⟩
  refine ⟨_, rfl, r_X8_init_0 hd (fun v0 h o hk => ?_) hf⟩
  obtain ⟨hp, hk2⟩ := w_ite hk
  obtain ⟨rfl, L, SH⟩ := hp
  exact (q_X8_init_1456 hd (Nat.le_refl 125) SH hk2).1
noncomputable def f_L_law_11 (X : Nat → Int32) (n : Nat) (K18 : Nat → Nat → Int32 → Hp → Option (Int32 × Hp)) (v1 : Nat) (s0 : Nat) (h : Hp) : Option (Int32 × Hp) :=
  if okO h s0 8 then
  (w_X8_init n s0 h).bind fun o1 =>
  K18 v1 s0 0 o1
  else none
set_option maxRecDepth 100000 in
set_option maxHeartbeats 4000000 in
theorem r_L_law_11 {X : Nat → Int32} {d : Nat} (hd : 110 ≤ (d + 1)) {n : Nat} {K18 : Nat → Nat → Int32 → Hp → Option (Int32 × Hp)} (HK18 : ∀ (v1 : Nat) (v2 : Nat) (v3 : Int32) (h : Hp) (o : (Int32 × Hp)), K18 v1 v2 v3 h = some o → Run X (d + 1) 0 18 [some (.ref 14), some (.ref v1), some (.ref v2), some (.int v3)] [] h (some (.int o.1), o.2)) {v1 : Nat} {s0 : Nat} {h : Hp} {o : (Int32 × Hp)} (hf : f_L_law_11 X n K18 v1 s0 h = some o) : Run X (d + 1) 0 11 [some (.ref 14), some (.ref v1), none, none] [.ref s0] h (some (.int o.1), o.2) := by
  unfold f_L_law_11 at hf
  refine rs_dup i_L_law_11 rfl ?_
  obtain ⟨c2, hf⟩ := ite_some hf
  obtain ⟨o1, e1, hf⟩ := bind_some hf
  refine rs_inI i_L_law_12 (by decide) m_X8_init rfl (As := []) (rest := [.ref s0]) rfl rfl (Nat.le_of_ble_eq_true rfl) c2 (cw_X8_init (by omega) e1) (st' := [.ref s0]) rfl ?_
  refine rs_astore_n i_L_law_15 (Nat.le_of_ble_eq_true rfl) (lv' := [some (.ref 14), some (.ref v1), some (.ref s0), none]) rfl ?_
  refine rs_iconst i_L_law_16 (v := 0) (by decide) ?_
  refine rs_istore_n i_L_law_17 (Nat.le_of_ble_eq_true rfl) (lv' := [some (.ref 14), some (.ref v1), some (.ref s0), some (.int 0)]) rfl ?_
  exact HK18 _ _ _ _ _ hf
noncomputable def f_L_law_3 (X : Nat → Int32) (n : Nat) (K18 : Nat → Nat → Int32 → Hp → Option (Int32 × Hp)) (s0 : Nat) (h : Hp) : Option (Int32 × Hp) :=
  if okO h s0 7 then
  (w_X7_init n s0 h).bind fun o1 =>
  f_L_law_11 X n K18 s0 o1.1.length (hnew o1 (8, nFf 8))
  else none
set_option maxRecDepth 100000 in
set_option maxHeartbeats 4000000 in
theorem r_L_law_3 {X : Nat → Int32} {d : Nat} (hd : 110 ≤ (d + 1)) {n : Nat} {K18 : Nat → Nat → Int32 → Hp → Option (Int32 × Hp)} (HK18 : ∀ (v1 : Nat) (v2 : Nat) (v3 : Int32) (h : Hp) (o : (Int32 × Hp)), K18 v1 v2 v3 h = some o → Run X (d + 1) 0 18 [some (.ref 14), some (.ref v1), some (.ref v2), some (.int v3)] [] h (some (.int o.1), o.2)) {s0 : Nat} {h : Hp} {o : (Int32 × Hp)} (hf : f_L_law_3 X n K18 s0 h = some o) : Run X (d + 1) 0 3 [some (.ref 14), none, none, none] [.ref s0] h (some (.int o.1), o.2) := by
  unfold f_L_law_3 at hf
  refine rs_dup i_L_law_3 rfl ?_
  obtain ⟨c2, hf⟩ := ite_some hf
  obtain ⟨o1, e1, hf⟩ := bind_some hf
  refine rs_inI i_L_law_4 (by decide) m_X7_init rfl (As := []) (rest := [.ref s0]) rfl rfl (Nat.le_of_ble_eq_true rfl) c2 (cw_X7_init (by omega) e1) (st' := [.ref s0]) rfl ?_
  refine rs_astore_n i_L_law_7 (Nat.le_of_ble_eq_true rfl) (lv' := [some (.ref 14), some (.ref s0), none, none]) rfl ?_
  refine rs_new i_L_law_8 (by decide) ?_
  exact r_L_law_11 hd HK18 hf
noncomputable def f_L_law_0 (X : Nat → Int32) (n : Nat) (K18 : Nat → Nat → Int32 → Hp → Option (Int32 × Hp))  (h : Hp) : Option (Int32 × Hp) :=
  f_L_law_3 X n K18 h.1.length (hnew h (7, nFf 7))
set_option maxRecDepth 100000 in
set_option maxHeartbeats 4000000 in
theorem r_L_law_0 {X : Nat → Int32} {d : Nat} (hd : 110 ≤ (d + 1)) {n : Nat} {K18 : Nat → Nat → Int32 → Hp → Option (Int32 × Hp)} (HK18 : ∀ (v1 : Nat) (v2 : Nat) (v3 : Int32) (h : Hp) (o : (Int32 × Hp)), K18 v1 v2 v3 h = some o → Run X (d + 1) 0 18 [some (.ref 14), some (.ref v1), some (.ref v2), some (.int v3)] [] h (some (.int o.1), o.2))  {h : Hp} {o : (Int32 × Hp)} (hf : f_L_law_0 X n K18 h = some o) : Run X (d + 1) 0 0 [some (.ref 14), none, none, none] [] h (some (.int o.1), o.2) := by
  unfold f_L_law_0 at hf
  refine rs_new i_L_law_0 (by decide) ?_
  exact r_L_law_3 hd HK18 hf
noncomputable def w_law (X : Nat → Int32) (L n : Nat) (h : Hp) : Option (Int32 × Hp) :=
  f_L_law_0 X n (fun v1 v2 v3 h => @ite _ (v1 = 16 ∧ v2 = 96 ∧ SHP L 125 h) (Classical.propDecidable _) (g_L_law_18 X L n n v3 h) none) h
theorem w_law_run {X : Nat → Int32} {d L n : Nat} (hd : 110 ≤ d + 1) {h : Hp} {o : Int32 × Hp} (hf : w_law X L n h = some o) : Run X (d + 1) 0 0 [some (.ref 14), none, none, none] [] h (some (.int o.1), o.2) := by
  refine r_L_law_0 hd (fun v1 v2 v3 h o hk => ?_) hf
  obtain ⟨hp, hk2⟩ := w_ite hk
  obtain ⟨rfl, rfl, SH⟩ := hp
  exact (q_L_law_18 hd (Nat.le_refl 125) n v3 h o SH hk2).1
