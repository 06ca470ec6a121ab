noncomputable def g_X0_become_44 (v0 : Nat) (v1 : Nat) (h : Hp) : Option Hp :=
  some (hsi h v0 3 (gI h v1 3))
set_option maxRecDepth 100000 in
set_option maxHeartbeats 4000000 in
theorem q_X0_become_44 {X : Nat → Int32} {d : Nat} (hd : 0 ≤ d) {L hi : Nat} (hh : 96 ≤ hi) {v0 : Nat} {v1 : Nat} {h : Hp} {o : Hp} (hv0 : OB0 v0) (hv1 : OB0 v1) (SH : SHP L hi h) (hf : g_X0_become_44 v0 v1 h = some o) : Run X d 2 44 [some (.ref v0), some (.ref v1)] [] h (none, o) ∧ SHP L hi o := by
  unfold g_X0_become_44 at hf
  refine And.imp_left (rs_aload_n i_X0_become_44 rfl) ?_
  refine And.imp_left (rs_aload_n i_X0_become_45 rfl) ?_
  refine And.imp_left (rs_getI i_X0_become_46 (by decide) (by decide) (sO0 SH hh hv1)) ?_
  refine And.imp_left (rs_putI i_X0_become_49 (by decide) (sO0 SH hh hv0)) ?_
  have SH := shi SH v0 3 (gI h v1 3)
  have hf := Option.some.inj hf
  subst hf
  exact ⟨rs_vret i_X0_become_52 m_X0_become rfl, SH⟩
noncomputable def g_X0_become_30 (v0 : Nat) (v1 : Nat) (h : Hp) : Option Hp :=
  g_X0_become_44 v0 v1 (hcp h (v1 + 3) (ix 0) (v0 + 3) (ix 0) (ix 3))
set_option maxRecDepth 100000 in
set_option maxHeartbeats 4000000 in
theorem q_X0_become_30 {X : Nat → Int32} {d : Nat} (hd : 0 ≤ d) {L hi : Nat} (hh : 96 ≤ hi) {v0 : Nat} {v1 : Nat} {h : Hp} {o : Hp} (hv0 : OB0 v0) (hv1 : OB0 v1) (SH : SHP L hi h) (hf : g_X0_become_30 v0 v1 h = some o) : Run X d 2 30 [some (.ref v0), some (.ref v1)] [] h (none, o) ∧ SHP L hi o := by
  unfold g_X0_become_30 at hf
  refine And.imp_left (rs_aload_n i_X0_become_30 rfl) ?_
  refine And.imp_left (rs_getR i_X0_become_31 (by decide) (by decide) (sO0 SH hh hv1) (sR0_2 SH hh hv1)) ?_
  refine And.imp_left (rs_iconst i_X0_become_34 (v := 0) (by decide)) ?_
  refine And.imp_left (rs_aload_n i_X0_become_35 rfl) ?_
  refine And.imp_left (rs_getR i_X0_become_36 (by decide) (by decide) (sO0 SH hh hv0) (sR0_2 SH hh hv0)) ?_
  refine And.imp_left (rs_iconst i_X0_become_39 (v := 0) (by decide)) ?_
  refine And.imp_left (rs_iconst i_X0_become_40 (v := 3) (by decide)) ?_
  refine And.imp_left (rs_acp i_X0_become_41 (mkCp (sA SH hh (k := 9) (n := 3) (aR0_2 hv1)) (sA SH hh (k := 9) (n := 3) (aR0_2 hv0)) (by decide)) (Nat.le_of_ble_eq_true rfl)) ?_
  have SH := shc SH (v1 + 3) (ix 0) (v0 + 3) (ix 0) (ix 3)
  exact q_X0_become_44 hd hh hv0 hv1 SH hf
noncomputable def g_X0_become_15 (v0 : Nat) (v1 : Nat) (h : Hp) : Option Hp :=
  g_X0_become_30 v0 v1 (hcp h (v1 + 2) (ix 0) (v0 + 2) (ix 0) (ix 12))
set_option maxRecDepth 100000 in
set_option maxHeartbeats 4000000 in
theorem q_X0_become_15 {X : Nat → Int32} {d : Nat} (hd : 0 ≤ d) {L hi : Nat} (hh : 96 ≤ hi) {v0 : Nat} {v1 : Nat} {h : Hp} {o : Hp} (hv0 : OB0 v0) (hv1 : OB0 v1) (SH : SHP L hi h) (hf : g_X0_become_15 v0 v1 h = some o) : Run X d 2 15 [some (.ref v0), some (.ref v1)] [] h (none, o) ∧ SHP L hi o := by
  unfold g_X0_become_15 at hf
  refine And.imp_left (rs_aload_n i_X0_become_15 rfl) ?_
  refine And.imp_left (rs_getR i_X0_become_16 (by decide) (by decide) (sO0 SH hh hv1) (sR0_1 SH hh hv1)) ?_
  refine And.imp_left (rs_iconst i_X0_become_19 (v := 0) (by decide)) ?_
  refine And.imp_left (rs_aload_n i_X0_become_20 rfl) ?_
  refine And.imp_left (rs_getR i_X0_become_21 (by decide) (by decide) (sO0 SH hh hv0) (sR0_1 SH hh hv0)) ?_
  refine And.imp_left (rs_iconst i_X0_become_24 (v := 0) (by decide)) ?_
  refine And.imp_left (rs_bipush i_X0_become_25 (v := 12) (by decide)) ?_
  refine And.imp_left (rs_acp i_X0_become_27 (mkCp (sA SH hh (k := 9) (n := 12) (aR0_1 hv1)) (sA SH hh (k := 9) (n := 12) (aR0_1 hv0)) (by decide)) (Nat.le_of_ble_eq_true rfl)) ?_
  have SH := shc SH (v1 + 2) (ix 0) (v0 + 2) (ix 0) (ix 12)
  exact q_X0_become_30 hd hh hv0 hv1 SH hf
noncomputable def g_X0_become_0 (v0 : Nat) (v1 : Nat) (h : Hp) : Option Hp :=
  g_X0_become_15 v0 v1 (hcp h (v1 + 1) (ix 0) (v0 + 1) (ix 0) (ix 12))
set_option maxRecDepth 100000 in
set_option maxHeartbeats 4000000 in
theorem q_X0_become_0 {X : Nat → Int32} {d : Nat} (hd : 0 ≤ d) {L hi : Nat} (hh : 96 ≤ hi) {v0 : Nat} {v1 : Nat} {h : Hp} {o : Hp} (hv0 : OB0 v0) (hv1 : OB0 v1) (SH : SHP L hi h) (hf : g_X0_become_0 v0 v1 h = some o) : Run X d 2 0 [some (.ref v0), some (.ref v1)] [] h (none, o) ∧ SHP L hi o := by
  unfold g_X0_become_0 at hf
  refine And.imp_left (rs_aload_n i_X0_become_0 rfl) ?_
  refine And.imp_left (rs_getR i_X0_become_1 (by decide) (by decide) (sO0 SH hh hv1) (sR0_0 SH hh hv1)) ?_
  refine And.imp_left (rs_iconst i_X0_become_4 (v := 0) (by decide)) ?_
  refine And.imp_left (rs_aload_n i_X0_become_5 rfl) ?_
  refine And.imp_left (rs_getR i_X0_become_6 (by decide) (by decide) (sO0 SH hh hv0) (sR0_0 SH hh hv0)) ?_
  refine And.imp_left (rs_iconst i_X0_become_9 (v := 0) (by decide)) ?_
  refine And.imp_left (rs_bipush i_X0_become_10 (v := 12) (by decide)) ?_
  refine And.imp_left (rs_acp i_X0_become_12 (mkCp (sA SH hh (k := 9) (n := 12) (aR0_0 hv1)) (sA SH hh (k := 9) (n := 12) (aR0_0 hv0)) (by decide)) (Nat.le_of_ble_eq_true rfl)) ?_
  have SH := shc SH (v1 + 1) (ix 0) (v0 + 1) (ix 0) (ix 12)
  exact q_X0_become_15 hd hh hv0 hv1 SH hf
noncomputable def g_X0_become (v0 : Nat) (v1 : Nat) (h : Hp) : Option Hp := g_X0_become_0 v0 v1 h
theorem k_X0_become {X : Nat → Int32} {d : Nat} (hd : 0 ≤ d) {L hi : Nat} (hh : 96 ≤ hi) {v0 : Nat} {v1 : Nat} {h : Hp} {o : Hp} (hv0 : OB0 v0) (hv1 : OB0 v1) (SH : SHP L hi h) (hf : g_X0_become v0 v1 h = some o) : Calls X d 2 [.ref v0, .ref v1] h (none, o) ∧ SHP L hi o := by
  obtain ⟨r, S2⟩ := q_X0_become_0 hd hh hv0 hv1 SH hf
  exact ⟨⟨_, rfl, r⟩, S2⟩
noncomputable def g_X1_wander_14 (v1 : Int32) (h : Hp) : Option Hp :=
  some (hsl h 80 5 ((Int32.toInt64 v1) + 1))
set_option maxRecDepth 100000 in
set_option maxHeartbeats 4000000 in
theorem q_X1_wander_14 {X : Nat → Int32} {d : Nat} (hd : 0 ≤ d) {L hi : Nat} (hh : 96 ≤ hi) {v1 : Int32} {h : Hp} {o : Hp}  (SH : SHP L hi h) (hf : g_X1_wander_14 v1 h = some o) : Run X d 4 14 [some (.ref 80), some (.int v1)] [] h (none, o) ∧ SHP L hi o := by
  unfold g_X1_wander_14 at hf
  refine And.imp_left (rs_aload_n i_X1_wander_14 rfl) ?_
  refine And.imp_left (rs_iload_n i_X1_wander_15 rfl) ?_
  refine And.imp_left (rs_i2l i_X1_wander_16) ?_
  refine And.imp_left (rs_lconst i_X1_wander_17 (v := 1) (by decide)) ?_
  refine And.imp_left (rs_ladd i_X1_wander_18) ?_
  refine And.imp_left (rs_putL i_X1_wander_19 (by decide) (sO1 SH hh)) ?_
  have SH := shl SH 80 5 ((Int32.toInt64 v1) + 1)
  have hf := Option.some.inj hf
  subst hf
  exact ⟨rs_vret i_X1_wander_22 m_X1_wander rfl, SH⟩
noncomputable def g_X1_wander_11 (v1 : Int32) (s1 : Int32) (h : Hp) : Option Hp :=
  if s1 = 0 ∨ s1 = 1 then
  g_X1_wander_14 v1 (hsi h 80 4 s1)
  else none
set_option maxRecDepth 100000 in
set_option maxHeartbeats 4000000 in
theorem q_X1_wander_11 {X : Nat → Int32} {d : Nat} (hd : 0 ≤ d) {L hi : Nat} (hh : 96 ≤ hi) {v1 : Int32} {s1 : Int32} {h : Hp} {o : Hp}  (SH : SHP L hi h) (hf : g_X1_wander_11 v1 s1 h = some o) : Run X d 4 11 [some (.ref 80), some (.int v1)] [.int s1, .ref 80] h (none, o) ∧ SHP L hi o := by
  unfold g_X1_wander_11 at hf
  obtain ⟨c1, hf⟩ := ite_some hf
  refine And.imp_left (rs_putZ i_X1_wander_11 (by decide) c1 (sO1 SH hh)) ?_
  have SH := shi SH 80 4 s1
  exact q_X1_wander_14 hd hh SH hf
noncomputable def g_X1_wander_0 (v1 : Int32) (h : Hp) : Option Hp :=
  if v1 = (-1) then
    g_X1_wander_11 v1 0 h
  else
    g_X1_wander_11 v1 1 h
set_option maxRecDepth 100000 in
set_option maxHeartbeats 4000000 in
theorem q_X1_wander_0 {X : Nat → Int32} {d : Nat} (hd : 0 ≤ d) {L hi : Nat} (hh : 96 ≤ hi) {v1 : Int32} {h : Hp} {o : Hp}  (SH : SHP L hi h) (hf : g_X1_wander_0 v1 h = some o) : Run X d 4 0 [some (.ref 80), some (.int v1)] [] h (none, o) ∧ SHP L hi o := by
  unfold g_X1_wander_0 at hf
  refine And.imp_left (rs_aload_n i_X1_wander_0 rfl) ?_
  refine And.imp_left (rs_iload_n i_X1_wander_1 rfl) ?_
  refine And.imp_left (rs_iconst i_X1_wander_2 (v := (-1)) (by decide)) ?_
  by_cases c1 : v1 = (-1)
  · replace hf := (if_pos c1).symm.trans hf
    refine And.imp_left (rs_icT i_X1_wander_3 (ct_eq c1) (tg := 10) (by decide)) ?_
    refine And.imp_left (rs_iconst i_X1_wander_10 (v := 0) (by decide)) ?_
    exact q_X1_wander_11 hd hh SH hf
  · replace hf := (if_neg c1).symm.trans hf
    refine And.imp_left (rs_icF i_X1_wander_3 (cf_eq c1)) ?_
    refine And.imp_left (rs_iconst i_X1_wander_6 (v := 1) (by decide)) ?_
    refine And.imp_left (rs_goto i_X1_wander_7 (tg := 11) (by decide)) ?_
    exact q_X1_wander_11 hd hh SH hf
noncomputable def g_X1_wander (v1 : Int32) (h : Hp) : Option Hp := g_X1_wander_0 v1 h
theorem k_X1_wander {X : Nat → Int32} {d : Nat} (hd : 0 ≤ d) {L hi : Nat} (hh : 96 ≤ hi) {v1 : Int32} {h : Hp} {o : Hp}  (SH : SHP L hi h) (hf : g_X1_wander v1 h = some o) : Calls X d 4 [.ref 80, .int v1] h (none, o) ∧ SHP L hi o := by
  obtain ⟨r, S2⟩ := q_X1_wander_0 hd hh SH hf
  exact ⟨⟨_, rfl, r⟩, S2⟩
noncomputable def g_X3_thick_0 (v0 : Nat) (v1 : Int32) (h : Hp) : Option (Int32 × Hp) :=
  if v1 < 0 then
    some (0, h)
  else
    if 12 ≤ v1 then
      some (0, h)
    else
      if inb v1 12 = true then
      if (gI h (v0 + 2) (ix v1)) ≤ 0 then
        some (0, h)
      else
        if ¬ (gI h (v0 + 2) (ix v1)) = 0 then
        some (((gI h (v0 + 1) (ix v1)) / (gI h (v0 + 2) (ix v1))), h)
        else none
      else none
set_option maxRecDepth 100000 in
set_option maxHeartbeats 4000000 in
theorem q_X3_thick_0 {X : Nat → Int32} {d : Nat} (hd : 0 ≤ d) {L hi : Nat} (hh : 96 ≤ hi) {v0 : Nat} {v1 : Int32} {h : Hp} {o : (Int32 × Hp)} (hv0 : OB3 v0) (SH : SHP L hi h) (hf : g_X3_thick_0 v0 v1 h = some o) : Run X d 39 0 [some (.ref v0), some (.int v1)] [] h (some (.int o.1), o.2) ∧ SHP L hi o.2 := by
  unfold g_X3_thick_0 at hf
  refine And.imp_left (rs_iload_n i_X3_thick_0 rfl) ?_
  by_cases c1 : v1 < 0
  · replace hf := (if_pos c1).symm.trans hf
    refine And.imp_left (rs_ifT i_X3_thick_1 (ct_lt c1) (tg := 35) (by decide)) ?_
    refine And.imp_left (rs_iconst i_X3_thick_35 (v := 0) (by decide)) ?_
    have hf := Option.some.inj hf
    subst hf
    exact ⟨rs_iret i_X3_thick_36 m_X3_thick rfl, SH⟩
  · replace hf := (if_neg c1).symm.trans hf
    refine And.imp_left (rs_ifF i_X3_thick_1 (cf_lt c1)) ?_
    refine And.imp_left (rs_iload_n i_X3_thick_4 rfl) ?_
    refine And.imp_left (rs_bipush i_X3_thick_5 (v := 12) (by decide)) ?_
    by_cases c2 : 12 ≤ v1
    · replace hf := (if_pos c2).symm.trans hf
      refine And.imp_left (rs_icT i_X3_thick_7 (ct_ge c2) (tg := 35) (by decide)) ?_
      refine And.imp_left (rs_iconst i_X3_thick_35 (v := 0) (by decide)) ?_
      have hf := Option.some.inj hf
      subst hf
      exact ⟨rs_iret i_X3_thick_36 m_X3_thick rfl, SH⟩
    · replace hf := (if_neg c2).symm.trans hf
      refine And.imp_left (rs_icF i_X3_thick_7 (cf_ge c2)) ?_
      refine And.imp_left (rs_aload_n i_X3_thick_10 rfl) ?_
      refine And.imp_left (rs_getR i_X3_thick_11 (by decide) (by decide) (sO3 SH hh hv0) (sR3_1 SH hh hv0)) ?_
      refine And.imp_left (rs_iload_n i_X3_thick_14 rfl) ?_
      obtain ⟨c3, hf⟩ := ite_some hf
      refine And.imp_left (rs_iald i_X3_thick_15 (mkI (sA SH hh (k := 9) (n := 12) (aR3_1 hv0)) c3)) ?_
      by_cases c4 : (gI h (v0 + 2) (ix v1)) ≤ 0
      · replace hf := (if_pos c4).symm.trans hf
        refine And.imp_left (rs_ifT i_X3_thick_16 (ct_le c4) (tg := 35) (by decide)) ?_
        refine And.imp_left (rs_iconst i_X3_thick_35 (v := 0) (by decide)) ?_
        have hf := Option.some.inj hf
        subst hf
        exact ⟨rs_iret i_X3_thick_36 m_X3_thick rfl, SH⟩
      · replace hf := (if_neg c4).symm.trans hf
        refine And.imp_left (rs_ifF i_X3_thick_16 (cf_le c4)) ?_
        refine And.imp_left (rs_aload_n i_X3_thick_19 rfl) ?_
        refine And.imp_left (rs_getR i_X3_thick_20 (by decide) (by decide) (sO3 SH hh hv0) (sR3_0 SH hh hv0)) ?_
        refine And.imp_left (rs_iload_n i_X3_thick_23 rfl) ?_
        refine And.imp_left (rs_iald i_X3_thick_24 (mkI (sA SH hh (k := 9) (n := 12) (aR3_0 hv0)) c3)) ?_
        refine And.imp_left (rs_aload_n i_X3_thick_25 rfl) ?_
        refine And.imp_left (rs_getR i_X3_thick_26 (by decide) (by decide) (sO3 SH hh hv0) (sR3_1 SH hh hv0)) ?_
        refine And.imp_left (rs_iload_n i_X3_thick_29 rfl) ?_
        refine And.imp_left (rs_iald i_X3_thick_30 (mkI (sA SH hh (k := 9) (n := 12) (aR3_1 hv0)) c3)) ?_
        obtain ⟨c5, hf⟩ := ite_some hf
        refine And.imp_left (rs_idiv i_X3_thick_31 c5) ?_
        refine And.imp_left (rs_goto i_X3_thick_32 (tg := 36) (by decide)) ?_
        have hf := Option.some.inj hf
        subst hf
        exact ⟨rs_iret i_X3_thick_36 m_X3_thick rfl, SH⟩
noncomputable def g_X3_thick (v0 : Nat) (v1 : Int32) (h : Hp) : Option (Int32 × Hp) := g_X3_thick_0 v0 v1 h
theorem k_X3_thick {X : Nat → Int32} {d : Nat} (hd : 0 ≤ d) {L hi : Nat} (hh : 96 ≤ hi) {v0 : Nat} {v1 : Int32} {h : Hp} {o : (Int32 × Hp)} (hv0 : OB3 v0) (SH : SHP L hi h) (hf : g_X3_thick v0 v1 h = some o) : Calls X d 39 [.ref v0, .int v1] h (some (.int o.1), o.2) ∧ SHP L hi o.2 := by
  obtain ⟨r, S2⟩ := q_X3_thick_0 hd hh hv0 SH hf
  exact ⟨⟨_, rfl, r⟩, S2⟩
noncomputable def g_X6_joined_52  (h : Hp) : Option (Int32 × Hp) :=
  some (1, h)
set_option maxRecDepth 100000 in
set_option maxHeartbeats 4000000 in
theorem q_X6_joined_52 {X : Nat → Int32} {d : Nat} (hd : 0 ≤ d) {L hi : Nat} (hh : 96 ≤ hi) {d0 : Int32} {d1 : Int32} {d2 : Int32} {h : Hp} {o : (Int32 × Hp)}  (SH : SHP L hi h) (hf : g_X6_joined_52 h = some o) : Run X d 65 52 [some (.int d0), some (.int d1), some (.int d2)] [] h (some (.int o.1), o.2) ∧ SHP L hi o.2 := by
  unfold g_X6_joined_52 at hf
  refine And.imp_left (rs_iconst i_X6_joined_52 (v := 1) (by decide)) ?_
  refine And.imp_left (rs_goto i_X6_joined_53 (tg := 57) (by decide)) ?_
  have hf := Option.some.inj hf
  subst hf
  exact ⟨rs_iret i_X6_joined_57 m_X6_joined rfl, SH⟩
noncomputable def g_X6_joined_0 (v0 : Int32) (v1 : Int32) (v2 : Int32) (h : Hp) : Option (Int32 × Hp) :=
  if v0 = (-17) then
    some ((v1 - v2), h)
  else
    if v0 = (-16) then
      some ((v1 + v2), h)
    else
      if v0 = (-15) then
        if v1 ≠ v2 then
          some (0, h)
        else
          some (1, h)
      else
        if v0 = (-14) then
          if v2 ≤ v1 then
            some (0, h)
          else
            some (1, h)
        else
          if v0 = (-13) then
            some ((v1 * v2), h)
          else
            if v0 = (-12) then
              if v1 = 0 then
                some (0, h)
              else
                if v2 = 0 then
                  some (0, h)
                else
                  some (1, h)
            else
              if v0 = (-11) then
                if v1 ≠ 0 then
                  g_X6_joined_52 h
                else
                  if v2 = 0 then
                    some (0, h)
                  else
                    g_X6_joined_52 h
              else
                some ((v1 * v2), h)
set_option maxRecDepth 100000 in
set_option maxHeartbeats 4000000 in
theorem q_X6_joined_0 {X : Nat → Int32} {d : Nat} (hd : 0 ≤ d) {L hi : Nat} (hh : 96 ≤ hi) {v0 : Int32} {v1 : Int32} {v2 : Int32} {h : Hp} {o : (Int32 × Hp)}  (SH : SHP L hi h) (hf : g_X6_joined_0 v0 v1 v2 h = some o) : Run X d 65 0 [some (.int v0), some (.int v1), some (.int v2)] [] h (some (.int o.1), o.2) ∧ SHP L hi o.2 := by
  unfold g_X6_joined_0 at hf
  refine And.imp_left (rs_iload_n i_X6_joined_0 rfl) ?_
  by_cases c1 : v0 = (-17)
  · replace hf := (if_pos c1).symm.trans hf
    refine And.imp_left (rs_tsw i_X6_joined_1 (off := 97) (by rw [c1]; decide) (tg := 98) (by decide)) ?_
    refine And.imp_left (rs_iload_n i_X6_joined_98 rfl) ?_
    refine And.imp_left (rs_iload_n i_X6_joined_99 rfl) ?_
    refine And.imp_left (rs_isub i_X6_joined_100) ?_
    have hf := Option.some.inj hf
    subst hf
    exact ⟨rs_iret i_X6_joined_101 m_X6_joined rfl, SH⟩
  · replace hf := (if_neg c1).symm.trans hf
    by_cases c2 : v0 = (-16)
    · replace hf := (if_pos c2).symm.trans hf
      refine And.imp_left (rs_tsw i_X6_joined_1 (off := 93) (by rw [c2]; decide) (tg := 94) (by decide)) ?_
      refine And.imp_left (rs_iload_n i_X6_joined_94 rfl) ?_
      refine And.imp_left (rs_iload_n i_X6_joined_95 rfl) ?_
      refine And.imp_left (rs_iadd i_X6_joined_96) ?_
      have hf := Option.some.inj hf
      subst hf
      exact ⟨rs_iret i_X6_joined_97 m_X6_joined rfl, SH⟩
    · replace hf := (if_neg c2).symm.trans hf
      by_cases c3 : v0 = (-15)
      · replace hf := (if_pos c3).symm.trans hf
        refine And.imp_left (rs_tsw i_X6_joined_1 (off := 82) (by rw [c3]; decide) (tg := 83) (by decide)) ?_
        refine And.imp_left (rs_iload_n i_X6_joined_83 rfl) ?_
        refine And.imp_left (rs_iload_n i_X6_joined_84 rfl) ?_
        by_cases c13 : v1 ≠ v2
        · replace hf := (if_pos c13).symm.trans hf
          refine And.imp_left (rs_icT i_X6_joined_85 (ct_ne c13) (tg := 92) (by decide)) ?_
          refine And.imp_left (rs_iconst i_X6_joined_92 (v := 0) (by decide)) ?_
          have hf := Option.some.inj hf
          subst hf
          exact ⟨rs_iret i_X6_joined_93 m_X6_joined rfl, SH⟩
        · replace hf := (if_neg c13).symm.trans hf
          refine And.imp_left (rs_icF i_X6_joined_85 (cf_ne c13)) ?_
          refine And.imp_left (rs_iconst i_X6_joined_88 (v := 1) (by decide)) ?_
          refine And.imp_left (rs_goto i_X6_joined_89 (tg := 93) (by decide)) ?_
          have hf := Option.some.inj hf
          subst hf
          exact ⟨rs_iret i_X6_joined_93 m_X6_joined rfl, SH⟩
      · replace hf := (if_neg c3).symm.trans hf
        by_cases c4 : v0 = (-14)
        · replace hf := (if_pos c4).symm.trans hf
          refine And.imp_left (rs_tsw i_X6_joined_1 (off := 71) (by rw [c4]; decide) (tg := 72) (by decide)) ?_
          refine And.imp_left (rs_iload_n i_X6_joined_72 rfl) ?_
          refine And.imp_left (rs_iload_n i_X6_joined_73 rfl) ?_
          by_cases c12 : v2 ≤ v1
          · replace hf := (if_pos c12).symm.trans hf
            refine And.imp_left (rs_icT i_X6_joined_74 (ct_ge c12) (tg := 81) (by decide)) ?_
            refine And.imp_left (rs_iconst i_X6_joined_81 (v := 0) (by decide)) ?_
            have hf := Option.some.inj hf
            subst hf
            exact ⟨rs_iret i_X6_joined_82 m_X6_joined rfl, SH⟩
          · replace hf := (if_neg c12).symm.trans hf
            refine And.imp_left (rs_icF i_X6_joined_74 (cf_ge c12)) ?_
            refine And.imp_left (rs_iconst i_X6_joined_77 (v := 1) (by decide)) ?_
            refine And.imp_left (rs_goto i_X6_joined_78 (tg := 82) (by decide)) ?_
            have hf := Option.some.inj hf
            subst hf
            exact ⟨rs_iret i_X6_joined_82 m_X6_joined rfl, SH⟩
        · replace hf := (if_neg c4).symm.trans hf
          by_cases c5 : v0 = (-13)
          · replace hf := (if_pos c5).symm.trans hf
            refine And.imp_left (rs_tsw i_X6_joined_1 (off := 101) (by rw [c5]; decide) (tg := 102) (by decide)) ?_
            refine And.imp_left (rs_iload_n i_X6_joined_102 rfl) ?_
            refine And.imp_left (rs_iload_n i_X6_joined_103 rfl) ?_
            refine And.imp_left (rs_imul i_X6_joined_104) ?_
            have hf := Option.some.inj hf
            subst hf
            exact ⟨rs_iret i_X6_joined_105 m_X6_joined rfl, SH⟩
          · replace hf := (if_neg c5).symm.trans hf
            by_cases c6 : v0 = (-12)
            · replace hf := (if_pos c6).symm.trans hf
              refine And.imp_left (rs_tsw i_X6_joined_1 (off := 57) (by rw [c6]; decide) (tg := 58) (by decide)) ?_
              refine And.imp_left (rs_iload_n i_X6_joined_58 rfl) ?_
              by_cases c10 : v1 = 0
              · replace hf := (if_pos c10).symm.trans hf
                refine And.imp_left (rs_ifT i_X6_joined_59 (ct_eq c10) (tg := 70) (by decide)) ?_
                refine And.imp_left (rs_iconst i_X6_joined_70 (v := 0) (by decide)) ?_
                have hf := Option.some.inj hf
                subst hf
                exact ⟨rs_iret i_X6_joined_71 m_X6_joined rfl, SH⟩
              · replace hf := (if_neg c10).symm.trans hf
                refine And.imp_left (rs_ifF i_X6_joined_59 (cf_eq c10)) ?_
                refine And.imp_left (rs_iload_n i_X6_joined_62 rfl) ?_
                by_cases c11 : v2 = 0
                · replace hf := (if_pos c11).symm.trans hf
                  refine And.imp_left (rs_ifT i_X6_joined_63 (ct_eq c11) (tg := 70) (by decide)) ?_
                  refine And.imp_left (rs_iconst i_X6_joined_70 (v := 0) (by decide)) ?_
                  have hf := Option.some.inj hf
                  subst hf
                  exact ⟨rs_iret i_X6_joined_71 m_X6_joined rfl, SH⟩
                · replace hf := (if_neg c11).symm.trans hf
                  refine And.imp_left (rs_ifF i_X6_joined_63 (cf_eq c11)) ?_
                  refine And.imp_left (rs_iconst i_X6_joined_66 (v := 1) (by decide)) ?_
                  refine And.imp_left (rs_goto i_X6_joined_67 (tg := 71) (by decide)) ?_
                  have hf := Option.some.inj hf
                  subst hf
                  exact ⟨rs_iret i_X6_joined_71 m_X6_joined rfl, SH⟩
            · replace hf := (if_neg c6).symm.trans hf
              by_cases c7 : v0 = (-11)
              · replace hf := (if_pos c7).symm.trans hf
                refine And.imp_left (rs_tsw i_X6_joined_1 (off := 43) (by rw [c7]; decide) (tg := 44) (by decide)) ?_
                refine And.imp_left (rs_iload_n i_X6_joined_44 rfl) ?_
                by_cases c8 : v1 ≠ 0
                · replace hf := (if_pos c8).symm.trans hf
                  refine And.imp_left (rs_ifT i_X6_joined_45 (ct_ne c8) (tg := 52) (by decide)) ?_
                  exact q_X6_joined_52 hd hh SH hf
                · replace hf := (if_neg c8).symm.trans hf
                  refine And.imp_left (rs_ifF i_X6_joined_45 (cf_ne c8)) ?_
                  refine And.imp_left (rs_iload_n i_X6_joined_48 rfl) ?_
                  by_cases c9 : v2 = 0
                  · replace hf := (if_pos c9).symm.trans hf
                    refine And.imp_left (rs_ifT i_X6_joined_49 (ct_eq c9) (tg := 56) (by decide)) ?_
                    refine And.imp_left (rs_iconst i_X6_joined_56 (v := 0) (by decide)) ?_
                    have hf := Option.some.inj hf
                    subst hf
                    exact ⟨rs_iret i_X6_joined_57 m_X6_joined rfl, SH⟩
                  · replace hf := (if_neg c9).symm.trans hf
                    refine And.imp_left (rs_ifF i_X6_joined_49 (cf_eq c9)) ?_
                    exact q_X6_joined_52 hd hh SH hf
              · replace hf := (if_neg c7).symm.trans hf
                refine And.imp_left (rs_tsw i_X6_joined_1 (off := 101) (swt_df (by have z0 := ne_ti c1; rw [show ((-17) : Int32).toInt = -17 from by decide] at z0; have z1 := ne_ti c2; rw [show ((-16) : Int32).toInt = -16 from by decide] at z1; have z2 := ne_ti c3; rw [show ((-15) : Int32).toInt = -15 from by decide] at z2; have z3 := ne_ti c4; rw [show ((-14) : Int32).toInt = -14 from by decide] at z3; have z4 := ne_ti c5; rw [show ((-13) : Int32).toInt = -13 from by decide] at z4; have z5 := ne_ti c6; rw [show ((-12) : Int32).toInt = -12 from by decide] at z5; have z6 := ne_ti c7; rw [show ((-11) : Int32).toInt = -11 from by decide] at z6; omega)) (tg := 102) (by decide)) ?_
                refine And.imp_left (rs_iload_n i_X6_joined_102 rfl) ?_
                refine And.imp_left (rs_iload_n i_X6_joined_103 rfl) ?_
                refine And.imp_left (rs_imul i_X6_joined_104) ?_
                have hf := Option.some.inj hf
                subst hf
                exact ⟨rs_iret i_X6_joined_105 m_X6_joined rfl, SH⟩
noncomputable def g_X6_joined (v0 : Int32) (v1 : Int32) (v2 : Int32) (h : Hp) : Option (Int32 × Hp) := g_X6_joined_0 v0 v1 v2 h
theorem k_X6_joined {X : Nat → Int32} {d : Nat} (hd : 0 ≤ d) {L hi : Nat} (hh : 96 ≤ hi) {v0 : Int32} {v1 : Int32} {v2 : Int32} {h : Hp} {o : (Int32 × Hp)}  (SH : SHP L hi h) (hf : g_X6_joined v0 v1 v2 h = some o) : Calls X d 65 [.int v0, .int v1, .int v2] h (some (.int o.1), o.2) ∧ SHP L hi o.2 := by
  obtain ⟨r, S2⟩ := q_X6_joined_0 hd hh SH hf
  exact ⟨⟨_, rfl, r⟩, S2⟩
noncomputable def g_X6_named_0 (v0 : Int32) (v1 : Nat) (h : Hp) : Option (Int32 × Hp) :=
  if ((-1) - v0) < 0 then
    some (0, h)
  else
    if 6 ≤ ((-1) - v0) then
      some (0, h)
    else
      if inb ((-1) - v0) 6 = true then
      some ((gI h v1 (ix ((-1) - v0))), h)
      else none
set_option maxRecDepth 100000 in
set_option maxHeartbeats 4000000 in
theorem q_X6_named_0 {X : Nat → Int32} {d : Nat} (hd : 0 ≤ d) {L hi : Nat} (hh : 96 ≤ hi) {v0 : Int32} {v1 : Nat} {h : Hp} {o : (Int32 × Hp)} (hv1 : ARY 96 v1 9 6) (SH : SHP L hi h) (hf : g_X6_named_0 v0 v1 h = some o) : Run X d 64 0 [some (.int v0), some (.ref v1), none] [] h (some (.int o.1), o.2) ∧ SHP L hi o.2 := by
  unfold g_X6_named_0 at hf
  refine And.imp_left (rs_iconst i_X6_named_0 (v := (-1)) (by decide)) ?_
  refine And.imp_left (rs_iload_n i_X6_named_1 rfl) ?_
  refine And.imp_left (rs_isub i_X6_named_2) ?_
  refine And.imp_left (rs_istore_n i_X6_named_3 (Nat.le_of_ble_eq_true rfl) (lv' := [some (.int v0), some (.ref v1), some (.int ((-1) - v0))]) rfl) ?_
  refine And.imp_left (rs_iload_n i_X6_named_4 rfl) ?_
  by_cases c1 : ((-1) - v0) < 0
  · replace hf := (if_pos c1).symm.trans hf
    refine And.imp_left (rs_ifT i_X6_named_5 (ct_lt c1) (tg := 20) (by decide)) ?_
    refine And.imp_left (rs_iconst i_X6_named_20 (v := 0) (by decide)) ?_
    have hf := Option.some.inj hf
    subst hf
    exact ⟨rs_iret i_X6_named_21 m_X6_named rfl, SH⟩
  · replace hf := (if_neg c1).symm.trans hf
    refine And.imp_left (rs_ifF i_X6_named_5 (cf_lt c1)) ?_
    refine And.imp_left (rs_iload_n i_X6_named_8 rfl) ?_
    refine And.imp_left (rs_aload_n i_X6_named_9 rfl) ?_
    refine And.imp_left (rs_alIn i_X6_named_10 (sA SH hh (k := 9) (n := 6) hv1) (v := 6) (by decide)) ?_
    by_cases c2 : 6 ≤ ((-1) - v0)
    · replace hf := (if_pos c2).symm.trans hf
      refine And.imp_left (rs_icT i_X6_named_11 (ct_ge c2) (tg := 20) (by decide)) ?_
      refine And.imp_left (rs_iconst i_X6_named_20 (v := 0) (by decide)) ?_
      have hf := Option.some.inj hf
      subst hf
      exact ⟨rs_iret i_X6_named_21 m_X6_named rfl, SH⟩
    · replace hf := (if_neg c2).symm.trans hf
      refine And.imp_left (rs_icF i_X6_named_11 (cf_ge c2)) ?_
      refine And.imp_left (rs_aload_n i_X6_named_14 rfl) ?_
      refine And.imp_left (rs_iload_n i_X6_named_15 rfl) ?_
      obtain ⟨c3, hf⟩ := ite_some hf
      refine And.imp_left (rs_iald i_X6_named_16 (mkI (sA SH hh (k := 9) (n := 6) hv1) c3)) ?_
      refine And.imp_left (rs_goto i_X6_named_17 (tg := 21) (by decide)) ?_
      have hf := Option.some.inj hf
      subst hf
      exact ⟨rs_iret i_X6_named_21 m_X6_named rfl, SH⟩
noncomputable def g_X6_named (v0 : Int32) (v1 : Nat) (h : Hp) : Option (Int32 × Hp) := g_X6_named_0 v0 v1 h
theorem k_X6_named {X : Nat → Int32} {d : Nat} (hd : 0 ≤ d) {L hi : Nat} (hh : 96 ≤ hi) {v0 : Int32} {v1 : Nat} {h : Hp} {o : (Int32 × Hp)} (hv1 : ARY 96 v1 9 6) (SH : SHP L hi h) (hf : g_X6_named v0 v1 h = some o) : Calls X d 64 [.int v0, .ref v1] h (some (.int o.1), o.2) ∧ SHP L hi o.2 := by
  obtain ⟨r, S2⟩ := q_X6_named_0 hd hh hv1 SH hf
  exact ⟨⟨_, rfl, r⟩, S2⟩
noncomputable def g_X7_within_0 (v0 : Int32) (v1 : Int32) (v2 : Int32) (h : Hp) : Option (Int32 × Hp) :=
  if v0 < v1 then
    some (0, h)
  else
    if v2 < v0 then
      some (0, h)
    else
      some (1, h)
set_option maxRecDepth 100000 in
set_option maxHeartbeats 4000000 in
theorem q_X7_within_0 {X : Nat → Int32} {d : Nat} (hd : 0 ≤ d) {L hi : Nat} (hh : 96 ≤ hi) {v0 : Int32} {v1 : Int32} {v2 : Int32} {h : Hp} {o : (Int32 × Hp)}  (SH : SHP L hi h) (hf : g_X7_within_0 v0 v1 v2 h = some o) : Run X d 110 0 [some (.int v0), some (.int v1), some (.int v2)] [] h (some (.int o.1), o.2) ∧ SHP L hi o.2 := by
  unfold g_X7_within_0 at hf
  refine And.imp_left (rs_iload_n i_X7_within_0 rfl) ?_
  refine And.imp_left (rs_iload_n i_X7_within_1 rfl) ?_
  by_cases c1 : v0 < v1
  · replace hf := (if_pos c1).symm.trans hf
    refine And.imp_left (rs_icT i_X7_within_2 (ct_lt c1) (tg := 14) (by decide)) ?_
    refine And.imp_left (rs_iconst i_X7_within_14 (v := 0) (by decide)) ?_
    have hf := Option.some.inj hf
    subst hf
    exact ⟨rs_iret i_X7_within_15 m_X7_within (by decide), SH⟩
  · replace hf := (if_neg c1).symm.trans hf
    refine And.imp_left (rs_icF i_X7_within_2 (cf_lt c1)) ?_
    refine And.imp_left (rs_iload_n i_X7_within_5 rfl) ?_
    refine And.imp_left (rs_iload_n i_X7_within_6 rfl) ?_
    by_cases c2 : v2 < v0
    · replace hf := (if_pos c2).symm.trans hf
      refine And.imp_left (rs_icT i_X7_within_7 (ct_gt c2) (tg := 14) (by decide)) ?_
      refine And.imp_left (rs_iconst i_X7_within_14 (v := 0) (by decide)) ?_
      have hf := Option.some.inj hf
      subst hf
      exact ⟨rs_iret i_X7_within_15 m_X7_within (by decide), SH⟩
    · replace hf := (if_neg c2).symm.trans hf
      refine And.imp_left (rs_icF i_X7_within_7 (cf_gt c2)) ?_
      refine And.imp_left (rs_iconst i_X7_within_10 (v := 1) (by decide)) ?_
      refine And.imp_left (rs_goto i_X7_within_11 (tg := 15) (by decide)) ?_
      have hf := Option.some.inj hf
      subst hf
      exact ⟨rs_iret i_X7_within_15 m_X7_within (by decide), SH⟩
noncomputable def g_X7_within (v0 : Int32) (v1 : Int32) (v2 : Int32) (h : Hp) : Option (Int32 × Hp) := g_X7_within_0 v0 v1 v2 h
theorem k_X7_within {X : Nat → Int32} {d : Nat} (hd : 0 ≤ d) {L hi : Nat} (hh : 96 ≤ hi) {v0 : Int32} {v1 : Int32} {v2 : Int32} {h : Hp} {o : (Int32 × Hp)}  (SH : SHP L hi h) (hf : g_X7_within v0 v1 v2 h = some o) : Calls X d 110 [.int v0, .int v1, .int v2] h (some (.int o.1), o.2) ∧ SHP L hi o.2 := by
  obtain ⟨r, S2⟩ := q_X7_within_0 hd hh SH hf
  exact ⟨⟨_, rfl, r⟩, S2⟩
noncomputable def g_X6_value_203 (n : Nat) (v0 : Nat) (v3 : Int32) (h : Hp) : Option (Int32 × Hp) :=
  if 0 ≤ v3 then
    if inb v3 40 = true then
    some ((gI h (v0 + 3) (ix v3)), h)
    else none
  else
    some (0, h)
set_option maxRecDepth 100000 in
set_option maxHeartbeats 4000000 in
theorem q_X6_value_203 {X : Nat → Int32} {d : Nat} (hd : 1 ≤ (d + 1)) {L hi : Nat} (hh : 96 ≤ hi) {n : Nat} {v0 : Nat} {v3 : Int32} {d1 : Int32} {d2 : Nat} {d4 : Int32} {w5 : Option Value} {h : Hp} {o : (Int32 × Hp)} (hv0 : OB6 v0) (SH : SHP L hi h) (hf : g_X6_value_203 n v0 v3 h = some o) : Run X (d + 1) 63 203 [some (.ref v0), some (.int d1), some (.ref d2), some (.int v3), some (.int d4), w5] [] h (some (.int o.1), o.2) ∧ SHP L hi o.2 := by
  unfold g_X6_value_203 at hf
  refine And.imp_left (rs_iload_n i_X6_value_203 rfl) ?_
  by_cases c1 : 0 ≤ v3
  · replace hf := (if_pos c1).symm.trans hf
    refine And.imp_left (rs_ifT i_X6_value_204 (ct_ge c1) (tg := 211) (by decide)) ?_
    refine And.imp_left (rs_aload_n i_X6_value_211 rfl) ?_
    refine And.imp_left (rs_getR i_X6_value_212 (by decide) (by decide) (sO6 SH hh hv0) (sR6_2 SH hh hv0)) ?_
    refine And.imp_left (rs_iload_n i_X6_value_215 rfl) ?_
    obtain ⟨c2, hf⟩ := ite_some hf
    refine And.imp_left (rs_iald i_X6_value_216 (mkI (sA SH hh (k := 9) (n := 40) (aR6_2 hv0)) c2)) ?_
    have hf := Option.some.inj hf
    subst hf
    exact ⟨rs_iret i_X6_value_217 m_X6_value rfl, SH⟩
  · replace hf := (if_neg c1).symm.trans hf
    refine And.imp_left (rs_ifF i_X6_value_204 (cf_ge c1)) ?_
    refine And.imp_left (rs_iconst i_X6_value_207 (v := 0) (by decide)) ?_
    refine And.imp_left (rs_goto i_X6_value_208 (tg := 217) (by decide)) ?_
    have hf := Option.some.inj hf
    subst hf
    exact ⟨rs_iret i_X6_value_217 m_X6_value rfl, SH⟩
noncomputable def g_X6_value_197 (n : Nat) (K31 : Nat → Int32 → Nat → Int32 → Int32 → Hp → Option (Int32 × Hp)) (v0 : Nat) (v1 : Int32) (v2 : Nat) (v3 : Int32) (v4 : Int32) (h : Hp) : Option (Int32 × Hp) :=
  K31 v0 v1 v2 v3 (v4 + 1) h
set_option maxRecDepth 100000 in
set_option maxHeartbeats 4000000 in
theorem q_X6_value_197 {X : Nat → Int32} {d : Nat} (hd : 1 ≤ (d + 1)) {L hi : Nat} (hh : 96 ≤ hi) {n : Nat} {K31 : Nat → Int32 → Nat → Int32 → Int32 → Hp → Option (Int32 × Hp)} (HK31 : ∀ (v0 : Nat) (v1 : Int32) (v2 : Nat) (v3 : Int32) (v4 : Int32) (w5 : Option Value) (hv0 : OB6 v0) (hv2 : ARY 96 v2 9 6) (h : Hp) (o : (Int32 × Hp)), SHP L hi h → K31 v0 v1 v2 v3 v4 h = some o → Run X (d + 1) 63 31 [some (.ref v0), some (.int v1), some (.ref v2), some (.int v3), some (.int v4), w5] [] h (some (.int o.1), o.2) ∧ SHP L hi o.2) {v0 : Nat} {v1 : Int32} {v2 : Nat} {v3 : Int32} {v4 : Int32} {d5 : Int32} {h : Hp} {o : (Int32 × Hp)} (hv0 : OB6 v0) (hv2 : ARY 96 v2 9 6) (SH : SHP L hi h) (hf : g_X6_value_197 n K31 v0 v1 v2 v3 v4 h = some o) : Run X (d + 1) 63 197 [some (.ref v0), some (.int v1), some (.ref v2), some (.int v3), some (.int v4), some (.int d5)] [] h (some (.int o.1), o.2) ∧ SHP L hi o.2 := by
  unfold g_X6_value_197 at hf
  refine And.imp_left (rs_iinc i_X6_value_197 rfl (v := v4 + 1) rfl (Nat.le_of_ble_eq_true rfl) (lv' := [some (.ref v0), some (.int v1), some (.ref v2), some (.int v3), some (.int (v4 + 1)), some (.int d5)]) rfl) ?_
  refine And.imp_left (rs_goto i_X6_value_200 (tg := 31) (by decide)) ?_
  exact HK31 _ _ _ _ _ _ hv0 hv2 _ _ SH hf
noncomputable def g_X6_value_158 (n : Nat) (K31 : Nat → Int32 → Nat → Int32 → Int32 → Hp → Option (Int32 × Hp)) (v0 : Nat) (v1 : Int32) (v2 : Nat) (v3 : Int32) (v4 : Int32) (s0 : Nat) (s1 : Int32) (s2 : Int32) (h : Hp) : Option (Int32 × Hp) :=
  if inb s1 40 = true then
  g_X6_value_197 n K31 v0 v1 v2 v3 v4 (hsi h s0 (ix s1) s2)
  else none
set_option maxRecDepth 100000 in
set_option maxHeartbeats 4000000 in
theorem q_X6_value_158 {X : Nat → Int32} {d : Nat} (hd : 1 ≤ (d + 1)) {L hi : Nat} (hh : 96 ≤ hi) {n : Nat} {K31 : Nat → Int32 → Nat → Int32 → Int32 → Hp → Option (Int32 × Hp)} (HK31 : ∀ (v0 : Nat) (v1 : Int32) (v2 : Nat) (v3 : Int32) (v4 : Int32) (w5 : Option Value) (hv0 : OB6 v0) (hv2 : ARY 96 v2 9 6) (h : Hp) (o : (Int32 × Hp)), SHP L hi h → K31 v0 v1 v2 v3 v4 h = some o → Run X (d + 1) 63 31 [some (.ref v0), some (.int v1), some (.ref v2), some (.int v3), some (.int v4), w5] [] h (some (.int o.1), o.2) ∧ SHP L hi o.2) {v0 : Nat} {v1 : Int32} {v2 : Nat} {v3 : Int32} {v4 : Int32} {s0 : Nat} {s1 : Int32} {s2 : Int32} {d5 : Int32} {h : Hp} {o : (Int32 × Hp)} (hv0 : OB6 v0) (hv2 : ARY 96 v2 9 6) (hs0 : ARY 96 s0 9 40) (SH : SHP L hi h) (hf : g_X6_value_158 n K31 v0 v1 v2 v3 v4 s0 s1 s2 h = some o) : Run X (d + 1) 63 158 [some (.ref v0), some (.int v1), some (.ref v2), some (.int v3), some (.int v4), some (.int d5)] [.int s2, .int s1, .ref s0] h (some (.int o.1), o.2) ∧ SHP L hi o.2 := by
  unfold g_X6_value_158 at hf
  obtain ⟨c1, hf⟩ := ite_some hf
  refine And.imp_left (rs_iast i_X6_value_158 (mkI (sA SH hh (k := 9) (n := 40) hs0) c1)) ?_
  have SH := shi SH s0 (ix s1) s2
  refine And.imp_left (rs_goto i_X6_value_159 (tg := 197) (by decide)) ?_
  exact q_X6_value_197 hd hh HK31 hv0 hv2 SH hf
noncomputable def g_X6_value_116 (n : Nat) (K31 : Nat → Int32 → Nat → Int32 → Int32 → Hp → Option (Int32 × Hp)) (v0 : Nat) (v1 : Int32) (v2 : Nat) (v3 : Int32) (v4 : Int32) (v5 : Int32) (h : Hp) : Option (Int32 × Hp) :=
  if 0 ≤ v3 then
    if v5 ≠ (-19) then
      if inb v3 40 = true then
      if (gI h (v0 + 3) (ix v3)) ≠ 0 then
        g_X6_value_158 n K31 v0 v1 v2 v3 v4 (v0 + 3) v3 0 h
      else
        g_X6_value_158 n K31 v0 v1 v2 v3 v4 (v0 + 3) v3 1 h
      else none
    else
      if inb v3 40 = true then
      g_X6_value_158 n K31 v0 v1 v2 v3 v4 (v0 + 3) v3 (-(gI h (v0 + 3) (ix v3))) h
      else none
  else
    some (0, h)
set_option maxRecDepth 100000 in
set_option maxHeartbeats 4000000 in
theorem q_X6_value_116 {X : Nat → Int32} {d : Nat} (hd : 1 ≤ (d + 1)) {L hi : Nat} (hh : 96 ≤ hi) {n : Nat} {K31 : Nat → Int32 → Nat → Int32 → Int32 → Hp → Option (Int32 × Hp)} (HK31 : ∀ (v0 : Nat) (v1 : Int32) (v2 : Nat) (v3 : Int32) (v4 : Int32) (w5 : Option Value) (hv0 : OB6 v0) (hv2 : ARY 96 v2 9 6) (h : Hp) (o : (Int32 × Hp)), SHP L hi h → K31 v0 v1 v2 v3 v4 h = some o → Run X (d + 1) 63 31 [some (.ref v0), some (.int v1), some (.ref v2), some (.int v3), some (.int v4), w5] [] h (some (.int o.1), o.2) ∧ SHP L hi o.2) {v0 : Nat} {v1 : Int32} {v2 : Nat} {v3 : Int32} {v4 : Int32} {v5 : Int32} {h : Hp} {o : (Int32 × Hp)} (hv0 : OB6 v0) (hv2 : ARY 96 v2 9 6) (SH : SHP L hi h) (hf : g_X6_value_116 n K31 v0 v1 v2 v3 v4 v5 h = some o) : Run X (d + 1) 63 116 [some (.ref v0), some (.int v1), some (.ref v2), some (.int v3), some (.int v4), some (.int v5)] [] h (some (.int o.1), o.2) ∧ SHP L hi o.2 := by
  unfold g_X6_value_116 at hf
  refine And.imp_left (rs_iload_n i_X6_value_116 rfl) ?_
  by_cases c1 : 0 ≤ v3
  · replace hf := (if_pos c1).symm.trans hf
    refine And.imp_left (rs_ifT i_X6_value_117 (ct_ge c1) (tg := 122) (by decide)) ?_
    refine And.imp_left (rs_aload_n i_X6_value_122 rfl) ?_
    refine And.imp_left (rs_getR i_X6_value_123 (by decide) (by decide) (sO6 SH hh hv0) (sR6_2 SH hh hv0)) ?_
    refine And.imp_left (rs_iload_n i_X6_value_126 rfl) ?_
    refine And.imp_left (rs_iload i_X6_value_127 rfl) ?_
    refine And.imp_left (rs_bipush i_X6_value_129 (v := (-19)) (by decide)) ?_
    by_cases c2 : v5 ≠ (-19)
    · replace hf := (if_pos c2).symm.trans hf
      refine And.imp_left (rs_icT i_X6_value_131 (ct_ne c2) (tg := 144) (by decide)) ?_
      refine And.imp_left (rs_aload_n i_X6_value_144 rfl) ?_
      refine And.imp_left (rs_getR i_X6_value_145 (by decide) (by decide) (sO6 SH hh hv0) (sR6_2 SH hh hv0)) ?_
      refine And.imp_left (rs_iload_n i_X6_value_148 rfl) ?_
      obtain ⟨c3, hf⟩ := ite_some hf
      refine And.imp_left (rs_iald i_X6_value_149 (mkI (sA SH hh (k := 9) (n := 40) (aR6_2 hv0)) c3)) ?_
      by_cases c4 : (gI h (v0 + 3) (ix v3)) ≠ 0
      · replace hf := (if_pos c4).symm.trans hf
        refine And.imp_left (rs_ifT i_X6_value_150 (ct_ne c4) (tg := 157) (by decide)) ?_
        refine And.imp_left (rs_iconst i_X6_value_157 (v := 0) (by decide)) ?_
        exact q_X6_value_158 hd hh HK31 hv0 hv2 (aR6_2 hv0) SH hf
      · replace hf := (if_neg c4).symm.trans hf
        refine And.imp_left (rs_ifF i_X6_value_150 (cf_ne c4)) ?_
        refine And.imp_left (rs_iconst i_X6_value_153 (v := 1) (by decide)) ?_
        refine And.imp_left (rs_goto i_X6_value_154 (tg := 158) (by decide)) ?_
        exact q_X6_value_158 hd hh HK31 hv0 hv2 (aR6_2 hv0) SH hf
    · replace hf := (if_neg c2).symm.trans hf
      refine And.imp_left (rs_icF i_X6_value_131 (cf_ne c2)) ?_
      refine And.imp_left (rs_aload_n i_X6_value_134 rfl) ?_
      refine And.imp_left (rs_getR i_X6_value_135 (by decide) (by decide) (sO6 SH hh hv0) (sR6_2 SH hh hv0)) ?_
      refine And.imp_left (rs_iload_n i_X6_value_138 rfl) ?_
      obtain ⟨c5, hf⟩ := ite_some hf
      refine And.imp_left (rs_iald i_X6_value_139 (mkI (sA SH hh (k := 9) (n := 40) (aR6_2 hv0)) c5)) ?_
      refine And.imp_left (rs_ineg i_X6_value_140) ?_
      refine And.imp_left (rs_goto i_X6_value_141 (tg := 158) (by decide)) ?_
      exact q_X6_value_158 hd hh HK31 hv0 hv2 (aR6_2 hv0) SH hf
  · replace hf := (if_neg c1).symm.trans hf
    refine And.imp_left (rs_ifF i_X6_value_117 (cf_ge c1)) ?_
    refine And.imp_left (rs_iconst i_X6_value_120 (v := 0) (by decide)) ?_
    have hf := Option.some.inj hf
    subst hf
    exact ⟨rs_iret i_X6_value_121 m_X6_value rfl, SH⟩
noncomputable def g_X6_value_98 (n : Nat) (K31 : Nat → Int32 → Nat → Int32 → Int32 → Hp → Option (Int32 × Hp)) (v0 : Nat) (v1 : Int32) (v2 : Nat) (v3 : Int32) (v4 : Int32) (s0 : Nat) (s1 : Int32) (s2 : Int32) (h : Hp) : Option (Int32 × Hp) :=
  if inb s1 40 = true then
  g_X6_value_197 n K31 v0 v1 v2 v3 v4 (hsi h s0 (ix s1) s2)
  else none
set_option maxRecDepth 100000 in
set_option maxHeartbeats 4000000 in
theorem q_X6_value_98 {X : Nat → Int32} {d : Nat} (hd : 1 ≤ (d + 1)) {L hi : Nat} (hh : 96 ≤ hi) {n : Nat} {K31 : Nat → Int32 → Nat → Int32 → Int32 → Hp → Option (Int32 × Hp)} (HK31 : ∀ (v0 : Nat) (v1 : Int32) (v2 : Nat) (v3 : Int32) (v4 : Int32) (w5 : Option Value) (hv0 : OB6 v0) (hv2 : ARY 96 v2 9 6) (h : Hp) (o : (Int32 × Hp)), SHP L hi h → K31 v0 v1 v2 v3 v4 h = some o → Run X (d + 1) 63 31 [some (.ref v0), some (.int v1), some (.ref v2), some (.int v3), some (.int v4), w5] [] h (some (.int o.1), o.2) ∧ SHP L hi o.2) {v0 : Nat} {v1 : Int32} {v2 : Nat} {v3 : Int32} {v4 : Int32} {s0 : Nat} {s1 : Int32} {s2 : Int32} {d5 : Int32} {h : Hp} {o : (Int32 × Hp)} (hv0 : OB6 v0) (hv2 : ARY 96 v2 9 6) (hs0 : ARY 96 s0 9 40) (SH : SHP L hi h) (hf : g_X6_value_98 n K31 v0 v1 v2 v3 v4 s0 s1 s2 h = some o) : Run X (d + 1) 63 98 [some (.ref v0), some (.int v1), some (.ref v2), some (.int v3), some (.int v4), some (.int d5)] [.int s2, .int s1, .ref s0] h (some (.int o.1), o.2) ∧ SHP L hi o.2 := by
  unfold g_X6_value_98 at hf
  obtain ⟨c1, hf⟩ := ite_some hf
  refine And.imp_left (rs_iast i_X6_value_98 (mkI (sA SH hh (k := 9) (n := 40) hs0) c1)) ?_
  have SH := shi SH s0 (ix s1) s2
  refine And.imp_left (rs_goto i_X6_value_99 (tg := 197) (by decide)) ?_
  exact q_X6_value_197 hd hh HK31 hv0 hv2 SH hf
noncomputable def g_X6_value_31 (n : Nat) : Nat → Nat → Int32 → Nat → Int32 → Int32 → Hp → Option (Int32 × Hp)
  | 0, _, _, _, _, _, _ => none
  | m + 1, v0, v1, v2, v3, v4, h =>
    if inb v1 3 = true then
    if (gI h (v0 + 2) (ix v1)) ≤ v4 then
      g_X6_value_203 n v0 v3 h
    else
      if 160 ≤ v4 then
        g_X6_value_203 n v0 v3 h
      else
        if inb v4 160 = true then
        if (gI h (v0 + 1) (ix v4)) ≤ (-11) then
          if (gI h (v0 + 1) (ix v4)) = (-13) then
            g_X6_value_116 n (g_X6_value_31 n m) v0 v1 v2 v3 v4 (gI h (v0 + 1) (ix v4)) h
          else
            if (gI h (v0 + 1) (ix v4)) ≠ (-19) then
              if 1 ≤ v3 then
                if inb (v3 + (-1)) 40 = true then
                if inb ((v3 + (-1)) + 1) 40 = true then
                (g_X6_joined (gI h (v0 + 1) (ix v4)) (gI h (v0 + 3) (ix (v3 + (-1)))) (gI h (v0 + 3) (ix ((v3 + (-1)) + 1))) h).bind fun o11 =>
                g_X6_value_197 n (g_X6_value_31 n m) v0 v1 v2 (v3 + (-1)) v4 (hsi o11.2 (v0 + 3) (ix (v3 + (-1))) o11.1)
                else none
                else none
              else
                some (0, h)
            else
              g_X6_value_116 n (g_X6_value_31 n m) v0 v1 v2 v3 v4 (gI h (v0 + 1) (ix v4)) h
        else
          if (v3 + 1) < 40 then
            if (gI h (v0 + 1) (ix v4)) < 0 then
              (g_X6_named (gI h (v0 + 1) (ix v4)) v2 h).bind fun o14 =>
              g_X6_value_98 n (g_X6_value_31 n m) v0 v1 v2 (v3 + 1) v4 (v0 + 3) (v3 + 1) o14.1 o14.2
            else
              g_X6_value_98 n (g_X6_value_31 n m) v0 v1 v2 (v3 + 1) v4 (v0 + 3) (v3 + 1) (gI h (v0 + 1) (ix v4)) h
          else
            some (0, h)
        else none
    else none
set_option maxRecDepth 100000 in
set_option maxHeartbeats 4000000 in
theorem q_X6_value_31 {X : Nat → Int32} {d : Nat} (hd : 1 ≤ (d + 1)) {L hi : Nat} (hh : 96 ≤ hi) {n : Nat} : ∀ (m : Nat) (v0 : Nat) (v1 : Int32) (v2 : Nat) (v3 : Int32) (v4 : Int32) (w5 : Option Value) (hv0 : OB6 v0) (hv2 : ARY 96 v2 9 6) (h : Hp) (o : (Int32 × Hp)), SHP L hi h → g_X6_value_31 n m v0 v1 v2 v3 v4 h = some o → Run X (d + 1) 63 31 [some (.ref v0), some (.int v1), some (.ref v2), some (.int v3), some (.int v4), w5] [] h (some (.int o.1), o.2) ∧ SHP L hi o.2 := by
  intro m
  induction m with
  | zero => intro v0 v1 v2 v3 v4 w5 hv0 hv2 h o SH hf; cases hf
  | succ m ih =>
    intro v0 v1 v2 v3 v4 w5 hv0 hv2 h o SH hf
    rw [g_X6_value_31] at hf
    refine And.imp_left (rs_iload i_X6_value_31 rfl) ?_
    refine And.imp_left (rs_aload_n i_X6_value_33 rfl) ?_
    refine And.imp_left (rs_getR i_X6_value_34 (by decide) (by decide) (sO6 SH hh hv0) (sR6_1 SH hh hv0)) ?_
    refine And.imp_left (rs_iload_n i_X6_value_37 rfl) ?_
    obtain ⟨c1, hf⟩ := ite_some hf
    refine And.imp_left (rs_iald i_X6_value_38 (mkI (sA SH hh (k := 9) (n := 3) (aR6_1 hv0)) c1)) ?_
    by_cases c2 : (gI h (v0 + 2) (ix v1)) ≤ v4
    · replace hf := (if_pos c2).symm.trans hf
      refine And.imp_left (rs_icT i_X6_value_39 (ct_ge c2) (tg := 203) (by decide)) ?_
      exact q_X6_value_203 hd hh hv0 SH hf
    · replace hf := (if_neg c2).symm.trans hf
      refine And.imp_left (rs_icF i_X6_value_39 (cf_ge c2)) ?_
      refine And.imp_left (rs_iload i_X6_value_42 rfl) ?_
      refine And.imp_left (rs_sipush i_X6_value_44 (v := 160) (by decide)) ?_
      by_cases c3 : 160 ≤ v4
      · replace hf := (if_pos c3).symm.trans hf
        refine And.imp_left (rs_icT i_X6_value_47 (ct_ge c3) (tg := 203) (by decide)) ?_
        exact q_X6_value_203 hd hh hv0 SH hf
      · replace hf := (if_neg c3).symm.trans hf
        refine And.imp_left (rs_icF i_X6_value_47 (cf_ge c3)) ?_
        refine And.imp_left (rs_aload_n i_X6_value_50 rfl) ?_
        refine And.imp_left (rs_getR i_X6_value_51 (by decide) (by decide) (sO6 SH hh hv0) (sR6_0 SH hh hv0)) ?_
        refine And.imp_left (rs_iload i_X6_value_54 rfl) ?_
        obtain ⟨c4, hf⟩ := ite_some hf
        refine And.imp_left (rs_iald i_X6_value_56 (mkI (sA SH hh (k := 9) (n := 160) (aR6_0 hv0)) c4)) ?_
        refine And.imp_left (rs_istore i_X6_value_57 (Nat.le_of_ble_eq_true rfl) (lv' := [some (.ref v0), some (.int v1), some (.ref v2), some (.int v3), some (.int v4), some (.int (gI h (v0 + 1) (ix v4)))]) rfl) ?_
        refine And.imp_left (rs_iload i_X6_value_59 rfl) ?_
        refine And.imp_left (rs_bipush i_X6_value_61 (v := (-11)) (by decide)) ?_
        by_cases c5 : (gI h (v0 + 1) (ix v4)) ≤ (-11)
        · replace hf := (if_pos c5).symm.trans hf
          refine And.imp_left (rs_icT i_X6_value_63 (ct_le c5) (tg := 102) (by decide)) ?_
          refine And.imp_left (rs_iload i_X6_value_102 rfl) ?_
          refine And.imp_left (rs_bipush i_X6_value_104 (v := (-13)) (by decide)) ?_
          by_cases c6 : (gI h (v0 + 1) (ix v4)) = (-13)
          · replace hf := (if_pos c6).symm.trans hf
            refine And.imp_left (rs_icT i_X6_value_106 (ct_eq c6) (tg := 116) (by decide)) ?_
            exact q_X6_value_116 hd hh ih hv0 hv2 SH hf
          · replace hf := (if_neg c6).symm.trans hf
            refine And.imp_left (rs_icF i_X6_value_106 (cf_eq c6)) ?_
            refine And.imp_left (rs_iload i_X6_value_109 rfl) ?_
            refine And.imp_left (rs_bipush i_X6_value_111 (v := (-19)) (by decide)) ?_
            by_cases c7 : (gI h (v0 + 1) (ix v4)) ≠ (-19)
            · replace hf := (if_pos c7).symm.trans hf
              refine And.imp_left (rs_icT i_X6_value_113 (ct_ne c7) (tg := 162) (by decide)) ?_
              refine And.imp_left (rs_iload_n i_X6_value_162 rfl) ?_
              refine And.imp_left (rs_iconst i_X6_value_163 (v := 1) (by decide)) ?_
              by_cases c8 : 1 ≤ v3
              · replace hf := (if_pos c8).symm.trans hf
                refine And.imp_left (rs_icT i_X6_value_164 (ct_ge c8) (tg := 169) (by decide)) ?_
                refine And.imp_left (rs_iinc i_X6_value_169 rfl (v := v3 + (-1)) rfl (Nat.le_of_ble_eq_true rfl) (lv' := [some (.ref v0), some (.int v1), some (.ref v2), some (.int (v3 + (-1))), some (.int v4), some (.int (gI h (v0 + 1) (ix v4)))]) rfl) ?_
                refine And.imp_left (rs_aload_n i_X6_value_172 rfl) ?_
                refine And.imp_left (rs_getR i_X6_value_173 (by decide) (by decide) (sO6 SH hh hv0) (sR6_2 SH hh hv0)) ?_
                refine And.imp_left (rs_iload_n i_X6_value_176 rfl) ?_
                refine And.imp_left (rs_iload i_X6_value_177 rfl) ?_
                refine And.imp_left (rs_aload_n i_X6_value_179 rfl) ?_
                refine And.imp_left (rs_getR i_X6_value_180 (by decide) (by decide) (sO6 SH hh hv0) (sR6_2 SH hh hv0)) ?_
                refine And.imp_left (rs_iload_n i_X6_value_183 rfl) ?_
                obtain ⟨c9, hf⟩ := ite_some hf
                refine And.imp_left (rs_iald i_X6_value_184 (mkI (sA SH hh (k := 9) (n := 40) (aR6_2 hv0)) c9)) ?_
                refine And.imp_left (rs_aload_n i_X6_value_185 rfl) ?_
                refine And.imp_left (rs_getR i_X6_value_186 (by decide) (by decide) (sO6 SH hh hv0) (sR6_2 SH hh hv0)) ?_
                refine And.imp_left (rs_iload_n i_X6_value_189 rfl) ?_
                refine And.imp_left (rs_iconst i_X6_value_190 (v := 1) (by decide)) ?_
                refine And.imp_left (rs_iadd i_X6_value_191) ?_
                obtain ⟨c10, hf⟩ := ite_some hf
                refine And.imp_left (rs_iald i_X6_value_192 (mkI (sA SH hh (k := 9) (n := 40) (aR6_2 hv0)) c10)) ?_
                obtain ⟨o11, e11, hf⟩ := bind_some hf
                obtain ⟨u11, SH2⟩ := k_X6_joined (X := X) (d := d) (by omega) (by omega) SH e11
                refine And.imp_left (rs_inS i_X6_value_193 (by decide) m_X6_joined rfl (As := [.int (gI h (v0 + 1) (ix v4)), .int (gI h (v0 + 3) (ix (v3 + (-1)))), .int (gI h (v0 + 3) (ix ((v3 + (-1)) + 1)))]) (rest := [.int (v3 + (-1)), .ref (v0 + 3)]) rfl rfl (Nat.le_of_ble_eq_true rfl) u11 (st' := [.int o11.1, .int (v3 + (-1)), .ref (v0 + 3)]) rfl) ?_
                clear SH; have SH := SH2; clear SH2
                refine And.imp_left (rs_iast i_X6_value_196 (mkI (sA SH hh (k := 9) (n := 40) (aR6_2 hv0)) c9)) ?_
                have SH := shi SH (v0 + 3) (ix (v3 + (-1))) o11.1
                exact q_X6_value_197 hd hh ih hv0 hv2 SH hf
              · replace hf := (if_neg c8).symm.trans hf
                refine And.imp_left (rs_icF i_X6_value_164 (cf_ge c8)) ?_
                refine And.imp_left (rs_iconst i_X6_value_167 (v := 0) (by decide)) ?_
                have hf := Option.some.inj hf
                subst hf
                exact ⟨rs_iret i_X6_value_168 m_X6_value rfl, SH⟩
            · replace hf := (if_neg c7).symm.trans hf
              refine And.imp_left (rs_icF i_X6_value_113 (cf_ne c7)) ?_
              exact q_X6_value_116 hd hh ih hv0 hv2 SH hf
        · replace hf := (if_neg c5).symm.trans hf
          refine And.imp_left (rs_icF i_X6_value_63 (cf_le c5)) ?_
          refine And.imp_left (rs_iinc i_X6_value_66 rfl (v := v3 + 1) rfl (Nat.le_of_ble_eq_true rfl) (lv' := [some (.ref v0), some (.int v1), some (.ref v2), some (.int (v3 + 1)), some (.int v4), some (.int (gI h (v0 + 1) (ix v4)))]) rfl) ?_
          refine And.imp_left (rs_iload_n i_X6_value_69 rfl) ?_
          refine And.imp_left (rs_bipush i_X6_value_70 (v := 40) (by decide)) ?_
          by_cases c12 : (v3 + 1) < 40
          · replace hf := (if_pos c12).symm.trans hf
            refine And.imp_left (rs_icT i_X6_value_72 (ct_lt c12) (tg := 77) (by decide)) ?_
            refine And.imp_left (rs_aload_n i_X6_value_77 rfl) ?_
            refine And.imp_left (rs_getR i_X6_value_78 (by decide) (by decide) (sO6 SH hh hv0) (sR6_2 SH hh hv0)) ?_
            refine And.imp_left (rs_iload_n i_X6_value_81 rfl) ?_
            refine And.imp_left (rs_iload i_X6_value_82 rfl) ?_
            by_cases c13 : (gI h (v0 + 1) (ix v4)) < 0
            · replace hf := (if_pos c13).symm.trans hf
              refine And.imp_left (rs_ifT i_X6_value_84 (ct_lt c13) (tg := 92) (by decide)) ?_
              refine And.imp_left (rs_iload i_X6_value_92 rfl) ?_
              refine And.imp_left (rs_aload_n i_X6_value_94 rfl) ?_
              obtain ⟨o14, e14, hf⟩ := bind_some hf
              obtain ⟨u14, SH2⟩ := k_X6_named (X := X) (d := d) (by omega) (by omega) hv2 SH e14
              refine And.imp_left (rs_inS i_X6_value_95 (by decide) m_X6_named rfl (As := [.int (gI h (v0 + 1) (ix v4)), .ref v2]) (rest := [.int (v3 + 1), .ref (v0 + 3)]) rfl rfl (Nat.le_of_ble_eq_true rfl) u14 (st' := [.int o14.1, .int (v3 + 1), .ref (v0 + 3)]) rfl) ?_
              clear SH; have SH := SH2; clear SH2
              exact q_X6_value_98 hd hh ih hv0 hv2 (aR6_2 hv0) SH hf
            · replace hf := (if_neg c13).symm.trans hf
              refine And.imp_left (rs_ifF i_X6_value_84 (cf_lt c13)) ?_
              refine And.imp_left (rs_iload i_X6_value_87 rfl) ?_
              refine And.imp_left (rs_goto i_X6_value_89 (tg := 98) (by decide)) ?_
              exact q_X6_value_98 hd hh ih hv0 hv2 (aR6_2 hv0) SH hf
          · replace hf := (if_neg c12).symm.trans hf
            refine And.imp_left (rs_icF i_X6_value_72 (cf_lt c12)) ?_
            refine And.imp_left (rs_iconst i_X6_value_75 (v := 0) (by decide)) ?_
            have hf := Option.some.inj hf
            subst hf
            exact ⟨rs_iret i_X6_value_76 m_X6_value rfl, SH⟩
noncomputable def g_X6_value_29 (n : Nat) (v0 : Nat) (v1 : Int32) (v2 : Nat) (v3 : Int32) (s0 : Int32) (h : Hp) : Option (Int32 × Hp) :=
  g_X6_value_31 n n v0 v1 v2 v3 s0 h
set_option maxRecDepth 100000 in
set_option maxHeartbeats 4000000 in
theorem q_X6_value_29 {X : Nat → Int32} {d : Nat} (hd : 1 ≤ (d + 1)) {L hi : Nat} (hh : 96 ≤ hi) {n : Nat} {v0 : Nat} {v1 : Int32} {v2 : Nat} {v3 : Int32} {s0 : Int32} {h : Hp} {o : (Int32 × Hp)} (hv0 : OB6 v0) (hv2 : ARY 96 v2 9 6) (SH : SHP L hi h) (hf : g_X6_value_29 n v0 v1 v2 v3 s0 h = some o) : Run X (d + 1) 63 29 [some (.ref v0), some (.int v1), some (.ref v2), some (.int v3), none, none] [.int s0] h (some (.int o.1), o.2) ∧ SHP L hi o.2 := by
  unfold g_X6_value_29 at hf
  refine And.imp_left (rs_istore i_X6_value_29 (Nat.le_of_ble_eq_true rfl) (lv' := [some (.ref v0), some (.int v1), some (.ref v2), some (.int v3), some (.int s0), none]) rfl) ?_
  exact q_X6_value_31 hd hh _ _ _ _ _ _ _ hv0 hv2 _ _ SH hf
noncomputable def g_X6_value_0 (n : Nat) (v0 : Nat) (v1 : Int32) (v2 : Nat) (h : Hp) : Option (Int32 × Hp) :=
  (g_X7_within v1 0 2 h).bind fun o1 =>
  if o1.1 ≠ 0 then
    if v1 ≠ 0 then
      if inb (v1 - 1) 3 = true then
      g_X6_value_29 n v0 v1 v2 (-1) (gI o1.2 (v0 + 2) (ix (v1 - 1))) o1.2
      else none
    else
      g_X6_value_29 n v0 v1 v2 (-1) 0 o1.2
  else
    some (0, o1.2)
set_option maxRecDepth 100000 in
set_option maxHeartbeats 4000000 in
theorem q_X6_value_0 {X : Nat → Int32} {d : Nat} (hd : 1 ≤ (d + 1)) {L hi : Nat} (hh : 96 ≤ hi) {n : Nat} {v0 : Nat} {v1 : Int32} {v2 : Nat} {h : Hp} {o : (Int32 × Hp)} (hv0 : OB6 v0) (hv2 : ARY 96 v2 9 6) (SH : SHP L hi h) (hf : g_X6_value_0 n v0 v1 v2 h = some o) : Run X (d + 1) 63 0 [some (.ref v0), some (.int v1), some (.ref v2), none, none, none] [] h (some (.int o.1), o.2) ∧ SHP L hi o.2 := by
  unfold g_X6_value_0 at hf
  refine And.imp_left (rs_iload_n i_X6_value_0 rfl) ?_
  refine And.imp_left (rs_iconst i_X6_value_1 (v := 0) (by decide)) ?_
  refine And.imp_left (rs_iconst i_X6_value_2 (v := 2) (by decide)) ?_
  obtain ⟨o1, e1, hf⟩ := bind_some hf
  obtain ⟨u1, SH2⟩ := k_X7_within (X := X) (d := d) (by omega) (by omega) SH e1
  refine And.imp_left (rs_inS i_X6_value_3 (by decide) m_X7_within rfl (As := [.int v1, .int 0, .int 2]) (rest := []) rfl rfl (Nat.le_of_ble_eq_true rfl) u1 (st' := [.int o1.1]) rfl) ?_
  clear SH; have SH := SH2; clear SH2
  by_cases c2 : o1.1 ≠ 0
  · replace hf := (if_pos c2).symm.trans hf
    refine And.imp_left (rs_ifT i_X6_value_6 (ct_ne c2) (tg := 11) (by decide)) ?_
    refine And.imp_left (rs_iconst i_X6_value_11 (v := (-1)) (by decide)) ?_
    refine And.imp_left (rs_istore_n i_X6_value_12 (Nat.le_of_ble_eq_true rfl) (lv' := [some (.ref v0), some (.int v1), some (.ref v2), some (.int (-1)), none, none]) rfl) ?_
    refine And.imp_left (rs_iload_n i_X6_value_13 rfl) ?_
    by_cases c3 : v1 ≠ 0
    · replace hf := (if_pos c3).symm.trans hf
      refine And.imp_left (rs_ifT i_X6_value_14 (ct_ne c3) (tg := 21) (by decide)) ?_
      refine And.imp_left (rs_aload_n i_X6_value_21 rfl) ?_
      refine And.imp_left (rs_getR i_X6_value_22 (by decide) (by decide) (sO6 SH hh hv0) (sR6_1 SH hh hv0)) ?_
      refine And.imp_left (rs_iload_n i_X6_value_25 rfl) ?_
      refine And.imp_left (rs_iconst i_X6_value_26 (v := 1) (by decide)) ?_
      refine And.imp_left (rs_isub i_X6_value_27) ?_
      obtain ⟨c4, hf⟩ := ite_some hf
      refine And.imp_left (rs_iald i_X6_value_28 (mkI (sA SH hh (k := 9) (n := 3) (aR6_1 hv0)) c4)) ?_
      exact q_X6_value_29 hd hh hv0 hv2 SH hf
    · replace hf := (if_neg c3).symm.trans hf
      refine And.imp_left (rs_ifF i_X6_value_14 (cf_ne c3)) ?_
      refine And.imp_left (rs_iconst i_X6_value_17 (v := 0) (by decide)) ?_
      refine And.imp_left (rs_goto i_X6_value_18 (tg := 29) (by decide)) ?_
      exact q_X6_value_29 hd hh hv0 hv2 SH hf
  · replace hf := (if_neg c2).symm.trans hf
    refine And.imp_left (rs_ifF i_X6_value_6 (cf_ne c2)) ?_
    refine And.imp_left (rs_iconst i_X6_value_9 (v := 0) (by decide)) ?_
    have hf := Option.some.inj hf
    subst hf
    exact ⟨rs_iret i_X6_value_10 m_X6_value rfl, SH⟩
noncomputable def g_X6_value (n : Nat) (v0 : Nat) (v1 : Int32) (v2 : Nat) (h : Hp) : Option (Int32 × Hp) := g_X6_value_0 n v0 v1 v2 h
theorem k_X6_value {X : Nat → Int32} {d : Nat} (hd : 1 ≤ d) {L hi : Nat} (hh : 96 ≤ hi) {n : Nat} {v0 : Nat} {v1 : Int32} {v2 : Nat} {h : Hp} {o : (Int32 × Hp)} (hv0 : OB6 v0) (hv2 : ARY 96 v2 9 6) (SH : SHP L hi h) (hf : g_X6_value n v0 v1 v2 h = some o) : Calls X d 63 [.ref v0, .int v1, .ref v2] h (some (.int o.1), o.2) ∧ SHP L hi o.2 := by
  obtain ⟨d, rfl⟩ : ∃ z, d = z + 1 := ⟨d - 1, by omega⟩
  obtain ⟨r, S2⟩ := q_X6_value_0 hd hh hv0 hv2 SH hf
  exact ⟨⟨_, rfl, r⟩, S2⟩
noncomputable def g_X1_says_61 (n : Nat) (v1 : Int32) (h : Hp) : Option (Int32 × Hp) :=
  (gR h 80 1).bind fun a1 =>
  (g_X6_value n a1 v1 81 h).bind fun o2 =>
  some (o2.1, o2.2)
set_option maxRecDepth 100000 in
set_option maxHeartbeats 4000000 in
theorem q_X1_says_61 {X : Nat → Int32} {d : Nat} (hd : 2 ≤ (d + 1)) {L hi : Nat} (hh : 96 ≤ hi) {n : Nat} {v1 : Int32} {d2 : Nat} {d3 : Int32} {d4 : Int32} {h : Hp} {o : (Int32 × Hp)}  (SH : SHP L hi h) (hf : g_X1_says_61 n v1 h = some o) : Run X (d + 1) 8 61 [some (.ref 80), some (.int v1), some (.ref d2), some (.int d3), some (.int d4)] [] h (some (.int o.1), o.2) ∧ SHP L hi o.2 := by
  unfold g_X1_says_61 at hf
  refine And.imp_left (rs_aload_n i_X1_says_61 rfl) ?_
  obtain ⟨a1, e1, hf⟩ := bind_some hf
  refine And.imp_left (rs_getR i_X1_says_62 (by decide) (by decide) (sO1 SH hh) e1) ?_
  refine And.imp_left (rs_iload_n i_X1_says_65 rfl) ?_
  refine And.imp_left (rs_aload_n i_X1_says_66 rfl) ?_
  refine And.imp_left (rs_getR i_X1_says_67 (by decide) (by decide) (sO1 SH hh) (sR1_0 SH hh)) ?_
  obtain ⟨o2, e2, hf⟩ := bind_some hf
  obtain ⟨u2, SH2⟩ := k_X6_value (X := X) (d := d) (by omega) (by omega) (sLaw SH e1) (by decide) SH e2
  refine And.imp_left (rs_inV i_X1_says_70 m_X6_value rfl (As := [.int v1, .ref 81]) (rest := []) rfl rfl (Nat.le_of_ble_eq_true rfl) (sO6 SH hh (sLaw SH e1)) u2 (st' := [.int o2.1]) rfl) ?_
  clear SH; have SH := SH2; clear SH2
  have hf := Option.some.inj hf
  subst hf
  exact ⟨rs_iret i_X1_says_73 m_X1_says rfl, SH⟩
noncomputable def g_X1_says_51 (n : Nat) (v1 : Int32) (v2 : Nat) (h : Hp) : Option (Int32 × Hp) :=
  g_X1_says_61 n v1 (hsi h 81 (ix 5) (gI h v2 8))
set_option maxRecDepth 100000 in
set_option maxHeartbeats 4000000 in
theorem q_X1_says_51 {X : Nat → Int32} {d : Nat} (hd : 2 ≤ (d + 1)) {L hi : Nat} (hh : 96 ≤ hi) {n : Nat} {v1 : Int32} {v2 : Nat} {d3 : Int32} {d4 : Int32} {h : Hp} {o : (Int32 × Hp)} (hv2 : OB3 v2) (SH : SHP L hi h) (hf : g_X1_says_51 n v1 v2 h = some o) : Run X (d + 1) 8 51 [some (.ref 80), some (.int v1), some (.ref v2), some (.int d3), some (.int d4)] [] h (some (.int o.1), o.2) ∧ SHP L hi o.2 := by
  unfold g_X1_says_51 at hf
  refine And.imp_left (rs_aload_n i_X1_says_51 rfl) ?_
  refine And.imp_left (rs_getR i_X1_says_52 (by decide) (by decide) (sO1 SH hh) (sR1_0 SH hh)) ?_
  refine And.imp_left (rs_iconst i_X1_says_55 (v := 5) (by decide)) ?_
  refine And.imp_left (rs_aload_n i_X1_says_56 rfl) ?_
  refine And.imp_left (rs_getI i_X1_says_57 (by decide) (by decide) (sO3 SH hh hv2)) ?_
  refine And.imp_left (rs_iast i_X1_says_60 (mkI (sA SH hh (k := 9) (n := 6) (by decide)) (by decide))) ?_
  have SH := shi SH 81 (ix 5) (gI h v2 8)
  exact q_X1_says_61 hd hh SH hf
noncomputable def g_X1_says_41 (n : Nat) (v1 : Int32) (v2 : Nat) (h : Hp) : Option (Int32 × Hp) :=
  g_X1_says_51 n v1 v2 (hsi h 81 (ix 4) (gI h v2 7))
set_option maxRecDepth 100000 in
set_option maxHeartbeats 4000000 in
theorem q_X1_says_41 {X : Nat → Int32} {d : Nat} (hd : 2 ≤ (d + 1)) {L hi : Nat} (hh : 96 ≤ hi) {n : Nat} {v1 : Int32} {v2 : Nat} {d3 : Int32} {d4 : Int32} {h : Hp} {o : (Int32 × Hp)} (hv2 : OB3 v2) (SH : SHP L hi h) (hf : g_X1_says_41 n v1 v2 h = some o) : Run X (d + 1) 8 41 [some (.ref 80), some (.int v1), some (.ref v2), some (.int d3), some (.int d4)] [] h (some (.int o.1), o.2) ∧ SHP L hi o.2 := by
  unfold g_X1_says_41 at hf
  refine And.imp_left (rs_aload_n i_X1_says_41 rfl) ?_
  refine And.imp_left (rs_getR i_X1_says_42 (by decide) (by decide) (sO1 SH hh) (sR1_0 SH hh)) ?_
  refine And.imp_left (rs_iconst i_X1_says_45 (v := 4) (by decide)) ?_
  refine And.imp_left (rs_aload_n i_X1_says_46 rfl) ?_
  refine And.imp_left (rs_getI i_X1_says_47 (by decide) (by decide) (sO3 SH hh hv2)) ?_
  refine And.imp_left (rs_iast i_X1_says_50 (mkI (sA SH hh (k := 9) (n := 6) (by decide)) (by decide))) ?_
  have SH := shi SH 81 (ix 4) (gI h v2 7)
  exact q_X1_says_51 hd hh hv2 SH hf
noncomputable def g_X1_says_33 (n : Nat) (v1 : Int32) (v2 : Nat) (v4 : Int32) (h : Hp) : Option (Int32 × Hp) :=
  g_X1_says_41 n v1 v2 (hsi h 81 (ix 3) v4)
set_option maxRecDepth 100000 in
set_option maxHeartbeats 4000000 in
theorem q_X1_says_33 {X : Nat → Int32} {d : Nat} (hd : 2 ≤ (d + 1)) {L hi : Nat} (hh : 96 ≤ hi) {n : Nat} {v1 : Int32} {v2 : Nat} {v4 : Int32} {d3 : Int32} {h : Hp} {o : (Int32 × Hp)} (hv2 : OB3 v2) (SH : SHP L hi h) (hf : g_X1_says_33 n v1 v2 v4 h = some o) : Run X (d + 1) 8 33 [some (.ref 80), some (.int v1), some (.ref v2), some (.int d3), some (.int v4)] [] h (some (.int o.1), o.2) ∧ SHP L hi o.2 := by
  unfold g_X1_says_33 at hf
  refine And.imp_left (rs_aload_n i_X1_says_33 rfl) ?_
  refine And.imp_left (rs_getR i_X1_says_34 (by decide) (by decide) (sO1 SH hh) (sR1_0 SH hh)) ?_
  refine And.imp_left (rs_iconst i_X1_says_37 (v := 3) (by decide)) ?_
  refine And.imp_left (rs_iload i_X1_says_38 rfl) ?_
  refine And.imp_left (rs_iast i_X1_says_40 (mkI (sA SH hh (k := 9) (n := 6) (by decide)) (by decide))) ?_
  have SH := shi SH 81 (ix 3) v4
  exact q_X1_says_41 hd hh hv2 SH hf
noncomputable def g_X1_says_21 (n : Nat) (v1 : Int32) (v2 : Nat) (v3 : Int32) (v4 : Int32) (h : Hp) : Option (Int32 × Hp) :=
  if inb v3 12 = true then
  g_X1_says_33 n v1 v2 v4 (hsi h 81 (ix 2) (gI h (v2 + 3) (ix v3)))
  else none
set_option maxRecDepth 100000 in
set_option maxHeartbeats 4000000 in
theorem q_X1_says_21 {X : Nat → Int32} {d : Nat} (hd : 2 ≤ (d + 1)) {L hi : Nat} (hh : 96 ≤ hi) {n : Nat} {v1 : Int32} {v2 : Nat} {v3 : Int32} {v4 : Int32} {h : Hp} {o : (Int32 × Hp)} (hv2 : OB3 v2) (SH : SHP L hi h) (hf : g_X1_says_21 n v1 v2 v3 v4 h = some o) : Run X (d + 1) 8 21 [some (.ref 80), some (.int v1), some (.ref v2), some (.int v3), some (.int v4)] [] h (some (.int o.1), o.2) ∧ SHP L hi o.2 := by
  unfold g_X1_says_21 at hf
  refine And.imp_left (rs_aload_n i_X1_says_21 rfl) ?_
  refine And.imp_left (rs_getR i_X1_says_22 (by decide) (by decide) (sO1 SH hh) (sR1_0 SH hh)) ?_
  refine And.imp_left (rs_iconst i_X1_says_25 (v := 2) (by decide)) ?_
  refine And.imp_left (rs_aload_n i_X1_says_26 rfl) ?_
  refine And.imp_left (rs_getR i_X1_says_27 (by decide) (by decide) (sO3 SH hh hv2) (sR3_2 SH hh hv2)) ?_
  refine And.imp_left (rs_iload_n i_X1_says_30 rfl) ?_
  obtain ⟨c1, hf⟩ := ite_some hf
  refine And.imp_left (rs_iald i_X1_says_31 (mkI (sA SH hh (k := 9) (n := 12) (aR3_2 hv2)) c1)) ?_
  refine And.imp_left (rs_iast i_X1_says_32 (mkI (sA SH hh (k := 9) (n := 6) (by decide)) (by decide))) ?_
  have SH := shi SH 81 (ix 2) (gI h (v2 + 3) (ix v3))
  exact q_X1_says_33 hd hh hv2 SH hf
noncomputable def g_X1_says_10 (n : Nat) (v1 : Int32) (v2 : Nat) (v3 : Int32) (v4 : Int32) (h : Hp) : Option (Int32 × Hp) :=
  (g_X3_thick v2 v3 h).bind fun o1 =>
  g_X1_says_21 n v1 v2 v3 v4 (hsi o1.2 81 (ix 1) o1.1)
set_option maxRecDepth 100000 in
set_option maxHeartbeats 4000000 in
theorem q_X1_says_10 {X : Nat → Int32} {d : Nat} (hd : 2 ≤ (d + 1)) {L hi : Nat} (hh : 96 ≤ hi) {n : Nat} {v1 : Int32} {v2 : Nat} {v3 : Int32} {v4 : Int32} {h : Hp} {o : (Int32 × Hp)} (hv2 : OB3 v2) (SH : SHP L hi h) (hf : g_X1_says_10 n v1 v2 v3 v4 h = some o) : Run X (d + 1) 8 10 [some (.ref 80), some (.int v1), some (.ref v2), some (.int v3), some (.int v4)] [] h (some (.int o.1), o.2) ∧ SHP L hi o.2 := by
  unfold g_X1_says_10 at hf
  refine And.imp_left (rs_aload_n i_X1_says_10 rfl) ?_
  refine And.imp_left (rs_getR i_X1_says_11 (by decide) (by decide) (sO1 SH hh) (sR1_0 SH hh)) ?_
  refine And.imp_left (rs_iconst i_X1_says_14 (v := 1) (by decide)) ?_
  refine And.imp_left (rs_aload_n i_X1_says_15 rfl) ?_
  refine And.imp_left (rs_iload_n i_X1_says_16 rfl) ?_
  obtain ⟨o1, e1, hf⟩ := bind_some hf
  obtain ⟨u1, SH2⟩ := k_X3_thick (X := X) (d := d) (by omega) (by omega) hv2 SH e1
  refine And.imp_left (rs_inV i_X1_says_17 m_X3_thick rfl (As := [.int v3]) (rest := [.int 1, .ref 81]) rfl rfl (Nat.le_of_ble_eq_true rfl) (sO3 SH hh hv2) u1 (st' := [.int o1.1, .int 1, .ref 81]) rfl) ?_
  clear SH; have SH := SH2; clear SH2
  refine And.imp_left (rs_iast i_X1_says_20 (mkI (sA SH hh (k := 9) (n := 6) (by decide)) (by decide))) ?_
  have SH := shi SH 81 (ix 1) o1.1
  exact q_X1_says_21 hd hh hv2 SH hf
noncomputable def g_X1_says_0 (n : Nat) (v1 : Int32) (v2 : Nat) (v3 : Int32) (v4 : Int32) (h : Hp) : Option (Int32 × Hp) :=
  g_X1_says_10 n v1 v2 v3 v4 (hsi h 81 (ix 0) (gI h 80 2))
set_option maxRecDepth 100000 in
set_option maxHeartbeats 4000000 in
theorem q_X1_says_0 {X : Nat → Int32} {d : Nat} (hd : 2 ≤ (d + 1)) {L hi : Nat} (hh : 96 ≤ hi) {n : Nat} {v1 : Int32} {v2 : Nat} {v3 : Int32} {v4 : Int32} {h : Hp} {o : (Int32 × Hp)} (hv2 : OB3 v2) (SH : SHP L hi h) (hf : g_X1_says_0 n v1 v2 v3 v4 h = some o) : Run X (d + 1) 8 0 [some (.ref 80), some (.int v1), some (.ref v2), some (.int v3), some (.int v4)] [] h (some (.int o.1), o.2) ∧ SHP L hi o.2 := by
  unfold g_X1_says_0 at hf
  refine And.imp_left (rs_aload_n i_X1_says_0 rfl) ?_
  refine And.imp_left (rs_getR i_X1_says_1 (by decide) (by decide) (sO1 SH hh) (sR1_0 SH hh)) ?_
  refine And.imp_left (rs_iconst i_X1_says_4 (v := 0) (by decide)) ?_
  refine And.imp_left (rs_aload_n i_X1_says_5 rfl) ?_
  refine And.imp_left (rs_getI i_X1_says_6 (by decide) (by decide) (sO1 SH hh)) ?_
  refine And.imp_left (rs_iast i_X1_says_9 (mkI (sA SH hh (k := 9) (n := 6) (by decide)) (by decide))) ?_
  have SH := shi SH 81 (ix 0) (gI h 80 2)
  exact q_X1_says_10 hd hh hv2 SH hf
noncomputable def g_X1_says (n : Nat) (v1 : Int32) (v2 : Nat) (v3 : Int32) (v4 : Int32) (h : Hp) : Option (Int32 × Hp) := g_X1_says_0 n v1 v2 v3 v4 h
theorem k_X1_says {X : Nat → Int32} {d : Nat} (hd : 2 ≤ d) {L hi : Nat} (hh : 96 ≤ hi) {n : Nat} {v1 : Int32} {v2 : Nat} {v3 : Int32} {v4 : Int32} {h : Hp} {o : (Int32 × Hp)} (hv2 : OB3 v2) (SH : SHP L hi h) (hf : g_X1_says n v1 v2 v3 v4 h = some o) : Calls X d 8 [.ref 80, .int v1, .ref v2, .int v3, .int v4] h (some (.int o.1), o.2) ∧ SHP L hi o.2 := by
  obtain ⟨d, rfl⟩ : ∃ z, d = z + 1 := ⟨d - 1, by omega⟩
  obtain ⟨r, S2⟩ := q_X1_says_0 hd hh hv2 SH hf
  exact ⟨⟨_, rfl, r⟩, S2⟩
noncomputable def g_X1_ease_51 (n : Nat) (v4 : Int64) (h : Hp) : Option (Int32 × Hp) :=
  some ((Int64.toInt32 (if (if v4 < 99 then v4 else 99) < 1 then 1 else (if v4 < 99 then v4 else 99))), h)
set_option maxRecDepth 100000 in
set_option maxHeartbeats 4000000 in
theorem q_X1_ease_51 {X : Nat → Int32} {d : Nat} (hd : 3 ≤ (d + 1)) {L hi : Nat} (hh : 96 ≤ hi) {n : Nat} {v4 : Int64} {d1 : Nat} {d2 : Int32} {d3 : Int32} {h : Hp} {o : (Int32 × Hp)}  (SH : SHP L hi h) (hf : g_X1_ease_51 n v4 h = some o) : Run X (d + 1) 5 51 [some (.ref 80), some (.ref d1), some (.int d2), some (.int d3), some (.long v4), none] [] h (some (.int o.1), o.2) ∧ SHP L hi o.2 := by
  unfold g_X1_ease_51 at hf
  refine And.imp_left (rs_lconst i_X1_ease_51 (v := 1) (by decide)) ?_
  refine And.imp_left (rs_ldc2 i_X1_ease_52 (v := 99) (by decide)) ?_
  refine And.imp_left (rs_lload i_X1_ease_55 rfl) ?_
  refine And.imp_left (rs_minl i_X1_ease_57 (Nat.le_of_ble_eq_true rfl)) ?_
  refine And.imp_left (rs_maxl i_X1_ease_60 (Nat.le_of_ble_eq_true rfl)) ?_
  refine And.imp_left (rs_l2i i_X1_ease_63) ?_
  have hf := Option.some.inj hf
  subst hf
  exact ⟨rs_iret i_X1_ease_64 m_X1_ease rfl, SH⟩
noncomputable def g_X1_ease_34 (n : Nat) (v4 : Int64) (h : Hp) : Option (Int32 × Hp) :=
  g_X1_ease_51 n (v4 + (((gL' h 80 5) - (gL' h 80 5) / 5 * 5) - 2)) h
set_option maxRecDepth 100000 in
set_option maxHeartbeats 4000000 in
theorem q_X1_ease_34 {X : Nat → Int32} {d : Nat} (hd : 3 ≤ (d + 1)) {L hi : Nat} (hh : 96 ≤ hi) {n : Nat} {v4 : Int64} {d1 : Nat} {d2 : Int32} {d3 : Int32} {h : Hp} {o : (Int32 × Hp)}  (SH : SHP L hi h) (hf : g_X1_ease_34 n v4 h = some o) : Run X (d + 1) 5 34 [some (.ref 80), some (.ref d1), some (.int d2), some (.int d3), some (.long v4), none] [] h (some (.int o.1), o.2) ∧ SHP L hi o.2 := by
  unfold g_X1_ease_34 at hf
  refine And.imp_left (rs_lload i_X1_ease_34 rfl) ?_
  refine And.imp_left (rs_aload_n i_X1_ease_36 rfl) ?_
  refine And.imp_left (rs_getL i_X1_ease_37 (by decide) (by decide) (sO1 SH hh)) ?_
  refine And.imp_left (rs_ldc2 i_X1_ease_40 (v := 5) (by decide)) ?_
  refine And.imp_left (rs_lrem i_X1_ease_43 (by decide)) ?_
  refine And.imp_left (rs_ldc2 i_X1_ease_44 (v := 2) (by decide)) ?_
  refine And.imp_left (rs_lsub i_X1_ease_47) ?_
  refine And.imp_left (rs_ladd i_X1_ease_48) ?_
  refine And.imp_left (rs_lstore i_X1_ease_49 (Nat.le_of_ble_eq_true rfl) (lv' := [some (.ref 80), some (.ref d1), some (.int d2), some (.int d3), some (.long (v4 + (((gL' h 80 5) - (gL' h 80 5) / 5 * 5) - 2))), none]) rfl) ?_
  exact q_X1_ease_51 hd hh SH hf
noncomputable def g_X1_ease_0 (n : Nat) (v1 : Nat) (v2 : Int32) (v3 : Int32) (h : Hp) : Option (Int32 × Hp) :=
  (g_X1_says n 0 v1 v2 v3 h).bind fun o1 =>
  if (gI o1.2 80 4) = 0 then
    g_X1_ease_51 n (Int32.toInt64 o1.1) o1.2
  else
    g_X1_ease_34 n (Int32.toInt64 o1.1) (hsl o1.2 80 5 (((gL' o1.2 80 5) * 48271) - ((gL' o1.2 80 5) * 48271) / 2147483647 * 2147483647))
set_option maxRecDepth 100000 in
set_option maxHeartbeats 4000000 in
theorem q_X1_ease_0 {X : Nat → Int32} {d : Nat} (hd : 3 ≤ (d + 1)) {L hi : Nat} (hh : 96 ≤ hi) {n : Nat} {v1 : Nat} {v2 : Int32} {v3 : Int32} {h : Hp} {o : (Int32 × Hp)} (hv1 : OB3 v1) (SH : SHP L hi h) (hf : g_X1_ease_0 n v1 v2 v3 h = some o) : Run X (d + 1) 5 0 [some (.ref 80), some (.ref v1), some (.int v2), some (.int v3), none, none] [] h (some (.int o.1), o.2) ∧ SHP L hi o.2 := by
  unfold g_X1_ease_0 at hf
  refine And.imp_left (rs_aload_n i_X1_ease_0 rfl) ?_
  refine And.imp_left (rs_iconst i_X1_ease_1 (v := 0) (by decide)) ?_
  refine And.imp_left (rs_aload_n i_X1_ease_2 rfl) ?_
  refine And.imp_left (rs_iload_n i_X1_ease_3 rfl) ?_
  refine And.imp_left (rs_iload_n i_X1_ease_4 rfl) ?_
  obtain ⟨o1, e1, hf⟩ := bind_some hf
  obtain ⟨u1, SH2⟩ := k_X1_says (X := X) (d := d) (by omega) (by omega) hv1 SH e1
  refine And.imp_left (rs_inV i_X1_ease_5 m_X1_says rfl (As := [.int 0, .ref v1, .int v2, .int v3]) (rest := []) rfl rfl (Nat.le_of_ble_eq_true rfl) (sO1 SH hh) u1 (st' := [.int o1.1]) rfl) ?_
  clear SH; have SH := SH2; clear SH2
  refine And.imp_left (rs_i2l i_X1_ease_8) ?_
  refine And.imp_left (rs_lstore i_X1_ease_9 (Nat.le_of_ble_eq_true rfl) (lv' := [some (.ref 80), some (.ref v1), some (.int v2), some (.int v3), some (.long (Int32.toInt64 o1.1)), none]) rfl) ?_
  refine And.imp_left (rs_aload_n i_X1_ease_11 rfl) ?_
  refine And.imp_left (rs_getI i_X1_ease_12 (by decide) (by decide) (sO1 SH hh)) ?_
  by_cases c2 : (gI o1.2 80 4) = 0
  · replace hf := (if_pos c2).symm.trans hf
    refine And.imp_left (rs_ifT i_X1_ease_15 (ct_eq c2) (tg := 51) (by decide)) ?_
    exact q_X1_ease_51 hd hh SH hf
  · replace hf := (if_neg c2).symm.trans hf
    refine And.imp_left (rs_ifF i_X1_ease_15 (cf_eq c2)) ?_
    refine And.imp_left (rs_aload_n i_X1_ease_18 rfl) ?_
    refine And.imp_left (rs_aload_n i_X1_ease_19 rfl) ?_
    refine And.imp_left (rs_getL i_X1_ease_20 (by decide) (by decide) (sO1 SH hh)) ?_
    refine And.imp_left (rs_ldc2 i_X1_ease_23 (v := 48271) (by decide)) ?_
    refine And.imp_left (rs_lmul i_X1_ease_26) ?_
    refine And.imp_left (rs_ldc2 i_X1_ease_27 (v := 2147483647) (by decide)) ?_
    refine And.imp_left (rs_lrem i_X1_ease_30 (by decide)) ?_
    refine And.imp_left (rs_putL i_X1_ease_31 (by decide) (sO1 SH hh)) ?_
    have SH := shl SH 80 5 (((gL' o1.2 80 5) * 48271) - ((gL' o1.2 80 5) * 48271) / 2147483647 * 2147483647)
    exact q_X1_ease_34 hd hh SH hf
noncomputable def g_X1_ease (n : Nat) (v1 : Nat) (v2 : Int32) (v3 : Int32) (h : Hp) : Option (Int32 × Hp) := g_X1_ease_0 n v1 v2 v3 h
theorem k_X1_ease {X : Nat → Int32} {d : Nat} (hd : 3 ≤ d) {L hi : Nat} (hh : 96 ≤ hi) {n : Nat} {v1 : Nat} {v2 : Int32} {v3 : Int32} {h : Hp} {o : (Int32 × Hp)} (hv1 : OB3 v1) (SH : SHP L hi h) (hf : g_X1_ease n v1 v2 v3 h = some o) : Calls X d 5 [.ref 80, .ref v1, .int v2, .int v3] h (some (.int o.1), o.2) ∧ SHP L hi o.2 := by
  obtain ⟨d, rfl⟩ : ∃ z, d = z + 1 := ⟨d - 1, by omega⟩
  obtain ⟨r, S2⟩ := q_X1_ease_0 hd hh hv1 SH hf
  exact ⟨⟨_, rfl, r⟩, S2⟩
noncomputable def g_X1_tears_0 (n : Nat) (v1 : Nat) (v2 : Int32) (v3 : Int32) (h : Hp) : Option (Int32 × Hp) :=
  (g_X1_says n 1 v1 v2 v3 h).bind fun o1 =>
  some ((if 0 < (if o1.1 < 100 then o1.1 else 100) then (if o1.1 < 100 then o1.1 else 100) else 0), o1.2)
set_option maxRecDepth 100000 in
set_option maxHeartbeats 4000000 in
theorem q_X1_tears_0 {X : Nat → Int32} {d : Nat} (hd : 3 ≤ (d + 1)) {L hi : Nat} (hh : 96 ≤ hi) {n : Nat} {v1 : Nat} {v2 : Int32} {v3 : Int32} {h : Hp} {o : (Int32 × Hp)} (hv1 : OB3 v1) (SH : SHP L hi h) (hf : g_X1_tears_0 n v1 v2 v3 h = some o) : Run X (d + 1) 6 0 [some (.ref 80), some (.ref v1), some (.int v2), some (.int v3)] [] h (some (.int o.1), o.2) ∧ SHP L hi o.2 := by
  unfold g_X1_tears_0 at hf
  refine And.imp_left (rs_iconst i_X1_tears_0 (v := 0) (by decide)) ?_
  refine And.imp_left (rs_bipush i_X1_tears_1 (v := 100) (by decide)) ?_
  refine And.imp_left (rs_aload_n i_X1_tears_3 rfl) ?_
  refine And.imp_left (rs_iconst i_X1_tears_4 (v := 1) (by decide)) ?_
  refine And.imp_left (rs_aload_n i_X1_tears_5 rfl) ?_
  refine And.imp_left (rs_iload_n i_X1_tears_6 rfl) ?_
  refine And.imp_left (rs_iload_n i_X1_tears_7 rfl) ?_
  obtain ⟨o1, e1, hf⟩ := bind_some hf
  obtain ⟨u1, SH2⟩ := k_X1_says (X := X) (d := d) (by omega) (by omega) hv1 SH e1
  refine And.imp_left (rs_inV i_X1_tears_8 m_X1_says rfl (As := [.int 1, .ref v1, .int v2, .int v3]) (rest := [.int 100, .int 0]) rfl rfl (Nat.le_of_ble_eq_true rfl) (sO1 SH hh) u1 (st' := [.int o1.1, .int 100, .int 0]) rfl) ?_
  clear SH; have SH := SH2; clear SH2
  refine And.imp_left (rs_min i_X1_tears_11 (Nat.le_of_ble_eq_true rfl)) ?_
  refine And.imp_left (rs_max i_X1_tears_14 (Nat.le_of_ble_eq_true rfl)) ?_
  have hf := Option.some.inj hf
  subst hf
  exact ⟨rs_iret i_X1_tears_17 m_X1_tears rfl, SH⟩
noncomputable def g_X1_tears (n : Nat) (v1 : Nat) (v2 : Int32) (v3 : Int32) (h : Hp) : Option (Int32 × Hp) := g_X1_tears_0 n v1 v2 v3 h
theorem k_X1_tears {X : Nat → Int32} {d : Nat} (hd : 3 ≤ d) {L hi : Nat} (hh : 96 ≤ hi) {n : Nat} {v1 : Nat} {v2 : Int32} {v3 : Int32} {h : Hp} {o : (Int32 × Hp)} (hv1 : OB3 v1) (SH : SHP L hi h) (hf : g_X1_tears n v1 v2 v3 h = some o) : Calls X d 6 [.ref 80, .ref v1, .int v2, .int v3] h (some (.int o.1), o.2) ∧ SHP L hi o.2 := by
  obtain ⟨d, rfl⟩ : ∃ z, d = z + 1 := ⟨d - 1, by omega⟩
  obtain ⟨r, S2⟩ := q_X1_tears_0 hd hh hv1 SH hf
  exact ⟨⟨_, rfl, r⟩, S2⟩
noncomputable def g_X1_sticks_0 (n : Nat) (v1 : Nat) (h : Hp) : Option (Int32 × Hp) :=
  (g_X1_says n 2 v1 0 0 h).bind fun o1 =>
  some ((if 0 < (if o1.1 < 100 then o1.1 else 100) then (if o1.1 < 100 then o1.1 else 100) else 0), o1.2)
set_option maxRecDepth 100000 in
set_option maxHeartbeats 4000000 in
theorem q_X1_sticks_0 {X : Nat → Int32} {d : Nat} (hd : 3 ≤ (d + 1)) {L hi : Nat} (hh : 96 ≤ hi) {n : Nat} {v1 : Nat} {h : Hp} {o : (Int32 × Hp)} (hv1 : OB3 v1) (SH : SHP L hi h) (hf : g_X1_sticks_0 n v1 h = some o) : Run X (d + 1) 7 0 [some (.ref 80), some (.ref v1)] [] h (some (.int o.1), o.2) ∧ SHP L hi o.2 := by
  unfold g_X1_sticks_0 at hf
  refine And.imp_left (rs_iconst i_X1_sticks_0 (v := 0) (by decide)) ?_
  refine And.imp_left (rs_bipush i_X1_sticks_1 (v := 100) (by decide)) ?_
  refine And.imp_left (rs_aload_n i_X1_sticks_3 rfl) ?_
  refine And.imp_left (rs_iconst i_X1_sticks_4 (v := 2) (by decide)) ?_
  refine And.imp_left (rs_aload_n i_X1_sticks_5 rfl) ?_
  refine And.imp_left (rs_iconst i_X1_sticks_6 (v := 0) (by decide)) ?_
  refine And.imp_left (rs_iconst i_X1_sticks_7 (v := 0) (by decide)) ?_
  obtain ⟨o1, e1, hf⟩ := bind_some hf
  obtain ⟨u1, SH2⟩ := k_X1_says (X := X) (d := d) (by omega) (by omega) hv1 SH e1
  refine And.imp_left (rs_inV i_X1_sticks_8 m_X1_says rfl (As := [.int 2, .ref v1, .int 0, .int 0]) (rest := [.int 100, .int 0]) rfl rfl (Nat.le_of_ble_eq_true rfl) (sO1 SH hh) u1 (st' := [.int o1.1, .int 100, .int 0]) rfl) ?_
  clear SH; have SH := SH2; clear SH2
  refine And.imp_left (rs_min i_X1_sticks_11 (Nat.le_of_ble_eq_true rfl)) ?_
  refine And.imp_left (rs_max i_X1_sticks_14 (Nat.le_of_ble_eq_true rfl)) ?_
  have hf := Option.some.inj hf
  subst hf
  exact ⟨rs_iret i_X1_sticks_17 m_X1_sticks rfl, SH⟩
noncomputable def g_X1_sticks (n : Nat) (v1 : Nat) (h : Hp) : Option (Int32 × Hp) := g_X1_sticks_0 n v1 h
theorem k_X1_sticks {X : Nat → Int32} {d : Nat} (hd : 3 ≤ d) {L hi : Nat} (hh : 96 ≤ hi) {n : Nat} {v1 : Nat} {h : Hp} {o : (Int32 × Hp)} (hv1 : OB3 v1) (SH : SHP L hi h) (hf : g_X1_sticks n v1 h = some o) : Calls X d 7 [.ref 80, .ref v1] h (some (.int o.1), o.2) ∧ SHP L hi o.2 := by
  obtain ⟨d, rfl⟩ : ∃ z, d = z + 1 := ⟨d - 1, by omega⟩
  obtain ⟨r, S2⟩ := q_X1_sticks_0 hd hh hv1 SH hf
  exact ⟨⟨_, rfl, r⟩, S2⟩
noncomputable def g_X2_add_20  (h : Hp) : Option Hp :=
  some (hsi h 31 1 ((gI h 31 1) + 1))
set_option maxRecDepth 100000 in
set_option maxHeartbeats 4000000 in
theorem q_X2_add_20 {X : Nat → Int32} {d : Nat} (hd : 0 ≤ d) {L hi : Nat} (hh : 96 ≤ hi) {d1 : Int32} {h : Hp} {o : Hp}  (SH : SHP L hi h) (hf : g_X2_add_20 h = some o) : Run X d 10 20 [some (.ref 31), some (.int d1)] [] h (none, o) ∧ SHP L hi o := by
  unfold g_X2_add_20 at hf
  refine And.imp_left (rs_aload_n i_X2_add_20 rfl) ?_
  refine And.imp_left (rs_dup i_X2_add_21 rfl) ?_
  refine And.imp_left (rs_getI i_X2_add_22 (by decide) (by decide) (sO2 SH hh)) ?_
  refine And.imp_left (rs_iconst i_X2_add_25 (v := 1) (by decide)) ?_
  refine And.imp_left (rs_iadd i_X2_add_26) ?_
  refine And.imp_left (rs_putI i_X2_add_27 (by decide) (sO2 SH hh)) ?_
  have SH := shi SH 31 1 ((gI h 31 1) + 1)
  have hf := Option.some.inj hf
  subst hf
  exact ⟨rs_vret i_X2_add_30 m_X2_add rfl, SH⟩
noncomputable def g_X2_add_0 (v1 : Int32) (h : Hp) : Option Hp :=
  if 160 ≤ (gI h 31 1) then
    some h
  else
    if inb (gI h 31 1) 160 = true then
    g_X2_add_20 (hsi h 32 (ix (gI h 31 1)) v1)
    else none
set_option maxRecDepth 100000 in
set_option maxHeartbeats 4000000 in
theorem q_X2_add_0 {X : Nat → Int32} {d : Nat} (hd : 0 ≤ d) {L hi : Nat} (hh : 96 ≤ hi) {v1 : Int32} {h : Hp} {o : Hp}  (SH : SHP L hi h) (hf : g_X2_add_0 v1 h = some o) : Run X d 10 0 [some (.ref 31), some (.int v1)] [] h (none, o) ∧ SHP L hi o := by
  unfold g_X2_add_0 at hf
  refine And.imp_left (rs_aload_n i_X2_add_0 rfl) ?_
  refine And.imp_left (rs_getI i_X2_add_1 (by decide) (by decide) (sO2 SH hh)) ?_
  refine And.imp_left (rs_sipush i_X2_add_4 (v := 160) (by decide)) ?_
  by_cases c1 : 160 ≤ (gI h 31 1)
  · replace hf := (if_pos c1).symm.trans hf
    refine And.imp_left (rs_icT i_X2_add_7 (ct_ge c1) (tg := 30) (by decide)) ?_
    have hf := Option.some.inj hf
    subst hf
    exact ⟨rs_vret i_X2_add_30 m_X2_add rfl, SH⟩
  · replace hf := (if_neg c1).symm.trans hf
    refine And.imp_left (rs_icF i_X2_add_7 (cf_ge c1)) ?_
    refine And.imp_left (rs_aload_n i_X2_add_10 rfl) ?_
    refine And.imp_left (rs_getR i_X2_add_11 (by decide) (by decide) (sO2 SH hh) (sR2_0 SH hh)) ?_
    refine And.imp_left (rs_aload_n i_X2_add_14 rfl) ?_
    refine And.imp_left (rs_getI i_X2_add_15 (by decide) (by decide) (sO2 SH hh)) ?_
    refine And.imp_left (rs_iload_n i_X2_add_18 rfl) ?_
    obtain ⟨c2, hf⟩ := ite_some hf
    refine And.imp_left (rs_iast i_X2_add_19 (mkI (sA SH hh (k := 9) (n := 160) (by decide)) c2)) ?_
    have SH := shi SH 32 (ix (gI h 31 1)) v1
    exact q_X2_add_20 hd hh SH hf
noncomputable def g_X2_add (v1 : Int32) (h : Hp) : Option Hp := g_X2_add_0 v1 h
theorem k_X2_add {X : Nat → Int32} {d : Nat} (hd : 0 ≤ d) {L hi : Nat} (hh : 96 ≤ hi) {v1 : Int32} {h : Hp} {o : Hp}  (SH : SHP L hi h) (hf : g_X2_add v1 h = some o) : Calls X d 10 [.ref 31, .int v1] h (none, o) ∧ SHP L hi o := by
  obtain ⟨r, S2⟩ := q_X2_add_0 hd hh SH hf
  exact ⟨⟨_, rfl, r⟩, S2⟩
noncomputable def g_X2_empty_0  (h : Hp) : Option Hp :=
  some (hsi h 31 1 0)
set_option maxRecDepth 100000 in
set_option maxHeartbeats 4000000 in
theorem q_X2_empty_0 {X : Nat → Int32} {d : Nat} (hd : 0 ≤ d) {L hi : Nat} (hh : 96 ≤ hi)  {h : Hp} {o : Hp}  (SH : SHP L hi h) (hf : g_X2_empty_0 h = some o) : Run X d 11 0 [some (.ref 31)] [] h (none, o) ∧ SHP L hi o := by
  unfold g_X2_empty_0 at hf
  refine And.imp_left (rs_aload_n i_X2_empty_0 rfl) ?_
  refine And.imp_left (rs_iconst i_X2_empty_1 (v := 0) (by decide)) ?_
  refine And.imp_left (rs_putI i_X2_empty_2 (by decide) (sO2 SH hh)) ?_
  have SH := shi SH 31 1 0
  have hf := Option.some.inj hf
  subst hf
  exact ⟨rs_vret i_X2_empty_5 m_X2_empty rfl, SH⟩
noncomputable def g_X2_empty  (h : Hp) : Option Hp := g_X2_empty_0 h
theorem k_X2_empty {X : Nat → Int32} {d : Nat} (hd : 0 ≤ d) {L hi : Nat} (hh : 96 ≤ hi)  {h : Hp} {o : Hp}  (SH : SHP L hi h) (hf : g_X2_empty h = some o) : Calls X d 11 [.ref 31] h (none, o) ∧ SHP L hi o := by
  obtain ⟨r, S2⟩ := q_X2_empty_0 hd hh SH hf
  exact ⟨⟨_, rfl, r⟩, S2⟩
noncomputable def g_X2_byteAt_0 (v1 : Int32) (h : Hp) : Option (Int32 × Hp) :=
  if v1 < 0 then
    some ((-1), h)
  else
    if (gI h 31 1) ≤ v1 then
      some ((-1), h)
    else
      if 160 ≤ v1 then
        some ((-1), h)
      else
        if inb v1 160 = true then
        some ((gI h 32 (ix v1)), h)
        else none
set_option maxRecDepth 100000 in
set_option maxHeartbeats 4000000 in
theorem q_X2_byteAt_0 {X : Nat → Int32} {d : Nat} (hd : 0 ≤ d) {L hi : Nat} (hh : 96 ≤ hi) {v1 : Int32} {h : Hp} {o : (Int32 × Hp)}  (SH : SHP L hi h) (hf : g_X2_byteAt_0 v1 h = some o) : Run X d 21 0 [some (.ref 31), some (.int v1)] [] h (some (.int o.1), o.2) ∧ SHP L hi o.2 := by
  unfold g_X2_byteAt_0 at hf
  refine And.imp_left (rs_iload_n i_X2_byteAt_0 rfl) ?_
  by_cases c1 : v1 < 0
  · replace hf := (if_pos c1).symm.trans hf
    refine And.imp_left (rs_ifT i_X2_byteAt_1 (ct_lt c1) (tg := 28) (by decide)) ?_
    refine And.imp_left (rs_iconst i_X2_byteAt_28 (v := (-1)) (by decide)) ?_
    have hf := Option.some.inj hf
    subst hf
    exact ⟨rs_iret i_X2_byteAt_29 m_X2_byteAt rfl, SH⟩
  · replace hf := (if_neg c1).symm.trans hf
    refine And.imp_left (rs_ifF i_X2_byteAt_1 (cf_lt c1)) ?_
    refine And.imp_left (rs_iload_n i_X2_byteAt_4 rfl) ?_
    refine And.imp_left (rs_aload_n i_X2_byteAt_5 rfl) ?_
    refine And.imp_left (rs_getI i_X2_byteAt_6 (by decide) (by decide) (sO2 SH hh)) ?_
    by_cases c2 : (gI h 31 1) ≤ v1
    · replace hf := (if_pos c2).symm.trans hf
      refine And.imp_left (rs_icT i_X2_byteAt_9 (ct_ge c2) (tg := 28) (by decide)) ?_
      refine And.imp_left (rs_iconst i_X2_byteAt_28 (v := (-1)) (by decide)) ?_
      have hf := Option.some.inj hf
      subst hf
      exact ⟨rs_iret i_X2_byteAt_29 m_X2_byteAt rfl, SH⟩
    · replace hf := (if_neg c2).symm.trans hf
      refine And.imp_left (rs_icF i_X2_byteAt_9 (cf_ge c2)) ?_
      refine And.imp_left (rs_iload_n i_X2_byteAt_12 rfl) ?_
      refine And.imp_left (rs_sipush i_X2_byteAt_13 (v := 160) (by decide)) ?_
      by_cases c3 : 160 ≤ v1
      · replace hf := (if_pos c3).symm.trans hf
        refine And.imp_left (rs_icT i_X2_byteAt_16 (ct_ge c3) (tg := 28) (by decide)) ?_
        refine And.imp_left (rs_iconst i_X2_byteAt_28 (v := (-1)) (by decide)) ?_
        have hf := Option.some.inj hf
        subst hf
        exact ⟨rs_iret i_X2_byteAt_29 m_X2_byteAt rfl, SH⟩
      · replace hf := (if_neg c3).symm.trans hf
        refine And.imp_left (rs_icF i_X2_byteAt_16 (cf_ge c3)) ?_
        refine And.imp_left (rs_aload_n i_X2_byteAt_19 rfl) ?_
        refine And.imp_left (rs_getR i_X2_byteAt_20 (by decide) (by decide) (sO2 SH hh) (sR2_0 SH hh)) ?_
        refine And.imp_left (rs_iload_n i_X2_byteAt_23 rfl) ?_
        obtain ⟨c4, hf⟩ := ite_some hf
        refine And.imp_left (rs_iald i_X2_byteAt_24 (mkI (sA SH hh (k := 9) (n := 160) (by decide)) c4)) ?_
        refine And.imp_left (rs_goto i_X2_byteAt_25 (tg := 29) (by decide)) ?_
        have hf := Option.some.inj hf
        subst hf
        exact ⟨rs_iret i_X2_byteAt_29 m_X2_byteAt rfl, SH⟩
noncomputable def g_X2_byteAt (v1 : Int32) (h : Hp) : Option (Int32 × Hp) := g_X2_byteAt_0 v1 h
theorem k_X2_byteAt {X : Nat → Int32} {d : Nat} (hd : 0 ≤ d) {L hi : Nat} (hh : 96 ≤ hi) {v1 : Int32} {h : Hp} {o : (Int32 × Hp)}  (SH : SHP L hi h) (hf : g_X2_byteAt v1 h = some o) : Calls X d 21 [.ref 31, .int v1] h (some (.int o.1), o.2) ∧ SHP L hi o.2 := by
  obtain ⟨r, S2⟩ := q_X2_byteAt_0 hd hh SH hf
  exact ⟨⟨_, rfl, r⟩, S2⟩
noncomputable def g_X2_isDigit_0 (v0 : Int32) (h : Hp) : Option (Int32 × Hp) :=
  (g_X7_within v0 48 57 h).bind fun o1 =>
  if o1.1 = 0 ∨ o1.1 = 1 then
  some (o1.1, o1.2)
  else none
set_option maxRecDepth 100000 in
set_option maxHeartbeats 4000000 in
theorem q_X2_isDigit_0 {X : Nat → Int32} {d : Nat} (hd : 1 ≤ (d + 1)) {L hi : Nat} (hh : 96 ≤ hi) {v0 : Int32} {h : Hp} {o : (Int32 × Hp)}  (SH : SHP L hi h) (hf : g_X2_isDigit_0 v0 h = some o) : Run X (d + 1) 23 0 [some (.int v0)] [] h (some (.int o.1), o.2) ∧ SHP L hi o.2 := by
  unfold g_X2_isDigit_0 at hf
  refine And.imp_left (rs_iload_n i_X2_isDigit_0 rfl) ?_
  refine And.imp_left (rs_bipush i_X2_isDigit_1 (v := 48) (by decide)) ?_
  refine And.imp_left (rs_bipush i_X2_isDigit_3 (v := 57) (by decide)) ?_
  obtain ⟨o1, e1, hf⟩ := bind_some hf
  obtain ⟨u1, SH2⟩ := k_X7_within (X := X) (d := d) (by omega) (by omega) SH e1
  refine And.imp_left (rs_inS i_X2_isDigit_5 (by decide) m_X7_within rfl (As := [.int v0, .int 48, .int 57]) (rest := []) rfl rfl (Nat.le_of_ble_eq_true rfl) u1 (st' := [.int o1.1]) rfl) ?_
  clear SH; have SH := SH2; clear SH2
  obtain ⟨c2, hf⟩ := ite_some hf
  have hf := Option.some.inj hf
  subst hf
  exact ⟨rs_iret i_X2_isDigit_8 m_X2_isDigit (decide_eq_true c2), SH⟩
noncomputable def g_X2_isDigit (v0 : Int32) (h : Hp) : Option (Int32 × Hp) := g_X2_isDigit_0 v0 h
theorem k_X2_isDigit {X : Nat → Int32} {d : Nat} (hd : 1 ≤ d) {L hi : Nat} (hh : 96 ≤ hi) {v0 : Int32} {h : Hp} {o : (Int32 × Hp)}  (SH : SHP L hi h) (hf : g_X2_isDigit v0 h = some o) : Calls X d 23 [.int v0] h (some (.int o.1), o.2) ∧ SHP L hi o.2 := by
  obtain ⟨d, rfl⟩ : ∃ z, d = z + 1 := ⟨d - 1, by omega⟩
  obtain ⟨r, S2⟩ := q_X2_isDigit_0 hd hh SH hf
  exact ⟨⟨_, rfl, r⟩, S2⟩
noncomputable def g_X2_isLetter_0 (v0 : Int32) (h : Hp) : Option (Int32 × Hp) :=
  (g_X7_within v0 97 122 h).bind fun o1 =>
  if o1.1 = 0 ∨ o1.1 = 1 then
  some (o1.1, o1.2)
  else none
set_option maxRecDepth 100000 in
set_option maxHeartbeats 4000000 in
theorem q_X2_isLetter_0 {X : Nat → Int32} {d : Nat} (hd : 1 ≤ (d + 1)) {L hi : Nat} (hh : 96 ≤ hi) {v0 : Int32} {h : Hp} {o : (Int32 × Hp)}  (SH : SHP L hi h) (hf : g_X2_isLetter_0 v0 h = some o) : Run X (d + 1) 22 0 [some (.int v0)] [] h (some (.int o.1), o.2) ∧ SHP L hi o.2 := by
  unfold g_X2_isLetter_0 at hf
  refine And.imp_left (rs_iload_n i_X2_isLetter_0 rfl) ?_
  refine And.imp_left (rs_bipush i_X2_isLetter_1 (v := 97) (by decide)) ?_
  refine And.imp_left (rs_bipush i_X2_isLetter_3 (v := 122) (by decide)) ?_
  obtain ⟨o1, e1, hf⟩ := bind_some hf
  obtain ⟨u1, SH2⟩ := k_X7_within (X := X) (d := d) (by omega) (by omega) SH e1
  refine And.imp_left (rs_inS i_X2_isLetter_5 (by decide) m_X7_within rfl (As := [.int v0, .int 97, .int 122]) (rest := []) rfl rfl (Nat.le_of_ble_eq_true rfl) u1 (st' := [.int o1.1]) rfl) ?_
  clear SH; have SH := SH2; clear SH2
  obtain ⟨c2, hf⟩ := ite_some hf
  have hf := Option.some.inj hf
  subst hf
  exact ⟨rs_iret i_X2_isLetter_8 m_X2_isLetter (decide_eq_true c2), SH⟩
noncomputable def g_X2_isLetter (v0 : Int32) (h : Hp) : Option (Int32 × Hp) := g_X2_isLetter_0 v0 h
theorem k_X2_isLetter {X : Nat → Int32} {d : Nat} (hd : 1 ≤ d) {L hi : Nat} (hh : 96 ≤ hi) {v0 : Int32} {h : Hp} {o : (Int32 × Hp)}  (SH : SHP L hi h) (hf : g_X2_isLetter v0 h = some o) : Calls X d 22 [.int v0] h (some (.int o.1), o.2) ∧ SHP L hi o.2 := by
  obtain ⟨d, rfl⟩ : ∃ z, d = z + 1 := ⟨d - 1, by omega⟩
  obtain ⟨r, S2⟩ := q_X2_isLetter_0 hd hh SH hf
  exact ⟨⟨_, rfl, r⟩, S2⟩
noncomputable def g_X2_readNumber_89 (n : Nat) (v1 : Int32) (h : Hp) : Option Hp :=
  some (hsi h 31 5 v1)
set_option maxRecDepth 100000 in
set_option maxHeartbeats 4000000 in
theorem q_X2_readNumber_89 {X : Nat → Int32} {d : Nat} (hd : 2 ≤ (d + 1)) {L hi : Nat} (hh : 96 ≤ hi) {n : Nat} {v1 : Int32} {d2 : Int32} {h : Hp} {o : Hp}  (SH : SHP L hi h) (hf : g_X2_readNumber_89 n v1 h = some o) : Run X (d + 1) 24 89 [some (.ref 31), some (.int v1), some (.int d2)] [] h (none, o) ∧ SHP L hi o := by
  unfold g_X2_readNumber_89 at hf
  refine And.imp_left (rs_aload_n i_X2_readNumber_89 rfl) ?_
  refine And.imp_left (rs_iload_n i_X2_readNumber_90 rfl) ?_
  refine And.imp_left (rs_putI i_X2_readNumber_91 (by decide) (sO2 SH hh)) ?_
  have SH := shi SH 31 5 v1
  have hf := Option.some.inj hf
  subst hf
  exact ⟨rs_vret i_X2_readNumber_94 m_X2_readNumber rfl, SH⟩
noncomputable def g_X2_readNumber_86 (n : Nat) (v1 : Int32) (s1 : Int32) (h : Hp) : Option Hp :=
  g_X2_readNumber_89 n v1 (hsi h 31 3 s1)
set_option maxRecDepth 100000 in
set_option maxHeartbeats 4000000 in
theorem q_X2_readNumber_86 {X : Nat → Int32} {d : Nat} (hd : 2 ≤ (d + 1)) {L hi : Nat} (hh : 96 ≤ hi) {n : Nat} {v1 : Int32} {s1 : Int32} {d2 : Int32} {h : Hp} {o : Hp}  (SH : SHP L hi h) (hf : g_X2_readNumber_86 n v1 s1 h = some o) : Run X (d + 1) 24 86 [some (.ref 31), some (.int v1), some (.int d2)] [.int s1, .ref 31] h (none, o) ∧ SHP L hi o := by
  unfold g_X2_readNumber_86 at hf
  refine And.imp_left (rs_putI i_X2_readNumber_86 (by decide) (sO2 SH hh)) ?_
  have SH := shi SH 31 3 s1
  exact q_X2_readNumber_89 hd hh SH hf
noncomputable def g_X2_readNumber_67 (n : Nat) (v1 : Int32) (h : Hp) : Option Hp :=
  if ((gI h 31 2) - (gI h 31 4)) ≤ 4 then
    g_X2_readNumber_86 n v1 2 h
  else
    g_X2_readNumber_86 n v1 1 h
set_option maxRecDepth 100000 in
set_option maxHeartbeats 4000000 in
theorem q_X2_readNumber_67 {X : Nat → Int32} {d : Nat} (hd : 2 ≤ (d + 1)) {L hi : Nat} (hh : 96 ≤ hi) {n : Nat} {v1 : Int32} {d2 : Int32} {h : Hp} {o : Hp}  (SH : SHP L hi h) (hf : g_X2_readNumber_67 n v1 h = some o) : Run X (d + 1) 24 67 [some (.ref 31), some (.int v1), some (.int d2)] [] h (none, o) ∧ SHP L hi o := by
  unfold g_X2_readNumber_67 at hf
  refine And.imp_left (rs_aload_n i_X2_readNumber_67 rfl) ?_
  refine And.imp_left (rs_aload_n i_X2_readNumber_68 rfl) ?_
  refine And.imp_left (rs_getI i_X2_readNumber_69 (by decide) (by decide) (sO2 SH hh)) ?_
  refine And.imp_left (rs_aload_n i_X2_readNumber_72 rfl) ?_
  refine And.imp_left (rs_getI i_X2_readNumber_73 (by decide) (by decide) (sO2 SH hh)) ?_
  refine And.imp_left (rs_isub i_X2_readNumber_76) ?_
  refine And.imp_left (rs_iconst i_X2_readNumber_77 (v := 4) (by decide)) ?_
  by_cases c1 : ((gI h 31 2) - (gI h 31 4)) ≤ 4
  · replace hf := (if_pos c1).symm.trans hf
    refine And.imp_left (rs_icT i_X2_readNumber_78 (ct_le c1) (tg := 85) (by decide)) ?_
    refine And.imp_left (rs_iconst i_X2_readNumber_85 (v := 2) (by decide)) ?_
    exact q_X2_readNumber_86 hd hh SH hf
  · replace hf := (if_neg c1).symm.trans hf
    refine And.imp_left (rs_icF i_X2_readNumber_78 (cf_le c1)) ?_
    refine And.imp_left (rs_iconst i_X2_readNumber_81 (v := 1) (by decide)) ?_
    refine And.imp_left (rs_goto i_X2_readNumber_82 (tg := 86) (by decide)) ?_
    exact q_X2_readNumber_86 hd hh SH hf
noncomputable def g_X2_readNumber_50 (n : Nat) (K4 : Int32 → Int32 → Hp → Option Hp) (v2 : Int32) (s0 : Int32) (h : Hp) : Option Hp :=
  K4 s0 (v2 + 1) (hsi h 31 2 ((gI h 31 2) + 1))
set_option maxRecDepth 100000 in
set_option maxHeartbeats 4000000 in
theorem q_X2_readNumber_50 {X : Nat → Int32} {d : Nat} (hd : 2 ≤ (d + 1)) {L hi : Nat} (hh : 96 ≤ hi) {n : Nat} {K4 : Int32 → Int32 → Hp → Option Hp} (HK4 : ∀ (v1 : Int32) (v2 : Int32) (h : Hp) (o : Hp), SHP L hi h → K4 v1 v2 h = some o → Run X (d + 1) 24 4 [some (.ref 31), some (.int v1), some (.int v2)] [] h (none, o) ∧ SHP L hi o) {v2 : Int32} {s0 : Int32} {d1 : Int32} {h : Hp} {o : Hp}  (SH : SHP L hi h) (hf : g_X2_readNumber_50 n K4 v2 s0 h = some o) : Run X (d + 1) 24 50 [some (.ref 31), some (.int d1), some (.int v2)] [.int s0] h (none, o) ∧ SHP L hi o := by
  unfold g_X2_readNumber_50 at hf
  refine And.imp_left (rs_istore_n i_X2_readNumber_50 (Nat.le_of_ble_eq_true rfl) (lv' := [some (.ref 31), some (.int s0), some (.int v2)]) rfl) ?_
  refine And.imp_left (rs_aload_n i_X2_readNumber_51 rfl) ?_
  refine And.imp_left (rs_dup i_X2_readNumber_52 rfl) ?_
  refine And.imp_left (rs_getI i_X2_readNumber_53 (by decide) (by decide) (sO2 SH hh)) ?_
  refine And.imp_left (rs_iconst i_X2_readNumber_56 (v := 1) (by decide)) ?_
  refine And.imp_left (rs_iadd i_X2_readNumber_57) ?_
  refine And.imp_left (rs_putI i_X2_readNumber_58 (by decide) (sO2 SH hh)) ?_
  have SH := shi SH 31 2 ((gI h 31 2) + 1)
  refine And.imp_left (rs_iinc i_X2_readNumber_61 rfl (v := v2 + 1) rfl (Nat.le_of_ble_eq_true rfl) (lv' := [some (.ref 31), some (.int s0), some (.int (v2 + 1))]) rfl) ?_
  refine And.imp_left (rs_goto i_X2_readNumber_64 (tg := 4) (by decide)) ?_
  exact HK4 _ _ _ _ SH hf
noncomputable def g_X2_readNumber_4 (n : Nat) : Nat → Int32 → Int32 → Hp → Option Hp
  | 0, _, _, _ => none
  | m + 1, v1, v2, h =>
    if 160 ≤ v2 then
      g_X2_readNumber_67 n v1 h
    else
      (g_X2_byteAt (gI h 31 2) h).bind fun o2 =>
      (g_X2_isDigit o2.1 o2.2).bind fun o3 =>
      if o3.1 = 0 then
        g_X2_readNumber_67 n v1 o3.2
      else
        if 4 ≤ v2 then
          g_X2_readNumber_50 n (g_X2_readNumber_4 n m) v2 v1 o3.2
        else
          (g_X2_byteAt (gI o3.2 31 2) o3.2).bind fun o6 =>
          g_X2_readNumber_50 n (g_X2_readNumber_4 n m) v2 (((v1 * 10) + o6.1) - 48) o6.2
set_option maxRecDepth 100000 in
set_option maxHeartbeats 4000000 in
theorem q_X2_readNumber_4 {X : Nat → Int32} {d : Nat} (hd : 2 ≤ (d + 1)) {L hi : Nat} (hh : 96 ≤ hi) {n : Nat} : ∀ (m : Nat) (v1 : Int32) (v2 : Int32) (h : Hp) (o : Hp), SHP L hi h → g_X2_readNumber_4 n m v1 v2 h = some o → Run X (d + 1) 24 4 [some (.ref 31), some (.int v1), some (.int v2)] [] h (none, o) ∧ SHP L hi o := by
  intro m
  induction m with
  | zero => intro v1 v2 h o SH hf; cases hf
  | succ m ih =>
    intro v1 v2 h o SH hf
    rw [g_X2_readNumber_4] at hf
    refine And.imp_left (rs_iload_n i_X2_readNumber_4 rfl) ?_
    refine And.imp_left (rs_sipush i_X2_readNumber_5 (v := 160) (by decide)) ?_
    by_cases c1 : 160 ≤ v2
    · replace hf := (if_pos c1).symm.trans hf
      refine And.imp_left (rs_icT i_X2_readNumber_8 (ct_ge c1) (tg := 67) (by decide)) ?_
      exact q_X2_readNumber_67 hd hh SH hf
    · replace hf := (if_neg c1).symm.trans hf
      refine And.imp_left (rs_icF i_X2_readNumber_8 (cf_ge c1)) ?_
      refine And.imp_left (rs_aload_n i_X2_readNumber_11 rfl) ?_
      refine And.imp_left (rs_aload_n i_X2_readNumber_12 rfl) ?_
      refine And.imp_left (rs_getI i_X2_readNumber_13 (by decide) (by decide) (sO2 SH hh)) ?_
      obtain ⟨o2, e2, hf⟩ := bind_some hf
      obtain ⟨u2, SH2⟩ := k_X2_byteAt (X := X) (d := d) (by omega) (by omega) SH e2
      refine And.imp_left (rs_inV i_X2_readNumber_16 m_X2_byteAt rfl (As := [.int (gI h 31 2)]) (rest := []) rfl rfl (Nat.le_of_ble_eq_true rfl) (sO2 SH hh) u2 (st' := [.int o2.1]) rfl) ?_
      clear SH; have SH := SH2; clear SH2
      obtain ⟨o3, e3, hf⟩ := bind_some hf
      obtain ⟨u3, SH2⟩ := k_X2_isDigit (X := X) (d := d) (by omega) (by omega) SH e3
      refine And.imp_left (rs_inS i_X2_readNumber_19 (by decide) m_X2_isDigit rfl (As := [.int o2.1]) (rest := []) rfl rfl (Nat.le_of_ble_eq_true rfl) u3 (st' := [.int o3.1]) rfl) ?_
      clear SH; have SH := SH2; clear SH2
      by_cases c4 : o3.1 = 0
      · replace hf := (if_pos c4).symm.trans hf
        refine And.imp_left (rs_ifT i_X2_readNumber_22 (ct_eq c4) (tg := 67) (by decide)) ?_
        exact q_X2_readNumber_67 hd hh SH hf
      · replace hf := (if_neg c4).symm.trans hf
        refine And.imp_left (rs_ifF i_X2_readNumber_22 (cf_eq c4)) ?_
        refine And.imp_left (rs_iload_n i_X2_readNumber_25 rfl) ?_
        refine And.imp_left (rs_iconst i_X2_readNumber_26 (v := 4) (by decide)) ?_
        by_cases c5 : 4 ≤ v2
        · replace hf := (if_pos c5).symm.trans hf
          refine And.imp_left (rs_icT i_X2_readNumber_27 (ct_ge c5) (tg := 49) (by decide)) ?_
          refine And.imp_left (rs_iload_n i_X2_readNumber_49 rfl) ?_
          exact q_X2_readNumber_50 hd hh ih SH hf
        · replace hf := (if_neg c5).symm.trans hf
          refine And.imp_left (rs_icF i_X2_readNumber_27 (cf_ge c5)) ?_
          refine And.imp_left (rs_iload_n i_X2_readNumber_30 rfl) ?_
          refine And.imp_left (rs_bipush i_X2_readNumber_31 (v := 10) (by decide)) ?_
          refine And.imp_left (rs_imul i_X2_readNumber_33) ?_
          refine And.imp_left (rs_aload_n i_X2_readNumber_34 rfl) ?_
          refine And.imp_left (rs_aload_n i_X2_readNumber_35 rfl) ?_
          refine And.imp_left (rs_getI i_X2_readNumber_36 (by decide) (by decide) (sO2 SH hh)) ?_
          obtain ⟨o6, e6, hf⟩ := bind_some hf
          obtain ⟨u6, SH2⟩ := k_X2_byteAt (X := X) (d := d) (by omega) (by omega) SH e6
          refine And.imp_left (rs_inV i_X2_readNumber_39 m_X2_byteAt rfl (As := [.int (gI o3.2 31 2)]) (rest := [.int (v1 * 10)]) rfl rfl (Nat.le_of_ble_eq_true rfl) (sO2 SH hh) u6 (st' := [.int o6.1, .int (v1 * 10)]) rfl) ?_
          clear SH; have SH := SH2; clear SH2
          refine And.imp_left (rs_iadd i_X2_readNumber_42) ?_
          refine And.imp_left (rs_bipush i_X2_readNumber_43 (v := 48) (by decide)) ?_
          refine And.imp_left (rs_isub i_X2_readNumber_45) ?_
          refine And.imp_left (rs_goto i_X2_readNumber_46 (tg := 50) (by decide)) ?_
          exact q_X2_readNumber_50 hd hh ih SH hf
noncomputable def g_X2_readNumber_0 (n : Nat)  (h : Hp) : Option Hp :=
  g_X2_readNumber_4 n n 0 0 h
set_option maxRecDepth 100000 in
set_option maxHeartbeats 4000000 in
theorem q_X2_readNumber_0 {X : Nat → Int32} {d : Nat} (hd : 2 ≤ (d + 1)) {L hi : Nat} (hh : 96 ≤ hi) {n : Nat}  {h : Hp} {o : Hp}  (SH : SHP L hi h) (hf : g_X2_readNumber_0 n h = some o) : Run X (d + 1) 24 0 [some (.ref 31), none, none] [] h (none, o) ∧ SHP L hi o := by
  unfold g_X2_readNumber_0 at hf
  refine And.imp_left (rs_iconst i_X2_readNumber_0 (v := 0) (by decide)) ?_
  refine And.imp_left (rs_istore_n i_X2_readNumber_1 (Nat.le_of_ble_eq_true rfl) (lv' := [some (.ref 31), some (.int 0), none]) rfl) ?_
  refine And.imp_left (rs_iconst i_X2_readNumber_2 (v := 0) (by decide)) ?_
  refine And.imp_left (rs_istore_n i_X2_readNumber_3 (Nat.le_of_ble_eq_true rfl) (lv' := [some (.ref 31), some (.int 0), some (.int 0)]) rfl) ?_
  exact q_X2_readNumber_4 hd hh _ _ _ _ _ SH hf
noncomputable def g_X2_readNumber (n : Nat)  (h : Hp) : Option Hp := g_X2_readNumber_0 n h
theorem k_X2_readNumber {X : Nat → Int32} {d : Nat} (hd : 2 ≤ d) {L hi : Nat} (hh : 96 ≤ hi) {n : Nat}  {h : Hp} {o : Hp}  (SH : SHP L hi h) (hf : g_X2_readNumber n h = some o) : Calls X d 24 [.ref 31] h (none, o) ∧ SHP L hi o := by
  obtain ⟨d, rfl⟩ : ∃ z, d = z + 1 := ⟨d - 1, by omega⟩
  obtain ⟨r, S2⟩ := q_X2_readNumber_0 hd hh SH hf
  exact ⟨⟨_, rfl, r⟩, S2⟩
noncomputable def g_X2_isWord_52 (n : Nat) (K18 : Int32 → Int32 → Hp → Option (Int32 × Hp)) (v1 : Int32) (v2 : Int32) (s0 : Int32) (h : Hp) : Option (Int32 × Hp) :=
  if ((v1 * 6) + v2) < 0 then
    some (0, h)
  else
    (f_J0_length_8abf5 2 h).bind fun o2 =>
    if o2.1 ≤ ((v1 * 6) + v2) then
      some (0, o2.2)
    else
      (f_J0_charAt_5068e 2 ((v1 * 6) + v2) o2.2).bind fun o4 =>
      if o4.1 = s0 then
        K18 v1 (v2 + 1) o4.2
      else
        some (0, o4.2)
set_option maxRecDepth 100000 in
set_option maxHeartbeats 4000000 in
theorem q_X2_isWord_52 {X : Nat → Int32} {d : Nat} (hd : 4 ≤ (d + 1)) {L hi : Nat} (hh : 96 ≤ hi) {n : Nat} {K18 : Int32 → Int32 → Hp → Option (Int32 × Hp)} (HK18 : ∀ (v1 : Int32) (v2 : Int32) (w3 : Option Value) (w4 : Option Value) (h : Hp) (o : (Int32 × Hp)), SHP L hi h → K18 v1 v2 h = some o → Run X (d + 1) 26 18 [some (.ref 31), some (.int v1), some (.int v2), w3, w4] [] h (some (.int o.1), o.2) ∧ SHP L hi o.2) {v1 : Int32} {v2 : Int32} {s0 : Int32} {w3 : Option Value} {w4 : Option Value} {h : Hp} {o : (Int32 × Hp)}  (SH : SHP L hi h) (hf : g_X2_isWord_52 n K18 v1 v2 s0 h = some o) : Run X (d + 1) 26 52 [some (.ref 31), some (.int v1), some (.int v2), w3, w4] [.int s0] h (some (.int o.1), o.2) ∧ SHP L hi o.2 := by
  unfold g_X2_isWord_52 at hf
  refine And.imp_left (rs_istore_n i_X2_isWord_52 (Nat.le_of_ble_eq_true rfl) (lv' := [some (.ref 31), some (.int v1), some (.int v2), some (.int s0), w4]) rfl) ?_
  refine And.imp_left (rs_iload_n i_X2_isWord_53 rfl) ?_
  refine And.imp_left (rs_bipush i_X2_isWord_54 (v := 6) (by decide)) ?_
  refine And.imp_left (rs_imul i_X2_isWord_56) ?_
  refine And.imp_left (rs_iload_n i_X2_isWord_57 rfl) ?_
  refine And.imp_left (rs_iadd i_X2_isWord_58) ?_
  refine And.imp_left (rs_istore i_X2_isWord_59 (Nat.le_of_ble_eq_true rfl) (lv' := [some (.ref 31), some (.int v1), some (.int v2), some (.int s0), some (.int ((v1 * 6) + v2))]) rfl) ?_
  refine And.imp_left (rs_iload i_X2_isWord_61 rfl) ?_
  by_cases c1 : ((v1 * 6) + v2) < 0
  · replace hf := (if_pos c1).symm.trans hf
    refine And.imp_left (rs_ifT i_X2_isWord_63 (ct_lt c1) (tg := 87) (by decide)) ?_
    refine And.imp_left (rs_iconst i_X2_isWord_87 (v := 0) (by decide)) ?_
    have hf := Option.some.inj hf
    subst hf
    exact ⟨rs_iret i_X2_isWord_88 m_X2_isWord (by decide), SH⟩
  · replace hf := (if_neg c1).symm.trans hf
    refine And.imp_left (rs_ifF i_X2_isWord_63 (cf_lt c1)) ?_
    refine And.imp_left (rs_iload i_X2_isWord_66 rfl) ?_
    refine And.imp_left (rs_ldcS i_X2_isWord_68 (by decide)) ?_
    obtain ⟨o2, e2, hf⟩ := bind_some hf
    have u2 := c_J0_length_8abf5 (X := X) (d := d) (by omega) e2
    have w2 : okO h 2 20 := sStr SH (by decide)
    have SH : SHP L hi o2.2 := by rw [j_J0_length_8abf5 e2]; exact SH
    refine And.imp_left (rs_inV i_X2_isWord_70 m_J0_length_8abf5 rfl (As := []) (rest := [.int ((v1 * 6) + v2)]) rfl rfl (Nat.le_of_ble_eq_true rfl) w2 u2 (st' := [.int o2.1, .int ((v1 * 6) + v2)]) rfl) ?_
    by_cases c3 : o2.1 ≤ ((v1 * 6) + v2)
    · replace hf := (if_pos c3).symm.trans hf
      refine And.imp_left (rs_icT i_X2_isWord_73 (ct_ge c3) (tg := 87) (by decide)) ?_
      refine And.imp_left (rs_iconst i_X2_isWord_87 (v := 0) (by decide)) ?_
      have hf := Option.some.inj hf
      subst hf
      exact ⟨rs_iret i_X2_isWord_88 m_X2_isWord (by decide), SH⟩
    · replace hf := (if_neg c3).symm.trans hf
      refine And.imp_left (rs_icF i_X2_isWord_73 (cf_ge c3)) ?_
      refine And.imp_left (rs_ldcS i_X2_isWord_76 (by decide)) ?_
      refine And.imp_left (rs_iload i_X2_isWord_78 rfl) ?_
      obtain ⟨o4, e4, hf⟩ := bind_some hf
      have u4 := c_J0_charAt_5068e (X := X) (d := d) (by omega) e4
      have w4 : okO o2.2 2 20 := sStr SH (by decide)
      have SH : SHP L hi o4.2 := by rw [j_J0_charAt_5068e e4]; exact SH
      refine And.imp_left (rs_inV i_X2_isWord_80 m_J0_charAt_5068e rfl (As := [.int ((v1 * 6) + v2)]) (rest := []) rfl rfl (Nat.le_of_ble_eq_true rfl) w4 u4 (st' := [.int o4.1]) rfl) ?_
      refine And.imp_left (rs_iload_n i_X2_isWord_83 rfl) ?_
      by_cases c5 : o4.1 = s0
      · replace hf := (if_pos c5).symm.trans hf
        refine And.imp_left (rs_icT i_X2_isWord_84 (ct_eq c5) (tg := 89) (by decide)) ?_
        refine And.imp_left (rs_iinc i_X2_isWord_89 rfl (v := v2 + 1) rfl (Nat.le_of_ble_eq_true rfl) (lv' := [some (.ref 31), some (.int v1), some (.int (v2 + 1)), some (.int s0), some (.int ((v1 * 6) + v2))]) rfl) ?_
        refine And.imp_left (rs_goto i_X2_isWord_92 (tg := 18) (by decide)) ?_
        exact HK18 _ _ _ _ _ _ SH hf
      · replace hf := (if_neg c5).symm.trans hf
        refine And.imp_left (rs_icF i_X2_isWord_84 (cf_eq c5)) ?_
        refine And.imp_left (rs_iconst i_X2_isWord_87 (v := 0) (by decide)) ?_
        have hf := Option.some.inj hf
        subst hf
        exact ⟨rs_iret i_X2_isWord_88 m_X2_isWord (by decide), SH⟩
noncomputable def g_X2_isWord_18 (n : Nat) : Nat → Int32 → Int32 → Hp → Option (Int32 × Hp)
  | 0, _, _, _ => none
  | m + 1, v1, v2, h =>
    if 6 ≤ v2 then
      some (1, h)
    else
      if (gI h 31 2) ≤ ((gI h 31 4) + v2) then
        g_X2_isWord_52 n (g_X2_isWord_18 n m) v1 v2 32 h
      else
        (g_X2_byteAt ((gI h 31 4) + v2) h).bind fun o3 =>
        g_X2_isWord_52 n (g_X2_isWord_18 n m) v1 v2 o3.1 o3.2
set_option maxRecDepth 100000 in
set_option maxHeartbeats 4000000 in
theorem q_X2_isWord_18 {X : Nat → Int32} {d : Nat} (hd : 4 ≤ (d + 1)) {L hi : Nat} (hh : 96 ≤ hi) {n : Nat} : ∀ (m : Nat) (v1 : Int32) (v2 : Int32) (w3 : Option Value) (w4 : Option Value) (h : Hp) (o : (Int32 × Hp)), SHP L hi h → g_X2_isWord_18 n m v1 v2 h = some o → Run X (d + 1) 26 18 [some (.ref 31), some (.int v1), some (.int v2), w3, w4] [] h (some (.int o.1), o.2) ∧ SHP L hi o.2 := by
  intro m
  induction m with
  | zero => intro v1 v2 w3 w4 h o SH hf; cases hf
  | succ m ih =>
    intro v1 v2 w3 w4 h o SH hf
    rw [g_X2_isWord_18] at hf
    refine And.imp_left (rs_iload_n i_X2_isWord_18 rfl) ?_
    refine And.imp_left (rs_bipush i_X2_isWord_19 (v := 6) (by decide)) ?_
    by_cases c1 : 6 ≤ v2
    · replace hf := (if_pos c1).symm.trans hf
      refine And.imp_left (rs_icT i_X2_isWord_21 (ct_ge c1) (tg := 95) (by decide)) ?_
      refine And.imp_left (rs_iconst i_X2_isWord_95 (v := 1) (by decide)) ?_
      have hf := Option.some.inj hf
      subst hf
      exact ⟨rs_iret i_X2_isWord_96 m_X2_isWord (by decide), SH⟩
    · replace hf := (if_neg c1).symm.trans hf
      refine And.imp_left (rs_icF i_X2_isWord_21 (cf_ge c1)) ?_
      refine And.imp_left (rs_aload_n i_X2_isWord_24 rfl) ?_
      refine And.imp_left (rs_getI i_X2_isWord_25 (by decide) (by decide) (sO2 SH hh)) ?_
      refine And.imp_left (rs_iload_n i_X2_isWord_28 rfl) ?_
      refine And.imp_left (rs_iadd i_X2_isWord_29) ?_
      refine And.imp_left (rs_aload_n i_X2_isWord_30 rfl) ?_
      refine And.imp_left (rs_getI i_X2_isWord_31 (by decide) (by decide) (sO2 SH hh)) ?_
      by_cases c2 : (gI h 31 2) ≤ ((gI h 31 4) + v2)
      · replace hf := (if_pos c2).symm.trans hf
        refine And.imp_left (rs_icT i_X2_isWord_34 (ct_ge c2) (tg := 50) (by decide)) ?_
        refine And.imp_left (rs_bipush i_X2_isWord_50 (v := 32) (by decide)) ?_
        exact q_X2_isWord_52 hd hh ih SH hf
      · replace hf := (if_neg c2).symm.trans hf
        refine And.imp_left (rs_icF i_X2_isWord_34 (cf_ge c2)) ?_
        refine And.imp_left (rs_aload_n i_X2_isWord_37 rfl) ?_
        refine And.imp_left (rs_aload_n i_X2_isWord_38 rfl) ?_
        refine And.imp_left (rs_getI i_X2_isWord_39 (by decide) (by decide) (sO2 SH hh)) ?_
        refine And.imp_left (rs_iload_n i_X2_isWord_42 rfl) ?_
        refine And.imp_left (rs_iadd i_X2_isWord_43) ?_
        obtain ⟨o3, e3, hf⟩ := bind_some hf
        obtain ⟨u3, SH2⟩ := k_X2_byteAt (X := X) (d := d) (by omega) (by omega) SH e3
        refine And.imp_left (rs_inV i_X2_isWord_44 m_X2_byteAt rfl (As := [.int ((gI h 31 4) + v2)]) (rest := []) rfl rfl (Nat.le_of_ble_eq_true rfl) (sO2 SH hh) u3 (st' := [.int o3.1]) rfl) ?_
        clear SH; have SH := SH2; clear SH2
        refine And.imp_left (rs_goto i_X2_isWord_47 (tg := 52) (by decide)) ?_
        exact q_X2_isWord_52 hd hh ih SH hf
noncomputable def g_X2_isWord_0 (n : Nat) (v1 : Int32) (h : Hp) : Option (Int32 × Hp) :=
  if ((gI h 31 2) - (gI h 31 4)) ≤ 6 then
    g_X2_isWord_18 n n v1 0 h
  else
    some (0, h)
set_option maxRecDepth 100000 in
set_option maxHeartbeats 4000000 in
theorem q_X2_isWord_0 {X : Nat → Int32} {d : Nat} (hd : 4 ≤ (d + 1)) {L hi : Nat} (hh : 96 ≤ hi) {n : Nat} {v1 : Int32} {h : Hp} {o : (Int32 × Hp)}  (SH : SHP L hi h) (hf : g_X2_isWord_0 n v1 h = some o) : Run X (d + 1) 26 0 [some (.ref 31), some (.int v1), none, none, none] [] h (some (.int o.1), o.2) ∧ SHP L hi o.2 := by
  unfold g_X2_isWord_0 at hf
  refine And.imp_left (rs_aload_n i_X2_isWord_0 rfl) ?_
  refine And.imp_left (rs_getI i_X2_isWord_1 (by decide) (by decide) (sO2 SH hh)) ?_
  refine And.imp_left (rs_aload_n i_X2_isWord_4 rfl) ?_
  refine And.imp_left (rs_getI i_X2_isWord_5 (by decide) (by decide) (sO2 SH hh)) ?_
  refine And.imp_left (rs_isub i_X2_isWord_8) ?_
  refine And.imp_left (rs_bipush i_X2_isWord_9 (v := 6) (by decide)) ?_
  by_cases c1 : ((gI h 31 2) - (gI h 31 4)) ≤ 6
  · replace hf := (if_pos c1).symm.trans hf
    refine And.imp_left (rs_icT i_X2_isWord_11 (ct_le c1) (tg := 16) (by decide)) ?_
    refine And.imp_left (rs_iconst i_X2_isWord_16 (v := 0) (by decide)) ?_
    refine And.imp_left (rs_istore_n i_X2_isWord_17 (Nat.le_of_ble_eq_true rfl) (lv' := [some (.ref 31), some (.int v1), some (.int 0), none, none]) rfl) ?_
    exact q_X2_isWord_18 hd hh _ _ _ _ _ _ _ SH hf
  · replace hf := (if_neg c1).symm.trans hf
    refine And.imp_left (rs_icF i_X2_isWord_11 (cf_le c1)) ?_
    refine And.imp_left (rs_iconst i_X2_isWord_14 (v := 0) (by decide)) ?_
    have hf := Option.some.inj hf
    subst hf
    exact ⟨rs_iret i_X2_isWord_15 m_X2_isWord (by decide), SH⟩
noncomputable def g_X2_isWord (n : Nat) (v1 : Int32) (h : Hp) : Option (Int32 × Hp) := g_X2_isWord_0 n v1 h
theorem k_X2_isWord {X : Nat → Int32} {d : Nat} (hd : 4 ≤ d) {L hi : Nat} (hh : 96 ≤ hi) {n : Nat} {v1 : Int32} {h : Hp} {o : (Int32 × Hp)}  (SH : SHP L hi h) (hf : g_X2_isWord n v1 h = some o) : Calls X d 26 [.ref 31, .int v1] h (some (.int o.1), o.2) ∧ SHP L hi o.2 := by
  obtain ⟨d, rfl⟩ : ∃ z, d = z + 1 := ⟨d - 1, by omega⟩
  obtain ⟨r, S2⟩ := q_X2_isWord_0 hd hh SH hf
  exact ⟨⟨_, rfl, r⟩, S2⟩
noncomputable def g_X2_readWord_94 (n : Nat) (K46 : Int32 → Hp → Option Hp) (v1 : Int32) (h : Hp) : Option Hp :=
  K46 (v1 + 1) h
set_option maxRecDepth 100000 in
set_option maxHeartbeats 4000000 in
theorem q_X2_readWord_94 {X : Nat → Int32} {d : Nat} (hd : 5 ≤ (d + 1)) {L hi : Nat} (hh : 96 ≤ hi) {n : Nat} {K46 : Int32 → Hp → Option Hp} (HK46 : ∀ (v1 : Int32) (h : Hp) (o : Hp), SHP L hi h → K46 v1 h = some o → Run X (d + 1) 25 46 [some (.ref 31), some (.int v1)] [] h (none, o) ∧ SHP L hi o) {v1 : Int32} {h : Hp} {o : Hp}  (SH : SHP L hi h) (hf : g_X2_readWord_94 n K46 v1 h = some o) : Run X (d + 1) 25 94 [some (.ref 31), some (.int v1)] [] h (none, o) ∧ SHP L hi o := by
  unfold g_X2_readWord_94 at hf
  refine And.imp_left (rs_iinc i_X2_readWord_94 rfl (v := v1 + 1) rfl (Nat.le_of_ble_eq_true rfl) (lv' := [some (.ref 31), some (.int (v1 + 1))]) rfl) ?_
  refine And.imp_left (rs_goto i_X2_readWord_97 (tg := 46) (by decide)) ?_
  exact HK46 _ _ _ SH hf
noncomputable def g_X2_readWord_86 (n : Nat) (K46 : Int32 → Hp → Option Hp) (v1 : Int32) (h : Hp) : Option Hp :=
  g_X2_readWord_94 n K46 v1 (hsi h 31 5 (v1 - 6))
set_option maxRecDepth 100000 in
set_option maxHeartbeats 4000000 in
theorem q_X2_readWord_86 {X : Nat → Int32} {d : Nat} (hd : 5 ≤ (d + 1)) {L hi : Nat} (hh : 96 ≤ hi) {n : Nat} {K46 : Int32 → Hp → Option Hp} (HK46 : ∀ (v1 : Int32) (h : Hp) (o : Hp), SHP L hi h → K46 v1 h = some o → Run X (d + 1) 25 46 [some (.ref 31), some (.int v1)] [] h (none, o) ∧ SHP L hi o) {v1 : Int32} {h : Hp} {o : Hp}  (SH : SHP L hi h) (hf : g_X2_readWord_86 n K46 v1 h = some o) : Run X (d + 1) 25 86 [some (.ref 31), some (.int v1)] [] h (none, o) ∧ SHP L hi o := by
  unfold g_X2_readWord_86 at hf
  refine And.imp_left (rs_aload_n i_X2_readWord_86 rfl) ?_
  refine And.imp_left (rs_iload_n i_X2_readWord_87 rfl) ?_
  refine And.imp_left (rs_bipush i_X2_readWord_88 (v := 6) (by decide)) ?_
  refine And.imp_left (rs_isub i_X2_readWord_90) ?_
  refine And.imp_left (rs_putI i_X2_readWord_91 (by decide) (sO2 SH hh)) ?_
  have SH := shi SH 31 5 (v1 - 6)
  exact q_X2_readWord_94 hd hh HK46 SH hf
noncomputable def g_X2_readWord_83 (n : Nat) (K46 : Int32 → Hp → Option Hp) (v1 : Int32) (s1 : Int32) (h : Hp) : Option Hp :=
  g_X2_readWord_86 n K46 v1 (hsi h 31 3 s1)
set_option maxRecDepth 100000 in
set_option maxHeartbeats 4000000 in
theorem q_X2_readWord_83 {X : Nat → Int32} {d : Nat} (hd : 5 ≤ (d + 1)) {L hi : Nat} (hh : 96 ≤ hi) {n : Nat} {K46 : Int32 → Hp → Option Hp} (HK46 : ∀ (v1 : Int32) (h : Hp) (o : Hp), SHP L hi h → K46 v1 h = some o → Run X (d + 1) 25 46 [some (.ref 31), some (.int v1)] [] h (none, o) ∧ SHP L hi o) {v1 : Int32} {s1 : Int32} {h : Hp} {o : Hp}  (SH : SHP L hi h) (hf : g_X2_readWord_83 n K46 v1 s1 h = some o) : Run X (d + 1) 25 83 [some (.ref 31), some (.int v1)] [.int s1, .ref 31] h (none, o) ∧ SHP L hi o := by
  unfold g_X2_readWord_83 at hf
  refine And.imp_left (rs_putI i_X2_readWord_83 (by decide) (sO2 SH hh)) ?_
  have SH := shi SH 31 3 s1
  exact q_X2_readWord_86 hd hh HK46 SH hf
noncomputable def g_X2_readWord_46 (n : Nat) : Nat → Int32 → Hp → Option Hp
  | 0, _, _ => none
  | m + 1, v1, h =>
    if 12 ≤ v1 then
      some h
    else
      if (gI h 31 3) ≠ 1 then
        some h
      else
        (g_X2_isWord n v1 h).bind fun o3 =>
        if o3.1 = 0 then
          g_X2_readWord_94 n (g_X2_readWord_46 n m) v1 o3.2
        else
          if 6 ≤ v1 then
            g_X2_readWord_83 n (g_X2_readWord_46 n m) v1 3 o3.2
          else
            g_X2_readWord_83 n (g_X2_readWord_46 n m) v1 (10 + v1) o3.2
set_option maxRecDepth 100000 in
set_option maxHeartbeats 4000000 in
theorem q_X2_readWord_46 {X : Nat → Int32} {d : Nat} (hd : 5 ≤ (d + 1)) {L hi : Nat} (hh : 96 ≤ hi) {n : Nat} : ∀ (m : Nat) (v1 : Int32) (h : Hp) (o : Hp), SHP L hi h → g_X2_readWord_46 n m v1 h = some o → Run X (d + 1) 25 46 [some (.ref 31), some (.int v1)] [] h (none, o) ∧ SHP L hi o := by
  intro m
  induction m with
  | zero => intro v1 h o SH hf; cases hf
  | succ m ih =>
    intro v1 h o SH hf
    rw [g_X2_readWord_46] at hf
    refine And.imp_left (rs_iload_n i_X2_readWord_46 rfl) ?_
    refine And.imp_left (rs_bipush i_X2_readWord_47 (v := 12) (by decide)) ?_
    by_cases c1 : 12 ≤ v1
    · replace hf := (if_pos c1).symm.trans hf
      refine And.imp_left (rs_icT i_X2_readWord_49 (ct_ge c1) (tg := 100) (by decide)) ?_
      have hf := Option.some.inj hf
      subst hf
      exact ⟨rs_vret i_X2_readWord_100 m_X2_readWord rfl, SH⟩
    · replace hf := (if_neg c1).symm.trans hf
      refine And.imp_left (rs_icF i_X2_readWord_49 (cf_ge c1)) ?_
      refine And.imp_left (rs_aload_n i_X2_readWord_52 rfl) ?_
      refine And.imp_left (rs_getI i_X2_readWord_53 (by decide) (by decide) (sO2 SH hh)) ?_
      refine And.imp_left (rs_iconst i_X2_readWord_56 (v := 1) (by decide)) ?_
      by_cases c2 : (gI h 31 3) ≠ 1
      · replace hf := (if_pos c2).symm.trans hf
        refine And.imp_left (rs_icT i_X2_readWord_57 (ct_ne c2) (tg := 100) (by decide)) ?_
        have hf := Option.some.inj hf
        subst hf
        exact ⟨rs_vret i_X2_readWord_100 m_X2_readWord rfl, SH⟩
      · replace hf := (if_neg c2).symm.trans hf
        refine And.imp_left (rs_icF i_X2_readWord_57 (cf_ne c2)) ?_
        refine And.imp_left (rs_aload_n i_X2_readWord_60 rfl) ?_
        refine And.imp_left (rs_iload_n i_X2_readWord_61 rfl) ?_
        obtain ⟨o3, e3, hf⟩ := bind_some hf
        obtain ⟨u3, SH2⟩ := k_X2_isWord (X := X) (d := d) (by omega) (by omega) SH e3
        refine And.imp_left (rs_inV i_X2_readWord_62 m_X2_isWord rfl (As := [.int v1]) (rest := []) rfl rfl (Nat.le_of_ble_eq_true rfl) (sO2 SH hh) u3 (st' := [.int o3.1]) rfl) ?_
        clear SH; have SH := SH2; clear SH2
        by_cases c4 : o3.1 = 0
        · replace hf := (if_pos c4).symm.trans hf
          refine And.imp_left (rs_ifT i_X2_readWord_65 (ct_eq c4) (tg := 94) (by decide)) ?_
          exact q_X2_readWord_94 hd hh ih SH hf
        · replace hf := (if_neg c4).symm.trans hf
          refine And.imp_left (rs_ifF i_X2_readWord_65 (cf_eq c4)) ?_
          refine And.imp_left (rs_aload_n i_X2_readWord_68 rfl) ?_
          refine And.imp_left (rs_iload_n i_X2_readWord_69 rfl) ?_
          refine And.imp_left (rs_bipush i_X2_readWord_70 (v := 6) (by decide)) ?_
          by_cases c5 : 6 ≤ v1
          · replace hf := (if_pos c5).symm.trans hf
            refine And.imp_left (rs_icT i_X2_readWord_72 (ct_ge c5) (tg := 82) (by decide)) ?_
            refine And.imp_left (rs_iconst i_X2_readWord_82 (v := 3) (by decide)) ?_
            exact q_X2_readWord_83 hd hh ih SH hf
          · replace hf := (if_neg c5).symm.trans hf
            refine And.imp_left (rs_icF i_X2_readWord_72 (cf_ge c5)) ?_
            refine And.imp_left (rs_bipush i_X2_readWord_75 (v := 10) (by decide)) ?_
            refine And.imp_left (rs_iload_n i_X2_readWord_77 rfl) ?_
            refine And.imp_left (rs_iadd i_X2_readWord_78) ?_
            refine And.imp_left (rs_goto i_X2_readWord_79 (tg := 83) (by decide)) ?_
            exact q_X2_readWord_83 hd hh ih SH hf
noncomputable def g_X2_readWord_39 (n : Nat)  (h : Hp) : Option Hp :=
  g_X2_readWord_46 n n 0 (hsi h 31 3 1)
set_option maxRecDepth 100000 in
set_option maxHeartbeats 4000000 in
theorem q_X2_readWord_39 {X : Nat → Int32} {d : Nat} (hd : 5 ≤ (d + 1)) {L hi : Nat} (hh : 96 ≤ hi) {n : Nat} {d1 : Int32} {h : Hp} {o : Hp}  (SH : SHP L hi h) (hf : g_X2_readWord_39 n h = some o) : Run X (d + 1) 25 39 [some (.ref 31), some (.int d1)] [] h (none, o) ∧ SHP L hi o := by
  unfold g_X2_readWord_39 at hf
  refine And.imp_left (rs_aload_n i_X2_readWord_39 rfl) ?_
  refine And.imp_left (rs_iconst i_X2_readWord_40 (v := 1) (by decide)) ?_
  refine And.imp_left (rs_putI i_X2_readWord_41 (by decide) (sO2 SH hh)) ?_
  have SH := shi SH 31 3 1
  refine And.imp_left (rs_iconst i_X2_readWord_44 (v := 0) (by decide)) ?_
  refine And.imp_left (rs_istore_n i_X2_readWord_45 (Nat.le_of_ble_eq_true rfl) (lv' := [some (.ref 31), some (.int 0)]) rfl) ?_
  exact q_X2_readWord_46 hd hh _ _ _ _ SH hf
noncomputable def g_X2_readWord_2 (n : Nat) : Nat → Int32 → Hp → Option Hp
  | 0, _, _ => none
  | m + 1, v1, h =>
    if 160 ≤ v1 then
      g_X2_readWord_39 n h
    else
      (g_X2_byteAt (gI h 31 2) h).bind fun o2 =>
      (g_X2_isLetter o2.1 o2.2).bind fun o3 =>
      if o3.1 = 0 then
        g_X2_readWord_39 n o3.2
      else
        (g_X2_readWord_2 n m) (v1 + 1) (hsi o3.2 31 2 ((gI o3.2 31 2) + 1))
set_option maxRecDepth 100000 in
set_option maxHeartbeats 4000000 in
theorem q_X2_readWord_2 {X : Nat → Int32} {d : Nat} (hd : 5 ≤ (d + 1)) {L hi : Nat} (hh : 96 ≤ hi) {n : Nat} : ∀ (m : Nat) (v1 : Int32) (h : Hp) (o : Hp), SHP L hi h → g_X2_readWord_2 n m v1 h = some o → Run X (d + 1) 25 2 [some (.ref 31), some (.int v1)] [] h (none, o) ∧ SHP L hi o := by
  intro m
  induction m with
  | zero => intro v1 h o SH hf; cases hf
  | succ m ih =>
    intro v1 h o SH hf
    rw [g_X2_readWord_2] at hf
    refine And.imp_left (rs_iload_n i_X2_readWord_2 rfl) ?_
    refine And.imp_left (rs_sipush i_X2_readWord_3 (v := 160) (by decide)) ?_
    by_cases c1 : 160 ≤ v1
    · replace hf := (if_pos c1).symm.trans hf
      refine And.imp_left (rs_icT i_X2_readWord_6 (ct_ge c1) (tg := 39) (by decide)) ?_
      exact q_X2_readWord_39 hd hh SH hf
    · replace hf := (if_neg c1).symm.trans hf
      refine And.imp_left (rs_icF i_X2_readWord_6 (cf_ge c1)) ?_
      refine And.imp_left (rs_aload_n i_X2_readWord_9 rfl) ?_
      refine And.imp_left (rs_aload_n i_X2_readWord_10 rfl) ?_
      refine And.imp_left (rs_getI i_X2_readWord_11 (by decide) (by decide) (sO2 SH hh)) ?_
      obtain ⟨o2, e2, hf⟩ := bind_some hf
      obtain ⟨u2, SH2⟩ := k_X2_byteAt (X := X) (d := d) (by omega) (by omega) SH e2
      refine And.imp_left (rs_inV i_X2_readWord_14 m_X2_byteAt rfl (As := [.int (gI h 31 2)]) (rest := []) rfl rfl (Nat.le_of_ble_eq_true rfl) (sO2 SH hh) u2 (st' := [.int o2.1]) rfl) ?_
      clear SH; have SH := SH2; clear SH2
      obtain ⟨o3, e3, hf⟩ := bind_some hf
      obtain ⟨u3, SH2⟩ := k_X2_isLetter (X := X) (d := d) (by omega) (by omega) SH e3
      refine And.imp_left (rs_inS i_X2_readWord_17 (by decide) m_X2_isLetter rfl (As := [.int o2.1]) (rest := []) rfl rfl (Nat.le_of_ble_eq_true rfl) u3 (st' := [.int o3.1]) rfl) ?_
      clear SH; have SH := SH2; clear SH2
      by_cases c4 : o3.1 = 0
      · replace hf := (if_pos c4).symm.trans hf
        refine And.imp_left (rs_ifT i_X2_readWord_20 (ct_eq c4) (tg := 39) (by decide)) ?_
        exact q_X2_readWord_39 hd hh SH hf
      · replace hf := (if_neg c4).symm.trans hf
        refine And.imp_left (rs_ifF i_X2_readWord_20 (cf_eq c4)) ?_
        refine And.imp_left (rs_aload_n i_X2_readWord_23 rfl) ?_
        refine And.imp_left (rs_dup i_X2_readWord_24 rfl) ?_
        refine And.imp_left (rs_getI i_X2_readWord_25 (by decide) (by decide) (sO2 SH hh)) ?_
        refine And.imp_left (rs_iconst i_X2_readWord_28 (v := 1) (by decide)) ?_
        refine And.imp_left (rs_iadd i_X2_readWord_29) ?_
        refine And.imp_left (rs_putI i_X2_readWord_30 (by decide) (sO2 SH hh)) ?_
        have SH := shi SH 31 2 ((gI o3.2 31 2) + 1)
        refine And.imp_left (rs_iinc i_X2_readWord_33 rfl (v := v1 + 1) rfl (Nat.le_of_ble_eq_true rfl) (lv' := [some (.ref 31), some (.int (v1 + 1))]) rfl) ?_
        refine And.imp_left (rs_goto i_X2_readWord_36 (tg := 2) (by decide)) ?_
        exact ih _ _ _ SH hf
noncomputable def g_X2_readWord_0 (n : Nat)  (h : Hp) : Option Hp :=
  g_X2_readWord_2 n n 0 h
set_option maxRecDepth 100000 in
set_option maxHeartbeats 4000000 in
theorem q_X2_readWord_0 {X : Nat → Int32} {d : Nat} (hd : 5 ≤ (d + 1)) {L hi : Nat} (hh : 96 ≤ hi) {n : Nat}  {h : Hp} {o : Hp}  (SH : SHP L hi h) (hf : g_X2_readWord_0 n h = some o) : Run X (d + 1) 25 0 [some (.ref 31), none] [] h (none, o) ∧ SHP L hi o := by
  unfold g_X2_readWord_0 at hf
  refine And.imp_left (rs_iconst i_X2_readWord_0 (v := 0) (by decide)) ?_
  refine And.imp_left (rs_istore_n i_X2_readWord_1 (Nat.le_of_ble_eq_true rfl) (lv' := [some (.ref 31), some (.int 0)]) rfl) ?_
  exact q_X2_readWord_2 hd hh _ _ _ _ SH hf
noncomputable def g_X2_readWord (n : Nat)  (h : Hp) : Option Hp := g_X2_readWord_0 n h
theorem k_X2_readWord {X : Nat → Int32} {d : Nat} (hd : 5 ≤ d) {L hi : Nat} (hh : 96 ≤ hi) {n : Nat}  {h : Hp} {o : Hp}  (SH : SHP L hi h) (hf : g_X2_readWord n h = some o) : Calls X d 25 [.ref 31] h (none, o) ∧ SHP L hi o := by
  obtain ⟨d, rfl⟩ : ∃ z, d = z + 1 := ⟨d - 1, by omega⟩
  obtain ⟨r, S2⟩ := q_X2_readWord_0 hd hh SH hf
  exact ⟨⟨_, rfl, r⟩, S2⟩
noncomputable def g_X2_advance_135 (n : Nat) (s1 : Int32) (h : Hp) : Option Hp :=
  some (hsi h 31 3 s1)
set_option maxRecDepth 100000 in
set_option maxHeartbeats 4000000 in
theorem q_X2_advance_135 {X : Nat → Int32} {d : Nat} (hd : 6 ≤ (d + 1)) {L hi : Nat} (hh : 96 ≤ hi) {n : Nat} {s1 : Int32} {d1 : Int32} {h : Hp} {o : Hp}  (SH : SHP L hi h) (hf : g_X2_advance_135 n s1 h = some o) : Run X (d + 1) 20 135 [some (.ref 31), some (.int d1)] [.int s1, .ref 31] h (none, o) ∧ SHP L hi o := by
  unfold g_X2_advance_135 at hf
  refine And.imp_left (rs_putI i_X2_advance_135 (by decide) (sO2 SH hh)) ?_
  have SH := shi SH 31 3 s1
  have hf := Option.some.inj hf
  subst hf
  exact ⟨rs_vret i_X2_advance_138 m_X2_advance rfl, SH⟩
noncomputable def g_X2_advance_119 (n : Nat) (v1 : Int32) (h : Hp) : Option Hp :=
  (f_J0_indexOf_0f7a4 n 3 (((Int32.toUInt32 v1) % 65536).toInt32) h).bind fun o1 =>
  if o1.1 < 0 then
    g_X2_advance_135 n 1 o1.2
  else
    g_X2_advance_135 n v1 o1.2
set_option maxRecDepth 100000 in
set_option maxHeartbeats 4000000 in
theorem q_X2_advance_119 {X : Nat → Int32} {d : Nat} (hd : 6 ≤ (d + 1)) {L hi : Nat} (hh : 96 ≤ hi) {n : Nat} {v1 : Int32} {h : Hp} {o : Hp}  (SH : SHP L hi h) (hf : g_X2_advance_119 n v1 h = some o) : Run X (d + 1) 20 119 [some (.ref 31), some (.int v1)] [] h (none, o) ∧ SHP L hi o := by
  unfold g_X2_advance_119 at hf
  refine And.imp_left (rs_aload_n i_X2_advance_119 rfl) ?_
  refine And.imp_left (rs_ldcS i_X2_advance_120 (by decide)) ?_
  refine And.imp_left (rs_iload_n i_X2_advance_122 rfl) ?_
  refine And.imp_left (rs_i2c i_X2_advance_123) ?_
  obtain ⟨o1, e1, hf⟩ := bind_some hf
  have u1 := c_J0_indexOf_0f7a4 (X := X) (d := d) (by omega) e1
  have w1 : okO h 3 20 := sStr SH (by decide)
  have SH : SHP L hi o1.2 := by rw [j_J0_indexOf_0f7a4 e1]; exact SH
  refine And.imp_left (rs_inV i_X2_advance_124 m_J0_indexOf_0f7a4 rfl (As := [.int (((Int32.toUInt32 v1) % 65536).toInt32)]) (rest := [.ref 31]) rfl rfl (Nat.le_of_ble_eq_true rfl) w1 u1 (st' := [.int o1.1, .ref 31]) rfl) ?_
  by_cases c2 : o1.1 < 0
  · replace hf := (if_pos c2).symm.trans hf
    refine And.imp_left (rs_ifT i_X2_advance_127 (ct_lt c2) (tg := 134) (by decide)) ?_
    refine And.imp_left (rs_iconst i_X2_advance_134 (v := 1) (by decide)) ?_
    exact q_X2_advance_135 hd hh SH hf
  · replace hf := (if_neg c2).symm.trans hf
    refine And.imp_left (rs_ifF i_X2_advance_127 (cf_lt c2)) ?_
    refine And.imp_left (rs_iload_n i_X2_advance_130 rfl) ?_
    refine And.imp_left (rs_goto i_X2_advance_131 (tg := 135) (by decide)) ?_
    exact q_X2_advance_135 hd hh SH hf
noncomputable def g_X2_advance_59 (n : Nat)  (h : Hp) : Option Hp :=
  (g_X2_byteAt (gI h 31 2) h).bind fun o1 =>
  if o1.1 ≠ (-1) then
    (g_X2_isLetter o1.1 o1.2).bind fun o3 =>
    if o3.1 = 0 then
      (g_X2_isDigit o1.1 o3.2).bind fun o5 =>
      if o5.1 = 0 then
        g_X2_advance_119 n o1.1 (hsi o5.2 31 2 ((gI o5.2 31 2) + 1))
      else
        (g_X2_readNumber n o5.2).bind fun o7 =>
        some o7
    else
      (g_X2_readWord n o3.2).bind fun o8 =>
      some o8
  else
    some (hsi o1.2 31 3 0)
set_option maxRecDepth 100000 in
set_option maxHeartbeats 4000000 in
theorem q_X2_advance_59 {X : Nat → Int32} {d : Nat} (hd : 6 ≤ (d + 1)) {L hi : Nat} (hh : 96 ≤ hi) {n : Nat} {d1 : Int32} {h : Hp} {o : Hp}  (SH : SHP L hi h) (hf : g_X2_advance_59 n h = some o) : Run X (d + 1) 20 59 [some (.ref 31), some (.int d1)] [] h (none, o) ∧ SHP L hi o := by
  unfold g_X2_advance_59 at hf
  refine And.imp_left (rs_aload_n i_X2_advance_59 rfl) ?_
  refine And.imp_left (rs_aload_n i_X2_advance_60 rfl) ?_
  refine And.imp_left (rs_getI i_X2_advance_61 (by decide) (by decide) (sO2 SH hh)) ?_
  obtain ⟨o1, e1, hf⟩ := bind_some hf
  obtain ⟨u1, SH2⟩ := k_X2_byteAt (X := X) (d := d) (by omega) (by omega) SH e1
  refine And.imp_left (rs_inV i_X2_advance_64 m_X2_byteAt rfl (As := [.int (gI h 31 2)]) (rest := []) rfl rfl (Nat.le_of_ble_eq_true rfl) (sO2 SH hh) u1 (st' := [.int o1.1]) rfl) ?_
  clear SH; have SH := SH2; clear SH2
  refine And.imp_left (rs_istore_n i_X2_advance_67 (Nat.le_of_ble_eq_true rfl) (lv' := [some (.ref 31), some (.int o1.1)]) rfl) ?_
  refine And.imp_left (rs_iload_n i_X2_advance_68 rfl) ?_
  refine And.imp_left (rs_iconst i_X2_advance_69 (v := (-1)) (by decide)) ?_
  by_cases c2 : o1.1 ≠ (-1)
  · replace hf := (if_pos c2).symm.trans hf
    refine And.imp_left (rs_icT i_X2_advance_70 (ct_ne c2) (tg := 81) (by decide)) ?_
    refine And.imp_left (rs_iload_n i_X2_advance_81 rfl) ?_
    obtain ⟨o3, e3, hf⟩ := bind_some hf
    obtain ⟨u3, SH2⟩ := k_X2_isLetter (X := X) (d := d) (by omega) (by omega) SH e3
    refine And.imp_left (rs_inS i_X2_advance_82 (by decide) m_X2_isLetter rfl (As := [.int o1.1]) (rest := []) rfl rfl (Nat.le_of_ble_eq_true rfl) u3 (st' := [.int o3.1]) rfl) ?_
    clear SH; have SH := SH2; clear SH2
    by_cases c4 : o3.1 = 0
    · replace hf := (if_pos c4).symm.trans hf
      refine And.imp_left (rs_ifT i_X2_advance_85 (ct_eq c4) (tg := 95) (by decide)) ?_
      refine And.imp_left (rs_iload_n i_X2_advance_95 rfl) ?_
      obtain ⟨o5, e5, hf⟩ := bind_some hf
      obtain ⟨u5, SH2⟩ := k_X2_isDigit (X := X) (d := d) (by omega) (by omega) SH e5
      refine And.imp_left (rs_inS i_X2_advance_96 (by decide) m_X2_isDigit rfl (As := [.int o1.1]) (rest := []) rfl rfl (Nat.le_of_ble_eq_true rfl) u5 (st' := [.int o5.1]) rfl) ?_
      clear SH; have SH := SH2; clear SH2
      by_cases c6 : o5.1 = 0
      · replace hf := (if_pos c6).symm.trans hf
        refine And.imp_left (rs_ifT i_X2_advance_99 (ct_eq c6) (tg := 109) (by decide)) ?_
        refine And.imp_left (rs_aload_n i_X2_advance_109 rfl) ?_
        refine And.imp_left (rs_dup i_X2_advance_110 rfl) ?_
        refine And.imp_left (rs_getI i_X2_advance_111 (by decide) (by decide) (sO2 SH hh)) ?_
        refine And.imp_left (rs_iconst i_X2_advance_114 (v := 1) (by decide)) ?_
        refine And.imp_left (rs_iadd i_X2_advance_115) ?_
        refine And.imp_left (rs_putI i_X2_advance_116 (by decide) (sO2 SH hh)) ?_
        have SH := shi SH 31 2 ((gI o5.2 31 2) + 1)
        exact q_X2_advance_119 hd hh SH hf
      · replace hf := (if_neg c6).symm.trans hf
        refine And.imp_left (rs_ifF i_X2_advance_99 (cf_eq c6)) ?_
        refine And.imp_left (rs_aload_n i_X2_advance_102 rfl) ?_
        obtain ⟨o7, e7, hf⟩ := bind_some hf
        obtain ⟨u7, SH2⟩ := k_X2_readNumber (X := X) (d := d) (by omega) (by omega) SH e7
        refine And.imp_left (rs_inV i_X2_advance_103 m_X2_readNumber rfl (As := []) (rest := []) rfl rfl (Nat.le_of_ble_eq_true rfl) (sO2 SH hh) u7 (st' := []) rfl) ?_
        clear SH; have SH := SH2; clear SH2
        refine And.imp_left (rs_goto i_X2_advance_106 (tg := 138) (by decide)) ?_
        have hf := Option.some.inj hf
        subst hf
        exact ⟨rs_vret i_X2_advance_138 m_X2_advance rfl, SH⟩
    · replace hf := (if_neg c4).symm.trans hf
      refine And.imp_left (rs_ifF i_X2_advance_85 (cf_eq c4)) ?_
      refine And.imp_left (rs_aload_n i_X2_advance_88 rfl) ?_
      obtain ⟨o8, e8, hf⟩ := bind_some hf
      obtain ⟨u8, SH2⟩ := k_X2_readWord (X := X) (d := d) (by omega) (by omega) SH e8
      refine And.imp_left (rs_inV i_X2_advance_89 m_X2_readWord rfl (As := []) (rest := []) rfl rfl (Nat.le_of_ble_eq_true rfl) (sO2 SH hh) u8 (st' := []) rfl) ?_
      clear SH; have SH := SH2; clear SH2
      refine And.imp_left (rs_goto i_X2_advance_92 (tg := 138) (by decide)) ?_
      have hf := Option.some.inj hf
      subst hf
      exact ⟨rs_vret i_X2_advance_138 m_X2_advance rfl, SH⟩
  · replace hf := (if_neg c2).symm.trans hf
    refine And.imp_left (rs_icF i_X2_advance_70 (cf_ne c2)) ?_
    refine And.imp_left (rs_aload_n i_X2_advance_73 rfl) ?_
    refine And.imp_left (rs_iconst i_X2_advance_74 (v := 0) (by decide)) ?_
    refine And.imp_left (rs_putI i_X2_advance_75 (by decide) (sO2 SH hh)) ?_
    have SH := shi SH 31 3 0
    refine And.imp_left (rs_goto i_X2_advance_78 (tg := 138) (by decide)) ?_
    have hf := Option.some.inj hf
    subst hf
    exact ⟨rs_vret i_X2_advance_138 m_X2_advance rfl, SH⟩
noncomputable def g_X2_advance_51 (n : Nat)  (h : Hp) : Option Hp :=
  g_X2_advance_59 n (hsi h 31 4 (gI h 31 2))
set_option maxRecDepth 100000 in
set_option maxHeartbeats 4000000 in
theorem q_X2_advance_51 {X : Nat → Int32} {d : Nat} (hd : 6 ≤ (d + 1)) {L hi : Nat} (hh : 96 ≤ hi) {n : Nat} {d1 : Int32} {h : Hp} {o : Hp}  (SH : SHP L hi h) (hf : g_X2_advance_51 n h = some o) : Run X (d + 1) 20 51 [some (.ref 31), some (.int d1)] [] h (none, o) ∧ SHP L hi o := by
  unfold g_X2_advance_51 at hf
  refine And.imp_left (rs_aload_n i_X2_advance_51 rfl) ?_
  refine And.imp_left (rs_aload_n i_X2_advance_52 rfl) ?_
  refine And.imp_left (rs_getI i_X2_advance_53 (by decide) (by decide) (sO2 SH hh)) ?_
  refine And.imp_left (rs_putI i_X2_advance_56 (by decide) (sO2 SH hh)) ?_
  have SH := shi SH 31 4 (gI h 31 2)
  exact q_X2_advance_59 hd hh SH hf
noncomputable def g_X2_advance_35 (n : Nat) (K2 : Int32 → Hp → Option Hp) (v1 : Int32) (h : Hp) : Option Hp :=
  K2 (v1 + 1) (hsi h 31 2 ((gI h 31 2) + 1))
set_option maxRecDepth 100000 in
set_option maxHeartbeats 4000000 in
theorem q_X2_advance_35 {X : Nat → Int32} {d : Nat} (hd : 6 ≤ (d + 1)) {L hi : Nat} (hh : 96 ≤ hi) {n : Nat} {K2 : Int32 → Hp → Option Hp} (HK2 : ∀ (v1 : Int32) (h : Hp) (o : Hp), SHP L hi h → K2 v1 h = some o → Run X (d + 1) 20 2 [some (.ref 31), some (.int v1)] [] h (none, o) ∧ SHP L hi o) {v1 : Int32} {h : Hp} {o : Hp}  (SH : SHP L hi h) (hf : g_X2_advance_35 n K2 v1 h = some o) : Run X (d + 1) 20 35 [some (.ref 31), some (.int v1)] [] h (none, o) ∧ SHP L hi o := by
  unfold g_X2_advance_35 at hf
  refine And.imp_left (rs_aload_n i_X2_advance_35 rfl) ?_
  refine And.imp_left (rs_dup i_X2_advance_36 rfl) ?_
  refine And.imp_left (rs_getI i_X2_advance_37 (by decide) (by decide) (sO2 SH hh)) ?_
  refine And.imp_left (rs_iconst i_X2_advance_40 (v := 1) (by decide)) ?_
  refine And.imp_left (rs_iadd i_X2_advance_41) ?_
  refine And.imp_left (rs_putI i_X2_advance_42 (by decide) (sO2 SH hh)) ?_
  have SH := shi SH 31 2 ((gI h 31 2) + 1)
  refine And.imp_left (rs_iinc i_X2_advance_45 rfl (v := v1 + 1) rfl (Nat.le_of_ble_eq_true rfl) (lv' := [some (.ref 31), some (.int (v1 + 1))]) rfl) ?_
  refine And.imp_left (rs_goto i_X2_advance_48 (tg := 2) (by decide)) ?_
  exact HK2 _ _ _ SH hf
noncomputable def g_X2_advance_2 (n : Nat) : Nat → Int32 → Hp → Option Hp
  | 0, _, _ => none
  | m + 1, v1, h =>
    if 160 ≤ v1 then
      g_X2_advance_51 n h
    else
      (g_X2_byteAt (gI h 31 2) h).bind fun o2 =>
      if o2.1 = 32 then
        g_X2_advance_35 n (g_X2_advance_2 n m) v1 o2.2
      else
        (g_X2_byteAt (gI o2.2 31 2) o2.2).bind fun o4 =>
        if o4.1 ≠ 10 then
          g_X2_advance_51 n o4.2
        else
          g_X2_advance_35 n (g_X2_advance_2 n m) v1 o4.2
set_option maxRecDepth 100000 in
set_option maxHeartbeats 4000000 in
theorem q_X2_advance_2 {X : Nat → Int32} {d : Nat} (hd : 6 ≤ (d + 1)) {L hi : Nat} (hh : 96 ≤ hi) {n : Nat} : ∀ (m : Nat) (v1 : Int32) (h : Hp) (o : Hp), SHP L hi h → g_X2_advance_2 n m v1 h = some o → Run X (d + 1) 20 2 [some (.ref 31), some (.int v1)] [] h (none, o) ∧ SHP L hi o := by
  intro m
  induction m with
  | zero => intro v1 h o SH hf; cases hf
  | succ m ih =>
    intro v1 h o SH hf
    rw [g_X2_advance_2] at hf
    refine And.imp_left (rs_iload_n i_X2_advance_2 rfl) ?_
    refine And.imp_left (rs_sipush i_X2_advance_3 (v := 160) (by decide)) ?_
    by_cases c1 : 160 ≤ v1
    · replace hf := (if_pos c1).symm.trans hf
      refine And.imp_left (rs_icT i_X2_advance_6 (ct_ge c1) (tg := 51) (by decide)) ?_
      exact q_X2_advance_51 hd hh SH hf
    · replace hf := (if_neg c1).symm.trans hf
      refine And.imp_left (rs_icF i_X2_advance_6 (cf_ge c1)) ?_
      refine And.imp_left (rs_aload_n i_X2_advance_9 rfl) ?_
      refine And.imp_left (rs_aload_n i_X2_advance_10 rfl) ?_
      refine And.imp_left (rs_getI i_X2_advance_11 (by decide) (by decide) (sO2 SH hh)) ?_
      obtain ⟨o2, e2, hf⟩ := bind_some hf
      obtain ⟨u2, SH2⟩ := k_X2_byteAt (X := X) (d := d) (by omega) (by omega) SH e2
      refine And.imp_left (rs_inV i_X2_advance_14 m_X2_byteAt rfl (As := [.int (gI h 31 2)]) (rest := []) rfl rfl (Nat.le_of_ble_eq_true rfl) (sO2 SH hh) u2 (st' := [.int o2.1]) rfl) ?_
      clear SH; have SH := SH2; clear SH2
      refine And.imp_left (rs_bipush i_X2_advance_17 (v := 32) (by decide)) ?_
      by_cases c3 : o2.1 = 32
      · replace hf := (if_pos c3).symm.trans hf
        refine And.imp_left (rs_icT i_X2_advance_19 (ct_eq c3) (tg := 35) (by decide)) ?_
        exact q_X2_advance_35 hd hh ih SH hf
      · replace hf := (if_neg c3).symm.trans hf
        refine And.imp_left (rs_icF i_X2_advance_19 (cf_eq c3)) ?_
        refine And.imp_left (rs_aload_n i_X2_advance_22 rfl) ?_
        refine And.imp_left (rs_aload_n i_X2_advance_23 rfl) ?_
        refine And.imp_left (rs_getI i_X2_advance_24 (by decide) (by decide) (sO2 SH hh)) ?_
        obtain ⟨o4, e4, hf⟩ := bind_some hf
        obtain ⟨u4, SH2⟩ := k_X2_byteAt (X := X) (d := d) (by omega) (by omega) SH e4
        refine And.imp_left (rs_inV i_X2_advance_27 m_X2_byteAt rfl (As := [.int (gI o2.2 31 2)]) (rest := []) rfl rfl (Nat.le_of_ble_eq_true rfl) (sO2 SH hh) u4 (st' := [.int o4.1]) rfl) ?_
        clear SH; have SH := SH2; clear SH2
        refine And.imp_left (rs_bipush i_X2_advance_30 (v := 10) (by decide)) ?_
        by_cases c5 : o4.1 ≠ 10
        · replace hf := (if_pos c5).symm.trans hf
          refine And.imp_left (rs_icT i_X2_advance_32 (ct_ne c5) (tg := 51) (by decide)) ?_
          exact q_X2_advance_51 hd hh SH hf
        · replace hf := (if_neg c5).symm.trans hf
          refine And.imp_left (rs_icF i_X2_advance_32 (cf_ne c5)) ?_
          exact q_X2_advance_35 hd hh ih SH hf
noncomputable def g_X2_advance_0 (n : Nat)  (h : Hp) : Option Hp :=
  g_X2_advance_2 n n 0 h
set_option maxRecDepth 100000 in
set_option maxHeartbeats 4000000 in
theorem q_X2_advance_0 {X : Nat → Int32} {d : Nat} (hd : 6 ≤ (d + 1)) {L hi : Nat} (hh : 96 ≤ hi) {n : Nat}  {h : Hp} {o : Hp}  (SH : SHP L hi h) (hf : g_X2_advance_0 n h = some o) : Run X (d + 1) 20 0 [some (.ref 31), none] [] h (none, o) ∧ SHP L hi o := by
  unfold g_X2_advance_0 at hf
  refine And.imp_left (rs_iconst i_X2_advance_0 (v := 0) (by decide)) ?_
  refine And.imp_left (rs_istore_n i_X2_advance_1 (Nat.le_of_ble_eq_true rfl) (lv' := [some (.ref 31), some (.int 0)]) rfl) ?_
  exact q_X2_advance_2 hd hh _ _ _ _ SH hf
noncomputable def g_X2_advance (n : Nat)  (h : Hp) : Option Hp := g_X2_advance_0 n h
theorem k_X2_advance {X : Nat → Int32} {d : Nat} (hd : 6 ≤ d) {L hi : Nat} (hh : 96 ≤ hi) {n : Nat}  {h : Hp} {o : Hp}  (SH : SHP L hi h) (hf : g_X2_advance n h = some o) : Calls X d 20 [.ref 31] h (none, o) ∧ SHP L hi o := by
  obtain ⟨d, rfl⟩ : ∃ z, d = z + 1 := ⟨d - 1, by omega⟩
  obtain ⟨r, S2⟩ := q_X2_advance_0 hd hh SH hf
  exact ⟨⟨_, rfl, r⟩, S2⟩
noncomputable def g_X6_add_20 (v0 : Nat) (h : Hp) : Option Hp :=
  some (hsi h v0 3 ((gI h v0 3) + 1))
set_option maxRecDepth 100000 in
set_option maxHeartbeats 4000000 in
theorem q_X6_add_20 {X : Nat → Int32} {d : Nat} (hd : 0 ≤ d) {L hi : Nat} (hh : 96 ≤ hi) {v0 : Nat} {d1 : Int32} {h : Hp} {o : Hp} (hv0 : OB6 v0) (SH : SHP L hi h) (hf : g_X6_add_20 v0 h = some o) : Run X d 61 20 [some (.ref v0), some (.int d1)] [] h (none, o) ∧ SHP L hi o := by
  unfold g_X6_add_20 at hf
  refine And.imp_left (rs_aload_n i_X6_add_20 rfl) ?_
  refine And.imp_left (rs_dup i_X6_add_21 rfl) ?_
  refine And.imp_left (rs_getI i_X6_add_22 (by decide) (by decide) (sO6 SH hh hv0)) ?_
  refine And.imp_left (rs_iconst i_X6_add_25 (v := 1) (by decide)) ?_
  refine And.imp_left (rs_iadd i_X6_add_26) ?_
  refine And.imp_left (rs_putI i_X6_add_27 (by decide) (sO6 SH hh hv0)) ?_
  have SH := shi SH v0 3 ((gI h v0 3) + 1)
  have hf := Option.some.inj hf
  subst hf
  exact ⟨rs_vret i_X6_add_30 m_X6_add rfl, SH⟩
noncomputable def g_X6_add_0 (v0 : Nat) (v1 : Int32) (h : Hp) : Option Hp :=
  if 160 ≤ (gI h v0 3) then
    some h
  else
    if inb (gI h v0 3) 160 = true then
    g_X6_add_20 v0 (hsi h (v0 + 1) (ix (gI h v0 3)) v1)
    else none
set_option maxRecDepth 100000 in
set_option maxHeartbeats 4000000 in
theorem q_X6_add_0 {X : Nat → Int32} {d : Nat} (hd : 0 ≤ d) {L hi : Nat} (hh : 96 ≤ hi) {v0 : Nat} {v1 : Int32} {h : Hp} {o : Hp} (hv0 : OB6 v0) (SH : SHP L hi h) (hf : g_X6_add_0 v0 v1 h = some o) : Run X d 61 0 [some (.ref v0), some (.int v1)] [] h (none, o) ∧ SHP L hi o := by
  unfold g_X6_add_0 at hf
  refine And.imp_left (rs_aload_n i_X6_add_0 rfl) ?_
  refine And.imp_left (rs_getI i_X6_add_1 (by decide) (by decide) (sO6 SH hh hv0)) ?_
  refine And.imp_left (rs_sipush i_X6_add_4 (v := 160) (by decide)) ?_
  by_cases c1 : 160 ≤ (gI h v0 3)
  · replace hf := (if_pos c1).symm.trans hf
    refine And.imp_left (rs_icT i_X6_add_7 (ct_ge c1) (tg := 30) (by decide)) ?_
    have hf := Option.some.inj hf
    subst hf
    exact ⟨rs_vret i_X6_add_30 m_X6_add rfl, SH⟩
  · replace hf := (if_neg c1).symm.trans hf
    refine And.imp_left (rs_icF i_X6_add_7 (cf_ge c1)) ?_
    refine And.imp_left (rs_aload_n i_X6_add_10 rfl) ?_
    refine And.imp_left (rs_getR i_X6_add_11 (by decide) (by decide) (sO6 SH hh hv0) (sR6_0 SH hh hv0)) ?_
    refine And.imp_left (rs_aload_n i_X6_add_14 rfl) ?_
    refine And.imp_left (rs_getI i_X6_add_15 (by decide) (by decide) (sO6 SH hh hv0)) ?_
    refine And.imp_left (rs_iload_n i_X6_add_18 rfl) ?_
    obtain ⟨c2, hf⟩ := ite_some hf
    refine And.imp_left (rs_iast i_X6_add_19 (mkI (sA SH hh (k := 9) (n := 160) (aR6_0 hv0)) c2)) ?_
    have SH := shi SH (v0 + 1) (ix (gI h v0 3)) v1
    exact q_X6_add_20 hd hh hv0 SH hf
noncomputable def g_X6_add (v0 : Nat) (v1 : Int32) (h : Hp) : Option Hp := g_X6_add_0 v0 v1 h
theorem k_X6_add {X : Nat → Int32} {d : Nat} (hd : 0 ≤ d) {L hi : Nat} (hh : 96 ≤ hi) {v0 : Nat} {v1 : Int32} {h : Hp} {o : Hp} (hv0 : OB6 v0) (SH : SHP L hi h) (hf : g_X6_add v0 v1 h = some o) : Calls X d 61 [.ref v0, .int v1] h (none, o) ∧ SHP L hi o := by
  obtain ⟨r, S2⟩ := q_X6_add_0 hd hh hv0 SH hf
  exact ⟨⟨_, rfl, r⟩, S2⟩
noncomputable def g_X6_nameCode_0 (v0 : Int32) (h : Hp) : Option (Int32 × Hp) :=
  some (((-1) - v0), h)
set_option maxRecDepth 100000 in
set_option maxHeartbeats 4000000 in
theorem q_X6_nameCode_0 {X : Nat → Int32} {d : Nat} (hd : 0 ≤ d) {L hi : Nat} (hh : 96 ≤ hi) {v0 : Int32} {h : Hp} {o : (Int32 × Hp)}  (SH : SHP L hi h) (hf : g_X6_nameCode_0 v0 h = some o) : Run X d 60 0 [some (.int v0)] [] h (some (.int o.1), o.2) ∧ SHP L hi o.2 := by
  unfold g_X6_nameCode_0 at hf
  refine And.imp_left (rs_iconst i_X6_nameCode_0 (v := (-1)) (by decide)) ?_
  refine And.imp_left (rs_iload_n i_X6_nameCode_1 rfl) ?_
  refine And.imp_left (rs_isub i_X6_nameCode_2) ?_
  have hf := Option.some.inj hf
  subst hf
  exact ⟨rs_iret i_X6_nameCode_3 m_X6_nameCode rfl, SH⟩
noncomputable def g_X6_nameCode (v0 : Int32) (h : Hp) : Option (Int32 × Hp) := g_X6_nameCode_0 v0 h
theorem k_X6_nameCode {X : Nat → Int32} {d : Nat} (hd : 0 ≤ d) {L hi : Nat} (hh : 96 ≤ hi) {v0 : Int32} {h : Hp} {o : (Int32 × Hp)}  (SH : SHP L hi h) (hf : g_X6_nameCode v0 h = some o) : Calls X d 60 [.int v0] h (some (.int o.1), o.2) ∧ SHP L hi o.2 := by
  obtain ⟨r, S2⟩ := q_X6_nameCode_0 hd hh SH hf
  exact ⟨⟨_, rfl, r⟩, S2⟩
noncomputable def g_X2_readOne_87 (n : Nat) (S : Nat → Nat → Int32 → Hp → Option (Int32 × Hp)) (v1 : Nat) (v2 : Int32) (s0 : Int32) (h : Hp) : Option (Int32 × Hp) :=
  (g_X2_advance n h).bind fun o1 =>
  if s0 = 0 then
    (S 13 v1 (v2 + 1) o1).bind fun o3 =>
    if o3.1 = 0 then
      some (0, o3.2)
    else
      if (gI o3.2 31 3) = 41 then
        (g_X2_advance n o3.2).bind fun o6 =>
        some (1, o6)
      else
        some (0, o3.2)
  else
    (S 19 v1 (v2 + 1) o1).bind fun o7 =>
    if o7.1 ≠ 0 then
      (g_X6_add v1 (-19) o7.2).bind fun o9 =>
      some (1, o9)
    else
      some (0, o7.2)
set_option maxRecDepth 100000 in
set_option maxHeartbeats 4000000 in
theorem q_X2_readOne_87 {X : Nat → Int32} {d : Nat} (hd : 7 ≤ (d + 1)) {L hi : Nat} (hh : 96 ≤ hi) {n : Nat} {S : Nat → Nat → Int32 → Hp → Option (Int32 × Hp)} (HS : ∀ (tg v1 : Nat) (v2 : Int32) (h : Hp) (o : Int32 × Hp), OB6 v1 → SHP L hi h → S tg v1 v2 h = some o → Calls X d tg [.ref 31, .ref v1, .int v2] h (some (.int o.1), o.2) ∧ SHP L hi o.2) {v1 : Nat} {v2 : Int32} {s0 : Int32} {h : Hp} {o : (Int32 × Hp)} (hv1 : OB6 v1) (SH : SHP L hi h) (hf : g_X2_readOne_87 n S v1 v2 s0 h = some o) : Run X (d + 1) 19 87 [some (.ref 31), some (.ref v1), some (.int v2), none] [.int s0] h (some (.int o.1), o.2) ∧ SHP L hi o.2 := by
  unfold g_X2_readOne_87 at hf
  refine And.imp_left (rs_istore_n i_X2_readOne_87 (Nat.le_of_ble_eq_true rfl) (lv' := [some (.ref 31), some (.ref v1), some (.int v2), some (.int s0)]) rfl) ?_
  refine And.imp_left (rs_aload_n i_X2_readOne_88 rfl) ?_
  obtain ⟨o1, e1, hf⟩ := bind_some hf
  obtain ⟨u1, SH2⟩ := k_X2_advance (X := X) (d := d) (by omega) (by omega) SH e1
  refine And.imp_left (rs_inV i_X2_readOne_89 m_X2_advance rfl (As := []) (rest := []) rfl rfl (Nat.le_of_ble_eq_true rfl) (sO2 SH hh) u1 (st' := []) rfl) ?_
  clear SH; have SH := SH2; clear SH2
  refine And.imp_left (rs_iload_n i_X2_readOne_92 rfl) ?_
  by_cases c2 : s0 = 0
  · replace hf := (if_pos c2).symm.trans hf
    refine And.imp_left (rs_ifT i_X2_readOne_93 (ct_eq c2) (tg := 117) (by decide)) ?_
    refine And.imp_left (rs_aload_n i_X2_readOne_117 rfl) ?_
    refine And.imp_left (rs_aload_n i_X2_readOne_118 rfl) ?_
    refine And.imp_left (rs_iload_n i_X2_readOne_119 rfl) ?_
    refine And.imp_left (rs_iconst i_X2_readOne_120 (v := 1) (by decide)) ?_
    refine And.imp_left (rs_iadd i_X2_readOne_121) ?_
    obtain ⟨o3, e3, hf⟩ := bind_some hf
    obtain ⟨u3, SH2⟩ := HS _ _ _ _ _ hv1 SH e3
    refine And.imp_left (rs_inV i_X2_readOne_122 m_X2_readEither rfl (As := [.ref v1, .int (v2 + 1)]) (rest := []) rfl rfl (Nat.le_of_ble_eq_true rfl) (sO2 SH hh) u3 (st' := [.int o3.1]) rfl) ?_
    clear SH; have SH := SH2; clear SH2
    by_cases c4 : o3.1 = 0
    · replace hf := (if_pos c4).symm.trans hf
      refine And.imp_left (rs_ifT i_X2_readOne_125 (ct_eq c4) (tg := 137) (by decide)) ?_
      refine And.imp_left (rs_iconst i_X2_readOne_137 (v := 0) (by decide)) ?_
      have hf := Option.some.inj hf
      subst hf
      exact ⟨rs_iret i_X2_readOne_138 m_X2_readOne (by decide), SH⟩
    · replace hf := (if_neg c4).symm.trans hf
      refine And.imp_left (rs_ifF i_X2_readOne_125 (cf_eq c4)) ?_
      refine And.imp_left (rs_aload_n i_X2_readOne_128 rfl) ?_
      refine And.imp_left (rs_getI i_X2_readOne_129 (by decide) (by decide) (sO2 SH hh)) ?_
      refine And.imp_left (rs_bipush i_X2_readOne_132 (v := 41) (by decide)) ?_
      by_cases c5 : (gI o3.2 31 3) = 41
      · replace hf := (if_pos c5).symm.trans hf
        refine And.imp_left (rs_icT i_X2_readOne_134 (ct_eq c5) (tg := 139) (by decide)) ?_
        refine And.imp_left (rs_aload_n i_X2_readOne_139 rfl) ?_
        obtain ⟨o6, e6, hf⟩ := bind_some hf
        obtain ⟨u6, SH2⟩ := k_X2_advance (X := X) (d := d) (by omega) (by omega) SH e6
        refine And.imp_left (rs_inV i_X2_readOne_140 m_X2_advance rfl (As := []) (rest := []) rfl rfl (Nat.le_of_ble_eq_true rfl) (sO2 SH hh) u6 (st' := []) rfl) ?_
        clear SH; have SH := SH2; clear SH2
        refine And.imp_left (rs_iconst i_X2_readOne_143 (v := 1) (by decide)) ?_
        have hf := Option.some.inj hf
        subst hf
        exact ⟨rs_iret i_X2_readOne_144 m_X2_readOne (by decide), SH⟩
      · replace hf := (if_neg c5).symm.trans hf
        refine And.imp_left (rs_icF i_X2_readOne_134 (cf_eq c5)) ?_
        refine And.imp_left (rs_iconst i_X2_readOne_137 (v := 0) (by decide)) ?_
        have hf := Option.some.inj hf
        subst hf
        exact ⟨rs_iret i_X2_readOne_138 m_X2_readOne (by decide), SH⟩
  · replace hf := (if_neg c2).symm.trans hf
    refine And.imp_left (rs_ifF i_X2_readOne_93 (cf_eq c2)) ?_
    refine And.imp_left (rs_aload_n i_X2_readOne_96 rfl) ?_
    refine And.imp_left (rs_aload_n i_X2_readOne_97 rfl) ?_
    refine And.imp_left (rs_iload_n i_X2_readOne_98 rfl) ?_
    refine And.imp_left (rs_iconst i_X2_readOne_99 (v := 1) (by decide)) ?_
    refine And.imp_left (rs_iadd i_X2_readOne_100) ?_
    obtain ⟨o7, e7, hf⟩ := bind_some hf
    obtain ⟨u7, SH2⟩ := HS _ _ _ _ _ hv1 SH e7
    refine And.imp_left (rs_inV i_X2_readOne_101 m_X2_readOne rfl (As := [.ref v1, .int (v2 + 1)]) (rest := []) rfl rfl (Nat.le_of_ble_eq_true rfl) (sO2 SH hh) u7 (st' := [.int o7.1]) rfl) ?_
    clear SH; have SH := SH2; clear SH2
    by_cases c8 : o7.1 ≠ 0
    · replace hf := (if_pos c8).symm.trans hf
      refine And.imp_left (rs_ifT i_X2_readOne_104 (ct_ne c8) (tg := 109) (by decide)) ?_
      refine And.imp_left (rs_aload_n i_X2_readOne_109 rfl) ?_
      refine And.imp_left (rs_bipush i_X2_readOne_110 (v := (-19)) (by decide)) ?_
      obtain ⟨o9, e9, hf⟩ := bind_some hf
      obtain ⟨u9, SH2⟩ := k_X6_add (X := X) (d := d) (by omega) (by omega) hv1 SH e9
      refine And.imp_left (rs_inV i_X2_readOne_112 m_X6_add rfl (As := [.int (-19)]) (rest := []) rfl rfl (Nat.le_of_ble_eq_true rfl) (sO6 SH hh hv1) u9 (st' := []) rfl) ?_
      clear SH; have SH := SH2; clear SH2
      refine And.imp_left (rs_iconst i_X2_readOne_115 (v := 1) (by decide)) ?_
      have hf := Option.some.inj hf
      subst hf
      exact ⟨rs_iret i_X2_readOne_116 m_X2_readOne (by decide), SH⟩
    · replace hf := (if_neg c8).symm.trans hf
      refine And.imp_left (rs_ifF i_X2_readOne_104 (cf_ne c8)) ?_
      refine And.imp_left (rs_iconst i_X2_readOne_107 (v := 0) (by decide)) ?_
      have hf := Option.some.inj hf
      subst hf
      exact ⟨rs_iret i_X2_readOne_108 m_X2_readOne (by decide), SH⟩
noncomputable def g_X2_readOne_66 (n : Nat) (S : Nat → Nat → Int32 → Hp → Option (Int32 × Hp)) (v1 : Nat) (v2 : Int32) (h : Hp) : Option (Int32 × Hp) :=
  if v2 < 5 then
    if (gI h 31 3) ≠ 45 then
      g_X2_readOne_87 n S v1 v2 0 h
    else
      g_X2_readOne_87 n S v1 v2 1 h
  else
    some (0, h)
set_option maxRecDepth 100000 in
set_option maxHeartbeats 4000000 in
theorem q_X2_readOne_66 {X : Nat → Int32} {d : Nat} (hd : 7 ≤ (d + 1)) {L hi : Nat} (hh : 96 ≤ hi) {n : Nat} {S : Nat → Nat → Int32 → Hp → Option (Int32 × Hp)} (HS : ∀ (tg v1 : Nat) (v2 : Int32) (h : Hp) (o : Int32 × Hp), OB6 v1 → SHP L hi h → S tg v1 v2 h = some o → Calls X d tg [.ref 31, .ref v1, .int v2] h (some (.int o.1), o.2) ∧ SHP L hi o.2) {v1 : Nat} {v2 : Int32} {h : Hp} {o : (Int32 × Hp)} (hv1 : OB6 v1) (SH : SHP L hi h) (hf : g_X2_readOne_66 n S v1 v2 h = some o) : Run X (d + 1) 19 66 [some (.ref 31), some (.ref v1), some (.int v2), none] [] h (some (.int o.1), o.2) ∧ SHP L hi o.2 := by
  unfold g_X2_readOne_66 at hf
  refine And.imp_left (rs_iload_n i_X2_readOne_66 rfl) ?_
  refine And.imp_left (rs_iconst i_X2_readOne_67 (v := 5) (by decide)) ?_
  by_cases c1 : v2 < 5
  · replace hf := (if_pos c1).symm.trans hf
    refine And.imp_left (rs_icT i_X2_readOne_68 (ct_lt c1) (tg := 73) (by decide)) ?_
    refine And.imp_left (rs_aload_n i_X2_readOne_73 rfl) ?_
    refine And.imp_left (rs_getI i_X2_readOne_74 (by decide) (by decide) (sO2 SH hh)) ?_
    refine And.imp_left (rs_bipush i_X2_readOne_77 (v := 45) (by decide)) ?_
    by_cases c2 : (gI h 31 3) ≠ 45
    · replace hf := (if_pos c2).symm.trans hf
      refine And.imp_left (rs_icT i_X2_readOne_79 (ct_ne c2) (tg := 86) (by decide)) ?_
      refine And.imp_left (rs_iconst i_X2_readOne_86 (v := 0) (by decide)) ?_
      exact q_X2_readOne_87 hd hh HS hv1 SH hf
    · replace hf := (if_neg c2).symm.trans hf
      refine And.imp_left (rs_icF i_X2_readOne_79 (cf_ne c2)) ?_
      refine And.imp_left (rs_iconst i_X2_readOne_82 (v := 1) (by decide)) ?_
      refine And.imp_left (rs_goto i_X2_readOne_83 (tg := 87) (by decide)) ?_
      exact q_X2_readOne_87 hd hh HS hv1 SH hf
  · replace hf := (if_neg c1).symm.trans hf
    refine And.imp_left (rs_icF i_X2_readOne_68 (cf_lt c1)) ?_
    refine And.imp_left (rs_iconst i_X2_readOne_71 (v := 0) (by decide)) ?_
    have hf := Option.some.inj hf
    subst hf
    exact ⟨rs_iret i_X2_readOne_72 m_X2_readOne (by decide), SH⟩
noncomputable def g_X2_readOne_39 (n : Nat) (S : Nat → Nat → Int32 → Hp → Option (Int32 × Hp)) (s0 : Nat) (s1 : Int32) (h : Hp) : Option (Int32 × Hp) :=
  (g_X6_add s0 s1 h).bind fun o1 =>
  (g_X2_advance n o1).bind fun o2 =>
  some (1, o2)
set_option maxRecDepth 100000 in
set_option maxHeartbeats 4000000 in
theorem q_X2_readOne_39 {X : Nat → Int32} {d : Nat} (hd : 7 ≤ (d + 1)) {L hi : Nat} (hh : 96 ≤ hi) {n : Nat} {S : Nat → Nat → Int32 → Hp → Option (Int32 × Hp)} (HS : ∀ (tg v1 : Nat) (v2 : Int32) (h : Hp) (o : Int32 × Hp), OB6 v1 → SHP L hi h → S tg v1 v2 h = some o → Calls X d tg [.ref 31, .ref v1, .int v2] h (some (.int o.1), o.2) ∧ SHP L hi o.2) {s0 : Nat} {s1 : Int32} {d1 : Nat} {d2 : Int32} {h : Hp} {o : (Int32 × Hp)} (hs0 : OB6 s0) (SH : SHP L hi h) (hf : g_X2_readOne_39 n S s0 s1 h = some o) : Run X (d + 1) 19 39 [some (.ref 31), some (.ref d1), some (.int d2), none] [.int s1, .ref s0] h (some (.int o.1), o.2) ∧ SHP L hi o.2 := by
  unfold g_X2_readOne_39 at hf
  obtain ⟨o1, e1, hf⟩ := bind_some hf
  obtain ⟨u1, SH2⟩ := k_X6_add (X := X) (d := d) (by omega) (by omega) hs0 SH e1
  refine And.imp_left (rs_inV i_X2_readOne_39 m_X6_add rfl (As := [.int s1]) (rest := []) rfl rfl (Nat.le_of_ble_eq_true rfl) (sO6 SH hh hs0) u1 (st' := []) rfl) ?_
  clear SH; have SH := SH2; clear SH2
  refine And.imp_left (rs_aload_n i_X2_readOne_42 rfl) ?_
  obtain ⟨o2, e2, hf⟩ := bind_some hf
  obtain ⟨u2, SH2⟩ := k_X2_advance (X := X) (d := d) (by omega) (by omega) SH e2
  refine And.imp_left (rs_inV i_X2_readOne_43 m_X2_advance rfl (As := []) (rest := []) rfl rfl (Nat.le_of_ble_eq_true rfl) (sO2 SH hh) u2 (st' := []) rfl) ?_
  clear SH; have SH := SH2; clear SH2
  refine And.imp_left (rs_iconst i_X2_readOne_46 (v := 1) (by decide)) ?_
  have hf := Option.some.inj hf
  subst hf
  exact ⟨rs_iret i_X2_readOne_47 m_X2_readOne (by decide), SH⟩
noncomputable def g_X2_readOne_16 (n : Nat) (S : Nat → Nat → Int32 → Hp → Option (Int32 × Hp)) (v1 : Nat) (h : Hp) : Option (Int32 × Hp) :=
  if (gI h 31 3) ≠ 2 then
    (g_X6_nameCode (gI h 31 5) h).bind fun o2 =>
    g_X2_readOne_39 n S v1 o2.1 o2.2
  else
    g_X2_readOne_39 n S v1 (gI h 31 5) h
set_option maxRecDepth 100000 in
set_option maxHeartbeats 4000000 in
theorem q_X2_readOne_16 {X : Nat → Int32} {d : Nat} (hd : 7 ≤ (d + 1)) {L hi : Nat} (hh : 96 ≤ hi) {n : Nat} {S : Nat → Nat → Int32 → Hp → Option (Int32 × Hp)} (HS : ∀ (tg v1 : Nat) (v2 : Int32) (h : Hp) (o : Int32 × Hp), OB6 v1 → SHP L hi h → S tg v1 v2 h = some o → Calls X d tg [.ref 31, .ref v1, .int v2] h (some (.int o.1), o.2) ∧ SHP L hi o.2) {v1 : Nat} {d2 : Int32} {h : Hp} {o : (Int32 × Hp)} (hv1 : OB6 v1) (SH : SHP L hi h) (hf : g_X2_readOne_16 n S v1 h = some o) : Run X (d + 1) 19 16 [some (.ref 31), some (.ref v1), some (.int d2), none] [] h (some (.int o.1), o.2) ∧ SHP L hi o.2 := by
  unfold g_X2_readOne_16 at hf
  refine And.imp_left (rs_aload_n i_X2_readOne_16 rfl) ?_
  refine And.imp_left (rs_aload_n i_X2_readOne_17 rfl) ?_
  refine And.imp_left (rs_getI i_X2_readOne_18 (by decide) (by decide) (sO2 SH hh)) ?_
  refine And.imp_left (rs_iconst i_X2_readOne_21 (v := 2) (by decide)) ?_
  by_cases c1 : (gI h 31 3) ≠ 2
  · replace hf := (if_pos c1).symm.trans hf
    refine And.imp_left (rs_icT i_X2_readOne_22 (ct_ne c1) (tg := 32) (by decide)) ?_
    refine And.imp_left (rs_aload_n i_X2_readOne_32 rfl) ?_
    refine And.imp_left (rs_getI i_X2_readOne_33 (by decide) (by decide) (sO2 SH hh)) ?_
    obtain ⟨o2, e2, hf⟩ := bind_some hf
    obtain ⟨u2, SH2⟩ := k_X6_nameCode (X := X) (d := d) (by omega) (by omega) SH e2
    refine And.imp_left (rs_inS i_X2_readOne_36 (by decide) m_X6_nameCode rfl (As := [.int (gI h 31 5)]) (rest := [.ref v1]) rfl rfl (Nat.le_of_ble_eq_true rfl) u2 (st' := [.int o2.1, .ref v1]) rfl) ?_
    clear SH; have SH := SH2; clear SH2
    exact q_X2_readOne_39 hd hh HS hv1 SH hf
  · replace hf := (if_neg c1).symm.trans hf
    refine And.imp_left (rs_icF i_X2_readOne_22 (cf_ne c1)) ?_
    refine And.imp_left (rs_aload_n i_X2_readOne_25 rfl) ?_
    refine And.imp_left (rs_getI i_X2_readOne_26 (by decide) (by decide) (sO2 SH hh)) ?_
    refine And.imp_left (rs_goto i_X2_readOne_29 (tg := 39) (by decide)) ?_
    exact q_X2_readOne_39 hd hh HS hv1 SH hf
noncomputable def g_X2_readOne_0 (n : Nat) (S : Nat → Nat → Int32 → Hp → Option (Int32 × Hp)) (v1 : Nat) (v2 : Int32) (h : Hp) : Option (Int32 × Hp) :=
  if (gI h 31 3) = 2 then
    g_X2_readOne_16 n S v1 h
  else
    if (gI h 31 3) ≠ 3 then
      if (gI h 31 3) = 45 then
        g_X2_readOne_66 n S v1 v2 h
      else
        if (gI h 31 3) ≠ 40 then
          some (0, h)
        else
          g_X2_readOne_66 n S v1 v2 h
    else
      g_X2_readOne_16 n S v1 h
set_option maxRecDepth 100000 in
set_option maxHeartbeats 4000000 in
theorem q_X2_readOne_0 {X : Nat → Int32} {d : Nat} (hd : 7 ≤ (d + 1)) {L hi : Nat} (hh : 96 ≤ hi) {n : Nat} {S : Nat → Nat → Int32 → Hp → Option (Int32 × Hp)} (HS : ∀ (tg v1 : Nat) (v2 : Int32) (h : Hp) (o : Int32 × Hp), OB6 v1 → SHP L hi h → S tg v1 v2 h = some o → Calls X d tg [.ref 31, .ref v1, .int v2] h (some (.int o.1), o.2) ∧ SHP L hi o.2) {v1 : Nat} {v2 : Int32} {h : Hp} {o : (Int32 × Hp)} (hv1 : OB6 v1) (SH : SHP L hi h) (hf : g_X2_readOne_0 n S v1 v2 h = some o) : Run X (d + 1) 19 0 [some (.ref 31), some (.ref v1), some (.int v2), none] [] h (some (.int o.1), o.2) ∧ SHP L hi o.2 := by
  unfold g_X2_readOne_0 at hf
  refine And.imp_left (rs_aload_n i_X2_readOne_0 rfl) ?_
  refine And.imp_left (rs_getI i_X2_readOne_1 (by decide) (by decide) (sO2 SH hh)) ?_
  refine And.imp_left (rs_iconst i_X2_readOne_4 (v := 2) (by decide)) ?_
  by_cases c1 : (gI h 31 3) = 2
  · replace hf := (if_pos c1).symm.trans hf
    refine And.imp_left (rs_icT i_X2_readOne_5 (ct_eq c1) (tg := 16) (by decide)) ?_
    exact q_X2_readOne_16 hd hh HS hv1 SH hf
  · replace hf := (if_neg c1).symm.trans hf
    refine And.imp_left (rs_icF i_X2_readOne_5 (cf_eq c1)) ?_
    refine And.imp_left (rs_aload_n i_X2_readOne_8 rfl) ?_
    refine And.imp_left (rs_getI i_X2_readOne_9 (by decide) (by decide) (sO2 SH hh)) ?_
    refine And.imp_left (rs_iconst i_X2_readOne_12 (v := 3) (by decide)) ?_
    by_cases c2 : (gI h 31 3) ≠ 3
    · replace hf := (if_pos c2).symm.trans hf
      refine And.imp_left (rs_icT i_X2_readOne_13 (ct_ne c2) (tg := 48) (by decide)) ?_
      refine And.imp_left (rs_aload_n i_X2_readOne_48 rfl) ?_
      refine And.imp_left (rs_getI i_X2_readOne_49 (by decide) (by decide) (sO2 SH hh)) ?_
      refine And.imp_left (rs_bipush i_X2_readOne_52 (v := 45) (by decide)) ?_
      by_cases c3 : (gI h 31 3) = 45
      · replace hf := (if_pos c3).symm.trans hf
        refine And.imp_left (rs_icT i_X2_readOne_54 (ct_eq c3) (tg := 66) (by decide)) ?_
        exact q_X2_readOne_66 hd hh HS hv1 SH hf
      · replace hf := (if_neg c3).symm.trans hf
        refine And.imp_left (rs_icF i_X2_readOne_54 (cf_eq c3)) ?_
        refine And.imp_left (rs_aload_n i_X2_readOne_57 rfl) ?_
        refine And.imp_left (rs_getI i_X2_readOne_58 (by decide) (by decide) (sO2 SH hh)) ?_
        refine And.imp_left (rs_bipush i_X2_readOne_61 (v := 40) (by decide)) ?_
        by_cases c4 : (gI h 31 3) ≠ 40
        · replace hf := (if_pos c4).symm.trans hf
          refine And.imp_left (rs_icT i_X2_readOne_63 (ct_ne c4) (tg := 71) (by decide)) ?_
          refine And.imp_left (rs_iconst i_X2_readOne_71 (v := 0) (by decide)) ?_
          have hf := Option.some.inj hf
          subst hf
          exact ⟨rs_iret i_X2_readOne_72 m_X2_readOne (by decide), SH⟩
        · replace hf := (if_neg c4).symm.trans hf
          refine And.imp_left (rs_icF i_X2_readOne_63 (cf_ne c4)) ?_
          exact q_X2_readOne_66 hd hh HS hv1 SH hf
    · replace hf := (if_neg c2).symm.trans hf
      refine And.imp_left (rs_icF i_X2_readOne_13 (cf_ne c2)) ?_
      exact q_X2_readOne_16 hd hh HS hv1 SH hf
noncomputable def g_X2_readOne (n : Nat) (S : Nat → Nat → Int32 → Hp → Option (Int32 × Hp)) (v1 : Nat) (v2 : Int32) (h : Hp) : Option (Int32 × Hp) := g_X2_readOne_0 n S v1 v2 h
theorem k_X2_readOne {X : Nat → Int32} {d : Nat} (hd : 7 ≤ d) {L hi : Nat} (hh : 96 ≤ hi) {n : Nat} {S : Nat → Nat → Int32 → Hp → Option (Int32 × Hp)} (HS : ∀ (tg v1 : Nat) (v2 : Int32) (h : Hp) (o : Int32 × Hp), OB6 v1 → SHP L hi h → S tg v1 v2 h = some o → ∀ d', d = d' + 1 → Calls X d' tg [.ref 31, .ref v1, .int v2] h (some (.int o.1), o.2) ∧ SHP L hi o.2) {v1 : Nat} {v2 : Int32} {h : Hp} {o : (Int32 × Hp)} (hv1 : OB6 v1) (SH : SHP L hi h) (hf : g_X2_readOne n S v1 v2 h = some o) : Calls X d 19 [.ref 31, .ref v1, .int v2] h (some (.int o.1), o.2) ∧ SHP L hi o.2 := by
  obtain ⟨d, rfl⟩ : ∃ z, d = z + 1 := ⟨d - 1, by omega⟩
  obtain ⟨r, S2⟩ := q_X2_readOne_0 hd hh (fun tg v1 v2 h o h6 hS hf => HS tg v1 v2 h o h6 hS hf d rfl) hv1 SH hf
  exact ⟨⟨_, rfl, r⟩, S2⟩
noncomputable def g_X2_readProduct_13 (n : Nat) (S : Nat → Nat → Int32 → Hp → Option (Int32 × Hp)) : Nat → Nat → Int32 → Int32 → Hp → Option (Int32 × Hp)
  | 0, _, _, _, _ => none
  | m + 1, v1, v2, v3, h =>
    if 160 ≤ v3 then
      some (1, h)
    else
      if (gI h 31 3) ≠ 42 then
        some (1, h)
      else
        (g_X2_advance n h).bind fun o3 =>
        (S 19 v1 v2 o3).bind fun o4 =>
        if o4.1 ≠ 0 then
          (g_X6_add v1 (-18) o4.2).bind fun o6 =>
          (g_X2_readProduct_13 n S m) v1 v2 (v3 + 1) o6
        else
          some (0, o4.2)
set_option maxRecDepth 100000 in
set_option maxHeartbeats 4000000 in
theorem q_X2_readProduct_13 {X : Nat → Int32} {d : Nat} (hd : 7 ≤ (d + 1)) {L hi : Nat} (hh : 96 ≤ hi) {n : Nat} {S : Nat → Nat → Int32 → Hp → Option (Int32 × Hp)} (HS : ∀ (tg v1 : Nat) (v2 : Int32) (h : Hp) (o : Int32 × Hp), OB6 v1 → SHP L hi h → S tg v1 v2 h = some o → Calls X d tg [.ref 31, .ref v1, .int v2] h (some (.int o.1), o.2) ∧ SHP L hi o.2) : ∀ (m : Nat) (v1 : Nat) (v2 : Int32) (v3 : Int32) (hv1 : OB6 v1) (h : Hp) (o : (Int32 × Hp)), SHP L hi h → g_X2_readProduct_13 n S m v1 v2 v3 h = some o → Run X (d + 1) 18 13 [some (.ref 31), some (.ref v1), some (.int v2), some (.int v3)] [] h (some (.int o.1), o.2) ∧ SHP L hi o.2 := by
  intro m
  induction m with
  | zero => intro v1 v2 v3 hv1 h o SH hf; cases hf
  | succ m ih =>
    intro v1 v2 v3 hv1 h o SH hf
    rw [g_X2_readProduct_13] at hf
    refine And.imp_left (rs_iload_n i_X2_readProduct_13 rfl) ?_
    refine And.imp_left (rs_sipush i_X2_readProduct_14 (v := 160) (by decide)) ?_
    by_cases c1 : 160 ≤ v3
    · replace hf := (if_pos c1).symm.trans hf
      refine And.imp_left (rs_icT i_X2_readProduct_17 (ct_ge c1) (tg := 56) (by decide)) ?_
      refine And.imp_left (rs_iconst i_X2_readProduct_56 (v := 1) (by decide)) ?_
      have hf := Option.some.inj hf
      subst hf
      exact ⟨rs_iret i_X2_readProduct_57 m_X2_readProduct (by decide), SH⟩
    · replace hf := (if_neg c1).symm.trans hf
      refine And.imp_left (rs_icF i_X2_readProduct_17 (cf_ge c1)) ?_
      refine And.imp_left (rs_aload_n i_X2_readProduct_20 rfl) ?_
      refine And.imp_left (rs_getI i_X2_readProduct_21 (by decide) (by decide) (sO2 SH hh)) ?_
      refine And.imp_left (rs_bipush i_X2_readProduct_24 (v := 42) (by decide)) ?_
      by_cases c2 : (gI h 31 3) ≠ 42
      · replace hf := (if_pos c2).symm.trans hf
        refine And.imp_left (rs_icT i_X2_readProduct_26 (ct_ne c2) (tg := 56) (by decide)) ?_
        refine And.imp_left (rs_iconst i_X2_readProduct_56 (v := 1) (by decide)) ?_
        have hf := Option.some.inj hf
        subst hf
        exact ⟨rs_iret i_X2_readProduct_57 m_X2_readProduct (by decide), SH⟩
      · replace hf := (if_neg c2).symm.trans hf
        refine And.imp_left (rs_icF i_X2_readProduct_26 (cf_ne c2)) ?_
        refine And.imp_left (rs_aload_n i_X2_readProduct_29 rfl) ?_
        obtain ⟨o3, e3, hf⟩ := bind_some hf
        obtain ⟨u3, SH2⟩ := k_X2_advance (X := X) (d := d) (by omega) (by omega) SH e3
        refine And.imp_left (rs_inV i_X2_readProduct_30 m_X2_advance rfl (As := []) (rest := []) rfl rfl (Nat.le_of_ble_eq_true rfl) (sO2 SH hh) u3 (st' := []) rfl) ?_
        clear SH; have SH := SH2; clear SH2
        refine And.imp_left (rs_aload_n i_X2_readProduct_33 rfl) ?_
        refine And.imp_left (rs_aload_n i_X2_readProduct_34 rfl) ?_
        refine And.imp_left (rs_iload_n i_X2_readProduct_35 rfl) ?_
        obtain ⟨o4, e4, hf⟩ := bind_some hf
        obtain ⟨u4, SH2⟩ := HS _ _ _ _ _ hv1 SH e4
        refine And.imp_left (rs_inV i_X2_readProduct_36 m_X2_readOne rfl (As := [.ref v1, .int v2]) (rest := []) rfl rfl (Nat.le_of_ble_eq_true rfl) (sO2 SH hh) u4 (st' := [.int o4.1]) rfl) ?_
        clear SH; have SH := SH2; clear SH2
        by_cases c5 : o4.1 ≠ 0
        · replace hf := (if_pos c5).symm.trans hf
          refine And.imp_left (rs_ifT i_X2_readProduct_39 (ct_ne c5) (tg := 44) (by decide)) ?_
          refine And.imp_left (rs_aload_n i_X2_readProduct_44 rfl) ?_
          refine And.imp_left (rs_bipush i_X2_readProduct_45 (v := (-18)) (by decide)) ?_
          obtain ⟨o6, e6, hf⟩ := bind_some hf
          obtain ⟨u6, SH2⟩ := k_X6_add (X := X) (d := d) (by omega) (by omega) hv1 SH e6
          refine And.imp_left (rs_inV i_X2_readProduct_47 m_X6_add rfl (As := [.int (-18)]) (rest := []) rfl rfl (Nat.le_of_ble_eq_true rfl) (sO6 SH hh hv1) u6 (st' := []) rfl) ?_
          clear SH; have SH := SH2; clear SH2
          refine And.imp_left (rs_iinc i_X2_readProduct_50 rfl (v := v3 + 1) rfl (Nat.le_of_ble_eq_true rfl) (lv' := [some (.ref 31), some (.ref v1), some (.int v2), some (.int (v3 + 1))]) rfl) ?_
          refine And.imp_left (rs_goto i_X2_readProduct_53 (tg := 13) (by decide)) ?_
          exact ih _ _ _ hv1 _ _ SH hf
        · replace hf := (if_neg c5).symm.trans hf
          refine And.imp_left (rs_ifF i_X2_readProduct_39 (cf_ne c5)) ?_
          refine And.imp_left (rs_iconst i_X2_readProduct_42 (v := 0) (by decide)) ?_
          have hf := Option.some.inj hf
          subst hf
          exact ⟨rs_iret i_X2_readProduct_43 m_X2_readProduct (by decide), SH⟩
noncomputable def g_X2_readProduct_0 (n : Nat) (S : Nat → Nat → Int32 → Hp → Option (Int32 × Hp)) (v1 : Nat) (v2 : Int32) (h : Hp) : Option (Int32 × Hp) :=
  (S 19 v1 v2 h).bind fun o1 =>
  if o1.1 ≠ 0 then
    g_X2_readProduct_13 n S n v1 v2 0 o1.2
  else
    some (0, o1.2)
set_option maxRecDepth 100000 in
set_option maxHeartbeats 4000000 in
theorem q_X2_readProduct_0 {X : Nat → Int32} {d : Nat} (hd : 7 ≤ (d + 1)) {L hi : Nat} (hh : 96 ≤ hi) {n : Nat} {S : Nat → Nat → Int32 → Hp → Option (Int32 × Hp)} (HS : ∀ (tg v1 : Nat) (v2 : Int32) (h : Hp) (o : Int32 × Hp), OB6 v1 → SHP L hi h → S tg v1 v2 h = some o → Calls X d tg [.ref 31, .ref v1, .int v2] h (some (.int o.1), o.2) ∧ SHP L hi o.2) {v1 : Nat} {v2 : Int32} {h : Hp} {o : (Int32 × Hp)} (hv1 : OB6 v1) (SH : SHP L hi h) (hf : g_X2_readProduct_0 n S v1 v2 h = some o) : Run X (d + 1) 18 0 [some (.ref 31), some (.ref v1), some (.int v2), none] [] h (some (.int o.1), o.2) ∧ SHP L hi o.2 := by
  unfold g_X2_readProduct_0 at hf
  refine And.imp_left (rs_aload_n i_X2_readProduct_0 rfl) ?_
  refine And.imp_left (rs_aload_n i_X2_readProduct_1 rfl) ?_
  refine And.imp_left (rs_iload_n i_X2_readProduct_2 rfl) ?_
  obtain ⟨o1, e1, hf⟩ := bind_some hf
  obtain ⟨u1, SH2⟩ := HS _ _ _ _ _ hv1 SH e1
  refine And.imp_left (rs_inV i_X2_readProduct_3 m_X2_readOne rfl (As := [.ref v1, .int v2]) (rest := []) rfl rfl (Nat.le_of_ble_eq_true rfl) (sO2 SH hh) u1 (st' := [.int o1.1]) rfl) ?_
  clear SH; have SH := SH2; clear SH2
  by_cases c2 : o1.1 ≠ 0
  · replace hf := (if_pos c2).symm.trans hf
    refine And.imp_left (rs_ifT i_X2_readProduct_6 (ct_ne c2) (tg := 11) (by decide)) ?_
    refine And.imp_left (rs_iconst i_X2_readProduct_11 (v := 0) (by decide)) ?_
    refine And.imp_left (rs_istore_n i_X2_readProduct_12 (Nat.le_of_ble_eq_true rfl) (lv' := [some (.ref 31), some (.ref v1), some (.int v2), some (.int 0)]) rfl) ?_
    exact q_X2_readProduct_13 hd hh HS _ _ _ _ hv1 _ _ SH hf
  · replace hf := (if_neg c2).symm.trans hf
    refine And.imp_left (rs_ifF i_X2_readProduct_6 (cf_ne c2)) ?_
    refine And.imp_left (rs_iconst i_X2_readProduct_9 (v := 0) (by decide)) ?_
    have hf := Option.some.inj hf
    subst hf
    exact ⟨rs_iret i_X2_readProduct_10 m_X2_readProduct (by decide), SH⟩
noncomputable def g_X2_readProduct (n : Nat) (S : Nat → Nat → Int32 → Hp → Option (Int32 × Hp)) (v1 : Nat) (v2 : Int32) (h : Hp) : Option (Int32 × Hp) := g_X2_readProduct_0 n S v1 v2 h
theorem k_X2_readProduct {X : Nat → Int32} {d : Nat} (hd : 7 ≤ d) {L hi : Nat} (hh : 96 ≤ hi) {n : Nat} {S : Nat → Nat → Int32 → Hp → Option (Int32 × Hp)} (HS : ∀ (tg v1 : Nat) (v2 : Int32) (h : Hp) (o : Int32 × Hp), OB6 v1 → SHP L hi h → S tg v1 v2 h = some o → ∀ d', d = d' + 1 → Calls X d' tg [.ref 31, .ref v1, .int v2] h (some (.int o.1), o.2) ∧ SHP L hi o.2) {v1 : Nat} {v2 : Int32} {h : Hp} {o : (Int32 × Hp)} (hv1 : OB6 v1) (SH : SHP L hi h) (hf : g_X2_readProduct n S v1 v2 h = some o) : Calls X d 18 [.ref 31, .ref v1, .int v2] h (some (.int o.1), o.2) ∧ SHP L hi o.2 := by
  obtain ⟨d, rfl⟩ : ∃ z, d = z + 1 := ⟨d - 1, by omega⟩
  obtain ⟨r, S2⟩ := q_X2_readProduct_0 hd hh (fun tg v1 v2 h o h6 hS hf => HS tg v1 v2 h o h6 hS hf d rfl) hv1 SH hf
  exact ⟨⟨_, rfl, r⟩, S2⟩
noncomputable def g_X2_readSum_54 (n : Nat) (S : Nat → Nat → Int32 → Hp → Option (Int32 × Hp)) (K13 : Nat → Int32 → Int32 → Hp → Option (Int32 × Hp)) (v1 : Nat) (v2 : Int32) (v3 : Int32) (s0 : Int32) (h : Hp) : Option (Int32 × Hp) :=
  (g_X2_advance n h).bind fun o1 =>
  (S 18 v1 v2 o1).bind fun o2 =>
  if o2.1 ≠ 0 then
    (g_X6_add v1 s0 o2.2).bind fun o4 =>
    K13 v1 v2 (v3 + 1) o4
  else
    some (0, o2.2)
set_option maxRecDepth 100000 in
set_option maxHeartbeats 4000000 in
theorem q_X2_readSum_54 {X : Nat → Int32} {d : Nat} (hd : 7 ≤ (d + 1)) {L hi : Nat} (hh : 96 ≤ hi) {n : Nat} {S : Nat → Nat → Int32 → Hp → Option (Int32 × Hp)} (HS : ∀ (tg v1 : Nat) (v2 : Int32) (h : Hp) (o : Int32 × Hp), OB6 v1 → SHP L hi h → S tg v1 v2 h = some o → Calls X d tg [.ref 31, .ref v1, .int v2] h (some (.int o.1), o.2) ∧ SHP L hi o.2) {K13 : Nat → Int32 → Int32 → Hp → Option (Int32 × Hp)} (HK13 : ∀ (v1 : Nat) (v2 : Int32) (v3 : Int32) (w4 : Option Value) (hv1 : OB6 v1) (h : Hp) (o : (Int32 × Hp)), SHP L hi h → K13 v1 v2 v3 h = some o → Run X (d + 1) 17 13 [some (.ref 31), some (.ref v1), some (.int v2), some (.int v3), w4] [] h (some (.int o.1), o.2) ∧ SHP L hi o.2) {v1 : Nat} {v2 : Int32} {v3 : Int32} {s0 : Int32} {w4 : Option Value} {h : Hp} {o : (Int32 × Hp)} (hv1 : OB6 v1) (SH : SHP L hi h) (hf : g_X2_readSum_54 n S K13 v1 v2 v3 s0 h = some o) : Run X (d + 1) 17 54 [some (.ref 31), some (.ref v1), some (.int v2), some (.int v3), w4] [.int s0] h (some (.int o.1), o.2) ∧ SHP L hi o.2 := by
  unfold g_X2_readSum_54 at hf
  refine And.imp_left (rs_istore i_X2_readSum_54 (Nat.le_of_ble_eq_true rfl) (lv' := [some (.ref 31), some (.ref v1), some (.int v2), some (.int v3), some (.int s0)]) rfl) ?_
  refine And.imp_left (rs_aload_n i_X2_readSum_56 rfl) ?_
  obtain ⟨o1, e1, hf⟩ := bind_some hf
  obtain ⟨u1, SH2⟩ := k_X2_advance (X := X) (d := d) (by omega) (by omega) SH e1
  refine And.imp_left (rs_inV i_X2_readSum_57 m_X2_advance rfl (As := []) (rest := []) rfl rfl (Nat.le_of_ble_eq_true rfl) (sO2 SH hh) u1 (st' := []) rfl) ?_
  clear SH; have SH := SH2; clear SH2
  refine And.imp_left (rs_aload_n i_X2_readSum_60 rfl) ?_
  refine And.imp_left (rs_aload_n i_X2_readSum_61 rfl) ?_
  refine And.imp_left (rs_iload_n i_X2_readSum_62 rfl) ?_
  obtain ⟨o2, e2, hf⟩ := bind_some hf
  obtain ⟨u2, SH2⟩ := HS _ _ _ _ _ hv1 SH e2
  refine And.imp_left (rs_inV i_X2_readSum_63 m_X2_readProduct rfl (As := [.ref v1, .int v2]) (rest := []) rfl rfl (Nat.le_of_ble_eq_true rfl) (sO2 SH hh) u2 (st' := [.int o2.1]) rfl) ?_
  clear SH; have SH := SH2; clear SH2
  by_cases c3 : o2.1 ≠ 0
  · replace hf := (if_pos c3).symm.trans hf
    refine And.imp_left (rs_ifT i_X2_readSum_66 (ct_ne c3) (tg := 71) (by decide)) ?_
    refine And.imp_left (rs_aload_n i_X2_readSum_71 rfl) ?_
    refine And.imp_left (rs_iload i_X2_readSum_72 rfl) ?_
    obtain ⟨o4, e4, hf⟩ := bind_some hf
    obtain ⟨u4, SH2⟩ := k_X6_add (X := X) (d := d) (by omega) (by omega) hv1 SH e4
    refine And.imp_left (rs_inV i_X2_readSum_74 m_X6_add rfl (As := [.int s0]) (rest := []) rfl rfl (Nat.le_of_ble_eq_true rfl) (sO6 SH hh hv1) u4 (st' := []) rfl) ?_
    clear SH; have SH := SH2; clear SH2
    refine And.imp_left (rs_iinc i_X2_readSum_77 rfl (v := v3 + 1) rfl (Nat.le_of_ble_eq_true rfl) (lv' := [some (.ref 31), some (.ref v1), some (.int v2), some (.int (v3 + 1)), some (.int s0)]) rfl) ?_
    refine And.imp_left (rs_goto i_X2_readSum_80 (tg := 13) (by decide)) ?_
    exact HK13 _ _ _ _ hv1 _ _ SH hf
  · replace hf := (if_neg c3).symm.trans hf
    refine And.imp_left (rs_ifF i_X2_readSum_66 (cf_ne c3)) ?_
    refine And.imp_left (rs_iconst i_X2_readSum_69 (v := 0) (by decide)) ?_
    have hf := Option.some.inj hf
    subst hf
    exact ⟨rs_iret i_X2_readSum_70 m_X2_readSum (by decide), SH⟩
noncomputable def g_X2_readSum_38 (n : Nat) (S : Nat → Nat → Int32 → Hp → Option (Int32 × Hp)) (K13 : Nat → Int32 → Int32 → Hp → Option (Int32 × Hp)) (v1 : Nat) (v2 : Int32) (v3 : Int32) (h : Hp) : Option (Int32 × Hp) :=
  if (gI h 31 3) ≠ 43 then
    g_X2_readSum_54 n S K13 v1 v2 v3 (-17) h
  else
    g_X2_readSum_54 n S K13 v1 v2 v3 (-16) h
set_option maxRecDepth 100000 in
set_option maxHeartbeats 4000000 in
theorem q_X2_readSum_38 {X : Nat → Int32} {d : Nat} (hd : 7 ≤ (d + 1)) {L hi : Nat} (hh : 96 ≤ hi) {n : Nat} {S : Nat → Nat → Int32 → Hp → Option (Int32 × Hp)} (HS : ∀ (tg v1 : Nat) (v2 : Int32) (h : Hp) (o : Int32 × Hp), OB6 v1 → SHP L hi h → S tg v1 v2 h = some o → Calls X d tg [.ref 31, .ref v1, .int v2] h (some (.int o.1), o.2) ∧ SHP L hi o.2) {K13 : Nat → Int32 → Int32 → Hp → Option (Int32 × Hp)} (HK13 : ∀ (v1 : Nat) (v2 : Int32) (v3 : Int32) (w4 : Option Value) (hv1 : OB6 v1) (h : Hp) (o : (Int32 × Hp)), SHP L hi h → K13 v1 v2 v3 h = some o → Run X (d + 1) 17 13 [some (.ref 31), some (.ref v1), some (.int v2), some (.int v3), w4] [] h (some (.int o.1), o.2) ∧ SHP L hi o.2) {v1 : Nat} {v2 : Int32} {v3 : Int32} {w4 : Option Value} {h : Hp} {o : (Int32 × Hp)} (hv1 : OB6 v1) (SH : SHP L hi h) (hf : g_X2_readSum_38 n S K13 v1 v2 v3 h = some o) : Run X (d + 1) 17 38 [some (.ref 31), some (.ref v1), some (.int v2), some (.int v3), w4] [] h (some (.int o.1), o.2) ∧ SHP L hi o.2 := by
  unfold g_X2_readSum_38 at hf
  refine And.imp_left (rs_aload_n i_X2_readSum_38 rfl) ?_
  refine And.imp_left (rs_getI i_X2_readSum_39 (by decide) (by decide) (sO2 SH hh)) ?_
  refine And.imp_left (rs_bipush i_X2_readSum_42 (v := 43) (by decide)) ?_
  by_cases c1 : (gI h 31 3) ≠ 43
  · replace hf := (if_pos c1).symm.trans hf
    refine And.imp_left (rs_icT i_X2_readSum_44 (ct_ne c1) (tg := 52) (by decide)) ?_
    refine And.imp_left (rs_bipush i_X2_readSum_52 (v := (-17)) (by decide)) ?_
    exact q_X2_readSum_54 hd hh HS HK13 hv1 SH hf
  · replace hf := (if_neg c1).symm.trans hf
    refine And.imp_left (rs_icF i_X2_readSum_44 (cf_ne c1)) ?_
    refine And.imp_left (rs_bipush i_X2_readSum_47 (v := (-16)) (by decide)) ?_
    refine And.imp_left (rs_goto i_X2_readSum_49 (tg := 54) (by decide)) ?_
    exact q_X2_readSum_54 hd hh HS HK13 hv1 SH hf
noncomputable def g_X2_readSum_13 (n : Nat) (S : Nat → Nat → Int32 → Hp → Option (Int32 × Hp)) : Nat → Nat → Int32 → Int32 → Hp → Option (Int32 × Hp)
  | 0, _, _, _, _ => none
  | m + 1, v1, v2, v3, h =>
    if 160 ≤ v3 then
      some (1, h)
    else
      if (gI h 31 3) = 43 then
        g_X2_readSum_38 n S (g_X2_readSum_13 n S m) v1 v2 v3 h
      else
        if (gI h 31 3) ≠ 45 then
          some (1, h)
        else
          g_X2_readSum_38 n S (g_X2_readSum_13 n S m) v1 v2 v3 h
set_option maxRecDepth 100000 in
set_option maxHeartbeats 4000000 in
theorem q_X2_readSum_13 {X : Nat → Int32} {d : Nat} (hd : 7 ≤ (d + 1)) {L hi : Nat} (hh : 96 ≤ hi) {n : Nat} {S : Nat → Nat → Int32 → Hp → Option (Int32 × Hp)} (HS : ∀ (tg v1 : Nat) (v2 : Int32) (h : Hp) (o : Int32 × Hp), OB6 v1 → SHP L hi h → S tg v1 v2 h = some o → Calls X d tg [.ref 31, .ref v1, .int v2] h (some (.int o.1), o.2) ∧ SHP L hi o.2) : ∀ (m : Nat) (v1 : Nat) (v2 : Int32) (v3 : Int32) (w4 : Option Value) (hv1 : OB6 v1) (h : Hp) (o : (Int32 × Hp)), SHP L hi h → g_X2_readSum_13 n S m v1 v2 v3 h = some o → Run X (d + 1) 17 13 [some (.ref 31), some (.ref v1), some (.int v2), some (.int v3), w4] [] h (some (.int o.1), o.2) ∧ SHP L hi o.2 := by
  intro m
  induction m with
  | zero => intro v1 v2 v3 w4 hv1 h o SH hf; cases hf
  | succ m ih =>
    intro v1 v2 v3 w4 hv1 h o SH hf
    rw [g_X2_readSum_13] at hf
    refine And.imp_left (rs_iload_n i_X2_readSum_13 rfl) ?_
    refine And.imp_left (rs_sipush i_X2_readSum_14 (v := 160) (by decide)) ?_
    by_cases c1 : 160 ≤ v3
    · replace hf := (if_pos c1).symm.trans hf
      refine And.imp_left (rs_icT i_X2_readSum_17 (ct_ge c1) (tg := 83) (by decide)) ?_
      refine And.imp_left (rs_iconst i_X2_readSum_83 (v := 1) (by decide)) ?_
      have hf := Option.some.inj hf
      subst hf
      exact ⟨rs_iret i_X2_readSum_84 m_X2_readSum (by decide), SH⟩
    · replace hf := (if_neg c1).symm.trans hf
      refine And.imp_left (rs_icF i_X2_readSum_17 (cf_ge c1)) ?_
      refine And.imp_left (rs_aload_n i_X2_readSum_20 rfl) ?_
      refine And.imp_left (rs_getI i_X2_readSum_21 (by decide) (by decide) (sO2 SH hh)) ?_
      refine And.imp_left (rs_bipush i_X2_readSum_24 (v := 43) (by decide)) ?_
      by_cases c2 : (gI h 31 3) = 43
      · replace hf := (if_pos c2).symm.trans hf
        refine And.imp_left (rs_icT i_X2_readSum_26 (ct_eq c2) (tg := 38) (by decide)) ?_
        exact q_X2_readSum_38 hd hh HS ih hv1 SH hf
      · replace hf := (if_neg c2).symm.trans hf
        refine And.imp_left (rs_icF i_X2_readSum_26 (cf_eq c2)) ?_
        refine And.imp_left (rs_aload_n i_X2_readSum_29 rfl) ?_
        refine And.imp_left (rs_getI i_X2_readSum_30 (by decide) (by decide) (sO2 SH hh)) ?_
        refine And.imp_left (rs_bipush i_X2_readSum_33 (v := 45) (by decide)) ?_
        by_cases c3 : (gI h 31 3) ≠ 45
        · replace hf := (if_pos c3).symm.trans hf
          refine And.imp_left (rs_icT i_X2_readSum_35 (ct_ne c3) (tg := 83) (by decide)) ?_
          refine And.imp_left (rs_iconst i_X2_readSum_83 (v := 1) (by decide)) ?_
          have hf := Option.some.inj hf
          subst hf
          exact ⟨rs_iret i_X2_readSum_84 m_X2_readSum (by decide), SH⟩
        · replace hf := (if_neg c3).symm.trans hf
          refine And.imp_left (rs_icF i_X2_readSum_35 (cf_ne c3)) ?_
          exact q_X2_readSum_38 hd hh HS ih hv1 SH hf
noncomputable def g_X2_readSum_0 (n : Nat) (S : Nat → Nat → Int32 → Hp → Option (Int32 × Hp)) (v1 : Nat) (v2 : Int32) (h : Hp) : Option (Int32 × Hp) :=
  (S 18 v1 v2 h).bind fun o1 =>
  if o1.1 ≠ 0 then
    g_X2_readSum_13 n S n v1 v2 0 o1.2
  else
    some (0, o1.2)
set_option maxRecDepth 100000 in
set_option maxHeartbeats 4000000 in
theorem q_X2_readSum_0 {X : Nat → Int32} {d : Nat} (hd : 7 ≤ (d + 1)) {L hi : Nat} (hh : 96 ≤ hi) {n : Nat} {S : Nat → Nat → Int32 → Hp → Option (Int32 × Hp)} (HS : ∀ (tg v1 : Nat) (v2 : Int32) (h : Hp) (o : Int32 × Hp), OB6 v1 → SHP L hi h → S tg v1 v2 h = some o → Calls X d tg [.ref 31, .ref v1, .int v2] h (some (.int o.1), o.2) ∧ SHP L hi o.2) {v1 : Nat} {v2 : Int32} {h : Hp} {o : (Int32 × Hp)} (hv1 : OB6 v1) (SH : SHP L hi h) (hf : g_X2_readSum_0 n S v1 v2 h = some o) : Run X (d + 1) 17 0 [some (.ref 31), some (.ref v1), some (.int v2), none, none] [] h (some (.int o.1), o.2) ∧ SHP L hi o.2 := by
  unfold g_X2_readSum_0 at hf
  refine And.imp_left (rs_aload_n i_X2_readSum_0 rfl) ?_
  refine And.imp_left (rs_aload_n i_X2_readSum_1 rfl) ?_
  refine And.imp_left (rs_iload_n i_X2_readSum_2 rfl) ?_
  obtain ⟨o1, e1, hf⟩ := bind_some hf
  obtain ⟨u1, SH2⟩ := HS _ _ _ _ _ hv1 SH e1
  refine And.imp_left (rs_inV i_X2_readSum_3 m_X2_readProduct rfl (As := [.ref v1, .int v2]) (rest := []) rfl rfl (Nat.le_of_ble_eq_true rfl) (sO2 SH hh) u1 (st' := [.int o1.1]) rfl) ?_
  clear SH; have SH := SH2; clear SH2
  by_cases c2 : o1.1 ≠ 0
  · replace hf := (if_pos c2).symm.trans hf
    refine And.imp_left (rs_ifT i_X2_readSum_6 (ct_ne c2) (tg := 11) (by decide)) ?_
    refine And.imp_left (rs_iconst i_X2_readSum_11 (v := 0) (by decide)) ?_
    refine And.imp_left (rs_istore_n i_X2_readSum_12 (Nat.le_of_ble_eq_true rfl) (lv' := [some (.ref 31), some (.ref v1), some (.int v2), some (.int 0), none]) rfl) ?_
    exact q_X2_readSum_13 hd hh HS _ _ _ _ _ hv1 _ _ SH hf
  · replace hf := (if_neg c2).symm.trans hf
    refine And.imp_left (rs_ifF i_X2_readSum_6 (cf_ne c2)) ?_
    refine And.imp_left (rs_iconst i_X2_readSum_9 (v := 0) (by decide)) ?_
    have hf := Option.some.inj hf
    subst hf
    exact ⟨rs_iret i_X2_readSum_10 m_X2_readSum (by decide), SH⟩
noncomputable def g_X2_readSum (n : Nat) (S : Nat → Nat → Int32 → Hp → Option (Int32 × Hp)) (v1 : Nat) (v2 : Int32) (h : Hp) : Option (Int32 × Hp) := g_X2_readSum_0 n S v1 v2 h
theorem k_X2_readSum {X : Nat → Int32} {d : Nat} (hd : 7 ≤ d) {L hi : Nat} (hh : 96 ≤ hi) {n : Nat} {S : Nat → Nat → Int32 → Hp → Option (Int32 × Hp)} (HS : ∀ (tg v1 : Nat) (v2 : Int32) (h : Hp) (o : Int32 × Hp), OB6 v1 → SHP L hi h → S tg v1 v2 h = some o → ∀ d', d = d' + 1 → Calls X d' tg [.ref 31, .ref v1, .int v2] h (some (.int o.1), o.2) ∧ SHP L hi o.2) {v1 : Nat} {v2 : Int32} {h : Hp} {o : (Int32 × Hp)} (hv1 : OB6 v1) (SH : SHP L hi h) (hf : g_X2_readSum n S v1 v2 h = some o) : Calls X d 17 [.ref 31, .ref v1, .int v2] h (some (.int o.1), o.2) ∧ SHP L hi o.2 := by
  obtain ⟨d, rfl⟩ : ∃ z, d = z + 1 := ⟨d - 1, by omega⟩
  obtain ⟨r, S2⟩ := q_X2_readSum_0 hd hh (fun tg v1 v2 h o h6 hS hf => HS tg v1 v2 h o h6 hS hf d rfl) hv1 SH hf
  exact ⟨⟨_, rfl, r⟩, S2⟩
noncomputable def g_X2_readCompared_47 (n : Nat) (S : Nat → Nat → Int32 → Hp → Option (Int32 × Hp)) (v1 : Nat) (v2 : Int32) (s0 : Int32) (h : Hp) : Option (Int32 × Hp) :=
  (g_X2_advance n h).bind fun o1 =>
  (S 17 v1 v2 o1).bind fun o2 =>
  if o2.1 ≠ 0 then
    (g_X6_add v1 s0 o2.2).bind fun o4 =>
    some (1, o4)
  else
    some (0, o2.2)
set_option maxRecDepth 100000 in
set_option maxHeartbeats 4000000 in
theorem q_X2_readCompared_47 {X : Nat → Int32} {d : Nat} (hd : 7 ≤ (d + 1)) {L hi : Nat} (hh : 96 ≤ hi) {n : Nat} {S : Nat → Nat → Int32 → Hp → Option (Int32 × Hp)} (HS : ∀ (tg v1 : Nat) (v2 : Int32) (h : Hp) (o : Int32 × Hp), OB6 v1 → SHP L hi h → S tg v1 v2 h = some o → Calls X d tg [.ref 31, .ref v1, .int v2] h (some (.int o.1), o.2) ∧ SHP L hi o.2) {v1 : Nat} {v2 : Int32} {s0 : Int32} {h : Hp} {o : (Int32 × Hp)} (hv1 : OB6 v1) (SH : SHP L hi h) (hf : g_X2_readCompared_47 n S v1 v2 s0 h = some o) : Run X (d + 1) 16 47 [some (.ref 31), some (.ref v1), some (.int v2), none] [.int s0] h (some (.int o.1), o.2) ∧ SHP L hi o.2 := by
  unfold g_X2_readCompared_47 at hf
  refine And.imp_left (rs_istore_n i_X2_readCompared_47 (Nat.le_of_ble_eq_true rfl) (lv' := [some (.ref 31), some (.ref v1), some (.int v2), some (.int s0)]) rfl) ?_
  refine And.imp_left (rs_aload_n i_X2_readCompared_48 rfl) ?_
  obtain ⟨o1, e1, hf⟩ := bind_some hf
  obtain ⟨u1, SH2⟩ := k_X2_advance (X := X) (d := d) (by omega) (by omega) SH e1
  refine And.imp_left (rs_inV i_X2_readCompared_49 m_X2_advance rfl (As := []) (rest := []) rfl rfl (Nat.le_of_ble_eq_true rfl) (sO2 SH hh) u1 (st' := []) rfl) ?_
  clear SH; have SH := SH2; clear SH2
  refine And.imp_left (rs_aload_n i_X2_readCompared_52 rfl) ?_
  refine And.imp_left (rs_aload_n i_X2_readCompared_53 rfl) ?_
  refine And.imp_left (rs_iload_n i_X2_readCompared_54 rfl) ?_
  obtain ⟨o2, e2, hf⟩ := bind_some hf
  obtain ⟨u2, SH2⟩ := HS _ _ _ _ _ hv1 SH e2
  refine And.imp_left (rs_inV i_X2_readCompared_55 m_X2_readSum rfl (As := [.ref v1, .int v2]) (rest := []) rfl rfl (Nat.le_of_ble_eq_true rfl) (sO2 SH hh) u2 (st' := [.int o2.1]) rfl) ?_
  clear SH; have SH := SH2; clear SH2
  by_cases c3 : o2.1 ≠ 0
  · replace hf := (if_pos c3).symm.trans hf
    refine And.imp_left (rs_ifT i_X2_readCompared_58 (ct_ne c3) (tg := 63) (by decide)) ?_
    refine And.imp_left (rs_aload_n i_X2_readCompared_63 rfl) ?_
    refine And.imp_left (rs_iload_n i_X2_readCompared_64 rfl) ?_
    obtain ⟨o4, e4, hf⟩ := bind_some hf
    obtain ⟨u4, SH2⟩ := k_X6_add (X := X) (d := d) (by omega) (by omega) hv1 SH e4
    refine And.imp_left (rs_inV i_X2_readCompared_65 m_X6_add rfl (As := [.int s0]) (rest := []) rfl rfl (Nat.le_of_ble_eq_true rfl) (sO6 SH hh hv1) u4 (st' := []) rfl) ?_
    clear SH; have SH := SH2; clear SH2
    refine And.imp_left (rs_iconst i_X2_readCompared_68 (v := 1) (by decide)) ?_
    have hf := Option.some.inj hf
    subst hf
    exact ⟨rs_iret i_X2_readCompared_69 m_X2_readCompared (by decide), SH⟩
  · replace hf := (if_neg c3).symm.trans hf
    refine And.imp_left (rs_ifF i_X2_readCompared_58 (cf_ne c3)) ?_
    refine And.imp_left (rs_iconst i_X2_readCompared_61 (v := 0) (by decide)) ?_
    have hf := Option.some.inj hf
    subst hf
    exact ⟨rs_iret i_X2_readCompared_62 m_X2_readCompared (by decide), SH⟩
noncomputable def g_X2_readCompared_31 (n : Nat) (S : Nat → Nat → Int32 → Hp → Option (Int32 × Hp)) (v1 : Nat) (v2 : Int32) (h : Hp) : Option (Int32 × Hp) :=
  if (gI h 31 3) ≠ 60 then
    g_X2_readCompared_47 n S v1 v2 (-15) h
  else
    g_X2_readCompared_47 n S v1 v2 (-14) h
set_option maxRecDepth 100000 in
set_option maxHeartbeats 4000000 in
theorem q_X2_readCompared_31 {X : Nat → Int32} {d : Nat} (hd : 7 ≤ (d + 1)) {L hi : Nat} (hh : 96 ≤ hi) {n : Nat} {S : Nat → Nat → Int32 → Hp → Option (Int32 × Hp)} (HS : ∀ (tg v1 : Nat) (v2 : Int32) (h : Hp) (o : Int32 × Hp), OB6 v1 → SHP L hi h → S tg v1 v2 h = some o → Calls X d tg [.ref 31, .ref v1, .int v2] h (some (.int o.1), o.2) ∧ SHP L hi o.2) {v1 : Nat} {v2 : Int32} {h : Hp} {o : (Int32 × Hp)} (hv1 : OB6 v1) (SH : SHP L hi h) (hf : g_X2_readCompared_31 n S v1 v2 h = some o) : Run X (d + 1) 16 31 [some (.ref 31), some (.ref v1), some (.int v2), none] [] h (some (.int o.1), o.2) ∧ SHP L hi o.2 := by
  unfold g_X2_readCompared_31 at hf
  refine And.imp_left (rs_aload_n i_X2_readCompared_31 rfl) ?_
  refine And.imp_left (rs_getI i_X2_readCompared_32 (by decide) (by decide) (sO2 SH hh)) ?_
  refine And.imp_left (rs_bipush i_X2_readCompared_35 (v := 60) (by decide)) ?_
  by_cases c1 : (gI h 31 3) ≠ 60
  · replace hf := (if_pos c1).symm.trans hf
    refine And.imp_left (rs_icT i_X2_readCompared_37 (ct_ne c1) (tg := 45) (by decide)) ?_
    refine And.imp_left (rs_bipush i_X2_readCompared_45 (v := (-15)) (by decide)) ?_
    exact q_X2_readCompared_47 hd hh HS hv1 SH hf
  · replace hf := (if_neg c1).symm.trans hf
    refine And.imp_left (rs_icF i_X2_readCompared_37 (cf_ne c1)) ?_
    refine And.imp_left (rs_bipush i_X2_readCompared_40 (v := (-14)) (by decide)) ?_
    refine And.imp_left (rs_goto i_X2_readCompared_42 (tg := 47) (by decide)) ?_
    exact q_X2_readCompared_47 hd hh HS hv1 SH hf
noncomputable def g_X2_readCompared_0 (n : Nat) (S : Nat → Nat → Int32 → Hp → Option (Int32 × Hp)) (v1 : Nat) (v2 : Int32) (h : Hp) : Option (Int32 × Hp) :=
  (S 17 v1 v2 h).bind fun o1 =>
  if o1.1 ≠ 0 then
    if (gI o1.2 31 3) = 60 then
      g_X2_readCompared_31 n S v1 v2 o1.2
    else
      if (gI o1.2 31 3) = 61 then
        g_X2_readCompared_31 n S v1 v2 o1.2
      else
        some (1, o1.2)
  else
    some (0, o1.2)
set_option maxRecDepth 100000 in
set_option maxHeartbeats 4000000 in
theorem q_X2_readCompared_0 {X : Nat → Int32} {d : Nat} (hd : 7 ≤ (d + 1)) {L hi : Nat} (hh : 96 ≤ hi) {n : Nat} {S : Nat → Nat → Int32 → Hp → Option (Int32 × Hp)} (HS : ∀ (tg v1 : Nat) (v2 : Int32) (h : Hp) (o : Int32 × Hp), OB6 v1 → SHP L hi h → S tg v1 v2 h = some o → Calls X d tg [.ref 31, .ref v1, .int v2] h (some (.int o.1), o.2) ∧ SHP L hi o.2) {v1 : Nat} {v2 : Int32} {h : Hp} {o : (Int32 × Hp)} (hv1 : OB6 v1) (SH : SHP L hi h) (hf : g_X2_readCompared_0 n S v1 v2 h = some o) : Run X (d + 1) 16 0 [some (.ref 31), some (.ref v1), some (.int v2), none] [] h (some (.int o.1), o.2) ∧ SHP L hi o.2 := by
  unfold g_X2_readCompared_0 at hf
  refine And.imp_left (rs_aload_n i_X2_readCompared_0 rfl) ?_
  refine And.imp_left (rs_aload_n i_X2_readCompared_1 rfl) ?_
  refine And.imp_left (rs_iload_n i_X2_readCompared_2 rfl) ?_
  obtain ⟨o1, e1, hf⟩ := bind_some hf
  obtain ⟨u1, SH2⟩ := HS _ _ _ _ _ hv1 SH e1
  refine And.imp_left (rs_inV i_X2_readCompared_3 m_X2_readSum rfl (As := [.ref v1, .int v2]) (rest := []) rfl rfl (Nat.le_of_ble_eq_true rfl) (sO2 SH hh) u1 (st' := [.int o1.1]) rfl) ?_
  clear SH; have SH := SH2; clear SH2
  by_cases c2 : o1.1 ≠ 0
  · replace hf := (if_pos c2).symm.trans hf
    refine And.imp_left (rs_ifT i_X2_readCompared_6 (ct_ne c2) (tg := 11) (by decide)) ?_
    refine And.imp_left (rs_aload_n i_X2_readCompared_11 rfl) ?_
    refine And.imp_left (rs_getI i_X2_readCompared_12 (by decide) (by decide) (sO2 SH hh)) ?_
    refine And.imp_left (rs_bipush i_X2_readCompared_15 (v := 60) (by decide)) ?_
    by_cases c3 : (gI o1.2 31 3) = 60
    · replace hf := (if_pos c3).symm.trans hf
      refine And.imp_left (rs_icT i_X2_readCompared_17 (ct_eq c3) (tg := 31) (by decide)) ?_
      exact q_X2_readCompared_31 hd hh HS hv1 SH hf
    · replace hf := (if_neg c3).symm.trans hf
      refine And.imp_left (rs_icF i_X2_readCompared_17 (cf_eq c3)) ?_
      refine And.imp_left (rs_aload_n i_X2_readCompared_20 rfl) ?_
      refine And.imp_left (rs_getI i_X2_readCompared_21 (by decide) (by decide) (sO2 SH hh)) ?_
      refine And.imp_left (rs_bipush i_X2_readCompared_24 (v := 61) (by decide)) ?_
      by_cases c4 : (gI o1.2 31 3) = 61
      · replace hf := (if_pos c4).symm.trans hf
        refine And.imp_left (rs_icT i_X2_readCompared_26 (ct_eq c4) (tg := 31) (by decide)) ?_
        exact q_X2_readCompared_31 hd hh HS hv1 SH hf
      · replace hf := (if_neg c4).symm.trans hf
        refine And.imp_left (rs_icF i_X2_readCompared_26 (cf_eq c4)) ?_
        refine And.imp_left (rs_iconst i_X2_readCompared_29 (v := 1) (by decide)) ?_
        have hf := Option.some.inj hf
        subst hf
        exact ⟨rs_iret i_X2_readCompared_30 m_X2_readCompared (by decide), SH⟩
  · replace hf := (if_neg c2).symm.trans hf
    refine And.imp_left (rs_ifF i_X2_readCompared_6 (cf_ne c2)) ?_
    refine And.imp_left (rs_iconst i_X2_readCompared_9 (v := 0) (by decide)) ?_
    have hf := Option.some.inj hf
    subst hf
    exact ⟨rs_iret i_X2_readCompared_10 m_X2_readCompared (by decide), SH⟩
noncomputable def g_X2_readCompared (n : Nat) (S : Nat → Nat → Int32 → Hp → Option (Int32 × Hp)) (v1 : Nat) (v2 : Int32) (h : Hp) : Option (Int32 × Hp) := g_X2_readCompared_0 n S v1 v2 h
theorem k_X2_readCompared {X : Nat → Int32} {d : Nat} (hd : 7 ≤ d) {L hi : Nat} (hh : 96 ≤ hi) {n : Nat} {S : Nat → Nat → Int32 → Hp → Option (Int32 × Hp)} (HS : ∀ (tg v1 : Nat) (v2 : Int32) (h : Hp) (o : Int32 × Hp), OB6 v1 → SHP L hi h → S tg v1 v2 h = some o → ∀ d', d = d' + 1 → Calls X d' tg [.ref 31, .ref v1, .int v2] h (some (.int o.1), o.2) ∧ SHP L hi o.2) {v1 : Nat} {v2 : Int32} {h : Hp} {o : (Int32 × Hp)} (hv1 : OB6 v1) (SH : SHP L hi h) (hf : g_X2_readCompared n S v1 v2 h = some o) : Calls X d 16 [.ref 31, .ref v1, .int v2] h (some (.int o.1), o.2) ∧ SHP L hi o.2 := by
  obtain ⟨d, rfl⟩ : ∃ z, d = z + 1 := ⟨d - 1, by omega⟩
  obtain ⟨r, S2⟩ := q_X2_readCompared_0 hd hh (fun tg v1 v2 h o h6 hS hf => HS tg v1 v2 h o h6 hS hf d rfl) hv1 SH hf
  exact ⟨⟨_, rfl, r⟩, S2⟩
noncomputable def g_X2_readNot_0 (n : Nat) (S : Nat → Nat → Int32 → Hp → Option (Int32 × Hp)) (v1 : Nat) (v2 : Int32) (h : Hp) : Option (Int32 × Hp) :=
  if (gI h 31 3) = 15 then
    if v2 < 5 then
      (g_X2_advance n h).bind fun o3 =>
      (S 15 v1 (v2 + 1) o3).bind fun o4 =>
      if o4.1 ≠ 0 then
        (g_X6_add v1 (-13) o4.2).bind fun o6 =>
        some (1, o6)
      else
        some (0, o4.2)
    else
      some (0, h)
  else
    (S 16 v1 v2 h).bind fun o7 =>
    if o7.1 = 0 ∨ o7.1 = 1 then
    some (o7.1, o7.2)
    else none
set_option maxRecDepth 100000 in
set_option maxHeartbeats 4000000 in
theorem q_X2_readNot_0 {X : Nat → Int32} {d : Nat} (hd : 7 ≤ (d + 1)) {L hi : Nat} (hh : 96 ≤ hi) {n : Nat} {S : Nat → Nat → Int32 → Hp → Option (Int32 × Hp)} (HS : ∀ (tg v1 : Nat) (v2 : Int32) (h : Hp) (o : Int32 × Hp), OB6 v1 → SHP L hi h → S tg v1 v2 h = some o → Calls X d tg [.ref 31, .ref v1, .int v2] h (some (.int o.1), o.2) ∧ SHP L hi o.2) {v1 : Nat} {v2 : Int32} {h : Hp} {o : (Int32 × Hp)} (hv1 : OB6 v1) (SH : SHP L hi h) (hf : g_X2_readNot_0 n S v1 v2 h = some o) : Run X (d + 1) 15 0 [some (.ref 31), some (.ref v1), some (.int v2)] [] h (some (.int o.1), o.2) ∧ SHP L hi o.2 := by
  unfold g_X2_readNot_0 at hf
  refine And.imp_left (rs_aload_n i_X2_readNot_0 rfl) ?_
  refine And.imp_left (rs_getI i_X2_readNot_1 (by decide) (by decide) (sO2 SH hh)) ?_
  refine And.imp_left (rs_bipush i_X2_readNot_4 (v := 15) (by decide)) ?_
  by_cases c1 : (gI h 31 3) = 15
  · replace hf := (if_pos c1).symm.trans hf
    refine And.imp_left (rs_icT i_X2_readNot_6 (ct_eq c1) (tg := 16) (by decide)) ?_
    refine And.imp_left (rs_iload_n i_X2_readNot_16 rfl) ?_
    refine And.imp_left (rs_iconst i_X2_readNot_17 (v := 5) (by decide)) ?_
    by_cases c2 : v2 < 5
    · replace hf := (if_pos c2).symm.trans hf
      refine And.imp_left (rs_icT i_X2_readNot_18 (ct_lt c2) (tg := 23) (by decide)) ?_
      refine And.imp_left (rs_aload_n i_X2_readNot_23 rfl) ?_
      obtain ⟨o3, e3, hf⟩ := bind_some hf
      obtain ⟨u3, SH2⟩ := k_X2_advance (X := X) (d := d) (by omega) (by omega) SH e3
      refine And.imp_left (rs_inV i_X2_readNot_24 m_X2_advance rfl (As := []) (rest := []) rfl rfl (Nat.le_of_ble_eq_true rfl) (sO2 SH hh) u3 (st' := []) rfl) ?_
      clear SH; have SH := SH2; clear SH2
      refine And.imp_left (rs_aload_n i_X2_readNot_27 rfl) ?_
      refine And.imp_left (rs_aload_n i_X2_readNot_28 rfl) ?_
      refine And.imp_left (rs_iload_n i_X2_readNot_29 rfl) ?_
      refine And.imp_left (rs_iconst i_X2_readNot_30 (v := 1) (by decide)) ?_
      refine And.imp_left (rs_iadd i_X2_readNot_31) ?_
      obtain ⟨o4, e4, hf⟩ := bind_some hf
      obtain ⟨u4, SH2⟩ := HS _ _ _ _ _ hv1 SH e4
      refine And.imp_left (rs_inV i_X2_readNot_32 m_X2_readNot rfl (As := [.ref v1, .int (v2 + 1)]) (rest := []) rfl rfl (Nat.le_of_ble_eq_true rfl) (sO2 SH hh) u4 (st' := [.int o4.1]) rfl) ?_
      clear SH; have SH := SH2; clear SH2
      by_cases c5 : o4.1 ≠ 0
      · replace hf := (if_pos c5).symm.trans hf
        refine And.imp_left (rs_ifT i_X2_readNot_35 (ct_ne c5) (tg := 40) (by decide)) ?_
        refine And.imp_left (rs_aload_n i_X2_readNot_40 rfl) ?_
        refine And.imp_left (rs_bipush i_X2_readNot_41 (v := (-13)) (by decide)) ?_
        obtain ⟨o6, e6, hf⟩ := bind_some hf
        obtain ⟨u6, SH2⟩ := k_X6_add (X := X) (d := d) (by omega) (by omega) hv1 SH e6
        refine And.imp_left (rs_inV i_X2_readNot_43 m_X6_add rfl (As := [.int (-13)]) (rest := []) rfl rfl (Nat.le_of_ble_eq_true rfl) (sO6 SH hh hv1) u6 (st' := []) rfl) ?_
        clear SH; have SH := SH2; clear SH2
        refine And.imp_left (rs_iconst i_X2_readNot_46 (v := 1) (by decide)) ?_
        have hf := Option.some.inj hf
        subst hf
        exact ⟨rs_iret i_X2_readNot_47 m_X2_readNot (by decide), SH⟩
      · replace hf := (if_neg c5).symm.trans hf
        refine And.imp_left (rs_ifF i_X2_readNot_35 (cf_ne c5)) ?_
        refine And.imp_left (rs_iconst i_X2_readNot_38 (v := 0) (by decide)) ?_
        have hf := Option.some.inj hf
        subst hf
        exact ⟨rs_iret i_X2_readNot_39 m_X2_readNot (by decide), SH⟩
    · replace hf := (if_neg c2).symm.trans hf
      refine And.imp_left (rs_icF i_X2_readNot_18 (cf_lt c2)) ?_
      refine And.imp_left (rs_iconst i_X2_readNot_21 (v := 0) (by decide)) ?_
      have hf := Option.some.inj hf
      subst hf
      exact ⟨rs_iret i_X2_readNot_22 m_X2_readNot (by decide), SH⟩
  · replace hf := (if_neg c1).symm.trans hf
    refine And.imp_left (rs_icF i_X2_readNot_6 (cf_eq c1)) ?_
    refine And.imp_left (rs_aload_n i_X2_readNot_9 rfl) ?_
    refine And.imp_left (rs_aload_n i_X2_readNot_10 rfl) ?_
    refine And.imp_left (rs_iload_n i_X2_readNot_11 rfl) ?_
    obtain ⟨o7, e7, hf⟩ := bind_some hf
    obtain ⟨u7, SH2⟩ := HS _ _ _ _ _ hv1 SH e7
    refine And.imp_left (rs_inV i_X2_readNot_12 m_X2_readCompared rfl (As := [.ref v1, .int v2]) (rest := []) rfl rfl (Nat.le_of_ble_eq_true rfl) (sO2 SH hh) u7 (st' := [.int o7.1]) rfl) ?_
    clear SH; have SH := SH2; clear SH2
    obtain ⟨c8, hf⟩ := ite_some hf
    have hf := Option.some.inj hf
    subst hf
    exact ⟨rs_iret i_X2_readNot_15 m_X2_readNot (decide_eq_true c8), SH⟩
noncomputable def g_X2_readNot (n : Nat) (S : Nat → Nat → Int32 → Hp → Option (Int32 × Hp)) (v1 : Nat) (v2 : Int32) (h : Hp) : Option (Int32 × Hp) := g_X2_readNot_0 n S v1 v2 h
theorem k_X2_readNot {X : Nat → Int32} {d : Nat} (hd : 7 ≤ d) {L hi : Nat} (hh : 96 ≤ hi) {n : Nat} {S : Nat → Nat → Int32 → Hp → Option (Int32 × Hp)} (HS : ∀ (tg v1 : Nat) (v2 : Int32) (h : Hp) (o : Int32 × Hp), OB6 v1 → SHP L hi h → S tg v1 v2 h = some o → ∀ d', d = d' + 1 → Calls X d' tg [.ref 31, .ref v1, .int v2] h (some (.int o.1), o.2) ∧ SHP L hi o.2) {v1 : Nat} {v2 : Int32} {h : Hp} {o : (Int32 × Hp)} (hv1 : OB6 v1) (SH : SHP L hi h) (hf : g_X2_readNot n S v1 v2 h = some o) : Calls X d 15 [.ref 31, .ref v1, .int v2] h (some (.int o.1), o.2) ∧ SHP L hi o.2 := by
  obtain ⟨d, rfl⟩ : ∃ z, d = z + 1 := ⟨d - 1, by omega⟩
  obtain ⟨r, S2⟩ := q_X2_readNot_0 hd hh (fun tg v1 v2 h o h6 hS hf => HS tg v1 v2 h o h6 hS hf d rfl) hv1 SH hf
  exact ⟨⟨_, rfl, r⟩, S2⟩
noncomputable def g_X2_readBoth_13 (n : Nat) (S : Nat → Nat → Int32 → Hp → Option (Int32 × Hp)) : Nat → Nat → Int32 → Int32 → Hp → Option (Int32 × Hp)
  | 0, _, _, _, _ => none
  | m + 1, v1, v2, v3, h =>
    if 160 ≤ v3 then
      some (1, h)
    else
      if (gI h 31 3) ≠ 14 then
        some (1, h)
      else
        (g_X2_advance n h).bind fun o3 =>
        (S 15 v1 v2 o3).bind fun o4 =>
        if o4.1 ≠ 0 then
          (g_X6_add v1 (-12) o4.2).bind fun o6 =>
          (g_X2_readBoth_13 n S m) v1 v2 (v3 + 1) o6
        else
          some (0, o4.2)
set_option maxRecDepth 100000 in
set_option maxHeartbeats 4000000 in
theorem q_X2_readBoth_13 {X : Nat → Int32} {d : Nat} (hd : 7 ≤ (d + 1)) {L hi : Nat} (hh : 96 ≤ hi) {n : Nat} {S : Nat → Nat → Int32 → Hp → Option (Int32 × Hp)} (HS : ∀ (tg v1 : Nat) (v2 : Int32) (h : Hp) (o : Int32 × Hp), OB6 v1 → SHP L hi h → S tg v1 v2 h = some o → Calls X d tg [.ref 31, .ref v1, .int v2] h (some (.int o.1), o.2) ∧ SHP L hi o.2) : ∀ (m : Nat) (v1 : Nat) (v2 : Int32) (v3 : Int32) (hv1 : OB6 v1) (h : Hp) (o : (Int32 × Hp)), SHP L hi h → g_X2_readBoth_13 n S m v1 v2 v3 h = some o → Run X (d + 1) 14 13 [some (.ref 31), some (.ref v1), some (.int v2), some (.int v3)] [] h (some (.int o.1), o.2) ∧ SHP L hi o.2 := by
  intro m
  induction m with
  | zero => intro v1 v2 v3 hv1 h o SH hf; cases hf
  | succ m ih =>
    intro v1 v2 v3 hv1 h o SH hf
    rw [g_X2_readBoth_13] at hf
    refine And.imp_left (rs_iload_n i_X2_readBoth_13 rfl) ?_
    refine And.imp_left (rs_sipush i_X2_readBoth_14 (v := 160) (by decide)) ?_
    by_cases c1 : 160 ≤ v3
    · replace hf := (if_pos c1).symm.trans hf
      refine And.imp_left (rs_icT i_X2_readBoth_17 (ct_ge c1) (tg := 56) (by decide)) ?_
      refine And.imp_left (rs_iconst i_X2_readBoth_56 (v := 1) (by decide)) ?_
      have hf := Option.some.inj hf
      subst hf
      exact ⟨rs_iret i_X2_readBoth_57 m_X2_readBoth (by decide), SH⟩
    · replace hf := (if_neg c1).symm.trans hf
      refine And.imp_left (rs_icF i_X2_readBoth_17 (cf_ge c1)) ?_
      refine And.imp_left (rs_aload_n i_X2_readBoth_20 rfl) ?_
      refine And.imp_left (rs_getI i_X2_readBoth_21 (by decide) (by decide) (sO2 SH hh)) ?_
      refine And.imp_left (rs_bipush i_X2_readBoth_24 (v := 14) (by decide)) ?_
      by_cases c2 : (gI h 31 3) ≠ 14
      · replace hf := (if_pos c2).symm.trans hf
        refine And.imp_left (rs_icT i_X2_readBoth_26 (ct_ne c2) (tg := 56) (by decide)) ?_
        refine And.imp_left (rs_iconst i_X2_readBoth_56 (v := 1) (by decide)) ?_
        have hf := Option.some.inj hf
        subst hf
        exact ⟨rs_iret i_X2_readBoth_57 m_X2_readBoth (by decide), SH⟩
      · replace hf := (if_neg c2).symm.trans hf
        refine And.imp_left (rs_icF i_X2_readBoth_26 (cf_ne c2)) ?_
        refine And.imp_left (rs_aload_n i_X2_readBoth_29 rfl) ?_
        obtain ⟨o3, e3, hf⟩ := bind_some hf
        obtain ⟨u3, SH2⟩ := k_X2_advance (X := X) (d := d) (by omega) (by omega) SH e3
        refine And.imp_left (rs_inV i_X2_readBoth_30 m_X2_advance rfl (As := []) (rest := []) rfl rfl (Nat.le_of_ble_eq_true rfl) (sO2 SH hh) u3 (st' := []) rfl) ?_
        clear SH; have SH := SH2; clear SH2
        refine And.imp_left (rs_aload_n i_X2_readBoth_33 rfl) ?_
        refine And.imp_left (rs_aload_n i_X2_readBoth_34 rfl) ?_
        refine And.imp_left (rs_iload_n i_X2_readBoth_35 rfl) ?_
        obtain ⟨o4, e4, hf⟩ := bind_some hf
        obtain ⟨u4, SH2⟩ := HS _ _ _ _ _ hv1 SH e4
        refine And.imp_left (rs_inV i_X2_readBoth_36 m_X2_readNot rfl (As := [.ref v1, .int v2]) (rest := []) rfl rfl (Nat.le_of_ble_eq_true rfl) (sO2 SH hh) u4 (st' := [.int o4.1]) rfl) ?_
        clear SH; have SH := SH2; clear SH2
        by_cases c5 : o4.1 ≠ 0
        · replace hf := (if_pos c5).symm.trans hf
          refine And.imp_left (rs_ifT i_X2_readBoth_39 (ct_ne c5) (tg := 44) (by decide)) ?_
          refine And.imp_left (rs_aload_n i_X2_readBoth_44 rfl) ?_
          refine And.imp_left (rs_bipush i_X2_readBoth_45 (v := (-12)) (by decide)) ?_
          obtain ⟨o6, e6, hf⟩ := bind_some hf
          obtain ⟨u6, SH2⟩ := k_X6_add (X := X) (d := d) (by omega) (by omega) hv1 SH e6
          refine And.imp_left (rs_inV i_X2_readBoth_47 m_X6_add rfl (As := [.int (-12)]) (rest := []) rfl rfl (Nat.le_of_ble_eq_true rfl) (sO6 SH hh hv1) u6 (st' := []) rfl) ?_
          clear SH; have SH := SH2; clear SH2
          refine And.imp_left (rs_iinc i_X2_readBoth_50 rfl (v := v3 + 1) rfl (Nat.le_of_ble_eq_true rfl) (lv' := [some (.ref 31), some (.ref v1), some (.int v2), some (.int (v3 + 1))]) rfl) ?_
          refine And.imp_left (rs_goto i_X2_readBoth_53 (tg := 13) (by decide)) ?_
          exact ih _ _ _ hv1 _ _ SH hf
        · replace hf := (if_neg c5).symm.trans hf
          refine And.imp_left (rs_ifF i_X2_readBoth_39 (cf_ne c5)) ?_
          refine And.imp_left (rs_iconst i_X2_readBoth_42 (v := 0) (by decide)) ?_
          have hf := Option.some.inj hf
          subst hf
          exact ⟨rs_iret i_X2_readBoth_43 m_X2_readBoth (by decide), SH⟩
noncomputable def g_X2_readBoth_0 (n : Nat) (S : Nat → Nat → Int32 → Hp → Option (Int32 × Hp)) (v1 : Nat) (v2 : Int32) (h : Hp) : Option (Int32 × Hp) :=
  (S 15 v1 v2 h).bind fun o1 =>
  if o1.1 ≠ 0 then
    g_X2_readBoth_13 n S n v1 v2 0 o1.2
  else
    some (0, o1.2)
set_option maxRecDepth 100000 in
set_option maxHeartbeats 4000000 in
theorem q_X2_readBoth_0 {X : Nat → Int32} {d : Nat} (hd : 7 ≤ (d + 1)) {L hi : Nat} (hh : 96 ≤ hi) {n : Nat} {S : Nat → Nat → Int32 → Hp → Option (Int32 × Hp)} (HS : ∀ (tg v1 : Nat) (v2 : Int32) (h : Hp) (o : Int32 × Hp), OB6 v1 → SHP L hi h → S tg v1 v2 h = some o → Calls X d tg [.ref 31, .ref v1, .int v2] h (some (.int o.1), o.2) ∧ SHP L hi o.2) {v1 : Nat} {v2 : Int32} {h : Hp} {o : (Int32 × Hp)} (hv1 : OB6 v1) (SH : SHP L hi h) (hf : g_X2_readBoth_0 n S v1 v2 h = some o) : Run X (d + 1) 14 0 [some (.ref 31), some (.ref v1), some (.int v2), none] [] h (some (.int o.1), o.2) ∧ SHP L hi o.2 := by
  unfold g_X2_readBoth_0 at hf
  refine And.imp_left (rs_aload_n i_X2_readBoth_0 rfl) ?_
  refine And.imp_left (rs_aload_n i_X2_readBoth_1 rfl) ?_
  refine And.imp_left (rs_iload_n i_X2_readBoth_2 rfl) ?_
  obtain ⟨o1, e1, hf⟩ := bind_some hf
  obtain ⟨u1, SH2⟩ := HS _ _ _ _ _ hv1 SH e1
  refine And.imp_left (rs_inV i_X2_readBoth_3 m_X2_readNot rfl (As := [.ref v1, .int v2]) (rest := []) rfl rfl (Nat.le_of_ble_eq_true rfl) (sO2 SH hh) u1 (st' := [.int o1.1]) rfl) ?_
  clear SH; have SH := SH2; clear SH2
  by_cases c2 : o1.1 ≠ 0
  · replace hf := (if_pos c2).symm.trans hf
    refine And.imp_left (rs_ifT i_X2_readBoth_6 (ct_ne c2) (tg := 11) (by decide)) ?_
    refine And.imp_left (rs_iconst i_X2_readBoth_11 (v := 0) (by decide)) ?_
    refine And.imp_left (rs_istore_n i_X2_readBoth_12 (Nat.le_of_ble_eq_true rfl) (lv' := [some (.ref 31), some (.ref v1), some (.int v2), some (.int 0)]) rfl) ?_
    exact q_X2_readBoth_13 hd hh HS _ _ _ _ hv1 _ _ SH hf
  · replace hf := (if_neg c2).symm.trans hf
    refine And.imp_left (rs_ifF i_X2_readBoth_6 (cf_ne c2)) ?_
    refine And.imp_left (rs_iconst i_X2_readBoth_9 (v := 0) (by decide)) ?_
    have hf := Option.some.inj hf
    subst hf
    exact ⟨rs_iret i_X2_readBoth_10 m_X2_readBoth (by decide), SH⟩
noncomputable def g_X2_readBoth (n : Nat) (S : Nat → Nat → Int32 → Hp → Option (Int32 × Hp)) (v1 : Nat) (v2 : Int32) (h : Hp) : Option (Int32 × Hp) := g_X2_readBoth_0 n S v1 v2 h
theorem k_X2_readBoth {X : Nat → Int32} {d : Nat} (hd : 7 ≤ d) {L hi : Nat} (hh : 96 ≤ hi) {n : Nat} {S : Nat → Nat → Int32 → Hp → Option (Int32 × Hp)} (HS : ∀ (tg v1 : Nat) (v2 : Int32) (h : Hp) (o : Int32 × Hp), OB6 v1 → SHP L hi h → S tg v1 v2 h = some o → ∀ d', d = d' + 1 → Calls X d' tg [.ref 31, .ref v1, .int v2] h (some (.int o.1), o.2) ∧ SHP L hi o.2) {v1 : Nat} {v2 : Int32} {h : Hp} {o : (Int32 × Hp)} (hv1 : OB6 v1) (SH : SHP L hi h) (hf : g_X2_readBoth n S v1 v2 h = some o) : Calls X d 14 [.ref 31, .ref v1, .int v2] h (some (.int o.1), o.2) ∧ SHP L hi o.2 := by
  obtain ⟨d, rfl⟩ : ∃ z, d = z + 1 := ⟨d - 1, by omega⟩
  obtain ⟨r, S2⟩ := q_X2_readBoth_0 hd hh (fun tg v1 v2 h o h6 hS hf => HS tg v1 v2 h o h6 hS hf d rfl) hv1 SH hf
  exact ⟨⟨_, rfl, r⟩, S2⟩
noncomputable def g_X2_readEither_13 (n : Nat) (S : Nat → Nat → Int32 → Hp → Option (Int32 × Hp)) : Nat → Nat → Int32 → Int32 → Hp → Option (Int32 × Hp)
  | 0, _, _, _, _ => none
  | m + 1, v1, v2, v3, h =>
    if 160 ≤ v3 then
      some (1, h)
    else
      if (gI h 31 3) ≠ 13 then
        some (1, h)
      else
        (g_X2_advance n h).bind fun o3 =>
        (S 14 v1 v2 o3).bind fun o4 =>
        if o4.1 ≠ 0 then
          (g_X6_add v1 (-11) o4.2).bind fun o6 =>
          (g_X2_readEither_13 n S m) v1 v2 (v3 + 1) o6
        else
          some (0, o4.2)
set_option maxRecDepth 100000 in
set_option maxHeartbeats 4000000 in
theorem q_X2_readEither_13 {X : Nat → Int32} {d : Nat} (hd : 7 ≤ (d + 1)) {L hi : Nat} (hh : 96 ≤ hi) {n : Nat} {S : Nat → Nat → Int32 → Hp → Option (Int32 × Hp)} (HS : ∀ (tg v1 : Nat) (v2 : Int32) (h : Hp) (o : Int32 × Hp), OB6 v1 → SHP L hi h → S tg v1 v2 h = some o → Calls X d tg [.ref 31, .ref v1, .int v2] h (some (.int o.1), o.2) ∧ SHP L hi o.2) : ∀ (m : Nat) (v1 : Nat) (v2 : Int32) (v3 : Int32) (hv1 : OB6 v1) (h : Hp) (o : (Int32 × Hp)), SHP L hi h → g_X2_readEither_13 n S m v1 v2 v3 h = some o → Run X (d + 1) 13 13 [some (.ref 31), some (.ref v1), some (.int v2), some (.int v3)] [] h (some (.int o.1), o.2) ∧ SHP L hi o.2 := by
  intro m
  induction m with
  | zero => intro v1 v2 v3 hv1 h o SH hf; cases hf
  | succ m ih =>
    intro v1 v2 v3 hv1 h o SH hf
    rw [g_X2_readEither_13] at hf
    refine And.imp_left (rs_iload_n i_X2_readEither_13 rfl) ?_
    refine And.imp_left (rs_sipush i_X2_readEither_14 (v := 160) (by decide)) ?_
    by_cases c1 : 160 ≤ v3
    · replace hf := (if_pos c1).symm.trans hf
      refine And.imp_left (rs_icT i_X2_readEither_17 (ct_ge c1) (tg := 56) (by decide)) ?_
      refine And.imp_left (rs_iconst i_X2_readEither_56 (v := 1) (by decide)) ?_
      have hf := Option.some.inj hf
      subst hf
      exact ⟨rs_iret i_X2_readEither_57 m_X2_readEither (by decide), SH⟩
    · replace hf := (if_neg c1).symm.trans hf
      refine And.imp_left (rs_icF i_X2_readEither_17 (cf_ge c1)) ?_
      refine And.imp_left (rs_aload_n i_X2_readEither_20 rfl) ?_
      refine And.imp_left (rs_getI i_X2_readEither_21 (by decide) (by decide) (sO2 SH hh)) ?_
      refine And.imp_left (rs_bipush i_X2_readEither_24 (v := 13) (by decide)) ?_
      by_cases c2 : (gI h 31 3) ≠ 13
      · replace hf := (if_pos c2).symm.trans hf
        refine And.imp_left (rs_icT i_X2_readEither_26 (ct_ne c2) (tg := 56) (by decide)) ?_
        refine And.imp_left (rs_iconst i_X2_readEither_56 (v := 1) (by decide)) ?_
        have hf := Option.some.inj hf
        subst hf
        exact ⟨rs_iret i_X2_readEither_57 m_X2_readEither (by decide), SH⟩
      · replace hf := (if_neg c2).symm.trans hf
        refine And.imp_left (rs_icF i_X2_readEither_26 (cf_ne c2)) ?_
        refine And.imp_left (rs_aload_n i_X2_readEither_29 rfl) ?_
        obtain ⟨o3, e3, hf⟩ := bind_some hf
        obtain ⟨u3, SH2⟩ := k_X2_advance (X := X) (d := d) (by omega) (by omega) SH e3
        refine And.imp_left (rs_inV i_X2_readEither_30 m_X2_advance rfl (As := []) (rest := []) rfl rfl (Nat.le_of_ble_eq_true rfl) (sO2 SH hh) u3 (st' := []) rfl) ?_
        clear SH; have SH := SH2; clear SH2
        refine And.imp_left (rs_aload_n i_X2_readEither_33 rfl) ?_
        refine And.imp_left (rs_aload_n i_X2_readEither_34 rfl) ?_
        refine And.imp_left (rs_iload_n i_X2_readEither_35 rfl) ?_
        obtain ⟨o4, e4, hf⟩ := bind_some hf
        obtain ⟨u4, SH2⟩ := HS _ _ _ _ _ hv1 SH e4
        refine And.imp_left (rs_inV i_X2_readEither_36 m_X2_readBoth rfl (As := [.ref v1, .int v2]) (rest := []) rfl rfl (Nat.le_of_ble_eq_true rfl) (sO2 SH hh) u4 (st' := [.int o4.1]) rfl) ?_
        clear SH; have SH := SH2; clear SH2
        by_cases c5 : o4.1 ≠ 0
        · replace hf := (if_pos c5).symm.trans hf
          refine And.imp_left (rs_ifT i_X2_readEither_39 (ct_ne c5) (tg := 44) (by decide)) ?_
          refine And.imp_left (rs_aload_n i_X2_readEither_44 rfl) ?_
          refine And.imp_left (rs_bipush i_X2_readEither_45 (v := (-11)) (by decide)) ?_
          obtain ⟨o6, e6, hf⟩ := bind_some hf
          obtain ⟨u6, SH2⟩ := k_X6_add (X := X) (d := d) (by omega) (by omega) hv1 SH e6
          refine And.imp_left (rs_inV i_X2_readEither_47 m_X6_add rfl (As := [.int (-11)]) (rest := []) rfl rfl (Nat.le_of_ble_eq_true rfl) (sO6 SH hh hv1) u6 (st' := []) rfl) ?_
          clear SH; have SH := SH2; clear SH2
          refine And.imp_left (rs_iinc i_X2_readEither_50 rfl (v := v3 + 1) rfl (Nat.le_of_ble_eq_true rfl) (lv' := [some (.ref 31), some (.ref v1), some (.int v2), some (.int (v3 + 1))]) rfl) ?_
          refine And.imp_left (rs_goto i_X2_readEither_53 (tg := 13) (by decide)) ?_
          exact ih _ _ _ hv1 _ _ SH hf
        · replace hf := (if_neg c5).symm.trans hf
          refine And.imp_left (rs_ifF i_X2_readEither_39 (cf_ne c5)) ?_
          refine And.imp_left (rs_iconst i_X2_readEither_42 (v := 0) (by decide)) ?_
          have hf := Option.some.inj hf
          subst hf
          exact ⟨rs_iret i_X2_readEither_43 m_X2_readEither (by decide), SH⟩
noncomputable def g_X2_readEither_0 (n : Nat) (S : Nat → Nat → Int32 → Hp → Option (Int32 × Hp)) (v1 : Nat) (v2 : Int32) (h : Hp) : Option (Int32 × Hp) :=
  (S 14 v1 v2 h).bind fun o1 =>
  if o1.1 ≠ 0 then
    g_X2_readEither_13 n S n v1 v2 0 o1.2
  else
    some (0, o1.2)
set_option maxRecDepth 100000 in
set_option maxHeartbeats 4000000 in
theorem q_X2_readEither_0 {X : Nat → Int32} {d : Nat} (hd : 7 ≤ (d + 1)) {L hi : Nat} (hh : 96 ≤ hi) {n : Nat} {S : Nat → Nat → Int32 → Hp → Option (Int32 × Hp)} (HS : ∀ (tg v1 : Nat) (v2 : Int32) (h : Hp) (o : Int32 × Hp), OB6 v1 → SHP L hi h → S tg v1 v2 h = some o → Calls X d tg [.ref 31, .ref v1, .int v2] h (some (.int o.1), o.2) ∧ SHP L hi o.2) {v1 : Nat} {v2 : Int32} {h : Hp} {o : (Int32 × Hp)} (hv1 : OB6 v1) (SH : SHP L hi h) (hf : g_X2_readEither_0 n S v1 v2 h = some o) : Run X (d + 1) 13 0 [some (.ref 31), some (.ref v1), some (.int v2), none] [] h (some (.int o.1), o.2) ∧ SHP L hi o.2 := by
  unfold g_X2_readEither_0 at hf
  refine And.imp_left (rs_aload_n i_X2_readEither_0 rfl) ?_
  refine And.imp_left (rs_aload_n i_X2_readEither_1 rfl) ?_
  refine And.imp_left (rs_iload_n i_X2_readEither_2 rfl) ?_
  obtain ⟨o1, e1, hf⟩ := bind_some hf
  obtain ⟨u1, SH2⟩ := HS _ _ _ _ _ hv1 SH e1
  refine And.imp_left (rs_inV i_X2_readEither_3 m_X2_readBoth rfl (As := [.ref v1, .int v2]) (rest := []) rfl rfl (Nat.le_of_ble_eq_true rfl) (sO2 SH hh) u1 (st' := [.int o1.1]) rfl) ?_
  clear SH; have SH := SH2; clear SH2
  by_cases c2 : o1.1 ≠ 0
  · replace hf := (if_pos c2).symm.trans hf
    refine And.imp_left (rs_ifT i_X2_readEither_6 (ct_ne c2) (tg := 11) (by decide)) ?_
    refine And.imp_left (rs_iconst i_X2_readEither_11 (v := 0) (by decide)) ?_
    refine And.imp_left (rs_istore_n i_X2_readEither_12 (Nat.le_of_ble_eq_true rfl) (lv' := [some (.ref 31), some (.ref v1), some (.int v2), some (.int 0)]) rfl) ?_
    exact q_X2_readEither_13 hd hh HS _ _ _ _ hv1 _ _ SH hf
  · replace hf := (if_neg c2).symm.trans hf
    refine And.imp_left (rs_ifF i_X2_readEither_6 (cf_ne c2)) ?_
    refine And.imp_left (rs_iconst i_X2_readEither_9 (v := 0) (by decide)) ?_
    have hf := Option.some.inj hf
    subst hf
    exact ⟨rs_iret i_X2_readEither_10 m_X2_readEither (by decide), SH⟩
noncomputable def g_X2_readEither (n : Nat) (S : Nat → Nat → Int32 → Hp → Option (Int32 × Hp)) (v1 : Nat) (v2 : Int32) (h : Hp) : Option (Int32 × Hp) := g_X2_readEither_0 n S v1 v2 h
theorem k_X2_readEither {X : Nat → Int32} {d : Nat} (hd : 7 ≤ d) {L hi : Nat} (hh : 96 ≤ hi) {n : Nat} {S : Nat → Nat → Int32 → Hp → Option (Int32 × Hp)} (HS : ∀ (tg v1 : Nat) (v2 : Int32) (h : Hp) (o : Int32 × Hp), OB6 v1 → SHP L hi h → S tg v1 v2 h = some o → ∀ d', d = d' + 1 → Calls X d' tg [.ref 31, .ref v1, .int v2] h (some (.int o.1), o.2) ∧ SHP L hi o.2) {v1 : Nat} {v2 : Int32} {h : Hp} {o : (Int32 × Hp)} (hv1 : OB6 v1) (SH : SHP L hi h) (hf : g_X2_readEither n S v1 v2 h = some o) : Calls X d 13 [.ref 31, .ref v1, .int v2] h (some (.int o.1), o.2) ∧ SHP L hi o.2 := by
  obtain ⟨d, rfl⟩ : ∃ z, d = z + 1 := ⟨d - 1, by omega⟩
  obtain ⟨r, S2⟩ := q_X2_readEither_0 hd hh (fun tg v1 v2 h o h6 hS hf => HS tg v1 v2 h o h6 hS hf d rfl) hv1 SH hf
  exact ⟨⟨_, rfl, r⟩, S2⟩
noncomputable def g_scc (n : Nat) : Nat → Nat → Nat → Int32 → Hp → Option (Int32 × Hp)
  | 0, _, _, _, _ => none
  | m + 1, tg, v1, v2, h =>
    if tg = 13 then g_X2_readEither n (g_scc n m) v1 v2 h else
    if tg = 14 then g_X2_readBoth n (g_scc n m) v1 v2 h else
    if tg = 15 then g_X2_readNot n (g_scc n m) v1 v2 h else
    if tg = 16 then g_X2_readCompared n (g_scc n m) v1 v2 h else
    if tg = 17 then g_X2_readSum n (g_scc n m) v1 v2 h else
    if tg = 18 then g_X2_readProduct n (g_scc n m) v1 v2 h else
    if tg = 19 then g_X2_readOne n (g_scc n m) v1 v2 h else
    none
theorem k_scc {X : Nat → Int32} {L hi : Nat} (hh : 96 ≤ hi) {n : Nat} : ∀ (m d : Nat), 7 + m ≤ d → ∀ (tg v1 : Nat) (v2 : Int32) (h : Hp) (o : Int32 × Hp), OB6 v1 → SHP L hi h → g_scc n m tg v1 v2 h = some o → Calls X d tg [.ref 31, .ref v1, .int v2] h (some (.int o.1), o.2) ∧ SHP L hi o.2 := by
  intro m
  induction m with
  | zero => intro d hd tg v1 v2 h o h6 SH hf; cases hf
  | succ m ih =>
    intro d hd tg v1 v2 h o h6 SH hf
    have HS : ∀ (tg v1 : Nat) (v2 : Int32) (h : Hp) (o : Int32 × Hp), OB6 v1 → SHP L hi h → g_scc n m tg v1 v2 h = some o → ∀ d', d = d' + 1 → Calls X d' tg [.ref 31, .ref v1, .int v2] h (some (.int o.1), o.2) ∧ SHP L hi o.2 := fun tg v1 v2 h o h6 SH hf d' hd' => ih d' (by omega) tg v1 v2 h o h6 SH hf
    rw [g_scc] at hf
    by_cases c13 : tg = 13
    · replace hf := (if_pos c13).symm.trans hf
      subst c13
      exact k_X2_readEither (by omega) hh HS h6 SH hf
    replace hf := (if_neg c13).symm.trans hf
    by_cases c14 : tg = 14
    · replace hf := (if_pos c14).symm.trans hf
      subst c14
      exact k_X2_readBoth (by omega) hh HS h6 SH hf
    replace hf := (if_neg c14).symm.trans hf
    by_cases c15 : tg = 15
    · replace hf := (if_pos c15).symm.trans hf
      subst c15
      exact k_X2_readNot (by omega) hh HS h6 SH hf
    replace hf := (if_neg c15).symm.trans hf
    by_cases c16 : tg = 16
    · replace hf := (if_pos c16).symm.trans hf
      subst c16
      exact k_X2_readCompared (by omega) hh HS h6 SH hf
    replace hf := (if_neg c16).symm.trans hf
    by_cases c17 : tg = 17
    · replace hf := (if_pos c17).symm.trans hf
      subst c17
      exact k_X2_readSum (by omega) hh HS h6 SH hf
    replace hf := (if_neg c17).symm.trans hf
    by_cases c18 : tg = 18
    · replace hf := (if_pos c18).symm.trans hf
      subst c18
      exact k_X2_readProduct (by omega) hh HS h6 SH hf
    replace hf := (if_neg c18).symm.trans hf
    by_cases c19 : tg = 19
    · replace hf := (if_pos c19).symm.trans hf
      subst c19
      exact k_X2_readOne (by omega) hh HS h6 SH hf
    replace hf := (if_neg c19).symm.trans hf
    cases hf
theorem k_scc_X2_readEither {X : Nat → Int32} {d : Nat} (hd : 107 ≤ d) {L hi : Nat} (hh : 96 ≤ hi) {n v1 : Nat} {v2 : Int32} {h : Hp} {o : Int32 × Hp} (h6 : OB6 v1) (SH : SHP L hi h) (hf : g_scc n 100 13 v1 v2 h = some o) : Calls X d 13 [.ref 31, .ref v1, .int v2] h (some (.int o.1), o.2) ∧ SHP L hi o.2 := k_scc hh 100 d hd _ _ _ _ _ h6 SH hf
theorem k_scc_X2_readBoth {X : Nat → Int32} {d : Nat} (hd : 107 ≤ d) {L hi : Nat} (hh : 96 ≤ hi) {n v1 : Nat} {v2 : Int32} {h : Hp} {o : Int32 × Hp} (h6 : OB6 v1) (SH : SHP L hi h) (hf : g_scc n 100 14 v1 v2 h = some o) : Calls X d 14 [.ref 31, .ref v1, .int v2] h (some (.int o.1), o.2) ∧ SHP L hi o.2 := k_scc hh 100 d hd _ _ _ _ _ h6 SH hf
theorem k_scc_X2_readNot {X : Nat → Int32} {d : Nat} (hd : 107 ≤ d) {L hi : Nat} (hh : 96 ≤ hi) {n v1 : Nat} {v2 : Int32} {h : Hp} {o : Int32 × Hp} (h6 : OB6 v1) (SH : SHP L hi h) (hf : g_scc n 100 15 v1 v2 h = some o) : Calls X d 15 [.ref 31, .ref v1, .int v2] h (some (.int o.1), o.2) ∧ SHP L hi o.2 := k_scc hh 100 d hd _ _ _ _ _ h6 SH hf
theorem k_scc_X2_readCompared {X : Nat → Int32} {d : Nat} (hd : 107 ≤ d) {L hi : Nat} (hh : 96 ≤ hi) {n v1 : Nat} {v2 : Int32} {h : Hp} {o : Int32 × Hp} (h6 : OB6 v1) (SH : SHP L hi h) (hf : g_scc n 100 16 v1 v2 h = some o) : Calls X d 16 [.ref 31, .ref v1, .int v2] h (some (.int o.1), o.2) ∧ SHP L hi o.2 := k_scc hh 100 d hd _ _ _ _ _ h6 SH hf
theorem k_scc_X2_readSum {X : Nat → Int32} {d : Nat} (hd : 107 ≤ d) {L hi : Nat} (hh : 96 ≤ hi) {n v1 : Nat} {v2 : Int32} {h : Hp} {o : Int32 × Hp} (h6 : OB6 v1) (SH : SHP L hi h) (hf : g_scc n 100 17 v1 v2 h = some o) : Calls X d 17 [.ref 31, .ref v1, .int v2] h (some (.int o.1), o.2) ∧ SHP L hi o.2 := k_scc hh 100 d hd _ _ _ _ _ h6 SH hf
theorem k_scc_X2_readProduct {X : Nat → Int32} {d : Nat} (hd : 107 ≤ d) {L hi : Nat} (hh : 96 ≤ hi) {n v1 : Nat} {v2 : Int32} {h : Hp} {o : Int32 × Hp} (h6 : OB6 v1) (SH : SHP L hi h) (hf : g_scc n 100 18 v1 v2 h = some o) : Calls X d 18 [.ref 31, .ref v1, .int v2] h (some (.int o.1), o.2) ∧ SHP L hi o.2 := k_scc hh 100 d hd _ _ _ _ _ h6 SH hf
theorem k_scc_X2_readOne {X : Nat → Int32} {d : Nat} (hd : 107 ≤ d) {L hi : Nat} (hh : 96 ≤ hi) {n v1 : Nat} {v2 : Int32} {h : Hp} {o : Int32 × Hp} (h6 : OB6 v1) (SH : SHP L hi h) (hf : g_scc n 100 19 v1 v2 h = some o) : Calls X d 19 [.ref 31, .ref v1, .int v2] h (some (.int o.1), o.2) ∧ SHP L hi o.2 := k_scc hh 100 d hd _ _ _ _ _ h6 SH hf
noncomputable def g_X6_clear_0 (v0 : Nat) (h : Hp) : Option Hp :=
  some (hsi h v0 3 0)
set_option maxRecDepth 100000 in
set_option maxHeartbeats 4000000 in
theorem q_X6_clear_0 {X : Nat → Int32} {d : Nat} (hd : 0 ≤ d) {L hi : Nat} (hh : 96 ≤ hi) {v0 : Nat} {h : Hp} {o : Hp} (hv0 : OB6 v0) (SH : SHP L hi h) (hf : g_X6_clear_0 v0 h = some o) : Run X d 59 0 [some (.ref v0)] [] h (none, o) ∧ SHP L hi o := by
  unfold g_X6_clear_0 at hf
  refine And.imp_left (rs_aload_n i_X6_clear_0 rfl) ?_
  refine And.imp_left (rs_iconst i_X6_clear_1 (v := 0) (by decide)) ?_
  refine And.imp_left (rs_putI i_X6_clear_2 (by decide) (sO6 SH hh hv0)) ?_
  have SH := shi SH v0 3 0
  have hf := Option.some.inj hf
  subst hf
  exact ⟨rs_vret i_X6_clear_5 m_X6_clear rfl, SH⟩
noncomputable def g_X6_clear (v0 : Nat) (h : Hp) : Option Hp := g_X6_clear_0 v0 h
theorem k_X6_clear {X : Nat → Int32} {d : Nat} (hd : 0 ≤ d) {L hi : Nat} (hh : 96 ≤ hi) {v0 : Nat} {h : Hp} {o : Hp} (hv0 : OB6 v0) (SH : SHP L hi h) (hf : g_X6_clear v0 h = some o) : Calls X d 59 [.ref v0] h (none, o) ∧ SHP L hi o := by
  obtain ⟨r, S2⟩ := q_X6_clear_0 hd hh hv0 SH hf
  exact ⟨⟨_, rfl, r⟩, S2⟩
noncomputable def g_X6_endSection_0 (v0 : Nat) (v1 : Int32) (h : Hp) : Option Hp :=
  (g_X7_within v1 0 2 h).bind fun o1 =>
  if o1.1 = 0 then
    some o1.2
  else
    if inb v1 3 = true then
    some (hsi o1.2 (v0 + 2) (ix v1) (gI o1.2 v0 3))
    else none
set_option maxRecDepth 100000 in
set_option maxHeartbeats 4000000 in
theorem q_X6_endSection_0 {X : Nat → Int32} {d : Nat} (hd : 1 ≤ (d + 1)) {L hi : Nat} (hh : 96 ≤ hi) {v0 : Nat} {v1 : Int32} {h : Hp} {o : Hp} (hv0 : OB6 v0) (SH : SHP L hi h) (hf : g_X6_endSection_0 v0 v1 h = some o) : Run X (d + 1) 62 0 [some (.ref v0), some (.int v1)] [] h (none, o) ∧ SHP L hi o := by
  unfold g_X6_endSection_0 at hf
  refine And.imp_left (rs_iload_n i_X6_endSection_0 rfl) ?_
  refine And.imp_left (rs_iconst i_X6_endSection_1 (v := 0) (by decide)) ?_
  refine And.imp_left (rs_iconst i_X6_endSection_2 (v := 2) (by decide)) ?_
  obtain ⟨o1, e1, hf⟩ := bind_some hf
  obtain ⟨u1, SH2⟩ := k_X7_within (X := X) (d := d) (by omega) (by omega) SH e1
  refine And.imp_left (rs_inS i_X6_endSection_3 (by decide) m_X7_within rfl (As := [.int v1, .int 0, .int 2]) (rest := []) rfl rfl (Nat.le_of_ble_eq_true rfl) u1 (st' := [.int o1.1]) rfl) ?_
  clear SH; have SH := SH2; clear SH2
  by_cases c2 : o1.1 = 0
  · replace hf := (if_pos c2).symm.trans hf
    refine And.imp_left (rs_ifT i_X6_endSection_6 (ct_eq c2) (tg := 19) (by decide)) ?_
    have hf := Option.some.inj hf
    subst hf
    exact ⟨rs_vret i_X6_endSection_19 m_X6_endSection rfl, SH⟩
  · replace hf := (if_neg c2).symm.trans hf
    refine And.imp_left (rs_ifF i_X6_endSection_6 (cf_eq c2)) ?_
    refine And.imp_left (rs_aload_n i_X6_endSection_9 rfl) ?_
    refine And.imp_left (rs_getR i_X6_endSection_10 (by decide) (by decide) (sO6 SH hh hv0) (sR6_1 SH hh hv0)) ?_
    refine And.imp_left (rs_iload_n i_X6_endSection_13 rfl) ?_
    refine And.imp_left (rs_aload_n i_X6_endSection_14 rfl) ?_
    refine And.imp_left (rs_getI i_X6_endSection_15 (by decide) (by decide) (sO6 SH hh hv0)) ?_
    obtain ⟨c3, hf⟩ := ite_some hf
    refine And.imp_left (rs_iast i_X6_endSection_18 (mkI (sA SH hh (k := 9) (n := 3) (aR6_1 hv0)) c3)) ?_
    have SH := shi SH (v0 + 2) (ix v1) (gI o1.2 v0 3)
    have hf := Option.some.inj hf
    subst hf
    exact ⟨rs_vret i_X6_endSection_19 m_X6_endSection rfl, SH⟩
noncomputable def g_X6_endSection (v0 : Nat) (v1 : Int32) (h : Hp) : Option Hp := g_X6_endSection_0 v0 v1 h
theorem k_X6_endSection {X : Nat → Int32} {d : Nat} (hd : 1 ≤ d) {L hi : Nat} (hh : 96 ≤ hi) {v0 : Nat} {v1 : Int32} {h : Hp} {o : Hp} (hv0 : OB6 v0) (SH : SHP L hi h) (hf : g_X6_endSection v0 v1 h = some o) : Calls X d 62 [.ref v0, .int v1] h (none, o) ∧ SHP L hi o := by
  obtain ⟨d, rfl⟩ : ∃ z, d = z + 1 := ⟨d - 1, by omega⟩
  obtain ⟨r, S2⟩ := q_X6_endSection_0 hd hh hv0 SH hf
  exact ⟨⟨_, rfl, r⟩, S2⟩
noncomputable def g_X2_read_58 (n : Nat)  (h : Hp) : Option (Int32 × Hp) :=
  some ((gI h 31 4), h)
set_option maxRecDepth 100000 in
set_option maxHeartbeats 4000000 in
theorem q_X2_read_58 {X : Nat → Int32} {d : Nat} (hd : 108 ≤ (d + 1)) {L hi : Nat} (hh : 96 ≤ hi) {n : Nat} {d1 : Nat} {d2 : Int32} {h : Hp} {o : (Int32 × Hp)}  (SH : SHP L hi h) (hf : g_X2_read_58 n h = some o) : Run X (d + 1) 12 58 [some (.ref 31), some (.ref d1), some (.int d2)] [] h (some (.int o.1), o.2) ∧ SHP L hi o.2 := by
  unfold g_X2_read_58 at hf
  refine And.imp_left (rs_aload_n i_X2_read_58 rfl) ?_
  refine And.imp_left (rs_getI i_X2_read_59 (by decide) (by decide) (sO2 SH hh)) ?_
  have hf := Option.some.inj hf
  subst hf
  exact ⟨rs_iret i_X2_read_62 m_X2_read rfl, SH⟩
noncomputable def g_X2_read_15 (n : Nat) : Nat → Nat → Int32 → Hp → Option (Int32 × Hp)
  | 0, _, _, _ => none
  | m + 1, v1, v2, h =>
    if 3 ≤ v2 then
      if (gI h 31 3) ≠ 0 then
        some ((gI h 31 4), h)
      else
        some ((-1), h)
    else
      if (gI h 31 3) = (10 + v2) then
        (g_X2_advance n h).bind fun o4 =>
        (g_scc n 100 13 v1 0 o4).bind fun o5 =>
        if o5.1 = 0 then
          g_X2_read_58 n o5.2
        else
          if (gI o5.2 31 3) = 59 then
            (g_X2_advance n o5.2).bind fun o8 =>
            (g_X6_endSection v1 v2 o8).bind fun o9 =>
            (g_X2_read_15 n m) v1 (v2 + 1) o9
          else
            g_X2_read_58 n o5.2
      else
        some ((gI h 31 4), h)
set_option maxRecDepth 100000 in
set_option maxHeartbeats 4000000 in
theorem q_X2_read_15 {X : Nat → Int32} {d : Nat} (hd : 108 ≤ (d + 1)) {L hi : Nat} (hh : 96 ≤ hi) {n : Nat} : ∀ (m : Nat) (v1 : Nat) (v2 : Int32) (hv1 : OB6 v1) (h : Hp) (o : (Int32 × Hp)), SHP L hi h → g_X2_read_15 n m v1 v2 h = some o → Run X (d + 1) 12 15 [some (.ref 31), some (.ref v1), some (.int v2)] [] h (some (.int o.1), o.2) ∧ SHP L hi o.2 := by
  intro m
  induction m with
  | zero => intro v1 v2 hv1 h o SH hf; cases hf
  | succ m ih =>
    intro v1 v2 hv1 h o SH hf
    rw [g_X2_read_15] at hf
    refine And.imp_left (rs_iload_n i_X2_read_15 rfl) ?_
    refine And.imp_left (rs_iconst i_X2_read_16 (v := 3) (by decide)) ?_
    by_cases c1 : 3 ≤ v2
    · replace hf := (if_pos c1).symm.trans hf
      refine And.imp_left (rs_icT i_X2_read_17 (ct_ge c1) (tg := 78) (by decide)) ?_
      refine And.imp_left (rs_aload_n i_X2_read_78 rfl) ?_
      refine And.imp_left (rs_getI i_X2_read_79 (by decide) (by decide) (sO2 SH hh)) ?_
      by_cases c2 : (gI h 31 3) ≠ 0
      · replace hf := (if_pos c2).symm.trans hf
        refine And.imp_left (rs_ifT i_X2_read_82 (ct_ne c2) (tg := 89) (by decide)) ?_
        refine And.imp_left (rs_aload_n i_X2_read_89 rfl) ?_
        refine And.imp_left (rs_getI i_X2_read_90 (by decide) (by decide) (sO2 SH hh)) ?_
        have hf := Option.some.inj hf
        subst hf
        exact ⟨rs_iret i_X2_read_93 m_X2_read rfl, SH⟩
      · replace hf := (if_neg c2).symm.trans hf
        refine And.imp_left (rs_ifF i_X2_read_82 (cf_ne c2)) ?_
        refine And.imp_left (rs_iconst i_X2_read_85 (v := (-1)) (by decide)) ?_
        refine And.imp_left (rs_goto i_X2_read_86 (tg := 93) (by decide)) ?_
        have hf := Option.some.inj hf
        subst hf
        exact ⟨rs_iret i_X2_read_93 m_X2_read rfl, SH⟩
    · replace hf := (if_neg c1).symm.trans hf
      refine And.imp_left (rs_icF i_X2_read_17 (cf_ge c1)) ?_
      refine And.imp_left (rs_aload_n i_X2_read_20 rfl) ?_
      refine And.imp_left (rs_getI i_X2_read_21 (by decide) (by decide) (sO2 SH hh)) ?_
      refine And.imp_left (rs_bipush i_X2_read_24 (v := 10) (by decide)) ?_
      refine And.imp_left (rs_iload_n i_X2_read_26 rfl) ?_
      refine And.imp_left (rs_iadd i_X2_read_27) ?_
      by_cases c3 : (gI h 31 3) = (10 + v2)
      · replace hf := (if_pos c3).symm.trans hf
        refine And.imp_left (rs_icT i_X2_read_28 (ct_eq c3) (tg := 36) (by decide)) ?_
        refine And.imp_left (rs_aload_n i_X2_read_36 rfl) ?_
        obtain ⟨o4, e4, hf⟩ := bind_some hf
        obtain ⟨u4, SH2⟩ := k_X2_advance (X := X) (d := d) (by omega) (by omega) SH e4
        refine And.imp_left (rs_inV i_X2_read_37 m_X2_advance rfl (As := []) (rest := []) rfl rfl (Nat.le_of_ble_eq_true rfl) (sO2 SH hh) u4 (st' := []) rfl) ?_
        clear SH; have SH := SH2; clear SH2
        refine And.imp_left (rs_aload_n i_X2_read_40 rfl) ?_
        refine And.imp_left (rs_aload_n i_X2_read_41 rfl) ?_
        refine And.imp_left (rs_iconst i_X2_read_42 (v := 0) (by decide)) ?_
        obtain ⟨o5, e5, hf⟩ := bind_some hf
        obtain ⟨u5, SH2⟩ := k_scc_X2_readEither (X := X) (d := d) (by omega) hh hv1 SH e5
        refine And.imp_left (rs_inV i_X2_read_43 m_X2_readEither rfl (As := [.ref v1, .int 0]) (rest := []) rfl rfl (Nat.le_of_ble_eq_true rfl) (sO2 SH hh) u5 (st' := [.int o5.1]) rfl) ?_
        clear SH; have SH := SH2; clear SH2
        by_cases c6 : o5.1 = 0
        · replace hf := (if_pos c6).symm.trans hf
          refine And.imp_left (rs_ifT i_X2_read_46 (ct_eq c6) (tg := 58) (by decide)) ?_
          exact q_X2_read_58 hd hh SH hf
        · replace hf := (if_neg c6).symm.trans hf
          refine And.imp_left (rs_ifF i_X2_read_46 (cf_eq c6)) ?_
          refine And.imp_left (rs_aload_n i_X2_read_49 rfl) ?_
          refine And.imp_left (rs_getI i_X2_read_50 (by decide) (by decide) (sO2 SH hh)) ?_
          refine And.imp_left (rs_bipush i_X2_read_53 (v := 59) (by decide)) ?_
          by_cases c7 : (gI o5.2 31 3) = 59
          · replace hf := (if_pos c7).symm.trans hf
            refine And.imp_left (rs_icT i_X2_read_55 (ct_eq c7) (tg := 63) (by decide)) ?_
            refine And.imp_left (rs_aload_n i_X2_read_63 rfl) ?_
            obtain ⟨o8, e8, hf⟩ := bind_some hf
            obtain ⟨u8, SH2⟩ := k_X2_advance (X := X) (d := d) (by omega) (by omega) SH e8
            refine And.imp_left (rs_inV i_X2_read_64 m_X2_advance rfl (As := []) (rest := []) rfl rfl (Nat.le_of_ble_eq_true rfl) (sO2 SH hh) u8 (st' := []) rfl) ?_
            clear SH; have SH := SH2; clear SH2
            refine And.imp_left (rs_aload_n i_X2_read_67 rfl) ?_
            refine And.imp_left (rs_iload_n i_X2_read_68 rfl) ?_
            obtain ⟨o9, e9, hf⟩ := bind_some hf
            obtain ⟨u9, SH2⟩ := k_X6_endSection (X := X) (d := d) (by omega) (by omega) hv1 SH e9
            refine And.imp_left (rs_inV i_X2_read_69 m_X6_endSection rfl (As := [.int v2]) (rest := []) rfl rfl (Nat.le_of_ble_eq_true rfl) (sO6 SH hh hv1) u9 (st' := []) rfl) ?_
            clear SH; have SH := SH2; clear SH2
            refine And.imp_left (rs_iinc i_X2_read_72 rfl (v := v2 + 1) rfl (Nat.le_of_ble_eq_true rfl) (lv' := [some (.ref 31), some (.ref v1), some (.int (v2 + 1))]) rfl) ?_
            refine And.imp_left (rs_goto i_X2_read_75 (tg := 15) (by decide)) ?_
            exact ih _ _ hv1 _ _ SH hf
          · replace hf := (if_neg c7).symm.trans hf
            refine And.imp_left (rs_icF i_X2_read_55 (cf_eq c7)) ?_
            exact q_X2_read_58 hd hh SH hf
      · replace hf := (if_neg c3).symm.trans hf
        refine And.imp_left (rs_icF i_X2_read_28 (cf_eq c3)) ?_
        refine And.imp_left (rs_aload_n i_X2_read_31 rfl) ?_
        refine And.imp_left (rs_getI i_X2_read_32 (by decide) (by decide) (sO2 SH hh)) ?_
        have hf := Option.some.inj hf
        subst hf
        exact ⟨rs_iret i_X2_read_35 m_X2_read rfl, SH⟩
noncomputable def g_X2_read_9 (n : Nat) (v1 : Nat) (h : Hp) : Option (Int32 × Hp) :=
  (g_X2_advance n h).bind fun o1 =>
  g_X2_read_15 n n v1 0 o1
set_option maxRecDepth 100000 in
set_option maxHeartbeats 4000000 in
theorem q_X2_read_9 {X : Nat → Int32} {d : Nat} (hd : 108 ≤ (d + 1)) {L hi : Nat} (hh : 96 ≤ hi) {n : Nat} {v1 : Nat} {h : Hp} {o : (Int32 × Hp)} (hv1 : OB6 v1) (SH : SHP L hi h) (hf : g_X2_read_9 n v1 h = some o) : Run X (d + 1) 12 9 [some (.ref 31), some (.ref v1), none] [] h (some (.int o.1), o.2) ∧ SHP L hi o.2 := by
  unfold g_X2_read_9 at hf
  refine And.imp_left (rs_aload_n i_X2_read_9 rfl) ?_
  obtain ⟨o1, e1, hf⟩ := bind_some hf
  obtain ⟨u1, SH2⟩ := k_X2_advance (X := X) (d := d) (by omega) (by omega) SH e1
  refine And.imp_left (rs_inV i_X2_read_10 m_X2_advance rfl (As := []) (rest := []) rfl rfl (Nat.le_of_ble_eq_true rfl) (sO2 SH hh) u1 (st' := []) rfl) ?_
  clear SH; have SH := SH2; clear SH2
  refine And.imp_left (rs_iconst i_X2_read_13 (v := 0) (by decide)) ?_
  refine And.imp_left (rs_istore_n i_X2_read_14 (Nat.le_of_ble_eq_true rfl) (lv' := [some (.ref 31), some (.ref v1), some (.int 0)]) rfl) ?_
  exact q_X2_read_15 hd hh _ _ _ hv1 _ _ SH hf
noncomputable def g_X2_read_0 (n : Nat) (v1 : Nat) (h : Hp) : Option (Int32 × Hp) :=
  (g_X6_clear v1 h).bind fun o1 =>
  g_X2_read_9 n v1 (hsi o1 31 2 0)
set_option maxRecDepth 100000 in
set_option maxHeartbeats 4000000 in
theorem q_X2_read_0 {X : Nat → Int32} {d : Nat} (hd : 108 ≤ (d + 1)) {L hi : Nat} (hh : 96 ≤ hi) {n : Nat} {v1 : Nat} {h : Hp} {o : (Int32 × Hp)} (hv1 : OB6 v1) (SH : SHP L hi h) (hf : g_X2_read_0 n v1 h = some o) : Run X (d + 1) 12 0 [some (.ref 31), some (.ref v1), none] [] h (some (.int o.1), o.2) ∧ SHP L hi o.2 := by
  unfold g_X2_read_0 at hf
  refine And.imp_left (rs_aload_n i_X2_read_0 rfl) ?_
  obtain ⟨o1, e1, hf⟩ := bind_some hf
  obtain ⟨u1, SH2⟩ := k_X6_clear (X := X) (d := d) (by omega) (by omega) hv1 SH e1
  refine And.imp_left (rs_inV i_X2_read_1 m_X6_clear rfl (As := []) (rest := []) rfl rfl (Nat.le_of_ble_eq_true rfl) (sO6 SH hh hv1) u1 (st' := []) rfl) ?_
  clear SH; have SH := SH2; clear SH2
  refine And.imp_left (rs_aload_n i_X2_read_4 rfl) ?_
  refine And.imp_left (rs_iconst i_X2_read_5 (v := 0) (by decide)) ?_
  refine And.imp_left (rs_putI i_X2_read_6 (by decide) (sO2 SH hh)) ?_
  have SH := shi SH 31 2 0
  exact q_X2_read_9 hd hh hv1 SH hf
noncomputable def g_X2_read (n : Nat) (v1 : Nat) (h : Hp) : Option (Int32 × Hp) := g_X2_read_0 n v1 h
theorem k_X2_read {X : Nat → Int32} {d : Nat} (hd : 108 ≤ d) {L hi : Nat} (hh : 96 ≤ hi) {n : Nat} {v1 : Nat} {h : Hp} {o : (Int32 × Hp)} (hv1 : OB6 v1) (SH : SHP L hi h) (hf : g_X2_read n v1 h = some o) : Calls X d 12 [.ref 31, .ref v1] h (some (.int o.1), o.2) ∧ SHP L hi o.2 := by
  obtain ⟨d, rfl⟩ : ∃ z, d = z + 1 := ⟨d - 1, by omega⟩
  obtain ⟨r, S2⟩ := q_X2_read_0 hd hh hv1 SH hf
  exact ⟨⟨_, rfl, r⟩, S2⟩
noncomputable def g_X3_begin_73 (n : Nat) (v0 : Nat) (h : Hp) : Option Hp :=
  some (hsl h v0 11 1000000000)
set_option maxRecDepth 100000 in
set_option maxHeartbeats 4000000 in
theorem q_X3_begin_73 {X : Nat → Int32} {d : Nat} (hd : 0 ≤ d) {L hi : Nat} (hh : 96 ≤ hi) {n : Nat} {v0 : Nat} {d1 : Nat} {d2 : Int32} {h : Hp} {o : Hp} (hv0 : OB3 v0) (SH : SHP L hi h) (hf : g_X3_begin_73 n v0 h = some o) : Run X d 28 73 [some (.ref v0), some (.ref d1), some (.int d2)] [] h (none, o) ∧ SHP L hi o := by
  unfold g_X3_begin_73 at hf
  refine And.imp_left (rs_aload_n i_X3_begin_73 rfl) ?_
  refine And.imp_left (rs_ldc2 i_X3_begin_74 (v := 1000000000) (by decide)) ?_
  refine And.imp_left (rs_putL i_X3_begin_77 (by decide) (sO3 SH hh hv0)) ?_
  have SH := shl SH v0 11 1000000000
  have hf := Option.some.inj hf
  subst hf
  exact ⟨rs_vret i_X3_begin_80 m_X3_begin rfl, SH⟩
noncomputable def g_X3_begin_66 (n : Nat) (v0 : Nat) (h : Hp) : Option Hp :=
  g_X3_begin_73 n v0 (hsl h v0 10 1000000000)
set_option maxRecDepth 100000 in
set_option maxHeartbeats 4000000 in
theorem q_X3_begin_66 {X : Nat → Int32} {d : Nat} (hd : 0 ≤ d) {L hi : Nat} (hh : 96 ≤ hi) {n : Nat} {v0 : Nat} {d1 : Nat} {d2 : Int32} {h : Hp} {o : Hp} (hv0 : OB3 v0) (SH : SHP L hi h) (hf : g_X3_begin_66 n v0 h = some o) : Run X d 28 66 [some (.ref v0), some (.ref d1), some (.int d2)] [] h (none, o) ∧ SHP L hi o := by
  unfold g_X3_begin_66 at hf
  refine And.imp_left (rs_aload_n i_X3_begin_66 rfl) ?_
  refine And.imp_left (rs_ldc2 i_X3_begin_67 (v := 1000000000) (by decide)) ?_
  refine And.imp_left (rs_putL i_X3_begin_70 (by decide) (sO3 SH hh hv0)) ?_
  have SH := shl SH v0 10 1000000000
  exact q_X3_begin_73 hd hh hv0 SH hf
noncomputable def g_X3_begin_61 (n : Nat) (v0 : Nat) (h : Hp) : Option Hp :=
  g_X3_begin_66 n v0 (hsi h v0 9 0)
set_option maxRecDepth 100000 in
set_option maxHeartbeats 4000000 in
theorem q_X3_begin_61 {X : Nat → Int32} {d : Nat} (hd : 0 ≤ d) {L hi : Nat} (hh : 96 ≤ hi) {n : Nat} {v0 : Nat} {d1 : Nat} {d2 : Int32} {h : Hp} {o : Hp} (hv0 : OB3 v0) (SH : SHP L hi h) (hf : g_X3_begin_61 n v0 h = some o) : Run X d 28 61 [some (.ref v0), some (.ref d1), some (.int d2)] [] h (none, o) ∧ SHP L hi o := by
  unfold g_X3_begin_61 at hf
  refine And.imp_left (rs_aload_n i_X3_begin_61 rfl) ?_
  refine And.imp_left (rs_iconst i_X3_begin_62 (v := 0) (by decide)) ?_
  refine And.imp_left (rs_putI i_X3_begin_63 (by decide) (sO3 SH hh hv0)) ?_
  have SH := shi SH v0 9 0
  exact q_X3_begin_66 hd hh hv0 SH hf
noncomputable def g_X3_begin_56 (n : Nat) (v0 : Nat) (h : Hp) : Option Hp :=
  g_X3_begin_61 n v0 (hsi h v0 8 0)
set_option maxRecDepth 100000 in
set_option maxHeartbeats 4000000 in
theorem q_X3_begin_56 {X : Nat → Int32} {d : Nat} (hd : 0 ≤ d) {L hi : Nat} (hh : 96 ≤ hi) {n : Nat} {v0 : Nat} {d1 : Nat} {d2 : Int32} {h : Hp} {o : Hp} (hv0 : OB3 v0) (SH : SHP L hi h) (hf : g_X3_begin_56 n v0 h = some o) : Run X d 28 56 [some (.ref v0), some (.ref d1), some (.int d2)] [] h (none, o) ∧ SHP L hi o := by
  unfold g_X3_begin_56 at hf
  refine And.imp_left (rs_aload_n i_X3_begin_56 rfl) ?_
  refine And.imp_left (rs_iconst i_X3_begin_57 (v := 0) (by decide)) ?_
  refine And.imp_left (rs_putI i_X3_begin_58 (by decide) (sO3 SH hh hv0)) ?_
  have SH := shi SH v0 8 0
  exact q_X3_begin_61 hd hh hv0 SH hf
noncomputable def g_X3_begin_32 (n : Nat) : Nat → Nat → Int32 → Hp → Option Hp
  | 0, _, _, _ => none
  | m + 1, v0, v2, h =>
    if 12 ≤ v2 then
      g_X3_begin_56 n v0 (hsi h v0 7 0)
    else
      if inb v2 12 = true then
      (g_X3_begin_32 n m) v0 (v2 + 1) (hsi h (v0 + 3) (ix v2) 0)
      else none
set_option maxRecDepth 100000 in
set_option maxHeartbeats 4000000 in
theorem q_X3_begin_32 {X : Nat → Int32} {d : Nat} (hd : 0 ≤ d) {L hi : Nat} (hh : 96 ≤ hi) {n : Nat} : ∀ (m : Nat) (v0 : Nat) (v2 : Int32) (d1 : Nat) (hv0 : OB3 v0) (h : Hp) (o : Hp), SHP L hi h → g_X3_begin_32 n m v0 v2 h = some o → Run X d 28 32 [some (.ref v0), some (.ref d1), some (.int v2)] [] h (none, o) ∧ SHP L hi o := by
  intro m
  induction m with
  | zero => intro v0 v2 d1 hv0 h o SH hf; cases hf
  | succ m ih =>
    intro v0 v2 d1 hv0 h o SH hf
    rw [g_X3_begin_32] at hf
    refine And.imp_left (rs_iload_n i_X3_begin_32 rfl) ?_
    refine And.imp_left (rs_bipush i_X3_begin_33 (v := 12) (by decide)) ?_
    by_cases c1 : 12 ≤ v2
    · replace hf := (if_pos c1).symm.trans hf
      refine And.imp_left (rs_icT i_X3_begin_35 (ct_ge c1) (tg := 51) (by decide)) ?_
      refine And.imp_left (rs_aload_n i_X3_begin_51 rfl) ?_
      refine And.imp_left (rs_iconst i_X3_begin_52 (v := 0) (by decide)) ?_
      refine And.imp_left (rs_putI i_X3_begin_53 (by decide) (sO3 SH hh hv0)) ?_
      have SH := shi SH v0 7 0
      exact q_X3_begin_56 hd hh hv0 SH hf
    · replace hf := (if_neg c1).symm.trans hf
      refine And.imp_left (rs_icF i_X3_begin_35 (cf_ge c1)) ?_
      refine And.imp_left (rs_aload_n i_X3_begin_38 rfl) ?_
      refine And.imp_left (rs_getR i_X3_begin_39 (by decide) (by decide) (sO3 SH hh hv0) (sR3_2 SH hh hv0)) ?_
      refine And.imp_left (rs_iload_n i_X3_begin_42 rfl) ?_
      refine And.imp_left (rs_iconst i_X3_begin_43 (v := 0) (by decide)) ?_
      obtain ⟨c2, hf⟩ := ite_some hf
      refine And.imp_left (rs_iast i_X3_begin_44 (mkI (sA SH hh (k := 9) (n := 12) (aR3_2 hv0)) c2)) ?_
      have SH := shi SH (v0 + 3) (ix v2) 0
      refine And.imp_left (rs_iinc i_X3_begin_45 rfl (v := v2 + 1) rfl (Nat.le_of_ble_eq_true rfl) (lv' := [some (.ref v0), some (.ref d1), some (.int (v2 + 1))]) rfl) ?_
      refine And.imp_left (rs_goto i_X3_begin_48 (tg := 32) (by decide)) ?_
      exact ih _ _ _ hv0 _ _ SH hf
noncomputable def g_X3_begin_15 (n : Nat) (v0 : Nat) (v1 : Nat) (h : Hp) : Option Hp :=
  g_X3_begin_32 n n v0 0 (hcp h (v1 + 2) (ix 0) (v0 + 2) (ix 0) (ix 12))
set_option maxRecDepth 100000 in
set_option maxHeartbeats 4000000 in
theorem q_X3_begin_15 {X : Nat → Int32} {d : Nat} (hd : 0 ≤ d) {L hi : Nat} (hh : 96 ≤ hi) {n : Nat} {v0 : Nat} {v1 : Nat} {h : Hp} {o : Hp} (hv0 : OB3 v0) (hv1 : OB0 v1) (SH : SHP L hi h) (hf : g_X3_begin_15 n v0 v1 h = some o) : Run X d 28 15 [some (.ref v0), some (.ref v1), none] [] h (none, o) ∧ SHP L hi o := by
  unfold g_X3_begin_15 at hf
  refine And.imp_left (rs_aload_n i_X3_begin_15 rfl) ?_
  refine And.imp_left (rs_getR i_X3_begin_16 (by decide) (by decide) (sO0 SH hh hv1) (sR0_1 SH hh hv1)) ?_
  refine And.imp_left (rs_iconst i_X3_begin_19 (v := 0) (by decide)) ?_
  refine And.imp_left (rs_aload_n i_X3_begin_20 rfl) ?_
  refine And.imp_left (rs_getR i_X3_begin_21 (by decide) (by decide) (sO3 SH hh hv0) (sR3_1 SH hh hv0)) ?_
  refine And.imp_left (rs_iconst i_X3_begin_24 (v := 0) (by decide)) ?_
  refine And.imp_left (rs_bipush i_X3_begin_25 (v := 12) (by decide)) ?_
  refine And.imp_left (rs_acp i_X3_begin_27 (mkCp (sA SH hh (k := 9) (n := 12) (aR0_1 hv1)) (sA SH hh (k := 9) (n := 12) (aR3_1 hv0)) (by decide)) (Nat.le_of_ble_eq_true rfl)) ?_
  have SH := shc SH (v1 + 2) (ix 0) (v0 + 2) (ix 0) (ix 12)
  refine And.imp_left (rs_iconst i_X3_begin_30 (v := 0) (by decide)) ?_
  refine And.imp_left (rs_istore_n i_X3_begin_31 (Nat.le_of_ble_eq_true rfl) (lv' := [some (.ref v0), some (.ref v1), some (.int 0)]) rfl) ?_
  exact q_X3_begin_32 hd hh _ _ _ _ hv0 _ _ SH hf
noncomputable def g_X3_begin_0 (n : Nat) (v0 : Nat) (v1 : Nat) (h : Hp) : Option Hp :=
  g_X3_begin_15 n v0 v1 (hcp h (v1 + 1) (ix 0) (v0 + 1) (ix 0) (ix 12))
set_option maxRecDepth 100000 in
set_option maxHeartbeats 4000000 in
theorem q_X3_begin_0 {X : Nat → Int32} {d : Nat} (hd : 0 ≤ d) {L hi : Nat} (hh : 96 ≤ hi) {n : Nat} {v0 : Nat} {v1 : Nat} {h : Hp} {o : Hp} (hv0 : OB3 v0) (hv1 : OB0 v1) (SH : SHP L hi h) (hf : g_X3_begin_0 n v0 v1 h = some o) : Run X d 28 0 [some (.ref v0), some (.ref v1), none] [] h (none, o) ∧ SHP L hi o := by
  unfold g_X3_begin_0 at hf
  refine And.imp_left (rs_aload_n i_X3_begin_0 rfl) ?_
  refine And.imp_left (rs_getR i_X3_begin_1 (by decide) (by decide) (sO0 SH hh hv1) (sR0_0 SH hh hv1)) ?_
  refine And.imp_left (rs_iconst i_X3_begin_4 (v := 0) (by decide)) ?_
  refine And.imp_left (rs_aload_n i_X3_begin_5 rfl) ?_
  refine And.imp_left (rs_getR i_X3_begin_6 (by decide) (by decide) (sO3 SH hh hv0) (sR3_0 SH hh hv0)) ?_
  refine And.imp_left (rs_iconst i_X3_begin_9 (v := 0) (by decide)) ?_
  refine And.imp_left (rs_bipush i_X3_begin_10 (v := 12) (by decide)) ?_
  refine And.imp_left (rs_acp i_X3_begin_12 (mkCp (sA SH hh (k := 9) (n := 12) (aR0_0 hv1)) (sA SH hh (k := 9) (n := 12) (aR3_0 hv0)) (by decide)) (Nat.le_of_ble_eq_true rfl)) ?_
  have SH := shc SH (v1 + 1) (ix 0) (v0 + 1) (ix 0) (ix 12)
  exact q_X3_begin_15 hd hh hv0 hv1 SH hf
noncomputable def g_X3_begin (n : Nat) (v0 : Nat) (v1 : Nat) (h : Hp) : Option Hp := g_X3_begin_0 n v0 v1 h
theorem k_X3_begin {X : Nat → Int32} {d : Nat} (hd : 0 ≤ d) {L hi : Nat} (hh : 96 ≤ hi) {n : Nat} {v0 : Nat} {v1 : Nat} {h : Hp} {o : Hp} (hv0 : OB3 v0) (hv1 : OB0 v1) (SH : SHP L hi h) (hf : g_X3_begin n v0 v1 h = some o) : Calls X d 28 [.ref v0, .ref v1] h (none, o) ∧ SHP L hi o := by
  obtain ⟨r, S2⟩ := q_X3_begin_0 hd hh hv0 hv1 SH hf
  exact ⟨⟨_, rfl, r⟩, S2⟩
noncomputable def g_X3_become_77 (v0 : Nat) (v1 : Nat) (h : Hp) : Option Hp :=
  some (hsl h v0 11 (gL' h v1 11))
set_option maxRecDepth 100000 in
set_option maxHeartbeats 4000000 in
theorem q_X3_become_77 {X : Nat → Int32} {d : Nat} (hd : 0 ≤ d) {L hi : Nat} (hh : 96 ≤ hi) {v0 : Nat} {v1 : Nat} {h : Hp} {o : Hp} (hv0 : OB3 v0) (hv1 : OB3 v1) (SH : SHP L hi h) (hf : g_X3_become_77 v0 v1 h = some o) : Run X d 29 77 [some (.ref v0), some (.ref v1)] [] h (none, o) ∧ SHP L hi o := by
  unfold g_X3_become_77 at hf
  refine And.imp_left (rs_aload_n i_X3_become_77 rfl) ?_
  refine And.imp_left (rs_aload_n i_X3_become_78 rfl) ?_
  refine And.imp_left (rs_getL i_X3_become_79 (by decide) (by decide) (sO3 SH hh hv1)) ?_
  refine And.imp_left (rs_putL i_X3_become_82 (by decide) (sO3 SH hh hv0)) ?_
  have SH := shl SH v0 11 (gL' h v1 11)
  have hf := Option.some.inj hf
  subst hf
  exact ⟨rs_vret i_X3_become_85 m_X3_become rfl, SH⟩
noncomputable def g_X3_become_69 (v0 : Nat) (v1 : Nat) (h : Hp) : Option Hp :=
  g_X3_become_77 v0 v1 (hsl h v0 10 (gL' h v1 10))
set_option maxRecDepth 100000 in
set_option maxHeartbeats 4000000 in
theorem q_X3_become_69 {X : Nat → Int32} {d : Nat} (hd : 0 ≤ d) {L hi : Nat} (hh : 96 ≤ hi) {v0 : Nat} {v1 : Nat} {h : Hp} {o : Hp} (hv0 : OB3 v0) (hv1 : OB3 v1) (SH : SHP L hi h) (hf : g_X3_become_69 v0 v1 h = some o) : Run X d 29 69 [some (.ref v0), some (.ref v1)] [] h (none, o) ∧ SHP L hi o := by
  unfold g_X3_become_69 at hf
  refine And.imp_left (rs_aload_n i_X3_become_69 rfl) ?_
  refine And.imp_left (rs_aload_n i_X3_become_70 rfl) ?_
  refine And.imp_left (rs_getL i_X3_become_71 (by decide) (by decide) (sO3 SH hh hv1)) ?_
  refine And.imp_left (rs_putL i_X3_become_74 (by decide) (sO3 SH hh hv0)) ?_
  have SH := shl SH v0 10 (gL' h v1 10)
  exact q_X3_become_77 hd hh hv0 hv1 SH hf
noncomputable def g_X3_become_61 (v0 : Nat) (v1 : Nat) (h : Hp) : Option Hp :=
  g_X3_become_69 v0 v1 (hsi h v0 9 (gI h v1 9))
set_option maxRecDepth 100000 in
set_option maxHeartbeats 4000000 in
theorem q_X3_become_61 {X : Nat → Int32} {d : Nat} (hd : 0 ≤ d) {L hi : Nat} (hh : 96 ≤ hi) {v0 : Nat} {v1 : Nat} {h : Hp} {o : Hp} (hv0 : OB3 v0) (hv1 : OB3 v1) (SH : SHP L hi h) (hf : g_X3_become_61 v0 v1 h = some o) : Run X d 29 61 [some (.ref v0), some (.ref v1)] [] h (none, o) ∧ SHP L hi o := by
  unfold g_X3_become_61 at hf
  refine And.imp_left (rs_aload_n i_X3_become_61 rfl) ?_
  refine And.imp_left (rs_aload_n i_X3_become_62 rfl) ?_
  refine And.imp_left (rs_getI i_X3_become_63 (by decide) (by decide) (sO3 SH hh hv1)) ?_
  refine And.imp_left (rs_putI i_X3_become_66 (by decide) (sO3 SH hh hv0)) ?_
  have SH := shi SH v0 9 (gI h v1 9)
  exact q_X3_become_69 hd hh hv0 hv1 SH hf
noncomputable def g_X3_become_53 (v0 : Nat) (v1 : Nat) (h : Hp) : Option Hp :=
  g_X3_become_61 v0 v1 (hsi h v0 8 (gI h v1 8))
set_option maxRecDepth 100000 in
set_option maxHeartbeats 4000000 in
theorem q_X3_become_53 {X : Nat → Int32} {d : Nat} (hd : 0 ≤ d) {L hi : Nat} (hh : 96 ≤ hi) {v0 : Nat} {v1 : Nat} {h : Hp} {o : Hp} (hv0 : OB3 v0) (hv1 : OB3 v1) (SH : SHP L hi h) (hf : g_X3_become_53 v0 v1 h = some o) : Run X d 29 53 [some (.ref v0), some (.ref v1)] [] h (none, o) ∧ SHP L hi o := by
  unfold g_X3_become_53 at hf
  refine And.imp_left (rs_aload_n i_X3_become_53 rfl) ?_
  refine And.imp_left (rs_aload_n i_X3_become_54 rfl) ?_
  refine And.imp_left (rs_getI i_X3_become_55 (by decide) (by decide) (sO3 SH hh hv1)) ?_
  refine And.imp_left (rs_putI i_X3_become_58 (by decide) (sO3 SH hh hv0)) ?_
  have SH := shi SH v0 8 (gI h v1 8)
  exact q_X3_become_61 hd hh hv0 hv1 SH hf
noncomputable def g_X3_become_45 (v0 : Nat) (v1 : Nat) (h : Hp) : Option Hp :=
  g_X3_become_53 v0 v1 (hsi h v0 7 (gI h v1 7))
set_option maxRecDepth 100000 in
set_option maxHeartbeats 4000000 in
theorem q_X3_become_45 {X : Nat → Int32} {d : Nat} (hd : 0 ≤ d) {L hi : Nat} (hh : 96 ≤ hi) {v0 : Nat} {v1 : Nat} {h : Hp} {o : Hp} (hv0 : OB3 v0) (hv1 : OB3 v1) (SH : SHP L hi h) (hf : g_X3_become_45 v0 v1 h = some o) : Run X d 29 45 [some (.ref v0), some (.ref v1)] [] h (none, o) ∧ SHP L hi o := by
  unfold g_X3_become_45 at hf
  refine And.imp_left (rs_aload_n i_X3_become_45 rfl) ?_
  refine And.imp_left (rs_aload_n i_X3_become_46 rfl) ?_
  refine And.imp_left (rs_getI i_X3_become_47 (by decide) (by decide) (sO3 SH hh hv1)) ?_
  refine And.imp_left (rs_putI i_X3_become_50 (by decide) (sO3 SH hh hv0)) ?_
  have SH := shi SH v0 7 (gI h v1 7)
  exact q_X3_become_53 hd hh hv0 hv1 SH hf
noncomputable def g_X3_become_30 (v0 : Nat) (v1 : Nat) (h : Hp) : Option Hp :=
  g_X3_become_45 v0 v1 (hcp h (v1 + 3) (ix 0) (v0 + 3) (ix 0) (ix 12))
set_option maxRecDepth 100000 in
set_option maxHeartbeats 4000000 in
theorem q_X3_become_30 {X : Nat → Int32} {d : Nat} (hd : 0 ≤ d) {L hi : Nat} (hh : 96 ≤ hi) {v0 : Nat} {v1 : Nat} {h : Hp} {o : Hp} (hv0 : OB3 v0) (hv1 : OB3 v1) (SH : SHP L hi h) (hf : g_X3_become_30 v0 v1 h = some o) : Run X d 29 30 [some (.ref v0), some (.ref v1)] [] h (none, o) ∧ SHP L hi o := by
  unfold g_X3_become_30 at hf
  refine And.imp_left (rs_aload_n i_X3_become_30 rfl) ?_
  refine And.imp_left (rs_getR i_X3_become_31 (by decide) (by decide) (sO3 SH hh hv1) (sR3_2 SH hh hv1)) ?_
  refine And.imp_left (rs_iconst i_X3_become_34 (v := 0) (by decide)) ?_
  refine And.imp_left (rs_aload_n i_X3_become_35 rfl) ?_
  refine And.imp_left (rs_getR i_X3_become_36 (by decide) (by decide) (sO3 SH hh hv0) (sR3_2 SH hh hv0)) ?_
  refine And.imp_left (rs_iconst i_X3_become_39 (v := 0) (by decide)) ?_
  refine And.imp_left (rs_bipush i_X3_become_40 (v := 12) (by decide)) ?_
  refine And.imp_left (rs_acp i_X3_become_42 (mkCp (sA SH hh (k := 9) (n := 12) (aR3_2 hv1)) (sA SH hh (k := 9) (n := 12) (aR3_2 hv0)) (by decide)) (Nat.le_of_ble_eq_true rfl)) ?_
  have SH := shc SH (v1 + 3) (ix 0) (v0 + 3) (ix 0) (ix 12)
  exact q_X3_become_45 hd hh hv0 hv1 SH hf
noncomputable def g_X3_become_15 (v0 : Nat) (v1 : Nat) (h : Hp) : Option Hp :=
  g_X3_become_30 v0 v1 (hcp h (v1 + 2) (ix 0) (v0 + 2) (ix 0) (ix 12))
set_option maxRecDepth 100000 in
set_option maxHeartbeats 4000000 in
theorem q_X3_become_15 {X : Nat → Int32} {d : Nat} (hd : 0 ≤ d) {L hi : Nat} (hh : 96 ≤ hi) {v0 : Nat} {v1 : Nat} {h : Hp} {o : Hp} (hv0 : OB3 v0) (hv1 : OB3 v1) (SH : SHP L hi h) (hf : g_X3_become_15 v0 v1 h = some o) : Run X d 29 15 [some (.ref v0), some (.ref v1)] [] h (none, o) ∧ SHP L hi o := by
  unfold g_X3_become_15 at hf
  refine And.imp_left (rs_aload_n i_X3_become_15 rfl) ?_
  refine And.imp_left (rs_getR i_X3_become_16 (by decide) (by decide) (sO3 SH hh hv1) (sR3_1 SH hh hv1)) ?_
  refine And.imp_left (rs_iconst i_X3_become_19 (v := 0) (by decide)) ?_
  refine And.imp_left (rs_aload_n i_X3_become_20 rfl) ?_
  refine And.imp_left (rs_getR i_X3_become_21 (by decide) (by decide) (sO3 SH hh hv0) (sR3_1 SH hh hv0)) ?_
  refine And.imp_left (rs_iconst i_X3_become_24 (v := 0) (by decide)) ?_
  refine And.imp_left (rs_bipush i_X3_become_25 (v := 12) (by decide)) ?_
  refine And.imp_left (rs_acp i_X3_become_27 (mkCp (sA SH hh (k := 9) (n := 12) (aR3_1 hv1)) (sA SH hh (k := 9) (n := 12) (aR3_1 hv0)) (by decide)) (Nat.le_of_ble_eq_true rfl)) ?_
  have SH := shc SH (v1 + 2) (ix 0) (v0 + 2) (ix 0) (ix 12)
  exact q_X3_become_30 hd hh hv0 hv1 SH hf
noncomputable def g_X3_become_0 (v0 : Nat) (v1 : Nat) (h : Hp) : Option Hp :=
  g_X3_become_15 v0 v1 (hcp h (v1 + 1) (ix 0) (v0 + 1) (ix 0) (ix 12))
set_option maxRecDepth 100000 in
set_option maxHeartbeats 4000000 in
theorem q_X3_become_0 {X : Nat → Int32} {d : Nat} (hd : 0 ≤ d) {L hi : Nat} (hh : 96 ≤ hi) {v0 : Nat} {v1 : Nat} {h : Hp} {o : Hp} (hv0 : OB3 v0) (hv1 : OB3 v1) (SH : SHP L hi h) (hf : g_X3_become_0 v0 v1 h = some o) : Run X d 29 0 [some (.ref v0), some (.ref v1)] [] h (none, o) ∧ SHP L hi o := by
  unfold g_X3_become_0 at hf
  refine And.imp_left (rs_aload_n i_X3_become_0 rfl) ?_
  refine And.imp_left (rs_getR i_X3_become_1 (by decide) (by decide) (sO3 SH hh hv1) (sR3_0 SH hh hv1)) ?_
  refine And.imp_left (rs_iconst i_X3_become_4 (v := 0) (by decide)) ?_
  refine And.imp_left (rs_aload_n i_X3_become_5 rfl) ?_
  refine And.imp_left (rs_getR i_X3_become_6 (by decide) (by decide) (sO3 SH hh hv0) (sR3_0 SH hh hv0)) ?_
  refine And.imp_left (rs_iconst i_X3_become_9 (v := 0) (by decide)) ?_
  refine And.imp_left (rs_bipush i_X3_become_10 (v := 12) (by decide)) ?_
  refine And.imp_left (rs_acp i_X3_become_12 (mkCp (sA SH hh (k := 9) (n := 12) (aR3_0 hv1)) (sA SH hh (k := 9) (n := 12) (aR3_0 hv0)) (by decide)) (Nat.le_of_ble_eq_true rfl)) ?_
  have SH := shc SH (v1 + 1) (ix 0) (v0 + 1) (ix 0) (ix 12)
  exact q_X3_become_15 hd hh hv0 hv1 SH hf
noncomputable def g_X3_become (v0 : Nat) (v1 : Nat) (h : Hp) : Option Hp := g_X3_become_0 v0 v1 h
theorem k_X3_become {X : Nat → Int32} {d : Nat} (hd : 0 ≤ d) {L hi : Nat} (hh : 96 ≤ hi) {v0 : Nat} {v1 : Nat} {h : Hp} {o : Hp} (hv0 : OB3 v0) (hv1 : OB3 v1) (SH : SHP L hi h) (hf : g_X3_become v0 v1 h = some o) : Calls X d 29 [.ref v0, .ref v1] h (none, o) ∧ SHP L hi o := by
  obtain ⟨r, S2⟩ := q_X3_become_0 hd hh hv0 hv1 SH hf
  exact ⟨⟨_, rfl, r⟩, S2⟩
noncomputable def g_X3_bounce_53 (n : Nat) (K2 : Nat → Int32 → Hp → Option Hp) (v0 : Nat) (v1 : Int32) (v2 : Int32) (s0 : Int32) (h : Hp) : Option Hp :=
  if inb v1 12 = true then
  K2 v0 (v1 + 1) (hsi h (v0 + 5) (ix v1) ((((2 * (gI h (v0 + 2) (ix v1))) + v2) + s0) / 4))
  else none
set_option maxRecDepth 100000 in
set_option maxHeartbeats 4000000 in
theorem q_X3_bounce_53 {X : Nat → Int32} {d : Nat} (hd : 0 ≤ d) {L hi : Nat} (hh : 96 ≤ hi) {n : Nat} {K2 : Nat → Int32 → Hp → Option Hp} (HK2 : ∀ (v0 : Nat) (v1 : Int32) (w2 : Option Value) (w3 : Option Value) (hv0 : OB3 v0) (h : Hp) (o : Hp), SHP L hi h → K2 v0 v1 h = some o → Run X d 34 2 [some (.ref v0), some (.int v1), w2, w3] [] h (none, o) ∧ SHP L hi o) {v0 : Nat} {v1 : Int32} {v2 : Int32} {s0 : Int32} {w3 : Option Value} {h : Hp} {o : Hp} (hv0 : OB3 v0) (SH : SHP L hi h) (hf : g_X3_bounce_53 n K2 v0 v1 v2 s0 h = some o) : Run X d 34 53 [some (.ref v0), some (.int v1), some (.int v2), w3] [.int s0] h (none, o) ∧ SHP L hi o := by
  unfold g_X3_bounce_53 at hf
  refine And.imp_left (rs_istore_n i_X3_bounce_53 (Nat.le_of_ble_eq_true rfl) (lv' := [some (.ref v0), some (.int v1), some (.int v2), some (.int s0)]) rfl) ?_
  refine And.imp_left (rs_aload_n i_X3_bounce_54 rfl) ?_
  refine And.imp_left (rs_getR i_X3_bounce_55 (by decide) (by decide) (sO3 SH hh hv0) (sR3_4 SH hh hv0)) ?_
  refine And.imp_left (rs_iload_n i_X3_bounce_58 rfl) ?_
  refine And.imp_left (rs_iconst i_X3_bounce_59 (v := 2) (by decide)) ?_
  refine And.imp_left (rs_aload_n i_X3_bounce_60 rfl) ?_
  refine And.imp_left (rs_getR i_X3_bounce_61 (by decide) (by decide) (sO3 SH hh hv0) (sR3_1 SH hh hv0)) ?_
  refine And.imp_left (rs_iload_n i_X3_bounce_64 rfl) ?_
  obtain ⟨c1, hf⟩ := ite_some hf
  refine And.imp_left (rs_iald i_X3_bounce_65 (mkI (sA SH hh (k := 9) (n := 12) (aR3_1 hv0)) c1)) ?_
  refine And.imp_left (rs_imul i_X3_bounce_66) ?_
  refine And.imp_left (rs_iload_n i_X3_bounce_67 rfl) ?_
  refine And.imp_left (rs_iadd i_X3_bounce_68) ?_
  refine And.imp_left (rs_iload_n i_X3_bounce_69 rfl) ?_
  refine And.imp_left (rs_iadd i_X3_bounce_70) ?_
  refine And.imp_left (rs_iconst i_X3_bounce_71 (v := 4) (by decide)) ?_
  refine And.imp_left (rs_idiv i_X3_bounce_72 (by decide)) ?_
  refine And.imp_left (rs_iast i_X3_bounce_73 (mkI (sA SH hh (k := 9) (n := 12) (aR3_4 hv0)) c1)) ?_
  have SH := shi SH (v0 + 5) (ix v1) ((((2 * (gI h (v0 + 2) (ix v1))) + v2) + s0) / 4)
  refine And.imp_left (rs_iinc i_X3_bounce_74 rfl (v := v1 + 1) rfl (Nat.le_of_ble_eq_true rfl) (lv' := [some (.ref v0), some (.int (v1 + 1)), some (.int v2), some (.int s0)]) rfl) ?_
  refine And.imp_left (rs_goto i_X3_bounce_77 (tg := 2) (by decide)) ?_
  exact HK2 _ _ _ _ hv0 _ _ SH hf
noncomputable def g_X3_bounce_29 (n : Nat) (K2 : Nat → Int32 → Hp → Option Hp) (v0 : Nat) (v1 : Int32) (s0 : Int32) (h : Hp) : Option Hp :=
  if 11 ≤ v1 then
    if inb v1 12 = true then
    g_X3_bounce_53 n K2 v0 v1 s0 (gI h (v0 + 2) (ix v1)) h
    else none
  else
    if inb (v1 + 1) 12 = true then
    g_X3_bounce_53 n K2 v0 v1 s0 (gI h (v0 + 2) (ix (v1 + 1))) h
    else none
set_option maxRecDepth 100000 in
set_option maxHeartbeats 4000000 in
theorem q_X3_bounce_29 {X : Nat → Int32} {d : Nat} (hd : 0 ≤ d) {L hi : Nat} (hh : 96 ≤ hi) {n : Nat} {K2 : Nat → Int32 → Hp → Option Hp} (HK2 : ∀ (v0 : Nat) (v1 : Int32) (w2 : Option Value) (w3 : Option Value) (hv0 : OB3 v0) (h : Hp) (o : Hp), SHP L hi h → K2 v0 v1 h = some o → Run X d 34 2 [some (.ref v0), some (.int v1), w2, w3] [] h (none, o) ∧ SHP L hi o) {v0 : Nat} {v1 : Int32} {s0 : Int32} {w2 : Option Value} {w3 : Option Value} {h : Hp} {o : Hp} (hv0 : OB3 v0) (SH : SHP L hi h) (hf : g_X3_bounce_29 n K2 v0 v1 s0 h = some o) : Run X d 34 29 [some (.ref v0), some (.int v1), w2, w3] [.int s0] h (none, o) ∧ SHP L hi o := by
  unfold g_X3_bounce_29 at hf
  refine And.imp_left (rs_istore_n i_X3_bounce_29 (Nat.le_of_ble_eq_true rfl) (lv' := [some (.ref v0), some (.int v1), some (.int s0), w3]) rfl) ?_
  refine And.imp_left (rs_iload_n i_X3_bounce_30 rfl) ?_
  refine And.imp_left (rs_bipush i_X3_bounce_31 (v := 11) (by decide)) ?_
  by_cases c1 : 11 ≤ v1
  · replace hf := (if_pos c1).symm.trans hf
    refine And.imp_left (rs_icT i_X3_bounce_33 (ct_ge c1) (tg := 47) (by decide)) ?_
    refine And.imp_left (rs_aload_n i_X3_bounce_47 rfl) ?_
    refine And.imp_left (rs_getR i_X3_bounce_48 (by decide) (by decide) (sO3 SH hh hv0) (sR3_1 SH hh hv0)) ?_
    refine And.imp_left (rs_iload_n i_X3_bounce_51 rfl) ?_
    obtain ⟨c2, hf⟩ := ite_some hf
    refine And.imp_left (rs_iald i_X3_bounce_52 (mkI (sA SH hh (k := 9) (n := 12) (aR3_1 hv0)) c2)) ?_
    exact q_X3_bounce_53 hd hh HK2 hv0 SH hf
  · replace hf := (if_neg c1).symm.trans hf
    refine And.imp_left (rs_icF i_X3_bounce_33 (cf_ge c1)) ?_
    refine And.imp_left (rs_aload_n i_X3_bounce_36 rfl) ?_
    refine And.imp_left (rs_getR i_X3_bounce_37 (by decide) (by decide) (sO3 SH hh hv0) (sR3_1 SH hh hv0)) ?_
    refine And.imp_left (rs_iload_n i_X3_bounce_40 rfl) ?_
    refine And.imp_left (rs_iconst i_X3_bounce_41 (v := 1) (by decide)) ?_
    refine And.imp_left (rs_iadd i_X3_bounce_42) ?_
    obtain ⟨c3, hf⟩ := ite_some hf
    refine And.imp_left (rs_iald i_X3_bounce_43 (mkI (sA SH hh (k := 9) (n := 12) (aR3_1 hv0)) c3)) ?_
    refine And.imp_left (rs_goto i_X3_bounce_44 (tg := 53) (by decide)) ?_
    exact q_X3_bounce_53 hd hh HK2 hv0 SH hf
noncomputable def g_X3_bounce_2 (n : Nat) : Nat → Nat → Int32 → Hp → Option Hp
  | 0, _, _, _ => none
  | m + 1, v0, v1, h =>
    if 12 ≤ v1 then
      some (hcp h (v0 + 5) (ix 0) (v0 + 2) (ix 0) (ix 12))
    else
      if v1 ≤ 0 then
        if inb v1 12 = true then
        g_X3_bounce_29 n (g_X3_bounce_2 n m) v0 v1 (gI h (v0 + 2) (ix v1)) h
        else none
      else
        if inb (v1 - 1) 12 = true then
        g_X3_bounce_29 n (g_X3_bounce_2 n m) v0 v1 (gI h (v0 + 2) (ix (v1 - 1))) h
        else none
set_option maxRecDepth 100000 in
set_option maxHeartbeats 4000000 in
theorem q_X3_bounce_2 {X : Nat → Int32} {d : Nat} (hd : 0 ≤ d) {L hi : Nat} (hh : 96 ≤ hi) {n : Nat} : ∀ (m : Nat) (v0 : Nat) (v1 : Int32) (w2 : Option Value) (w3 : Option Value) (hv0 : OB3 v0) (h : Hp) (o : Hp), SHP L hi h → g_X3_bounce_2 n m v0 v1 h = some o → Run X d 34 2 [some (.ref v0), some (.int v1), w2, w3] [] h (none, o) ∧ SHP L hi o := by
  intro m
  induction m with
  | zero => intro v0 v1 w2 w3 hv0 h o SH hf; cases hf
  | succ m ih =>
    intro v0 v1 w2 w3 hv0 h o SH hf
    rw [g_X3_bounce_2] at hf
    refine And.imp_left (rs_iload_n i_X3_bounce_2 rfl) ?_
    refine And.imp_left (rs_bipush i_X3_bounce_3 (v := 12) (by decide)) ?_
    by_cases c1 : 12 ≤ v1
    · replace hf := (if_pos c1).symm.trans hf
      refine And.imp_left (rs_icT i_X3_bounce_5 (ct_ge c1) (tg := 80) (by decide)) ?_
      refine And.imp_left (rs_aload_n i_X3_bounce_80 rfl) ?_
      refine And.imp_left (rs_getR i_X3_bounce_81 (by decide) (by decide) (sO3 SH hh hv0) (sR3_4 SH hh hv0)) ?_
      refine And.imp_left (rs_iconst i_X3_bounce_84 (v := 0) (by decide)) ?_
      refine And.imp_left (rs_aload_n i_X3_bounce_85 rfl) ?_
      refine And.imp_left (rs_getR i_X3_bounce_86 (by decide) (by decide) (sO3 SH hh hv0) (sR3_1 SH hh hv0)) ?_
      refine And.imp_left (rs_iconst i_X3_bounce_89 (v := 0) (by decide)) ?_
      refine And.imp_left (rs_bipush i_X3_bounce_90 (v := 12) (by decide)) ?_
      refine And.imp_left (rs_acp i_X3_bounce_92 (mkCp (sA SH hh (k := 9) (n := 12) (aR3_4 hv0)) (sA SH hh (k := 9) (n := 12) (aR3_1 hv0)) (by decide)) (Nat.le_of_ble_eq_true rfl)) ?_
      have SH := shc SH (v0 + 5) (ix 0) (v0 + 2) (ix 0) (ix 12)
      have hf := Option.some.inj hf
      subst hf
      exact ⟨rs_vret i_X3_bounce_95 m_X3_bounce rfl, SH⟩
    · replace hf := (if_neg c1).symm.trans hf
      refine And.imp_left (rs_icF i_X3_bounce_5 (cf_ge c1)) ?_
      refine And.imp_left (rs_iload_n i_X3_bounce_8 rfl) ?_
      by_cases c2 : v1 ≤ 0
      · replace hf := (if_pos c2).symm.trans hf
        refine And.imp_left (rs_ifT i_X3_bounce_9 (ct_le c2) (tg := 23) (by decide)) ?_
        refine And.imp_left (rs_aload_n i_X3_bounce_23 rfl) ?_
        refine And.imp_left (rs_getR i_X3_bounce_24 (by decide) (by decide) (sO3 SH hh hv0) (sR3_1 SH hh hv0)) ?_
        refine And.imp_left (rs_iload_n i_X3_bounce_27 rfl) ?_
        obtain ⟨c3, hf⟩ := ite_some hf
        refine And.imp_left (rs_iald i_X3_bounce_28 (mkI (sA SH hh (k := 9) (n := 12) (aR3_1 hv0)) c3)) ?_
        exact q_X3_bounce_29 hd hh ih hv0 SH hf
      · replace hf := (if_neg c2).symm.trans hf
        refine And.imp_left (rs_ifF i_X3_bounce_9 (cf_le c2)) ?_
        refine And.imp_left (rs_aload_n i_X3_bounce_12 rfl) ?_
        refine And.imp_left (rs_getR i_X3_bounce_13 (by decide) (by decide) (sO3 SH hh hv0) (sR3_1 SH hh hv0)) ?_
        refine And.imp_left (rs_iload_n i_X3_bounce_16 rfl) ?_
        refine And.imp_left (rs_iconst i_X3_bounce_17 (v := 1) (by decide)) ?_
        refine And.imp_left (rs_isub i_X3_bounce_18) ?_
        obtain ⟨c4, hf⟩ := ite_some hf
        refine And.imp_left (rs_iald i_X3_bounce_19 (mkI (sA SH hh (k := 9) (n := 12) (aR3_1 hv0)) c4)) ?_
        refine And.imp_left (rs_goto i_X3_bounce_20 (tg := 29) (by decide)) ?_
        exact q_X3_bounce_29 hd hh ih hv0 SH hf
noncomputable def g_X3_bounce_0 (n : Nat) (v0 : Nat) (h : Hp) : Option Hp :=
  g_X3_bounce_2 n n v0 0 h
set_option maxRecDepth 100000 in
set_option maxHeartbeats 4000000 in
theorem q_X3_bounce_0 {X : Nat → Int32} {d : Nat} (hd : 0 ≤ d) {L hi : Nat} (hh : 96 ≤ hi) {n : Nat} {v0 : Nat} {h : Hp} {o : Hp} (hv0 : OB3 v0) (SH : SHP L hi h) (hf : g_X3_bounce_0 n v0 h = some o) : Run X d 34 0 [some (.ref v0), none, none, none] [] h (none, o) ∧ SHP L hi o := by
  unfold g_X3_bounce_0 at hf
  refine And.imp_left (rs_iconst i_X3_bounce_0 (v := 0) (by decide)) ?_
  refine And.imp_left (rs_istore_n i_X3_bounce_1 (Nat.le_of_ble_eq_true rfl) (lv' := [some (.ref v0), some (.int 0), none, none]) rfl) ?_
  exact q_X3_bounce_2 hd hh _ _ _ _ _ hv0 _ _ SH hf
noncomputable def g_X3_bounce (n : Nat) (v0 : Nat) (h : Hp) : Option Hp := g_X3_bounce_0 n v0 h
theorem k_X3_bounce {X : Nat → Int32} {d : Nat} (hd : 0 ≤ d) {L hi : Nat} (hh : 96 ≤ hi) {n : Nat} {v0 : Nat} {h : Hp} {o : Hp} (hv0 : OB3 v0) (SH : SHP L hi h) (hf : g_X3_bounce n v0 h = some o) : Calls X d 34 [.ref v0] h (none, o) ∧ SHP L hi o := by
  obtain ⟨r, S2⟩ := q_X3_bounce_0 hd hh hv0 SH hf
  exact ⟨⟨_, rfl, r⟩, S2⟩
