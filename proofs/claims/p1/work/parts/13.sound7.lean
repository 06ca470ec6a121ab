section SND7
variable (G : GT)
theorem aputf_1 {h h' : Hp} {a ci k : Nat} {v : Value} (hv : aputf h a ci k v = some h') : h'.1 = h.1 := by
  unfold aputf at hv
  split at hv
  · split at hv
    · split at hv
      · cases hv; rfl
      · split at hv
        · cases hv; rfl
        · cases hv
    · split at hv
      · cases hv; rfl
      · cases hv
    · split at hv
      · cases hv; rfl
      · cases hv
    · cases hv
  · cases hv
theorem KOK_1 {h h' : Hp} (e : h'.1 = h.1) (hok : KOK h) : KOK h' := fun a h1 h2 => by rw [hk_1 e]; exact hok a h1 (by rw [← e]; exact h2)
theorem KOK_new {h : Hp} {q : Nat × Nat} (hq : q.1 < 14) (hok : KOK h) : KOK (hnew h q) := fun a h1 h2 => by
  rw [len_new] at h2
  by_cases e : a = h.1.length
  · subst e
    rw [hk_newest]
    exact hq
  · rw [hk_new (by omega)]
    exact hok a h1 (by omega)
theorem step_kind {X : Nat → Int32} {mi pc : Nat} {lv : Lv} {st : List Value} {h : Hp} {q : AI} {pc' : Nat} {lv' : Lv} {st' : List Value} {h' : Hp} (hs : astep minf X mi q pc lv st h = some (.inl (pc', lv', st', h'))) : h'.1 = h.1 ∨ ∃ z : Nat × Nat, z.1 < 14 ∧ h' = hnew h z := by
  obtain ⟨i, nx, a, b, c, t⟩ := q
  cases i
  case putfield =>
    simp only [astep, a_go] at hs
    split at hs
    · split at hs
      · next hv =>
        cases hs
        exact Or.inl (aputf_1 hv)
      · cases hs
    · cases hs
  case new =>
    simp only [astep, a_go] at hs
    split at hs
    · next hlt =>
      cases hs
      exact Or.inr ⟨_, hlt, rfl⟩
    · cases hs
  case newarray =>
    simp only [astep, a_go] at hs
    split at hs
    · split at hs
      · next hlt =>
        cases hs
        exact Or.inr ⟨_, hlt.2.2, rfl⟩
      · cases hs
    · cases hs
  case anewarray =>
    simp only [astep, a_go] at hs
    split at hs
    · split at hs
      · next hlt =>
        cases hs
        exact Or.inr ⟨_, hlt.2.2, rfl⟩
      · cases hs
    · cases hs
  all_goals
    simp only [astep, a_go, a_jmp, a_call, a_math] at hs
    first
    | (cases hs; done)
    | (refine Or.inl ?_; (repeat' split at hs) <;> first | (cases hs; done) | (cases hs; rfl))
theorem step_ok {mi pc : Nat} {lv : Lv} {st : List Value} {h : Hp} {q : AI} {pc' : Nat} {lv' : Lv} {st' : List Value} {h' : Hp} (hok : KOK h) (hck : ∀ M, minf[mi]? = some M → chkI M pc q = true) (hs : astep minf (gX G) mi q pc lv st h = some (.inl (pc', lv', st', h'))) : StepOK G mi pc lv st h pc' lv' st' h' := by
  obtain ⟨i, nx, a, b, c, t⟩ := q
  cases i
  case aload_n => exact sg_aload_n G hck hs
  case aload => exact sg_aload G hck hs
  case iload_n => exact sg_iload_n G hck hs
  case iload => exact sg_iload G hck hs
  case lload_n => exact sg_lload_n G hck hs
  case lload => exact sg_lload G hck hs
  case astore_n => exact sg_astore_n G hck hs
  case astore => exact sg_astore G hck hs
  case istore_n => exact sg_istore_n G hck hs
  case istore => exact sg_istore G hck hs
  case lstore_n => exact sg_lstore_n G hck hs
  case lstore => exact sg_lstore G hck hs
  case iinc => exact sg_iinc G hck hs
  case iconst => exact sg_iconst G hck hs
  case bipush => exact sg_bipush G hck hs
  case sipush => exact sg_sipush G hck hs
  case lconst => exact sg_lconst G hck hs
  case ldc => exact sg_ldc G hck hs
  case ldc_w => exact sg_ldc_w G hck hs
  case ldc2_w => exact sg_ldc2_w G hck hs
  case iadd => exact sg_iadd G hck hs
  case isub => exact sg_isub G hck hs
  case imul => exact sg_imul G hck hs
  case iand => exact sg_iand G hck hs
  case ior => exact sg_ior G hck hs
  case idiv => exact sg_idiv G hck hs
  case irem => exact sg_irem G hck hs
  case ineg => exact sg_ineg G hck hs
  case ishl => exact sg_ishl G hck hs
  case ishr => exact sg_ishr G hck hs
  case ladd => exact sg_ladd G hck hs
  case lsub => exact sg_lsub G hck hs
  case lmul => exact sg_lmul G hck hs
  case land => exact sg_land G hck hs
  case lor => exact sg_lor G hck hs
  case ldiv => exact sg_ldiv G hck hs
  case lrem => exact sg_lrem G hck hs
  case lneg => exact sg_lneg G hck hs
  case lshl => exact sg_lshl G hck hs
  case lshr => exact sg_lshr G hck hs
  case lushr => exact sg_lushr G hck hs
  case lcmp => exact sg_lcmp G hck hs
  case i2l => exact sg_i2l G hck hs
  case l2i => exact sg_l2i G hck hs
  case i2b => exact sg_i2b G hck hs
  case i2s => exact sg_i2s G hck hs
  case i2c => exact sg_i2c G hck hs
  case dup => exact sg_dup G hck hs
  case dup2 => exact sg_dup2 G hck hs
  case pop => exact sg_pop G hck hs
  case pop2 => exact sg_pop2 G hck hs
  case goto => exact sg_goto G hck hs
  case ifCond cd off =>
    cases cd
    · exact sg_if_eq G hck hs
    · exact sg_if_ne G hck hs
    · exact sg_if_lt G hck hs
    · exact sg_if_ge G hck hs
    · exact sg_if_gt G hck hs
    · exact sg_if_le G hck hs
  case if_icmp cd off =>
    cases cd
    · exact sg_icmp_eq G hck hs
    · exact sg_icmp_ne G hck hs
    · exact sg_icmp_lt G hck hs
    · exact sg_icmp_ge G hck hs
    · exact sg_icmp_gt G hck hs
    · exact sg_icmp_le G hck hs
  case tableswitch => exact sg_tableswitch G hck hs
  case lookupswitch => exact sg_lookupswitch G hck hs
  case getfield => exact sg_getfield G hok hck hs
  case putfield => exact sg_putfield G hck hs
  case getstatic => exact sg_getstatic G hck hs
  case arraylength => exact sg_arraylength G hok hck hs
  case iaload => exact sg_iaload G hok hck hs
  case baload => exact sg_baload G hok hck hs
  case laload => exact sg_laload G hck hs
  case aaload => exact sg_aaload G hck hs
  case iastore => exact sg_iastore G hck hs
  case lastore => exact sg_lastore G hck hs
  case aastore => exact sg_aastore G hck hs
  case newarray => exact sg_newarray G hck hs
  case anewarray => exact sg_anewarray G hck hs
  case new => exact sg_new G hck hs
  case invokespecial =>
    by_cases e : a = 1000
    · subst e; exact sg_objInit G hck hs
    · simp only [astep, a_call] at hs
      rw [if_neg e] at hs
      (repeat' split at hs) <;> cases hs
  case invokestatic =>
    by_cases e : a = 1001
    · subst e; exact sg_arraycopy G hck hs
    · by_cases e2 : 1002 ≤ a ∧ a ≤ 1006
      · exact sg_math G e2 hck hs
      · simp only [astep, a_call] at hs
        rw [if_neg e, if_neg e2] at hs
        (repeat' split at hs) <;> cases hs
  all_goals
    simp only [astep, a_call] at hs
    (repeat' split at hs) <;> cases hs
end SND7
