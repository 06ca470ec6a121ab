section SND9
variable (G : GT)
theorem ck_invs {M N : MI} {pc nx a b t idx : Nat} {c : Int} (ha : a < 1000) (hN : minf[a]? = some N) (h : chkI M pc (.invokestatic idx, nx, a, b, c, t) = true) : N.2.2.2.2.2.2.1 = 0 ∧ (b = 0 → Cond.methodLink M.1 idx N.2.2.1 ∈ TBLG) ∧ (b ≠ 0 → nestM M.1 idx N.2.2.1 ∈ nestW) := by
  unfold chkI at h
  simp only [Bool.and_eq_true] at h
  have h := h.2
  rw [if_neg (by omega), if_neg (by omega), hN] at h
  simp only [Bool.and_eq_true, decide_eq_true_eq] at h
  refine ⟨h.1, fun e => ?_, fun e => ?_⟩
  · have h2 := h.2
    rw [if_pos e] at h2
    exact tbg h2
  · have h2 := h.2
    rw [if_neg e] at h2
    simpa using h2
theorem ck_invv {M N : MI} {pc nx a b t idx : Nat} {c : Int} (ha : a < 1000) (hN : minf[a]? = some N) (h : chkI M pc (.invokevirtual idx, nx, a, b, c, t) = true) : N.2.2.2.2.2.2.1 = 1 ∧ (b = 0 → Cond.methodLink M.1 idx N.2.2.1 ∈ TBLG) ∧ (b ≠ 0 → nestM M.1 idx N.2.2.1 ∈ nestW) := by
  unfold chkI at h
  simp only [Bool.and_eq_true] at h
  have h := h.2
  rw [hN] at h
  simp only [Bool.and_eq_true, decide_eq_true_eq] at h
  refine ⟨h.1, fun e => ?_, fun e => ?_⟩
  · have h2 := h.2
    rw [if_pos e] at h2
    exact tbg h2
  · have h2 := h.2
    rw [if_neg e] at h2
    simpa using h2
theorem ck_invi {M N : MI} {pc nx a b t idx : Nat} {c : Int} (ha : a < 1000) (hN : minf[a]? = some N) (h : chkI M pc (.invokespecial idx, nx, a, b, c, t) = true) : N.2.2.2.2.2.2.1 = 2 ∧ (b = 0 → Cond.methodLink M.1 idx N.2.2.1 ∈ TBLG) ∧ (b ≠ 0 → nestM M.1 idx N.2.2.1 ∈ nestW) := by
  unfold chkI at h
  simp only [Bool.and_eq_true] at h
  have h := h.2
  rw [if_neg (by omega), hN] at h
  simp only [Bool.and_eq_true, decide_eq_true_eq] at h
  refine ⟨h.1, fun e => ?_, fun e => ?_⟩
  · have h2 := h.2
    rw [if_pos e] at h2
    exact tbg h2
  · have h2 := h.2
    rw [if_neg e] at h2
    simpa using h2
/-- what the check says of a method -/
noncomputable def MOK (N : MI) : Prop := (if N.2.2.2.2.2.2.1 = 0 then Cond.static N.2.2.1 else .instanceMethod N.2.2.1) ∈ TBLG ∧ (N.2.2.2.2.2.2.1 = 1 → Cond.selects N.2.2.1.cls N.2.2.1 N.2.2.1 ∈ TBLG) ∧ Cond.initialized N.2.2.1.cls ∈ TBLG ∧
  (N.2.2.1.cls = N.1 ∧ plainName N.2.2.1.cls = true ∧ N.2.2.1.cls ≠ "java/lang/invoke/MethodHandle" ∧ N.2.2.1.cls ≠ "java/lang/invoke/VarHandle" ∧ (parseMethodDescriptor N.2.2.1.desc).map (fun d => d.parameters.length) = some N.2.2.2.2.2.2.2.1) ∧
  N.2.2.2.2.1 ≤ 20 ∧ (N.2.2.2.2.2.2.1 = 2 → N.2.2.1.name = "<init>") ∧ (N.2.2.2.2.2.2.1 ≠ 0 → Rf N.2.1 = N.1 ∧ (N.2.1 < 9 ∨ N.2.1 = 20)) ∧ (N.2.2.2.2.2.2.1 = 2 → N.2.2.2.2.2.1 = none)
theorem mok {N : MI} (h : chkM N = true) : MOK N := by
  unfold chkM at h
  simp only [Bool.and_eq_true, Bool.or_eq_true, decide_eq_true_eq] at h
  obtain ⟨⟨⟨⟨⟨⟨⟨h1, h2⟩, h3⟩, h4⟩, h5⟩, h6⟩, h7⟩, h8⟩ := h
  refine ⟨tbg h1, fun e => ?_, tbg h3, h4, h5, h6, fun e => ?_, h8.2⟩
  · rcases h2 with h2 | h2
    · exact absurd e h2
    · exact tbg h2
  · rcases h7 with h7 | h7
    · exact absurd h7 e
    · exact h7
noncomputable def PRE (h : Hp) (U : State) : Prop := Rl G h U.heap ∧ va_K (gD G) vwCl (tysG G) U ∧ ROF G U ∧ U.heap.size = gz G + (h.1.length - 16)
noncomputable def QC (rv : Option Value) (h1 : Hp) : Array Value → State → Outcome → State → Prop := fun _ st oc t => (oc = .returned (rv.map (cv G)) ∧ Rl G h1 t.heap) ∧ va_F (AG G) st t
noncomputable def RetAt (M : MI) (pcr : Nat) (rv : Option Value) : Prop := match rv with
  | none => decode M.2.2.2.1 pcr = .ok (.return_, 1) ∧ M.2.2.2.2.2.1 = none
  | some (.int v) => decode M.2.2.2.1 pcr = .ok (.ireturn, 1) ∧ okret M.2.2.2.2.2.1 v = true
  | some (.long _) => decode M.2.2.2.1 pcr = .ok (.lreturn, 1) ∧ M.2.2.2.2.2.1 = some .long
  | _ => False
/-- a run of the abstract machine is one of the machine -/
noncomputable def Sim (d mi pc : Nat) (lv : Lv) (st : List Value) (h : Hp) (rv : Option Value) (h' : Hp) : Prop :=
  h.1.length ≤ h'.1.length ∧ slt h ≤ slt h' ∧ KOK h' ∧
  ∀ (M : MI) (p : Program) (l : Launch) (e : Env) (R : Room) (s : State) (m : MethodId) (args : Array Value) (below : List Frame) (meth : Method) (c : Code) (H : Heap) (locs : List Loc) (cells slots : Nat) (Q : State → Prop) (ls : Array Slot),
    SCtx G mi M p s m args meth c → lv.length = M.2.2.2.2.1 → LRl G lv ls → Rl G h H → va_S (AG G) s.heap H locs → d + 1 ≤ R.frames → 40 * d + 100 ≤ R.locals → cells + (h'.1.length - h.1.length) ≤ R.cells → slots + (slt h' - slt h) ≤ R.slots → s.heap.size + cells = gz G + (h.1.length - 16) →
    (∀ (H' : Heap) (locs' : List Loc) (ls' : Array Slot) (pcr : Nat), Rl G h' H' → va_S (AG G) s.heap H' locs' → RetAt M pcr rv → W p l e R s m args below meth c H' locs' (cells + (h'.1.length - h.1.length)) (slots + (slt h' - slt h)) Q (F0 m pcr ls' (rv.toList.map (cv G)))) →
    W p l e R s m args below meth c H locs cells slots Q (F0 m pc ls (st.map (cv G)))
theorem ws_good {N : MI} (hc : Cond.code N.2.2.1 N.2.2.2.1 N.2.2.2.2.1 N.2.2.2.2.2.1 ∈ TBLG) : GoodIn TBLG (Cond.code N.2.2.1 N.2.2.2.1 N.2.2.2.2.1 N.2.2.2.2.2.1 :: TBLG) := by
  intro w hw
  have hm : w ∈ TBLG := by
    rcases List.mem_cons.mp hw with rfl | h
    · exact hc
    · exact h
  exact ⟨hm, good_of_word (List.mem_filter.mp hm).2⟩
theorem met_of {l : Launch} {d cal : Nat} {N : MI} {vs : List Value} {lv0 : Lv} {h h1 : Hp} {rv : Option Value} (hcal : minf[cal]? = some N) (hmok : MOK N) (hent : aent cal vs = some lv0) (hS : Sim G d cal 0 lv0 [] h rv h1) :
    Met l N.2.2.1 (Cond.code N.2.2.1 N.2.2.2.1 N.2.2.2.2.1 N.2.2.2.2.2.1 :: TBLG) ({ frames := d + 1, cells := h1.1.length - h.1.length, slots := slt h1 - slt h, locals := 40 * d + 100 }) (va_Pc (vs.map (cv G)) (PRE G h)) (QC G rv h1) (h1.1.length - h.1.length) (slt h1 - slt h) (AG G) := by
  obtain ⟨-, -, -, ⟨hcls, hplain, -⟩, -, hini, -, -⟩ := hmok
  refine Met.ofW (cc := N.2.2.2.1) (maxL := N.2.2.2.2.1) (ret := N.2.2.2.2.2.1) hplain rfl ?_
  intro p e s m args below meth c s₁ B hml hv
  obtain ⟨rfl, hR, hK, hF, hsz⟩ := hv
  have hx := B.exec
  have hb := B.bytes
  have hr := B.returns
  have hts := atoms_spec (ws := Cond.code N.2.2.1 N.2.2.2.1 N.2.2.2.2.1 N.2.2.2.2.2.1 :: TBLG) B.pre
  have hown : s.vm.findClass N.1 = some m.cls := by rw [← hcls]; exact findClass_of_methodNamed B.named
  have hlocks := B.notSynchronized
  have hname := (name_of_methodNamed B.named B.method).1
  have hz : gz G ≤ s.heap.size := by omega
  unfold aent at hent
  rw [hcal] at hent
  obtain ⟨hlen, hl⟩ := lentry_ok G hent
  rw [lg_entry_eq]
  refine hS.2.2.2 N p l e _ s m _ below meth c s.heap [] 0 0 _ _ ⟨hcal, hx, hb, hml, hown, fun w hw => hts w (List.mem_cons_of_mem _ hw), hK, hF, hz, fun e2 => hname.trans (hini e2)⟩ hlen hl hR va_S.rf (Nat.le_refl _) (Nat.le_refl _) (Nat.le_of_eq (Nat.zero_add _)) (Nat.le_of_eq (Nat.zero_add _)) (by omega) ?_
  intro H' locs' ls' pcr hR' hS' hret
  rw [Nat.zero_add, Nat.zero_add]
  have hq : ∀ t : State, t.heap = H' → s.WarmedH t.vm → QC G rv h1 (vs.map (cv G)).toArray s (.returned (rv.map (cv G))) t := fun t ht _ => ⟨⟨rfl, by rw [ht]; exact hR'⟩, hS'.F ht⟩
  unfold RetAt at hret
  split at hret
  · obtain ⟨hd, hn⟩ := hret
    exact W.vret hx hb (hr.trans hn) hq hS'.2.2 hd
  · next v =>
    obtain ⟨hd, hn⟩ := hret
    unfold okret at hn
    split at hn
    · next e1 => exact W.iret (v := v) hx hb (hr.trans e1) hq hS'.2.2 hd
    · next e1 =>
      refine W.zret (v := v) hx hb (hr.trans e1) ?_ hq hS'.2.2 hd
      simp only [decide_eq_true_eq] at hn
      rcases hn with rfl | rfl <;> decide
    · next e1 =>
      simp only [decide_eq_true_eq] at hn
      exact W.zret (v := v) hx hb (hr.trans e1) hn hq hS'.2.2 hd
    · next e1 =>
      simp only [decide_eq_true_eq] at hn
      exact W.zret (v := v) hx hb (hr.trans e1) hn hq hS'.2.2 hd
    · cases hn
  · next v =>
    obtain ⟨hd, hn⟩ := hret
    exact W.lret (v := v) hx hb (hr.trans hn) hq hS'.2.2 hd
  · exact absurd hret (fun z => z)
section CALL
variable {p : Program} {l : Launch} {e : Env} {R : Room} {s : State} {m : MethodId} {args : Array Value} {below : List Frame} {meth : Method} {c : Code} {H : Heap} {locs : List Loc} {cells slots : Nat} {Q : State → Prop}
theorem W_call {pc : Nat} {ls : Array Slot} {rest st0 : List Value} {a : Array Value} {mc ms : Nat} {rv : Option Value} {h1 : Hp} (hr : va_Run p l e R s m args below meth c H locs cells slots mc ms (F0 m pc ls st0) rest (QC G rv h1 a) (AG G)) (hS : va_S (AG G) s.heap H locs)
    (kk : ∀ (H1 : Heap) (locs1 : List Loc), Rl G h1 H1 → va_S (AG G) s.heap H1 locs1 → W p l e R s m args below meth c H1 locs1 (cells + mc) (slots + ms) Q (F0 m (pc + 3) ls (rv.toList.map (cv G) ++ rest))) : W p l e R s m args below meth c H locs cells slots Q (F0 m pc ls st0) := by
  intro T hT X
  obtain ⟨v, st₀, t, T', L, h0, X', hL, e1, e2, ⟨⟨hv, hR⟩, hz, hk⟩, st⟩ := hr T hT X
  cases hv
  rw [h0] at hz hk
  obtain ⟨t2, a1, b1⟩ := kk T'.heap (locs ++ L) (by rw [e1]; exact hR)
    ⟨Nat.le_trans hS.1 (by rw [e1]; exact hz), fun q h1 h2 => by rw [e1, hk q (Nat.lt_of_lt_of_le h1 hS.1) h2]; exact hS.2.1 q h1 h2, fun q hq => by
      rcases List.mem_append.mp hq with h | h
      · exact hS.2.2 q h
      · exact hL q h⟩ T' rfl X'
  refine ⟨t2, st t2 ?_, b1⟩
  have e3 : (rv.map (cv G)).toList = rv.toList.map (cv G) := by cases rv <;> rfl
  show Steps p.tables e below (T'.setTop { F0 m pc ls st0 with pc := pc + 3, stack := (rv.map (cv G)).toList ++ rest }) t2
  rw [e3]
  exact a1
theorem pre_blind {h : Hp} {vs : List Value} : FrameBlind (va_Pc vs (PRE G h)) := fun a U g mk q => by
  obtain ⟨q0, q1, q2, q3, q4⟩ := q
  exact ⟨q0, q1, va_K.moved (u := U) (U := U.calling g mk a) (Vm.Alike.refl U.vm) q2, ROF.same G (u := U) (U := U.calling g mk a) q3 rfl rfl, q4⟩
theorem pre_at {h : Hp} (hR : Rl G h H) (hK : va_K (gD G) vwCl (tysG G) s) (hF : ROF G s) (hS : va_S (AG G) s.heap H locs) (hsz : H.size = gz G + (h.1.length - 16)) {U : State} (hU : U.heap = H) (hW : s.WarmedH U.vm) : PRE G h U :=
  ⟨by rw [hU]; exact hR, va_K.moved hW.alike hK, ROF.goes G hF hW (fun q h1 h2 => by rw [hU]; exact hS.2.1 q h1 h2), by rw [hU]; exact hsz⟩
/-- a call, whatever it is -/
theorem call_ok {mi pc : Nat} {lv : Lv} {st : List Value} {h : Hp} {q : AI} {cal : Nat} {vs : List Value} {nx : Nat} {lv' : Lv} {rest : List Value} {d : Nat} {lv0 : Lv} {rv : Option Value} {h1 : Hp} {M : MI} {ls : Array Slot} (HC : ChkOK) (hcal0 : 0 < cal) (hfe : fetch mi pc = some q) (hok : KOK h)
    (hs : astep minf (gX G) mi q pc lv st h = some (.inr (.inr (cal, vs, nx, lv', rest)))) (hent : aent cal vs = some lv0) (hSim : Sim G d cal 0 lv0 [] h rv h1)
    (C : SCtx G mi M p s m args meth c) (hn : lv.length = M.2.2.2.2.1) (hl : LRl G lv ls) (hR : Rl G h H) (hS : va_S (AG G) s.heap H locs) (h2 : (d + 1) + 1 ≤ R.frames) (h3 : 40 * (d + 1) + 100 ≤ R.locals) (h4 : cells + (h1.1.length - h.1.length) ≤ R.cells) (h5 : slots + (slt h1 - slt h) ≤ R.slots) (hcs : s.heap.size + cells = gz G + (h.1.length - 16))
    (kk : ∀ (H1 : Heap) (locs1 : List Loc), Rl G h1 H1 → va_S (AG G) s.heap H1 locs1 → W p l e R s m args below meth c H1 locs1 (cells + (h1.1.length - h.1.length)) (slots + (slt h1 - slt h)) Q (F0 m nx ls ((rv.toList ++ rest).map (cv G)))) : W p l e R s m args below meth c H locs cells slots Q (F0 m pc ls (st.map (cv G))) := by
  refine W_bnd fun hbnd => ?_
  obtain ⟨hM, hx, hb, hml, hown, hts, hK, hF, hz, -⟩ := C
  have hsz := hR.size G hS hz hcs hbnd
  obtain ⟨e1, e2, e3, hlt, N, hN, hsum, hcase⟩ := astep_call hs
  obtain ⟨hcM, hcw⟩ := HC.2 cal N hcal0 hN
  have hMO := mok hcM
  have hMet := met_of G (l := l) hN hMO hent hSim
  obtain ⟨w1, w2, w3, ⟨y1, y2, y3, y4, y5⟩, hml20, hini, hrc, hnone⟩ := hMO
  have hG := ws_good hcw
  have hck := HC.1 mi M hM pc q hfe
  have hsumc : (((rest.map (cv G)).map fun v => v.category)).sum ≤ 8 := by rw [cv_sum]; exact hsum
  have hRoom : ({ frames := d + 1, cells := h1.1.length - h.1.length, slots := slt h1 - slt h, locals := 40 * d + 100 } : Room).frames + 1 ≤ R.frames ∧ 8 + (N.2.2.2.2.1 + 11) + ({ frames := d + 1, cells := h1.1.length - h.1.length, slots := slt h1 - slt h, locals := 40 * d + 100 } : Room).locals ≤ R.locals := ⟨h2, by show 8 + (N.2.2.2.2.1 + 11) + (40 * d + 100) ≤ R.locals; omega⟩
  have hlsz : ls.size = M.2.2.2.2.1 := by rw [← hn]; exact hl.1
  have S : CallFix p m c M.2.2.2.1 M.2.2.2.2.1 s args TBLG M.1 := ⟨hx, hb, hml, hown, hts⟩
  have hnest : ∀ idx, nestM M.1 idx N.2.2.1 ∈ nestW → va_Nw (.methodLinkNest M.1 idx N.2.2.1 "PulledToAHair") s := fun idx hi => hF.2.2.2.2.2.2.2.1 _ _ _ hi
  rw [List.map_append] at kk
  obtain ⟨i, nx0, a, b, c0, t⟩ := q
  dsimp only at e2 e3
  subst e2; subst e3
  have hPS : ∀ As : List Value, vs = As → PreS s H (va_Pc (vs.map (cv G)) (PRE G h)) (As.map (cv G)) := fun As e => by
    subst e
    exact ⟨pre_blind G, fun U hU hW => ⟨rfl, pre_at G hR hK hF hS hsz hU hW⟩⟩
  rcases hcase with ⟨idx, hi, hk0, hst, hvl⟩ | ⟨idx, r, As, hi, hk0, hk2, hvs, hst, hvl, hrec⟩ | ⟨idx, r, As, hi, hk2, hvs, hst, hvl, hrec⟩
  · dsimp only at hi
    rcases hi with hi | hi
    · subst hi
      obtain ⟨k1, k2, k3⟩ := ck_invs hlt hN hck
      obtain ⟨hd, hnx⟩ := ck_dec hck
      have hnx : nx = pc + 3 := hnx
      subst hnx
      rw [if_pos hk0] at w1
      have hstk : (st.map (cv G)) = (vs.map (cv G)).reverse ++ rest.map (cv G) := by rw [hst, List.map_append, List.map_reverse]
      by_cases eb : b = 0
      · exact W_call G (va_runS S hMet ⟨callB_of _ hts hG rfl rfl rfl (hts _ w3) (hts _ (k2 eb)) ⟨y3, y4, y5⟩ hRoom, hts _ w1⟩ (hPS vs rfl) rfl (by rw [List.length_map]; exact hvl) hlsz hstk (lv_room hsumc) hd ⟨h4, h5⟩) hS kk
      · exact W_call G (va_runSN S hMet ⟨va_cnB _ hts hG rfl rfl rfl (hnest idx (k3 eb)) (hts _ w3) ⟨y3, y4, y5⟩ hRoom, hts _ w1, trivial⟩ (hPS vs rfl) rfl (by rw [List.length_map]; exact hvl) hlsz hstk (lv_room hsumc) hd ⟨h4, h5⟩) hS kk
    · subst hi
      have := (ck_invv hlt hN hck).1
      omega
  · dsimp only at hi
    rcases hi with hi | hi
    · subst hi
      exact absurd (ck_invs hlt hN hck).1 hk0
    · subst hi
      obtain ⟨k1, k2, k3⟩ := ck_invv hlt hN hck
      obtain ⟨hd, hnx⟩ := ck_dec hck
      have hnx : nx = pc + 3 := hnx
      subst hnx
      rw [if_neg hk0] at w1
      have w2 := w2 k1
      obtain ⟨hRf, hci⟩ := hrc hk0
      have hrecv : ∃ cellB : Cell, H[adr G r]? = some cellB ∧ cellB.vm.isStatics = false ∧ s.vm.findClass N.2.2.1.cls = some cellB.cls := by
        rw [y1, ← hRf]
        rcases hci with hc9 | hc20
        · have ho := hk_own hR.2.1 (a := r) (by rw [hrec]; show N.2.1 < 20; omega)
          have hg := wld_get G ho.1 ho.2
          rw [wcell_obj G hc9 hrec] at hg
          exact va_recv hK hR.1 (Tf_ok _ hc9) hg
        · rw [hc20] at hrec ⊢
          have hr : r < 16 := KOK_lt hok (by rw [hrec]; omega) (by rw [hrec]; omega)
          rw [hk_ro hR.2.1 hr] at hrec
          have h123 := roK_20 hr hrec
          obtain ⟨i, hi3, hri⟩ : ∃ i : Nat, i < 3 ∧ r = 1 + i := by
            rcases h123 with z | z | z
            · exact ⟨0, by omega, z⟩
            · exact ⟨1, by omega, z⟩
            · exact ⟨2, by omega, z⟩
          obtain ⟨cell, q1, q2, q3, -⟩ := (hF.2.1 i hi3).1.kept hS.2.1
          have ea : adr G r = gr G (1 + i) := by unfold adr; rw [if_pos hr, hri]
          exact ⟨cell, by rw [ea]; exact q1, q2, q3⟩
      have hvm : vs.map (cv G) = .ref (adr G r) :: As.map (cv G) := by rw [hvs, List.map_cons, cv_ref G]
      have hstk : (st.map (cv G)) = (As.map (cv G)).reverse ++ .ref (adr G r) :: rest.map (cv G) := by rw [hst, List.map_append, List.map_reverse, List.map_cons, cv_ref G]
      have hPV : PreV s H N.2.2.1.cls (adr G r) (va_Pc (vs.map (cv G)) (PRE G h)) (As.map (cv G)) := ⟨pre_blind G, hrecv, fun U hU hW => ⟨by rw [hvm], pre_at G hR hK hF hS hsz hU hW⟩⟩
      by_cases eb : b = 0
      · exact W_call G (va_runV S hMet ⟨callB_of _ hts hG rfl rfl rfl (hts _ w3) (hts _ (k2 eb)) ⟨y3, y4, y5⟩ hRoom, hts _ w1, hts _ w2⟩ hPV rfl (by rw [List.length_map]; exact hvl) hlsz hstk (lv_room hsumc) hd ⟨h4, h5⟩) hS kk
      · exact W_call G (va_runVN S hMet ⟨va_cnB _ hts hG rfl rfl rfl (hnest idx (k3 eb)) (hts _ w3) ⟨y3, y4, y5⟩ hRoom, hts _ w1, hts _ w2⟩ hPV rfl (by rw [List.length_map]; exact hvl) hlsz hstk (lv_room hsumc) hd ⟨h4, h5⟩) hS kk
  · dsimp only at hi
    subst hi
    obtain ⟨k1, k2, k3⟩ := ck_invi hlt hN hck
    obtain ⟨hd, hnx⟩ := ck_dec hck
    have hnx : nx = pc + 3 := hnx
    subst hnx
    have hk0 : N.2.2.2.2.2.2.1 ≠ 0 := by omega
    rw [if_neg hk0] at w1
    obtain ⟨hRf, hci⟩ := hrc hk0
    have hvm : vs.map (cv G) = .ref (adr G r) :: As.map (cv G) := by rw [hvs, List.map_cons, cv_ref G]
    have hstk : (st.map (cv G)) = (As.map (cv G)).reverse ++ .ref (adr G r) :: rest.map (cv G) := by rw [hst, List.map_append, List.map_reverse, List.map_cons, cv_ref G]
    have hPI : PreS s H (va_Pc (vs.map (cv G)) (PRE G h)) (.ref (adr G r) :: As.map (cv G)) := ⟨pre_blind G, fun U hU hW => ⟨by rw [hvm], pre_at G hR hK hF hS hsz hU hW⟩⟩
    have hret := hnone hk2
    rw [hret] at hMet hG hcw
    by_cases eb : b = 0
    · exact W_call G (va_runI S hMet ⟨callB_of _ hts hG rfl rfl rfl (hts _ w3) (hts _ (k2 eb)) ⟨y3, y4, y5⟩ hRoom, hini hk2, hts _ w1⟩ hPI rfl (by rw [List.length_map]; exact hvl) hlsz hstk (lv_room hsumc) hd ⟨h4, h5⟩) hS kk
    · exact W_call G (va_runIN S hMet ⟨va_cnB _ hts hG rfl rfl rfl (hnest idx (k3 eb)) (hts _ w3) ⟨y3, y4, y5⟩ hRoom, hini hk2, hts _ w1⟩ hPI rfl (by rw [List.length_map]; exact hvl) hlsz hstk (lv_room hsumc) hd ⟨h4, h5⟩) hS kk
end CALL
end SND9
