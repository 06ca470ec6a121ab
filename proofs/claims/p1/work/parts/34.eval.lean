/-! A TEXT'S WORTH -/
noncomputable def two (c a b : Int32) : Int32 :=
  if c = 11 then (if a ≠ 0 ∨ b ≠ 0 then 1 else 0) else if c = 12 then (if a ≠ 0 ∧ b ≠ 0 then 1 else 0) else if c = 14 then (if a < b then 1 else 0) else if c = 15 then (if a = b then 1 else 0) else if c = 16 then a + b else if c = 17 then a - b else a * b
noncomputable def sst (nm : Nat → Int32) (c : Int32) (st : List Int32) : List Int32 :=
  if isOp c = true then (if 100000 ≤ c then c - 100000 else nm (ix c)) :: st
  else if c = 13 then (match st with | a :: s => (if a = 0 then 1 else 0) :: s | [] => [])
  else if c = 19 then (match st with | a :: s => (-a) :: s | [] => [])
  else (match st with | b :: a :: s => two c a b :: s | _ => [])
noncomputable def sEv (nm : Nat → Int32) : List Int32 → List Int32 → List Int32
  | [], st => st
  | c :: cs, st => sEv nm cs (sst nm c st)
theorem isOp_t {c : Int32} : isOp c = true ↔ 100000 ≤ c ∨ c < 11 := by
  unfold isOp; simp
theorem codes_bin {c : Int32} (h : okCode c) (h1 : ¬ isOp c = true) (h2 : ¬ (c = 13 ∨ c = 19)) : c = 11 ∨ c = 12 ∨ c = 14 ∨ c = 15 ∨ c = 16 ∨ c = 17 ∨ c = 18 := by
  rw [isOp_t] at h1
  unfold okCode at h
  have a1 : ¬ 100000 ≤ c := fun z => h1 (Or.inl z)
  have a2 : ¬ c < 11 := fun z => h1 (Or.inr z)
  have a3 : c ≠ 13 := fun z => h2 (Or.inl z)
  have a4 : c ≠ 19 := fun z => h2 (Or.inr z)
  have a5 : 11 ≤ c ∧ c ≤ 19 := by
    rcases h with h | h | h
    · exact absurd h.1 a1
    · exact absurd (show c < 11 by lia) a2
    · exact h
  lia
theorem r_two {c : Int32} (a b : Int32) (hc : c = 11 ∨ c = 12 ∨ c = 14 ∨ c = 15 ∨ c = 16 ∨ c = 17 ∨ c = 18) (h : Hp) : g_X8_two c a b h = some (two c a b, h) := by
  simp only [g_X8_two_52, g_X8_two_0, g_X8_two, two]
  rcases hc with rfl | rfl | rfl | rfl | rfl | rfl | rfl
  · by_cases z : a = 0 <;> by_cases w : b = 0 <;> simp [z, w]
  · by_cases z : a = 0 <;> by_cases w : b = 0 <;> simp [z, w]
  · by_cases z : a < b
    · rw [if_pos z]; simp [show ¬ b ≤ a by lia]
    · rw [if_neg z]; simp [show b ≤ a by lia]
  · by_cases z : a = b <;> simp [z]
  · simp
  · simp
  · simp
theorem c_two {c : Int32} (a b : Int32) (hc : c = 11 ∨ c = 12 ∨ c = 14 ∨ c = 15 ∨ c = 16 ∨ c = 17 ∨ c = 18) (h : Hp) : g_X6_joined (-c) a b h = some (two c a b, h) := by
  simp only [g_X6_joined_52, g_X6_joined_0, g_X6_joined, two]
  rcases hc with rfl | rfl | rfl | rfl | rfl | rfl | rfl
  · by_cases z : a = 0 <;> by_cases w : b = 0 <;> simp [z, w]
  · by_cases z : a = 0 <;> by_cases w : b = 0 <;> simp [z, w]
  · by_cases z : a < b
    · rw [if_pos z]; simp [show ¬ b ≤ a by lia]
    · rw [if_neg z]; simp [show b ≤ a by lia]
  · by_cases z : a = b <;> simp [z]
  · simp
  · simp
  · simp
/-- the row of a stack holds these values, the last on top -/
noncomputable def stk (a : Nat) (h : Hp) : List Int32 → Prop
  | [] => True
  | x :: s => gI h a s.length = x ∧ stk a h s
theorem stk_set {a : Nat} {h : Hp} {s : List Int32} {q : Nat} (x : Int32) (hq : s.length ≤ q) (H : stk a h s) : stk a (hsi h a q x) s := by
  induction s with
  | nil => trivial
  | cons y s ih =>
    refine ⟨?_, ih (by simp at hq; omega) H.2⟩
    rw [gI_hsi, if_neg (by simp at hq; omega)]
    exact H.1
theorem sst_len {nm : Nat → Int32} {c : Int32} {cs st : List Int32} (H : hgt (c :: cs) st.length 1) : hgt cs (sst nm c st).length 1 ∧ (isOp c = true → st.length + 1 ≤ 31) := by
  obtain ⟨h1, h2⟩ := H
  unfold sst
  by_cases h3 : isOp c = true
  · rw [if_pos h3] at h2 ⊢
    exact ⟨h2.2, fun _ => h2.1⟩
  · rw [if_neg h3] at h2 ⊢
    refine ⟨?_, fun z => absurd z h3⟩
    by_cases h4 : c = 13 ∨ c = 19
    · rw [if_pos h4] at h2
      obtain ⟨h5, h6⟩ := h2
      match st, h5 with
      | a :: s, _ =>
        rcases h4 with rfl | rfl
        · simpa using h6
        · simpa using h6
    · rw [if_neg h4] at h2
      obtain ⟨h5, h6⟩ := h2
      rw [if_neg (fun z => h4 (Or.inl z)), if_neg (fun z => h4 (Or.inr z))]
      match st, h5 with
      | b :: a :: s, _ => simpa using h6
/-- the class's loop -/
theorem l_cval (t part : Nat) (ht : t < 6) (hp : part < 3) (en : Nat) (hen : en ≤ 160) (nm : Nat → Int32) (cs : List Int32) : ∀ (st : List Int32) (i m : Nat) (h : Hp), hgt cs st.length 1 → i + cs.length = en → cs.length < m → gI h (50 + 4 * t) part = iN en → (∀ k, k < cs.length → gI h (49 + 4 * t) (i + k) = cmap (cs.getD k 0)) → stk (51 + 4 * t) h st → st.length ≤ 31 → (∀ q, q < 6 → gI h 81 q = nm q) → ∃ h', g_X6_value_31 4000 m (48 + 4 * t) (iN part) 81 (iN st.length - 1) (iN i) h = some ((sEv nm cs st).headD 0, h') ∧ Fr (fun a _ => a = 51 + 4 * t) h h' := by
  induction cs with
  | nil =>
    intro st i m h hh hi hm he hc hs hl hn
    obtain ⟨m, rfl⟩ : ∃ z, m = z + 1 := ⟨m - 1, by omega⟩
    have h1 : st.length = 1 := hh
    obtain rfl : i = en := by simpa using hi
    refine ⟨h, ?_, Fr.rfl' _ _⟩
    rw [g_X6_value_31, if_pos (iN_inb hp (by decide)), iN_ix (by omega), show 48 + 4 * t + 2 = 50 + 4 * t by omega, he, if_pos (by lia), g_X6_value_203, h1, show iN 1 - 1 = 0 from rfl, if_pos (by decide), if_pos (by decide), ix0]
    match st, h1 with
    | [x], _ =>
      have h2 : gI h (51 + 4 * t) 0 = x := hs.1
      rw [show 48 + 4 * t + 3 = 51 + 4 * t by omega, h2]; rfl
  | cons c cs ih =>
    intro st i m h hh hi hm he hc hs hl hn
    obtain ⟨m, rfl⟩ : ∃ z, m = z + 1 := ⟨m - 1, by omega⟩
    simp only [List.length_cons] at hi hm
    obtain ⟨hl1, hl2⟩ := sst_len (nm := nm) hh
    obtain ⟨hok, hh2⟩ := hh
    have hc0 := hc 0 (by simp)
    rw [Nat.add_zero] at hc0
    simp only [List.getD_cons_zero] at hc0
    -- what comes behind
    have go : ∀ (st' : List Int32) (h1 : Hp) (K : Option (Int32 × Hp)), st' = sst nm c st → stk (51 + 4 * t) h1 st' → st'.length ≤ 31 → Fr (fun a _ => a = 51 + 4 * t) h h1 → K = g_X6_value_31 4000 m (48 + 4 * t) (iN part) 81 (iN st'.length - 1) (iN i + 1) h1 → ∃ h', K = some ((sEv nm (c :: cs) st).headD 0, h') ∧ Fr (fun a _ => a = 51 + 4 * t) h h' := by
      intro st' h1 K e1 e2 e3 f e4
      obtain ⟨h', i1, i2⟩ := ih st' (i + 1) m h1 (by rw [e1]; exact hl1) (by omega) (by omega) (by rw [f.i (by omega)]; exact he) (fun k hk => by
        have := hc (k + 1) (by simp; omega)
        rw [f.i (by omega), show i + 1 + k = i + (k + 1) by omega, this]; simp) e2 e3 (fun q hq => by rw [f.i (by omega)]; exact hn q hq)
      refine ⟨h', ?_, f.tr i2⟩
      rw [e4, iN_add (by omega), i1, e1]; rfl
    rw [g_X6_value_31, if_pos (iN_inb hp (by decide)), iN_ix (k := part) (by omega), show 48 + 4 * t + 2 = 50 + 4 * t by omega, he, if_neg (by rw [iN_le (by omega) (by omega)]; omega), if_neg (by show ¬ iN 160 ≤ iN i; rw [iN_le (by omega) (by omega)]; omega), if_pos (iN_inb (by omega) (by decide)), iN_ix (k := i) (by omega), show 48 + 4 * t + 1 = 49 + 4 * t by omega, show 48 + 4 * t + 3 = 51 + 4 * t by omega, hc0]
    by_cases h3 : isOp c = true
    · -- a number, a name
      have h31 := hl2 h3
      have h3' := isOp_t.mp h3
      have hgt11 : ¬ cmap c ≤ -11 := by
        unfold cmap
        rcases hok with z | z | z
        · rw [if_pos z.1]; lia
        · rw [if_neg (by lia), if_pos (by lia)]; lia
        · rcases h3' with y | y
          · lia
          · lia
      have e1 : iN st.length - 1 + 1 = iN st.length := by lia
      rw [if_neg hgt11, e1, if_pos (by show iN st.length < iN 40; rw [iN_lt (by omega) (by omega)]; omega)]
      have fin' : ∀ x, x = (if 100000 ≤ c then c - 100000 else nm (ix c)) → ∃ h', g_X6_value_98 4000 (g_X6_value_31 4000 m) (48 + 4 * t) (iN part) 81 (iN st.length) (iN i) (51 + 4 * t) (iN st.length) x h = some ((sEv nm (c :: cs) st).headD 0, h') ∧ Fr (fun a _ => a = 51 + 4 * t) h h' := by
        intro x hx
        rw [g_X6_value_98, if_pos (iN_inb (by omega) (by decide)), iN_ix (by omega), g_X6_value_197]
        have es : sst nm c st = x :: st := by unfold sst; rw [if_pos h3, hx]
        refine go (x :: st) (hsi h (51 + 4 * t) st.length x) _ es.symm ⟨?_, stk_set x (Nat.le_refl _) hs⟩ (by simp; omega) ((Fr.rfl' _ _).si _ rfl) ?_
        · rw [gI_hsi, if_pos ⟨rfl, rfl⟩]
        · rw [List.length_cons]
          congr 1
          rw [← iN_add (by omega)]; lia
      rcases hok with z | z | z
      · have e2 : cmap c = c - 100000 := by unfold cmap; rw [if_pos z.1]
        rw [e2, if_neg (by lia)]
        exact fin' _ (by rw [if_pos z.1])
      · have e2 : cmap c = -1 - c := by unfold cmap; rw [if_neg (by lia), if_pos (by lia)]
        have e3 : (-1) - (-1 - c) = c := by lia
        rw [e2, if_pos (by lia)]
        simp only [g_X6_named_0, g_X6_named, e3]
        obtain ⟨k, hk, rfl⟩ := iex (n := 6) (by decide) z.1 (by show c < 6; lia)
        rw [if_neg (by lia), if_neg (by lia), if_pos (iN_inb hk (by decide)), Option.bind_some]
        exact fin' _ (by rw [if_neg (by lia), iN_ix (by omega)]; exact hn k hk)
      · exact absurd h3' (by
          intro y
          rcases y with y | y
          · lia
          · lia)
    · have h3' : ¬ (100000 ≤ c ∨ c < 11) := fun z => h3 (isOp_t.mpr z)
      have e2 : cmap c = -c := by unfold cmap; rw [if_neg (fun z => h3' (Or.inl z)), if_neg (fun z => h3' (Or.inr z))]
      have z : 11 ≤ c ∧ c ≤ 19 := by
        rcases hok with z | z | z
        · exact absurd (Or.inl z.1) h3'
        · exact absurd (Or.inr (by lia)) h3'
        · exact z
      rw [if_neg h3] at hh2
      rw [e2, if_pos (by lia)]
      by_cases h4 : c = 13 ∨ c = 19
      · rw [if_pos h4] at hh2
        match st, hh2.1, hs, hl, go with
        | a :: s, _, hs, hl, go =>
          have hin := iN_inb (k := s.length) (n := 40) (by simp at hl; omega) (by decide)
          have hix := iN_ix (k := s.length) (by simp at hl; omega)
          have e5 : iN (a :: s).length - 1 = iN s.length := by
            rw [List.length_cons, iN_sub (by simp at hl; omega) (by omega)]; rfl
          have h0 := (iN0 (k := s.length) (n := 40) (by simp at hl; omega) (by decide)).1
          have fin' : ∀ x, x :: s = sst nm c (a :: s) → ∃ h', g_X6_value_158 4000 (g_X6_value_31 4000 m) (48 + 4 * t) (iN part) 81 (iN s.length) (iN i) (51 + 4 * t) (iN s.length) x h = some ((sEv nm (c :: cs) (a :: s)).headD 0, h') ∧ Fr (fun a _ => a = 51 + 4 * t) h h' := by
            intro x hx
            rw [g_X6_value_158, if_pos hin, hix, g_X6_value_197]
            refine go (x :: s) (hsi h (51 + 4 * t) s.length x) _ hx ⟨?_, stk_set x (Nat.le_refl _) hs.2⟩ (by simpa using hl) ((Fr.rfl' _ _).si _ rfl) ?_
            · rw [gI_hsi, if_pos ⟨rfl, rfl⟩]
            · congr 1
              rw [List.length_cons, iN_sub (by simp at hl; omega) (by omega)]; rfl
          rcases h4 with rfl | rfl
          · rw [if_pos rfl, g_X6_value_116, e5, if_pos h0, if_pos (by decide), if_pos hin, hix, show 48 + 4 * t + 3 = 51 + 4 * t by omega, hs.1]
            by_cases a0 : a = 0
            · rw [if_neg (by simpa using a0)]
              exact fin' 1 (by simp [sst, isOp, a0])
            · rw [if_pos a0]
              exact fin' 0 (by simp [sst, isOp, a0])
          · rw [if_neg (by decide), if_neg (by decide), g_X6_value_116, e5, if_pos h0, if_neg (by decide), if_pos hin, hix, show 48 + 4 * t + 3 = 51 + 4 * t by omega, hs.1]
            exact fin' (-a) (by simp [sst, isOp])
      · rw [if_neg h4] at hh2
        have h13 : c ≠ 13 := fun z => h4 (Or.inl z)
        have h19 : c ≠ 19 := fun z => h4 (Or.inr z)
        have hb := codes_bin hok h3 h4
        match st, hh2.1, hs, hl, go with
        | b :: a :: s, _, hs, hl, go =>
          simp only [List.length_cons] at hl
          have e5 : iN (b :: a :: s).length - 1 = iN (s.length + 1) := by
            rw [List.length_cons, List.length_cons, iN_sub (by omega) (by omega)]; rfl
          have e6 : iN (s.length + 1) + (-1) = iN s.length := by
            have := iN_sub (k := s.length + 1) (by omega) (by omega)
            rw [show s.length + 1 - 1 = s.length by omega] at this
            rw [← this]; lia
          rw [if_neg (by lia), if_pos (by lia), e5, if_pos (by show iN 1 ≤ iN (s.length + 1); rw [iN_le (by omega) (by omega)]; omega), e6, iN_add (by omega), if_pos (iN_inb (by omega) (by decide)), if_pos (iN_inb (by omega) (by decide)), iN_ix (by omega), iN_ix (by omega)]
          have hb1 : gI h (51 + 4 * t) (s.length + 1) = b := hs.1
          have ha1 : gI h (51 + 4 * t) s.length = a := hs.2.1
          rw [hb1, ha1, c_two a b hb, Option.bind_some, g_X6_value_197]
          have es : sst nm c (b :: a :: s) = two c a b :: s := by
            unfold sst; rw [if_neg h3, if_neg h13, if_neg h19]
          refine go (two c a b :: s) (hsi h (51 + 4 * t) s.length (two c a b)) _ es.symm ⟨?_, stk_set _ (Nat.le_refl _) hs.2.2⟩ (by simp; omega) ((Fr.rfl' _ _).si _ rfl) ?_
          · rw [gI_hsi, if_pos ⟨rfl, rfl⟩]
          · rw [List.length_cons, iN_sub (by omega) (by omega)]; rfl
theorem toff_le {T : Nat → List Int32} (p : Nat) (hp : p < 3) : toff T p + (T p).length = toff T (p + 1) ∧ toff T (p + 1) ≤ toff T 3 := by
  have : p = 0 ∨ p = 1 ∨ p = 2 := by omega
  unfold toff
  rcases this with rfl | rfl | rfl <;> simp [List.range_succ] <;> omega
theorem c_value {t part : Nat} (ht : t < 6) (hp : part < 3) {T : Nat → List Int32} (O : okT T) {nm : Nat → Int32} {h : Hp} (C : TxC t T h) (hn : ∀ q, q < 6 → gI h 81 q = nm q) : ∃ h', g_X6_value 4000 (48 + 4 * t) (iN part) 81 h = some ((sEv nm (T part) []).headD 0, h') ∧ Fr (fun a _ => a = 51 + 4 * t) h h' := by
  obtain ⟨o1, o2⟩ := toff_le (T := T) part hp
  have o3 := O.2
  obtain ⟨h', e1, f⟩ := l_cval t part ht hp (toff T (part + 1)) (by omega) nm (T part) [] (toff T part) 4000 h (O.1 part hp) (by omega) (by omega) (C.1 part hp) (C.2 part hp) trivial (by simp) hn
  refine ⟨h', ?_, f⟩
  unfold g_X6_value g_X6_value_0
  have hp2 : 0 ≤ iN part ∧ iN part ≤ 2 := ⟨(iN0 (n := 3) hp (by decide)).1, by show iN part ≤ iN 2; rw [iN_le (by omega) (by omega)]; omega⟩
  rw [wC, if_pos hp2, Option.bind_some]
  simp only [ne10, if_true]
  rw [show iN ([] : List Int32).length - 1 = -1 from rfl] at e1
  by_cases p0 : part = 0
  · subst p0
    rw [if_neg (by decide), g_X6_value_29]
    exact e1
  · rw [if_pos (by intro z; exact p0 ((iN_eq (b := 0) (by omega) (by omega)).mp z)), iN_sub (by omega) (by omega), if_pos (iN_inb (by omega) (by decide)), iN_ix (by omega), show 48 + 4 * t + 2 = 50 + 4 * t by omega, C.1 (part - 1) (by omega), show part - 1 + 1 = part by omega, g_X6_value_29]
    exact e1
theorem mul_iN {a b : Nat} (h : a * b < 1000000) (ha : a < 1000000) (hb : b < 1000000) : iN a * iN b = iN (a * b) := by
  rw [e32, tm] <;> rw [iN_t (by omega), iN_t (by omega)]
  · rw [iN_t (by omega)]; omega
  · have : (0 : Int) ≤ (a : Int) * b := Int.mul_nonneg (by omega) (by omega)
    omega
  · have : (a : Int) * b = ((a * b : Nat) : Int) := by simp
    omega
theorem add_iN {a b : Nat} (ha : a < 1000000) (hb : b < 1000000) : iN a + iN b = iN (a + b) := by
  rw [e32, ta] <;> rw [iN_t (by omega), iN_t (by omega)] <;> (try rw [iN_t (by omega)]) <;> omega
theorem l_rval (t part : Nat) (ht : t < 6) (hp : part < 3) (en : Nat) (hen : en ≤ 160) (nm : Nat → Int32) (cs : List Int32) : ∀ (st : List Int32) (i m : Nat) (h : Hp), hgt cs st.length 1 → i + cs.length = en → cs.length < m → gI h 96 14 = iN t → gI h 104 (4 * t + part + 1) = iN en → (∀ k, k < cs.length → gI h 103 (200 * t + (i + k)) = cs.getD k 0) → stk 113 h st → st.length ≤ 31 → (∀ q, q < 6 → gI h 114 q = nm q) → ∃ h', g_X8_worth_16 4000 m (iN part) (iN st.length) (iN i) h = some ((sEv nm cs st).headD 0, h') ∧ Fr (fun a _ => a = 113) h h' := by
  have e4 : (4 : Int32) * iN t = iN (4 * t) := mul_iN (a := 4) (by omega) (by omega) (by omega)
  have e200 : (200 : Int32) * iN t = iN (200 * t) := mul_iN (a := 200) (by omega) (by omega) (by omega)
  have e41 : (4 : Int32) * iN t + iN part + 1 = iN (4 * t + part + 1) := by rw [e4, add_iN (by omega) (by omega), iN_add (by omega)]
  induction cs with
  | nil =>
    intro st i m h hh hi hm hr he hc hs hl hn
    obtain ⟨m, rfl⟩ : ∃ z, m = z + 1 := ⟨m - 1, by omega⟩
    have h1 : st.length = 1 := hh
    obtain rfl : i = en := by simpa using hi
    refine ⟨h, ?_, Fr.rfl' _ _⟩
    rw [g_X8_worth_16, hr, e41, if_pos (iN_inb (by omega) (by decide)), iN_ix (by omega), he, if_pos (by lia), ix0]
    match st, h1 with
    | [x], _ =>
      have h2 : gI h 113 0 = x := hs.1
      rw [h2]; rfl
  | cons c cs ih =>
    intro st i m h hh hi hm hr he hc hs hl hn
    obtain ⟨m, rfl⟩ : ∃ z, m = z + 1 := ⟨m - 1, by omega⟩
    simp only [List.length_cons] at hi hm
    obtain ⟨hl1, hl2⟩ := sst_len (nm := nm) hh
    obtain ⟨hok, hh2⟩ := hh
    have hc0 := hc 0 (by simp)
    rw [Nat.add_zero] at hc0
    simp only [List.getD_cons_zero] at hc0
    have go : ∀ (st' : List Int32) (h1 : Hp) (K : Option (Int32 × Hp)), st' = sst nm c st → stk 113 h1 st' → st'.length ≤ 31 → Fr (fun a _ => a = 113) h h1 → K = g_X8_worth_16 4000 m (iN part) (iN st'.length) (iN i + 1) h1 → ∃ h', K = some ((sEv nm (c :: cs) st).headD 0, h') ∧ Fr (fun a _ => a = 113) h h' := by
      intro st' h1 K e1 e2 e3 f e5
      obtain ⟨h', i1, i2⟩ := ih st' (i + 1) m h1 (by rw [e1]; exact hl1) (by omega) (by omega) (by rw [f.i (by omega)]; exact hr) (by rw [f.i (by omega)]; exact he) (fun k hk => by
        have := hc (k + 1) (by simp; omega)
        rw [f.i (by omega), show i + 1 + k = i + (k + 1) by omega, this]; simp) e2 e3 (fun q hq => by rw [f.i (by omega)]; exact hn q hq)
      refine ⟨h', ?_, f.tr i2⟩
      rw [e5, iN_add (by omega), i1, e1]; rfl
    rw [g_X8_worth_16, hr, e41, if_pos (iN_inb (by omega) (by decide)), iN_ix (k := 4 * t + part + 1) (by omega), he, if_neg (by rw [iN_le (by omega) (by omega)]; omega), e200, add_iN (by omega) (by omega), if_pos (iN_inb (by omega) (by decide)), iN_ix (k := 200 * t + i) (by omega), hc0]
    by_cases h3 : isOp c = true
    · have h31 := hl2 h3
      have h3' := isOp_t.mp h3
      have fin' : ∀ x, x = (if 100000 ≤ c then c - 100000 else nm (ix c)) → ∃ h', g_X8_worth_93 4000 (g_X8_worth_16 4000 m) (iN part) (iN st.length) (iN i) 113 (iN st.length) x h = some ((sEv nm (c :: cs) st).headD 0, h') ∧ Fr (fun a _ => a = 113) h h' := by
        intro x hx
        rw [g_X8_worth_93, if_pos (iN_inb (by omega) (by decide)), iN_ix (by omega), g_X8_worth_191]
        have es : sst nm c st = x :: st := by unfold sst; rw [if_pos h3, hx]
        refine go (x :: st) (hsi h 113 st.length x) _ es.symm ⟨?_, stk_set x (Nat.le_refl _) hs⟩ (by simp; omega) ((Fr.rfl' _ _).si _ rfl) ?_
        · rw [gI_hsi, if_pos ⟨rfl, rfl⟩]
        · rw [List.length_cons, iN_add (by omega)]
      rw [g_X8_worth_52]
      by_cases hbig : 100000 ≤ c
      · rw [if_pos hbig, g_X8_worth_66, if_pos (by lia)]
        exact fin' _ (by rw [if_pos hbig])
      · have hsm : c < 11 := h3'.resolve_left hbig
        have h11 : ¬ 11 ≤ c := by lia
        have h05 : 0 ≤ c ∧ c ≤ 5 := by
          rcases hok with z | z | z
          · exact absurd z.1 hbig
          · exact z
          · exact absurd z.1 h11
        obtain ⟨k, hk, rfl⟩ := iex (n := 6) (by decide) h05.1 (by show c < 6; lia)
        rw [if_neg hbig, if_neg h11, g_X8_worth_66, if_neg h11, if_pos (iN_inb hk (by decide))]
        exact fin' _ (by rw [if_neg hbig, iN_ix (by omega)]; exact hn k hk)
    · have h3' : ¬ (100000 ≤ c ∨ c < 11) := fun z => h3 (isOp_t.mpr z)
      have hbig : ¬ 100000 ≤ c := fun z => h3' (Or.inl z)
      have h11 : 11 ≤ c := by
        have : ¬ c < 11 := fun z => h3' (Or.inr z)
        lia
      rw [if_neg h3] at hh2
      rw [g_X8_worth_52, if_neg hbig, if_pos h11]
      by_cases h4 : c = 13 ∨ c = 19
      · rw [if_pos h4] at hh2
        match st, hh2.1, hs, hl, go with
        | a :: s, _, hs, hl, go =>
          have hin := iN_inb (k := s.length) (n := 200) (by simp at hl; omega) (by decide)
          have hix := iN_ix (k := s.length) (by simp at hl; omega)
          have e5 : iN (a :: s).length - 1 = iN s.length := by
            rw [List.length_cons, iN_sub (by simp at hl; omega) (by omega)]; rfl
          have hs1 : gI h 113 s.length = a := hs.1
          have fin' : ∀ x, x :: s = sst nm c (a :: s) → ∃ h', g_X8_worth_191 4000 (g_X8_worth_16 4000 m) (iN part) (iN (a :: s).length) (iN i) (hsi h 113 s.length x) = some ((sEv nm (c :: cs) (a :: s)).headD 0, h') ∧ Fr (fun a _ => a = 113) h h' := by
            intro x hx
            rw [g_X8_worth_191]
            refine go (x :: s) (hsi h 113 s.length x) _ hx ⟨?_, stk_set x (Nat.le_refl _) hs.2⟩ (by simpa using hl) ((Fr.rfl' _ _).si _ rfl) rfl
            rw [gI_hsi, if_pos ⟨rfl, rfl⟩]
          rcases h4 with rfl | rfl
          · rw [if_neg (by decide), e5, if_pos hin, hix, hs1]
            by_cases a0 : a = 0
            · rw [if_neg (by simpa using a0), g_X8_worth_130, if_pos hin, hix]
              exact fin' 1 (by simp [sst, isOp, a0])
            · rw [if_pos a0, g_X8_worth_130, if_pos hin, hix]
              exact fin' 0 (by simp [sst, isOp, a0])
          · rw [if_pos (by decide), if_neg (by decide), e5, if_pos hin, hix, hs1]
            exact fin' (-a) (by simp [sst, isOp])
      · rw [if_neg h4] at hh2
        have h13 : c ≠ 13 := fun z => h4 (Or.inl z)
        have h19 : c ≠ 19 := fun z => h4 (Or.inr z)
        have hb := codes_bin hok h3 h4
        match st, hh2.1, hs, hl, go with
        | b :: a :: s, _, hs, hl, go =>
          simp only [List.length_cons] at hl
          have e5 : iN (b :: a :: s).length + (-1) = iN (s.length + 1) := by
            rw [List.length_cons, List.length_cons]
            have := iN_sub (k := s.length + 1 + 1) (by omega) (by omega)
            rw [show s.length + 1 + 1 - 1 = s.length + 1 by omega] at this
            rw [← this]; lia
          have e6 : iN (s.length + 1) - 1 = iN s.length := by
            rw [iN_sub (by omega) (by omega)]; rfl
          have hb1 : gI h 113 (s.length + 1) = b := hs.1
          have ha1 : gI h 113 s.length = a := hs.2.1
          rw [if_pos h13, if_pos h19, e5, e6, if_pos (iN_inb (by omega) (by decide)), if_pos (iN_inb (by omega) (by decide)), iN_ix (by omega), iN_ix (by omega), hb1, ha1, r_two a b hb, Option.bind_some, g_X8_worth_191]
          have es : sst nm c (b :: a :: s) = two c a b :: s := by
            unfold sst; rw [if_neg h3, if_neg h13, if_neg h19]
          refine go (two c a b :: s) (hsi h 113 s.length (two c a b)) _ es.symm ⟨?_, stk_set _ (Nat.le_refl _) hs.2.2⟩ (by simp; omega) ((Fr.rfl' _ _).si _ rfl) ?_
          · rw [gI_hsi, if_pos ⟨rfl, rfl⟩]
          · rw [List.length_cons]
theorem r_worth {t part : Nat} (ht : t < 6) (hp : part < 3) {T : Nat → List Int32} (O : okT T) {nm : Nat → Int32} {h : Hp} (hr : gI h 96 14 = iN t) (C : TxR t T h) (hn : ∀ q, q < 6 → gI h 114 q = nm q) : ∃ h', g_X8_worth 4000 (iN part) h = some ((sEv nm (T part) []).headD 0, h') ∧ Fr (fun a _ => a = 113) h h' := by
  obtain ⟨o1, o2⟩ := toff_le (T := T) part hp
  have o3 := O.2
  have e4 : (4 : Int32) * iN t = iN (4 * t) := mul_iN (a := 4) (by omega) (by omega) (by omega)
  obtain ⟨h', e1, f⟩ := l_rval t part ht hp (toff T (part + 1)) (by omega) nm (T part) [] (toff T part) 4000 h (O.1 part hp) (by omega) (by omega) hr (C.1 (part + 1) (by omega)) (C.2 part hp) trivial (by simp) hn
  refine ⟨h', ?_, f⟩
  unfold g_X8_worth g_X8_worth_0
  rw [hr, e4, add_iN (by omega) (by omega), if_pos (iN_inb (by omega) (by decide)), iN_ix (by omega), C.1 part (by omega)]
  exact e1
