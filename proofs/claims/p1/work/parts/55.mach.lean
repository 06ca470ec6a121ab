/-! THE MACHINE of two stacks, plainly -/
noncomputable def rnk (c : Int32) : Nat := if c = 0 then 0 else if c = 11 then 1 else if c = 12 then 2 else if c = 13 then 3 else if ¬ 15 < c then 4 else if ¬ 17 < c then 5 else if c = 18 then 6 else 7
theorem r_rank (c : Int32) (h : Hp) : g_X8_rank c h = some (iN (rnk c), h) := by
  unfold g_X8_rank g_X8_rank_0 rnk
  by_cases c0 : c = 0
  · rw [if_neg (fun z => z c0), if_pos c0]; rfl
  rw [if_pos c0, if_neg c0]
  by_cases c1 : c = 11
  · rw [if_neg (fun z => z c1), if_pos c1]; rfl
  rw [if_pos c1, if_neg c1]
  by_cases c2 : c = 12
  · rw [if_neg (fun z => z c2), if_pos c2]; rfl
  rw [if_pos c2, if_neg c2]
  by_cases c3 : c = 13
  · rw [if_neg (fun z => z c3), if_pos c3]; rfl
  rw [if_pos c3, if_neg c3]
  by_cases c4 : 15 < c
  · rw [if_pos c4, if_neg (show ¬ ¬ 15 < c from fun z => z c4)]
    by_cases c5 : 17 < c
    · rw [if_pos c5, if_neg (show ¬ ¬ 17 < c from fun z => z c5)]
      by_cases c6 : c = 18
      · rw [if_neg (fun z => z c6), if_pos c6]; rfl
      · rw [if_pos c6, if_neg c6]; rfl
    · rw [if_neg c5, if_pos c5]; rfl
  · rw [if_neg c4, if_pos c4]; rfl
theorem rnk_le (c : Int32) : rnk c ≤ 7 := by
  unfold rnk; repeat (split; omega)
  omega
noncomputable def uw (r : Nat) : List Int32 → List Int32 → Int32 → List Int32 × List Int32 × Int32
  | [], o, c => ([], o, c)
  | x :: s, o, c => if rnk x < r then (x :: s, o, c) else uw r s (o ++ [x]) (if x = 13 ∨ x = 19 then c - 1 else c)
theorem uw_len (r : Nat) (s : List Int32) : ∀ o c, (uw r s o c).1.length + (uw r s o c).2.1.length = s.length + o.length := by
  induction s with
  | nil => intro o c; rfl
  | cons x s ih =>
    intro o c
    unfold uw
    by_cases d : rnk x < r
    · rw [if_pos d]
    · rw [if_neg d, ih]; simp; omega
/-- the codes written for the text t -/
noncomputable def RCd (t : Nat) (o : List Int32) (h : Hp) : Prop := gI h 96 34 = iN o.length ∧ (∀ i, i < o.length → gI h 103 (200 * t + i) = o.getD i 0) ∧ gI h 96 13 = iN t
noncomputable def MS (t : Nat) (s o : List Int32) (c : Int32) (h : Hp) : Prop := gI h 96 32 = iN s.length ∧ stk 112 h s ∧ gI h 96 33 = c ∧ RCd t o h
noncomputable def SMc (t a k : Nat) : Prop := a = 112 ∨ (a = 103 ∧ 200 * t ≤ k ∧ k < 200 * t + 200) ∨ (a = 96 ∧ 32 ≤ k ∧ k ≤ 34)
theorem stk_c {a : Nat} {h h1 : Hp} {s : List Int32} (e : ∀ k, k < s.length → gI h1 a k = gI h a k) (H : stk a h s) : stk a h1 s := by
  induction s with
  | nil => exact H
  | cons x s ih =>
    exact ⟨by rw [e _ (by simp)]; exact H.1, ih (fun k hk => e k (by simp; omega)) H.2⟩
theorem r_puts {t : Nat} {s o : List Int32} {c : Int32} {h : Hp} (ht : t < 6) (hl : o.length < 200) (x : Int32) (M : MS t s o c h) : ∃ h', g_X8_puts x h = some h' ∧ MS t s (o ++ [x]) c h' ∧ Fr (SMc t) h h' := by
  obtain ⟨m1, m2, m3, m4, m5, m6⟩ := M
  have e1 : 200 * iN t + iN o.length = iN (200 * t + o.length) := by
    rw [show (200 : Int32) = iN 200 from rfl, mul_iN (by omega) (by omega) (by omega), add_iN (by omega) (by omega)]
  unfold g_X8_puts g_X8_puts_0 g_X8_puts_19
  rw [m6, m4, e1, if_pos (iN_inb (by omega) (by decide)), iN_ix (by omega), show gI (hsi h 103 (200 * t + o.length) x) 96 34 = iN o.length by rw [gI_hsi, if_neg (by omega)]; exact m4, iN_add (by omega)]
  refine ⟨_, rfl, ⟨?_, ?_, ?_, ?_, fun i hi => ?_, ?_⟩, ((Fr.rfl' _ _).si _ ?_).si _ ?_⟩
  · rw [gI_hsi, if_neg (by omega), gI_hsi, if_neg (by omega)]; exact m1
  · exact stk_c (fun k hk => by rw [gI_hsi, if_neg (by omega), gI_hsi, if_neg (by omega)]) m2
  · rw [gI_hsi, if_neg (by omega), gI_hsi, if_neg (by omega)]; exact m3
  · rw [gI_hsi, if_pos ⟨rfl, rfl⟩]; simp
  · rw [gI_hsi, if_neg (by omega), gI_hsi]
    rw [List.length_append] at hi
    have hi' : i < o.length + 1 := hi
    by_cases d : i = o.length
    · rw [if_pos ⟨rfl, by omega⟩, d]; simp
    · rw [if_neg (by omega), m5 i (by omega)]
      rw [List.getD_eq_getElem?_getD, List.getD_eq_getElem?_getD, List.getElem?_append_left (by omega)]
  · rw [gI_hsi, if_neg (by omega), gI_hsi, if_neg (by omega)]; exact m6
  · unfold SMc; omega
  · unfold SMc; omega
theorem r_holds {t : Nat} {s o : List Int32} {c : Int32} {h : Hp} (hl : s.length < 200) (x : Int32) (M : MS t s o c h) : ∃ h', g_X8_holds x h = some h' ∧ MS t (x :: s) o c h' ∧ Fr (SMc t) h h' := by
  obtain ⟨m1, m2, m3, m4, m5, m6⟩ := M
  unfold g_X8_holds g_X8_holds_0 g_X8_holds_10
  rw [m1, if_pos (iN_inb hl (by decide)), iN_ix (by omega), show gI (hsi h 112 s.length x) 96 32 = iN s.length by rw [gI_hsi, if_neg (by omega)]; exact m1, iN_add (by omega)]
  refine ⟨_, rfl, ⟨?_, ⟨?_, ?_⟩, ?_, ?_, fun i hi => ?_, ?_⟩, ((Fr.rfl' _ _).si _ ?_).si _ ?_⟩
  · rw [gI_hsi, if_pos ⟨rfl, rfl⟩]; rfl
  · rw [gI_hsi, if_neg (by omega), gI_hsi, if_pos ⟨rfl, rfl⟩]
  · exact stk_c (fun k hk => by rw [gI_hsi, if_neg (by omega), gI_hsi, if_neg (by omega)]) m2
  · rw [gI_hsi, if_neg (by omega), gI_hsi, if_neg (by omega)]; exact m3
  · rw [gI_hsi, if_neg (by omega), gI_hsi, if_neg (by omega)]; exact m4
  · rw [gI_hsi, if_neg (by omega), gI_hsi, if_neg (by omega)]; exact m5 i hi
  · rw [gI_hsi, if_neg (by omega), gI_hsi, if_neg (by omega)]; exact m6
  · unfold SMc; omega
  · unfold SMc; omega
theorem MS_fr {t : Nat} {s o : List Int32} {c : Int32} {h h1 : Hp} (f : Fr S96 h h1) (M : MS t s o c h) : MS t s o c h1 := by
  obtain ⟨m1, m2, m3, m4, m5, m6⟩ := M
  refine ⟨?_, stk_c (fun k hk => f.i (by omega)) m2, ?_, ?_, fun i hi => ?_, ?_⟩
  · rw [f.i (by omega)]; exact m1
  · rw [f.i (by omega)]; exact m3
  · rw [f.i (by omega)]; exact m4
  · rw [f.i (by omega)]; exact m5 i hi
  · rw [f.i (by omega)]; exact m6
theorem l_unw {t r : Nat} (ht : t < 6) (hr : r < 100) (s : List Int32) : ∀ (o : List Int32) (c : Int32) (m : Nat) (h : Hp), s.length < m → s.length + o.length ≤ 160 → MS t s o c h → ∃ h', g_X8_unwinds_0 4000 m (iN r) h = some h' ∧ MS t (uw r s o c).1 (uw r s o c).2.1 (uw r s o c).2.2 h' ∧ Fr (SMc t) h h' := by
  induction s with
  | nil =>
    intro o c m h hm hl M
    obtain ⟨m, rfl⟩ : ∃ z, m = z + 1 := ⟨m - 1, by simp at hm; omega⟩
    refine ⟨h, ?_, M, Fr.rfl' _ _⟩
    rw [g_X8_unwinds_0, M.1, if_pos (by decide)]
  | cons x s ih =>
    intro o c m h hm hl M
    obtain ⟨m, rfl⟩ : ∃ z, m = z + 1 := ⟨m - 1, by simp at hm; omega⟩
    have hl' : s.length + 1 + o.length ≤ 160 := by simpa using hl
    have hm' : s.length < m := by simp at hm; omega
    obtain ⟨m1, ⟨m2, m2'⟩, m3, m4, m5, m6⟩ := id M
    have m1' : gI h 96 32 = iN (s.length + 1) := m1
    rw [g_X8_unwinds_0, m1', if_neg (show ¬ iN (s.length + 1) ≤ 0 by rw [show (0 : Int32) = iN 0 from rfl, iN_le (by omega) (by omega)]; omega), iN_sub (by omega) (by omega), Nat.add_sub_cancel, if_pos (iN_inb (by omega) (by decide)), iN_ix (by omega), m2, r_rank, Option.bind_some]
    have hx := rnk_le x
    unfold uw
    by_cases d : rnk x < r
    · rw [if_pos (show iN (rnk x) < iN r by rw [iN_lt (by omega) (by omega)]; exact d), if_pos d]
      exact ⟨h, rfl, M, Fr.rfl' _ _⟩
    · rw [if_neg (show ¬ iN (rnk x) < iN r by rw [iN_lt (by omega) (by omega)]; exact d), if_neg d]
      dsimp only
      rw [m1', iN_sub (by omega) (by omega), Nat.add_sub_cancel]
      obtain ⟨h1, e1⟩ : ∃ h1, h1 = hsi h 96 32 (iN s.length) := ⟨_, rfl⟩
      have f1 : Fr (SMc t) h h1 := by rw [e1]; exact (Fr.rfl' _ _).si _ (by unfold SMc; omega)
      rw [← e1]
      have q32 : gI h1 96 32 = iN s.length := by rw [e1, gI_hsi, if_pos ⟨rfl, rfl⟩]
      have q112 : gI h1 112 s.length = x := by rw [e1, gI_hsi, if_neg (by omega)]; exact m2
      have q33 : gI h1 96 33 = c := by rw [e1, gI_hsi, if_neg (by omega)]; exact m3
      have tail : ∀ c', ∃ h', g_X8_unwinds_71 4000 (g_X8_unwinds_0 4000 m) (iN r) x (hsi h1 96 33 c') = some h' ∧ MS t (uw r s (o ++ [x]) c').1 (uw r s (o ++ [x]) c').2.1 (uw r s (o ++ [x]) c').2.2 h' ∧ Fr (SMc t) h h' := by
        intro c'
        have f2 : Fr (SMc t) h (hsi h1 96 33 c') := f1.si _ (by unfold SMc; omega)
        have M2 : MS t s o c' (hsi h1 96 33 c') := by
          have g : ∀ a k, ¬ (a = 96 ∧ (k = 32 ∨ k = 33)) → gI (hsi h1 96 33 c') a k = gI h a k := fun a k q => by rw [gI_hsi, if_neg (by omega), e1, gI_hsi, if_neg (by omega)]
          refine ⟨by rw [gI_hsi, if_neg (by omega)]; exact q32, stk_c (fun k hk => g _ _ (by omega)) m2', by rw [gI_hsi, if_pos ⟨rfl, rfl⟩], by rw [g _ _ (by omega)]; exact m4, fun i hi => by rw [g _ _ (by omega)]; exact m5 i hi, by rw [g _ _ (by omega)]; exact m6⟩
        obtain ⟨h3, a3, M3, f3⟩ := r_puts ht (by omega) x M2
        obtain ⟨h4, a4, M4, f4⟩ := ih (o ++ [x]) c' m h3 hm' (by simp; omega) M3
        refine ⟨h4, ?_, M4, (f2.tr f3).tr f4⟩
        unfold g_X8_unwinds_71
        rw [a3, Option.bind_some]; exact a4
      unfold g_X8_unwinds_35 g_X8_unwinds_62 g_X8_unwinds_67
      rw [q32, if_pos (iN_inb (by omega) (by decide)), iN_ix (by omega), q112, q33]
      by_cases x13 : x = 13
      · rw [if_pos x13, if_pos (Or.inl x13)]; exact tail _
      · rw [if_neg x13]
        by_cases x19 : x = 19
        · rw [if_neg (fun z => z x19), if_pos (Or.inr x19)]; exact tail _
        · rw [if_pos x19, if_neg (fun z => z.elim x13 x19), Int32.sub_zero]; exact tail _
theorem r_unw {t r : Nat} {s o : List Int32} {c : Int32} {h : Hp} (ht : t < 6) (hr : r < 100) (hl : s.length + o.length ≤ 160) (M : MS t s o c h) : ∃ h', g_X8_unwinds 4000 (iN r) h = some h' ∧ MS t (uw r s o c).1 (uw r s o c).2.1 (uw r s o c).2.2 h' ∧ Fr (SMc t) h h' := l_unw ht hr s o c 4000 h (by omega) hl M
