/-! THE HEAP as the constructors leave it: every cell's kind, every reference but the one that moves (the hands' law) -/
noncomputable def KTL : List (Nat × Nat) := [(99, 0), (99, 0), (99, 0), (99, 0), (99, 0), (99, 0), (99, 0), (99, 0), (99, 0), (99, 0), (99, 0), (99, 0), (99, 0), (99, 0), (99, 0), (99, 0), (7, 15), (0, 4), (9, 12), (9, 12), (9, 3), (0, 4), (9, 12), (9, 12), (9, 3), (0, 4), (9, 12), (9, 12), (9, 3), (12, 12), (13, 6), (2, 6), (9, 160), (11, 4), (9, 16), (9, 16), (5, 3), (5, 3), (5, 3), (5, 3), (5, 3), (5, 3), (5, 3), (5, 3), (5, 3), (5, 3), (5, 3), (5, 3), (6, 4), (9, 160), (9, 3), (9, 40), (6, 4), (9, 160), (9, 3), (9, 40), (6, 4), (9, 160), (9, 3), (9, 40), (6, 4), (9, 160), (9, 3), (9, 40), (6, 4), (9, 160), (9, 3), (9, 40), (6, 4), (9, 160), (9, 3), (9, 40), (4, 3), (9, 40), (4, 3), (9, 40), (4, 3), (9, 40), (4, 3), (9, 40), (1, 6), (9, 6), (3, 12), (9, 12), (9, 12), (9, 12), (9, 12), (9, 12), (10, 12), (3, 12), (9, 12), (9, 12), (9, 12), (9, 12), (9, 12), (10, 12), (8, 54), (9, 12), (9, 12), (9, 12), (9, 12), (9, 12), (9, 160), (9, 1200), (9, 24), (9, 12), (9, 12), (9, 4), (9, 4), (9, 160), (9, 83), (9, 96), (9, 200), (9, 200), (9, 6), (9, 12), (9, 12), (9, 12), (9, 12), (9, 12), (9, 12), (9, 12), (9, 12), (9, 16), (9, 16)]
noncomputable def KT (a : Nat) : Nat × Nat := KTL.getD a (99, 0)
noncomputable def RTL : List (List (Option Nat)) := [[], [], [], [], [], [], [], [], [], [], [], [], [], [], [], [], [some 17, some 21, some 25, some 29, some 30, some 31, some 80, some 82, some 89, some 33, some 34, some 35, none, none, none], [some 18, some 19, some 20, none], [], [], [], [some 22, some 23, some 24, none], [], [], [], [some 26, some 27, some 28, none], [], [], [], [some 36, some 37, some 38, some 39, some 40, some 41, some 42, some 43, some 44, some 45, some 46, some 47], [some 48, some 52, some 56, some 60, some 64, some 68], [some 32, none, none, none, none, none], [], [some 72, some 74, some 76, some 78], [], [], [], [], [], [], [], [], [], [], [], [], [], [], [some 49, some 50, some 51, none], [], [], [], [some 53, some 54, some 55, none], [], [], [], [some 57, some 58, some 59, none], [], [], [], [some 61, some 62, some 63, none], [], [], [], [some 65, some 66, some 67, none], [], [], [], [some 69, some 70, some 71, none], [], [], [], [some 73, none, none], [], [some 75, none, none], [], [some 77, none, none], [], [some 79, none, none], [], [some 81, none, none, none, none, none], [], [some 83, some 84, some 85, some 86, some 87, some 88, some 80, none, none, none, none, none], [], [], [], [], [], [], [some 90, some 91, some 92, some 93, some 94, some 95, some 80, none, none, none, none, none], [], [], [], [], [], [], [some 97, some 98, none, none, none, none, some 99, some 100, some 101, some 102, none, some 103, some 104, none, none, none, none, none, none, none, some 105, some 106, some 107, some 108, some 109, some 110, none, none, none, none, some 111, some 112, none, none, none, some 113, some 114, some 115, some 116, some 117, none, none, none, none, none, none, none, some 118, some 119, some 120, some 121, some 122, some 123, some 124], [], [], [], [], [], [], [], [], [], [], [], [], [], [], [], [], [], [], [], [], [], [], [], [], [], [], [], []]
noncomputable def RT (a j : Nat) : Option Nat := (RTL.getD a []).getD j none
noncomputable abbrev OB0 (r : Nat) : Prop := r = 17 ∨ r = 21 ∨ r = 25
noncomputable abbrev OB3 (r : Nat) : Prop := r = 82 ∨ r = 89
noncomputable abbrev OB4 (r : Nat) : Prop := r = 72 ∨ r = 74 ∨ r = 76 ∨ r = 78
noncomputable abbrev OB5 (r : Nat) : Prop := r = 36 ∨ r = 37 ∨ r = 38 ∨ r = 39 ∨ r = 40 ∨ r = 41 ∨ r = 42 ∨ r = 43 ∨ r = 44 ∨ r = 45 ∨ r = 46 ∨ r = 47
noncomputable abbrev OB6 (r : Nat) : Prop := r = 48 ∨ r = 52 ∨ r = 56 ∨ r = 60 ∨ r = 64 ∨ r = 68
noncomputable abbrev ARY (hi a k n : Nat) : Prop := 16 ≤ a ∧ a < hi ∧ a < 125 ∧ KT a = (k, n)
noncomputable def SHP (L hi : Nat) (h : Hp) : Prop := h.1.take 16 = roK L ∧ (∀ a, 16 ≤ a → a < hi → a < 125 → hk h a = KT a ∧ ∀ j, (a ≠ 80 ∨ j ≠ 1) → h.2.2.2 a j = RT a j) ∧ ∃ t, h.2.2.2 80 1 = some t ∧ OB6 t
section SHPS
variable {L hi : Nat} {h : Hp}
theorem shi (SH : SHP L hi h) (a j : Nat) (x : Int32) : SHP L hi (hsi h a j x) := SH
theorem shl (SH : SHP L hi h) (a j : Nat) (x : Int64) : SHP L hi (hsl h a j x) := SH
theorem shc (SH : SHP L hi h) (b s a d n : Nat) : SHP L hi (hcp h b s a d n) := SH
theorem ob6_16 {t : Nat} (h6 : OB6 t) : 16 ≤ t := by
  rcases h6 with rfl | rfl | rfl | rfl | rfl | rfl <;> decide
theorem sPutLaw (SH : SHP L hi h) {t : Nat} (h6 : OB6 t) : SHP L hi (hsr h 80 1 (some t)) := by
  obtain ⟨h1, h2, h3⟩ := SH
  refine ⟨h1, fun a z1 z2 z3 => ⟨(h2 a z1 z2 z3).1, fun j hj => ?_⟩, t, by simp [hsr, up2], h6⟩
  show (if a = 80 ∧ j = 1 then some t else h.2.2.2 a j) = _
  rw [if_neg (fun z => by rcases hj with q | q; exact q z.1; exact q z.2)]
  exact (h2 a z1 z2 z3).2 j hj
theorem sLaw (SH : SHP L hi h) {t : Nat} (e : gR h 80 1 = some t) : OB6 t := by
  obtain ⟨-, -, t', h3, h4⟩ := SH
  have : t' = t := Option.some.inj (h3.symm.trans e)
  rw [← this]; exact h4
theorem sA {hi0 a k n : Nat} (SH : SHP L hi h) (hh : hi0 ≤ hi) (ha : ARY hi0 a k n) : hk h a = (k, n) := ((SH.2.1 a ha.1 (by omega) ha.2.2.1).1).trans ha.2.2.2
theorem mkI {a n : Nat} {i : Int32} (e : hk h a = (9, n)) (c : inb i n = true) : okI h a i := ⟨by rw [e], by rw [e]; exact c⟩
theorem mkL {a n : Nat} {i : Int32} (e : hk h a = (10, n)) (c : inb i n = true) : okL h a i := ⟨by rw [e], by rw [e]; exact c⟩
theorem mkR {a k n : Nat} {i : Int32} (e : hk h a = (k, n)) (hk1 : 11 ≤ k ∧ k ≤ 13) (c : inb i n = true) : okR h a i := ⟨by rw [e]; exact hk1, by rw [e]; exact c⟩
noncomputable abbrev cpOk (s : Int32) (nx : Nat) (e : Int32) (ny : Nat) (n : Int32) : Prop := 0 ≤ n.toInt ∧ 0 ≤ e.toInt ∧ 0 ≤ s.toInt ∧ ix s + ix n ≤ nx ∧ ix e + ix n ≤ ny
theorem mkCp {x y nx ny : Nat} {s e n : Int32} (e1 : hk h x = (9, nx)) (e2 : hk h y = (9, ny)) (c : cpOk s nx e ny n) : okCp h x s y e n := by
  obtain ⟨c1, c2, c3, c4, c5⟩ := c
  exact ⟨c1, c2, c3, by rw [e1]; exact c4, by rw [e2]; exact c5, by rw [e1], by rw [e2]⟩
theorem sIsA (SH : SHP L hi h) {i : Int32} (c : inb i 6 = true) : okC h 0 i := by
  have e : hk h 0 = (22, 6) := (hk_ro SH.1 (by omega)).trans rfl
  exact ⟨by rw [e], by rw [e]; exact c⟩
theorem sScr (SH : SHP L hi h) : hk h 14 = (22, L) := (hk_ro SH.1 (by omega)).trans rfl
theorem sScrI (SH : SHP L hi h) {i : Int32} (c : inb i L = true) : okC h 14 i := ⟨by rw [sScr SH], by rw [sScr SH]; exact c⟩
theorem sStr (SH : SHP L hi h) {s : Nat} (hs : s = 1 ∨ s = 2 ∨ s = 3) : hk h s = (20, 2) := by
  rcases hs with rfl | rfl | rfl <;> exact (hk_ro SH.1 (by omega)).trans rfl

theorem sO0 (SH : SHP L hi h) (hh : 96 ≤ hi) {r : Nat} (hr : OB0 r) : okO h r 0 := by
  rcases hr with rfl | rfl | rfl <;> exact (SH.2.1 _ (by decide) (by omega) (by decide)).1.trans (by decide)
theorem sR0_0 (SH : SHP L hi h) (hh : 96 ≤ hi) {r : Nat} (hr : OB0 r) : gR h r 0 = some (r + 1) := by
  rcases hr with rfl | rfl | rfl <;> exact ((SH.2.1 _ (by decide) (by omega) (by decide)).2 0 (by decide)).trans (by decide)
theorem aR0_0 {r : Nat} (hr : OB0 r) : ARY 96 (r + 1) 9 12 := by
  rcases hr with rfl | rfl | rfl <;> decide
theorem sR0_1 (SH : SHP L hi h) (hh : 96 ≤ hi) {r : Nat} (hr : OB0 r) : gR h r 1 = some (r + 2) := by
  rcases hr with rfl | rfl | rfl <;> exact ((SH.2.1 _ (by decide) (by omega) (by decide)).2 1 (by decide)).trans (by decide)
theorem aR0_1 {r : Nat} (hr : OB0 r) : ARY 96 (r + 2) 9 12 := by
  rcases hr with rfl | rfl | rfl <;> decide
theorem sR0_2 (SH : SHP L hi h) (hh : 96 ≤ hi) {r : Nat} (hr : OB0 r) : gR h r 2 = some (r + 3) := by
  rcases hr with rfl | rfl | rfl <;> exact ((SH.2.1 _ (by decide) (by omega) (by decide)).2 2 (by decide)).trans (by decide)
theorem aR0_2 {r : Nat} (hr : OB0 r) : ARY 96 (r + 3) 9 3 := by
  rcases hr with rfl | rfl | rfl <;> decide
theorem sO3 (SH : SHP L hi h) (hh : 96 ≤ hi) {r : Nat} (hr : OB3 r) : okO h r 3 := by
  rcases hr with rfl | rfl <;> exact (SH.2.1 _ (by decide) (by omega) (by decide)).1.trans (by decide)
theorem sR3_0 (SH : SHP L hi h) (hh : 96 ≤ hi) {r : Nat} (hr : OB3 r) : gR h r 0 = some (r + 1) := by
  rcases hr with rfl | rfl <;> exact ((SH.2.1 _ (by decide) (by omega) (by decide)).2 0 (by decide)).trans (by decide)
theorem aR3_0 {r : Nat} (hr : OB3 r) : ARY 96 (r + 1) 9 12 := by
  rcases hr with rfl | rfl <;> decide
theorem sR3_1 (SH : SHP L hi h) (hh : 96 ≤ hi) {r : Nat} (hr : OB3 r) : gR h r 1 = some (r + 2) := by
  rcases hr with rfl | rfl <;> exact ((SH.2.1 _ (by decide) (by omega) (by decide)).2 1 (by decide)).trans (by decide)
theorem aR3_1 {r : Nat} (hr : OB3 r) : ARY 96 (r + 2) 9 12 := by
  rcases hr with rfl | rfl <;> decide
theorem sR3_2 (SH : SHP L hi h) (hh : 96 ≤ hi) {r : Nat} (hr : OB3 r) : gR h r 2 = some (r + 3) := by
  rcases hr with rfl | rfl <;> exact ((SH.2.1 _ (by decide) (by omega) (by decide)).2 2 (by decide)).trans (by decide)
theorem aR3_2 {r : Nat} (hr : OB3 r) : ARY 96 (r + 3) 9 12 := by
  rcases hr with rfl | rfl <;> decide
theorem sR3_3 (SH : SHP L hi h) (hh : 96 ≤ hi) {r : Nat} (hr : OB3 r) : gR h r 3 = some (r + 4) := by
  rcases hr with rfl | rfl <;> exact ((SH.2.1 _ (by decide) (by omega) (by decide)).2 3 (by decide)).trans (by decide)
theorem aR3_3 {r : Nat} (hr : OB3 r) : ARY 96 (r + 4) 9 12 := by
  rcases hr with rfl | rfl <;> decide
theorem sR3_4 (SH : SHP L hi h) (hh : 96 ≤ hi) {r : Nat} (hr : OB3 r) : gR h r 4 = some (r + 5) := by
  rcases hr with rfl | rfl <;> exact ((SH.2.1 _ (by decide) (by omega) (by decide)).2 4 (by decide)).trans (by decide)
theorem aR3_4 {r : Nat} (hr : OB3 r) : ARY 96 (r + 5) 9 12 := by
  rcases hr with rfl | rfl <;> decide
theorem sR3_5 (SH : SHP L hi h) (hh : 96 ≤ hi) {r : Nat} (hr : OB3 r) : gR h r 5 = some (r + 6) := by
  rcases hr with rfl | rfl <;> exact ((SH.2.1 _ (by decide) (by omega) (by decide)).2 5 (by decide)).trans (by decide)
theorem aR3_5 {r : Nat} (hr : OB3 r) : ARY 96 (r + 6) 10 12 := by
  rcases hr with rfl | rfl <;> decide
theorem sR3_6 (SH : SHP L hi h) (hh : 96 ≤ hi) {r : Nat} (hr : OB3 r) : gR h r 6 = some (80) := by
  rcases hr with rfl | rfl <;> exact ((SH.2.1 _ (by decide) (by omega) (by decide)).2 6 (by decide)).trans (by decide)
theorem sO4 (SH : SHP L hi h) (hh : 96 ≤ hi) {r : Nat} (hr : OB4 r) : okO h r 4 := by
  rcases hr with rfl | rfl | rfl | rfl <;> exact (SH.2.1 _ (by decide) (by omega) (by decide)).1.trans (by decide)
theorem sR4_0 (SH : SHP L hi h) (hh : 96 ≤ hi) {r : Nat} (hr : OB4 r) : gR h r 0 = some (r + 1) := by
  rcases hr with rfl | rfl | rfl | rfl <;> exact ((SH.2.1 _ (by decide) (by omega) (by decide)).2 0 (by decide)).trans (by decide)
theorem aR4_0 {r : Nat} (hr : OB4 r) : ARY 96 (r + 1) 9 40 := by
  rcases hr with rfl | rfl | rfl | rfl <;> decide
theorem sO5 (SH : SHP L hi h) (hh : 96 ≤ hi) {r : Nat} (hr : OB5 r) : okO h r 5 := by
  rcases hr with rfl | rfl | rfl | rfl | rfl | rfl | rfl | rfl | rfl | rfl | rfl | rfl <;> exact (SH.2.1 _ (by decide) (by omega) (by decide)).1.trans (by decide)
theorem sO6 (SH : SHP L hi h) (hh : 96 ≤ hi) {r : Nat} (hr : OB6 r) : okO h r 6 := by
  rcases hr with rfl | rfl | rfl | rfl | rfl | rfl <;> exact (SH.2.1 _ (by decide) (by omega) (by decide)).1.trans (by decide)
theorem sR6_0 (SH : SHP L hi h) (hh : 96 ≤ hi) {r : Nat} (hr : OB6 r) : gR h r 0 = some (r + 1) := by
  rcases hr with rfl | rfl | rfl | rfl | rfl | rfl <;> exact ((SH.2.1 _ (by decide) (by omega) (by decide)).2 0 (by decide)).trans (by decide)
theorem aR6_0 {r : Nat} (hr : OB6 r) : ARY 96 (r + 1) 9 160 := by
  rcases hr with rfl | rfl | rfl | rfl | rfl | rfl <;> decide
theorem sR6_1 (SH : SHP L hi h) (hh : 96 ≤ hi) {r : Nat} (hr : OB6 r) : gR h r 1 = some (r + 2) := by
  rcases hr with rfl | rfl | rfl | rfl | rfl | rfl <;> exact ((SH.2.1 _ (by decide) (by omega) (by decide)).2 1 (by decide)).trans (by decide)
theorem aR6_1 {r : Nat} (hr : OB6 r) : ARY 96 (r + 2) 9 3 := by
  rcases hr with rfl | rfl | rfl | rfl | rfl | rfl <;> decide
theorem sR6_2 (SH : SHP L hi h) (hh : 96 ≤ hi) {r : Nat} (hr : OB6 r) : gR h r 2 = some (r + 3) := by
  rcases hr with rfl | rfl | rfl | rfl | rfl | rfl <;> exact ((SH.2.1 _ (by decide) (by omega) (by decide)).2 2 (by decide)).trans (by decide)
theorem aR6_2 {r : Nat} (hr : OB6 r) : ARY 96 (r + 3) 9 40 := by
  rcases hr with rfl | rfl | rfl | rfl | rfl | rfl <;> decide
theorem sO7 (SH : SHP L hi h) (hh : 96 ≤ hi) : okO h 16 7 := (SH.2.1 _ (by decide) (by omega) (by decide)).1.trans (by decide)
theorem sR7_0 (SH : SHP L hi h) (hh : 96 ≤ hi) : gR h 16 0 = some 17 := ((SH.2.1 _ (by decide) (by omega) (by decide)).2 0 (by decide)).trans (by decide)
theorem sR7_1 (SH : SHP L hi h) (hh : 96 ≤ hi) : gR h 16 1 = some 21 := ((SH.2.1 _ (by decide) (by omega) (by decide)).2 1 (by decide)).trans (by decide)
theorem sR7_2 (SH : SHP L hi h) (hh : 96 ≤ hi) : gR h 16 2 = some 25 := ((SH.2.1 _ (by decide) (by omega) (by decide)).2 2 (by decide)).trans (by decide)
theorem sR7_3 (SH : SHP L hi h) (hh : 96 ≤ hi) : gR h 16 3 = some 29 := ((SH.2.1 _ (by decide) (by omega) (by decide)).2 3 (by decide)).trans (by decide)
theorem sR7_4 (SH : SHP L hi h) (hh : 96 ≤ hi) : gR h 16 4 = some 30 := ((SH.2.1 _ (by decide) (by omega) (by decide)).2 4 (by decide)).trans (by decide)
theorem sR7_5 (SH : SHP L hi h) (hh : 96 ≤ hi) : gR h 16 5 = some 31 := ((SH.2.1 _ (by decide) (by omega) (by decide)).2 5 (by decide)).trans (by decide)
theorem sR7_6 (SH : SHP L hi h) (hh : 96 ≤ hi) : gR h 16 6 = some 80 := ((SH.2.1 _ (by decide) (by omega) (by decide)).2 6 (by decide)).trans (by decide)
theorem sR7_7 (SH : SHP L hi h) (hh : 96 ≤ hi) : gR h 16 7 = some 82 := ((SH.2.1 _ (by decide) (by omega) (by decide)).2 7 (by decide)).trans (by decide)
theorem sR7_8 (SH : SHP L hi h) (hh : 96 ≤ hi) : gR h 16 8 = some 89 := ((SH.2.1 _ (by decide) (by omega) (by decide)).2 8 (by decide)).trans (by decide)
theorem sR7_9 (SH : SHP L hi h) (hh : 96 ≤ hi) : gR h 16 9 = some 33 := ((SH.2.1 _ (by decide) (by omega) (by decide)).2 9 (by decide)).trans (by decide)
theorem sR7_10 (SH : SHP L hi h) (hh : 96 ≤ hi) : gR h 16 10 = some 34 := ((SH.2.1 _ (by decide) (by omega) (by decide)).2 10 (by decide)).trans (by decide)
theorem sR7_11 (SH : SHP L hi h) (hh : 96 ≤ hi) : gR h 16 11 = some 35 := ((SH.2.1 _ (by decide) (by omega) (by decide)).2 11 (by decide)).trans (by decide)
theorem sO8 (SH : SHP L hi h) (hh : 125 ≤ hi) : okO h 96 8 := (SH.2.1 _ (by decide) (by omega) (by decide)).1.trans (by decide)
theorem sR8_0 (SH : SHP L hi h) (hh : 125 ≤ hi) : gR h 96 0 = some 97 := ((SH.2.1 _ (by decide) (by omega) (by decide)).2 0 (by decide)).trans (by decide)
theorem sR8_1 (SH : SHP L hi h) (hh : 125 ≤ hi) : gR h 96 1 = some 98 := ((SH.2.1 _ (by decide) (by omega) (by decide)).2 1 (by decide)).trans (by decide)
theorem sR8_6 (SH : SHP L hi h) (hh : 125 ≤ hi) : gR h 96 6 = some 99 := ((SH.2.1 _ (by decide) (by omega) (by decide)).2 6 (by decide)).trans (by decide)
theorem sR8_7 (SH : SHP L hi h) (hh : 125 ≤ hi) : gR h 96 7 = some 100 := ((SH.2.1 _ (by decide) (by omega) (by decide)).2 7 (by decide)).trans (by decide)
theorem sR8_8 (SH : SHP L hi h) (hh : 125 ≤ hi) : gR h 96 8 = some 101 := ((SH.2.1 _ (by decide) (by omega) (by decide)).2 8 (by decide)).trans (by decide)
theorem sR8_9 (SH : SHP L hi h) (hh : 125 ≤ hi) : gR h 96 9 = some 102 := ((SH.2.1 _ (by decide) (by omega) (by decide)).2 9 (by decide)).trans (by decide)
theorem sR8_11 (SH : SHP L hi h) (hh : 125 ≤ hi) : gR h 96 11 = some 103 := ((SH.2.1 _ (by decide) (by omega) (by decide)).2 11 (by decide)).trans (by decide)
theorem sR8_12 (SH : SHP L hi h) (hh : 125 ≤ hi) : gR h 96 12 = some 104 := ((SH.2.1 _ (by decide) (by omega) (by decide)).2 12 (by decide)).trans (by decide)
theorem sR8_20 (SH : SHP L hi h) (hh : 125 ≤ hi) : gR h 96 20 = some 105 := ((SH.2.1 _ (by decide) (by omega) (by decide)).2 20 (by decide)).trans (by decide)
theorem sR8_21 (SH : SHP L hi h) (hh : 125 ≤ hi) : gR h 96 21 = some 106 := ((SH.2.1 _ (by decide) (by omega) (by decide)).2 21 (by decide)).trans (by decide)
theorem sR8_22 (SH : SHP L hi h) (hh : 125 ≤ hi) : gR h 96 22 = some 107 := ((SH.2.1 _ (by decide) (by omega) (by decide)).2 22 (by decide)).trans (by decide)
theorem sR8_23 (SH : SHP L hi h) (hh : 125 ≤ hi) : gR h 96 23 = some 108 := ((SH.2.1 _ (by decide) (by omega) (by decide)).2 23 (by decide)).trans (by decide)
theorem sR8_24 (SH : SHP L hi h) (hh : 125 ≤ hi) : gR h 96 24 = some 109 := ((SH.2.1 _ (by decide) (by omega) (by decide)).2 24 (by decide)).trans (by decide)
theorem sR8_25 (SH : SHP L hi h) (hh : 125 ≤ hi) : gR h 96 25 = some 110 := ((SH.2.1 _ (by decide) (by omega) (by decide)).2 25 (by decide)).trans (by decide)
theorem sR8_30 (SH : SHP L hi h) (hh : 125 ≤ hi) : gR h 96 30 = some 111 := ((SH.2.1 _ (by decide) (by omega) (by decide)).2 30 (by decide)).trans (by decide)
theorem sR8_31 (SH : SHP L hi h) (hh : 125 ≤ hi) : gR h 96 31 = some 112 := ((SH.2.1 _ (by decide) (by omega) (by decide)).2 31 (by decide)).trans (by decide)
theorem sR8_35 (SH : SHP L hi h) (hh : 125 ≤ hi) : gR h 96 35 = some 113 := ((SH.2.1 _ (by decide) (by omega) (by decide)).2 35 (by decide)).trans (by decide)
theorem sR8_36 (SH : SHP L hi h) (hh : 125 ≤ hi) : gR h 96 36 = some 114 := ((SH.2.1 _ (by decide) (by omega) (by decide)).2 36 (by decide)).trans (by decide)
theorem sR8_37 (SH : SHP L hi h) (hh : 125 ≤ hi) : gR h 96 37 = some 115 := ((SH.2.1 _ (by decide) (by omega) (by decide)).2 37 (by decide)).trans (by decide)
theorem sR8_38 (SH : SHP L hi h) (hh : 125 ≤ hi) : gR h 96 38 = some 116 := ((SH.2.1 _ (by decide) (by omega) (by decide)).2 38 (by decide)).trans (by decide)
theorem sR8_39 (SH : SHP L hi h) (hh : 125 ≤ hi) : gR h 96 39 = some 117 := ((SH.2.1 _ (by decide) (by omega) (by decide)).2 39 (by decide)).trans (by decide)
theorem sR8_47 (SH : SHP L hi h) (hh : 125 ≤ hi) : gR h 96 47 = some 118 := ((SH.2.1 _ (by decide) (by omega) (by decide)).2 47 (by decide)).trans (by decide)
theorem sR8_48 (SH : SHP L hi h) (hh : 125 ≤ hi) : gR h 96 48 = some 119 := ((SH.2.1 _ (by decide) (by omega) (by decide)).2 48 (by decide)).trans (by decide)
theorem sR8_49 (SH : SHP L hi h) (hh : 125 ≤ hi) : gR h 96 49 = some 120 := ((SH.2.1 _ (by decide) (by omega) (by decide)).2 49 (by decide)).trans (by decide)
theorem sR8_50 (SH : SHP L hi h) (hh : 125 ≤ hi) : gR h 96 50 = some 121 := ((SH.2.1 _ (by decide) (by omega) (by decide)).2 50 (by decide)).trans (by decide)
theorem sR8_51 (SH : SHP L hi h) (hh : 125 ≤ hi) : gR h 96 51 = some 122 := ((SH.2.1 _ (by decide) (by omega) (by decide)).2 51 (by decide)).trans (by decide)
theorem sR8_52 (SH : SHP L hi h) (hh : 125 ≤ hi) : gR h 96 52 = some 123 := ((SH.2.1 _ (by decide) (by omega) (by decide)).2 52 (by decide)).trans (by decide)
theorem sR8_53 (SH : SHP L hi h) (hh : 125 ≤ hi) : gR h 96 53 = some 124 := ((SH.2.1 _ (by decide) (by omega) (by decide)).2 53 (by decide)).trans (by decide)
theorem sO2 (SH : SHP L hi h) (hh : 96 ≤ hi) : okO h 31 2 := (SH.2.1 _ (by decide) (by omega) (by decide)).1.trans (by decide)
theorem sR2_0 (SH : SHP L hi h) (hh : 96 ≤ hi) : gR h 31 0 = some 32 := ((SH.2.1 _ (by decide) (by omega) (by decide)).2 0 (by decide)).trans (by decide)
theorem sO1 (SH : SHP L hi h) (hh : 96 ≤ hi) : okO h 80 1 := (SH.2.1 _ (by decide) (by omega) (by decide)).1.trans (by decide)
theorem sR1_0 (SH : SHP L hi h) (hh : 96 ≤ hi) : gR h 80 0 = some 81 := ((SH.2.1 _ (by decide) (by omega) (by decide)).2 0 (by decide)).trans (by decide)
theorem inb_29 {i : Int32} (c : inb i 12 = true) : ix i = 0 ∨ ix i = 1 ∨ ix i = 2 ∨ ix i = 3 ∨ ix i = 4 ∨ ix i = 5 ∨ ix i = 6 ∨ ix i = 7 ∨ ix i = 8 ∨ ix i = 9 ∨ ix i = 10 ∨ ix i = 11 := by
  simp only [inb, Bool.and_eq_true, decide_eq_true_eq] at c
  have e : ix i = i.toInt.toNat := rfl
  omega
theorem oE29 {i : Int32} (c : inb i 12 = true) : OB5 (36 + ix i) := by
  rcases inb_29 c with e | e | e | e | e | e | e | e | e | e | e | e <;> rw [e] <;> decide
theorem sE29 (SH : SHP L hi h) (hh : 96 ≤ hi) {i : Int32} (c : inb i 12 = true) : gR h 29 (ix i) = some (36 + ix i) := by
  rcases inb_29 c with e | e | e | e | e | e | e | e | e | e | e | e <;> rw [e] <;> exact ((SH.2.1 _ (by decide) (by omega) (by decide)).2 _ (by decide)).trans (by decide)
theorem inb_30 {i : Int32} (c : inb i 6 = true) : ix i = 0 ∨ ix i = 1 ∨ ix i = 2 ∨ ix i = 3 ∨ ix i = 4 ∨ ix i = 5 := by
  simp only [inb, Bool.and_eq_true, decide_eq_true_eq] at c
  have e : ix i = i.toInt.toNat := rfl
  omega
theorem oE30 {i : Int32} (c : inb i 6 = true) : OB6 (48 + 4 * ix i) := by
  rcases inb_30 c with e | e | e | e | e | e <;> rw [e] <;> decide
theorem sE30 (SH : SHP L hi h) (hh : 96 ≤ hi) {i : Int32} (c : inb i 6 = true) : gR h 30 (ix i) = some (48 + 4 * ix i) := by
  rcases inb_30 c with e | e | e | e | e | e <;> rw [e] <;> exact ((SH.2.1 _ (by decide) (by omega) (by decide)).2 _ (by decide)).trans (by decide)
theorem inb_33 {i : Int32} (c : inb i 4 = true) : ix i = 0 ∨ ix i = 1 ∨ ix i = 2 ∨ ix i = 3 := by
  simp only [inb, Bool.and_eq_true, decide_eq_true_eq] at c
  have e : ix i = i.toInt.toNat := rfl
  omega
theorem oE33 {i : Int32} (c : inb i 4 = true) : OB4 (72 + 2 * ix i) := by
  rcases inb_33 c with e | e | e | e <;> rw [e] <;> decide
theorem sE33 (SH : SHP L hi h) (hh : 96 ≤ hi) {i : Int32} (c : inb i 4 = true) : gR h 33 (ix i) = some (72 + 2 * ix i) := by
  rcases inb_33 c with e | e | e | e <;> rw [e] <;> exact ((SH.2.1 _ (by decide) (by omega) (by decide)).2 _ (by decide)).trans (by decide)
end SHPS
section SHPR
variable {X : Nat → Int32} {d mi pc : Nat} {lv : Lv} {st : List Value} {h : Hp} {o : Option Value × Hp} {nx a b t : Nat} {c : Int}
theorem rs_alIn {r n : Nat} {v : Int32} (hf : fetch mi pc = some (.arraylength, nx, a, b, c, t)) (e : hk h r = (9, n)) (hv : Int32.ofNat n = v) (k : Run X d mi nx lv (.int v :: st) h o) : Run X d mi pc lv (.ref r :: st) h o := rs_alI hf (by rw [e]) (by rw [e, hv]; exact k)
theorem rs_alCn {r n : Nat} (hf : fetch mi pc = some (.arraylength, nx, a, b, c, t)) (e : hk h r = (22, n)) (k : Run X d mi nx lv (.int (Int32.ofNat n) :: st) h o) : Run X d mi pc lv (.ref r :: st) h o := rs_alC hf (by rw [e]) (by rw [e]; exact k)
end SHPR
-- the texts' own methods leave the heap as it is
theorem some_eq {α : Type} {a o : α} (h : some a = some o) : o = a := (Option.some.inj h).symm
theorem j_J0_coder_7d493 {v0 : Nat} {h : Hp} {o : Int32 × Hp} (hf : f_J0_coder_7d493 v0 h = some o) : o.2 = h := by
  unfold f_J0_coder_7d493 f_J0_coder_7d493_0 at hf
  obtain ⟨-, hf⟩ := ite_some hf
  rw [some_eq hf]
theorem j_J0_isLatin1_aae02 {v0 : Nat} {h : Hp} {o : Int32 × Hp} (hf : f_J0_isLatin1_aae02 v0 h = some o) : o.2 = h := by
  unfold f_J0_isLatin1_aae02 f_J0_isLatin1_aae02_0 at hf
  obtain ⟨-, hf⟩ := ite_some hf
  rw [some_eq hf]
theorem j_J0_length_8abf5 {v0 : Nat} {h : Hp} {o : Int32 × Hp} (hf : f_J0_length_8abf5 v0 h = some o) : o.2 = h := by
  unfold f_J0_length_8abf5 f_J0_length_8abf5_0 at hf
  obtain ⟨-, hf⟩ := ite_some hf
  obtain ⟨-, hf⟩ := ite_some hf
  obtain ⟨o3, e3, hf⟩ := bind_some hf
  rw [some_eq hf]
  have z := j_J0_coder_7d493 e3
  exact z
theorem j_J3_checkIndex_8e157 {v0 v1 : Int32} {h : Hp} {o : Int32 × Hp} (hf : f_J3_checkIndex_8e157 v0 v1 h = some o) : o.2 = h := by
  unfold f_J3_checkIndex_8e157 f_J3_checkIndex_8e157_0 at hf
  split at hf
  · cases hf
  · split at hf
    · rw [some_eq hf]
    · cases hf
theorem j_J0_checkIndex_df160 {v0 v1 : Int32} {h : Hp} {o : Hp} (hf : f_J0_checkIndex_df160 v0 v1 h = some o) : o = h := by
  unfold f_J0_checkIndex_df160 f_J0_checkIndex_df160_0 at hf
  obtain ⟨o1, e1, hf⟩ := bind_some hf
  rw [some_eq hf]
  exact j_J3_checkIndex_8e157 e1
theorem j_J1_charAt_3b067 {v0 : Nat} {v1 : Int32} {h : Hp} {o : Int32 × Hp} (hf : f_J1_charAt_3b067 v0 v1 h = some o) : o.2 = h := by
  unfold f_J1_charAt_3b067 f_J1_charAt_3b067_0 at hf
  obtain ⟨-, hf⟩ := ite_some hf
  obtain ⟨o2, e2, hf⟩ := bind_some hf
  obtain ⟨-, hf⟩ := ite_some hf
  obtain ⟨-, hf⟩ := ite_some hf
  obtain ⟨-, hf⟩ := ite_some hf
  rw [some_eq hf]
  exact j_J0_checkIndex_df160 e2
theorem j_J0_charAt_5068e {v0 : Nat} {v1 : Int32} {h : Hp} {o : Int32 × Hp} (hf : f_J0_charAt_5068e v0 v1 h = some o) : o.2 = h := by
  unfold f_J0_charAt_5068e f_J0_charAt_5068e_0 at hf
  obtain ⟨-, hf⟩ := ite_some hf
  obtain ⟨o1, e1, hf⟩ := bind_some hf
  split at hf
  · split at hf <;> cases hf
  · obtain ⟨-, hf⟩ := ite_some hf
    obtain ⟨o6, e6, hf⟩ := bind_some hf
    obtain ⟨-, hf⟩ := ite_some hf
    rw [some_eq hf]
    exact (j_J1_charAt_3b067 e6).trans (j_J0_isLatin1_aae02 e1)
theorem j_J1_canEncode_9a6ad {v0 : Int32} {h : Hp} {o : Int32 × Hp} (hf : f_J1_canEncode_9a6ad v0 h = some o) : o.2 = h := by
  unfold f_J1_canEncode_9a6ad f_J1_canEncode_9a6ad_0 at hf
  split at hf
  · rw [some_eq hf]
  · split at hf <;> rw [some_eq hf]
theorem j_J1_indexOfChar_4cfef_7 {n : Nat} : ∀ (m v0 : Nat) (v3 v4 v5 : Int32) (h : Hp) (o : Int32 × Hp), f_J1_indexOfChar_4cfef_7 n m v0 v3 v4 v5 h = some o → o.2 = h := by
  intro m
  induction m with
  | zero => intro v0 v3 v4 v5 h o hf; cases hf
  | succ m ih =>
    intro v0 v3 v4 v5 h o hf
    rw [f_J1_indexOfChar_4cfef_7] at hf
    split at hf
    · rw [some_eq hf]
    · obtain ⟨-, hf⟩ := ite_some hf
      obtain ⟨-, hf⟩ := ite_some hf
      split at hf
      · exact ih _ _ _ _ _ _ hf
      · rw [some_eq hf]
theorem j_J1_indexOf_4cfef {n v0 : Nat} {v1 v2 v3 : Int32} {h : Hp} {o : Int32 × Hp} (hf : f_J1_indexOf_4cfef n v0 v1 v2 v3 h = some o) : o.2 = h := by
  have k22 : ∀ (v1 v2 v3 : Int32) (h : Hp) (o : Int32 × Hp), f_J1_indexOf_4cfef_22 n v0 v1 v2 v3 h = some o → o.2 = h := by
    intro v1 v2 v3 h o hf
    unfold f_J1_indexOf_4cfef_22 at hf
    split at hf
    · obtain ⟨o2, e2, hf⟩ := bind_some hf
      rw [some_eq hf]
      exact j_J1_indexOfChar_4cfef_7 _ _ _ _ _ _ _ e2
    · rw [some_eq hf]
  unfold f_J1_indexOf_4cfef f_J1_indexOf_4cfef_0 at hf
  obtain ⟨o1, e1, hf⟩ := bind_some hf
  have h1 := j_J1_canEncode_9a6ad e1
  split at hf
  · obtain ⟨-, hf⟩ := ite_some hf
    exact (k22 _ _ _ _ _ hf).trans h1
  · rw [some_eq hf]
    exact h1
theorem j_J0_indexOf_7cf53 {n v0 : Nat} {v1 v2 : Int32} {h : Hp} {o : Int32 × Hp} (hf : f_J0_indexOf_7cf53 n v0 v1 v2 h = some o) : o.2 = h := by
  unfold f_J0_indexOf_7cf53 f_J0_indexOf_7cf53_0 at hf
  obtain ⟨-, hf⟩ := ite_some hf
  obtain ⟨o1, e1, hf⟩ := bind_some hf
  split at hf
  · obtain ⟨-, hf⟩ := ite_some hf
    obtain ⟨o5, e5, hf⟩ := bind_some hf
    cases hf
  · obtain ⟨-, hf⟩ := ite_some hf
    obtain ⟨o7, e7, hf⟩ := bind_some hf
    obtain ⟨o8, e8, hf⟩ := bind_some hf
    rw [some_eq hf]
    exact (j_J1_indexOf_4cfef e8).trans ((j_J0_length_8abf5 e7).trans (j_J0_isLatin1_aae02 e1))
theorem j_J0_indexOf_0f7a4 {n v0 : Nat} {v1 : Int32} {h : Hp} {o : Int32 × Hp} (hf : f_J0_indexOf_0f7a4 n v0 v1 h = some o) : o.2 = h := by
  unfold f_J0_indexOf_0f7a4 f_J0_indexOf_0f7a4_0 at hf
  obtain ⟨-, hf⟩ := ite_some hf
  obtain ⟨o1, e1, hf⟩ := bind_some hf
  rw [some_eq hf]
  exact j_J0_indexOf_7cf53 e1
