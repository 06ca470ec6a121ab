/-! THE CLASS'S ROPE -/
noncomputable def CR (v : Nat) (r : RP) (h : Hp) : Prop := (∀ k, k < 12 → gI h (v + 1) k = rM r k ∧ gI h (v + 2) k = rL r k ∧ gI h (v + 3) k = rS r k) ∧ gI h v 7 = rF r ∧ gI h v 8 = rD r ∧ gI h v 9 = rC r ∧ gL' h v 10 = rW r ∧ gL' h v 11 = rE r
noncomputable def CE (e : EV) (h : Hp) : Prop := ((e.1 = 0 ∧ gI h 80 4 = 0) ∨ (e.1 = 1 ∧ gI h 80 4 = 1)) ∧ gI h 80 2 = e.2.2.1 ∧ gI h 80 3 = e.2.2.2 ∧ okT e.2.1 ∧ ∃ t, t < 6 ∧ gR h 80 1 = some (48 + 4 * t) ∧ TxC t e.2.1 h
noncomputable def CO (e : EV) (l : Int64) (h : Hp) : Prop := e.1 ≠ 0 → gL' h 80 5 = l
noncomputable def isStk (a : Nat) : Prop := a = 51 ∨ a = 55 ∨ a = 59 ∨ a = 63 ∨ a = 67 ∨ a = 71
noncomputable def SCr (v a k : Nat) : Prop := (v ≤ a ∧ a ≤ v + 6) ∨ (a = 80 ∧ k = 5) ∨ a = 81 ∨ isStk a
noncomputable def SN (a k : Nat) : Prop := a = 81 ∨ isStk a
noncomputable abbrev ok82 (v : Nat) : Prop := v = 82 ∨ v = 89
theorem CE_fr {v : Nat} (hv : ok82 v) {e : EV} {h h1 : Hp} (f : Fr (SCr v) h h1) (H : CE e h) : CE e h1 := by
  obtain ⟨a, b, c, O, t, ht, d, x⟩ := H
  refine ⟨?_, ?_, ?_, O, t, ht, ?_, TxC_c (fun a k q => f.i (by unfold SCr isStk; omega)) x⟩
  · rw [f.i (by unfold SCr isStk; omega)]; exact a
  · rw [f.i (by unfold SCr isStk; omega)]; exact b
  · rw [f.i (by unfold SCr isStk; omega)]; exact c
  · rw [f.r (by unfold SCr isStk; omega)]; exact d
theorem CR_fr {S : Nat → Nat → Prop} {v : Nat} {r : RP} {h h1 : Hp} (f : Fr S h h1) (hS : ∀ a k, ((v + 1 ≤ a ∧ a ≤ v + 3) ∨ (a = v ∧ 7 ≤ k ∧ k ≤ 11)) → ¬ S a k) (H : CR v r h) : CR v r h1 := by
  obtain ⟨a, b, c, d, e, g⟩ := H
  refine ⟨fun k hk => ?_, ?_, ?_, ?_, ?_, ?_⟩
  · rw [f.i (hS _ _ (by omega)), f.i (hS _ _ (by omega)), f.i (hS _ _ (by omega))]; exact a k hk
  · rw [f.i (hS _ _ (by omega))]; exact b
  · rw [f.i (hS _ _ (by omega))]; exact c
  · rw [f.i (hS _ _ (by omega))]; exact d
  · rw [f.l (hS _ _ (by omega))]; exact e
  · rw [f.l (hS _ _ (by omega))]; exact g
theorem c_thick {v : Nat} {r : RP} {h : Hp} (R : CR v r h) (H : okP r) {c : Nat} (hc : c < 12) : g_X3_thick v (iN c) h = some (thk r c, h) := by
  have h0 := (iN0 (k := c) (n := 12) hc (by decide)).1
  unfold g_X3_thick g_X3_thick_0
  rw [if_neg (by lia), if_neg (i12 hc), if_pos (iN_inb hc (by decide)), iN_ix (by omega), (R.1 c hc).1, (R.1 c hc).2.1, if_neg (by rw [le32, k_0]; have := (H c hc).1; omega), if_pos (ne0_of (H c hc).1.1)]
  rfl
theorem c_ask {v : Nat} (hv : ok82 v) {e : EV} {r : RP} {h : Hp} (R : CR v r h) (E : CE e h) (H : okP r) {part c : Nat} (hp : part < 3) (hc : c < 12) (p : Int32) : ∃ h', g_X1_says 4000 (iN part) v (iN c) p h = some (ask e r part c p, h') ∧ Fr SN h h' := by
  obtain ⟨-, b, -, O, t, ht, d, x⟩ := E
  obtain ⟨h1, e1⟩ : ∃ h1, h1 = hsi (hsi (hsi (hsi (hsi (hsi h 81 0 (gI h 80 2)) 81 1 (thk r c)) 81 2 (gI h (v + 3) c)) 81 3 p) 81 4 (gI h v 7)) 81 5 (gI h v 8) := ⟨_, rfl⟩
  have f1 : Fr SN h h1 := by
    rw [e1]
    refine ((((((Fr.rfl' _ _).si _ ?_).si _ ?_).si _ ?_).si _ ?_).si _ ?_).si _ ?_ <;> exact Or.inl rfl
  have hn : ∀ q, q < 6 → gI h1 81 q = nmv e.2.2.1 r c p q := by
    intro q hq
    rw [e1]
    simp only [gI_hsi]
    unfold nmv
    rw [b, (R.1 c hc).2.2, R.2.1, R.2.2.1]
    have : q = 0 ∨ q = 1 ∨ q = 2 ∨ q = 3 ∨ q = 4 ∨ q = 5 := by omega
    rcases this with rfl | rfl | rfl | rfl | rfl | rfl <;> simp
  obtain ⟨h', i1, f2⟩ := c_value ht hp O (nm := nmv e.2.2.1 r c p) (h := h1) (TxC_c (fun a k q => f1.i (by unfold SN isStk; omega)) x) hn
  refine ⟨h', ?_, f1.tr (f2.mono (fun a k z => Or.inr (by unfold isStk; omega)))⟩
  have R1 : CR v r (hsi h 81 0 (gI h 80 2)) := CR_fr ((Fr.rfl' (fun a _ => a = 81) h).si _ rfl) (fun a k => by omega) R
  unfold g_X1_says g_X1_says_0 g_X1_says_10
  rw [show ix 0 = 0 from rfl, show ix 1 = 1 from rfl, c_thick R1 H hc, Option.bind_some]
  unfold g_X1_says_21 g_X1_says_33 g_X1_says_41 g_X1_says_51 g_X1_says_61
  rw [if_pos (iN_inb hc (by decide)), iN_ix (by omega), show ix 2 = 2 from rfl, show ix 3 = 3 from rfl, show ix 4 = 4 from rfl, show ix 5 = 5 from rfl]
  have g1 : ∀ g : Hp, gI (hsi (hsi h 81 0 (gI h 80 2)) 81 1 (thk r c)) (v + 3) c = gI h (v + 3) c := fun _ => by
    rw [gI_hsi, if_neg (by omega), gI_hsi, if_neg (by omega)]
  have g2 : ∀ x y, gI (hsi (hsi (hsi (hsi h 81 0 (gI h 80 2)) 81 1 (thk r c)) 81 2 x) 81 3 y) v 7 = gI h v 7 := fun x y => by
    rw [gI_hsi, if_neg (by omega), gI_hsi, if_neg (by omega), gI_hsi, if_neg (by omega), gI_hsi, if_neg (by omega)]
  have g3 : ∀ x y z, gI (hsi (hsi (hsi (hsi (hsi h 81 0 (gI h 80 2)) 81 1 (thk r c)) 81 2 x) 81 3 y) 81 4 z) v 8 = gI h v 8 := fun x y z => by
    rw [gI_hsi, if_neg (by omega), gI_hsi, if_neg (by omega), gI_hsi, if_neg (by omega), gI_hsi, if_neg (by omega), gI_hsi, if_neg (by omega)]
  dsimp only
  rw [g1 h, g2, g3, ← e1, f1.r (by unfold SN isStk; omega), d, Option.bind_some, i1]
  rfl
/-- the next ease -/
theorem c_ease {v : Nat} (hv : ok82 v) {e : EV} {r : RP} {h : Hp} (R : CR v r h) (E : CE e h) (H : okP r) {l : Int64} (O : CO e l h) {c : Nat} (hc : c < 12) (p : Int32) : ∃ h', g_X1_ease 4000 v (iN c) p h = some (eas e.1 (ask e r 0 c p) (lotn l), h') ∧ Fr (fun a k => SN a k ∨ (a = 80 ∧ k = 5)) h h' ∧ CO e (lotn l) h' := by
  obtain ⟨h1, a1, f1⟩ := c_ask hv R E H (part := 0) (by omega) hc p
  have f1' : Fr (fun a k => SN a k ∨ (a = 80 ∧ k = 5)) h h1 := f1.mono (fun a k z => Or.inl z)
  have w : gI h1 80 4 = gI h 80 4 := f1.i (by unfold SN isStk; omega)
  unfold g_X1_ease g_X1_ease_0
  rw [show (0 : Int32) = iN 0 from rfl, a1, Option.bind_some]
  rcases E.1 with ⟨a, b⟩ | ⟨a, b⟩
  · refine ⟨h1, ?_, f1', fun z => absurd a z⟩
    rw [w, b, if_pos (by decide)]
    unfold g_X1_ease_51 eas
    rw [if_pos a]
    show some (Int64.toInt32 (cl64 (Int32.toInt64 (ask e r 0 c p))), h1) = _
    rw [cl64_n]
  · have h0 : gL' h1 80 5 = l := by rw [f1.l (by unfold SN isStk; omega)]; exact O (by omega)
    refine ⟨hsl h1 80 5 (lotn l), ?_, f1'.sl _ (Or.inr ⟨rfl, rfl⟩), fun _ => by rw [gL_hsl, if_pos ⟨rfl, rfl⟩]⟩
    rw [w, b, if_neg (by decide), h0]
    unfold g_X1_ease_34 g_X1_ease_51
    show some (Int64.toInt32 (cl64 (Int32.toInt64 (ask e r 0 c p) + (lt5 (gL' (hsl h1 80 5 (lotn l)) 80 5) - 2))), hsl h1 80 5 (lotn l)) = _
    have g5 : gL' (hsl h1 80 5 (lotn l)) 80 5 = lotn l := by rw [gL_hsl, if_pos ⟨rfl, rfl⟩]
    rw [g5]
    unfold eas
    rw [if_neg (by omega), if_pos a]
theorem clp100 (v : Int32) : (if 0 < (if v < 100 then v else 100) then (if v < 100 then v else 100) else 0) = clp v 0 100 := by
  unfold clp
  by_cases a : v < 0
  · rw [if_pos a, if_pos (show v < 100 by lia), if_neg (by lia)]
  · rw [if_neg a]
    by_cases b : 100 < v
    · rw [if_pos b, if_neg (show ¬ v < 100 by lia), if_pos (by decide)]
    · rw [if_neg b]
      by_cases c : v < 100
      · rw [if_pos c]
        by_cases d : 0 < v
        · rw [if_pos d]
        · rw [if_neg d]; lia
      · rw [if_neg c, if_pos (by decide)]; lia
/-- a row of longs -/
noncomputable def hlw (h : Hp) (a n : Nat) (f : Nat → Int64) : Hp := (h.1, h.2.1, up1 h.2.2.1 a (fun k => if k < n then f k else h.2.2.1 a k), h.2.2.2)
theorem gI_hlw (h : Hp) (a n : Nat) (f : Nat → Int64) (b k : Nat) : gI (hlw h a n f) b k = gI h b k := rfl
theorem gR_hlw (h : Hp) (a n : Nat) (f : Nat → Int64) (b k : Nat) : gR (hlw h a n f) b k = gR h b k := rfl
theorem gL_hlw (h : Hp) (a n : Nat) (f : Nat → Int64) (b k : Nat) : gL' (hlw h a n f) b k = if b = a ∧ k < n then f k else gL' h b k := by
  show (if b = a then (fun k => if k < n then f k else h.2.2.1 a k) else h.2.2.1 b) k = _
  by_cases e : b = a
  · subst e; simp
  · simp [e]
theorem hlw_0 (h : Hp) (a : Nat) (f : Nat → Int64) : hlw h a 0 f = h := by
  show (h.1, h.2.1, _, h.2.2.2) = (h.1, h.2.1, h.2.2.1, h.2.2.2)
  congr 3
  funext b k
  show gL' (hlw h a 0 f) b k = gL' h b k
  rw [gL_hlw, if_neg (by omega)]
theorem hlw_s (h : Hp) (a n : Nat) (f : Nat → Int64) {x : Int64} (hx : x = f n) : hsl (hlw h a n f) a n x = hlw h a (n + 1) f := by
  subst hx
  show (h.1, h.2.1, _, h.2.2.2) = (h.1, h.2.1, _, h.2.2.2)
  congr 3
  funext b k
  show gL' (hsl (hlw h a n f) a n (f n)) b k = gL' (hlw h a (n + 1) f) b k
  rw [gL_hsl, gL_hlw, gL_hlw]
  by_cases e : b = a
  · subst e
    by_cases z : k = n
    · subst z; rw [if_pos ⟨rfl, rfl⟩, if_pos (by omega)]
    · rw [if_neg (by omega)]
      by_cases w : k < n
      · rw [if_pos ⟨rfl, w⟩, if_pos (by omega)]
      · rw [if_neg (by omega), if_neg (by omega)]
  · rw [if_neg (by omega), if_neg (by omega), if_neg (by omega)]
theorem Fr.lw {S : Nat → Nat → Prop} {h h1 : Hp} (f : Fr S h h1) {a n : Nat} (g : Nat → Int64) (c : ∀ k, k < n → S a k) : Fr S h (hlw h1 a n g) := ⟨f.1, fun x k q => by
  refine ⟨(f.2 x k q).1, ?_, (f.2 x k q).2.2⟩
  rw [gL_hlw]
  split
  · rename_i z; rw [z.1] at q; exact absurd (c k z.2) q
  · exact (f.2 x k q).2.1⟩
noncomputable def sumJ (f : Nat → Int32) : Nat → Int64
  | 0 => 0
  | n + 1 => sumJ f n + Int32.toInt64 (f n)
theorem sumJ_t {f : Nat → Int32} {b : Int} (hb : 0 ≤ b) (hb2 : b * 12 < 2147483648) : ∀ n, n ≤ 12 → (∀ c, c < n → 0 ≤ (f c).toInt ∧ (f c).toInt ≤ b) → sumJ f n = Int32.toInt64 (sumI f n) := by
  intro n hn h
  have h0 : ∀ m, m ≤ n → (sumJ f m).toInt = sumZ (fun c => (f c).toInt) m := by
    intro m
    induction m with
    | zero => intro _; rfl
    | succ m ih =>
      intro hm
      have h1 := ih (by omega)
      have h2 := sumZ_b (f := fun c => (f c).toInt) (a := 0) (b := b) m (fun c hc => h c (by omega))
      have h3 := h m (by omega)
      have h4 : b * (m : Int) ≤ b * 11 := Int.mul_le_mul_of_nonneg_left (by omega) hb
      show (sumJ f m + Int32.toInt64 (f m)).toInt = sumZ _ m + (f m).toInt
      rw [tda] <;> rw [h1, tw] <;> omega
  rw [e64, h0 n (Nat.le_refl _), tw, sumI_t hb hb2 n hn h]
theorem l_c6 {v : Nat} (hv : ok82 v) {e : EV} {r : RP} (H : okP r) (x : Int64) (p : Int32) (j : Nat) : ∀ (k m : Nat) (h : Hp), k + j = 12 → j < m → CR v r h → CE e h → CO e (lotk k (rO r)) h → (∀ i, i < k → gI h (v + 4) i = ea e r p i) → ∃ h', g_X3_draw_6 4000 m v x p (sumJ (ea e r p) k) (iN k) h = g_X3_draw_56 4000 4000 v x p (sumJ (ea e r p) 12) x 0 h' ∧ Fr (SCr v) h h' ∧ CR v r h' ∧ CO e (lotk 12 (rO r)) h' ∧ (∀ i, i < 12 → gI h' (v + 4) i = ea e r p i) := by
  induction j with
  | zero =>
    intro k m h ek hm R E O hi
    obtain ⟨m, rfl⟩ : ∃ z, m = z + 1 := ⟨m - 1, by omega⟩
    obtain rfl : k = 12 := by omega
    exact ⟨h, by rw [g_X3_draw_6, if_pos i12e], Fr.rfl' _ _, R, O, hi⟩
  | succ j ih =>
    intro k m h ek hm R E O hi
    obtain ⟨m, rfl⟩ : ∃ z, m = z + 1 := ⟨m - 1, by omega⟩
    obtain ⟨h2, a2, f2, O2⟩ := c_ease hv R E H O (c := k) (by omega) p
    have f2' : Fr (SCr v) h h2 := f2.mono (fun a k z => by unfold SN isStk at z; unfold SCr isStk; omega)
    obtain ⟨h3, e3⟩ : ∃ h3, h3 = hsi h2 (v + 4) k (ea e r p k) := ⟨_, rfl⟩
    have f3 : Fr (SCr v) h2 h3 := by rw [e3]; exact (Fr.rfl' _ _).si _ (by unfold SCr; omega)
    have f := f2'.tr f3
    have R3 : CR v r h3 := by
      rw [e3]
      exact CR_fr ((Fr.rfl' (fun a _ => a = v + 4) h2).si _ rfl) (fun a k => by omega) (CR_fr f2 (fun a k => by unfold SN isStk; omega) R)
    have g118 : ∀ i, gI h3 (v + 4) i = if i = k then ea e r p k else gI h (v + 4) i := by
      intro i
      rw [e3, gI_hsi, f2.i (by unfold SN isStk; omega)]
      simp
    obtain ⟨h', b1, b2, b3, b4, b5⟩ := ih (k + 1) m h3 (by omega) (by omega) R3 (CE_fr hv f E) (fun z => by rw [e3, gL_hsi]; exact O2 z) (fun i hk => by
      rw [g118]
      by_cases z : i = k
      · rw [if_pos z, z]
      · rw [if_neg z]; exact hi i (by omega))
    refine ⟨h', ?_, f.tr b2, b3, b4, b5⟩
    rw [g_X3_draw_6, if_neg (i12 (by omega)), a2, Option.bind_some, if_pos (iN_inb (by omega) (by decide)), iN_ix (by omega), g_X3_draw_31, if_pos (iN_inb (by omega) (by decide)), iN_ix (by omega), g_X3_draw_44, iN_add (by omega)]
    show g_X3_draw_6 4000 m v x p (sumJ (ea e r p) k + Int32.toInt64 (gI (hsi h2 (v + 4) k (ea e r p k)) (v + 4) k)) (iN (k + 1)) (hsi h2 (v + 4) k (ea e r p k)) = _
    rw [← e3, g118, if_pos rfl]
    exact b1
theorem l_c56 (v : Nat) (x p : Int32) (f : Nat → Int32) (hx : 0 ≤ x.toInt ∧ x.toInt ≤ 12000000) (hf0 : ∀ c, c < 12 → 1 ≤ (f c).toInt ∧ (f c).toInt ≤ 99) (h : Hp) (hf : ∀ i, i < 12 → gI h (v + 4) i = f i) (j : Nat) : ∀ (k m : Nat), k + j = 12 → j < m → g_X3_draw_56 4000 m v (Int32.toInt64 x) p (Int32.toInt64 (sumI f 12)) (Int32.toInt64 (subI x (sh0 x f) k)) (iN k) (hlw h (v + 6) k (fun c => Int32.toInt64 (sh0 x f c))) = g_X3_draw_106 4000 4000 v p (Int32.toInt64 (subI x (sh0 x f) 12)) 0 (hlw h (v + 6) 12 (fun c => Int32.toInt64 (sh0 x f c))) := by
  obtain ⟨c1, c2, c3, -⟩ := sh_facts hx hf0
  induction j with
  | zero =>
    intro k m ek hm
    obtain ⟨m, rfl⟩ : ∃ z, m = z + 1 := ⟨m - 1, by omega⟩
    obtain rfl : k = 12 := by omega
    rw [g_X3_draw_56, if_pos i12e]
  | succ j ih =>
    intro k m ek hm
    obtain ⟨m, rfl⟩ : ∃ z, m = z + 1 := ⟨m - 1, by omega⟩
    have hin := iN_inb (k := k) (n := 12) (by omega) (by decide)
    have hix := iN_ix (k := k) (by omega)
    have ck := c2 k (by omega)
    have s1 := c3 k (by omega)
    have s2 := c3 (k + 1) (by omega)
    have e0 : Int32.toInt64 x * Int32.toInt64 (f k) / Int32.toInt64 (sumI f 12) = Int32.toInt64 (sh0 x f k) := by rw [e64, tw, ck.2.1, ck.1]
    rw [g_X3_draw_56, if_neg (i12 (by omega)), if_pos hin, hix, gI_hlw, hf k (by omega), c_quo (by rw [tw]; omega), Option.bind_some, e0, g_X3_draw_85, if_pos hin, hix, iN_add (by omega)]
    dsimp only
    rw [hlw_s h (v + 6) k _ rfl, gL_hlw, if_pos ⟨rfl, by omega⟩]
    have e1 : Int32.toInt64 (subI x (sh0 x f) k) - Int32.toInt64 (sh0 x f k) = Int32.toInt64 (subI x (sh0 x f) (k + 1)) := by
      have : (subI x (sh0 x f) (k + 1)).toInt = (subI x (sh0 x f) k).toInt - (sh0 x f k).toInt := by
        rw [s1.1, s2.1]
        show x.toInt - (sumZ (fun c => (sh0 x f c).toInt) k + (sh0 x f k).toInt) = _
        omega
      rw [e64, tds] <;> rw [tw, tw] <;> (try rw [tw]) <;> omega
    rw [e1]
    exact ih (k + 1) m (by omega) (by omega)
theorem l_c106 {v : Nat} (hv : ok82 v) {e : EV} {r : RP} (H : okP r) {x p : Int32} (hx : 0 ≤ x.toInt ∧ x.toInt ≤ 12000000) (hp : 1 ≤ p.toInt ∧ p.toInt ≤ 9) (s : Nat → Int32) (hs : s = shr x (ea e r p)) (h : Hp) (h6 : ∀ i, i < 12 → gL' h (v + 6) i = Int32.toInt64 (sh0 x (ea e r p) i)) (h2 : ∀ i, i < 12 → gI h (v + 2) i = rL r i) (h3 : ∀ i, i < 12 → gI h (v + 3) i = rS r i) (j : Nat) : ∀ (k m : Nat), k + j = 12 → j < m → g_X3_draw_106 4000 m v p (Int32.toInt64 (subI x (sh0 x (ea e r p)) 12)) (iN k) (hrw (hrw h (v + 2) 0 k (nL r s)) (v + 3) 0 k (nS r s p)) = g_X3_draw_157 4000 4000 v p 0 (hrw (hrw h (v + 2) 0 12 (nL r s)) (v + 3) 0 12 (nS r s p)) := by
  obtain ⟨c1, c2, c3, c4⟩ := sh_facts (f := ea e r p) hx (fun c hc => ea_b e r p c)
  have dr := dr_facts (e := e) H hx hp s hs
  induction j with
  | zero =>
    intro k m ek hm
    obtain ⟨m, rfl⟩ : ∃ z, m = z + 1 := ⟨m - 1, by omega⟩
    obtain rfl : k = 12 := by omega
    rw [g_X3_draw_106, if_pos i12e]
  | succ j ih =>
    intro k m ek hm
    obtain ⟨m, rfl⟩ : ∃ z, m = z + 1 := ⟨m - 1, by omega⟩
    have hin := iN_inb (k := k) (n := 12) (by omega) (by decide)
    have hix := iN_ix (k := k) (by omega)
    obtain ⟨d0, d1, d2, d3, d4, d5, d6, d7⟩ := dr k (by omega)
    have ck := c2 k (by omega)
    have c4k := c4 k (by omega)
    have H3 := (H k (by omega))
    obtain ⟨g, eg⟩ : ∃ g, g = hrw (hrw h (v + 2) 0 k (nL r s)) (v + 3) 0 k (nS r s p) := ⟨_, rfl⟩
    have e2 : gI g (v + 2) k = rL r k := by rw [eg, gI_hrw, if_neg (by omega), gI_hrw, if_neg (by omega)]; exact h2 k (by omega)
    have e3 : gI g (v + 3) k = rS r k := by rw [eg, gI_hrw, if_neg (by omega), gI_hrw, if_neg (by omega)]; exact h3 k (by omega)
    have e6 : gL' g (v + 6) k = Int32.toInt64 (sh0 x (ea e r p) k) := by rw [eg, gL_hrw, gL_hrw]; exact h6 k (by omega)
    -- the lengthening
    have len : g_X3_lengthen v (iN k) (Int32.toInt64 (s k)) p g = some (hsi (hsi g (v + 2) k (nL r s k)) (v + 3) k (nS r s p k)) := by
      unfold g_X3_lengthen g_X3_lengthen_0 g_X3_lengthen_22
      have t1 : Int64.toInt32 (if (Int32.toInt64 (rL r k) + Int32.toInt64 (s k)) < 1000000 then (Int32.toInt64 (rL r k) + Int32.toInt64 (s k)) else 1000000) = nL r s k := by
        have q : (Int32.toInt64 (rL r k) + Int32.toInt64 (s k)).toInt = (rL r k).toInt + (s k).toInt := by rw [tda] <;> rw [tw, tw] <;> omega
        unfold nL
        by_cases z : (rL r k + s k) ≤ 1000000
        · rw [if_pos z]
          rw [le32, k_m, d1] at z
          by_cases y : (Int32.toInt64 (rL r k) + Int32.toInt64 (s k)) < 1000000
          · rw [if_pos y, e32, tnw (by omega) (by omega), q, d1]
          · rw [if_neg y, e32, d1]
            rw [l64, q, K_m] at y
            show (1000000 : Int) = _
            omega
        · rw [if_neg z]
          rw [le32, k_m, d1] at z
          rw [if_neg (by rw [l64, q, K_m]; omega)]; rfl
      have q1 : gI (hsi g (v + 2) k (nL r s k)) (v + 2) k = nL r s k := by rw [gI_hsi, if_pos ⟨rfl, rfl⟩]
      have q2 : gI (hsi g (v + 2) k (nL r s k)) (v + 3) k = rS r k := by rw [gI_hsi, if_neg (by omega)]; exact e3
      rw [if_pos hin, hix, e2, t1, if_pos hin, q1, q2, c_quo (by rw [tw]; omega), Option.bind_some]
      dsimp only
      congr 2
      have q : (Int32.toInt64 (rS r k) + Int32.toInt64 (s k) * Int32.toInt64 p * 10 / Int32.toInt64 (nL r s k)).toInt = (nS0 r s p k).toInt := by
        rw [tda] <;> rw [tw, d3] <;> omega
      unfold nS
      by_cases z : nS0 r s p k ≤ 99
      · rw [if_pos z]
        rw [le32, k_99] at z
        by_cases y : (Int32.toInt64 (rS r k) + Int32.toInt64 (s k) * Int32.toInt64 p * 10 / Int32.toInt64 (nL r s k)) < 99
        · rw [if_pos y, e32, tnw (by omega) (by omega), q]
        · rw [if_neg y, e32]
          rw [l64, q, K_99] at y
          show (99 : Int) = _
          omega
      · rw [if_neg z]
        rw [le32, k_99] at z
        rw [if_neg (by rw [l64, q, K_99]; omega)]; rfl
    have go : g_X3_draw_144 4000 (g_X3_draw_106 4000 m) v p (Int32.toInt64 (subI x (sh0 x (ea e r p)) 12)) (iN k) v (iN k) (Int32.toInt64 (s k)) g = g_X3_draw_157 4000 4000 v p 0 (hrw (hrw h (v + 2) 0 12 (nL r s)) (v + 3) 0 12 (nS r s p)) := by
      rw [g_X3_draw_144, len, Option.bind_some, iN_add (by omega), eg, hsi_hrw (a := v + 2) (b := v + 3) (by omega), hrw_s0 h (v + 2) k _ rfl, hrw_s0 _ (v + 3) k _ rfl]
      exact ih (k + 1) m (by omega) (by omega)
    rw [← eg, g_X3_draw_106, if_neg (i12 (by omega))]
    have hsk : s k = shr x (ea e r p) k := by rw [hs]
    by_cases c : (subI x (sh0 x (ea e r p)) 12).toInt ≤ (k : Int)
    · rw [if_pos (by rw [le64, tw, tw, iN_t (by omega)]; exact c), if_pos hin, hix, e6]
      rw [if_pos c] at c4k
      have : Int32.toInt64 (sh0 x (ea e r p) k) = Int32.toInt64 (s k) := by rw [e64, tw, tw, hsk]; omega
      rw [this]; exact go
    · rw [if_neg (by rw [le64, tw, tw, iN_t (by omega)]; exact c), if_pos hin, hix, e6]
      rw [if_neg c] at c4k
      have : Int32.toInt64 (sh0 x (ea e r p) k) + 1 = Int32.toInt64 (s k) := by
        rw [e64, tw, hsk, tda] <;> rw [tw, K_1] <;> omega
      rw [this]; exact go
theorem c_tears {v : Nat} (hv : ok82 v) {e : EV} {r : RP} {h : Hp} (R : CR v r h) (E : CE e h) (H : okP r) {c : Nat} (hc : c < 12) (p : Int32) : ∃ h', g_X1_tears 4000 v (iN c) p h = some (clp (ask e r 1 c p) 0 100, h') ∧ Fr SN h h' := by
  obtain ⟨h1, a1, f1⟩ := c_ask hv R E H (part := 1) (by omega) hc p
  refine ⟨h1, ?_, f1⟩
  unfold g_X1_tears g_X1_tears_0
  rw [show (1 : Int32) = iN 1 from rfl, a1, Option.bind_some]
  dsimp only
  rw [clp100]
theorem c_sticks {v : Nat} (hv : ok82 v) {e : EV} {r : RP} {h : Hp} (R : CR v r h) (E : CE e h) (H : okP r) : ∃ h', g_X1_sticks 4000 v h = some (clp (ask e r 2 0 0) 0 100, h') ∧ Fr SN h h' := by
  obtain ⟨h1, a1, f1⟩ := c_ask hv R E H (part := 2) (by omega) (c := 0) (by omega) 0
  refine ⟨h1, ?_, f1⟩
  unfold g_X1_sticks g_X1_sticks_0
  rw [show g_X1_says 4000 2 v 0 0 h = some (ask e r 2 0 0, h1) from a1, Option.bind_some]
  dsimp only
  rw [clp100]
theorem l_c157 {v : Nat} (hv : ok82 v) {e : EV} {r : RP} (H : okP r) (p : Int32) (j : Nat) : ∀ (k m : Nat) (h : Hp), k + j = 12 → j < m → CR v (wW r (wfo e r p k)) h → CE e h → ∃ h', g_X3_draw_157 4000 m v p (iN k) h = some h' ∧ Fr (fun a k => SN a k ∨ (a = v ∧ k = 10)) h h' ∧ CR v (wW r (wfo e r p 12)) h' := by
  induction j with
  | zero =>
    intro k m h ek hm R E
    obtain ⟨m, rfl⟩ : ∃ z, m = z + 1 := ⟨m - 1, by omega⟩
    obtain rfl : k = 12 := by omega
    exact ⟨h, by rw [g_X3_draw_157, if_pos i12e], Fr.rfl' _ _, R⟩
  | succ j ih =>
    intro k m h ek hm R E
    obtain ⟨m, rfl⟩ : ∃ z, m = z + 1 := ⟨m - 1, by omega⟩
    obtain ⟨h1, a1, f1⟩ := c_tears hv R E (show okP (wW r (wfo e r p k)) from H) (c := k) (by omega) p
    have R1 := CR_fr f1 (fun a k => by unfold SN isStk; omega) R
    obtain ⟨h2, e2⟩ : ∃ h2, h2 = hsl h1 v 10 (wfo e r p (k + 1)) := ⟨_, rfl⟩
    have f2 : Fr (fun a k => SN a k ∨ (a = v ∧ k = 10)) h h2 := by
      rw [e2]; exact (f1.mono (fun a k z => Or.inl z)).sl _ (Or.inr ⟨rfl, rfl⟩)
    have f2' : Fr (SCr v) h h2 := f2.mono (fun a k z => by unfold SN isStk at z; unfold SCr isStk; omega)
    have R2 : CR v (wW r (wfo e r p (k + 1))) h2 := by
      rw [e2]
      obtain ⟨q1, q2, q3, q4, q5, q6⟩ := R1
      exact ⟨q1, q2, q3, q4, by rw [gL_hsl, if_pos ⟨rfl, rfl⟩]; rfl, by rw [gL_hsl, if_neg (by omega)]; exact q6⟩
    obtain ⟨h', b1, b2, b3⟩ := ih (k + 1) m h2 (by omega) (by omega) R2 (CE_fr hv f2' E)
    refine ⟨h', ?_, f2.tr b2, b3⟩
    have hw : gL' h v 10 = wfo e r p k := R.2.2.2.2.1
    rw [g_X3_draw_157, if_neg (i12 (by omega)), a1, Option.bind_some, iN_add (by omega), hw]
    rw [e2] at b1
    exact b1
theorem c_draw {v : Nat} (hv : ok82 v) {e : EV} {r : RP} {h : Hp} (R : CR v r h) (E : CE e h) (O : CO e (rO r) h) (H : okP r) {x p : Int32} (hx : 0 ≤ x.toInt ∧ x.toInt ≤ 12000000) (hp : 1 ≤ p.toInt ∧ p.toInt ≤ 9) : ∃ h', g_X3_draw 4000 v (Int32.toInt64 x) p h = some h' ∧ CR v (sDraw e x p r) h' ∧ CO e (rO (sDraw e x p r)) h' ∧ Fr (SCr v) h h' := by
  obtain ⟨h1, a1, f1, R1, O1, q1⟩ := l_c6 hv H (Int32.toInt64 x) p 12 0 4000 h rfl (by omega) R E O (fun i hi => by omega)
  rw [sumJ_t (f := ea e r p) (b := 99) (by omega) (by omega) 12 (by omega) (fun c hc => by have := ea_b e r p c; omega)] at a1
  have a2 := l_c56 v x p (ea e r p) hx (fun c hc => ea_b e r p c) h1 q1 12 0 4000 rfl (by omega)
  rw [hlw_0] at a2
  obtain ⟨h2, e2⟩ : ∃ h2, h2 = hlw h1 (v + 6) 12 (fun c => Int32.toInt64 (sh0 x (ea e r p) c)) := ⟨_, rfl⟩
  rw [← e2] at a2
  have a3 := l_c106 hv (e := e) H hx hp _ rfl h2 (fun i hi => by rw [e2, gL_hlw, if_pos ⟨rfl, hi⟩]) (fun i hi => by rw [e2, gI_hlw]; exact (R1.1 i hi).2.1) (fun i hi => by rw [e2, gI_hlw]; exact (R1.1 i hi).2.2) 12 0 4000 rfl (by omega)
  rw [hrw_0, hrw_0] at a3
  obtain ⟨h4, e4⟩ : ∃ h4, h4 = hrw (hrw h2 (v + 2) 0 12 (nL r (shr x (ea e r p)))) (v + 3) 0 12 (nS r (shr x (ea e r p)) p) := ⟨_, rfl⟩
  rw [← e4] at a3
  have f4 : Fr (fun a _ => a = v + 2 ∨ a = v + 3 ∨ a = v + 6) h1 h4 := by
    rw [e4, e2]
    refine (((Fr.rfl' _ _).lw _ (fun k _ => ?_)).rw' _ (fun k _ _ => ?_)).rw' _ (fun k _ _ => ?_) <;> omega
  have f4' : Fr (SCr v) h h4 := f1.tr (f4.mono (fun a k z => by unfold SCr; omega))
  have R4 : CR v (wW (dr1 e x p r) (wfo e (dr1 e x p r) p 0)) h4 := by
    obtain ⟨q1, q2, q3, q4, q5, q6⟩ := R1
    refine ⟨fun k hk => ⟨?_, ?_, ?_⟩, ?_, ?_, ?_, ?_, ?_⟩
    · rw [f4.i (by omega)]; exact (q1 k hk).1
    · rw [e4, gI_hrw, if_neg (by omega), gI_hrw, if_pos (by omega)]; rfl
    · rw [e4, gI_hrw, if_pos (by omega)]; rfl
    · rw [f4.i (by omega)]; exact q2
    · rw [f4.i (by omega)]; exact q3
    · rw [f4.i (by omega)]; exact q4
    · rw [f4.l (by omega)]; exact q5
    · rw [f4.l (by omega)]; exact q6
  obtain ⟨h5, a5, f5, R5⟩ := l_c157 hv (e := e) (okP_draw (e := e) H hx hp).2 p 12 0 4000 h4 rfl (by omega) R4 (CE_fr hv f4' E)
  refine ⟨h5, ?_, R5, fun z => ?_, f4'.tr (f5.mono (fun a k z => by unfold SN isStk at z; unfold SCr isStk; omega))⟩
  · unfold g_X3_draw g_X3_draw_0
    exact a1.trans (a2.trans (a3.trans a5))
  · rw [f5.l (by unfold SN isStk; omega), f4.l (by omega), O1 z]
    show lotk 12 (rO r) = if e.1 = 0 then rO r else lotk 12 (rO r)
    rw [if_neg z]
/-! its other steps -/
theorem l_crelax (v : Nat) (r : RP) (w m0 : Int32) (n j : Nat) (h : Hp) (hv : v ≤ 90) (hv2 : 80 < v + 3) (hw : gI h 80 3 = w) (hS : ∀ i, i < 12 → gI h (v + 3) i = rS r i) : ∀ (k m : Nat), k + j = 12 → j < m → g_X3_relax_2 n m v m0 (iN k) (hrw h (v + 3) 0 k (rS (sRest w m0 r))) = some (hrw h (v + 3) 0 12 (rS (sRest w m0 r))) := by
  induction j with
  | zero =>
    intro k m ek hm
    obtain ⟨m, rfl⟩ : ∃ z, m = z + 1 := ⟨m - 1, by omega⟩
    obtain rfl : k = 12 := by omega
    rw [g_X3_relax_2, if_pos i12e]
  | succ j ih =>
    intro k m ek hm
    obtain ⟨m, rfl⟩ : ∃ z, m = z + 1 := ⟨m - 1, by omega⟩
    have hin := iN_inb (k := k) (n := 12) (by omega) (by decide)
    have hix := iN_ix (k := k) (by omega)
    have g1 : gI (hrw h (v + 3) 0 k (rS (sRest w m0 r))) (v + 3) k = rS r k := by rw [gI_hrw, if_neg (by omega)]; exact hS k (by omega)
    have g2 : gI (hrw h (v + 3) 0 k (rS (sRest w m0 r))) 80 3 = w := by rw [gI_hrw, if_neg (by omega)]; exact hw
    rw [g_X3_relax_2, if_neg (i12 (by omega)), if_pos hin, hix, g1, g2, iN_add (by omega), hrw_s0 h (v + 3) k _ (by
      show _ = if 0 ≤ rS r k - m0 * (w + 1) then rS r k - m0 * (w + 1) else 0
      by_cases c : 0 < rS r k - m0 * (w + 1)
      · rw [if_pos c, if_pos (by lia)]
      · rw [if_neg c]
        by_cases d : 0 ≤ rS r k - m0 * (w + 1)
        · rw [if_pos d]; lia
        · rw [if_neg d])]
    exact ih (k + 1) m (by omega) (by omega)
theorem c_rest {v : Nat} (hv : ok82 v) {r : RP} {h : Hp} {w : Int32} (R : CR v r h) (hw : gI h 80 3 = w) (m0 : Int32) : ∃ h', g_X3_relax 4000 v m0 h = some h' ∧ CR v (sRest w m0 r) h' ∧ Fr (fun a _ => a = v + 3) h h' := by
  have a1 := l_crelax v r w m0 4000 12 h (by omega) (by omega) hw (fun i hi => (R.1 i hi).2.2) 0 4000 rfl (by omega)
  rw [hrw_0] at a1
  refine ⟨_, a1, ?_, (Fr.rfl' _ _).rw' _ (fun k _ _ => rfl)⟩
  obtain ⟨q1, q2, q3, q4, q5, q6⟩ := R
  refine ⟨fun k hk => ⟨?_, ?_, ?_⟩, ?_, ?_, ?_, q5, q6⟩
  · rw [gI_hrw, if_neg (by omega)]; exact (q1 k hk).1
  · rw [gI_hrw, if_neg (by omega)]; exact (q1 k hk).2.1
  · rw [gI_hrw, if_pos (by omega)]; rfl
  · rw [gI_hrw, if_neg (by omega)]; exact q2
  · rw [gI_hrw, if_neg (by omega)]; exact q3
  · rw [gI_hrw, if_neg (by omega)]; exact q4
theorem c_dust {v : Nat} {r : RP} {h : Hp} (R : CR v r h) (k : Int32) : ∃ h', g_X3_powder v k h = some h' ∧ CR v (sDust k r) h' ∧ Fr (fun a k => a = v ∧ k = 8) h h' := by
  obtain ⟨q1, q2, q3, q4, q5, q6⟩ := R
  refine ⟨hsi h v 8 (if rD r + k < 99 then rD r + k else 99), ?_, ⟨fun i hi => ⟨?_, ?_, ?_⟩, ?_, ?_, ?_, q5, q6⟩, (Fr.rfl' _ _).si _ ⟨rfl, rfl⟩⟩
  · simp only [g_X3_powder_0, g_X3_powder, q3]
  · rw [gI_hsi, if_neg (by omega)]; exact (q1 i hi).1
  · rw [gI_hsi, if_neg (by omega)]; exact (q1 i hi).2.1
  · rw [gI_hsi, if_neg (by omega)]; exact (q1 i hi).2.2
  · rw [gI_hsi, if_neg (by omega)]; exact q2
  · rw [gI_hsi, if_pos ⟨rfl, rfl⟩]
    show _ = if rD r + k ≤ 99 then rD r + k else 99
    by_cases c : rD r + k < 99
    · rw [if_pos c, if_pos (by lia)]
    · rw [if_neg c]
      by_cases d : rD r + k ≤ 99
      · rw [if_pos d]; lia
      · rw [if_neg d]
  · rw [gI_hsi, if_neg (by omega)]; exact q4
theorem c_cut {v : Nat} {r : RP} {h : Hp} (R : CR v r h) {c : Nat} (hc : c < 12) (k : Int32) : ∃ h', g_X3_cutEnd v (iN c) k h = some h' ∧ CR v (sCut c k r) h' ∧ Fr (fun a k => a = v + 1 ∨ a = v + 2 ∨ (a = v ∧ k = 9)) h h' := by
  have hin := iN_inb (k := c) (n := 12) hc (by decide)
  have hix := iN_ix (k := c) (by omega)
  obtain ⟨q1, q2, q3, q4, q5, q6⟩ := R
  have qc := q1 c hc
  have ct : ∀ x o : Int32, (if 1 < x - o then x - o else 1) = ct1 x o := by
    intro x o
    unfold ct1
    by_cases z : 1 < x - o
    · rw [if_pos z, if_pos (by lia)]
    · rw [if_neg z]
      by_cases d : 1 ≤ x - o
      · rw [if_pos d]; lia
      · rw [if_neg d]
  obtain ⟨h', e1⟩ : ∃ h', h' = hsi (hsi (hsi h v 9 (rC r + rM r c * k / 10)) (v + 1) c (ct1 (rM r c) (rM r c * k / 10))) (v + 2) c (ct1 (rL r c) (rL r c * k / 10)) := ⟨_, rfl⟩
  have f : Fr (fun a k => a = v + 1 ∨ a = v + 2 ∨ (a = v ∧ k = 9)) h h' := by
    rw [e1]; refine (((Fr.rfl' _ _).si _ ?_).si _ ?_).si _ ?_ <;> omega
  refine ⟨h', ?_, ⟨fun i hi => ⟨?_, ?_, ?_⟩, ?_, ?_, ?_, ?_, ?_⟩, f⟩
  · unfold g_X3_cutEnd g_X3_cutEnd_0
    rw [if_pos hin, hix, qc.1, q4]
    unfold g_X3_cutEnd_22
    have g1 : gI (hsi h v 9 (rC r + rM r c * k / 10)) (v + 1) c = rM r c := by rw [gI_hsi, if_neg (by omega)]; exact qc.1
    rw [if_pos hin, hix, g1, ct]
    unfold g_X3_cutEnd_40
    have g2 : gI (hsi (hsi h v 9 (rC r + rM r c * k / 10)) (v + 1) c (ct1 (rM r c) (rM r c * k / 10))) (v + 2) c = rL r c := by rw [gI_hsi, if_neg (by omega), gI_hsi, if_neg (by omega)]; exact qc.2.1
    rw [if_pos hin, hix, g2, ct, e1]
  · show gI h' (v + 1) i = upn (rM r) c _ i
    rw [e1, gI_hsi, if_neg (by omega), gI_hsi, gI_hsi, if_neg (c := v + 1 = v ∧ i = 9) (by omega)]
    unfold upn
    by_cases z : i = c
    · rw [if_pos ⟨rfl, z⟩, if_pos z]
    · rw [if_neg (fun w => z w.2), if_neg z]; exact (q1 i hi).1
  · show gI h' (v + 2) i = upn (rL r) c _ i
    rw [e1, gI_hsi, gI_hsi, if_neg (c := v + 2 = v + 1 ∧ i = c) (by omega), gI_hsi, if_neg (c := v + 2 = v ∧ i = 9) (by omega)]
    unfold upn
    by_cases z : i = c
    · rw [if_pos ⟨rfl, z⟩, if_pos z]
    · rw [if_neg (fun w => z w.2), if_neg z]; exact (q1 i hi).2.1
  · rw [f.i (by omega)]; exact (q1 i hi).2.2
  · rw [f.i (by omega)]; exact q2
  · rw [f.i (by omega)]; exact q3
  · rw [e1, gI_hsi, if_neg (by omega), gI_hsi, if_neg (by omega), gI_hsi, if_pos ⟨rfl, rfl⟩]; rfl
  · rw [f.l (by omega)]; exact q5
  · rw [f.l (by omega)]; exact q6
theorem l_cbounce (v : Nat) (r : RP) (n j : Nat) (h : Hp) (hL : ∀ i, i < 12 → gI h (v + 2) i = rL r i) : ∀ (k m : Nat), k + j = 12 → j < m → g_X3_bounce_2 n m v (iN k) (hrw h (v + 5) 0 k (rL (sBounce r))) = some (hcp (hrw h (v + 5) 0 12 (rL (sBounce r))) (v + 5) 0 (v + 2) 0 12) := by
  induction j with
  | zero =>
    intro k m ek hm
    obtain ⟨m, rfl⟩ : ∃ z, m = z + 1 := ⟨m - 1, by omega⟩
    obtain rfl : k = 12 := by omega
    rw [g_X3_bounce_2, if_pos i12e]; rfl
  | succ j ih =>
    intro k m ek hm
    obtain ⟨m, rfl⟩ : ∃ z, m = z + 1 := ⟨m - 1, by omega⟩
    have hin := iN_inb (k := k) (n := 12) (by omega) (by decide)
    have hix := iN_ix (k := k) (by omega)
    have e : ∀ q, q < 12 → gI (hrw h (v + 5) 0 k (rL (sBounce r))) (v + 2) q = rL r q := fun q hq => by
      rw [gI_hrw, if_neg (by omega)]; exact hL q hq
    have fin' : ∀ x y, x = rL r (k - 1) → y = rL r (if k = 11 then 11 else k + 1) → g_X3_bounce_53 n (g_X3_bounce_2 n m) v (iN k) x y (hrw h (v + 5) 0 k (rL (sBounce r))) = some (hcp (hrw h (v + 5) 0 12 (rL (sBounce r))) (v + 5) 0 (v + 2) 0 12) := by
      intro x y hx hy
      rw [g_X3_bounce_53, if_pos hin, hix, e k (by omega), iN_add (by omega), hrw_s0 h (v + 5) k _ (by show _ = (2 * rL r k + rL r (k - 1) + rL r (if k = 11 then 11 else k + 1)) / 4; rw [hx, hy])]
      exact ih (k + 1) m (by omega) (by omega)
    have mid : ∀ x, x = rL r (k - 1) → g_X3_bounce_29 n (g_X3_bounce_2 n m) v (iN k) x (hrw h (v + 5) 0 k (rL (sBounce r))) = some (hcp (hrw h (v + 5) 0 12 (rL (sBounce r))) (v + 5) 0 (v + 2) 0 12) := by
      intro x hx
      rw [g_X3_bounce_29]
      by_cases z : k = 11
      · rw [if_pos (by rw [z]; decide), if_pos hin, hix, e k (by omega)]
        exact fin' _ _ hx (by rw [if_pos z, z])
      · rw [if_neg (by show ¬ iN 11 ≤ iN k; rw [iN_le (by omega) (by omega)]; omega), iN_add (by omega), if_pos (iN_inb (by omega) (by decide)), iN_ix (by omega), e (k + 1) (by omega)]
        exact fin' _ _ hx (by rw [if_neg z])
    rw [g_X3_bounce_2, if_neg (i12 (by omega))]
    by_cases z : k = 0
    · rw [if_pos (by rw [z]; decide), if_pos hin, hix, e k (by omega)]
      exact mid _ (by rw [z])
    · rw [if_neg (by show ¬ iN k ≤ iN 0; rw [iN_le (by omega) (by omega)]; omega), iN_sub (by omega) (by omega), if_pos (iN_inb (by omega) (by decide)), iN_ix (by omega), e (k - 1) (by omega)]
      exact mid _ rfl
theorem c_bounce {v : Nat} {r : RP} {h : Hp} (R : CR v r h) : ∃ h', g_X3_bounce 4000 v h = some h' ∧ CR v (sBounce r) h' ∧ Fr (fun a _ => a = v + 2 ∨ a = v + 5) h h' := by
  have a1 := l_cbounce v r 4000 12 h (fun i hi => (R.1 i hi).2.1) 0 4000 rfl (by omega)
  rw [hrw_0] at a1
  have f : Fr (fun a _ => a = v + 2 ∨ a = v + 5) h (hcp (hrw h (v + 5) 0 12 (rL (sBounce r))) (v + 5) 0 (v + 2) 0 12) := ((Fr.rfl' _ _).rw' _ (fun k _ _ => Or.inr rfl)).cp (fun k _ _ => Or.inl rfl)
  refine ⟨_, a1, ?_, f⟩
  obtain ⟨q1, q2, q3, q4, q5, q6⟩ := R
  refine ⟨fun k hk => ⟨?_, ?_, ?_⟩, ?_, ?_, ?_, q5, q6⟩
  · rw [f.i (by omega)]; exact (q1 k hk).1
  · rw [gI_hcp, if_pos rfl, if_pos (by omega), gI_hrw, if_pos (by omega)]; congr 1; omega
  · rw [f.i (by omega)]; exact (q1 k hk).2.2
  · rw [f.i (by omega)]; exact q2
  · rw [f.i (by omega)]; exact q3
  · rw [f.i (by omega)]; exact q4
theorem l_cfr53 (v a : Nat) (g : Nat → Int32) (n j : Nat) (h : Hp) (hav : a ≠ v + 5) (h5 : ∀ i, i < 6 → gI h (v + 5) i = g i) : ∀ (k m : Nat), k + j = 12 → j < m → g_X3_foldRow_53 n m v a (iN k) (hrw h a 0 k (fun c => g (c / 2))) = some (hrw h a 0 12 (fun c => g (c / 2))) := by
  induction j with
  | zero =>
    intro k m ek hm
    obtain ⟨m, rfl⟩ : ∃ z, m = z + 1 := ⟨m - 1, by omega⟩
    obtain rfl : k = 12 := by omega
    rw [g_X3_foldRow_53, if_pos i12e]
  | succ j ih =>
    intro k m ek hm
    obtain ⟨m, rfl⟩ : ∃ z, m = z + 1 := ⟨m - 1, by omega⟩
    rw [g_X3_foldRow_53, if_neg (i12 (by omega)), i2d (by omega), if_pos (iN_inb (by omega) (by decide)), if_pos (iN_inb (by omega) (by decide)), iN_ix (by omega), iN_ix (by omega), gI_hrw, if_neg (by omega), h5 (k / 2) (by omega), iN_add (by omega), hrw_s0 h a k (fun c => g (c / 2)) rfl]
    exact ih (k + 1) m (by omega) (by omega)
theorem l_cfr3 (v a : Nat) (f : Nat → Int32) (by' least : Int32) (hb : 2 ≤ by'.toInt) (n j : Nat) (h : Hp) (hav : a ≠ v + 5) (h0 : ∀ i, i < 12 → gI h a i = f i) (hf0 : ∀ i, i < 12 → 0 ≤ (f i).toInt ∧ (f i).toInt ≤ 999999999) (g : Nat → Int32) (hg : ∀ i, i < 6 → g i = (if least < (f i + f (11 - i)) / by' then (f i + f (11 - i)) / by' else least)) : ∀ (k m : Nat), k + j = 6 → j < m → g_X3_foldRow_3 n m v a by' least (iN k) (hrw h (v + 5) 0 k g) = g_X3_foldRow_53 n n v a 0 (hrw h (v + 5) 0 6 g) := by
  induction j with
  | zero =>
    intro k m ek hm
    obtain ⟨m, rfl⟩ : ∃ z, m = z + 1 := ⟨m - 1, by omega⟩
    obtain rfl : k = 6 := by omega
    rw [g_X3_foldRow_3, if_pos (by decide)]
  | succ j ih =>
    intro k m ek hm
    obtain ⟨m, rfl⟩ : ∃ z, m = z + 1 := ⟨m - 1, by omega⟩
    have hin := iN_inb (k := k) (n := 12) (by omega) (by decide)
    have hix := iN_ix (k := k) (by omega)
    have s1 := hf0 k (by omega)
    have s2 := hf0 (11 - k) (by omega)
    have e1 : (f k + f (11 - k)).toInt = (f k).toInt + (f (11 - k)).toInt := ta (by omega) (by omega)
    have e2 : Int64.toInt32 (Int32.toInt64 (f k + f (11 - k)) / Int32.toInt64 by') = (f k + f (11 - k)) / by' := by
      have d1 : (Int32.toInt64 (f k + f (11 - k)) / Int32.toInt64 by').toInt = ((f k + f (11 - k)) / by').toInt := by
        rw [tdd (by rw [tw, e1]; omega) (by rw [tw]; omega), tw, tw, td (by rw [e1]; omega) (by omega)]
      have b1 := ((f k + f (11 - k)) / by').le_toInt
      have b2 := ((f k + f (11 - k)) / by').toInt_lt
      rw [e32, tnw (by rw [d1]; omega) (by rw [d1]; omega), d1]
    rw [g_X3_foldRow_3, if_neg (by show ¬ iN 6 ≤ iN k; rw [iN_le (by omega) (by omega)]; omega), if_pos hin, i11 (by omega), if_pos (iN_inb (by omega) (by decide)), hix, iN_ix (by omega), gI_hrw, if_neg (by omega), gI_hrw, if_neg (by omega), h0 k (by omega), h0 (11 - k) (by omega), g_X3_foldRow_24, c_quo (by rw [tw]; omega), Option.bind_some, if_pos hin, hix, iN_add (by omega)]
    dsimp only
    rw [e2, hrw_s0 h (v + 5) k g (hg k (by omega)).symm]
    exact ih (k + 1) m (by omega) (by omega)
/-- a row folded -/
theorem c_foldRow {v a : Nat} {f : Nat → Int32} {by' least : Int32} (hb : 2 ≤ by'.toInt) {h : Hp} (hav : a ≠ v + 5) (h0 : ∀ i, i < 12 → gI h a i = f i) (hf0 : ∀ i, i < 12 → 0 ≤ (f i).toInt ∧ (f i).toInt ≤ 999999999) : ∃ h', g_X3_foldRow 4000 v a by' least h = some h' ∧ Fr (fun b _ => b = a ∨ b = v + 5) h h' ∧ ∀ i, i < 12 → gI h' a i = if least < hf f by' i then hf f by' i else least := by
  have a1 := l_cfr3 v a f by' least hb 4000 6 h hav h0 hf0 (fun i => if least < (f i + f (11 - i)) / by' then (f i + f (11 - i)) / by' else least) (fun i _ => rfl) 0 4000 rfl (by omega)
  rw [hrw_0] at a1
  have a2 := l_cfr53 v a (fun i => if least < (f i + f (11 - i)) / by' then (f i + f (11 - i)) / by' else least) 4000 12 (hrw h (v + 5) 0 6 (fun i => if least < (f i + f (11 - i)) / by' then (f i + f (11 - i)) / by' else least)) hav (fun i hi => by rw [gI_hrw, if_pos (by omega)]; rfl) 0 4000 rfl (by omega)
  rw [hrw_0] at a2
  refine ⟨_, a1.trans a2, ((Fr.rfl' _ _).rw' _ (fun k _ _ => Or.inr rfl)).rw' _ (fun k _ _ => Or.inl rfl), fun i hi => ?_⟩
  rw [gI_hrw, if_pos (by omega)]
  rfl
theorem c_fold {v : Nat} (hv : ok82 v) {e : EV} {r : RP} {h : Hp} (R : CR v r h) (E : CE e h) (H : okP r) : ∃ h', g_X3_fold 4000 v h = some h' ∧ CR v (sFold e r) h' ∧ Fr (fun a k => SCr v a k ∧ ¬ (a = 80 ∧ k = 5)) h h' := by
  obtain ⟨q1, q2, q3, q4, q5, q6⟩ := R
  obtain ⟨h1, a1, f1, w1⟩ := c_foldRow (v := v) (a := v + 1) (f := rM r) (by' := 4) (least := 0) (h := h) (by decide) (by omega) (fun i hi => (q1 i hi).1) (fun i hi => by have := (H i hi).2.1; omega)
  obtain ⟨h2, a2, f2, w2⟩ := c_foldRow (v := v) (a := v + 2) (f := rL r) (by' := 4) (least := 1) (h := h1) (by decide) (by omega) (fun i hi => by rw [f1.i (by omega)]; exact (q1 i hi).2.1) (fun i hi => by have := (H i hi).1; omega)
  obtain ⟨h3, a3, f3, w3⟩ := c_foldRow (v := v) (a := v + 3) (f := rS r) (by' := 2) (least := 0) (h := h2) (by decide) (by omega) (fun i hi => by rw [f2.i (by omega), f1.i (by omega)]; exact (q1 i hi).2.2) (fun i hi => by have := (H i hi).2.2; omega)
  obtain ⟨h4, e4⟩ : ∃ h4, h4 = hsi h3 v 7 (rF r + 1) := ⟨_, rfl⟩
  have f4 : Fr (fun a k => a = v + 1 ∨ a = v + 2 ∨ a = v + 3 ∨ a = v + 5 ∨ (a = v ∧ k = 7)) h h4 := by
    rw [e4]
    exact (((f1.mono (fun a k z => by omega)).tr (f2.mono (fun a k z => by omega))).tr (f3.mono (fun a k z => by omega))).si _ (by omega)
  have z0 : ∀ x : Int32, 0 ≤ x.toInt → (if 0 < x then x else 0) = x := fun x hx => by
    by_cases z : 0 < x
    · rw [if_pos z]
    · rw [if_neg z, e32, k_0]; rw [l32, k_0] at z; omega
  have R4 : CR v (fo1 r) h4 := by
    refine ⟨fun k hk => ⟨?_, ?_, ?_⟩, ?_, ?_, ?_, ?_, ?_⟩
    · rw [e4, gI_hsi, if_neg (by omega), f3.i (by omega), f2.i (by omega), w1 k hk, z0 _ (hf_t (f := rM r) (b := 200000) (k := 4) (by omega) (fun c hc => (H c hc).2.1) (by decide) hk).2.2.1]; rfl
    · rw [e4, gI_hsi, if_neg (by omega), f3.i (by omega), w2 k hk]
      show _ = if 1 ≤ hf (rL r) 4 k then hf (rL r) 4 k else 1
      by_cases z : 1 < hf (rL r) 4 k
      · rw [if_pos z, if_pos (by lia)]
      · rw [if_neg z]
        by_cases y : 1 ≤ hf (rL r) 4 k
        · rw [if_pos y]; lia
        · rw [if_neg y]
    · rw [e4, gI_hsi, if_neg (by omega), w3 k hk, z0 _ (hf_t (f := rS r) (b := 99) (k := 2) (by omega) (fun c hc => (H c hc).2.2) (by decide) hk).2.2.1]; rfl
    · rw [e4, gI_hsi, if_pos ⟨rfl, rfl⟩]; rfl
    · rw [f4.i (by omega)]; exact q3
    · rw [f4.i (by omega)]; exact q4
    · rw [f4.l (by omega)]; exact q5
    · rw [f4.l (by omega)]; exact q6
  obtain ⟨h5, a5, f5⟩ := c_sticks hv R4 (CE_fr hv (f4.mono (fun a k z => by unfold SCr; omega)) E) (okP_fo1 H)
  have R5 := CR_fr f5 (fun a k => by unfold SN isStk; omega) R4
  refine ⟨hsl h5 v 11 (rE (sFold e r)), ?_, ?_, ?_⟩
  · unfold g_X3_fold g_X3_fold_0
    rw [a1, Option.bind_some, a2, Option.bind_some, a3, Option.bind_some]
    have w7 : gI h3 v 7 = rF r := by rw [f3.i (by omega), f2.i (by omega), f1.i (by omega)]; exact q2
    rw [w7, ← e4]
    unfold g_X3_fold_40
    have w11 : gL' h4 v 11 = rE r := by rw [f4.l (by omega)]; exact q6
    rw [a5, Option.bind_some, w11]
    rfl
  · obtain ⟨q1, q2, q3, q4, q5, q6⟩ := R5
    exact ⟨q1, q2, q3, q4, by rw [gL_hsl, if_neg (by omega)]; exact q5, by rw [gL_hsl, if_pos ⟨rfl, rfl⟩]⟩
  · refine (f4.mono (fun a k z => by unfold SCr; omega)).tr ((f5.mono (fun a k z => by unfold SN isStk at z; unfold SCr isStk; omega)).sl _ (by unfold SCr; omega))
theorem l_call (v : Nat) (r : RP) (n j : Nat) (h : Hp) (hL : ∀ i, i < 12 → gI h (v + 2) i = rL r i) : ∀ (k m : Nat), k + j = 12 → j < m → g_X3_allLength_4 n m v (sumJ (rL r) k) (iN k) h = some (sumJ (rL r) 12, h) := by
  induction j with
  | zero =>
    intro k m ek hm
    obtain ⟨m, rfl⟩ : ∃ z, m = z + 1 := ⟨m - 1, by omega⟩
    obtain rfl : k = 12 := by omega
    rw [g_X3_allLength_4, if_pos i12e]
  | succ j ih =>
    intro k m ek hm
    obtain ⟨m, rfl⟩ : ∃ z, m = z + 1 := ⟨m - 1, by omega⟩
    rw [g_X3_allLength_4, if_neg (i12 (by omega)), if_pos (iN_inb (by omega) (by decide)), iN_ix (by omega), hL k (by omega), g_X3_allLength_20, iN_add (by omega)]
    exact ih (k + 1) m (by omega) (by omega)
theorem c_all {v : Nat} {r : RP} {h : Hp} (R : CR v r h) (H : okP r) : g_X3_allLength 4000 v h = some (Int32.toInt64 (allL r), h) := by
  have a := l_call v r 4000 12 h (fun i hi => (R.1 i hi).2.1) 0 4000 rfl (by omega)
  rw [sumJ_t (f := rL r) (b := 1000000) (by omega) (by omega) 12 (by omega) (fun c hc => by have := (H c hc).1; omega)] at a
  exact a
theorem c_tenths {v : Nat} {r : RP} {h : Hp} (R : CR v r h) (H : okP r) {k : Int32} (hk : 0 ≤ k.toInt ∧ k.toInt ≤ 9) : g_X3_tenths 4000 v k h = some (Int32.toInt64 (allL r * k / 10), h) := by
  obtain ⟨t1, t2, t3, t4⟩ := tenth_t H hk
  obtain ⟨-, u1, u2⟩ := allL_t H
  unfold g_X3_tenths g_X3_tenths_0
  rw [c_all R H, Option.bind_some]
  dsimp only
  have m0 : 0 ≤ (allL r).toInt * k.toInt := Int.mul_nonneg (by omega) hk.1
  have m1 : (allL r).toInt * k.toInt ≤ 12000000 * 9 := Int.mul_le_mul u2 hk.2 hk.1 (by omega)
  have e1 : (Int32.toInt64 (allL r) * Int32.toInt64 k).toInt = (allL r).toInt * k.toInt := by rw [tdm] <;> rw [tw, tw] <;> omega
  have : Int32.toInt64 (allL r) * Int32.toInt64 k / 10 = Int32.toInt64 (allL r * k / 10) := by
    rw [e64, tdd (by rw [e1]; exact m0) (by decide), e1, tw, t2, K_10]
  rw [this]
