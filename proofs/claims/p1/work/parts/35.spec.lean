/-! THE ROPE as a value -/
noncomputable abbrev RP : Type := (Nat → Int32) × (Nat → Int32) × (Nat → Int32) × (Int32 × Int32 × Int32) × (Int64 × Int64) × Int64
noncomputable abbrev rM (r : RP) : Nat → Int32 := r.1
noncomputable abbrev rL (r : RP) : Nat → Int32 := r.2.1
noncomputable abbrev rS (r : RP) : Nat → Int32 := r.2.2.1
noncomputable abbrev rF (r : RP) : Int32 := r.2.2.2.1.1
noncomputable abbrev rD (r : RP) : Int32 := r.2.2.2.1.2.1
noncomputable abbrev rC (r : RP) : Int32 := r.2.2.2.1.2.2
noncomputable abbrev rW (r : RP) : Int64 := r.2.2.2.2.1.1
noncomputable abbrev rE (r : RP) : Int64 := r.2.2.2.2.1.2
noncomputable abbrev rO (r : RP) : Int64 := r.2.2.2.2.2
/-- how the hands are: 0 steady, 1 by lot as the class adds, 2 by lot as the reference adds; the text; wet; warm -/
noncomputable abbrev EV : Type := Nat × (Nat → List Int32) × Int32 × Int32
noncomputable def thk (r : RP) (c : Nat) : Int32 := rM r c / rL r c
noncomputable def nmv (w : Int32) (r : RP) (c : Nat) (p : Int32) : Nat → Int32 := fun q => if q = 0 then w else if q = 1 then thk r c else if q = 2 then rS r c else if q = 3 then p else if q = 4 then rF r else rD r
noncomputable def ask (e : EV) (r : RP) (part c : Nat) (p : Int32) : Int32 := (sEv (nmv e.2.2.1 r c p) (e.2.1 part) []).headD 0
noncomputable def lotn (l : Int64) : Int64 := l * 48271 - l * 48271 / 2147483647 * 2147483647
noncomputable def lotk : Nat → Int64 → Int64
  | 0, l => l
  | k + 1, l => lotn (lotk k l)
noncomputable def lt5 (l : Int64) : Int64 := l - l / 5 * 5
noncomputable def cl64 (v : Int64) : Int64 := if (if v < 99 then v else 99) < 1 then 1 else (if v < 99 then v else 99)
noncomputable def eas (md : Nat) (A : Int32) (l : Int64) : Int32 := if md = 0 then clp A 1 99 else if md = 1 then Int64.toInt32 (cl64 (Int32.toInt64 A + (lt5 l - 2))) else clp (A + (Int64.toInt32 (lt5 l) - 2)) 1 99
noncomputable def ea (e : EV) (r : RP) (p : Int32) (c : Nat) : Int32 := eas e.1 (ask e r 0 c p) (lotk (c + 1) (rO r))
noncomputable def sumI (f : Nat → Int32) : Nat → Int32
  | 0 => 0
  | n + 1 => sumI f n + f n
noncomputable def subI (x : Int32) (f : Nat → Int32) : Nat → Int32
  | 0 => x
  | n + 1 => subI x f n - f n
noncomputable def sh0 (x : Int32) (f : Nat → Int32) (c : Nat) : Int32 := Int64.toInt32 (Int32.toInt64 x * Int32.toInt64 (f c) / Int32.toInt64 (sumI f 12))
noncomputable def shr (x : Int32) (f : Nat → Int32) (c : Nat) : Int32 := sh0 x f c + (if subI x (sh0 x f) 12 ≤ iN c then 0 else 1)
noncomputable def nL (r : RP) (s : Nat → Int32) (c : Nat) : Int32 := if rL r c + s c ≤ 1000000 then rL r c + s c else 1000000
noncomputable def nS0 (r : RP) (s : Nat → Int32) (p : Int32) (c : Nat) : Int32 := rS r c + Int64.toInt32 (Int32.toInt64 (s c) * Int32.toInt64 p * 10 / Int32.toInt64 (nL r s c))
noncomputable def nS (r : RP) (s : Nat → Int32) (p : Int32) (c : Nat) : Int32 := if nS0 r s p c ≤ 99 then nS0 r s p c else 99
noncomputable def wfo (e : EV) (r : RP) (p : Int32) : Nat → Int64
  | 0 => rW r
  | n + 1 => wfo e r p n * Int32.toInt64 (100 - clp (ask e r 1 n p) 0 100) / 100
noncomputable def dr1 (e : EV) (x p : Int32) (r : RP) : RP := (rM r, nL r (shr x (ea e r p)), nS r (shr x (ea e r p)) p, r.2.2.2.1, r.2.2.2.2.1, if e.1 = 0 then rO r else lotk 12 (rO r))
noncomputable def sDraw (e : EV) (x p : Int32) (r : RP) : RP := (rM r, rL (dr1 e x p r), rS (dr1 e x p r), r.2.2.2.1, (wfo e (dr1 e x p r) p 12, rE r), rO (dr1 e x p r))
noncomputable def sBounce (r : RP) : RP := (rM r, fun c => (2 * rL r c + rL r (c - 1) + rL r (if c = 11 then 11 else c + 1)) / 4, r.2.2)
noncomputable def hf (f : Nat → Int32) (k : Int32) (c : Nat) : Int32 := (f (c / 2) + f (11 - c / 2)) / k
noncomputable def fo1 (r : RP) : RP := (hf (rM r) 4, fun c => if 1 ≤ hf (rL r) 4 c then hf (rL r) 4 c else 1, hf (rS r) 2, (rF r + 1, rD r, rC r), r.2.2.2.2)
noncomputable def sFold (e : EV) (r : RP) : RP := (rM (fo1 r), rL (fo1 r), rS (fo1 r), (fo1 r).2.2.2.1, (rW r, rE r * Int32.toInt64 (100 - clp (ask e (fo1 r) 2 0 0) 0 100) / 100), rO r)
noncomputable def ct1 (v o : Int32) : Int32 := if 1 ≤ v - o then v - o else 1
noncomputable def sCut (c : Nat) (k : Int32) (r : RP) : RP := (upn (rM r) c (ct1 (rM r c) (rM r c * k / 10)), upn (rL r) c (ct1 (rL r c) (rL r c * k / 10)), rS r, (rF r, rD r, rC r + rM r c * k / 10), r.2.2.2.2)
noncomputable def sRest (warm m : Int32) (r : RP) : RP := (rM r, rL r, fun c => if 0 ≤ rS r c - m * (warm + 1) then rS r c - m * (warm + 1) else 0, r.2.2.2)
noncomputable def sDust (k : Int32) (r : RP) : RP := (rM r, rL r, rS r, (rF r, if rD r + k ≤ 99 then rD r + k else 99, rC r), r.2.2.2.2)
noncomputable def allL (r : RP) : Int32 := sumI (rL r) 12
noncomputable def sMake (e : EV) (k mo pa : Int32) (r : RP) : RP :=
  if k = 1 then sDraw e (allL r * mo / 10) pa r else if k = 2 then sBounce (sDraw e (allL r * mo / 10) pa r) else if k = 3 then sFold e r
  else if k = 4 then sDust mo r else if k = 5 then sCut 11 mo (sCut 0 mo (sFold e r)) else sRest e.2.2.2 mo r
noncomputable def sBeg (M Ln : Nat → Int32) (lot : Int64) : RP := (M, Ln, fun _ => 0, (0, 0, 0), (1000000000, 1000000000), lot)
noncomputable def sGo (e : EV) (σ : SS) (M Ln : Nat → Int32) (lot : Int64) (but : Int32) : Nat → RP
  | 0 => sBeg M Ln lot
  | n + 1 => if iN n = but then sGo e σ M Ln lot but n else sMake e (σ.2.1 n) (σ.2.2.1 n) (σ.2.2.2 n) (sGo e σ M Ln lot but n)
noncomputable def okP (r : RP) : Prop := ∀ c, c < 12 → (1 ≤ (rL r c).toInt ∧ (rL r c).toInt ≤ 1000000) ∧ (0 ≤ (rM r c).toInt ∧ (rM r c).toInt ≤ 200000) ∧ 0 ≤ (rS r c).toInt ∧ (rS r c).toInt ≤ 99
/-! its bounds -/
theorem k_0 : (0 : Int32).toInt = 0 := rfl
theorem k_1 : (1 : Int32).toInt = 1 := rfl
theorem k_2 : (2 : Int32).toInt = 2 := rfl
theorem k_4 : (4 : Int32).toInt = 4 := rfl
theorem k_10 : (10 : Int32).toInt = 10 := rfl
theorem k_99 : (99 : Int32).toInt = 99 := rfl
theorem k_100 : (100 : Int32).toInt = 100 := rfl
theorem k_m : (1000000 : Int32).toInt = 1000000 := rfl
theorem K_0 : (0 : Int64).toInt = 0 := rfl
theorem K_1 : (1 : Int64).toInt = 1 := rfl
theorem K_10 : (10 : Int64).toInt = 10 := rfl
theorem K_99 : (99 : Int64).toInt = 99 := rfl
theorem K_m : (1000000 : Int64).toInt = 1000000 := rfl
theorem clp_b (v : Int32) : 1 ≤ (clp v 1 99).toInt ∧ (clp v 1 99).toInt ≤ 99 := by
  unfold clp
  by_cases h1 : v < 1
  · rw [if_pos h1, k_1]; omega
  · rw [if_neg h1]
    by_cases h2 : 99 < v
    · rw [if_pos h2, k_99]; omega
    · rw [if_neg h2]
      rw [l32, k_1] at h1; rw [l32, k_99] at h2; omega
theorem cl64_b (v : Int64) : 1 ≤ (cl64 v).toInt ∧ (cl64 v).toInt ≤ 99 := by
  unfold cl64
  by_cases h1 : v < 99
  · simp only [if_pos h1]
    by_cases h2 : v < 1
    · rw [if_pos h2, K_1]; omega
    · rw [if_neg h2]; rw [l64, K_99] at h1; rw [l64, K_1] at h2; omega
  · simp only [if_neg h1]
    rw [if_neg (by decide), K_99]; omega
theorem cl64_n (A : Int32) : Int64.toInt32 (cl64 (Int32.toInt64 A)) = clp A 1 99 := by
  have hb := cl64_b (Int32.toInt64 A)
  rw [e32, tnw (by omega) (by omega)]
  unfold cl64 clp
  by_cases h1 : A < 1
  · have h1' : Int32.toInt64 A < 1 := by rw [l64, tw, K_1]; rw [l32, k_1] at h1; exact h1
    have h2' : Int32.toInt64 A < 99 := by rw [l64, tw, K_99]; rw [l32, k_1] at h1; omega
    simp only [if_pos h2', if_pos h1', if_pos h1]; rfl
  · have h1' : ¬ Int32.toInt64 A < 1 := by rw [l64, tw, K_1]; rw [l32, k_1] at h1; exact h1
    rw [if_neg h1]
    by_cases h2 : 99 < A
    · have h2' : ¬ Int32.toInt64 A < 99 := by rw [l64, tw, K_99]; rw [l32, k_99] at h2; omega
      simp only [if_neg h2', if_pos h2]
      rw [if_neg (by decide)]; rfl
    · rw [if_neg h2]
      by_cases h3 : Int32.toInt64 A < 99
      · simp only [if_pos h3, if_neg h1', tw]
      · simp only [if_neg h3]
        rw [if_neg (by decide)]
        rw [l64, tw, K_99] at h3; rw [l32, k_99] at h2
        rw [K_99]; omega
theorem eas_b (md : Nat) (A : Int32) (l : Int64) : 1 ≤ (eas md A l).toInt ∧ (eas md A l).toInt ≤ 99 := by
  unfold eas
  by_cases h1 : md = 0
  · rw [if_pos h1]; exact clp_b _
  · rw [if_neg h1]
    by_cases h2 : md = 1
    · rw [if_pos h2]
      have := cl64_b (Int32.toInt64 A + (lt5 l - 2))
      rw [tnw (by omega) (by omega)]; exact this
    · rw [if_neg h2]; exact clp_b _
theorem ea_b (e : EV) (r : RP) (p : Int32) (c : Nat) : 1 ≤ (ea e r p c).toInt ∧ (ea e r p c).toInt ≤ 99 := eas_b _ _ _
noncomputable def sumZ (f : Nat → Int) : Nat → Int
  | 0 => 0
  | n + 1 => sumZ f n + f n
theorem sumZ_b {f : Nat → Int} {a b : Int} : ∀ n, (∀ c, c < n → a ≤ f c ∧ f c ≤ b) → a * n ≤ sumZ f n ∧ sumZ f n ≤ b * n := by
  intro n
  induction n with
  | zero => intro _; simp [sumZ]
  | succ n ih =>
    intro h
    have h1 := ih (fun c hc => h c (by omega))
    have h2 := h n (by omega)
    have e1 : a * ((n + 1 : Nat) : Int) = a * n + a := by rw [Int.natCast_add, Int.mul_add]; simp
    have e2 : b * ((n + 1 : Nat) : Int) = b * n + b := by rw [Int.natCast_add, Int.mul_add]; simp
    show _ ≤ sumZ f n + f n ∧ sumZ f n + f n ≤ _
    omega
theorem sumI_t {f : Nat → Int32} {b : Int} (hb : 0 ≤ b) (hb2 : b * 12 < 2147483648) : ∀ n, n ≤ 12 → (∀ c, c < n → 0 ≤ (f c).toInt ∧ (f c).toInt ≤ b) → (sumI f n).toInt = sumZ (fun c => (f c).toInt) n := by
  intro n
  induction n with
  | zero => intro _ _; rfl
  | succ n ih =>
    intro hn h
    have h1 := ih (by omega) (fun c hc => h c (by omega))
    have h2 := sumZ_b (f := fun c => (f c).toInt) (a := 0) (b := b) n (fun c hc => h c (by omega))
    have h3 := h n (by omega)
    have h4 : b * (n : Int) ≤ b * 11 := Int.mul_le_mul_of_nonneg_left (by omega) hb
    show (sumI f n + f n).toInt = sumZ _ n + (f n).toInt
    rw [ta] <;> rw [h1] <;> omega
/-- twelve shares of x by weights are together no more than x -/
theorem shares_le {E : Nat → Int} {X A : Int} (hX : 0 ≤ X) (hA : 0 < A) : ∀ n, (∀ c, c < n → 0 ≤ E c) → sumZ (fun c => X * E c / A) n * A ≤ X * sumZ E n := by
  intro n
  induction n with
  | zero => intro _; simp [sumZ]
  | succ n ih =>
    intro h
    have h1 := ih (fun c hc => h c (by omega))
    have h2 := Int.ediv_mul_le (X * E n) (show A ≠ 0 by omega)
    show (sumZ _ n + X * E n / A) * A ≤ X * (sumZ E n + E n)
    rw [Int.add_mul, Int.mul_add]
    omega
/-- what is used of the twelve shares -/
theorem sh_facts {x : Int32} {f : Nat → Int32} (hx : 0 ≤ x.toInt ∧ x.toInt ≤ 12000000) (hf : ∀ c, c < 12 → 1 ≤ (f c).toInt ∧ (f c).toInt ≤ 99) :
    (12 ≤ (sumI f 12).toInt ∧ (sumI f 12).toInt ≤ 1188) ∧ (∀ c, c < 12 → (sh0 x f c).toInt = x.toInt * (f c).toInt / (sumI f 12).toInt ∧ (Int32.toInt64 x * Int32.toInt64 (f c) / Int32.toInt64 (sumI f 12)).toInt = x.toInt * (f c).toInt / (sumI f 12).toInt ∧ 0 ≤ (sh0 x f c).toInt ∧ (sh0 x f c).toInt ≤ x.toInt) ∧
    (∀ n, n ≤ 12 → (subI x (sh0 x f) n).toInt = x.toInt - sumZ (fun c => (sh0 x f c).toInt) n ∧ 0 ≤ (subI x (sh0 x f) n).toInt ∧ (subI x (sh0 x f) n).toInt ≤ x.toInt) ∧
    (∀ c, c < 12 → (shr x f c).toInt = (sh0 x f c).toInt + (if (subI x (sh0 x f) 12).toInt ≤ (c : Int) then 0 else 1) ∧ 0 ≤ (shr x f c).toInt ∧ (shr x f c).toInt ≤ x.toInt + 1) := by
  have hs := sumI_t (f := f) (b := 99) (by omega) (by omega) 12 (by omega) (fun c hc => ⟨by have := hf c hc; omega, (hf c hc).2⟩)
  have hb := sumZ_b (f := fun c => (f c).toInt) (a := 1) (b := 99) 12 hf
  have hA : 12 ≤ (sumI f 12).toInt ∧ (sumI f 12).toInt ≤ 1188 := by rw [hs]; omega
  have h1 : ∀ c, c < 12 → (sh0 x f c).toInt = x.toInt * (f c).toInt / (sumI f 12).toInt ∧ (Int32.toInt64 x * Int32.toInt64 (f c) / Int32.toInt64 (sumI f 12)).toInt = x.toInt * (f c).toInt / (sumI f 12).toInt ∧ 0 ≤ (sh0 x f c).toInt ∧ (sh0 x f c).toInt ≤ x.toInt := by
    intro c hc
    have hfc := hf c hc
    have m0 : 0 ≤ x.toInt * (f c).toInt := Int.mul_nonneg hx.1 (by omega)
    have m1 : x.toInt * (f c).toInt ≤ 12000000 * 99 := Int.mul_le_mul hx.2 hfc.2 (by omega) (by omega)
    have em : (Int32.toInt64 x * Int32.toInt64 (f c)).toInt = x.toInt * (f c).toInt := by
      rw [tdm] <;> rw [tw, tw] <;> omega
    have ed : (Int32.toInt64 x * Int32.toInt64 (f c) / Int32.toInt64 (sumI f 12)).toInt = x.toInt * (f c).toInt / (sumI f 12).toInt := by
      rw [tdd (by rw [em]; exact m0) (by rw [tw]; omega), em, tw]
    have q0 : 0 ≤ x.toInt * (f c).toInt / (sumI f 12).toInt := Int.ediv_nonneg m0 (by omega)
    have hle : (f c).toInt ≤ (sumI f 12).toInt := by
      have h4 := hf 0 (by omega)
      have h5 := hf 11 (by omega)
      have : ∀ c, c < 12 → (f c).toInt ≤ sumZ (fun c => (f c).toInt) 12 := by
        intro c hc
        have a0 := hf 0 (by omega); have a1 := hf 1 (by omega); have a2 := hf 2 (by omega); have a3 := hf 3 (by omega); have a4 := hf 4 (by omega); have a5 := hf 5 (by omega)
        have a6 := hf 6 (by omega); have a7 := hf 7 (by omega); have a8 := hf 8 (by omega); have a9 := hf 9 (by omega); have a10 := hf 10 (by omega); have a11 := hf 11 (by omega)
        simp only [sumZ]
        have : c = 0 ∨ c = 1 ∨ c = 2 ∨ c = 3 ∨ c = 4 ∨ c = 5 ∨ c = 6 ∨ c = 7 ∨ c = 8 ∨ c = 9 ∨ c = 10 ∨ c = 11 := by omega
        rcases this with rfl | rfl | rfl | rfl | rfl | rfl | rfl | rfl | rfl | rfl | rfl | rfl <;> omega
      rw [hs]; exact this c hc
    have q1 : x.toInt * (f c).toInt / (sumI f 12).toInt ≤ x.toInt := by
      have : x.toInt * (f c).toInt ≤ x.toInt * (sumI f 12).toInt := Int.mul_le_mul_of_nonneg_left hle hx.1
      have h6 := Int.ediv_le_ediv (show 0 < (sumI f 12).toInt by omega) this
      rwa [Int.mul_ediv_cancel _ (by omega)] at h6
    have es : (sh0 x f c).toInt = x.toInt * (f c).toInt / (sumI f 12).toInt := by
      unfold sh0
      rw [tnw (by rw [ed]; omega) (by rw [ed]; omega), ed]
    exact ⟨es, ed, by rw [es]; exact q0, by rw [es]; exact q1⟩
  have hsum : ∀ n, n ≤ 12 → 0 ≤ sumZ (fun c => (sh0 x f c).toInt) n ∧ sumZ (fun c => (sh0 x f c).toInt) n ≤ x.toInt := by
    intro n hn
    have e1 : sumZ (fun c => (sh0 x f c).toInt) n = sumZ (fun c => x.toInt * (f c).toInt / (sumI f 12).toInt) n := by
      have : ∀ m, m ≤ 12 → sumZ (fun c => (sh0 x f c).toInt) m = sumZ (fun c => x.toInt * (f c).toInt / (sumI f 12).toInt) m := by
        intro m
        induction m with
        | zero => intro _; rfl
        | succ m ih => intro hm; show sumZ _ m + _ = sumZ _ m + _; rw [ih (by omega)]; congr 1; exact (h1 m (by omega)).1
      exact this n hn
    have b0 := (sumZ_b (f := fun c => (sh0 x f c).toInt) (a := 0) (b := x.toInt) n (fun c hc => ⟨(h1 c (by omega)).2.2.1, (h1 c (by omega)).2.2.2⟩)).1
    have b1 := shares_le (E := fun c => (f c).toInt) (X := x.toInt) (A := (sumI f 12).toInt) hx.1 (by omega) n (fun c hc => by have := hf c (by omega); show 0 ≤ (f c).toInt; omega)
    have b2 : sumZ (fun c => (f c).toInt) n ≤ (sumI f 12).toInt := by
      rw [hs]
      have : ∀ k, n + k ≤ 12 → sumZ (fun c => (f c).toInt) n ≤ sumZ (fun c => (f c).toInt) (n + k) := by
        intro k
        induction k with
        | zero => intro _; exact Int.le_refl _
        | succ k ih => intro hk; have := ih (by omega); have := hf (n + k) (by omega); show _ ≤ sumZ _ (n + k) + (f (n + k)).toInt; omega
      have h7 := this (12 - n) (by omega)
      rwa [show n + (12 - n) = 12 by omega] at h7
    have b3 : x.toInt * sumZ (fun c => (f c).toInt) n ≤ x.toInt * (sumI f 12).toInt := Int.mul_le_mul_of_nonneg_left b2 hx.1
    rw [← e1] at b1
    refine ⟨by omega, ?_⟩
    exact Int.le_of_mul_le_mul_right (Int.le_trans b1 b3) (by omega)
  have h2 : ∀ n, n ≤ 12 → (subI x (sh0 x f) n).toInt = x.toInt - sumZ (fun c => (sh0 x f c).toInt) n := by
    intro n
    induction n with
    | zero => intro _; show x.toInt = x.toInt - 0; omega
    | succ n ih =>
      intro hn
      have a1 := ih (by omega)
      have a2 := hsum n (by omega)
      have a3 := hsum (n + 1) hn
      have a4 := h1 n (by omega)
      have a5 : sumZ (fun c => (sh0 x f c).toInt) (n + 1) = sumZ (fun c => (sh0 x f c).toInt) n + (sh0 x f n).toInt := rfl
      show (subI x (sh0 x f) n - sh0 x f n).toInt = _
      rw [ts] <;> rw [a1] <;> omega
  refine ⟨hA, h1, fun n hn => ⟨h2 n hn, ?_, ?_⟩, fun c hc => ?_⟩
  · rw [h2 n hn]; have := hsum n hn; omega
  · rw [h2 n hn]; have := hsum n hn; omega
  · have a1 := h1 c hc
    have key : (shr x f c).toInt = (sh0 x f c).toInt + (if (subI x (sh0 x f) 12).toInt ≤ (c : Int) then 0 else 1) := by
      unfold shr
      by_cases h3 : subI x (sh0 x f) 12 ≤ iN c
      · have h3' : (subI x (sh0 x f) 12).toInt ≤ (c : Int) := by rw [le32, iN_t (by omega)] at h3; exact h3
        rw [if_pos h3, if_pos h3', ta] <;> rw [k_0] <;> omega
      · have h3' : ¬ (subI x (sh0 x f) 12).toInt ≤ (c : Int) := by rw [le32, iN_t (by omega)] at h3; exact h3
        rw [if_neg h3, if_neg h3', ta] <;> rw [k_1] <;> omega
    rw [key]
    by_cases h3 : (subI x (sh0 x f) 12).toInt ≤ (c : Int)
    · rw [if_pos h3]; omega
    · rw [if_neg h3]; omega
/-- the new lengths and stiffs -/
theorem dr_facts {e : EV} {x p : Int32} {r : RP} (H : okP r) (hx : 0 ≤ x.toInt ∧ x.toInt ≤ 12000000) (hp : 1 ≤ p.toInt ∧ p.toInt ≤ 9) (s : Nat → Int32) (hs : s = shr x (ea e r p)) : ∀ c, c < 12 →
    (0 ≤ (s c).toInt ∧ (s c).toInt ≤ 12000001) ∧ (rL r c + s c).toInt = (rL r c).toInt + (s c).toInt ∧ (1 ≤ (nL r s c).toInt ∧ (nL r s c).toInt ≤ 1000000) ∧
    (Int32.toInt64 (s c) * Int32.toInt64 p * 10 / Int32.toInt64 (nL r s c)).toInt = (s c).toInt * p.toInt * 10 / (nL r s c).toInt ∧ 0 ≤ (s c).toInt * p.toInt * 10 / (nL r s c).toInt ∧ (s c).toInt * p.toInt * 10 / (nL r s c).toInt ≤ 1080000090 ∧
    (nS0 r s p c).toInt = (rS r c).toInt + (s c).toInt * p.toInt * 10 / (nL r s c).toInt ∧ 0 ≤ (nS r s p c).toInt ∧ (nS r s p c).toInt ≤ 99 := by
  intro c hc
  subst hs
  obtain ⟨-, -, -, h4⟩ := sh_facts (f := ea e r p) hx (fun c hc => ea_b e r p c)
  obtain ⟨-, s0, s1⟩ := h4 c hc
  obtain ⟨hl, hm, hs⟩ := H c hc
  generalize shr x (ea e r p) = s at *
  have e1 : (rL r c + s c).toInt = (rL r c).toInt + (s c).toInt := ta (by omega) (by omega)
  have b1 : 1 ≤ (nL r s c).toInt ∧ (nL r s c).toInt ≤ 1000000 := by
    unfold nL
    by_cases z : rL r c + s c ≤ 1000000
    · rw [if_pos z]; rw [le32, k_m] at z; omega
    · rw [if_neg z, k_m]; omega
  have m1 : (Int32.toInt64 (s c) * Int32.toInt64 p).toInt = (s c).toInt * p.toInt ∧ 0 ≤ (s c).toInt * p.toInt ∧ (s c).toInt * p.toInt ≤ 12000001 * 9 := by
    have a0 : 0 ≤ (s c).toInt * p.toInt := Int.mul_nonneg s0 (by omega)
    have a1 : (s c).toInt * p.toInt ≤ 12000001 * 9 := Int.mul_le_mul (by omega) hp.2 (by omega) (by omega)
    refine ⟨?_, a0, a1⟩
    rw [tdm] <;> rw [tw, tw] <;> omega
  have m2 : (Int32.toInt64 (s c) * Int32.toInt64 p * 10).toInt = (s c).toInt * p.toInt * 10 := by
    rw [tdm] <;> rw [m1.1, K_10] <;> omega
  have d1 : (Int32.toInt64 (s c) * Int32.toInt64 p * 10 / Int32.toInt64 (nL r s c)).toInt = (s c).toInt * p.toInt * 10 / (nL r s c).toInt := by
    rw [tdd (by rw [m2]; omega) (by rw [tw]; omega), m2, tw]
  have q0 : 0 ≤ (s c).toInt * p.toInt * 10 / (nL r s c).toInt := Int.ediv_nonneg (by omega) (by omega)
  have q1 : (s c).toInt * p.toInt * 10 / (nL r s c).toInt ≤ 1080000090 := by
    have := Int.ediv_le_self (nL r s c).toInt (show 0 ≤ (s c).toInt * p.toInt * 10 by omega)
    omega
  have e2 : (nS0 r s p c).toInt = (rS r c).toInt + (s c).toInt * p.toInt * 10 / (nL r s c).toInt := by
    have t : (Int64.toInt32 (Int32.toInt64 (s c) * Int32.toInt64 p * 10 / Int32.toInt64 (nL r s c))).toInt = (s c).toInt * p.toInt * 10 / (nL r s c).toInt := by
      rw [tnw (by omega) (by omega), d1]
    unfold nS0
    rw [ta] <;> rw [t] <;> omega
  refine ⟨⟨s0, by omega⟩, e1, b1, d1, q0, q1, e2, ?_⟩
  unfold nS
  by_cases z : nS0 r s p c ≤ 99
  · rw [if_pos z]; rw [le32, k_99] at z; omega
  · rw [if_neg z, k_99]; omega
theorem okP_draw {e : EV} {x p : Int32} {r : RP} (H : okP r) (hx : 0 ≤ x.toInt ∧ x.toInt ≤ 12000000) (hp : 1 ≤ p.toInt ∧ p.toInt ≤ 9) : okP (sDraw e x p r) ∧ okP (dr1 e x p r) := by
  have h := dr_facts (e := e) H hx hp _ rfl
  constructor
  · intro c hc
    obtain ⟨-, -, h1, -, -, -, -, h2⟩ := h c hc
    exact ⟨h1, (H c hc).2.1, h2⟩
  · intro c hc
    obtain ⟨-, -, h1, -, -, -, -, h2⟩ := h c hc
    exact ⟨h1, (H c hc).2.1, h2⟩
theorem bo_facts {r : RP} (H : okP r) : ∀ c, c < 12 → 1 ≤ (rL (sBounce r) c).toInt ∧ (rL (sBounce r) c).toInt ≤ 1000000 := by
  intro c hc
  have h1 := (H c hc).1
  have h2 := (H (c - 1) (by omega)).1
  have h3 : 1 ≤ (rL r (if c = 11 then 11 else c + 1)).toInt ∧ (rL r (if c = 11 then 11 else c + 1)).toInt ≤ 1000000 := by
    by_cases z : c = 11
    · rw [if_pos z]; exact (H 11 (by omega)).1
    · rw [if_neg z]; exact (H (c + 1) (by omega)).1
  show 1 ≤ ((2 * rL r c + rL r (c - 1) + rL r (if c = 11 then 11 else c + 1)) / 4).toInt ∧ ((2 * rL r c + rL r (c - 1) + rL r (if c = 11 then 11 else c + 1)) / 4).toInt ≤ 1000000
  generalize rL r (if c = 11 then 11 else c + 1) = y at *
  have e1 : (2 * rL r c).toInt = 2 * (rL r c).toInt := by rw [tm] <;> rw [k_2] <;> omega
  have e2 : (2 * rL r c + rL r (c - 1)).toInt = 2 * (rL r c).toInt + (rL r (c - 1)).toInt := by rw [ta] <;> rw [e1] <;> omega
  have e3 : (2 * rL r c + rL r (c - 1) + y).toInt = 2 * (rL r c).toInt + (rL r (c - 1)).toInt + y.toInt := by rw [ta] <;> rw [e2] <;> omega
  rw [td (by rw [e3]; omega) (by decide), e3, k_4]
  omega
theorem okP_bounce {r : RP} (H : okP r) : okP (sBounce r) := fun c hc => ⟨bo_facts H c hc, (H c hc).2⟩
theorem hf_t {f : Nat → Int32} {b : Int} {k : Int32} (hb : b < 1000000000) (hf0 : ∀ c, c < 12 → 0 ≤ (f c).toInt ∧ (f c).toInt ≤ b) (hk : 2 ≤ k.toInt) {c : Nat} (hc : c < 12) : (f (c / 2) + f (11 - c / 2)).toInt = (f (c / 2)).toInt + (f (11 - c / 2)).toInt ∧ (hf f k c).toInt = ((f (c / 2)).toInt + (f (11 - c / 2)).toInt) / k.toInt ∧ 0 ≤ (hf f k c).toInt ∧ (hf f k c).toInt ≤ b := by
  have h1 := hf0 (c / 2) (by omega)
  have h2 := hf0 (11 - c / 2) (by omega)
  have e1 : (f (c / 2) + f (11 - c / 2)).toInt = (f (c / 2)).toInt + (f (11 - c / 2)).toInt := ta (by omega) (by omega)
  have e2 : (hf f k c).toInt = ((f (c / 2)).toInt + (f (11 - c / 2)).toInt) / k.toInt := by
    unfold hf; rw [td (by rw [e1]; omega) (by omega), e1]
  refine ⟨e1, e2, ?_, ?_⟩
  · rw [e2]; exact Int.ediv_nonneg (by omega) (by omega)
  · rw [e2]
    have : ((f (c / 2)).toInt + (f (11 - c / 2)).toInt) / k.toInt ≤ ((f (c / 2)).toInt + (f (11 - c / 2)).toInt) / 2 := by
      apply Int.le_ediv_of_mul_le (by omega)
      have a0 := Int.ediv_nonneg (show 0 ≤ (f (c / 2)).toInt + (f (11 - c / 2)).toInt by omega) (show 0 ≤ k.toInt by omega)
      have a1 := Int.ediv_mul_le ((f (c / 2)).toInt + (f (11 - c / 2)).toInt) (show k.toInt ≠ 0 by omega)
      have a2 := Int.mul_le_mul_of_nonneg_left hk a0
      omega
    omega
theorem okP_fo1 {r : RP} (H : okP r) : okP (fo1 r) := by
  intro c hc
  have h1 := hf_t (f := rM r) (b := 200000) (k := 4) (by omega) (fun c hc => (H c hc).2.1) (by decide) hc
  have h2 := hf_t (f := rL r) (b := 1000000) (k := 4) (by omega) (fun c hc => by have := (H c hc).1; omega) (by decide) hc
  have h3 := hf_t (f := rS r) (b := 99) (k := 2) (by omega) (fun c hc => (H c hc).2.2) (by decide) hc
  refine ⟨?_, h1.2.2, h3.2.2⟩
  show 1 ≤ (if 1 ≤ hf (rL r) 4 c then hf (rL r) 4 c else 1).toInt ∧ (if 1 ≤ hf (rL r) 4 c then hf (rL r) 4 c else 1).toInt ≤ 1000000
  by_cases z : 1 ≤ hf (rL r) 4 c
  · rw [if_pos z]; rw [le32, k_1] at z; omega
  · rw [if_neg z, k_1]; omega
theorem okP_fold {e : EV} {r : RP} (H : okP r) : okP (sFold e r) := okP_fo1 H
theorem ct_facts {v k : Int32} {b : Int} (hv : 0 ≤ v.toInt ∧ v.toInt ≤ b) (hb : b ≤ 1000000) (hb1 : 1 ≤ b) (hk : 0 ≤ k.toInt ∧ k.toInt ≤ 9) : 1 ≤ (ct1 v (v * k / 10)).toInt ∧ (ct1 v (v * k / 10)).toInt ≤ b := by
  have m0 : 0 ≤ v.toInt * k.toInt := Int.mul_nonneg hv.1 hk.1
  have m1 : v.toInt * k.toInt ≤ 1000000 * 9 := Int.mul_le_mul (by omega) hk.2 hk.1 (by omega)
  have e1 : (v * k).toInt = v.toInt * k.toInt := tm (by omega) (by omega)
  have e2 : (v * k / 10).toInt = v.toInt * k.toInt / 10 := by rw [td (by rw [e1]; exact m0) (by decide), e1, k_10]
  have e3 : (v - v * k / 10).toInt = v.toInt - v.toInt * k.toInt / 10 := by rw [ts] <;> rw [e2] <;> omega
  unfold ct1
  by_cases z : 1 ≤ v - v * k / 10
  · rw [if_pos z]; rw [le32, k_1, e3] at z; rw [e3]; omega
  · rw [if_neg z, k_1]; omega
theorem okP_cut {r : RP} (H : okP r) (c0 : Nat) {k : Int32} (hk : 0 ≤ k.toInt ∧ k.toInt ≤ 9) : okP (sCut c0 k r) := by
  intro c hc
  obtain ⟨h1, h2, h3⟩ := H c hc
  refine ⟨?_, ?_, h3⟩
  · show 1 ≤ (upn (rL r) c0 _ c).toInt ∧ (upn (rL r) c0 _ c).toInt ≤ 1000000
    unfold upn
    by_cases z : c = c0
    · rw [if_pos z]; subst z; exact ct_facts (b := 1000000) (by omega) (by omega) (by omega) hk
    · rw [if_neg z]; exact h1
  · show 0 ≤ (upn (rM r) c0 _ c).toInt ∧ (upn (rM r) c0 _ c).toInt ≤ 200000
    unfold upn
    by_cases z : c = c0
    · rw [if_pos z]; subst z
      have := ct_facts (v := rM r c) (b := 200000) (by omega) (by omega) (by omega) hk
      omega
    · rw [if_neg z]; exact h2
theorem rest_facts {v m w : Int32} (hv : 0 ≤ v.toInt ∧ v.toInt ≤ 99) (hm : 0 ≤ m.toInt ∧ m.toInt ≤ 30) (hw : 0 ≤ w.toInt ∧ w.toInt ≤ 9) : (v - m * (w + 1)).toInt = v.toInt - m.toInt * (w.toInt + 1) ∧ 0 ≤ (if 0 ≤ v - m * (w + 1) then v - m * (w + 1) else 0).toInt ∧ (if 0 ≤ v - m * (w + 1) then v - m * (w + 1) else 0).toInt ≤ 99 := by
  have e1 : (w + 1).toInt = w.toInt + 1 := by rw [ta] <;> rw [k_1] <;> omega
  have m0 : 0 ≤ m.toInt * (w.toInt + 1) := Int.mul_nonneg hm.1 (by omega)
  have m1 : m.toInt * (w.toInt + 1) ≤ 30 * 10 := Int.mul_le_mul hm.2 (by omega) (by omega) (by omega)
  have e2 : (m * (w + 1)).toInt = m.toInt * (w.toInt + 1) := by rw [tm] <;> rw [e1] <;> omega
  have e3 : (v - m * (w + 1)).toInt = v.toInt - m.toInt * (w.toInt + 1) := by rw [ts] <;> rw [e2] <;> omega
  refine ⟨e3, ?_⟩
  by_cases z : 0 ≤ v - m * (w + 1)
  · rw [if_pos z]; rw [le32, k_0, e3] at z; rw [e3]; omega
  · rw [if_neg z, k_0]; omega
theorem okP_rest {r : RP} (H : okP r) {m w : Int32} (hm : 0 ≤ m.toInt ∧ m.toInt ≤ 30) (hw : 0 ≤ w.toInt ∧ w.toInt ≤ 9) : okP (sRest w m r) := fun c hc => ⟨(H c hc).1, (H c hc).2.1, (rest_facts (H c hc).2.2 hm hw).2⟩
theorem okP_dust {r : RP} (H : okP r) (k : Int32) : okP (sDust k r) := H
theorem allL_t {r : RP} (H : okP r) : (allL r).toInt = sumZ (fun c => (rL r c).toInt) 12 ∧ 12 ≤ (allL r).toInt ∧ (allL r).toInt ≤ 12000000 := by
  have h1 := sumI_t (f := rL r) (b := 1000000) (by omega) (by omega) 12 (by omega) (fun c hc => by have := (H c hc).1; omega)
  have h2 := sumZ_b (f := fun c => (rL r c).toInt) (a := 1) (b := 1000000) 12 (fun c hc => (H c hc).1)
  exact ⟨h1, by unfold allL; rw [h1]; omega, by unfold allL; rw [h1]; omega⟩
theorem tenth_t {r : RP} (H : okP r) {k : Int32} (hk : 0 ≤ k.toInt ∧ k.toInt ≤ 9) : (allL r * k).toInt = (allL r).toInt * k.toInt ∧ (allL r * k / 10).toInt = (allL r).toInt * k.toInt / 10 ∧ 0 ≤ (allL r * k / 10).toInt ∧ (allL r * k / 10).toInt ≤ 12000000 := by
  obtain ⟨-, a1, a2⟩ := allL_t H
  have m0 : 0 ≤ (allL r).toInt * k.toInt := Int.mul_nonneg (by omega) hk.1
  have m1 : (allL r).toInt * k.toInt ≤ 12000000 * 9 := Int.mul_le_mul a2 hk.2 hk.1 (by omega)
  have e1 : (allL r * k).toInt = (allL r).toInt * k.toInt := tm (by omega) (by omega)
  have e2 : (allL r * k / 10).toInt = (allL r).toInt * k.toInt / 10 := by rw [td (by rw [e1]; exact m0) (by decide), e1, k_10]
  exact ⟨e1, e2, by rw [e2]; omega, by rw [e2]; omega⟩
theorem okP_make {e : EV} {r : RP} (H : okP r) {k mo pa : Int32} (hmo : 0 ≤ mo.toInt ∧ mo.toInt ≤ 9) (hpa : 1 ≤ pa.toInt ∧ pa.toInt ≤ 9) (hw : 0 ≤ e.2.2.2.toInt ∧ e.2.2.2.toInt ≤ 9) : okP (sMake e k mo pa r) := by
  unfold sMake
  have ht := tenth_t H hmo
  have hd := (okP_draw (e := e) (x := allL r * mo / 10) H ⟨ht.2.2.1, ht.2.2.2⟩ hpa).1
  split
  · exact hd
  split
  · exact okP_bounce hd
  split
  · exact okP_fold H
  split
  · exact okP_dust H _
  split
  · exact okP_cut (okP_cut (okP_fold H) _ hmo) _ hmo
  · exact okP_rest H (by omega) hw
theorem okP_go {e : EV} {σ : SS} (O : okS σ) {M Ln : Nat → Int32} (hM : ∀ c, c < 12 → 0 ≤ (M c).toInt ∧ (M c).toInt ≤ 200000) (hL : ∀ c, c < 12 → 1 ≤ (Ln c).toInt ∧ (Ln c).toInt ≤ 1000000) (hw : 0 ≤ e.2.2.2.toInt ∧ e.2.2.2.toInt ≤ 9) (lot : Int64) (but : Int32) : ∀ n : Nat, n ≤ 12 → (∀ k, k < n → iN k < σ.1) → okP (sGo e σ M Ln lot but n) := by
  intro n
  induction n with
  | zero => intro _ _ c hc; exact ⟨hL c hc, hM c hc, by show 0 ≤ (0 : Int32).toInt ∧ (0 : Int32).toInt ≤ 99; rw [k_0]; omega⟩
  | succ n ih =>
    intro hn hk
    have h1 := ih (by omega) (fun k hk2 => hk k (by omega))
    have h2 := O.2.2 n (by omega) (hk n (by omega))
    simp only [le32, k_0, k_1] at h2
    rw [show (9 : Int32).toInt = 9 from rfl] at h2
    show okP (if iN n = but then _ else _)
    split
    · exact h1
    · exact okP_make h1 ⟨h2.2.2.1, h2.2.2.2.1⟩ ⟨h2.2.2.2.2.1, h2.2.2.2.2.2⟩ hw
