/-- the class's reader of an expression follows the machine -/
theorem hops (tg : Nat) (opk : Int32 → Bool) (h : KL.all (fun k => (!opk k || (sgn k != -1 && rnk (sgn k) == tg - 12 && (!decide (16 ≤ tg + 1) || decide (12 < sgn k)) && (!decide (tg + 1 ≤ 15) || !decide (12 < sgn k)))) && (opk k || sgn k == -1 || rnk (sgn k) != tg - 12)) = true) : (∀ k ∈ KL, opk k = true → sgn k ≠ -1 ∧ rnk (sgn k) = tg - 12) ∧ (∀ k ∈ KL, opk k = false → sgn k ≠ -1 → rnk (sgn k) ≠ tg - 12) ∧ (∀ k ∈ KL, opk k = true → (16 ≤ tg + 1 → 12 < sgn k) ∧ (tg + 1 ≤ 15 → ¬ 12 < sgn k)) := by
  have h' := List.all_eq_true.mp h
  refine ⟨fun k hk e => ?_, fun k hk e e1 e2 => ?_, fun k hk e => ⟨fun e1 => ?_, fun e1 => ?_⟩⟩
  · have := h' k hk
    simp only [e, Bool.not_true, Bool.false_or, Bool.true_or, Bool.and_true, Bool.and_eq_true, bne_iff_ne, beq_iff_eq] at this
    exact ⟨this.1.1.1, this.1.1.2⟩
  · have := h' k hk
    simp [e, e1, e2] at this
  · have := h' k hk
    simp [e, e1] at this
    exact this.1.2
  · have := h' k hk
    simp [e, e1] at this
    have q := this.2
    lia
theorem cl_scc {B : Nat → Int32} {n t L : Nat} (O : okB2 B n) (m : Nat) : ∀ (tg d : Nat), d ≤ 5 → 13 ≤ tg → tg ≤ 19 → 7 * (5 - d) + (20 - tg) ≤ m → CL B n t L (g_scc 4000 m tg (48 + 4 * t) (iN d)) tg d := by
  induction m with
  | zero => intro tg d hd h1 h2 hm; omega
  | succ m ih =>
    intro tg d hd h1 h2 hm
    have cases' : tg = 13 ∨ tg = 14 ∨ tg = 15 ∨ tg = 16 ∨ tg = 17 ∨ tg = 18 ∨ tg = 19 := by omega
    rcases cases' with rfl | rfl | rfl | rfl | rfl | rfl | rfl
    · obtain ⟨a1, a2, a3⟩ := hops 13 (fun k => k == 13) (by decide +kernel)
      refine l_level O (Or.inl rfl) (ih 14 d hd (by omega) (by omega) (by omega)) (fun k => k == 13) a1 a2 a3 (fun q v h => g_X2_readEither_13 4000 (g_scc 4000 m) q (48 + 4 * t) (iN d) v h) (fun q v h => ?_) _ (fun h => ?_)
      · rw [g_X2_readEither_13]
        by_cases c : 160 ≤ v
        · rw [if_pos c, if_pos c]
        · rw [if_neg c, if_neg c]
          by_cases k : gI h 31 3 = 13
          · rw [if_neg (fun z => z k), if_pos (by rw [k]; rfl), k, show -(sgn 13) = -11 by decide]
          · rw [if_pos k, if_neg (by simp [k])]
      · rw [g_scc, if_pos rfl]; rfl
    · obtain ⟨a1, a2, a3⟩ := hops 14 (fun k => k == 14) (by decide +kernel)
      refine l_level O (Or.inr (Or.inl rfl)) (ih 15 d hd (by omega) (by omega) (by omega)) (fun k => k == 14) a1 a2 a3 (fun q v h => g_X2_readBoth_13 4000 (g_scc 4000 m) q (48 + 4 * t) (iN d) v h) (fun q v h => ?_) _ (fun h => ?_)
      · rw [g_X2_readBoth_13]
        by_cases c : 160 ≤ v
        · rw [if_pos c, if_pos c]
        · rw [if_neg c, if_neg c]
          by_cases k : gI h 31 3 = 14
          · rw [if_neg (fun z => z k), if_pos (by rw [k]; rfl), k, show -(sgn 14) = -12 by decide]
          · rw [if_pos k, if_neg (by simp [k])]
      · rw [g_scc, if_neg (by decide), if_pos rfl]; rfl
    · intro h p o q1 q2 q3 q4 q5
      rw [g_scc, if_neg (by decide), if_neg (by decide), if_pos rfl]
      exact cl_not O hd (ih 16 d hd (by omega) (by omega) (by omega)) (fun z => ih 15 (d + 1) (by omega) (by omega) (by omega) (by omega)) h p o q1 q2 q3 q4 q5
    · intro h p o q1 q2 q3 q4 q5
      rw [g_scc, if_neg (by decide), if_neg (by decide), if_neg (by decide), if_pos rfl]
      exact cl_cmp O (ih 17 d hd (by omega) (by omega) (by omega)) h p o q1 q2 q3 q4 q5
    · obtain ⟨a1, a2, a3⟩ := hops 17 (fun k => k == 43 || k == 45) (by decide +kernel)
      refine l_level O (Or.inr (Or.inr (Or.inl rfl))) (ih 18 d hd (by omega) (by omega) (by omega)) (fun k => k == 43 || k == 45) a1 a2 a3 (fun q v h => g_X2_readSum_13 4000 (g_scc 4000 m) q (48 + 4 * t) (iN d) v h) (fun q v h => ?_) _ (fun h => ?_)
      · rw [g_X2_readSum_13]
        by_cases c : 160 ≤ v
        · rw [if_pos c, if_pos c]
        · rw [if_neg c, if_neg c]
          by_cases k : gI h 31 3 = 43
          · rw [if_pos k, if_pos (by rw [k]; rfl), k]
            unfold g_X2_readSum_38 g_X2_readSum_54
            rw [k, if_neg (fun z => z rfl), show -(sgn 43) = -16 by decide]
          · by_cases k5 : gI h 31 3 = 45
            · rw [if_neg k, if_neg (fun z => z k5), if_pos (by rw [k5]; rfl), k5]
              unfold g_X2_readSum_38 g_X2_readSum_54
              rw [k5, if_pos (by decide), show -(sgn 45) = -17 by decide]
            · rw [if_neg k, if_pos k5, if_neg (by simp [k, k5])]
      · rw [g_scc, if_neg (by decide), if_neg (by decide), if_neg (by decide), if_neg (by decide), if_pos rfl]; rfl
    · obtain ⟨a1, a2, a3⟩ := hops 18 (fun k => k == 42) (by decide +kernel)
      refine l_level O (Or.inr (Or.inr (Or.inr rfl))) (ih 19 d hd (by omega) (by omega) (by omega)) (fun k => k == 42) a1 a2 a3 (fun q v h => g_X2_readProduct_13 4000 (g_scc 4000 m) q (48 + 4 * t) (iN d) v h) (fun q v h => ?_) _ (fun h => ?_)
      · rw [g_X2_readProduct_13]
        by_cases c : 160 ≤ v
        · rw [if_pos c, if_pos c]
        · rw [if_neg c, if_neg c]
          by_cases k : gI h 31 3 = 42
          · rw [if_neg (fun z => z k), if_pos (by rw [k]; rfl), k, show -(sgn 42) = -18 by decide]
          · rw [if_pos k, if_neg (by simp [k])]
      · rw [g_scc, if_neg (by decide), if_neg (by decide), if_neg (by decide), if_neg (by decide), if_neg (by decide), if_pos rfl]; rfl
    · intro h p o q1 q2 q3 q4 q5
      rw [g_scc, if_neg (by decide), if_neg (by decide), if_neg (by decide), if_neg (by decide), if_neg (by decide), if_neg (by decide), if_pos rfl]
      exact cl_one O hd (fun z => ih 13 (d + 1) (by omega) (by omega) (by omega) (by omega)) (fun z => ih 19 (d + 1) (by omega) (by omega) (by omega) (by omega)) h p o q1 q2 q3 q4 q5
