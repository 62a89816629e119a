/-! the class begins to weigh soundings -/
theorem io01 : io 0 0 = 0 ∧ io 0 1 = 1 ∧ io 1 0 = 1 ∧ io 1 1 = 1 := by decide +kernel
theorem begin_43 {X : Mem} {A l : Int → Int} {r : Int} (hB : BD A) (hr : r ∈ RIV) (hR : RV X r A) (hl : ∀ b : Int, 0 ≤ b → b < A 2 → X (r + 9) b = l b) : ∀ (k j : Nat) (R : Int → Int), (j : Int) ≤ A 2 → (A 2).toNat - j < k → R 2 = r → R 4 = (if anyc l j = true then 1 else 0) →
    ∃ R' : Int → Int, L_X6_begin_43 k j (ma X 49 R) = some (0, ma X 49 R') ∧ (∀ q : Int, q ≠ 4 → R' q = R q) ∧ R' 4 = (if anyc l (A 2).toNat = true then 1 else 0) := by
  have hA := hB.2.1
  have hrr := RIV_r hr
  have er : ∀ (R : Int → Int) (i : Int), i ≠ 49 → ma X 49 R i = X i := fun R i hi => ma_ne hi
  intro k
  induction k with
  | zero => intro j R _ h; omega
  | succ k ih =>
    intro j R hj hk h2 h4
    rw [L_X6_begin_43, ma_same, h2, cm_ok hr, er R r (by omega), hR.1.2.2.1, c2_ok (by omega) (by omega) (by omega) (by omega)]
    by_cases g : A 2 ≤ (j : Int)
    · rw [if_pos g, show (A 2).toNat = j by omega]
      exact ⟨R, rfl, fun q _ => rfl, h4⟩
    · have hlj := hl j (by omega) (by omega)
      have hlr := LE_r hB (hR.2.2.2.2.2.1 j (by omega) (by omega))
      have e3 : (j : Int) + 1 = ((j + 1 : Nat) : Int) := rfl
      have hup : ∀ v : Int, v = (if anyc l (j + 1) = true then 1 else 0) → ∃ R' : Int → Int, L_X6_begin_43 k ((j : Int) + 1) (ma X 49 (up R 4 v)) = some (0, ma X 49 R') ∧ (∀ q : Int, q ≠ 4 → R' q = R q) ∧ R' 4 = (if anyc l (A 2).toNat = true then 1 else 0) := fun v hv => by
        obtain ⟨R', q1, q2, q3⟩ := ih (j + 1) (up R 4 v) (by omega) (by omega) (by rw [up_ne (by decide)]; exact h2) (by rw [up_same]; exact hv)
        exact ⟨R', by rw [e3, q1], fun q hq => by rw [q2 q hq, up_ne hq], q3⟩
      rw [if_neg g, cm_ok hr, ax_ok (by omega) (by omega), er R (r + 9) (by omega), c2_ok (by omega) (by omega) (by decide) (by decide), hlj]
      by_cases gl : l j = -1
      · have hv : io (R 4) 0 = (if anyc l (j + 1) = true then 1 else 0) := by
          have ea : anyc l (j + 1) = (anyc l j || decide (l j ≠ -1)) := rfl
          rw [h4, ea, decide_eq_false (fun h => h gl), Bool.or_false]
          by_cases gg : anyc l j = true
          · rw [if_pos gg]
            exact io01.2.2.1
          · rw [if_neg gg]
            exact io01.1
        rw [if_pos gl, B_X6_begin_77, cz_ok (by rw [hv]; split <;> omega), bd_eq, ms_row]
        exact hup _ hv
      · have hv : io (R 4) 1 = (if anyc l (j + 1) = true then 1 else 0) := by
          have ea : anyc l (j + 1) = (anyc l j || decide (l j ≠ -1)) := rfl
          rw [h4, ea, decide_eq_true gl, Bool.or_true, if_pos rfl]
          by_cases gg : anyc l j = true
          · rw [if_pos gg]
            exact io01.2.2.2
          · rw [if_neg gg]
            exact io01.2.1
        rw [if_neg gl, B_X6_begin_77, cz_ok (by rw [hv]; split <;> omega), bd_eq, ms_row]
        exact hup _ hv
