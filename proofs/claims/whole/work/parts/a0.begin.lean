/-! the class begins to weigh soundings -/
theorem io01 : io 0 0 = 0 ∧ io 0 1 = 1 ∧ io 1 0 = 1 ∧ io 1 1 = 1 := by decide +kernel
theorem begin_43 {X : Mem} {A l : Int → Int} {r : Int} (hB : BD A) (hr : r ∈ RIV) (hR : RV X r A) (hl : ∀ b : Int, 0 ≤ b → b < A 2 → X (r + 9) b = l b) : ∀ (k j : Nat) (R : Int → Int), (j : Int) ≤ A 2 → (A 2).toNat - j < k → R 2 = r → R 4 = (if anyc l j = true then 1 else 0) →
    ∃ R' : Int → Int, L_X6_begin_43 k j (ma X 49 R) = some (0, ma X 49 R') ∧ (∀ q : Int, q ≠ 4 → R' q = R q) ∧ R' 4 = (if anyc l (A 2).toNat = true then 1 else 0) := by
  have hA := hB.2.1
  have hrr := RIV_r hr
  have er : ∀ (R : Int → Int) (i : Int), i ≠ 49 → ma X 49 R i = X i := fun R i hi => ma_ne hi
  intro k
  induction k with
  | zero => intro j R _ h; omega
  | succ k ih =>
    intro j R hj hk h2 h4
    rw [L_X6_begin_43, ma_same, h2, cm_ok hr, er R r (by omega), hR.1.2.2.1, c2_ok (by omega) (by omega) (by omega) (by omega)]
    by_cases g : A 2 ≤ (j : Int)
    · rw [if_pos g, show (A 2).toNat = j by omega]
      exact ⟨R, rfl, fun q _ => rfl, h4⟩
    · have hlj := hl j (by omega) (by omega)
      have hlr := LE_r hB (hR.2.2.2.2.2.1 j (by omega) (by omega))
      have e3 : (j : Int) + 1 = ((j + 1 : Nat) : Int) := rfl
      have hup : ∀ v : Int, v = (if anyc l (j + 1) = true then 1 else 0) → ∃ R' : Int → Int, L_X6_begin_43 k ((j : Int) + 1) (ma X 49 (up R 4 v)) = some (0, ma X 49 R') ∧ (∀ q : Int, q ≠ 4 → R' q = R q) ∧ R' 4 = (if anyc l (A 2).toNat = true then 1 else 0) := fun v hv => by
        obtain ⟨R', q1, q2, q3⟩ := ih (j + 1) (up R 4 v) (by omega) (by omega) (by rw [up_ne (by decide)]; exact h2) (by rw [up_same]; exact hv)
        exact ⟨R', by rw [e3, q1], fun q hq => by rw [q2 q hq, up_ne hq], q3⟩
      rw [if_neg g, cm_ok hr, ax_ok (by omega) (by omega), er R (r + 9) (by omega), c2_ok (by omega) (by omega) (by decide) (by decide), hlj]
      by_cases gl : l j = -1
      · have hv : io (R 4) 0 = (if anyc l (j + 1) = true then 1 else 0) := by
          have ea : anyc l (j + 1) = (anyc l j || decide (l j ≠ -1)) := rfl
          rw [h4, ea, decide_eq_false (fun h => h gl), Bool.or_false]
          by_cases gg : anyc l j = true
          · rw [if_pos gg]
            exact io01.2.2.1
          · rw [if_neg gg]
            exact io01.1
        rw [if_pos gl, B_X6_begin_77, cz_ok (by rw [hv]; split <;> omega), bd_eq, ms_row]
        exact hup _ hv
      · have hv : io (R 4) 1 = (if anyc l (j + 1) = true then 1 else 0) := by
          have ea : anyc l (j + 1) = (anyc l j || decide (l j ≠ -1)) := rfl
          rw [h4, ea, decide_eq_true gl, Bool.or_true, if_pos rfl]
          by_cases gg : anyc l j = true
          · rw [if_pos gg]
            exact io01.2.2.2
          · rw [if_neg gg]
            exact io01.2.1
        rw [if_neg gl, B_X6_begin_77, cz_ok (by rw [hv]; split <;> omega), bd_eq, ms_row]
        exact hup _ hv
theorem WTS_at {k : Int} (k0 : 0 ≤ k) (k1 : k < 4) : tl WTS k = 51 + k ∧ (51 + k) ∈ WTS := by
  rcases (show k = 0 ∨ k = 1 ∨ k = 2 ∨ k = 3 by omega) with rfl | rfl | rfl | rfl <;> decide
theorem begin_eq {X : Mem} {A l : Int → Int} {r k : Int} (hB : BD A) (hr : r ∈ RIV) (hR : RV X r A) (h20 : X 2 0 = r) (h23 : X 2 3 = A 3) (hl : ∀ b : Int, 0 ≤ b → b < A 2 → X (r + 9) b = l b) (k0 : 0 ≤ k) (k1 : k < 4) :
    ∃ Y : Mem, f_X6_begin 2 k X = some (0, Y) ∧ (∀ i : Int, i ≠ 49 → i ≠ 51 + k → Y i = X i) ∧ (∀ q : Int, 0 ≤ q → q < 32 → Y (51 + k) q = X 18 q) ∧ Y 49 2 = r ∧ Y 49 3 = stg A (A 3) ∧ Y 49 4 = (if anyc l (A 2).toNat = true then 1 else 0) := by
  have hrr := RIV_r hr
  have b3 := hB.2.2.1
  have hrc := RIV_c hr
  have hR1 : RV (ms X 49 2 r) r A := hR.fr fun i a b => ms_ne (by omega)
  have e1 : f_X6_begin 2 k X = L_X6_begin_43 KF 0 (ms (mc (ms (ms X 49 2 r) 49 3 (stg A (A 3))) 18 0 (51 + k) 0 32) 49 4 0) := by
    unfold f_X6_begin f_X11_copyParts
    rw [h20, cm_ok hr, bd_eq, ms_at, if_pos ⟨rfl, rfl⟩, cm_ok hr, ms_ne (show (2 : Int) ≠ 49 by decide), h23, stageOn_eq hR1 hB b3.1 (by omega), cl_some, bd_eq, ax_ok (n := WTS.length) k0 k1, (WTS_at k0 k1).1, cm_ok (WTS_at k0 k1).2, c32, bd_eq, cl_some, cz_0, bd_eq]
    rfl
  generalize hM : mc (ms (ms X 49 2 r) 49 3 (stg A (A 3))) 18 0 (51 + k) 0 32 = M at *
  have m1 : ∀ i : Int, i ≠ 49 → i ≠ 51 + k → M i = X i := fun i i1 i2 => by rw [← hM, mc_off i2, ms_ne i1, ms_ne i1]
  have m2 : ∀ q : Int, 0 ≤ q → q < 32 → M (51 + k) q = X 18 q := fun q q0 q1 => by rw [← hM, mc_in q0 q1, ms_ne (by decide), ms_ne (by decide)]
  have m3 : M 49 2 = r ∧ M 49 3 = stg A (A 3) := by
    rw [← hM, mc_off (by omega), ms_at, if_neg (by decide), ms_at, if_pos ⟨rfl, rfl⟩, ms_at, if_pos ⟨rfl, rfl⟩]
    exact ⟨rfl, rfl⟩
  obtain ⟨R', q1, q2, q3⟩ := begin_43 (X := M) (A := A) (l := l) (r := r) hB hr (hR.fr fun i a b => m1 i (by omega) (by omega)) (fun b b0 b1 => by rw [m1 (r + 9) (by omega) (by omega)]; exact hl b b0 b1) KF 0 (up (M 49) 4 0) (by have := hB.2.1; omega) (by rw [KF_eq]; have := hB.2.1; omega) (by rw [up_ne (by decide)]; exact m3.1) (by rw [up_same]; rfl)
  have q1 : L_X6_begin_43 KF 0 (ma M 49 (up (M 49) 4 0)) = some (0, ma M 49 R') := q1
  refine ⟨ma M 49 R', ?_, fun i i1 i2 => by rw [ma_ne i1]; exact m1 i i1 i2, fun q q0 q1 => by rw [ma_ne (by omega)]; exact m2 q q0 q1, ?_, ?_, ?_⟩
  · rw [e1, ms_ma, q1]
  · rw [ma_same, q2 2 (by decide), up_ne (by decide)]
    exact m3.1
  · rw [ma_same, q2 3 (by decide), up_ne (by decide)]
    exact m3.2
  · rw [ma_same]
    exact q3
