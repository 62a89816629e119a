/-! the reference's first thought -/
theorem ofBar_eq {b j : Int} {X : Mem} (h0 : 0 ≤ b) (h1 : b < 5) (h2 : 0 ≤ j) (h3 : j < 4) : f_X12_ofBar b j X = some (X 121 (28 + 4 * b + j), X) := by
  unfold f_X12_ofBar
  rw [ax_ok (by omega) (by omega)]
theorem first_19 {x : Int} {ch : Int → Int} {m : Nat} (hm : m ≤ 5) (hx : 0 ≤ x ∧ x < 32) (hch : ∀ b : Int, 0 ≤ b → b < 5 → 0 ≤ ch b ∧ ch b ≤ 16) (go : Int → Mem → Option (Int × Mem)) : ∀ (k c : Nat) (X : Mem), c ≤ m → m - c < k → X 121 2 = m → (∀ b : Int, 0 ≤ b → b < 5 → X 121 (28 + 4 * b + 1) = ch b) → X 130 x = wtk ch x c → L_X12_first_19 go k x c X = go (x + 1) (ms X 130 x (wtk ch x m)) := by
  intro k
  induction k with
  | zero => intro c X _ h; omega
  | succ k ih =>
    intro c X hc hk h2 h6 hw
    rw [L_X12_first_19, ax_ok (by decide) (by decide), h2, c2_ok (by omega) (by omega) (by omega) (by omega)]
    by_cases h : (m : Int) ≤ (c : Int)
    · have e : c = m := by omega
      subst e
      rw [if_pos h, B_X12_first_73, ← hw, ms_self]
    · have hI := ia_I (ishr x c) 1
      have hb := hch c (by omega) (by omega)
      have e2 : (c : Int) + 1 = ((c + 1 : Nat) : Int) := rfl
      rw [if_neg h, ax_ok hx.1 hx.2, c2_ok hI.1 hI.2 (by decide) (by decide)]
      by_cases g : ia (ishr x c) 1 = 1
      · have e3 : wtk ch x c * ch c = wtk ch x (c + 1) := by
          show _ = wtk ch x c * (if ia (ishr x c) 1 = 1 then ch c else 16 - ch c)
          rw [if_pos g]
        rw [if_neg (by simpa using g), ofBar_eq (by omega) (by omega) (by decide) (by decide), cl_some, h6 _ (by omega) (by omega), c1_ok (by omega) (by omega), B_X12_first_65, ax_ok hx.1 hx.2, bd_eq, hw, e2, e3]
        rw [ih (c + 1) _ (by omega) (by omega) (by rw [ms_ne (by decide), h2]) (fun b b0 b1 => by rw [ms_ne (by decide), h6 b b0 b1]) ms_s, ms_ms]
      · have e3 : wtk ch x c * (16 - ch c) = wtk ch x (c + 1) := by
          show _ = wtk ch x c * (if ia (ishr x c) 1 = 1 then ch c else 16 - ch c)
          rw [if_neg g]
        rw [if_pos g, ofBar_eq (by omega) (by omega) (by decide) (by decide), cl_some, h6 _ (by omega) (by omega), c1_ok (by omega) (by omega), B_X12_first_65, ax_ok hx.1 hx.2, bd_eq, hw, e2, e3]
        rw [ih (c + 1) _ (by omega) (by omega) (by rw [ms_ne (by decide), h2]) (fun b b0 b1 => by rw [ms_ne (by decide), h6 b b0 b1]) ms_s, ms_ms]
/-- the row of weights, over what stood there -/
def wG (ch : Int → Int) (m N : Nat) (f : Int → Int) : Int → Int := fun q => if 0 ≤ q ∧ q < (N : Int) then wtk ch q m else f q
theorem first_2 {ch : Int → Int} {m N : Nat} {f : Int → Int} (hm : m ≤ 5) (hN : N ≤ 32) (hch : ∀ b : Int, 0 ≤ b → b < 5 → 0 ≤ ch b ∧ ch b ≤ 16) (hmN : ishl 1 (m : Int) = N) : ∀ (k c : Nat) (X : Mem), c ≤ N → N - c < k → X 121 2 = m → (∀ b : Int, 0 ≤ b → b < 5 → X 121 (28 + 4 * b + 1) = ch b) → X 130 = wG ch m c f → L_X12_first_2 k c X = B_X12_first_79 (ma X 130 (wG ch m N f)) := by
  intro k
  induction k with
  | zero => intro c X _ h; omega
  | succ k ih =>
    intro c X hc hk h2 h6 hw
    rw [L_X12_first_2, sets_eq, cl_some, h2, hmN, c2_ok (by omega) (by omega) (by omega) (by omega)]
    by_cases h : (N : Int) ≤ (c : Int)
    · have e : c = N := by omega
      subst e
      rw [if_pos h, ← hw, ma_self]
    · have e2 : (c : Int) + 1 = ((c + 1 : Nat) : Int) := rfl
      rw [if_neg h, ax_ok (by omega) (by omega), bd_eq]
      have h19 := first_19 (x := c) (ch := ch) hm ⟨by omega, by omega⟩ hch (fun x1 X => L_X12_first_2 k x1 X) KF 0 (ms X 130 c 1) (by omega) (by rw [KF_eq]; omega) (by rw [ms_ne (by decide), h2]) (fun b b0 b1 => by rw [ms_ne (by decide), h6 b b0 b1]) ms_s
      refine Eq.trans h19 ?_
      show L_X12_first_2 k ((c : Int) + 1) _ = _
      rw [e2, ms_ms, ih (c + 1) _ (by omega) (by omega) (by rw [ms_ne (by decide), h2]) (fun b b0 b1 => by rw [ms_ne (by decide), h6 b b0 b1]) (by
        rw [ms_ma, ma_same, hw]
        funext q
        unfold up wG
        by_cases hq : q = c
        · rw [if_pos hq, if_pos (by omega), hq]
        · rw [if_neg hq]
          by_cases h3 : 0 ≤ q ∧ q < (c : Int)
          · rw [if_pos h3, if_pos (by omega)]
          · rw [if_neg h3, if_neg (by omega)]), ms_ma, ma_ma]
/-- the reference's first thought of its river -/
theorem first_eq {m N : Nat} {X : Mem} (hm : m ≤ 5) (hN0 : 0 < N) (hN : N ≤ 32) (h2 : X 121 2 = m) (hch : ∀ b : Int, 0 ≤ b → b < 5 → 0 ≤ X 121 (28 + 4 * b + 1) ∧ X 121 (28 + 4 * b + 1) ≤ 16) (hmN : ishl 1 (m : Int) = N) (hz : ∀ q : Int, 0 ≤ q → q < 32 → 0 ≤ X 130 q ∧ X 130 q ≤ 2000000000000)
    (hpos : 0 < sm (wG (fun b => X 121 (28 + 4 * b + 1)) m N (X 130)) N) :
    f_X12_first X = some (0, ma (ma X 130 (wG (fun b => X 121 (28 + 4 * b + 1)) m N (X 130))) 121 (shM N (wG (fun b => X 121 (28 + 4 * b + 1)) m N (X 130)) (X 121))) := by
  unfold f_X12_first
  have h := first_2 (ch := fun b => X 121 (28 + 4 * b + 1)) (m := m) (N := N) (f := X 130) hm hN hch hmN KF 0 X (by omega) (by rw [KF_eq]; omega) h2 (fun b _ _ => rfl) (funext fun q => (if_neg (by omega)).symm)
  refine Eq.trans h ?_
  have hw : ∀ q : Int, 0 ≤ q → q < 32 → 0 ≤ (ma X 130 (wG (fun b => X 121 (28 + 4 * b + 1)) m N (X 130))) 130 q ∧ (ma X 130 (wG (fun b => X 121 (28 + 4 * b + 1)) m N (X 130))) 130 q ≤ 2000000000000 := by
    intro q q0 q1
    rw [ma_same]
    unfold wG
    split
    · exact wtk_b hch q hm
    · exact hz q q0 q1
  rw [B_X12_first_79, sharem_eq hN0 hN (by rw [ma_ne (by decide), h2, hmN]) hw, ma_same, if_pos hpos, cl_some, c1_ok (by decide) (by decide), if_pos (by decide), ma_ne (by decide)]
