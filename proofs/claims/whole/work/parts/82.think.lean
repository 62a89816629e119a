/-! the first thought: weights of the sets -/
def wtk (ch : Int → Int) (x : Int) : Nat → Int
  | 0 => 1
  | b + 1 => wtk ch x b * (if ia (ishr x b) 1 = 1 then ch b else 16 - ch b)
theorem wtk_r {ch : Int → Int} (hch : ∀ b : Int, 0 ≤ b → b < 5 → 0 ≤ ch b ∧ ch b ≤ 16) (x : Int) : ∀ c : Nat, c ≤ 5 → 0 ≤ wtk ch x c ∧ wtk ch x c ≤ 16 ^ c
  | 0, _ => ⟨(by decide : (0 : Int) ≤ 1), (by decide : (1 : Int) ≤ 16 ^ 0)⟩
  | c + 1, h => by
    have h1 := wtk_r hch x c (by omega)
    have h2 := hch c (by omega) (by omega)
    have h3 : 0 ≤ (if ia (ishr x c) 1 = 1 then ch c else 16 - ch c) ∧ (if ia (ishr x c) 1 = 1 then ch c else 16 - ch c) ≤ 16 := by split <;> omega
    refine ⟨Int.mul_nonneg h1.1 h3.1, ?_⟩
    rw [Int.pow_succ]
    exact Int.mul_le_mul h1.2 h3.2 h3.1 (Int.pow_nonneg (by decide))
theorem wtk_b {ch : Int → Int} (hch : ∀ b : Int, 0 ≤ b → b < 5 → 0 ≤ ch b ∧ ch b ≤ 16) (x : Int) {c : Nat} (hc : c ≤ 5) : 0 ≤ wtk ch x c ∧ wtk ch x c ≤ 2000000000000 := by
  have h := wtk_r hch x c hc
  refine ⟨h.1, Int.le_trans h.2 ?_⟩
  rcases show c = 0 ∨ c = 1 ∨ c = 2 ∨ c = 3 ∨ c = 4 ∨ c = 5 by omega with rfl | rfl | rfl | rfl | rfl | rfl <;> decide
theorem ms_self {X : Mem} {i k : Int} : ms X i k (X i k) = X := by
  funext a b
  unfold ms
  by_cases h : a = i ∧ b = k
  · rw [if_pos h, h.1, h.2]
  · rw [if_neg h]
theorem ms_ms {X : Mem} {i k v w : Int} : ms (ms X i k v) i k w = ms X i k w := by
  funext a b
  unfold ms
  by_cases h : a = i ∧ b = k
  · rw [if_pos h, if_pos h]
  · rw [if_neg h, if_neg h, if_neg h]
theorem think_28 {r p x : Int} {ch : Int → Int} {m : Nat} (hm : m ≤ 5) (hr : r ≠ 41) (hr6 : r + 6 ≠ 41) (hx : 0 ≤ x ∧ x < 32) (hch : ∀ b : Int, 0 ≤ b → b < 5 → 0 ≤ ch b ∧ ch b ≤ 16) (go : Int → Int → Int → Mem → Option (Int × Mem)) : ∀ (k c : Nat) (X : Mem), c ≤ m → m - c < k → X r 2 = m → X (r + 6) = ch → X 41 x = wtk ch x c → L_X9_think_28 go k r p x c X = go r p (x + 1) (ms X 41 x (wtk ch x m)) := by
  intro k
  induction k with
  | zero => intro c X _ h; omega
  | succ k ih =>
    intro c X hc hk h2 h6 hw
    rw [L_X9_think_28, h2, c2_ok (by omega) (by omega) (by omega) (by omega)]
    by_cases h : (m : Int) ≤ (c : Int)
    · have e : c = m := by omega
      subst e
      rw [if_pos h, B_X9_think_96, ← hw, ms_self]
    · have hI := ia_I (ishr x c) 1
      have hb := hch c (by omega) (by omega)
      have e2 : (c : Int) + 1 = ((c + 1 : Nat) : Int) := rfl
      rw [if_neg h, c2_ok hI.1 hI.2 (by decide) (by decide)]
      by_cases g : ia (ishr x c) 1 = 1
      · have e3 : wtk ch x c * ch c = wtk ch x (c + 1) := by
          show _ = wtk ch x c * (if ia (ishr x c) 1 = 1 then ch c else 16 - ch c)
          rw [if_pos g]
        rw [if_neg (by simpa using g), B_X9_think_52, ax_ok hx.1 hx.2, c1_ok (by decide) (by decide), if_neg (by decide), ax_ok (by omega) (by omega), h6, c1_ok (by omega) (by omega), B_X9_think_88, ax_ok hx.1 hx.2, bd_eq, hw, e2, e3]
        rw [ih (c + 1) _ (by omega) (by omega) (by rw [ms_ne hr, h2]) (by rw [ms_ne hr6, h6]) ms_s, ms_ms]
      · have e3 : wtk ch x c * (16 - ch c) = wtk ch x (c + 1) := by
          show _ = wtk ch x c * (if ia (ishr x c) 1 = 1 then ch c else 16 - ch c)
          rw [if_neg g]
        rw [if_pos g, B_X9_think_52, ax_ok hx.1 hx.2, c1_ok (by decide) (by decide), if_pos rfl, ax_ok (by omega) (by omega), h6, c1_ok (by omega) (by omega), B_X9_think_88, ax_ok hx.1 hx.2, bd_eq, hw, e2, e3]
        rw [ih (c + 1) _ (by omega) (by omega) (by rw [ms_ne hr, h2]) (by rw [ms_ne hr6, h6]) ms_s, ms_ms]
/-- the row of weights -/
def wF (ch : Int → Int) (m N : Nat) : Int → Int := fun q => if 0 ≤ q ∧ q < (N : Int) then wtk ch q m else 0
theorem think_10 {r p : Int} {ch : Int → Int} {m N : Nat} (hm : m ≤ 5) (hN : N ≤ 32) (hr : r ≠ 41) (hr6 : r + 6 ≠ 41) (hch : ∀ b : Int, 0 ≤ b → b < 5 → 0 ≤ ch b ∧ ch b ≤ 16) (hmN : ishl 1 (m : Int) = N) : ∀ (k c : Nat) (X : Mem), c ≤ N → N - c < k → X r 2 = m → X (r + 6) = ch → X 41 = wF ch m c → L_X9_think_10 k r p c X = B_X9_think_102 p (ma X 41 (wF ch m N)) := by
  intro k
  induction k with
  | zero => intro c X _ h; omega
  | succ k ih =>
    intro c X hc hk h2 h6 hw
    have e0 : f_X2_setCount r X = some ((N : Int), X) := by
      unfold f_X2_setCount
      rw [h2, hmN]
    rw [L_X9_think_10, e0, cl_some, c2_ok (by omega) (by omega) (by omega) (by omega)]
    by_cases h : (N : Int) ≤ (c : Int)
    · have e : c = N := by omega
      subst e
      rw [if_pos h, ← hw, ma_self]
    · have e2 : (c : Int) + 1 = ((c + 1 : Nat) : Int) := rfl
      rw [if_neg h, ax_ok (by omega) (by omega), bd_eq]
      have h28 := think_28 (r := r) (p := p) (x := c) (ch := ch) hm hr hr6 ⟨by omega, by omega⟩ hch (fun x1 x2 x3 X => L_X9_think_10 k x1 x2 x3 X) KF 0 (ms X 41 c 1) (by omega) (by rw [KF_eq]; omega) (by rw [ms_ne hr, h2]) (by rw [ms_ne hr6, h6]) ms_s
      refine Eq.trans h28 ?_
      show L_X9_think_10 k r p ((c : Int) + 1) _ = _
      rw [e2, ms_ms, ih (c + 1) _ (by omega) (by omega) (by rw [ms_ne hr, h2]) (by rw [ms_ne hr6, h6]) (by
        rw [ms_ma, ma_same, hw]
        funext q
        unfold up wF
        by_cases hq : q = c
        · rw [if_pos hq, if_pos (by omega), hq]
        · rw [if_neg hq]
          by_cases h3 : 0 ≤ q ∧ q < (c : Int)
          · rw [if_pos h3, if_pos (by omega)]
          · rw [if_neg h3, if_neg (by omega)]), ms_ma, ma_ma]
theorem wF_r {ch : Int → Int} {m N : Nat} (hm : m ≤ 5) (hch : ∀ b : Int, 0 ≤ b → b < 5 → 0 ≤ ch b ∧ ch b ≤ 16) (q : Int) : 0 ≤ wF ch m N q ∧ wF ch m N q ≤ 2000000000000 := by
  unfold wF
  split
  · exact wtk_b hch q hm
  · omega
/-- the class's first thought of a river -/
theorem think_eq {r p : Int} {m N : Nat} {X : Mem} (hm : m ≤ 5) (hN : N ≤ 32) (hr : r ≠ 41) (hr6 : r + 6 ≠ 41) (hp : p ≠ 41) (h2 : X r 2 = m) (hch : ∀ b : Int, 0 ≤ b → b < 5 → 0 ≤ X (r + 6) b ∧ X (r + 6) b ≤ 16) (hmN : ishl 1 (m : Int) = N) (hz : ∀ q : Int, q < 0 ∨ 32 ≤ q → X 41 q = 0) :
    f_X9_think r p X = if 0 < sm (wF (X (r + 6)) m N) 32 then some (0, ma (ma X 41 (wF (X (r + 6)) m N)) p (shF (wF (X (r + 6)) m N) (X p))) else some (0, ma X 41 (wF (X (r + 6)) m N)) := by
  unfold f_X9_think
  rw [fillJ (by decide) (by decide), cl_some]
  have e1 : fl (X 41) 0 32 0 = wF (X (r + 6)) m 0 := by
    funext q
    unfold fl wF
    rw [if_neg (show ¬ (0 ≤ q ∧ q < ((0 : Nat) : Int)) by omega)]
    by_cases h : 0 ≤ q ∧ q < 32
    · rw [if_pos h]
    · rw [if_neg h, hz q (by omega)]
  have h10 := think_10 (r := r) (p := p) (ch := X (r + 6)) (m := m) (N := N) hm hN hr hr6 hch hmN KF 0 (ma X 41 (fl (X 41) 0 32 0)) (by omega) (by rw [KF_eq]; omega) (by rw [ma_ne hr, h2]) (by rw [ma_ne hr6]) (by rw [ma_same, e1])
  refine Eq.trans h10 ?_
  rw [ma_ma, B_X9_think_102, share_eq hp (fun q _ _ => by rw [ma_same]; exact wF_r hm hch q), ma_same, ma_ne hp]
  by_cases h : 0 < sm (wF (X (r + 6)) m N) 32
  · rw [if_pos h, if_pos h, cl_some]
  · rw [if_neg h, if_neg h, cl_some]
