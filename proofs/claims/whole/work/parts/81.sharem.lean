/-! the reference shares out -/
theorem sets_eq {X : Mem} : f_X12_sets X = some (ishl 1 (X 121 2), X) := by
  unfold f_X12_sets
  rw [ax_ok (by decide) (by decide)]
theorem sharem_7 {N : Nat} (hN1 : N ≤ 32) {w : Int → Int} (hw : ∀ q : Int, 0 ≤ q → q < 32 → 0 ≤ w q ∧ w q ≤ 2000000000000) : ∀ (k c : Nat) (X : Mem), c ≤ N → N - c < k → X 130 = w → ishl 1 (X 121 2) = N → L_X12_sharesOut_7 k (sm w c) (mx w c) c X = B_X12_sharesOut_56 (sm w N) (mx w N) X := by
  intro k
  induction k with
  | zero => intro c X _ h; omega
  | succ k ih =>
    intro c X hc hk hX hN
    rw [L_X12_sharesOut_7, sets_eq, cl_some, hN, c2_ok (by omega) (by omega) (by omega) (by omega)]
    by_cases h : (N : Int) ≤ (c : Int)
    · rw [if_pos h, show c = N by omega]
    · have hm := mx_r w c
      have hsm := sm_r hw c (by omega)
      have h1 := hw c (by omega) (by omega)
      have h2 := hw (mx w c) (by omega) (by omega)
      rw [if_neg h, ax_ok (by omega) (by omega), bd_eq, ax_ok (by omega) (by omega), ax_ok (by omega) (by omega), hX, d2_ok (by omega) (by omega) (by omega) (by omega)]
      have e1 : sm w c + w c = sm w (c + 1) := rfl
      have e2 : (c : Int) + 1 = ((c + 1 : Nat) : Int) := rfl
      by_cases h3 : w c ≤ w (mx w c)
      · have e3 : mx w c = mx w (c + 1) := by
          show _ = if w c ≤ w (mx w c) then mx w c else c
          rw [if_pos h3]
        rw [if_pos h3, B_X12_sharesOut_49, e1, e2, e3]
        exact ih (c + 1) X (by omega) (by omega) hX hN
      · have e3 : (c : Int) = mx w (c + 1) := by
          show _ = if w c ≤ w (mx w c) then mx w c else c
          rw [if_neg h3]
        rw [if_neg h3, B_X12_sharesOut_49, e1, e2]
        conv => lhs; arg 3; rw [e3]
        exact ih (c + 1) X (by omega) (by omega) hX hN
/-- the slot's row of shares -/
def shM (N : Nat) (w : Int → Int) (f : Int → Int) : Int → Int := fun q => if 168 ≤ q ∧ q < 168 + (N : Int) then shV w (sm w N) (q - 168) + (if q - 168 = mx w N then 1000000 - sm (shV w (sm w N)) N else 0) else f q
theorem sharem_71 {N : Nat} (hN1 : N ≤ 32) {w : Int → Int} {S b : Int} (hb : 0 ≤ b ∧ b < N) (hS : 0 < S) (hS2 : S ≤ 64000000000000) (hw : ∀ q : Int, 0 ≤ q → q < 32 → 0 ≤ w q ∧ w q ≤ 2000000000000) (f : Int → Int) (hf : ishl 1 (f 2) = N) : ∀ (k c : Nat) (X : Mem), c ≤ N → N - c < k → X 130 = w → (X 121 = fun q : Int => if 168 ≤ q ∧ q < 168 + (c : Int) then shV w S (q - 168) else f q) →
    L_X12_sharesOut_71 k S b (1000000 - sm (shV w S) c) c X = some (1, ma X 121 (fun q => if 168 ≤ q ∧ q < 168 + (N : Int) then shV w S (q - 168) + (if q - 168 = b then 1000000 - sm (shV w S) N else 0) else f q)) := by
  intro k
  induction k with
  | zero => intro c X _ h; omega
  | succ k ih =>
    intro c X hc hk hX hXp
    have h2v : X 121 2 = f 2 := by
      rw [hXp]
      exact if_neg (by omega)
    rw [L_X12_sharesOut_71, sets_eq, cl_some, h2v, hf, c2_ok (by omega) (by omega) (by omega) (by omega)]
    by_cases h : (N : Int) ≤ (c : Int)
    · have e : c = N := by omega
      subst e
      rw [if_pos h, B_X12_sharesOut_127, ax_ok (by omega) (by omega), ax_ok (by omega) (by omega), bd_eq, ms_ma]
      refine congrArg (fun g => some ((1 : Int), ma X 121 g)) (funext fun q => ?_)
      unfold up
      rw [hXp]
      by_cases hq : q = 168 + b
      · subst hq
        rw [if_pos rfl]
        show (if 168 ≤ 168 + b ∧ 168 + b < 168 + (c : Int) then shV w S (168 + b - 168) else f (168 + b)) + _ = _
        rw [if_pos (by omega), if_pos (by omega), if_pos (by omega)]
      · rw [if_neg hq]
        show (if 168 ≤ q ∧ q < 168 + (c : Int) then shV w S (q - 168) else f q) = _
        by_cases h2 : 168 ≤ q ∧ q < 168 + (c : Int)
        · rw [if_pos h2, if_pos h2, if_neg (by omega), Int.add_zero]
        · rw [if_neg h2, if_neg h2]
    · have h1 := hw c (by omega) (by omega)
      rw [if_neg h, ax_ok (by omega) (by omega), hX, dd_ok (by omega) (by omega) hS (by omega), ax_ok (by omega) (by omega), bd_eq, ax_ok (by omega) (by omega), bd_eq, Int.mul_comm 1000000 (w c)]
      have e0 : ms X 121 (168 + (c : Int)) (w c * 1000000 / S) 121 (168 + (c : Int)) = shV w S c := ms_s
      rw [e0, show 1000000 - sm (shV w S) c - shV w S c = 1000000 - sm (shV w S) (c + 1) from by
        show _ = 1000000 - (sm (shV w S) c + shV w S c)
        omega]
      have e2 : (c : Int) + 1 = ((c + 1 : Nat) : Int) := rfl
      rw [e2, ih (c + 1) _ (by omega) (by omega) (by rw [ms_ne (by decide), hX]) (by
        rw [ms_ma, ma_same, hXp]
        funext q
        unfold up
        by_cases hq : q = 168 + (c : Int)
        · rw [if_pos hq, if_pos (by omega), hq, show 168 + (c : Int) - 168 = c from by omega]
          rfl
        · rw [if_neg hq]
          show (if 168 ≤ q ∧ q < 168 + (c : Int) then shV w S (q - 168) else f q) = if 168 ≤ q ∧ q < 168 + ((c + 1 : Nat) : Int) then shV w S (q - 168) else f q
          by_cases h2 : 168 ≤ q ∧ q < 168 + (c : Int)
          · rw [if_pos h2, if_pos (by omega)]
          · rw [if_neg h2, if_neg (by omega)]), ms_ma, ma_ma]
theorem sharem_eq {N : Nat} (hN0 : 0 < N) (hN1 : N ≤ 32) {X : Mem} (hN : ishl 1 (X 121 2) = N) (hw : ∀ q : Int, 0 ≤ q → q < 32 → 0 ≤ X 130 q ∧ X 130 q ≤ 2000000000000) : f_X12_sharesOut X = if 0 < sm (X 130) N then some (1, ma X 121 (shM N (X 130) (X 121))) else some (0, X) := by
  have hs := sm_r hw N hN1
  have hm := mx_r (X 130) N
  have h := sharem_7 hN1 hw KF 0 X (by omega) (by rw [KF_eq]; omega) rfl hN
  unfold f_X12_sharesOut
  refine Eq.trans h ?_
  rw [B_X12_sharesOut_56, d2_ok (by omega) (by omega) (by decide) (by decide)]
  by_cases h0 : 0 < sm (X 130) N
  · rw [if_pos (by omega), if_pos h0]
    exact sharem_71 hN1 (by omega) h0 (by omega) hw (X 121) hN KF 0 X (by omega) (by rw [KF_eq]; omega) rfl (funext fun q => (if_neg (by omega)).symm)
  · rw [if_neg (by omega), if_neg h0]
/-- beyond the sets nothing weighs: 32 or N, it's all one -/
theorem sm_ext {v w : Int → Int} : ∀ c : Nat, (∀ q : Int, 0 ≤ q → q < c → v q = w q) → sm v c = sm w c
  | 0, _ => rfl
  | c + 1, h => by
    show sm v c + v c = sm w c + w c
    rw [sm_ext c (fun q h0 h1 => h q h0 (by omega)), h c (by omega) (by omega)]
theorem mx_ext {v w : Int → Int} : ∀ c : Nat, (∀ q : Int, 0 ≤ q → q < c → v q = w q) → mx v c = mx w c
  | 0, _ => rfl
  | c + 1, h => by
    have e := mx_ext c (fun q h0 h1 => h q h0 (by omega))
    have hm := mx_r w c
    show (if v c ≤ v (mx v c) then mx v c else c) = if w c ≤ w (mx w c) then mx w c else c
    rw [e, h c (by omega) (by omega), h (mx w c) hm.1 (by omega)]
theorem sm_beyond {w : Int → Int} {N : Nat} : ∀ d : Nat, (∀ q : Int, (N : Int) ≤ q → w q = 0) → sm w (N + d) = sm w N
  | 0, _ => rfl
  | d + 1, h => by
    show sm w (N + d) + w ((N + d : Nat) : Int) = _
    rw [sm_beyond d h, h _ (by omega), Int.add_zero]
theorem mx_beyond {w : Int → Int} {N : Nat} (hN : 0 < N) (h0 : ∀ q : Int, 0 ≤ q → 0 ≤ w q) : ∀ d : Nat, (∀ q : Int, (N : Int) ≤ q → w q = 0) → mx w (N + d) = mx w N
  | 0, _ => rfl
  | d + 1, h => by
    have e := mx_beyond hN h0 d h
    have hm := mx_r w N
    show (if w ((N + d : Nat) : Int) ≤ w (mx w (N + d)) then mx w (N + d) else ((N + d : Nat) : Int)) = _
    rw [e, h _ (by omega), if_pos (h0 _ hm.1)]
