/-! sharing a million out by weights -/
def sm (w : Int → Int) : Nat → Int
  | 0 => 0
  | c + 1 => sm w c + w c
def mx (w : Int → Int) : Nat → Int
  | 0 => 0
  | c + 1 => if w c ≤ w (mx w c) then mx w c else c
theorem mx_r (w : Int → Int) : ∀ c : Nat, 0 ≤ mx w c ∧ (mx w c = 0 ∨ mx w c < c)
  | 0 => ⟨Int.le_refl _, Or.inl rfl⟩
  | c + 1 => by
    have h := mx_r w c
    unfold mx
    split <;> omega
theorem sm_r {w : Int → Int} {B : Int} (hw : ∀ q : Int, 0 ≤ q → q < 32 → 0 ≤ w q ∧ w q ≤ B) : ∀ c : Nat, c ≤ 32 → 0 ≤ sm w c ∧ sm w c ≤ B * c
  | 0, _ => ⟨Int.le_refl _, by simp [sm]⟩
  | c + 1, hc => by
    have h := sm_r hw c (by omega)
    have h2 := hw c (by omega) (by omega)
    unfold sm
    have e : B * ((c + 1 : Nat) : Int) = B * (c : Int) + B := by
      rw [show ((c + 1 : Nat) : Int) = (c : Int) + 1 from rfl, Int.mul_add, Int.mul_one]
    omega
theorem share_8 {p : Int} {w : Int → Int} (hw : ∀ q : Int, 0 ≤ q → q < 32 → 0 ≤ w q ∧ w q ≤ 2000000000000) : ∀ (k c : Nat) (X : Mem), c ≤ 32 → 32 - c < k → X 41 = w → L_X9_shareOut_8 k p (sm w c) (mx w c) c X = B_X9_shareOut_53 p (sm w 32) (mx w 32) X := by
  intro k
  induction k with
  | zero => intro c X _ h; omega
  | succ k ih =>
    intro c X hc hk hX
    rw [L_X9_shareOut_8, c2_ok (by omega) (by omega) (by decide) (by decide)]
    by_cases h : 32 ≤ (c : Int)
    · rw [if_pos h, show c = 32 by omega]
    · have hm := mx_r w c
      have h1 := hw c (by omega) (by omega)
      have h2 := hw (mx w c) (by omega) (by omega)
      rw [if_neg h, ax_ok (by omega) (by omega), bd_eq, ax_ok (by omega) (by omega), ax_ok (by omega) (by omega), hX, d2_ok (by omega) (by omega) (by omega) (by omega)]
      have e1 : sm w c + w c = sm w (c + 1) := rfl
      have e2 : (c : Int) + 1 = ((c + 1 : Nat) : Int) := rfl
      by_cases h3 : w c ≤ w (mx w c)
      · have e3 : mx w c = mx w (c + 1) := by
          show _ = if w c ≤ w (mx w c) then mx w c else c
          rw [if_pos h3]
        rw [if_pos h3, B_X9_shareOut_47, e1, e2, e3]
        exact ih (c + 1) X (by omega) (by omega) hX
      · have e3 : (c : Int) = mx w (c + 1) := by
          show _ = if w c ≤ w (mx w c) then mx w c else c
          rw [if_neg h3]
        rw [if_neg h3, B_X9_shareOut_47, e1, e2]
        conv => lhs; arg 4; rw [e3]
        exact ih (c + 1) X (by omega) (by omega) hX
/-- each share rounded down -/
def shV (w : Int → Int) (S : Int) : Int → Int := fun q => w q * 1000000 / S
theorem shV_r {w : Int → Int} {S : Int} (hS : 0 < S) (hw : ∀ q : Int, 0 ≤ q → q < 32 → 0 ≤ w q ∧ w q ≤ 2000000000000) {q : Int} (h0 : 0 ≤ q) (h1 : q < 32) : 0 ≤ shV w S q ∧ shV w S q ≤ 2000000000000000000 := by
  have h := hw q h0 h1
  refine ⟨Int.ediv_nonneg (by omega) (by omega), ?_⟩
  refine Int.le_trans (Int.ediv_le_self _ (by omega)) (by omega)
/-- the row of shares: the first of the greatest gets what is left -/
def shF (w : Int → Int) (f : Int → Int) : Int → Int := fun q => if 0 ≤ q ∧ q < 32 then shV w (sm w 32) q + (if q = mx w 32 then 1000000 - sm (shV w (sm w 32)) 32 else 0) else f q
theorem share_69 {p : Int} (hp : p ≠ 41) {w : Int → Int} {S b : Int} (hb : 0 ≤ b ∧ b < 32) (hS : 0 < S) (hS2 : S ≤ 64000000000000) (hw : ∀ q : Int, 0 ≤ q → q < 32 → 0 ≤ w q ∧ w q ≤ 2000000000000) (f : Int → Int) : ∀ (k c : Nat) (X : Mem), c ≤ 32 → 32 - c < k → X 41 = w → (X p = fun q : Int => if 0 ≤ q ∧ q < (c : Int) then shV w S q else f q) →
    L_X9_shareOut_69 k p S b (1000000 - sm (shV w S) c) c X = some (1, ma X p (fun q => if 0 ≤ q ∧ q < 32 then shV w S q + (if q = b then 1000000 - sm (shV w S) 32 else 0) else f q)) := by
  intro k
  induction k with
  | zero => intro c X _ h; omega
  | succ k ih =>
    intro c X hc hk hX hXp
    rw [L_X9_shareOut_69, c2_ok (by omega) (by omega) (by decide) (by decide)]
    by_cases h : 32 ≤ (c : Int)
    · have e : c = 32 := by omega
      subst e
      rw [if_pos h, B_X9_shareOut_108, ax_ok hb.1 hb.2, ax_ok hb.1 hb.2, bd_eq, ms_ma]
      refine congrArg (fun g => some ((1 : Int), ma X p g)) (funext fun q => ?_)
      unfold up
      rw [hXp]
      by_cases hq : q = b
      · subst hq
        rw [if_pos rfl]
        show (if 0 ≤ q ∧ q < ((32 : Nat) : Int) then shV w S q else f q) + _ = _
        rw [if_pos (by omega), if_pos (by omega), if_pos rfl]
      · rw [if_neg hq]
        show (if 0 ≤ q ∧ q < ((32 : Nat) : Int) then shV w S q else f q) = _
        by_cases h2 : 0 ≤ q ∧ q < 32
        · rw [if_pos (by omega), if_pos h2, if_neg hq, Int.add_zero]
        · rw [if_neg (by omega), if_neg h2]
    · have h1 := hw c (by omega) (by omega)
      rw [if_neg h, ax_ok (by omega) (by omega), hX, dd_ok (by omega) (by omega) hS (by omega), ax_ok (by omega) (by omega), bd_eq, ax_ok (by omega) (by omega), bd_eq]
      have e0 : ms X p c (w c * 1000000 / S) p c = shV w S c := ms_s
      rw [e0, show 1000000 - sm (shV w S) c - shV w S c = 1000000 - sm (shV w S) (c + 1) from by
        show _ = 1000000 - (sm (shV w S) c + shV w S c)
        omega]
      have e2 : (c : Int) + 1 = ((c + 1 : Nat) : Int) := rfl
      rw [e2, ih (c + 1) _ (by omega) (by omega) (by rw [ms_ne (fun e => hp e.symm), hX]) (by
        rw [ms_ma, ma_same, hXp]
        funext q
        unfold up
        by_cases hq : q = c
        · rw [if_pos hq, if_pos (by omega), hq]
          rfl
        · rw [if_neg hq]
          show (if 0 ≤ q ∧ q < (c : Int) then shV w S q else f q) = if 0 ≤ q ∧ q < ((c + 1 : Nat) : Int) then shV w S q else f q
          by_cases h2 : 0 ≤ q ∧ q < (c : Int)
          · rw [if_pos h2, if_pos (by omega)]
          · rw [if_neg h2, if_neg (by omega)]), ms_ma, ma_ma]
theorem share_eq {p : Int} (hp : p ≠ 41) {X : Mem} (hw : ∀ q : Int, 0 ≤ q → q < 32 → 0 ≤ X 41 q ∧ X 41 q ≤ 2000000000000) : f_X9_shareOut p X = if 0 < sm (X 41) 32 then some (1, ma X p (shF (X 41) (X p))) else some (0, X) := by
  have hs := sm_r hw 32 (Nat.le_refl _)
  have hm := mx_r (X 41) 32
  have h := share_8 (p := p) hw KF 0 X (by decide) (by rw [KF_eq]; decide) rfl
  unfold f_X9_shareOut
  refine Eq.trans h ?_
  rw [B_X9_shareOut_53, d2_ok (by omega) (by omega) (by decide) (by decide)]
  by_cases h0 : 0 < sm (X 41) 32
  · rw [if_pos h0, if_pos h0]
    exact share_69 hp (by omega) h0 (by omega) hw (X p) KF 0 X (by decide) (by rw [KF_eq]; decide) rfl (funext fun q => (if_neg (by omega)).symm)
  · rw [if_neg h0, if_neg h0]
