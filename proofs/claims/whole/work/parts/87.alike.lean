/-! the first thought, alike -/
theorem shFM {ch f g h : Int → Int} (hch : ∀ b : Int, 0 ≤ b → b < 5 → 0 ≤ ch b ∧ ch b ≤ 16) {m : Nat} (hm : m ≤ 5) (q : Int) (q0 : 0 ≤ q) (q1 : q < ((2 ^ m : Nat) : Int)) : shF (wF ch m (2 ^ m)) f q = shM (2 ^ m) (wG ch m (2 ^ m) g) h (168 + q) := by
  have h32 : 2 ^ m ≤ 32 ∧ 0 < 2 ^ m := by rcases show m = 0 ∨ m = 1 ∨ m = 2 ∨ m = 3 ∨ m = 4 ∨ m = 5 by omega with rfl | rfl | rfl | rfl | rfl | rfl <;> decide
  obtain ⟨e1, e2⟩ := wFG (f := g) hch hm
  have e : ∀ q : Int, 0 ≤ q → q < ((2 ^ m : Nat) : Int) → wF ch m (2 ^ m) q = wG ch m (2 ^ m) g q := fun q h0 h1 => by
    unfold wF wG
    rw [if_pos ⟨h0, h1⟩, if_pos ⟨h0, h1⟩]
  have z : ∀ S q : Int, ((2 ^ m : Nat) : Int) ≤ q → shV (wF ch m (2 ^ m)) S q = 0 := fun S q h => by
    unfold shV
    rw [show wF ch m (2 ^ m) q = 0 from if_neg (by omega), Int.zero_mul, Int.zero_ediv]
  have e3 : ∀ S : Int, sm (shV (wF ch m (2 ^ m)) S) 32 = sm (shV (wG ch m (2 ^ m) g) S) (2 ^ m) := fun S => by
    have hd : (32 : Nat) = 2 ^ m + (32 - 2 ^ m) := by omega
    rw [hd, sm_beyond _ (z S)]
    exact sm_ext _ (fun q h0 h1 => by
      unfold shV
      rw [e q h0 h1])
  unfold shF shM
  rw [if_pos (show 0 ≤ q ∧ q < 32 from ⟨q0, by omega⟩), if_pos (show 168 ≤ 168 + q ∧ 168 + q < 168 + ((2 ^ m : Nat) : Int) from ⟨by omega, by omega⟩), show 168 + q - 168 = q from by omega, e1, e2, e3]
  unfold shV
  rw [e q q0 q1]
/-- beyond the sets nothing is thought -/
theorem shF_beyond {ch f : Int → Int} (hch : ∀ b : Int, 0 ≤ b → b < 5 → 0 ≤ ch b ∧ ch b ≤ 16) {m : Nat} (hm : m ≤ 5) (q : Int) (q0 : ((2 ^ m : Nat) : Int) ≤ q) (q1 : q < 32) : shF (wF ch m (2 ^ m)) f q = 0 := by
  obtain ⟨-, e2⟩ := wFG (f := f) hch hm
  have hr := mx_r (wG ch m (2 ^ m) f) (2 ^ m)
  have h0 : 0 < 2 ^ m := Nat.pow_pos (by decide)
  unfold shF shV
  rw [if_pos ⟨by omega, q1⟩, e2, if_neg (by omega), show wF ch m (2 ^ m) q = 0 from if_neg (by omega), Int.zero_mul, Int.zero_ediv, Int.add_zero]
/-- the shares are a million together -/
theorem sm_up {v : Int → Int} {b d : Int} (hb : 0 ≤ b) : ∀ c : Nat, sm (fun q => v q + (if q = b then d else 0)) c = sm v c + (if b < c then d else 0)
  | 0 => by
    show (0 : Int) = 0 + _
    rw [if_neg (by omega)]
    rfl
  | c + 1 => by
    show sm _ c + (v c + (if (c : Int) = b then d else 0)) = sm v c + v c + _
    rw [sm_up hb c]
    by_cases h : (c : Int) = b
    · rw [if_pos h, if_neg (by omega), if_pos (by omega)]
      omega
    · rw [if_neg h]
      by_cases h2 : b < (c : Int)
      · rw [if_pos h2, if_pos (by omega)]
        omega
      · rw [if_neg h2, if_neg (by omega)]
        omega
theorem shF_sum {w f : Int → Int} : sm (shF w f) 32 = 1000000 := by
  have hr := mx_r w 32
  have e : sm (shF w f) 32 = sm (fun q => shV w (sm w 32) q + (if q = mx w 32 then 1000000 - sm (shV w (sm w 32)) 32 else 0)) 32 := sm_ext 32 (fun q h0 h1 => if_pos ⟨h0, h1⟩)
  rw [e, sm_up hr.1, if_pos (by omega)]
  omega
