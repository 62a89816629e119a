/-! shares lie between 0 and a million -/
theorem sm_fl {w : Int → Int} {S : Int} (hS : 0 < S) : ∀ c : Nat, S * sm (shV w S) c ≤ 1000000 * sm w c
  | 0 => by
    show S * 0 ≤ 1000000 * 0
    omega
  | c + 1 => by
    have h1 := sm_fl (w := w) hS c
    have h2 : S * (w c * 1000000 / S) ≤ w c * 1000000 := Int.mul_ediv_self_le (by omega)
    show S * (sm (shV w S) c + w c * 1000000 / S) ≤ 1000000 * (sm w c + w c)
    rw [Int.mul_add, Int.mul_add]
    omega
theorem shV_sum {w : Int → Int} (hS : 0 < sm w 32) : sm (shV w (sm w 32)) 32 ≤ 1000000 := by
  have h := sm_fl (w := w) hS 32
  rw [Int.mul_comm 1000000] at h
  exact Int.le_of_mul_le_mul_left h hS
theorem sm_nn {v : Int → Int} : ∀ c : Nat, (∀ q : Nat, q < c → 0 ≤ v q) → 0 ≤ sm v c
  | 0, _ => Int.le_refl _
  | c + 1, h => by
    have h1 := sm_nn c (fun q hq => h q (by omega))
    have h2 := h c (by omega)
    show 0 ≤ sm v c + v c
    omega
theorem sm_le {v : Int → Int} : ∀ c : Nat, (∀ q : Nat, q < c → 0 ≤ v q) → ∀ x : Nat, x < c → v x ≤ sm v c
  | 0, _, _, h => absurd h (by omega)
  | c + 1, h, x, hx => by
    have h1 := sm_nn c (fun q hq => h q (by omega))
    have h2 := h c (by omega)
    show v x ≤ sm v c + v c
    by_cases e : x = c
    · subst e
      omega
    · have := sm_le c (fun q hq => h q (by omega)) x (by omega)
      omega
theorem shF_r {w f : Int → Int} (hS : 0 < sm w 32) (hw : ∀ q : Int, 0 ≤ q → q < 32 → 0 ≤ w q) (q : Nat) (hq : q < 32) : 0 ≤ shF w f q ∧ shF w f q ≤ 1000000 := by
  have h0 : ∀ q : Nat, q < 32 → 0 ≤ shF w f q := by
    intro q hq
    unfold shF
    rw [if_pos ⟨by omega, by omega⟩]
    have h1 : 0 ≤ shV w (sm w 32) q := Int.ediv_nonneg (Int.mul_nonneg (hw q (by omega) (by omega)) (by decide)) (by omega)
    have h2 := shV_sum hS
    split <;> omega
  refine ⟨h0 q hq, ?_⟩
  have := sm_le 32 h0 q hq
  rw [shF_sum] at this
  exact this
