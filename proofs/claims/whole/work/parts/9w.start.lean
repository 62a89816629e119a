/-! the relation at the start -/
def E0 : Mem := xE xI
theorem finN {n : Nat} {a : Int} (a0 : 0 ≤ a) (a1 : a < n) : ∃ x : Fin n, (x.val : Int) = a := ⟨⟨a.toNat, by omega⟩, Int.toNat_of_nonneg a0⟩
theorem e0_pt : ((E0 2 0 = 3 ∧ E0 0 3 = 20) ∧ (E0 2 1 = 13 ∧ E0 0 4 = 30)) ∧ (E0 69 0 = 70 ∧ E0 69 1 = 80) ∧ (E0 86 0 = 87 ∧ E0 86 1 = 97) ∧ (E0 103 0 = 104 ∧ E0 103 1 = 114) := by decide +kernel
theorem e0_rs : (E0 0 16 = 0 ∧ E0 120 2 = 0) ∧ (E0 0 17 = 0 ∧ E0 120 3 = 0) ∧ (E0 0 18 = 1 ∧ E0 120 4 = 1) := by decide +kernel
theorem e0_r : (E0 3 0 = E0 121 0 ∧ E0 3 1 = E0 121 1 ∧ E0 3 2 = E0 121 2 ∧ E0 3 3 = E0 121 5 ∧ E0 3 4 = E0 121 6 ∧ E0 3 5 = E0 121 7 ∧ E0 3 6 = E0 121 8 ∧ E0 3 7 = E0 121 9 ∧ E0 3 8 = E0 121 10 ∧ E0 3 9 = E0 121 11 ∧ E0 3 10 = E0 121 12) := by decide +kernel
theorem e0_a : (E0 121 0 = 0 ∧ E0 121 1 = 0 ∧ E0 121 2 = 0 ∧ E0 121 3 = 0 ∧ E0 121 4 = 0 ∧ (1 ≤ E0 121 5 ∧ E0 121 5 ≤ 20) ∧ (0 ≤ E0 121 6 ∧ E0 121 6 ≤ 9) ∧ (1 ≤ E0 121 7 ∧ E0 121 7 ≤ 99) ∧ (1 ≤ E0 121 8 ∧ E0 121 8 ≤ 99) ∧ (0 ≤ E0 121 9 ∧ E0 121 9 ≤ 99) ∧ (0 ≤ E0 121 10 ∧ E0 121 10 ≤ 999) ∧ (0 ≤ E0 121 11 ∧ E0 121 11 ≤ 16) ∧ (0 ≤ E0 121 12 ∧ E0 121 12 ≤ 16) ∧ (0 ≤ E0 121 13 ∧ E0 121 13 ≤ 12) ∧ E0 121 14 = 0) := by decide +kernel
theorem e0_c : ∀ c : Fin 60, (E0 4 c.val = E0 121 (48 + c.val) ∧ E0 5 c.val = E0 121 (108 + c.val)) ∧ (0 ≤ E0 121 (48 + c.val) ∧ E0 121 (48 + c.val) ≤ 20) ∧ (-1 ≤ E0 121 (108 + c.val) ∧ E0 121 (108 + c.val) < 0) := by decide +kernel
theorem e0_d : ∀ d : Fin 12, E0 6 d.val = stg (E0 121) d.val ∧ (-9 ≤ E0 121 (16 + d.val) ∧ E0 121 (16 + d.val) ≤ 9) := by decide +kernel
theorem e0_b : ∀ b : Fin 5, ((0 ≤ E0 8 b.val ∧ E0 8 b.val ≤ 16) ∧ (0 ≤ E0 9 b.val ∧ E0 9 b.val ≤ 16) ∧ (0 ≤ E0 10 b.val ∧ E0 10 b.val ≤ 16) ∧ (0 ≤ E0 11 b.val ∧ E0 11 b.val ≤ 16)) ∧ ((0 ≤ E0 25 b.val ∧ E0 25 b.val ≤ 16) ∧ (0 ≤ E0 26 b.val ∧ E0 26 b.val ≤ 16) ∧ (0 ≤ E0 27 b.val ∧ E0 27 b.val ≤ 16) ∧ (0 ≤ E0 28 b.val ∧ E0 28 b.val ≤ 16)) := by decide +kernel
theorem e0_j : ∀ j : Fin 20, 0 ≤ E0 121 (28 + j.val) ∧ E0 121 (28 + j.val) ≤ 16 := by decide +kernel
theorem e0_u : E0 13 0 = 0 ∧ E0 2 3 = 0 ∧ E0 2 4 = 0 := by decide +kernel
theorem e0_th : (∀ q : Fin 32, 0 ≤ E0 18 q.val ∧ E0 18 q.val ≤ 1000000) ∧ sm (E0 18) 32 = 1000000 ∧ (∀ q : Fin 32, 1 ≤ q.val → E0 18 q.val = 0) ∧ E0 121 168 = E0 18 0 ∧ NS (E0 121) = 1 := by decide +kernel
theorem e0_m : E0 0 15 = 0 ∧ E0 120 53 = 0 ∧ E0 35 1 = 0 ∧ E0 120 10 = 0 ∧ E0 35 9 = -1 ∧ E0 120 16 = -1 ∧ E0 35 10 = -1 ∧ E0 120 17 = -1 ∧ E0 42 7 = 0 ∧ E0 120 36 = 0 ∧ E0 0 14 = 0 ∧ E0 120 52 = 0 ∧ E0 120 22 = 0 ∧ E0 120 31 = -1 ∧ E0 120 32 = 0 ∧ E0 120 33 = 0 ∧ E0 120 34 = 0 := by decide +kernel
theorem e0_t : ∀ t : Fin 4, E0 (61 + 2 * t.val) 1 = -1 ∧ E0 124 t.val = -1 := by decide +kernel
theorem e0_o : ∀ o : Fin 60, E0 58 o.val = 0 ∧ E0 138 o.val = 0 := by decide +kernel
theorem e0_w : ∀ q : Fin 32, E0 130 q.val = 0 := by decide +kernel
theorem e0_41 (q : Int) : E0 41 q = wF (fun _ => 0) 0 1 q := rfl
