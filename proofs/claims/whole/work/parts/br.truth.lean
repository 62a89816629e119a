/-! the truth drawn -/
theorem truth_both {A P : Int → Int} {d : Int} (hA : 0 ≤ A 2 ∧ A 2 ≤ 5) (hP : THr P (NS A)) (d0 : 0 ≤ d ∧ d < 1000) : ∀ (k : Nat) (q a : Int), 0 ≤ q → q < NS A → 0 ≤ a → a ≤ 1000000 * q → (NS A - q).toNat + 1 < k →
    ∃ v : Int, (0 ≤ v ∧ v < NS A) ∧ (∀ X : Mem, X 57 = P → L_X0_drawTruth_24 k d a (NS A - 1) q X = some (v, X)) ∧ ∀ Z : Mem, Z 121 2 = A 2 → (∀ s : Int, 0 ≤ s → s < NS A → Z 121 (168 + s) = P s) → L_X12_drawTruth_18 k d a q Z = some (0, ms Z 120 42 v) := by
  have hN := NS_r hA
  intro k
  induction k with
  | zero => intro q a _ _ _ _ h; omega
  | succ k ih =>
    intro q a q0 q1 a0 a1 hk
    have hp := hP.1 q q0 (by omega)
    have hs : ∀ Z : Mem, Z 121 2 = A 2 → f_X12_sets Z = some (NS A, Z) := fun Z hZ => by
      rw [sets_eq, hZ]
      rfl
    have hz : ∀ Z : Mem, Z 121 2 = A 2 → (∀ s : Int, 0 ≤ s → s < NS A → Z 121 (168 + s) = P s) → L_X12_drawTruth_18 (k + 1) d a q Z = if (a + P q) / 1000 ≤ d then L_X12_drawTruth_18 k d (a + P q) (q + 1) (ms Z 120 42 q) else some (0, ms Z 120 42 q) := fun Z hZ hZs => by
      rw [L_X12_drawTruth_18, hs Z hZ, cl_some, c2_ok (by omega) (by omega) (by omega) (by omega), if_neg (by omega), ax_ok (n := 2200) (by omega) (by omega), hZs q q0 q1, c1_okk (by omega) (by omega), bd_eq, bd_eq, dd_ok (by omega) (by omega) (by decide) (by decide), c1_okk (by omega) (by omega), d2_ok (by omega) (by omega) (by omega) (by omega)]
    by_cases g : NS A - 1 ≤ q
    · refine ⟨NS A - 1, by omega, fun X hX => ?_, fun Z hZ hZs => ?_⟩
      · rw [L_X0_drawTruth_24, c2_ok (by omega) (by omega) (by omega) (by omega), if_pos g]
      · obtain ⟨k, rfl⟩ : ∃ j : Nat, k = j + 1 := ⟨k - 1, by omega⟩
        have eq : q = NS A - 1 := by omega
        rw [hz Z hZ hZs, ← eq]
        split
        · rw [L_X12_drawTruth_18, hs _ (by rw [ms_ne (by decide)]; exact hZ), cl_some, c2_ok (by omega) (by omega) (by omega) (by omega), if_pos (by omega)]
        · rfl
    · have hc : ∀ X : Mem, X 57 = P → L_X0_drawTruth_24 (k + 1) d a (NS A - 1) q X = if (a + P q) / 1000 ≤ d then L_X0_drawTruth_24 k d (a + P q) (NS A - 1) (q + 1) X else some (q, X) := fun X hX => by
        rw [L_X0_drawTruth_24, c2_ok (by omega) (by omega) (by omega) (by omega), if_neg g, ax_ok (n := 32) q0 (by omega), hX, bd_eq, dd_ok (by omega) (by omega) (by decide) (by decide), c1_okk (by omega) (by omega), d2_ok (by omega) (by omega) (by omega) (by omega)]
      by_cases gd : (a + P q) / 1000 ≤ d
      · obtain ⟨v, v1, v2, v3⟩ := ih (q + 1) (a + P q) (by omega) (by omega) (by omega) (by omega) (by omega)
        refine ⟨v, v1, fun X hX => by rw [hc X hX, if_pos gd]; exact v2 X hX, fun Z hZ hZs => ?_⟩
        rw [hz Z hZ hZs, if_pos gd, v3 _ (by rw [ms_ne (by decide)]; exact hZ) (fun s s0 s1 => by rw [ms_ne (by decide)]; exact hZs s s0 s1), ms_ms]
      · exact ⟨q, ⟨q0, q1⟩, fun X hX => by rw [hc X hX, if_neg gd], fun Z hZ hZs => by rw [hz Z hZ hZs, if_neg gd]⟩
