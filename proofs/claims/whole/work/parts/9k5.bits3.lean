/-! sets of five: facts of three sets -/
theorem or3 : ∀ s l a : Fin 32, decide (ia (s.val : Int) (io (l.val : Int) (a.val : Int)) = 0) = (decide (ia (s.val : Int) (l.val : Int) = 0) && decide (ia (s.val : Int) (a.val : Int) = 0)) := by decide +kernel
theorem or_r : ∀ (m : Fin 6) (l a : Fin 32), l.val < 2 ^ m.val → a.val < 2 ^ m.val → 0 ≤ io (l.val : Int) (a.val : Int) ∧ io (l.val : Int) (a.val : Int) < ((2 ^ m.val : Nat) : Int) := by decide +kernel
theorem an_r : ∀ (l a : Fin 32), 0 ≤ ia (l.val : Int) (a.val : Int) ∧ ia (l.val : Int) (a.val : Int) ≤ a.val ∧ ia (l.val : Int) (a.val : Int) ≤ l.val := by decide +kernel
theorem or_3 {s l a : Int} (s0 : 0 ≤ s) (s1 : s < 32) (l0 : 0 ≤ l) (l1 : l < 32) (a0 : 0 ≤ a) (a1 : a < 32) : ia s (io l a) = 0 ↔ (ia s l = 0 ∧ ia s a = 0) := by
  obtain ⟨sf, rfl⟩ := fin32 s0 s1
  obtain ⟨lf, rfl⟩ := fin32 l0 l1
  obtain ⟨af, rfl⟩ := fin32 a0 a1
  have h := or3 sf lf af
  rw [← Bool.decide_and] at h
  exact decide_eq_decide.mp h
theorem or_NS {A : Int → Int} {l a : Int} (hA : 0 ≤ A 2 ∧ A 2 ≤ 5) (l0 : 0 ≤ l) (l1 : l < NS A) (a0 : 0 ≤ a) (a1 : a < NS A) : 0 ≤ io l a ∧ io l a < NS A := by
  obtain ⟨n1, n2, n3⟩ := NS_v hA
  have hN := NS_r hA
  obtain ⟨lf, rfl⟩ := fin32 l0 (by omega)
  obtain ⟨af, rfl⟩ := fin32 a0 (by omega)
  have h := or_r ⟨(A 2).toNat, by omega⟩ lf af
  rw [n1] at l1 a1 ⊢
  exact h (Int.ofNat_lt.mp l1) (Int.ofNat_lt.mp a1)
theorem an_32 {l a : Int} (l0 : 0 ≤ l) (l1 : l < 32) (a0 : 0 ≤ a) (a1 : a < 32) : 0 ≤ ia l a ∧ ia l a ≤ a ∧ ia l a ≤ l := by
  obtain ⟨lf, rfl⟩ := fin32 l0 l1
  obtain ⟨af, rfl⟩ := fin32 a0 a1
  exact an_r lf af
