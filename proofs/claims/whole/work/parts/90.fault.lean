/-! fault -/
def RX (X : Mem) : Prop := (inI (X 35 9) ∧ X 120 16 = X 35 9) ∧ (inI (X 35 10) ∧ X 120 17 = X 35 10)
theorem pr_fault {a : Int} (ha : inI a) {X : Mem} (h : RX X) : ∃ r : Int, f_X11_fault a X = some (r, X) ∧ f_X12_fault a X = some (r, X) ∧ inI r := by
  obtain ⟨⟨h1, h2⟩, h3, h4⟩ := h
  unfold f_X11_fault f_X12_fault
  rw [c1_ok ha.1 ha.2, c1_ok ha.1 ha.2, c2_ok ha.1 ha.2 (by decide) (by decide), c2_ok ha.1 ha.2 (by decide) (by decide)]
  by_cases g0 : a = 0
  · exact ⟨X 35 9, by rw [if_neg (by simpa using g0)], by rw [if_neg (by simpa using g0), h2], h1⟩
  · by_cases g1 : a = 1
    · exact ⟨X 35 10, by rw [if_pos g0, if_neg (by simpa using g1)], by rw [if_pos g0, if_neg (by simpa using g1), h4], h3⟩
    · exact ⟨-1, by rw [if_pos g0, if_pos g1], by rw [if_pos g0, if_pos g1], by decide, by decide⟩
