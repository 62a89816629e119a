/-! a day waited in a play -/
theorem xr_f : ∀ (m : Fin 6) (b : Fin 5) (s : Fin 32), b.val < m.val → s.val < 2 ^ m.val → 0 ≤ ix (s.val : Int) (ishl 1 (b.val : Int)) ∧ ix (s.val : Int) (ishl 1 (b.val : Int)) < ((2 ^ m.val : Nat) : Int) := by decide +kernel
theorem xr {A : Int → Int} {b s : Int} (hA : 0 ≤ A 2 ∧ A 2 ≤ 5) (b0 : 0 ≤ b) (b1 : b < A 2) (s0 : 0 ≤ s) (s1 : s < NS A) : 0 ≤ ix s (ishl 1 b) ∧ ix s (ishl 1 b) < NS A := by
  obtain ⟨n1, n2, n3⟩ := NS_v hA
  have hN := NS_r hA
  rw [n1] at s1 ⊢
  obtain ⟨bf, rfl⟩ := fin5 b0 (by omega)
  obtain ⟨sf, rfl⟩ := fin32 s0 (by omega)
  exact xr_f ⟨(A 2).toNat, by omega⟩ bf sf (by show bf.val < (A 2).toNat; omega) (by exact Int.ofNat_lt.mp s1)
theorem GI.truth {A s P : Int → Int} {v : Int} (h : GI A s P) (v0 : 0 ≤ v ∧ v < NS A) : GI A (up s 4 v) P := by
  unfold GI
  rw [up_ne (by decide), up_ne (by decide), up_ne (by decide), up_ne (by decide), up_ne (by decide), up_same, up_ne (by decide), up_ne (by decide), up_ne (by decide)]
  obtain ⟨h1, h2, h3, h4, h5, h6, h7, h8⟩ := h
  exact ⟨h1, h2, h3, h4, v0, h6, h7, h8⟩
theorem bars_both {X0 : Mem} {r u f t : Int} {A P T : Int → Int} (hB : BD A) (hr : r ∈ RIV) (hR : RV X0 r A) : ∀ (k : Nat) (b : Int) (s : Int → Int) (X : Mem), 0 ≤ b → b ≤ A 2 → (A 2 - b).toNat < k → GX X0 r u f t s P T X → GI A s P →
    ∃ (s' : Int → Int) (X' : Mem), L_X0_waitDay_34 k b X = B_X0_waitDay_117 X' ∧ GX X0 r u f t s' P T X' ∧ GI A s' P ∧ (∀ j : Int, j ≠ 4 → j ≠ 11 → s' j = s j) ∧ ∀ (Z0 Z : Mem) (cn : Int), GZ Z0 cn A s P T Z → ∃ Z' : Mem, L_X12_waits_24 k b Z = B_X12_waits_93 Z' ∧ GZ Z0 cn A s' P T Z' := by
  have hA := hB.2.1
  have hrr := RIV_r hr
  have hbj := hB.2.2.2.2.2.2.2.2.2.2.2.2.2.2.2.1
  intro k
  induction k with
  | zero => intro b s X _ _ h; omega
  | succ k ih =>
    intro b s X b0 b1 hk hX hI
    have hRX := hX.rv hr hR
    have e2 : X r 2 = A 2 := hRX.1.2.2.1
    have ez2 : ∀ (Z0 Z : Mem) (cn : Int) (s : Int → Int), GZ Z0 cn A s P T Z → Z 121 2 = A 2 := fun Z0 Z cn s hZ => hZ.2.2.1.1 2 (by decide) (by decide) (by decide)
    by_cases g : A 2 ≤ b
    · refine ⟨s, X, ?_, hX, hI, fun _ _ _ => rfl, fun Z0 Z cn hZ => ⟨Z, ?_, hZ⟩⟩
      · rw [L_X0_waitDay_34, hX.r, cm_ok hr, e2, c2_ok (by omega) (by omega) (by omega) (by omega), if_pos g]
      · rw [L_X12_waits_24, ax_ok (n := 2200) (by decide) (by decide), ez2 Z0 Z cn s hZ, c2_ok (by omega) (by omega) (by omega) (by omega), if_pos g]
    · obtain ⟨d, v, d1, d2, d3, d4, d5⟩ := draw_both hX hI (n := 16) (by decide) (by decide)
      have hRY := d3.rv hr hR
      have hv := hRY.2.2.2.2.1 b b0 (by omega)
      have hg := hbj (28 + 4 * b + 2) (by omega) (by omega)
      have hc := hbj (28 + 4 * b + 3) (by omega) (by omega)
      have t4 : X 56 4 = s 4 := hX.2.2.1 4 (by decide) (by decide)
      have t4' : ms X 55 11 v 56 4 = s 4 := by rw [ms_ne (by decide)]; exact t4
      have hi := ia_I (ishr (s 4) b) 1
      -- the end of one turn
      have key : ∀ (w lim lc : Int), (lim = A (28 + 4 * b + 2) ∨ lim = A (28 + 4 * b + 3)) → (∀ go : Int → Mem → Option (Int × Mem), B_X0_waitDay_64 go b w X = B_X0_waitDay_96 go b lim d (ms X 55 11 v)) → (∀ (Z0 Z : Mem) (cn : Int), GZ Z0 cn A s P T Z → ∀ go : Int → Mem → Option (Int × Mem), B_X12_waits_51 go b w Z = (c2 d lim <| if lim ≤ d then go (b + 1) (ms Z 120 41 v) else go (b + 1) (ms (ms Z 120 41 v) 120 42 (ix (s 4) (ishl 1 b))))) →
          ∃ (s' : Int → Int) (X' : Mem), B_X0_waitDay_64 (fun x1 X => L_X0_waitDay_34 k x1 X) b w X = B_X0_waitDay_117 X' ∧ GX X0 r u f t s' P T X' ∧ GI A s' P ∧ (∀ j : Int, j ≠ 4 → j ≠ 11 → s' j = s j) ∧ ∀ (Z0 Z : Mem) (cn : Int), GZ Z0 cn A s P T Z → ∃ Z' : Mem, B_X12_waits_51 (fun x1 X => L_X12_waits_24 k x1 X) b w Z = B_X12_waits_93 Z' ∧ GZ Z0 cn A s' P T Z' := fun w lim lc hl h1 h2 => by
        rw [h1, B_X0_waitDay_96]
        by_cases gl : lim ≤ d
        · obtain ⟨s', X', i1, i2, i3, i4, i5⟩ := ih (b + 1) _ _ (by omega) (by omega) (by omega) d3 d4
          refine ⟨s', X', ?_, i2, i3, fun j j1 j2 => by rw [i4 j j1 j2, up_ne j2], fun Z0 Z cn hZ => ?_⟩
          · rw [c2_ok (by omega) (by omega) (by omega) (by omega), if_pos gl, B_X0_waitDay_111]
            exact i1
          · obtain ⟨Z', z1, z2⟩ := i5 Z0 _ cn (d5 Z0 Z cn hZ).2
            refine ⟨Z', ?_, z2⟩
            rw [h2 Z0 Z cn hZ, c2_ok (by omega) (by omega) (by omega) (by omega), if_pos gl]
            exact z1
        · obtain ⟨s', X', i1, i2, i3, i4, i5⟩ := ih (b + 1) _ _ (by omega) (by omega) (by omega) (d3.told (j := 4) (v := ix (s 4) (ishl 1 b)) (by decide) (by decide)) (d4.truth (xr hA b0 (by omega) hI.2.2.2.2.1.1 hI.2.2.2.2.1.2))
          refine ⟨s', X', ?_, i2, i3, fun j j1 j2 => by rw [i4 j j1 j2, up_ne j1, up_ne j2], fun Z0 Z cn hZ => ?_⟩
          · rw [c2_ok (by omega) (by omega) (by omega) (by omega), if_neg gl, ax_ok (n := 7) (by decide) (by decide), ax_ok (n := 7) (by decide) (by decide), bd_eq, B_X0_waitDay_111, t4']
            exact i1
          · obtain ⟨Z', z1, z2⟩ := i5 Z0 _ cn ((d5 Z0 Z cn hZ).2.one (k := 42) (j := 4) (v := ix (s 4) (ishl 1 b)) (by decide))
            refine ⟨Z', ?_, z2⟩
            rw [h2 Z0 Z cn hZ, c2_ok (by omega) (by omega) (by omega) (by omega), if_neg gl]
            exact z1
      have hz : ∀ (Z0 Z : Mem) (cn : Int), GZ Z0 cn A s P T Z → ∀ j : Int, 0 ≤ j → j < 4 → ms Z 120 41 v 121 (28 + 4 * b + j) = A (28 + 4 * b + j) ∧ ms Z 120 41 v 120 42 = s 4 := fun Z0 Z cn hZ j j0 j1 => by
        rw [ms_ne (by decide), ms_at, if_neg (by decide)]
        exact ⟨hZ.2.2.1.1 _ (by omega) (by omega) (by omega), hZ.1.2.1⟩
      by_cases gi : ia (ishr (s 4) b) 1 = 1
      · obtain ⟨s', X', k1, k2, k3, k4, k5⟩ := key 1 (A (28 + 4 * b + 2)) 0 (Or.inl rfl) (fun go => by
          rw [B_X0_waitDay_64, d1, cl_some, c1_okk (by decide) (by decide), if_neg (by decide), d3.r, cm_ok hr, ax_ok (n := 5) b0 (by omega), hv.2.2.1]) (fun Z0 Z cn hZ go => by
          rw [B_X12_waits_51, (d5 Z0 Z cn hZ).1, cl_some, c1_okk (by decide) (by decide), if_neg (by decide), B_X12_waits_69, ofBar_eq b0 (by omega) (by decide) (by decide), cl_some, (hz Z0 Z cn hZ 2 (by decide) (by decide)).1, bd_eq, (hz Z0 Z cn hZ 2 (by decide) (by decide)).2]
          rfl)
        refine ⟨s', X', ?_, k2, k3, k4, fun Z0 Z cn hZ => ?_⟩
        · rw [L_X0_waitDay_34, hX.r, cm_ok hr, e2, c2_ok (by omega) (by omega) (by omega) (by omega), if_neg g, ax_ok (n := 7) (by decide) (by decide), t4, c2_ok hi.1 hi.2 (by decide) (by decide), if_neg (by simpa using gi)]
          exact k1
        · obtain ⟨Z', z1, z2⟩ := k5 Z0 Z cn hZ
          refine ⟨Z', ?_, z2⟩
          rw [L_X12_waits_24, ax_ok (n := 2200) (by decide) (by decide), ez2 Z0 Z cn s hZ, c2_ok (by omega) (by omega) (by omega) (by omega), if_neg g, hZ.1.2.1, c2_ok hi.1 hi.2 (by decide) (by decide), if_neg (by simpa using gi)]
          exact z1
      · obtain ⟨s', X', k1, k2, k3, k4, k5⟩ := key 0 (A (28 + 4 * b + 3)) 0 (Or.inr rfl) (fun go => by
          rw [B_X0_waitDay_64, d1, cl_some, c1_okk (by decide) (by decide), if_pos rfl, d3.r, cm_ok hr, ax_ok (n := 5) b0 (by omega), hv.2.2.2]) (fun Z0 Z cn hZ go => by
          rw [B_X12_waits_51, (d5 Z0 Z cn hZ).1, cl_some, c1_okk (by decide) (by decide), if_pos rfl, B_X12_waits_69, ofBar_eq b0 (by omega) (by decide) (by decide), cl_some, (hz Z0 Z cn hZ 3 (by decide) (by decide)).1, bd_eq, (hz Z0 Z cn hZ 3 (by decide) (by decide)).2]
          rfl)
        refine ⟨s', X', ?_, k2, k3, k4, fun Z0 Z cn hZ => ?_⟩
        · rw [L_X0_waitDay_34, hX.r, cm_ok hr, e2, c2_ok (by omega) (by omega) (by omega) (by omega), if_neg g, ax_ok (n := 7) (by decide) (by decide), t4, c2_ok hi.1 hi.2 (by decide) (by decide), if_pos gi]
          exact k1
        · obtain ⟨Z', z1, z2⟩ := k5 Z0 Z cn hZ
          refine ⟨Z', ?_, z2⟩
          rw [L_X12_waits_24, ax_ok (n := 2200) (by decide) (by decide), ez2 Z0 Z cn s hZ, c2_ok (by omega) (by omega) (by omega) (by omega), if_neg g, hZ.1.2.1, c2_ok hi.1 hi.2 (by decide) (by decide), if_pos gi]
          exact z1
