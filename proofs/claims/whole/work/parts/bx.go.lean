/-! going through, in a play -/
theorem ia_f : ∀ a b : Fin 32, 0 ≤ ia (a.val : Int) (b.val : Int) ∧ ia (a.val : Int) (b.val : Int) < 32 := by decide +kernel
theorem bcx_f : ∀ a : Fin 32, 0 ≤ bcx (a.val : Int) ∧ bcx (a.val : Int) ≤ 5 := by decide +kernel
theorem FEW.r {A : Int → Int} {nd f to a v : Int} (h : FEW A nd f to a v) (f0 : 0 ≤ f) (f1 : f < A 0 * A 1) : -1 ≤ v ∧ v ≤ 100000000 := by
  obtain ⟨V, h1, h2⟩ := h
  have h3 := (h1 f f0 f1 8 (by decide) (by decide)).1
  unfold FAR at h2 h3
  rcases h2 with ⟨-, h4, h5⟩ | ⟨-, h5⟩ <;> omega
theorem go_both {X0 X : Mem} {r u f t : Int} {A s P T : Int → Int} (hB : BD A) (h3 : A 3 ≤ 99) (hr : r ∈ RIV) (hR : RV X0 r A) (f0 : 0 ≤ f) (f1 : f < A 0 * A 1) (t0 : 0 ≤ t) (t1 : t < A 0 * A 1) (hX : GX X0 r u f t s P T X) (hI : GI A s P) (hd : s 14 = s 9) :
    ∃ (s' : Int → Int) (v : Int) (X' : Mem), f_X0_goThrough X = some (v, X') ∧ GX X0 r u f t s' P T X' ∧ (0 ≤ v ∧ v ≤ 2) ∧ (∀ j : Int, j ≠ 0 → j ≠ 5 → j ≠ 12 → s' j = s j) ∧ s' 12 = v ∧ (s 0 - 1 ≤ s' 0 ∧ s' 0 ≤ s 0 + 100010000) ∧ (-1 ≤ s' 5 ∧ s' 5 < 32) ∧ ∀ (Z0 Z : Mem) (cn : Int), cn ≤ 1000 → GZ Z0 cn A s P T Z → ∃ Z' : Mem, f_X12_goes f t Z = some (0, Z') ∧ GZ Z0 cn A s' P T Z' := by
  have hA := hB.2.1
  have hN := NS_r hA
  have b3 := hB.2.2.1
  have b4 := hB.2.2.2.1
  have b6 := hB.2.2.2.2.2.1
  have b10 := hB.2.2.2.2.2.2.2.2.2.1
  have hRX := hX.rv hr hR
  have hI0 := hI
  obtain ⟨i1, i2, i3, i4, i5, i6, i7, i8⟩ := hI
  obtain ⟨v, Y1, Y2, k1, k2, k3, k4, k5, k6, k7, k8, k9, k10, k11⟩ := ground_eq (X := X) (d := s 9) (o := s 10) hr hRX hB (by omega) (by omega) (by omega) i4.2 f0 f1 t0 t1
  have hY2 : GX X0 r u f t s P T Y2 := hX.look (fun i hi => k3 i (by omega) (by omega) (by omega) (by omega)) k4
  have y57 : Y2 57 = P := hY2.2.2.2.1
  have y1 : Y1 55 = X 55 := by
    obtain ⟨Y', l1, l2, -⟩ := look_eq (d := s 9) (f := s 10) hr hRX hB (by omega) (by omega)
    have : Y' = Y1 := by
      rw [l1] at k1
      injection k1 with k1
      injection k1
    rw [← this, l2 55 (by decide) (by decide)]
  have ez : ∀ (Z0 Z : Mem) (cn : Int), cn ≤ 1000 → GZ Z0 cn A s P T Z → ∃ (a : Int) (Z1 : Mem), f_X12_surestOf f t Z = some (a, Z1) ∧ GZ Z0 cn A s P T Z1 ∧ ((a = -1 ∧ ∀ b : Int, 0 ≤ b → b < NS A → ¬ WAYP A (A 5 - s 10 - stg A (s 9)) f t b) ∨ SUR A (A 5 - s 10 - stg A (s 9)) f t P a (pS P 0 a) (Z1 134 a)) := fun Z0 Z cn hcn hZ => by
    have hy := hZ.2.2.1
    have hC := hZ.2.2.2.2.2.1
    obtain ⟨a, Z1, s1, s2, s3, s4⟩ := sur_full (Z := Z) (A := A) (B := Z 121) (P := P) (f := f) (to := t) hB rfl hy.1.v hy.2.1 hy.2.2 hC hcn f0 f1 t0 t1
    have eND : ND (Z 121) = A 5 - s 10 - stg A (s 9) := by
      unfold ND
      rw [hy.1 5 (by decide) (by decide) (by decide), hZ.2.1.1, hZ.2.1.2, hd, stg.tx hB hy.1.v (by omega)]
    rw [eND] at s4
    exact ⟨a, Z1, s1, hZ.look s2 s3, s4⟩
  by_cases hw : WAYP A (A 5 - s 10 - stg A (s 9)) f t (NS A - 1)
  · have v1 := k9 hw
    obtain ⟨Y3, a, w, mi, c1', c2', c3', c4', c5', c6', c7', c8'⟩ := choose_eq (p := 57) (w := P) hB f0 f1 t0 t1 k5 k8 (by rw [y57]; exact i8.wt) y57 k6 k7 ⟨NS A - 1, ⟨by omega, by omega⟩, hw⟩
    have hY3 : GX X0 r u f t s P T Y3 := hY2.look (fun i hi => c2' i (by omega) (by omega) (by omega)) (c3' 7 (by decide) (by decide) (by decide))
    have ha := c7'.1
    have hmi := c7'.2.2.2.1.r f0 f1
    have q4 : Y3 56 4 = s 4 := hY3.2.2.1 4 (by decide) (by decide)
    have hia : 0 ≤ ia a (s 4) ∧ ia a (s 4) < 32 := by
      obtain ⟨af, e1⟩ := fin32 ha.1 (by omega)
      obtain ⟨sf, e2⟩ := fin32 i5.1 (by omega)
      rw [← e1, ← e2]
      exact ia_f af sf
    have hbc : 0 ≤ bcx (ia a (s 4)) ∧ bcx (ia a (s 4)) ≤ 5 := by
      obtain ⟨xf, e1⟩ := fin32 hia.1 hia.2
      rw [← e1]
      exact bcx_f xf
    have hlb : 0 ≤ A 10 * bcx (ia a (s 4)) ∧ A 10 * bcx (ia a (s 4)) ≤ 999 * 5 := ⟨Int.mul_nonneg (by omega) hbc.1, Int.mul_le_mul (by omega) hbc.2 hbc.1 (by decide)⟩
    have hX4 := hY3.told (j := 5) (v := a) (by decide) (by decide)
    have hX5 := hX4.told (j := 0) (v := s 0 + (mi + A 10 * bcx (ia a (s 4)))) (by decide) (by decide)
    have q0 : ms Y3 56 5 a 56 0 = s 0 := by rw [ms_at, if_neg (by decide)]; exact hY3.2.2.1 0 (by decide) (by decide)
    have q42 : ms Y3 56 5 a 42 9 = mi := by rw [ms_ne (by decide)]; exact c5'
    have qr : ms Y3 56 5 a r 8 = A 10 := (hX4.rv hr hR).1.2.2.2.2.2.2.2.2.1
    refine ⟨up (up (up s 5 a) 0 (s 0 + (mi + A 10 * bcx (ia a (s 4))))) 12 (if ia a (s 4) = 0 then 0 else 1), if ia a (s 4) = 0 then 0 else 1, _, ?_, hX5.s (fun j j12 _ _ => up_ne j12), ?_, fun j j0 j5 j12 => by rw [up_ne j12, up_ne j0, up_ne j5], up_same, ?_, ?_, fun Z0 Z cn hcn hZ => ?_⟩
    · unfold f_X0_goThrough
      rw [hX.r, cm_ok hr, hX.2.1.1, hX.2.1.2.1, k1, cl_some, y1, hX.1.2.2.1, hX.1.2.2.2, k2, cl_some, v1, c1_okk (by decide) (by decide), if_pos (by decide), c1', cl_some, ax_ok (n := 7) (by decide) (by decide), c4', q4, bd_eq, ax_ok (n := 7) (by decide) (by decide), bd_eq, ax_ok (n := 7) (by decide) (by decide), hX4.r, cm_ok hr, bcx_eq, cl_some, ax_ok (n := 7) (by decide) (by decide), q0, q42, qr, bd_eq, c1_okk (by omega) (by omega)]
      by_cases g : ia a (s 4) = 0
      · rw [if_neg (by simpa using g), if_pos g]
      · rw [if_pos g, if_neg g]
    · split <;> decide
    · rw [up_ne (by decide), up_same]
      omega
    · rw [up_ne (by decide), up_ne (by decide), up_same]
      omega
    · obtain ⟨a', Z1, s1, s2, s3⟩ := ez Z0 Z cn hcn hZ
      rcases s3 with ⟨-, s3⟩ | s3
      · exact absurd hw (s3 _ (by omega) (by omega))
      · have ea : a' = a := SUR_u s3 c7'
        have em : Z1 134 a' = mi := by
          rw [ea]
          rw [ea] at s3
          have h1 := s3.2.2.2.2 a ha.1 ha.2 c7'.2.1
          have h2 := c7'.2.2.2.2 a ha.1 ha.2 c7'.2.1
          have h3 := c7'.2.2.1
          rcases h1 with h1 | ⟨-, h1⟩
          · omega
          · rcases h2 with h2 | ⟨-, h2⟩
            · omega
            · have g1 := h1 mi c7'.2.2.2.1
              have g2 := h2 (Z1 134 a) s3.2.2.2.1
              omega
        have hZ2 := s2.one (k := 47) (j := 5) (v := a) (by decide)
        have hZ3 := hZ2.one (k := 49) (j := 12) (v := 2) (by decide)
        have hZ4 := hZ3.one (k := 43) (j := 0) (v := s 0 + (mi + A 10 * bcx (ia a (s 4)))) (by decide)
        have hZ5 := hZ4.one (k := 49) (j := 12) (v := if ia a (s 4) = 0 then 0 else 1) (by decide)
        have p47 : ms (ms Z1 120 47 a) 120 49 2 120 47 = a := by rw [ms_at, if_neg (by decide), ms_at, if_pos ⟨rfl, rfl⟩]
        have p42 : ms (ms Z1 120 47 a) 120 49 2 120 42 = s 4 := by rw [ms_at, if_neg (by decide), ms_at, if_neg (by decide)]; exact s2.1.2.1
        have p43 : ms (ms Z1 120 47 a) 120 49 2 120 43 = s 0 := by rw [ms_at, if_neg (by decide), ms_at, if_neg (by decide)]; exact s2.1.2.2.1
        have p134 : ms (ms Z1 120 47 a) 120 49 2 134 a = mi := by rw [ms_ne (by decide), ms_ne (by decide), ← em, ea]
        have p10 : ms (ms Z1 120 47 a) 120 49 2 121 10 = A 10 := by rw [ms_ne (by decide), ms_ne (by decide)]; exact s2.2.2.1.1 10 (by decide) (by decide) (by decide)
        have p47' : ms (ms (ms Z1 120 47 a) 120 49 2) 120 43 (s 0 + (mi + A 10 * bcx (ia a (s 4)))) 120 47 = a := by rw [ms_at, if_neg (by decide)]; exact p47
        have p42' : ms (ms (ms Z1 120 47 a) 120 49 2) 120 43 (s 0 + (mi + A 10 * bcx (ia a (s 4)))) 120 42 = s 4 := by rw [ms_at, if_neg (by decide)]; exact p42
        refine ⟨_, ?_, hZ5.s fun j _ _ _ => ?_⟩
        · unfold f_X12_goes
          rw [s1, cl_some, ea, bd_eq, bd_eq, p47, c2_ok (by omega) (by omega) (by decide) (by decide), if_pos (by omega), ax_ok (n := 32) ha.1 (by omega), ax_ok (n := 2200) (by decide) (by decide), p42, bits_eq hia.1 hia.2, cl_some, p43, p134, p10, bd_eq, p47', p42', c1_okk (by omega) (by omega)]
          by_cases g : ia a (s 4) = 0
          · rw [if_neg (by simpa using g), if_pos g]
            rfl
          · rw [if_pos g, if_neg g]
            rfl
        · by_cases j12 : j = 12
          · rw [j12, up_same, up_same]
          · rw [up_ne j12, up_ne j12]
            by_cases j0 : j = 0
            · rw [j0, up_same, up_same]
            · rw [up_ne j0, up_ne j0, up_ne j12]
  · have v0 := k10 hw
    refine ⟨up s 12 2, 2, Y2, ?_, hY2.s (fun j j12 _ _ => up_ne j12), by decide, fun j _ _ j12 => up_ne j12, up_same, ?_, ?_, fun Z0 Z cn hcn hZ => ?_⟩
    · unfold f_X0_goThrough
      rw [hX.r, cm_ok hr, hX.2.1.1, hX.2.1.2.1, k1, cl_some, y1, hX.1.2.2.1, hX.1.2.2.2, k2, cl_some, v0, c1_okk (by decide) (by decide), if_neg (by decide)]
    · rw [up_ne (by decide)]
      omega
    · rw [up_ne (by decide)]
      omega
    · obtain ⟨a, Z1, s1, s2, s3⟩ := ez Z0 Z cn hcn hZ
      rcases s3 with ⟨s3, -⟩ | s3
      · have hZ2 := s2.one (k := 47) (j := 5) (v := -1) (by decide)
        have hZ3 := hZ2.one (k := 49) (j := 12) (v := 2) (by decide)
        refine ⟨_, ?_, hZ3.s fun j _ _ _ => ?_⟩
        · have p47 : ms (ms Z1 120 47 (-1)) 120 49 2 120 47 = -1 := by rw [ms_at, if_neg (by decide), ms_at, if_pos ⟨rfl, rfl⟩]
          unfold f_X12_goes
          rw [s1, cl_some, s3, bd_eq, bd_eq, p47, c2_ok (by decide) (by decide) (by decide) (by decide), if_neg (by decide)]
        · by_cases j12 : j = 12
          · rw [j12, up_same, up_same]
          · rw [up_ne j12, up_ne j12]
            by_cases j5 : j = 5
            · rw [j5, up_same, i6.1]
            · rw [up_ne j5]
      · exact absurd (s3.2.1.sub hB f0 f1 (fix_ex hB (by omega) (by omega) (by omega) i4.2 t0 t1 (by omega) (by omega)) (sub_all hA s3.1.1 s3.1.2)) hw
