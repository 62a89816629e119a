/-! the class looks its ground over -/
theorem sprd_idx {W H i : Int} {P : Int → Prop} (w0 : 2 ≤ W) (w1 : W ≤ 10) (hP : ∀ t : Int, P t → 0 ≤ t ∧ t < W * H) (i0 : 0 ≤ i) (i1 : i < W * H) :
    ((P i ∨ (P (i + 1) ∧ (i + 1) % W ≠ 0) ∨ (1 ≤ i ∧ P (i - 1) ∧ (i - 1) % W ≠ W - 1)) ∨ (P (i + W) ∨ (P (i + W + 1) ∧ (i + W + 1) % W ≠ 0) ∨ (1 ≤ i + W ∧ P (i + W - 1) ∧ (i + W - 1) % W ≠ W - 1)) ∨ (W ≤ i ∧ (P (i - W) ∨ (P (i - W + 1) ∧ (i - W + 1) % W ≠ 0) ∨ (1 ≤ i - W ∧ P (i - W - 1) ∧ (i - W - 1) % W ≠ W - 1)))) ↔
    ∃ t : Int, P t ∧ (-1 ≤ t % W - i % W ∧ t % W - i % W ≤ 1) ∧ (-1 ≤ t / W - i / W ∧ t / W - i / W ≤ 1) := by
  constructor
  · rintro ((h | ⟨h, e⟩ | ⟨q, h, e⟩) | (h | ⟨h, e⟩ | ⟨q, h, e⟩) | ⟨b, h | ⟨h, e⟩ | ⟨q, h, e⟩⟩)
    all_goals
      refine ⟨_, h, ?_⟩
      have hp := hP _ h
      clear h
      rcases (show W = 2 ∨ W = 3 ∨ W = 4 ∨ W = 5 ∨ W = 6 ∨ W = 7 ∨ W = 8 ∨ W = 9 ∨ W = 10 by omega) with rfl | rfl | rfl | rfl | rfl | rfl | rfl | rfl | rfl <;> omega
  · rintro ⟨t, h, ⟨a1, a2⟩, b1, b2⟩
    have hp := hP t h
    rcases (show t % W = i % W ∨ t % W = i % W + 1 ∨ t % W = i % W - 1 by omega) with dx | dx | dx <;> rcases (show t / W = i / W ∨ t / W = i / W + 1 ∨ t / W = i / W - 1 by omega) with dy | dy | dy
    · have e : i = t := by
        rcases (show W = 2 ∨ W = 3 ∨ W = 4 ∨ W = 5 ∨ W = 6 ∨ W = 7 ∨ W = 8 ∨ W = 9 ∨ W = 10 by omega) with rfl | rfl | rfl | rfl | rfl | rfl | rfl | rfl | rfl <;> omega
      rw [e]
      exact Or.inl (Or.inl h)
    · have e : i + W = t := by
        rcases (show W = 2 ∨ W = 3 ∨ W = 4 ∨ W = 5 ∨ W = 6 ∨ W = 7 ∨ W = 8 ∨ W = 9 ∨ W = 10 by omega) with rfl | rfl | rfl | rfl | rfl | rfl | rfl | rfl | rfl <;> omega
      exact Or.inr (Or.inl (Or.inl (by rw [e]; exact h)))
    · have e : i - W = t ∧ W ≤ i := by
        rcases (show W = 2 ∨ W = 3 ∨ W = 4 ∨ W = 5 ∨ W = 6 ∨ W = 7 ∨ W = 8 ∨ W = 9 ∨ W = 10 by omega) with rfl | rfl | rfl | rfl | rfl | rfl | rfl | rfl | rfl <;> omega
      exact Or.inr (Or.inr ⟨e.2, Or.inl (by rw [e.1]; exact h)⟩)
    · have e : i + 1 = t ∧ t % W ≠ 0 := by
        rcases (show W = 2 ∨ W = 3 ∨ W = 4 ∨ W = 5 ∨ W = 6 ∨ W = 7 ∨ W = 8 ∨ W = 9 ∨ W = 10 by omega) with rfl | rfl | rfl | rfl | rfl | rfl | rfl | rfl | rfl <;> omega
      exact Or.inl (Or.inr (Or.inl (by rw [e.1]; exact ⟨h, e.2⟩)))
    · have e : i + W + 1 = t ∧ t % W ≠ 0 := by
        rcases (show W = 2 ∨ W = 3 ∨ W = 4 ∨ W = 5 ∨ W = 6 ∨ W = 7 ∨ W = 8 ∨ W = 9 ∨ W = 10 by omega) with rfl | rfl | rfl | rfl | rfl | rfl | rfl | rfl | rfl <;> omega
      exact Or.inr (Or.inl (Or.inr (Or.inl (by rw [e.1]; exact ⟨h, e.2⟩))))
    · have e : i - W + 1 = t ∧ t % W ≠ 0 ∧ W ≤ i := by
        rcases (show W = 2 ∨ W = 3 ∨ W = 4 ∨ W = 5 ∨ W = 6 ∨ W = 7 ∨ W = 8 ∨ W = 9 ∨ W = 10 by omega) with rfl | rfl | rfl | rfl | rfl | rfl | rfl | rfl | rfl <;> omega
      exact Or.inr (Or.inr ⟨e.2.2, Or.inr (Or.inl (by rw [e.1]; exact ⟨h, e.2.1⟩))⟩)
    · have e : i - 1 = t ∧ t % W ≠ W - 1 ∧ 1 ≤ i := by
        rcases (show W = 2 ∨ W = 3 ∨ W = 4 ∨ W = 5 ∨ W = 6 ∨ W = 7 ∨ W = 8 ∨ W = 9 ∨ W = 10 by omega) with rfl | rfl | rfl | rfl | rfl | rfl | rfl | rfl | rfl <;> omega
      exact Or.inl (Or.inr (Or.inr (by rw [e.1]; exact ⟨e.2.2, h, e.2.1⟩)))
    · have e : i + W - 1 = t ∧ t % W ≠ W - 1 ∧ 1 ≤ i + W := by
        rcases (show W = 2 ∨ W = 3 ∨ W = 4 ∨ W = 5 ∨ W = 6 ∨ W = 7 ∨ W = 8 ∨ W = 9 ∨ W = 10 by omega) with rfl | rfl | rfl | rfl | rfl | rfl | rfl | rfl | rfl <;> omega
      exact Or.inr (Or.inl (Or.inr (Or.inr (by rw [e.1]; exact ⟨e.2.2, h, e.2.1⟩))))
    · have e : i - W - 1 = t ∧ t % W ≠ W - 1 ∧ W ≤ i ∧ 1 ≤ i - W := by
        rcases (show W = 2 ∨ W = 3 ∨ W = 4 ∨ W = 5 ∨ W = 6 ∨ W = 7 ∨ W = 8 ∨ W = 9 ∨ W = 10 by omega) with rfl | rfl | rfl | rfl | rfl | rfl | rfl | rfl | rfl <;> omega
      exact Or.inr (Or.inr ⟨e.2.2.1, Or.inr (Or.inr (by rw [e.1]; exact ⟨e.2.2.2, h, e.2.1⟩))⟩)
def adj (A : Int → Int) (i t : Int) : Prop := (-1 ≤ t % A 0 - i % A 0 ∧ t % A 0 - i % A 0 ≤ 1) ∧ (-1 ≤ t / A 0 - i / A 0 ∧ t / A 0 - i / A 0 ≤ 1)
theorem adj.symm {A : Int → Int} {i t : Int} (h : adj A i t) : adj A t i := by
  unfold adj at *
  omega
theorem ld_adj {A : Int → Int} (hB : BD A) {c g : Int} (hn : ld A c g ≠ -1) : adj A c (ld A c g) := by
  have hd : (-1 ≤ dxs g ∧ dxs g ≤ 1) ∧ (-1 ≤ dys g ∧ dys g ≤ 1) := by
    unfold dxs dys
    constructor
    · split
      · omega
      · split <;> omega
    · split
      · omega
      · split <;> omega
  unfold adj ld at *
  split at hn
  · rename_i h
    rw [if_pos h, Int.mul_add_ediv_left _ _ (by omega), Int.ediv_eq_zero_of_lt h.1.1 h.1.2, Int.mul_add_emod_self_left, Int.emod_eq_of_lt h.1.1 h.1.2]
    omega
  · exact absurd rfl hn
theorem adj_ld {A : Int → Int} (hB : BD A) {c t : Int} (c0 : 0 ≤ c) (c1 : c < A 0 * A 1) (t0 : 0 ≤ t) (t1 : t < A 0 * A 1) (h : adj A c t) (hne : t ≠ c) : ∃ g : Int, 0 ≤ g ∧ g < 8 ∧ ld A c g = t := by
  obtain ⟨hw, hx, hy, hc⟩ := BD_w hB c0 c1
  obtain ⟨-, tx, ty, ht⟩ := BD_w hB t0 t1
  obtain ⟨⟨a1, a2⟩, b1, b2⟩ := h
  have hg : ∃ g : Int, 0 ≤ g ∧ g < 8 ∧ dxs g = t % A 0 - c % A 0 ∧ dys g = t / A 0 - c / A 0 := by
    obtain ⟨x0, x1, x2, x3, x4, x5, x6, x7⟩ := dx_v
    obtain ⟨y0, y1, y2, y3, y4, y5, y6, y7⟩ := dy_v
    generalize hdx : t % A 0 - c % A 0 = dx at *
    generalize hdy : t / A 0 - c / A 0 = dy at *
    rcases (show dx = 0 ∨ dx = 1 ∨ dx = -1 by omega) with e | e | e <;> rcases (show dy = 0 ∨ dy = 1 ∨ dy = -1 by omega) with f | f | f <;> subst e <;> subst f
    · exfalso
      apply hne
      rw [ht, hc, show t / A 0 = c / A 0 by omega, show t % A 0 = c % A 0 by omega]
    · exact ⟨2, by decide, by decide, x2, y2⟩
    · exact ⟨6, by decide, by decide, x6, y6⟩
    · exact ⟨0, by decide, by decide, x0, y0⟩
    · exact ⟨1, by decide, by decide, x1, y1⟩
    · exact ⟨7, by decide, by decide, x7, y7⟩
    · exact ⟨4, by decide, by decide, x4, y4⟩
    · exact ⟨3, by decide, by decide, x3, y3⟩
    · exact ⟨5, by decide, by decide, x5, y5⟩
  obtain ⟨g, g0, g1, gx, gy⟩ := hg
  refine ⟨g, g0, g1, ?_⟩
  unfold ld
  rw [gx, gy, show c % A 0 + (t % A 0 - c % A 0) = t % A 0 by omega, show c / A 0 + (t / A 0 - c / A 0) = t / A 0 by omega, if_pos ⟨tx, ty⟩]
  exact ht.symm
theorem RIV_r {r : Int} (h : r ∈ RIV) : (3 ≤ r ∧ r ≤ 20) ∨ (70 ≤ r ∧ r ≤ 104) := by
  have : r = 3 ∨ r = 20 ∨ r = 70 ∨ r = 87 ∨ r = 104 := by simpa [RIV] using h
  omega
theorem RV.fr2 {X Y : Mem} {r : Int} {A : Int → Int} (h : RV X r A) (hr : r ∈ RIV) (e : ∀ i : Int, (3 ≤ i ∧ i ≤ 29) ∨ (70 ≤ i ∧ i ≤ 113) → Y i = X i) : RV Y r A := by
  have := RIV_r hr
  exact h.fr fun i a b => e i (by omega)
theorem tk_all {A : Int → Int} (hB : BD A) {c : Int} (c0 : 0 ≤ c) (c1 : c < 60) : tk A c 31 = tk A c (NS A - 1) := by
  obtain ⟨-, h2, -, -, -, -, -, -, -, -, -, -, -, -, -, -, -, ho⟩ := hB
  have ho := ho c c0 c1
  obtain ⟨e1, e2, e3⟩ := NS_v h2
  unfold tk
  split
  · rfl
  · have h := (by decide +kernel : ∀ (m : Fin 6) (b : Fin 5), b.val < m.val → ia (ishr 31 (b.val : Int)) 1 = 1 ∧ ia (ishr (((2 ^ m.val : Nat) : Int) - 1) (b.val : Int)) 1 = 1) ⟨(A 2).toNat, by omega⟩ ⟨(A (108 + c)).toNat, by omega⟩ (by show (A (108 + c)).toNat < (A 2).toNat; omega)
    rw [show (((A (108 + c)).toNat : Nat) : Int) = A (108 + c) from Int.toNat_of_nonneg (by omega)] at h
    rw [h.1, e1, h.2]
/-- the ground of a look -/
def LKP (X Y : Mem) (r st need : Int) : Prop := (∀ i : Int, i ≠ 42 → i ≠ 46 → Y i = X i) ∧ Y 42 11 = r ∧ Y 42 12 = st ∧ Y 42 13 = need ∧ (∀ k : Int, k ≠ 11 → k ≠ 12 → k ≠ 13 → k ≠ 16 → k ≠ 17 → k ≠ 18 → Y 42 k = X 42 k)
theorem kindOf_eq {Y : Mem} {r st need c : Int} {A : Int → Int} (hr : r ∈ RIV) (hR : RV Y r A) (hB : BD A) (h1 : Y 42 11 = r) (h2 : Y 42 12 = st) (h3 : Y 42 13 = need) (s0 : -9 ≤ st ∧ st ≤ 9) (n0 : -100 ≤ need ∧ need ≤ 100) (c0 : 0 ≤ c) (c1 : c < 60) : f_X1_kindOf c Y = some (knd A (need - st) c, Y) := by
  have d1 := dep_r hB (x := 31) c0 c1 s0
  have d2 := dep_r hB (x := 0) c0 c1 s0
  unfold f_X1_kindOf
  rw [h1, h2, cm_ok hr, depthAt_eq hR hB c0 c1, cl_some, h3, c2_ok (by omega) (by omega) (by omega) (by omega), h1, h2, cm_ok hr, depthAt_eq hR hB c0 c1, cl_some, h3, c2_ok (by omega) (by omega) (by omega) (by omega)]
  unfold knd
  rw [← tk_all hB c0 c1]
  unfold dep at *
  by_cases g1 : A (48 + c) + st - tk A c 31 < need
  · rw [if_pos g1, if_neg (show ¬ need - st ≤ A (48 + c) - tk A c 31 by omega)]
    by_cases g2 : A (48 + c) + st - tk A c 0 < need
    · rw [if_pos g2, if_neg (by omega)]
    · rw [if_neg g2, if_pos (by omega)]
  · rw [if_neg g1, if_pos (by omega)]
/-- open cells and those of bars, up to c -/
def OCb (A : Int → Int) (nd : Int) (Y : Mem) (c : Int) : Prop := (∀ i : Nat, i < 64 → (btl (Y 42 16) i = true ↔ (i : Int) < c ∧ knd A nd i = 2)) ∧ (∀ b : Int, 0 ≤ b → b < 5 → ∀ i : Nat, i < 64 → (btl (Y 46 b) i = true ↔ (i : Int) < c ∧ knd A nd i = 1 ∧ A (108 + (i : Int)) = b))
theorem look_51 {X : Mem} {r st need : Int} {A : Int → Int} (hr : r ∈ RIV) (hR : RV X r A) (hB : BD A) (s0 : -9 ≤ st ∧ st ≤ 9) (n0 : -100 ≤ need ∧ need ≤ 100) : ∀ (k c : Nat) (Y : Mem), (c : Int) ≤ A 0 * A 1 → (A 0 * A 1 - c).toNat < k → LKP X Y r st need → OCb A (need - st) Y c → Y 42 17 = 0 →
    ∃ Y' : Mem, L_X1_look_51 k c Y = B_X1_look_137 Y' ∧ LKP X Y' r st need ∧ OCb A (need - st) Y' (A 0 * A 1) ∧ Y' 42 17 = 0 := by
  have hcl := BD_cells hB
  intro k
  induction k with
  | zero => intro c Y _ hk; omega
  | succ k ih =>
    intro c Y hc hk hL hO h17
    obtain ⟨l1, l2, l3, l4, l5⟩ := hL
    have hRY : RV Y r A := hR.fr2 hr fun i h => l1 i (by omega) (by omega)
    have hRY2 := hRY
    obtain ⟨⟨r0, r1, -⟩, -, ro, -⟩ := hRY
    rw [L_X1_look_51, l2, cm_ok hr, show f_X2_cellCount r Y = some (Y r 0 * Y r 1, Y) from rfl, cl_some, r0, r1, c2_ok (by omega) (by omega) (by omega) (by omega)]
    by_cases g : A 0 * A 1 ≤ (c : Int)
    · rw [if_pos g]
      refine ⟨Y, rfl, ⟨l1, l2, l3, l4, l5⟩, ?_, h17⟩
      rw [show A 0 * A 1 = c by omega]
      exact hO
    · have hoB := hB.2.2.2.2.2.2.2.2.2.2.2.2.2.2.2.2.2 c (by omega) (by omega)
      have hB2 := hB.2.1
      have e2 : (c : Int) + 1 = ((c + 1 : Nat) : Int) := rfl
      have hkr : 0 ≤ knd A (need - st) c ∧ knd A (need - st) c ≤ 2 := by unfold knd; split <;> (try split) <;> omega
      obtain ⟨o1, o2⟩ := hO
      rw [if_neg g, kindOf_eq hr hRY2 hB l2 l3 l4 s0 n0 (by omega) (by omega), cl_some, l2, cm_ok hr, ax_ok (by omega) (by omega), bd_eq, ro c (by omega) (by omega), c2_ok (by omega) (by omega) (by omega) (by omega)]
      have fin : ∀ Z : Mem, LKP X Z r st need → OCb A (need - st) Z ((c + 1 : Nat) : Int) → Z 42 17 = 0 → ∃ Y' : Mem, B_X1_look_131 (fun x4 X => L_X1_look_51 k x4 X) c Z = B_X1_look_137 Y' ∧ LKP X Y' r st need ∧ OCb A (need - st) Y' (A 0 * A 1) ∧ Y' 42 17 = 0 := by
        intro Z z1 z2 z3
        rw [B_X1_look_131, e2]
        exact ih (c + 1) Z (by omega) (by omega) z1 z2 z3
      by_cases g2 : knd A (need - st) c = 2
      · rw [if_neg (by simpa using g2), bd_eq]
        refine fin _ ⟨fun i a b => by rw [ms_ne a, l1 i a b], by rw [ms_k (by decide), l2], by rw [ms_k (by decide), l3], by rw [ms_k (by decide), l4], fun k a b d e f h => by rw [ms_k e, l5 k a b d e f h]⟩ ⟨fun i hi => ?_, fun b b0 b1 i hi => ?_⟩ (by rw [ms_k (by decide), h17])
        · rw [ms_s, btl_lo, btl_one (by omega), Bool.or_eq_true, o1 i hi, decide_eq_true_eq]
          by_cases e : i = c
          · subst e
            exact ⟨fun _ => ⟨by omega, g2⟩, fun _ => Or.inr rfl⟩
          · constructor
            · rintro (h | h)
              · exact ⟨by omega, h.2⟩
              · exact absurd h e
            · exact fun h => Or.inl ⟨by omega, h.2⟩
        · rw [ms_ne (by decide), o2 b b0 b1 i hi]
          by_cases e : i = c
          · subst e
            constructor
            · exact fun h => ⟨by omega, h.2⟩
            · exact fun h => absurd h.2.1 (by omega)
          · constructor
            · exact fun h => ⟨by omega, h.2⟩
            · exact fun h => ⟨by omega, h.2⟩
      · rw [if_pos g2, c2_ok (by omega) (by omega) (by omega) (by omega)]
        by_cases g3 : knd A (need - st) c = 1
        · rw [if_neg (by simpa using g3), c2_ok (by omega) (by omega) (by omega) (by omega)]
          have keep : A (108 + (c : Int)) = -1 → OCb A (need - st) Y ((c + 1 : Nat) : Int) := by
            intro hm
            refine ⟨fun i hi => ?_, fun b b0 b1 i hi => ?_⟩
            · rw [o1 i hi]
              by_cases e : i = c
              · subst e
                exact ⟨fun h => absurd h.2 g2, fun h => absurd h.2 g2⟩
              · exact ⟨fun h => ⟨by omega, h.2⟩, fun h => ⟨by omega, h.2⟩⟩
            · rw [o2 b b0 b1 i hi]
              by_cases e : i = c
              · subst e
                exact ⟨fun h => by omega, fun h => by omega⟩
              · exact ⟨fun h => ⟨by omega, h.2⟩, fun h => ⟨by omega, h.2⟩⟩
          by_cases g4 : A (108 + (c : Int)) = -1
          · rw [if_pos g4]
            exact fin Y ⟨l1, l2, l3, l4, l5⟩ (keep g4) h17
          · rw [if_neg g4, ax_ok (by omega) (by omega), ax_ok (by omega) (by omega), bd_eq]
            refine fin _ ⟨fun i a b => by rw [ms_ne b, l1 i a b], by rw [ms_ne (by decide), l2], by rw [ms_ne (by decide), l3], by rw [ms_ne (by decide), l4], fun k a b d e f h => by rw [ms_ne (by decide), l5 k a b d e f h]⟩ ⟨fun i hi => ?_, fun b b0 b1 i hi => ?_⟩ (by rw [ms_ne (by decide), h17])
            · rw [ms_ne (by decide), o1 i hi]
              by_cases e : i = c
              · subst e
                exact ⟨fun h => absurd h.2 g2, fun h => absurd h.2 g2⟩
              · exact ⟨fun h => ⟨by omega, h.2⟩, fun h => ⟨by omega, h.2⟩⟩
            · by_cases eb : b = A (108 + (c : Int))
              · subst eb
                rw [ms_s, btl_lo, btl_one (by omega), Bool.or_eq_true, o2 _ b0 b1 i hi, decide_eq_true_eq]
                by_cases e : i = c
                · subst e
                  exact ⟨fun _ => ⟨by omega, g3, rfl⟩, fun _ => Or.inr rfl⟩
                · constructor
                  · rintro (h | h)
                    · exact ⟨by omega, h.2⟩
                    · exact absurd h e
                  · exact fun h => Or.inl ⟨by omega, h.2⟩
              · rw [ms_k eb, o2 b b0 b1 i hi]
                by_cases e : i = c
                · subst e
                  exact ⟨fun h => ⟨by omega, h.2⟩, fun h => absurd h.2.2.symm eb⟩
                · exact ⟨fun h => ⟨by omega, h.2⟩, fun h => ⟨by omega, h.2⟩⟩
        · rw [if_pos g3]
          refine fin Y ⟨l1, l2, l3, l4, l5⟩ ⟨fun i hi => ?_, fun b b0 b1 i hi => ?_⟩ h17
          · rw [o1 i hi]
            by_cases e : i = c
            · subst e
              exact ⟨fun h => absurd h.2 g2, fun h => absurd h.2 g2⟩
            · exact ⟨fun h => ⟨by omega, h.2⟩, fun h => ⟨by omega, h.2⟩⟩
          · rw [o2 b b0 b1 i hi]
            by_cases e : i = c
            · subst e
              exact ⟨fun h => absurd h.2.1 g3, fun h => absurd h.2.1 g3⟩
            · exact ⟨fun h => ⟨by omega, h.2⟩, fun h => ⟨by omega, h.2⟩⟩
theorem edge_step {w c i : Int} (w0 : 2 ≤ w) (w1 : w ≤ 10) (i0 : 0 ≤ i) (c0 : 0 ≤ c) : ((i % w = 0 ∧ i < c * w) ∨ i = c * w) ↔ (i % w = 0 ∧ i < (c + 1) * w) := by
  rcases (show w = 2 ∨ w = 3 ∨ w = 4 ∨ w = 5 ∨ w = 6 ∨ w = 7 ∨ w = 8 ∨ w = 9 ∨ w = 10 by omega) with rfl | rfl | rfl | rfl | rfl | rfl | rfl | rfl | rfl <;> omega
theorem edge_right {w i n : Int} (w0 : 2 ≤ w) (w1 : w ≤ 10) (i0 : 0 ≤ i) (hn : i < n) : (w - 1 ≤ i ∧ (i - (w - 1)) % w = 0 ∧ i - (w - 1) < n) ↔ i % w = w - 1 := by
  rcases (show w = 2 ∨ w = 3 ∨ w = 4 ∨ w = 5 ∨ w = 6 ∨ w = 7 ∨ w = 8 ∨ w = 9 ∨ w = 10 by omega) with rfl | rfl | rfl | rfl | rfl | rfl | rfl | rfl | rfl <;> omega
/-- edges -/
def EDG (A : Int → Int) (Y : Mem) : Prop := ∀ i : Nat, (i : Int) < A 0 * A 1 → (btl (Y 42 17) i = true ↔ (i : Int) % A 0 = 0) ∧ (btl (Y 42 18) i = true ↔ (i : Int) % A 0 = A 0 - 1)
theorem look_140 {X : Mem} {r st need : Int} {A : Int → Int} (hr : r ∈ RIV) (hR : RV X r A) (hB : BD A) (n0 : 0 < A 0) : ∀ (k c : Nat) (Y : Mem), (c : Int) ≤ A 1 → (A 1 - c).toNat < k → LKP X Y r st need → OCb A (need - st) Y (A 0 * A 1) → (∀ i : Nat, i < 64 → (btl (Y 42 17) i = true ↔ (i : Int) % A 0 = 0 ∧ (i : Int) < c * A 0)) →
    ∃ Y' : Mem, L_X1_look_140 k c Y = some (0, Y') ∧ LKP X Y' r st need ∧ OCb A (need - st) Y' (A 0 * A 1) ∧ EDG A Y' := by
  have hcl := BD_cells hB
  have hw : 2 ≤ A 0 ∧ A 0 ≤ 10 ∧ 2 ≤ A 1 ∧ A 1 ≤ 6 := by
    rcases hB.1 with ⟨h0, h1⟩ | h
    · omega
    · exact h
  intro k
  induction k with
  | zero => intro c Y _ hk; omega
  | succ k ih =>
    intro c Y hc hk hL hO hE
    obtain ⟨l1, l2, l3, l4, l5⟩ := hL
    have hRY : RV Y r A := hR.fr2 hr fun i h => l1 i (by omega) (by omega)
    obtain ⟨⟨r0, r1, -⟩, -⟩ := hRY
    have hcw : (0 : Int) ≤ c * A 0 ∧ (c : Int) * A 0 ≤ A 1 * A 0 := ⟨Int.mul_nonneg (by omega) (by omega), Int.mul_le_mul_of_nonneg_right hc (by omega)⟩
    rw [L_X1_look_140, l2, cm_ok hr, r1, c2_ok (by omega) (by omega) (by omega) (by omega)]
    by_cases g : A 1 ≤ (c : Int)
    · have ec : (c : Int) = A 1 := by omega
      rw [if_pos g, B_X1_look_179, l2, cm_ok hr, r0, bd_eq]
      refine ⟨_, rfl, ⟨fun i a b => by rw [ms_ne a, l1 i a b], by rw [ms_k (by decide), l2], by rw [ms_k (by decide), l3], by rw [ms_k (by decide), l4], fun k a b d e f h => by rw [ms_k h, l5 k a b d e f h]⟩, ⟨fun i hi => by rw [ms_k (by decide)]; exact hO.1 i hi, fun b b0 b1 i hi => by rw [ms_ne (by decide)]; exact hO.2 b b0 b1 i hi⟩, fun i hi => ⟨?_, ?_⟩⟩
      · rw [ms_k (by decide), hE i (by omega), ec, Int.mul_comm (A 1)]
        exact ⟨fun h => h.1, fun h => ⟨h, hi⟩⟩
      · obtain ⟨w, hwn⟩ : ∃ w : Nat, (w : Int) = A 0 - 1 := ⟨(A 0 - 1).toNat, Int.toNat_of_nonneg (by omega)⟩
        rw [ms_s, ← hwn, btl_lshl (by omega), Bool.and_eq_true, Bool.and_eq_true, decide_eq_true_eq, Bool.not_eq_true', decide_eq_false_iff_not]
        have hr2 := edge_right (w := A 0) (i := i) (n := A 0 * A 1) hw.1 hw.2.1 (by omega) hi
        rw [hwn, ← hr2]
        constructor
        · rintro ⟨⟨h1, h2⟩, h3⟩
          rw [hE (i - w) (by omega), ec, Int.mul_comm (A 1), show ((i - w : Nat) : Int) = (i : Int) - (A 0 - 1) by omega] at h3
          exact ⟨by omega, h3⟩
        · rintro ⟨h1, h2, h3⟩
          refine ⟨⟨by omega, by omega⟩, ?_⟩
          rw [hE (i - w) (by omega), ec, Int.mul_comm (A 1), show ((i - w : Nat) : Int) = (i : Int) - (A 0 - 1) by omega]
          exact ⟨h2, h3⟩
    · have e2 : (c : Int) + 1 = ((c + 1 : Nat) : Int) := rfl
      have hc5 : (c : Int) * A 0 ≤ 5 * 10 := Int.mul_le_mul (by omega) hw.2.1 (by omega) (by omega)
      rw [if_neg g, cm_ok hr, r0, bd_eq, e2]
      obtain ⟨m, hm⟩ : ∃ m : Nat, (m : Int) = c * A 0 := ⟨((c : Int) * A 0).toNat, Int.toNat_of_nonneg hcw.1⟩
      refine ih (c + 1) _ (by omega) (by omega) ⟨fun i a b => by rw [ms_ne a, l1 i a b], by rw [ms_k (by decide), l2], by rw [ms_k (by decide), l3], by rw [ms_k (by decide), l4], fun k a b d e f h => by rw [ms_k f, l5 k a b d e f h]⟩ ⟨fun i hi => by rw [ms_k (by decide)]; exact hO.1 i hi, fun b b0 b1 i hi => by rw [ms_ne (by decide)]; exact hO.2 b b0 b1 i hi⟩ (fun i hi => ?_)
      have hs := edge_step (w := A 0) (c := c) (i := i) hw.1 hw.2.1 (by omega) (by omega)
      rw [ms_s, btl_lo, ← hm, btl_one (by omega), Bool.or_eq_true, hE i hi, decide_eq_true_eq, ← e2, ← hs]
      constructor
      · rintro (h | h)
        · exact Or.inl h
        · exact Or.inr (by omega)
      · rintro (h | h)
        · exact Or.inl h
        · exact Or.inr (by omega)
/-- the ground after a look: what it is, bit by bit -/
def GL (A : Int → Int) (nd r : Int) (Y : Mem) : Prop := r ∈ RIV ∧ RV Y r A ∧ Y 42 11 = r ∧ (∃ st need : Int, Y 42 12 = st ∧ Y 42 13 = need ∧ (-9 ≤ st ∧ st ≤ 9) ∧ (-100 ≤ need ∧ need ≤ 100) ∧ nd = need - st) ∧ OCb A nd Y (A 0 * A 1) ∧ (0 < A 0 → EDG A Y)
theorem look_eq {X : Mem} {r d f : Int} {A : Int → Int} (hr : r ∈ RIV) (hR : RV X r A) (hB : BD A) (d0 : 0 ≤ d ∧ d ≤ 10000) (f0 : 0 ≤ f ∧ f ≤ 50) :
    ∃ Y : Mem, f_X1_look r d f X = some (0, Y) ∧ (∀ i : Int, i ≠ 42 → i ≠ 46 → Y i = X i) ∧ (∀ k : Int, k ≠ 11 → k ≠ 12 → k ≠ 13 → k ≠ 16 → k ≠ 17 → k ≠ 18 → Y 42 k = X 42 k) ∧ GL A (A 5 - f - stg A d) r Y := by
  have hcl := BD_cells hB
  have hs := stg_r hB d0.1
  have h5 := hB.2.2.2.2.1
  have hr0 := RIV_r hr
  unfold f_X1_look
  have hR1 : RV (ms X 42 11 r) r A := hR.fr2 hr fun i h => ms_ne (by omega)
  rw [bd_eq, ms_s, cm_ok hr, stageOn_eq hR1 hB d0.1 (by omega), cl_some, bd_eq, ms_k (by decide), ms_s, cm_ok hr, bd_eq, bd_eq, bd_eq, ms_ne (j := r) (by omega), ms_ne (j := r) (by omega), hR.1.2.2.2.1, fillJ (by decide) (by decide), cl_some]
  obtain ⟨Z, hZ⟩ : ∃ Z : Mem, ma (ms (ms (ms (ms (ms X 42 11 r) 42 12 (stg A d)) 42 13 (A 5 - f)) 42 16 0) 42 17 0) 46 (fl (ms (ms (ms (ms (ms X 42 11 r) 42 12 (stg A d)) 42 13 (A 5 - f)) 42 16 0) 42 17 0 46) 0 5 0) = Z := ⟨_, rfl⟩
  rw [hZ]
  have zL : LKP X Z r (stg A d) (A 5 - f) := by
    rw [← hZ]
    refine ⟨fun i a b => by rw [ma_ne b, ms_ne a, ms_ne a, ms_ne a, ms_ne a, ms_ne a], ?_, ?_, ?_, fun k a b e g h j => ?_⟩
    · rw [ma_ne (by decide), ms_k (by decide), ms_k (by decide), ms_k (by decide), ms_k (by decide), ms_s]
    · rw [ma_ne (by decide), ms_k (by decide), ms_k (by decide), ms_k (by decide), ms_s]
    · rw [ma_ne (by decide), ms_k (by decide), ms_k (by decide), ms_s]
    · rw [ma_ne (by decide), ms_k h, ms_k g, ms_k e, ms_k b, ms_k a]
  have z16 : Z 42 16 = 0 := by rw [← hZ, ma_ne (by decide), ms_k (by decide), ms_s]
  have z17 : Z 42 17 = 0 := by rw [← hZ, ma_ne (by decide), ms_s]
  have z46 : ∀ b : Int, 0 ≤ b → b < 5 → Z 46 b = 0 := fun b b0 b1 => by rw [← hZ, ma_same]; exact if_pos ⟨b0, b1⟩
  obtain ⟨Y, e1, e2, e3, e4⟩ := look_51 hr hR hB hs (show -100 ≤ A 5 - f ∧ A 5 - f ≤ 100 by omega) KF 0 Z hcl.1 (by rw [KF_eq]; omega) zL ⟨fun i hi => by rw [z16, btl_0]; exact ⟨fun h => absurd h (by decide), fun h => by omega⟩, fun b b0 b1 i hi => by rw [z46 b b0 b1, btl_0]; exact ⟨fun h => absurd h (by decide), fun h => by omega⟩⟩ z17
  have e1' : L_X1_look_51 KF 0 Z = B_X1_look_137 Y := e1
  rw [e1', B_X1_look_137]
  by_cases hw : 0 < A 0
  · have h1r := hB.1
    obtain ⟨Y', i1, i2, i3, i4⟩ := look_140 hr hR hB hw KF 0 Y (by omega) (by rw [KF_eq]; omega) e2 e3 (fun i hi => by rw [e4, btl_0]; exact ⟨fun h => absurd h (by decide), fun h => by omega⟩)
    obtain ⟨l1, l2, l3, l4, l5⟩ := i2
    refine ⟨Y', i1, l1, l5, hr, hR.fr2 hr fun i h => l1 i (by omega) (by omega), l2, ⟨_, _, l3, l4, hs, by omega, by omega⟩, ?_, fun _ => i4⟩
    rw [show A 5 - f - stg A d = (A 5 - f) - stg A d from rfl]
    exact i3
  · have h1r := hB.1
    obtain ⟨l1, l2, l3, l4, l5⟩ := e2
    have hRY : RV Y r A := hR.fr2 hr fun i h => l1 i (by omega) (by omega)
    have hRY2 := hRY
    obtain ⟨⟨r0, r1, -⟩, -⟩ := hRY
    obtain ⟨k', hk'⟩ : ∃ k' : Nat, KF = k' + 1 := ⟨4611686018427387903, by rw [KF_eq]⟩
    rw [hk', L_X1_look_140, l2, cm_ok hr, r1, c2_ok (by decide) (by decide) (by omega) (by omega), if_pos (by omega), B_X1_look_179, l2, cm_ok hr, bd_eq]
    refine ⟨_, rfl, fun i a b => by rw [ms_ne a, l1 i a b], fun k a b d e f h => by rw [ms_k h, l5 k a b d e f h], hr, hRY2.fr2 hr fun i h => ms_ne (by omega), by rw [ms_k (by decide), l2], ⟨stg A d, A 5 - f, by rw [ms_k (by decide), l3], by rw [ms_k (by decide), l4], hs, by omega, by omega⟩, ⟨fun i hi => by rw [ms_k (by decide)]; exact e3.1 i hi, fun b b0 b1 i hi => by rw [ms_ne (by decide)]; exact e3.2 b b0 b1 i hi⟩, fun h => absurd h hw⟩
/-- open: class and reference -/
theorem q_open : pair_16 REL := by
  intro c hc cn X hcn h
  obtain ⟨n1, n2, n3, n4, n5, n6⟩ := h.now
  have hcl := BD_cells n3
  by_cases g : 0 ≤ c ∧ c < X 121 0 * X 121 1
  · obtain ⟨d0, d1⟩ := n3.2.2.1
    have h4 := n3.2.2.2.1
    have h6 := n3.2.2.2.2.2.1
    obtain ⟨Y, e1, e2, e3, hG⟩ := look_eq (d := X 2 3) (f := X 2 4) n1 n2 n3 (by omega) (by omega)
    obtain ⟨g1, g2, g3, ⟨st, need, g4, g5, g6, g7, g8⟩, g9, g10⟩ := hG
    have hk := kindOf_eq (c := c) g1 g2 n3 g3 g4 g5 g6 g7 g.1 (by omega)
    have hkr : 0 ≤ knd (X 121) (need - st) c ∧ knd (X 121) (need - st) c ≤ 2 := by unfold knd; split <;> (try split) <;> omega
    have hnd : need - st = ND (X 121) := by rw [← g8, n4, n5]; rfl
    refine ⟨knd (X 121) (need - st) c, ms Y 0 16 0, ms (ms Y 0 16 0) 120 2 0, ?_, ?_, inI_s (by omega) (by omega), ?_⟩
    · unfold f_X11_open
      rw [isCell_eq n1 n2 n3 hc, if_pos g, cl_some, c1_ok (by decide) (by decide), if_pos (by decide), cm_ok n1, e1, cl_some, hk, cl_some, answer_eq, cl_some]
    · have e121 : ms Y 0 16 0 121 = X 121 := by rw [ms_ne (by decide), e2 121 (by decide) (by decide)]
      unfold f_X12_open
      rw [c1_ok hc.1 hc.2, isCellm_eq (by rw [e121]; exact n3) (inI_J hc), e121, if_pos g, cl_some, c1_ok (by decide) (by decide), if_neg (by decide), openOf_eq (by rw [e121]; exact n3) g.1 (by omega), cl_some, gives_eq, cl_some, e121, hnd]
    · refine REL.st (X := Y) ⟨h.1.fr fun i k hA => ?_, h.2.fr fun i k hS hA => ?_⟩ (by decide) (by decide)
      · unfold ANS at hA
        rw [e2 i (by omega) (by omega)]
      · by_cases e : i = 42
        · subst e
          refine e3 k ?_ ?_ ?_ ?_ ?_ ?_ <;> (unfold SCR at hS; omega)
        · by_cases e4 : i = 46
          · exact absurd (by unfold SCR; omega) hS
          · rw [e2 i e e4]
  · refine out_st h (r := -1) (v := 1) (by decide) (by decide) inI_m1 ?_ ?_
    · unfold f_X11_open
      rw [isCell_eq n1 n2 n3 hc, if_neg g, cl_some, c1_ok (by decide) (by decide), if_neg (by decide), fail_eq, cl_some]
    · unfold f_X12_open
      rw [c1_ok hc.1 hc.2, isCellm_eq (by rw [s16 (by decide)]; exact n3) (inI_J hc), s16 (by decide), if_neg g, cl_some, c1_ok (by decide) (by decide), if_pos rfl, refusem_eq, cl_some]
