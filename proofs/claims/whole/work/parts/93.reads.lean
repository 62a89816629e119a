/-! plain reads -/
theorem REL.st {cn : Int} {X : Mem} (h : REL cn X) {v : Int} (h0 : 0 ≤ v) (h1 : v ≤ 100) : REL (cn + 1) (ms (ms X 0 16 v) 120 2 v) := by
  refine ⟨h.1.st h0 h1, (h.2.fr fun i k _ hA => ?_).up⟩
  unfold ANS at hA
  unfold ms
  rw [if_neg (by omega), if_neg (by omega)]
def OUT (cn : Int) (a b : Mem → Option (Int × Mem)) (X : Mem) : Prop := ∃ (r : Int) (X1 X2 : Mem), a X = some (r, X1) ∧ b X1 = some (r, X2) ∧ inI r ∧ REL (cn + 1) X2
theorem out_st {cn : Int} {a b : Mem → Option (Int × Mem)} {X : Mem} (h : REL cn X) {r v : Int} (h0 : 0 ≤ v) (h1 : v ≤ 100) (hr : inI r) (ea : a X = some (r, ms X 0 16 v)) (eb : b (ms X 0 16 v) = some (r, ms (ms X 0 16 v) 120 2 v)) : OUT cn a b X :=
  ⟨r, _, _, ea, eb, hr, h.st h0 h1⟩
theorem inI_m1 : inI (-1) := ⟨by decide, by decide⟩
theorem inI_s {a : Int} (h0 : -1000000000 ≤ a) (h1 : a ≤ 1000000000) : inI a := ⟨by omega, by omega⟩
/-- the now-state's facts -/
theorem REL.now {cn : Int} {X : Mem} (h : REL cn X) : X 2 0 ∈ RIV ∧ RV X (X 2 0) (X 121) ∧ BD (X 121) ∧ X 2 3 = X 121 3 ∧ X 2 4 = X 121 4 ∧ TH (X 18) (X 121) := by
  obtain ⟨-, h1, h2, -⟩ := h
  obtain ⟨g1, g2, g3, g4, g5, g6, g7⟩ := h2
  exact ⟨h1.riv.1, g3, g6, g1, g2, g5⟩
theorem s16 {X : Mem} {v : Int} {i : Int} (h : i ≠ 0) : ms X 0 16 v i = X i := ms_ne h
theorem toldm_eq {p : Int} {X : Mem} (hp : inI p) : f_X12_told p X = if 0 ≤ p ∧ p ≤ 12 then some (X 121 p, ms X 120 2 0) else some (-1, ms X 120 2 1) := by
  unfold f_X12_told B_X12_told_10
  rw [c1_ok hp.1 hp.2, refusem_eq, cl_some]
  by_cases h : p < 0
  · rw [if_pos h, if_neg (by omega)]
  · rw [if_neg h, c2_ok hp.1 hp.2 (by decide) (by decide)]
    by_cases h2 : p ≤ 12
    · rw [if_pos h2, if_pos (by omega), ax_ok (by omega) (by omega), gives_eq, cl_some]
    · rw [if_neg h2, if_neg (by omega)]
theorem told_eq {p : Int} {X : Mem} {A : Int → Int} (hm : X 2 0 ∈ RIV) (h : RV X (X 2 0) A) (h3 : X 2 3 = A 3) (h4 : X 2 4 = A 4) (hp : inI p) : f_X11_told p X = if 0 ≤ p ∧ p ≤ 12 then some (A p, ms X 0 16 0) else some (-1, ms X 0 16 1) := by
  obtain ⟨⟨a0, a1, a2, a3, a4, a5, a6, a7, a8, a9, a10⟩, -⟩ := h
  unfold f_X11_told
  simp only [answer_eq, fail_eq, cl_some, cm_ok hm, c1_ok hp.1 hp.2, a0, a1, a2, a3, a4, a5, a6, a7, a8, a9, a10, h3, h4]
  rcases (show p < 0 ∨ p = 0 ∨ p = 1 ∨ p = 2 ∨ p = 3 ∨ p = 4 ∨ p = 5 ∨ p = 6 ∨ p = 7 ∨ p = 8 ∨ p = 9 ∨ p = 10 ∨ p = 11 ∨ p = 12 ∨ 12 < p by omega) with e | rfl | rfl | rfl | rfl | rfl | rfl | rfl | rfl | rfl | rfl | rfl | rfl | rfl | e
  all_goals first | rfl | skip
  all_goals rw [if_neg (by omega), if_neg (by omega), if_neg (by omega), if_neg (by omega), if_neg (by omega), if_neg (by omega), if_neg (by omega), if_neg (by omega), if_neg (by omega), if_neg (by omega), if_neg (by omega), if_neg (by omega), if_neg (by omega), if_neg (by omega)]
theorem BD_told {A : Int → Int} (h : BD A) {p : Int} (h0 : 0 ≤ p) (h1 : p ≤ 12) : 0 ≤ A p ∧ A p ≤ 5000 := by
  obtain ⟨a, b, c, d, e, f, g, i, j, k, l, m, n, -⟩ := h
  rcases (show p = 0 ∨ p = 1 ∨ p = 2 ∨ p = 3 ∨ p = 4 ∨ p = 5 ∨ p = 6 ∨ p = 7 ∨ p = 8 ∨ p = 9 ∨ p = 10 ∨ p = 11 ∨ p = 12 by omega) with rfl | rfl | rfl | rfl | rfl | rfl | rfl | rfl | rfl | rfl | rfl | rfl | rfl <;> omega
theorem q_told : pair_11 REL := by
  intro p hp cn X hc h
  obtain ⟨n1, n2, n3, n4, n5, n6⟩ := h.now
  by_cases g : 0 ≤ p ∧ p ≤ 12
  · have hb := BD_told n3 g.1 g.2
    exact out_st h (r := X 121 p) (v := 0) (by decide) (by decide) (inI_s (by omega) (by omega)) (by rw [told_eq n1 n2 n4 n5 hp, if_pos g]) (by rw [toldm_eq hp, if_pos g, s16 (by decide)])
  · exact out_st h (r := -1) (v := 1) (by decide) (by decide) inI_m1 (by rw [told_eq n1 n2 n4 n5 hp, if_neg g]) (by rw [toldm_eq hp, if_neg g])
/-! cells of a bar -/
def cnt (A : Int → Int) (b : Int) : Nat → Int
  | 0 => 0
  | n + 1 => cnt A b n + if A (108 + (n : Int)) = b then 1 else 0
theorem cnt_r {A : Int → Int} {b : Int} : ∀ n : Nat, 0 ≤ cnt A b n ∧ cnt A b n ≤ n
  | 0 => ⟨Int.le_refl _, Int.le_refl _⟩
  | n + 1 => by
    have h := cnt_r (A := A) (b := b) n
    unfold cnt
    split <;> omega
theorem cellsOf_4 {X : Mem} {r b : Int} {A : Int → Int} (h : RV X r A) (hB : BD A) (hb : inI b) {n : Nat} (hn : (n : Int) = A 0 * A 1) : ∀ (k c : Nat), c ≤ n → n - c < k → L_X2_cellsOf_4 k r b (cnt A b c) c X = some (cnt A b n, X) := by
  have hc := BD_cells hB
  obtain ⟨⟨h0, h1, -⟩, -, ho, -⟩ := h
  obtain ⟨-, hB2, -, -, -, -, -, -, -, -, -, -, -, -, -, -, -, hoB⟩ := hB
  intro k
  induction k with
  | zero => intro c _ h; omega
  | succ k ih =>
    intro c hcn hk
    rw [L_X2_cellsOf_4, show f_X2_cellCount r X = some (X r 0 * X r 1, X) from rfl, cl_some, h0, h1, c2_ok (by omega) (by omega) (by omega) (by omega)]
    by_cases g : A 0 * A 1 ≤ (c : Int)
    · rw [if_pos g, show c = n by omega]
    · have hoB := hoB c (by omega) (by omega)
      have e2 : (c : Int) + 1 = ((c + 1 : Nat) : Int) := rfl
      rw [if_neg g, ax_ok (by omega) (by omega), ho c (by omega) (by omega), c2_ok (by omega) (by omega) hb.1 hb.2]
      by_cases g2 : A (108 + (c : Int)) = b
      · have e3 : cnt A b c + 1 = cnt A b (c + 1) := by
          show _ = cnt A b c + if A (108 + (c : Int)) = b then 1 else 0
          rw [if_pos g2]
        rw [if_neg (by simpa using g2), B_X2_cellsOf_25, e2, e3]
        exact ih (c + 1) (by omega) (by omega)
      · have e3 : cnt A b c = cnt A b (c + 1) := by
          show _ = cnt A b c + if A (108 + (c : Int)) = b then 1 else 0
          rw [if_neg g2]
          omega
        rw [if_pos g2, B_X2_cellsOf_25, e2, e3]
        exact ih (c + 1) (by omega) (by omega)
theorem bar_77 {X : Mem} {b : Int} (hB : BD (X 121)) (hb : inI b) {n : Nat} (hn : (n : Int) = X 121 0 * X 121 1) : ∀ (k c : Nat), c ≤ n → n - c < k → L_X12_bar_77 k b (cnt (X 121) b c) c X = some (cnt (X 121) b n, ms X 120 2 0) := by
  have hc := BD_cells hB
  obtain ⟨-, hB2, -, -, -, -, -, -, -, -, -, -, -, -, -, -, -, hoB⟩ := hB
  intro k
  induction k with
  | zero => intro c _ h; omega
  | succ k ih =>
    intro c hcn hk
    rw [L_X12_bar_77, cells_eq, cl_some, c2_ok (by omega) (by omega) (by omega) (by omega)]
    by_cases g : X 121 0 * X 121 1 ≤ (c : Int)
    · rw [if_pos g, show c = n by omega, B_X12_bar_114, gives_eq, cl_some]
    · have hoB := hoB c (by omega) (by omega)
      have e2 : (c : Int) + 1 = ((c + 1 : Nat) : Int) := rfl
      rw [if_neg g, ax_ok (by omega) (by omega), c2_ok (by omega) (by omega) hb.1 hb.2]
      by_cases g2 : X 121 (108 + (c : Int)) = b
      · have e3 : cnt (X 121) b c + 1 = cnt (X 121) b (c + 1) := by
          show _ = cnt (X 121) b c + if X 121 (108 + (c : Int)) = b then 1 else 0
          rw [if_pos g2]
        rw [if_neg (by simpa using g2), B_X12_bar_106, bd_eq, e2, e3]
        exact ih (c + 1) (by omega) (by omega)
      · have e3 : cnt (X 121) b c + 0 = cnt (X 121) b (c + 1) := by
          show _ = cnt (X 121) b c + if X 121 (108 + (c : Int)) = b then 1 else 0
          rw [if_neg g2]
        rw [if_pos g2, B_X12_bar_106, bd_eq, e2, e3]
        exact ih (c + 1) (by omega) (by omega)
theorem cellOf_2 {X : Mem} {b l : Int} (hB : BD (X 121)) (hb : inI b) (hl : LE (X 121) b l) : ∀ (k : Nat) (c : Int), 0 ≤ c → (l = -1 → c ≤ X 121 0 * X 121 1) → (l ≠ -1 → c ≤ l) → (X 121 0 * X 121 1 - c).toNat < k → L_X12_cellOf_2 k b c X = some (l, X) := by
  have hc := BD_cells hB
  obtain ⟨-, hB2, -, -, -, -, -, -, -, -, -, -, -, -, -, -, -, hoB⟩ := hB
  intro k
  induction k with
  | zero => intro c _ _ _ h; omega
  | succ k ih =>
    intro c c0 cl1 cl2 hk
    have hcl : c ≤ X 121 0 * X 121 1 := by
      rcases hl with ⟨h1, h2⟩ | ⟨h1, h2, h3, h4⟩
      · exact cl1 h1
      · have := cl2 (by omega)
        omega
    rw [L_X12_cellOf_2, cells_eq, cl_some, c2_ok (by omega) (by omega) (by omega) (by omega)]
    by_cases g : X 121 0 * X 121 1 ≤ c
    · rw [if_pos g]
      rcases hl with ⟨h1, h2⟩ | ⟨h1, h2, h3, h4⟩
      · rw [h1]
      · have := cl2 (by omega)
        omega
    · have hoB := hoB c (by omega) (by omega)
      rw [if_neg g, ax_ok (by omega) (by omega), c2_ok (by omega) (by omega) hb.1 hb.2]
      by_cases g2 : X 121 (108 + c) = b
      · rw [if_neg (by simpa using g2)]
        rcases hl with ⟨h1, h2⟩ | ⟨h1, h2, h3, h4⟩
        · exact absurd g2 (h2 c c0 (by omega))
        · by_cases e : c < l
          · exact absurd g2 (h4 c c0 e)
          · have := cl2 (by omega)
            rw [show c = l by omega]
      · rw [if_pos g2]
        refine ih (c + 1) (by omega) (fun e => by omega) (fun e => ?_) (by omega)
        have := cl2 e
        rcases hl with ⟨h1, h2⟩ | ⟨h1, h2, h3, h4⟩
        · exact absurd h1 e
        · by_cases e2 : c = l
          · subst e2
            exact absurd h3 g2
          · omega
theorem cellOf_eq {X : Mem} {b l : Int} (hB : BD (X 121)) (hb : inI b) (hl : LE (X 121) b l) : f_X12_cellOf b X = some (l, X) := by
  have hc := BD_cells hB
  unfold f_X12_cellOf
  refine cellOf_2 hB hb hl KF 0 (Int.le_refl _) (fun _ => hc.1) (fun e => ?_) (by rw [KF_eq]; omega)
  rcases hl with ⟨h1, h2⟩ | ⟨h1, h2, h3, h4⟩
  · exact absurd h1 e
  · exact h1
theorem LE_r {A : Int → Int} {b l : Int} (hB : BD A) (h : LE A b l) : -1 ≤ l ∧ l < 60 := by
  have hc := BD_cells hB
  rcases h with ⟨h1, h2⟩ | ⟨h1, h2, h3, h4⟩ <;> omega
theorem q_bar : pair_12 REL := by
  intro b w hb hw cn X hc h
  obtain ⟨n1, n2, n3, n4, n5, n6⟩ := h.now
  have hn := BD_cells n3
  have eC : f_X11_isBar b X = _ := isBar_eq n1 n2 n3 hb
  have eM : ∀ v : Int, f_X12_isBar b (ms X 0 16 v) = _ := fun v => isBarm_eq (X := ms X 0 16 v) (by rw [s16 (by decide)]; exact n3) hb
  obtain ⟨r0, r1, r2, r3, r4, r5, r6⟩ := n2
  show OUT cn (f_X11_bar b w) (f_X12_bar b w) X
  by_cases g : 0 ≤ b ∧ b < X 121 2
  · obtain ⟨b0, b1, b2, b3⟩ := r4 b g.1 g.2
    obtain ⟨⟨z0, z1⟩, ⟨z2, z3⟩, ⟨z4, z5⟩, z6, z7⟩ := r6 b g.1 (by have := n3.2.1; omega)
    have hl := r5 b g.1 g.2
    have hlr := LE_r n3 hl
    have b5 : b < 5 := by have := n3.2.1; omega
    rw [if_pos g] at eC
    have eM1 : ∀ v : Int, f_X12_isBar b (ms X 0 16 v) = some (1, ms X 0 16 v) := fun v => by
      rw [eM, s16 (by decide), if_pos g]
    by_cases gw : 0 ≤ w ∧ w ≤ 5
    · rcases (show w = 0 ∨ w = 1 ∨ w = 2 ∨ w = 3 ∨ w = 4 ∨ w = 5 by omega) with rfl | rfl | rfl | rfl | rfl | rfl
      · refine out_st h (r := X (X 2 0 + 5) b) (v := 0) (by decide) (by decide) (inI_s (by omega) (by omega)) ?_ ?_
        · unfold f_X11_bar
          rw [eC, cl_some, c1_ok (by decide) (by decide), if_neg (by decide), c1_ok (by decide) (by decide), if_neg (by decide), c2_ok (by decide) (by decide) (by decide) (by decide), if_pos (by decide), cm_ok n1, c1_ok (by decide) (by decide), if_pos rfl, ax_ok g.1 b5, answer_eq, cl_some]
        · unfold f_X12_bar
          rw [eM1, cl_some, c1_ok (by decide) (by decide), if_neg (by decide), c1_ok (by decide) (by decide), if_neg (by decide), c2_ok (by decide) (by decide) (by decide) (by decide), if_pos (by decide), c2_ok (by decide) (by decide) (by decide) (by decide), if_neg (by decide), ofBar_eq g.1 b5 (by decide) (by decide), cl_some, gives_eq, cl_some, s16 (by decide), b0, Int.add_zero]
      · refine out_st h (r := X (X 2 0 + 6) b) (v := 0) (by decide) (by decide) (inI_s (by omega) (by omega)) ?_ ?_
        · unfold f_X11_bar
          rw [eC, cl_some, c1_ok (by decide) (by decide), if_neg (by decide), c1_ok (by decide) (by decide), if_neg (by decide), c2_ok (by decide) (by decide) (by decide) (by decide), if_pos (by decide), cm_ok n1, c1_ok (by decide) (by decide), if_neg (by decide), if_pos rfl, ax_ok g.1 b5, answer_eq, cl_some]
        · unfold f_X12_bar
          rw [eM1, cl_some, c1_ok (by decide) (by decide), if_neg (by decide), c1_ok (by decide) (by decide), if_neg (by decide), c2_ok (by decide) (by decide) (by decide) (by decide), if_pos (by decide), c2_ok (by decide) (by decide) (by decide) (by decide), if_neg (by decide), ofBar_eq g.1 b5 (by decide) (by decide), cl_some, gives_eq, cl_some, s16 (by decide), b1]
      · refine out_st h (r := X (X 2 0 + 7) b) (v := 0) (by decide) (by decide) (inI_s (by omega) (by omega)) ?_ ?_
        · unfold f_X11_bar
          rw [eC, cl_some, c1_ok (by decide) (by decide), if_neg (by decide), c1_ok (by decide) (by decide), if_neg (by decide), c2_ok (by decide) (by decide) (by decide) (by decide), if_pos (by decide), cm_ok n1, c1_ok (by decide) (by decide), if_neg (by decide), if_neg (by decide), if_pos rfl, ax_ok g.1 b5, answer_eq, cl_some]
        · unfold f_X12_bar
          rw [eM1, cl_some, c1_ok (by decide) (by decide), if_neg (by decide), c1_ok (by decide) (by decide), if_neg (by decide), c2_ok (by decide) (by decide) (by decide) (by decide), if_pos (by decide), c2_ok (by decide) (by decide) (by decide) (by decide), if_neg (by decide), ofBar_eq g.1 b5 (by decide) (by decide), cl_some, gives_eq, cl_some, s16 (by decide), b2]
      · refine out_st h (r := X (X 2 0 + 8) b) (v := 0) (by decide) (by decide) (inI_s (by omega) (by omega)) ?_ ?_
        · unfold f_X11_bar
          rw [eC, cl_some, c1_ok (by decide) (by decide), if_neg (by decide), c1_ok (by decide) (by decide), if_neg (by decide), c2_ok (by decide) (by decide) (by decide) (by decide), if_pos (by decide), cm_ok n1, c1_ok (by decide) (by decide), if_neg (by decide), if_neg (by decide), if_neg (by decide), if_pos rfl, ax_ok g.1 b5, answer_eq, cl_some]
        · unfold f_X12_bar
          rw [eM1, cl_some, c1_ok (by decide) (by decide), if_neg (by decide), c1_ok (by decide) (by decide), if_neg (by decide), c2_ok (by decide) (by decide) (by decide) (by decide), if_pos (by decide), c2_ok (by decide) (by decide) (by decide) (by decide), if_neg (by decide), ofBar_eq g.1 b5 (by decide) (by decide), cl_some, gives_eq, cl_some, s16 (by decide), b3]
      · obtain ⟨n, hnn⟩ : ∃ n : Nat, (n : Int) = X 121 0 * X 121 1 := ⟨(X 121 0 * X 121 1).toNat, Int.toNat_of_nonneg hn.1⟩
        have hcr := cnt_r (A := X 121) (b := b) n
        refine out_st h (r := cnt (X 121) b n) (v := 0) (by decide) (by decide) (inI_s (by omega) (by omega)) ?_ ?_
        · unfold f_X11_bar f_X2_cellsOf
          rw [eC, cl_some, c1_ok (by decide) (by decide), if_neg (by decide), c1_ok (by decide) (by decide), if_neg (by decide), c2_ok (by decide) (by decide) (by decide) (by decide), if_pos (by decide), cm_ok n1, c1_ok (by decide) (by decide), if_neg (by decide), if_neg (by decide), if_neg (by decide), if_neg (by decide), if_pos rfl]
          have h4 := cellsOf_4 (X := X) (r := X 2 0) ⟨r0, r1, r2, r3, r4, r5, r6⟩ n3 hb hnn KF 0 (by omega) (by rw [KF_eq]; omega)
          rw [show L_X2_cellsOf_4 KF (X 2 0) b 0 0 X = _ from h4, cl_some, answer_eq, cl_some]
        · unfold f_X12_bar
          rw [eM1, cl_some, c1_ok (by decide) (by decide), if_neg (by decide), c1_ok (by decide) (by decide), if_neg (by decide), c2_ok (by decide) (by decide) (by decide) (by decide), if_pos (by decide), c2_ok (by decide) (by decide) (by decide) (by decide), if_pos (by decide), c2_ok (by decide) (by decide) (by decide) (by decide), if_pos (by decide)]
          have h4 := bar_77 (X := ms X 0 16 0) (by rw [s16 (by decide)]; exact n3) hb (n := n) (by rw [s16 (by decide)]; exact hnn) KF 0 (by omega) (by rw [KF_eq]; omega)
          rw [s16 (by decide)] at h4
          exact h4
      · have eL : ∀ v : Int, f_X12_cellOf b (ms X 0 16 v) = some (X (X 2 0 + 9) b, ms X 0 16 v) := fun v => cellOf_eq (by rw [s16 (by decide)]; exact n3) hb (by rw [s16 (by decide)]; exact hl)
        by_cases gl : X (X 2 0 + 9) b = -1
        · refine out_st h (r := -1) (v := 6) (by decide) (by decide) inI_m1 ?_ ?_
          · unfold f_X11_bar
            rw [eC, cl_some, c1_ok (by decide) (by decide), if_neg (by decide), c1_ok (by decide) (by decide), if_neg (by decide), c2_ok (by decide) (by decide) (by decide) (by decide), if_pos (by decide), cm_ok n1, c1_ok (by decide) (by decide), if_neg (by decide), if_neg (by decide), if_neg (by decide), if_neg (by decide), if_neg (by decide), ax_ok g.1 b5, c2_ok (by omega) (by omega) (by decide) (by decide), if_neg (by simpa using gl), fail_eq, cl_some]
          · unfold f_X12_bar
            rw [eM1, cl_some, c1_ok (by decide) (by decide), if_neg (by decide), c1_ok (by decide) (by decide), if_neg (by decide), c2_ok (by decide) (by decide) (by decide) (by decide), if_pos (by decide), c2_ok (by decide) (by decide) (by decide) (by decide), if_pos (by decide), c2_ok (by decide) (by decide) (by decide) (by decide), if_neg (by decide), eL, cl_some, c2_ok (by omega) (by omega) (by decide) (by decide), if_neg (by simpa using gl), refusem_eq, cl_some]
        · refine out_st h (r := X (X 2 0 + 9) b) (v := 0) (by decide) (by decide) (inI_s (by omega) (by omega)) ?_ ?_
          · unfold f_X11_bar
            rw [eC, cl_some, c1_ok (by decide) (by decide), if_neg (by decide), c1_ok (by decide) (by decide), if_neg (by decide), c2_ok (by decide) (by decide) (by decide) (by decide), if_pos (by decide), cm_ok n1, c1_ok (by decide) (by decide), if_neg (by decide), if_neg (by decide), if_neg (by decide), if_neg (by decide), if_neg (by decide), ax_ok g.1 b5, c2_ok (by omega) (by omega) (by decide) (by decide), if_pos gl, ax_ok g.1 b5, answer_eq, cl_some]
          · unfold f_X12_bar
            rw [eM1, cl_some, c1_ok (by decide) (by decide), if_neg (by decide), c1_ok (by decide) (by decide), if_neg (by decide), c2_ok (by decide) (by decide) (by decide) (by decide), if_pos (by decide), c2_ok (by decide) (by decide) (by decide) (by decide), if_pos (by decide), c2_ok (by decide) (by decide) (by decide) (by decide), if_neg (by decide), eL, cl_some, c2_ok (by omega) (by omega) (by decide) (by decide), if_pos gl, eL, cl_some, gives_eq, cl_some]
    · refine out_st h (r := -1) (v := 1) (by decide) (by decide) inI_m1 ?_ ?_
      · unfold f_X11_bar B_X11_bar_17
        rw [eC, cl_some, c1_ok (by decide) (by decide), if_neg (by decide), c1_ok hw.1 hw.2, c2_ok hw.1 hw.2 (by decide) (by decide)]
        by_cases gw0 : w < 0
        · rw [if_pos gw0, fail_eq, cl_some]
        · rw [if_neg gw0, if_neg (by omega), fail_eq, cl_some]
      · unfold f_X12_bar B_X12_bar_17
        rw [eM1, cl_some, c1_ok (by decide) (by decide), if_neg (by decide), c1_ok hw.1 hw.2, c2_ok hw.1 hw.2 (by decide) (by decide)]
        by_cases gw0 : w < 0
        · rw [if_pos gw0, refusem_eq, cl_some]
        · rw [if_neg gw0, if_neg (by omega), refusem_eq, cl_some]
  · refine out_st h (r := -1) (v := 1) (by decide) (by decide) inI_m1 ?_ ?_
    · unfold f_X11_bar B_X11_bar_17
      rw [eC, if_neg g, cl_some, c1_ok (by decide) (by decide), if_pos rfl, fail_eq, cl_some]
    · unfold f_X12_bar B_X12_bar_17
      rw [eM, s16 (by decide), if_neg g, cl_some, c1_ok (by decide) (by decide), if_pos rfl, refusem_eq, cl_some]
