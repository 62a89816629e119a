/-! the reference reckons -/
theorem BD_w {A : Int → Int} (hB : BD A) {c : Int} (c0 : 0 ≤ c) (c1 : c < A 0 * A 1) : (2 ≤ A 0 ∧ A 0 ≤ 10 ∧ 2 ≤ A 1 ∧ A 1 ≤ 6) ∧ (0 ≤ c % A 0 ∧ c % A 0 < A 0) ∧ (0 ≤ c / A 0 ∧ c / A 0 < A 1) ∧ c = A 0 * (c / A 0) + c % A 0 := by
  have h := hB.1
  have hw : 2 ≤ A 0 ∧ A 0 ≤ 10 ∧ 2 ≤ A 1 ∧ A 1 ≤ 6 := by
    rcases h with ⟨h0, h1⟩ | h
    · rw [h0, Int.zero_mul] at c1
      omega
    · exact h
  refine ⟨hw, ⟨Int.emod_nonneg _ (by omega), Int.emod_lt_of_pos _ (by omega)⟩, ⟨Int.ediv_nonneg c0 (by omega), ?_⟩, (Int.mul_ediv_add_emod c (A 0)).symm⟩
  exact Int.ediv_lt_of_lt_mul (by omega) (by rw [Int.mul_comm]; exact c1)
theorem dx_v : dxs 0 = 1 ∧ dxs 1 = 1 ∧ dxs 2 = 0 ∧ dxs 3 = -1 ∧ dxs 4 = -1 ∧ dxs 5 = -1 ∧ dxs 6 = 0 ∧ dxs 7 = 1 := by decide
theorem dy_v : dys 0 = 0 ∧ dys 1 = 1 ∧ dys 2 = 1 ∧ dys 3 = 1 ∧ dys 4 = 0 ∧ dys 5 = -1 ∧ dys 6 = -1 ∧ dys 7 = -1 := by decide
theorem leads_76 {X : Mem} {x d y : Int} (hw : 2 ≤ X 121 0 ∧ X 121 0 ≤ 10 ∧ 2 ≤ X 121 1 ∧ X 121 1 ≤ 6) (hx : -1 ≤ x ∧ x ≤ X 121 0) (hy : -1 ≤ y + d ∧ y + d ≤ X 121 1) : B_X12_leads_76 x d y X = some (if (0 ≤ x ∧ x < X 121 0) ∧ (0 ≤ y + d ∧ y + d < X 121 1) then X 121 0 * (y + d) + x else -1, X) := by
  unfold B_X12_leads_76
  rw [bd_eq, c1_ok (by omega) (by omega), c1_ok (by omega) (by omega), ax_ok (by decide) (by decide), c2_ok (by omega) (by omega) (by omega) (by omega), ax_ok (by decide) (by decide), c2_ok (by omega) (by omega) (by omega) (by omega)]
  by_cases g1 : x < 0
  · rw [if_pos g1, if_neg (by omega)]
  · by_cases g3 : y + d < 0
    · rw [if_neg g1, if_pos g3, if_neg (by omega)]
    · by_cases g2 : X 121 0 ≤ x
      · rw [if_neg g1, if_neg g3, if_pos g2, if_neg (by omega)]
      · by_cases g4 : y + d < X 121 1
        · rw [if_neg g1, if_neg g3, if_neg g2, if_pos g4, ax_ok (by decide) (by decide), if_pos (by omega)]
        · rw [if_neg g1, if_neg g3, if_neg g2, if_neg g4, if_neg (by omega)]
theorem leads_eq {X : Mem} (hB : BD (X 121)) {c h : Int} (c0 : 0 ≤ c) (c1 : c < X 121 0 * X 121 1) (h0 : 0 ≤ h) (h1 : h < 8) : f_X12_leads c h X = some (ld (X 121) c h, X) := by
  have hc := BD_cells hB
  obtain ⟨hw, hx, hy, -⟩ := BD_w hB c0 c1
  obtain ⟨x0, x1, x2, x3, x4, x5, x6, x7⟩ := dx_v
  obtain ⟨y0, y1, y2, y3, y4, y5, y6, y7⟩ := dy_v
  unfold f_X12_leads B_X12_leads_23 B_X12_leads_41 B_X12_leads_42 B_X12_leads_66 ld
  rw [ax_ok (by decide) (by decide), cd_ok c0 (by omega) (by omega) (by omega)]
  rcases (show h = 0 ∨ h = 1 ∨ h = 2 ∨ h = 3 ∨ h = 4 ∨ h = 5 ∨ h = 6 ∨ h = 7 by omega) with rfl | rfl | rfl | rfl | rfl | rfl | rfl | rfl
  all_goals
    simp (disch := omega) only [c1_ok, c2_ok, cd_ok, ax_ok, bd_eq, if_pos, if_neg, x0, x1, x2, x3, x4, x5, x6, x7, y0, y1, y2, y3, y4, y5, y6, y7]
    exact leads_76 hw (by omega) (by omega)
theorem ia7 : ∀ h : Fin 8, ia (h.val : Int) 7 = h.val ∧ tl (tRow.getD 0 []) (h.val : Int) = dxs h.val ∧ tl (tRow.getD 1 []) (h.val : Int) = dys h.val := by decide +kernel
theorem beside_eq {X : Mem} {r : Int} {A : Int → Int} (hR : RV X r A) (hB : BD A) {c h : Int} (c0 : 0 ≤ c) (c1 : c < A 0 * A 1) (h0 : 0 ≤ h) (h1 : h < 8) : f_X2_beside r c h X = some (ld A c h, X) := by
  have hc := BD_cells hB
  obtain ⟨hw, hx, hy, -⟩ := BD_w hB c0 c1
  obtain ⟨⟨r0, r1, -⟩, -⟩ := hR
  obtain ⟨h, rfl⟩ := fin8 h0 h1
  obtain ⟨e1, e2, e3⟩ := ia7 h
  have hd := (by decide +kernel : ∀ h : Fin 8, -1 ≤ dxs (h.val : Int) ∧ dxs (h.val : Int) ≤ 1) h
  have hd2 := (by decide +kernel : ∀ h : Fin 8, -1 ≤ dys (h.val : Int) ∧ dys (h.val : Int) ≤ 1) h
  unfold f_X2_beside ld
  rw [e1, e2, e3, r0, r1]
  rw [c1_ok (by omega) (by omega), if_pos (by omega), cd_ok c0 (by omega) (by omega) (by omega), ax_ok h0 h1, bd_eq, cd_ok c0 (by omega) (by omega) (by omega), ax_ok h0 h1, bd_eq]
  have hx2 : -1 ≤ c % A 0 + dxs (h.val : Int) ∧ c % A 0 + dxs (h.val : Int) ≤ A 0 := by omega
  have hy2 : -1 ≤ c / A 0 + dys (h.val : Int) ∧ c / A 0 + dys (h.val : Int) ≤ A 1 := by omega
  generalize c % A 0 + dxs (h.val : Int) = x at *
  generalize c / A 0 + dys (h.val : Int) = y at *
  rw [c1_ok (by omega) (by omega), c2_ok (by omega) (by omega) (by omega) (by omega), c1_ok (by omega) (by omega), c2_ok (by omega) (by omega) (by omega) (by omega), Int.mul_comm y]
  by_cases g1 : x < 0
  · rw [if_pos g1, if_neg (by omega)]
  · by_cases g2 : A 0 ≤ x
    · rw [if_neg g1, if_pos g2, if_neg (by omega)]
    · by_cases g3 : y < 0
      · rw [if_neg g1, if_neg g2, if_pos g3, if_neg (by omega)]
      · by_cases g4 : A 1 ≤ y
        · rw [if_neg g1, if_neg g2, if_neg g3, if_pos g4, if_neg (by omega)]
        · rw [if_neg g1, if_neg g2, if_neg g3, if_neg g4, if_pos (by omega)]
theorem stepm_eq {X : Mem} (hB : BD (X 121)) {b h : Int} (b0 : 0 ≤ b) (b1 : b < 9) (h0 : 0 ≤ h) (h1 : h < 8) : f_X12_stepMinutes b h X = some (stp (X 121) h + trn (X 121) b h, X) := by
  unfold f_X12_stepMinutes B_X12_stepMinutes_30 B_X12_stepMinutes_56 stp trn dhh
  have e : (if 0 ≤ b - h then b - h else -(b - h)) = (if b ≤ h then h - b else b - h) := by split <;> split <;> omega
  rw [c1_ok (by omega) (by omega), bd_eq, e]
  have hr : 0 ≤ (if b ≤ h then h - b else b - h) ∧ (if b ≤ h then h - b else b - h) ≤ 8 := by split <;> omega
  generalize (if b ≤ h then h - b else b - h) = v at *
  rw [cd_ok h0 (by omega) (by decide) (by decide), c1_ok (by omega) (by omega)]
  by_cases g1 : h % 2 = 0
  · rw [if_neg (by omega), if_pos g1]
    by_cases g2 : b = 8
    · simp (disch := omega) only [ax_ok, c2_ok, if_pos, if_neg]
    · simp (disch := omega) only [ax_ok, c2_ok, if_pos, if_neg]
  · rw [if_pos g1, if_neg g1]
    by_cases g2 : b = 8
    · simp (disch := omega) only [ax_ok, c2_ok, if_pos, if_neg]
    · simp (disch := omega) only [ax_ok, c2_ok, if_pos, if_neg]
def ND (A : Int → Int) : Int := A 5 - A 4 - stg A (A 3)
theorem ND_r {A : Int → Int} (hB : BD A) : -20 ≤ ND A ∧ ND A ≤ 40 := by
  have h := stg_r hB (d := A 3) hB.2.2.1.1
  obtain ⟨-, -, h3, h4, h5, h6, -⟩ := hB
  unfold ND
  omega
theorem passes_eq {X : Mem} (hB : BD (X 121)) {c x : Int} (c0 : 0 ≤ c) (c1 : c < 60) : f_X12_passes c x X = some (if ND (X 121) ≤ X 121 (48 + c) - tk (X 121) c x then 1 else 0, X) := by
  have hs := stg_r hB (d := X 121 3) hB.2.2.1.1
  have hd := dep_r hB (x := x) c0 c1 hs
  unfold f_X12_passes
  rw [depthOf_eq hB c0 c1, cl_some, ax_ok (by decide) (by decide), ax_ok (by decide) (by decide)]
  have hB' := hB
  obtain ⟨-, -, h3, h4, h5, h6, -⟩ := hB'
  rw [c2_ok (by omega) (by omega) (by omega) (by omega)]
  unfold ND
  unfold dep at *
  by_cases g : X 121 (48 + c) + stg (X 121) (X 121 3) - tk (X 121) c x < X 121 5 - X 121 4
  · rw [if_pos g, if_neg (by omega)]
  · rw [if_neg g, if_pos (by omega)]
/-- 2 open, 1 of its bar, 0 shut -/
def knd (A : Int → Int) (nd c : Int) : Int := if nd ≤ A (48 + c) - tk A c (NS A - 1) then 2 else if nd ≤ A (48 + c) - tk A c 0 then 1 else 0
theorem openOf_eq {X : Mem} (hB : BD (X 121)) {c : Int} (c0 : 0 ≤ c) (c1 : c < 60) : f_X12_openOf c X = some (knd (X 121) (ND (X 121)) c, X) := by
  unfold f_X12_openOf knd
  rw [sets_eq, cl_some, passes_eq hB c0 c1, cl_some, show ishl 1 (X 121 2) = NS (X 121) from rfl]
  by_cases g : ND (X 121) ≤ X 121 (48 + c) - tk (X 121) c (NS (X 121) - 1)
  · rw [if_pos g, if_pos g, c1_ok (by decide) (by decide), if_neg (by decide)]
  · rw [if_neg g, if_neg g, c1_ok (by decide) (by decide), if_pos rfl, passes_eq hB c0 c1, cl_some]
    by_cases g2 : ND (X 121) ≤ X 121 (48 + c) - tk (X 121) c 0
    · rw [if_pos g2, c1_ok (by decide) (by decide), if_neg (by decide)]
    · rw [if_neg g2, c1_ok (by decide) (by decide), if_pos rfl]
theorem tk_0 {A : Int → Int} (hB : BD A) {c : Int} (c0 : 0 ≤ c) (c1 : c < 60) : tk A c 0 = 0 := by
  obtain ⟨-, h2, -, -, -, -, -, -, -, -, -, -, -, -, -, -, -, ho⟩ := hB
  have ho := ho c c0 c1
  unfold tk
  split
  · rfl
  · have h := (by decide +kernel : ∀ b : Fin 5, ia (ishr 0 (b.val : Int)) 1 = 0) ⟨(A (108 + c)).toNat, by omega⟩
    rw [show (((A (108 + c)).toNat : Nat) : Int) = A (108 + c) from Int.toNat_of_nonneg (by omega)] at h
    rw [h, if_neg (by decide)]
theorem opn_knd {A : Int → Int} {nd a c : Int} : opn A nd a c ↔ knd A nd c = 2 ∨ (knd A nd c = 1 ∧ ia (ishr a (A (108 + c))) 1 = 1) := by
  unfold opn okc knd
  by_cases g : nd ≤ A (48 + c) - tk A c (NS A - 1)
  · rw [if_pos g]
    exact ⟨fun _ => Or.inl rfl, fun _ => Or.inl g⟩
  · rw [if_neg g]
    by_cases g2 : nd ≤ A (48 + c) - tk A c 0
    · rw [if_pos g2]
      constructor
      · rintro (h | ⟨-, h⟩)
        · exact absurd h g
        · exact Or.inr ⟨rfl, h⟩
      · rintro (h | ⟨-, h⟩)
        · exact absurd h (by decide)
        · exact Or.inr ⟨g2, h⟩
    · rw [if_neg g2]
      constructor
      · rintro (h | ⟨h, -⟩)
        · exact absurd h g
        · exact absurd h g2
      · rintro (h | ⟨h, -⟩)
        · exact absurd h (by decide)
        · exact absurd h (by decide)
theorem ld_ne {A : Int → Int} (hB : BD A) {c g : Int} (c0 : 0 ≤ c) (c1 : c < A 0 * A 1) (g0 : 0 ≤ g) (g1 : g < 8) (hn : ld A c g ≠ -1) : ld A c g ≠ c := by
  obtain ⟨hw, hx, hy, hc⟩ := BD_w hB c0 c1
  unfold ld at *
  split at hn
  · rename_i h
    rw [if_pos h]
    intro e
    have h1 : (A 0 * (c / A 0 + dys g) + (c % A 0 + dxs g)) / A 0 = c / A 0 + dys g := by
      rw [Int.mul_add_ediv_left _ _ (by omega), Int.ediv_eq_zero_of_lt h.1.1 h.1.2, Int.add_zero]
    have h2 : (A 0 * (c / A 0 + dys g) + (c % A 0 + dxs g)) % A 0 = c % A 0 + dxs g := by
      rw [Int.mul_add_emod_self_left, Int.emod_eq_of_lt h.1.1 h.1.2]
    rw [e] at h1 h2
    have e1 : dys g = 0 := by omega
    have e2 : dxs g = 0 := by omega
    obtain ⟨g, rfl⟩ := fin8 g0 g1
    exact (by decide +kernel : ∀ g : Fin 8, ¬ (dys (g.val : Int) = 0 ∧ dxs (g.val : Int) = 0)) g ⟨e1, e2⟩
  · exact absurd rfl hn
/-- the two rows that reckons writes -/
def rk (X : Mem) (O M : Int → Int) : Mem := ma (ma X 133 O) 132 M
theorem rk_o {X : Mem} {O M : Int → Int} {i : Int} (h1 : i ≠ 132) (h2 : i ≠ 133) : rk X O M i = X i := by rw [rk, ma_ne h1, ma_ne h2]
theorem rk_133 {X : Mem} {O M : Int → Int} : rk X O M 133 = O := by rw [rk, ma_ne (by decide), ma_same]
theorem rk_132 {X : Mem} {O M : Int → Int} : rk X O M 132 = M := by rw [rk, ma_same]
theorem rk_ms2 {X : Mem} {O M : Int → Int} {k v : Int} : ms (rk X O M) 132 k v = rk X O (up M k v) := by rw [ms_ma, rk_132, rk, ma_ma, rk]
theorem rk_ms3 {X : Mem} {O M : Int → Int} {k v : Int} : ms (rk X O M) 133 k v = rk X (up O k v) M := by
  rw [ms_ma, rk_133, rk, ma_comm (by decide), ma_ma, rk]
theorem rk_self {X : Mem} : rk X (X 133) (X 132) = X := by rw [rk, ma_self, ma_self]
theorem reck_60 {X : Mem} {to a c : Int} {O : Int → Int} (t0 : 0 ≤ to) (t1 : to < 60) (c0 : 0 ≤ c) (c1 : c < 60) (hO : O c = 0 ∨ O c = 1) (go : Int → Int → Int → Mem → Option (Int × Mem)) : ∀ (k : Nat) (h : Int) (M : Int → Int), 0 ≤ h → h ≤ 9 → (9 - h).toNat < k →
    L_X12_reckons_60 go k to a c h (rk X O M) = go to a (c + 1) (rk X O (fl M (9 * c + h) (9 * c + 9) (if c = to ∧ O c = 1 then 0 else FAR))) := by
  intro k
  induction k with
  | zero => intro h M _ _ hk; omega
  | succ k ih =>
    intro h M h0 h1 hk
    rw [L_X12_reckons_60, c2_ok (by omega) (by omega) (by decide) (by decide)]
    by_cases g : 9 ≤ h
    · rw [if_pos g, B_X12_reckons_106, fl_nil (by omega)]
    · rw [if_neg g, c2_ok (by omega) (by omega) (by omega) (by omega)]
      have fin : ∀ v : Int, v = (if c = to ∧ O c = 1 then 0 else FAR) → B_X12_reckons_99 go (fun x1 x2 x3 x5 X => L_X12_reckons_60 go k x1 x2 x3 x5 X) to a c h v (9 * c + h) (rk X O M) = go to a (c + 1) (rk X O (fl M (9 * c + h) (9 * c + 9) (if c = to ∧ O c = 1 then 0 else FAR))) := by
        intro v hv
        rw [B_X12_reckons_99, ax_ok (by omega) (by omega), bd_eq, rk_ms2]
        refine (ih (h + 1) _ (by omega) (by omega) (by omega)).trans ?_
        rw [show 9 * c + (h + 1) = 9 * c + h + 1 from by omega, hv, fl_step (by omega)]
      by_cases e : c = to
      · rw [if_neg (by simpa using e), ax_ok c0 c1, rk_133, c1_ok (by omega) (by omega)]
        by_cases e2 : O c = 0
        · rw [if_pos e2, B_X12_reckons_96]
          exact fin _ (by rw [if_neg (by omega)]; rfl)
        · rw [if_neg e2]
          exact fin _ (by rw [if_pos ⟨e, by omega⟩])
      · rw [if_pos e, B_X12_reckons_96]
        exact fin _ (by rw [if_neg (fun q => e q.1)]; rfl)
/-- after the first loop -/
def P1r (A : Int → Int) (nd a to : Int) (n : Int) (O M : Int → Int) : Prop := ∀ c : Int, 0 ≤ c → c < n → (opn A nd a c → O c = 1) ∧ (¬ opn A nd a c → O c = 0) ∧ ∀ h : Int, 0 ≤ h → h < 9 → M (9 * c + h) = if c = to ∧ O c = 1 then 0 else FAR
theorem reck_2 {X : Mem} {to a : Int} (hB : BD (X 121)) (t0 : 0 ≤ to) (t1 : to < 60) (a0 : inI a) : ∀ (k : Nat) (c : Int) (O M : Int → Int), 0 ≤ c → c ≤ X 121 0 * X 121 1 → (X 121 0 * X 121 1 - c).toNat < k → P1r (X 121) (ND (X 121)) a to c O M →
    ∃ O' M' : Int → Int, L_X12_reckons_2 k to a c (rk X O M) = B_X12_reckons_112 to (rk X O' M') ∧ P1r (X 121) (ND (X 121)) a to (X 121 0 * X 121 1) O' M' := by
  have hc := BD_cells hB
  intro k
  induction k with
  | zero => intro c O M _ _ hk; omega
  | succ k ih =>
    intro c O M c0 c1 hk hP
    have e121 : rk X O M 121 = X 121 := rk_o (by decide) (by decide)
    rw [L_X12_reckons_2, cells_eq, cl_some, e121, c2_ok (by omega) (by omega) (by omega) (by omega)]
    by_cases g : X 121 0 * X 121 1 ≤ c
    · rw [if_pos g]
      refine ⟨O, M, rfl, ?_⟩
      rw [show X 121 0 * X 121 1 = c by omega]
      exact hP
    · have hko := openOf_eq (X := rk X O M) (by rw [e121]; exact hB) (c := c) c0 (by omega)
      rw [e121] at hko
      have hkr : 0 ≤ knd (X 121) (ND (X 121)) c ∧ knd (X 121) (ND (X 121)) c ≤ 2 := by unfold knd; split <;> (try split) <;> omega
      have ho := opn_knd (A := X 121) (nd := ND (X 121)) (a := a) (c := c)
      rw [if_neg g, hko, cl_some, c2_ok (by omega) (by omega) (by decide) (by decide)]
      have hI := ia_I (ishr a (X 121 (108 + c))) 1
      have fin : ∀ v : Int, (opn (X 121) (ND (X 121)) a c → v = 1) → (¬ opn (X 121) (ND (X 121)) a c → v = 0) → ∃ O' M' : Int → Int, B_X12_reckons_56 (fun x1 x2 x3 X => L_X12_reckons_2 k x1 x2 x3 X) to a c v c (rk X O M) = B_X12_reckons_112 to (rk X O' M') ∧ P1r (X 121) (ND (X 121)) a to (X 121 0 * X 121 1) O' M' := by
        intro v v1 v0
        have hv : ia v 1 = v ∧ (v = 0 ∨ v = 1) := by
          by_cases hop : opn (X 121) (ND (X 121)) a c
          · rw [v1 hop]; decide
          · rw [v0 hop]; decide
        rw [B_X12_reckons_56, ax_ok (by omega) (by omega), bd_eq, rk_ms3, hv.1]
        have hO : up O c v c = v := up_same
        rw [reck_60 t0 t1 c0 (by omega) (by rw [hO]; exact hv.2) _ KF 0 M (by decide) (by decide) (by rw [KF_eq]; decide)]
        refine ih (c + 1) _ _ (by omega) (by omega) (by omega) ?_
        intro d d0 d1
        by_cases e : d = c
        · subst e
          rw [hO]
          refine ⟨v1, v0, fun h h0 h1 => ?_⟩
          unfold fl
          rw [if_pos (by omega)]
        · obtain ⟨p1, p2, p3⟩ := hP d d0 (by omega)
          rw [up_ne e]
          refine ⟨p1, p2, fun h h0 h1 => ?_⟩
          unfold fl
          rw [if_neg (by omega)]
          exact p3 h h0 h1
      by_cases g2 : knd (X 121) (ND (X 121)) c = 2
      · rw [if_pos g2, B_X12_reckons_51]
        exact fin 1 (fun _ => rfl) (fun h => absurd (ho.mpr (Or.inl g2)) h)
      · rw [if_neg g2, c2_ok (by omega) (by omega) (by decide) (by decide)]
        by_cases g3 : knd (X 121) (ND (X 121)) c = 1
        · rw [if_neg (by simpa using g3), ax_ok (by omega) (by omega), e121, c2_ok hI.1 hI.2 (by decide) (by decide)]
          by_cases g4 : ia (ishr a (X 121 (108 + c))) 1 = 1
          · rw [if_neg (by simpa using g4), B_X12_reckons_51]
            exact fin 1 (fun _ => rfl) (fun h => absurd (ho.mpr (Or.inr ⟨g3, g4⟩)) h)
          · rw [if_pos g4, B_X12_reckons_55]
            exact fin 0 (fun h => absurd (ho.mp h) (by rintro (h | ⟨-, h⟩); exact g2 h; exact g4 h)) (fun _ => rfl)
        · rw [if_pos g3, B_X12_reckons_55]
          exact fin 0 (fun h => absurd (ho.mp h) (by rintro (h | ⟨h, -⟩); exact g2 h; exact g3 h)) (fun _ => rfl)
theorem sm_mono {f g : Int → Int} : ∀ n : Nat, (∀ q : Int, 0 ≤ q → q < n → g q ≤ f q) → sm g n ≤ sm f n
  | 0, _ => Int.le_refl _
  | n + 1, h => by
    have h1 := sm_mono n (fun q a b => h q a (by omega))
    have h2 := h n (by omega) (by omega)
    show sm g n + g n ≤ sm f n + f n
    omega
theorem sm_less {f g : Int → Int} : ∀ (n : Nat) (p : Int), 0 ≤ p → p < n → g p < f p → (∀ q : Int, 0 ≤ q → q < n → g q ≤ f q) → sm g n < sm f n
  | 0, p, _, _, _, _ => by omega
  | n + 1, p, p0, p1, hp, h => by
    have h2 := h n (by omega) (by omega)
    show sm g n + g n < sm f n + f n
    by_cases e : p = n
    · subst e
      have h1 := sm_mono n (fun q a b => h q a (by omega))
      omega
    · have h1 := sm_less n p p0 (by omega) hp (fun q a b => h q a (by omega))
      omega
section RECK
variable {A : Int → Int} {nd a to : Int}
/-- what relaxing keeps -/
def RIN (A : Int → Int) (nd a to : Int) (M : Int → Int) : Prop := ∀ c : Int, 0 ≤ c → c < A 0 * A 1 → ∀ h : Int, 0 ≤ h → h < 9 → (0 ≤ M (9 * c + h) ∧ M (9 * c + h) ≤ FAR) ∧ (opn A nd a c → c = to → M (9 * c + h) = 0) ∧ (¬ opn A nd a c → M (9 * c + h) = FAR) ∧
  (opn A nd a c → c ≠ to → M (9 * c + h) = FAR ∨ ∃ g : Int, 0 ≤ g ∧ g < 8 ∧ ld A c g ≠ -1 ∧ opn A nd a (ld A c g) ∧ M (9 * ld A c g + g) ≠ FAR ∧ stp A g + trn A h g + M (9 * ld A c g + g) ≤ M (9 * c + h))
/-- a cell's numbers agree with its neighbours' -/
def CON (A : Int → Int) (nd a to : Int) (M : Int → Int) (c : Int) : Prop := opn A nd a c → c ≠ to → ∀ h : Int, 0 ≤ h → h < 9 → ∀ g : Int, 0 ≤ g → g < 8 → ld A c g ≠ -1 → opn A nd a (ld A c g) → M (9 * ld A c g + g) ≠ FAR → M (9 * c + h) ≤ stp A g + trn A h g + M (9 * ld A c g + g)
theorem RIN.fix {M : Int → Int} (h : RIN A nd a to M) (hC : ∀ c : Int, 0 ≤ c → c < A 0 * A 1 → CON A nd a to M c) : FIX A nd a to (fun c h => M (9 * c + h)) := by
  intro c c0 c1 hd h0 h1
  obtain ⟨i1, i2, i3, i4⟩ := h c c0 c1 hd h0 h1
  refine ⟨i1, i2, i3, fun ho hc => ⟨fun g g0 g1 hn hp hV => hC c c0 c1 ho hc hd h0 h1 g g0 g1 hn hp hV, ?_⟩⟩
  rcases i4 ho hc with e | ⟨g, g0, g1, e1, e2, e3, e4⟩
  · exact Or.inl e
  · exact Or.inr ⟨g, g0, g1, e1, e2, e3, Int.le_antisymm (hC c c0 c1 ho hc hd h0 h1 g g0 g1 e1 e2 e3) e4⟩
theorem RIN.relax (hB : BD A) {M : Int → Int} (hM : RIN A nd a to M) {c b g : Int} (c0 : 0 ≤ c) (c1 : c < A 0 * A 1) (b0 : 0 ≤ b) (b1 : b < 9) (g0 : 0 ≤ g) (g1 : g < 8) (ho : opn A nd a c) (hc : c ≠ to) (hn : ld A c g ≠ -1) (hno : opn A nd a (ld A c g)) (hV : M (9 * ld A c g + g) ≠ FAR) (hlt : stp A g + trn A b g + M (9 * ld A c g + g) < M (9 * c + b)) : RIN A nd a to (up M (9 * c + b) (stp A g + trn A b g + M (9 * ld A c g + g))) := by
  intro d d0 d1 h h0 h1
  obtain ⟨i1, i2, i3, i4⟩ := hM d d0 d1 h h0 h1
  have hr := ld_r hB hn
  have hne := ld_ne hB c0 c1 g0 g1 hn
  obtain ⟨⟨j1, j2⟩, -⟩ := hM (ld A c g) hr.1 hr.2 g g0 (by omega)
  have hst := stp_r hB (g := g)
  have htr := trn_r hB b0 b1 g0 g1
  -- any place read: smaller, and not far if it was not
  have key : ∀ q : Int, M q ≠ FAR → M q ≤ FAR → up M (9 * c + b) (stp A g + trn A b g + M (9 * ld A c g + g)) q ≠ FAR ∧ up M (9 * c + b) (stp A g + trn A b g + M (9 * ld A c g + g)) q ≤ M q := by
    intro q hq hq2
    unfold up
    by_cases e : q = 9 * c + b
    · subst e
      rw [if_pos rfl]
      omega
    · rw [if_neg e]
      exact ⟨hq, Int.le_refl _⟩
  by_cases e : d = c ∧ h = b
  · obtain ⟨rfl, rfl⟩ := e
    have jb := (hM d d0 d1 h h0 h1).1
    rw [up_same]
    refine ⟨by omega, fun _ q => absurd q hc, fun q => absurd ho q, fun _ _ => Or.inr ⟨g, g0, g1, hn, hno, ?_, ?_⟩⟩
    · rw [up_ne (by omega)]
      exact hV
    · rw [up_ne (by omega)]
      exact Int.le_refl _
  · rw [up_ne (by omega)]
    refine ⟨i1, i2, i3, fun p1 p2 => ?_⟩
    rcases i4 p1 p2 with f | ⟨g', g0', g1', e1, e2, e3, e4⟩
    · exact Or.inl f
    · have hr' := ld_r hB e1
      have kk := key _ e3 (hM (ld A d g') hr'.1 hr'.2 g' g0' (by omega)).1.2
      exact Or.inr ⟨g', g0', g1', e1, e2, kk.1, by omega⟩
end RECK
theorem bet_78 {X : Mem} {a to c g : Int} {O : Int → Int} (hB : BD (X 121)) {n : Nat} (hnn : (n : Int) = 9 * (X 121 0 * X 121 1)) (c0 : 0 ≤ c) (c1 : c < X 121 0 * X 121 1) (g0 : 0 ≤ g) (g1 : g < 8) (ho : opn (X 121) (ND (X 121)) a c) (hc : c ≠ to) (hn : ld (X 121) c g ≠ -1) (hno : opn (X 121) (ND (X 121)) a (ld (X 121) c g)) (go : Int → Int → Int → Mem → Option (Int × Mem)) : ∀ (k : Nat) (b fw : Int) (M : Int → Int), 0 ≤ b → b ≤ 9 → (9 - b).toNat < k → RIN (X 121) (ND (X 121)) a to M → M (9 * ld (X 121) c g + g) ≠ FAR →
    ∃ (M' : Int → Int) (fw' : Int), L_X12_betters_78 go k c fw g (ld (X 121) c g) b (rk X O M) = go c fw' (g + 1) (rk X O M') ∧ RIN (X 121) (ND (X 121)) a to M' ∧ (∀ q : Int, M' q ≤ M q) ∧ (∀ q : Int, (q < 9 * c ∨ 9 * c + 9 ≤ q) → M' q = M q) ∧ (∀ b' : Int, b ≤ b' → b' < 9 → M' (9 * c + b') ≤ stp (X 121) g + trn (X 121) b' g + M (9 * ld (X 121) c g + g)) ∧ ((fw' = fw ∧ M' = M) ∨ (fw' = 1 ∧ sm M' n < sm M n)) := by
  have hcl := BD_cells hB
  have hr := ld_r hB hn
  have hne := ld_ne hB c0 c1 g0 g1 hn
  intro k
  induction k with
  | zero => intro b fw M _ _ hk; omega
  | succ k ih =>
    intro b fw M b0 b1 hk hM hV
    rw [L_X12_betters_78, c2_ok (by omega) (by omega) (by decide) (by decide)]
    by_cases e : 9 ≤ b
    · rw [if_pos e]
      exact ⟨M, fw, rfl, hM, fun _ => Int.le_refl _, fun _ _ => rfl, fun b' h1 h2 => by omega, Or.inl ⟨rfl, rfl⟩⟩
    · have e121 : rk X O M 121 = X 121 := rk_o (by decide) (by decide)
      have hst := stp_r hB (g := g)
      have htr := trn_r hB b0 (show b < 9 by omega) g0 g1
      obtain ⟨⟨j1, j2⟩, -⟩ := hM (ld (X 121) c g) hr.1 hr.2 g g0 (by omega)
      obtain ⟨⟨j3, j4⟩, -⟩ := hM c c0 c1 b b0 (by omega)
      unfold FAR at j2 j4
      have hsm := stepm_eq (X := rk X O M) (by rw [e121]; exact hB) b0 (show b < 9 by omega) g0 g1
      rw [e121] at hsm
      rw [if_neg e, hsm, cl_some, rk_132, ax_ok (by omega) (by omega), bd_eq, ax_ok (by omega) (by omega), c2_ok (by omega) (by omega) (by omega) (by omega)]
      by_cases e2 : stp (X 121) g + trn (X 121) b g + M (9 * ld (X 121) c g + g) < M (9 * c + b)
      · rw [if_pos e2, ax_ok (by omega) (by omega), bd_eq, rk_ms2, B_X12_betters_145]
        obtain ⟨M', fw', h1, h2, h3, h4, h5, h6⟩ := ih (b + 1) 1 _ (by omega) (by omega) (by omega) (hM.relax hB c0 c1 b0 (by omega) g0 g1 ho hc hn hno hV e2) (by rw [up_ne (by omega)]; exact hV)
        have hle : ∀ q : Int, M' q ≤ M q := by
          intro q
          have := h3 q
          unfold up at this
          split at this
          · rename_i e3
            rw [e3] at this ⊢
            omega
          · exact this
        refine ⟨M', fw', h1, h2, hle, fun q hq => ?_, fun b' p1 p2 => ?_, ?_⟩
        · rw [h4 q hq, up_ne (by omega)]
        · by_cases e3 : b' = b
          · subst e3
            have := h3 (9 * c + b')
            rw [up_same] at this
            exact this
          · have := h5 b' (by omega) p2
            rw [up_ne (by omega)] at this
            exact this
        · have hlt : sm M' n < sm M n := sm_less n (9 * c + b) (by omega) (by omega) (by
            have := h3 (9 * c + b)
            rw [up_same] at this
            omega) (fun q _ _ => hle q)
          rcases h6 with ⟨h6, -⟩ | ⟨h6, -⟩
          · exact Or.inr ⟨h6, hlt⟩
          · exact Or.inr ⟨h6, hlt⟩
      · rw [if_neg e2, B_X12_betters_145]
        obtain ⟨M', fw', h1, h2, h3, h4, h5, h6⟩ := ih (b + 1) fw M (by omega) (by omega) (by omega) hM hV
        refine ⟨M', fw', h1, h2, h3, h4, fun b' p1 p2 => ?_, h6⟩
        by_cases e3 : b' = b
        · subst e3
          have := h3 (9 * c + b')
          omega
        · exact h5 b' (by omega) p2
theorem bet_21 {X : Mem} {a to c : Int} {O : Int → Int} (hB : BD (X 121)) {n : Nat} (hnn : (n : Int) = 9 * (X 121 0 * X 121 1)) (c0 : 0 ≤ c) (c1 : c < X 121 0 * X 121 1) (hO : ∀ d : Int, 0 ≤ d → d < X 121 0 * X 121 1 → (opn (X 121) (ND (X 121)) a d → O d = 1) ∧ (¬ opn (X 121) (ND (X 121)) a d → O d = 0)) (ho : opn (X 121) (ND (X 121)) a c) (hc : c ≠ to) : ∀ (k : Nat) (g fw : Int) (M : Int → Int), 0 ≤ g → g ≤ 8 → (8 - g).toNat < k → (fw = 0 ∨ fw = 1) → RIN (X 121) (ND (X 121)) a to M →
    ∃ (M' : Int → Int) (fw' : Int), L_X12_betters_21 k c fw g (rk X O M) = some (fw', rk X O M') ∧ (fw' = 0 ∨ fw' = 1) ∧ RIN (X 121) (ND (X 121)) a to M' ∧ (∀ q : Int, M' q ≤ M q) ∧ (∀ q : Int, (q < 9 * c ∨ 9 * c + 9 ≤ q) → M' q = M q) ∧
      (∀ g' : Int, g ≤ g' → g' < 8 → ld (X 121) c g' ≠ -1 → opn (X 121) (ND (X 121)) a (ld (X 121) c g') → M (9 * ld (X 121) c g' + g') ≠ FAR → ∀ h : Int, 0 ≤ h → h < 9 → M' (9 * c + h) ≤ stp (X 121) g' + trn (X 121) h g' + M (9 * ld (X 121) c g' + g')) ∧ ((fw' = fw ∧ M' = M) ∨ (fw' = 1 ∧ sm M' n < sm M n)) := by
  have hcl := BD_cells hB
  intro k
  induction k with
  | zero => intro g fw M _ _ hk; omega
  | succ k ih =>
    intro g fw M g0 g1 hk hf hM
    rw [L_X12_betters_21, c2_ok (by omega) (by omega) (by decide) (by decide)]
    by_cases e : 8 ≤ g
    · rw [if_pos e, cz_ok hf]
      exact ⟨M, fw, rfl, hf, hM, fun _ => Int.le_refl _, fun _ _ => rfl, fun g' p1 p2 => by omega, Or.inl ⟨rfl, rfl⟩⟩
    · have e121 : rk X O M 121 = X 121 := rk_o (by decide) (by decide)
      have hL := leads_eq (X := rk X O M) (by rw [e121]; exact hB) (c := c) (h := g) c0 (by rw [e121]; exact c1) g0 (by omega)
      rw [e121] at hL
      -- the rest of the headings, out of one row
      have skip : ¬ (ld (X 121) c g ≠ -1 ∧ opn (X 121) (ND (X 121)) a (ld (X 121) c g) ∧ M (9 * ld (X 121) c g + g) ≠ FAR) → ∃ (M' : Int → Int) (fw' : Int), L_X12_betters_21 k c fw (g + 1) (rk X O M) = some (fw', rk X O M') ∧ (fw' = 0 ∨ fw' = 1) ∧ RIN (X 121) (ND (X 121)) a to M' ∧ (∀ q : Int, M' q ≤ M q) ∧ (∀ q : Int, (q < 9 * c ∨ 9 * c + 9 ≤ q) → M' q = M q) ∧
          (∀ g' : Int, g ≤ g' → g' < 8 → ld (X 121) c g' ≠ -1 → opn (X 121) (ND (X 121)) a (ld (X 121) c g') → M (9 * ld (X 121) c g' + g') ≠ FAR → ∀ h : Int, 0 ≤ h → h < 9 → M' (9 * c + h) ≤ stp (X 121) g' + trn (X 121) h g' + M (9 * ld (X 121) c g' + g')) ∧ ((fw' = fw ∧ M' = M) ∨ (fw' = 1 ∧ sm M' n < sm M n)) := by
        intro hns
        obtain ⟨M', fw', h1, h2, h3, h4, h5, h6, h7⟩ := ih (g + 1) fw M (by omega) (by omega) (by omega) hf hM
        refine ⟨M', fw', h1, h2, h3, h4, h5, fun g' p1 p2 q1 q2 q3 => ?_, h7⟩
        by_cases e3 : g' = g
        · subst e3
          exact absurd ⟨q1, q2, q3⟩ hns
        · exact h6 g' (by omega) p2 q1 q2 q3
      rw [if_neg e, hL, cl_some]
      have hlr : -1 ≤ ld (X 121) c g ∧ ld (X 121) c g < 60 := by
        by_cases en : ld (X 121) c g = -1
        · omega
        · have := ld_r hB en
          omega
      rw [c2_ok (by omega) (by omega) (by decide) (by decide)]
      by_cases en : ld (X 121) c g = -1
      · rw [if_pos en, B_X12_betters_151]
        exact skip (fun q => q.1 en)
      · have hr := ld_r hB en
        obtain ⟨o1, o2⟩ := hO _ hr.1 hr.2
        rw [if_neg en, ax_ok hr.1 (by omega), rk_133]
        by_cases eo : opn (X 121) (ND (X 121)) a (ld (X 121) c g)
        · have jj := (hM _ hr.1 hr.2 g g0 (by omega)).1
          unfold FAR at jj
          rw [o1 eo, c1_ok (by decide) (by decide), if_neg (by decide), ax_ok (by omega) (by omega), rk_132, c2_ok (by omega) (by omega) (by decide) (by decide)]
          by_cases eV : M (9 * ld (X 121) c g + g) = 100000000
          · rw [if_neg (by simpa using eV), B_X12_betters_151]
            exact skip (fun q => q.2.2 eV)
          · rw [if_pos eV]
            have k1 : 0 ≤ g + 1 := by omega
            have k2 : g + 1 ≤ 8 := by omega
            have k3 : (8 - (g + 1)).toNat < k := by
              clear skip ih
              omega
            obtain ⟨M1, fw1, h1, h2, h3, h4, h5, h6⟩ := bet_78 (O := O) hB hnn c0 c1 g0 (by omega) ho hc en eo (fun x1 x3 x4 X => L_X12_betters_21 k x1 x3 x4 X) KF 0 fw M (by decide) (by decide) (by rw [KF_eq]; decide) hM eV
            have hf1 : fw1 = 0 ∨ fw1 = 1 := by
              rcases h6 with ⟨h6, -⟩ | ⟨h6, -⟩
              · rw [h6]; exact hf
              · exact Or.inr h6
            obtain ⟨M', fw', i1, i2, i3, i4, i5, i6, i7⟩ := ih (g + 1) fw1 M1 k1 k2 k3 hf1 h2
            refine ⟨M', fw', h1.trans i1, i2, i3, fun q => Int.le_trans (i4 q) (h3 q), fun q hq => (i5 q hq).trans (h4 q hq), fun g' p1 p2 q1 q2 q3 h b0 b1 => ?_, ?_⟩
            · by_cases e3 : g' = g
              · subst e3
                exact Int.le_trans (i4 _) (h5 h b0 b1)
              · have hr' := ld_r hB q1
                have hne' := ld_ne hB c0 c1 (show 0 ≤ g' by omega) p2 q1
                have eq1 := h4 (9 * ld (X 121) c g' + g') (by omega)
                have := i6 g' (by omega) p2 q1 q2 (by rw [eq1]; exact q3) h b0 b1
                rw [eq1] at this
                exact this
            · rcases h6 with ⟨a1, a2⟩ | ⟨a1, a2⟩
              · rcases i7 with ⟨a3, a4⟩ | ⟨a3, a4⟩
                · exact Or.inl ⟨a3.trans a1, a4.trans a2⟩
                · rw [a2] at a4
                  exact Or.inr ⟨a3, a4⟩
              · rcases i7 with ⟨a3, a4⟩ | ⟨a3, a4⟩
                · rw [a4]
                  exact Or.inr ⟨a3.trans a1, a2⟩
                · exact Or.inr ⟨a3, by omega⟩
        · rw [o2 eo, c1_ok (by decide) (by decide), if_pos rfl, B_X12_betters_151]
          exact skip (fun q => eo q.2.1)
theorem bet_eq {X : Mem} {a to c : Int} {O : Int → Int} (hB : BD (X 121)) {n : Nat} (hnn : (n : Int) = 9 * (X 121 0 * X 121 1)) (c0 : 0 ≤ c) (c1 : c < X 121 0 * X 121 1) (t0 : 0 ≤ to) (t1 : to < 60) (hO : ∀ d : Int, 0 ≤ d → d < X 121 0 * X 121 1 → (opn (X 121) (ND (X 121)) a d → O d = 1) ∧ (¬ opn (X 121) (ND (X 121)) a d → O d = 0)) (M : Int → Int) (hM : RIN (X 121) (ND (X 121)) a to M) :
    ∃ (M' : Int → Int) (fw : Int), f_X12_betters c to (rk X O M) = some (fw, rk X O M') ∧ RIN (X 121) (ND (X 121)) a to M' ∧ (∀ q : Int, M' q ≤ M q) ∧ ((fw = 0 ∧ M' = M ∧ CON (X 121) (ND (X 121)) a to M c) ∨ (fw = 1 ∧ sm M' n < sm M n)) := by
  have hcl := BD_cells hB
  unfold f_X12_betters
  rw [c2_ok (by omega) (by omega) (by omega) (by omega)]
  by_cases e : c = to
  · rw [if_pos e]
    exact ⟨M, 0, rfl, hM, fun _ => Int.le_refl _, Or.inl ⟨rfl, rfl, fun _ q => absurd e q⟩⟩
  · rw [if_neg e, ax_ok c0 (by omega), rk_133]
    obtain ⟨o1, o2⟩ := hO c c0 c1
    by_cases ho : opn (X 121) (ND (X 121)) a c
    · rw [o1 ho, c1_ok (by decide) (by decide), if_pos (by decide)]
      obtain ⟨M', fw', h1, h2, h3, h4, h5, h6, h7⟩ := bet_21 (O := O) hB hnn c0 c1 hO ho e KF 0 0 M (by decide) (by decide) (by rw [KF_eq]; decide) (Or.inl rfl) hM
      refine ⟨M', fw', h1, h3, h4, ?_⟩
      rcases h7 with ⟨a1, a2⟩ | ⟨a1, a2⟩
      · refine Or.inl ⟨a1, a2, fun _ _ h b0 b1 g g0 g1 q1 q2 q3 => ?_⟩
        have := h6 g g0 g1 q1 q2 q3 h b0 b1
        rw [a2] at this
        exact this
      · exact Or.inr ⟨a1, a2⟩
    · rw [o2 ho, c1_ok (by decide) (by decide), if_neg (by decide)]
      exact ⟨M, 0, rfl, hM, fun _ => Int.le_refl _, Or.inl ⟨rfl, rfl, fun q => absurd q ho⟩⟩
theorem reck_123 {X : Mem} {a to : Int} {O : Int → Int} (hB : BD (X 121)) {n : Nat} (hnn : (n : Int) = 9 * (X 121 0 * X 121 1)) (t0 : 0 ≤ to) (t1 : to < 60) (hO : ∀ d : Int, 0 ≤ d → d < X 121 0 * X 121 1 → (opn (X 121) (ND (X 121)) a d → O d = 1) ∧ (¬ opn (X 121) (ND (X 121)) a d → O d = 0)) (go : Int → Int → Mem → Option (Int × Mem)) : ∀ (k : Nat) (c fw : Int) (M : Int → Int), 0 ≤ c → c ≤ X 121 0 * X 121 1 → (X 121 0 * X 121 1 - c).toNat < k → (fw = 0 ∨ fw = 1) → RIN (X 121) (ND (X 121)) a to M →
    ∃ (M' : Int → Int) (fw' : Int), L_X12_reckons_123 go k to fw c (rk X O M) = go to fw' (rk X O M') ∧ RIN (X 121) (ND (X 121)) a to M' ∧ (∀ q : Int, M' q ≤ M q) ∧ ((fw' = fw ∧ M' = M ∧ ∀ d : Int, c ≤ d → d < X 121 0 * X 121 1 → CON (X 121) (ND (X 121)) a to M d) ∨ (fw' = 1 ∧ (sm M' n < sm M n ∨ (fw = 1 ∧ sm M' n ≤ sm M n)))) := by
  have hcl := BD_cells hB
  intro k
  induction k with
  | zero => intro c fw M _ _ hk; omega
  | succ k ih =>
    intro c fw M c0 c1 hk hf hM
    have e121 : rk X O M 121 = X 121 := rk_o (by decide) (by decide)
    rw [L_X12_reckons_123, cells_eq, cl_some, e121, c2_ok (by omega) (by omega) (by omega) (by omega)]
    by_cases e : X 121 0 * X 121 1 ≤ c
    · rw [if_pos e, B_X12_reckons_158]
      exact ⟨M, fw, rfl, hM, fun _ => Int.le_refl _, Or.inl ⟨rfl, rfl, fun d p1 p2 => by omega⟩⟩
    · obtain ⟨M1, f1, h1, h2, h3, h4⟩ := bet_eq (O := O) hB hnn c0 (by omega) t0 t1 hO M hM
      rw [if_neg e, h1, cl_some]
      rcases h4 with ⟨a1, a2, a3⟩ | ⟨a1, a2⟩
      · rw [a1, c1_ok (by decide) (by decide), if_neg (by decide), c1_ok (by omega) (by omega)]
        obtain ⟨M', fw', i1, i2, i3, i4⟩ := ih (c + 1) fw M1 (by omega) (by omega) (by omega) hf h2
        refine ⟨M', fw', ?_, i2, fun q => Int.le_trans (i3 q) (h3 q), ?_⟩
        · rcases hf with e0 | e0
          · rw [e0] at i1 ⊢
            rw [if_pos rfl, B_X12_reckons_151]
            exact i1
          · rw [e0] at i1 ⊢
            rw [if_neg (by decide), B_X12_reckons_146, B_X12_reckons_151]
            exact i1
        · subst a2
          rcases i4 with ⟨b1, b2, b3⟩ | b
          · refine Or.inl ⟨b1, b2, fun d p1 p2 => ?_⟩
            by_cases e3 : d = c
            · rw [e3]
              exact a3
            · exact b3 d (by omega) p2
          · exact Or.inr b
      · rw [a1, c1_ok (by decide) (by decide), if_pos (by decide), B_X12_reckons_146, B_X12_reckons_151]
        obtain ⟨M', fw', i1, i2, i3, i4⟩ := ih (c + 1) 1 M1 (by omega) (by omega) (by omega) (Or.inr rfl) h2
        refine ⟨M', fw', i1, i2, fun q => Int.le_trans (i3 q) (h3 q), Or.inr ?_⟩
        rcases i4 with ⟨b1, b2, b3⟩ | ⟨b1, b2 | ⟨-, b2⟩⟩
        · rw [b2]
          exact ⟨b1, Or.inl a2⟩
        · exact ⟨b1, Or.inl (by omega)⟩
        · exact ⟨b1, Or.inl (by omega)⟩
theorem reck_114 {X : Mem} {a to : Int} {O : Int → Int} (hB : BD (X 121)) {n : Nat} (hnn : (n : Int) = 9 * (X 121 0 * X 121 1)) (t0 : 0 ≤ to) (t1 : to < 60) (hO : ∀ d : Int, 0 ≤ d → d < X 121 0 * X 121 1 → (opn (X 121) (ND (X 121)) a d → O d = 1) ∧ (¬ opn (X 121) (ND (X 121)) a d → O d = 0)) : ∀ (k : Nat) (M : Int → Int), (sm M n).toNat + 1 < k → RIN (X 121) (ND (X 121)) a to M →
    ∃ M' : Int → Int, L_X12_reckons_114 k to 1 (rk X O M) = some (0, rk X O M') ∧ RIN (X 121) (ND (X 121)) a to M' ∧ ∀ d : Int, 0 ≤ d → d < X 121 0 * X 121 1 → CON (X 121) (ND (X 121)) a to M' d := by
  have hcl := BD_cells hB
  have nonneg : ∀ M : Int → Int, RIN (X 121) (ND (X 121)) a to M → 0 ≤ sm M n := by
    intro M hM
    refine sm_nn n fun q hq => ?_
    have := (hM ((q : Int) / 9) (by omega) (by omega) ((q : Int) % 9) (by omega) (by omega)).1.1
    rw [show 9 * ((q : Int) / 9) + (q : Int) % 9 = q from by omega] at this
    exact this
  intro k
  induction k with
  | zero => intro M hk; omega
  | succ k ih =>
    intro M hk hM
    rw [L_X12_reckons_114, c1_ok (by decide) (by decide), if_neg (by decide)]
    obtain ⟨M1, f1, h1, h2, h3, h4⟩ := reck_123 (O := O) hB hnn t0 t1 hO (fun x1 x3 X => L_X12_reckons_114 k x1 x3 X) KF 0 0 M (by decide) hcl.1 (by rw [KF_eq]; omega) (Or.inl rfl) hM
    rw [h1]
    have n1 := nonneg M hM
    have n2 := nonneg M1 h2
    rcases h4 with ⟨a1, a2, a3⟩ | ⟨a1, a2 | ⟨a2, -⟩⟩
    · refine ⟨M1, ?_, h2, ?_⟩
      · show L_X12_reckons_114 k to f1 (rk X O M1) = _
        obtain ⟨k', rfl⟩ : ∃ k', k = k' + 1 := ⟨k - 1, by omega⟩
        rw [a1, L_X12_reckons_114, c1_ok (by decide) (by decide), if_pos rfl]
      · rw [a2]
        exact a3
    · obtain ⟨M', i1, i2, i3⟩ := ih M1 (by omega) h2
      refine ⟨M', ?_, i2, i3⟩
      show L_X12_reckons_114 k to f1 (rk X O M1) = _
      rw [a1]
      exact i1
    · exact absurd a2 (by decide)
/-- what reckons leaves: which cells are open, and a fixed point -/
theorem reckons_eq {X : Mem} (hB : BD (X 121)) {to a : Int} (t0 : 0 ≤ to) (t1 : to < X 121 0 * X 121 1) (ha : inI a) : ∃ O M : Int → Int, f_X12_reckons to a X = some (0, rk X O M) ∧ FIX (X 121) (ND (X 121)) a to (fun c h => M (9 * c + h)) ∧ ∀ d : Int, 0 ≤ d → d < X 121 0 * X 121 1 → (opn (X 121) (ND (X 121)) a d → O d = 1) ∧ (¬ opn (X 121) (ND (X 121)) a d → O d = 0) := by
  have hcl := BD_cells hB
  unfold f_X12_reckons
  obtain ⟨O, M, h1, h2⟩ := reck_2 hB t0 (show to < 60 by omega) ha KF 0 (X 133) (X 132) (by decide) hcl.1 (by rw [KF_eq]; omega) (fun c c0 c1 => by omega)
  rw [rk_self] at h1
  rw [h1, B_X12_reckons_112]
  have hM : RIN (X 121) (ND (X 121)) a to M := by
    intro c c0 c1 h b0 b1
    obtain ⟨p1, p2, p3⟩ := h2 c c0 c1
    rw [p3 h b0 b1]
    refine ⟨by unfold FAR; split <;> omega, fun q1 q2 => if_pos ⟨q2, p1 q1⟩, fun q => if_neg (by rw [p2 q]; omega), fun q1 q2 => Or.inl (if_neg fun q => q2 q.1)⟩
  obtain ⟨n, hnn⟩ : ∃ n : Nat, (n : Int) = 9 * (X 121 0 * X 121 1) := ⟨(9 * (X 121 0 * X 121 1)).toNat, Int.toNat_of_nonneg (by omega)⟩
  have hub : ∀ m : Nat, m ≤ n → sm M m ≤ 100000000 * m := by
    intro m
    induction m with
    | zero => intro _; exact Int.le_refl _
    | succ m im =>
      intro hm
      have i1 := im (by omega)
      have := (hM ((m : Int) / 9) (by omega) (by omega) ((m : Int) % 9) (by omega) (by omega)).1.2
      rw [show 9 * ((m : Int) / 9) + (m : Int) % 9 = m from by omega] at this
      unfold FAR at this
      show sm M m + M m ≤ _
      omega
  have := hub n (Nat.le_refl _)
  obtain ⟨M', i1, i2, i3⟩ := reck_114 (O := O) hB hnn t0 (show to < 60 by omega) (fun d d0 d1 => ⟨(h2 d d0 d1).1, (h2 d d0 d1).2.1⟩) KF M (by rw [KF_eq]; omega) hM
  exact ⟨O, M', i1, i2.fix i3, fun d d0 d1 => ⟨(h2 d d0 d1).1, (h2 d d0 d1).2.1⟩⟩
/-- the reference's way to FEW -/
theorem readies_87 {f to : Int} {A : Int → Int} (hB : BD A) (f0 : 0 ≤ f) (f1 : f < A 0 * A 1) (t0 : 0 ≤ to) (t1 : to < A 0 * A 1) : ∀ (k : Nat) (a : Int) (Y : Mem), 0 ≤ a → a ≤ NS A → (NS A - a).toNat < k → Y 121 = A → (∀ b : Int, 0 ≤ b → b < a → FEW A (ND A) f to b (Y 134 b)) →
    ∃ Y' : Mem, L_X12_readies_87 k f to a Y = some (0, Y') ∧ (∀ i : Int, i ≠ 132 → i ≠ 133 → i ≠ 134 → Y' i = Y i) ∧ ∀ b : Int, 0 ≤ b → b < NS A → FEW A (ND A) f to b (Y' 134 b) := by
  have hcl := BD_cells hB
  have hN := NS_r hB.2.1
  intro k
  induction k with
  | zero => intro a Y _ _ hk; omega
  | succ k ih =>
    intro a Y a0 a1 hk hA hF
    subst hA
    rw [L_X12_readies_87, sets_eq, cl_some, show ishl 1 (Y 121 2) = NS (Y 121) from rfl, c2_ok (by omega) (by omega) (by omega) (by omega)]
    by_cases g : NS (Y 121) ≤ a
    · rw [if_pos g]
      exact ⟨Y, rfl, fun _ _ _ _ => rfl, fun b b0 b1 => hF b b0 (by omega)⟩
    · obtain ⟨O, M, e1, e2, e3⟩ := reckons_eq hB (to := to) (a := a) t0 t1 ⟨by omega, by omega⟩
      have fin : ∀ v : Int, FEW (Y 121) (ND (Y 121)) f to a v → ∃ Y' : Mem, B_X12_readies_152 (fun x1 x2 x4 X => L_X12_readies_87 k x1 x2 x4 X) f to a v a (rk Y O M) = some (0, Y') ∧ (∀ i : Int, i ≠ 132 → i ≠ 133 → i ≠ 134 → Y' i = Y i) ∧ ∀ b : Int, 0 ≤ b → b < NS (Y 121) → FEW (Y 121) (ND (Y 121)) f to b (Y' 134 b) := by
        intro v hv
        rw [B_X12_readies_152, ax_ok a0 (by omega), bd_eq]
        obtain ⟨Y', i1, i2, i3⟩ := ih (a + 1) (ms (rk Y O M) 134 a v) (by omega) (by omega) (by omega) (by rw [ms_ne (by decide), rk_o (by decide) (by decide)]) (fun b b0 b1 => by
          by_cases e : b = a
          · subst e
            rw [ms_s]
            exact hv
          · rw [ms_k e, rk_o (by decide) (by decide)]
            exact hF b b0 (by omega))
        exact ⟨Y', i1, fun i j1 j2 j3 => by rw [i2 i j1 j2 j3, ms_ne j3, rk_o j1 j2], i3⟩
      rw [if_neg g, e1, cl_some, ax_ok f0 (by omega), rk_133]
      obtain ⟨o1, o2⟩ := e3 f f0 f1
      by_cases ho : opn (Y 121) (ND (Y 121)) a f
      · have hb : 0 ≤ M (9 * f + 8) ∧ M (9 * f + 8) ≤ 100000000 := (e2 f f0 f1 8 (by decide) (by decide)).1
        rw [o1 ho, c1_ok (by decide) (by decide), if_neg (by decide), ax_ok (by omega) (by omega), rk_132, c2_ok (by omega) (by omega) (by decide) (by decide)]
        by_cases g2 : 100000000 ≤ M (9 * f + 8)
        · rw [if_pos g2, B_X12_readies_151]
          exact fin _ ⟨_, e2, Or.inr ⟨fun q => by have := q.2; unfold FAR at this; omega, rfl⟩⟩
        · rw [if_neg g2, ax_ok (by omega) (by omega)]
          exact fin _ ⟨_, e2, Or.inl ⟨ho, by unfold FAR; omega, rfl⟩⟩
      · rw [o2 ho, c1_ok (by decide) (by decide), if_pos rfl, B_X12_readies_151]
        exact fin _ ⟨_, e2, Or.inr ⟨fun q => ho q.1, rfl⟩⟩
theorem readies_eq {cn : Int} {X : Mem} {f to : Int} (hB : BD (X 121)) (hC : CK cn X) (hn : cn ≤ 1000) (f0 : 0 ≤ f) (f1 : f < X 121 0 * X 121 1) (t0 : 0 ≤ to) (t1 : to < X 121 0 * X 121 1) : ∃ Y : Mem, f_X12_readies f to X = some (0, Y) ∧ (∀ i k : Int, ¬ (i = 120 ∧ 31 ≤ k ∧ k ≤ 34) → i ≠ 132 → i ≠ 133 → i ≠ 134 → Y i k = X i k) ∧ (∀ a : Int, 0 ≤ a → a < NS (X 121) → FEW (X 121) (ND (X 121)) f to a (Y 134 a)) ∧ CK cn Y := by
  have hcl := BD_cells hB
  have hN := NS_r hB.2.1
  have hnd := ND_r hB
  have hst := stg_r hB (d := X 121 3) hB.2.2.1.1
  obtain ⟨⟨v0, v1⟩, ⟨c1, c2, c3, c4, c5⟩, c6⟩ := hC
  unfold f_X12_readies
  rw [ax_ok (by decide) (by decide), ax_ok (by decide) (by decide), ax_ok (by decide) (by decide), stageOf_eq hB hB.2.2.1.1 (by have := hB.2.2.1.2; omega), cl_some, bd_eq, show X 121 5 - X 121 4 - stg (X 121) (X 121 3) = ND (X 121) from rfl]
  have miss : ∃ Y : Mem, B_X12_readies_61 f to (ND (X 121)) X = some (0, Y) ∧ (∀ i k : Int, ¬ (i = 120 ∧ 31 ≤ k ∧ k ≤ 34) → i ≠ 132 → i ≠ 133 → i ≠ 134 → Y i k = X i k) ∧ (∀ a : Int, 0 ≤ a → a < NS (X 121) → FEW (X 121) (ND (X 121)) f to a (Y 134 a)) ∧ CK cn Y := by
    unfold B_X12_readies_61
    simp only [bd_eq]
    obtain ⟨Z, hZ⟩ : ∃ Z : Mem, ms (ms (ms (ms X 120 31 f) 120 32 to) 120 33 (ND (X 121))) 120 34 (ms (ms (ms X 120 31 f) 120 32 to) 120 33 (ND (X 121)) 120 22) = Z := ⟨_, rfl⟩
    have z1 : ∀ i : Int, i ≠ 120 → Z i = X i := fun i h => by rw [← hZ, ms_ne h, ms_ne h, ms_ne h, ms_ne h]
    have z2 : ∀ k : Int, k ≠ 31 → k ≠ 32 → k ≠ 33 → k ≠ 34 → Z 120 k = X 120 k := fun k h1 h2 h3 h4 => by rw [← hZ, ms_k h4, ms_k h3, ms_k h2, ms_k h1]
    have z3 : Z 120 31 = f := by rw [← hZ, ms_k (by decide), ms_k (by decide), ms_k (by decide), ms_s]
    have z4 : Z 120 32 = to := by rw [← hZ, ms_k (by decide), ms_k (by decide), ms_s]
    have z5 : Z 120 33 = ND (X 121) := by rw [← hZ, ms_k (by decide), ms_s]
    have z6 : Z 120 34 = X 120 22 := by rw [← hZ, ms_s, ms_k (by decide), ms_k (by decide), ms_k (by decide)]
    rw [hZ]
    obtain ⟨Y, i1, i2, i3⟩ := readies_87 hB f0 f1 t0 t1 KF 0 Z (by decide) (by omega) (by rw [KF_eq]; omega) (z1 121 (by decide)) (fun b b0 b1 => by omega)
    have y120 : Y 120 = Z 120 := i2 120 (by decide) (by decide) (by decide)
    have y121 : Y 121 = X 121 := by rw [i2 121 (by decide) (by decide) (by decide), z1 121 (by decide)]
    refine ⟨Y, i1, fun i k h1 h2 h3 h4 => ?_, i3, ?_⟩
    · rw [i2 i h2 h3 h4]
      by_cases e : i = 120
      · subst e
        exact z2 k (by omega) (by omega) (by omega) (by omega)
      · rw [z1 i e]
    · unfold CK
      rw [y120, y121, z3, z4, z5, z6, z2 22 (by decide) (by decide) (by decide) (by decide)]
      exact ⟨⟨v0, v1⟩, ⟨⟨by omega, by omega⟩, ⟨by omega, by omega⟩, ⟨by omega, by omega⟩, by omega, by omega⟩, fun _ _ => ⟨⟨f0, f1⟩, ⟨t0, t1⟩, i3⟩⟩
  rw [c2_ok c1.1 c1.2 (by omega) (by omega)]
  by_cases g1 : X 120 31 = f
  · rw [if_neg (by simpa using g1), c2_ok c2.1 c2.2 (by omega) (by omega)]
    by_cases g2 : X 120 32 = to
    · rw [if_neg (by simpa using g2), c2_ok c3.1 c3.2 (by omega) (by omega)]
      by_cases g3 : X 120 33 = ND (X 121)
      · rw [if_neg (by simpa using g3), c2_ok (by omega) (by omega) (by omega) (by omega)]
        by_cases g4 : X 120 34 = X 120 22
        · rw [if_neg (by simpa using g4)]
          obtain ⟨k1, k2, k3⟩ := c6 g4 (by omega)
          refine ⟨X, rfl, fun _ _ _ _ _ _ => rfl, ?_, ⟨v0, v1⟩, ⟨c1, c2, c3, c4, c5⟩, c6⟩
          rw [g1, g2, g3] at k3
          exact k3
        · rw [if_pos g4]
          exact miss
      · rw [if_pos g3]
        exact miss
    · rw [if_pos g2]
      exact miss
  · rw [if_pos g1]
    exact miss
