/-! rules for runs: TT o Q says that o answers and that Q holds of the answer -/
def TT (o : Option (Int × Mem)) (Q : Int → Mem → Prop) : Prop := ∃ (r : Int) (X : Mem), o = some (r, X) ∧ Q r X
section TTS
variable {r : Int} {X : Mem} {Q R : Int → Mem → Prop} {k a b : Option (Int × Mem)}
theorem tt_ret (h : Q r X) : TT (some (r, X)) Q := ⟨r, X, rfl, h⟩
theorem tt_mono (h : TT a R) (hi : ∀ (r : Int) (X : Mem), R r X → Q r X) : TT a Q := by
  obtain ⟨r, X, e, h2⟩ := h
  exact ⟨r, X, e, hi r X h2⟩
theorem tt_eq (e : a = some (r, X)) (h : Q r X) : TT a Q := ⟨r, X, e, h⟩
theorem tt_of {v : Int} {Y : Mem} (h : TT a fun s Z => s = v ∧ Z = Y) : a = some (v, Y) := by
  obtain ⟨s, Z, e, rfl, rfl⟩ := h
  exact e
theorem tt_ofx {v : Int} (h : TT a fun s Z => s = v ∧ Z = X) : a = some (v, X) := tt_of h
theorem tt_c1 {p : Int} (h1 : -2147483648 ≤ p) (h2 : p ≤ 2147483647) (h : TT k Q) : TT (c1 p k) Q := by rw [c1_ok h1 h2]; exact h
theorem tt_c2 {p q : Int} (h1 : -2147483648 ≤ p) (h2 : p ≤ 2147483647) (h3 : -2147483648 ≤ q) (h4 : q ≤ 2147483647) (h : TT k Q) : TT (c2 p q k) Q := by rw [c2_ok h1 h2 h3 h4]; exact h
theorem tt_d2 {p q : Int} (h1 : -9223372036854775808 ≤ p) (h2 : p ≤ 9223372036854775807) (h3 : -9223372036854775808 ≤ q) (h4 : q ≤ 9223372036854775807) (h : TT k Q) : TT (d2 p q k) Q := by rw [d2_ok h1 h2 h3 h4]; exact h
theorem tt_ax {n j : Int} (h1 : 0 ≤ j) (h2 : j < n) (h : TT k Q) : TT (ax n j k) Q := by rw [ax_ok h1 h2]; exact h
theorem tt_cd {p q : Int} (h1 : 0 ≤ p) (h2 : p ≤ 2147483647) (h3 : 0 < q) (h4 : q ≤ 2147483647) (h : TT k Q) : TT (cd p q k) Q := by rw [cd_ok h1 h2 h3 h4]; exact h
theorem tt_dd {p q : Int} (h1 : 0 ≤ p) (h2 : p ≤ 9223372036854775807) (h3 : 0 < q) (h4 : q ≤ 9223372036854775807) (h : TT k Q) : TT (dd p q k) Q := by rw [dd_ok h1 h2 h3 h4]; exact h
theorem tt_cz {p : Int} (h1 : p = 0 ∨ p = 1) (h : TT k Q) : TT (cz p k) Q := by rw [cz_ok h1]; exact h
theorem tt_cm {l : List Int} {p : Int} (h1 : p ∈ l) (h : TT k Q) : TT (cm l p k) Q := by rw [cm_ok h1]; exact h
theorem tt_cpk {n0 n1 sp dp n : Int} (h0 : 0 ≤ sp) (h1 : 0 ≤ dp) (h2 : 0 ≤ n) (h3 : sp + n ≤ n0) (h4 : dp + n ≤ n1) (h : TT k Q) : TT (cpk n0 n1 sp dp n k) Q := by rw [cpk_ok h0 h1 h2 h3 h4]; exact h
theorem tt_bd {α : Type} {x : α} {f : α → Option (Int × Mem)} (h : TT (f x) Q) : TT (bd x f) Q := h
theorem tt_if {p : Prop} {_ : Decidable p} (h1 : p → TT a Q) (h2 : ¬ p → TT b Q) : TT (if p then a else b) Q := by
  by_cases h : p
  · rw [if_pos h]; exact h1 h
  · rw [if_neg h]; exact h2 h
theorem tt_cl {f : Int → Mem → Option (Int × Mem)} (h : TT a R) (hk : ∀ (r : Int) (X : Mem), R r X → TT (f r X) Q) : TT (cl a f) Q := by
  obtain ⟨r, X, e, h2⟩ := h
  rw [e, cl_some]
  exact hk r X h2
theorem tt_cle {f : Int → Mem → Option (Int × Mem)} (e : a = some (r, X)) (h : TT (f r X) Q) : TT (cl a f) Q := by
  rw [e, cl_some]
  exact h
end TTS
theorem ms_at {X : Mem} {i k v j l : Int} : ms X i k v j l = if j = i ∧ l = k then v else X j l := rfl
theorem answer_eq {v : Int} {X : Mem} : f_X11_answer v X = some (v, ms X 0 16 0) := rfl
theorem fail_eq {v : Int} {X : Mem} : f_X11_fail v X = some (-1, ms X 0 16 v) := rfl
theorem gives_eq {v : Int} {X : Mem} : f_X12_gives v X = some (v, ms X 120 2 0) := rfl
theorem refusem_eq {v : Int} {X : Mem} : f_X12_refuse v X = some (-1, ms X 120 2 v) := rfl
/-! what a slot of the reference holds, and its bounds -/
def BD (A : Int → Int) : Prop := ((A 0 = 0 ∧ A 1 = 0) ∨ (2 ≤ A 0 ∧ A 0 ≤ 10 ∧ 2 ≤ A 1 ∧ A 1 ≤ 6)) ∧ (0 ≤ A 2 ∧ A 2 ≤ 5) ∧ (0 ≤ A 3 ∧ A 3 ≤ 5000) ∧ (0 ≤ A 4 ∧ A 4 ≤ A 6) ∧ (1 ≤ A 5 ∧ A 5 ≤ 20) ∧ (0 ≤ A 6 ∧ A 6 ≤ 9) ∧ (1 ≤ A 7 ∧ A 7 ≤ 99) ∧ (1 ≤ A 8 ∧ A 8 ≤ 99) ∧ (0 ≤ A 9 ∧ A 9 ≤ 99) ∧ (0 ≤ A 10 ∧ A 10 ≤ 999) ∧ (0 ≤ A 11 ∧ A 11 ≤ 16) ∧ (0 ≤ A 12 ∧ A 12 ≤ 16) ∧ (0 ≤ A 13 ∧ A 13 ≤ 12) ∧ (0 ≤ A 14 ∧ A 14 ≤ 60) ∧
  (∀ d : Int, 0 ≤ d → d < 12 → -9 ≤ A (16 + d) ∧ A (16 + d) ≤ 9) ∧ (∀ j : Int, 28 ≤ j → j < 48 → 0 ≤ A j ∧ A j ≤ 16) ∧ (∀ c : Int, 0 ≤ c → c < 60 → 0 ≤ A (48 + c) ∧ A (48 + c) ≤ 20) ∧ (∀ c : Int, 0 ≤ c → c < 60 → -1 ≤ A (108 + c) ∧ A (108 + c) < A 2)
/-- how many sets -/
def NS (A : Int → Int) : Int := ishl 1 (A 2)
theorem NS_v {A : Int → Int} (h : 0 ≤ A 2 ∧ A 2 ≤ 5) : NS A = ((2 ^ (A 2).toNat : Nat) : Int) ∧ (A 2).toNat ≤ 5 ∧ ((A 2).toNat : Int) = A 2 := by
  have h1 : ((A 2).toNat : Int) = A 2 := Int.toNat_of_nonneg h.1
  refine ⟨?_, by omega, h1⟩
  unfold NS
  rw [← h1]
  exact ishl_pow ⟨(A 2).toNat, by omega⟩
theorem NS_r {A : Int → Int} (h : 0 ≤ A 2 ∧ A 2 ≤ 5) : 1 ≤ NS A ∧ NS A ≤ 32 := by
  obtain ⟨e, h1, -⟩ := NS_v h
  rw [e]
  rcases show (A 2).toNat = 0 ∨ (A 2).toNat = 1 ∨ (A 2).toNat = 2 ∨ (A 2).toNat = 3 ∨ (A 2).toNat = 4 ∨ (A 2).toNat = 5 by omega with g | g | g | g | g | g <;> rw [g] <;> decide
/-- STAGE of a day -/
def stg (A : Int → Int) (d : Int) : Int := if d < A 13 then A (16 + d) else 0
theorem stg_r {A : Int → Int} (h : BD A) {d : Int} (hd : 0 ≤ d) : -9 ≤ stg A d ∧ stg A d ≤ 9 := by
  obtain ⟨-, -, -, -, -, -, -, -, -, -, -, -, h13, -, hs, -⟩ := h
  unfold stg
  split
  · exact hs d hd (by omega)
  · omega
/-- what the BAR of a cell takes, with a set of BARS there -/
def tk (A : Int → Int) (c x : Int) : Int := if A (108 + c) = -1 then 0 else if ia (ishr x (A (108 + c))) 1 = 1 then A (28 + 4 * A (108 + c)) else 0
theorem tk_r {A : Int → Int} (h : BD A) {c x : Int} (c0 : 0 ≤ c) (c1 : c < 60) : 0 ≤ tk A c x ∧ tk A c x ≤ 16 := by
  obtain ⟨-, h2, -, -, -, -, -, -, -, -, -, -, -, -, -, hb, -, ho⟩ := h
  have ho := ho c c0 c1
  unfold tk
  split
  · omega
  · split
    · exact hb _ (by omega) (by omega)
    · omega
def dep (A : Int → Int) (st c x : Int) : Int := A (48 + c) + st - tk A c x
theorem dep_r {A : Int → Int} (h : BD A) {st c x : Int} (c0 : 0 ≤ c) (c1 : c < 60) (hs : -9 ≤ st ∧ st ≤ 9) : -25 ≤ dep A st c x ∧ dep A st c x ≤ 29 := by
  have h1 := tk_r h (x := x) c0 c1
  obtain ⟨-, -, -, -, -, -, -, -, -, -, -, -, -, -, -, -, hd, -⟩ := h
  have hd := hd c c0 c1
  unfold dep
  omega
/-- the least cell of a BAR -/
def LE (A : Int → Int) (b l : Int) : Prop := (l = -1 ∧ ∀ c : Int, 0 ≤ c → c < A 0 * A 1 → A (108 + c) ≠ b) ∨ (0 ≤ l ∧ l < A 0 * A 1 ∧ A (108 + l) = b ∧ ∀ c : Int, 0 ≤ c → c < l → A (108 + c) ≠ b)
theorem LE_u {A : Int → Int} {b l l' : Int} (h : LE A b l) (h' : LE A b l') : l = l' := by
  rcases h with ⟨h1, h2⟩ | ⟨h1, h2, h3, h4⟩ <;> rcases h' with ⟨g1, g2⟩ | ⟨g1, g2, g3, g4⟩
  · omega
  · exact absurd g3 (h2 l' g1 g2)
  · exact absurd h3 (g2 l h1 h2)
  · by_cases e : l < l'
    · exact absurd h3 (g4 l h1 e)
    · by_cases e2 : l' < l
      · exact absurd g3 (h4 l' g1 e2)
      · omega
theorem BD_cells {A : Int → Int} (h : BD A) : 0 ≤ A 0 * A 1 ∧ A 0 * A 1 ≤ 60 := by
  obtain ⟨h, -⟩ := h
  rcases h with ⟨h0, h1⟩ | ⟨h0, h1, h2, h3⟩
  · rw [h0]; omega
  · refine ⟨Int.mul_nonneg (by omega) (by omega), ?_⟩
    have := Int.mul_le_mul h1 h3 (by omega) (by omega : (0 : Int) ≤ 10)
    omega
/-- the class's river r holds what the slot A holds -/
def RV (X : Mem) (r : Int) (A : Int → Int) : Prop := (X r 0 = A 0 ∧ X r 1 = A 1 ∧ X r 2 = A 2 ∧ X r 3 = A 5 ∧ X r 4 = A 6 ∧ X r 5 = A 7 ∧ X r 6 = A 8 ∧ X r 7 = A 9 ∧ X r 8 = A 10 ∧ X r 9 = A 11 ∧ X r 10 = A 12) ∧
  (∀ c : Int, 0 ≤ c → c < 60 → X (r + 1) c = A (48 + c)) ∧ (∀ c : Int, 0 ≤ c → c < 60 → X (r + 2) c = A (108 + c)) ∧ (∀ d : Int, 0 ≤ d → d < 12 → X (r + 3) d = stg A d) ∧
  (∀ b : Int, 0 ≤ b → b < A 2 → X (r + 5) b = A (28 + 4 * b) ∧ X (r + 6) b = A (28 + 4 * b + 1) ∧ X (r + 7) b = A (28 + 4 * b + 2) ∧ X (r + 8) b = A (28 + 4 * b + 3)) ∧ (∀ b : Int, 0 ≤ b → b < A 2 → LE A b (X (r + 9) b)) ∧
  (∀ b : Int, 0 ≤ b → b < 5 → (0 ≤ X (r + 5) b ∧ X (r + 5) b ≤ 16) ∧ (0 ≤ X (r + 6) b ∧ X (r + 6) b ≤ 16) ∧ (0 ≤ X (r + 7) b ∧ X (r + 7) b ≤ 16) ∧ (0 ≤ X (r + 8) b ∧ X (r + 8) b ≤ 16))
theorem RV.fr {X Y : Mem} {r : Int} {A : Int → Int} (h : RV X r A) (e : ∀ i : Int, r ≤ i → i ≤ r + 9 → Y i = X i) : RV Y r A := by
  unfold RV at *
  rw [e r (by omega) (by omega), e (r + 1) (by omega) (by omega), e (r + 2) (by omega) (by omega), e (r + 3) (by omega) (by omega), e (r + 5) (by omega) (by omega), e (r + 6) (by omega) (by omega), e (r + 7) (by omega) (by omega), e (r + 8) (by omega) (by omega), e (r + 9) (by omega) (by omega)]
  exact h
theorem stageOn_eq {X : Mem} {r d : Int} {A : Int → Int} (h : RV X r A) (hB : BD A) (hd : 0 ≤ d) (hd2 : d ≤ 2147483647) : f_X2_stageOn r d X = some (stg A d, X) := by
  obtain ⟨-, -, -, hs, -⟩ := h
  obtain ⟨-, -, -, -, -, -, -, -, -, -, -, -, h13, -⟩ := hB
  unfold f_X2_stageOn
  rw [c1_ok (by omega) (by omega), if_neg (by omega), c2_ok (by omega) (by omega) (by omega) (by omega)]
  by_cases g : 12 ≤ d
  · rw [if_pos g]
    unfold stg
    rw [if_neg (by omega)]
  · rw [if_neg g, ax_ok (by omega) (by omega), hs d hd (by omega)]
theorem stageOf_eq {X : Mem} {d : Int} (hB : BD (X 121)) (hd : 0 ≤ d) (hd2 : d ≤ 2147483647) : f_X12_stageOf d X = some (stg (X 121) d, X) := by
  obtain ⟨-, -, -, -, -, -, -, -, -, -, -, -, h13, -⟩ := hB
  unfold f_X12_stageOf stg
  rw [ax_ok (by omega) (by omega), c2_ok (by omega) (by omega) (by omega) (by omega)]
  by_cases g : X 121 13 ≤ d
  · rw [if_pos g, if_neg (by omega)]
  · rw [if_neg g, if_pos (by omega), ax_ok (by omega) (by omega)]
theorem depthAt_eq {X : Mem} {r st c x : Int} {A : Int → Int} (h : RV X r A) (hB : BD A) (c0 : 0 ≤ c) (c1 : c < 60) : f_X2_depthAt r st c x X = some (dep A st c x, X) := by
  obtain ⟨-, hd, ho, -, hb, -⟩ := h
  obtain ⟨-, h2, -, -, -, -, -, -, -, -, -, -, -, -, -, -, -, hoB⟩ := hB
  have hoB := hoB c c0 c1
  have hI := ia_I (ishr x (A (108 + c))) 1
  unfold f_X2_depthAt dep tk
  rw [ax_ok c0 c1, bd_eq, ho c c0 c1, c2_ok (by omega) (by omega) (by omega) (by omega)]
  by_cases g : A (108 + c) = -1
  · rw [if_pos g, if_pos g, B_X2_depthAt_34, B_X2_depthAt_35, ax_ok c0 c1, hd c c0 c1]
  · rw [if_neg g, if_neg g, c2_ok hI.1 hI.2 (by omega) (by omega)]
    by_cases g2 : ia (ishr x (A (108 + c))) 1 = 1
    · rw [if_neg (by simpa using g2), if_pos g2, ax_ok (by omega) (by omega), B_X2_depthAt_35, ax_ok c0 c1, hd c c0 c1, (hb _ (by omega) (by omega)).1]
    · rw [if_pos g2, if_neg g2, B_X2_depthAt_34, B_X2_depthAt_35, ax_ok c0 c1, hd c c0 c1]
theorem depthOf_eq {X : Mem} {c x : Int} (hB : BD (X 121)) (c0 : 0 ≤ c) (c1 : c < 60) : f_X12_depthOf c x X = some (dep (X 121) (stg (X 121) (X 121 3)) c x, X) := by
  have hB' := hB
  obtain ⟨-, h2, h3, -, -, -, -, -, -, -, -, -, -, -, -, -, -, hoB⟩ := hB'
  have hoB := hoB c c0 c1
  have hI := ia_I (ishr x (X 121 (108 + c))) 1
  unfold f_X12_depthOf dep tk
  rw [ax_ok (by omega) (by omega), bd_eq, ax_ok (by omega) (by omega), ax_ok (by omega) (by omega), stageOf_eq hB h3.1 (by omega), cl_some, c2_ok (by omega) (by omega) (by omega) (by omega)]
  by_cases g : X 121 (108 + c) = -1
  · rw [if_pos g, if_pos g, B_X12_depthOf_53, B_X12_depthOf_54]
  · rw [if_neg g, if_neg g, c2_ok hI.1 hI.2 (by omega) (by omega)]
    by_cases g2 : ia (ishr x (X 121 (108 + c))) 1 = 1
    · rw [if_neg (by simpa using g2), if_pos g2, ofBar_eq (by omega) (by omega) (by omega) (by omega), cl_some, B_X12_depthOf_54, Int.add_zero]
    · rw [if_pos g2, if_neg g2, B_X12_depthOf_53, B_X12_depthOf_54]
theorem isCell_eq {X : Mem} {c : Int} {A : Int → Int} (hm : X 2 0 ∈ RIV) (h : RV X (X 2 0) A) (hB : BD A) (hc : inI c) : f_X11_isCell c X = some (if 0 ≤ c ∧ c < A 0 * A 1 then 1 else 0, X) := by
  have hn := BD_cells hB
  obtain ⟨⟨h0, h1, -⟩, -⟩ := h
  unfold f_X11_isCell f_X2_cellCount
  rw [c1_ok hc.1 hc.2]
  by_cases g : c < 0
  · rw [if_pos g, if_neg (by omega)]
  · rw [if_neg g, cm_ok hm, h0, h1, cl_some, c2_ok hc.1 hc.2 (by omega) (by omega)]
    by_cases g2 : A 0 * A 1 ≤ c
    · rw [if_pos g2, if_neg (by omega)]
    · rw [if_neg g2, if_pos (by omega)]
theorem cells_eq {X : Mem} : f_X12_cells X = some (X 121 0 * X 121 1, X) := by
  unfold f_X12_cells
  rw [ax_ok (by decide) (by decide), ax_ok (by decide) (by decide)]
theorem isCellm_eq {X : Mem} {c : Int} (hB : BD (X 121)) (hc : inJ c) : f_X12_isCell c X = some (if 0 ≤ c ∧ c < X 121 0 * X 121 1 then 1 else 0, X) := by
  have hn := BD_cells hB
  unfold f_X12_isCell
  rw [d2_ok hc.1 hc.2 (by decide) (by decide)]
  by_cases g : c < 0
  · rw [if_pos g, if_neg (by omega)]
  · rw [if_neg g, cells_eq, cl_some, c1_ok (by omega) (by omega), d2_ok hc.1 hc.2 (by omega) (by omega)]
    by_cases g2 : X 121 0 * X 121 1 ≤ c
    · rw [if_pos g2, if_neg (by omega)]
    · rw [if_neg g2, if_pos (by omega)]
theorem isBar_eq {X : Mem} {b : Int} {A : Int → Int} (hm : X 2 0 ∈ RIV) (h : RV X (X 2 0) A) (hB : BD A) (hb : inI b) : f_X11_isBar b X = some (if 0 ≤ b ∧ b < A 2 then 1 else 0, X) := by
  obtain ⟨⟨-, -, h2, -⟩, -⟩ := h
  obtain ⟨-, hB2, -⟩ := hB
  unfold f_X11_isBar
  rw [c1_ok hb.1 hb.2]
  by_cases g : b < 0
  · rw [if_pos g, if_neg (by omega)]
  · rw [if_neg g, cm_ok hm, h2, c2_ok hb.1 hb.2 (by omega) (by omega)]
    by_cases g2 : A 2 ≤ b
    · rw [if_pos g2, if_neg (by omega)]
    · rw [if_neg g2, if_pos (by omega)]
theorem isBarm_eq {X : Mem} {b : Int} (hB : BD (X 121)) (hb : inI b) : f_X12_isBar b X = some (if 0 ≤ b ∧ b < X 121 2 then 1 else 0, X) := by
  obtain ⟨-, hB2, -⟩ := hB
  unfold f_X12_isBar
  rw [c1_ok hb.1 hb.2]
  by_cases g : b < 0
  · rw [if_pos g, if_neg (by omega)]
  · rw [if_neg g, ax_ok (by decide) (by decide), c2_ok hb.1 hb.2 (by omega) (by omega)]
    by_cases g2 : X 121 2 ≤ b
    · rw [if_pos g2, if_neg (by omega)]
    · rw [if_neg g2, if_pos (by omega)]
theorem isSet_eq {X : Mem} {x : Int} {A : Int → Int} (hm : X 2 0 ∈ RIV) (h : RV X (X 2 0) A) (hB : BD A) (hx : inI x) : f_X11_isSet x X = some (if 0 ≤ x ∧ x < NS A then 1 else 0, X) := by
  obtain ⟨⟨-, -, h2, -⟩, -⟩ := h
  obtain ⟨-, hB2, -⟩ := hB
  have hN := NS_r hB2
  unfold f_X11_isSet f_X2_setCount
  rw [c1_ok hx.1 hx.2]
  by_cases g : x < 0
  · rw [if_pos g, if_neg (by omega)]
  · rw [if_neg g, cm_ok hm, h2, cl_some, show ishl 1 (A 2) = NS A from rfl, c2_ok hx.1 hx.2 (by omega) (by omega)]
    by_cases g2 : NS A ≤ x
    · rw [if_pos g2, if_neg (by omega)]
    · rw [if_neg g2, if_pos (by omega)]
theorem isSetm_eq {X : Mem} {x : Int} (hB : BD (X 121)) (hx : inI x) : f_X12_isSet x X = some (if 0 ≤ x ∧ x < NS (X 121) then 1 else 0, X) := by
  obtain ⟨-, hB2, -⟩ := hB
  have hN := NS_r hB2
  unfold f_X12_isSet
  rw [c1_ok hx.1 hx.2]
  by_cases g : x < 0
  · rw [if_pos g, if_neg (by omega)]
  · rw [if_neg g, sets_eq, cl_some, show ishl 1 (X 121 2) = NS (X 121) from rfl, c2_ok hx.1 hx.2 (by omega) (by omega)]
    by_cases g2 : NS (X 121) ≤ x
    · rw [if_pos g2, if_neg (by omega)]
    · rw [if_neg g2, if_pos (by omega)]
theorem isFrom_eq {X : Mem} {v a b : Int} (hv : inJ v) (ha : inJ a) (hb : inJ b) : f_X12_isFrom v a b X = some (if a ≤ v ∧ v ≤ b then 1 else 0, X) := by
  unfold f_X12_isFrom
  rw [d2_ok hv.1 hv.2 ha.1 ha.2]
  by_cases g : v < a
  · rw [if_pos g, if_neg (by omega)]
  · rw [if_neg g, d2_ok hv.1 hv.2 hb.1 hb.2]
    by_cases g2 : b < v
    · rw [if_pos g2, if_neg (by omega)]
    · rw [if_neg g2, if_pos (by omega)]
theorem inI_J {a : Int} (h : inI a) : inJ a := by
  have h1 := h.1
  have h2 := h.2
  constructor <;> omega
