/-! feed -/
theorem w8_w8 (a : Int) : w8 (w8 a) = w8 a := by
  show (Int32.ofInt (Int32.ofInt a).toInt8.toInt).toInt8.toInt = (Int32.ofInt a).toInt8.toInt
  rw [Int32.ofInt_int8ToInt]
  congr 1
  exact Int8.toInt8_toInt32 _
theorem sh_bits (v : BitVec 32) {k : Nat} (hk : k ≤ 24) : (v.sshiftRight k).setWidth 8 = (v >>> k).setWidth 8 := by
  apply BitVec.eq_of_getLsbD_eq
  intro i hi
  rw [BitVec.getLsbD_setWidth, BitVec.getLsbD_setWidth, BitVec.getLsbD_sshiftRight, BitVec.getLsbD_ushiftRight]
  have h1 : ¬ (32 ≤ i) := by omega
  have h2 : k + i < 32 := by omega
  simp [h1, h2]
theorem w8_ofI (x : Int32) : w8 x.toInt = (x.toBitVec.setWidth 8).toInt := by
  show (Int32.ofInt x.toInt).toInt8.toInt = _
  rw [Int32.ofInt_toInt]
  show (x.toBitVec.signExtend 8).toInt = _
  rw [BitVec.signExtend_eq_setWidth_of_le _ (by decide)]
theorem w8_sh24 (a : Int) : w8 (iushr a 24) = w8 (ishr a 24) := by
  unfold iushr ishr
  rw [w8_ofI, w8_ofI]
  exact congrArg BitVec.toInt (sh_bits (Int32.ofInt a).toBitVec (k := 24) (by decide)).symm
theorem w8_sh16 (a : Int) : w8 (iushr a 16) = w8 (ishr a 16) := by
  unfold iushr ishr
  rw [w8_ofI, w8_ofI]
  exact congrArg BitVec.toInt (sh_bits (Int32.ofInt a).toBitVec (k := 16) (by decide)).symm
theorem w8_sh8 (a : Int) : w8 (iushr a 8) = w8 (ishr a 8) := by
  unfold iushr ishr
  rw [w8_ofI, w8_ofI]
  exact congrArg BitVec.toInt (sh_bits (Int32.ofInt a).toBitVec (k := 8) (by decide)).symm
theorem w8_sh0 (a : Int) : w8 (iushr a 0) = w8 (ishr a 0) := by
  unfold iushr ishr
  rw [w8_ofI, w8_ofI]
  exact congrArg BitVec.toInt (sh_bits (Int32.ofInt a).toBitVec (k := 0) (by decide)).symm
/-- one word on the tape -/
def up4 (f : Int → Int) (m v : Int) : Int → Int := up (up (up (up f m (w8 (ishr v 24))) (m + 1) (w8 (ishr v 16))) (m + 2) (w8 (ishr v 8))) (m + 3) (w8 (ishr v 0))
def tpC (X : Mem) (g : Int → Int) (m : Int) : Mem := ms (ma X 36 g) 35 1 m
def tpM (X : Mem) (g : Int → Int) (m : Int) : Mem := ms (ma X 126 g) 120 10 m
theorem up_up {f : Int → Int} {k v w : Int} : up (up f k v) k w = up f k w := by
  funext q
  unfold up
  by_cases h : q = k
  · rw [if_pos h, if_pos h]
  · rw [if_neg h, if_neg h, if_neg h]
theorem tpC_st {X : Mem} {g : Int → Int} {m k v w : Int} : ms (ms (tpC X g m) 36 k v) 35 1 w = tpC X (up g k v) w := by
  unfold tpC
  simp only [ms_ma]
  rw [ma_ne (j := 36) (i := 35) (by decide), ma_same, ma_comm (i := 35) (j := 36) (by decide), ma_ma]
  rw [ma_ne (j := 35) (i := 36) (by decide), ma_ne (j := 35) (i := 36) (by decide), ma_same, ma_ma, up_up]
theorem tpM_st {X : Mem} {g : Int → Int} {m k v w : Int} : ms (ms (tpM X g m) 126 k v) 120 10 w = tpM X (up g k v) w := by
  unfold tpM
  simp only [ms_ma]
  rw [ma_ne (j := 126) (i := 120) (by decide), ma_same, ma_comm (i := 120) (j := 126) (by decide), ma_ma]
  rw [ma_ne (j := 120) (i := 126) (by decide), ma_ne (j := 120) (i := 126) (by decide), ma_same, ma_ma, up_up]
theorem tpC_m {X : Mem} {g : Int → Int} {m : Int} : tpC X g m 35 1 = m := ms_s
theorem tpM_m {X : Mem} {g : Int → Int} {m : Int} : tpM X g m 120 10 = m := ms_s
theorem tpC_0 {X : Mem} : tpC X (X 36) (X 35 1) = X := by
  unfold tpC
  rw [ma_self, ms_self]
theorem tpM_0 {X : Mem} : tpM X (X 126) (X 120 10) = X := by
  unfold tpM
  rw [ma_self, ms_self]
theorem ap_step {k : Nat} {v s m : Int} {X : Mem} {g : Int → Int} (s0 : 0 ≤ s) (s1 : s ≤ 24) (m0 : 0 ≤ m) (m1 : m < 900) : L_X8_append_3 (k + 1) v s (tpC X g m) = L_X8_append_3 k v (s + (-8)) (tpC X (up g m (w8 (w8 (iushr v s)))) (m + 1)) := by
  rw [L_X8_append_3, c1_ok (by omega) (by omega), if_neg (by omega), tpC_m, c2_ok (by omega) (by omega) (by decide) (by decide), if_neg (by omega), ax_ok m0 m1, bd_eq, bd_eq, ms_ne (by decide), tpC_m, tpC_st]
theorem four_step {k : Nat} {v s m : Int} {X : Mem} {g : Int → Int} (s0 : 0 ≤ s) (s1 : s ≤ 24) (m0 : 0 ≤ m) (m1 : m < 900) : L_X12_four_3 (k + 1) v s (tpM X g m) = L_X12_four_3 k v (s + (-8)) (tpM X (up g m (w8 (w8 (ishr v s)))) (m + 1)) := by
  rw [L_X12_four_3, c1_ok (by omega) (by omega), if_neg (by omega), tpM_m, ax_ok m0 m1, bd_eq, bd_eq, ms_ne (by decide), tpM_m, tpM_st]
theorem ap_eq {v m : Int} {X : Mem} {g : Int → Int} (m0 : 0 ≤ m) (m1 : m + 4 ≤ 900) : f_X8_append v (tpC X g m) = some (0, tpC X (up4 g m v) (m + 4)) := by
  unfold f_X8_append
  obtain ⟨k, hk⟩ : ∃ k : Nat, KF = k + 1 + 1 + 1 + 1 + 1 := ⟨4611686018427387899, by rw [KF_eq]⟩
  rw [hk, ap_step (by decide) (by decide) (by omega) (by omega), ap_step (by decide) (by decide) (by omega) (by omega), ap_step (by decide) (by decide) (by omega) (by omega), ap_step (by decide) (by decide) (by omega) (by omega), L_X8_append_3, c1_ok (by decide) (by decide), if_pos (by decide)]
  simp only [w8_w8]
  rw [show (24 : Int) + -8 + -8 + -8 = 0 from rfl, show (24 : Int) + -8 + -8 = 8 from rfl, show (24 : Int) + -8 = 16 from rfl, w8_sh24, w8_sh16, w8_sh8, w8_sh0, show m + 1 + 1 = m + 2 from by omega, show m + 2 + 1 = m + 3 from by omega, show m + 3 + 1 = m + 4 from by omega]
  rfl
theorem four_eq {v m : Int} {X : Mem} {g : Int → Int} (m0 : 0 ≤ m) (m1 : m + 4 ≤ 900) : f_X12_four v (tpM X g m) = some (0, tpM X (up4 g m v) (m + 4)) := by
  unfold f_X12_four
  obtain ⟨k, hk⟩ : ∃ k : Nat, KF = k + 1 + 1 + 1 + 1 + 1 := ⟨4611686018427387899, by rw [KF_eq]⟩
  rw [hk, four_step (by decide) (by decide) (by omega) (by omega), four_step (by decide) (by decide) (by omega) (by omega), four_step (by decide) (by decide) (by omega) (by omega), four_step (by decide) (by decide) (by omega) (by omega), L_X12_four_3, c1_ok (by decide) (by decide), if_pos (by decide)]
  simp only [w8_w8]
  rw [show (24 : Int) + -8 + -8 + -8 = 0 from rfl, show (24 : Int) + -8 + -8 = 8 from rfl, show (24 : Int) + -8 = 16 from rfl, show m + 1 + 1 = m + 2 from by omega, show m + 2 + 1 = m + 3 from by omega, show m + 3 + 1 = m + 4 from by omega]
  rfl
/-- the tape, alike -/
def RF (X : Mem) : Prop := (0 ≤ X 35 1 ∧ X 35 1 ≤ 900 ∧ X 120 10 = X 35 1) ∧ ∀ j : Int, 0 ≤ j → j < X 35 1 → (-128 ≤ X 36 j ∧ X 36 j ≤ 127) ∧ X 126 j = X 36 j
theorem up4_at {f h : Int → Int} {m v : Int} (m0 : 0 ≤ m) (hh : ∀ j : Int, 0 ≤ j → j < m → (-128 ≤ f j ∧ f j ≤ 127) ∧ h j = f j) : ∀ j : Int, 0 ≤ j → j < m + 4 → (-128 ≤ up4 f m v j ∧ up4 f m v j ≤ 127) ∧ up4 h m v j = up4 f m v j := by
  intro j j0 j1
  unfold up4 up
  by_cases h3 : j = m + 3
  · rw [if_pos h3, if_pos h3]
    exact ⟨w8_r _, rfl⟩
  · rw [if_neg h3, if_neg h3]
    by_cases h2 : j = m + 2
    · rw [if_pos h2, if_pos h2]
      exact ⟨w8_r _, rfl⟩
    · rw [if_neg h2, if_neg h2]
      by_cases h1 : j = m + 1
      · rw [if_pos h1, if_pos h1]
        exact ⟨w8_r _, rfl⟩
      · rw [if_neg h1, if_neg h1]
        by_cases h0 : j = m
        · rw [if_pos h0, if_pos h0]
          exact ⟨w8_r _, rfl⟩
        · rw [if_neg h0, if_neg h0]
          exact hh j j0 (by omega)
/-- feed: both answer alike, and only the tape changes -/
theorem pr_feed {a b c d e : Int} {X : Mem} (hF : RF X) : ∃ (r : Int) (X1 X2 : Mem), f_X11_feed a b c d e X = some (r, X1) ∧ f_X12_feed a b c d e X1 = some (r, X2) ∧ inI r ∧ RF X2 ∧ ∀ i k : Int, ¬ (i = 36 ∨ i = 126 ∨ (i = 35 ∧ k = 1) ∨ (i = 120 ∧ k = 10)) → X2 i k = X i k := by
  obtain ⟨⟨h0, h1, h2⟩, h3⟩ := hF
  unfold f_X11_feed f_X12_feed
  rw [c2_ok (by omega) (by omega) (by decide) (by decide)]
  by_cases h : X 35 1 + 20 ≤ 900
  · have eC : X = tpC X (X 36) (X 35 1) := tpC_0.symm
    generalize hm : X 35 1 = m at *
    obtain ⟨G, hG⟩ : ∃ G : Int → Int, up4 (up4 (up4 (up4 (up4 (X 36) m a) (m + 4) b) (m + 4 + 4) c) (m + 4 + 4 + 4) d) (m + 4 + 4 + 4 + 4) e = G := ⟨_, rfl⟩
    obtain ⟨H, hH⟩ : ∃ H : Int → Int, up4 (up4 (up4 (up4 (up4 (X 126) m a) (m + 4) b) (m + 4 + 4) c) (m + 4 + 4 + 4) d) (m + 4 + 4 + 4 + 4) e = H := ⟨_, rfl⟩
    obtain ⟨Y, hY⟩ : ∃ Y : Mem, tpC X G (m + 4 + 4 + 4 + 4 + 4) = Y := ⟨_, rfl⟩
    have y1 : ∀ i : Int, i ≠ 35 → i ≠ 36 → Y i = X i := fun i a1 a2 => by rw [← hY, tpC, ms_ne a1, ma_ne a2]
    have y2 : Y 36 = G := by rw [← hY, tpC, ms_ne (by decide), ma_same]
    have y3 : Y 35 = up (X 35) 1 (m + 4 + 4 + 4 + 4 + 4) := by rw [← hY, tpC, ms_ma, ma_same, ma_ne (by decide)]
    have e2 : Y = tpM Y (X 126) m := by
      rw [← y1 126 (by decide) (by decide), ← h2, ← y1 120 (by decide) (by decide)]
      exact tpM_0.symm
    have hall := up4_at (v := e) (by omega) (up4_at (v := d) (by omega) (up4_at (v := c) (by omega) (up4_at (v := b) (by omega) (up4_at (v := a) h0 h3))))
    rw [hG, hH] at hall
    refine ⟨m + 4 + 4 + 4 + 4 + 4, Y, tpM Y H (m + 4 + 4 + 4 + 4 + 4), ?_, ?_, ⟨by omega, by omega⟩, ⟨?_, ?_⟩, ?_⟩
    · rw [if_pos h, eC, ap_eq h0 (by omega), cl_some, ap_eq (by omega) (by omega), cl_some, ap_eq (by omega) (by omega), cl_some, ap_eq (by omega) (by omega), cl_some, ap_eq (by omega) (by omega), cl_some, tpC_m, hG, hY]
    · rw [y1 120 (by decide) (by decide), h2, c2_ok (by omega) (by omega) (by decide) (by decide), if_pos h]
      conv => lhs; arg 1; rw [e2]
      rw [four_eq h0 (by omega), cl_some, four_eq (by omega) (by omega), cl_some, four_eq (by omega) (by omega), cl_some, four_eq (by omega) (by omega), cl_some, four_eq (by omega) (by omega), cl_some, tpM_m, hH]
    · rw [tpM_m, tpM, ms_ne (by decide), ma_ne (by decide), y3, up_same]
      exact ⟨by omega, by omega, rfl⟩
    · rw [tpM, ms_ne (by decide), ma_ne (by decide), y3, up_same, ms_ne (by decide), ma_ne (by decide), y2, ms_ne (by decide), ma_same]
      exact hall
    · intro i k hn
      rw [tpM]
      unfold ms
      rw [if_neg (by omega), ma_ne (by omega), ← hY, tpC]
      unfold ms
      rw [if_neg (by omega), ma_ne (by omega)]
  · refine ⟨-1, X, X, by rw [if_neg h], ?_, ⟨by decide, by decide⟩, ⟨⟨h0, h1, h2⟩, h3⟩, fun _ _ _ => rfl⟩
    rw [h2, c2_ok (by omega) (by omega) (by decide) (by decide), if_neg h]
