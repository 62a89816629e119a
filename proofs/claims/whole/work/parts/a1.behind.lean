/-! the class's worth, level by level -/
theorem sm_two {w : Int → Int} {b x y M : Int} (hw : ∀ s : Int, 0 ≤ s → s < 32 → 0 ≤ w s) (x0 : 0 ≤ x) (x1 : x ≤ M) (y0 : 0 ≤ y) (y1 : y ≤ M) : ∀ n : Nat, n ≤ 32 → sm (two w b x y) n ≤ M * sm w n
  | 0, _ => by
    show (0 : Int) ≤ M * 0
    rw [Int.mul_zero]
    exact Int.le_refl _
  | n + 1, hn => by
    have ih := sm_two (b := b) hw x0 x1 y0 y1 n (by omega)
    have h1 := hw n (by omega) (by omega)
    show sm (two w b x y) n + two w b x y n ≤ M * (sm w n + w n)
    have h2 : two w b x y n ≤ M * w n := by
      unfold two
      rw [Int.mul_comm M]
      split
      · exact Int.mul_le_mul_of_nonneg_left x1 h1
      · exact Int.mul_le_mul_of_nonneg_left y1 h1
    rw [Int.mul_add]
    omega
theorem two_nn {w : Int → Int} {b x y s : Int} (hw : 0 ≤ w s) (x0 : 0 ≤ x) (y0 : 0 ≤ y) : 0 ≤ two w b x y s := by
  unfold two
  split
  · exact Int.mul_nonneg hw x0
  · exact Int.mul_nonneg hw y0
/-- a row of weights of the class: none below 0, none beyond the sets, together at most T -/
def RWT (A w : Int → Int) (T : Int) : Prop := (∀ s : Int, 0 ≤ s → s < 32 → 0 ≤ w s) ∧ (∀ s : Int, NS A ≤ s → s < 32 → w s = 0) ∧ sm w 32 ≤ T
theorem RWT.wt {A w : Int → Int} {T : Int} (h : RWT A w T) (hT : T ≤ 1000000000000000) : WT A w := ⟨h.1, h.2.1, Int.le_trans h.2.2 hT⟩
theorem RWT.tw {A w : Int → Int} {T b x y M : Int} (h : RWT A w T) (hM : 0 ≤ M) (x0 : 0 ≤ x) (x1 : x ≤ M) (y0 : 0 ≤ y) (y1 : y ≤ M) : RWT A (two w b x y) (M * T) := by
  refine ⟨fun s s0 s1 => two_nn (h.1 s s0 s1) x0 y0, fun s s0 s1 => ?_, ?_⟩
  · unfold two
    rw [h.2.1 s s0 s1, Int.zero_mul]
  · have h1 := sm_two (b := b) h.1 x0 x1 y0 y1 32 (Nat.le_refl _)
    have h2 := Int.mul_le_mul_of_nonneg_left h.2.2 hM
    omega
theorem RWT.ext {A w w' : Int → Int} {T : Int} (h : RWT A w T) (hN : 0 ≤ NS A) (e : ∀ s : Int, 0 ≤ s → s < 32 → w' s = w s) : RWT A w' T := by
  refine ⟨fun s s0 s1 => by rw [e s s0 s1]; exact h.1 s s0 s1, fun s s0 s1 => by rw [e s (by omega) s1]; exact h.2.1 s s0 s1, ?_⟩
  rw [sm_ext 32 (v := w') (w := w) (fun s s0 s1 => e s (by omega) (by omega))]
  exact h.2.2
/-- worth under the sum of the weights -/
theorem WVs_s {A l : Int → Int} {wy : Int → Bool} {N m : Nat} {st : Int} (hB : BD A) (hm : m ≤ 5) (hN : N ≤ 32) (hn : NS A ≤ 32) : ∀ (k : Nat) (T : Int) (w : Int → Int), RWT A w T → 0 ≤ T → 0 ≤ WVs A wy N m l st k w ∧ WVs A wy N m l st k w ≤ 608 ^ k * T
  | k, T, w, hw, hT => by
    have hps : ∀ a : Int, 0 ≤ pS w 0 a ∧ pS w 0 a ≤ T := fun a => by
      have h1 := sg_r (q := pq 0 a) (w := w) 32 (fun s s0 s1 => hw.1 s s0 s1)
      have h2 := hw.2.2
      unfold pS
      omega
    have hmx : ∀ q : Nat, 0 ≤ mxw wy w q ∧ mxw wy w q ≤ T := fun q => by
      induction q with
      | zero =>
        show (0 : Int) ≤ 0 ∧ (0 : Int) ≤ T
        omega
      | succ q ih =>
        have := hps q
        unfold mxw
        split <;> omega
    match k with
    | 0 =>
      have h0 := hmx N
      unfold WVs
      rw [Int.pow_zero, Int.one_mul]
      exact h0
    | k + 1 =>
      have hp : (1 : Int) ≤ 608 ^ (k + 1) := by
        have : (0 : Int) < 608 ^ (k + 1) := Int.pow_pos (by decide)
        omega
      have hp0 : (0 : Int) ≤ 608 ^ k * (32 * T) := Int.mul_nonneg (Int.le_of_lt (Int.pow_pos (by decide))) (by omega)
      have e20 : (608 : Int) ^ (k + 1) * T = 608 ^ k * (32 * T) * 19 := by
        rw [Int.pow_succ, Int.mul_assoc, Int.mul_assoc]
        congr 1
        omega
      unfold WVs
      split
      · rw [e20]
        refine bmx_r (Int.mul_nonneg hp0 (by decide)) m (fun b b0 b1 _ => ?_)
        have hj := hB.2.2.2.2.2.2.2.2.2.2.2.2.2.2.2.1 (28 + 4 * b) (by omega) (by omega)
        have hr := rds_r (v0 := dep A st (l b) 0 - A (28 + 4 * b) - 1) (F := fun v => WVs A wy N m l st k (fun s => w s * lk A (dep A st (l b) s) v)) (M := 608 ^ k * (32 * T)) (fun v => WVs_s hB hm hN hn k (32 * T) _ ⟨fun s s0 s1 => Int.mul_nonneg (hw.1 s s0 s1) (lk_r hB).1, fun s s0 s1 => by
          show w s * _ = 0
          rw [hw.2.1 s s0 s1, Int.zero_mul], by
          have h3 : ∀ n : Nat, n ≤ 32 → sm (fun s => w s * lk A (dep A st (l b) s) v) n ≤ 32 * sm w n := fun n => by
            induction n with
            | zero =>
              intro _
              show (0 : Int) ≤ 32 * 0
              omega
            | succ n ih =>
              intro hn
              have i1 := ih (by omega)
              have i2 := hw.1 n (by omega) (by omega)
              have i3 := Int.mul_le_mul_of_nonneg_left (lk_r hB (d := dep A st (l b) n) (v := v)).2 i2
              show sm (fun s => w s * lk A (dep A st (l b) s) v) n + w n * lk A (dep A st (l b) n) v ≤ 32 * (sm w n + w n)
              omega
          have h4 := h3 32 (Nat.le_refl _)
          have h5 := hw.2.2
          omega⟩ (by omega)) (A (28 + 4 * b) + 3).toNat
        refine ⟨hr.1, Int.le_trans hr.2 ?_⟩
        exact Int.mul_le_mul_of_nonneg_left (by omega) hp0
      · have h0 := hmx N
        have h1 := Int.mul_le_mul_of_nonneg_right (c := T) hp hT
        omega
/-- what a level of the class stands on -/
def CWX (A l : Int → Int) (nd f to r : Int) (X : Mem) : Prop := GL A nd r X ∧ SRC A nd f to (NS A) X ∧ X 49 2 = r ∧ X 49 3 = stg A (A 3) ∧ X 49 4 = (if anyc l (A 2).toNat = true then 1 else 0) ∧ ∀ b : Int, 0 ≤ b → b < A 2 → X (r + 9) b = l b
theorem CWX.fr {A l : Int → Int} {nd f to r : Int} {X Y : Mem} (h : CWX A l nd f to r X) (e : ∀ i : Int, i ≠ 45 → (i < 51 ∨ 55 ≤ i) → Y i = X i) : CWX A l nd f to r Y := by
  obtain ⟨h1, h2, h3, h4, h5, h6⟩ := h
  have hrr := RIV_r h1.1
  refine ⟨h1.fr (fun i hi => e i (by omega) (by omega)) (fun k _ => by rw [e 42 (by decide) (by decide)]) (e 46 (by decide) (by decide)), ?_, by rw [e 49 (by decide) (by decide)]; exact h3, by rw [e 49 (by decide) (by decide)]; exact h4, by rw [e 49 (by decide) (by decide)]; exact h5, fun b b0 b1 => by rw [e (r + 9) (by omega) (by omega)]; exact h6 b b0 b1⟩
  unfold SRC at *
  rw [e 42 (by decide) (by decide), e 43 (by decide) (by decide), e 44 (by decide) (by decide)]
  exact h2
/-- a level k of the class tells its row's worth, and touches 45 and the rows of later levels only -/
def LVC (A l : Int → Int) (nd f to r : Int) (wy : Int → Bool) (wo : Int → Mem → Option (Int × Mem)) (k : Nat) : Prop := ∀ (X : Mem) (T : Int), CWX A l nd f to r X → RWT A (X (51 + k)) T → 0 ≤ T → 608 ^ k * T ≤ 1000000000000000 →
  ∃ Y : Mem, wo k X = some (WVs A wy (NS A).toNat (A 2).toNat l (stg A (A 3)) k (X (51 + k)), Y) ∧ ∀ i : Int, i ≠ 45 → (i < 51 ∨ 51 + k ≤ i) → Y i = X i
theorem bit_r : ∀ (s : Fin 32) (b : Fin 5), ia (ishr (s.val : Int) (b.val : Int)) 1 = 0 ∨ ia (ishr (s.val : Int) (b.val : Int)) 1 = 1 := by decide +kernel
theorem behind_3 {wo : Int → Mem → Option (Int × Mem)} {X : Mem} {w : Int → Int} {b x y : Int} {k : Nat} (hk : k ≤ 2) (b0 : 0 ≤ b) (b1 : b < 5) (x0 : 0 ≤ x ∧ x ≤ 608) (y0 : 0 ≤ y ∧ y ≤ 608) (hw : X (52 + k) = w) :
    ∀ (K j : Nat) (G : Int → Int), j ≤ 32 → 32 - j < K → (∀ s : Int, 0 ≤ s → s < j → G s = two w b x y s) →
    ∃ G' : Int → Int, L_X6_worthBehind_3 wo K b ((k : Int) + 1) x y j (ma X (51 + k) G) = B_X6_worthBehind_58 wo ((k : Int) + 1) (ma X (51 + k) G') ∧ ∀ s : Int, 0 ≤ s → s < 32 → G' s = two w b x y s := by
  have ek : (k : Int) + 1 - 1 = k := by omega
  have t0 := WTS_at (k := (k : Int)) (by omega) (by omega)
  have t1 := WTS_at (k := (k : Int) + 1) (by omega) (by omega)
  have e52 : (51 : Int) + ((k : Int) + 1) = 52 + k := by omega
  rw [e52] at t1
  intro K
  induction K with
  | zero => intro j G _ h; omega
  | succ K ih =>
    intro j G hj hK hG
    have e3 : (j : Int) + 1 = ((j + 1 : Nat) : Int) := rfl
    rw [L_X6_worthBehind_3, c2_ok (by omega) (by omega) (by decide) (by decide)]
    by_cases g : (32 : Int) ≤ (j : Int)
    · rw [if_pos g]
      exact ⟨G, rfl, fun s s0 s1 => hG s s0 (by omega)⟩
    · have hbit := bit_r ⟨j, by omega⟩ ⟨b.toNat, by omega⟩
      have hbit : ia (ishr (j : Int) ((b.toNat : Nat) : Int)) 1 = 0 ∨ ia (ishr (j : Int) ((b.toNat : Nat) : Int)) 1 = 1 := hbit
      rw [Int.toNat_of_nonneg b0] at hbit
      have hstep : ∀ s0 : Int, (0 ≤ s0 ∧ s0 ≤ 608) → w j * s0 = two w b x y j → ∃ G' : Int → Int, B_X6_worthBehind_26 wo (fun x1 x2 x3 x4 x5 X => L_X6_worthBehind_3 wo K x1 x2 x3 x4 x5 X) b ((k : Int) + 1) x y j s0 (ma X (51 + k) G) = B_X6_worthBehind_58 wo ((k : Int) + 1) (ma X (51 + k) G') ∧ ∀ s : Int, 0 ≤ s → s < 32 → G' s = two w b x y s := fun s0 hs0 es => by
        obtain ⟨G', q1, q2⟩ := ih (j + 1) (up G j (two w b x y j)) (by omega) (by omega) (fun s s0 s1 => by
          rw [up_at]
          by_cases e : s = j
          · rw [if_pos e, e]
          · rw [if_neg e]
            exact hG s s0 (by omega))
        refine ⟨G', ?_, q2⟩
        unfold B_X6_worthBehind_26
        rw [ek, ax_ok (n := WTS.length) (by omega) (show (k : Int) < 4 by omega), t0.1, cm_ok t0.2, ax_ok (n := WTS.length) (by omega) (show (k : Int) + 1 < 4 by omega), t1.1, cm_ok t1.2, ax_ok (n := 32) (by omega) (by omega), c1_okk (by omega) (by omega), ax_ok (n := 32) (by omega) (by omega), bd_eq, ma_ne (show (52 : Int) + k ≠ 51 + k by omega), hw, es, ms_row, e3]
        exact q1
      rw [if_neg g, c2_ok (by omega) (by omega) (by decide) (by decide)]
      rcases hbit with hb | hb
      · rw [if_pos (by omega)]
        refine hstep y y0 ?_
        unfold two
        rw [if_neg (by omega)]
      · rw [if_neg (by omega)]
        refine hstep x x0 ?_
        unfold two
        rw [if_pos hb]
theorem behind_eq {A l : Int → Int} {nd f to r : Int} {wy : Int → Bool} {wo : Int → Mem → Option (Int × Mem)} {X : Mem} {w : Int → Int} {b x y T : Int} {k : Nat} (hB : BD A) (hwo : LVC A l nd f to r wy wo k) (hX : CWX A l nd f to r X) (hk : k ≤ 2) (b0 : 0 ≤ b) (b1 : b < 5) (x0 : 0 ≤ x ∧ x ≤ 608) (y0 : 0 ≤ y ∧ y ≤ 608) (hw : X (52 + k) = w) (hT : RWT A w T) (T0 : 0 ≤ T) (T1 : 608 ^ (k + 1) * T ≤ 1000000000000000) :
    ∃ Y : Mem, f_X6_worthBehind wo b ((k : Int) + 1) x y X = some (WVs A wy (NS A).toNat (A 2).toNat l (stg A (A 3)) k (two w b x y), Y) ∧ ∀ i : Int, i ≠ 45 → (i < 51 ∨ 52 + k ≤ i) → Y i = X i := by
  have hN := NS_r hB.2.1
  have ek : (k : Int) + 1 - 1 = k := by omega
  obtain ⟨G, g1, g2⟩ := behind_3 (wo := wo) (X := X) hk b0 b1 x0 y0 hw KF 0 (X (51 + k)) (by omega) (by rw [KF_eq]; omega) (fun s _ _ => by omega)
  rw [ma_self] at g1
  have g1 : f_X6_worthBehind wo b ((k : Int) + 1) x y X = B_X6_worthBehind_58 wo ((k : Int) + 1) (ma X (51 + k) G) := g1
  have hX' : CWX A l nd f to r (ma X (51 + k) G) := hX.fr fun i i1 i2 => ma_ne (by omega)
  have hT' : RWT A (two w b x y) (608 * T) := hT.tw (by decide) x0.1 x0.2 y0.1 y0.2
  have hT'' : RWT A (ma X (51 + k) G (51 + k)) (608 * T) := by
    rw [ma_same]
    exact hT'.ext (by omega) g2
  obtain ⟨Y, y1, y2⟩ := hwo (ma X (51 + k) G) (608 * T) hX' hT'' (by omega) (by
    rw [Int.pow_succ, Int.mul_assoc] at T1
    exact T1)
  refine ⟨Y, ?_, fun i i1 i2 => by rw [y2 i i1 (by omega), ma_ne (by omega)]⟩
  rw [g1, B_X6_worthBehind_58, ek, y1, cl_some, ma_same, WVs_ext k _ _ g2]
