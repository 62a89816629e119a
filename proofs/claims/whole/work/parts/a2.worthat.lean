/-! the class's worth at one bar: readings grouped -/
/-- one bar's worth stays small -/
theorem bwv_s {A : Int → Int} {wy : Int → Bool} {l w : Int → Int} {k : Nat} {b T : Int} (hB : BD A) (b0 : 0 ≤ b) (b1 : b < 5) (hw : RWT A w T) (T0 : 0 ≤ T) : 0 ≤ bwv A wy l k w b ∧ bwv A wy l k w b ≤ 608 ^ (k + 1) * T := by
  have hA := hB.2.1
  have hN := NS_r hA
  have hj := hB.2.2.2.2.2.2.2.2.2.2.2.2.2.2.2.1 (28 + 4 * b) (by omega) (by omega)
  have hp0 : (0 : Int) ≤ 608 ^ k * (32 * T) := Int.mul_nonneg (Int.le_of_lt (Int.pow_pos (by decide))) (by omega)
  have e20 : (608 : Int) ^ (k + 1) * T = 608 ^ k * (32 * T) * 19 := by
    rw [Int.pow_succ, Int.mul_assoc, Int.mul_assoc]
    congr 1
    omega
  have hr := rds_r (v0 := dep A (stg A (A 3)) (l b) 0 - A (28 + 4 * b) - 1) (F := fun v => WVs A wy (NS A).toNat (A 2).toNat l (stg A (A 3)) k (fun s => w s * lk A (dep A (stg A (A 3)) (l b) s) v)) (M := 608 ^ k * (32 * T)) (fun v => WVs_s hB (by omega) (by omega) (by omega) k (32 * T) _ ⟨fun s s0 s1 => Int.mul_nonneg (hw.1 s s0 s1) (lk_r hB).1, fun s s0 s1 => by
          show w s * _ = 0
          rw [hw.2.1 s s0 s1, Int.zero_mul], by
    have h3 : ∀ n : Nat, n ≤ 32 → sm (fun s => w s * lk A (dep A (stg A (A 3)) (l b) s) v) n ≤ 32 * sm w n := fun n => by
      induction n with
      | zero =>
        intro _
        show (0 : Int) ≤ 32 * 0
        omega
      | succ n ih =>
        intro hn
        have i1 := ih (by omega)
        have i2 := hw.1 n (by omega) (by omega)
        have i3 := Int.mul_le_mul_of_nonneg_left (lk_r hB (d := dep A (stg A (A 3)) (l b) n) (v := v)).2 i2
        show sm (fun s => w s * lk A (dep A (stg A (A 3)) (l b) s) v) n + w n * lk A (dep A (stg A (A 3)) (l b) n) v ≤ 32 * (sm w n + w n)
        omega
    have h4 := h3 32 (Nat.le_refl _)
    have h5 := hw.2.2
    omega⟩ (by omega)) (A (28 + 4 * b) + 3).toNat
  refine ⟨hr.1, ?_⟩
  rw [e20]
  refine Int.le_trans hr.2 ?_
  exact Int.mul_le_mul_of_nonneg_left (by omega) hp0
theorem worthAt_50 {A l : Int → Int} {nd f to r : Int} {wy : Int → Bool} {wo : Int → Mem → Option (Int × Mem)} {w : Int → Int} {b T d0 t P Q : Int} {F : Int → Int} {k : Nat} (hB : BD A) (hwo : LVC A l nd f to r wy wo k) (hk : k ≤ 2) (b0 : 0 ≤ b) (b1 : b < 5) (hT : RWT A w T) (T0 : 0 ≤ T) (T1 : 608 ^ (k + 1) * T ≤ 1000000000000000) (hd : -30 ≤ d0 ∧ d0 ≤ 60) (ht : 0 ≤ t ∧ t ≤ 16)
    (hF : ∀ v : Int, F v = WVs A wy (NS A).toNat (A 2).toNat l (stg A (A 3)) k (two w b (lk A (d0 - t) v) (lk A d0 v))) (hP : P = WVs A wy (NS A).toNat (A 2).toNat l (stg A (A 3)) k (two w b 1 0)) (hQ : Q = WVs A wy (NS A).toNat (A 2).toNat l (stg A (A 3)) k (two w b 0 1)) :
    ∀ (K j : Nat) (x5 x6 x7 : Int) (X : Mem), j ≤ (t + 3).toNat → (t + 3).toNat - j < K → CWX A l nd f to r X → X (52 + k) = w → (0 ≤ x5 ∧ x5 ≤ 32 * j) → (0 ≤ x6 ∧ x6 ≤ 32 * j) → x7 + x5 * P + x6 * Q = rds F (d0 - t - 1) j →
    ∃ Y : Mem, L_X6_worthAt_50 wo K b ((k : Int) + 1) d0 (d0 - t) x5 x6 x7 (d0 - t - 1 + j) X = some (rds F (d0 - t - 1) (t + 3).toNat, Y) ∧ ∀ i : Int, i ≠ 45 → (i < 51 ∨ 52 + k ≤ i) → Y i = X i := by
  intro K
  induction K with
  | zero => intro j x5 x6 x7 X _ h; omega
  | succ K ih =>
    intro j x5 x6 x7 X hj hK hX hw h5 h6 hI
    have hr := hX.1.1
    have hR := hX.1.2.1
    rw [L_X6_worthAt_50, c2_ok (by omega) (by omega) (by omega) (by omega)]
    by_cases g : d0 + 1 < d0 - t - 1 + (j : Int)
    · rw [if_pos g]
      rw [show (t + 3).toNat = j by omega]
      have last : ∀ (x7' : Int) (Y : Mem), CWX A l nd f to r Y → Y (52 + k) = w → (∀ i : Int, i ≠ 45 → (i < 51 ∨ 52 + k ≤ i) → Y i = X i) → x7' + x6 * Q = rds F (d0 - t - 1) j → ∃ Y' : Mem, B_X6_worthAt_153 wo b ((k : Int) + 1) x6 x7' Y = some (rds F (d0 - t - 1) j, Y') ∧ ∀ i : Int, i ≠ 45 → (i < 51 ∨ 52 + k ≤ i) → Y' i = X i := fun x7' Y hY hYw hYX hI' => by
        rw [B_X6_worthAt_153, c1_okk (by omega) (by omega)]
        by_cases g6 : x6 ≤ 0
        · rw [if_pos g6]
          have : x6 = 0 := by omega
          rw [this, Int.zero_mul, Int.add_zero] at hI'
          exact ⟨Y, by rw [hI'], hYX⟩
        · obtain ⟨Y', y1, y2⟩ := behind_eq (x := 0) (y := x6) hB hwo hY hk b0 b1 (by omega) (by omega) hYw hT T0 T1
          rw [two_r h6.1, ← hQ] at y1
          rw [if_neg g6, y1, cl_some, bd_eq, hI']
          exact ⟨Y', rfl, fun i i1 i2 => by rw [y2 i i1 i2, hYX i i1 i2]⟩
      rw [B_X6_worthAt_134, c1_okk (by omega) (by omega)]
      by_cases g5 : x5 ≤ 0
      · rw [if_pos g5]
        have : x5 = 0 := by omega
        rw [this, Int.zero_mul, Int.add_zero] at hI
        exact last x7 X hX hw (fun i _ _ => rfl) hI
      · obtain ⟨Y', y1, y2⟩ := behind_eq (x := x5) (y := 0) hB hwo hX hk b0 b1 (by omega) (by omega) hw hT T0 T1
        rw [two_l h5.1, ← hP] at y1
        rw [if_neg g5, y1, cl_some, bd_eq]
        exact last _ Y' (hX.fr fun i i1 i2 => y2 i i1 (by omega)) (by rw [y2 _ (by omega) (by omega)]; exact hw) y2 hI
    · have e3 : d0 - t - 1 + (j : Int) + 1 = d0 - t - 1 + ((j + 1 : Nat) : Int) := by omega
      have l1 := lk_r hB (d := d0 - t) (v := d0 - t - 1 + (j : Int))
      have l2 := lk_r hB (d := d0) (v := d0 - t - 1 + (j : Int))
      have er : rds F (d0 - t - 1) (j + 1) = rds F (d0 - t - 1) j + F (d0 - t - 1 + (j : Int)) := rfl
      have hFv := hF (d0 - t - 1 + (j : Int))
      rw [if_neg g, hX.2.2.1, cm_ok hr, likely_eq hR (by omega) (by omega), cl_some, hX.2.2.1, cm_ok hr, likely_eq hR (by omega) (by omega), cl_some]
      generalize hva : lk A (d0 - t) (d0 - t - 1 + (j : Int)) = va at *
      generalize hvb : lk A d0 (d0 - t - 1 + (j : Int)) = vb at *
      rw [c1_okk (by omega) (by omega)]
      by_cases gb : vb = 0
      · rw [if_neg (by simpa using gb), bd_eq, B_X6_worthAt_128, e3]
        rw [gb, two_l l1.1, ← hP] at hFv
        refine ih (j + 1) (x5 + va) x6 x7 X (by omega) (by omega) hX hw (by omega) (by omega) ?_
        rw [er, hFv, ← hI, Int.add_mul]
        omega
      · rw [if_pos gb, c1_okk (by omega) (by omega)]
        by_cases ga : va = 0
        · rw [if_neg (by simpa using ga), bd_eq, B_X6_worthAt_128, e3]
          rw [ga, two_r l2.1, ← hQ] at hFv
          refine ih (j + 1) x5 (x6 + vb) x7 X (by omega) (by omega) hX hw (by omega) (by omega) ?_
          rw [er, hFv, ← hI, Int.add_mul]
          omega
        · obtain ⟨Y', y1, y2⟩ := behind_eq (x := va) (y := vb) hB hwo hX hk b0 b1 (by omega) (by omega) hw hT T0 T1
          rw [if_pos ga, y1, cl_some, bd_eq, B_X6_worthAt_128, e3, ← hFv]
          obtain ⟨Y, z1, z2⟩ := ih (j + 1) x5 x6 (x7 + F (d0 - t - 1 + (j : Int))) Y' (by omega) (by omega) (hX.fr fun i i1 i2 => y2 i i1 (by omega)) (by rw [y2 _ (by omega) (by omega)]; exact hw) (by omega) (by omega) (by rw [er, ← hI]; omega)
          exact ⟨Y, z1, fun i i1 i2 => by rw [z2 i i1 i2, y2 i i1 i2]⟩
/-- a row's readings at a bar's cell -/
theorem two_lk' {A w : Int → Int} {st c b v s : Int} (b0 : 0 ≤ b) (b1 : b < 5) (hc : A (108 + c) = b) : w s * lk A (dep A st c s) v = two w b (lk A (dep A st c 0 - A (28 + 4 * b)) v) (lk A (dep A st c 0) v) s := by
  rcases two_lk (w := w) (st := st) (v := v) (s := s) hc (show b ≠ -1 by omega) with h | h
  · exact h
  · obtain ⟨bf, rfl⟩ := fin5 b0 b1
    exact absurd h (bit_none bf)
theorem worthAt_eq {A l : Int → Int} {nd f to r : Int} {wy : Int → Bool} {wo : Int → Mem → Option (Int × Mem)} {X : Mem} {w : Int → Int} {b T : Int} {k : Nat} (hB : BD A) (hwo : LVC A l nd f to r wy wo k) (hX : CWX A l nd f to r X) (hk : k ≤ 2) (b0 : 0 ≤ b) (b1 : b < A 2) (hl : LE A b (l b)) (hn : l b ≠ -1) (hw : X (52 + k) = w) (hT : RWT A w T) (T0 : 0 ≤ T) (T1 : 608 ^ (k + 1) * T ≤ 1000000000000000) :
    ∃ Y : Mem, f_X6_worthAt wo b ((k : Int) + 1) X = some (bwv A wy l k w b, Y) ∧ ∀ i : Int, i ≠ 45 → (i < 51 ∨ 52 + k ≤ i) → Y i = X i := by
  have hA := hB.2.1
  have h3 := hB.2.2.1
  obtain ⟨hG, hS, x2, x3, x4, xl⟩ := id hX
  have hr := hG.1
  have hR := hG.2.1
  have hlr := LE_r hB hl
  have hj := hB.2.2.2.2.2.2.2.2.2.2.2.2.2.2.2.1 (28 + 4 * b) (by omega) (by omega)
  have hd := depd_r hB (x := 0) (c := l b) (d := A 3) (by omega) (by omega) h3.1
  have hl2 : A (108 + l b) = b := by
    rcases hl with ⟨h1, -⟩ | ⟨-, -, h1, -⟩
    · exact absurd h1 hn
    · exact h1
  obtain ⟨Y, y1, y2⟩ := worthAt_50 (w := w) (b := b) (d0 := dep A (stg A (A 3)) (l b) 0) (t := A (28 + 4 * b)) (F := fun v => WVs A wy (NS A).toNat (A 2).toNat l (stg A (A 3)) k (fun s => w s * lk A (dep A (stg A (A 3)) (l b) s) v)) hB hwo hk b0 (by omega) hT T0 T1 hd hj (fun v => WVs_ext k _ _ fun s _ _ => two_lk' b0 (by omega) hl2) rfl rfl KF 0 0 0 0 X (by omega) (by rw [KF_eq]; omega) hX hw (by omega) (by omega) (by rw [Int.zero_mul, Int.zero_mul]; rfl)
  refine ⟨Y, ?_, y2⟩
  have e0 : dep A (stg A (A 3)) (l b) 0 - A (28 + 4 * b) - 1 + ((0 : Nat) : Int) = dep A (stg A (A 3)) (l b) 0 - A (28 + 4 * b) - 1 := by omega
  rw [e0] at y1
  unfold f_X6_worthAt
  rw [x2, cm_ok hr, cm_ok hr, ax_ok (by omega) (by omega), x3, xl b b0 b1, depthAt_eq hR hB (by omega) (by omega), cl_some, x2, cm_ok hr, ax_ok (by omega) (by omega), (hR.2.2.2.2.1 b b0 b1).1, bd_eq, bd_eq, y1]
  rfl
/-- the worth over the bars -/
theorem worthOf_34 {A l : Int → Int} {nd f to r : Int} {wy : Int → Bool} {wo : Int → Mem → Option (Int × Mem)} {w : Int → Int} {T : Int} {k : Nat} (hB : BD A) (hwo : LVC A l nd f to r wy wo k) (hk : k ≤ 2) (hl : ∀ b : Int, 0 ≤ b → b < A 2 → LE A b (l b)) (hT : RWT A w T) (T0 : 0 ≤ T) (T1 : 608 ^ (k + 1) * T ≤ 1000000000000000) :
    ∀ (K j : Nat) (X : Mem), (j : Int) ≤ A 2 → (A 2).toNat - j < K → CWX A l nd f to r X → X (52 + k) = w →
    ∃ Y : Mem, L_X6_worthOf_34 wo K ((k : Int) + 1) (bmx (bwv A wy l k w) l j) j X = some (bmx (bwv A wy l k w) l (A 2).toNat, Y) ∧ ∀ i : Int, i ≠ 45 → (i < 51 ∨ 52 + k ≤ i) → Y i = X i := by
  have hA := hB.2.1
  intro K
  induction K with
  | zero => intro j X _ h; omega
  | succ K ih =>
    intro j X hj hK hX hw
    obtain ⟨hG, hS, x2, x3, x4, xl⟩ := id hX
    have hr := hG.1
    have hR := hG.2.1
    have e3 : (j : Int) + 1 = ((j + 1 : Nat) : Int) := rfl
    have hacc := bmx_r (F := bwv A wy l k w) (l := l) (M := 1000000000000000) (by decide) j (fun b b0 b1 _ => by
      have := bwv_s (wy := wy) (l := l) (k := k) hB b0 (by omega) hT T0
      omega)
    rw [L_X6_worthOf_34, x2, cm_ok hr, hR.1.2.2.1, c2_ok (by omega) (by omega) (by omega) (by omega)]
    by_cases g : A 2 ≤ (j : Int)
    · rw [if_pos g, show (A 2).toNat = j by omega]
      exact ⟨X, rfl, fun i _ _ => rfl⟩
    · have hlj := hl j (by omega) (by omega)
      have hlr := LE_r hB hlj
      rw [if_neg g, cm_ok hr, ax_ok (by omega) (by omega), xl j (by omega) (by omega), c2_ok (by omega) (by omega) (by decide) (by decide)]
      by_cases gl : l j = -1
      · have es : bmx (bwv A wy l k w) l (j + 1) = bmx (bwv A wy l k w) l j := by
          show (if l j = -1 then _ else _) = _
          rw [if_pos gl]
        rw [if_pos gl, B_X6_worthOf_72, ← es, e3]
        exact ih (j + 1) X (by omega) (by omega) hX hw
      · obtain ⟨Y', y1, y2⟩ := worthAt_eq (b := (j : Int)) hB hwo hX hk (by omega) (by omega) hlj gl hw hT T0 T1
        have hb := bwv_s (wy := wy) (l := l) (k := k) (b := (j : Int)) hB (by omega) (by omega) hT T0
        have es : bmx (bwv A wy l k w) l (j + 1) = max (bmx (bwv A wy l k w) l j) (bwv A wy l k w j) := by
          show (if l j = -1 then _ else _) = _
          rw [if_neg gl]
        rw [if_neg gl, y1, cl_some, d2_ok (by omega) (by omega) (by omega) (by omega), bd_eq, B_X6_worthOf_72, ← es, e3]
        obtain ⟨Y, z1, z2⟩ := ih (j + 1) Y' (by omega) (by omega) (hX.fr fun i i1 i2 => y2 i i1 (by omega)) (by rw [y2 _ (by omega) (by omega)]; exact hw)
        exact ⟨Y, z1, fun i i1 i2 => by rw [z2 i i1 i2, y2 i i1 i2]⟩
theorem worthOf_11 {A l : Int → Int} {nd f to r : Int} {wy : Int → Bool} {wo : Int → Mem → Option (Int × Mem)} {X : Mem} {T : Int} {k : Nat} (hB : BD A) (hw : ∀ a : Int, 0 ≤ a → a < NS A → (wy a = true ↔ WAYP A nd f to a)) (hX : CWX A l nd f to r X) (hk : k ≤ 3) (hT : RWT A (X (51 + k)) T) (T0 : 0 ≤ T) (T1 : 608 ^ k * T ≤ 1000000000000000) :
    ∃ Y : Mem, B_X6_worthOf_11 wo k X = some (mxw wy (X (51 + k)) (NS A).toNat, Y) ∧ ∀ i : Int, i ≠ 45 → Y i = X i := by
  have hA := hB.2.1
  have t0 := WTS_at (k := (k : Int)) (by omega) (by omega)
  have hp : (1 : Int) ≤ 608 ^ k := by
    have : (0 : Int) < 608 ^ k := Int.pow_pos (by decide)
    omega
  have hT1 : T ≤ 1000000000000000 := by
    have := Int.mul_le_mul_of_nonneg_right (c := T) hp T0
    omega
  obtain ⟨v, S, b1, b2, b3⟩ := bestOf_eq (p := 51 + (k : Int)) (w := X (51 + k)) hB hX.1 hX.2.1 (hT.wt hT1) rfl
  refine ⟨ma X 45 S, ?_, fun i hi => ma_ne hi⟩
  unfold B_X6_worthOf_11
  rw [c2_ok (by omega) (by omega) (by omega) (by omega), show max (0 : Int) (k : Int) = k by omega, ax_ok (n := WTS.length) (by omega) (show (k : Int) < 4 by omega), t0.1, cm_ok t0.2, b1, cl_some, best_mxw hA (hT.wt hT1) hw b2]
theorem LVC_d {A l : Int → Int} {nd f to r : Int} {wy : Int → Bool} (hB : BD A) (hw : ∀ a : Int, 0 ≤ a → a < NS A → (wy a = true ↔ WAYP A nd f to a)) (hl : ∀ b : Int, 0 ≤ b → b < A 2 → LE A b (l b)) : ∀ (k D : Nat), k ≤ 3 → k < D → LVC A l nd f to r wy (f_X6_worthOf_d D) k
  | k, 0, _, h => by omega
  | 0, D + 1, _, _ => by
    intro X T hX hT T0 T1
    obtain ⟨Y, y1, y2⟩ := worthOf_11 (wo := f_X6_worthOf_d D) hB hw hX (by omega) hT T0 T1
    refine ⟨Y, ?_, fun i i1 i2 => y2 i i1⟩
    show f_X6_worthOf (f_X6_worthOf_d D) _ X = _
    unfold f_X6_worthOf
    rw [c1_okk (by decide) (by decide), if_pos (by decide), y1]
    rfl
  | k + 1, D + 1, hk, hD => by
    intro X T hX hT T0 T1
    have ih := LVC_d (r := r) hB hw hl k D (by omega) (by omega)
    obtain ⟨hG, hS, x2, x3, x4, xl⟩ := id hX
    have ek : ((k + 1 : Nat) : Int) = (k : Int) + 1 := rfl
    have ek2 : (51 : Int) + ((k + 1 : Nat) : Int) = 52 + k := by omega
    have e0 : f_X6_worthOf_d (D + 1) ((k + 1 : Nat) : Int) X = f_X6_worthOf (f_X6_worthOf_d D) ((k + 1 : Nat) : Int) X := rfl
    rw [e0]
    unfold f_X6_worthOf
    rw [c1_okk (by omega) (by omega), if_neg (by omega), x4]
    by_cases ga : anyc l (A 2).toNat = true
    · rw [if_pos ga, c1_okk (by decide) (by decide), if_pos (by decide)]
      rw [ek2] at hT
      obtain ⟨Y, y1, y2⟩ := worthOf_34 (r := r) (w := X (52 + k)) hB ih (by omega) hl hT T0 T1 KF 0 X (by have := hB.2.1; omega) (by rw [KF_eq]; have := hB.2.1; omega) hX rfl
      have y1 : L_X6_worthOf_34 (f_X6_worthOf_d D) KF ((k + 1 : Nat) : Int) 0 0 X = _ := y1
      rw [WVs_succ ga, y1, ek2]
      exact ⟨Y, rfl, fun i i1 i2 => y2 i i1 (by omega)⟩
    · rw [if_neg ga, c1_okk (by decide) (by decide), if_neg (by decide)]
      obtain ⟨Y, y1, y2⟩ := worthOf_11 (wo := f_X6_worthOf_d D) hB hw hX hk hT T0 T1
      refine ⟨Y, ?_, fun i i1 i2 => y2 i i1⟩
      rw [y1]
      show _ = some (if anyc l (A 2).toNat = true then _ else _, Y)
      rw [if_neg ga]
/-- the first best bar -/
theorem firstBest_7 {A l : Int → Int} {nd f to r : Int} {wy : Int → Bool} {w : Int → Int} {T : Int} {k : Nat} (hB : BD A) (hw : ∀ a : Int, 0 ≤ a → a < NS A → (wy a = true ↔ WAYP A nd f to a)) (hk : k ≤ 2) (hl : ∀ b : Int, 0 ≤ b → b < A 2 → LE A b (l b)) (hT : RWT A w T) (T0 : 0 ≤ T) (T1 : 608 ^ (k + 1) * T ≤ 1000000000000000) :
    ∀ (K : Nat) (j b v : Int) (X : Mem), 0 ≤ j → j ≤ A 2 → (A 2 - j).toNat < K → CWX A l nd f to r X → X (52 + k) = w → FBB (bwv A wy l k w) l j b → (b ≠ -1 → v = bwv A wy l k w b) → (0 ≤ v ∧ v ≤ 1000000000000000) →
    ∃ (b' : Int) (Y : Mem), L_X6_firstBest_7 K ((k : Int) + 1) b v j X = some (b', Y) ∧ FBB (bwv A wy l k w) l (A 2) b' ∧ ∀ i : Int, i ≠ 45 → (i < 51 ∨ 52 + k ≤ i) → Y i = X i := by
  have hA := hB.2.1
  have hwo := LVC_d (r := r) hB hw hl k 4 (by omega) (by omega)
  intro K
  induction K with
  | zero => intro j b v X _ _ h; omega
  | succ K ih =>
    intro j b v X j0 j1 hK hX hw hb hv hvr
    obtain ⟨hG, hS, x2, x3, x4, xl⟩ := id hX
    have hr := hG.1
    have hR := hG.2.1
    have hbr : -1 ≤ b ∧ b < 5 := by
      rcases hb with ⟨h1, -⟩ | ⟨⟨h1, h2⟩, -⟩ <;> omega
    rw [L_X6_firstBest_7, x2, cm_ok hr, hR.1.2.2.1, c2_ok (by omega) (by omega) (by omega) (by omega)]
    by_cases g : A 2 ≤ j
    · rw [if_pos g, show A 2 = j by omega]
      exact ⟨b, X, rfl, hb, fun i _ _ => rfl⟩
    · have hlj := hl j j0 (by omega)
      have hlr := LE_r hB hlj
      rw [if_neg g, cm_ok hr, ax_ok (by omega) (by omega), xl j (by omega) (by omega), c2_ok (by omega) (by omega) (by decide) (by decide)]
      by_cases gl : l j = -1
      · rw [if_pos gl, B_X6_firstBest_60]
        exact ih (j + 1) b v X (by omega) (by omega) (by omega) hX hw (hb.skip gl) hv hvr
      · obtain ⟨Y', y1, y2⟩ := worthAt_eq (b := j) hB hwo hX hk (by omega) (by omega) hlj gl hw hT T0 T1
        have hbw := bwv_s (wy := wy) (l := l) (k := k) (b := j) hB (by omega) (by omega) hT T0
        have hX' : CWX A l nd f to r Y' := hX.fr fun i i1 i2 => y2 i i1 (by omega)
        have hw' : Y' (52 + k) = w := by rw [y2 _ (by omega) (by omega)]; exact hw
        rw [if_neg gl, y1, cl_some, c2_ok (by omega) (by omega) (by decide) (by decide)]
        by_cases gb : b = -1
        · rw [if_pos gb, B_X6_firstBest_54, B_X6_firstBest_60]
          obtain ⟨b', Y, q1, q2, q3⟩ := ih (j + 1) j (bwv A wy l k w j) Y' (by omega) (by omega) (by omega) hX' hw' (hb.take j0 gl (fun e => absurd gb e)) (fun _ => rfl) (by omega)
          exact ⟨b', Y, q1, q2, fun i i1 i2 => by rw [q3 i i1 i2, y2 i i1 i2]⟩
        · have hvb := hv gb
          rw [if_neg gb, d2_ok (by omega) (by omega) (by omega) (by omega)]
          by_cases gv : bwv A wy l k w j ≤ v
          · rw [if_pos gv, B_X6_firstBest_60]
            obtain ⟨b', Y, q1, q2, q3⟩ := ih (j + 1) b v Y' (by omega) (by omega) (by omega) hX' hw' (hb.keep gb (by omega)) hv hvr
            exact ⟨b', Y, q1, q2, fun i i1 i2 => by rw [q3 i i1 i2, y2 i i1 i2]⟩
          · rw [if_neg gv, B_X6_firstBest_54, B_X6_firstBest_60]
            obtain ⟨b', Y, q1, q2, q3⟩ := ih (j + 1) j (bwv A wy l k w j) Y' (by omega) (by omega) (by omega) hX' hw' (hb.take j0 gl (fun _ => by omega)) (fun _ => rfl) (by omega)
            exact ⟨b', Y, q1, q2, fun i i1 i2 => by rw [q3 i i1 i2, y2 i i1 i2]⟩
