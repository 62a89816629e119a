/-! the reference's levels of worth, one shape for all -/
noncomputable def WOg (o b : Int) (fn : Mem → Option (Int × Mem)) : Nat → Int → Int → Mem → Option (Int × Mem)
  | 0, _, _, _ => none
  | n + 1, acc, v, X =>
    cl (f_X12_readTo b X) fun r3 X4 =>
    c2 v r3 <| if r3 < v then some (acc, X4) else
      cl (f_X12_reads o b v X4) fun r5 X6 =>
      c1 r5 <| if r5 = 0 then WOg o b fn n (acc + 0) (v + 1) X6 else
        cl (fn X6) fun r8 X9 => WOg o b fn n (acc + r8) (v + 1) X9
theorem WOg_1 {o b : Int} : ∀ (k : Nat) (acc v : Int) (X : Mem), L_X12_worthOf1_9 k o b acc v X = WOg o b (f_X12_worth0 (o + 32)) k acc v X
  | 0, _, _, _ => rfl
  | k + 1, acc, v, X => by
    have ih := WOg_1 (o := o) (b := b) k
    rw [L_X12_worthOf1_9, WOg]
    unfold B_X12_worthOf1_43
    simp only [bd_eq, ih]
theorem WOg_2 {o b : Int} : ∀ (k : Nat) (acc v : Int) (X : Mem), L_X12_worthOf2_9 k o b acc v X = WOg o b (f_X12_worth1 (o + 32)) k acc v X
  | 0, _, _, _ => rfl
  | k + 1, acc, v, X => by
    have ih := WOg_2 (o := o) (b := b) k
    rw [L_X12_worthOf2_9, WOg]
    unfold B_X12_worthOf2_43
    simp only [bd_eq, ih]
theorem WOg_3 {b : Int} : ∀ (k : Nat) (acc v : Int) (X : Mem), L_X12_worthOf3_9 k b acc v X = WOg 0 b (f_X12_worth2 32) k acc v X
  | 0, _, _, _ => rfl
  | k + 1, acc, v, X => by
    have ih := WOg_3 (b := b) k
    rw [L_X12_worthOf3_9, WOg]
    unfold B_X12_worthOf3_41
    simp only [bd_eq, ih]
def Mk : Nat → Int
  | 0 => 32768000000
  | 1 => 1024000000
  | 2 => 32000000
  | _ => 1000000
/-- a level's function tells the worth of its row, and touches later rows only -/
def LVP (Z : Mem) (wy : Int → Bool) (l : Int → Int) (fn : Mem → Option (Int × Mem)) (o : Int) (k : Nat) : Prop := ∀ G : Int → Int, (∀ s : Int, 0 ≤ s → s < NS (Z 121) → 0 ≤ G (o + s) ∧ G (o + s) ≤ Mk k) →
  ∃ G' : Int → Int, fn (ma Z 136 G) = some (WVs (Z 121) wy (NS (Z 121)).toNat (Z 121 2).toNat l (stg (Z 121) (Z 121 3)) k (lvl G (NS (Z 121)) o), ma Z 136 G') ∧ ∀ s : Int, s < o + 32 → G' s = G s
theorem LVP_0 {Z : Mem} {nd f to o : Int} {wy : Int → Bool} {l : Int → Int} (hB : BD (Z 121)) (f0 : 0 ≤ f) (f1 : f < Z 121 0 * Z 121 1) (o0 : 0 ≤ o) (o1 : o ≤ 96) (hF : ∀ a : Int, 0 ≤ a → a < NS (Z 121) → FEW (Z 121) nd f to a (Z 134 a)) (hw : ∀ a : Int, 0 ≤ a → a < NS (Z 121) → (wy a = true ↔ WAYP (Z 121) nd f to a)) : LVP Z wy l (f_X12_worth0 o) o 0 := by
  intro G hG
  have hN := NS_r hB.2.1
  have e121 : (ma Z 136 G) 121 = Z 121 := ma_ne (by decide)
  have e134 : (ma Z 136 G) 134 = Z 134 := ma_ne (by decide)
  have h := worth0_5 (Z := ma Z 136 G) (nd := nd) (f := f) (to := to) (o := o) (wy := wy) (by rw [e121]; exact hB) f0 (by rw [e121]; exact f1) o0 o1 (by rw [e121, e134]; exact hF) (by rw [e121]; exact hw) (fun s s0 s1 => by
    rw [e121] at s1
    have := hG s s0 s1
    rw [ma_same]
    have e : Mk 0 = 32768000000 := rfl
    omega) (n := (NS (Z 121)).toNat) (by rw [e121]; omega) KF 0 (by omega) (by rw [KF_eq]; omega)
  rw [e121, ma_same] at h
  exact ⟨G, h, fun s _ => rfl⟩
theorem Mk_step {k : Nat} (hk : k ≤ 2) : Mk (k + 1) * 32 ≤ Mk k ∧ Mk (k + 1) ≤ 3000000000 ∧ Mk k * 32 ^ k ≤ 100000000000 ∧ 0 ≤ Mk k := by
  rcases (show k = 0 ∨ k = 1 ∨ k = 2 by omega) with rfl | rfl | rfl <;> decide
/-- the readings of one bar at a level -/
theorem WOg_eq {Z : Mem} {wy : Int → Bool} {l : Int → Int} {fn : Mem → Option (Int × Mem)} {o b : Int} {k : Nat} (hB : BD (Z 121)) (hk : k ≤ 2) (hfn : LVP Z wy l fn (o + 32) k) (o0 : 0 ≤ o) (o1 : o ≤ 64) (b0 : 0 ≤ b) (b1 : b < Z 121 2) (hl : LE (Z 121) b (l b)) (hn : l b ≠ -1) :
    ∀ (K j : Nat) (G : Int → Int) (w : Int → Int), j ≤ (Z 121 (28 + 4 * b) + 3).toNat → (Z 121 (28 + 4 * b) + 3).toNat - j < K → (∀ s : Int, 0 ≤ s → s < NS (Z 121) → 0 ≤ G (o + s) ∧ G (o + s) ≤ Mk (k + 1)) → w = lvl G (NS (Z 121)) o →
    ∃ G' : Int → Int, WOg o b fn K (rds (fun v => WVs (Z 121) wy (NS (Z 121)).toNat (Z 121 2).toNat l (stg (Z 121) (Z 121 3)) k (fun s => w s * lk (Z 121) (dep (Z 121) (stg (Z 121) (Z 121 3)) (l b) s) v)) (dep (Z 121) (stg (Z 121) (Z 121 3)) (l b) 0 - Z 121 (28 + 4 * b) - 1) j) (dep (Z 121) (stg (Z 121) (Z 121 3)) (l b) 0 - Z 121 (28 + 4 * b) - 1 + j) (ma Z 136 G) = some (rds (fun v => WVs (Z 121) wy (NS (Z 121)).toNat (Z 121 2).toNat l (stg (Z 121) (Z 121 3)) k (fun s => w s * lk (Z 121) (dep (Z 121) (stg (Z 121) (Z 121 3)) (l b) s) v)) (dep (Z 121) (stg (Z 121) (Z 121 3)) (l b) 0 - Z 121 (28 + 4 * b) - 1) (Z 121 (28 + 4 * b) + 3).toNat, ma Z 136 G') ∧ ∀ s : Int, s < o + 32 → G' s = G s := by
  have hN := NS_r hB.2.1
  have hA := hB.2.1
  have h3 := hB.2.2.1
  have hj := hB.2.2.2.2.2.2.2.2.2.2.2.2.2.2.2.1 (28 + 4 * b) (by omega) (by omega)
  have hlr := LE_r hB hl
  have hd := depd_r hB (x := 0) (c := l b) (d := Z 121 3) (by omega) (by omega) h3.1
  have hst := Mk_step hk
  generalize hv0 : dep (Z 121) (stg (Z 121) (Z 121 3)) (l b) 0 = d0 at *
  intro K
  induction K with
  | zero => intro j G w _ h; omega
  | succ K ih =>
    intro j G w hjn hK hG hw
    have e121 : (ma Z 136 G) 121 = Z 121 := ma_ne (by decide)
    have hrt := (readFrom_eq (Z := ma Z 136 G) (b := b) (l := l b) (by rw [e121]; exact hB) b0 (by rw [e121]; exact b1) (by rw [e121]; exact hl) hn).2
    rw [e121, hv0] at hrt
    rw [WOg, hrt, cl_some, c2_ok (by omega) (by omega) (by omega) (by omega)]
    by_cases g : d0 + 1 < d0 - Z 121 (28 + 4 * b) - 1 + (j : Int)
    · rw [if_pos g, show j = (Z 121 (28 + 4 * b) + 3).toNat by omega]
      exact ⟨G, rfl, fun s _ => rfl⟩
    · obtain ⟨r, G1, r1, r2, r3, r4, r5⟩ := reads_eq (Z := ma Z 136 G) (o := o) (v := d0 - Z 121 (28 + 4 * b) - 1 + (j : Int)) (b := b) (l := l b) (by rw [e121]; exact hB) o0 o1 (inI_s (by omega) (by omega)) (by rw [e121]; exact hl) hn (by omega) (fun s s0 s1 => by
        rw [e121] at s1
        rw [ma_same]
        have := hG s s0 s1
        omega)
      rw [ma_ma] at r1
      rw [ma_same] at r3
      rw [e121, ma_same] at r4
      rw [e121] at r5
      have hw1 : w = lvl G1 (NS (Z 121)) o := by
        rw [hw]
        funext s
        unfold lvl
        split
        · by_cases s0 : s < 32
          · rw [r3 (o + s) (by omega)]
          · omega
        · rfl
      have hG1 : ∀ s : Int, 0 ≤ s → s < NS (Z 121) → 0 ≤ G1 (o + s) ∧ G1 (o + s) ≤ Mk (k + 1) := fun s s0 s1 => by
        rw [r3 (o + s) (by omega)]
        exact hG s s0 s1
      have e3 : d0 - Z 121 (28 + 4 * b) - 1 + (j : Int) + 1 = d0 - Z 121 (28 + 4 * b) - 1 + ((j + 1 : Nat) : Int) := by omega
      have es : ∀ x : Int, x = WVs (Z 121) wy (NS (Z 121)).toNat (Z 121 2).toNat l (stg (Z 121) (Z 121 3)) k (fun s => w s * lk (Z 121) (dep (Z 121) (stg (Z 121) (Z 121 3)) (l b) s) (d0 - Z 121 (28 + 4 * b) - 1 + (j : Int))) → rds (fun v => WVs (Z 121) wy (NS (Z 121)).toNat (Z 121 2).toNat l (stg (Z 121) (Z 121 3)) k (fun s => w s * lk (Z 121) (dep (Z 121) (stg (Z 121) (Z 121 3)) (l b) s) v)) (d0 - Z 121 (28 + 4 * b) - 1) j + x = rds (fun v => WVs (Z 121) wy (NS (Z 121)).toNat (Z 121 2).toNat l (stg (Z 121) (Z 121 3)) k (fun s => w s * lk (Z 121) (dep (Z 121) (stg (Z 121) (Z 121 3)) (l b) s) v)) (d0 - Z 121 (28 + 4 * b) - 1) (j + 1) := fun x hx => by
        rw [hx]
        rfl
      have hrow : ∀ s : Int, 0 ≤ s → s < 32 → w s * lk (Z 121) (dep (Z 121) (stg (Z 121) (Z 121 3)) (l b) s) (d0 - Z 121 (28 + 4 * b) - 1 + (j : Int)) = lvl G1 (NS (Z 121)) (o + 32) s := fun s s0 s1 => by
        rw [hw]
        unfold lvl
        by_cases gs : s < NS (Z 121)
        · rw [if_pos gs, if_pos gs, r4 s s0 gs]
        · rw [if_neg gs, if_neg gs, Int.zero_mul]
      rw [if_neg g, r1, cl_some, c1_okk (by omega) (by omega)]
      by_cases gr : r = 0
      · rw [if_pos gr, es 0 (by
          rw [WVs_ext k _ (fun _ => 0) (fun s s0 s1 => by
            rw [hrow s s0 s1]
            unfold lvl
            split
            · exact r5 gr s s0 (by omega)
            · rfl), WVs_zero]), e3]
        obtain ⟨G', q1, q2⟩ := ih (j + 1) G1 w (by omega) (by omega) hG1 hw1
        exact ⟨G', q1, fun s hs => by rw [q2 s hs, r3 s (by omega)]⟩
      · obtain ⟨G2, f1, f2⟩ := hfn G1 (fun s s0 s1 => by
          have h1 := hG s s0 s1
          have h2 := lk_r hB (d := dep (Z 121) (stg (Z 121) (Z 121 3)) (l b) s) (v := d0 - Z 121 (28 + 4 * b) - 1 + (j : Int))
          rw [r4 s s0 s1]
          refine ⟨Int.mul_nonneg h1.1 h2.1, ?_⟩
          have h3 := Int.mul_le_mul h1.2 h2.2 h2.1 (show 0 ≤ Mk (k + 1) by omega)
          omega)
        have hG2 : ∀ s : Int, 0 ≤ s → s < NS (Z 121) → 0 ≤ G2 (o + s) ∧ G2 (o + s) ≤ Mk (k + 1) := fun s s0 s1 => by
          rw [f2 (o + s) (by omega)]
          exact hG1 s s0 s1
        have hw2 : w = lvl G2 (NS (Z 121)) o := by
          rw [hw1]
          funext s
          unfold lvl
          split
          · rw [f2 (o + s) (by omega)]
          · rfl
        rw [if_neg gr, f1, cl_some, es _ (WVs_ext k _ _ hrow).symm, e3]
        obtain ⟨G', q1, q2⟩ := ih (j + 1) G2 w (by omega) (by omega) hG2 hw2
        exact ⟨G', q1, fun s hs => by rw [q2 s hs, f2 s (by omega), r3 s (by omega)]⟩
/-- one bar's worth at a level -/
noncomputable def bwv (A : Int → Int) (wy : Int → Bool) (l : Int → Int) (k : Nat) (w : Int → Int) (b : Int) : Int := rds (fun v => WVs A wy (NS A).toNat (A 2).toNat l (stg A (A 3)) k (fun s => w s * lk A (dep A (stg A (A 3)) (l b) s) v)) (dep A (stg A (A 3)) (l b) 0 - A (28 + 4 * b) - 1) (A (28 + 4 * b) + 3).toNat
theorem bwv_r {A : Int → Int} {wy : Int → Bool} {l w : Int → Int} {k : Nat} {b : Int} (hB : BD A) (hk : k ≤ 2) (b0 : 0 ≤ b) (b1 : b < 5) (hw : ∀ s : Int, 0 ≤ s → s < 32 → 0 ≤ w s ∧ w s ≤ Mk (k + 1)) : 0 ≤ bwv A wy l k w b ∧ bwv A wy l k w b ≤ 100000000000000000 := by
  have hA := hB.2.1
  have hst := Mk_step hk
  have hj := hB.2.2.2.2.2.2.2.2.2.2.2.2.2.2.2.1 (28 + 4 * b) (by omega) (by omega)
  have h20 : (20 : Int) ^ k ≤ 400 := by rcases (show k = 0 ∨ k = 1 ∨ k = 2 by omega) with rfl | rfl | rfl <;> decide
  have hr := rds_r (v0 := dep A (stg A (A 3)) (l b) 0 - A (28 + 4 * b) - 1) (F := fun v => WVs A wy (NS A).toNat (A 2).toNat l (stg A (A 3)) k (fun s => w s * lk A (dep A (stg A (A 3)) (l b) s) v)) (M := 1280000000000000) (fun v => by
    have h1 := WVs_r (wy := wy) (N := (NS A).toNat) (m := (A 2).toNat) (l := l) (st := stg A (A 3)) hB (by omega) k (Mk k) (fun s => w s * lk A (dep A (stg A (A 3)) (l b) s) v) (fun s s0 s1 => by
      have h1 := hw s s0 s1
      have h2 := lk_r hB (d := dep A (stg A (A 3)) (l b) s) (v := v)
      refine ⟨Int.mul_nonneg h1.1 h2.1, ?_⟩
      have h3 := Int.mul_le_mul h1.2 h2.2 h2.1 (show 0 ≤ Mk (k + 1) by omega)
      omega) hst.2.2.2 hst.2.2.1
    have h2 := Int.mul_le_mul_of_nonneg_right (c := 3200000000000) h20 (by decide)
    omega) (A (28 + 4 * b) + 3).toNat
  unfold bwv
  omega
noncomputable def BMg (wof : Int → Mem → Option (Int × Mem)) : Nat → Int → Int → Mem → Option (Int × Mem)
  | 0, _, _, _ => none
  | n + 1, acc, b, X =>
    ax 2200 2 <| c2 b (X 121 2) <| if (X 121 2) ≤ b then some (acc, X) else
      cl (f_X12_hasCell b X) fun r1 X2 =>
      c1 r1 <| if r1 = 0 then (d2 acc 0 <| BMg wof n (max acc 0) (b + 1) X2) else
        cl (wof b X2) fun r4 X5 => d2 acc r4 <| BMg wof n (max acc r4) (b + 1) X5
theorem BMg_1 {o : Int} : ∀ (k : Nat) (acc b : Int) (X : Mem), L_X12_worth1_5 k o acc b X = BMg (fun b => f_X12_worthOf1 o b) k acc b X
  | 0, _, _, _ => rfl
  | k + 1, acc, b, X => by
    have ih := BMg_1 (o := o) k
    rw [L_X12_worth1_5, BMg]
    unfold B_X12_worth1_37
    simp only [bd_eq, ih]
theorem BMg_2 {o : Int} : ∀ (k : Nat) (acc b : Int) (X : Mem), L_X12_worth2_5 k o acc b X = BMg (fun b => f_X12_worthOf2 o b) k acc b X
  | 0, _, _, _ => rfl
  | k + 1, acc, b, X => by
    have ih := BMg_2 (o := o) k
    rw [L_X12_worth2_5, BMg]
    unfold B_X12_worth2_37
    simp only [bd_eq, ih]
theorem lvl_r {A G : Int → Int} {o M : Int} (hM : 0 ≤ M) (hG : ∀ s : Int, 0 ≤ s → s < NS A → 0 ≤ G (o + s) ∧ G (o + s) ≤ M) (s : Int) (s0 : 0 ≤ s) : 0 ≤ lvl G (NS A) o s ∧ lvl G (NS A) o s ≤ M := by
  unfold lvl
  split
  · exact hG s s0 (by omega)
  · exact ⟨Int.le_refl _, hM⟩
theorem lvl_eq {G G' : Int → Int} {N o : Int} (hN : N ≤ 32) (h : ∀ s : Int, s < o + 32 → G' s = G s) : lvl G' N o = lvl G N o := by
  funext s
  unfold lvl
  split
  · exact h _ (by omega)
  · rfl
theorem BMg_eq {Z : Mem} {wy : Int → Bool} {l : Int → Int} {wof : Int → Mem → Option (Int × Mem)} {o : Int} {k : Nat} (hB : BD (Z 121)) (hk : k ≤ 2) (hl : ∀ b : Int, 0 ≤ b → b < Z 121 2 → LE (Z 121) b (l b))
    (hwof : ∀ (b : Int) (G : Int → Int), 0 ≤ b → b < Z 121 2 → l b ≠ -1 → (∀ s : Int, 0 ≤ s → s < NS (Z 121) → 0 ≤ G (o + s) ∧ G (o + s) ≤ Mk (k + 1)) → ∃ G' : Int → Int, wof b (ma Z 136 G) = some (bwv (Z 121) wy l k (lvl G (NS (Z 121)) o) b, ma Z 136 G') ∧ ∀ s : Int, s < o + 32 → G' s = G s) :
    ∀ (K j : Nat) (G w : Int → Int), (j : Int) ≤ Z 121 2 → (Z 121 2).toNat - j < K → (∀ s : Int, 0 ≤ s → s < NS (Z 121) → 0 ≤ G (o + s) ∧ G (o + s) ≤ Mk (k + 1)) → w = lvl G (NS (Z 121)) o →
    ∃ G' : Int → Int, BMg wof K (bmx (bwv (Z 121) wy l k w) l j) j (ma Z 136 G) = some (bmx (bwv (Z 121) wy l k w) l (Z 121 2).toNat, ma Z 136 G') ∧ ∀ s : Int, s < o + 32 → G' s = G s := by
  have hA := hB.2.1
  have hN := NS_r hA
  have hst := Mk_step hk
  intro K
  induction K with
  | zero => intro j G w _ h; omega
  | succ K ih =>
    intro j G w hj hK hG hw
    have e121 : (ma Z 136 G) 121 = Z 121 := ma_ne (by decide)
    have hwr : ∀ s : Int, 0 ≤ s → s < 32 → 0 ≤ w s ∧ w s ≤ Mk (k + 1) := fun s s0 _ => by
      rw [hw]
      exact lvl_r (by have := hst; rcases (show k = 0 ∨ k = 1 ∨ k = 2 by omega) with rfl | rfl | rfl <;> decide) hG s s0
    have hacc := bmx_r (F := bwv (Z 121) wy l k w) (l := l) (M := 100000000000000000) (by decide) j (fun b b0 b1 _ => bwv_r hB hk b0 (by omega) hwr)
    rw [BMg, ax_ok (by decide) (by decide), e121, c2_ok (by omega) (by omega) (by omega) (by omega)]
    by_cases g : Z 121 2 ≤ (j : Int)
    · rw [if_pos g, show (Z 121 2).toNat = j by omega]
      exact ⟨G, rfl, fun s _ => rfl⟩
    · have hlj := hl j (by omega) (by omega)
      have e3 : (j : Int) + 1 = ((j + 1 : Nat) : Int) := rfl
      rw [if_neg g, hasCell_eq (by rw [e121]; exact hB) (inI_s (by omega) (by omega)) (by rw [e121]; exact hlj), cl_some]
      by_cases gl : l j = -1
      · have es : bmx (bwv (Z 121) wy l k w) l (j + 1) = max (bmx (bwv (Z 121) wy l k w) l j) 0 := by
          show (if l j = -1 then _ else _) = _
          rw [if_pos gl]
          omega
        rw [if_pos gl, c1_okk (by decide) (by decide), if_pos rfl, d2_ok (by omega) (by omega) (by decide) (by decide), ← es, e3]
        exact ih (j + 1) G w (by omega) (by omega) hG hw
      · obtain ⟨G1, f1, f2⟩ := hwof j G (by omega) (by omega) gl hG
        have hb := bwv_r (wy := wy) (l := l) (b := (j : Int)) hB hk (by omega) (by omega) hwr
        have es : bmx (bwv (Z 121) wy l k w) l (j + 1) = max (bmx (bwv (Z 121) wy l k w) l j) (bwv (Z 121) wy l k w j) := by
          show (if l j = -1 then _ else _) = _
          rw [if_neg gl]
        rw [if_neg gl, c1_okk (by decide) (by decide), if_neg (by decide), f1, cl_some, ← hw, d2_ok (by omega) (by omega) (by omega) (by omega), ← es, e3]
        obtain ⟨G', q1, q2⟩ := ih (j + 1) G1 w (by omega) (by omega) (fun s s0 s1 => by rw [f2 _ (by omega)]; exact hG s s0 s1) (by rw [hw]; exact (lvl_eq (by omega) f2).symm)
        exact ⟨G', q1, fun s hs => by rw [q2 s hs, f2 s hs]⟩
/-- from the readings of a bar to its worth -/
theorem wof_of {Z : Mem} {wy : Int → Bool} {l : Int → Int} {fn : Mem → Option (Int × Mem)} {o b : Int} {k : Nat} {wof : Int → Mem → Option (Int × Mem)} (hB : BD (Z 121)) (hk : k ≤ 2) (hfn : LVP Z wy l fn (o + 32) k) (o0 : 0 ≤ o) (o1 : o ≤ 64) (b0 : 0 ≤ b) (b1 : b < Z 121 2) (hl : LE (Z 121) b (l b)) (hn : l b ≠ -1) (hw : ∀ X : Mem, wof b X = cl (f_X12_readFrom b X) fun r1 X2 => WOg o b fn KF 0 r1 X2) (G : Int → Int) (hG : ∀ s : Int, 0 ≤ s → s < NS (Z 121) → 0 ≤ G (o + s) ∧ G (o + s) ≤ Mk (k + 1)) : ∃ G' : Int → Int, wof b (ma Z 136 G) = some (bwv (Z 121) wy l k (lvl G (NS (Z 121)) o) b, ma Z 136 G') ∧ ∀ s : Int, s < o + 32 → G' s = G s := by
  have e121 : (ma Z 136 G) 121 = Z 121 := ma_ne (by decide)
  have hj := hB.2.2.2.2.2.2.2.2.2.2.2.2.2.2.2.1 (28 + 4 * b) (by have := hB.2.1; omega) (by have := hB.2.1; omega)
  have hrf := (readFrom_eq (Z := ma Z 136 G) (b := b) (l := l b) (by rw [e121]; exact hB) b0 (by rw [e121]; exact b1) (by rw [e121]; exact hl) hn).1
  rw [e121] at hrf
  obtain ⟨G', q1, q2⟩ := WOg_eq (wy := wy) (fn := fn) hB hk hfn o0 o1 b0 b1 hl hn KF 0 G _ (by omega) (by rw [KF_eq]; omega) hG rfl
  refine ⟨G', ?_, q2⟩
  have q1 : WOg o b fn KF 0 (dep (Z 121) (stg (Z 121) (Z 121 3)) (l b) 0 - Z 121 (28 + 4 * b) - 1 + ((0 : Nat) : Int)) (ma Z 136 G) = _ := q1
  rw [show dep (Z 121) (stg (Z 121) (Z 121 3)) (l b) 0 - Z 121 (28 + 4 * b) - 1 + ((0 : Nat) : Int) = dep (Z 121) (stg (Z 121) (Z 121 3)) (l b) 0 - Z 121 (28 + 4 * b) - 1 by omega] at q1
  rw [hw, hrf, cl_some, q1]
  rfl
theorem wof_1 {o b : Int} {X : Mem} : f_X12_worthOf1 o b X = cl (f_X12_readFrom b X) fun r1 X2 => WOg o b (f_X12_worth0 (o + 32)) KF 0 r1 X2 := by
  unfold f_X12_worthOf1
  simp only [WOg_1]
theorem wof_2 {o b : Int} {X : Mem} : f_X12_worthOf2 o b X = cl (f_X12_readFrom b X) fun r1 X2 => WOg o b (f_X12_worth1 (o + 32)) KF 0 r1 X2 := by
  unfold f_X12_worthOf2
  simp only [WOg_2]
theorem wof_3 {b : Int} {X : Mem} : f_X12_worthOf3 b X = cl (f_X12_readFrom b X) fun r1 X2 => WOg 0 b (f_X12_worth2 32) KF 0 r1 X2 := by
  unfold f_X12_worthOf3
  simp only [WOg_3]
theorem WVs_succ {A wy l k w} (ha : anyc l (A 2).toNat = true) : WVs A wy (NS A).toNat (A 2).toNat l (stg A (A 3)) (k + 1) w = bmx (bwv A wy l k w) l (A 2).toNat := by
  show (if anyc l (A 2).toNat = true then _ else _) = _
  rw [if_pos ha]
  rfl
theorem LVP_1 {Z : Mem} {wy : Int → Bool} {l : Int → Int} {o : Int} (hB : BD (Z 121)) (hl : ∀ b : Int, 0 ≤ b → b < Z 121 2 → LE (Z 121) b (l b)) (ha : anyc l (Z 121 2).toNat = true) (o0 : 0 ≤ o) (o1 : o ≤ 64) (h0 : LVP Z wy l (f_X12_worth0 (o + 32)) (o + 32) 0) : LVP Z wy l (f_X12_worth1 o) o 1 := by
  intro G hG
  have hA := hB.2.1
  obtain ⟨G', q1, q2⟩ := BMg_eq (wy := wy) (wof := fun b => f_X12_worthOf1 o b) (k := 0) hB (by omega) hl (fun b G b0 b1 hn hG => wof_of (wof := fun b => f_X12_worthOf1 o b) hB (by omega) h0 o0 o1 b0 b1 (hl b b0 b1) hn (fun X => wof_1) G hG) KF 0 G _ (by omega) (by rw [KF_eq]; omega) hG rfl
  refine ⟨G', ?_, q2⟩
  have q1 : BMg (fun b => f_X12_worthOf1 o b) KF 0 0 (ma Z 136 G) = _ := q1
  unfold f_X12_worth1
  rw [BMg_1, q1, WVs_succ ha]
theorem LVP_2 {Z : Mem} {wy : Int → Bool} {l : Int → Int} {o : Int} (hB : BD (Z 121)) (hl : ∀ b : Int, 0 ≤ b → b < Z 121 2 → LE (Z 121) b (l b)) (ha : anyc l (Z 121 2).toNat = true) (o0 : 0 ≤ o) (o1 : o ≤ 32) (h1 : LVP Z wy l (f_X12_worth1 (o + 32)) (o + 32) 1) : LVP Z wy l (f_X12_worth2 o) o 2 := by
  intro G hG
  have hA := hB.2.1
  obtain ⟨G', q1, q2⟩ := BMg_eq (wy := wy) (wof := fun b => f_X12_worthOf2 o b) (k := 1) hB (by omega) hl (fun b G b0 b1 hn hG => wof_of (wof := fun b => f_X12_worthOf2 o b) hB (by omega) h1 o0 (by omega) b0 b1 (hl b b0 b1) hn (fun X => wof_2) G hG) KF 0 G _ (by omega) (by rw [KF_eq]; omega) hG rfl
  refine ⟨G', ?_, q2⟩
  have q1 : BMg (fun b => f_X12_worthOf2 o b) KF 0 0 (ma Z 136 G) = _ := q1
  unfold f_X12_worth2
  rw [BMg_2, q1, WVs_succ ha]
/-! the reference's best bar -/
/-- the first of the bars below j whose worth is greatest -/
def FBB (F l : Int → Int) (j b : Int) : Prop := (b = -1 ∧ ∀ c : Int, 0 ≤ c → c < j → l c = -1) ∨ ((0 ≤ b ∧ b < j) ∧ l b ≠ -1 ∧ ∀ c : Int, 0 ≤ c → c < j → l c ≠ -1 → F c ≤ F b ∧ (c < b → F c < F b))
theorem FBB_u {F l : Int → Int} {j b b' : Int} (h : FBB F l j b) (h' : FBB F l j b') : b = b' := by
  rcases h with ⟨h1, h2⟩ | ⟨⟨h0, h1⟩, h2, h3⟩
  · rcases h' with ⟨k1, k2⟩ | ⟨⟨k0, k1⟩, k2, k3⟩
    · omega
    · exact absurd (h2 b' k0 k1) k2
  · rcases h' with ⟨k1, k2⟩ | ⟨⟨k0, k1⟩, k2, k3⟩
    · exact absurd (k2 b h0 h1) h2
    · have a1 := h3 b' k0 k1 k2
      have a2 := k3 b h0 h1 h2
      by_cases g : b < b'
      · have := a2.2 g
        omega
      · by_cases g2 : b' < b
        · have := a1.2 g2
          omega
        · omega
theorem FBB.skip {F l : Int → Int} {j b : Int} (h : FBB F l j b) (hl : l j = -1) : FBB F l (j + 1) b := by
  rcases h with ⟨h1, h2⟩ | ⟨⟨h0, h1⟩, h2, h3⟩
  · refine Or.inl ⟨h1, fun c c0 c1 => ?_⟩
    by_cases e : c = j
    · rw [e]; exact hl
    · exact h2 c c0 (by omega)
  · refine Or.inr ⟨⟨h0, by omega⟩, h2, fun c c0 c1 hc => ?_⟩
    by_cases e : c = j
    · rw [e] at hc
      exact absurd hl hc
    · exact h3 c c0 (by omega) hc
theorem FBB.keep {F l : Int → Int} {j b : Int} (h : FBB F l j b) (hb : b ≠ -1) (hF : F j ≤ F b) : FBB F l (j + 1) b := by
  rcases h with ⟨h1, h2⟩ | ⟨⟨h0, h1⟩, h2, h3⟩
  · exact absurd h1 hb
  · refine Or.inr ⟨⟨h0, by omega⟩, h2, fun c c0 c1 hc => ?_⟩
    by_cases e : c = j
    · rw [e]
      exact ⟨hF, fun h => by omega⟩
    · exact h3 c c0 (by omega) hc
theorem FBB.take {F l : Int → Int} {j b : Int} (h : FBB F l j b) (j0 : 0 ≤ j) (hl : l j ≠ -1) (hF : b ≠ -1 → F b < F j) : FBB F l (j + 1) j := by
  refine Or.inr ⟨⟨j0, by omega⟩, hl, fun c c0 c1 hc => ?_⟩
  by_cases e : c = j
  · rw [e]
    exact ⟨Int.le_refl _, fun h => by omega⟩
  · rcases h with ⟨h1, h2⟩ | ⟨⟨h0, h1⟩, h2, h3⟩
    · exact absurd (h2 c c0 (by omega)) hc
    · have h4 := h3 c c0 (by omega) hc
      have h5 := hF (by omega)
      exact ⟨by omega, fun _ => by omega⟩
theorem worthOf_k {Z : Mem} {wy : Int → Bool} {l : Int → Int} {b : Int} {k : Nat} (hB : BD (Z 121)) (hk : k ≤ 2) (hl : ∀ b : Int, 0 ≤ b → b < Z 121 2 → LE (Z 121) b (l b)) (ha : anyc l (Z 121 2).toNat = true) (h0 : ∀ o : Int, 0 ≤ o → o ≤ 96 → LVP Z wy l (f_X12_worth0 o) o 0) (b0 : 0 ≤ b) (b1 : b < Z 121 2) (hn : l b ≠ -1) (G : Int → Int) (hG : ∀ s : Int, 0 ≤ s → s < NS (Z 121) → 0 ≤ G (0 + s) ∧ G (0 + s) ≤ Mk (k + 1)) : ∃ G' : Int → Int, f_X12_worthOf b ((k : Int) + 1) (ma Z 136 G) = some (bwv (Z 121) wy l k (lvl G (NS (Z 121)) 0) b, ma Z 136 G') ∧ ∀ s : Int, s < 0 + 32 → G' s = G s := by
  rcases (show k = 0 ∨ k = 1 ∨ k = 2 by omega) with rfl | rfl | rfl
  · obtain ⟨G', q1, q2⟩ := wof_of (wof := fun b => f_X12_worthOf1 0 b) (o := 0) hB (by omega) (h0 (0 + 32) (by decide) (by decide)) (by decide) (by decide) b0 b1 (hl b b0 b1) hn (fun X => wof_1) G hG
    refine ⟨G', ?_, q2⟩
    unfold f_X12_worthOf
    rw [c2_ok (by decide) (by decide) (by decide) (by decide), if_neg (by decide), q1, cl_some]
  · obtain ⟨G', q1, q2⟩ := wof_of (wof := fun b => f_X12_worthOf2 0 b) (o := 0) hB (by omega) (LVP_1 hB hl ha (by decide) (by decide) (h0 (0 + 32 + 32) (by decide) (by decide))) (by decide) (by decide) b0 b1 (hl b b0 b1) hn (fun X => wof_2) G hG
    refine ⟨G', ?_, q2⟩
    unfold f_X12_worthOf
    rw [c2_ok (by decide) (by decide) (by decide) (by decide), if_pos (by decide), c2_ok (by decide) (by decide) (by decide) (by decide), if_neg (by decide), q1, cl_some]
  · obtain ⟨G', q1, q2⟩ := wof_of (wof := fun b => f_X12_worthOf3 b) (fn := f_X12_worth2 32) (o := 0) hB (by omega) (LVP_2 (o := 0 + 32) hB hl ha (by decide) (by decide) (LVP_1 hB hl ha (by decide) (by decide) (h0 (0 + 32 + 32 + 32) (by decide) (by decide)))) (by decide) (by decide) b0 b1 (hl b b0 b1) hn (fun X => wof_3) G hG
    refine ⟨G', ?_, q2⟩
    unfold f_X12_worthOf
    rw [c2_ok (by decide) (by decide) (by decide) (by decide), if_pos (by decide), c2_ok (by decide) (by decide) (by decide) (by decide), if_pos (by decide), q1, cl_some]
theorem bestBar_7 {Z : Mem} {wy : Int → Bool} {l : Int → Int} {k : Nat} (hB : BD (Z 121)) (hk : k ≤ 2) (hl : ∀ b : Int, 0 ≤ b → b < Z 121 2 → LE (Z 121) b (l b)) (ha : anyc l (Z 121 2).toNat = true) (h0 : ∀ o : Int, 0 ≤ o → o ≤ 96 → LVP Z wy l (f_X12_worth0 o) o 0) :
    ∀ (K : Nat) (j b v : Int) (G w : Int → Int), 0 ≤ j → j ≤ Z 121 2 → (Z 121 2 - j).toNat < K → (∀ s : Int, 0 ≤ s → s < NS (Z 121) → 0 ≤ G (0 + s) ∧ G (0 + s) ≤ Mk (k + 1)) → w = lvl G (NS (Z 121)) 0 → FBB (bwv (Z 121) wy l k w) l j b → (b ≠ -1 → v = bwv (Z 121) wy l k w b) → (0 ≤ v ∧ v ≤ 100000000000000000) →
    ∃ (b' : Int) (G' : Int → Int), L_X12_bestBar_7 K ((k : Int) + 1) b v j (ma Z 136 G) = some (b', ma Z 136 G') ∧ FBB (bwv (Z 121) wy l k w) l (Z 121 2) b' ∧ ∀ s : Int, s < 0 + 32 → G' s = G s := by
  have hA := hB.2.1
  have hN := NS_r hA
  intro K
  induction K with
  | zero => intro j b v G w _ _ h; omega
  | succ K ih =>
    intro j b v G w j0 j1 hK hG hw hb hv hvr
    have e121 : (ma Z 136 G) 121 = Z 121 := ma_ne (by decide)
    have hwr : ∀ s : Int, 0 ≤ s → s < 32 → 0 ≤ w s ∧ w s ≤ Mk (k + 1) := fun s s0 _ => by
      rw [hw]
      exact lvl_r (by rcases (show k = 0 ∨ k = 1 ∨ k = 2 by omega) with rfl | rfl | rfl <;> decide) hG s s0
    have hbr : -1 ≤ b ∧ b < 5 := by
      rcases hb with ⟨h1, -⟩ | ⟨⟨h1, h2⟩, -⟩ <;> omega
    rw [L_X12_bestBar_7, ax_ok (by decide) (by decide), e121, c2_ok (by omega) (by omega) (by omega) (by omega)]
    by_cases g : Z 121 2 ≤ j
    · rw [if_pos g, show Z 121 2 = j by omega]
      exact ⟨b, G, rfl, hb, fun s _ => rfl⟩
    · have hlj := hl j j0 (by omega)
      rw [if_neg g, hasCell_eq (by rw [e121]; exact hB) (inI_s (by omega) (by omega)) (by rw [e121]; exact hlj), cl_some]
      by_cases gl : l j = -1
      · rw [if_pos gl, c1_okk (by decide) (by decide), if_neg (by decide), B_X12_bestBar_60]
        exact ih (j + 1) b v G w (by omega) (by omega) (by omega) hG hw (hb.skip gl) hv hvr
      · obtain ⟨G1, f1, f2⟩ := worthOf_k (b := j) hB hk hl ha h0 j0 (by omega) gl G hG
        have hbw := bwv_r (wy := wy) (l := l) (b := j) hB hk j0 (by omega) hwr
        rw [← hw] at f1
        have hG1 : ∀ s : Int, 0 ≤ s → s < NS (Z 121) → 0 ≤ G1 (0 + s) ∧ G1 (0 + s) ≤ Mk (k + 1) := fun s s0 s1 => by rw [f2 _ (by omega)]; exact hG s s0 s1
        have hw1 : w = lvl G1 (NS (Z 121)) 0 := by rw [hw]; exact (lvl_eq (by omega) f2).symm
        rw [if_neg gl, c1_okk (by decide) (by decide), if_pos (by decide), f1, cl_some, c2_ok (by omega) (by omega) (by decide) (by decide)]
        by_cases gb : b = -1
        · rw [if_pos gb, B_X12_bestBar_54, B_X12_bestBar_60]
          obtain ⟨b', G', q1, q2, q3⟩ := ih (j + 1) j (bwv (Z 121) wy l k w j) G1 w (by omega) (by omega) (by omega) hG1 hw1 (hb.take j0 gl (fun e => absurd gb e)) (fun _ => rfl) hbw
          exact ⟨b', G', q1, q2, fun s hs => by rw [q3 s hs, f2 s hs]⟩
        · have hvb := hv gb
          rw [if_neg gb, d2_ok (by omega) (by omega) (by omega) (by omega)]
          by_cases gv : v < bwv (Z 121) wy l k w j
          · rw [if_pos gv, B_X12_bestBar_54, B_X12_bestBar_60]
            obtain ⟨b', G', q1, q2, q3⟩ := ih (j + 1) j (bwv (Z 121) wy l k w j) G1 w (by omega) (by omega) (by omega) hG1 hw1 (hb.take j0 gl (fun _ => by omega)) (fun _ => rfl) hbw
            exact ⟨b', G', q1, q2, fun s hs => by rw [q3 s hs, f2 s hs]⟩
          · rw [if_neg gv, B_X12_bestBar_60]
            obtain ⟨b', G', q1, q2, q3⟩ := ih (j + 1) b v G1 w (by omega) (by omega) (by omega) hG1 hw1 (hb.keep gb (by omega)) hv hvr
            exact ⟨b', G', q1, q2, fun s hs => by rw [q3 s hs, f2 s hs]⟩
/-- the best bar's worth is the worth -/
theorem FBB_bmx {F l : Int → Int} (hF : ∀ b : Int, 0 ≤ b → l b ≠ -1 → 0 ≤ F b) : ∀ (n : Nat) (b : Int), FBB F l n b → b ≠ -1 → bmx F l n = F b ∧ anyc l n = true := by
  intro n
  induction n with
  | zero =>
    intro b h hb
    rcases h with ⟨h1, -⟩ | ⟨⟨h1, h2⟩, -⟩
    · exact absurd h1 hb
    · omega
  | succ n ih =>
    intro b h hb
    have hle : ∀ m : Nat, ∀ M : Int, 0 ≤ M → (∀ c : Int, 0 ≤ c → c < m → l c ≠ -1 → F c ≤ M) → bmx F l m ≤ M := fun m => by
      induction m with
      | zero => intro M h0 _; exact h0
      | succ m im =>
        intro M h0 hc
        have := im M h0 (fun c c0 c1 hcl => hc c c0 (by omega) hcl)
        unfold bmx
        split
        · exact this
        · rename_i g
          have := hc m (by omega) (by omega) g
          omega
    rcases h with ⟨h1, -⟩ | ⟨⟨h0, h1⟩, h2, h3⟩
    · exact absurd h1 hb
    · have hF0 := hF b h0 h2
      by_cases e : b = n
      · subst e
        have := hle n (F n) hF0 (fun c c0 c1 hc => (h3 c c0 (by omega) hc).1)
        unfold bmx anyc
        rw [if_neg h2]
        refine ⟨by omega, ?_⟩
        rw [decide_eq_true h2, Bool.or_true]
      · have i := ih b (Or.inr ⟨⟨h0, by omega⟩, h2, fun c c0 c1 hc => h3 c c0 (by omega) hc⟩) hb
        unfold bmx anyc
        rw [i.2, Bool.true_or, i.1]
        refine ⟨?_, rfl⟩
        split
        · rfl
        · rename_i g
          have := (h3 n (by omega) (by omega) g).1
          omega
theorem thinks_2 {Z : Mem} {P : Int → Int} (hB : BD (Z 121)) (hT : TH P (Z 121)) : ∀ (k : Nat) (q : Int) (G : Int → Int), 0 ≤ q → q ≤ NS (Z 121) → (NS (Z 121) - q).toNat < k → (∀ s : Int, 0 ≤ s → s < q → G s = P s) → ∃ G' : Int → Int, L_X12_thinks_2 k q (ma Z 136 G) = some (0, ma Z 136 G') ∧ ∀ s : Int, 0 ≤ s → s < NS (Z 121) → G' s = P s := by
  have hN := NS_r hB.2.1
  intro k
  induction k with
  | zero => intro q G _ _ h; omega
  | succ k ih =>
    intro q G q0 q1 hk hG
    have e121 : (ma Z 136 G) 121 = Z 121 := ma_ne (by decide)
    have e2 : f_X12_sets (ma Z 136 G) = some (NS (Z 121), ma Z 136 G) := by
      rw [sets_eq, e121]
      rfl
    rw [L_X12_thinks_2, e2, cl_some, c2_ok (by omega) (by omega) (by omega) (by omega)]
    by_cases g : NS (Z 121) ≤ q
    · rw [if_pos g]
      exact ⟨G, rfl, fun s s0 s1 => hG s s0 (by omega)⟩
    · have hp := hT.1 q q0 (by omega)
      rw [if_neg g, ax_ok (n := 2200) (by omega) (by omega), e121, hT.2.2.2 q q0 (by omega), c1_okk (by omega) (by omega), ax_ok (by omega) (by omega), bd_eq, ms_row]
      refine ih (q + 1) _ (by omega) (by omega) (by omega) (fun s s0 s1 => ?_)
      rw [up_at]
      by_cases e : s = q
      · rw [if_pos e, e]
      · rw [if_neg e]
        exact hG s s0 (by omega)
theorem thinks_eq {Z : Mem} {P : Int → Int} (hB : BD (Z 121)) (hT : TH P (Z 121)) : ∃ G : Int → Int, f_X12_thinks Z = some (0, ma Z 136 G) ∧ ∀ s : Int, 0 ≤ s → s < NS (Z 121) → G s = P s := by
  have hN := NS_r hB.2.1
  obtain ⟨G, g1, g2⟩ := thinks_2 hB hT KF 0 (Z 136) (by decide) (by omega) (by rw [KF_eq]; omega) (fun s _ _ => by omega)
  rw [ma_self] at g1
  exact ⟨G, g1, g2⟩
/-- a thought is its level's row -/
theorem thinks_lvl {A P G : Int → Int} (hT : TH P A) (h : ∀ s : Int, 0 ≤ s → s < NS A → G s = P s) (s : Int) (s0 : 0 ≤ s) (s1 : s < 32) : lvl G (NS A) 0 s = P s := by
  unfold lvl
  by_cases g : s < NS A
  · rw [if_pos g, Int.zero_add, h s s0 g]
  · rw [if_neg g, hT.2.2.1 s (by omega) s1]
theorem whole_76 {X : Mem} {b : Int} : ∀ (k : Nat) (p i : Nat), p ≤ 3 → i ≤ p → p - i < k → L_X12_worth_76 k p b (1000000 * 32 ^ i) i X = B_X12_worth_96 p b (1000000 * 32 ^ p) X := by
  intro k
  induction k with
  | zero => intro p i _ _ h; omega
  | succ k ih =>
    intro p i hp hi hk
    rw [L_X12_worth_76, c2_ok (by omega) (by omega) (by omega) (by omega)]
    by_cases g : (p : Int) ≤ (i : Int)
    · rw [if_pos g, show p = i by omega]
    · have e3 : ((i : Int) + 1) = ((i + 1 : Nat) : Int) := rfl
      rw [if_neg g, bd_eq, e3, Int.mul_assoc, ← Int.pow_succ]
      exact ih p (i + 1) hp (by omega) (by omega)
theorem whole_sh : ∀ k : Fin 4, lshl 1000000 (5 * (k.val : Int)) = 1000000 * 32 ^ k.val := by decide +kernel
