/-! worth: what a thought is worth with k soundings ahead (a plain function, for both sides) -/
def mxw (wy : Int → Bool) (w : Int → Int) : Nat → Int
  | 0 => 0
  | n + 1 => if wy n = true then max (mxw wy w n) (pS w 0 n) else mxw wy w n
def rds (F : Int → Int) (v0 : Int) : Nat → Int
  | 0 => 0
  | n + 1 => rds F v0 n + F (v0 + n)
def bmx (F : Int → Int) (l : Int → Int) : Nat → Int
  | 0 => 0
  | n + 1 => if l n = -1 then bmx F l n else max (bmx F l n) (F n)
def anyc (l : Int → Int) : Nat → Bool
  | 0 => false
  | n + 1 => anyc l n || decide (l n ≠ -1)
/-- worth of the weights w: ways wy, N sets, m bars, their least cells l, the stage st -/
def WVs (A : Int → Int) (wy : Int → Bool) (N m : Nat) (l : Int → Int) (st : Int) : Nat → (Int → Int) → Int
  | 0, w => mxw wy w N
  | k + 1, w => if anyc l m = true then bmx (fun b => rds (fun v => WVs A wy N m l st k (fun s => w s * lk A (dep A st (l b) s) v)) (dep A st (l b) 0 - A (28 + 4 * b) - 1) (A (28 + 4 * b) + 3).toNat) l m else mxw wy w N
theorem pS_mul {w : Int → Int} {a b c : Int} : pS (fun s => c * w s) a b = c * pS w a b := by
  unfold pS
  rw [sg_sm, sg_sm, ← sm_mul]
  refine sm_ext 32 fun s _ _ => ?_
  split
  · rfl
  · rw [Int.mul_zero]
theorem max_mul {c x y : Int} (hc : 0 ≤ c) : max (c * x) (c * y) = c * max x y := by
  by_cases g : x ≤ y
  · have := Int.mul_le_mul_of_nonneg_left g hc
    rw [show max x y = y by omega]
    omega
  · have := Int.mul_le_mul_of_nonneg_left (show y ≤ x by omega) hc
    rw [show max x y = x by omega]
    omega
theorem mxw_mul {wy : Int → Bool} {w : Int → Int} {c : Int} (hc : 0 ≤ c) : ∀ n : Nat, mxw wy (fun s => c * w s) n = c * mxw wy w n
  | 0 => by
    show (0 : Int) = c * 0
    rw [Int.mul_zero]
  | n + 1 => by
    unfold mxw
    rw [mxw_mul hc n, pS_mul]
    split
    · exact max_mul hc
    · rfl
theorem rds_mul {F G : Int → Int} {v0 c : Int} (h : ∀ v : Int, G v = c * F v) : ∀ n : Nat, rds G v0 n = c * rds F v0 n
  | 0 => by
    show (0 : Int) = c * 0
    rw [Int.mul_zero]
  | n + 1 => by
    unfold rds
    rw [rds_mul h n, h, Int.mul_add]
theorem bmx_mul {F G l : Int → Int} {c : Int} (hc : 0 ≤ c) (h : ∀ b : Int, G b = c * F b) : ∀ n : Nat, bmx G l n = c * bmx F l n
  | 0 => by
    show (0 : Int) = c * 0
    rw [Int.mul_zero]
  | n + 1 => by
    unfold bmx
    rw [bmx_mul hc h n, h]
    split
    · rfl
    · exact max_mul hc
/-- worth is homogeneous -/
theorem WVs_mul {A l : Int → Int} {wy : Int → Bool} {N m : Nat} {st c : Int} (hc : 0 ≤ c) : ∀ (k : Nat) (w : Int → Int), WVs A wy N m l st k (fun s => c * w s) = c * WVs A wy N m l st k w
  | 0, w => mxw_mul hc N
  | k + 1, w => by
    unfold WVs
    split
    · refine bmx_mul hc (fun b => rds_mul (fun v => ?_) _) m
      rw [← WVs_mul hc k]
      congr 1
      funext s
      rw [Int.mul_assoc]
    · exact mxw_mul hc N
theorem mxw_ext {wy : Int → Bool} {w w' : Int → Int} (h : ∀ s : Int, 0 ≤ s → s < 32 → w s = w' s) : ∀ n : Nat, mxw wy w n = mxw wy w' n
  | 0 => rfl
  | n + 1 => by
    unfold mxw
    rw [mxw_ext h n, pS_ext h]
theorem rds_ext {F G : Int → Int} {v0 : Int} (h : ∀ v : Int, F v = G v) : ∀ n : Nat, rds F v0 n = rds G v0 n
  | 0 => rfl
  | n + 1 => by
    unfold rds
    rw [rds_ext h n, h]
theorem bmx_ext {F G l : Int → Int} (h : ∀ b : Int, F b = G b) : ∀ n : Nat, bmx F l n = bmx G l n
  | 0 => rfl
  | n + 1 => by
    unfold bmx
    rw [bmx_ext h n, h]
/-- worth looks at the sets only -/
theorem WVs_ext {A l : Int → Int} {wy : Int → Bool} {N m : Nat} {st : Int} : ∀ (k : Nat) (w w' : Int → Int), (∀ s : Int, 0 ≤ s → s < 32 → w s = w' s) → WVs A wy N m l st k w = WVs A wy N m l st k w'
  | 0, w, w', h => mxw_ext h N
  | k + 1, w, w', h => by
    unfold WVs
    split
    · refine bmx_ext (fun b => rds_ext (fun v => ?_) _) m
      exact WVs_ext k _ _ fun s s0 s1 => by rw [h s s0 s1]
    · exact mxw_ext h N
theorem WVs_zero {A l : Int → Int} {wy : Int → Bool} {N m : Nat} {st : Int} (k : Nat) : WVs A wy N m l st k (fun _ => 0) = 0 := by
  have h := WVs_mul (A := A) (l := l) (wy := wy) (N := N) (m := m) (st := st) (c := 0) (Int.le_refl 0) k (fun _ => 0)
  have e : (fun _ : Int => (0 : Int) * 0) = fun _ => 0 := rfl
  exact h.trans (Int.zero_mul _)
/-- the greatest over the ways, as a plain function -/
theorem mxw_MX {A w : Int → Int} {nd f to : Int} {wy : Int → Bool} {N : Nat} (hw : ∀ a : Int, 0 ≤ a → a < N → (wy a = true ↔ WAYP A nd f to a)) : ∀ n : Nat, n ≤ N → MX A nd f to (fun a => pS w 0 a) n (mxw wy w n)
  | 0, _ => MX.zero
  | n + 1, h => by
    have ih := mxw_MX (w := w) hw n (by omega)
    have hn := hw n (by omega) (by omega)
    unfold mxw
    by_cases g : wy n = true
    · rw [if_pos g]
      exact ih.yes (by omega) (hn.mp g)
    · rw [if_neg g]
      exact ih.no (fun e => g (hn.mpr e))
theorem best_mxw {A w : Int → Int} {nd f to v : Int} {wy : Int → Bool} (hA : 0 ≤ A 2 ∧ A 2 ≤ 5) (hW : WT A w) (hw : ∀ a : Int, 0 ≤ a → a < NS A → (wy a = true ↔ WAYP A nd f to a)) (h : BO A nd f to w v) : mxw wy w (NS A).toNat = v := by
  have hN := NS_r hA
  have hM := mxw_MX (A := A) (w := w) (nd := nd) (f := f) (to := to) (wy := wy) (N := (NS A).toNat) (fun a a0 a1 => hw a a0 (by omega)) _ (Nat.le_refl _)
  rw [show (((NS A).toNat : Nat) : Int) = NS A by omega] at hM
  exact BO_mx h hM (fun a _ _ => rfl) fun a _ _ => hW.r.1
/-! the reference's greatest at a level -/
/-- a level's row, cut to the sets -/
def lvl (R : Int → Int) (N o s : Int) : Int := if s < N then R (o + s) else 0
theorem worth0_34 {Z : Mem} {o a x2 : Int} (hB : BD (Z 121)) (o0 : 0 ≤ o) (o1 : o ≤ 96) (a0 : 0 ≤ a) (a1 : a < 32) (go : Int → Int → Int → Mem → Option (Int × Mem)) {n : Nat} (hn : (n : Int) = NS (Z 121)) : ∀ (k q : Nat), q ≤ n → n - q < k → L_X12_worth0_34 go k o x2 a (sg (pq 0 a) (lvl (Z 136) (NS (Z 121)) o) q) q Z = B_X12_worth0_75 go o x2 a (sg (pq 0 a) (lvl (Z 136) (NS (Z 121)) o) n) Z := by
  have hN := NS_r hB.2.1
  intro k
  induction k with
  | zero => intro q _ h; omega
  | succ k ih =>
    intro q hq hk
    have e2 : f_X12_sets Z = some (NS (Z 121), Z) := sets_eq
    rw [L_X12_worth0_34, e2, cl_some, c2_ok (by omega) (by omega) (by omega) (by omega)]
    by_cases g : NS (Z 121) ≤ (q : Int)
    · rw [if_pos g, show q = n by omega]
    · have hi := ia_I (q : Int) a
      have z := an_0 (s := (q : Int)) (by omega) (by omega)
      have e3 : ((q : Int) + 1) = ((q + 1 : Nat) : Int) := rfl
      rw [if_neg g, c1_okk hi.1 hi.2]
      have es : sg (pq 0 a) (lvl (Z 136) (NS (Z 121)) o) (q + 1) = sg (pq 0 a) (lvl (Z 136) (NS (Z 121)) o) q + (if ia (q : Int) a = 0 then Z 136 (o + q) else 0) := by
        show sg (pq 0 a) (lvl (Z 136) (NS (Z 121)) o) q + (if pq 0 a q = true then lvl (Z 136) (NS (Z 121)) o q else 0) = _
        unfold pq lvl
        rw [if_pos (show (q : Int) < NS (Z 121) by omega)]
        by_cases gg : ia (q : Int) a = 0
        · simp only [z, gg, decide_true, Bool.and_true, if_true]
        · simp only [z, gg, decide_true, decide_false, Bool.and_false, Bool.false_eq_true, if_false]
      by_cases gg : ia (q : Int) a = 0
      · rw [if_pos gg] at es
        rw [if_neg (by simpa using gg), ax_ok (by omega) (by omega), B_X12_worth0_66, bd_eq, ← es, e3]
        exact ih (q + 1) (by omega) (by omega)
      · rw [if_neg gg] at es
        rw [if_pos gg, B_X12_worth0_66, bd_eq, ← es, e3]
        exact ih (q + 1) (by omega) (by omega)
theorem worth0_5 {Z : Mem} {nd f to o : Int} {wy : Int → Bool} (hB : BD (Z 121)) (f0 : 0 ≤ f) (f1 : f < Z 121 0 * Z 121 1) (o0 : 0 ≤ o) (o1 : o ≤ 96) (hF : ∀ a : Int, 0 ≤ a → a < NS (Z 121) → FEW (Z 121) nd f to a (Z 134 a)) (hw : ∀ a : Int, 0 ≤ a → a < NS (Z 121) → (wy a = true ↔ WAYP (Z 121) nd f to a)) (hR : ∀ s : Int, 0 ≤ s → s < NS (Z 121) → 0 ≤ Z 136 (o + s) ∧ Z 136 (o + s) ≤ 100000000000) {n : Nat} (hn : (n : Int) = NS (Z 121)) : ∀ (k q : Nat), q ≤ n → n - q < k → L_X12_worth0_5 k o (mxw wy (lvl (Z 136) (NS (Z 121)) o) q) q Z = some (mxw wy (lvl (Z 136) (NS (Z 121)) o) n, Z) := by
  have hN := NS_r hB.2.1
  have hl : ∀ s : Int, 0 ≤ s → s < 32 → 0 ≤ lvl (Z 136) (NS (Z 121)) o s ∧ lvl (Z 136) (NS (Z 121)) o s ≤ 100000000000 := fun s s0 s1 => by
    unfold lvl
    split
    · exact hR s s0 (by omega)
    · exact ⟨by decide, by decide⟩
  have hps : ∀ a : Int, 0 ≤ pS (lvl (Z 136) (NS (Z 121)) o) 0 a ∧ pS (lvl (Z 136) (NS (Z 121)) o) 0 a ≤ 3200000000000 := fun a => by
    have h1 := sg_r (q := pq 0 a) (w := lvl (Z 136) (NS (Z 121)) o) 32 (fun s s0 s1 => (hl s s0 s1).1)
    have h2 := sm_r (w := lvl (Z 136) (NS (Z 121)) o) (B := 100000000000) hl 32 (Nat.le_refl _)
    unfold pS
    omega
  have hmx : ∀ q : Nat, 0 ≤ mxw wy (lvl (Z 136) (NS (Z 121)) o) q ∧ mxw wy (lvl (Z 136) (NS (Z 121)) o) q ≤ 3200000000000 := fun q => by
    induction q with
    | zero =>
      show (0 : Int) ≤ 0 ∧ (0 : Int) ≤ 3200000000000
      omega
    | succ q ih =>
      have := hps q
      unfold mxw
      split <;> omega
  intro k
  induction k with
  | zero => intro q _ h; omega
  | succ k ih =>
    intro q hq hk
    have e2 : f_X12_sets Z = some (NS (Z 121), Z) := sets_eq
    rw [L_X12_worth0_5, e2, cl_some, c2_ok (by omega) (by omega) (by omega) (by omega)]
    by_cases g : NS (Z 121) ≤ (q : Int)
    · rw [if_pos g, show q = n by omega]
    · have hf := few_ne hB f0 f1 (hF q (by omega) (by omega))
      have hwq := hw q (by omega) (by omega)
      have e3 : ((q : Int) + 1) = ((q + 1 : Nat) : Int) := rfl
      rw [if_neg g, ax_ok (by omega) (by omega), c2_ok (by omega) (by omega) (by decide) (by decide)]
      rcases hf with ⟨e, hno⟩ | ⟨e1, e4, hyes⟩
      · have es : mxw wy (lvl (Z 136) (NS (Z 121)) o) (q + 1) = mxw wy (lvl (Z 136) (NS (Z 121)) o) q := by
          show (if wy q = true then _ else _) = _
          rw [if_neg (fun e => hno (hwq.mp e))]
        rw [if_neg (by simpa using e), B_X12_worth0_82, ← es, e3]
        exact ih (q + 1) (by omega) (by omega)
      · have es : mxw wy (lvl (Z 136) (NS (Z 121)) o) (q + 1) = max (mxw wy (lvl (Z 136) (NS (Z 121)) o) q) (pS (lvl (Z 136) (NS (Z 121)) o) 0 q) := by
          show (if wy q = true then _ else _) = _
          rw [if_pos (hwq.mpr hyes)]
        have e34 := worth0_34 (Z := Z) (o := o) (a := (q : Int)) (x2 := mxw wy (lvl (Z 136) (NS (Z 121)) o) q) hB o0 o1 (by omega) (by omega) (fun x1 x2 x4 X => L_X12_worth0_5 k x1 x2 x4 X) hn KF 0 (by omega) (by rw [KF_eq]; omega)
        have e34 : L_X12_worth0_34 (fun x1 x2 x4 X => L_X12_worth0_5 k x1 x2 x4 X) KF o (mxw wy (lvl (Z 136) (NS (Z 121)) o) q) q 0 0 Z = _ := e34
        have ep : sg (pq 0 (q : Int)) (lvl (Z 136) (NS (Z 121)) o) n = pS (lvl (Z 136) (NS (Z 121)) o) 0 q := by
          unfold pS
          have hd : (32 : Nat) = n + (32 - n) := by omega
          rw [hd, sg_beyond _ (fun s hs _ => by unfold lvl; rw [if_neg (by omega)])]
        have hm1 := hmx q
        have hp1 := hps q
        rw [if_pos (by omega), e34, B_X12_worth0_75, ep, d2_ok (by omega) (by omega) (by omega) (by omega), bd_eq, B_X12_worth0_82, ← es, e3]
        exact ih (q + 1) (by omega) (by omega)
theorem hasCell_eq {Z : Mem} {b l : Int} (hB : BD (Z 121)) (hb : inI b) (hl : LE (Z 121) b l) : f_X12_hasCell b Z = some (if l = -1 then 0 else 1, Z) := by
  have hlr := LE_r hB hl
  unfold f_X12_hasCell
  rw [cellOf_eq hB hb hl, cl_some, c2_ok (by omega) (by omega) (by decide) (by decide)]
  split <;> rfl
theorem bit_all : ∀ (m : Fin 6) (b : Fin 5), b.val < m.val → ia (ishr (((2 ^ m.val : Nat) : Int) - 1) (b.val : Int)) 1 = 1 := by decide +kernel
theorem bit_none : ∀ b : Fin 5, ia (ishr 0 (b.val : Int)) 1 ≠ 1 := by decide +kernel
/-- the depth at a bar's cell: with the bar, and without -/
theorem dep_bar {A : Int → Int} {st l b s : Int} (hl : A (108 + l) = b) (hb : b ≠ -1) : dep A st l s = if ia (ishr s b) 1 = 1 then A (48 + l) + st - A (28 + 4 * b) else A (48 + l) + st := by
  unfold dep tk
  rw [hl, if_neg hb]
  split
  · rfl
  · omega
theorem dep_top {A : Int → Int} {st l b : Int} (hA : 0 ≤ A 2 ∧ A 2 ≤ 5) (b0 : 0 ≤ b) (b1 : b < A 2) (hl : A (108 + l) = b) : dep A st l (NS A - 1) = A (48 + l) + st - A (28 + 4 * b) ∧ dep A st l 0 = A (48 + l) + st := by
  obtain ⟨n1, n2, n3⟩ := NS_v hA
  obtain ⟨bf, rfl⟩ := fin5 b0 (by omega)
  have h1 := bit_all ⟨(A 2).toNat, by omega⟩ bf (by show bf.val < (A 2).toNat; omega)
  rw [dep_bar hl (by omega), dep_bar hl (by omega), n1, if_pos h1, if_neg (bit_none bf)]
  exact ⟨rfl, rfl⟩
theorem readFrom_eq {Z : Mem} {b l : Int} (hB : BD (Z 121)) (b0 : 0 ≤ b) (b1 : b < Z 121 2) (hl : LE (Z 121) b l) (hn : l ≠ -1) : f_X12_readFrom b Z = some (dep (Z 121) (stg (Z 121) (Z 121 3)) l 0 - Z 121 (28 + 4 * b) - 1, Z) ∧ f_X12_readTo b Z = some (dep (Z 121) (stg (Z 121) (Z 121 3)) l 0 + 1, Z) := by
  have hA := hB.2.1
  have hN := NS_r hA
  have hlr := LE_r hB hl
  have hc := BD_cells hB
  have hl2 : Z 121 (108 + l) = b := by
    rcases hl with ⟨h1, -⟩ | ⟨-, -, h1, -⟩
    · exact absurd h1 hn
    · exact h1
  obtain ⟨t1, t2⟩ := dep_top (A := Z 121) (st := stg (Z 121) (Z 121 3)) (l := l) (b := b) hA b0 b1 hl2
  have e2 : f_X12_sets Z = some (NS (Z 121), Z) := sets_eq
  unfold f_X12_readFrom f_X12_readTo
  rw [cellOf_eq hB (inI_s (by omega) (by omega)) hl, cl_some, e2, cl_some, depthOf_eq hB (by omega) (by omega), cl_some, cl_some, depthOf_eq hB (by omega) (by omega), cl_some, t1, t2]
  exact ⟨rfl, rfl⟩
/-- the weights that are left at a reading: the next level's row -/
theorem reads_13 {Z : Mem} {o v l : Int} (hB : BD (Z 121)) (o0 : 0 ≤ o) (o1 : o ≤ 64) (l0 : 0 ≤ l) (l1 : l < 60) (hv : -1000 ≤ v ∧ v ≤ 1000) (hR : ∀ s : Int, 0 ≤ s → s < NS (Z 121) → 0 ≤ Z 136 (o + s) ∧ Z 136 (o + s) ≤ 3000000000) {n : Nat} (hn : (n : Int) = NS (Z 121)) : ∀ (k q : Nat) (G : Int → Int), q ≤ n → n - q < k → (∀ s : Int, s < o + 32 ∨ o + 32 + 32 ≤ s → G s = Z 136 s) → (∀ s : Int, 0 ≤ s → s < q → G (o + 32 + s) = Z 136 (o + s) * lk (Z 121) (dep (Z 121) (stg (Z 121) (Z 121 3)) l s) v) →
    ∃ G' : Int → Int, L_X12_reads_13 k o v l (sm (fun s => G (o + 32 + s)) q) q (ma Z 136 G) = B_X12_reads_81 (sm (fun s => G' (o + 32 + s)) n) (ma Z 136 G') ∧ (∀ s : Int, s < o + 32 ∨ o + 32 + 32 ≤ s → G' s = Z 136 s) ∧ (∀ s : Int, 0 ≤ s → s < n → G' (o + 32 + s) = Z 136 (o + s) * lk (Z 121) (dep (Z 121) (stg (Z 121) (Z 121 3)) l s) v) := by
  have hN := NS_r hB.2.1
  have h3 := hB.2.2.1
  intro k
  induction k with
  | zero => intro q _ _ h; omega
  | succ k ih =>
    intro q G hq hk hG1 hG2
    have e121 : (ma Z 136 G) 121 = Z 121 := ma_ne (by decide)
    have e2 : f_X12_sets (ma Z 136 G) = some (NS (Z 121), ma Z 136 G) := by
      rw [sets_eq, e121]
      rfl
    rw [L_X12_reads_13, e2, cl_some, c2_ok (by omega) (by omega) (by omega) (by omega)]
    by_cases g : NS (Z 121) ≤ (q : Int)
    · have eq : q = n := by omega
      subst eq
      rw [if_pos g]
      exact ⟨G, rfl, hG1, hG2⟩
    · have hd := depd_r hB (x := (q : Int)) l0 l1 h3.1
      have hlk := lk_r hB (d := dep (Z 121) (stg (Z 121) (Z 121 3)) l q) (v := v)
      have hRq := hR q (by omega) (by omega)
      have e3 : ((q : Int) + 1) = ((q + 1 : Nat) : Int) := rfl
      rw [if_neg g, ax_ok (by omega) (by omega), depthOf_eq (by rw [e121]; exact hB) l0 l1, cl_some, e121, weighs_eq (by omega) hv, cl_some, e121, c1_okk (by omega) (by omega), ax_ok (by omega) (by omega), bd_eq, ax_ok (by omega) (by omega), bd_eq, ms_row, ma_same, ma_same, up_same, hG1 (o + q) (by omega)]
      generalize hG' : up G (o + 32 + (q : Int)) (Z 136 (o + q) * lk (Z 121) (dep (Z 121) (stg (Z 121) (Z 121 3)) l q) v) = G'
      have u1 : ∀ s : Int, s ≠ o + 32 + q → G' s = G s := fun s hs => by rw [← hG', up_ne hs]
      have u2 : G' (o + 32 + q) = Z 136 (o + q) * lk (Z 121) (dep (Z 121) (stg (Z 121) (Z 121 3)) l q) v := by rw [← hG', up_same]
      have es : sm (fun s => G (o + 32 + s)) q + Z 136 (o + q) * lk (Z 121) (dep (Z 121) (stg (Z 121) (Z 121 3)) l q) v = sm (fun s => G' (o + 32 + s)) (q + 1) := by
        show _ = sm (fun s => G' (o + 32 + s)) q + G' (o + 32 + (q : Int))
        rw [u2, sm_ext q (v := fun s => G (o + 32 + s)) (w := fun s => G' (o + 32 + s)) (fun s s0 s1 => (u1 _ (by omega)).symm)]
      rw [es, e3]
      exact ih (q + 1) G' (by omega) (by omega) (fun s hs => by rw [u1 s (by omega)]; exact hG1 s hs) (fun s s0 s1 => by
        by_cases e : s = q
        · rw [e]; exact u2
        · rw [u1 _ (by omega)]
          exact hG2 s s0 (by omega))
theorem reads_eq {Z : Mem} {o v b l : Int} (hB : BD (Z 121)) (o0 : 0 ≤ o) (o1 : o ≤ 64) (hb : inI b) (hl : LE (Z 121) b l) (hn : l ≠ -1) (hv : -1000 ≤ v ∧ v ≤ 1000) (hR : ∀ s : Int, 0 ≤ s → s < NS (Z 121) → 0 ≤ Z 136 (o + s) ∧ Z 136 (o + s) ≤ 3000000000) : ∃ (r : Int) (G : Int → Int), f_X12_reads o b v Z = some (r, ma Z 136 G) ∧ (r = 0 ∨ r = 1) ∧ (∀ s : Int, s < o + 32 ∨ o + 32 + 32 ≤ s → G s = Z 136 s) ∧ (∀ s : Int, 0 ≤ s → s < NS (Z 121) → G (o + 32 + s) = Z 136 (o + s) * lk (Z 121) (dep (Z 121) (stg (Z 121) (Z 121 3)) l s) v) ∧ (r = 0 → ∀ s : Int, 0 ≤ s → s < NS (Z 121) → G (o + 32 + s) = 0) := by
  have hN := NS_r hB.2.1
  have hlr := LE_r hB hl
  obtain ⟨n, hnn⟩ : ∃ n : Nat, (n : Int) = NS (Z 121) := ⟨(NS (Z 121)).toNat, by omega⟩
  obtain ⟨G, g1, g2, g3⟩ := reads_13 (Z := Z) (o := o) (v := v) (l := l) hB o0 o1 (by omega) (by omega) hv hR hnn KF 0 (Z 136) (by omega) (by rw [KF_eq]; omega) (fun s _ => rfl) (fun s _ _ => by omega)
  rw [ma_self] at g1
  have g1 : L_X12_reads_13 KF o v l 0 0 Z = B_X12_reads_81 (sm (fun s => G (o + 32 + s)) n) (ma Z 136 G) := g1
  have hG : ∀ s : Int, 0 ≤ s → s < n → 0 ≤ G (o + 32 + s) ∧ G (o + 32 + s) ≤ 96000000000 := fun s s0 s1 => by
    have h1 := hR s s0 (by omega)
    have h2 := lk_r hB (d := dep (Z 121) (stg (Z 121) (Z 121 3)) l s) (v := v)
    rw [g3 s s0 s1]
    refine ⟨Int.mul_nonneg h1.1 h2.1, ?_⟩
    have h3 := Int.mul_le_mul h1.2 h2.2 h2.1 (by decide)
    omega
  have hs0 : 0 ≤ sm (fun s => G (o + 32 + s)) n := sm_nn n fun q hq => (hG q (by omega) (by omega)).1
  have hs1 : ∀ j : Nat, j ≤ n → sm (fun s => G (o + 32 + s)) j ≤ 96000000000 * j := fun j => by
    induction j with
    | zero =>
      intro _
      show (0 : Int) ≤ 96000000000 * ((0 : Nat) : Int)
      omega
    | succ j ih =>
      intro hj
      have i1 := ih (by omega)
      have i2 := hG j (by omega) (by omega)
      show sm (fun s => G (o + 32 + s)) j + G (o + 32 + (j : Int)) ≤ 96000000000 * ((j + 1 : Nat) : Int)
      omega
  have hs2 := hs1 n (Nat.le_refl _)
  have run : f_X12_reads o b v Z = some (if sm (fun s => G (o + 32 + s)) n ≤ 0 then 0 else 1, ma Z 136 G) := by
    unfold f_X12_reads
    rw [cellOf_eq hB hb hl, cl_some, g1, B_X12_reads_81, d2_ok (by omega) (by omega) (by decide) (by decide)]
    split <;> rfl
  refine ⟨_, G, run, ?_, g2, fun s s0 s1 => g3 s s0 (by omega), fun hr s s0 s1 => ?_⟩
  · split
    · exact Or.inl rfl
    · exact Or.inr rfl
  · by_cases gs : sm (fun s => G (o + 32 + s)) n ≤ 0
    · have := sm_le (v := fun s => G (o + 32 + s)) n (fun q hq => (hG q (by omega) (by omega)).1) s.toNat (by omega)
      have e : ((s.toNat : Nat) : Int) = s := Int.toNat_of_nonneg s0
      have h1 := (hG s s0 (by omega)).1
      have this : G (o + 32 + ((s.toNat : Nat) : Int)) ≤ sm (fun s => G (o + 32 + s)) n := this
      rw [e] at this
      omega
    · rw [if_neg gs] at hr
      omega
theorem rds_r {F : Int → Int} {v0 M : Int} (hF : ∀ v : Int, 0 ≤ F v ∧ F v ≤ M) : ∀ n : Nat, 0 ≤ rds F v0 n ∧ rds F v0 n ≤ M * n
  | 0 => by
    show (0 : Int) ≤ 0 ∧ (0 : Int) ≤ M * ((0 : Nat) : Int)
    rw [show ((0 : Nat) : Int) = 0 from rfl, Int.mul_zero]
    exact ⟨Int.le_refl _, Int.le_refl _⟩
  | n + 1 => by
    have h1 := rds_r (v0 := v0) hF n
    have h2 := hF (v0 + n)
    unfold rds
    rw [show ((n + 1 : Nat) : Int) = (n : Int) + 1 from rfl, Int.mul_add, Int.mul_one]
    omega
theorem bmx_r {F l : Int → Int} {M : Int} (hM : 0 ≤ M) : ∀ n : Nat, (∀ b : Int, 0 ≤ b → b < n → l b ≠ -1 → 0 ≤ F b ∧ F b ≤ M) → 0 ≤ bmx F l n ∧ bmx F l n ≤ M
  | 0, _ => ⟨Int.le_refl _, hM⟩
  | n + 1, hF => by
    have h1 := bmx_r hM n (fun b b0 b1 => hF b b0 (by omega))
    unfold bmx
    split
    · exact h1
    · rename_i g
      have h2 := hF n (by omega) (by omega) g
      omega
/-- worth stays a long -/
theorem WVs_r {A l : Int → Int} {wy : Int → Bool} {N m : Nat} {st : Int} (hB : BD A) (hm : m ≤ 5) : ∀ (k : Nat) (M : Int) (w : Int → Int), (∀ s : Int, 0 ≤ s → s < 32 → 0 ≤ w s ∧ w s ≤ M) → 0 ≤ M → M * 32 ^ k ≤ 100000000000 → 0 ≤ WVs A wy N m l st k w ∧ WVs A wy N m l st k w ≤ 20 ^ k * 3200000000000
  | k, M, w, hw, hM, hk => by
    have hM1 : M ≤ 100000000000 := by
      have h1 : M * 1 ≤ M * 32 ^ k := Int.mul_le_mul_of_nonneg_left (by
        have : (0 : Int) < 32 ^ k := Int.pow_pos (by decide)
        omega) hM
      omega
    have hps : ∀ a : Int, 0 ≤ pS w 0 a ∧ pS w 0 a ≤ 3200000000000 := fun a => by
      have h1 := sg_r (q := pq 0 a) (w := w) 32 (fun s s0 s1 => (hw s s0 s1).1)
      have h2 := sm_r (w := w) (B := M) hw 32 (Nat.le_refl _)
      unfold pS
      omega
    have hmx : ∀ q : Nat, 0 ≤ mxw wy w q ∧ mxw wy w q ≤ 3200000000000 := fun q => by
      induction q with
      | zero =>
        show (0 : Int) ≤ 0 ∧ (0 : Int) ≤ 3200000000000
        omega
      | succ q ih =>
        have := hps q
        unfold mxw
        split <;> omega
    match k, hk with
    | 0, _ =>
      have h0 := hmx N
      unfold WVs
      rw [Int.pow_zero]
      omega
    | k + 1, hk =>
      have hp : (1 : Int) ≤ 20 ^ (k + 1) := by
        have : (0 : Int) < 20 ^ (k + 1) := Int.pow_pos (by decide)
        omega
      have hp0 : (0 : Int) ≤ 20 ^ k * 3200000000000 := Int.mul_nonneg (Int.le_of_lt (Int.pow_pos (by decide))) (by decide)
      have e20 : (20 : Int) ^ (k + 1) * 3200000000000 = 20 ^ k * 3200000000000 * 20 := by
        rw [Int.pow_succ, Int.mul_assoc, Int.mul_assoc]
        congr 1
      unfold WVs
      split
      · rw [e20]
        refine bmx_r (Int.mul_nonneg hp0 (by decide)) m (fun b b0 b1 _ => ?_)
        have hj := hB.2.2.2.2.2.2.2.2.2.2.2.2.2.2.2.1 (28 + 4 * b) (by omega) (by omega)
        have hr := rds_r (v0 := dep A st (l b) 0 - A (28 + 4 * b) - 1) (F := fun v => WVs A wy N m l st k (fun s => w s * lk A (dep A st (l b) s) v)) (M := 20 ^ k * 3200000000000) (fun v => WVs_r hB hm k (32 * M) _ (fun s s0 s1 => by
          have h1 := hw s s0 s1
          have h2 := lk_r hB (d := dep A st (l b) s) (v := v)
          refine ⟨Int.mul_nonneg h1.1 h2.1, ?_⟩
          have h3 := Int.mul_le_mul h1.2 h2.2 h2.1 hM
          omega) (by omega) (by
          rw [Int.pow_succ] at hk
          have e : 32 * M * 32 ^ k = M * (32 ^ k * 32) := by
            rw [Int.mul_comm 32 M, Int.mul_assoc, Int.mul_comm 32]
          omega)) (A (28 + 4 * b) + 3).toNat
        refine ⟨hr.1, Int.le_trans hr.2 ?_⟩
        exact Int.mul_le_mul_of_nonneg_left (by omega) hp0
      · have h0 := hmx N
        have h1 := Int.mul_le_mul_of_nonneg_right (c := 3200000000000) hp (by decide)
        omega
