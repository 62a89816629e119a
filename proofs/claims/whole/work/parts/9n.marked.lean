/-! marked -/
theorem ia_nat : ∀ a b : Fin 32, ia (a.val : Int) (b.val : Int) = ((a.val &&& b.val : Nat) : Int) := by decide +kernel
theorem ix_nat : ∀ a m : Fin 32, ia (a.val : Int) (ix (m.val : Int) (-1)) = ((a.val &&& (31 ^^^ m.val) : Nat) : Int) := by decide +kernel
theorem mk_nat : ∀ s m t : Fin 32, t.val &&& (31 ^^^ m.val) = 0 → (s.val &&& m.val = t.val ↔ (s.val &&& t.val = t.val ∧ s.val &&& (m.val &&& (31 ^^^ t.val)) = 0)) := by decide +kernel
theorem mk_le : ∀ t m : Fin 32, t.val &&& (31 ^^^ m.val) = 0 → t.val ≤ m.val := by decide +kernel
theorem mk_32 : ∀ m t : Fin 32, m.val &&& (31 ^^^ t.val) < 32 ∧ (m.val &&& (31 ^^^ t.val)) ≤ m.val := by decide +kernel
theorem mk_3 {s m t : Int} (s0 : 0 ≤ s) (s1 : s < 32) (m0 : 0 ≤ m) (m1 : m < 32) (t0 : 0 ≤ t) (t1 : t < 32) (h : ia t (ix m (-1)) = 0) : t ≤ m ∧ (0 ≤ ia m (ix t (-1)) ∧ ia m (ix t (-1)) < 32) ∧ (ia s m = t ↔ (ia s t = t ∧ ia s (ia m (ix t (-1))) = 0)) := by
  obtain ⟨sf, rfl⟩ := fin32 s0 s1
  obtain ⟨mf, rfl⟩ := fin32 m0 m1
  obtain ⟨tf, rfl⟩ := fin32 t0 t1
  rw [ix_nat] at h
  have h' : tf.val &&& (31 ^^^ mf.val) = 0 := Int.ofNat_eq_zero.mp h
  have hb := mk_32 mf tf
  rw [ix_nat mf tf, ia_nat, ia_nat, ia_nat sf ⟨mf.val &&& (31 ^^^ tf.val), hb.1⟩]
  refine ⟨Int.ofNat_le.mpr (mk_le tf mf h'), ⟨Int.natCast_nonneg _, Int.ofNat_lt.mpr hb.1⟩, ?_⟩
  have h3 := mk_nat sf mf tf h'
  constructor
  · intro e
    have e2 := h3.mp (Int.ofNat.inj e)
    exact ⟨congrArg Int.ofNat e2.1, congrArg Int.ofNat e2.2⟩
  · intro e
    exact congrArg Int.ofNat (h3.mpr ⟨Int.ofNat.inj e.1, Int.ofNat.inj e.2⟩)
def mkw (P : Int → Int) (m t s : Int) : Int := if ia s m = t then P s else 0
theorem mk_sum {P : Int → Int} {m t l : Int} (m0 : 0 ≤ m) (m1 : m < 32) (t0 : 0 ≤ t) (t1 : t < 32) (l0 : 0 ≤ l) (l1 : l < 32) (h : ia t (ix m (-1)) = 0) : pS (mkw P m t) 0 l = pS P t (io l (ia m (ix t (-1)))) := by
  unfold pS
  rw [sg_sm, sg_sm]
  refine sm_ext 32 fun s s0 s1 => ?_
  obtain ⟨k1, k2, k3⟩ := mk_3 s0 s1 m0 m1 t0 t1 h
  have k4 := or_3 s0 s1 l0 l1 k2.1 k2.2
  have z := an_0 s0 s1
  unfold pq mkw
  by_cases g1 : ia s l = 0
  · by_cases g2 : ia s m = t
    · have g3 := k3.mp g2
      have g4 := k4.mpr ⟨g1, g3.2⟩
      simp [z, g1, g2, g3.1, g4]
    · by_cases g3 : ia s t = t
      · have g4 : ¬ ia s (io l (ia m (ix t (-1)))) = 0 := fun e => g2 (k3.mpr ⟨g3, (k4.mp e).2⟩)
        simp [z, g1, g2, g4]
      · simp [z, g1, g2, g3]
  · have g4 : ¬ ia s (io l (ia m (ix t (-1)))) = 0 := fun e => g1 (k4.mp e).1
    simp [z, g1, g4]
/-- how many bits -/
def bcx (p1 : Int) : Int :=
  bd (p1 - (ia (iushr p1 1) 1431655765)) fun v1 =>
  bd ((ia v1 858993459) + (ia (iushr v1 2) 858993459)) fun v2 =>
  bd (ia (v2 + (iushr v2 4)) 252645135) fun v3 =>
  bd (v3 + (iushr v3 8)) fun v4 =>
  bd (v4 + (iushr v4 16)) fun v5 =>
  ia v5 63
theorem bcx_eq {x : Int} {X : Mem} : f_J6_bitCount_0f7a4 x X = some (bcx x, X) := rfl
theorem bc_step : ∀ x : Fin 32, (0 ≤ bcx (x.val : Int) ∧ bcx (x.val : Int) ≤ 5) ∧ (x.val = 0 → bcx (x.val : Int) = 0) ∧ (x.val ≠ 0 → 0 ≤ ia (x.val : Int) ((x.val : Int) - 1) ∧ ia (x.val : Int) ((x.val : Int) - 1) < x.val ∧ bcx (x.val : Int) = bcx (ia (x.val : Int) ((x.val : Int) - 1)) + 1) := by decide +kernel
theorem bc_top : ∀ (m p : Fin 6), p.val ≤ m.val → (2 ^ p.val : Nat) ≤ 2 ^ m.val ∧ 1 ≤ (2 ^ p.val : Nat) ∧ bcx (((2 ^ p.val : Nat) : Int) - 1) = p.val := by decide +kernel
theorem bits_4 {X : Mem} : ∀ (k : Nat) (n x : Int), 0 ≤ x → x < 32 → x.toNat < k → L_X12_bits_4 k n x X = some (n + bcx x, X) := by
  intro k
  induction k with
  | zero => intro n x _ _ h; omega
  | succ k ih =>
    intro n x x0 x1 hk
    obtain ⟨xf, rfl⟩ := fin32 x0 x1
    obtain ⟨-, b1, b2⟩ := bc_step xf
    rw [L_X12_bits_4, c1_okk (by omega) (by omega)]
    by_cases g : (xf.val : Int) = 0
    · rw [if_pos g, b1 (by omega), Int.add_zero]
    · obtain ⟨i1, i2, i3⟩ := b2 (by omega)
      rw [if_neg g, bd_eq, ih _ _ i1 (by omega) (by omega), i3]
      congr 2
      omega
theorem bits_eq {x : Int} {X : Mem} (x0 : 0 ≤ x) (x1 : x < 32) : f_X12_bits x X = some (bcx x, X) := by
  unfold f_X12_bits
  rw [bits_4 KF 0 x x0 x1 (by rw [KF_eq]; omega), Int.zero_add]
theorem mark_23 {X : Mem} {P : Int → Int} {m t : Int} (t0 : 0 ≤ t) (t1 : t < 32) (h18 : X 18 = P) (go : Int → Int → Int → Mem → Option (Int × Mem)) {v : Int} : ∀ (k : Nat) (i : Int) (G : Int → Int), 0 ≤ i → i ≤ 32 → (32 - i).toNat < k → (∀ s : Int, 0 ≤ s → s < i → G s = mkw P m t s) →
    ∃ G' : Int → Int, L_X11_partsMarked_23 go k m v t i (ma X 59 G) = B_X11_partsMarked_66 go m v t (ma X 59 G') ∧ ∀ s : Int, 0 ≤ s → s < 32 → G' s = mkw P m t s := by
  intro k
  induction k with
  | zero => intro i _ _ _ h; omega
  | succ k ih =>
    intro i G i0 i1 hk hG
    rw [L_X11_partsMarked_23, c2_ok (by omega) (by omega) (by decide) (by decide)]
    by_cases g : 32 ≤ i
    · rw [if_pos g]
      exact ⟨G, rfl, fun s s0 s1 => hG s s0 (by omega)⟩
    · have hx := ia_I i m
      have hw : ∀ v : Int, v = mkw P m t i → ∀ s : Int, 0 ≤ s → s < i + 1 → up G i v s = mkw P m t s := fun v hv s s0 s1 => by
        rw [up_at]
        by_cases e : s = i
        · rw [if_pos e, hv, e]
        · rw [if_neg e]
          exact hG s s0 (by omega)
      rw [if_neg g, ma_ne (by decide), h18, c2_ok hx.1 hx.2 (by omega) (by omega)]
      by_cases g2 : ia i m = t
      · rw [if_neg (by simpa using g2), ax_ok i0 (by omega), B_X11_partsMarked_59, ax_ok i0 (by omega), bd_eq, ms_row]
        exact ih (i + 1) _ (by omega) (by omega) (by omega) (hw _ (by unfold mkw; rw [if_pos g2]))
      · rw [if_pos g2, B_X11_partsMarked_59, ax_ok i0 (by omega), bd_eq, ms_row]
        exact ih (i + 1) _ (by omega) (by omega) (by omega) (hw _ (by unfold mkw; rw [if_neg g2]))
theorem mkw_wt {P A : Int → Int} (h : TH P A) (hN : 1 ≤ NS A) {m t : Int} : WT A (mkw P m t) :=
  h.wt2 hN fun s a b => by
    have := h.1 s a b
    unfold mkw
    split <;> omega
theorem markm_32 {Y : Mem} {P : Int → Int} {nd f to m t x2 : Int} (hB : BD (Y 121)) (f0 : 0 ≤ f) (f1 : f < Y 121 0 * Y 121 1) (hT : TH P (Y 121)) (ht : inI t) (hF : ∀ a : Int, 0 ≤ a → a < NS (Y 121) → FEW (Y 121) nd f to a (Y 134 a)) (go : Int → Int → Int → Mem → Option (Int × Mem)) : ∀ (k : Nat) (v q : Int), 0 ≤ q → q ≤ NS (Y 121) → (NS (Y 121) - q).toNat < k → (0 ≤ v ∧ v ≤ 1000000) → MX (Y 121) nd f to (fun l => pS P t (io l (ia m (ix t (-1))))) q v →
    ∃ v' : Int, L_X12_markedBy_32 go k m x2 t v q Y = B_X12_markedBy_80 go m x2 t v' Y ∧ MX (Y 121) nd f to (fun l => pS P t (io l (ia m (ix t (-1))))) (NS (Y 121)) v' := by
  have hN := NS_r hB.2.1
  intro k
  induction k with
  | zero => intro v q _ _ h; omega
  | succ k ih =>
    intro v q q0 q1 hk hv hM
    have e2 : f_X12_sets Y = some (NS (Y 121), Y) := sets_eq
    rw [L_X12_markedBy_32, e2, cl_some, c2_ok (by omega) (by omega) (by omega) (by omega)]
    by_cases g : NS (Y 121) ≤ q
    · rw [if_pos g]
      exact ⟨v, rfl, by rw [show NS (Y 121) = q by omega]; exact hM⟩
    · have hf := few_ne hB f0 f1 (hF q q0 (by omega))
      rw [if_neg g, ax_ok q0 (by omega), c2_ok (by omega) (by omega) (by decide) (by decide)]
      rcases hf with ⟨e, hn⟩ | ⟨e1, e3, hn⟩
      · rw [if_pos e, B_X12_markedBy_74]
        exact ih v (q + 1) (by omega) (by omega) (by omega) hv (hM.no hn)
      · have p1 := TH_r hT (a := t) (b := io q (ia m (ix t (-1))))
        rw [if_neg (by omega), partsOf_eq hT hB.2.1 ht, cl_some, d2_ok (by omega) (by omega) (by omega) (by omega), bd_eq, B_X12_markedBy_74]
        exact ih _ (q + 1) (by omega) (by omega) (by omega) (by omega) (hM.yes q0 hn)
/-- the reference's loop ends with no part once t is beyond the marks -/
theorem markm_end {Y : Mem} {m v : Int} (hB : BD (Y 121)) (m0 : 0 ≤ m) (m1 : m < 32) : ∀ (k : Nat) (t : Int), m < t → t ≤ NS (Y 121) → (NS (Y 121) - t).toNat < k → L_X12_markedBy_5 k m v t Y = some (v, Y) := by
  have hN := NS_r hB.2.1
  intro k
  induction k with
  | zero => intro t _ _ h; omega
  | succ k ih =>
    intro t t0 t1 hk
    have e2 : f_X12_sets Y = some (NS (Y 121), Y) := sets_eq
    have hi := ia_I t (ix m (-1))
    rw [L_X12_markedBy_5, e2, cl_some, c2_ok (by omega) (by omega) (by omega) (by omega)]
    by_cases g : NS (Y 121) ≤ t
    · rw [if_pos g]
    · rw [if_neg g, c1_okk hi.1 hi.2, if_neg (fun e => by have := (mk_3 (s := 0) (by decide) (by decide) m0 m1 (by omega) (by omega) e).1; omega), B_X12_markedBy_85]
      exact ih (t + 1) (by omega) (by omega) (by omega)
theorem mark_lk {X0 : Mem} {A P : Int → Int} {nd r f to m : Int} (hB : BD A) (hG : GL A nd r X0) (hS : SRC A nd f to (NS A) X0) (hT : TH P A) (h18 : X0 18 = P) (f0 : 0 ≤ f) (f1 : f < A 0 * A 1) (m0 : 0 ≤ m) (m1 : m < NS A) : ∀ (k : Nat) (t v : Int) (X : Mem), 0 ≤ t → t ≤ m + 1 → (NS A - t).toNat < k → (∀ i : Int, i ≠ 45 → i ≠ 59 → X i = X0 i) → (0 ≤ v ∧ v ≤ 1000000 * t) →
    ∃ (v' : Int) (Y : Mem), L_X11_partsMarked_5 k m v t X = some (v', Y) ∧ (∀ i : Int, i ≠ 45 → i ≠ 59 → Y i = X0 i) ∧ (0 ≤ v' ∧ v' ≤ 32000000) ∧
      ∀ Z : Mem, Z 121 = A → (∀ a : Int, 0 ≤ a → a < NS A → FEW A nd f to a (Z 134 a)) → L_X12_markedBy_5 k m v t Z = some (v', Z) := by
  have hN := NS_r hB.2.1
  intro k
  induction k with
  | zero => intro t v X _ _ h; omega
  | succ k ih =>
    intro t v X t0 t1 hk hX hv
    have hi := ia_I t (ix m (-1))
    rw [L_X11_partsMarked_5, c2_ok (by omega) (by omega) (by omega) (by omega)]
    by_cases g : m < t
    · rw [if_pos g]
      refine ⟨v, X, rfl, hX, ⟨hv.1, by omega⟩, fun Z z1 _ => ?_⟩
      exact markm_end (by rw [z1]; exact hB) m0 (by omega) (k + 1) t g (by rw [z1]; omega) (by rw [z1]; omega)
    · have eZ : ∀ Z : Mem, Z 121 = A → ∀ o, L_X12_markedBy_5 (k + 1) m v t Z = o → _ := fun Z z1 o ho => by
        have e2 : f_X12_sets Z = some (NS A, Z) := by
          rw [sets_eq, z1]
          rfl
        rw [L_X12_markedBy_5, e2, cl_some, c2_ok (by omega) (by omega) (by omega) (by omega), if_neg (by omega), c1_okk hi.1 hi.2] at ho
        exact ho
      rw [if_neg g, c1_okk hi.1 hi.2]
      by_cases g2 : ia t (ix m (-1)) = 0
      · obtain ⟨G, s1, s2⟩ := mark_23 (X := X) (P := P) (m := m) (t := t) t0 (by omega) (by rw [hX 18 (by decide) (by decide)]; exact h18) (fun x1 x2 x4 X => L_X11_partsMarked_5 k x1 x2 x4 X) (v := v) KF 0 (X 59) (by decide) (by decide) (by rw [KF_eq]; omega) (fun s _ _ => by omega)
        rw [ma_self] at s1
        have hG3 : GL A nd r (ma X 59 G) := hG.fr (fun i x => by rw [ma_ne (by omega)]; exact hX i (by omega) (by omega)) (fun q x => by rw [ma_ne (by decide), hX 42 (by decide) (by decide)]) (by rw [ma_ne (by decide)]; exact hX 46 (by decide) (by decide))
        have hS3 : SRC A nd f to (NS A) (ma X 59 G) := by
          unfold SRC
          rw [ma_ne (by decide), ma_ne (by decide), ma_ne (by decide), hX 42 (by decide) (by decide), hX 43 (by decide) (by decide), hX 44 (by decide) (by decide)]
          exact hS
        have hW : WT A G := (mkw_wt hT hN.1).ext hN.1 s2
        obtain ⟨b, S, b1, b2, -⟩ := bestOf_eq (p := 59) (w := G) hB hG3 hS3 (by rw [ma_same]; exact hW) ma_same
        have eG : ∀ l : Int, 0 ≤ l → l < NS A → pS P t (io l (ia m (ix t (-1)))) = pS G 0 l := fun l l0 l1 => by
          rw [← mk_sum m0 (by omega) t0 (by omega) l0 (by omega) g2]
          exact (pS_ext s2).symm
        have hb1 : b ≤ 1000000 := by
          rcases b2.2.2 with ⟨e, -⟩ | ⟨l, ⟨l0, l1⟩, -, e⟩
          · omega
          · have p1 := TH_r hT (a := t) (b := io l (ia m (ix t (-1))))
            have := eG l l0 l1
            omega
        have hb0 := b2.1.1
        obtain ⟨v', Y, q1, q2, q3, q4⟩ := ih (t + 1) (v + b) (ma (ma X 59 G) 45 S) (by omega) (by omega) (by omega) (fun i i1 i2 => by rw [ma_ne i1, ma_ne i2]; exact hX i i1 i2) ⟨by omega, by omega⟩
        refine ⟨v', Y, ?_, q2, q3, fun Z z1 zf => ?_⟩
        · rw [if_neg (by simpa using g2), s1, B_X11_partsMarked_66, b1, cl_some, bd_eq, B_X11_partsMarked_80, q1]
        · obtain ⟨b', i1, i2⟩ := markm_32 (Y := Z) (P := P) (nd := nd) (f := f) (to := to) (m := m) (t := t) (x2 := v) (by rw [z1]; exact hB) f0 (by rw [z1]; exact f1) (by rw [z1]; exact hT) (inI_s (by omega) (by omega)) (by rw [z1]; exact zf) (fun x1 x2 x4 X => L_X12_markedBy_5 k x1 x2 x4 X) KF 0 0 (by decide) (by rw [z1]; omega) (by rw [KF_eq, z1]; omega) ⟨by decide, by decide⟩ MX.zero
          rw [z1] at i2
          have eb : b' = b := BO_mx b2 i2 eG fun l _ _ => hW.r.1
          rw [← eZ Z z1 _ rfl, if_pos g2, i1, B_X12_markedBy_80, bd_eq, B_X12_markedBy_85, eb]
          exact q4 Z z1 zf
      · obtain ⟨v', Y, q1, q2, q3, q4⟩ := ih (t + 1) v X (by omega) (by omega) (by omega) hX ⟨by omega, by omega⟩
        refine ⟨v', Y, ?_, q2, q3, fun Z z1 zf => ?_⟩
        · rw [if_pos g2, B_X11_partsMarked_80, q1]
        · rw [← eZ Z z1 _ rfl, if_neg g2, B_X12_markedBy_85]
          exact q4 Z z1 zf
theorem marks_lk {X0 : Mem} {A P : Int → Int} {nd r f to p : Int} (hB : BD A) (hG : GL A nd r X0) (hS : SRC A nd f to (NS A) X0) (hT : TH P A) (h18 : X0 18 = P) (h20 : X0 2 0 = r) (f0 : 0 ≤ f) (f1 : f < A 0 * A 1) (hp : inI p) : ∀ (k : Nat) (q best v : Int) (X : Mem), 0 ≤ q → q ≤ NS A → (NS A - q).toNat < k → (∀ i : Int, i ≠ 45 → i ≠ 59 → X i = X0 i) → (0 ≤ v ∧ v ≤ 32000000) → (best = -1 ∨ (0 ≤ best ∧ best < NS A)) →
    ∃ (best' v' : Int) (Y : Mem), L_X11_marked_53 k p best v q X = B_X11_marked_113 best' v' Y ∧ (∀ i : Int, i ≠ 45 → i ≠ 59 → Y i = X0 i) ∧ (0 ≤ v' ∧ v' ≤ 32000000) ∧ (best' = -1 ∨ (0 ≤ best' ∧ best' < NS A)) ∧ (best' = -1 → best = -1 ∧ ∀ x : Int, q ≤ x → x < NS A → bcx x ≠ p) ∧
      ∀ Z : Mem, Z 121 = A → (∀ a : Int, 0 ≤ a → a < NS A → FEW A nd f to a (Z 134 a)) → L_X12_marked_55 k p best v q Z = B_X12_marked_115 best' v' Z := by
  have hN := NS_r hB.2.1
  have hG' := hG
  obtain ⟨hr, hR, -⟩ := hG'
  have hrr := RIV_r hr
  intro k
  induction k with
  | zero => intro q best v X _ _ h; omega
  | succ k ih =>
    intro q best v X q0 q1 hk hX hv hbest
    have e1 : f_X2_setCount r X = some (NS A, X) := by
      unfold f_X2_setCount NS
      rw [hX r (by omega) (by omega), hR.1.2.2.1]
    have eZ : ∀ Z : Mem, Z 121 = A → ∀ o, L_X12_marked_55 (k + 1) p best v q Z = o → _ := fun Z z1 o ho => by
      have e2 : f_X12_sets Z = some (NS A, Z) := by
        rw [sets_eq, z1]
        rfl
      rw [L_X12_marked_55, e2, cl_some, c2_ok (by omega) (by omega) (by omega) (by omega)] at ho
      exact ho
    rw [L_X11_marked_53, hX 2 (by decide) (by decide), h20, cm_ok hr, e1, cl_some, c2_ok (by omega) (by omega) (by omega) (by omega)]
    by_cases g : NS A ≤ q
    · rw [if_pos g]
      refine ⟨best, v, X, rfl, hX, hv, hbest, fun e => ⟨e, fun x _ _ => by omega⟩, fun Z z1 _ => ?_⟩
      rw [← eZ Z z1 _ rfl, if_pos g]
    · have hbc : 0 ≤ bcx q ∧ bcx q ≤ 5 := by
        obtain ⟨xf, rfl⟩ := fin32 q0 (by omega)
        exact (bc_step xf).1
      rw [if_neg g, bcx_eq, cl_some, c2_ok (by omega) (by omega) hp.1 hp.2]
      have eZ : ∀ Z : Mem, Z 121 = A → ∀ o, L_X12_marked_55 (k + 1) p best v q Z = o → _ := fun Z z1 o ho => by
        rw [← eZ Z z1 _ rfl, if_neg g, bits_eq q0 (by omega), cl_some, c2_ok (by omega) (by omega) hp.1 hp.2] at ho
        exact ho
      by_cases g1 : bcx q = p
      · obtain ⟨m, X1, m1, m2, m3, m4⟩ := mark_lk (m := q) hB hG hS hT h18 f0 f1 q0 (by omega) KF 0 0 X (by decide) (by omega) (by rw [KF_eq]; omega) hX ⟨by decide, by decide⟩
        have m1 : f_X11_partsMarked q X = some (m, X1) := m1
        have eZ : ∀ Z : Mem, Z 121 = A → (∀ a : Int, 0 ≤ a → a < NS A → FEW A nd f to a (Z 134 a)) → ∀ o, L_X12_marked_55 (k + 1) p best v q Z = o → _ := fun Z z1 zf o ho => by
          have m4 : f_X12_markedBy q Z = some (m, Z) := m4 Z z1 zf
          rw [← eZ Z z1 _ rfl, if_pos g1, m4, cl_some, c2_ok (by omega) (by omega) (by decide) (by decide)] at ho
          exact ho
        rw [if_neg (by simpa using g1), m1, cl_some, c2_ok (by omega) (by omega) (by decide) (by decide)]
        by_cases g2 : best = -1
        · obtain ⟨be, ve, Y, i1, i2, i3, i4, i5, i6⟩ := ih (q + 1) q m X1 (by omega) (by omega) (by omega) m2 m3 (Or.inr ⟨q0, by omega⟩)
          refine ⟨be, ve, Y, ?_, i2, i3, i4, fun e => by have := (i5 e).1; omega, fun Z z1 zf => ?_⟩
          · rw [if_pos g2, B_X11_marked_99, B_X11_marked_107, i1]
          · rw [← eZ Z z1 zf _ rfl, if_pos g2, B_X12_marked_101, B_X12_marked_109]
            exact i6 Z z1 zf
        · rw [if_neg g2, d2_ok (by omega) (by omega) (by omega) (by omega)]
          by_cases g3 : m ≤ v
          · obtain ⟨be, ve, Y, i1, i2, i3, i4, i5, i6⟩ := ih (q + 1) best v X1 (by omega) (by omega) (by omega) m2 hv hbest
            refine ⟨be, ve, Y, ?_, i2, i3, i4, fun e => absurd (i5 e).1 g2, fun Z z1 zf => ?_⟩
            · rw [if_pos g3, B_X11_marked_107, i1]
            · rw [← eZ Z z1 zf _ rfl, if_neg g2, d2_ok (by omega) (by omega) (by omega) (by omega), if_neg (by omega), B_X12_marked_109]
              exact i6 Z z1 zf
          · obtain ⟨be, ve, Y, i1, i2, i3, i4, i5, i6⟩ := ih (q + 1) q m X1 (by omega) (by omega) (by omega) m2 m3 (Or.inr ⟨q0, by omega⟩)
            refine ⟨be, ve, Y, ?_, i2, i3, i4, fun e => by have := (i5 e).1; omega, fun Z z1 zf => ?_⟩
            · rw [if_neg g3, B_X11_marked_99, B_X11_marked_107, i1]
            · rw [← eZ Z z1 zf _ rfl, if_neg g2, d2_ok (by omega) (by omega) (by omega) (by omega), if_pos (by omega), B_X12_marked_101, B_X12_marked_109]
              exact i6 Z z1 zf
      · obtain ⟨be, ve, Y, i1, i2, i3, i4, i5, i6⟩ := ih (q + 1) best v X (by omega) (by omega) (by omega) hX hv hbest
        refine ⟨be, ve, Y, ?_, i2, i3, i4, fun e => ⟨(i5 e).1, fun x x0 x1 => ?_⟩, fun Z z1 zf => ?_⟩
        · rw [if_pos g1, B_X11_marked_107, i1]
        · by_cases ex : x = q
          · rw [ex]; exact g1
          · exact (i5 e).2 x (by omega) x1
        · rw [← eZ Z z1 _ rfl, if_neg g1, B_X12_marked_109]
          exact i6 Z z1 zf
theorem bc_some {A : Int → Int} (hA : 0 ≤ A 2 ∧ A 2 ≤ 5) {p : Int} (p0 : 0 ≤ p) (p1 : p ≤ A 2) : ∃ x : Int, 0 ≤ x ∧ x < NS A ∧ bcx x = p := by
  obtain ⟨n1, n2, n3⟩ := NS_v hA
  have h := bc_top ⟨(A 2).toNat, by omega⟩ ⟨p.toNat, by omega⟩ (by show p.toNat ≤ (A 2).toNat; omega)
  obtain ⟨h1, h2, h3⟩ := h
  refine ⟨((2 ^ p.toNat : Nat) : Int) - 1, ?_, ?_, ?_⟩
  · have : (1 : Int) ≤ ((2 ^ p.toNat : Nat) : Int) := Int.ofNat_le.mpr h2
    omega
  · rw [n1]
    have : ((2 ^ p.toNat : Nat) : Int) ≤ ((2 ^ (A 2).toNat : Nat) : Int) := Int.ofNat_le.mpr h1
    omega
  · rw [h3]
    exact Int.toNat_of_nonneg p0
theorem q_marked : pair_36 REL := by
  intro f to p hf ht hp cn X hcn h
  obtain ⟨n1, n2, n3, n4, n5, n6⟩ := h.now
  have hN := NS_r n3.2.1
  have hA2 := n3.2.1
  have hR2 : X (X 2 0) 2 = X 121 2 := n2.1.2.2.1
  have eM : ∀ v : Int, ms X 0 16 v 121 = X 121 := fun v => s16 (by decide)
  show OUT cn (f_X11_marked f to p) (f_X12_marked f to p) X
  -- refused with 1
  have h1 : f_X11_marked f to p X = some (-1, ms X 0 16 1) → ¬ (((0 ≤ f ∧ f < X 121 0 * X 121 1) ∧ (0 ≤ to ∧ to < X 121 0 * X 121 1)) ∧ 0 ≤ p ∧ p ≤ X 121 2) → OUT cn (f_X11_marked f to p) (f_X12_marked f to p) X := fun e hn => by
    refine out_st h (r := -1) (v := 1) (by decide) (by decide) inI_m1 e ?_
    unfold f_X12_marked
    rw [areCells_eq (by rw [eM]; exact n3) hf ht, eM]
    by_cases gc : (0 ≤ f ∧ f < X 121 0 * X 121 1) ∧ (0 ≤ to ∧ to < X 121 0 * X 121 1)
    · rw [if_pos gc, cl_some, c1_okk (by decide) (by decide), if_neg (by decide), c1_okk hp.1 hp.2]
      by_cases g : p < 0
      · rw [if_pos g, B_X12_marked_23, refusem_eq, cl_some]
      · rw [if_neg g, ax_ok (n := 2200) (by decide) (by decide), eM, c2_ok hp.1 hp.2 (by omega) (by omega), if_neg (fun e => hn ⟨gc, by omega, e⟩), B_X12_marked_23, refusem_eq, cl_some]
    · rw [if_neg gc, cl_some, c1_okk (by decide) (by decide), if_pos rfl, B_X12_marked_23, refusem_eq, cl_some]
  have eC : ∀ o, f_X11_marked f to p X = o → _ := fun o ho => by
    unfold f_X11_marked at ho
    rw [c1_okk hp.1 hp.2, cm_ok n1, hR2, c2_ok hp.1 hp.2 (by omega) (by omega)] at ho
    exact ho
  by_cases gp0 : p < 0
  · refine h1 ?_ (by omega)
    rw [← eC _ rfl, if_pos gp0, B_X11_marked_18, fail_eq, cl_some]
  · by_cases gp1 : p ≤ X 121 2
    · have eC : ∀ o, f_X11_marked f to p X = o → _ := fun o ho => by
        rw [← eC _ rfl, if_neg gp0, if_pos gp1] at ho
        exact ho
      by_cases gc : (0 ≤ f ∧ f < X 121 0 * X 121 1) ∧ (0 ≤ to ∧ to < X 121 0 * X 121 1)
      · obtain ⟨g1, g2⟩ := gc
        obtain ⟨Y1, y0, yG, y14, y15, yS, yc⟩ := choice_yes h hf ht g1 g2
        have y18 : Y1 18 = X 18 := funext fun k => y0 18 k (by unfold SCR; omega)
        have y20 : Y1 2 0 = X 2 0 := y0 2 0 (by unfold SCR; omega)
        rcases yc with ⟨hex, ec⟩ | ⟨hno, ec⟩
        · obtain ⟨be, ve, Y, q1, q2, q3, q4, q5, q6⟩ := marks_lk (X0 := Y1) (A := X 121) (P := X 18) (nd := ND (X 121)) (r := X 2 0) (f := f) (to := to) (p := p) n3 yG yS n6 y18 y20 g1.1 g1.2 hp KF 0 (-1) 0 Y1 (by decide) (by omega) (by rw [KF_eq]; omega) (fun i _ _ => rfl) ⟨by decide, by decide⟩ (Or.inl rfl)
          have hY : ∀ i k : Int, ¬ SCR i k → Y i k = X i k := fun i k q => by
            rw [q2 i (by unfold SCR at q; omega) (by unfold SCR at q; omega)]
            exact y0 i k q
          have hbe : be ≠ -1 := fun e => by
            obtain ⟨x, x0, x1, x2⟩ := bc_some hA2 (show 0 ≤ p by omega) gp1
            exact (q5 e).2 x x0 x1 x2
          have z2 : 0 ≤ be ∧ be < NS (X 121) := by
            rcases q4 with e | e
            · exact absurd e hbe
            · exact e
          have hJ := frac_J (a := ve) (b := 1000000) q3.1 (by omega) (by decide) (by decide)
          refine out_fs h hY hJ.1 hJ.2 (r := be) (inI_s (by omega) (by omega)) ?_ fun x121 hck => ?_
          · rw [← eC _ rfl, ec, cl_some, c1_okk (by decide) (by decide), if_pos rfl, q1, B_X11_marked_113, c2_ok (by omega) (by omega) (by decide) (by decide), if_pos hbe, tellF_s q3.1 (by omega) (by decide) (by decide), cl_some, answer_eq, cl_some, fC_16]
          · obtain ⟨a', Z1, r1, r2, r3, r4, r5⟩ := surestOf_eq (P := X 18) (f := f) (to := to) (by rw [x121]; exact n3) hck (by omega) (by rw [x121]; exact n6) g1.1 (by rw [x121]; exact g1.2) g2.1 (by rw [x121]; exact g2.2)
            rw [x121] at r4 r5
            have ea : 0 ≤ a' ∧ a' < NS (X 121) := by
              rcases r5 with ⟨-, r5⟩ | r5
              · obtain ⟨a, ⟨a0, a1⟩, a2⟩ := hex
                exact absurd a2 (r5 a a0 a1)
              · exact r5.1
            have z121 : Z1 121 = X 121 := by
              rw [← x121]
              exact funext fun k => r2 121 k (by omega) (by decide) (by decide) (by decide)
            refine ⟨Z1, ?_, fun i k q1 q4 => r2 i k (by unfold CKC at q4; omega) (by unfold SCR at q1; omega) (by unfold SCR at q1; omega) (by unfold CKC at q4; omega), r3⟩
            unfold f_X12_marked
            rw [areCells_eq (by rw [x121]; exact n3) hf ht, x121, if_pos ⟨g1, g2⟩, cl_some, c1_okk (by decide) (by decide), if_neg (by decide), c1_okk hp.1 hp.2, if_neg gp0, ax_ok (n := 2200) (by decide) (by decide), x121, c2_ok hp.1 hp.2 (by omega) (by omega), if_pos gp1, r1, cl_some, c2_ok (by omega) (by omega) (by decide) (by decide), if_pos (by omega), q6 Z1 z121 r4, B_X12_marked_115, tellsBy_s q3.1 (by omega) (by decide) (by decide), cl_some, gives_eq, cl_some, fM_2]
        · obtain ⟨b1, b2, b3⟩ := h.scr (Y := ms Y1 0 16 6) (fun i k q1 q2 => by rw [ms_at, if_neg (by unfold ANS at q2; omega)]; exact y0 i k q1)
          refine out_scr h y0 (r := -1) (v := 6) (by decide) (by decide) inI_m1 ?_ ?_
          · rw [← eC _ rfl, ec, cl_some, c1_ok (by decide) (by decide), if_neg (by decide), fail_eq, cl_some]
          · obtain ⟨a', Z1, r1, r2, r3, r4, r5⟩ := surestOf_eq (P := X 18) (f := f) (to := to) b1 b3 (by omega) (by rw [b2]; exact n6) g1.1 (by rw [b2]; exact g1.2) g2.1 (by rw [b2]; exact g2.2)
            rw [b2] at r4 r5
            have ea : a' = -1 := by
              rcases r5 with ⟨r5, -⟩ | r5
              · exact r5
              · exact absurd r5.2.1 (hno a' r5.1.1 r5.1.2)
            refine ⟨Z1, ?_, fun i k q1 q4 => r2 i k (by unfold CKC at q4; omega) (by unfold SCR at q1; omega) (by unfold SCR at q1; omega) (by unfold CKC at q4; omega), r3⟩
            unfold f_X12_marked
            rw [areCells_eq b1 hf ht, b2, if_pos ⟨g1, g2⟩, cl_some, c1_ok (by decide) (by decide), if_neg (by decide), c1_okk hp.1 hp.2, if_neg gp0, ax_ok (n := 2200) (by decide) (by decide), b2, c2_ok hp.1 hp.2 (by omega) (by omega), if_pos gp1, r1, cl_some, ea, c2_ok (by decide) (by decide) (by decide) (by decide), if_neg (by decide), refusem_eq, cl_some]
      · refine h1 ?_ (fun e => gc e.1)
        rw [← eC _ rfl, choice_no h hf ht gc, cl_some, c1_ok (by decide) (by decide), if_neg (by decide), fail_eq, cl_some]
    · refine h1 ?_ (by omega)
      rw [← eC _ rfl, if_neg gp0, if_neg gp1, B_X11_marked_18, fail_eq, cl_some]
