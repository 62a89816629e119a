/-! lieTo -/
theorem kept_bk2 {cn : Int} {Z K Z2 : Mem} {A : Int → Int} (hZ : Z 121 = A) (k1 : ∀ i k : Int, i ≠ 137 → ¬ (i = 120 ∧ (k = 39 ∨ k = 40)) → K i k = Z i k) (k2 : ∀ s : Int, 0 ≤ s → s < 32 → K 137 s = Z 121 (168 + s)) (k3 : K 120 39 = Z 121 3) (k4 : K 120 40 = Z 121 4) (f2 : ∀ i k : Int, ¬ (i = 120 ∧ 31 ≤ k ∧ k ≤ 34) → i ≠ 121 → i ≠ 130 → i ≠ 131 → i ≠ 132 → i ≠ 133 → i ≠ 134 → Z2 i k = K i k) (f3 : ∀ k : Int, k ≠ 3 → k < 168 ∨ 200 ≤ k → Z2 121 k = A k) (hB2 : BD (Z2 121)) (hC : CK cn Z2) :
    f_X12_brings Z2 = some (0, ma Z2 121 A) ∧ (∀ i k : Int, ¬ SCR i k → ¬ CKC i k → i ≠ 130 → ma Z2 121 A i k = Z i k) ∧ CK cn (ma Z2 121 A) := by
  have f2' : ∀ i k : Int, ¬ (i = 120 ∧ 31 ≤ k ∧ k ≤ 34) → i = 120 ∨ i = 137 → Z2 i k = K i k := fun i k a b => f2 i k a (by omega) (by omega) (by omega) (by omega) (by omega) (by omega)
  refine ⟨brings_eq (fun s s0 s1 => ?_) ?_ ?_ (fun k q1 q2 q3 => f3 k q1 q3), fun i k q1 q2 q3 => ?_, ?_⟩
  · rw [f2' 137 s (by omega) (by omega), k2 s s0 s1, hZ]
  · rw [f2' 120 39 (by omega) (by omega), k3, hZ]
  · rw [f2' 120 40 (by omega) (by omega), k4, hZ]
  · by_cases e : i = 121
    · rw [e, ma_same, hZ]
    · rw [ma_ne e, f2 i k (by unfold CKC at q2; omega) e q3 (by unfold SCR at q1; omega) (by unfold SCR at q1; omega) (by unfold SCR at q1; omega) (by unfold CKC at q2; omega)]
      exact k1 i k (by unfold SCR at q1; omega) (by unfold SCR at q1; omega)
  · exact CK.fr hB2 hC (by rw [ma_ne (by decide)]) (by rw [ma_ne (by decide)]) (by rw [ma_ne (by decide)]) (by rw [ma_ne (by decide)]) (by rw [ma_ne (by decide)]) (ma_ne (by decide)) (fun k hk => by rw [ma_same, f3 k (by omega) (by omega)])
/-- the reference days ahead -/
def AH (A P : Int → Int) (cn d : Int) (Z : Mem) : Prop := (∀ k : Int, k ≠ 3 → k < 168 ∨ 200 ≤ k → Z 121 k = A k) ∧ Z 121 3 = d ∧ TH P (Z 121) ∧ BD (Z 121) ∧ CK cn Z ∧ ∀ q : Int, 0 ≤ q → q < 32 → 0 ≤ Z 130 q ∧ Z 130 q ≤ 2000000000000
theorem AH.v {A P : Int → Int} {cn d : Int} {Z : Mem} (h : AH A P cn d Z) : EQV A (Z 121) := fun k hk => h.1 k (by omega) (by omega)
def FRA (Z' Z : Mem) : Prop := ∀ i k : Int, ¬ (i = 120 ∧ 31 ≤ k ∧ k ≤ 34) → i ≠ 121 → i ≠ 130 → i ≠ 131 → i ≠ 132 → i ≠ 133 → i ≠ 134 → Z' i k = Z i k
theorem lie_lk {cn : Int} {X0 : Mem} {f to n p : Int} (h : REL cn X0) (hcn : cn ≤ 600) (f0 : 0 ≤ f) (f1 : f < X0 121 0 * X0 121 1) (t0 : 0 ≤ to) (t1 : to < X0 121 0 * X0 121 1) (hn : 0 ≤ n ∧ n ≤ 9) (hp : 0 ≤ p ∧ p ≤ 999999) (hd : X0 121 3 + n ≤ 99) : ∀ (k : Nat) (i best val sc : Int) (X : Mem) (P : Int → Int), 0 ≤ i → i ≤ n → (n - i).toNat < k → (∀ j q : Int, ¬ SCR j q → j ≠ 41 → X j q = X0 j q) → X 59 = P → THr P (NS (X0 121)) → (∀ q : Int, q < 0 ∨ 32 ≤ q → X 41 q = 0) → (-1 ≤ best ∧ best ≤ 9) → (0 ≤ val ∧ val ≤ 1000000) → (-10000000 ≤ sc ∧ sc ≤ 10000000) →
    ∃ (be ve : Int) (Y : Mem), B_X11_lieTo_122 (fun x1 x2 x3 x4 x5 x6 x8 x10 X => L_X11_lieTo_91 k x1 x2 x3 x4 x5 x6 x8 x10 X) f to n p best val sc i X = B_X11_lieTo_222 be ve Y ∧ (∀ j q : Int, ¬ SCR j q → j ≠ 41 → Y j q = X0 j q) ∧ (∀ q : Int, q < 0 ∨ 32 ≤ q → Y 41 q = 0) ∧ (-1 ≤ be ∧ be ≤ 9) ∧ (0 ≤ ve ∧ ve ≤ 1000000) ∧
      ∀ Z : Mem, AH (X0 121) P cn (X0 121 3 + i) Z → ∃ (Z' : Mem) (P' : Int → Int), L_X12_lieTo_75 (k + 1) f to n p best sc val i Z = B_X12_lieTo_174 be ve Z' ∧ AH (X0 121) P' cn (X0 121 3 + n) Z' ∧ FRA Z' Z := by
  obtain ⟨n1, n2, n3, n4, n5, n6⟩ := h.now
  have hN := NS_r n3.2.1
  have b3 := n3.2.2.1
  have b4 := n3.2.2.2.1
  have hrc := RIV_c n1
  intro k
  induction k with
  | zero => intro i _ _ _ _ _ _ _ h; omega
  | succ k ih =>
    intro i best val sc X P i0 i1 hk hX h59 hP hz hbe hva hsc
    have er : ∀ j : Int, (3 ≤ j ∧ j ≤ 29) ∨ (70 ≤ j ∧ j ≤ 113) → X j = X0 j := fun j hj => funext fun q => hX j q (by unfold SCR; omega) (by omega)
    have e2 : ∀ q : Int, X 2 q = X0 2 q := fun q => hX 2 q (by unfold SCR; omega) (by omega)
    have hRX : RV X (X0 2 0) (X0 121) := n2.fr2 n1 er
    obtain ⟨v, Y1, Y2, g1, g2, g3, g4, g5⟩ := grd (X := X) (A := X0 121) (w := P) (r := X0 2 0) (d := X0 121 3 + i) (o := X0 121 4) (f := f) (to := to) (p := 59) n1 hRX n3 (by omega) (by omega) b4.1 b4.2 f0 f1 t0 t1 hP.wt h59 (Or.inr rfl)
    -- the class from the next round on; the reference's next round
    have next : ∀ (best' val' sc' : Int) (X' : Mem), (∀ j q : Int, ¬ SCR j q → j ≠ 41 → X' j q = X0 j q) → X' 59 = P → X' 41 = X 41 → (-1 ≤ best' ∧ best' ≤ 9) → (0 ≤ val' ∧ val' ≤ 1000000) → (-10000000 ≤ sc' ∧ sc' ≤ 10000000) →
        ∃ (be ve : Int) (Y : Mem), L_X11_lieTo_91 (k + 1) f to n p best' val' sc' (i + 1) X' = B_X11_lieTo_222 be ve Y ∧ (∀ j q : Int, ¬ SCR j q → j ≠ 41 → Y j q = X0 j q) ∧ (∀ q : Int, q < 0 ∨ 32 ≤ q → Y 41 q = 0) ∧ (-1 ≤ be ∧ be ≤ 9) ∧ (0 ≤ ve ∧ ve ≤ 1000000) ∧
          ∀ Z : Mem, AH (X0 121) P cn (X0 121 3 + i) Z → ∃ (Z' : Mem) (P' : Int → Int), B_X12_lieTo_156 (fun x1 x2 x3 x4 x5 x6 x8 x10 X => L_X12_lieTo_75 (k + 1) x1 x2 x3 x4 x5 x6 x8 x10 X) f to n p best' sc' val' i Z = B_X12_lieTo_174 be ve Z' ∧ AH (X0 121) P' cn (X0 121 3 + n) Z' ∧ FRA Z' Z := fun best' val' sc' X' hX' h59' h41' hbe' hva' hsc' => by
      clear g5
      by_cases gl : n ≤ i
      · refine ⟨best', val', X', ?_, hX', fun q hq => by rw [h41']; exact hz q hq, hbe', hva', fun Z hZ => ⟨Z, P, ?_, by rw [show X0 121 3 + n = X0 121 3 + i by omega]; exact hZ, fun _ _ _ _ _ _ _ _ _ => rfl⟩⟩
        · rw [L_X11_lieTo_91, c2_ok (by omega) (by omega) (by omega) (by omega), if_pos (by omega)]
        · rw [B_X12_lieTo_156, c2_ok (by omega) (by omega) (by omega) (by omega), if_pos gl, B_X12_lieTo_168, L_X12_lieTo_75, c2_ok (by omega) (by omega) (by omega) (by omega), if_pos (by omega)]
      · have er' : ∀ j : Int, (3 ≤ j ∧ j ≤ 29) ∨ (70 ≤ j ∧ j ≤ 113) → X' j = X0 j := fun j hj => funext fun q => hX' j q (by unfold SCR; omega) (by omega)
        have e2' : ∀ q : Int, X' 2 q = X0 2 q := fun q => hX' 2 q (by unfold SCR; omega) (by omega)
        obtain ⟨W, P1, d1, d2, d3, d4⟩ := day_both (X := X') (P := P) (p := 59) (e := -1) (m := 0) n3 n1 (n2.fr2 n1 er') (by decide) h59' hP (fun q hq => by rw [h41']; exact hz q hq) ⟨by decide, by decide⟩ inI_m1
        obtain ⟨be, ve, Y, i2, i3, i4, i5, i6, i7⟩ := ih (i + 1) best' val' sc' (ma (ma X' 41 W) 59 P1) P1 (by omega) (by omega) (by omega) (fun j q s1 s2 => by rw [ma_ne (by unfold SCR at s1; omega), ma_ne s2]; exact hX' j q s1 s2) ma_same d3 (fun q hq => by rw [ma_ne (by decide), ma_same]; exact d2 q hq) hbe' hva' hsc'
        refine ⟨be, ve, Y, ?_, i3, i4, i5, i6, fun Z hZ => ?_⟩
        · rw [L_X11_lieTo_91, c2_ok (by omega) (by omega) (by omega) (by omega), if_neg (by omega), c1_okk (by omega) (by omega), if_neg (by omega), e2', cm_ok n1, d1, cl_some, i2]
        · have hE := hZ.v
          obtain ⟨a1, a2, a3, a4, a5, a6⟩ := hZ
          obtain ⟨U, V, B1, q1, q2, q3, q4, q5⟩ := d4 Z (Z 121) rfl hE a4 a3 a6
          have hE1 : EQV (X0 121) B1 := fun k hk => by rw [q3 k (by omega) (by omega)]; exact hE k hk
          have hB1 : BD B1 := n3.tx hE1 (by omega) (by rw [q3 4 (by decide) (by decide), a1 4 (by decide) (by decide)]; exact b4)
          have hC1 : CK cn (ma (ma (ma Z 131 U) 130 V) 121 B1) := CK.fr a4 a5 (by rw [ma_ne (by decide), ma_ne (by decide), ma_ne (by decide)]) (by rw [ma_ne (by decide), ma_ne (by decide), ma_ne (by decide)]) (by rw [ma_ne (by decide), ma_ne (by decide), ma_ne (by decide)]) (by rw [ma_ne (by decide), ma_ne (by decide), ma_ne (by decide)]) (by rw [ma_ne (by decide), ma_ne (by decide), ma_ne (by decide)]) (by rw [ma_ne (by decide), ma_ne (by decide), ma_ne (by decide)]) (fun k hk => by rw [ma_same, q3 k (by omega) (by omega)])
          obtain ⟨Z', P', z1, z2, z3⟩ := i7 (ma (ma (ma Z 131 U) 130 V) 121 B1) ⟨fun k k1 k2 => by rw [ma_same, q3 k k1 k2]; exact a1 k k1 k2, by rw [ma_same, q4, a2]; omega, by rw [ma_same]; exact q2, by rw [ma_same]; exact hB1, hC1, fun q q0 q1 => by rw [ma_ne (by decide), ma_same]; exact q5 q q0 q1⟩
          refine ⟨Z', P', ?_, z2, fun j q s1 s2 s3 s4 s5 s6 s7 => by rw [z3 j q s1 s2 s3 s4 s5 s6 s7, ma_ne s2, ma_ne s3, ma_ne s4]⟩
          rw [B_X12_lieTo_156, c2_ok (by omega) (by omega) (by omega) (by omega), if_neg gl, q1, cl_some, B_X12_lieTo_168, z1]
    -- the reference's look
    have look : ∀ Z : Mem, AH (X0 121) P cn (X0 121 3 + i) Z → ∃ (a : Int) (Z1 : Mem), AH (X0 121) P cn (X0 121 3 + i) Z1 ∧ FRA Z1 Z ∧ ((a = -1 ∧ (∀ b : Int, 0 ≤ b → b < NS (X0 121) → ¬ WAYP (X0 121) (X0 121 5 - X0 121 4 - stg (X0 121) (X0 121 3 + i)) f to b) ∧ ∀ bst s w, L_X12_lieTo_75 (k + 1 + 1) f to n p bst s w i Z = B_X12_lieTo_156 (fun x1 x2 x3 x4 x5 x6 x8 x10 X => L_X12_lieTo_75 (k + 1) x1 x2 x3 x4 x5 x6 x8 x10 X) f to n p bst s w i Z1) ∨ ((0 ≤ a ∧ a < NS (X0 121)) ∧ WAYP (X0 121) (X0 121 5 - X0 121 4 - stg (X0 121) (X0 121 3 + i)) f to a ∧ (∀ b : Int, 0 ≤ b → b < NS (X0 121) → WAYP (X0 121) (X0 121 5 - X0 121 4 - stg (X0 121) (X0 121 3 + i)) f to b → pS P 0 b ≤ pS P 0 a) ∧ ∀ bst s w, L_X12_lieTo_75 (k + 1 + 1) f to n p bst s w i Z = B_X12_lieTo_106 (fun x1 x2 x3 x4 x5 x6 x8 x10 X => L_X12_lieTo_75 (k + 1) x1 x2 x3 x4 x5 x6 x8 x10 X) f to n p bst s w i a (pS P 0 a) Z1)) := fun Z hZ => by
      clear g5 next
      have hE := hZ.v
      obtain ⟨a1, a2, a3, a4, a5, a6⟩ := hZ
      obtain ⟨a, Z1, s1, s2, s3, s4⟩ := sur_at (Z := Z) (A := X0 121) (B := Z 121) (P := P) (f := f) (to := to) n3 rfl hE a4 a3 a5 (by omega) f0 f1 t0 t1
      have z121 : Z1 121 = Z 121 := funext fun k => s2 121 k (by omega) (by decide) (by decide) (by decide)
      have z130 : Z1 130 = Z 130 := funext fun k => s2 130 k (by omega) (by decide) (by decide) (by decide)
      have eND : ND (Z 121) = X0 121 5 - X0 121 4 - stg (X0 121) (X0 121 3 + i) := by
        unfold ND
        rw [a1 5 (by decide) (by decide), a1 4 (by decide) (by decide), a2, stg.tx n3 hE (by omega)]
      rw [eND] at s4
      refine ⟨a, Z1, ⟨by rw [z121]; exact a1, by rw [z121]; exact a2, by rw [z121]; exact a3, by rw [z121]; exact a4, s3, by rw [z130]; exact a6⟩, fun j q q1 q2 q3 q4 q5 q6 q7 => s2 j q q1 q5 q6 q7, ?_⟩
      rcases s4 with ⟨r1, r2⟩ | ⟨r1, r2, r3⟩
      · refine Or.inl ⟨r1, r2, fun bst s w => ?_⟩
        rw [L_X12_lieTo_75, c2_ok (by omega) (by omega) (by omega) (by omega), if_neg (by omega), s1, cl_some, r1, c2_ok (by decide) (by decide) (by decide) (by decide), if_neg (by decide), B_X12_lieTo_106, c2_ok (by decide) (by decide) (by decide) (by decide), if_pos rfl]
      · refine Or.inr ⟨r1, r2, r3, fun bst s w => ?_⟩
        rw [L_X12_lieTo_75, c2_ok (by omega) (by omega) (by omega) (by omega), if_neg (by omega), s1, cl_some, c2_ok (by omega) (by omega) (by decide) (by decide), if_pos (by omega), partsOf_eq (P := P) (by rw [z121]; exact a3) (by rw [z121]; exact a4.2.1) (inI_s (by decide) (by decide)), cl_some]
    have e4' : X 2 4 = X0 121 4 := by rw [e2, n5]
    have e3' : X 2 3 = X0 121 3 := by rw [e2, n4]
    rw [B_X11_lieTo_122, e2 0, cm_ok n1, e3', e4', g1, cl_some, g2, cl_some]
    have hX2 : ∀ j q : Int, ¬ SCR j q → j ≠ 41 → Y2 j q = X0 j q := fun j q s1 s2 => by rw [g3 j q s1]; exact hX j q s1 s2
    have h41 : Y2 41 = X 41 := funext fun q => g3 41 q (by unfold SCR; omega)
    rcases g5 with ⟨v0, gno⟩ | ⟨v1, m, S, s1, s2, ⟨a, s3, s4, s5⟩, s6⟩
    · obtain ⟨be, ve, Y, y1, y2, y3, y4, y5, y6⟩ := next best val sc Y2 hX2 g4 h41 hbe hva hsc
      refine ⟨be, ve, Y, ?_, y2, y3, y4, y5, fun Z hZ => ?_⟩
      · rw [v0, c1_okk (by decide) (by decide), if_pos rfl, B_X11_lieTo_216, y1]
      · obtain ⟨a, Z1, l1, l2, l3⟩ := look Z hZ
        rcases l3 with ⟨-, -, l3⟩ | ⟨l3, l4, -⟩
        · obtain ⟨Z', P', z1, z2, z3⟩ := y6 Z1 l1
          exact ⟨Z', P', by rw [l3, z1], z2, fun j q q1 q2 q3 q4 q5 q6 q7 => by rw [z3 j q q1 q2 q3 q4 q5 q6 q7, l2 j q q1 q2 q3 q4 q5 q6 q7]⟩
        · exact absurd l4 (gno a l3.1 l3.2)
    · have hm : m ≤ 1000000 := by
        have := sg_r (q := pq 0 a) (w := P) 32 (fun s s0 s1 => (hP.1 s s0 s1).1)
        have := hP.2.1
        rw [s5]
        show sg (pq 0 a) P 32 ≤ _
        omega
      have hip : 0 ≤ i * p ∧ i * p ≤ 9 * 999999 := ⟨Int.mul_nonneg i0 hp.1, Int.mul_le_mul (by omega) hp.2 hp.1 (by decide)⟩
      have hX3 : ∀ j q : Int, ¬ SCR j q → j ≠ 41 → ma Y2 45 S j q = X0 j q := fun j q t1 t2 => by rw [ma_ne (by unfold SCR at t1; omega)]; exact hX2 j q t1 t2
      have ea : ∀ a' : Int, 0 ≤ a' → a' < NS (X0 121) → WAYP (X0 121) (X0 121 5 - X0 121 4 - stg (X0 121) (X0 121 3 + i)) f to a' → (∀ b : Int, 0 ≤ b → b < NS (X0 121) → WAYP (X0 121) (X0 121 5 - X0 121 4 - stg (X0 121) (X0 121 3 + i)) f to b → pS P 0 b ≤ pS P 0 a') → pS P 0 a' = m := fun a' a0 a1 a2 a3 => by
        have := s6 a' a0 a1 a2
        have := a3 a s3.1 s3.2 s4
        omega
      rw [v1, c1_okk (by decide) (by decide), if_neg (by decide), s1, cl_some, c1_okk (by omega) (by omega), c1_okk (by omega) (by omega), bd_eq, c2_ok (by omega) (by omega) (by decide) (by decide)]
      have take : ∃ (be ve : Int) (Y : Mem), B_X11_lieTo_204 (fun x1 x2 x3 x4 x5 x6 x8 x10 X => L_X11_lieTo_91 (k + 1) x1 x2 x3 x4 x5 x6 x8 x10 X) f to n p i m (m - i * p) (ma Y2 45 S) = B_X11_lieTo_222 be ve Y ∧ (∀ j q : Int, ¬ SCR j q → j ≠ 41 → Y j q = X0 j q) ∧ (∀ q : Int, q < 0 ∨ 32 ≤ q → Y 41 q = 0) ∧ (-1 ≤ be ∧ be ≤ 9) ∧ (0 ≤ ve ∧ ve ≤ 1000000) ∧ ∀ Z1 : Mem, AH (X0 121) P cn (X0 121 3 + i) Z1 → ∃ (Z' : Mem) (P' : Int → Int), B_X12_lieTo_136 (fun x1 x2 x3 x4 x5 x6 x8 x10 X => L_X12_lieTo_75 (k + 1) x1 x2 x3 x4 x5 x6 x8 x10 X) f to n p i m Z1 = B_X12_lieTo_174 be ve Z' ∧ AH (X0 121) P' cn (X0 121 3 + n) Z' ∧ FRA Z' Z1 := by
        obtain ⟨be, ve, Y, y1, y2, y3, y4, y5, y6⟩ := next i m (m - i * p) (ma Y2 45 S) hX3 (by rw [ma_ne (by decide)]; exact g4) (by rw [ma_ne (by decide)]; exact h41) ⟨by omega, by omega⟩ ⟨s2.1, hm⟩ ⟨by omega, by omega⟩
        refine ⟨be, ve, Y, ?_, y2, y3, y4, y5, fun Z1 l1 => ?_⟩
        · rw [B_X11_lieTo_204, B_X11_lieTo_216, y1]
        · obtain ⟨Z', P', z1, z2, z3⟩ := y6 Z1 l1
          refine ⟨Z', P', ?_, z2, z3⟩
          rw [B_X12_lieTo_136, c1_okk (by omega) (by omega), c1_okk (by omega) (by omega), bd_eq, z1]
      have skip : ∃ (be ve : Int) (Y : Mem), B_X11_lieTo_216 (fun x1 x2 x3 x4 x5 x6 x8 x10 X => L_X11_lieTo_91 (k + 1) x1 x2 x3 x4 x5 x6 x8 x10 X) f to n p best val sc i (ma Y2 45 S) = B_X11_lieTo_222 be ve Y ∧ (∀ j q : Int, ¬ SCR j q → j ≠ 41 → Y j q = X0 j q) ∧ (∀ q : Int, q < 0 ∨ 32 ≤ q → Y 41 q = 0) ∧ (-1 ≤ be ∧ be ≤ 9) ∧ (0 ≤ ve ∧ ve ≤ 1000000) ∧ ∀ Z1 : Mem, AH (X0 121) P cn (X0 121 3 + i) Z1 → ∃ (Z' : Mem) (P' : Int → Int), B_X12_lieTo_156 (fun x1 x2 x3 x4 x5 x6 x8 x10 X => L_X12_lieTo_75 (k + 1) x1 x2 x3 x4 x5 x6 x8 x10 X) f to n p best sc val i Z1 = B_X12_lieTo_174 be ve Z' ∧ AH (X0 121) P' cn (X0 121 3 + n) Z' ∧ FRA Z' Z1 := by
        obtain ⟨be, ve, Y, y1, y2, y3, y4, y5, y6⟩ := next best val sc (ma Y2 45 S) hX3 (by rw [ma_ne (by decide)]; exact g4) (by rw [ma_ne (by decide)]; exact h41) hbe hva hsc
        exact ⟨be, ve, Y, by rw [B_X11_lieTo_216, y1], y2, y3, y4, y5, y6⟩
      have fin : ∀ Z : Mem, AH (X0 121) P cn (X0 121 3 + i) Z → ∃ (a' : Int) (Z1 : Mem), AH (X0 121) P cn (X0 121 3 + i) Z1 ∧ FRA Z1 Z ∧ (0 ≤ a' ∧ a' < NS (X0 121)) ∧ L_X12_lieTo_75 (k + 1 + 1) f to n p best sc val i Z = B_X12_lieTo_106 (fun x1 x2 x3 x4 x5 x6 x8 x10 X => L_X12_lieTo_75 (k + 1) x1 x2 x3 x4 x5 x6 x8 x10 X) f to n p best sc val i a' m Z1 := fun Z hZ => by
        obtain ⟨a', Z1, l1, l2, l3⟩ := look Z hZ
        rcases l3 with ⟨-, l3, -⟩ | ⟨l3, l4, l5, l6⟩
        · exact absurd s4 (l3 a s3.1 s3.2)
        · refine ⟨a', Z1, l1, l2, l3, ?_⟩
          rw [l6, ea a' l3.1 l3.2 l4 l5]
      by_cases gb : best = -1
      · obtain ⟨be, ve, Y, y1, y2, y3, y4, y5, y6⟩ := take
        refine ⟨be, ve, Y, by rw [if_pos gb, y1], y2, y3, y4, y5, fun Z hZ => ?_⟩
        obtain ⟨a', Z1, l1, l2, l3, l4⟩ := fin Z hZ
        obtain ⟨Z', P', z1, z2, z3⟩ := y6 Z1 l1
        refine ⟨Z', P', ?_, z2, fun j q q1 q2 q3 q4 q5 q6 q7 => by rw [z3 j q q1 q2 q3 q4 q5 q6 q7, l2 j q q1 q2 q3 q4 q5 q6 q7]⟩
        rw [l4, B_X12_lieTo_106, c2_ok (by omega) (by omega) (by decide) (by decide), if_neg (by omega), c2_ok (by omega) (by omega) (by decide) (by decide), if_pos gb, z1]
      · rw [if_neg gb, d2_ok (by omega) (by omega) (by omega) (by omega)]
        by_cases gs : m - i * p ≤ sc
        · obtain ⟨be, ve, Y, y1, y2, y3, y4, y5, y6⟩ := skip
          refine ⟨be, ve, Y, by rw [if_pos gs, y1], y2, y3, y4, y5, fun Z hZ => ?_⟩
          obtain ⟨a', Z1, l1, l2, l3, l4⟩ := fin Z hZ
          obtain ⟨Z', P', z1, z2, z3⟩ := y6 Z1 l1
          refine ⟨Z', P', ?_, z2, fun j q q1 q2 q3 q4 q5 q6 q7 => by rw [z3 j q q1 q2 q3 q4 q5 q6 q7, l2 j q q1 q2 q3 q4 q5 q6 q7]⟩
          rw [l4, B_X12_lieTo_106, c2_ok (by omega) (by omega) (by decide) (by decide), if_neg (by omega), c2_ok (by omega) (by omega) (by decide) (by decide), if_neg gb, c1_okk (by omega) (by omega), c1_okk (by omega) (by omega), d2_ok (by omega) (by omega) (by omega) (by omega), if_pos gs, z1]
        · obtain ⟨be, ve, Y, y1, y2, y3, y4, y5, y6⟩ := take
          refine ⟨be, ve, Y, by rw [if_neg gs, y1], y2, y3, y4, y5, fun Z hZ => ?_⟩
          obtain ⟨a', Z1, l1, l2, l3, l4⟩ := fin Z hZ
          obtain ⟨Z', P', z1, z2, z3⟩ := y6 Z1 l1
          refine ⟨Z', P', ?_, z2, fun j q q1 q2 q3 q4 q5 q6 q7 => by rw [z3 j q q1 q2 q3 q4 q5 q6 q7, l2 j q q1 q2 q3 q4 q5 q6 q7]⟩
          rw [l4, B_X12_lieTo_106, c2_ok (by omega) (by omega) (by decide) (by decide), if_neg (by omega), c2_ok (by omega) (by omega) (by decide) (by decide), if_neg gb, c1_okk (by omega) (by omega), c1_okk (by omega) (by omega), d2_ok (by omega) (by omega) (by omega) (by omega), if_neg gs, z1]
theorem q_lieTo : pair_35 REL := by
  intro f to n p hf ht hn hp cn X hcn h
  obtain ⟨n1, n2, n3, n4, n5, n6⟩ := h.now
  have hN := NS_r n3.2.1
  have hA3 := n3.2.2.1
  have hA4 := n3.2.2.2.1
  have h99 : X 121 3 ≤ 99 := h.2.2.2.1
  have hRW := h.rw
  have hnJ : inJ n := ⟨by have := hn.1; omega, by have := hn.2; omega⟩
  have hpJ : inJ p := ⟨by have := hp.1; omega, by have := hp.2; omega⟩
  have eM : ∀ v : Int, ms X 0 16 v 121 = X 121 := fun v => s16 (by decide)
  show OUT cn (f_X11_lieTo f to n p) (f_X12_lieTo f to n p) X
  by_cases gc : ((0 ≤ f ∧ f < X 121 0 * X 121 1) ∧ (0 ≤ to ∧ to < X 121 0 * X 121 1)) ∧ (0 ≤ n ∧ n ≤ 9) ∧ (0 ≤ p ∧ p ≤ 999999)
  · obtain ⟨⟨g1, g2⟩, g4, g5⟩ := gc
    have eC : ∀ o, f_X11_lieTo f to n p X = o → _ := fun o ho => by
      unfold f_X11_lieTo at ho
      rw [isCell_eq n1 n2 n3 hf, if_pos g1, cl_some, c1_okk (by decide) (by decide), if_neg (by decide), isCell_eq n1 n2 n3 ht, if_pos g2, cl_some, c1_okk (by decide) (by decide), if_neg (by decide), c1_okk hn.1 hn.2, if_neg (by omega), c2_ok hn.1 hn.2 (by decide) (by decide), if_neg (by omega), c1_okk hp.1 hp.2, if_neg (by omega), c2_ok hp.1 hp.2 (by decide) (by decide), if_pos g5.2, n4, c2_ok (by omega) (by omega) (by decide) (by decide)] at ho
      exact ho
    have eR : ∀ Z : Mem, Z 121 = X 121 → ∀ o, f_X12_lieTo f to n p Z = o → _ := fun Z z1 o ho => by
      unfold f_X12_lieTo at ho
      rw [areCells_eq (by rw [z1]; exact n3) hf ht, z1, if_pos ⟨g1, g2⟩, cl_some, c1_okk (by decide) (by decide), if_neg (by decide), c1_okk hn.1 hn.2, isFrom_eq hnJ (by constructor <;> decide) (by constructor <;> decide), if_pos g4, cl_some, c1_okk (by decide) (by decide), if_neg (by decide), c1_okk hp.1 hp.2, isFrom_eq hpJ (by constructor <;> decide) (by constructor <;> decide), if_pos g5, cl_some, c1_okk (by decide) (by decide), if_pos (by decide), ax_ok (n := 2200) (by decide) (by decide), z1, c2_ok (by omega) (by omega) (by decide) (by decide)] at ho
      exact ho
    by_cases g6 : X 121 3 + n ≤ 99
    · have e59 : ∀ q : Int, 0 ≤ q → q < 32 → (if 0 ≤ q ∧ q < 0 + 32 then X 18 (0 + (q - 0)) else X 59 q) = X 18 q := fun q q0 q1 => by
        rw [if_pos ⟨q0, by omega⟩]
        congr 1
        omega
      obtain ⟨j, hj⟩ : ∃ j : Nat, KF = j + 1 := ⟨4611686018427387903, by rw [KF_eq]⟩
      have hj' : 10 < j := by rw [KF_eq] at hj; omega
      obtain ⟨be, ve, Y, y1, y2, y3, y4, y5, y6⟩ := lie_lk (cn := cn) (X0 := X) (f := f) (to := to) (n := n) (p := p) h hcn.2 g1.1 g1.2 g2.1 g2.2 g4 g5 g6 j 0 (-1) 0 0 (ma X 59 (fun q => if 0 ≤ q ∧ q < 0 + 32 then X 18 (0 + (q - 0)) else X 59 q)) (fun q => if 0 ≤ q ∧ q < 0 + 32 then X 18 (0 + (q - 0)) else X 59 q) (by decide) g4.1 (by omega) (fun i q s1 s2 => by rw [ma_ne (by unfold SCR at s1; omega)]) ma_same (n6.r.row (by omega) e59) (fun q hq => by rw [ma_ne (by decide)]; exact hRW.1 q hq) ⟨by decide, by decide⟩ ⟨by decide, by decide⟩ ⟨by decide, by decide⟩
      have hrunC : ∀ o, f_X11_lieTo f to n p X = o → B_X11_lieTo_222 be ve Y = o := fun o ho => by
        rw [← eC _ rfl, if_pos g6, cp_59, cl_some, hj, L_X11_lieTo_91, c2_ok (by decide) (by decide) (by omega) (by omega), if_neg (by omega), c1_okk (by decide) (by decide), if_pos (by decide), y1] at ho
        exact ho
      have hback : ∀ Z : Mem, Z 121 = X 121 → Z 130 = X 130 → CK cn Z → ∃ Z3 : Mem, f_X12_lieTo f to n p Z = (if be = -1 then some (-1, ms Z3 120 2 6) else cl (f_X12_tellsBy ve 1000000 Z3) fun _ X => some (be, ms X 120 2 0)) ∧ (∀ i k : Int, ¬ SCR i k → ¬ CKC i k → i ≠ 130 → Z3 i k = Z i k) ∧ CK cn Z3 ∧ ∀ q : Int, 0 ≤ q → q < 32 → 0 ≤ Z3 130 q ∧ Z3 130 q ≤ 2000000000000 := fun Z z1 z3 hC => by
        obtain ⟨K, k0, k1, k2, k3, k4⟩ := keeps_eq (Z := Z)
        have k121 : K 121 = X 121 := by
          rw [← z1]
          exact funext fun k => k1 121 k (by decide) (by omega)
        have hCK : CK cn K := CK.fr (by rw [z1]; exact n3) hC (k1 120 _ (by decide) (by omega)) (k1 120 _ (by decide) (by omega)) (k1 120 _ (by decide) (by omega)) (k1 120 _ (by decide) (by omega)) (k1 120 _ (by decide) (by omega)) (funext fun k => k1 134 k (by decide) (by omega)) (by rw [z1, k121]; exact fun _ _ => rfl)
        obtain ⟨Z', P', w1, w2, w3⟩ := y6 K ⟨fun k _ _ => by rw [k121], by rw [k121]; omega, by rw [k121]; exact n6.row e59 hN, by rw [k121]; exact n3, hCK, fun q q0 q1 => by rw [k1 130 q (by decide) (by omega), z3]; exact hRW.2 q q0 q1⟩
        obtain ⟨a1, a2, a3, a4, a5, a6⟩ := w2
        obtain ⟨t1, t2, t3⟩ := kept_bk2 (A := X 121) z1 k1 k2 k3 k4 w3 a1 a4 a5
        refine ⟨ma Z' 121 (X 121), ?_, t2, t3, fun q q0 q1 => by rw [ma_ne (by decide)]; exact a6 q q0 q1⟩
        rw [← eR Z z1 _ rfl, if_pos g6, k0, cl_some, hj, w1, B_X12_lieTo_174, t1, cl_some, c2_ok (by omega) (by omega) (by decide) (by decide)]
        by_cases gb : be = -1
        · rw [if_neg (by simpa using gb), if_pos gb, refusem_eq, cl_some]
        · rw [if_pos gb, if_neg gb]
          rfl
      by_cases gb : be = -1
      · refine out_sd h (Y := Y) y2 y3 (r := -1) (v := 6) (by decide) (by decide) inI_m1 ?_ fun x121 hck => ?_
        · rw [← hrunC _ rfl, B_X11_lieTo_222, c2_ok (by omega) (by omega) (by decide) (by decide), if_neg (by simpa using gb), fail_eq, cl_some]
        · obtain ⟨Z3, i1, i2, i3, i4⟩ := hback (ms Y 0 16 6) x121 (by rw [ms_ne (by decide)]; exact funext fun k => y2 130 k (by unfold SCR; omega) (by decide)) hck
          exact ⟨Z3, by rw [i1, if_pos gb], i2, i3, i4⟩
      · have hJ := frac_J (a := ve) (b := 1000000) y5.1 (by omega) (by decide) (by decide)
        refine out_fd h (Y := Y) y2 y3 hJ.1 hJ.2 (r := be) (inI_s (by omega) (by omega)) ?_ fun x121 hck => ?_
        · rw [← hrunC _ rfl, B_X11_lieTo_222, c2_ok (by omega) (by omega) (by decide) (by decide), if_pos gb, tellF_s y5.1 (by omega) (by decide) (by decide), cl_some, answer_eq, cl_some, fC_16]
        · obtain ⟨Z3, i1, i2, i3, i4⟩ := hback _ x121 (funext fun k => by rw [fC_o (by omega)]; exact y2 130 k (by unfold SCR; omega) (by decide)) hck
          refine ⟨Z3, ?_, i2, i3, i4⟩
          rw [i1, if_neg gb, tellsBy_s y5.1 (by omega) (by decide) (by decide), cl_some, fM_2]
    · refine out_st h (r := -1) (v := 4) (by decide) (by decide) inI_m1 ?_ ?_
      · rw [← eC _ rfl, if_neg g6, fail_eq, cl_some]
      · rw [← eR _ (eM 4) _ rfl, if_neg g6, refusem_eq, cl_some]
  · refine out_st h (r := -1) (v := 1) (by decide) (by decide) inI_m1 ?_ ?_
    · unfold f_X11_lieTo
      rw [isCell_eq n1 n2 n3 hf, cl_some]
      by_cases g1 : 0 ≤ f ∧ f < X 121 0 * X 121 1
      · rw [if_pos g1, c1_okk (by decide) (by decide), if_neg (by decide), isCell_eq n1 n2 n3 ht, cl_some]
        by_cases g2 : 0 ≤ to ∧ to < X 121 0 * X 121 1
        · rw [if_pos g2, c1_okk (by decide) (by decide), if_neg (by decide), c1_okk hn.1 hn.2]
          by_cases g3 : n < 0
          · rw [if_pos g3, B_X11_lieTo_39, fail_eq, cl_some]
          · rw [if_neg g3, c2_ok hn.1 hn.2 (by decide) (by decide)]
            by_cases g4 : 9 < n
            · rw [if_pos g4, B_X11_lieTo_39, fail_eq, cl_some]
            · rw [if_neg g4, c1_okk hp.1 hp.2]
              by_cases g5 : p < 0
              · rw [if_pos g5, B_X11_lieTo_39, fail_eq, cl_some]
              · rw [if_neg g5, c2_ok hp.1 hp.2 (by decide) (by decide), if_neg (fun q => gc ⟨⟨g1, g2⟩, ⟨by omega, by omega⟩, by omega, q⟩), B_X11_lieTo_39, fail_eq, cl_some]
        · rw [if_neg g2, c1_okk (by decide) (by decide), if_pos rfl, B_X11_lieTo_39, fail_eq, cl_some]
      · rw [if_neg g1, c1_okk (by decide) (by decide), if_pos rfl, B_X11_lieTo_39, fail_eq, cl_some]
    · unfold f_X12_lieTo
      rw [areCells_eq (by rw [eM]; exact n3) hf ht, eM, cl_some]
      by_cases g12 : (0 ≤ f ∧ f < X 121 0 * X 121 1) ∧ (0 ≤ to ∧ to < X 121 0 * X 121 1)
      · rw [if_pos g12, c1_okk (by decide) (by decide), if_neg (by decide), c1_okk hn.1 hn.2, isFrom_eq hnJ (by constructor <;> decide) (by constructor <;> decide), cl_some]
        by_cases g4 : 0 ≤ n ∧ n ≤ 9
        · rw [if_pos g4, c1_okk (by decide) (by decide), if_neg (by decide), c1_okk hp.1 hp.2, isFrom_eq hpJ (by constructor <;> decide) (by constructor <;> decide), if_neg (fun q => gc ⟨g12, g4, q⟩), cl_some, c1_okk (by decide) (by decide), if_neg (by decide), B_X12_lieTo_34, refusem_eq, cl_some]
        · rw [if_neg g4, c1_okk (by decide) (by decide), if_pos rfl, B_X12_lieTo_34, refusem_eq, cl_some]
      · rw [if_neg g12, c1_okk (by decide) (by decide), if_pos rfl, B_X12_lieTo_34, refusem_eq, cl_some]
