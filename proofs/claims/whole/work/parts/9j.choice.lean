/-! surest, mean -/
theorem c1_okk {β : Type} {a : Int} {k : Option β} (h1 : -2147483648 ≤ a) (h2 : a ≤ 2147483647) : c1 a k = k := c1_ok h1 h2
theorem out_fw {cn : Int} {a b : Mem → Option (Int × Mem)} {X Y : Mem} (h : REL cn X) (hY : ∀ i k : Int, ¬ SCR i k → ¬ WAC i k → Y i k = X i k) {p q r : Int} (hp : inJ p) (hq : inJ q) (hr : inI r) (ea : a X = some (r, fC Y p q)) (eb : fC Y p q 121 = X 121 → CK cn (fC Y p q) → ∃ Z : Mem, b (fC Y p q) = some (r, fM Z p q) ∧ (∀ i k : Int, ¬ SCR i k → ¬ WAC i k → ¬ CKC i k → Z i k = fC Y p q i k) ∧ CK cn Z ∧ (RK X → RK (fM Z p q))) : OUT cn a b X := by
  have hXY : ∀ i k : Int, ¬ SCR i k → ¬ ANS i k → ¬ WAC i k → fC Y p q i k = X i k := fun i k s1 s2 s3 => by
    rw [fC_o (by unfold ANS at s2; omega)]
    exact hY i k s1 s3
  have x121 : fC Y p q 121 = X 121 := funext fun k => hXY 121 k (by unfold SCR; omega) (by unfold ANS; omega) (by unfold WAC; omega)
  have hckY : CK cn (fC Y p q) := by
    refine CK.fr h.now.2.2.1 h.2.2.2.2.2.2.2.2.2.2.2.2.2 ?_ ?_ ?_ ?_ ?_ ?_ ?_
    · exact hXY _ _ (by unfold SCR; omega) (by unfold ANS; omega) (by unfold WAC; omega)
    · exact hXY _ _ (by unfold SCR; omega) (by unfold ANS; omega) (by unfold WAC; omega)
    · exact hXY _ _ (by unfold SCR; omega) (by unfold ANS; omega) (by unfold WAC; omega)
    · exact hXY _ _ (by unfold SCR; omega) (by unfold ANS; omega) (by unfold WAC; omega)
    · exact hXY _ _ (by unfold SCR; omega) (by unfold ANS; omega) (by unfold WAC; omega)
    · exact funext fun k => hXY _ _ (by unfold SCR; omega) (by unfold ANS; omega) (by unfold WAC; omega)
    · rw [x121]
      exact fun _ _ => rfl
  obtain ⟨Z, eb, hZ, hck, hK⟩ := eb x121 hckY
  have hall : ∀ i k : Int, ¬ SCR i k → ¬ ANS i k → ¬ WAC i k → ¬ CKC i k → fM Z p q i k = X i k := fun i k s1 s2 s4 s3 => by
    rw [fM_o (by unfold ANS at s2; omega), hZ i k s1 s4 s3]
    exact hXY i k s1 s2 s4
  have hz121 : Z 121 = X 121 := funext fun k => by
    rw [hZ 121 k (by unfold SCR; omega) (by unfold WAC; omega) (by unfold CKC; omega)]
    exact hXY 121 k (by unfold SCR; omega) (by unfold ANS; omega) (by unfold WAC; omega)
  refine ⟨r, _, _, ea, eb, hr, RS_frac (Y := Y) hp hq (fun k => hZ 0 k (by unfold SCR; omega) (by unfold WAC; omega) (by unfold CKC; omega)), RZ.up (h.2.fr3 (fun i k s1 s2 s3 s4 => hall i k s1 s2 s3 s4) (hK h.2.2.2.2.2.2.2.2.2.1) ?_)⟩
  refine CK.fr (by rw [hz121]; exact h.now.2.2.1) hck ?_ ?_ ?_ ?_ ?_ ?_ ?_
  · exact fM_o (by omega)
  · exact fM_o (by omega)
  · exact fM_o (by omega)
  · exact fM_o (by omega)
  · exact fM_o (by omega)
  · exact funext fun k => fM_o (by omega)
  · exact fun k _ => fM_o (by omega)
/-- where the way kept stays -/
theorem out_fs {cn : Int} {a b : Mem → Option (Int × Mem)} {X Y : Mem} (h : REL cn X) (hY : ∀ i k : Int, ¬ SCR i k → Y i k = X i k) {p q r : Int} (hp : inJ p) (hq : inJ q) (hr : inI r) (ea : a X = some (r, fC Y p q)) (eb : fC Y p q 121 = X 121 → CK cn (fC Y p q) → ∃ Z : Mem, b (fC Y p q) = some (r, fM Z p q) ∧ (∀ i k : Int, ¬ SCR i k → ¬ CKC i k → Z i k = fC Y p q i k) ∧ CK cn Z) : OUT cn a b X := by
  refine out_fw h (fun i k s _ => hY i k s) hp hq hr ea fun h1 h2 => ?_
  obtain ⟨Z, e1, e2, e3⟩ := eb h1 h2
  refine ⟨Z, e1, fun i k s1 _ s3 => e2 i k s1 s3, e3, fun hK => ?_⟩
  have hall : ∀ i k : Int, ¬ SCR i k → ¬ ANS i k → ¬ CKC i k → fM Z p q i k = X i k := fun i k s1 s2 s3 => by
    rw [fM_o (by unfold ANS at s2; omega), e2 i k s1 s3, fC_o (by unfold ANS at s2; omega)]
    exact hY i k s1
  refine hK.fr ?_ ?_ ?_ ?_
  · exact hall _ _ (by unfold SCR; omega) (by unfold ANS; omega) (by unfold CKC; omega)
  · exact hall _ _ (by unfold SCR; omega) (by unfold ANS; omega) (by unfold CKC; omega)
  · exact funext fun k => hall _ _ (by unfold SCR; omega) (by unfold ANS; omega) (by unfold CKC; omega)
  · exact funext fun k => hall _ _ (by unfold SCR; omega) (by unfold ANS; omega) (by unfold CKC; omega)
theorem fC_16 {Y : Mem} {p q : Int} : ms (fC Y p q) 0 16 0 = fC Y p q := by
  unfold fC
  rw [ms_ms]
theorem fM_2 {Y : Mem} {p q : Int} : ms (fM Y p q) 120 2 0 = fM Y p q := by
  unfold fM
  rw [ms_ms]
theorem q_surest : pair_29 REL := by
  intro f to hf ht cn X hcn h
  obtain ⟨n1, n2, n3, n4, n5, n6⟩ := h.now
  have hN := NS_r n3.2.1
  have eM : ∀ v : Int, ms X 0 16 v 121 = X 121 := fun v => s16 (by decide)
  show OUT cn (f_X11_surest f to) (f_X12_surest f to) X
  by_cases gc : (0 ≤ f ∧ f < X 121 0 * X 121 1) ∧ (0 ≤ to ∧ to < X 121 0 * X 121 1)
  · obtain ⟨g1, g2⟩ := gc
    obtain ⟨Y1, y0, yG, y14, y15, yS, yc⟩ := choice_yes h hf ht g1 g2
    have y18 : Y1 18 = X 18 := funext fun k => y0 18 k (by unfold SCR; omega)
    rcases yc with ⟨hex, ec⟩ | ⟨hno, ec⟩
    · obtain ⟨Y2, a, v, mi, c1, c2, c3, c4, c5, c6, c7, c8⟩ := choose_eq (p := 18) (w := X 18) n3 g1.1 g1.2 g2.1 g2.2 yG yS (by rw [y18]; exact n6.wt) y18 y14 y15 hex
      obtain ⟨s1, ⟨V, v1, v2, v3⟩, s3, s4, -⟩ := id c7
      have hG2 : GL (X 121) (ND (X 121)) (X 2 0) Y2 := yG.fr (fun i x => c2 i (by omega) (by omega) (by omega)) (fun q x => c3 q (by omega) (by omega) (by omega)) (c2 46 (by decide) (by decide) (by decide))
      obtain ⟨Y3, m, hd, k1, k2, k3, k4, k5⟩ := keepWay_eq n3 hG2 v1 g1.1 g1.2 g2.1 g2.2 v2 v3 (by rw [c3 14 (by decide) (by decide) (by decide)]; exact y14) (by rw [c3 15 (by decide) (by decide) (by decide)]; exact y15)
      have hv1 : v ≤ 1000000 := by
        rw [s3]
        exact (TH_r n6).2
      have hJ := frac_J (a := v) (b := 1000000) c8.1 (by omega) (by decide) (by decide)
      have hY3 : ∀ i k : Int, ¬ SCR i k → ¬ WAC i k → Y3 i k = X i k := fun i k q1 q2 => by
        by_cases e : i = 42
        · subst e
          exact absurd (by unfold WAC SCR at *; omega) q1
        · rw [k2 i e (by unfold SCR at q1; omega) (by unfold WAC at q2; omega), c2 i e (by unfold SCR at q1; omega) (by unfold SCR at q1; omega)]
          exact y0 i k q1
      refine out_fw h hY3 hJ.1 hJ.2 (r := a) (inI_s (by omega) (by omega)) ?_ fun x121 hck => ?_
      · unfold f_X11_surest
        rw [ec, cl_some, c1_okk (by decide) (by decide), if_pos rfl, c1, cl_some, c4, k1, cl_some, k3 10 (by decide), c6, tellF_s c8.1 (by omega) (by decide) (by decide), cl_some, fC_o (by omega), k3 8 (by decide), c4, answer_eq, cl_some, fC_16]
      · obtain ⟨a', Z1, r1, r2, r3, r4, r5⟩ := surestOf_eq (P := X 18) (f := f) (to := to) (by rw [x121]; exact n3) hck (by omega) (by rw [x121]; exact n6) g1.1 (by rw [x121]; exact g1.2) g2.1 (by rw [x121]; exact g2.2)
        rw [x121] at r4 r5
        have ea : a' = a := by
          rcases r5 with ⟨-, r5⟩ | r5
          · exact absurd ⟨V, v1, v2, v3⟩ (r5 a s1.1 s1.2)
          · exact SUR_u r5 c7
        have z121 : Z1 121 = X 121 := by
          rw [← x121]
          exact funext fun k => r2 121 k (by omega) (by decide) (by decide) (by decide)
        obtain ⟨Z2, p1, p2, p3, p4, p5⟩ := walks_eq (X := Z1) (f := f) (a := a) (by rw [z121]; exact n3) (inI_s (by omega) (by omega)) g2.1 (by rw [z121]; exact g2.2) (by rw [z121]; exact v1) (by rw [z121]; exact k5)
        have z2121 : Z2 121 = X 121 := by rw [p2 121 (by decide) (by decide) (by decide) (by decide), z121]
        refine ⟨Z2, ?_, fun i k q1 q2 q3 => ?_, ?_, fun _ => ?_⟩
        · unfold f_X12_surest
          rw [areCells_eq (by rw [x121]; exact n3) hf ht, x121, if_pos ⟨g1, g2⟩, cl_some, c1_okk (by decide) (by decide), if_pos (by decide), r1, cl_some, ea, c2_ok (by omega) (by omega) (by decide) (by decide), if_pos (by omega), p1, cl_some, partsOf_eq (P := X 18) (by rw [z2121]; exact n6) (by rw [z2121]; exact n3.2.1) (inI_s (by decide) (by decide)), cl_some, ← s3, tellsBy_s c8.1 (by omega) (by decide) (by decide), cl_some, gives_eq, cl_some, fM_2]
        · rw [← r2 i k (by unfold CKC at q3; omega) (by unfold SCR at q1; omega) (by unfold SCR at q1; omega) (by unfold CKC at q3; omega)]
          by_cases e : i = 120
          · subst e
            exact p3 k (by unfold WAC at q2; omega)
          · rw [p2 i e (by unfold SCR at q1; omega) (by unfold SCR at q1; omega) (by unfold WAC at q2; omega)]
        · refine CK.fr (by rw [z121]; exact n3) r3 ?_ ?_ ?_ ?_ ?_ ?_ ?_
          · exact p3 _ (by decide)
          · exact p3 _ (by decide)
          · exact p3 _ (by decide)
          · exact p3 _ (by decide)
          · exact p3 _ (by decide)
          · exact p2 134 (by decide) (by decide) (by decide) (by decide)
          · rw [p2 121 (by decide) (by decide) (by decide) (by decide)]
            exact fun _ _ => rfl
        · refine RK.of n3 k5 ?_ ?_ (fun i i0 i1 => ?_) (fun i i0 i1 => ?_)
          · rw [fM_o (by omega), p2 42 (by decide) (by decide) (by decide) (by decide), r2 42 7 (by omega) (by decide) (by decide) (by decide), fC_o (by omega), k4]
          · rw [fM_o (by omega), p4]
          · rw [fM_o (by omega), p2 48 (by decide) (by decide) (by decide) (by decide), r2 48 i (by omega) (by decide) (by decide) (by decide), fC_o (by omega)]
          · rw [fM_o (by omega), p5 i i0 i1]
    · obtain ⟨b1, b2, b3⟩ := h.scr (Y := ms Y1 0 16 6) (fun i k q1 q2 => by rw [ms_at, if_neg (by unfold ANS at q2; omega)]; exact y0 i k q1)
      refine out_scr h y0 (r := -1) (v := 6) (by decide) (by decide) inI_m1 ?_ ?_
      · unfold f_X11_surest
        rw [ec, cl_some, c1_ok (by decide) (by decide), if_neg (by decide), fail_eq, cl_some]
      · obtain ⟨a', Z1, r1, r2, r3, r4, r5⟩ := surestOf_eq (P := X 18) (f := f) (to := to) b1 b3 (by omega) (by rw [b2]; exact n6) g1.1 (by rw [b2]; exact g1.2) g2.1 (by rw [b2]; exact g2.2)
        rw [b2] at r5
        have ea : a' = -1 := by
          rcases r5 with ⟨r5, -⟩ | r5
          · exact r5
          · exact absurd r5.2.1 (hno a' r5.1.1 r5.1.2)
        refine ⟨Z1, ?_, fun i k q1 q4 => r2 i k (by unfold CKC at q4; omega) (by unfold SCR at q1; omega) (by unfold SCR at q1; omega) (by unfold CKC at q4; omega), r3⟩
        unfold f_X12_surest
        rw [areCells_eq b1 hf ht, b2, if_pos ⟨g1, g2⟩, cl_some, c1_ok (by decide) (by decide), if_pos (by decide), r1, cl_some, ea, c2_ok (by decide) (by decide) (by decide) (by decide), if_neg (by decide), refusem_eq, cl_some]
  · refine out_st h (r := -1) (v := 1) (by decide) (by decide) inI_m1 ?_ ?_
    · unfold f_X11_surest
      rw [choice_no h hf ht gc, cl_some, c1_ok (by decide) (by decide), if_neg (by decide), fail_eq, cl_some]
    · unfold f_X12_surest
      rw [areCells_eq (by rw [eM]; exact n3) hf ht, eM, if_neg gc, cl_some, c1_ok (by decide) (by decide), if_neg (by decide), refusem_eq, cl_some]
/-! the mean -/
theorem sg_not {q q' : Int → Bool} {w : Int → Int} : ∀ n : Nat, (∀ s : Int, 0 ≤ s → s < n → q' s = !q s) → sg q w n + sg q' w n = sm w n
  | 0, _ => rfl
  | n + 1, h => by
    have h1 := sg_not (q := q) (q' := q') (w := w) n (fun s a b => h s a (by omega))
    have h2 := h n (by omega) (by omega)
    show sg q w n + (if q n = true then w n else 0) + (sg q' w n + if q' n = true then w n else 0) = sm w n + w n
    rw [h2]
    cases q n with
    | true =>
      rw [if_pos rfl, if_neg (by decide)]
      omega
    | false =>
      rw [if_neg (by decide), if_pos (by decide)]
      omega
theorem bit_not : ∀ (s : Fin 32) (b : Fin 5), pq 0 (ishl 1 (b.val : Int)) (s.val : Int) = !pq (ishl 1 (b.val : Int)) 0 (s.val : Int) := by decide +kernel
theorem pS_not {P A : Int → Int} (h : TH P A) {b : Int} (b0 : 0 ≤ b) (b1 : b < 5) : 1000000 - pS P 0 (ishl 1 b) = pS P (ishl 1 b) 0 := by
  obtain ⟨b, rfl⟩ := fin5 b0 b1
  have := sg_not (q := pq (ishl 1 (b.val : Int)) 0) (q' := pq 0 (ishl 1 (b.val : Int))) (w := P) 32 (fun s s0 s1 => by
    obtain ⟨s, rfl⟩ := fin32 s0 (show s < 32 by omega)
    exact bit_not s b)
  rw [h.2.1] at this
  unfold pS
  omega
/-- of each bar in a how likely it is there, together -/
def lt (P : Int → Int) (a : Int) : Nat → Int
  | 0 => 0
  | n + 1 => lt P a n + if ia (ishr a n) 1 = 1 then pS P (ishl 1 n) 0 else 0
theorem lt_r {P A : Int → Int} (h : TH P A) {a : Int} : ∀ n : Nat, 0 ≤ lt P a n ∧ lt P a n ≤ 1000000 * n
  | 0 => ⟨Int.le_refl _, Int.le_refl _⟩
  | n + 1 => by
    have h1 := lt_r h (a := a) n
    have h2 := TH_r h (a := ishl 1 n) (b := 0)
    show 0 ≤ lt P a n + (if ia (ishr a n) 1 = 1 then pS P (ishl 1 n) 0 else 0) ∧ lt P a n + (if ia (ishr a n) 1 = 1 then pS P (ishl 1 n) 0 else 0) ≤ _
    split <;> omega
theorem likely_5 {Y : Mem} {A P : Int → Int} {r a : Int} (hB : BD A) (hr : r ∈ RIV) (hR : RV Y r A) (h11 : Y 42 11 = r) (hS : SUM A P (Y 45)) (hT : TH P A) : ∀ (k c : Nat), (c : Int) ≤ A 2 → (A 2 - c).toNat < k → L_X1_likelyThere_5 k a (lt P a c) c Y = some (lt P a (A 2).toNat, Y) := by
  have h2 := hB.2.1
  obtain ⟨e1, e2, e3⟩ := NS_v h2
  have hN := NS_r h2
  intro k
  induction k with
  | zero => intro c _ h; omega
  | succ k ih =>
    intro c hc hk
    rw [L_X1_likelyThere_5, h11, cm_ok hr, hR.1.2.2.1, c2_ok (by omega) (by omega) (by omega) (by omega)]
    by_cases g : A 2 ≤ (c : Int)
    · rw [if_pos g, show (A 2).toNat = c by omega]
    · have hI := ia_I (ishr a (c : Int)) 1
      have e4 : (c : Int) + 1 = ((c + 1 : Nat) : Int) := rfl
      have e5 : lt P a (c + 1) = lt P a c + if ia (ishr a (c : Int)) 1 = 1 then pS P (ishl 1 (c : Int)) 0 else 0 := rfl
      rw [if_neg g, c2_ok hI.1 hI.2 (by decide) (by decide)]
      by_cases g1 : ia (ishr a (c : Int)) 1 = 1
      · have hsh := (by decide +kernel : ∀ (m : Fin 6) (b : Fin 5), b.val < m.val → 0 ≤ ishl 1 (b.val : Int) ∧ ishl 1 (b.val : Int) < ((2 ^ m.val : Nat) : Int)) ⟨(A 2).toNat, by omega⟩ ⟨c, by omega⟩ (by show c < (A 2).toNat; omega)
        have hsh' : 0 ≤ ishl 1 (c : Int) ∧ ishl 1 (c : Int) < NS A := by
          rw [e1]
          exact hsh
        rw [if_pos g1] at e5
        rw [if_neg (by simpa using g1), sumWithout_eq hB hr hR h11 hS hsh'.1 hsh'.2, cl_some, bd_eq, B_X1_likelyThere_42, pS_not hT (by omega) (by omega), ← e5, e4]
        exact ih (c + 1) (by omega) (by omega)
      · rw [if_neg g1, Int.add_zero] at e5
        rw [if_pos g1, B_X1_likelyThere_42, e4, ← e5]
        exact ih (c + 1) (by omega) (by omega)
/-- what the mean of a comes to -/
def MVR (A : Int → Int) (nd f to : Int) (P : Int → Int) (a v : Int) : Prop := ∃ m : Int, FEW A nd f to a m ∧ v = m * 1000000 + A 10 * lt P a (A 2).toNat
theorem MVR_u {A P : Int → Int} {nd f to a v v' : Int} (hB : BD A) (f0 : 0 ≤ f) (f1 : f < A 0 * A 1) (h : MVR A nd f to P a v) (h' : MVR A nd f to P a v') : v = v' := by
  obtain ⟨m, h1, h2⟩ := h
  obtain ⟨m', g1, g2⟩ := h'
  rw [h2, g2, few_u hB f0 f1 h1 g1]
theorem mv_r {A P : Int → Int} {a m : Int} (hB : BD A) (hT : TH P A) (m0 : 0 ≤ m) (m1 : m ≤ 29205) : 0 ≤ m * 1000000 + A 10 * lt P a (A 2).toNat ∧ m * 1000000 + A 10 * lt P a (A 2).toNat ≤ 50000000000 := by
  have h := lt_r hT (a := a) (A 2).toNat
  have h2 := hB.2.1
  have h10 := hB.2.2.2.2.2.2.2.2.2.1
  have h3 : lt P a (A 2).toNat ≤ 5000000 := by omega
  have h4 := Int.mul_le_mul h10.2 h3 h.1 (by omega : (0 : Int) ≤ 999)
  have h5 := Int.mul_nonneg h10.1 h.1
  omega
def MEA (A : Int → Int) (nd f to : Int) (P : Int → Int) (a v : Int) : Prop := (0 ≤ a ∧ a < NS A) ∧ WAYP A nd f to a ∧ MVR A nd f to P a v ∧ ∀ b : Int, 0 ≤ b → b < NS A → WAYP A nd f to b → ∀ u : Int, MVR A nd f to P b u → v < u ∨ (v = u ∧ a ≤ b)
theorem MEA_u {A P : Int → Int} {nd f to a v a' v' : Int} (h : MEA A nd f to P a v) (h' : MEA A nd f to P a' v') : a = a' := by
  obtain ⟨h1, h2, h3, h4⟩ := h
  obtain ⟨g1, g2, g3, g4⟩ := h'
  have := h4 a' g1.1 g1.2 g2 v' g3
  have := g4 a h1.1 h1.2 h2 v h3
  omega
theorem mean_15 {X : Mem} {A P S : Int → Int} {nd r f to : Int} (hB : BD A) (f0 : 0 ≤ f) (f1 : f < A 0 * A 1) (t0 : 0 ≤ to) (t1 : to < A 0 * A 1) (hG0 : GL A nd r X) (hS0 : SRC A nd f to (NS A) X) (hSum : SUM A P S) (hT : TH P A) (h14 : X 42 14 = f) (h15 : X 42 15 = to) : ∀ (k : Nat) (x c : Int) (Y : Mem), 0 ≤ c → c ≤ NS A → (NS A - c).toNat < k → (∀ i : Int, i ≠ 42 → i ≠ 47 → Y i = X i) → (∀ q : Int, q ≠ 8 → q ≠ 9 → Y 42 q = X 42 q) → Y 45 = S →
    ((Y 42 8 = -1 ∧ ∀ b : Int, 0 ≤ b → b < c → ¬ WAYP A nd f to b) ∨ ((0 ≤ Y 42 8 ∧ Y 42 8 < c) ∧ WAYP A nd f to (Y 42 8) ∧ MVR A nd f to P (Y 42 8) x ∧ (0 ≤ x ∧ x ≤ 50000000000) ∧ ∀ b : Int, 0 ≤ b → b < c → WAYP A nd f to b → ∀ u : Int, MVR A nd f to P b u → x < u ∨ (x = u ∧ Y 42 8 ≤ b))) →
    ∃ (Z : Mem) (v : Int), L_X1_chooseMean_15 k x c Y = some (v, Z) ∧ (∀ i : Int, i ≠ 42 → i ≠ 47 → Z i = X i) ∧ (∀ q : Int, q ≠ 8 → q ≠ 9 → Z 42 q = X 42 q) ∧ ((Z 42 8 = -1 ∧ ∀ b : Int, 0 ≤ b → b < NS A → ¬ WAYP A nd f to b) ∨ (MEA A nd f to P (Z 42 8) v ∧ (0 ≤ v ∧ v ≤ 50000000000))) := by
  have hN := NS_r hB.2.1
  have h10 := hB.2.2.2.2.2.2.2.2.2.1
  intro k
  induction k with
  | zero => intro x c Y _ _ hk; omega
  | succ k ih =>
    intro x c Y c0 c1 hk hy0 hy1 hy45 hI
    have hG : GL A nd r Y := hG0.fr (fun i h => hy0 i (by omega) (by omega)) (fun q h => hy1 q (by omega) (by omega)) (hy0 46 (by decide) (by decide))
    obtain ⟨q1, q2, q3, -⟩ := id hG
    have hrr := RIV_r q1
    rw [L_X1_chooseMean_15, q3, cm_ok q1, show f_X2_setCount r Y = some (ishl 1 (Y r 2), Y) from rfl, cl_some, q2.1.2.2.1, show ishl 1 (A 2) = NS A from rfl, c2_ok (by omega) (by omega) (by omega) (by omega)]
    by_cases g : NS A ≤ c
    · rw [if_pos g]
      have e : c = NS A := by omega
      rw [e] at hI
      refine ⟨Y, x, rfl, hy0, hy1, ?_⟩
      rcases hI with ⟨a1, a3⟩ | ⟨a1, a2, a3, a4, a5⟩
      · exact Or.inl ⟨a1, a3⟩
      · exact Or.inr ⟨⟨a1, a2, a3, a5⟩, a4⟩
    · obtain ⟨s1, -⟩ := hS0
      obtain ⟨w1, w2⟩ := s1 c c0 (by omega)
      rw [← hy0 43 (by decide) (by decide)] at w1 w2
      rw [if_neg g, ax_ok c0 (by omega)]
      by_cases hwc : WAYP A nd f to c
      · obtain ⟨V, v1, v2, v3⟩ := id hwc
        obtain ⟨R, e1, e2, -⟩ := soonestBy_eq hB hG v1 f0 f1 t0 t1 v2 v3 (by rw [hy1 14 (by decide) (by decide)]; exact h14) (by rw [hy1 15 (by decide) (by decide)]; exact h15)
        have hfc := few_of f0 f1 v1 v2 v3
        have hVb := V_b hB v1 f0 f1 (show (0 : Int) ≤ 8 by decide) (by decide) v2 v3
        have hV0 := (v1 f f0 f1 8 (by decide) (by decide)).1
        have hGs : GL A nd r (sk Y R) := hG.fr (fun i h => sk_o (by omega)) (fun q h => by rw [sk_o (by decide)]) (sk_o (by decide))
        obtain ⟨p1, p2, p3, -⟩ := id hGs
        have hlk := likely_5 (a := c) hB p1 p2 p3 (by rw [sk_o (by decide), hy45]; exact hSum) hT KF 0 (by have := hB.2.1; omega) (by rw [KF_eq]; have := hB.2.1; omega)
        have hlk' : f_X1_likelyThere c (sk Y R) = some (lt P c (A 2).toNat, sk Y R) := hlk
        have hmv := mv_r (a := c) hB hT hV0.1 hVb
        have hMc : MVR A nd f to P c (V f 8 * 1000000 + A 10 * lt P c (A 2).toNat) := ⟨V f 8, hfc, rfl⟩
        have y42 : ∀ q : Int, sk Y R 42 q = Y 42 q := fun q => by rw [sk_o (by decide)]
        have ysk : ∀ i : Int, i ≠ 42 → i ≠ 47 → sk Y R i = X i := fun i a b => by rw [sk_o b]; exact hy0 i a b
        have h8 : -1 ≤ Y 42 8 ∧ Y 42 8 < 32 := by
          rcases hI with ⟨a1, -⟩ | ⟨a1, -⟩ <;> omega
        rw [w1 hwc, c1_ok (by decide) (by decide), if_neg (by decide), e1, cl_some, c1_ok (by omega) (by omega), p3, cm_ok p1, p2.1.2.2.2.2.2.2.2.2.1, c1_ok (by omega) (by omega), hlk', cl_some, bd_eq, y42, c2_ok (by omega) (by omega) (by decide) (by decide)]
        have take : (∀ b : Int, 0 ≤ b → b < c → WAYP A nd f to b → ∀ u : Int, MVR A nd f to P b u → V f 8 * 1000000 + A 10 * lt P c (A 2).toNat < u ∨ (V f 8 * 1000000 + A 10 * lt P c (A 2).toNat = u ∧ c ≤ b)) → ∃ (Z : Mem) (v : Int), B_X1_chooseMean_81 (fun x2 x4 X => L_X1_chooseMean_15 k x2 x4 X) c (V f 8 * 1000000 + A 10 * lt P c (A 2).toNat) (sk Y R) = some (v, Z) ∧ (∀ i : Int, i ≠ 42 → i ≠ 47 → Z i = X i) ∧ (∀ q : Int, q ≠ 8 → q ≠ 9 → Z 42 q = X 42 q) ∧ ((Z 42 8 = -1 ∧ ∀ b : Int, 0 ≤ b → b < NS A → ¬ WAYP A nd f to b) ∨ (MEA A nd f to P (Z 42 8) v ∧ (0 ≤ v ∧ v ≤ 50000000000))) := by
          intro hall
          rw [B_X1_chooseMean_81, bd_eq, B_X1_chooseMean_90]
          obtain ⟨Z', hZ'⟩ : ∃ Z' : Mem, ms (sk Y R) 42 8 c = Z' := ⟨_, rfl⟩
          have z8 : Z' 42 8 = c := by rw [← hZ', ms_s]
          rw [hZ']
          refine ih _ (c + 1) Z' (by omega) (by omega) (by omega) (fun i a b => by rw [← hZ', ms_ne a]; exact ysk i a b) (fun q a b => by rw [← hZ', ms_k a, y42, hy1 q a b]) (by rw [← hZ', ms_ne (by decide), sk_o (by decide)]; exact hy45) ?_
          rw [z8]
          refine Or.inr ⟨⟨c0, by omega⟩, hwc, hMc, hmv, fun b b0 b1 hb u hu => ?_⟩
          by_cases e : b = c
          · rw [e] at hu ⊢
            exact Or.inr ⟨MVR_u hB f0 f1 hMc hu, Int.le_refl _⟩
          · exact hall b b0 (by omega) hb u hu
        by_cases g8 : Y 42 8 = -1
        · rw [if_pos g8]
          refine take fun b b0 b1 hb => ?_
          rcases hI with ⟨-, a2⟩ | ⟨a1, -⟩
          · exact absurd hb (a2 b b0 b1)
          · omega
        · obtain ⟨a1, a2, a3, a4, a5⟩ : (0 ≤ Y 42 8 ∧ Y 42 8 < c) ∧ WAYP A nd f to (Y 42 8) ∧ MVR A nd f to P (Y 42 8) x ∧ (0 ≤ x ∧ x ≤ 50000000000) ∧ ∀ b : Int, 0 ≤ b → b < c → WAYP A nd f to b → ∀ u : Int, MVR A nd f to P b u → x < u ∨ (x = u ∧ Y 42 8 ≤ b) := by
            rcases hI with ⟨a1, -⟩ | h
            · exact absurd a1 g8
            · exact h
          rw [if_neg g8, d2_ok (by omega) (by omega) (by omega) (by omega)]
          by_cases g9 : x ≤ V f 8 * 1000000 + A 10 * lt P c (A 2).toNat
          · rw [if_pos g9, B_X1_chooseMean_90]
            refine ih x (c + 1) (sk Y R) (by omega) (by omega) (by omega) ysk (fun q a b => by rw [y42, hy1 q a b]) (by rw [sk_o (by decide)]; exact hy45) ?_
            rw [y42]
            refine Or.inr ⟨⟨a1.1, by omega⟩, a2, a3, a4, fun b b0 b1 hb u hu => ?_⟩
            by_cases e : b = c
            · rw [e] at hu ⊢
              have := MVR_u hB f0 f1 hMc hu
              omega
            · exact a5 b b0 (by omega) hb u hu
          · rw [if_neg g9]
            refine take fun b b0 b1 hb u hu => ?_
            have := a5 b b0 b1 hb u hu
            omega
      · rw [w2 hwc, c1_ok (by decide) (by decide), if_pos rfl, B_X1_chooseMean_90]
        refine ih x (c + 1) Y (by omega) (by omega) (by omega) hy0 hy1 hy45 ?_
        rcases hI with ⟨a1, a2⟩ | ⟨a1, a2, a3, a4, a5⟩
        · refine Or.inl ⟨a1, fun b b0 b1 hb => ?_⟩
          by_cases e : b = c
          · rw [e] at hb
            exact hwc hb
          · exact a2 b b0 (by omega) hb
        · refine Or.inr ⟨⟨a1.1, by omega⟩, a2, a3, a4, fun b b0 b1 hb u hu => ?_⟩
          by_cases e : b = c
          · rw [e] at hb
            exact absurd hb hwc
          · exact a5 b b0 (by omega) hb u hu
theorem chooseMean_eq {X : Mem} {A P : Int → Int} {nd r f to p : Int} (hB : BD A) (f0 : 0 ≤ f) (f1 : f < A 0 * A 1) (t0 : 0 ≤ to) (t1 : to < A 0 * A 1) (hG : GL A nd r X) (hS : SRC A nd f to (NS A) X) (hT : TH P A) (hpw : X p = P) (h14 : X 42 14 = f) (h15 : X 42 15 = to) (hex : ∃ a : Int, (0 ≤ a ∧ a < NS A) ∧ WAYP A nd f to a) :
    ∃ (Y : Mem) (a v : Int), f_X1_chooseMean p X = some (v, Y) ∧ (∀ i : Int, i ≠ 42 → i ≠ 45 → i ≠ 47 → Y i = X i) ∧ (∀ q : Int, q ≠ 8 → q ≠ 9 → Y 42 q = X 42 q) ∧ Y 42 8 = a ∧ MEA A nd f to P a v ∧ (0 ≤ v ∧ v ≤ 50000000000) := by
  have hN := NS_r hB.2.1
  obtain ⟨q1, q2, q3, -⟩ := id hG
  obtain ⟨S, e1, e2⟩ := sumUp_eq (w := P) hB q1 q2 q3 (by rw [hpw]; exact hT.wt) hpw
  unfold f_X1_chooseMean
  rw [e1, cl_some, bd_eq]
  obtain ⟨Z, hZ⟩ : ∃ Z : Mem, ms (ma X 45 S) 42 8 (-1) = Z := ⟨_, rfl⟩
  have z0 : ∀ i : Int, i ≠ 42 → i ≠ 45 → Z i = X i := fun i a b => by rw [← hZ, ms_ne a, ma_ne b]
  have z45 : Z 45 = S := by rw [← hZ, ms_ne (by decide), ma_same]
  have z1 : ∀ q : Int, q ≠ 8 → Z 42 q = X 42 q := fun q a => by rw [← hZ, ms_k a, ma_ne (by decide)]
  have z8 : Z 42 8 = -1 := by rw [← hZ, ms_s]
  rw [hZ]
  have hGZ : GL A nd r Z := hG.fr (fun i h => z0 i (by omega) (by omega)) (fun q h => z1 q (by omega)) (z0 46 (by decide) (by decide))
  have hSZ : SRC A nd f to (NS A) Z := by
    unfold SRC at *
    rw [z0 43 (by decide) (by decide), z0 44 (by decide) (by decide), z1 2 (by decide)]
    exact hS
  obtain ⟨Y, v, i1, i2, i3, i4⟩ := mean_15 (X := Z) (r := r) hB f0 f1 t0 t1 hGZ hSZ e2 hT (by rw [z1 14 (by decide)]; exact h14) (by rw [z1 15 (by decide)]; exact h15) KF 0 0 Z (by decide) (by omega) (by rw [KF_eq]; omega) (fun _ _ _ => rfl) (fun _ _ _ => rfl) z45 (Or.inl ⟨z8, fun b x y => by omega⟩)
  rcases i4 with ⟨-, j2⟩ | ⟨j1, j2⟩
  · obtain ⟨a, a1, a2⟩ := hex
    exact absurd a2 (j2 a a1.1 a1.2)
  · exact ⟨Y, Y 42 8, v, i1, fun i a b c => by rw [i2 i a c, z0 i a b], fun q a b => by rw [i3 q a b, z1 q a], rfl, j1, j2⟩
theorem meanOf_15 {Y : Mem} {P : Int → Int} {a v0 : Int} (hB : BD (Y 121)) (hT : TH P (Y 121)) : ∀ (k c : Nat), (c : Int) ≤ Y 121 2 → (Y 121 2 - c).toNat < k → L_X12_meanOf_15 k a (v0 + Y 121 10 * lt P a c) c Y = some (v0 + Y 121 10 * lt P a (Y 121 2).toNat, Y) := by
  have h2 := hB.2.1
  have h10 := hB.2.2.2.2.2.2.2.2.2.1
  intro k
  induction k with
  | zero => intro c _ h; omega
  | succ k ih =>
    intro c hc hk
    rw [L_X12_meanOf_15, ax_ok (by decide) (by decide), c2_ok (by omega) (by omega) (by omega) (by omega)]
    by_cases g : Y 121 2 ≤ (c : Int)
    · rw [if_pos g, show (Y 121 2).toNat = c by omega]
    · have hI := ia_I (ishr a (c : Int)) 1
      have hI2 : inI (ishl 1 (c : Int)) := ⟨Int32.le_toInt _, Int32.toInt_le _⟩
      have e4 : (c : Int) + 1 = ((c + 1 : Nat) : Int) := rfl
      have e5 : lt P a (c + 1) = lt P a c + if ia (ishr a (c : Int)) 1 = 1 then pS P (ishl 1 (c : Int)) 0 else 0 := rfl
      rw [if_neg g, c2_ok hI.1 hI.2 (by decide) (by decide)]
      by_cases g1 : ia (ishr a (c : Int)) 1 = 1
      · rw [if_pos g1] at e5
        rw [if_neg (by simpa using g1), ax_ok (by decide) (by decide), c1_ok (by omega) (by omega), partsOf_eq hT h2 hI2, cl_some, B_X12_meanOf_59, bd_eq, Int.add_assoc, ← Int.mul_add, ← e5, e4]
        exact ih (c + 1) (by omega) (by omega)
      · rw [if_neg g1, Int.add_zero] at e5
        rw [if_pos g1, B_X12_meanOf_59, bd_eq, Int.add_zero, e4, ← e5]
        exact ih (c + 1) (by omega) (by omega)
theorem meanOf_eq {Y : Mem} {P : Int → Int} {nd f to a : Int} (hB : BD (Y 121)) (hT : TH P (Y 121)) (a0 : 0 ≤ a) (a1 : a < 32) (hm : -1 ≤ Y 134 a ∧ Y 134 a ≤ 29205) (hF : FEW (Y 121) nd f to a (Y 134 a)) : ∃ v : Int, f_X12_meanOf a Y = some (v, Y) ∧ MVR (Y 121) nd f to P a v := by
  refine ⟨Y 134 a * 1000000 + Y 121 10 * lt P a (Y 121 2).toNat, ?_, ⟨Y 134 a, hF, rfl⟩⟩
  unfold f_X12_meanOf
  rw [ax_ok a0 a1, c1_ok (by omega) (by omega), bd_eq]
  have h := meanOf_15 (a := a) (v0 := 1000000 * Y 134 a) hB hT KF 0 (by have := hB.2.1; omega) (by rw [KF_eq]; have := hB.2.1; omega)
  rw [show lt P a 0 = 0 from rfl, Int.mul_zero, Int.add_zero] at h
  rw [show L_X12_meanOf_15 KF a (1000000 * Y 134 a) 0 Y = _ from h, Int.mul_comm 1000000]
theorem meanm_26 {Y : Mem} {P : Int → Int} {nd f to : Int} (hB : BD (Y 121)) (f0 : 0 ≤ f) (f1 : f < Y 121 0 * Y 121 1) (hT : TH P (Y 121)) (hF : ∀ a : Int, 0 ≤ a → a < NS (Y 121) → FEW (Y 121) nd f to a (Y 134 a)) : ∀ (k : Nat) (best c : Int), 0 ≤ c → c ≤ NS (Y 121) → (NS (Y 121) - c).toNat < k → ((best = -1 ∧ ∀ b : Int, 0 ≤ b → b < c → ¬ WAYP (Y 121) nd f to b) ∨ ((0 ≤ best ∧ best < c) ∧ WAYP (Y 121) nd f to best ∧ ∀ x : Int, MVR (Y 121) nd f to P best x → ∀ b : Int, 0 ≤ b → b < c → WAYP (Y 121) nd f to b → ∀ u : Int, MVR (Y 121) nd f to P b u → x < u ∨ (x = u ∧ best ≤ b))) →
    ∃ a : Int, L_X12_mean_26 k f to best c Y = B_X12_mean_75 f to a Y ∧ ((a = -1 ∧ ∀ b : Int, 0 ≤ b → b < NS (Y 121) → ¬ WAYP (Y 121) nd f to b) ∨ ∃ v : Int, MEA (Y 121) nd f to P a v) := by
  have hN := NS_r hB.2.1
  have h134 : ∀ a : Int, 0 ≤ a → a < NS (Y 121) → -1 ≤ Y 134 a ∧ Y 134 a ≤ 29205 ∧ (WAYP (Y 121) nd f to a ↔ Y 134 a ≠ -1) := by
    intro a a0 a1
    obtain ⟨w1, w2⟩ := few_way hB f0 f1 (hF a a0 a1)
    by_cases hw : WAYP (Y 121) nd f to a
    · obtain ⟨V, hV, -⟩ := id hw
      have := w1 hw V hV
      exact ⟨by omega, by omega, fun _ => by omega, fun _ => hw⟩
    · have := w2 hw
      exact ⟨by omega, by omega, fun h => absurd h hw, fun h => absurd this h⟩
  intro k
  induction k with
  | zero => intro best c _ _ hk; omega
  | succ k ih =>
    intro best c c0 c1 hk hI
    rw [L_X12_mean_26, sets_eq, cl_some, show ishl 1 (Y 121 2) = NS (Y 121) from rfl, c2_ok (by omega) (by omega) (by omega) (by omega)]
    by_cases g : NS (Y 121) ≤ c
    · rw [if_pos g]
      have e : c = NS (Y 121) := by omega
      rw [e] at hI
      refine ⟨best, rfl, ?_⟩
      rcases hI with ⟨a1, a2⟩ | ⟨a1, a2, a3⟩
      · exact Or.inl ⟨a1, a2⟩
      · have hm : MVR (Y 121) nd f to P best (Y 134 best * 1000000 + Y 121 10 * lt P best (Y 121 2).toNat) := ⟨_, hF best a1.1 a1.2, rfl⟩
        exact Or.inr ⟨_, a1, a2, hm, a3 _ hm⟩
    · obtain ⟨r1, r2, r3⟩ := h134 c c0 (by omega)
      have hMc : MVR (Y 121) nd f to P c (Y 134 c * 1000000 + Y 121 10 * lt P c (Y 121 2).toNat) := ⟨_, hF c c0 (by omega), rfl⟩
      rw [if_neg g, ax_ok c0 (by omega), c2_ok (by omega) (by omega) (by decide) (by decide)]
      by_cases gw : Y 134 c = -1
      · have hnw : ¬ WAYP (Y 121) nd f to c := fun h => (r3.mp h) gw
        rw [if_pos gw, B_X12_mean_69]
        refine ih best (c + 1) (by omega) (by omega) (by omega) ?_
        rcases hI with ⟨a1, a2⟩ | ⟨a1, a2, a3⟩
        · refine Or.inl ⟨a1, fun b b0 b1 hb => ?_⟩
          by_cases e : b = c
          · rw [e] at hb
            exact hnw hb
          · exact a2 b b0 (by omega) hb
        · refine Or.inr ⟨⟨a1.1, by omega⟩, a2, fun x hx b b0 b1 hb => ?_⟩
          by_cases e : b = c
          · rw [e] at hb
            exact absurd hb hnw
          · exact a3 x hx b b0 (by omega) hb
      · have hwc := r3.mpr gw
        have hb1 : -1 ≤ best ∧ best < 32 := by
          rcases hI with ⟨a1, -⟩ | ⟨a1, -⟩ <;> omega
        have take : (∀ b : Int, 0 ≤ b → b < c → WAYP (Y 121) nd f to b → ∀ u : Int, MVR (Y 121) nd f to P b u → Y 134 c * 1000000 + Y 121 10 * lt P c (Y 121 2).toNat < u ∨ (Y 134 c * 1000000 + Y 121 10 * lt P c (Y 121 2).toNat = u ∧ c ≤ b)) → ∃ a : Int, B_X12_mean_66 (fun x1 x2 x3 x4 X => L_X12_mean_26 k x1 x2 x3 x4 X) f to c Y = B_X12_mean_75 f to a Y ∧ ((a = -1 ∧ ∀ b : Int, 0 ≤ b → b < NS (Y 121) → ¬ WAYP (Y 121) nd f to b) ∨ ∃ v : Int, MEA (Y 121) nd f to P a v) := by
          intro hall
          rw [B_X12_mean_66, B_X12_mean_69]
          refine ih c (c + 1) (by omega) (by omega) (by omega) (Or.inr ⟨⟨c0, by omega⟩, hwc, fun x hx b b0 b1 hb u hu => ?_⟩)
          have ex := MVR_u hB f0 f1 hx hMc
          by_cases e : b = c
          · rw [e] at hu ⊢
            exact Or.inr ⟨MVR_u hB f0 f1 hx hu, Int.le_refl _⟩
          · rw [ex]
            exact hall b b0 (by omega) hb u hu
        rw [if_neg gw, c2_ok (by omega) (by omega) (by decide) (by decide)]
        by_cases gb : best = -1
        · rw [if_pos gb]
          refine take fun b b0 b1 hb => ?_
          rcases hI with ⟨-, a2⟩ | ⟨a1, -⟩
          · exact absurd hb (a2 b b0 b1)
          · omega
        · obtain ⟨a1, a2, a3⟩ : (0 ≤ best ∧ best < c) ∧ WAYP (Y 121) nd f to best ∧ ∀ x : Int, MVR (Y 121) nd f to P best x → ∀ b : Int, 0 ≤ b → b < c → WAYP (Y 121) nd f to b → ∀ u : Int, MVR (Y 121) nd f to P b u → x < u ∨ (x = u ∧ best ≤ b) := by
            rcases hI with ⟨a1, -⟩ | h
            · exact absurd a1 gb
            · exact h
          obtain ⟨t1, t2, t3⟩ := h134 best a1.1 (by omega)
          obtain ⟨v1, e1, m1⟩ := meanOf_eq (P := P) hB hT c0 (by omega) ⟨r1, r2⟩ (hF c c0 (by omega))
          obtain ⟨v2, e2, m2⟩ := meanOf_eq (P := P) hB hT a1.1 (by omega) ⟨t1, t2⟩ (hF best a1.1 (by omega))
          have ev1 := MVR_u hB f0 f1 m1 hMc
          have hbm := t3.mp a2
          have k1 := mv_r (a := c) hB hT (m := Y 134 c) (by omega) r2
          have k2 := mv_r (a := best) hB hT (m := Y 134 best) (by omega) t2
          have ev2 := MVR_u hB f0 f1 m2 ⟨_, hF best a1.1 (by omega), rfl⟩
          rw [if_neg gb, e1, cl_some, e2, cl_some, d2_ok (by omega) (by omega) (by omega) (by omega)]
          by_cases g9 : v2 ≤ v1
          · rw [if_pos g9, B_X12_mean_69]
            refine ih best (c + 1) (by omega) (by omega) (by omega) (Or.inr ⟨⟨a1.1, by omega⟩, a2, fun x hx b b0 b1 hb u hu => ?_⟩)
            by_cases e : b = c
            · rw [e] at hu ⊢
              have := MVR_u hB f0 f1 hu m1
              have := MVR_u hB f0 f1 hx m2
              omega
            · exact a3 x hx b b0 (by omega) hb u hu
          · rw [if_neg g9]
            refine take fun b b0 b1 hb u hu => ?_
            have := a3 v2 m2 b b0 b1 hb u hu
            omega
theorem q_mean : pair_30 REL := by
  intro f to hf ht cn X hcn h
  obtain ⟨n1, n2, n3, n4, n5, n6⟩ := h.now
  have hN := NS_r n3.2.1
  have eM : ∀ v : Int, ms X 0 16 v 121 = X 121 := fun v => s16 (by decide)
  show OUT cn (f_X11_mean f to) (f_X12_mean f to) X
  by_cases gc : (0 ≤ f ∧ f < X 121 0 * X 121 1) ∧ (0 ≤ to ∧ to < X 121 0 * X 121 1)
  · obtain ⟨g1, g2⟩ := gc
    obtain ⟨Y1, y0, yG, y14, y15, yS, yc⟩ := choice_yes h hf ht g1 g2
    have y18 : Y1 18 = X 18 := funext fun k => y0 18 k (by unfold SCR; omega)
    rcases yc with ⟨hex, ec⟩ | ⟨hno, ec⟩
    · obtain ⟨Y2, a, v, c1, c2, c3, c4, c7, c8⟩ := chooseMean_eq (p := 18) (P := X 18) n3 g1.1 g1.2 g2.1 g2.2 yG yS n6 y18 y14 y15 hex
      obtain ⟨s1, ⟨V, v1, v2, v3⟩, s3, -⟩ := id c7
      have hG2 : GL (X 121) (ND (X 121)) (X 2 0) Y2 := yG.fr (fun i x => c2 i (by omega) (by omega) (by omega)) (fun q x => c3 q (by omega) (by omega)) (c2 46 (by decide) (by decide) (by decide))
      obtain ⟨Y3, m, hd, k1, k2, k3, k4, k5⟩ := keepWay_eq n3 hG2 v1 g1.1 g1.2 g2.1 g2.2 v2 v3 (by rw [c3 14 (by decide) (by decide)]; exact y14) (by rw [c3 15 (by decide) (by decide)]; exact y15)
      have hJ := frac_J (a := v) (b := 1000000) c8.1 (by omega) (by decide) (by decide)
      have hY3 : ∀ i k : Int, ¬ SCR i k → ¬ WAC i k → Y3 i k = X i k := fun i k q1 q2 => by
        by_cases e : i = 42
        · subst e
          exact absurd (by unfold WAC SCR at *; omega) q1
        · rw [k2 i e (by unfold SCR at q1; omega) (by unfold WAC at q2; omega), c2 i e (by unfold SCR at q1; omega) (by unfold SCR at q1; omega)]
          exact y0 i k q1
      refine out_fw h hY3 hJ.1 hJ.2 (r := a) (inI_s (by omega) (by omega)) ?_ fun x121 hck => ?_
      · unfold f_X11_mean
        rw [ec, cl_some, c1_okk (by decide) (by decide), if_pos rfl, c1, cl_some, c4, k1, cl_some, tellF_s c8.1 (by omega) (by decide) (by decide), cl_some, fC_o (by omega), k3 8 (by decide), c4, answer_eq, cl_some, fC_16]
      · obtain ⟨Z1, r1, r2, r4, r3⟩ := readies_eq (by rw [x121]; exact n3) hck (by omega) g1.1 (by rw [x121]; exact g1.2) g2.1 (by rw [x121]; exact g2.2)
        have z121 : Z1 121 = X 121 := by
          rw [← x121]
          exact funext fun k => r2 121 k (by omega) (by decide) (by decide) (by decide)
        rw [x121] at r4
        obtain ⟨a', i1, i2⟩ := meanm_26 (Y := Z1) (P := X 18) (nd := ND (X 121)) (f := f) (to := to) (by rw [z121]; exact n3) g1.1 (by rw [z121]; exact g1.2) (by rw [z121]; exact n6) (by rw [z121]; exact r4) KF (-1) 0 (by decide) (by rw [z121]; omega) (by rw [KF_eq, z121]; omega) (Or.inl ⟨rfl, fun b x y => by omega⟩)
        rw [z121] at i2
        have ea : a' = a := by
          rcases i2 with ⟨-, r5⟩ | ⟨v', r5⟩
          · exact absurd ⟨V, v1, v2, v3⟩ (r5 a s1.1 s1.2)
          · exact MEA_u r5 c7
        obtain ⟨Z2, p1, p2, p3, p4, p5⟩ := walks_eq (X := Z1) (f := f) (a := a) (by rw [z121]; exact n3) (inI_s (by omega) (by omega)) g2.1 (by rw [z121]; exact g2.2) (by rw [z121]; exact v1) (by rw [z121]; exact k5)
        have z2121 : Z2 121 = X 121 := by rw [p2 121 (by decide) (by decide) (by decide) (by decide), z121]
        have z2134 : Z2 134 = Z1 134 := p2 134 (by decide) (by decide) (by decide) (by decide)
        have hfa := r4 a s1.1 s1.2
        have hfw := (few_way n3 g1.1 g1.2 hfa).1 ⟨V, v1, v2, v3⟩ V v1
        obtain ⟨v', e1, e2⟩ := meanOf_eq (Y := Z2) (P := X 18) (nd := ND (X 121)) (f := f) (to := to) (by rw [z2121]; exact n3) (by rw [z2121]; exact n6) s1.1 (show a < 32 by omega) (by rw [z2134]; omega) (by rw [z2121, z2134]; exact hfa)
        rw [z2121] at e2
        have ev : v' = v := MVR_u n3 g1.1 g1.2 e2 s3
        refine ⟨Z2, ?_, fun i k q1 q2 q3 => ?_, ?_, fun _ => ?_⟩
        · unfold f_X12_mean
          rw [areCells_eq (by rw [x121]; exact n3) hf ht, x121, if_pos ⟨g1, g2⟩, cl_some, c1_okk (by decide) (by decide), if_pos (by decide), r1, cl_some, i1, ea, B_X12_mean_75, c2_ok (by omega) (by omega) (by decide) (by decide), if_pos (by omega), p1, cl_some, e1, cl_some, ev, tellsBy_s c8.1 (by omega) (by decide) (by decide), cl_some, gives_eq, cl_some, fM_2]
        · rw [← r2 i k (by unfold CKC at q3; omega) (by unfold SCR at q1; omega) (by unfold SCR at q1; omega) (by unfold CKC at q3; omega)]
          by_cases e : i = 120
          · subst e
            exact p3 k (by unfold WAC at q2; omega)
          · rw [p2 i e (by unfold SCR at q1; omega) (by unfold SCR at q1; omega) (by unfold WAC at q2; omega)]
        · refine CK.fr (by rw [z121]; exact n3) r3 ?_ ?_ ?_ ?_ ?_ ?_ ?_
          · exact p3 _ (by decide)
          · exact p3 _ (by decide)
          · exact p3 _ (by decide)
          · exact p3 _ (by decide)
          · exact p3 _ (by decide)
          · exact z2134
          · rw [p2 121 (by decide) (by decide) (by decide) (by decide)]
            exact fun _ _ => rfl
        · refine RK.of n3 k5 ?_ ?_ (fun i i0 i1 => ?_) (fun i i0 i1 => ?_)
          · rw [fM_o (by omega), p2 42 (by decide) (by decide) (by decide) (by decide), r2 42 7 (by omega) (by decide) (by decide) (by decide), fC_o (by omega), k4]
          · rw [fM_o (by omega), p4]
          · rw [fM_o (by omega), p2 48 (by decide) (by decide) (by decide) (by decide), r2 48 i (by omega) (by decide) (by decide) (by decide), fC_o (by omega)]
          · rw [fM_o (by omega), p5 i i0 i1]
    · obtain ⟨b1, b2, b3⟩ := h.scr (Y := ms Y1 0 16 6) (fun i k q1 q2 => by rw [ms_at, if_neg (by unfold ANS at q2; omega)]; exact y0 i k q1)
      refine out_scr h y0 (r := -1) (v := 6) (by decide) (by decide) inI_m1 ?_ ?_
      · unfold f_X11_mean
        rw [ec, cl_some, c1_ok (by decide) (by decide), if_neg (by decide), fail_eq, cl_some]
      · obtain ⟨Z1, r1, r2, r4, r3⟩ := readies_eq b1 b3 (by omega) g1.1 (by rw [b2]; exact g1.2) g2.1 (by rw [b2]; exact g2.2)
        have z121 : Z1 121 = X 121 := by
          rw [← b2]
          exact funext fun k => r2 121 k (by omega) (by decide) (by decide) (by decide)
        rw [b2] at r4
        obtain ⟨a', i1, i2⟩ := meanm_26 (Y := Z1) (P := X 18) (nd := ND (X 121)) (f := f) (to := to) (by rw [z121]; exact n3) g1.1 (by rw [z121]; exact g1.2) (by rw [z121]; exact n6) (by rw [z121]; exact r4) KF (-1) 0 (by decide) (by rw [z121]; omega) (by rw [KF_eq, z121]; omega) (Or.inl ⟨rfl, fun b x y => by omega⟩)
        rw [z121] at i2
        have ea : a' = -1 := by
          rcases i2 with ⟨r5, -⟩ | ⟨v', r5⟩
          · exact r5
          · exact absurd r5.2.1 (hno a' r5.1.1 r5.1.2)
        refine ⟨Z1, ?_, fun i k q1 q4 => r2 i k (by unfold CKC at q4; omega) (by unfold SCR at q1; omega) (by unfold SCR at q1; omega) (by unfold CKC at q4; omega), r3⟩
        unfold f_X12_mean
        rw [areCells_eq b1 hf ht, b2, if_pos ⟨g1, g2⟩, cl_some, c1_ok (by decide) (by decide), if_pos (by decide), r1, cl_some, i1, ea, B_X12_mean_75, c2_ok (by decide) (by decide) (by decide) (by decide), if_neg (by decide), refusem_eq, cl_some]
  · refine out_st h (r := -1) (v := 1) (by decide) (by decide) inI_m1 ?_ ?_
    · unfold f_X11_mean
      rw [choice_no h hf ht gc, cl_some, c1_ok (by decide) (by decide), if_neg (by decide), fail_eq, cl_some]
    · unfold f_X12_mean
      rw [areCells_eq (by rw [eM]; exact n3) hf ht, eM, if_neg gc, cl_some, c1_ok (by decide) (by decide), if_neg (by decide), refusem_eq, cl_some]
