/-! brush: days ahead, then back -/
theorem RZ.all {cn : Int} {X Z : Mem} (h : RZ cn X) (e : ∀ i k : Int, ¬ SCR i k → ¬ ANS i k → ¬ CKC i k → i ≠ 41 → i ≠ 130 → Z i k = X i k) (hW : RW Z) (hC : CK cn Z) : RZ cn Z := by
  obtain ⟨-, ⟨s1, s2, s3, s4, s5, s6, s7⟩, k3, -, -, -, -, -, kK, -⟩ := id h
  have w0 : ∀ i k : Int, ¬ (i = 120) → ¬ (i = 134) → (fun i k => if (i = 120 ∧ 31 ≤ k ∧ k ≤ 34) ∨ i = 134 then X i k else Z i k : Mem) i k = Z i k := fun i k a b => if_neg (by omega)
  have e121 : ∀ k : Int, Z 121 k = X 121 k := fun k => e 121 k (by unfold SCR; omega) (by unfold ANS; omega) (by unfold CKC; omega) (by decide) (by decide)
  have e2 : ∀ k : Int, Z 2 k = X 2 k := fun k => e 2 k (by unfold SCR; omega) (by unfold ANS; omega) (by unfold CKC; omega) (by decide) (by decide)
  have e18 : ∀ k : Int, Z 18 k = X 18 k := fun k => e 18 k (by unfold SCR; omega) (by unfold ANS; omega) (by unfold CKC; omega) (by decide) (by decide)
  have hB4 := s6.2.2.2.1
  have hB3 := s6.2.2.1
  have hw : RZ cn (fun i k => if (i = 120 ∧ 31 ≤ k ∧ k ≤ 34) ∨ i = 134 then X i k else Z i k) := by
    refine RZ.th h (fun i k q1 q2 q3 => ?_) ?_ ?_ ?_ ?_ ?_ ?_
    · show (if (i = 120 ∧ 31 ≤ k ∧ k ≤ 34) ∨ i = 134 then X i k else Z i k) = X i k
      by_cases c : (i = 120 ∧ 31 ≤ k ∧ k ≤ 34) ∨ i = 134
      · rw [if_pos c]
      · rw [if_neg c]
        exact e i k q1 q2 (by unfold CKC; omega) (by unfold TCH at q3; omega) (by unfold TCH at q3; omega)
    · show 0 ≤ Z 121 3 ∧ Z 121 3 ≤ 99
      rw [e121]
      exact ⟨hB3.1, k3⟩
    · show 0 ≤ Z 121 4 ∧ Z 121 4 ≤ X 121 6
      rw [e121]
      exact hB4
    · show Z 2 3 = Z 121 3
      rw [e2, e121]
      exact s1
    · show Z 2 4 = Z 121 4
      rw [e2, e121]
      exact s2
    · show TH (fun k => Z 18 k) (fun k => Z 121 k)
      rw [show (fun k => Z 18 k) = X 18 from funext e18, show (fun k => Z 121 k) = X 121 from funext e121]
      exact s5
    · exact hW.fr rfl rfl
  refine hw.fr3 (fun i k q1 q2 q3 q4 => ?_) ?_ hC
  · exact (if_neg (by unfold CKC at q4; omega)).symm
  · exact kK.fr (e 42 7 (by unfold SCR; omega) (by unfold ANS; omega) (by unfold CKC; omega) (by decide) (by decide)) (e 120 36 (by unfold SCR; omega) (by unfold ANS; omega) (by unfold CKC; omega) (by decide) (by decide)) (funext fun k => e 48 k (by unfold SCR; omega) (by unfold ANS; omega) (by unfold CKC; omega) (by decide) (by decide)) (funext fun k => e 135 k (by unfold SCR; omega) (by unfold ANS; omega) (by unfold CKC; omega) (by decide) (by decide))
theorem keeps_2 {Z : Mem} {A : Int → Int} (hZ : Z 121 = A) : ∀ (k : Nat) (q : Int) (G : Int → Int), 0 ≤ q → q ≤ 32 → (32 - q).toNat < k → (∀ s : Int, 0 ≤ s → s < q → G s = A (168 + s)) → ∃ G' : Int → Int, L_X12_keeps_2 k q (ma Z 137 G) = B_X12_keeps_30 (ma Z 137 G') ∧ ∀ s : Int, 0 ≤ s → s < 32 → G' s = A (168 + s) := by
  intro k
  induction k with
  | zero => intro q G _ _ h; omega
  | succ k ih =>
    intro q G q0 q1 hk hG
    rw [L_X12_keeps_2, c2_ok (by omega) (by omega) (by decide) (by decide)]
    by_cases g : 32 ≤ q
    · rw [if_pos g]
      exact ⟨G, rfl, fun s s0 s1 => hG s s0 (by omega)⟩
    · rw [if_neg g, ax_ok (by omega) (by omega), ax_ok (by omega) (by omega), bd_eq, ms_row, ma_ne (by decide), hZ]
      refine ih (q + 1) _ (by omega) (by omega) (by omega) (fun s s0 s1 => ?_)
      rw [up_at]
      by_cases e : s = q
      · rw [if_pos e, e]
      · rw [if_neg e]
        exact hG s s0 (by omega)
theorem keeps_eq {Z : Mem} : ∃ Y : Mem, f_X12_keeps Z = some (0, Y) ∧ (∀ i k : Int, i ≠ 137 → ¬ (i = 120 ∧ (k = 39 ∨ k = 40)) → Y i k = Z i k) ∧ (∀ s : Int, 0 ≤ s → s < 32 → Y 137 s = Z 121 (168 + s)) ∧ Y 120 39 = Z 121 3 ∧ Y 120 40 = Z 121 4 := by
  obtain ⟨G, g1, g2⟩ := keeps_2 (Z := Z) rfl KF 0 (Z 137) (by decide) (by decide) (by rw [KF_eq]; omega) (fun s _ _ => by omega)
  rw [ma_self] at g1
  refine ⟨ms (ms (ma Z 137 G) 120 39 (Z 121 3)) 120 40 (Z 121 4), ?_, fun i k i1 i2 => ?_, fun s s0 s1 => ?_, ?_, ?_⟩
  · unfold f_X12_keeps
    rw [g1, B_X12_keeps_30, ax_ok (by decide) (by decide), bd_eq, ax_ok (by decide) (by decide), bd_eq, ma_ne (by decide), ms_ne (by decide), ma_ne (by decide)]
  · rw [ms_at, if_neg (by omega), ms_at, if_neg (by omega), ma_ne i1]
  · rw [ms_ne (by decide), ms_ne (by decide), ma_same, g2 s s0 s1]
  · rw [ms_at, if_neg (by decide), ms_at, if_pos ⟨rfl, rfl⟩]
  · rw [ms_at, if_pos ⟨rfl, rfl⟩]
theorem brings_2 {Z : Mem} {K : Int → Int} (hZ : Z 137 = K) : ∀ (k : Nat) (q : Int) (G : Int → Int), 0 ≤ q → q ≤ 32 → (32 - q).toNat < k → (∀ s : Int, 0 ≤ s → s < q → G (168 + s) = K s) → ∃ G' : Int → Int, L_X12_brings_2 k q (ma Z 121 G) = B_X12_brings_30 (ma Z 121 G') ∧ (∀ s : Int, 0 ≤ s → s < 32 → G' (168 + s) = K s) ∧ ∀ s : Int, s < 168 ∨ 200 ≤ s → G' s = G s := by
  intro k
  induction k with
  | zero => intro q G _ _ h; omega
  | succ k ih =>
    intro q G q0 q1 hk hG
    rw [L_X12_brings_2, c2_ok (by omega) (by omega) (by decide) (by decide)]
    by_cases g : 32 ≤ q
    · rw [if_pos g]
      exact ⟨G, rfl, fun s s0 s1 => hG s s0 (by omega), fun s _ => rfl⟩
    · rw [if_neg g, ax_ok (by omega) (by omega), ax_ok (by omega) (by omega), bd_eq, ms_row, ma_ne (by decide), hZ]
      obtain ⟨G', i1, i2, i3⟩ := ih (q + 1) (up G (168 + q) (K q)) (by omega) (by omega) (by omega) (fun s s0 s1 => by
        rw [up_at]
        by_cases e : s = q
        · rw [if_pos (by omega), e]
        · rw [if_neg (by omega)]
          exact hG s s0 (by omega))
      exact ⟨G', i1, i2, fun s hs => by rw [i3 s hs, up_ne (by omega)]⟩
theorem brings_eq {Z : Mem} {A : Int → Int} (h1 : ∀ s : Int, 0 ≤ s → s < 32 → Z 137 s = A (168 + s)) (h3 : Z 120 39 = A 3) (h4 : Z 120 40 = A 4) (ho : ∀ k : Int, k ≠ 3 → k ≠ 4 → k < 168 ∨ 200 ≤ k → Z 121 k = A k) : f_X12_brings Z = some (0, ma Z 121 A) := by
  obtain ⟨G, g1, g2, g3⟩ := brings_2 (Z := Z) rfl KF 0 (Z 121) (by decide) (by decide) (by rw [KF_eq]; omega) (fun s _ _ => by omega)
  rw [ma_self] at g1
  unfold f_X12_brings
  rw [g1, B_X12_brings_30, ax_ok (by decide) (by decide), bd_eq, ax_ok (by decide) (by decide), bd_eq, ma_ne (by decide), ms_ne (by decide), ma_ne (by decide), h3, h4, ms_row, ms_row]
  congr 2
  refine congrArg (ma Z 121) (funext fun k => ?_)
  rw [up_at, up_at]
  by_cases a : k = 4
  · rw [if_pos a, a]
  · rw [if_neg a]
    by_cases b : k = 3
    · rw [if_pos b, b]
    · rw [if_neg b]
      by_cases c : 168 ≤ k ∧ k < 200
      · have := g2 (k - 168) (by omega) (by omega)
        rw [show 168 + (k - 168) = k by omega] at this
        rw [this, h1 _ (by omega) (by omega), show 168 + (k - 168) = k by omega]
      · rw [g3 k (by omega), ho k b a (by omega)]
theorem brush_lk {X0 : Mem} {A : Int → Int} {e m n : Int} (hB : BD A) (hr : X0 2 0 ∈ RIV) (hR : RV X0 (X0 2 0) A) (hn : 0 ≤ n ∧ n ≤ 9) (hm : 0 ≤ m ∧ m ≤ 16) (he : inI e) : ∀ (k : Nat) (i : Int) (X : Mem) (P : Int → Int), 0 ≤ i → i ≤ n → (n - i).toNat < k → (∀ j : Int, j ≠ 41 → j ≠ 59 → X j = X0 j) → X 59 = P → THr P (NS A) → (∀ q : Int, q < 0 ∨ 32 ≤ q → X 41 q = 0) →
    ∃ (Y : Mem) (P' : Int → Int), L_X11_brush_143 k e m n i X = B_X11_brush_177 Y ∧ (∀ j : Int, j ≠ 41 → j ≠ 59 → Y j = X0 j) ∧ Y 59 = P' ∧ THr P' (NS A) ∧ (∀ q : Int, q < 0 ∨ 32 ≤ q → Y 41 q = 0) ∧
      ∀ (Z : Mem) (B : Int → Int) (f to : Int), Z 121 = B → EQV A B → BD B → B 3 + (n - i) ≤ 99 → TH P B → (∀ q : Int, 0 ≤ q → q < 32 → 0 ≤ Z 130 q ∧ Z 130 q ≤ 2000000000000) → ∃ (Z' : Mem) (B' : Int → Int), L_X12_brush_76 k f to e m n i Z = B_X12_brush_96 f to Z' ∧ Z' 121 = B' ∧ (∀ j : Int, j ≠ 121 → j ≠ 130 → j ≠ 131 → Z' j = Z j) ∧ TH P' B' ∧ (∀ k : Int, k ≠ 3 → k < 168 ∨ 200 ≤ k → B' k = B k) ∧ B' 3 = B 3 + (n - i) ∧ ∀ q : Int, 0 ≤ q → q < 32 → 0 ≤ Z' 130 q ∧ Z' 130 q ≤ 2000000000000 := by
  have hrr := RIV_r hr
  intro k
  induction k with
  | zero => intro i X P _ _ h; omega
  | succ k ih =>
    intro i X P i0 i1 hk hX h18 hP hz
    rw [L_X11_brush_143, c2_ok (by omega) (by omega) (by omega) (by omega)]
    by_cases g : n ≤ i
    · rw [if_pos g]
      refine ⟨X, P, rfl, hX, h18, hP, hz, fun Z B f to hZ hE hBB h3 hT h130 => ⟨Z, B, ?_, hZ, fun _ _ _ _ => rfl, hT, fun _ _ _ => rfl, by omega, h130⟩⟩
      rw [L_X12_brush_76, c2_ok (by omega) (by omega) (by omega) (by omega), if_pos g]
    · have e2 : X 2 = X0 2 := hX 2 (by decide) (by decide)
      have hrc := RIV_c hr
      have hRX : RV X (X0 2 0) A := hR.fr fun j j0 j1 => hX j (by omega) (by omega)
      obtain ⟨W, P1, d1, d2, d3, d4⟩ := day_both (X := X) (P := P) (p := 59) (e := e) (m := m) hB hr hRX (by decide) h18 hP hz hm he
      obtain ⟨Y, P', y1, y2, y3, y3', y4, y5⟩ := ih (i + 1) (ma (ma X 41 W) 59 P1) P1 (by omega) (by omega) (by omega) (fun j j1 j2 => by rw [ma_ne j2, ma_ne j1]; exact hX j j1 j2) ma_same d3 (fun q hq => by rw [ma_ne (by decide), ma_same]; exact d2 q hq)
      refine ⟨Y, P', ?_, y2, y3, y3', y4, fun Z B f to hZ hE hBB h3 hT h130 => ?_⟩
      · rw [if_neg g, e2, cm_ok hr, d1, cl_some, y1]
      · obtain ⟨U, V, B1, f1, f2, f3, f4, f5⟩ := d4 Z B hZ hE hBB hT h130
        have hE1 : EQV A B1 := fun k hk => by rw [f3 k (by omega) (by omega)]; exact hE k hk
        have b3 := hBB.2.2.1
        have b4 := hBB.2.2.2.1
        have hB1 : BD B1 := hB.tx hE1 (by omega) (by rw [f3 4 (by decide) (by decide), ← hE 6 (by decide)]; exact b4)
        obtain ⟨Z', B', z1, z2, z3, z4, z5, z6, z7⟩ := y5 (ma (ma (ma Z 131 U) 130 V) 121 B1) B1 f to ma_same hE1 hB1 (by omega) f2 (fun q q0 q1 => by rw [ma_ne (by decide), ma_same]; exact f5 q q0 q1)
        refine ⟨Z', B', ?_, z2, fun j j1 j2 j3 => ?_, z4, fun k k1 k2 => by rw [z5 k k1 k2, f3 k k1 k2], by omega, z7⟩
        · rw [L_X12_brush_76, c2_ok (by omega) (by omega) (by omega) (by omega), if_neg g, f1, cl_some, z1]
        · rw [z3 j j1 j2 j3, ma_ne j1, ma_ne j2, ma_ne j3]
