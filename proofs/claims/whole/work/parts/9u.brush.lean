/-! brush: days ahead, then back -/
theorem RZ.all {cn : Int} {X Z : Mem} (h : RZ cn X) (e : ∀ i k : Int, ¬ SCR i k → ¬ ANS i k → ¬ CKC i k → i ≠ 41 → i ≠ 130 → Z i k = X i k) (hW : RW Z) (hC : CK cn Z) : RZ cn Z := by
  obtain ⟨-, ⟨s1, s2, s3, s4, s5, s6, s7⟩, k3, -, -, -, -, -, kK, -⟩ := id h
  have w0 : ∀ i k : Int, ¬ (i = 120) → ¬ (i = 134) → (fun i k => if (i = 120 ∧ 31 ≤ k ∧ k ≤ 34) ∨ i = 134 then X i k else Z i k : Mem) i k = Z i k := fun i k a b => if_neg (by omega)
  have e121 : ∀ k : Int, Z 121 k = X 121 k := fun k => e 121 k (by unfold SCR; omega) (by unfold ANS; omega) (by unfold CKC; omega) (by decide) (by decide)
  have e2 : ∀ k : Int, Z 2 k = X 2 k := fun k => e 2 k (by unfold SCR; omega) (by unfold ANS; omega) (by unfold CKC; omega) (by decide) (by decide)
  have e18 : ∀ k : Int, Z 18 k = X 18 k := fun k => e 18 k (by unfold SCR; omega) (by unfold ANS; omega) (by unfold CKC; omega) (by decide) (by decide)
  have hB4 := s6.2.2.2.1
  have hB3 := s6.2.2.1
  have hw : RZ cn (fun i k => if (i = 120 ∧ 31 ≤ k ∧ k ≤ 34) ∨ i = 134 then X i k else Z i k) := by
    refine RZ.th h (fun i k q1 q2 q3 => ?_) ?_ ?_ ?_ ?_ ?_ ?_
    · show (if (i = 120 ∧ 31 ≤ k ∧ k ≤ 34) ∨ i = 134 then X i k else Z i k) = X i k
      by_cases c : (i = 120 ∧ 31 ≤ k ∧ k ≤ 34) ∨ i = 134
      · rw [if_pos c]
      · rw [if_neg c]
        exact e i k q1 q2 (by unfold CKC; omega) (by unfold TCH at q3; omega) (by unfold TCH at q3; omega)
    · show 0 ≤ Z 121 3 ∧ Z 121 3 ≤ 99
      rw [e121]
      exact ⟨hB3.1, k3⟩
    · show 0 ≤ Z 121 4 ∧ Z 121 4 ≤ X 121 6
      rw [e121]
      exact hB4
    · show Z 2 3 = Z 121 3
      rw [e2, e121]
      exact s1
    · show Z 2 4 = Z 121 4
      rw [e2, e121]
      exact s2
    · show TH (fun k => Z 18 k) (fun k => Z 121 k)
      rw [show (fun k => Z 18 k) = X 18 from funext e18, show (fun k => Z 121 k) = X 121 from funext e121]
      exact s5
    · exact hW.fr rfl rfl
  refine hw.fr3 (fun i k q1 q2 q3 q4 => ?_) ?_ hC
  · exact (if_neg (by unfold CKC at q4; omega)).symm
  · exact kK.fr (e 42 7 (by unfold SCR; omega) (by unfold ANS; omega) (by unfold CKC; omega) (by decide) (by decide)) (e 120 36 (by unfold SCR; omega) (by unfold ANS; omega) (by unfold CKC; omega) (by decide) (by decide)) (funext fun k => e 48 k (by unfold SCR; omega) (by unfold ANS; omega) (by unfold CKC; omega) (by decide) (by decide)) (funext fun k => e 135 k (by unfold SCR; omega) (by unfold ANS; omega) (by unfold CKC; omega) (by decide) (by decide))
theorem keeps_2 {Z : Mem} {A : Int → Int} (hZ : Z 121 = A) : ∀ (k : Nat) (q : Int) (G : Int → Int), 0 ≤ q → q ≤ 32 → (32 - q).toNat < k → (∀ s : Int, 0 ≤ s → s < q → G s = A (168 + s)) → ∃ G' : Int → Int, L_X12_keeps_2 k q (ma Z 137 G) = B_X12_keeps_30 (ma Z 137 G') ∧ ∀ s : Int, 0 ≤ s → s < 32 → G' s = A (168 + s) := by
  intro k
  induction k with
  | zero => intro q G _ _ h; omega
  | succ k ih =>
    intro q G q0 q1 hk hG
    rw [L_X12_keeps_2, c2_ok (by omega) (by omega) (by decide) (by decide)]
    by_cases g : 32 ≤ q
    · rw [if_pos g]
      exact ⟨G, rfl, fun s s0 s1 => hG s s0 (by omega)⟩
    · rw [if_neg g, ax_ok (by omega) (by omega), ax_ok (by omega) (by omega), bd_eq, ms_row, ma_ne (by decide), hZ]
      refine ih (q + 1) _ (by omega) (by omega) (by omega) (fun s s0 s1 => ?_)
      rw [up_at]
      by_cases e : s = q
      · rw [if_pos e, e]
      · rw [if_neg e]
        exact hG s s0 (by omega)
theorem keeps_eq {Z : Mem} : ∃ Y : Mem, f_X12_keeps Z = some (0, Y) ∧ (∀ i k : Int, i ≠ 137 → ¬ (i = 120 ∧ (k = 39 ∨ k = 40)) → Y i k = Z i k) ∧ (∀ s : Int, 0 ≤ s → s < 32 → Y 137 s = Z 121 (168 + s)) ∧ Y 120 39 = Z 121 3 ∧ Y 120 40 = Z 121 4 := by
  obtain ⟨G, g1, g2⟩ := keeps_2 (Z := Z) rfl KF 0 (Z 137) (by decide) (by decide) (by rw [KF_eq]; omega) (fun s _ _ => by omega)
  rw [ma_self] at g1
  refine ⟨ms (ms (ma Z 137 G) 120 39 (Z 121 3)) 120 40 (Z 121 4), ?_, fun i k i1 i2 => ?_, fun s s0 s1 => ?_, ?_, ?_⟩
  · unfold f_X12_keeps
    rw [g1, B_X12_keeps_30, ax_ok (by decide) (by decide), bd_eq, ax_ok (by decide) (by decide), bd_eq, ma_ne (by decide), ms_ne (by decide), ma_ne (by decide)]
  · rw [ms_at, if_neg (by omega), ms_at, if_neg (by omega), ma_ne i1]
  · rw [ms_ne (by decide), ms_ne (by decide), ma_same, g2 s s0 s1]
  · rw [ms_at, if_neg (by decide), ms_at, if_pos ⟨rfl, rfl⟩]
  · rw [ms_at, if_pos ⟨rfl, rfl⟩]
theorem brings_2 {Z : Mem} {K : Int → Int} (hZ : Z 137 = K) : ∀ (k : Nat) (q : Int) (G : Int → Int), 0 ≤ q → q ≤ 32 → (32 - q).toNat < k → (∀ s : Int, 0 ≤ s → s < q → G (168 + s) = K s) → ∃ G' : Int → Int, L_X12_brings_2 k q (ma Z 121 G) = B_X12_brings_30 (ma Z 121 G') ∧ (∀ s : Int, 0 ≤ s → s < 32 → G' (168 + s) = K s) ∧ ∀ s : Int, s < 168 ∨ 200 ≤ s → G' s = G s := by
  intro k
  induction k with
  | zero => intro q G _ _ h; omega
  | succ k ih =>
    intro q G q0 q1 hk hG
    rw [L_X12_brings_2, c2_ok (by omega) (by omega) (by decide) (by decide)]
    by_cases g : 32 ≤ q
    · rw [if_pos g]
      exact ⟨G, rfl, fun s s0 s1 => hG s s0 (by omega), fun s _ => rfl⟩
    · rw [if_neg g, ax_ok (by omega) (by omega), ax_ok (by omega) (by omega), bd_eq, ms_row, ma_ne (by decide), hZ]
      obtain ⟨G', i1, i2, i3⟩ := ih (q + 1) (up G (168 + q) (K q)) (by omega) (by omega) (by omega) (fun s s0 s1 => by
        rw [up_at]
        by_cases e : s = q
        · rw [if_pos (by omega), e]
        · rw [if_neg (by omega)]
          exact hG s s0 (by omega))
      exact ⟨G', i1, i2, fun s hs => by rw [i3 s hs, up_ne (by omega)]⟩
theorem brings_eq {Z : Mem} {A : Int → Int} (h1 : ∀ s : Int, 0 ≤ s → s < 32 → Z 137 s = A (168 + s)) (h3 : Z 120 39 = A 3) (h4 : Z 120 40 = A 4) (ho : ∀ k : Int, k ≠ 3 → k ≠ 4 → k < 168 ∨ 200 ≤ k → Z 121 k = A k) : f_X12_brings Z = some (0, ma Z 121 A) := by
  obtain ⟨G, g1, g2, g3⟩ := brings_2 (Z := Z) rfl KF 0 (Z 121) (by decide) (by decide) (by rw [KF_eq]; omega) (fun s _ _ => by omega)
  rw [ma_self] at g1
  unfold f_X12_brings
  rw [g1, B_X12_brings_30, ax_ok (by decide) (by decide), bd_eq, ax_ok (by decide) (by decide), bd_eq, ma_ne (by decide), ms_ne (by decide), ma_ne (by decide), h3, h4, ms_row, ms_row]
  congr 2
  refine congrArg (ma Z 121) (funext fun k => ?_)
  rw [up_at, up_at]
  by_cases a : k = 4
  · rw [if_pos a, a]
  · rw [if_neg a]
    by_cases b : k = 3
    · rw [if_pos b, b]
    · rw [if_neg b]
      by_cases c : 168 ≤ k ∧ k < 200
      · have := g2 (k - 168) (by omega) (by omega)
        rw [show 168 + (k - 168) = k by omega] at this
        rw [this, h1 _ (by omega) (by omega), show 168 + (k - 168) = k by omega]
      · rw [g3 k (by omega), ho k b a (by omega)]
theorem brush_lk {X0 : Mem} {A : Int → Int} {e m n : Int} (hB : BD A) (hr : X0 2 0 ∈ RIV) (hR : RV X0 (X0 2 0) A) (hn : 0 ≤ n ∧ n ≤ 9) (hm : 0 ≤ m ∧ m ≤ 16) (he : inI e) : ∀ (k : Nat) (i : Int) (X : Mem) (P : Int → Int), 0 ≤ i → i ≤ n → (n - i).toNat < k → (∀ j : Int, j ≠ 41 → j ≠ 59 → X j = X0 j) → X 59 = P → THr P (NS A) → (∀ q : Int, q < 0 ∨ 32 ≤ q → X 41 q = 0) →
    ∃ (Y : Mem) (P' : Int → Int), L_X11_brush_143 k e m n i X = B_X11_brush_177 Y ∧ (∀ j : Int, j ≠ 41 → j ≠ 59 → Y j = X0 j) ∧ Y 59 = P' ∧ THr P' (NS A) ∧ (∀ q : Int, q < 0 ∨ 32 ≤ q → Y 41 q = 0) ∧
      ∀ (Z : Mem) (B : Int → Int) (f to : Int), Z 121 = B → EQV A B → BD B → B 3 + (n - i) ≤ 99 → TH P B → (∀ q : Int, 0 ≤ q → q < 32 → 0 ≤ Z 130 q ∧ Z 130 q ≤ 2000000000000) → ∃ (Z' : Mem) (B' : Int → Int), L_X12_brush_76 k f to e m n i Z = B_X12_brush_96 f to Z' ∧ Z' 121 = B' ∧ (∀ j : Int, j ≠ 121 → j ≠ 130 → j ≠ 131 → Z' j = Z j) ∧ TH P' B' ∧ (∀ k : Int, k ≠ 3 → k < 168 ∨ 200 ≤ k → B' k = B k) ∧ B' 3 = B 3 + (n - i) ∧ ∀ q : Int, 0 ≤ q → q < 32 → 0 ≤ Z' 130 q ∧ Z' 130 q ≤ 2000000000000 := by
  have hrr := RIV_r hr
  intro k
  induction k with
  | zero => intro i X P _ _ h; omega
  | succ k ih =>
    intro i X P i0 i1 hk hX h18 hP hz
    rw [L_X11_brush_143, c2_ok (by omega) (by omega) (by omega) (by omega)]
    by_cases g : n ≤ i
    · rw [if_pos g]
      refine ⟨X, P, rfl, hX, h18, hP, hz, fun Z B f to hZ hE hBB h3 hT h130 => ⟨Z, B, ?_, hZ, fun _ _ _ _ => rfl, hT, fun _ _ _ => rfl, by omega, h130⟩⟩
      rw [L_X12_brush_76, c2_ok (by omega) (by omega) (by omega) (by omega), if_pos g]
    · have e2 : X 2 = X0 2 := hX 2 (by decide) (by decide)
      have hrc := RIV_c hr
      have hRX : RV X (X0 2 0) A := hR.fr fun j j0 j1 => hX j (by omega) (by omega)
      obtain ⟨W, P1, d1, d2, d3, d4⟩ := day_both (X := X) (P := P) (p := 59) (e := e) (m := m) hB hr hRX (by decide) h18 hP hz hm he
      obtain ⟨Y, P', y1, y2, y3, y3', y4, y5⟩ := ih (i + 1) (ma (ma X 41 W) 59 P1) P1 (by omega) (by omega) (by omega) (fun j j1 j2 => by rw [ma_ne j2, ma_ne j1]; exact hX j j1 j2) ma_same d3 (fun q hq => by rw [ma_ne (by decide), ma_same]; exact d2 q hq)
      refine ⟨Y, P', ?_, y2, y3, y3', y4, fun Z B f to hZ hE hBB h3 hT h130 => ?_⟩
      · rw [if_neg g, e2, cm_ok hr, d1, cl_some, y1]
      · obtain ⟨U, V, B1, f1, f2, f3, f4, f5⟩ := d4 Z B hZ hE hBB hT h130
        have hE1 : EQV A B1 := fun k hk => by rw [f3 k (by omega) (by omega)]; exact hE k hk
        have b3 := hBB.2.2.1
        have b4 := hBB.2.2.2.1
        have hB1 : BD B1 := hB.tx hE1 (by omega) (by rw [f3 4 (by decide) (by decide), ← hE 6 (by decide)]; exact b4)
        obtain ⟨Z', B', z1, z2, z3, z4, z5, z6, z7⟩ := y5 (ma (ma (ma Z 131 U) 130 V) 121 B1) B1 f to ma_same hE1 hB1 (by omega) f2 (fun q q0 q1 => by rw [ma_ne (by decide), ma_same]; exact f5 q q0 q1)
        refine ⟨Z', B', ?_, z2, fun j j1 j2 j3 => ?_, z4, fun k k1 k2 => by rw [z5 k k1 k2, f3 k k1 k2], by omega, z7⟩
        · rw [L_X12_brush_76, c2_ok (by omega) (by omega) (by omega) (by omega), if_neg g, f1, cl_some, z1]
        · rw [z3 j j1 j2 j3, ma_ne j1, ma_ne j2, ma_ne j3]
theorem REL.ck {cn : Int} {X Y : Mem} (h : REL cn X) (hY : ∀ i k : Int, ¬ SCR i k → ¬ ANS i k → i ≠ 41 → Y i k = X i k) : Y 121 = X 121 ∧ CK cn Y := by
  obtain ⟨-, -, h2, -, -, -, -, -, -, -, -, -, -, h13⟩ := h
  have e121 : Y 121 = X 121 := funext fun k => hY 121 k (by unfold SCR; omega) (by unfold ANS; omega) (by decide)
  have e120 : ∀ k : Int, k = 22 ∨ (31 ≤ k ∧ k ≤ 34) → Y 120 k = X 120 k := fun k hk => hY 120 k (by unfold SCR; omega) (by unfold ANS; omega) (by decide)
  refine ⟨e121, CK.fr h2.2.2.2.2.2.1 h13 (e120 22 (by omega)) (e120 31 (by omega)) (e120 32 (by omega)) (e120 33 (by omega)) (e120 34 (by omega)) (funext fun k => hY 134 k (by unfold SCR; omega) (by unfold ANS; omega) (by decide)) ?_⟩
  rw [e121]
  exact fun _ _ => rfl
theorem out_fd {cn : Int} {a b : Mem → Option (Int × Mem)} {X Y : Mem} (h : REL cn X) (hY : ∀ i k : Int, ¬ SCR i k → i ≠ 41 → Y i k = X i k) (hz : ∀ q : Int, q < 0 ∨ 32 ≤ q → Y 41 q = 0) {p q r : Int} (hp : inJ p) (hq : inJ q) (hr : inI r) (ea : a X = some (r, fC Y p q)) (eb : fC Y p q 121 = X 121 → CK cn (fC Y p q) → ∃ Z : Mem, b (fC Y p q) = some (r, fM Z p q) ∧ (∀ i k : Int, ¬ SCR i k → ¬ CKC i k → i ≠ 130 → Z i k = fC Y p q i k) ∧ CK cn Z ∧ ∀ q : Int, 0 ≤ q → q < 32 → 0 ≤ Z 130 q ∧ Z 130 q ≤ 2000000000000) : OUT cn a b X := by
  have hfC : ∀ i k : Int, ¬ SCR i k → ¬ ANS i k → i ≠ 41 → fC Y p q i k = X i k := fun i k s1 s2 s3 => by
    rw [fC_o (by unfold ANS at s2; omega)]
    exact hY i k s1 s3
  obtain ⟨k1, k2⟩ := h.ck hfC
  obtain ⟨Z, z1, z2, z3, z4⟩ := eb k1 k2
  have z121 : Z 121 = X 121 := by
    rw [← k1]
    exact funext fun k => z2 121 k (by unfold SCR; omega) (by unfold CKC; omega) (by decide)
  have hB : BD (Z 121) := by rw [z121]; exact h.now.2.2.1
  refine ⟨r, fC Y p q, fM Z p q, ea, z1, hr, RS_frac hp hq (fun k => z2 0 k (by unfold SCR; omega) (by unfold CKC; omega) (by decide)), RZ.up (RZ.all h.2 (fun i k s1 s2 s3 s4 s5 => ?_) ⟨fun s hs => ?_, fun s s0 s1 => ?_⟩ ?_)⟩
  · rw [fM_o (by unfold ANS at s2; omega), z2 i k s1 s3 s5]
    exact hfC i k s1 s2 s4
  · rw [fM_o (by omega), z2 41 s (by unfold SCR; omega) (by unfold CKC; omega) (by decide), fC_o (by omega)]
    exact hz s hs
  · rw [fM_o (by omega)]
    exact z4 s s0 s1
  · refine CK.fr hB z3 (fM_o (by omega)) (fM_o (by omega)) (fM_o (by omega)) (fM_o (by omega)) (fM_o (by omega)) (funext fun k => fM_o (by omega)) (fun k _ => fM_o (by omega))
theorem out_sd {cn : Int} {a b : Mem → Option (Int × Mem)} {X Y : Mem} (h : REL cn X) (hY : ∀ i k : Int, ¬ SCR i k → i ≠ 41 → Y i k = X i k) (hz : ∀ q : Int, q < 0 ∨ 32 ≤ q → Y 41 q = 0) {r v : Int} (h0 : 0 ≤ v) (h1 : v ≤ 100) (hr : inI r) (ea : a X = some (r, ms Y 0 16 v)) (eb : ms Y 0 16 v 121 = X 121 → CK cn (ms Y 0 16 v) → ∃ Z : Mem, b (ms Y 0 16 v) = some (r, ms Z 120 2 v) ∧ (∀ i k : Int, ¬ SCR i k → ¬ CKC i k → i ≠ 130 → Z i k = ms Y 0 16 v i k) ∧ CK cn Z ∧ ∀ q : Int, 0 ≤ q → q < 32 → 0 ≤ Z 130 q ∧ Z 130 q ≤ 2000000000000) : OUT cn a b X := by
  have hfC : ∀ i k : Int, ¬ SCR i k → ¬ ANS i k → i ≠ 41 → ms Y 0 16 v i k = X i k := fun i k s1 s2 s3 => by
    rw [ms_at, if_neg (by unfold ANS at s2; omega)]
    exact hY i k s1 s3
  obtain ⟨k1, k2⟩ := h.ck hfC
  obtain ⟨Z, z1, z2, z3, z4⟩ := eb k1 k2
  have z121 : Z 121 = X 121 := by
    rw [← k1]
    exact funext fun k => z2 121 k (by unfold SCR; omega) (by unfold CKC; omega) (by decide)
  have hB : BD (Z 121) := by rw [z121]; exact h.now.2.2.1
  refine ⟨r, ms Y 0 16 v, ms Z 120 2 v, ea, z1, hr, ?_, RZ.up (RZ.all h.2 (fun i k s1 s2 s3 s4 s5 => ?_) ⟨fun s hs => ?_, fun s s0 s1 => ?_⟩ ?_)⟩
  · refine (h.1.st h0 h1).fr fun i k hA => ?_
    have e : ∀ W : Mem, ms W 120 2 v i k = if i = 120 ∧ k = 2 then v else W i k := fun W => ms_at
    rw [e, e, z2 i k (by unfold SCR; unfold ANS at hA; omega) (by unfold CKC; unfold ANS at hA; omega) (by unfold ANS at hA; omega), ms_at, ms_at, hY i k (by unfold SCR; unfold ANS at hA; omega) (by unfold ANS at hA; omega)]
  · rw [ms_at, if_neg (by unfold ANS at s2; omega), z2 i k s1 s3 s5]
    exact hfC i k s1 s2 s4
  · rw [ms_ne (by decide), z2 41 s (by unfold SCR; omega) (by unfold CKC; omega) (by decide), ms_ne (by decide)]
    exact hz s hs
  · rw [ms_ne (by decide)]
    exact z4 s s0 s1
  · refine CK.fr hB z3 ?_ ?_ ?_ ?_ ?_ (ms_ne (by decide)) (fun k _ => by rw [ms_ne (by decide)]) <;> rw [ms_at, if_neg (by decide)]
theorem cp_59 {X : Mem} : f_X11_copyParts 18 59 X = some (0, ma X 59 (fun q => if 0 ≤ q ∧ q < 0 + 32 then X 18 (0 + (q - 0)) else X 59 q)) := by
  unfold f_X11_copyParts
  rw [c32, bd_eq]
  rfl
theorem THr.row {P Q : Int → Int} {N : Int} (h : THr P N) (hN : 0 ≤ N) (e : ∀ q : Int, 0 ≤ q → q < 32 → Q q = P q) : THr Q N :=
  ⟨fun q a b => by rw [e q a b]; exact h.1 q a b, by rw [sm_ext 32 e]; exact h.2.1, fun q a b => by rw [e q (by omega) b]; exact h.2.2 q a b⟩
theorem THr.wt {P A : Int → Int} (h : THr P (NS A)) : WT A P := ⟨fun s a b => (h.1 s a b).1, h.2.2, by rw [h.2.1]; decide⟩
/-- the reference keeps, goes days ahead, looks, and brings back -/
theorem kept_back {cn : Int} {Z K Z1 Z2 : Mem} {A : Int → Int} (hA : BD A) (hZ : Z 121 = A) (k1 : ∀ i k : Int, i ≠ 137 → ¬ (i = 120 ∧ (k = 39 ∨ k = 40)) → K i k = Z i k) (k2 : ∀ s : Int, 0 ≤ s → s < 32 → K 137 s = Z 121 (168 + s)) (k3 : K 120 39 = Z 121 3) (k4 : K 120 40 = Z 121 4) (f1 : ∀ j : Int, j ≠ 121 → j ≠ 130 → j ≠ 131 → Z1 j = K j) (f2 : ∀ i k : Int, ¬ (i = 120 ∧ 31 ≤ k ∧ k ≤ 34) → i ≠ 132 → i ≠ 133 → i ≠ 134 → Z2 i k = Z1 i k) (f3 : ∀ k : Int, k ≠ 3 → k ≠ 4 → k < 168 ∨ 200 ≤ k → Z1 121 k = A k) (hB2 : BD (Z2 121)) (hC : CK cn Z2) :
    f_X12_brings Z2 = some (0, ma Z2 121 A) ∧ (∀ i k : Int, ¬ SCR i k → ¬ CKC i k → i ≠ 130 → ma Z2 121 A i k = Z i k) ∧ CK cn (ma Z2 121 A) := by
  have e137 : ∀ s : Int, 0 ≤ s → s < 32 → Z2 137 s = A (168 + s) := fun s s0 s1 => by
    rw [f2 137 s (by omega) (by decide) (by decide) (by decide), f1 137 (by decide) (by decide) (by decide), k2 s s0 s1, hZ]
  refine ⟨brings_eq e137 ?_ ?_ (fun k q1 q2 q3 => ?_), fun i k q1 q2 q3 => ?_, ?_⟩
  · rw [f2 120 39 (by omega) (by decide) (by decide) (by decide), f1 120 (by decide) (by decide) (by decide), k3, hZ]
  · rw [f2 120 40 (by omega) (by decide) (by decide) (by decide), f1 120 (by decide) (by decide) (by decide), k4, hZ]
  · rw [f2 121 k (by omega) (by decide) (by decide) (by decide)]
    exact f3 k q1 q2 q3
  · by_cases e : i = 121
    · rw [e, ma_same, hZ]
    · rw [ma_ne e, f2 i k (by unfold CKC at q2; omega) (by unfold SCR at q1; omega) (by unfold SCR at q1; omega) (by unfold CKC at q2; omega), f1 i e q3 (by unfold SCR at q1; omega)]
      exact k1 i k (by unfold SCR at q1; omega) (by unfold SCR at q1; omega)
  · have hv : ∀ k : Int, (0 ≤ k ∧ k < 3) ∨ (5 ≤ k ∧ k < 168) → ma Z2 121 A 121 k = Z2 121 k := fun k hk => by
      rw [ma_same, f2 121 k (by omega) (by decide) (by decide) (by decide)]
      exact (f3 k (by omega) (by omega) (by omega)).symm
    exact CK.fr hB2 hC (by rw [ma_ne (by decide)]) (by rw [ma_ne (by decide)]) (by rw [ma_ne (by decide)]) (by rw [ma_ne (by decide)]) (by rw [ma_ne (by decide)]) (ma_ne (by decide)) (fun k hk => hv k (by omega))
theorem q_brush : pair_39 REL := by
  intro f to e m n hf ht he hm hn cn X hcn h
  obtain ⟨n1, n2, n3, n4, n5, n6⟩ := h.now
  have hN := NS_r n3.2.1
  have hA2 := n3.2.1
  have hA3 := n3.2.2.1
  have hA4 := n3.2.2.2.1
  have h99 : X 121 3 ≤ 99 := h.2.2.2.1
  have hRW := h.rw
  have hmJ : inJ m := ⟨by have := hm.1; omega, by have := hm.2; omega⟩
  have hnJ : inJ n := ⟨by have := hn.1; omega, by have := hn.2; omega⟩
  have eM : ∀ v : Int, ms X 0 16 v 121 = X 121 := fun v => s16 (by decide)
  show OUT cn (f_X11_brush f to e m n) (f_X12_brush f to e m n) X
  by_cases gc : (((0 ≤ f ∧ f < X 121 0 * X 121 1) ∧ (0 ≤ to ∧ to < X 121 0 * X 121 1)) ∧ (0 ≤ e ∧ e < X 121 2)) ∧ (0 ≤ m ∧ m ≤ 16) ∧ (1 ≤ n ∧ n ≤ 9)
  · obtain ⟨⟨⟨g1, g2⟩, g3⟩, g4, g5⟩ := gc
    have eC : ∀ o, f_X11_brush f to e m n X = o → _ := fun o ho => by
      unfold f_X11_brush at ho
      rw [isCell_eq n1 n2 n3 hf, if_pos g1, cl_some, c1_okk (by decide) (by decide), if_neg (by decide), isCell_eq n1 n2 n3 ht, if_pos g2, cl_some, c1_okk (by decide) (by decide), if_neg (by decide), isBar_eq n1 n2 n3 he, if_pos g3, cl_some, c1_okk (by decide) (by decide), if_neg (by decide), c1_okk hm.1 hm.2, if_neg (by omega), c2_ok hm.1 hm.2 (by decide) (by decide), if_neg (by omega), c2_ok hn.1 hn.2 (by decide) (by decide), if_neg (by omega), c2_ok hn.1 hn.2 (by decide) (by decide), if_pos g5.2, n4, c2_ok (by omega) (by omega) (by decide) (by decide)] at ho
      exact ho
    have eR : ∀ Z : Mem, Z 121 = X 121 → ∀ o, f_X12_brush f to e m n Z = o → _ := fun Z z1 o ho => by
      unfold f_X12_brush at ho
      rw [areCells_eq (by rw [z1]; exact n3) hf ht, z1, if_pos ⟨g1, g2⟩, cl_some, c1_okk (by decide) (by decide), if_neg (by decide), isBarm_eq (by rw [z1]; exact n3) he, z1, if_pos g3, cl_some, c1_okk (by decide) (by decide), if_neg (by decide), c1_okk hm.1 hm.2, isFrom_eq hmJ (by constructor <;> decide) (by constructor <;> decide), if_pos g4, cl_some, c1_okk (by decide) (by decide), if_neg (by decide), c1_okk hn.1 hn.2, isFrom_eq hnJ (by constructor <;> decide) (by constructor <;> decide), if_pos g5, cl_some, c1_okk (by decide) (by decide), if_pos (by decide), ax_ok (n := 2200) (by decide) (by decide), z1, c2_ok (by omega) (by omega) (by decide) (by decide)] at ho
      exact ho
    by_cases g6 : X 121 3 + n ≤ 99
    · obtain ⟨v, Y1, Y2, e1, e2, e3, e4, e5, e6, e7, e8, e9, e10, -⟩ := ground_eq (d := X 121 3 + n) (o := X 2 4) n1 n2 n3 (by omega) (by omega) (by rw [n5]; exact hA4.1) (by rw [n5]; exact hA4.2) g1.1 g1.2 g2.1 g2.2
      rw [n5] at e5 e8 e9 e10
      have hY2 : ∀ i k : Int, ¬ SCR i k → Y2 i k = X i k := fun i k hs => by
        by_cases ei : i = 42
        · subst ei
          by_cases ek : k = 7
          · subst ek
            exact e4
          · exact absurd (by unfold SCR; omega) hs
        · rw [e3 i ei (by unfold SCR at hs; omega) (by unfold SCR at hs; omega) (by unfold SCR at hs; omega)]
      have h41 : Y2 41 = X 41 := e3 41 (by decide) (by decide) (by decide) (by decide)
      have h18 : Y2 18 = X 18 := e3 18 (by decide) (by decide) (by decide) (by decide)
      have h2 : Y2 2 = X 2 := e3 2 (by decide) (by decide) (by decide) (by decide)
      have hrr := RIV_r n1
      have hRY : RV Y2 (X 2 0) (X 121) := n2.fr fun i a b => e3 i (by omega) (by omega) (by omega) (by omega)
      -- the reference, days ahead
      have hback : ∀ (P' : Int → Int), (∀ (Z : Mem) (B : Int → Int) (f to : Int), Z 121 = B → EQV (X 121) B → BD B → B 3 + (n - 0) ≤ 99 → TH (X 18) B → (∀ q : Int, 0 ≤ q → q < 32 → 0 ≤ Z 130 q ∧ Z 130 q ≤ 2000000000000) → ∃ (Z' : Mem) (B' : Int → Int), L_X12_brush_76 KF f to e m n 0 Z = B_X12_brush_96 f to Z' ∧ Z' 121 = B' ∧ (∀ j : Int, j ≠ 121 → j ≠ 130 → j ≠ 131 → Z' j = Z j) ∧ TH P' B' ∧ (∀ k : Int, k ≠ 3 → k < 168 ∨ 200 ≤ k → B' k = B k) ∧ B' 3 = B 3 + (n - 0) ∧ ∀ q : Int, 0 ≤ q → q < 32 → 0 ≤ Z' 130 q ∧ Z' 130 q ≤ 2000000000000) →
          ∀ Z : Mem, Z 121 = X 121 → Z 130 = X 130 → CK cn Z → ∃ (a : Int) (Z3 : Mem), f_X12_brush f to e m n Z = (if a = -1 then some (0, ms Z3 120 2 6) else cl (f_X12_tellsBy (pS P' 0 a) 1000000 Z3) fun r X => cz r (some (r, X))) ∧ (∀ i k : Int, ¬ SCR i k → ¬ CKC i k → i ≠ 130 → Z3 i k = Z i k) ∧ CK cn Z3 ∧ (∀ q : Int, 0 ≤ q → q < 32 → 0 ≤ Z3 130 q ∧ Z3 130 q ≤ 2000000000000) ∧ ((a = -1 ∧ ∀ b : Int, 0 ≤ b → b < NS (X 121) → ¬ WAYP (X 121) (X 121 5 - X 121 4 - stg (X 121) (X 121 3 + n)) f to b) ∨ ((0 ≤ a ∧ a < NS (X 121)) ∧ WAYP (X 121) (X 121 5 - X 121 4 - stg (X 121) (X 121 3 + n)) f to a ∧ ∀ b : Int, 0 ≤ b → b < NS (X 121) → WAYP (X 121) (X 121 5 - X 121 4 - stg (X 121) (X 121 3 + n)) f to b → pS P' 0 b ≤ pS P' 0 a)) := fun P' hP' Z z1 z3 hC => by
        obtain ⟨K, k0, k1, k2, k3, k4⟩ := keeps_eq (Z := Z)
        have k121 : K 121 = X 121 := by
          rw [← z1]
          exact funext fun k => k1 121 k (by decide) (by omega)
        obtain ⟨Z1, B', j1, j2, j3, j4, j5, j6, j7⟩ := hP' K (X 121) f to k121 (fun _ _ => rfl) n3 (by omega) n6 (fun q q0 q1 => by rw [k1 130 q (by decide) (by omega), z3]; exact hRW.2 q q0 q1)
        have hE' : EQV (X 121) B' := fun k hk => j5 k (by omega) (by omega)
        have hB' : BD B' := n3.tx hE' (by omega) (by rw [j5 4 (by decide) (by decide)]; exact hA4)
        have hCZ1 : CK cn Z1 := CK.fr (by rw [z1]; exact n3) hC (by rw [j3 120 (by decide) (by decide) (by decide), k1 120 _ (by decide) (by omega)]) (by rw [j3 120 (by decide) (by decide) (by decide), k1 120 _ (by decide) (by omega)]) (by rw [j3 120 (by decide) (by decide) (by decide), k1 120 _ (by decide) (by omega)]) (by rw [j3 120 (by decide) (by decide) (by decide), k1 120 _ (by decide) (by omega)]) (by rw [j3 120 (by decide) (by decide) (by decide), k1 120 _ (by decide) (by omega)]) (by rw [j3 134 (by decide) (by decide) (by decide)]; exact funext fun k => k1 134 k (by decide) (by omega)) (by rw [z1, j2]; exact hE'.r)
        obtain ⟨a, Z2, s1, s2, s3, s4⟩ := sur_at (Z := Z1) (A := X 121) (B := B') (P := P') (f := f) (to := to) n3 j2 hE' hB' j4 hCZ1 (by omega) g1.1 g1.2 g2.1 g2.2
        have eND : ND B' = X 121 5 - X 121 4 - stg (X 121) (X 121 3 + n) := by
          unfold ND
          rw [j5 5 (by decide) (by decide), j5 4 (by decide) (by decide), j6, stg.tx n3 hE' (by omega), Int.sub_zero]
        rw [eND] at s4
        have z2121 : Z2 121 = B' := by
          rw [← j2]
          exact funext fun k => s2 121 k (by omega) (by decide) (by decide) (by decide)
        obtain ⟨t1, t2, t3⟩ := kept_back (A := X 121) n3 z1 k1 k2 k3 k4 j3 s2 (fun k q1 q2 q3 => by rw [j2]; exact j5 k q1 q3) (by rw [z2121]; exact hB') s3
        have hrun : ∀ o, f_X12_brush f to e m n Z = o → _ := fun o ho => by
          rw [← eR Z z1 _ rfl, if_pos g6, k0, cl_some, j1, B_X12_brush_96, s1, cl_some] at ho
          exact ho
        refine ⟨a, ma Z2 121 (X 121), ?_, t2, t3, fun q q0 q1 => by rw [ma_ne (by decide), s2 130 q (by omega) (by decide) (by decide) (by decide)]; exact j7 q q0 q1, s4⟩
        rw [← hrun _ rfl]
        by_cases ga : a = -1
        · rw [if_pos ga, ga, c2_ok (by decide) (by decide) (by decide) (by decide), if_neg (by decide), B_X12_brush_121, t1, cl_some, c2_ok (by decide) (by decide) (by decide) (by decide), if_neg (by decide), isM_eq (by decide) (by decide), cl_some, cz_0]
        · have ha : 0 ≤ a ∧ a < NS (X 121) := by
            rcases s4 with ⟨q, -⟩ | ⟨q, -⟩
            · exact absurd q ga
            · exact q
          rw [if_neg ga, c2_ok (by omega) (by omega) (by decide) (by decide), if_pos ga, partsOf_eq (P := P') (by rw [z2121]; exact j4) (by rw [z2121]; exact hB'.2.1) (inI_s (by decide) (by decide)), cl_some, B_X12_brush_121, t1, cl_some, c2_ok (by omega) (by omega) (by decide) (by decide), if_pos ga]
      have e59 : ∀ q : Int, 0 ≤ q → q < 32 → (if 0 ≤ q ∧ q < 0 + 32 then Y2 18 (0 + (q - 0)) else Y2 59 q) = X 18 q := fun q q0 q1 => by
        rw [if_pos ⟨q0, by omega⟩, h18]
        congr 1
        omega
      have e41z : ∀ q : Int, q < 0 ∨ 32 ≤ q → Y2 41 q = 0 := fun q hq => by rw [h41]; exact hRW.1 q hq
      obtain ⟨Y3, P', p1, p2, p3, p4, p5, p6⟩ := brush_lk (X0 := Y2) (A := X 121) (e := e) (m := m) (n := n) n3 (by rw [h2]; exact n1) (by rw [h2]; exact hRY) (by omega) g4 he KF 0 (ma Y2 59 (fun q => if 0 ≤ q ∧ q < 0 + 32 then Y2 18 (0 + (q - 0)) else Y2 59 q)) (fun q => if 0 ≤ q ∧ q < 0 + 32 then Y2 18 (0 + (q - 0)) else Y2 59 q) (by decide) (by omega) (by rw [KF_eq]; omega) (fun j j1 j2 => ma_ne j2) ma_same (n6.r.row (by omega) e59) (fun q hq => by rw [ma_ne (by decide)]; exact e41z q hq)
      have p6' : ∀ (Z : Mem) (B : Int → Int) (f to : Int), Z 121 = B → EQV (X 121) B → BD B → B 3 + (n - 0) ≤ 99 → TH (X 18) B → (∀ q : Int, 0 ≤ q → q < 32 → 0 ≤ Z 130 q ∧ Z 130 q ≤ 2000000000000) → ∃ (Z' : Mem) (B' : Int → Int), L_X12_brush_76 KF f to e m n 0 Z = B_X12_brush_96 f to Z' ∧ Z' 121 = B' ∧ (∀ j : Int, j ≠ 121 → j ≠ 130 → j ≠ 131 → Z' j = Z j) ∧ TH P' B' ∧ (∀ k : Int, k ≠ 3 → k < 168 ∨ 200 ≤ k → B' k = B k) ∧ B' 3 = B 3 + (n - 0) ∧ ∀ q : Int, 0 ≤ q → q < 32 → 0 ≤ Z' 130 q ∧ Z' 130 q ≤ 2000000000000 := fun Z B f to q1 q2 q3 q4 q5 q6 => p6 Z B f to q1 q2 q3 q4 (q5.row e59 (by rw [NS.tx q2]; exact hN)) q6
      have hbk := hback P' p6'
      by_cases hwp : WAYP (X 121) (X 121 5 - X 121 4 - stg (X 121) (X 121 3 + n)) f to (NS (X 121) - 1)
      · have hG3 : GL (X 121) (X 121 5 - X 121 4 - stg (X 121) (X 121 3 + n)) (X 2 0) Y3 := e5.fr (fun i x => p2 i (by omega) (by omega)) (fun q x => by rw [p2 42 (by decide) (by decide)]) (p2 46 (by decide) (by decide))
        have hS3 : SRC (X 121) (X 121 5 - X 121 4 - stg (X 121) (X 121 3 + n)) f to (NS (X 121)) Y3 := by
          unfold SRC
          rw [p2 42 (by decide) (by decide), p2 43 (by decide) (by decide), p2 44 (by decide) (by decide)]
          exact e8
        obtain ⟨bm, S, b1, ⟨b2, b3, b4⟩, -⟩ := bestOf_eq (p := 59) (w := P') n3 hG3 hS3 (by rw [p3]; exact p4.wt) p3
        obtain ⟨w, w1, w2, w3⟩ : ∃ a : Int, (0 ≤ a ∧ a < NS (X 121)) ∧ WAYP (X 121) (X 121 5 - X 121 4 - stg (X 121) (X 121 3 + n)) f to a ∧ bm = pS P' 0 a := by
          rcases b4 with ⟨-, b4⟩ | b4
          · exact absurd hwp (b4 _ (by omega) (by omega))
          · exact b4
        have hbm : bm ≤ 1000000 := by
          have := sg_r (q := pq 0 w) (w := P') 32 (fun s s0 s1 => (p4.1 s s0 s1).1)
          have := p4.2.1
          rw [w3]
          show sg (pq 0 w) P' 32 ≤ _
          omega
        have hJ := frac_J (a := bm) (b := 1000000) b2.1 (by omega) (by decide) (by decide)
        refine out_fd h (Y := ma Y3 45 S) (fun i k s1 s2 => ?_) (fun q hq => ?_) hJ.1 hJ.2 (r := 1) (inI_s (by decide) (by decide)) ?_ fun x121 hck => ?_
        · rw [ma_ne (by unfold SCR at s1; omega), p2 i s2 (by unfold SCR at s1; omega)]
          exact hY2 i k s1
        · rw [ma_ne (by decide)]
          exact p5 q hq
        · rw [← eC _ rfl, if_pos g6, cm_ok n1, e1, cl_some, e2, cl_some, e9 hwp, c1_okk (by decide) (by decide), if_pos (by decide), cp_59, cl_some, p1, B_X11_brush_177, b1, cl_some, tellF_s b2.1 (by omega) (by decide) (by decide), cl_some, cz_1]
        · obtain ⟨a, Z3, i1, i2, i3, i4, i5⟩ := hbk (fC (ma Y3 45 S) (fup bm.toNat (1000000 : Int).toNat) (fdn bm.toNat (1000000 : Int).toNat)) x121 (funext fun k => by rw [fC_o (by omega), ma_ne (by decide), p2 130 (by decide) (by decide)]; exact hY2 130 k (by unfold SCR; omega)) hck
          rcases i5 with ⟨-, i5⟩ | ⟨i5, i6, i7⟩
          · exact absurd w2 (i5 w w1.1 w1.2)
          · have ev : pS P' 0 a = bm := by
              have := b3 a i5.1 i5.2 i6
              have := i7 w w1.1 w1.2 w2
              omega
            refine ⟨Z3, ?_, i2, i3, i4⟩
            rw [i1, if_neg (by omega), ev, tellsBy_s b2.1 (by omega) (by decide) (by decide), cl_some, cz_1]
      · have hno : ∀ b : Int, 0 ≤ b → b < NS (X 121) → ¬ WAYP (X 121) (X 121 5 - X 121 4 - stg (X 121) (X 121 3 + n)) f to b := fun b b0 b1 hb => hwp (hb.sub n3 g1.1 g1.2 (fix_ex n3 (by omega) (by omega) hA4.1 hA4.2 g2.1 g2.2 (by omega) (by omega)) (sub_all n3.2.1 b0 b1))
        refine out_sd h (Y := Y2) (fun i k s1 _ => hY2 i k s1) e41z (r := 0) (v := 6) (by decide) (by decide) (inI_s (by decide) (by decide)) ?_ fun x121 hck => ?_
        · rw [← eC _ rfl, if_pos g6, cm_ok n1, e1, cl_some, e2, cl_some, e10 hwp, c1_okk (by decide) (by decide), if_neg (by decide), refuse_eq, cl_some, cz_0]
        · obtain ⟨a, Z3, i1, i2, i3, i4, i5⟩ := hbk (ms Y2 0 16 6) x121 (by rw [ms_ne (by decide)]; exact funext fun k => hY2 130 k (by unfold SCR; omega)) hck
          rcases i5 with ⟨i5, -⟩ | ⟨i5, i6, -⟩
          · exact ⟨Z3, by rw [i1, if_pos i5], i2, i3, i4⟩
          · exact absurd i6 (hno a i5.1 i5.2)
    · refine out_st h (r := 0) (v := 4) (by decide) (by decide) (inI_s (by decide) (by decide)) ?_ ?_
      · rw [← eC _ rfl, if_neg g6, refuse_eq, cl_some, cz_0]
      · rw [← eR _ (eM 4) _ rfl, if_neg g6, isM_eq (by decide) (by decide), cl_some, cz_0]
  · refine out_st h (r := 0) (v := 1) (by decide) (by decide) (inI_s (by decide) (by decide)) ?_ ?_
    · unfold f_X11_brush
      rw [isCell_eq n1 n2 n3 hf, cl_some]
      by_cases g1 : 0 ≤ f ∧ f < X 121 0 * X 121 1
      · rw [if_pos g1, c1_okk (by decide) (by decide), if_neg (by decide), isCell_eq n1 n2 n3 ht, cl_some]
        by_cases g2 : 0 ≤ to ∧ to < X 121 0 * X 121 1
        · rw [if_pos g2, c1_okk (by decide) (by decide), if_neg (by decide), isBar_eq n1 n2 n3 he, cl_some]
          by_cases g3 : 0 ≤ e ∧ e < X 121 2
          · rw [if_pos g3, c1_okk (by decide) (by decide), if_neg (by decide), c1_okk hm.1 hm.2]
            by_cases g4 : m < 0
            · rw [if_pos g4, B_X11_brush_49, refuse_eq, cl_some, cz_0]
            · rw [if_neg g4, c2_ok hm.1 hm.2 (by decide) (by decide)]
              by_cases g5 : 16 < m
              · rw [if_pos g5, B_X11_brush_49, refuse_eq, cl_some, cz_0]
              · rw [if_neg g5, c2_ok hn.1 hn.2 (by decide) (by decide)]
                by_cases g6 : n < 1
                · rw [if_pos g6, B_X11_brush_49, refuse_eq, cl_some, cz_0]
                · rw [if_neg g6, c2_ok hn.1 hn.2 (by decide) (by decide), if_neg (fun q => gc ⟨⟨⟨g1, g2⟩, g3⟩, ⟨by omega, by omega⟩, by omega, q⟩), B_X11_brush_49, refuse_eq, cl_some, cz_0]
          · rw [if_neg g3, c1_okk (by decide) (by decide), if_pos rfl, B_X11_brush_49, refuse_eq, cl_some, cz_0]
        · rw [if_neg g2, c1_okk (by decide) (by decide), if_pos rfl, B_X11_brush_49, refuse_eq, cl_some, cz_0]
      · rw [if_neg g1, c1_okk (by decide) (by decide), if_pos rfl, B_X11_brush_49, refuse_eq, cl_some, cz_0]
    · unfold f_X12_brush
      rw [areCells_eq (by rw [eM]; exact n3) hf ht, eM, cl_some]
      by_cases g12 : (0 ≤ f ∧ f < X 121 0 * X 121 1) ∧ (0 ≤ to ∧ to < X 121 0 * X 121 1)
      · rw [if_pos g12, c1_okk (by decide) (by decide), if_neg (by decide), isBarm_eq (by rw [eM]; exact n3) he, eM, cl_some]
        by_cases g3 : 0 ≤ e ∧ e < X 121 2
        · rw [if_pos g3, c1_okk (by decide) (by decide), if_neg (by decide), c1_okk hm.1 hm.2, isFrom_eq hmJ (by constructor <;> decide) (by constructor <;> decide), cl_some]
          by_cases g4 : 0 ≤ m ∧ m ≤ 16
          · rw [if_pos g4, c1_okk (by decide) (by decide), if_neg (by decide), c1_okk hn.1 hn.2, isFrom_eq hnJ (by constructor <;> decide) (by constructor <;> decide), if_neg (fun q => gc ⟨⟨g12, g3⟩, g4, q⟩), cl_some, c1_okk (by decide) (by decide), if_neg (by decide), B_X12_brush_43, isM_eq (by decide) (by decide), cl_some, cz_0]
          · rw [if_neg g4, c1_okk (by decide) (by decide), if_pos rfl, B_X12_brush_43, isM_eq (by decide) (by decide), cl_some, cz_0]
        · rw [if_neg g3, c1_okk (by decide) (by decide), if_pos rfl, B_X12_brush_43, isM_eq (by decide) (by decide), cl_some, cz_0]
      · rw [if_neg g12, c1_okk (by decide) (by decide), if_pos rfl, B_X12_brush_43, isM_eq (by decide) (by decide), cl_some, cz_0]
