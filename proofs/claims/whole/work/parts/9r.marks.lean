/-! marks: a state copied -/
theorem c60 {β : Type} {k : Option β} : cpk 60 60 0 0 60 k = k := cpk_ok (by decide) (by decide) (by decide) (by decide) (by decide)
theorem c12 {β : Type} {k : Option β} : cpk 12 12 0 0 12 k = k := cpk_ok (by decide) (by decide) (by decide) (by decide) (by decide)
theorem c05 {β : Type} {k : Option β} : cpk 5 5 0 0 5 k = k := cpk_ok (by decide) (by decide) (by decide) (by decide) (by decide)
theorem c32 {β : Type} {k : Option β} : cpk 32 32 0 0 32 k = k := cpk_ok (by decide) (by decide) (by decide) (by decide) (by decide)
theorem mc_in {X : Mem} {i j n q : Int} (q0 : 0 ≤ q) (q1 : q < n) : mc X i 0 j 0 n j q = X i q := by
  rw [mc_on, if_pos ⟨q0, by omega⟩]
  congr 1
  omega
theorem copyR_eq {X : Mem} {d s : Int} (h : s + 10 ≤ d ∨ d + 10 ≤ s) : ∃ Y : Mem, f_X2_copyFrom d s X = some (0, Y) ∧ (∀ k : Int, 0 ≤ k → k ≤ 10 → Y d k = X s k) ∧ (∀ q : Int, 0 ≤ q → q < 60 → Y (d + 1) q = X (s + 1) q ∧ Y (d + 2) q = X (s + 2) q) ∧ (∀ q : Int, 0 ≤ q → q < 12 → Y (d + 3) q = X (s + 3) q) ∧ (∀ j : Int, 4 ≤ j → j ≤ 9 → ∀ q : Int, 0 ≤ q → q < 5 → Y (d + j) q = X (s + j) q) ∧ (∀ i : Int, i < d ∨ d + 9 < i → Y i = X i) := by
  have hsd : s ≠ d := by omega
  obtain ⟨M, hM, m1, m2, m3⟩ : ∃ M : Mem, (∀ (β : Type) (k : Mem → Option β), (bd (ms X d 0 (X s 0)) fun X1 => bd (ms X1 d 1 (X1 s 1)) fun X2 => bd (ms X2 d 2 (X2 s 2)) fun X3 => bd (ms X3 d 3 (X3 s 3)) fun X4 => bd (ms X4 d 4 (X4 s 4)) fun X5 => bd (ms X5 d 5 (X5 s 5)) fun X6 => bd (ms X6 d 6 (X6 s 6)) fun X7 => bd (ms X7 d 7 (X7 s 7)) fun X8 => bd (ms X8 d 8 (X8 s 8)) fun X9 => bd (ms X9 d 9 (X9 s 9)) fun X10 => bd (ms X10 d 10 (X10 s 10)) k) = k M) ∧ (∀ k : Int, 0 ≤ k → k ≤ 10 → M d k = X s k) ∧ (∀ i : Int, i ≠ d → M i = X i) ∧ True := by
    refine ⟨_, fun β k => rfl, fun k k0 k1 => ?_, fun i hi => ?_, trivial⟩
    · simp only [ms_ne hsd]
      rcases (show k = 0 ∨ k = 1 ∨ k = 2 ∨ k = 3 ∨ k = 4 ∨ k = 5 ∨ k = 6 ∨ k = 7 ∨ k = 8 ∨ k = 9 ∨ k = 10 by omega) with rfl | rfl | rfl | rfl | rfl | rfl | rfl | rfl | rfl | rfl | rfl <;> simp [ms_at]
    · simp only [ms_ne hi]
  unfold f_X2_copyFrom
  rw [hM]
  simp only [c60, c12, c05, bd_eq]
  refine ⟨_, rfl, fun k k0 k1 => ?_, fun q q0 q1 => ⟨?_, ?_⟩, fun q q0 q1 => ?_, fun j j0 j1 q q0 q1 => ?_, fun i hi => ?_⟩
  · iterate 9 rw [mc_off (by omega)]
    exact m1 k k0 k1
  · iterate 8 rw [mc_off (by omega)]
    rw [mc_in q0 q1, m2 _ (by omega)]
  · iterate 7 rw [mc_off (by omega)]
    rw [mc_in q0 q1, mc_off (by omega), m2 _ (by omega)]
  · iterate 6 rw [mc_off (by omega)]
    rw [mc_in q0 q1, mc_off (by omega), mc_off (by omega), m2 _ (by omega)]
  · rcases (show j = 4 ∨ j = 5 ∨ j = 6 ∨ j = 7 ∨ j = 8 ∨ j = 9 by omega) with rfl | rfl | rfl | rfl | rfl | rfl
    · iterate 5 rw [mc_off (by omega)]
      rw [mc_in q0 q1]
      iterate 3 rw [mc_off (by omega)]
      rw [m2 _ (by omega)]
    · iterate 4 rw [mc_off (by omega)]
      rw [mc_in q0 q1]
      iterate 4 rw [mc_off (by omega)]
      rw [m2 _ (by omega)]
    · iterate 3 rw [mc_off (by omega)]
      rw [mc_in q0 q1]
      iterate 5 rw [mc_off (by omega)]
      rw [m2 _ (by omega)]
    · iterate 2 rw [mc_off (by omega)]
      rw [mc_in q0 q1]
      iterate 6 rw [mc_off (by omega)]
      rw [m2 _ (by omega)]
    · iterate 1 rw [mc_off (by omega)]
      rw [mc_in q0 q1]
      iterate 7 rw [mc_off (by omega)]
      rw [m2 _ (by omega)]
    · rw [mc_in q0 q1]
      iterate 8 rw [mc_off (by omega)]
      rw [m2 _ (by omega)]
  · iterate 9 rw [mc_off (by omega)]
    exact m2 i (by omega)
theorem copyU_eq {X : Mem} {d s : Int} (h : s + 5 ≤ d ∨ d + 5 ≤ s) : ∃ Y : Mem, f_X4_copyFrom d s X = some (0, Y) ∧ (Y d 0 = X s 0 ∧ Y d 1 = X s 1) ∧ (∀ j : Int, 1 ≤ j → j ≤ 4 → ∀ q : Int, 0 ≤ q → q < 60 → Y (d + j) q = X (s + j) q) ∧ (∀ i : Int, i < d ∨ d + 4 < i → Y i = X i) := by
  have hsd : s ≠ d := by omega
  unfold f_X4_copyFrom
  simp only [c60, bd_eq]
  refine ⟨_, rfl, ⟨?_, ?_⟩, fun j j0 j1 q q0 q1 => ?_, fun i hi => ?_⟩
  · iterate 4 rw [mc_off (by omega)]
    rw [ms_at, if_neg (by omega), ms_at, if_pos ⟨rfl, rfl⟩]
  · iterate 4 rw [mc_off (by omega)]
    rw [ms_at, if_pos ⟨rfl, rfl⟩, ms_ne hsd]
  · rcases (show j = 1 ∨ j = 2 ∨ j = 3 ∨ j = 4 by omega) with rfl | rfl | rfl | rfl
    · iterate 3 rw [mc_off (by omega)]
      rw [mc_in q0 q1, ms_ne (by omega), ms_ne (by omega)]
    · iterate 2 rw [mc_off (by omega)]
      rw [mc_in q0 q1, mc_off (by omega), ms_ne (by omega), ms_ne (by omega)]
    · iterate 1 rw [mc_off (by omega)]
      rw [mc_in q0 q1, mc_off (by omega), mc_off (by omega), ms_ne (by omega), ms_ne (by omega)]
    · rw [mc_in q0 q1]
      iterate 3 rw [mc_off (by omega)]
      rw [ms_ne (by omega), ms_ne (by omega)]
  · iterate 4 rw [mc_off (by omega)]
    rw [ms_ne (by omega), ms_ne (by omega)]
theorem RV.copy {X Y : Mem} {r r' : Int} {A : Int → Int} (h : RV X r A) (hB : BD A) (e0 : ∀ k : Int, 0 ≤ k → k ≤ 10 → Y r' k = X r k) (e1 : ∀ q : Int, 0 ≤ q → q < 60 → Y (r' + 1) q = X (r + 1) q ∧ Y (r' + 2) q = X (r + 2) q) (e3 : ∀ q : Int, 0 ≤ q → q < 12 → Y (r' + 3) q = X (r + 3) q) (e4 : ∀ j : Int, 4 ≤ j → j ≤ 9 → ∀ q : Int, 0 ≤ q → q < 5 → Y (r' + j) q = X (r + j) q) : RV Y r' A := by
  have hA := hB.2.1
  obtain ⟨h1, h2, h3, h4, h5, h6, h7⟩ := h
  unfold RV
  rw [e0 0 (by decide) (by decide), e0 1 (by decide) (by decide), e0 2 (by decide) (by decide), e0 3 (by decide) (by decide), e0 4 (by decide) (by decide), e0 5 (by decide) (by decide), e0 6 (by decide) (by decide), e0 7 (by decide) (by decide), e0 8 (by decide) (by decide), e0 9 (by decide) (by decide), e0 10 (by decide) (by decide)]
  refine ⟨h1, fun c a b => ?_, fun c a b => ?_, fun d a b => ?_, fun c a b => ?_, fun c a b => ?_, fun c a b => ?_⟩
  · rw [(e1 c a b).1]; exact h2 c a b
  · rw [(e1 c a b).2]; exact h3 c a b
  · rw [e3 d a b]; exact h4 d a b
  · rw [e4 5 (by decide) (by decide) c a (by omega), e4 6 (by decide) (by decide) c a (by omega), e4 7 (by decide) (by decide) c a (by omega), e4 8 (by decide) (by decide) c a (by omega)]; exact h5 c a b
  · rw [e4 9 (by decide) (by decide) c a (by omega)]; exact h6 c a b
  · rw [e4 5 (by decide) (by decide) c a b, e4 6 (by decide) (by decide) c a b, e4 7 (by decide) (by decide) c a b, e4 8 (by decide) (by decide) c a b]; exact h7 c a b
theorem RU.copy {X Y : Mem} {u u' : Int} {A : Int → Int} (h : RU X u A) (hB : BD A) (e0 : Y u' 0 = X u 0) (e1 : ∀ j : Int, 1 ≤ j → j ≤ 4 → ∀ q : Int, 0 ≤ q → q < 60 → Y (u' + j) q = X (u + j) q) : RU Y u' A := by
  obtain ⟨-, -, -, -, -, -, -, -, -, -, -, -, -, h14, -⟩ := hB
  obtain ⟨h1, h2⟩ := h
  unfold RU
  rw [e0]
  refine ⟨h1, fun k a b => ?_⟩
  have h3 := h2 k a b
  unfold LN at *
  rw [e1 1 (by decide) (by decide) k a (by omega), e1 2 (by decide) (by decide) k a (by omega), e1 3 (by decide) (by decide) k a (by omega), e1 4 (by decide) (by decide) k a (by omega)]
  exact h3
theorem TH.row {P Q A : Int → Int} (h : TH P A) (e : ∀ q : Int, 0 ≤ q → q < 32 → Q q = P q) (hN : 1 ≤ NS A ∧ NS A ≤ 32) : TH Q A := by
  obtain ⟨h1, h2, h3, h4⟩ := h
  refine ⟨fun q a b => by rw [e q a b]; exact h1 q a b, by rw [sm_ext 32 e]; exact h2, fun q a b => by rw [e q (by omega) b]; exact h3 q a b, fun q a b => by rw [e q a (by omega)]; exact h4 q a b⟩
/-- a state's copy -/
theorem copyS {X : Mem} {d s rd rs ud us : Int} {A Nm : Int → Int} (r1 : X d 0 = rd) (r2 : X s 0 = rs) (u1 : X d 1 = ud) (u2 : X s 1 = us) (m1 : rd ∈ RIV) (m2 : rs ∈ RIV) (m3 : ud ∈ RUL) (m4 : us ∈ RUL) (hne : s ≠ d) (hs16 : s ≠ d + 16) (k1 : rs + 10 ≤ rd ∨ rd + 10 ≤ rs) (k2 : us + 5 ≤ ud ∨ ud + 5 ≤ us)
    (hx : ∀ x : Int, (x = d ∨ x = s ∨ x = s + 16) → (x < rd ∨ rd + 9 < x) ∧ (x < ud ∨ ud + 4 < x)) (hr : ∀ i : Int, rd ≤ i → i ≤ rd + 9 → i ≠ d ∧ i ≠ d + 16 ∧ (i < ud ∨ ud + 4 < i)) (hu : ∀ i : Int, ud ≤ i → i ≤ ud + 4 → i ≠ d ∧ i ≠ d + 16) (hus : ∀ i : Int, us ≤ i → i ≤ us + 4 → i < rd ∨ rd + 9 < i) (h : SS X s A Nm) :
    ∃ Y : Mem, f_X7_copyFrom d s X = some (0, Y) ∧ SS Y d A Nm ∧ (∀ k : Int, k ≠ 3 → k ≠ 4 → Y d k = X d k) ∧ (∀ i : Int, i ≠ d → i ≠ d + 16 → (i < rd ∨ rd + 9 < i) → (i < ud ∨ ud + 4 < i) → Y i = X i) := by
  obtain ⟨s1, s2, s3, s4, s5, s6, s7⟩ := h
  rw [r2] at s3 s7
  rw [u2] at s4
  have hN := NS_r s6.2.1
  have hA := s6.2.1
  obtain ⟨M, a1, a2, a3, a4, a5, a6⟩ := copyR_eq (X := X) (d := rd) (s := rs) k1
  have md : M d = X d := a6 d (hx d (Or.inl rfl)).1
  have mS : M s = X s := a6 s (hx s (Or.inr (Or.inl rfl))).1
  obtain ⟨O, b1, b2, b3, b4⟩ := copyU_eq (X := M) (d := ud) (s := us) k2
  have od : O d = X d := by rw [b4 d (hx d (Or.inl rfl)).2, md]
  have os : O s = X s := by rw [b4 s (hx s (Or.inr (Or.inl rfl))).2, mS]
  clear k1 k2
  have hf : f_X7_copyFrom d s X = some (0, ms (ms (mc O (s + 16) 0 (d + 16) 0 32) d 3 (A 3)) d 4 (A 4)) := by
    unfold f_X7_copyFrom f_X11_copyParts
    rw [r1, r2, cm_ok m1, cm_ok m2, a1, cl_some, md, mS, u1, u2, cm_ok m3, cm_ok m4, b1, cl_some, c32, bd_eq, cl_some, bd_eq, bd_eq, ms_ne hne, mc_off hs16, os, s1, s2]
  have fr : ∀ i : Int, i ≠ d → i ≠ d + 16 → ms (ms (mc O (s + 16) 0 (d + 16) 0 32) d 3 (A 3)) d 4 (A 4) i = O i := fun i i1 i2 => by
    rw [ms_ne i1, ms_ne i1, mc_off i2]
  have fd : ∀ k : Int, k ≠ 3 → k ≠ 4 → ms (ms (mc O (s + 16) 0 (d + 16) 0 32) d 3 (A 3)) d 4 (A 4) d k = X d k := fun k k1 k2 => by
    rw [ms_at, if_neg (fun e => k2 e.2), ms_at, if_neg (fun e => k1 e.2), mc_off (show d ≠ d + 16 by omega), od]
  have frr : ∀ i : Int, rd ≤ i → i ≤ rd + 9 → ms (ms (mc O (s + 16) 0 (d + 16) 0 32) d 3 (A 3)) d 4 (A 4) i = M i := fun i i1 i2 => by
    have := hr i i1 i2
    rw [fr i this.1 this.2.1, b4 i this.2.2]
  have fru : ∀ i : Int, ud ≤ i → i ≤ ud + 4 → ms (ms (mc O (s + 16) 0 (d + 16) 0 32) d 3 (A 3)) d 4 (A 4) i = O i := fun i i1 i2 => by
    have := hu i i1 i2
    rw [fr i this.1 this.2]
  refine ⟨_, hf, ⟨?_, ?_, ?_, ?_, ?_, s6, fun b b0 b1 => ?_⟩, fd, fun i i1 i2 i3 i4 => by rw [fr i i1 i2, b4 i i4, a6 i i3]⟩
  · rw [ms_at, if_neg (fun e => absurd e.2 (by decide)), ms_at, if_pos ⟨rfl, rfl⟩]
  · rw [ms_at, if_pos ⟨rfl, rfl⟩]
  · rw [fd 0 (by decide) (by decide), r1]
    refine s3.copy s6 (fun k k0 k1 => ?_) (fun q q0 q1 => ⟨?_, ?_⟩) (fun q q0 q1 => ?_) (fun j j0 j1 q q0 q1 => ?_)
    · rw [frr rd (by omega) (by omega)]; exact a2 k k0 k1
    · rw [frr _ (by omega) (by omega)]; exact (a3 q q0 q1).1
    · rw [frr _ (by omega) (by omega)]; exact (a3 q q0 q1).2
    · rw [frr _ (by omega) (by omega)]; exact a4 q q0 q1
    · rw [frr _ (by omega) (by omega)]; exact a5 j j0 j1 q q0 q1
  · rw [fd 1 (by decide) (by decide), u1]
    refine s4.copy s6 ?_ (fun j j0 j1 q q0 q1 => ?_)
    · rw [fru ud (by omega) (by omega), b2.1, a6 us (hus us (by omega) (by omega))]
    · rw [fru _ (by omega) (by omega), b3 j j0 j1 q q0 q1, a6 _ (hus _ (by omega) (by omega))]
  · have k16 := hx (s + 16) (Or.inr (Or.inr rfl))
    refine s5.row (fun q q0 q1 => ?_) hN
    rw [ms_ne (show d + 16 ≠ d by omega), ms_ne (show d + 16 ≠ d by omega), mc_in q0 q1, b4 _ k16.2, a6 _ k16.1]
  · rw [fd 0 (by decide) (by decide), r1, frr _ (by omega) (by omega), a5 4 (by decide) (by decide) b b0 (by omega)]
    exact s7 b b0 b1
/-- the reference's copy of a slot -/
theorem copies_2 {Z : Mem} {x y : Int} (hx : 0 ≤ x ∧ x < 5) (hy : 0 ≤ y ∧ y < 5) (hne : x ≠ y) : ∀ (k : Nat) (q : Int) (G : Int → Int), 0 ≤ q → q ≤ 440 → (440 - q).toNat < k → (∀ s : Int, 0 ≤ s → s < q → G (440 * y + s) = Z 121 (440 * x + s)) → (∀ s : Int, s < 440 * y ∨ 440 * y + 440 ≤ s → G s = Z 121 s) →
    ∃ G' : Int → Int, L_X12_copies_2 k x y q (ma Z 121 G) = B_X12_copies_39 x y (ma Z 121 G') ∧ (∀ s : Int, 0 ≤ s → s < 440 → G' (440 * y + s) = Z 121 (440 * x + s)) ∧ (∀ s : Int, s < 440 * y ∨ 440 * y + 440 ≤ s → G' s = Z 121 s) := by
  intro k
  induction k with
  | zero => intro q G _ _ h; omega
  | succ k ih =>
    intro q G q0 q1 hk hG hO
    rw [L_X12_copies_2, c2_ok (by omega) (by omega) (by decide) (by decide)]
    by_cases g : 440 ≤ q
    · rw [if_pos g]
      exact ⟨G, rfl, fun s s0 s1 => hG s s0 (by omega), hO⟩
    · rw [if_neg g, ax_ok (by omega) (by omega), ax_ok (by omega) (by omega), bd_eq, ms_row, ma_same, hO (440 * x + q) (by omega)]
      refine ih (q + 1) _ (by omega) (by omega) (by omega) (fun s s0 s1 => ?_) (fun s hs => ?_)
      · rw [up_at]
        by_cases e : s = q
        · rw [if_pos (by omega), e]
        · rw [if_neg (by omega)]
          exact hG s s0 (by omega)
      · rw [up_ne (by omega)]
        exact hO s hs
theorem copies_41 {Z : Mem} {x y : Int} (hx : 0 ≤ x ∧ x < 5) (hy : 0 ≤ y ∧ y < 5) (hne : x ≠ y) : ∀ (k : Nat) (q : Int) (G : Int → Int), 0 ≤ q → q ≤ 5 → (5 - q).toNat < k → (∀ s : Int, 0 ≤ s → s < q → G (5 * y + s) = Z 122 (5 * x + s)) → (∀ s : Int, s < 5 * y ∨ 5 * y + 5 ≤ s → G s = Z 122 s) →
    ∃ G' : Int → Int, L_X12_copies_41 k x y q (ma Z 122 G) = some (0, ma Z 122 G') ∧ (∀ s : Int, 0 ≤ s → s < 5 → G' (5 * y + s) = Z 122 (5 * x + s)) ∧ (∀ s : Int, s < 5 * y ∨ 5 * y + 5 ≤ s → G' s = Z 122 s) := by
  intro k
  induction k with
  | zero => intro q G _ _ h; omega
  | succ k ih =>
    intro q G q0 q1 hk hG hO
    rw [L_X12_copies_41, c2_ok (by omega) (by omega) (by decide) (by decide)]
    by_cases g : 5 ≤ q
    · rw [if_pos g]
      exact ⟨G, rfl, fun s s0 s1 => hG s s0 (by omega), hO⟩
    · rw [if_neg g, ax_ok (by omega) (by omega), ax_ok (by omega) (by omega), bd_eq, ms_row, ma_same, hO (5 * x + q) (by omega)]
      refine ih (q + 1) _ (by omega) (by omega) (by omega) (fun s s0 s1 => ?_) (fun s hs => ?_)
      · rw [up_at]
        by_cases e : s = q
        · rw [if_pos (by omega), e]
        · rw [if_neg (by omega)]
          exact hG s s0 (by omega)
      · rw [up_ne (by omega)]
        exact hO s hs
theorem copies_eq {Z : Mem} {x y : Int} (hx : 0 ≤ x ∧ x < 5) (hy : 0 ≤ y ∧ y < 5) (hne : x ≠ y) : ∃ Y : Mem, f_X12_copies x y Z = some (0, Y) ∧ (∀ i : Int, i ≠ 121 → i ≠ 122 → Y i = Z i) ∧ (∀ s : Int, 0 ≤ s → s < 440 → Y 121 (440 * y + s) = Z 121 (440 * x + s)) ∧ (∀ s : Int, s < 440 * y ∨ 440 * y + 440 ≤ s → Y 121 s = Z 121 s) ∧ (∀ s : Int, 0 ≤ s → s < 5 → Y 122 (5 * y + s) = Z 122 (5 * x + s)) ∧ (∀ s : Int, s < 5 * y ∨ 5 * y + 5 ≤ s → Y 122 s = Z 122 s) := by
  obtain ⟨G, g1, g2, g3⟩ := copies_2 (Z := Z) hx hy hne KF 0 (Z 121) (by decide) (by decide) (by rw [KF_eq]; omega) (fun s _ _ => by omega) (fun s _ => rfl)
  rw [ma_self] at g1
  obtain ⟨H, h1, h2, h3⟩ := copies_41 (Z := ma Z 121 G) hx hy hne KF 0 (Z 122) (by decide) (by decide) (by rw [KF_eq]; omega) (fun s _ _ => by omega) (fun s _ => by rw [ma_ne (by decide)])
  have e1 : ma (ma Z 121 G) 122 (Z 122) = ma Z 121 G := by
    have := ma_self (X := ma Z 121 G) (i := 122)
    rw [ma_ne (by decide)] at this
    exact this
  rw [e1] at h1
  refine ⟨ma (ma Z 121 G) 122 H, ?_, fun i i1 i2 => by rw [ma_ne i2, ma_ne i1], fun s s0 s1 => ?_, fun s hs => ?_, fun s s0 s1 => ?_, fun s hs => ?_⟩
  · unfold f_X12_copies
    rw [g1, B_X12_copies_39, h1]
  · rw [ma_ne (by decide), ma_same]; exact g2 s s0 s1
  · rw [ma_ne (by decide), ma_same]; exact g3 s hs
  · rw [ma_same, h2 s s0 s1, ma_ne (by decide)]
  · rw [ma_same, h3 s hs, ma_ne (by decide)]
