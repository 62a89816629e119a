/-! marks: a state copied -/
theorem c60 {β : Type} {k : Option β} : cpk 60 60 0 0 60 k = k := cpk_ok (by decide) (by decide) (by decide) (by decide) (by decide)
theorem c12 {β : Type} {k : Option β} : cpk 12 12 0 0 12 k = k := cpk_ok (by decide) (by decide) (by decide) (by decide) (by decide)
theorem c05 {β : Type} {k : Option β} : cpk 5 5 0 0 5 k = k := cpk_ok (by decide) (by decide) (by decide) (by decide) (by decide)
theorem c32 {β : Type} {k : Option β} : cpk 32 32 0 0 32 k = k := cpk_ok (by decide) (by decide) (by decide) (by decide) (by decide)
theorem mc_in {X : Mem} {i j n q : Int} (q0 : 0 ≤ q) (q1 : q < n) : mc X i 0 j 0 n j q = X i q := by
  rw [mc_on, if_pos ⟨q0, by omega⟩]
  congr 1
  omega
theorem copyR_eq {X : Mem} {d s : Int} (h : s + 10 ≤ d ∨ d + 10 ≤ s) : ∃ Y : Mem, f_X2_copyFrom d s X = some (0, Y) ∧ (∀ k : Int, 0 ≤ k → k ≤ 10 → Y d k = X s k) ∧ (∀ q : Int, 0 ≤ q → q < 60 → Y (d + 1) q = X (s + 1) q ∧ Y (d + 2) q = X (s + 2) q) ∧ (∀ q : Int, 0 ≤ q → q < 12 → Y (d + 3) q = X (s + 3) q) ∧ (∀ j : Int, 4 ≤ j → j ≤ 9 → ∀ q : Int, 0 ≤ q → q < 5 → Y (d + j) q = X (s + j) q) ∧ (∀ i : Int, i < d ∨ d + 9 < i → Y i = X i) := by
  have hsd : s ≠ d := by omega
  obtain ⟨M, hM, m1, m2, m3⟩ : ∃ M : Mem, (∀ (β : Type) (k : Mem → Option β), (bd (ms X d 0 (X s 0)) fun X1 => bd (ms X1 d 1 (X1 s 1)) fun X2 => bd (ms X2 d 2 (X2 s 2)) fun X3 => bd (ms X3 d 3 (X3 s 3)) fun X4 => bd (ms X4 d 4 (X4 s 4)) fun X5 => bd (ms X5 d 5 (X5 s 5)) fun X6 => bd (ms X6 d 6 (X6 s 6)) fun X7 => bd (ms X7 d 7 (X7 s 7)) fun X8 => bd (ms X8 d 8 (X8 s 8)) fun X9 => bd (ms X9 d 9 (X9 s 9)) fun X10 => bd (ms X10 d 10 (X10 s 10)) k) = k M) ∧ (∀ k : Int, 0 ≤ k → k ≤ 10 → M d k = X s k) ∧ (∀ i : Int, i ≠ d → M i = X i) ∧ True := by
    refine ⟨_, fun β k => rfl, fun k k0 k1 => ?_, fun i hi => ?_, trivial⟩
    · simp only [ms_ne hsd]
      rcases (show k = 0 ∨ k = 1 ∨ k = 2 ∨ k = 3 ∨ k = 4 ∨ k = 5 ∨ k = 6 ∨ k = 7 ∨ k = 8 ∨ k = 9 ∨ k = 10 by omega) with rfl | rfl | rfl | rfl | rfl | rfl | rfl | rfl | rfl | rfl | rfl <;> simp [ms_at]
    · simp only [ms_ne hi]
  unfold f_X2_copyFrom
  rw [hM]
  simp only [c60, c12, c05, bd_eq]
  refine ⟨_, rfl, fun k k0 k1 => ?_, fun q q0 q1 => ⟨?_, ?_⟩, fun q q0 q1 => ?_, fun j j0 j1 q q0 q1 => ?_, fun i hi => ?_⟩
  · iterate 9 rw [mc_off (by omega)]
    exact m1 k k0 k1
  · iterate 8 rw [mc_off (by omega)]
    rw [mc_in q0 q1, m2 _ (by omega)]
  · iterate 7 rw [mc_off (by omega)]
    rw [mc_in q0 q1, mc_off (by omega), m2 _ (by omega)]
  · iterate 6 rw [mc_off (by omega)]
    rw [mc_in q0 q1, mc_off (by omega), mc_off (by omega), m2 _ (by omega)]
  · rcases (show j = 4 ∨ j = 5 ∨ j = 6 ∨ j = 7 ∨ j = 8 ∨ j = 9 by omega) with rfl | rfl | rfl | rfl | rfl | rfl
    · iterate 5 rw [mc_off (by omega)]
      rw [mc_in q0 q1]
      iterate 3 rw [mc_off (by omega)]
      rw [m2 _ (by omega)]
    · iterate 4 rw [mc_off (by omega)]
      rw [mc_in q0 q1]
      iterate 4 rw [mc_off (by omega)]
      rw [m2 _ (by omega)]
    · iterate 3 rw [mc_off (by omega)]
      rw [mc_in q0 q1]
      iterate 5 rw [mc_off (by omega)]
      rw [m2 _ (by omega)]
    · iterate 2 rw [mc_off (by omega)]
      rw [mc_in q0 q1]
      iterate 6 rw [mc_off (by omega)]
      rw [m2 _ (by omega)]
    · iterate 1 rw [mc_off (by omega)]
      rw [mc_in q0 q1]
      iterate 7 rw [mc_off (by omega)]
      rw [m2 _ (by omega)]
    · rw [mc_in q0 q1]
      iterate 8 rw [mc_off (by omega)]
      rw [m2 _ (by omega)]
  · iterate 9 rw [mc_off (by omega)]
    exact m2 i (by omega)
theorem copyU_eq {X : Mem} {d s : Int} (h : s + 5 ≤ d ∨ d + 5 ≤ s) : ∃ Y : Mem, f_X4_copyFrom d s X = some (0, Y) ∧ (Y d 0 = X s 0 ∧ Y d 1 = X s 1) ∧ (∀ j : Int, 1 ≤ j → j ≤ 4 → ∀ q : Int, 0 ≤ q → q < 60 → Y (d + j) q = X (s + j) q) ∧ (∀ i : Int, i < d ∨ d + 4 < i → Y i = X i) := by
  have hsd : s ≠ d := by omega
  unfold f_X4_copyFrom
  simp only [c60, bd_eq]
  refine ⟨_, rfl, ⟨?_, ?_⟩, fun j j0 j1 q q0 q1 => ?_, fun i hi => ?_⟩
  · iterate 4 rw [mc_off (by omega)]
    rw [ms_at, if_neg (by omega), ms_at, if_pos ⟨rfl, rfl⟩]
  · iterate 4 rw [mc_off (by omega)]
    rw [ms_at, if_pos ⟨rfl, rfl⟩, ms_ne hsd]
  · rcases (show j = 1 ∨ j = 2 ∨ j = 3 ∨ j = 4 by omega) with rfl | rfl | rfl | rfl
    · iterate 3 rw [mc_off (by omega)]
      rw [mc_in q0 q1, ms_ne (by omega), ms_ne (by omega)]
    · iterate 2 rw [mc_off (by omega)]
      rw [mc_in q0 q1, mc_off (by omega), ms_ne (by omega), ms_ne (by omega)]
    · iterate 1 rw [mc_off (by omega)]
      rw [mc_in q0 q1, mc_off (by omega), mc_off (by omega), ms_ne (by omega), ms_ne (by omega)]
    · rw [mc_in q0 q1]
      iterate 3 rw [mc_off (by omega)]
      rw [ms_ne (by omega), ms_ne (by omega)]
  · iterate 4 rw [mc_off (by omega)]
    rw [ms_ne (by omega), ms_ne (by omega)]
theorem RV.copy {X Y : Mem} {r r' : Int} {A : Int → Int} (h : RV X r A) (hB : BD A) (e0 : ∀ k : Int, 0 ≤ k → k ≤ 10 → Y r' k = X r k) (e1 : ∀ q : Int, 0 ≤ q → q < 60 → Y (r' + 1) q = X (r + 1) q ∧ Y (r' + 2) q = X (r + 2) q) (e3 : ∀ q : Int, 0 ≤ q → q < 12 → Y (r' + 3) q = X (r + 3) q) (e4 : ∀ j : Int, 4 ≤ j → j ≤ 9 → ∀ q : Int, 0 ≤ q → q < 5 → Y (r' + j) q = X (r + j) q) : RV Y r' A := by
  have hA := hB.2.1
  obtain ⟨h1, h2, h3, h4, h5, h6, h7⟩ := h
  unfold RV
  rw [e0 0 (by decide) (by decide), e0 1 (by decide) (by decide), e0 2 (by decide) (by decide), e0 3 (by decide) (by decide), e0 4 (by decide) (by decide), e0 5 (by decide) (by decide), e0 6 (by decide) (by decide), e0 7 (by decide) (by decide), e0 8 (by decide) (by decide), e0 9 (by decide) (by decide), e0 10 (by decide) (by decide)]
  refine ⟨h1, fun c a b => ?_, fun c a b => ?_, fun d a b => ?_, fun c a b => ?_, fun c a b => ?_, fun c a b => ?_⟩
  · rw [(e1 c a b).1]; exact h2 c a b
  · rw [(e1 c a b).2]; exact h3 c a b
  · rw [e3 d a b]; exact h4 d a b
  · rw [e4 5 (by decide) (by decide) c a (by omega), e4 6 (by decide) (by decide) c a (by omega), e4 7 (by decide) (by decide) c a (by omega), e4 8 (by decide) (by decide) c a (by omega)]; exact h5 c a b
  · rw [e4 9 (by decide) (by decide) c a (by omega)]; exact h6 c a b
  · rw [e4 5 (by decide) (by decide) c a b, e4 6 (by decide) (by decide) c a b, e4 7 (by decide) (by decide) c a b, e4 8 (by decide) (by decide) c a b]; exact h7 c a b
theorem RU.copy {X Y : Mem} {u u' : Int} {A : Int → Int} (h : RU X u A) (hB : BD A) (e0 : Y u' 0 = X u 0) (e1 : ∀ j : Int, 1 ≤ j → j ≤ 4 → ∀ q : Int, 0 ≤ q → q < 60 → Y (u' + j) q = X (u + j) q) : RU Y u' A := by
  obtain ⟨-, -, -, -, -, -, -, -, -, -, -, -, -, h14, -⟩ := hB
  obtain ⟨h1, h2⟩ := h
  unfold RU
  rw [e0]
  refine ⟨h1, fun k a b => ?_⟩
  have h3 := h2 k a b
  unfold LN at *
  rw [e1 1 (by decide) (by decide) k a (by omega), e1 2 (by decide) (by decide) k a (by omega), e1 3 (by decide) (by decide) k a (by omega), e1 4 (by decide) (by decide) k a (by omega)]
  exact h3
theorem TH.row {P Q A : Int → Int} (h : TH P A) (e : ∀ q : Int, 0 ≤ q → q < 32 → Q q = P q) (hN : 1 ≤ NS A ∧ NS A ≤ 32) : TH Q A := by
  obtain ⟨h1, h2, h3, h4⟩ := h
  refine ⟨fun q a b => by rw [e q a b]; exact h1 q a b, by rw [sm_ext 32 e]; exact h2, fun q a b => by rw [e q (by omega) b]; exact h3 q a b, fun q a b => by rw [e q a (by omega)]; exact h4 q a b⟩
/-- a state's copy -/
theorem copyS {X : Mem} {d s rd rs ud us : Int} {A Nm : Int → Int} (r1 : X d 0 = rd) (r2 : X s 0 = rs) (u1 : X d 1 = ud) (u2 : X s 1 = us) (m1 : rd ∈ RIV) (m2 : rs ∈ RIV) (m3 : ud ∈ RUL) (m4 : us ∈ RUL) (hne : s ≠ d) (hs16 : s ≠ d + 16) (k1 : rs + 10 ≤ rd ∨ rd + 10 ≤ rs) (k2 : us + 5 ≤ ud ∨ ud + 5 ≤ us)
    (hx : ∀ x : Int, (x = d ∨ x = s ∨ x = s + 16) → (x < rd ∨ rd + 9 < x) ∧ (x < ud ∨ ud + 4 < x)) (hr : ∀ i : Int, rd ≤ i → i ≤ rd + 9 → i ≠ d ∧ i ≠ d + 16 ∧ (i < ud ∨ ud + 4 < i)) (hu : ∀ i : Int, ud ≤ i → i ≤ ud + 4 → i ≠ d ∧ i ≠ d + 16) (hus : ∀ i : Int, us ≤ i → i ≤ us + 4 → i < rd ∨ rd + 9 < i) (h : SS X s A Nm) :
    ∃ Y : Mem, f_X7_copyFrom d s X = some (0, Y) ∧ SS Y d A Nm ∧ (∀ k : Int, k ≠ 3 → k ≠ 4 → Y d k = X d k) ∧ (∀ i : Int, i ≠ d → i ≠ d + 16 → (i < rd ∨ rd + 9 < i) → (i < ud ∨ ud + 4 < i) → Y i = X i) := by
  obtain ⟨s1, s2, s3, s4, s5, s6, s7⟩ := h
  rw [r2] at s3 s7
  rw [u2] at s4
  have hN := NS_r s6.2.1
  have hA := s6.2.1
  obtain ⟨M, a1, a2, a3, a4, a5, a6⟩ := copyR_eq (X := X) (d := rd) (s := rs) k1
  have md : M d = X d := a6 d (hx d (Or.inl rfl)).1
  have mS : M s = X s := a6 s (hx s (Or.inr (Or.inl rfl))).1
  obtain ⟨O, b1, b2, b3, b4⟩ := copyU_eq (X := M) (d := ud) (s := us) k2
  have od : O d = X d := by rw [b4 d (hx d (Or.inl rfl)).2, md]
  have os : O s = X s := by rw [b4 s (hx s (Or.inr (Or.inl rfl))).2, mS]
  clear k1 k2
  have hf : f_X7_copyFrom d s X = some (0, ms (ms (mc O (s + 16) 0 (d + 16) 0 32) d 3 (A 3)) d 4 (A 4)) := by
    unfold f_X7_copyFrom f_X11_copyParts
    rw [r1, r2, cm_ok m1, cm_ok m2, a1, cl_some, md, mS, u1, u2, cm_ok m3, cm_ok m4, b1, cl_some, c32, bd_eq, cl_some, bd_eq, bd_eq, ms_ne hne, mc_off hs16, os, s1, s2]
  have fr : ∀ i : Int, i ≠ d → i ≠ d + 16 → ms (ms (mc O (s + 16) 0 (d + 16) 0 32) d 3 (A 3)) d 4 (A 4) i = O i := fun i i1 i2 => by
    rw [ms_ne i1, ms_ne i1, mc_off i2]
  have fd : ∀ k : Int, k ≠ 3 → k ≠ 4 → ms (ms (mc O (s + 16) 0 (d + 16) 0 32) d 3 (A 3)) d 4 (A 4) d k = X d k := fun k k1 k2 => by
    rw [ms_at, if_neg (fun e => k2 e.2), ms_at, if_neg (fun e => k1 e.2), mc_off (show d ≠ d + 16 by omega), od]
  have frr : ∀ i : Int, rd ≤ i → i ≤ rd + 9 → ms (ms (mc O (s + 16) 0 (d + 16) 0 32) d 3 (A 3)) d 4 (A 4) i = M i := fun i i1 i2 => by
    have := hr i i1 i2
    rw [fr i this.1 this.2.1, b4 i this.2.2]
  have fru : ∀ i : Int, ud ≤ i → i ≤ ud + 4 → ms (ms (mc O (s + 16) 0 (d + 16) 0 32) d 3 (A 3)) d 4 (A 4) i = O i := fun i i1 i2 => by
    have := hu i i1 i2
    rw [fr i this.1 this.2]
  refine ⟨_, hf, ⟨?_, ?_, ?_, ?_, ?_, s6, fun b b0 b1 => ?_⟩, fd, fun i i1 i2 i3 i4 => by rw [fr i i1 i2, b4 i i4, a6 i i3]⟩
  · rw [ms_at, if_neg (fun e => absurd e.2 (by decide)), ms_at, if_pos ⟨rfl, rfl⟩]
  · rw [ms_at, if_pos ⟨rfl, rfl⟩]
  · rw [fd 0 (by decide) (by decide), r1]
    refine s3.copy s6 (fun k k0 k1 => ?_) (fun q q0 q1 => ⟨?_, ?_⟩) (fun q q0 q1 => ?_) (fun j j0 j1 q q0 q1 => ?_)
    · rw [frr rd (by omega) (by omega)]; exact a2 k k0 k1
    · rw [frr _ (by omega) (by omega)]; exact (a3 q q0 q1).1
    · rw [frr _ (by omega) (by omega)]; exact (a3 q q0 q1).2
    · rw [frr _ (by omega) (by omega)]; exact a4 q q0 q1
    · rw [frr _ (by omega) (by omega)]; exact a5 j j0 j1 q q0 q1
  · rw [fd 1 (by decide) (by decide), u1]
    refine s4.copy s6 ?_ (fun j j0 j1 q q0 q1 => ?_)
    · rw [fru ud (by omega) (by omega), b2.1, a6 us (hus us (by omega) (by omega))]
    · rw [fru _ (by omega) (by omega), b3 j j0 j1 q q0 q1, a6 _ (hus _ (by omega) (by omega))]
  · have k16 := hx (s + 16) (Or.inr (Or.inr rfl))
    refine s5.row (fun q q0 q1 => ?_) hN
    rw [ms_ne (show d + 16 ≠ d by omega), ms_ne (show d + 16 ≠ d by omega), mc_in q0 q1, b4 _ k16.2, a6 _ k16.1]
  · rw [fd 0 (by decide) (by decide), r1, frr _ (by omega) (by omega), a5 4 (by decide) (by decide) b b0 (by omega)]
    exact s7 b b0 b1
/-- the reference's copy of a slot -/
theorem copies_2 {Z : Mem} {x y : Int} (hx : 0 ≤ x ∧ x < 5) (hy : 0 ≤ y ∧ y < 5) (hne : x ≠ y) : ∀ (k : Nat) (q : Int) (G : Int → Int), 0 ≤ q → q ≤ 440 → (440 - q).toNat < k → (∀ s : Int, 0 ≤ s → s < q → G (440 * y + s) = Z 121 (440 * x + s)) → (∀ s : Int, s < 440 * y ∨ 440 * y + 440 ≤ s → G s = Z 121 s) →
    ∃ G' : Int → Int, L_X12_copies_2 k x y q (ma Z 121 G) = B_X12_copies_39 x y (ma Z 121 G') ∧ (∀ s : Int, 0 ≤ s → s < 440 → G' (440 * y + s) = Z 121 (440 * x + s)) ∧ (∀ s : Int, s < 440 * y ∨ 440 * y + 440 ≤ s → G' s = Z 121 s) := by
  intro k
  induction k with
  | zero => intro q G _ _ h; omega
  | succ k ih =>
    intro q G q0 q1 hk hG hO
    rw [L_X12_copies_2, c2_ok (by omega) (by omega) (by decide) (by decide)]
    by_cases g : 440 ≤ q
    · rw [if_pos g]
      exact ⟨G, rfl, fun s s0 s1 => hG s s0 (by omega), hO⟩
    · rw [if_neg g, ax_ok (by omega) (by omega), ax_ok (by omega) (by omega), bd_eq, ms_row, ma_same, hO (440 * x + q) (by omega)]
      refine ih (q + 1) _ (by omega) (by omega) (by omega) (fun s s0 s1 => ?_) (fun s hs => ?_)
      · rw [up_at]
        by_cases e : s = q
        · rw [if_pos (by omega), e]
        · rw [if_neg (by omega)]
          exact hG s s0 (by omega)
      · rw [up_ne (by omega)]
        exact hO s hs
theorem copies_41 {Z : Mem} {x y : Int} (hx : 0 ≤ x ∧ x < 5) (hy : 0 ≤ y ∧ y < 5) (hne : x ≠ y) : ∀ (k : Nat) (q : Int) (G : Int → Int), 0 ≤ q → q ≤ 5 → (5 - q).toNat < k → (∀ s : Int, 0 ≤ s → s < q → G (5 * y + s) = Z 122 (5 * x + s)) → (∀ s : Int, s < 5 * y ∨ 5 * y + 5 ≤ s → G s = Z 122 s) →
    ∃ G' : Int → Int, L_X12_copies_41 k x y q (ma Z 122 G) = some (0, ma Z 122 G') ∧ (∀ s : Int, 0 ≤ s → s < 5 → G' (5 * y + s) = Z 122 (5 * x + s)) ∧ (∀ s : Int, s < 5 * y ∨ 5 * y + 5 ≤ s → G' s = Z 122 s) := by
  intro k
  induction k with
  | zero => intro q G _ _ h; omega
  | succ k ih =>
    intro q G q0 q1 hk hG hO
    rw [L_X12_copies_41, c2_ok (by omega) (by omega) (by decide) (by decide)]
    by_cases g : 5 ≤ q
    · rw [if_pos g]
      exact ⟨G, rfl, fun s s0 s1 => hG s s0 (by omega), hO⟩
    · rw [if_neg g, ax_ok (by omega) (by omega), ax_ok (by omega) (by omega), bd_eq, ms_row, ma_same, hO (5 * x + q) (by omega)]
      refine ih (q + 1) _ (by omega) (by omega) (by omega) (fun s s0 s1 => ?_) (fun s hs => ?_)
      · rw [up_at]
        by_cases e : s = q
        · rw [if_pos (by omega), e]
        · rw [if_neg (by omega)]
          exact hG s s0 (by omega)
      · rw [up_ne (by omega)]
        exact hO s hs
theorem copies_eq {Z : Mem} {x y : Int} (hx : 0 ≤ x ∧ x < 5) (hy : 0 ≤ y ∧ y < 5) (hne : x ≠ y) : ∃ Y : Mem, f_X12_copies x y Z = some (0, Y) ∧ (∀ i : Int, i ≠ 121 → i ≠ 122 → Y i = Z i) ∧ (∀ s : Int, 0 ≤ s → s < 440 → Y 121 (440 * y + s) = Z 121 (440 * x + s)) ∧ (∀ s : Int, s < 440 * y ∨ 440 * y + 440 ≤ s → Y 121 s = Z 121 s) ∧ (∀ s : Int, 0 ≤ s → s < 5 → Y 122 (5 * y + s) = Z 122 (5 * x + s)) ∧ (∀ s : Int, s < 5 * y ∨ 5 * y + 5 ≤ s → Y 122 s = Z 122 s) := by
  obtain ⟨G, g1, g2, g3⟩ := copies_2 (Z := Z) hx hy hne KF 0 (Z 121) (by decide) (by decide) (by rw [KF_eq]; omega) (fun s _ _ => by omega) (fun s _ => rfl)
  rw [ma_self] at g1
  obtain ⟨H, h1, h2, h3⟩ := copies_41 (Z := ma Z 121 G) hx hy hne KF 0 (Z 122) (by decide) (by decide) (by rw [KF_eq]; omega) (fun s _ _ => by omega) (fun s _ => by rw [ma_ne (by decide)])
  have e1 : ma (ma Z 121 G) 122 (Z 122) = ma Z 121 G := by
    have := ma_self (X := ma Z 121 G) (i := 122)
    rw [ma_ne (by decide)] at this
    exact this
  rw [e1] at h1
  refine ⟨ma (ma Z 121 G) 122 H, ?_, fun i i1 i2 => by rw [ma_ne i2, ma_ne i1], fun s s0 s1 => ?_, fun s hs => ?_, fun s s0 s1 => ?_, fun s hs => ?_⟩
  · unfold f_X12_copies
    rw [g1, B_X12_copies_39, h1]
  · rw [ma_ne (by decide), ma_same]; exact g2 s s0 s1
  · rw [ma_ne (by decide), ma_same]; exact g3 s hs
  · rw [ma_same, h2 s s0 s1, ma_ne (by decide)]
  · rw [ma_same, h3 s hs, ma_ne (by decide)]
theorem tl_MST {n : Int} (n0 : 0 ≤ n) (n1 : n < 3) : tl MST n = 69 + 17 * n ∧ (69 + 17 * n) ∈ MST := by
  rcases (show n = 0 ∨ n = 1 ∨ n = 2 by omega) with rfl | rfl | rfl <;> decide
theorem q_mark : pair_44 REL := by
  intro cn X hcn h
  obtain ⟨hS, h1, h2, h3, h4, h5, h6, h7, h8, h9, h10, h11, h12, h13⟩ := h
  have hrel : REL cn X := ⟨hS, h1, h2, h3, h4, h5, h6, h7, h8, h9, h10, h11, h12, h13⟩
  obtain ⟨⟨c0, c1, c2⟩, hm⟩ := id h5
  have hp := h1.r
  have hriv := h1.riv
  have hrul := h1.rul
  show OUT cn f_X11_mark f_X12_mark X
  by_cases g : X 0 15 < 3
  · have hn : ∃ n : Int, n = X 0 15 := ⟨_, rfl⟩
    obtain ⟨n, hn⟩ := hn
    have hmk := h1.mk (j := n + 1) (by omega) (by omega)
    rw [show 52 + 17 * (n + 1) = 69 + 17 * n by omega, show 53 + 17 * (n + 1) = 70 + 17 * n by omega, show 63 + 17 * (n + 1) = 80 + 17 * n by omega] at hmk
    have hr' : (70 + 17 * n) ∈ RIV ∧ (80 + 17 * n) ∈ RUL := by
      rcases (show n = 0 ∨ n = 1 ∨ n = 2 by omega) with e | e | e <;> rw [e] <;> decide
    have p1 : 3 ≤ X 2 0 ∧ X 2 0 ≤ 20 := by omega
    have p2 : 13 ≤ X 2 1 ∧ X 2 1 ≤ 30 := by omega
    obtain ⟨Y, y1, y2, y3, y4⟩ := copyS (X := X) (d := 69 + 17 * n) (s := 2) (rd := 70 + 17 * n) (rs := X 2 0) (ud := 80 + 17 * n) (us := X 2 1) hmk.1 rfl hmk.2 rfl hr'.1 hriv.1 hr'.2 hrul.1 (by omega) (by omega) (by omega) (by omega) (fun x hx => by omega) (fun i a b => by omega) (fun i a b => by omega) (fun i a b => by omega) h2
    have yo : ∀ i : Int, i < 69 + 17 * n ∨ 85 + 17 * n < i → Y i = X i := fun i hi => y4 i (by omega) (by omega) (by omega) (by omega)
    have y0 : Y 0 = X 0 := yo 0 (by omega)
    obtain ⟨Z, z1, z2, z3, z4, z5, z6⟩ := copies_eq (Z := ms (ms (ms Y 0 15 (n + 1)) 0 16 0) 120 53 (n + 1)) (x := 0) (y := n + 1) (by omega) (by omega) (by omega)
    have w1 : ∀ i : Int, i ≠ 0 → i ≠ 120 → ms (ms (ms Y 0 15 (n + 1)) 0 16 0) 120 53 (n + 1) i = Y i := fun i a b => by rw [ms_ne b, ms_ne a, ms_ne a]
    have f1 : ∀ i : Int, i ≠ 0 → i ≠ 120 → i ≠ 121 → i ≠ 122 → i < 69 + 17 * n ∨ 85 + 17 * n < i → ms Z 120 2 0 i = X i := fun i a b c d e => by rw [ms_ne b, z2 i c d, w1 i a b, yo i e]
    have fm : ∀ i : Int, 69 + 17 * n ≤ i → i ≤ 85 + 17 * n → ms Z 120 2 0 i = Y i := fun i a b => by rw [ms_ne (by omega), z2 i (by omega) (by omega), w1 i (by omega) (by omega)]
    have f0 : ∀ k : Int, ms Z 120 2 0 0 k = if k = 16 then 0 else if k = 15 then n + 1 else X 0 k := fun k => by
      rw [ms_ne (by decide), z2 0 (by decide) (by decide), ms_ne (by decide), ms_at, ms_at, y0]
      by_cases a : k = 16
      · rw [if_pos ⟨rfl, a⟩, if_pos a]
      · rw [if_neg (fun e => a e.2), if_neg a]
        by_cases b : k = 15
        · rw [if_pos ⟨rfl, b⟩, if_pos b]
        · rw [if_neg (fun e => b e.2), if_neg b]
    have f120 : ∀ k : Int, ms Z 120 2 0 120 k = if k = 2 then 0 else if k = 53 then n + 1 else X 120 k := fun k => by
      rw [ms_at]
      by_cases a : k = 2
      · rw [if_pos ⟨rfl, a⟩, if_pos a]
      · rw [if_neg (fun e => a e.2), if_neg a, z2 120 (by decide) (by decide), ms_at]
        by_cases b : k = 53
        · rw [if_pos ⟨rfl, b⟩, if_pos b]
        · rw [if_neg (fun e => b e.2), if_neg b, ms_ne (by decide), ms_ne (by decide), yo 120 (by omega)]
    have f121 : ∀ k : Int, k < 440 * (n + 1) ∨ 440 * (n + 1) + 440 ≤ k → ms Z 120 2 0 121 k = X 121 k := fun k hk => by
      rw [ms_ne (by decide), z4 k hk, w1 121 (by decide) (by decide), yo 121 (by omega)]
    have f121' : ∀ k : Int, 0 ≤ k → k < 440 → ms Z 120 2 0 121 (440 * (n + 1) + k) = X 121 k := fun k k0 k1 => by
      rw [ms_ne (by decide), z3 k k0 k1, w1 121 (by decide) (by decide), yo 121 (by omega)]
      congr 1
      omega
    have f122 : ∀ k : Int, k < 5 * (n + 1) ∨ 5 * (n + 1) + 5 ≤ k → ms Z 120 2 0 122 k = X 122 k := fun k hk => by
      rw [ms_ne (by decide), z6 k hk, w1 122 (by decide) (by decide), yo 122 (by omega)]
    have f122' : ∀ k : Int, 0 ≤ k → k < 5 → ms Z 120 2 0 122 (5 * (n + 1) + k) = X 122 k := fun k k0 k1 => by
      rw [ms_ne (by decide), z5 k k0 k1, w1 122 (by decide) (by decide), yo 122 (by omega)]
      congr 1
      omega
    generalize hF : ms Z 120 2 0 = F at *
    have hEQ : EQ4 (X 121) (F 121) := fun k k0 k1 => f121 k (by omega)
    have g0 : ∀ k : Int, k ≠ 15 → k ≠ 16 → F 0 k = X 0 k := fun k a b => by rw [f0 k, if_neg b, if_neg a]
    have gm : ∀ k : Int, k ≠ 2 → k ≠ 53 → F 120 k = X 120 k := fun k a b => by rw [f120 k, if_neg a, if_neg b]
    have pt : PT2 F := by
      have e0 : ∀ j : Int, j = 69 ∨ j = 86 ∨ j = 103 → F j 0 = X j 0 ∧ F j 1 = X j 1 := fun j hj => by
        by_cases e : j = 69 + 17 * n
        · rw [fm j (by omega) (by omega), e, y3 0 (by decide) (by decide), y3 1 (by decide) (by decide)]
          exact ⟨rfl, rfl⟩
        · rw [f1 j (by omega) (by omega) (by omega) (by omega) (by omega)]
          exact ⟨rfl, rfl⟩
      have e69 := e0 69 (by omega)
      have e86 := e0 86 (by omega)
      have e103 := e0 103 (by omega)
      unfold PT2 at *
      rw [g0 3 (by decide) (by decide), g0 4 (by decide) (by decide), f1 2 (by omega) (by omega) (by omega) (by omega) (by omega), e69.1, e69.2, e86.1, e86.2, e103.1, e103.2]
      exact h1
    refine ⟨n + 1, ms (ms Y 0 15 (n + 1)) 0 16 0, F, ?_, ?_, inI_s (by omega) (by omega), ?_, ?_⟩
    · unfold f_X11_mark
      rw [c2_ok (by omega) (by omega) (by decide) (by decide), if_pos g, ← hn, ax_ok (n := MST.length) (by omega) (by show n < 3; omega), (tl_MST (by omega) (by omega)).1, cm_ok (tl_MST (by omega) (by omega)).2, y1, cl_some, bd_eq, y0, ← hn, answer_eq, cl_some, ms_at, if_pos ⟨rfl, rfl⟩]
    · unfold f_X12_mark
      rw [ms_ne (by decide), ms_ne (by decide), yo 120 (by omega), c2, ← hn, c2_ok (by omega) (by omega) (by decide) (by decide), if_pos (by omega), bd_eq, ms_at, if_pos ⟨rfl, rfl⟩, z1, cl_some, gives_eq, cl_some, hF, z2 120 (by decide) (by decide), ms_at, if_pos ⟨rfl, rfl⟩]
    · unfold RS at *
      rw [f0 16, f0 17, f0 18, f120 2, f120 3, f120 4, if_pos rfl, if_pos rfl, if_neg (by decide), if_neg (by decide), if_neg (by decide), if_neg (by decide), if_neg (by decide), if_neg (by decide), if_neg (by decide), if_neg (by decide)]
      exact ⟨⟨by omega, by omega, rfl⟩, hS.2⟩
    · refine RZ.up ⟨pt, ?_, ?_, ?_, ⟨⟨?_, ?_, ?_⟩, fun j j0 j1 => ?_⟩, ?_, ?_, ?_, ?_, ?_, ?_, ?_, ?_⟩
      · have e2 : F 2 = X 2 := f1 2 (by omega) (by omega) (by omega) (by omega) (by omega)
        have hfr : SS F 2 (X 121) (X 122) := h2.fr e2 (fun i a b => f1 i (by omega) (by omega) (by omega) (by omega) (by omega)) (fun i a b => f1 i (by omega) (by omega) (by omega) (by omega) (by omega)) (f1 _ (by omega) (by omega) (by omega) (by omega) (by omega))
        exact hfr.ext hEQ fun b b0 b1 => f122 b (by omega)
      · rw [f121 3 (by omega)]
        exact h3
      · rw [g0 3 (by decide) (by decide)]
        exact h4.fr fun i a b => f1 i (by omega) (by omega) (by omega) (by omega) (by omega)
      · rw [f0 15, if_neg (by decide), if_pos rfl]; omega
      · rw [f0 15, if_neg (by decide), if_pos rfl]; omega
      · rw [f0 15, if_neg (by decide), if_pos rfl, f120 53, if_neg (by decide), if_pos rfl]
      · rw [f0 15, if_neg (by decide), if_pos rfl] at j1
        by_cases e : j = n + 1
        · subst e
          refine ⟨?_, ?_⟩
          · rw [show 52 + 17 * (n + 1) = 69 + 17 * n by omega]
            have hfr : SS F (69 + 17 * n) (X 121) (X 122) := y2.fr (fm _ (by omega) (by omega)) (fun i a b => fm i (by rw [y3 0 (by decide) (by decide), hmk.1] at a; omega) (by rw [y3 0 (by decide) (by decide), hmk.1] at b; omega)) (fun i a b => fm i (by rw [y3 1 (by decide) (by decide), hmk.2] at a; omega) (by rw [y3 1 (by decide) (by decide), hmk.2] at b; omega)) (fm _ (by omega) (by omega))
            exact hfr.ext (fun k k0 k1 => f121' k k0 k1) fun b b0 b1 => f122' b b0 b1
          · rw [f121' 3 (by decide) (by decide)]
            exact h3
        · obtain ⟨m1, m2⟩ := hm j j0 (by omega)
          have mk := h1.mk j0 (by omega)
          refine ⟨?_, ?_⟩
          · have hfr : SS F (52 + 17 * j) (fun k => X 121 (440 * j + k)) (fun b => X 122 (5 * j + b)) := m1.fr (f1 _ (by omega) (by omega) (by omega) (by omega) (by omega)) (fun i a b => f1 i (by omega) (by omega) (by omega) (by omega) (by omega)) (fun i a b => f1 i (by omega) (by omega) (by omega) (by omega) (by omega)) (f1 _ (by omega) (by omega) (by omega) (by omega) (by omega))
            exact hfr.ext (fun k k0 k1 => f121 _ (by omega)) fun b b0 b1 => f122 _ (by omega)
          · rw [f121 _ (by omega)]
            exact m2
      · exact h6.fr fun i hi => f1 i (by omega) (by omega) (by omega) (by omega) (by omega)
      · exact h7.fr (by rw [f1 35 (by omega) (by omega) (by omega) (by omega) (by omega)]) (gm 10 (by decide) (by decide)) (f1 36 (by omega) (by omega) (by omega) (by omega) (by omega)) (f1 126 (by omega) (by omega) (by omega) (by omega) (by omega))
      · exact h8.fr (by rw [f1 35 (by omega) (by omega) (by omega) (by omega) (by omega)]) (gm 16 (by decide) (by decide)) (by rw [f1 35 (by omega) (by omega) (by omega) (by omega) (by omega)]) (gm 17 (by decide) (by decide))
      · exact h9.fr (by rw [f1 42 (by omega) (by omega) (by omega) (by omega) (by omega)]) (gm 36 (by decide) (by decide)) (f1 48 (by omega) (by omega) (by omega) (by omega) (by omega)) (f1 135 (by omega) (by omega) (by omega) (by omega) (by omega))
      · exact h10.fr (g0 14 (by decide) (by decide)) (gm 52 (by decide) (by decide)) (f1 60 (by omega) (by omega) (by omega) (by omega) (by omega)) (f1 139 (by omega) (by omega) (by omega) (by omega) (by omega))
      · exact h11.fr (f1 41 (by omega) (by omega) (by omega) (by omega) (by omega)) (f1 130 (by omega) (by omega) (by omega) (by omega) (by omega))
      · exact h12.fr (f1 58 (by omega) (by omega) (by omega) (by omega) (by omega)) (f1 138 (by omega) (by omega) (by omega) (by omega) (by omega))
      · exact CK.fr h2.2.2.2.2.2.1 h13 (gm 22 (by decide) (by decide)) (gm 31 (by decide) (by decide)) (gm 32 (by decide) (by decide)) (gm 33 (by decide) (by decide)) (gm 34 (by decide) (by decide)) (f1 134 (by omega) (by omega) (by omega) (by omega) (by omega)) (fun k hk => f121 k (by omega))
  · refine out_st hrel (r := -1) (v := 4) (by decide) (by decide) inI_m1 ?_ ?_
    · unfold f_X11_mark
      rw [c2_ok (by omega) (by omega) (by decide) (by decide), if_neg g, fail_eq, cl_some]
    · unfold f_X12_mark
      rw [s16 (by decide), c2, c2_ok (by omega) (by omega) (by decide) (by decide), if_neg (by omega), refusem_eq, cl_some]
