/-! ENDS, one after another -/
def SUMT (T : Int → Int) : Int := sm (fun o => max 0 (T o)) 60
def PHI (T : Int → Int) (l : Int) : Int := (60 - l) + 61 * SUMT T
def TB (lo : Int) (T : Int → Int) : Prop := ∀ o : Int, 0 ≤ o → o < 60 → lo ≤ T o ∧ T o ≤ 9
theorem SUMT_0 {T : Int → Int} : 0 ≤ SUMT T := by
  unfold SUMT
  have : ∀ n : Nat, 0 ≤ sm (fun o => max 0 (T o)) n := fun n => by
    induction n with
    | zero => exact Int.le_refl 0
    | succ n ih =>
      show 0 ≤ sm (fun o => max 0 (T o)) n + max 0 (T n)
      omega
  exact this 60
theorem SUMT_up {T : Int → Int} {o v : Int} (o0 : 0 ≤ o) (o1 : o < 60) : SUMT (up T o v) = SUMT T + (max 0 v - max 0 (T o)) := by
  unfold SUMT
  have e : sm (fun q => max 0 (up T o v q)) 60 = sm (fun q => (fun q => max 0 (T q)) q + (if q = o then max 0 v - max 0 (T o) else 0)) 60 := sm_ext 60 fun q q0 q1 => by
    show max 0 (up T o v q) = max 0 (T q) + (if q = o then max 0 v - max 0 (T o) else 0)
    rw [up_at]
    by_cases g : q = o
    · rw [if_pos g, if_pos g, g]
      omega
    · rw [if_neg g, if_neg g]
      omega
  rw [e, sm_up o0, if_pos (by omega)]
theorem SUMT_le {lo : Int} {T : Int → Int} (h : TB lo T) : SUMT T ≤ 540 := by
  unfold SUMT
  have : ∀ n : Nat, n ≤ 60 → sm (fun o => max 0 (T o)) n ≤ 9 * n := fun n => by
    induction n with
    | zero => exact fun _ => Int.le_refl 0
    | succ n ih =>
      intro hn
      have h1 := ih (by omega)
      have h2 := h n (by omega) (by omega)
      show sm (fun o => max 0 (T o)) n + max 0 (T n) ≤ 9 * ((n + 1 : Nat) : Int)
      omega
  exact this 60 (Nat.le_refl _)
theorem TB.up {lo o v : Int} {T : Int → Int} (h : TB lo T) (h1 : lo ≤ v) (h2 : v ≤ 9) : TB lo (up T o v) := fun q q0 q1 => by
  rw [up_at]
  by_cases g : q = o
  · rw [if_pos g]
    exact ⟨h1, h2⟩
  · rw [if_neg g]
    exact h q q0 q1
theorem TB.mono {lo lo' : Int} {T : Int → Int} (h : TB lo T) (h1 : lo' ≤ lo) : TB lo' T := fun q q0 q1 => by
  have := h q q0 q1
  omega
theorem PHI_0 {T : Int → Int} {l : Int} (h : l ≤ 60) : 0 ≤ PHI T l := by
  unfold PHI
  have := SUMT_0 (T := T)
  omega
theorem ends_both {X0 : Mem} {r u f t : Int} {A s P : Int → Int} (hB : BD A) (hu : u ∈ RUL) (hU : RU X0 u A) : ∀ (m : Nat) (k : Nat) (l c lo : Int) (T : Int → Int) (X : Mem), (PHI T l).toNat ≤ m → 0 ≤ l → l ≤ 60 → 0 ≤ c → c + PHI T l ≤ 900000 → (1000001 - c).toNat < k → (-2000000000 ≤ lo - (PHI T l)) → TB lo T → GX X0 r u f t s P T X →
    ∃ (l' c' : Int) (k' : Nat) (T' : Int → Int) (X' : Mem), L_X0_follow_4 k l c X = L_X0_follow_4 k' l' c' X' ∧ GX X0 r u f t s P T' X' ∧ (c ≤ c' ∧ c' + PHI T' l' ≤ c + PHI T l) ∧ (1000001 - c').toNat < k' ∧ TB (lo - (c' - c)) T' ∧ (0 ≤ l' ∧ l' ≤ 60) ∧ (l' < A 14 → X0 (u + 1) l' ≠ 0) ∧ ∀ (Z0 Z : Mem) (cn : Int) (kz : Nat), (PHI T l).toNat < kz → GZ Z0 cn A s P T Z → ∃ Z' : Mem, L_X12_behindEnds_2 kz l Z = some (l', Z') ∧ GZ Z0 cn A s P T' Z' := by
  have b14 := hB.2.2.2.2.2.2.2.2.2.2.2.2.2.1
  have ez : ∀ (T : Int → Int) (Z0 Z : Mem) (cn : Int), GZ Z0 cn A s P T Z → ∀ q : Int, q = 14 ∨ (200 ≤ q ∧ q < 440) → Z 121 q = A q := fun T Z0 Z cn hZ q hq => hZ.2.2.1.1 q (by omega) (by omega) (by omega)
  intro m
  induction m with
  | zero =>
    intro k l c lo T X hm l0 l1 c0 hc hk hlo hT hX
    have hP := PHI_0 (T := T) l1
    have h0 : PHI T l = 0 := by omega
    have hl : l = 60 := by
      unfold PHI at h0
      have := SUMT_0 (T := T)
      omega
    refine ⟨l, c, k, T, X, rfl, hX, ⟨by omega, by omega⟩, hk, hT.mono (by omega), ⟨l0, l1⟩, fun h => by omega, fun Z0 Z cn kz hkz hZ => ⟨Z, ?_, hZ⟩⟩
    obtain ⟨kz, rfl⟩ : ∃ j : Nat, kz = j + 1 := ⟨kz - 1, by omega⟩
    rw [L_X12_behindEnds_2, c1_okk (by omega) (by omega), if_neg (by omega), ax_ok (n := 2200) (by decide) (by decide), ez T Z0 Z cn hZ 14 (by omega), c2_ok (by omega) (by omega) (by omega) (by omega), if_pos (by omega)]
  | succ m ih =>
    intro k l c lo T X hm l0 l1 c0 hc hk hlo hT hX
    have hP := PHI_0 (T := T) l1
    have hS := SUMT_0 (T := T)
    by_cases g14 : A 14 ≤ l
    · refine ⟨l, c, k, T, X, rfl, hX, ⟨by omega, by omega⟩, hk, hT.mono (by omega), ⟨l0, l1⟩, fun h => by omega, fun Z0 Z cn kz hkz hZ => ⟨Z, ?_, hZ⟩⟩
      obtain ⟨kz, rfl⟩ : ∃ j : Nat, kz = j + 1 := ⟨kz - 1, by omega⟩
      rw [L_X12_behindEnds_2, c1_okk (by omega) (by omega), if_neg (by omega), ax_ok (n := 2200) (by decide) (by decide), ez T Z0 Z cn hZ 14 (by omega), c2_ok (by omega) (by omega) (by omega) (by omega), if_pos g14]
    · obtain ⟨q1, q2, q3, q4, q5, q6, q7, q8, -, q10⟩ := hU.2 l l0 (by omega)
      by_cases gc : X0 (u + 1) l = 0
      · have q8 := q8 (by omega)
        have eA : A (200 + 4 * l) = 6 := by
          unfold cdm at q1
          omega
        have hlt := q10 eA
        clear q3 q5 q6 q7 q10
        obtain ⟨o1, -⟩ := hU.2 (A (200 + 4 * l + 3)) q8.2.1 q8.2.2
        have x1 : X (u + 1) = X0 (u + 1) := hX.ru hu 1 (by decide) (by decide)
        have x4 : X (u + 4) = X0 (u + 4) := hX.ru hu 4 (by decide) (by decide)
        have xu : X u = X0 u := by
          have := hX.ru hu 0 (by decide) (by decide)
          rwa [Int.add_zero] at this
        obtain ⟨k, rfl⟩ : ∃ j : Nat, k = j + 1 := ⟨k - 1, by omega⟩
        have hpo : -2147483648 ≤ X0 (u + 1) (A (200 + 4 * l + 3)) ∧ X0 (u + 1) (A (200 + 4 * l + 3)) ≤ 2147483647 ∧ (X0 (u + 1) (A (200 + 4 * l + 3)) = 6 ↔ A (200 + 4 * A (200 + 4 * l + 3)) = 5) ∧ (0 ≤ A (200 + 4 * A (200 + 4 * l + 3)) ∧ A (200 + 4 * A (200 + 4 * l + 3)) ≤ 51) := by
          clear hc hk hlo hP hS hm
          unfold cdm at o1
          omega
        clear o1 q1
        have hTo := hT (A (200 + 4 * l + 3)) q8.2.1 (by omega)
        have eC : ∀ o : Option (Int × Mem), (cl (f_X0_lineBehindEnd l X) fun r10 X11 => L_X0_follow_4 k r10 (c + 1) X11) = o → L_X0_follow_4 (k + 1) l c X = o := fun o ho => by
          rw [L_X0_follow_4, c2_ok (by omega) (by omega) (by decide) (by decide), if_neg (by omega), c1_okk (by omega) (by omega), if_neg (by omega), hX.1.2.1, cm_ok hu, xu, hU.1, c2_ok (by omega) (by omega) (by omega) (by omega), if_pos (by omega), cm_ok hu, ax_ok (n := 60) l0 (by omega), bd_eq, x1, gc, c1_okk (by decide) (by decide), if_neg (by decide)]
          exact ho
        have eL : f_X0_lineBehindEnd l X = (if ¬ X0 (u + 1) (A (200 + 4 * l + 3)) = 6 then some (l + 1, X) else if T (A (200 + 4 * l + 3)) - 1 ≤ 0 then some (l + 1, ms X 58 (A (200 + 4 * l + 3)) (T (A (200 + 4 * l + 3)) - 1)) else some (A (200 + 4 * l + 3) + 1, ms X 58 (A (200 + 4 * l + 3)) (T (A (200 + 4 * l + 3)) - 1))) := by
          have e58 : ms X 58 (A (200 + 4 * l + 3)) (T (A (200 + 4 * l + 3)) - 1) 58 (A (200 + 4 * l + 3)) = T (A (200 + 4 * l + 3)) - 1 := by rw [ms_at, if_pos ⟨rfl, rfl⟩]
          unfold f_X0_lineBehindEnd
          rw [hX.1.2.1, cm_ok hu, ax_ok (n := 60) l0 (by omega), x4, q8.1, bd_eq, c1_okk (by omega) (by omega), if_neg (by omega), c2_ok (by omega) (by omega) (by omega) (by omega), if_neg (by omega), cm_ok hu, ax_ok (n := 60) q8.2.1 (by omega), x1, c2_ok hpo.1 hpo.2.1 (by decide) (by decide)]
          split
          · rw [B_X0_lineBehindEnd_56]
          · rw [ax_ok (n := 60) q8.2.1 (by omega), ax_ok (n := 60) q8.2.1 (by omega), hX.2.2.2.2.1, bd_eq, ax_ok (n := 60) q8.2.1 (by omega), e58, c1_okk (by omega) (by omega)]
            split
            · rw [B_X0_lineBehindEnd_56]
            · rfl
        have eZ : ∀ (Z0 Z : Mem) (cn : Int) (kz : Nat), GZ Z0 cn A s P T Z → L_X12_behindEnds_2 (kz + 1) l Z = (if ¬ A (200 + 4 * A (200 + 4 * l + 3)) = 5 then L_X12_behindEnds_2 kz (l + 1) Z else if T (A (200 + 4 * l + 3)) - 1 ≤ 0 then L_X12_behindEnds_2 kz (l + 1) Z else L_X12_behindEnds_2 kz (A (200 + 4 * l + 3) + 1) (ms Z 138 (A (200 + 4 * l + 3)) (max 0 (T (A (200 + 4 * l + 3)) - 1 - 1)))) := fun Z0 Z cn kz hZ => by
          have e138 := hZ.2.2.2.1 (A (200 + 4 * l + 3)) q8.2.1 (by omega)
          have h78 : B_X12_behindEnds_78 (fun x2 X => L_X12_behindEnds_2 kz x2 X) l (A (200 + 4 * l + 3)) Z = L_X12_behindEnds_2 kz (l + 1) Z := by
            rw [B_X12_behindEnds_78, B_X12_behindEnds_79, c1_okk (by decide) (by decide), if_pos rfl, B_X12_behindEnds_96, c1_okk (by decide) (by decide), if_pos rfl, B_X12_behindEnds_110]
          rw [L_X12_behindEnds_2, c1_okk (by omega) (by omega), if_neg (by omega), ax_ok (n := 2200) (by decide) (by decide), ez T Z0 Z cn hZ 14 (by omega), c2_ok (by omega) (by omega) (by omega) (by omega), if_neg (by omega), ax_ok (n := 2200) (by omega) (by omega), ez T Z0 Z cn hZ _ (by omega), eA, c2_ok (by decide) (by decide) (by decide) (by decide), if_neg (by decide), ax_ok (n := 2200) (by omega) (by omega), ez T Z0 Z cn hZ _ (by omega), bd_eq, ax_ok (n := 2200) (by omega) (by omega), ez T Z0 Z cn hZ _ (by omega), c2_ok (by omega) (by omega) (by decide) (by decide)]
          split
          · exact h78
          · rw [ax_ok (n := 64) q8.2.1 (by omega), e138, c1_okk (by omega) (by omega)]
            by_cases gt : T (A (200 + 4 * l + 3)) - 1 ≤ 0
            · rw [if_pos (by omega), if_pos gt]
              exact h78
            · rw [if_neg (by omega), if_neg gt, B_X12_behindEnds_79, c1_okk (by decide) (by decide), if_neg (by decide), ax_ok (n := 64) q8.2.1 (by omega), ax_ok (n := 64) q8.2.1 (by omega), e138, bd_eq, B_X12_behindEnds_96, c1_okk (by decide) (by decide), if_neg (by decide), B_X12_behindEnds_110]
              congr 2
              omega
        have hp1 : PHI T (l + 1) = PHI T l - 1 := by
          unfold PHI
          omega
        by_cases g6 : X0 (u + 1) (A (200 + 4 * l + 3)) = 6
        · have g5 := hpo.2.2.1.mp g6
          have hs := SUMT_up (T := T) (o := A (200 + 4 * l + 3)) (v := T (A (200 + 4 * l + 3)) - 1) q8.2.1 (by omega)
          have hT2 : TB (lo - 1) (up T (A (200 + 4 * l + 3)) (T (A (200 + 4 * l + 3)) - 1)) := (hT.mono (by omega)).up (by omega) (by omega)
          rw [if_neg (by simpa using g6)] at eL
          by_cases gt : T (A (200 + 4 * l + 3)) - 1 ≤ 0
          · rw [if_pos gt] at eL
            have hp2 : PHI (up T (A (200 + 4 * l + 3)) (T (A (200 + 4 * l + 3)) - 1)) (l + 1) ≤ PHI T l - 1 := by
              unfold PHI
              omega
            obtain ⟨l', c', k', T', X', i1, i2, ⟨i3, i4⟩, i5, i6, i7, i8, i9⟩ := ih k (l + 1) (c + 1) (lo - 1) _ _ (by omega) (by omega) (by omega) (by omega) (by omega) (by omega) (by omega) hT2 (hX.turn (o := A (200 + 4 * l + 3)) (v := T (A (200 + 4 * l + 3)) - 1))
            refine ⟨l', c', k', T', X', eC _ (by rw [eL, cl_some, i1]), i2, ⟨by omega, by omega⟩, i5, i6.mono (by omega), i7, i8, fun Z0 Z cn kz hkz hZ => ?_⟩
            obtain ⟨kz, rfl⟩ : ∃ j : Nat, kz = j + 1 := ⟨kz - 1, by omega⟩
            have hZ2 := hZ.turn (o := A (200 + 4 * l + 3)) (v := T (A (200 + 4 * l + 3)) - 1)
            have e138 := hZ.2.2.2.1 (A (200 + 4 * l + 3)) q8.2.1 (by omega)
            rw [show max 0 (T (A (200 + 4 * l + 3)) - 1 - 1) = Z 138 (A (200 + 4 * l + 3)) by omega, ms_self] at hZ2
            obtain ⟨Z', z1, z2⟩ := i9 Z0 Z cn kz (by have := PHI_0 (T := up T (A (200 + 4 * l + 3)) (T (A (200 + 4 * l + 3)) - 1)) (l := l + 1) (by omega); omega) hZ2
            exact ⟨Z', by rw [eZ Z0 Z cn kz hZ, if_neg (by omega), if_pos gt, z1], z2⟩
          · rw [if_neg gt] at eL
            have hp2 : PHI (up T (A (200 + 4 * l + 3)) (T (A (200 + 4 * l + 3)) - 1)) (A (200 + 4 * l + 3) + 1) ≤ PHI T l - 1 := by
              unfold PHI
              omega
            obtain ⟨l', c', k', T', X', i1, i2, ⟨i3, i4⟩, i5, i6, i7, i8, i9⟩ := ih k (A (200 + 4 * l + 3) + 1) (c + 1) (lo - 1) _ _ (by have := PHI_0 (T := up T (A (200 + 4 * l + 3)) (T (A (200 + 4 * l + 3)) - 1)) (l := A (200 + 4 * l + 3) + 1) (by omega); omega) (by omega) (by omega) (by omega) (by omega) (by omega) (by omega) hT2 (hX.turn (o := A (200 + 4 * l + 3)) (v := T (A (200 + 4 * l + 3)) - 1))
            refine ⟨l', c', k', T', X', eC _ (by rw [eL, cl_some, i1]), i2, ⟨by omega, by omega⟩, i5, i6.mono (by omega), i7, i8, fun Z0 Z cn kz hkz hZ => ?_⟩
            obtain ⟨kz, rfl⟩ : ∃ j : Nat, kz = j + 1 := ⟨kz - 1, by omega⟩
            obtain ⟨Z', z1, z2⟩ := i9 Z0 _ cn kz (by have := PHI_0 (T := up T (A (200 + 4 * l + 3)) (T (A (200 + 4 * l + 3)) - 1)) (l := A (200 + 4 * l + 3) + 1) (by omega); omega) (hZ.turn (o := A (200 + 4 * l + 3)) (v := T (A (200 + 4 * l + 3)) - 1))
            exact ⟨Z', by rw [eZ Z0 Z cn kz hZ, if_neg (by omega), if_neg gt, z1], z2⟩
        · rw [if_pos g6] at eL
          obtain ⟨l', c', k', T', X', i1, i2, ⟨i3, i4⟩, i5, i6, i7, i8, i9⟩ := ih k (l + 1) (c + 1) lo T X (by omega) (by omega) (by omega) (by omega) (by omega) (by omega) (by omega) hT hX
          refine ⟨l', c', k', T', X', eC _ (by rw [eL, cl_some, i1]), i2, ⟨by omega, by omega⟩, i5, i6.mono (by omega), i7, i8, fun Z0 Z cn kz hkz hZ => ?_⟩
          obtain ⟨kz, rfl⟩ : ∃ j : Nat, kz = j + 1 := ⟨kz - 1, by omega⟩
          obtain ⟨Z', z1, z2⟩ := i9 Z0 Z cn kz (by have := PHI_0 (T := T) (l := l + 1) (by omega); omega) hZ
          exact ⟨Z', by rw [eZ Z0 Z cn kz hZ, if_pos (fun h => g6 (hpo.2.2.1.mpr h)), z1], z2⟩
      · have eA : ¬ A (200 + 4 * l) = 6 ∧ 0 ≤ A (200 + 4 * l) ∧ A (200 + 4 * l) ≤ 51 := by
          clear q3 q5 q6 q7 q8 q10 hc hk hlo hP hS hm
          unfold cdm at q1
          omega
        clear q3 q5 q6 q7 q8 q10 q1
        refine ⟨l, c, k, T, X, rfl, hX, ⟨by omega, by omega⟩, hk, hT.mono (by omega), ⟨l0, l1⟩, fun _ => gc, fun Z0 Z cn kz hkz hZ => ⟨Z, ?_, hZ⟩⟩
        obtain ⟨kz, rfl⟩ : ∃ j : Nat, kz = j + 1 := ⟨kz - 1, by omega⟩
        rw [L_X12_behindEnds_2, c1_okk (by omega) (by omega), if_neg (by omega), ax_ok (n := 2200) (by decide) (by decide), ez T Z0 Z cn hZ 14 (by omega), c2_ok (by omega) (by omega) (by omega) (by omega), if_neg g14, ax_ok (n := 2200) (by omega) (by omega), ez T Z0 Z cn hZ _ (by omega), c2_ok (by omega) (by omega) (by decide) (by decide), if_pos eA.1]
