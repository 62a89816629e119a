/-! rules played: what both sides do in a play -/
theorem hear_p {X0 : Mem} {A P : Int → Int} {r c v d p : Int} (hB : BD A) (hr : r ∈ RIV) (hR : RV X0 r A) (hp : p ≠ 41) (hP : X0 p = P) (c0 : 0 ≤ c) (c1 : c < 60) (d0 : 0 ≤ d) (hv : -1000 ≤ v ∧ v ≤ 1000) : ∀ (k : Nat) (q : Int) (W : Int → Int), 0 ≤ q → q ≤ 32 → (32 - q).toNat < k → (∀ s : Int, 0 ≤ s → s < q → W s = P s * lk A (dep A (stg A d) c s) v) →
    ∃ W' : Int → Int, L_X9_hearPole_10 k r p c v (stg A d) q (ma X0 41 W) = B_X9_hearPole_56 p (ma X0 41 W') ∧ (∀ s : Int, 0 ≤ s → s < 32 → W' s = P s * lk A (dep A (stg A d) c s) v) ∧ ∀ s : Int, s < 0 ∨ 32 ≤ s → W' s = W s := by
  intro k
  induction k with
  | zero => intro q W _ _ h; omega
  | succ k ih =>
    intro q W q0 q1 hk hW
    rw [L_X9_hearPole_10, c2_ok (by omega) (by omega) (by decide) (by decide)]
    by_cases g : 32 ≤ q
    · rw [if_pos g]
      exact ⟨W, rfl, fun s s0 s1 => hW s s0 (by omega), fun s _ => rfl⟩
    · have hR2 : RV (ma X0 41 W) r A := hR.fr2 hr fun i hi => ma_ne (by omega)
      have hd := depd_r hB (x := q) c0 c1 d0
      have hl := lk_r hB (d := dep A (stg A d) c q) (v := v)
      rw [if_neg g, depthAt_eq hR2 hB c0 c1, cl_some, ax_ok q0 (by omega), likely_eq hR2 (by omega) hv, cl_some, c1_okk (by omega) (by omega), ax_ok q0 (by omega), bd_eq, ms_row, ma_ne hp, hP]
      obtain ⟨W', e1, e2, e3⟩ := ih (q + 1) (up W q (P q * lk A (dep A (stg A d) c q) v)) (by omega) (by omega) (by omega) (fun s s0 s1 => by
        rw [up_at]
        by_cases e : s = q
        · rw [if_pos e, e]
        · rw [if_neg e]
          exact hW s s0 (by omega))
      exact ⟨W', e1, e2, fun s hs => by rw [e3 s hs, up_ne (by omega)]⟩
theorem see_p {X0 : Mem} {A P : Int → Int} {r c v p : Int} (hB : BD A) (hr : r ∈ RIV) (hR : RV X0 r A) (hp : p ≠ 41) (hP : X0 p = P) (c0 : 0 ≤ c) (c1 : c < 60) (hv : inI v) : ∀ (k : Nat) (q : Int) (W : Int → Int), 0 ≤ q → q ≤ 32 → (32 - q).toNat < k → (∀ s : Int, 0 ≤ s → s < q → W s = P s * wk A c v s) →
    ∃ W' : Int → Int, L_X9_seeWater_11 k r p v (A (108 + c)) q (ma X0 41 W) = B_X9_seeWater_82 p (ma X0 41 W') ∧ (∀ s : Int, 0 ≤ s → s < 32 → W' s = P s * wk A c v s) ∧ ∀ s : Int, s < 0 ∨ 32 ≤ s → W' s = W s := by
  have hrr := RIV_r hr
  have ho := hB.2.2.2.2.2.2.2.2.2.2.2.2.2.2.2.2.2 c c0 c1
  have hA2 := hB.2.1
  have h12 := hB.2.2.2.2.2.2.2.2.2.2.2.1
  have e10 : X0 r 10 = A 12 := hR.1.2.2.2.2.2.2.2.2.2.2
  intro k
  induction k with
  | zero => intro q W _ _ h; omega
  | succ k ih =>
    intro q W q0 q1 hk hW
    rw [L_X9_seeWater_11, c2_ok (by omega) (by omega) (by decide) (by decide)]
    by_cases g : 32 ≤ q
    · rw [if_pos g]
      exact ⟨W, rfl, fun s s0 s1 => hW s s0 (by omega), fun s _ => rfl⟩
    · have hu : ∀ f : Int, f = wk A c v q → ∃ W' : Int → Int, L_X9_seeWater_11 k r p v (A (108 + c)) (q + 1) (ma X0 41 (up W q (P q * f))) = B_X9_seeWater_82 p (ma X0 41 W') ∧ (∀ s : Int, 0 ≤ s → s < 32 → W' s = P s * wk A c v s) ∧ ∀ s : Int, s < 0 ∨ 32 ≤ s → W' s = W s := fun f hf => by
        obtain ⟨W', e1, e2, e3⟩ := ih (q + 1) (up W q (P q * f)) (by omega) (by omega) (by omega) (fun s s0 s1 => by
          rw [up_at]
          by_cases e : s = q
          · rw [if_pos e, e, hf]
          · rw [if_neg e]
            exact hW s s0 (by omega))
        exact ⟨W', e1, e2, fun s hs => by rw [e3 s hs, up_ne (by omega)]⟩
      have h40 : ∀ w : Int, (w = 0 ∨ w = 1) → (if w = v then A 12 else 16 - A 12) = wk A c v q → ∃ W' : Int → Int, B_X9_seeWater_40 (fun x1 x2 x4 x5 x6 X => L_X9_seeWater_11 k x1 x2 x4 x5 x6 X) r p v (A (108 + c)) q w (ma X0 41 W) = B_X9_seeWater_82 p (ma X0 41 W') ∧ (∀ s : Int, 0 ≤ s → s < 32 → W' s = P s * wk A c v s) ∧ ∀ s : Int, s < 0 ∨ 32 ≤ s → W' s = W s := fun w hw hf => by
        obtain ⟨W', e1, e2⟩ := hu _ hf
        refine ⟨W', ?_, e2⟩
        rw [B_X9_seeWater_40, ax_ok q0 (by omega), c2_ok (by omega) (by omega) hv.1 hv.2, ma_ne (by omega), ma_ne hp, e10, hP]
        by_cases gw : w = v
        · rw [if_neg (by simpa using gw), B_X9_seeWater_73, c1_okk (by omega) (by omega), ax_ok q0 (by omega), bd_eq, ms_row]
          rw [if_pos gw] at e1
          exact e1
        · rw [if_pos gw, B_X9_seeWater_73, c1_okk (by omega) (by omega), ax_ok q0 (by omega), bd_eq, ms_row]
          rw [if_neg gw] at e1
          exact e1
      rw [if_neg g, c2_ok (by omega) (by omega) (by decide) (by decide)]
      by_cases g1 : A (108 + c) = -1
      · rw [if_pos g1, B_X9_seeWater_39]
        exact h40 0 (Or.inl rfl) (by unfold wk; rw [if_pos g1])
      · have hi := ia_I (ishr q (A (108 + c))) 1
        rw [if_neg g1, c2_ok hi.1 hi.2 (by decide) (by decide)]
        by_cases g2 : ia (ishr q (A (108 + c))) 1 = 1
        · rw [if_neg (by simpa using g2)]
          exact h40 1 (Or.inr rfl) (by unfold wk; rw [if_neg g1, if_pos g2])
        · rw [if_pos g2, B_X9_seeWater_39]
          exact h40 0 (Or.inl rfl) (by unfold wk; rw [if_neg g1, if_neg g2])
/-- after a reading, both sides -/
theorem reads_c {X : Mem} {P W f : Int → Int} {N p : Int} (hp : p ≠ 41) (hN : 1 ≤ N ∧ N ≤ 32) (hT : THr P N) (hXp : X p = P) (hf : ∀ s : Int, 0 ≤ s → s < 32 → 0 ≤ f s ∧ f s ≤ 32) (hW : ∀ s : Int, 0 ≤ s → s < 32 → W s = P s * f s) (hz : ∀ s : Int, s < 0 ∨ 32 ≤ s → W s = 0) :
    ∃ (o : Int) (P' : Int → Int), (o = 0 ∨ o = 1) ∧ f_X9_shareOut p (ma X 41 W) = some (o, ma (ma X 41 W) p P') ∧ THr P' N ∧
      ∀ (Z : Mem) (B V : Int → Int), Z 121 = B → NS B = N → TH P B → (∀ s : Int, 0 ≤ s → s < N → V s = P s * f s) → (∀ s : Int, 0 ≤ s → s < 32 → 0 ≤ V s ∧ V s ≤ 2000000000000) → ∃ (o : Int) (B' : Int → Int), (o = 0 ∨ o = 1) ∧ f_X12_sharesOut (ma Z 130 V) = some (o, ma (ma Z 130 V) 121 B') ∧ TH P' B' ∧ ∀ k : Int, k < 168 ∨ 200 ≤ k → B' k = B k := by
  have hp2 : ∀ s : Int, 0 ≤ s → s < 32 → 0 ≤ P s * f s ∧ P s * f s ≤ 32000000 := fun s s0 s1 => by
    have h1 := hT.1 s s0 s1
    have h2 := hf s s0 s1
    refine ⟨Int.mul_nonneg h1.1 h2.1, ?_⟩
    have h3 : P s * f s ≤ 1000000 * f s := Int.mul_le_mul_of_nonneg_right h1.2 h2.1
    omega
  have hWb : ∀ q : Int, 0 ≤ q → q < 32 → 0 ≤ W q ∧ W q ≤ 2000000000000 := fun q q0 q1 => by
    have := hp2 q q0 q1
    rw [hW q q0 q1]
    omega
  have hWz : ∀ q : Int, ((N.toNat : Nat) : Int) ≤ q → q < 32 → W q = 0 := fun q q0 q1 => by rw [hW q (by omega) q1, hT.2.2 q (by omega) q1, Int.zero_mul]
  have hsc := share_eq hp (X := ma X 41 W) (by rw [ma_same]; exact hWb)
  rw [ma_same, ma_ne hp, hXp] at hsc
  have hmX : ma (ma X 41 W) p P = ma X 41 W := by
    have : (ma X 41 W) p = P := by rw [ma_ne hp, hXp]
    rw [← this, ma_self]
  have key : ∀ (Z : Mem) (B V : Int → Int), Z 121 = B → NS B = N → (∀ s : Int, 0 ≤ s → s < N → V s = P s * f s) → (∀ s : Int, 0 ≤ s → s < 32 → 0 ≤ V s ∧ V s ≤ 2000000000000) → f_X12_sharesOut (ma Z 130 V) = (if 0 < sm V N.toNat then some (1, ma (ma Z 130 V) 121 (shM N.toNat V B)) else some (0, ma Z 130 V)) ∧ (∀ q : Int, 0 ≤ q → q < (N.toNat : Int) → V q = W q) := fun Z B V hZ hNB hV hVb => by
    refine ⟨?_, fun q q0 q1 => by rw [hV q q0 (by omega), hW q q0 (by omega)]⟩
    have hs := sharem_eq (N := N.toNat) (by omega) (by omega) (X := ma Z 130 V) (by rw [ma_ne (by decide), hZ]; show NS B = _; omega) (by rw [ma_same]; exact hVb)
    rw [ma_same, ma_ne (by decide), hZ] at hs
    exact hs
  by_cases g : 0 < sm W 32
  · rw [if_pos g] at hsc
    obtain ⟨k1, k2, k3, -⟩ := (share_th (P0 := P) (A' := P) (V := W) (N := N.toNat) (by omega) (by omega) hWb hz hWz (fun q _ _ => rfl)).2 g
    refine ⟨1, shF W P, Or.inr rfl, hsc, ⟨k1, k2, fun q q0 q1 => k3 q (by omega) q1⟩, fun Z B V hZ hNB hT2 hV hVb => ?_⟩
    obtain ⟨e1, e2⟩ := key Z B V hZ hNB hV hVb
    obtain ⟨s1, s2⟩ := share_th (P0 := P) (A' := B) (V := V) (N := N.toNat) (by omega) (by omega) hWb hz hWz e2
    obtain ⟨-, -, -, k4⟩ := s2 g
    rw [if_pos (by omega)] at e1
    have out : ∀ q : Int, q < 168 ∨ 200 ≤ q → shM N.toNat V B q = B q := fun q hq => shM_out (by omega)
    have eN : NS (shM N.toNat V B) = N := by
      have e2 := out 2 (by decide)
      rw [show NS (shM N.toNat V B) = ishl 1 (shM N.toNat V B 2) from rfl, e2]
      exact hNB
    refine ⟨1, shM N.toNat V B, Or.inr rfl, e1, ⟨k1, k2, fun q q0 q1 => ?_, fun q q0 q1 => ?_⟩, out⟩
    · rw [eN] at q0
      exact k3 q (by omega) q1
    · rw [eN] at q1
      exact k4 q q0 (by omega)
  · rw [if_neg g] at hsc
    refine ⟨0, P, Or.inl rfl, by rw [hmX]; exact hsc, hT, fun Z B V hZ hNB hT2 hV hVb => ?_⟩
    obtain ⟨e1, e2⟩ := key Z B V hZ hNB hV hVb
    obtain ⟨s1, s2⟩ := share_th (P0 := P) (A' := B) (V := V) (N := N.toNat) (by omega) (by omega) hWb hz hWz e2
    rw [if_neg (by omega)] at e1
    have hmZ : ma (ma Z 130 V) 121 B = ma Z 130 V := by
      have : (ma Z 130 V) 121 = B := by rw [ma_ne (by decide), hZ]
      rw [← this, ma_self]
    exact ⟨0, B, Or.inl rfl, by rw [hmZ]; exact e1, hT2, fun k _ => rfl⟩
/-! the two states of a play: s 0 to 6 is what is told of it, 9 the DAY, 10 what is put off, 11 what is drawn from, 12 how it ends, 13 the STEPS the reference has counted, 14 its DAY -/
def GX (X0 : Mem) (r u f t : Int) (s P T : Int → Int) (X : Mem) : Prop := (X 55 5 = r ∧ X 55 6 = u ∧ X 55 7 = f ∧ X 55 8 = t) ∧ (X 55 9 = s 9 ∧ X 55 10 = s 10 ∧ X 55 11 = s 11) ∧ (∀ k : Int, 0 ≤ k → k < 7 → X 56 k = s k) ∧ X 57 = P ∧ X 58 = T ∧ (∀ q : Int, q < 0 ∨ 32 ≤ q → X 41 q = 0) ∧ (∀ i : Int, i ≤ 40 ∨ (48 ≤ i ∧ i ≤ 54) ∨ 59 ≤ i → X i = X0 i) ∧ X 42 7 = X0 42 7
def EQW (A B : Int → Int) : Prop := ∀ k : Int, k ≠ 3 → k ≠ 4 → k < 168 ∨ 200 ≤ k → B k = A k
theorem EQW.v {A B : Int → Int} (h : EQW A B) : EQV A B := fun k hk => h k (by omega) (by omega) (by omega)
def GZF (Z0 Z : Mem) : Prop := ∀ i k : Int, i ≠ 121 → i ≠ 130 → i ≠ 131 → i ≠ 132 → i ≠ 133 → i ≠ 134 → i ≠ 138 → ¬ (i = 120 ∧ ((31 ≤ k ∧ k ≤ 34) ∨ (41 ≤ k ∧ k ≤ 49))) → Z i k = Z0 i k
def GZ (Z0 : Mem) (cn : Int) (A s P T : Int → Int) (Z : Mem) : Prop := (Z 120 41 = s 11 ∧ Z 120 42 = s 4 ∧ Z 120 43 = s 0 ∧ Z 120 45 = s 2 ∧ Z 120 46 = s 3 ∧ Z 120 47 = s 5 ∧ Z 120 44 = s 13 ∧ Z 120 49 = s 12) ∧ (Z 121 3 = s 14 ∧ Z 121 4 = s 10) ∧ (EQW A (Z 121) ∧ BD (Z 121) ∧ TH P (Z 121)) ∧ (∀ o : Int, 0 ≤ o → o < 60 → Z 138 o = max 0 (T o - 1)) ∧ (∀ q : Int, 0 ≤ q → q < 32 → 0 ≤ Z 130 q ∧ Z 130 q ≤ 2000000000000) ∧ CK cn Z ∧ GZF Z0 Z
/-- what holds of what is told while a rule is played -/
def GI (A s P : Int → Int) : Prop := (0 ≤ s 1 ∧ s 1 ≤ 100) ∧ (0 ≤ s 2 ∧ s 2 ≤ s 1) ∧ (s 9 = A 3 + s 3 ∧ 0 ≤ s 3 ∧ s 3 ≤ 900) ∧ (A 4 ≤ s 10 ∧ s 10 ≤ A 6) ∧ (0 ≤ s 4 ∧ s 4 < NS A) ∧ (s 5 = -1 ∧ s 6 = 0) ∧ (0 ≤ s 11 ∧ s 11 < 65536) ∧ THr P (NS A)
def nxs (v : Int) : Int := (v * 3541 + 8713) % 65536
theorem draw_c {X : Mem} {v n : Int} (h : X 55 11 = v) (v0 : 0 ≤ v) (v1 : v < 65536) (n0 : 1 ≤ n) (n1 : n ≤ 100000) : f_X0_draw n X = some (nxs v / 8 % n, ms X 55 11 (nxs v)) ∧ (0 ≤ nxs v / 8 % n ∧ nxs v / 8 % n < n) ∧ (0 ≤ nxs v ∧ nxs v < 65536) := by
  have h1 : 0 ≤ nxs v ∧ nxs v < 65536 := by unfold nxs; omega
  have h2 : ms X 55 11 (nxs v) 55 11 = nxs v := by rw [ms_at, if_pos ⟨rfl, rfl⟩]
  refine ⟨?_, ⟨Int.emod_nonneg _ (by omega), Int.emod_lt_of_pos _ (by omega)⟩, h1⟩
  unfold f_X0_draw
  rw [h, show (v * 3541 + 8713) % 65536 = nxs v from rfl, cd_ok (by omega) (by omega) (by decide) (by decide), bd_eq, h2, cd_ok (by omega) (by omega) (by decide) (by decide), c2_ok (by decide) (by decide) (by omega) (by omega), show max 1 n = n by omega, cd_ok (by omega) (by omega) (by omega) (by omega)]
theorem draw_z {Z : Mem} {v n : Int} (h : Z 120 41 = v) (v0 : 0 ≤ v) (v1 : v < 65536) (n0 : 1 ≤ n) (n1 : n ≤ 100000) : f_X12_draw n Z = some (nxs v / 8 % n, ms Z 120 41 (nxs v)) := by
  have h1 : 0 ≤ nxs v ∧ nxs v < 65536 := by unfold nxs; omega
  have h2 : ms Z 120 41 (nxs v) 120 41 = nxs v := by rw [ms_at, if_pos ⟨rfl, rfl⟩]
  unfold f_X12_draw
  rw [h, show (v * 3541 + 8713) % 65536 = nxs v from rfl, cd_ok (by omega) (by omega) (by decide) (by decide), bd_eq, h2, cd_ok (by omega) (by omega) (by decide) (by decide), cd_ok (by omega) (by omega) (by omega) (by omega)]

/-! one place changed -/
theorem GX.seed {X0 X : Mem} {r u f t v : Int} {s P T : Int → Int} (h : GX X0 r u f t s P T X) : GX X0 r u f t (up s 11 v) P T (ms X 55 11 v) := by
  obtain ⟨⟨a1, a2, a3, a4⟩, ⟨b1, b2, b3⟩, h2, h3, h4, h5, h6, h7⟩ := h
  refine ⟨?_, ?_, fun k k0 k1 => ?_, ?_, ?_, ?_, fun i hi => ?_, ?_⟩
  · rw [ms_at, ms_at, ms_at, ms_at, if_neg (by decide), if_neg (by decide), if_neg (by decide), if_neg (by decide)]
    exact ⟨a1, a2, a3, a4⟩
  · rw [ms_at, ms_at, ms_at, if_neg (by decide), if_neg (by decide), if_pos (by decide), up_ne (by decide), up_ne (by decide), up_same]
    exact ⟨b1, b2, rfl⟩
  · rw [ms_ne (by decide), up_ne (by omega)]
    exact h2 k k0 k1
  · rw [ms_ne (by decide)]
    exact h3
  · rw [ms_ne (by decide)]
    exact h4
  · rw [ms_ne (by decide)]
    exact h5
  · rw [ms_ne (by omega)]
    exact h6 i hi
  · rw [ms_ne (by decide)]
    exact h7
theorem GX.day {X0 X : Mem} {r u f t v : Int} {s P T : Int → Int} (h : GX X0 r u f t s P T X) : GX X0 r u f t (up s 9 v) P T (ms X 55 9 v) := by
  obtain ⟨⟨a1, a2, a3, a4⟩, ⟨b1, b2, b3⟩, h2, h3, h4, h5, h6, h7⟩ := h
  refine ⟨?_, ?_, fun k k0 k1 => ?_, ?_, ?_, ?_, fun i hi => ?_, ?_⟩
  · rw [ms_at, ms_at, ms_at, ms_at, if_neg (by decide), if_neg (by decide), if_neg (by decide), if_neg (by decide)]
    exact ⟨a1, a2, a3, a4⟩
  · rw [ms_at, ms_at, ms_at, if_pos (by decide), if_neg (by decide), if_neg (by decide), up_same, up_ne (by decide), up_ne (by decide)]
    exact ⟨rfl, b2, b3⟩
  · rw [ms_ne (by decide), up_ne (by omega)]
    exact h2 k k0 k1
  · rw [ms_ne (by decide)]
    exact h3
  · rw [ms_ne (by decide)]
    exact h4
  · rw [ms_ne (by decide)]
    exact h5
  · rw [ms_ne (by omega)]
    exact h6 i hi
  · rw [ms_ne (by decide)]
    exact h7
theorem GX.off {X0 X : Mem} {r u f t v : Int} {s P T : Int → Int} (h : GX X0 r u f t s P T X) : GX X0 r u f t (up s 10 v) P T (ms X 55 10 v) := by
  obtain ⟨⟨a1, a2, a3, a4⟩, ⟨b1, b2, b3⟩, h2, h3, h4, h5, h6, h7⟩ := h
  refine ⟨?_, ?_, fun k k0 k1 => ?_, ?_, ?_, ?_, fun i hi => ?_, ?_⟩
  · rw [ms_at, ms_at, ms_at, ms_at, if_neg (by decide), if_neg (by decide), if_neg (by decide), if_neg (by decide)]
    exact ⟨a1, a2, a3, a4⟩
  · rw [ms_at, ms_at, ms_at, if_neg (by decide), if_pos (by decide), if_neg (by decide), up_ne (by decide), up_same, up_ne (by decide)]
    exact ⟨b1, rfl, b3⟩
  · rw [ms_ne (by decide), up_ne (by omega)]
    exact h2 k k0 k1
  · rw [ms_ne (by decide)]
    exact h3
  · rw [ms_ne (by decide)]
    exact h4
  · rw [ms_ne (by decide)]
    exact h5
  · rw [ms_ne (by omega)]
    exact h6 i hi
  · rw [ms_ne (by decide)]
    exact h7
theorem GX.told {X0 X : Mem} {r u f t v j : Int} {s P T : Int → Int} (h : GX X0 r u f t s P T X) (j0 : 0 ≤ j) (j1 : j < 7) : GX X0 r u f t (up s j v) P T (ms X 56 j v) := by
  obtain ⟨h1, ⟨b1, b2, b3⟩, h2, h3, h4, h5, h6, h7⟩ := h
  refine ⟨?_, ?_, fun k k0 k1 => ?_, ?_, ?_, ?_, fun i hi => ?_, ?_⟩
  · rw [ms_ne (by decide)]
    exact h1
  · rw [ms_ne (by decide), up_ne (by omega), up_ne (by omega), up_ne (by omega)]
    exact ⟨b1, b2, b3⟩
  · rw [ms_at, up_at]
    by_cases e : k = j
    · rw [if_pos ⟨rfl, e⟩, if_pos e]
    · rw [if_neg (fun q => e q.2), if_neg e]
      exact h2 k k0 k1
  · rw [ms_ne (by decide)]
    exact h3
  · rw [ms_ne (by decide)]
    exact h4
  · rw [ms_ne (by decide)]
    exact h5
  · rw [ms_ne (by omega)]
    exact h6 i hi
  · rw [ms_ne (by decide)]
    exact h7
theorem GX.think {X0 X : Mem} {r u f t : Int} {s P T W P' : Int → Int} (h : GX X0 r u f t s P T X) (hW : ∀ q : Int, q < 0 ∨ 32 ≤ q → W q = 0) : GX X0 r u f t s P' T (ma (ma X 41 W) 57 P') := by
  obtain ⟨h1, h1b, h2, h3, h4, h5, h6, h7⟩ := h
  refine ⟨?_, ?_, fun k k0 k1 => ?_, ma_same, ?_, ?_, fun i hi => ?_, ?_⟩
  · rw [ma_ne (by decide), ma_ne (by decide)]
    exact h1
  · rw [ma_ne (by decide), ma_ne (by decide)]
    exact h1b
  · rw [ma_ne (by decide), ma_ne (by decide)]
    exact h2 k k0 k1
  · rw [ma_ne (by decide), ma_ne (by decide)]
    exact h4
  · rw [ma_ne (by decide), ma_same]
    exact hW
  · rw [ma_ne (by omega), ma_ne (by omega)]
    exact h6 i hi
  · rw [ma_ne (by decide), ma_ne (by decide)]
    exact h7
theorem GX.turn {X0 X : Mem} {r u f t o v : Int} {s P T : Int → Int} (h : GX X0 r u f t s P T X) : GX X0 r u f t s P (up T o v) (ms X 58 o v) := by
  obtain ⟨h1, h1b, h2, h3, h4, h5, h6, h7⟩ := h
  refine ⟨?_, ?_, fun k k0 k1 => ?_, ?_, ?_, ?_, fun i hi => ?_, ?_⟩
  · rw [ms_ne (by decide)]
    exact h1
  · rw [ms_ne (by decide)]
    exact h1b
  · rw [ms_ne (by decide)]
    exact h2 k k0 k1
  · rw [ms_ne (by decide)]
    exact h3
  · rw [ms_ma, ma_same, h4]
  · rw [ms_ne (by decide)]
    exact h5
  · rw [ms_ne (by omega)]
    exact h6 i hi
  · rw [ms_ne (by decide)]
    exact h7
theorem GX.look {X0 X Y : Mem} {r u f t : Int} {s P T : Int → Int} (h : GX X0 r u f t s P T X) (e : ∀ i : Int, i < 42 ∨ 47 < i → Y i = X i) (e7 : Y 42 7 = X 42 7) : GX X0 r u f t s P T Y := by
  obtain ⟨h1, h1b, h2, h3, h4, h5, h6, h7⟩ := h
  unfold GX
  rw [e 55 (by decide), e 56 (by decide), e 57 (by decide), e 58 (by decide), e 41 (by decide), e7]
  exact ⟨h1, h1b, h2, h3, h4, h5, fun i hi => by rw [e i (by omega)]; exact h6 i hi, h7⟩
