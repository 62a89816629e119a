/-! forget, sound, colour -/
theorem think_two {r p : Int} {m : Nat} {X : Mem} {A g130 : Int → Int} (hm : m ≤ 5) (hr : r ≠ 41) (hr6 : r + 6 ≠ 41) (hp : p ≠ 41) (h2 : X r 2 = m) (hch : ∀ b : Int, 0 ≤ b → b < 5 → 0 ≤ X (r + 6) b ∧ X (r + 6) b ≤ 16) (hz : ∀ q : Int, q < 0 ∨ 32 ≤ q → X 41 q = 0)
    (g2 : A 2 = m) (gch : ∀ b : Int, 0 ≤ b → b < 5 → 0 ≤ A (28 + 4 * b + 1) ∧ A (28 + 4 * b + 1) ≤ 16) (he : ∀ b : Int, 0 ≤ b → b < m → A (28 + 4 * b + 1) = X (r + 6) b) (gz : ∀ q : Int, 0 ≤ q → q < 32 → 0 ≤ g130 q ∧ g130 q ≤ 2000000000000) :
    ∃ (W P V G : Int → Int), f_X9_think r p X = some (0, ma (ma X 41 W) p P) ∧ (∀ Y : Mem, Y 121 = A → Y 130 = g130 → f_X12_first Y = some (0, ma (ma Y 130 V) 121 G)) ∧
      (∀ q : Int, q < 0 ∨ 32 ≤ q → W q = 0) ∧ (∀ q : Int, 0 ≤ q → q < 32 → 0 ≤ V q ∧ V q ≤ 2000000000000) ∧
      (∀ q : Int, 0 ≤ q → q < 32 → 0 ≤ P q ∧ P q ≤ 1000000) ∧ sm P 32 = 1000000 ∧ (∀ q : Int, ((2 ^ m : Nat) : Int) ≤ q → q < 32 → P q = 0) ∧
      (∀ q : Int, 0 ≤ q → q < ((2 ^ m : Nat) : Int) → G (168 + q) = P q) ∧ (∀ q : Int, q < 168 ∨ 200 ≤ q → G q = A q) := by
  have h32 : 2 ^ m ≤ 32 ∧ 0 < 2 ^ m := by rcases show m = 0 ∨ m = 1 ∨ m = 2 ∨ m = 3 ∨ m = 4 ∨ m = 5 by omega with rfl | rfl | rfl | rfl | rfl | rfl <;> decide
  have hN : ishl 1 (m : Int) = ((2 ^ m : Nat) : Int) := ishl_pow ⟨m, by omega⟩
  have hW := wF_pos hch hm
  have eV : wG (fun b => A (28 + 4 * b + 1)) m (2 ^ m) g130 = wG (X (r + 6)) m (2 ^ m) g130 := wG_ext he
  refine ⟨wF (X (r + 6)) m (2 ^ m), shF (wF (X (r + 6)) m (2 ^ m)) (X p), wG (X (r + 6)) m (2 ^ m) g130, shM (2 ^ m) (wG (X (r + 6)) m (2 ^ m) g130) A, ?_, ?_, ?_, ?_, ?_, shF_sum, ?_, ?_, ?_⟩
  · rw [think_eq hm h32.1 hr hr6 hp h2 hch hN hz, if_pos hW]
  · intro Y y1 y3
    have h := first_eq (m := m) (N := 2 ^ m) (X := Y) hm h32.2 h32.1 (by rw [y1, g2]) (by rw [y1]; exact gch) hN (by rw [y3]; exact gz) (by rw [y1, y3]; exact wG_pos gch hm)
    rw [y1, y3, eV] at h
    exact h
  · intro q hq
    exact if_neg (by omega)
  · intro q q0 q1
    unfold wG
    split
    · exact wtk_b hch q hm
    · exact gz q q0 q1
  · intro q q0 q1
    have := shF_r (f := X p) hW (fun q _ _ => (wF_r hm hch q).1) q.toNat (by omega)
    rw [Int.toNat_of_nonneg q0] at this
    exact this
  · intro q q0 q1
    exact shF_beyond hch hm q q0 q1
  · intro q q0 q1
    exact (shFM hch hm q q0 q1).symm
  · intro q hq
    refine if_neg ?_
    have : ((2 ^ m : Nat) : Int) ≤ 32 := Int.ofNat_le.mpr h32.1
    omega
theorem q_forget : pair_24 REL := by
  intro cn X hcn h
  obtain ⟨n1, n2, n3, n4, n5, n6⟩ := h.now
  have hrr := RIV_r n1
  have hA2 := n3.2.1
  have hW := h.rw
  have b6 := n3.2.2.2.2.2.1
  obtain ⟨nv1, nv2, nv3⟩ := NS_v hA2
  obtain ⟨v1, v2, v3, v4, v5, v6, v7⟩ := n2
  have hbj := n3.2.2.2.2.2.2.2.2.2.2.2.2.2.2.2.1
  show OUT cn f_X11_forget f_X12_forget X
  let U : Mem := ms (ms X 2 3 0) 2 4 0
  have uo : ∀ i : Int, i ≠ 2 → U i = X i := fun i hi => by
    show ms (ms X 2 3 0) 2 4 0 i = X i
    rw [ms_ne hi, ms_ne hi]
  have u20 : U 2 0 = X 2 0 := by
    show ms (ms X 2 3 0) 2 4 0 2 0 = X 2 0
    rw [ms_at, if_neg (by decide), ms_at, if_neg (by decide)]
  obtain ⟨W, P, V, G, t1, t2, t3, t4, t5, t6, t7, t8, t9⟩ := think_two (r := X 2 0) (p := 18) (m := (X 121 2).toNat) (X := U) (A := up (up (X 121) 3 0) 4 0) (g130 := X 130) (by omega) (by omega) (by omega) (by decide) (by rw [uo _ (by omega), v1.2.2.1]; omega) (fun b b0 b1 => by rw [uo _ (by omega)]; exact (v7 b b0 b1).2.1) (fun q hq => by rw [uo 41 (by decide)]; exact hW.1 q hq)
    (by rw [up_ne (by decide), up_ne (by decide)]; omega) (fun b b0 b1 => by rw [up_ne (by omega), up_ne (by omega)]; exact hbj _ (by omega) (by omega)) (fun b b0 b1 => by rw [up_ne (by omega), up_ne (by omega), uo _ (by omega)]; exact (v5 b b0 (by omega)).2.1.symm) hW.2
  have e121 : ms (ms (ms (ma (ma U 41 W) 18 P) 0 16 0) 121 3 0) 121 4 0 121 = up (up (X 121) 3 0) 4 0 := by
    funext k
    rw [ms_at, up_at]
    by_cases a : k = 4
    · rw [if_pos ⟨rfl, a⟩, if_pos a]
    · rw [if_neg (fun e => a e.2), if_neg a, ms_at, up_at]
      by_cases b : k = 3
      · rw [if_pos ⟨rfl, b⟩, if_pos b]
      · rw [if_neg (fun e => b e.2), if_neg b, ms_ne (by decide), ma_ne (by decide), ma_ne (by decide), uo 121 (by decide)]
  have e130 : ms (ms (ms (ma (ma U 41 W) 18 P) 0 16 0) 121 3 0) 121 4 0 130 = X 130 := by
    rw [ms_ne (by decide), ms_ne (by decide), ms_ne (by decide), ma_ne (by decide), ma_ne (by decide), uo 130 (by decide)]
  have tG := t2 _ e121 e130
  have gG : ∀ k : Int, k < 168 ∨ 200 ≤ k → G k = if k = 4 then 0 else if k = 3 then 0 else X 121 k := fun k hk => by
    rw [t9 k hk, up_at, up_at]
  refine out_th h (r := 1) (v := 0) (Y := ma (ma U 41 W) 18 P) (Z := ma (ma (ms (ms (ms (ma (ma U 41 W) 18 P) 0 16 0) 121 3 0) 121 4 0) 130 V) 121 G) (by decide) (by decide) (inI_s (by decide) (by decide)) ?_ ?_ (fun i k q1 q2 => ?_) ?_ ?_ ?_ ?_ ?_ ?_
  · unfold f_X11_forget f_X11_startAfresh
    rw [bd_eq, bd_eq, show ms (ms X 2 3 0) 2 4 0 = U from rfl, u20, cm_ok n1, t1, cl_some, cl_some, agree_eq, cl_some, cz_1]
  · unfold f_X12_forget f_X12_is
    rw [ax_ok (n := 2200) (by decide) (by decide), bd_eq, ax_ok (n := 2200) (by decide) (by decide), bd_eq, tG, cl_some, bd_eq, c1_okk (by decide) (by decide), if_neg (by decide), cl_some, cz_1]
  · unfold TCH at q2
    by_cases a1 : i = 121
    · subst a1
      rw [ms_ne (by decide), ma_same, gG k (by omega), if_neg (by omega), if_neg (by omega), ms_ne (by decide), ms_ne (by decide)]
    · have e2 : ∀ v : Int, ms (ms X 0 16 0) 120 2 v i k = if i = 120 ∧ k = 2 then v else if i = 0 ∧ k = 16 then 0 else X i k := fun v => by rw [ms_at, ms_at]
      rw [e2, ms_at, ma_ne a1, ma_ne (by omega), ms_ne a1, ms_ne a1, ms_at, ma_ne (by omega), ma_ne (by omega)]
      by_cases a2 : i = 120 ∧ k = 2
      · rw [if_pos a2, if_pos a2]
      · rw [if_neg a2, if_neg a2]
        by_cases a3 : i = 0 ∧ k = 16
        · rw [if_pos a3, if_pos a3]
        · rw [if_neg a3, if_neg a3]
          show ms (ms X 2 3 0) 2 4 0 i k = X i k
          rw [ms_at, if_neg (by omega), ms_at, if_neg (by omega)]
  · rw [ma_same, gG 3 (by decide), if_neg (by omega), if_pos rfl]
    exact ⟨by omega, by omega⟩
  · rw [ma_same, gG 4 (by decide), if_pos rfl]
    exact ⟨by omega, by omega⟩
  · rw [ma_same, gG 3 (by decide), ma_ne (by decide), ma_ne (by decide), ms_ne (by decide), ms_ne (by decide), ms_ne (by decide), ma_ne (by decide), ma_ne (by decide)]
    rfl
  · rw [ma_same, gG 4 (by decide), ma_ne (by decide), ma_ne (by decide), ms_ne (by decide), ms_ne (by decide), ms_ne (by decide), ma_ne (by decide), ma_ne (by decide)]
    rfl
  · have eN : NS G = ((2 ^ (X 121 2).toNat : Nat) : Int) := by
      rw [← nv1]
      unfold NS
      rw [gG 2 (by decide)]
      rfl
    rw [ma_same, ma_ne (by decide), ma_ne (by decide), ms_ne (by decide), ms_ne (by decide), ms_ne (by decide), ma_same]
    unfold TH
    rw [eN]
    exact ⟨t5, t6, t7, t8⟩
  · refine ⟨fun q hq => ?_, fun q q0 q1 => ?_⟩
    · rw [ma_ne (by decide), ma_ne (by decide), ms_ne (by decide), ms_ne (by decide), ms_ne (by decide), ma_ne (by decide), ma_same]
      exact t3 q hq
    · rw [ma_ne (by decide), ma_same]
      exact t4 q q0 q1
/-- an answer after a reading -/
theorem out_share {cn : Int} {a b : Mem → Option (Int × Mem)} {X : Mem} {W V : Int → Int} {N : Nat} (h : REL cn X) (hN : (N : Int) = NS (X 121))
    (ea : a X = if 0 < sm W 32 then some (1, ms (ma (ma X 41 W) 18 (shF W (X 18))) 0 16 0) else some (0, ms (ma X 41 W) 0 16 7))
    (eb : ∀ Z : Mem, Z 121 = X 121 → Z 130 = X 130 → b Z = if 0 < sm V N then some (1, ms (ma (ma Z 130 V) 121 (shM N V (X 121))) 120 2 0) else some (0, ms (ma Z 130 V) 120 2 7))
    (hW : ∀ q : Int, 0 ≤ q → q < 32 → 0 ≤ W q ∧ W q ≤ 2000000000000) (hz : ∀ q : Int, q < 0 ∨ 32 ≤ q → W q = 0) (hb : ∀ q : Int, (N : Int) ≤ q → q < 32 → W q = 0) (hV : ∀ q : Int, 0 ≤ q → q < 32 → 0 ≤ V q ∧ V q ≤ 2000000000000) (e : ∀ q : Int, 0 ≤ q → q < N → V q = W q) : OUT cn a b X := by
  obtain ⟨n1, n2, n3, n4, n5, n6⟩ := h.now
  have hA2 := n3.2.1
  have b3 := n3.2.2.1
  have b4 := n3.2.2.2.1
  have h99 : X 121 3 ≤ 99 := h.2.2.2.1
  have hNr := NS_r hA2
  obtain ⟨s1, s2⟩ := share_th (P0 := X 18) (A' := X 121) (show 0 < N by omega) (show N ≤ 32 by omega) hW hz hb e
  by_cases g : 0 < sm W 32
  · obtain ⟨k1, k2, k3, k4⟩ := s2 g
    rw [if_pos g] at ea
    have out : ∀ q : Int, q < 168 ∨ 200 ≤ q → shM N V (X 121) q = X 121 q := fun q hq => shM_out (by omega)
    refine out_th h (r := 1) (v := 0) (Y := ma (ma X 41 W) 18 (shF W (X 18))) (Z := ma (ma (ms (ma (ma X 41 W) 18 (shF W (X 18))) 0 16 0) 130 V) 121 (shM N V (X 121))) (by decide) (by decide) (inI_s (by decide) (by decide)) ea ?_ (fun i k q1 q2 => ?_) ?_ ?_ ?_ ?_ ?_ ?_
    · rw [eb _ (by rw [ms_ne (by decide), ma_ne (by decide), ma_ne (by decide)]) (by rw [ms_ne (by decide), ma_ne (by decide), ma_ne (by decide)]), if_pos (by omega)]
    · unfold TCH at q2
      by_cases a1 : i = 121
      · subst a1
        rw [ms_ne (by decide), ma_same, out k (by omega), ms_ne (by decide), ms_ne (by decide)]
      · rw [ms_at, ms_at, ma_ne a1, ma_ne (by omega), ms_at, ms_at, ma_ne (by omega), ma_ne (by omega)]
    · rw [ma_same, out 3 (by decide)]
      exact ⟨b3.1, h99⟩
    · rw [ma_same, out 4 (by decide)]
      exact b4
    · rw [ma_same, out 3 (by decide), ma_ne (by decide), ma_ne (by decide), ms_ne (by decide), ma_ne (by decide), ma_ne (by decide)]
      exact n4
    · rw [ma_same, out 4 (by decide), ma_ne (by decide), ma_ne (by decide), ms_ne (by decide), ma_ne (by decide), ma_ne (by decide)]
      exact n5
    · have eN : NS (shM N V (X 121)) = (N : Int) := by
        rw [hN]
        unfold NS
        rw [out 2 (by decide)]
      rw [ma_same, ma_ne (by decide), ma_ne (by decide), ms_ne (by decide), ma_same]
      unfold TH
      rw [eN]
      exact ⟨k1, k2, k3, k4⟩
    · refine ⟨fun q hq => ?_, fun q q0 q1 => ?_⟩
      · rw [ma_ne (by decide), ma_ne (by decide), ms_ne (by decide), ma_ne (by decide), ma_same]
        exact hz q hq
      · rw [ma_ne (by decide), ma_same]
        exact hV q q0 q1
  · rw [if_neg g] at ea
    refine out_th h (r := 0) (v := 7) (Y := ma X 41 W) (Z := ma (ms (ma X 41 W) 0 16 7) 130 V) (by decide) (by decide) (inI_s (by decide) (by decide)) ea ?_ (fun i k q1 q2 => ?_) ?_ ?_ ?_ ?_ ?_ ?_
    · rw [eb _ (by rw [ms_ne (by decide), ma_ne (by decide)]) (by rw [ms_ne (by decide), ma_ne (by decide)]), if_neg (by omega)]
    · unfold TCH at q2
      rw [ms_at, ms_at, ma_ne (by omega), ms_at, ms_at, ma_ne (by omega)]
    · rw [ma_ne (by decide), ms_ne (by decide), ma_ne (by decide)]
      exact ⟨b3.1, h99⟩
    · rw [ma_ne (by decide), ms_ne (by decide), ma_ne (by decide)]
      exact b4
    · rw [ma_ne (by decide), ms_ne (by decide), ma_ne (by decide), ma_ne (by decide), ms_ne (by decide), ma_ne (by decide)]
      exact n4
    · rw [ma_ne (by decide), ms_ne (by decide), ma_ne (by decide), ma_ne (by decide), ms_ne (by decide), ma_ne (by decide)]
      exact n5
    · rw [ma_ne (by decide), ms_ne (by decide), ma_ne (by decide), ma_ne (by decide), ms_ne (by decide), ma_ne (by decide)]
      exact n6
    · refine ⟨fun q hq => ?_, fun q q0 q1 => ?_⟩
      · rw [ma_ne (by decide), ms_ne (by decide), ma_same]
        exact hz q hq
      · rw [ma_same]
        exact hV q q0 q1
/-- how likely a reading is at a depth, in sixteenths -/
def lk (A : Int → Int) (d v : Int) : Int := if v = d then 2 * A 11 else if v = d - 1 ∨ v = d + 1 then 16 - A 11 else 0
theorem lk_r {A : Int → Int} (hB : BD A) {d v : Int} : 0 ≤ lk A d v ∧ lk A d v ≤ 32 := by
  have h := hB.2.2.2.2.2.2.2.2.2.2.1
  unfold lk
  split
  · omega
  · split <;> omega
theorem likely_eq {X : Mem} {r d v : Int} {A : Int → Int} (hR : RV X r A) (hd : -1000 ≤ d ∧ d ≤ 1000) (hv : -1000 ≤ v ∧ v ≤ 1000) : f_X2_likelyRead r v d X = some (lk A d v, X) := by
  have e9 : X r 9 = A 11 := hR.1.2.2.2.2.2.2.2.2.2.1
  unfold f_X2_likelyRead B_X2_likelyRead_26 lk
  rw [c2_ok (by omega) (by omega) (by omega) (by omega), e9]
  by_cases g : v = d
  · rw [if_neg (by simpa using g), if_pos g]
  · rw [if_pos g, if_neg g, c2_ok (by omega) (by omega) (by omega) (by omega)]
    by_cases g2 : v = d + 1
    · rw [if_pos g2, if_pos (Or.inr g2)]
    · rw [if_neg g2, c2_ok (by omega) (by omega) (by omega) (by omega)]
      by_cases g3 : v = d - 1
      · rw [if_neg (by simpa using g3), if_pos (Or.inl g3)]
      · rw [if_pos g3, if_neg (by omega)]
theorem weighs_eq {X : Mem} {d v : Int} (hd : -1000 ≤ d ∧ d ≤ 1000) (hv : -1000 ≤ v ∧ v ≤ 1000) : f_X12_weighs d v X = some (lk (X 121) d v, X) := by
  unfold f_X12_weighs B_X12_weighs_31 lk
  rw [c2_ok (by omega) (by omega) (by omega) (by omega)]
  by_cases g : v = d
  · rw [if_neg (by simpa using g), if_pos g, ax_ok (by decide) (by decide)]
  · rw [if_pos g, if_neg g, c2_ok (by omega) (by omega) (by omega) (by omega)]
    by_cases g3 : v = d - 1
    · rw [if_pos g3, if_pos (Or.inl g3), ax_ok (by decide) (by decide)]
    · rw [if_neg g3, c2_ok (by omega) (by omega) (by omega) (by omega)]
      by_cases g2 : v = d + 1
      · rw [if_neg (by simpa using g2), if_pos (Or.inr g2), ax_ok (by decide) (by decide)]
      · rw [if_pos g2, if_neg (by omega)]
theorem depd_r {A : Int → Int} (hB : BD A) {c x d : Int} (c0 : 0 ≤ c) (c1 : c < 60) (d0 : 0 ≤ d) : -30 ≤ dep A (stg A d) c x ∧ dep A (stg A d) c x ≤ 60 := by
  have h1 := tk_r hB c0 c1 (x := x)
  have h2 := hB.2.2.2.2.2.2.2.2.2.2.2.2.2.2.2.2.1 c c0 c1
  have h3 := stg_r hB (d := d) d0
  unfold dep
  omega
theorem hear_10 {X0 : Mem} {A P : Int → Int} {r c v d : Int} (hB : BD A) (hr : r ∈ RIV) (hR : RV X0 r A) (hP : X0 18 = P) (c0 : 0 ≤ c) (c1 : c < 60) (d0 : 0 ≤ d) (hv : -1000 ≤ v ∧ v ≤ 1000) : ∀ (k : Nat) (q : Int) (W : Int → Int), 0 ≤ q → q ≤ 32 → (32 - q).toNat < k → (∀ s : Int, 0 ≤ s → s < q → W s = P s * lk A (dep A (stg A d) c s) v) →
    ∃ W' : Int → Int, L_X9_hearPole_10 k r 18 c v (stg A d) q (ma X0 41 W) = B_X9_hearPole_56 18 (ma X0 41 W') ∧ (∀ s : Int, 0 ≤ s → s < 32 → W' s = P s * lk A (dep A (stg A d) c s) v) ∧ ∀ s : Int, s < 0 ∨ 32 ≤ s → W' s = W s := by
  intro k
  induction k with
  | zero => intro q W _ _ h; omega
  | succ k ih =>
    intro q W q0 q1 hk hW
    rw [L_X9_hearPole_10, c2_ok (by omega) (by omega) (by decide) (by decide)]
    by_cases g : 32 ≤ q
    · rw [if_pos g]
      exact ⟨W, rfl, fun s s0 s1 => hW s s0 (by omega), fun s _ => rfl⟩
    · have hR2 : RV (ma X0 41 W) r A := hR.fr2 hr fun i hi => ma_ne (by omega)
      have hd := depd_r hB (x := q) c0 c1 d0
      have hl := lk_r hB (d := dep A (stg A d) c q) (v := v)
      rw [if_neg g, depthAt_eq hR2 hB c0 c1, cl_some, ax_ok q0 (by omega), likely_eq hR2 (by omega) hv, cl_some, c1_okk (by omega) (by omega), ax_ok q0 (by omega), bd_eq, ms_row, ma_ne (by decide), hP]
      obtain ⟨W', e1, e2, e3⟩ := ih (q + 1) (up W q (P q * lk A (dep A (stg A d) c q) v)) (by omega) (by omega) (by omega) (fun s s0 s1 => by
        rw [up_at]
        by_cases e : s = q
        · rw [if_pos e, e]
        · rw [if_neg e]
          exact hW s s0 (by omega))
      exact ⟨W', e1, e2, fun s hs => by rw [e3 s hs, up_ne (by omega)]⟩
theorem sounds_2 {A P : Int → Int} {c v : Int} (hB : BD A) (hT : TH P A) (c0 : 0 ≤ c) (c1 : c < 60) (hv : -1000 ≤ v ∧ v ≤ 1000) : ∀ (k : Nat) (q : Int) (V : Int → Int), 0 ≤ q → q ≤ NS A → (NS A - q).toNat < k → (∀ s : Int, 0 ≤ s → s < q → V s = P s * lk A (dep A (stg A (A 3)) c s) v) →
    ∃ V' : Int → Int, (∀ Z : Mem, Z 121 = A → L_X12_sounds_2 k c v q (ma Z 130 V) = B_X12_sounds_46 (ma Z 130 V')) ∧ (∀ s : Int, 0 ≤ s → s < NS A → V' s = P s * lk A (dep A (stg A (A 3)) c s) v) ∧ ∀ s : Int, s < 0 ∨ NS A ≤ s → V' s = V s := by
  have hN := NS_r hB.2.1
  have b3 := hB.2.2.1
  intro k
  induction k with
  | zero => intro q V _ _ h; omega
  | succ k ih =>
    intro q V q0 q1 hk hV
    have e2 : ∀ Z : Mem, Z 121 = A → f_X12_sets (ma Z 130 V) = some (NS A, ma Z 130 V) := fun Z hZ => by
      rw [sets_eq, ma_ne (by decide), hZ]
      rfl
    by_cases g : NS A ≤ q
    · refine ⟨V, fun Z hZ => ?_, fun s s0 s1 => hV s s0 (by omega), fun s _ => rfl⟩
      rw [L_X12_sounds_2, e2 Z hZ, cl_some, c2_ok (by omega) (by omega) (by omega) (by omega), if_pos g]
    · have hd := depd_r hB (x := q) c0 c1 b3.1
      have hl := lk_r hB (d := dep A (stg A (A 3)) c q) (v := v)
      have hp := hT.1 q q0 (by omega)
      obtain ⟨V', i1, i2, i3⟩ := ih (q + 1) (up V q (P q * lk A (dep A (stg A (A 3)) c q) v)) (by omega) (by omega) (by omega) (fun s s0 s1 => by
        rw [up_at]
        by_cases e : s = q
        · rw [if_pos e, e]
        · rw [if_neg e]
          exact hV s s0 (by omega))
      refine ⟨V', fun Z hZ => ?_, i2, fun s hs => by rw [i3 s (by omega), up_ne (by omega)]⟩
      have e121 : (ma Z 130 V) 121 = A := by rw [ma_ne (by decide)]; exact hZ
      rw [L_X12_sounds_2, e2 Z hZ, cl_some, c2_ok (by omega) (by omega) (by omega) (by omega), if_neg g, ax_ok (n := 2200) (by omega) (by omega), e121, hT.2.2.2 q q0 (by omega), c1_okk (by omega) (by omega), depthOf_eq (by rw [e121]; exact hB) c0 c1, cl_some, e121, weighs_eq (by omega) hv, cl_some, e121, c1_okk (by omega) (by omega), ax_ok (n := 32) q0 (by omega), bd_eq, ms_row]
      exact i1 Z hZ
/-- both sides' weights after a reading: the shares by a factor of at most 32 -/
theorem out_by {cn : Int} {a b : Mem → Option (Int × Mem)} {X : Mem} {f : Int → Int} (h : REL cn X) (hf : ∀ s : Int, 0 ≤ s → s < 32 → 0 ≤ f s ∧ f s ≤ 32)
    (ha : ∃ W : Int → Int, a X = (if 0 < sm W 32 then some (1, ms (ma (ma X 41 W) 18 (shF W (X 18))) 0 16 0) else some (0, ms (ma X 41 W) 0 16 7)) ∧ (∀ s : Int, 0 ≤ s → s < 32 → W s = X 18 s * f s) ∧ ∀ s : Int, s < 0 ∨ 32 ≤ s → W s = X 41 s)
    (hb : ∃ V : Int → Int, (∀ Z : Mem, Z 121 = X 121 → Z 130 = X 130 → b Z = if 0 < sm V (NS (X 121)).toNat then some (1, ms (ma (ma Z 130 V) 121 (shM (NS (X 121)).toNat V (X 121))) 120 2 0) else some (0, ms (ma Z 130 V) 120 2 7)) ∧ (∀ s : Int, 0 ≤ s → s < NS (X 121) → V s = X 18 s * f s) ∧ ∀ s : Int, s < 0 ∨ NS (X 121) ≤ s → V s = X 130 s) : OUT cn a b X := by
  obtain ⟨n1, n2, n3, n4, n5, n6⟩ := h.now
  have hN := NS_r n3.2.1
  have hRW := h.rw
  obtain ⟨W, a1, a2, a3⟩ := ha
  obtain ⟨V, b1, b2, b3⟩ := hb
  have hp : ∀ s : Int, 0 ≤ s → s < 32 → 0 ≤ X 18 s * f s ∧ X 18 s * f s ≤ 32000000 := fun s s0 s1 => by
    have h1 := n6.1 s s0 s1
    have h2 := hf s s0 s1
    refine ⟨Int.mul_nonneg h1.1 h2.1, ?_⟩
    have h3 : X 18 s * f s ≤ 1000000 * f s := Int.mul_le_mul_of_nonneg_right h1.2 h2.1
    omega
  refine out_share h (N := (NS (X 121)).toNat) (by omega) a1 b1 (fun q q0 q1 => ?_) (fun q hq => ?_) (fun q q0 q1 => ?_) (fun q q0 q1 => ?_) (fun q q0 q1 => ?_)
  · have := hp q q0 q1
    rw [a2 q q0 q1]
    omega
  · rw [a3 q hq]
    exact hRW.1 q hq
  · rw [a2 q (by omega) q1, n6.2.2.1 q (by omega) q1, Int.zero_mul]
  · by_cases g : q < NS (X 121)
    · have := hp q q0 q1
      rw [b2 q q0 g]
      omega
    · rw [b3 q (by omega)]
      exact hRW.2 q q0 q1
  · rw [b2 q q0 (by omega), a2 q q0 (by omega)]
theorem q_sound : pair_21 REL := by
  intro c v hc hv cn X hcn h
  obtain ⟨n1, n2, n3, n4, n5, n6⟩ := h.now
  have hn := BD_cells n3
  have hN := NS_r n3.2.1
  have hrr := RIV_r n1
  have b3 := n3.2.2.1
  have hRW := h.rw
  have hcJ : inJ c := ⟨by have := hc.1; omega, by have := hc.2; omega⟩
  have hvJ : inJ v := ⟨by have := hv.1; omega, by have := hv.2; omega⟩
  show OUT cn (f_X11_sound c v) (f_X12_sound c v) X
  by_cases g : (0 ≤ c ∧ c < X 121 0 * X 121 1) ∧ -9 ≤ v ∧ v ≤ 30
  · obtain ⟨g1, g2, g3⟩ := g
    refine out_by h (f := fun s => lk (X 121) (dep (X 121) (stg (X 121) (X 121 3)) c s) v) (fun s _ _ => lk_r n3) ?_ ?_
    · obtain ⟨W, w1, w2, w3⟩ := hear_10 (X0 := X) (A := X 121) (P := X 18) (r := X 2 0) (c := c) (v := v) (d := X 121 3) n3 n1 n2 rfl g1.1 (by omega) b3.1 (by omega) KF 0 (X 41) (by decide) (by decide) (by rw [KF_eq]; omega) (fun s _ _ => by omega)
      rw [ma_self] at w1
      refine ⟨W, ?_, w2, w3⟩
      have hw : ∀ q : Int, 0 ≤ q → q < 32 → 0 ≤ ma X 41 W 41 q ∧ ma X 41 W 41 q ≤ 2000000000000 := fun q q0 q1 => by
        have h1 := n6.1 q q0 q1
        have h2 := lk_r n3 (d := dep (X 121) (stg (X 121) (X 121 3)) c q) (v := v)
        rw [ma_same, w2 q q0 q1]
        refine ⟨Int.mul_nonneg h1.1 h2.1, ?_⟩
        have h3 := Int.mul_le_mul_of_nonneg_right (c := lk (X 121) (dep (X 121) (stg (X 121) (X 121 3)) c q) v) h1.2 h2.1
        omega
      unfold f_X11_sound f_X9_hearPole
      rw [isCell_eq n1 n2 n3 hc, if_pos g1, cl_some, c1_okk (by decide) (by decide), if_neg (by decide), c2_ok hv.1 hv.2 (by decide) (by decide), if_neg (by omega), c2_ok hv.1 hv.2 (by decide) (by decide), if_pos g3, cm_ok n1, n4, stageOn_eq n2 n3 b3.1 (by omega), cl_some, w1, B_X9_hearPole_56, share_eq (by decide) hw, ma_same, ma_ne (i := 41) (j := 18) (by decide)]
      by_cases gs : 0 < sm W 32
      · rw [if_pos gs, if_pos gs, cl_some, cz_1, cl_some, c1_okk (by decide) (by decide), if_neg (by decide), agree_eq, cl_some, cz_1]
      · rw [if_neg gs, if_neg gs, cl_some, cz_0, cl_some, c1_okk (by decide) (by decide), if_pos rfl, refuse_eq, cl_some, cz_0]
    · obtain ⟨V, w1, w2, w3⟩ := sounds_2 (A := X 121) (P := X 18) (c := c) (v := v) n3 n6 g1.1 (by omega) (by omega) KF 0 (X 130) (by decide) (by omega) (by rw [KF_eq]; omega) (fun s _ _ => by omega)
      have hV : ∀ q : Int, 0 ≤ q → q < 32 → 0 ≤ V q ∧ V q ≤ 2000000000000 := fun q q0 q1 => by
        by_cases gq : q < NS (X 121)
        · have h1 := n6.1 q q0 q1
          have h2 := lk_r n3 (d := dep (X 121) (stg (X 121) (X 121 3)) c q) (v := v)
          rw [w2 q q0 gq]
          refine ⟨Int.mul_nonneg h1.1 h2.1, ?_⟩
          have h3 := Int.mul_le_mul_of_nonneg_right (c := lk (X 121) (dep (X 121) (stg (X 121) (X 121 3)) c q) v) h1.2 h2.1
          omega
        · rw [w3 q (by omega)]
          exact hRW.2 q q0 q1
      refine ⟨V, fun Z z1 z3 => ?_, w2, w3⟩
      have hZ : L_X12_sounds_2 KF c v 0 Z = B_X12_sounds_46 (ma Z 130 V) := by
        have := w1 Z z1
        rw [← z3, ma_self] at this
        exact this
      have hs := sharem_eq (N := (NS (X 121)).toNat) (by omega) (by omega) (X := ma Z 130 V) (by rw [ma_ne (by decide), z1]; show NS (X 121) = _; omega) (by rw [ma_same]; exact hV)
      rw [ma_same, ma_ne (by decide), z1] at hs
      unfold f_X12_sound f_X12_sounds
      rw [c1_okk hc.1 hc.2, isCellm_eq (by rw [z1]; exact n3) hcJ, z1, if_pos g1, cl_some, c1_okk (by decide) (by decide), if_neg (by decide), c1_okk hv.1 hv.2, isFrom_eq hvJ (by constructor <;> decide) (by constructor <;> decide), if_pos ⟨g2, g3⟩, cl_some, c1_okk (by decide) (by decide), if_pos (by decide), hZ, B_X12_sounds_46, hs]
      by_cases gs : 0 < sm V (NS (X 121)).toNat
      · rw [if_pos gs, if_pos gs, cl_some, cz_1, cl_some, c1_okk (by decide) (by decide), if_neg (by decide)]
        unfold f_X12_is
        rw [bd_eq, c1_okk (by decide) (by decide), if_neg (by decide), cl_some, cz_1]
      · rw [if_neg gs, if_neg gs, cl_some, cz_0, cl_some, c1_okk (by decide) (by decide), if_pos rfl, isM_eq (by decide) (by decide), cl_some, cz_0]
  · refine out_st h (r := 0) (v := 1) (by decide) (by decide) (inI_s (by decide) (by decide)) ?_ ?_
    · unfold f_X11_sound
      rw [isCell_eq n1 n2 n3 hc, cl_some]
      by_cases g1 : 0 ≤ c ∧ c < X 121 0 * X 121 1
      · rw [if_pos g1, c1_okk (by decide) (by decide), if_neg (by decide), c2_ok hv.1 hv.2 (by decide) (by decide)]
        by_cases g2 : v < -9
        · rw [if_pos g2, B_X11_sound_20, refuse_eq, cl_some, cz_0]
        · rw [if_neg g2, c2_ok hv.1 hv.2 (by decide) (by decide), if_neg (by omega), B_X11_sound_20, refuse_eq, cl_some, cz_0]
      · rw [if_neg g1, c1_okk (by decide) (by decide), if_pos rfl, B_X11_sound_20, refuse_eq, cl_some, cz_0]
    · have e121 : ms X 0 16 1 121 = X 121 := s16 (by decide)
      unfold f_X12_sound
      rw [c1_okk hc.1 hc.2, isCellm_eq (by rw [e121]; exact n3) hcJ, e121, cl_some]
      by_cases g1 : 0 ≤ c ∧ c < X 121 0 * X 121 1
      · rw [if_pos g1, c1_okk (by decide) (by decide), if_neg (by decide), c1_okk hv.1 hv.2, isFrom_eq hvJ (by constructor <;> decide) (by constructor <;> decide), if_neg (by omega), cl_some, c1_okk (by decide) (by decide), if_neg (by decide), B_X12_sound_23, isM_eq (by decide) (by decide), cl_some, cz_0]
      · rw [if_neg g1, c1_okk (by decide) (by decide), if_pos rfl, B_X12_sound_23, isM_eq (by decide) (by decide), cl_some, cz_0]
/-- a colour's factor -/
def wk (A : Int → Int) (c v s : Int) : Int := if (if A (108 + c) = -1 then 0 else if ia (ishr s (A (108 + c))) 1 = 1 then 1 else 0) = v then A 12 else 16 - A 12
theorem wk_r {A : Int → Int} (hB : BD A) {c v s : Int} : 0 ≤ wk A c v s ∧ wk A c v s ≤ 32 := by
  have h := hB.2.2.2.2.2.2.2.2.2.2.2.1
  unfold wk
  split <;> omega
theorem see_11 {X0 : Mem} {A P : Int → Int} {r c v : Int} (hB : BD A) (hr : r ∈ RIV) (hR : RV X0 r A) (hP : X0 18 = P) (c0 : 0 ≤ c) (c1 : c < 60) (hv : inI v) : ∀ (k : Nat) (q : Int) (W : Int → Int), 0 ≤ q → q ≤ 32 → (32 - q).toNat < k → (∀ s : Int, 0 ≤ s → s < q → W s = P s * wk A c v s) →
    ∃ W' : Int → Int, L_X9_seeWater_11 k r 18 v (A (108 + c)) q (ma X0 41 W) = B_X9_seeWater_82 18 (ma X0 41 W') ∧ (∀ s : Int, 0 ≤ s → s < 32 → W' s = P s * wk A c v s) ∧ ∀ s : Int, s < 0 ∨ 32 ≤ s → W' s = W s := by
  have hrr := RIV_r hr
  have ho := hB.2.2.2.2.2.2.2.2.2.2.2.2.2.2.2.2.2 c c0 c1
  have hA2 := hB.2.1
  have h12 := hB.2.2.2.2.2.2.2.2.2.2.2.1
  have e10 : X0 r 10 = A 12 := hR.1.2.2.2.2.2.2.2.2.2.2
  intro k
  induction k with
  | zero => intro q W _ _ h; omega
  | succ k ih =>
    intro q W q0 q1 hk hW
    rw [L_X9_seeWater_11, c2_ok (by omega) (by omega) (by decide) (by decide)]
    by_cases g : 32 ≤ q
    · rw [if_pos g]
      exact ⟨W, rfl, fun s s0 s1 => hW s s0 (by omega), fun s _ => rfl⟩
    · have hu : ∀ f : Int, f = wk A c v q → ∃ W' : Int → Int, L_X9_seeWater_11 k r 18 v (A (108 + c)) (q + 1) (ma X0 41 (up W q (P q * f))) = B_X9_seeWater_82 18 (ma X0 41 W') ∧ (∀ s : Int, 0 ≤ s → s < 32 → W' s = P s * wk A c v s) ∧ ∀ s : Int, s < 0 ∨ 32 ≤ s → W' s = W s := fun f hf => by
        obtain ⟨W', e1, e2, e3⟩ := ih (q + 1) (up W q (P q * f)) (by omega) (by omega) (by omega) (fun s s0 s1 => by
          rw [up_at]
          by_cases e : s = q
          · rw [if_pos e, e, hf]
          · rw [if_neg e]
            exact hW s s0 (by omega))
        exact ⟨W', e1, e2, fun s hs => by rw [e3 s hs, up_ne (by omega)]⟩
      have h40 : ∀ w : Int, (w = 0 ∨ w = 1) → (if w = v then A 12 else 16 - A 12) = wk A c v q → ∃ W' : Int → Int, B_X9_seeWater_40 (fun x1 x2 x4 x5 x6 X => L_X9_seeWater_11 k x1 x2 x4 x5 x6 X) r 18 v (A (108 + c)) q w (ma X0 41 W) = B_X9_seeWater_82 18 (ma X0 41 W') ∧ (∀ s : Int, 0 ≤ s → s < 32 → W' s = P s * wk A c v s) ∧ ∀ s : Int, s < 0 ∨ 32 ≤ s → W' s = W s := fun w hw hf => by
        obtain ⟨W', e1, e2⟩ := hu _ hf
        refine ⟨W', ?_, e2⟩
        rw [B_X9_seeWater_40, ax_ok q0 (by omega), c2_ok (by omega) (by omega) hv.1 hv.2, ma_ne (by omega), ma_ne (by decide), e10, hP]
        by_cases gw : w = v
        · rw [if_neg (by simpa using gw), B_X9_seeWater_73, c1_okk (by omega) (by omega), ax_ok q0 (by omega), bd_eq, ms_row]
          rw [if_pos gw] at e1
          exact e1
        · rw [if_pos gw, B_X9_seeWater_73, c1_okk (by omega) (by omega), ax_ok q0 (by omega), bd_eq, ms_row]
          rw [if_neg gw] at e1
          exact e1
      rw [if_neg g, c2_ok (by omega) (by omega) (by decide) (by decide)]
      by_cases g1 : A (108 + c) = -1
      · rw [if_pos g1, B_X9_seeWater_39]
        exact h40 0 (Or.inl rfl) (by unfold wk; rw [if_pos g1])
      · have hi := ia_I (ishr q (A (108 + c))) 1
        rw [if_neg g1, c2_ok hi.1 hi.2 (by decide) (by decide)]
        by_cases g2 : ia (ishr q (A (108 + c))) 1 = 1
        · rw [if_neg (by simpa using g2)]
          exact h40 1 (Or.inr rfl) (by unfold wk; rw [if_neg g1, if_pos g2])
        · rw [if_pos g2, B_X9_seeWater_39]
          exact h40 0 (Or.inl rfl) (by unfold wk; rw [if_neg g1, if_neg g2])
theorem colours_13 {A P : Int → Int} {c v : Int} (hB : BD A) (hT : TH P A) (c0 : 0 ≤ c) (c1 : c < 60) (hv : inI v) : ∀ (k : Nat) (q : Int) (V : Int → Int), 0 ≤ q → q ≤ NS A → (NS A - q).toNat < k → (∀ s : Int, 0 ≤ s → s < q → V s = P s * wk A c v s) →
    ∃ V' : Int → Int, (∀ Z : Mem, Z 121 = A → L_X12_colours_13 k v (A (108 + c)) q (ma Z 130 V) = B_X12_colours_97 (ma Z 130 V')) ∧ (∀ s : Int, 0 ≤ s → s < NS A → V' s = P s * wk A c v s) ∧ ∀ s : Int, s < 0 ∨ NS A ≤ s → V' s = V s := by
  have hN := NS_r hB.2.1
  have ho := hB.2.2.2.2.2.2.2.2.2.2.2.2.2.2.2.2.2 c c0 c1
  have hA2 := hB.2.1
  have h12 := hB.2.2.2.2.2.2.2.2.2.2.2.1
  intro k
  induction k with
  | zero => intro q V _ _ h; omega
  | succ k ih =>
    intro q V q0 q1 hk hV
    have e2 : ∀ Z : Mem, Z 121 = A → f_X12_sets (ma Z 130 V) = some (NS A, ma Z 130 V) := fun Z hZ => by
      rw [sets_eq, ma_ne (by decide), hZ]
      rfl
    by_cases g : NS A ≤ q
    · refine ⟨V, fun Z hZ => ?_, fun s s0 s1 => hV s s0 (by omega), fun s _ => rfl⟩
      rw [L_X12_colours_13, e2 Z hZ, cl_some, c2_ok (by omega) (by omega) (by omega) (by omega), if_pos g]
    · have hp := hT.1 q q0 (by omega)
      obtain ⟨V', i1, i2, i3⟩ := ih (q + 1) (up V q (P q * wk A c v q)) (by omega) (by omega) (by omega) (fun s s0 s1 => by
        rw [up_at]
        by_cases e : s = q
        · rw [if_pos e, e]
        · rw [if_neg e]
          exact hV s s0 (by omega))
      refine ⟨V', fun Z hZ => ?_, i2, fun s hs => by rw [i3 s (by omega), up_ne (by omega)]⟩
      have e121 : (ma Z 130 V) 121 = A := by rw [ma_ne (by decide)]; exact hZ
      have h42 : ∀ w : Int, (w = 0 ∨ w = 1) → (if w = v then A 12 else 16 - A 12) = wk A c v q → B_X12_colours_42 (fun x2 x3 x4 X => L_X12_colours_13 k x2 x3 x4 X) v (A (108 + c)) q w (ma Z 130 V) = B_X12_colours_97 (ma Z 130 V') := fun w hw hf => by
        have i1 := i1 Z hZ
        rw [← hf] at i1
        rw [B_X12_colours_42, ax_ok (n := 2200) (by omega) (by omega), e121, hT.2.2.2 q q0 (by omega), c1_okk (by omega) (by omega), c2_ok (by omega) (by omega) hv.1 hv.2]
        by_cases gw : w = v
        · rw [if_neg (by simpa using gw), ax_ok (n := 2200) (by decide) (by decide), B_X12_colours_88, c1_okk (by omega) (by omega), ax_ok (n := 32) q0 (by omega), bd_eq, ms_row]
          rw [if_pos gw] at i1
          exact i1
        · rw [if_pos gw, ax_ok (n := 2200) (by decide) (by decide), B_X12_colours_88, c1_okk (by omega) (by omega), ax_ok (n := 32) q0 (by omega), bd_eq, ms_row]
          rw [if_neg gw] at i1
          exact i1
      rw [L_X12_colours_13, e2 Z hZ, cl_some, c2_ok (by omega) (by omega) (by omega) (by omega), if_neg g, c2_ok (by omega) (by omega) (by decide) (by decide)]
      by_cases g1 : A (108 + c) = -1
      · rw [if_pos g1, B_X12_colours_41]
        exact h42 0 (Or.inl rfl) (by unfold wk; rw [if_pos g1])
      · have hi := ia_I (ishr q (A (108 + c))) 1
        rw [if_neg g1, c2_ok hi.1 hi.2 (by decide) (by decide)]
        by_cases g2 : ia (ishr q (A (108 + c))) 1 = 1
        · rw [if_neg (by simpa using g2)]
          exact h42 1 (Or.inr rfl) (by unfold wk; rw [if_neg g1, if_pos g2])
        · rw [if_pos g2, B_X12_colours_41]
          exact h42 0 (Or.inl rfl) (by unfold wk; rw [if_neg g1, if_neg g2])
theorem q_colour : pair_22 REL := by
  intro c v hc hv cn X hcn h
  obtain ⟨n1, n2, n3, n4, n5, n6⟩ := h.now
  have hn := BD_cells n3
  have hN := NS_r n3.2.1
  have hrr := RIV_r n1
  have hRW := h.rw
  have hcJ : inJ c := ⟨by have := hc.1; omega, by have := hc.2; omega⟩
  have hvI : inI v := inI_s (by omega) (by omega)
  show OUT cn (f_X11_colour c v) (f_X12_colour c v) X
  have hm : ∀ (W : Int → Int) (q : Int), 0 ≤ q → q < 32 → W q = X 18 q * wk (X 121) c v q → 0 ≤ W q ∧ W q ≤ 2000000000000 := fun W q q0 q1 hw => by
    have h1 := n6.1 q q0 q1
    have h2 := wk_r n3 (c := c) (v := v) (s := q)
    rw [hw]
    refine ⟨Int.mul_nonneg h1.1 h2.1, ?_⟩
    have h3 := Int.mul_le_mul_of_nonneg_right (c := wk (X 121) c v q) h1.2 h2.1
    omega
  by_cases g1 : 0 ≤ c ∧ c < X 121 0 * X 121 1
  · refine out_by h (f := fun s => wk (X 121) c v s) (fun s _ _ => wk_r n3) ?_ ?_
    · obtain ⟨W, w1, w2, w3⟩ := see_11 (X0 := X) (A := X 121) (P := X 18) (r := X 2 0) (c := c) (v := v) n3 n1 n2 rfl g1.1 (by omega) hvI KF 0 (X 41) (by decide) (by decide) (by rw [KF_eq]; omega) (fun s _ _ => by omega)
      rw [ma_self] at w1
      refine ⟨W, ?_, w2, w3⟩
      have hw : ∀ q : Int, 0 ≤ q → q < 32 → 0 ≤ ma X 41 W 41 q ∧ ma X 41 W 41 q ≤ 2000000000000 := fun q q0 q1 => by
        rw [ma_same]
        exact hm W q q0 q1 (w2 q q0 q1)
      unfold f_X11_colour f_X9_seeWater
      rw [isCell_eq n1 n2 n3 hc, if_pos g1, cl_some, c1_okk (by decide) (by decide), if_pos (by decide), cm_ok n1, ax_ok (n := 60) g1.1 (by omega), bd_eq, n2.2.2.1 c g1.1 (by omega), w1, B_X9_seeWater_82, share_eq (by decide) hw, ma_same, ma_ne (i := 41) (j := 18) (by decide)]
      by_cases gs : 0 < sm W 32
      · rw [if_pos gs, if_pos gs, cl_some, cz_1, cl_some, c1_okk (by decide) (by decide), if_neg (by decide), agree_eq, cl_some, cz_1]
      · rw [if_neg gs, if_neg gs, cl_some, cz_0, cl_some, c1_okk (by decide) (by decide), if_pos rfl, refuse_eq, cl_some, cz_0]
    · obtain ⟨V, w1, w2, w3⟩ := colours_13 (A := X 121) (P := X 18) (c := c) (v := v) n3 n6 g1.1 (by omega) hvI KF 0 (X 130) (by decide) (by omega) (by rw [KF_eq]; omega) (fun s _ _ => by omega)
      have hV : ∀ q : Int, 0 ≤ q → q < 32 → 0 ≤ V q ∧ V q ≤ 2000000000000 := fun q q0 q1 => by
        by_cases gq : q < NS (X 121)
        · exact hm V q q0 q1 (w2 q q0 gq)
        · rw [w3 q (by omega)]
          exact hRW.2 q q0 q1
      refine ⟨V, fun Z z1 z3 => ?_, w2, w3⟩
      have hZ : L_X12_colours_13 KF v (X 121 (108 + c)) 0 Z = B_X12_colours_97 (ma Z 130 V) := by
        have := w1 Z z1
        rw [← z3, ma_self] at this
        exact this
      have hs := sharem_eq (N := (NS (X 121)).toNat) (by omega) (by omega) (X := ma Z 130 V) (by rw [ma_ne (by decide), z1]; show NS (X 121) = _; omega) (by rw [ma_same]; exact hV)
      rw [ma_same, ma_ne (by decide), z1] at hs
      unfold f_X12_colour f_X12_colours
      rw [c1_okk hc.1 hc.2, isCellm_eq (by rw [z1]; exact n3) hcJ, z1, if_pos g1, cl_some, c1_okk (by decide) (by decide), if_pos (by decide), ax_ok (n := 2200) (by omega) (by omega), bd_eq, z1, hZ, B_X12_colours_97, hs]
      by_cases gs : 0 < sm V (NS (X 121)).toNat
      · rw [if_pos gs, if_pos gs, cl_some, cz_1, cl_some, c1_okk (by decide) (by decide), if_neg (by decide)]
        unfold f_X12_is
        rw [bd_eq, c1_okk (by decide) (by decide), if_neg (by decide), cl_some, cz_1]
      · rw [if_neg gs, if_neg gs, cl_some, cz_0, cl_some, c1_okk (by decide) (by decide), if_pos rfl, isM_eq (by decide) (by decide), cl_some, cz_0]
  · have e121 : ms X 0 16 1 121 = X 121 := s16 (by decide)
    refine out_st h (r := 0) (v := 1) (by decide) (by decide) (inI_s (by decide) (by decide)) ?_ ?_
    · unfold f_X11_colour
      rw [isCell_eq n1 n2 n3 hc, if_neg g1, cl_some, c1_okk (by decide) (by decide), if_neg (by decide), refuse_eq, cl_some, cz_0]
    · unfold f_X12_colour
      rw [c1_okk hc.1 hc.2, isCellm_eq (by rw [e121]; exact n3) hcJ, e121, if_neg g1, cl_some, c1_okk (by decide) (by decide), if_neg (by decide), isM_eq (by decide) (by decide), cl_some, cz_0]
