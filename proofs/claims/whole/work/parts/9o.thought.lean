/-! what a thought of other shares keeps -/
theorem share_th {W V P0 A' : Int → Int} {N : Nat} (hN0 : 0 < N) (hN1 : N ≤ 32) (hW : ∀ q : Int, 0 ≤ q → q < 32 → 0 ≤ W q ∧ W q ≤ 2000000000000) (hz : ∀ q : Int, q < 0 ∨ 32 ≤ q → W q = 0) (hb : ∀ q : Int, (N : Int) ≤ q → q < 32 → W q = 0) (e : ∀ q : Int, 0 ≤ q → q < N → V q = W q) :
    sm V N = sm W 32 ∧ (0 < sm W 32 → (∀ q : Int, 0 ≤ q → q < 32 → 0 ≤ shF W P0 q ∧ shF W P0 q ≤ 1000000) ∧ sm (shF W P0) 32 = 1000000 ∧ (∀ q : Int, (N : Int) ≤ q → q < 32 → shF W P0 q = 0) ∧ (∀ q : Int, 0 ≤ q → q < N → shM N V A' (168 + q) = shF W P0 q)) := by
  have hd : (32 : Nat) = N + (32 - N) := by omega
  have z : ∀ q : Int, (N : Int) ≤ q → W q = 0 := fun q h => by
    by_cases g : q < 32
    · exact hb q h g
    · exact hz q (by omega)
  have e1 : sm V N = sm W 32 := by
    rw [hd, sm_beyond _ z]
    exact sm_ext N e
  have h0 : ∀ q : Int, 0 ≤ q → 0 ≤ W q := fun q q0 => by
    by_cases g : q < 32
    · exact (hW q q0 g).1
    · rw [hz q (by omega)]
      exact Int.le_refl _
  have e2 : mx V N = mx W 32 := by
    rw [hd, mx_beyond hN0 h0 _ z]
    exact mx_ext N e
  have zS : ∀ S q : Int, (N : Int) ≤ q → shV W S q = 0 := fun S q h => by
    unfold shV
    rw [z q h, Int.zero_mul, Int.zero_ediv]
  have e3 : ∀ S : Int, sm (shV W S) 32 = sm (shV V S) N := fun S => by
    rw [hd, sm_beyond _ (zS S)]
    exact (sm_ext _ (fun q h0 h1 => by
      unfold shV
      rw [e q h0 h1])).symm
  have hm := mx_r V N
  refine ⟨e1, fun hS => ⟨fun q q0 q1 => ?_, shF_sum, fun q q0 q1 => ?_, fun q q0 q1 => ?_⟩⟩
  · have := shF_r (f := P0) hS (fun q a b => (hW q a b).1) q.toNat (by omega)
    rw [Int.toNat_of_nonneg q0] at this
    exact this
  · unfold shF
    rw [if_pos ⟨by omega, q1⟩, ← e2, if_neg (by omega), zS _ q q0, Int.add_zero]
  · unfold shF shM
    rw [if_pos (show 168 ≤ 168 + q ∧ 168 + q < 168 + (N : Int) from ⟨by omega, by omega⟩), if_pos (show 0 ≤ q ∧ q < 32 from ⟨q0, by omega⟩), show 168 + q - 168 = q from by omega, e1, e2, e3]
    unfold shV
    rw [e q q0 q1]
theorem shM_out {N : Nat} {w f : Int → Int} {q : Int} (h : q < 168 ∨ 168 + (N : Int) ≤ q) : shM N w f q = f q := by
  unfold shM
  rw [if_neg (by omega)]
/-- alike but for the day, how light, and what is thought -/
def EQV (A B : Int → Int) : Prop := ∀ k : Int, (0 ≤ k ∧ k < 3) ∨ (5 ≤ k ∧ k < 168) ∨ (200 ≤ k ∧ k < 440) → B k = A k
theorem EQV.r {A B : Int → Int} (e : EQV A B) : EQR A B := fun k h => e k (by omega)
theorem BD.tx {A B : Int → Int} (h : BD A) (e : EQV A B) (b3 : 0 ≤ B 3 ∧ B 3 ≤ 5000) (b4 : 0 ≤ B 4 ∧ B 4 ≤ A 6) : BD B := by
  obtain ⟨h0, h2, h3, h4, h5, h6, h7, h8, h9, h10, h11, h12, h13, h14, hs, hb, hd, ho⟩ := h
  unfold BD
  rw [e 0 (by decide), e 1 (by decide), e 2 (by decide), e 5 (by decide), e 6 (by decide), e 7 (by decide), e 8 (by decide), e 9 (by decide), e 10 (by decide), e 11 (by decide), e 12 (by decide), e 13 (by decide), e 14 (by decide)]
  refine ⟨h0, h2, b3, b4, h5, h6, h7, h8, h9, h10, h11, h12, h13, h14, fun d a b => ?_, fun j a b => ?_, fun c a b => ?_, fun c a b => ?_⟩
  · rw [e _ (by omega)]; exact hs d a b
  · rw [e _ (by omega)]; exact hb j a b
  · rw [e _ (by omega)]; exact hd c a b
  · rw [e _ (by omega)]; exact ho c a b
theorem stg.tx {A B : Int → Int} (h : BD A) (e : EQV A B) {d : Int} (hd : 0 ≤ d) : stg B d = stg A d := by
  obtain ⟨-, -, -, -, -, -, -, -, -, -, -, -, h13, -⟩ := h
  unfold stg
  rw [e 13 (by decide)]
  by_cases g : d < A 13
  · rw [if_pos g, if_pos g, e _ (by omega)]
  · rw [if_neg g, if_neg g]
theorem NS.tx {A B : Int → Int} (e : EQV A B) : NS B = NS A := by
  unfold NS
  rw [e 2 (by decide)]
theorem LE.tx {A B : Int → Int} (hB : BD A) (e : EQV A B) {b l : Int} (h : LE A b l) : LE B b l := by
  have hc := BD_cells hB
  unfold LE at *
  rw [e 0 (by decide), e 1 (by decide)]
  rcases h with ⟨h1, h2⟩ | ⟨h1, h2, h3, h4⟩
  · refine Or.inl ⟨h1, fun c a b => ?_⟩
    rw [e _ (by omega)]
    exact h2 c a b
  · refine Or.inr ⟨h1, h2, ?_, fun c a b => ?_⟩
    · rw [e _ (by omega)]
      exact h3
    · rw [e _ (by omega)]
      exact h4 c a b
theorem RV.tx {X : Mem} {r : Int} {A B : Int → Int} (h : RV X r A) (hB : BD A) (e : EQV A B) : RV X r B := by
  have hB2 := hB.2.1
  obtain ⟨h1, h2, h3, h4, h5, h6, h7⟩ := h
  unfold RV
  rw [e 0 (by decide), e 1 (by decide), e 2 (by decide), e 5 (by decide), e 6 (by decide), e 7 (by decide), e 8 (by decide), e 9 (by decide), e 10 (by decide), e 11 (by decide), e 12 (by decide)]
  refine ⟨h1, fun c a b => ?_, fun c a b => ?_, fun d a b => ?_, fun c a b => ?_, fun c a b => ?_, h7⟩
  · rw [e _ (by omega)]; exact h2 c a b
  · rw [e _ (by omega)]; exact h3 c a b
  · rw [stg.tx hB e a]; exact h4 d a b
  · rw [e _ (by omega), e _ (by omega), e _ (by omega), e _ (by omega)]; exact h5 c a b
  · exact LE.tx hB e (h6 c a b)
theorem RU.tx {X : Mem} {u : Int} {A B : Int → Int} (h : RU X u A) (hB : BD A) (e : EQV A B) : RU X u B := by
  obtain ⟨-, -, -, -, -, -, -, -, -, -, -, -, -, h14, -⟩ := hB
  obtain ⟨h1, h2⟩ := h
  unfold RU
  rw [e 14 (by decide)]
  refine ⟨h1, fun k a b => ?_⟩
  have h3 := h2 k a b
  unfold LN at *
  rw [e 14 (by decide), e (200 + 4 * k) (by omega), e (200 + 4 * k + 1) (by omega), e (200 + 4 * k + 2) (by omega), e (200 + 4 * k + 3) (by omega)]
  exact h3
/-- the places that another thought, day or lightness touches -/
def TCH (i k : Int) : Prop := (i = 2 ∧ (k = 3 ∨ k = 4)) ∨ i = 18 ∨ i = 41 ∨ i = 130 ∨ (i = 121 ∧ (k = 3 ∨ k = 4 ∨ (168 ≤ k ∧ k < 200)))
theorem RZ.th {cn : Int} {X Y : Mem} (h : RZ cn X) (e : ∀ i k : Int, ¬ SCR i k → ¬ ANS i k → ¬ TCH i k → Y i k = X i k) (y3 : 0 ≤ Y 121 3 ∧ Y 121 3 ≤ 99) (y4 : 0 ≤ Y 121 4 ∧ Y 121 4 ≤ X 121 6) (z3 : Y 2 3 = Y 121 3) (z4 : Y 2 4 = Y 121 4) (hT : TH (Y 18) (Y 121)) (hW : RW Y) : RZ cn Y := by
  have e0 : ∀ i : Int, i = 1 ∨ (3 ≤ i ∧ i ≤ 34 ∧ i ≠ 18) ∨ i = 36 ∨ i = 48 ∨ i = 58 ∨ (60 ≤ i ∧ i ≤ 119) ∨ (122 ≤ i ∧ i ≤ 126) ∨ i = 134 ∨ i = 135 ∨ i = 138 ∨ i = 139 → Y i = X i := fun i hi => funext fun k => e i k (by unfold SCR; omega) (by unfold ANS; omega) (by unfold TCH; omega)
  have eC : ∀ k : Int, k ≤ 15 ∨ 19 ≤ k → Y 0 k = X 0 k := fun k hk => e 0 k (by unfold SCR; omega) (by unfold ANS; omega) (by unfold TCH; omega)
  have eM : ∀ k : Int, k = 10 ∨ k = 16 ∨ k = 17 ∨ k = 22 ∨ (26 ≤ k ∧ k ≤ 38) ∨ 50 ≤ k → Y 120 k = X 120 k := fun k hk => e 120 k (by unfold SCR; omega) (by unfold ANS; omega) (by unfold TCH; omega)
  have eT : ∀ k : Int, k = 1 ∨ k = 9 ∨ k = 10 → Y 35 k = X 35 k := fun k hk => e 35 k (by unfold SCR; omega) (by unfold ANS; omega) (by unfold TCH; omega)
  have e2 : ∀ k : Int, k ≠ 3 → k ≠ 4 → Y 2 k = X 2 k := fun k a b => e 2 k (by unfold SCR; omega) (by unfold ANS; omega) (by unfold TCH; omega)
  have e1 : ∀ k : Int, k ≠ 3 → k ≠ 4 → k < 168 ∨ 200 ≤ k → Y 121 k = X 121 k := fun k a b c => e 121 k (by unfold SCR; omega) (by unfold ANS; omega) (by unfold TCH; omega)
  obtain ⟨h1, h2, h3, h4, h5, h6, h7, h8, h9, h10, h11, h12, h13⟩ := h
  have hp := h1.r
  have e122 := e0 122 (by omega)
  have hv : EQV (X 121) (Y 121) := fun k hk => e1 k (by omega) (by omega) (by omega)
  have h1' : PT2 Y := h1.fr (eC 3 (by omega)) (eC 4 (by omega)) (e2 0 (by decide) (by decide)) (e2 1 (by decide) (by decide)) (e0 69 (by omega)) (e0 86 (by omega)) (e0 103 (by omega))
  obtain ⟨s1, s2, s3, s4, s5, s6, s7⟩ := h2
  refine ⟨h1', ?_, y3.2, ?_, ?_, ?_, ?_, ?_, ?_, ?_, hW, ?_, ?_⟩
  · unfold SS
    have er : ∀ i : Int, X 2 0 ≤ i → i ≤ X 2 0 + 9 → Y i = X i := fun i a b => e0 i (by omega)
    have eu : ∀ i : Int, X 2 1 ≤ i → i ≤ X 2 1 + 4 → Y i = X i := fun i a b => e0 i (by omega)
    rw [e2 0 (by decide) (by decide), e2 1 (by decide) (by decide), e122, er (X 2 0 + 4) (by omega) (by omega), hv 2 (by omega)]
    refine ⟨z3, z4, ?_, ?_, hT, s6.tx hv (by omega) y4, s7⟩
    · exact (s3.fr er).tx s6 hv
    · exact (s4.fr eu).tx s6 hv
  · rw [eC 3 (by omega)]
    exact h4.fr (fun i a b => e0 i (by omega))
  · exact RM.fr h1 h5 (eC 15 (by omega)) (eM 53 (by omega)) (fun k hk => e1 k (by omega) (by omega) (by omega)) (fun k _ => by rw [e122]) (fun i a b => e0 i (by omega))
  · exact h6.fr (fun i hi => e0 i (by omega))
  · exact h7.fr (eT 1 (by omega)) (eM 10 (by omega)) (e0 36 (by omega)) (e0 126 (by omega))
  · exact h8.fr (eT 9 (by omega)) (eM 16 (by omega)) (eT 10 (by omega)) (eM 17 (by omega))
  · exact h9.fr (e 42 7 (by unfold SCR; omega) (by unfold ANS; omega) (by unfold TCH; omega)) (eM 36 (by omega)) (e0 48 (by omega)) (e0 135 (by omega))
  · exact h10.fr (eC 14 (by omega)) (eM 52 (by omega)) (e0 60 (by omega)) (e0 139 (by omega))
  · exact h12.fr (e0 58 (by omega)) (e0 138 (by omega))
  · exact CK.fr s6 h13 (eM 22 (by omega)) (eM 31 (by omega)) (eM 32 (by omega)) (eM 33 (by omega)) (eM 34 (by omega)) (e0 134 (by omega)) hv.r
theorem REL.rw {cn : Int} {X : Mem} (h : REL cn X) : RW X := by
  obtain ⟨-, -, -, -, -, -, -, -, -, -, -, hW, -⟩ := h
  exact hW
/-- an answer whose memory touches a thought -/
theorem out_th {cn : Int} {a b : Mem → Option (Int × Mem)} {X Y Z : Mem} (h : REL cn X) {r v : Int} (h0 : 0 ≤ v) (h1 : v ≤ 100) (hr : inI r) (ea : a X = some (r, ms Y 0 16 v)) (eb : b (ms Y 0 16 v) = some (r, ms Z 120 2 v))
    (e : ∀ i k : Int, ¬ SCR i k → ¬ TCH i k → ms Z 120 2 v i k = ms (ms X 0 16 v) 120 2 v i k) (y3 : 0 ≤ Z 121 3 ∧ Z 121 3 ≤ 99) (y4 : 0 ≤ Z 121 4 ∧ Z 121 4 ≤ X 121 6) (z3 : Z 2 3 = Z 121 3) (z4 : Z 2 4 = Z 121 4) (hT : TH (Z 18) (Z 121)) (hW : RW Z) : OUT cn a b X := by
  refine ⟨r, _, _, ea, eb, hr, ?_, ?_⟩
  · refine (h.1.st h0 h1).fr fun i k hA => e i k (by unfold ANS at hA; unfold SCR; omega) (by unfold ANS at hA; unfold TCH; omega)
  · have n : ∀ i : Int, i ≠ 120 → ms Z 120 2 v i = Z i := fun i hi => ms_ne hi
    refine (RZ.th h.2 (fun i k q1 q2 q3 => ?_) ?_ ?_ ?_ ?_ ?_ ?_).up
    · rw [e i k q1 q3, ms_at, if_neg (by unfold ANS at q2; omega), ms_at, if_neg (by unfold ANS at q2; omega)]
    · rw [n 121 (by decide)]; exact y3
    · rw [n 121 (by decide)]; exact y4
    · rw [n 121 (by decide), n 2 (by decide)]; exact z3
    · rw [n 121 (by decide), n 2 (by decide)]; exact z4
    · rw [n 121 (by decide), n 18 (by decide)]; exact hT
    · exact hW.fr (n 41 (by decide)) (n 130 (by decide))
theorem TH.of {P A B : Int → Int} (h : TH P A) (hA : 0 ≤ A 2 ∧ A 2 ≤ 5) (e2 : B 2 = A 2) (e : ∀ k : Int, 168 ≤ k → k < 200 → B k = A k) : TH P B := by
  have hN := NS_r hA
  have eN : NS B = NS A := by
    unfold NS
    rw [e2]
  obtain ⟨h1, h2, h3, h4⟩ := h
  unfold TH
  rw [eN]
  refine ⟨h1, h2, h3, fun q a b => ?_⟩
  rw [e _ (by omega) (by omega)]
  exact h4 q a b
theorem q_off : pair_23 REL := by
  intro p hp cn X hcn h
  obtain ⟨n1, n2, n3, n4, n5, n6⟩ := h.now
  have b3 := n3.2.2.1
  have b4 := n3.2.2.2.1
  have b6 := n3.2.2.2.2.2.1
  have h99 : X 121 3 ≤ 99 := h.2.2.2.1
  show OUT cn (f_X11_off p) (f_X12_off p) X
  by_cases g : 0 ≤ p ∧ p ≤ X 121 6
  · refine out_th h (r := 1) (v := 0) (Y := ms X 2 4 p) (Z := ms (ms (ms X 2 4 p) 0 16 0) 121 4 p) (by decide) (by decide) (inI_s (by decide) (by decide)) ?_ ?_ (fun i k q1 q2 => ?_) ?_ ?_ ?_ ?_ ?_ ?_
    · unfold f_X11_off
      rw [c1_okk hp.1 hp.2, if_neg (by omega), cm_ok n1, n2.1.2.2.2.2.1, c2_ok hp.1 hp.2 (by omega) (by omega), if_pos g.2, bd_eq, agree_eq, cl_some, cz_1]
    · unfold f_X12_off f_X12_is
      have e121 : ms (ms X 2 4 p) 0 16 0 121 = X 121 := by rw [ms_ne (by decide), ms_ne (by decide)]
      rw [c1_okk hp.1 hp.2, if_neg (by omega), ax_ok (n := 2200) (by decide) (by decide), e121, c2_ok hp.1 hp.2 (by omega) (by omega), if_pos g.2, ax_ok (n := 2200) (by decide) (by decide), bd_eq, bd_eq, c1_okk (by decide) (by decide), if_neg (by decide), cl_some, cz_1]
    · unfold TCH at q2
      simp only [ms_at]
      by_cases a1 : i = 120 ∧ k = 2
      · rw [if_pos a1, if_pos a1]
      · rw [if_neg a1, if_neg a1, if_neg (by omega)]
        by_cases a2 : i = 0 ∧ k = 16
        · rw [if_pos a2, if_pos a2]
        · rw [if_neg a2, if_neg a2, if_neg (by omega)]
    · rw [ms_at, if_neg (by decide), ms_ne (by decide), ms_ne (by decide)]
      exact ⟨b3.1, h99⟩
    · rw [ms_at, if_pos ⟨rfl, rfl⟩]
      exact g
    · rw [ms_ne (by decide), ms_ne (by decide), ms_at, if_neg (by decide), ms_at (i := 121), if_neg (by decide), ms_ne (by decide), ms_ne (by decide)]
      exact n4
    · rw [ms_ne (by decide), ms_ne (by decide), ms_at, if_pos ⟨rfl, rfl⟩, ms_at, if_pos ⟨rfl, rfl⟩]
    · rw [ms_ne (by decide), ms_ne (by decide), ms_ne (by decide)]
      refine n6.of n3.2.1 ?_ fun k k0 k1 => ?_
      · rw [ms_at, if_neg (by decide), ms_ne (by decide), ms_ne (by decide)]
      · rw [ms_at, if_neg (by omega), ms_ne (by decide), ms_ne (by decide)]
    · exact h.rw.fr (by rw [ms_ne (by decide), ms_ne (by decide), ms_ne (by decide)]) (by rw [ms_ne (by decide), ms_ne (by decide), ms_ne (by decide)])
  · refine out_st h (r := 0) (v := 1) (by decide) (by decide) (inI_s (by decide) (by decide)) ?_ ?_
    · unfold f_X11_off
      rw [c1_okk hp.1 hp.2]
      by_cases g0 : p < 0
      · rw [if_pos g0, B_X11_off_18, refuse_eq, cl_some, cz_0]
      · rw [if_neg g0, cm_ok n1, n2.1.2.2.2.2.1, c2_ok hp.1 hp.2 (by omega) (by omega), if_neg (by omega), B_X11_off_18, refuse_eq, cl_some, cz_0]
    · unfold f_X12_off
      rw [c1_okk hp.1 hp.2]
      by_cases g0 : p < 0
      · rw [if_pos g0, B_X12_off_15, isM_eq (by decide) (by decide), cl_some, cz_0]
      · rw [if_neg g0, ax_ok (n := 2200) (by decide) (by decide), s16 (by decide), c2_ok hp.1 hp.2 (by omega) (by omega), if_neg (by omega), B_X12_off_15, isM_eq (by decide) (by decide), cl_some, cz_0]
