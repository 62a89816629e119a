/-! fractions and sums -/
theorem cdiv_9 {X : Mem} : ∀ (m k c a b : Nat), b < 2 ^ m → c + 2 * m ≤ 99 → 2 * m < k → a < 2 ^ 62 → b < 2 ^ 62 → L_X11_commonDivisor_9 k a b c X = some (((Nat.gcd a b : Nat) : Int), X) := by
  intro m
  induction m with
  | zero =>
    intro k c a b hb hc hk ha hb2
    obtain ⟨k, rfl⟩ : ∃ k', k = k' + 1 := ⟨k - 1, by omega⟩
    have e : b = 0 := by omega
    subst e
    rw [L_X11_commonDivisor_9, c2_ok (by omega) (by omega) (by decide) (by decide), if_neg (by omega), d2_ok (by decide) (by decide) (by decide) (by decide), if_pos (by rfl), Nat.gcd_zero_right]
  | succ m ih =>
    intro k c a b hb hc hk ha hb2
    have h62 : (2 : Nat) ^ 62 = 4611686018427387904 := by decide
    obtain ⟨k, rfl⟩ : ∃ k', k = k' + 1 := ⟨k - 1, by omega⟩
    rw [L_X11_commonDivisor_9, c2_ok (by omega) (by omega) (by decide) (by decide), if_neg (by omega), d2_ok (by omega) (by omega) (by decide) (by decide)]
    by_cases e : b = 0
    · subst e
      rw [if_pos (by rfl), Nat.gcd_zero_right]
    · rw [if_neg (by omega), dd_ok (by omega) (by omega) (by omega) (by omega), bd_eq, show (a : Int) % (b : Int) = ((a % b : Nat) : Int) from rfl, show (c : Int) + 1 = ((c + 1 : Nat) : Int) from rfl]
      have hr : a % b < b := Nat.mod_lt _ (by omega)
      have hg : Nat.gcd b (a % b) = Nat.gcd a b := by rw [Nat.gcd_comm b, ← Nat.gcd_rec, Nat.gcd_comm]
      obtain ⟨k, rfl⟩ : ∃ k', k = k' + 1 := ⟨k - 1, by omega⟩
      rw [L_X11_commonDivisor_9, c2_ok (by omega) (by omega) (by decide) (by decide), if_neg (by omega), d2_ok (by omega) (by omega) (by decide) (by decide)]
      by_cases e2 : a % b = 0
      · rw [if_pos (by rw [e2]; rfl), ← hg, e2, Nat.gcd_zero_right]
      · rw [if_neg (by omega), dd_ok (by omega) (by omega) (by omega) (by omega), bd_eq, show (b : Int) % ((a % b : Nat) : Int) = ((b % (a % b) : Nat) : Int) from rfl, show ((c + 1 : Nat) : Int) + 1 = ((c + 1 + 1 : Nat) : Int) from rfl]
        have hr2 : b % (a % b) < a % b := Nat.mod_lt _ (by omega)
        have hr3 : b % (a % b) + a % b ≤ b := by
          have h1 := Nat.div_add_mod b (a % b)
          have h2 : 1 ≤ b / (a % b) := Nat.div_pos (by omega) (by omega)
          have h3 : a % b * 1 ≤ a % b * (b / (a % b)) := Nat.mul_le_mul_left _ h2
          omega
        have hp : 2 ^ (m + 1) = 2 * 2 ^ m := by rw [Nat.pow_succ, Nat.mul_comm]
        rw [ih k (c + 1 + 1) (a % b) (b % (a % b)) (by omega) (by omega) (by omega) (by omega) (by omega), Nat.gcd_comm (a % b), ← Nat.gcd_rec (a % b) b, Nat.gcd_comm (a % b), hg]
theorem tb_6 {X : Mem} {x1 x3 : Int} : ∀ (k a b : Nat), b < k → a < 2 ^ 62 → b < 2 ^ 62 → L_X12_tellsBy_6 k x1 x3 a b X = B_X12_tellsBy_31 x1 x3 ((Nat.gcd a b : Nat) : Int) X := by
  have h62 : (2 : Nat) ^ 62 = 4611686018427387904 := by decide
  intro k
  induction k with
  | zero => intro a b h; omega
  | succ k ih =>
    intro a b hk ha hb
    rw [L_X12_tellsBy_6, d2_ok (by omega) (by omega) (by decide) (by decide)]
    by_cases e : b = 0
    · subst e
      rw [if_pos (by rfl), Nat.gcd_zero_right]
    · have hr : a % b < b := Nat.mod_lt _ (by omega)
      rw [if_neg (by omega), dd_ok (by omega) (by omega) (by omega) (by omega), bd_eq, show (a : Int) % (b : Int) = ((a % b : Nat) : Int) from rfl, ih b (a % b) (by omega) (by omega) (by omega), Nat.gcd_comm b, ← Nat.gcd_rec, Nat.gcd_comm]
def fup (a b : Nat) : Int := ((a / Nat.gcd a b : Nat) : Int)
def fdn (a b : Nat) : Int := ((b / Nat.gcd a b : Nat) : Int)
theorem tellF_eq {X : Mem} {a b : Nat} (hb : 0 < b) (hb2 : b < 2 ^ 40) (ha : a < 2 ^ 60) : f_X11_tellFraction a b X = some (1, ms (ms (ms X 0 17 (fup a b)) 0 18 (fdn a b)) 0 16 0) := by
  have h60 : (2 : Nat) ^ 60 = 1152921504606846976 := by decide
  have h62 : (2 : Nat) ^ 62 = 4611686018427387904 := by decide
  have h40 : (2 : Nat) ^ 40 = 1099511627776 := by decide
  have hg : 0 < Nat.gcd a b := Nat.gcd_pos_of_pos_right a hb
  have hgb : Nat.gcd a b ≤ b := Nat.gcd_le_right a hb
  unfold f_X11_tellFraction f_X11_commonDivisor
  have h9 := cdiv_9 (X := X) 40 KF 0 a b hb2 (by decide) (by rw [KF_eq]; decide) (by omega) (by omega)
  rw [show L_X11_commonDivisor_9 KF (a : Int) (b : Int) 0 X = _ from h9, cl_some, d2_ok (by omega) (by omega) (by decide) (by decide), if_neg (by omega), dd_ok (by omega) (by omega) (by omega) (by omega), bd_eq, dd_ok (by omega) (by omega) (by omega) (by omega), bd_eq, B_X11_tellFraction_30, agree_eq, cl_some, cz_1]
  rfl
theorem tellsBy_eq {X : Mem} {a b : Nat} (hb : 0 < b) (hb2 : b < 2 ^ 40) (ha : a < 2 ^ 60) : f_X12_tellsBy a b X = some (1, ms (ms (ms X 120 3 (fup a b)) 120 4 (fdn a b)) 120 2 0) := by
  have h60 : (2 : Nat) ^ 60 = 1152921504606846976 := by decide
  have h62 : (2 : Nat) ^ 62 = 4611686018427387904 := by decide
  have h40 : (2 : Nat) ^ 40 = 1099511627776 := by decide
  have hg : 0 < Nat.gcd a b := Nat.gcd_pos_of_pos_right a hb
  have hgb : Nat.gcd a b ≤ b := Nat.gcd_le_right a hb
  unfold f_X12_tellsBy
  rw [tb_6 KF a b (by rw [KF_eq]; omega) (by omega) (by omega), B_X12_tellsBy_31, dd_ok (by omega) (by omega) (by omega) (by omega), bd_eq, dd_ok (by omega) (by omega) (by omega) (by omega), bd_eq, is_eq (by decide) (by decide), if_pos rfl, cl_some, cz_1]
  rfl
theorem fup_J {a b : Nat} (ha : a < 2 ^ 60) : inJ (fup a b) := by
  have h60 : (2 : Nat) ^ 60 = 1152921504606846976 := by decide
  have := Nat.div_le_self a (Nat.gcd a b)
  unfold fup
  generalize a / Nat.gcd a b = d at *
  constructor <;> omega
theorem fdn_J {a b : Nat} (hb : b < 2 ^ 40) : inJ (fdn a b) := by
  have h40 : (2 : Nat) ^ 40 = 1099511627776 := by decide
  have := Nat.div_le_self b (Nat.gcd a b)
  unfold fdn
  generalize b / Nat.gcd a b = d at *
  constructor <;> omega
/-- the memory after a fraction was told by the class, by the reference -/
def fC (X : Mem) (p q : Int) : Mem := ms (ms (ms X 0 17 p) 0 18 q) 0 16 0
def fM (X : Mem) (p q : Int) : Mem := ms (ms (ms X 120 3 p) 120 4 q) 120 2 0
theorem fC_o {X : Mem} {p q i k : Int} (h : ¬ (i = 0 ∧ 16 ≤ k ∧ k ≤ 18)) : fC X p q i k = X i k := by
  unfold fC
  rw [ms_at, if_neg (by omega), ms_at, if_neg (by omega), ms_at, if_neg (by omega)]
theorem fM_o {X : Mem} {p q i k : Int} (h : ¬ (i = 120 ∧ 2 ≤ k ∧ k ≤ 4)) : fM X p q i k = X i k := by
  unfold fM
  rw [ms_at, if_neg (by omega), ms_at, if_neg (by omega), ms_at, if_neg (by omega)]
theorem RS_frac {Y Z : Mem} {p q : Int} (hp : inJ p) (hq : inJ q) (h0 : ∀ k : Int, Z 0 k = fC Y p q 0 k) : RS (fM Z p q) := by
  have c : ∀ k : Int, fM Z p q 0 k = fC Y p q 0 k := fun k => by rw [fM_o (by omega), h0]
  unfold RS
  rw [c, c, c]
  have e16 : fC Y p q 0 16 = 0 := ms_s
  have e17 : fC Y p q 0 17 = p := by unfold fC; rw [ms_k (by decide), ms_k (by decide), ms_s]
  have e18 : fC Y p q 0 18 = q := by unfold fC; rw [ms_k (by decide), ms_s]
  have m2 : fM Z p q 120 2 = 0 := ms_s
  have m3 : fM Z p q 120 3 = p := by unfold fM; rw [ms_k (by decide), ms_k (by decide), ms_s]
  have m4 : fM Z p q 120 4 = q := by unfold fM; rw [ms_k (by decide), ms_s]
  rw [e16, e17, e18, m2, m3, m4]
  exact ⟨⟨by decide, by decide, rfl⟩, ⟨hp, rfl⟩, hq, rfl⟩
/-- a fraction told by both, after scratch work of both -/
theorem out_frac {cn : Int} {a b : Mem → Option (Int × Mem)} {X Y : Mem} (h : REL cn X) (hY : ∀ i k : Int, ¬ SCR i k → Y i k = X i k) {p q : Int} (hp : inJ p) (hq : inJ q) (ea : a X = some (1, fC Y p q)) (eb : ∃ Z : Mem, b (fC Y p q) = some (1, fM Z p q) ∧ (∀ i k : Int, ¬ SCR i k → ¬ CKC i k → Z i k = fC Y p q i k) ∧ (CK cn (fC Y p q) → CK cn Z)) : OUT cn a b X := by
  obtain ⟨Z, eb, hZ, hC⟩ := eb
  have hXY : ∀ i k : Int, ¬ SCR i k → ¬ ANS i k → fC Y p q i k = X i k := fun i k s1 s2 => by
    rw [fC_o (by unfold ANS at s2; omega)]
    exact hY i k s1
  have hall : ∀ i k : Int, ¬ SCR i k → ¬ ANS i k → ¬ CKC i k → fM Z p q i k = X i k := fun i k s1 s2 s3 => by
    rw [fM_o (by unfold ANS at s2; omega), hZ i k s1 s3]
    exact hXY i k s1 s2
  have hck := hC (h.scr hXY).2.2
  have hz121 : Z 121 = X 121 := funext fun k => by
    rw [hZ 121 k (by unfold SCR; omega) (by unfold CKC; omega)]
    exact hXY 121 k (by unfold SCR; omega) (by unfold ANS; omega)
  refine ⟨1, _, _, ea, eb, inI_s (by decide) (by decide), RS_frac (Y := Y) hp hq (fun k => hZ 0 k (by unfold SCR; omega) (by unfold CKC; omega)), RZ.up (h.2.fr3 (fun i k s1 s2 s3 s4 => hall i k s1 s2 s4) ?_ ?_)⟩
  · refine h.2.2.2.2.2.2.2.2.2.1.fr ?_ ?_ ?_ ?_
    · exact hall _ _ (by unfold SCR; omega) (by unfold ANS; omega) (by unfold CKC; omega)
    · exact hall _ _ (by unfold SCR; omega) (by unfold ANS; omega) (by unfold CKC; omega)
    · exact funext fun k => hall _ _ (by unfold SCR; omega) (by unfold ANS; omega) (by unfold CKC; omega)
    · exact funext fun k => hall _ _ (by unfold SCR; omega) (by unfold ANS; omega) (by unfold CKC; omega)
  · refine CK.fr (by rw [hz121]; exact h.now.2.2.1) hck ?_ ?_ ?_ ?_ ?_ ?_ ?_
    · exact fM_o (by omega)
    · exact fM_o (by omega)
    · exact fM_o (by omega)
    · exact fM_o (by omega)
    · exact fM_o (by omega)
    · exact funext fun k => fM_o (by omega)
    · exact fun k _ => fM_o (by omega)
/-! sums over sets -/
def sg (q : Int → Bool) (w : Int → Int) : Nat → Int
  | 0 => 0
  | n + 1 => sg q w n + if q n = true then w n else 0
theorem sg_ext {q q' : Int → Bool} {w w' : Int → Int} : ∀ n : Nat, (∀ s : Int, 0 ≤ s → s < n → q s = q' s) → (∀ s : Int, 0 ≤ s → s < n → w s = w' s) → sg q w n = sg q' w' n
  | 0, _, _ => rfl
  | n + 1, h1, h2 => by
    show sg q w n + (if q n = true then w n else 0) = sg q' w' n + (if q' n = true then w' n else 0)
    rw [sg_ext n (fun s a b => h1 s a (by omega)) (fun s a b => h2 s a (by omega)), h1 n (by omega) (by omega), h2 n (by omega) (by omega)]
theorem sg_beyond {q : Int → Bool} {w : Int → Int} {N : Nat} : ∀ d : Nat, (∀ s : Int, (N : Int) ≤ s → s < N + d → w s = 0) → sg q w (N + d) = sg q w N
  | 0, _ => rfl
  | d + 1, h => by
    show sg q w (N + d) + (if q ((N + d : Nat) : Int) = true then w ((N + d : Nat) : Int) else 0) = _
    rw [sg_beyond d (fun s a b => h s a (by omega)), h _ (by omega) (by omega)]
    split <;> omega
theorem sg_r {q : Int → Bool} {w : Int → Int} : ∀ n : Nat, (∀ s : Int, 0 ≤ s → s < n → 0 ≤ w s) → 0 ≤ sg q w n ∧ sg q w n ≤ sm w n
  | 0, _ => ⟨Int.le_refl _, Int.le_refl _⟩
  | n + 1, h => by
    have h1 := sg_r (q := q) n (fun s a b => h s a (by omega))
    have h2 := h n (by omega) (by omega)
    show 0 ≤ sg q w n + (if q n = true then w n else 0) ∧ sg q w n + (if q n = true then w n else 0) ≤ sm w n + w n
    split <;> omega
/-- with all of a, with none of b -/
def pq (a b : Int) : Int → Bool := fun s => decide (ia s a = a) && decide (ia s b = 0)
def pS (P : Int → Int) (a b : Int) : Int := sg (pq a b) P 32
theorem TH_r {P A : Int → Int} (h : TH P A) {a b : Int} : 0 ≤ pS P a b ∧ pS P a b ≤ 1000000 := by
  have := sg_r (q := pq a b) (w := P) 32 (fun s a b => (h.1 s a b).1)
  rw [h.2.1] at this
  exact this
/-- the reference's sum, over the sets that are -/
theorem TH_sg {P A : Int → Int} (h : TH P A) (hA : 0 ≤ A 2 ∧ A 2 ≤ 5) {q : Int → Bool} : sg q (fun s => A (168 + s)) (2 ^ (A 2).toNat) = sg q P 32 := by
  obtain ⟨e1, e2, e3⟩ := NS_v hA
  have hN := NS_r hA
  have h32 : 32 = 2 ^ (A 2).toNat + (32 - 2 ^ (A 2).toNat) := by omega
  rw [h32, sg_beyond _ (fun s a b => h.2.2.1 s (by omega) (by omega))]
  exact sg_ext _ (fun _ _ _ => rfl) (fun s a b => h.2.2.2 s a (by omega))
theorem partsOf_5 {Y : Mem} {a b : Int} (hA : 0 ≤ Y 121 2 ∧ Y 121 2 ≤ 5) (ha : inI a) (hp : ∀ s : Int, 0 ≤ s → s < NS (Y 121) → 0 ≤ Y 121 (168 + s) ∧ Y 121 (168 + s) ≤ 1000000) : ∀ (k c : Nat), c ≤ 2 ^ (Y 121 2).toNat → 2 ^ (Y 121 2).toNat - c < k → L_X12_partsOf_5 k a b (sg (pq a b) (fun s => Y 121 (168 + s)) c) c Y = some (sg (pq a b) (fun s => Y 121 (168 + s)) (2 ^ (Y 121 2).toNat), Y) := by
  obtain ⟨e1, e2, e3⟩ := NS_v hA
  have hN := NS_r hA
  intro k
  induction k with
  | zero => intro c _ h; omega
  | succ k ih =>
    intro c hc hk
    rw [L_X12_partsOf_5, sets_eq, cl_some, show ishl 1 (Y 121 2) = NS (Y 121) from rfl, c2_ok (by omega) (by omega) (by omega) (by omega)]
    by_cases g : NS (Y 121) ≤ (c : Int)
    · rw [if_pos g, show c = 2 ^ (Y 121 2).toNat by omega]
    · have hI := ia_I (c : Int) a
      have hI2 := ia_I (c : Int) b
      have hpc := hp c (by omega) (by omega)
      have e4 : (c : Int) + 1 = ((c + 1 : Nat) : Int) := rfl
      have e5 : sg (pq a b) (fun s => Y 121 (168 + s)) (c + 1) = sg (pq a b) (fun s => Y 121 (168 + s)) c + if pq a b c = true then Y 121 (168 + (c : Int)) else 0 := rfl
      rw [if_neg g, c2_ok hI.1 hI.2 ha.1 ha.2]
      by_cases g1 : ia (c : Int) a = a
      · rw [if_neg (by simpa using g1), c1_ok hI2.1 hI2.2]
        by_cases g2 : ia (c : Int) b = 0
        · have hq : pq a b c = true := by unfold pq; rw [decide_eq_true g1, decide_eq_true g2]; rfl
          rw [hq, if_pos rfl] at e5
          rw [if_neg (by simpa using g2), ax_ok (by omega) (by omega), c1_ok (by omega) (by omega), B_X12_partsOf_46, bd_eq, e4, ← e5]
          exact ih (c + 1) (by omega) (by omega)
        · have hq : pq a b c = false := by unfold pq; rw [decide_eq_false g2, Bool.and_false]
          rw [hq, if_neg (by decide)] at e5
          rw [if_pos g2, B_X12_partsOf_45, B_X12_partsOf_46, bd_eq, e4, ← e5]
          exact ih (c + 1) (by omega) (by omega)
      · have hq : pq a b c = false := by unfold pq; rw [decide_eq_false g1, Bool.false_and]
        rw [hq, if_neg (by decide)] at e5
        rw [if_pos g1, B_X12_partsOf_45, B_X12_partsOf_46, bd_eq, e4, ← e5]
        exact ih (c + 1) (by omega) (by omega)
theorem partsOf_eq {Y : Mem} {P : Int → Int} {a b : Int} (hT : TH P (Y 121)) (hA : 0 ≤ Y 121 2 ∧ Y 121 2 ≤ 5) (ha : inI a) : f_X12_partsOf a b Y = some (pS P a b, Y) := by
  obtain ⟨e1, e2, e3⟩ := NS_v hA
  have hN := NS_r hA
  unfold f_X12_partsOf pS
  rw [← TH_sg hT hA]
  exact partsOf_5 hA ha (fun s a b => by rw [hT.2.2.2 s a b]; exact hT.1 s a (by omega)) KF 0 (Nat.zero_le _) (by rw [KF_eq]; omega)
theorem pw_5 {X : Mem} {p b : Int} : ∀ (k c : Nat), c ≤ 32 → 32 - c < k → L_X9_partsWith_5 k p b (sg (fun s => decide (ia (ishr s b) 1 = 1)) (X p) c) c X = some (sg (fun s => decide (ia (ishr s b) 1 = 1)) (X p) 32, X) := by
  intro k
  induction k with
  | zero => intro c _ h; omega
  | succ k ih =>
    intro c hc hk
    have hI := ia_I (ishr (c : Int) b) 1
    have e4 : (c : Int) + 1 = ((c + 1 : Nat) : Int) := rfl
    have e5 : sg (fun s => decide (ia (ishr s b) 1 = 1)) (X p) (c + 1) = sg (fun s => decide (ia (ishr s b) 1 = 1)) (X p) c + if decide (ia (ishr (c : Int) b) 1 = 1) = true then X p c else 0 := rfl
    rw [L_X9_partsWith_5, c2_ok (by omega) (by omega) (by decide) (by decide)]
    by_cases g : 32 ≤ (c : Int)
    · rw [if_pos g, show c = 32 by omega]
    · rw [if_neg g, c2_ok hI.1 hI.2 (by decide) (by decide)]
      by_cases g1 : ia (ishr (c : Int) b) 1 = 1
      · rw [decide_eq_true g1, if_pos rfl] at e5
        rw [if_neg (by simpa using g1), ax_ok (by omega) (by omega), bd_eq, B_X9_partsWith_29, e4, ← e5]
        exact ih (c + 1) (by omega) (by omega)
      · rw [decide_eq_false g1, if_neg (by decide)] at e5
        rw [if_pos g1, B_X9_partsWith_29, e4]
        rw [Int.add_zero] at e5
        rw [← e5]
        exact ih (c + 1) (by omega) (by omega)
theorem bit_with : ∀ (s : Fin 32) (b : Fin 5), decide (ia (ishr (s.val : Int) (b.val : Int)) 1 = 1) = pq (ishl 1 (b.val : Int)) 0 (s.val : Int) := by decide +kernel
theorem partsWith_eq {X : Mem} {p b : Int} (b0 : 0 ≤ b) (b1 : b < 5) : f_X9_partsWith p b X = some (pS (X p) (ishl 1 b) 0, X) := by
  unfold f_X9_partsWith pS
  have h := pw_5 (X := X) (p := p) (b := b) KF 0 (by decide) (by rw [KF_eq]; decide)
  refine Eq.trans h ?_
  obtain ⟨b, rfl⟩ := fin5 b0 b1
  rw [sg_ext (q' := pq (ishl 1 (b.val : Int)) 0) 32 (fun s a c => by
    obtain ⟨s, rfl⟩ := fin32 a (show s < 32 by omega)
    exact bit_with s b) (fun _ _ _ => rfl)]
theorem pwo_5 {X : Mem} {p a : Int} : ∀ (k c : Nat), c ≤ 32 → 32 - c < k → L_X9_partsWithout_5 k p a (sg (fun s => decide (ia s a = 0)) (X p) c) c X = some (sg (fun s => decide (ia s a = 0)) (X p) 32, X) := by
  intro k
  induction k with
  | zero => intro c _ h; omega
  | succ k ih =>
    intro c hc hk
    have hI := ia_I (c : Int) a
    have e4 : (c : Int) + 1 = ((c + 1 : Nat) : Int) := rfl
    have e5 : sg (fun s => decide (ia s a = 0)) (X p) (c + 1) = sg (fun s => decide (ia s a = 0)) (X p) c + if decide (ia (c : Int) a = 0) = true then X p c else 0 := rfl
    rw [L_X9_partsWithout_5, c2_ok (by omega) (by omega) (by decide) (by decide)]
    by_cases g : 32 ≤ (c : Int)
    · rw [if_pos g, show c = 32 by omega]
    · rw [if_neg g, c1_ok hI.1 hI.2]
      by_cases g1 : ia (c : Int) a = 0
      · rw [decide_eq_true g1, if_pos rfl] at e5
        rw [if_neg (by simpa using g1), ax_ok (by omega) (by omega), bd_eq, B_X9_partsWithout_26, e4, ← e5]
        exact ih (c + 1) (by omega) (by omega)
      · rw [decide_eq_false g1, if_neg (by decide)] at e5
        rw [if_pos g1, B_X9_partsWithout_26, e4]
        rw [Int.add_zero] at e5
        rw [← e5]
        exact ih (c + 1) (by omega) (by omega)
theorem ia_0 : ∀ s : Fin 32, ia (s.val : Int) 0 = 0 := by decide +kernel
theorem pq_wo {a s : Int} (s0 : 0 ≤ s) (s1 : s < 32) : decide (ia s a = 0) = pq 0 a s := by
  obtain ⟨s, rfl⟩ := fin32 s0 s1
  unfold pq
  rw [ia_0 s, decide_eq_true rfl, Bool.true_and]
theorem partsWithout_eq {X : Mem} {p a : Int} : f_X9_partsWithout p a X = some (pS (X p) 0 a, X) := by
  unfold f_X9_partsWithout pS
  have h := pwo_5 (X := X) (p := p) (a := a) KF 0 (by decide) (by rw [KF_eq]; decide)
  refine Eq.trans h ?_
  rw [sg_ext (q' := pq 0 a) 32 (fun s b c => pq_wo b (by omega)) (fun _ _ _ => rfl)]
/-- a sum as a natural number -/
theorem toNat_eq {a : Int} (h : 0 ≤ a) : ((a.toNat : Nat) : Int) = a := Int.toNat_of_nonneg h
theorem tellF_s {X : Mem} {a b : Int} (a0 : 0 ≤ a) (a1 : a < 2 ^ 60) (b0 : 0 < b) (b1 : b < 2 ^ 40) : f_X11_tellFraction a b X = some (1, fC X (fup a.toNat b.toNat) (fdn a.toNat b.toNat)) := by
  have h := tellF_eq (X := X) (a := a.toNat) (b := b.toNat) (by omega) (by omega) (by omega)
  rw [toNat_eq a0, toNat_eq (by omega)] at h
  exact h
theorem tellsBy_s {X : Mem} {a b : Int} (a0 : 0 ≤ a) (a1 : a < 2 ^ 60) (b0 : 0 < b) (b1 : b < 2 ^ 40) : f_X12_tellsBy a b X = some (1, fM X (fup a.toNat b.toNat) (fdn a.toNat b.toNat)) := by
  have h := tellsBy_eq (X := X) (a := a.toNat) (b := b.toNat) (by omega) (by omega) (by omega)
  rw [toNat_eq a0, toNat_eq (by omega)] at h
  exact h
theorem frac_J {a b : Int} (a0 : 0 ≤ a) (a1 : a < 2 ^ 60) (b0 : 0 < b) (b1 : b < 2 ^ 40) : inJ (fup a.toNat b.toNat) ∧ inJ (fdn a.toNat b.toNat) := ⟨fup_J (by omega), fdn_J (by omega)⟩
theorem isM_eq {v : Int} {X : Mem} (h0 : 0 < v) (h1 : v ≤ 100) : f_X12_is v X = some (0, ms X 120 2 v) := by
  rw [is_eq (by omega) h1, if_neg (by omega)]
theorem q_there : pair_18 REL := by
  intro b hb cn X hcn h
  obtain ⟨n1, n2, n3, n4, n5, n6⟩ := h.now
  have h2 := n3.2.1
  have eM : ∀ v : Int, ms X 0 16 v 121 = X 121 := fun v => s16 (by decide)
  have h32 : inI (ishl 1 b) := ⟨Int32.le_toInt _, Int32.toInt_le _⟩
  show OUT cn (f_X11_there b) (f_X12_there b) X
  by_cases g : 0 ≤ b ∧ b < X 121 2
  · have hr := TH_r n6 (a := ishl 1 b) (b := 0)
    have hJ := frac_J (a := pS (X 18) (ishl 1 b) 0) (b := 1000000) hr.1 (by omega) (by decide) (by decide)
    refine out_frac h (Y := X) (fun _ _ _ => rfl) hJ.1 hJ.2 ?_ ⟨_, ?_, fun _ _ _ _ => rfl, fun h => h⟩
    · unfold f_X11_there
      rw [isBar_eq n1 n2 n3 hb, if_pos g, cl_some, c1_ok (by decide) (by decide), if_pos (by decide), partsWith_eq g.1 (by omega), cl_some, tellF_s hr.1 (by omega) (by decide) (by decide), cl_some, cz_1]
    · have e121 : ∀ p q : Int, fC X p q 121 = X 121 := fun p q => funext fun k => fC_o (by omega)
      unfold f_X12_there
      rw [isBarm_eq (by rw [e121]; exact n3) hb, e121, if_pos g, cl_some, c1_ok (by decide) (by decide), if_neg (by decide), partsOf_eq (P := X 18) (by rw [e121]; exact n6) (by rw [e121]; exact h2) h32, cl_some, tellsBy_s hr.1 (by omega) (by decide) (by decide), cl_some, cz_1]
  · refine out_st h (r := 0) (v := 1) (by decide) (by decide) (inI_s (by decide) (by decide)) ?_ ?_
    · unfold f_X11_there
      rw [isBar_eq n1 n2 n3 hb, if_neg g, cl_some, c1_ok (by decide) (by decide), if_neg (by decide), refuse_eq, cl_some, cz_0]
    · unfold f_X12_there
      rw [isBarm_eq (by rw [eM]; exact n3) hb, eM, if_neg g, cl_some, c1_ok (by decide) (by decide), if_pos rfl, isM_eq (by decide) (by decide), cl_some, cz_0]
theorem q_chance : pair_19 REL := by
  intro a ha cn X hcn h
  obtain ⟨n1, n2, n3, n4, n5, n6⟩ := h.now
  have h2 := n3.2.1
  have eM : ∀ v : Int, ms X 0 16 v 121 = X 121 := fun v => s16 (by decide)
  show OUT cn (f_X11_chance a) (f_X12_chance a) X
  by_cases g : 0 ≤ a ∧ a < NS (X 121)
  · have hr := TH_r n6 (a := 0) (b := a)
    have hJ := frac_J (a := pS (X 18) 0 a) (b := 1000000) hr.1 (by omega) (by decide) (by decide)
    refine out_frac h (Y := X) (fun _ _ _ => rfl) hJ.1 hJ.2 ?_ ⟨_, ?_, fun _ _ _ _ => rfl, fun h => h⟩
    · unfold f_X11_chance
      rw [isSet_eq n1 n2 n3 ha, if_pos g, cl_some, c1_ok (by decide) (by decide), if_pos (by decide), partsWithout_eq, cl_some, tellF_s hr.1 (by omega) (by decide) (by decide), cl_some, cz_1]
    · have e121 : ∀ p q : Int, fC X p q 121 = X 121 := fun p q => funext fun k => fC_o (by omega)
      unfold f_X12_chance
      rw [isSetm_eq (by rw [e121]; exact n3) ha, e121, if_pos g, cl_some, c1_ok (by decide) (by decide), if_neg (by decide), partsOf_eq (P := X 18) (by rw [e121]; exact n6) (by rw [e121]; exact h2) (inI_s (by decide) (by decide)), cl_some, tellsBy_s hr.1 (by omega) (by decide) (by decide), cl_some, cz_1]
  · refine out_st h (r := 0) (v := 1) (by decide) (by decide) (inI_s (by decide) (by decide)) ?_ ?_
    · unfold f_X11_chance
      rw [isSet_eq n1 n2 n3 ha, if_neg g, cl_some, c1_ok (by decide) (by decide), if_neg (by decide), refuse_eq, cl_some, cz_0]
    · unfold f_X12_chance
      rw [isSetm_eq (by rw [eM]; exact n3) ha, eM, if_neg g, cl_some, c1_ok (by decide) (by decide), if_pos rfl, isM_eq (by decide) (by decide), cl_some, cz_0]
