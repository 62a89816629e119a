/-! texts: tokens, for both sides -/
theorem ia_byte : ∀ t : Fin 256, w8 ((t.val : Int) - 128) = (t.val : Int) - 128 ∧ ia ((t.val : Int) - 128) 255 = if (t.val : Int) - 128 < 0 then (t.val : Int) - 128 + 256 else (t.val : Int) - 128 := by decide +kernel
theorem by_r {t : Int} (h : -128 ≤ t ∧ t ≤ 127) : w8 t = t ∧ ia t 255 = if t < 0 then t + 256 else t := by
  have h1 := ia_byte ⟨(t + 128).toNat, by omega⟩
  have h2 : (((t + 128).toNat : Nat) : Int) - 128 = t := by omega
  simp only [h2] at h1
  exact h1
def TXT (T : Int → Int) (n : Int) : Prop := (0 ≤ n ∧ n ≤ 900) ∧ ∀ i : Int, 0 ≤ i → i < n → -128 ≤ T i ∧ T i ≤ 127
/-- the kind of token that begins so -/
def kob (c : Int) : Int := if 97 ≤ c ∧ c ≤ 122 then 1 else if 48 ≤ c ∧ c ≤ 57 then 2 else if c = 59 then 3 else 4
theorem kob_eq {X : Mem} {c : Int} (h : -128 ≤ c ∧ c ≤ 127) : f_X8_kindOfByte c X = some (kob c, X) := by
  have h14 : ¬ (97 ≤ c ∧ c ≤ 122) → B_X8_kindOfByte_14 c X = some (kob c, X) := fun hn => by
    have h28 : ¬ (48 ≤ c ∧ c ≤ 57) → B_X8_kindOfByte_28 c X = some (kob c, X) := fun hm => by
      unfold B_X8_kindOfByte_28 kob
      rw [c2_ok (by omega) (by omega) (by decide) (by decide), if_neg hn, if_neg hm]
      by_cases g : c = 59
      · rw [if_neg (by simpa using g), if_pos g]
      · rw [if_pos g, if_neg g]
    unfold B_X8_kindOfByte_14
    rw [c2_ok (by omega) (by omega) (by decide) (by decide), c2_ok (by omega) (by omega) (by decide) (by decide)]
    by_cases g : c < 48
    · rw [if_pos g, h28 (by omega)]
    · rw [if_neg g]
      by_cases g2 : 57 < c
      · rw [if_pos g2, h28 (by omega)]
      · rw [if_neg g2]
        unfold kob
        rw [if_neg hn, if_pos (by omega)]
  unfold f_X8_kindOfByte
  rw [c2_ok (by omega) (by omega) (by decide) (by decide), c2_ok (by omega) (by omega) (by decide) (by decide)]
  by_cases g : c < 97
  · rw [if_pos g, h14 (by omega)]
  · rw [if_neg g]
    by_cases g2 : 122 < c
    · rw [if_pos g2, h14 (by omega)]
    · rw [if_neg g2]
      unfold kob
      rw [if_pos (by omega)]
theorem byteAt_eq {Z : Mem} {R T : Int → Int} {n i : Int} (hT : TXT T n) (h127 : ∀ i : Int, 0 ≤ i → i < n → Z 127 i = T i) (h11 : R 11 = n) (i0 : 0 ≤ i) (i1 : i ≤ 900) : f_X12_byteAt i (ma Z 120 R) = some (if i < n then (if T i < 0 then T i + 256 else T i) else -1, ma Z 120 R) := by
  have hn := hT.1
  unfold f_X12_byteAt
  rw [ma_same, h11, c2_ok (by omega) (by omega) (by omega) (by omega)]
  by_cases g : n ≤ i
  · rw [if_pos g, if_neg (by omega)]
  · rw [if_neg g, if_pos (by omega), ax_ok (by omega) (by omega), ma_ne (by decide), h127 i i0 (by omega), (by_r (hT.2 i i0 (by omega))).2]
theorem small_eq {Z : Mem} {c : Int} (h : -200 ≤ c ∧ c ≤ 300) : f_X12_isSmall c Z = some (if 97 ≤ c ∧ c ≤ 122 then 1 else 0, Z) := by
  unfold f_X12_isSmall
  rw [c2_ok (by omega) (by omega) (by decide) (by decide), c2_ok (by omega) (by omega) (by decide) (by decide)]
  by_cases g : c < 97
  · rw [if_pos g, if_neg (by omega)]
  · rw [if_neg g]
    by_cases g2 : 122 < c
    · rw [if_pos g2, if_neg (by omega)]
    · rw [if_neg g2, if_pos (by omega)]
theorem digit_eq {Z : Mem} {c : Int} (h : -200 ≤ c ∧ c ≤ 300) : f_X12_isDigit c Z = some (if 48 ≤ c ∧ c ≤ 57 then 1 else 0, Z) := by
  unfold f_X12_isDigit
  rw [c2_ok (by omega) (by omega) (by decide) (by decide), c2_ok (by omega) (by omega) (by decide) (by decide)]
  by_cases g : c < 48
  · rw [if_pos g, if_neg (by omega)]
  · rw [if_neg g]
    by_cases g2 : 57 < c
    · rw [if_pos g2, if_neg (by omega)]
    · rw [if_neg g2, if_pos (by omega)]
/-- over the blanks -/
theorem skip_both {T : Int → Int} {n : Int} (hT : TXT T n) : ∀ (k : Nat) (p : Int), 0 ≤ p → p ≤ n → (n - p).toNat < k → ∃ b : Int, p ≤ b ∧ b ≤ n ∧ (b < n → T b ≠ 10 ∧ T b ≠ 32) ∧
    (∀ (X : Mem) (R : Int → Int), X 36 = T → R 2 = n → R 3 = p → ∃ R' : Int → Int, L_X8_advance_0 k (ma X 35 R) = B_X8_advance_52 (ma X 35 R') ∧ R' 3 = b ∧ ∀ q : Int, q ≠ 3 → R' q = R q) ∧
    (∀ (Z : Mem) (R : Int → Int), (∀ i : Int, 0 ≤ i → i < n → Z 127 i = T i) → R 11 = n → R 14 = p → ∃ R' : Int → Int, L_X12_ahead_0 k (ma Z 120 R) = B_X12_ahead_39 (ma Z 120 R') ∧ R' 14 = b ∧ ∀ q : Int, q ≠ 14 → R' q = R q) := by
  have hn := hT.1
  intro k
  induction k with
  | zero => intro p _ _ h; omega
  | succ k ih =>
    intro p p0 p1 hk
    by_cases g : n ≤ p
    · refine ⟨p, Int.le_refl _, p1, fun h => by omega, fun X R h36 h2 h3 => ⟨R, ?_, h3, fun q _ => rfl⟩, fun Z R h127 h11 h14 => ⟨R, ?_, h14, fun q _ => rfl⟩⟩
      · rw [L_X8_advance_0, ma_same, h2, h3, c2_ok (by omega) (by omega) (by omega) (by omega), if_pos g]
      · rw [L_X12_ahead_0, ma_same, h14, byteAt_eq hT h127 h11 p0 (by omega), if_neg (by omega), cl_some, c2_ok (by decide) (by decide) (by decide) (by decide), if_neg (by decide), ma_same, h14, byteAt_eq hT h127 h11 p0 (by omega), if_neg (by omega), cl_some, c2_ok (by decide) (by decide) (by decide) (by decide), if_pos (by decide)]
    · have ht := hT.2 p p0 (by omega)
      by_cases gb : T p = 10 ∨ T p = 32
      · obtain ⟨b, b1, b2, b3, b4, b5⟩ := ih (p + 1) (by omega) (by omega) (by omega)
        refine ⟨b, by omega, b2, b3, fun X R h36 h2 h3 => ?_, fun Z R h127 h11 h14 => ?_⟩
        · obtain ⟨R', r1, r2, r3⟩ := b4 X (up R 3 (p + 1)) h36 (by rw [up_ne (by decide)]; exact h2) up_same
          have e39 : B_X8_advance_39 (fun X => L_X8_advance_0 k X) (ma X 35 R) = L_X8_advance_0 k (ma X 35 (up R 3 (p + 1))) := by
            rw [B_X8_advance_39, bd_eq, ms_row, ma_same, h3]
          refine ⟨R', ?_, r2, fun q hq => by rw [r3 q hq, up_ne hq]⟩
          rw [← r1, L_X8_advance_0, ma_same, h2, h3, c2_ok (by omega) (by omega) (by omega) (by omega), if_neg g, ax_ok (by omega) (by omega), ma_ne (show (36 : Int) ≠ 35 by decide), h36, c2_ok (by omega) (by omega) (by decide) (by decide)]
          by_cases g10 : T p = 10
          · rw [if_pos g10, e39]
          · rw [if_neg g10, ax_ok (by omega) (by omega), c2_ok (by omega) (by omega) (by decide) (by decide), if_neg (by omega), e39]
        · obtain ⟨R', r1, r2, r3⟩ := b5 Z (up R 14 (p + 1)) h127 (by rw [up_ne (by decide)]; exact h11) up_same
          have e26 : B_X12_ahead_26 (fun X => L_X12_ahead_0 k X) (ma Z 120 R) = L_X12_ahead_0 k (ma Z 120 (up R 14 (p + 1))) := by
            rw [B_X12_ahead_26, bd_eq, ms_row, ma_same, h14]
          refine ⟨R', ?_, r2, fun q hq => by rw [r3 q hq, up_ne hq]⟩
          rw [← r1, L_X12_ahead_0, ma_same, h14, byteAt_eq hT h127 h11 p0 (by omega), if_pos (by omega), if_neg (by omega), cl_some, c2_ok (by omega) (by omega) (by decide) (by decide)]
          by_cases g32 : T p = 32
          · rw [if_pos g32, e26]
          · rw [if_neg g32, ma_same, h14, byteAt_eq hT h127 h11 p0 (by omega), if_pos (by omega), if_neg (by omega), cl_some, c2_ok (by omega) (by omega) (by decide) (by decide), if_neg (by omega), e26]
      · refine ⟨p, Int.le_refl _, p1, fun _ => by omega, fun X R h36 h2 h3 => ⟨R, ?_, h3, fun q _ => rfl⟩, fun Z R h127 h11 h14 => ⟨R, ?_, h14, fun q _ => rfl⟩⟩
        · rw [L_X8_advance_0, ma_same, h2, h3, c2_ok (by omega) (by omega) (by omega) (by omega), if_neg g, ax_ok (by omega) (by omega), ma_ne (show (36 : Int) ≠ 35 by decide), h36, c2_ok (by omega) (by omega) (by decide) (by decide), if_neg (by omega), ax_ok (by omega) (by omega), c2_ok (by omega) (by omega) (by decide) (by decide), if_pos (by omega)]
        · have hb : -1 ≤ (if T p < 0 then T p + 256 else T p) ∧ (if T p < 0 then T p + 256 else T p) ≤ 255 ∧ (if T p < 0 then T p + 256 else T p) ≠ 32 ∧ (if T p < 0 then T p + 256 else T p) ≠ 10 := by
            split <;> omega
          rw [L_X12_ahead_0, ma_same, h14, byteAt_eq hT h127 h11 p0 (by omega), if_pos (show p < n by omega), cl_some, c2_ok (by omega) (by omega) (by decide) (by decide), if_neg hb.2.2.1, ma_same, h14, byteAt_eq hT h127 h11 p0 (by omega), if_pos (show p < n by omega), cl_some, c2_ok (by omega) (by omega) (by decide) (by decide), if_pos hb.2.2.2]
/-- the letters of a token -/
def LT (T : Int → Int) (b : Int) : Nat → List Int
  | 0 => []
  | j + 1 => LT T b j ++ [T (b + j)]
theorem c5_app {L : List Int} {x : Int} : c5 (L ++ [x]) = c5 L * 32 + (x - 97 + 1) := by
  unfold c5
  rw [List.foldl_append]
  rfl
theorem c8_app {L : List Int} {x : Int} : c8 (L ++ [x]) = c8 L * 256 + x := by
  unfold c8
  rw [List.foldl_append]
  rfl
theorem LT_len {T : Int → Int} {b : Int} : ∀ j : Nat, (LT T b j).length = j
  | 0 => rfl
  | j + 1 => by
    rw [LT, List.length_append, LT_len j]
    rfl
theorem LT_get {T : Int → Int} {b : Int} : ∀ (j i : Nat), i < j → (LT T b j).getD i 0 = T (b + i)
  | 0, i, h => by omega
  | j + 1, i, h => by
    rw [LT]
    by_cases g : i < j
    · have := LT_get (T := T) (b := b) j i g
      rw [List.getD_eq_getElem?_getD] at this ⊢
      rw [List.getElem?_append_left (by rw [LT_len]; exact g)]
      exact this
    · have : i = j := by omega
      subst this
      rw [List.getD_eq_getElem?_getD, List.getElem?_append_right (by rw [LT_len]; exact Nat.le_refl _), LT_len, Nat.sub_self]
      rfl
theorem LT_mem {T : Int → Int} {b : Int} {P : Int → Prop} : ∀ j : Nat, (∀ i : Nat, i < j → P (T (b + i))) → ∀ x ∈ LT T b j, P x
  | 0, _, x, hx => absurd hx (List.not_mem_nil)
  | j + 1, h, x, hx => by
    rw [LT, List.mem_append, List.mem_singleton] at hx
    rcases hx with hx | hx
    · exact LT_mem j (fun i hi => h i (by omega)) x hx
    · rw [hx]
      exact h j (by omega)
theorem getD_ext : ∀ (L W : List Int), L.length = W.length → (∀ i : Nat, i < W.length → L.getD i 0 = W.getD i 0) → L = W
  | [], [], _, _ => rfl
  | [], _ :: _, h, _ => by simp at h
  | _ :: _, [], h, _ => by simp at h
  | a :: L, c :: W, h, hg => by
    have h0 := hg 0 (by simp)
    have h1 := getD_ext L W (by simpa using h) (fun i hi => by
      have := hg (i + 1) (by simpa using hi)
      simpa using this)
    rw [h1]
    congr 1
/-- the first letters' code while a word is taken -/
def cwk (T : Int → Int) (b : Int) (j : Nat) : Int := if j ≤ 8 then c5 (LT T b j) else 0
theorem rev_ind {P : List Int → Prop} (h0 : P []) (h1 : ∀ (L : List Int) (x : Int), P L → P (L ++ [x])) (L : List Int) : P L := by
  have h : ∀ L : List Int, P L.reverse := fun L => by
    induction L with
    | nil => exact h0
    | cons x L ih =>
      rw [List.reverse_cons]
      exact h1 _ _ ih
  have := h L.reverse
  rwa [List.reverse_reverse] at this
theorem c5_r (L : List Int) (h : ∀ x ∈ L, 97 ≤ x ∧ x ≤ 122) : 0 ≤ c5 L ∧ c5 L < 32 ^ L.length := by
  revert h
  refine rev_ind (P := fun L => (∀ x ∈ L, 97 ≤ x ∧ x ≤ 122) → 0 ≤ c5 L ∧ c5 L < 32 ^ L.length) (fun _ => ⟨by decide, by decide⟩) (fun L x ih h => ?_) L
  have i1 := ih fun y hy => h y (List.mem_append_left _ hy)
  have i2 := h x (List.mem_append_right _ (List.mem_singleton.mpr rfl))
  rw [c5_app, List.length_append, List.length_singleton, Int.pow_succ]
  omega
theorem c8_r (L : List Int) (h : ∀ x ∈ L, 97 ≤ x ∧ x ≤ 122) : 0 ≤ c8 L ∧ c8 L < 256 ^ L.length := by
  revert h
  refine rev_ind (P := fun L => (∀ x ∈ L, 97 ≤ x ∧ x ≤ 122) → 0 ≤ c8 L ∧ c8 L < 256 ^ L.length) (fun _ => ⟨by decide, by decide⟩) (fun L x ih h => ?_) L
  have i1 := ih fun y hy => h y (List.mem_append_left _ hy)
  have i2 := h x (List.mem_append_right _ (List.mem_singleton.mpr rfl))
  rw [c8_app, List.length_append, List.length_singleton, Int.pow_succ]
  omega
theorem c5_inj (L : List Int) : ∀ L' : List Int, (∀ x ∈ L, 97 ≤ x ∧ x ≤ 122) → (∀ x ∈ L', 97 ≤ x ∧ x ≤ 122) → c5 L = c5 L' → L = L' := by
  refine rev_ind (P := fun L => ∀ L' : List Int, (∀ x ∈ L, 97 ≤ x ∧ x ≤ 122) → (∀ x ∈ L', 97 ≤ x ∧ x ≤ 122) → c5 L = c5 L' → L = L') (fun L' => ?_) (fun L x ih L' => ?_) L
  · refine rev_ind (P := fun L' => (∀ x ∈ [], 97 ≤ x ∧ x ≤ 122) → (∀ x ∈ L', 97 ≤ x ∧ x ≤ 122) → c5 [] = c5 L' → [] = L') (fun _ _ _ => rfl) (fun L' x _ _ h e => ?_) L'
    have i1 := c5_r L' fun y hy => h y (List.mem_append_left _ hy)
    have i2 := h x (List.mem_append_right _ (List.mem_singleton.mpr rfl))
    rw [c5_app] at e
    have e0 : c5 [] = 0 := rfl
    omega
  · refine rev_ind (P := fun L' => (∀ y ∈ L ++ [x], 97 ≤ y ∧ y ≤ 122) → (∀ x ∈ L', 97 ≤ x ∧ x ≤ 122) → c5 (L ++ [x]) = c5 L' → L ++ [x] = L') (fun h _ e => ?_) (fun L' y _ h h' e => ?_) L'
    · have i1 := c5_r L fun y hy => h y (List.mem_append_left _ hy)
      have i2 := h x (List.mem_append_right _ (List.mem_singleton.mpr rfl))
      rw [c5_app] at e
      have e0 : c5 [] = 0 := rfl
      omega
    · have i2 := h x (List.mem_append_right _ (List.mem_singleton.mpr rfl))
      have j2 := h' y (List.mem_append_right _ (List.mem_singleton.mpr rfl))
      rw [c5_app, c5_app] at e
      have e1 : c5 L = c5 L' := by omega
      have e2 : x = y := by omega
      rw [ih L' (fun y hy => h y (List.mem_append_left _ hy)) (fun y hy => h' y (List.mem_append_left _ hy)) e1, e2]
theorem c8_inj (L : List Int) : ∀ L' : List Int, (∀ x ∈ L, 97 ≤ x ∧ x ≤ 122) → (∀ x ∈ L', 97 ≤ x ∧ x ≤ 122) → c8 L = c8 L' → L = L' := by
  refine rev_ind (P := fun L => ∀ L' : List Int, (∀ x ∈ L, 97 ≤ x ∧ x ≤ 122) → (∀ x ∈ L', 97 ≤ x ∧ x ≤ 122) → c8 L = c8 L' → L = L') (fun L' => ?_) (fun L x ih L' => ?_) L
  · refine rev_ind (P := fun L' => (∀ x ∈ [], 97 ≤ x ∧ x ≤ 122) → (∀ x ∈ L', 97 ≤ x ∧ x ≤ 122) → c8 [] = c8 L' → [] = L') (fun _ _ _ => rfl) (fun L' x _ _ h e => ?_) L'
    have i1 := c8_r L' fun y hy => h y (List.mem_append_left _ hy)
    have i2 := h x (List.mem_append_right _ (List.mem_singleton.mpr rfl))
    rw [c8_app] at e
    have e0 : c8 [] = 0 := rfl
    omega
  · refine rev_ind (P := fun L' => (∀ y ∈ L ++ [x], 97 ≤ y ∧ y ≤ 122) → (∀ x ∈ L', 97 ≤ x ∧ x ≤ 122) → c8 (L ++ [x]) = c8 L' → L ++ [x] = L') (fun h _ e => ?_) (fun L' y _ h h' e => ?_) L'
    · have i1 := c8_r L fun y hy => h y (List.mem_append_left _ hy)
      have i2 := h x (List.mem_append_right _ (List.mem_singleton.mpr rfl))
      rw [c8_app] at e
      have e0 : c8 [] = 0 := rfl
      omega
    · have i2 := h x (List.mem_append_right _ (List.mem_singleton.mpr rfl))
      have j2 := h' y (List.mem_append_right _ (List.mem_singleton.mpr rfl))
      rw [c8_app, c8_app] at e
      have e1 : c8 L = c8 L' := by omega
      have e2 : x = y := by omega
      rw [ih L' (fun y hy => h y (List.mem_append_left _ hy)) (fun y hy => h' y (List.mem_append_left _ hy)) e1, e2]
/-- a word, for both -/
theorem word_both {T : Int → Int} {n b : Int} (hT : TXT T n) (b0 : 0 ≤ b) : ∀ (k j : Nat), b + j ≤ n → (n - (b + j)).toNat < k → (∀ i : Nat, i < j → 97 ≤ T (b + i) ∧ T (b + i) ≤ 122) →
    ∃ m : Nat, j ≤ m ∧ b + m ≤ n ∧ (∀ i : Nat, i < m → 97 ≤ T (b + i) ∧ T (b + i) ≤ 122) ∧ (j < n - b → kob (T (b + j)) = 1 → j < m) ∧
    (∀ (X : Mem) (R : Int → Int), X 36 = T → R 3 = b + j → R 4 = 1 → R 5 = b → R 6 = cwk T b j → ∃ R' : Int → Int, L_X8_advance_133 k n (ma X 35 R) = B_X8_advance_267 (ma X 35 R') ∧ R' 3 = b + m ∧ R' 6 = cwk T b m ∧ ∀ q : Int, q ≠ 3 → q ≠ 6 → R' q = R q) ∧
    (∀ (Z : Mem) (R : Int → Int), (∀ i : Int, 0 ≤ i → i < n → Z 127 i = T i) → R 11 = n → R 14 = b + j → ∃ R' : Int → Int, L_X12_ahead_81 k (ma Z 120 R) = B_X12_ahead_108 (ma Z 120 R') ∧ R' 14 = b + m ∧ ∀ q : Int, q ≠ 14 → R' q = R q) := by
  have hn := hT.1
  intro k
  induction k with
  | zero => intro j _ h; omega
  | succ k ih =>
    intro j hj hk hl
    by_cases g : n ≤ b + j
    · refine ⟨j, Nat.le_refl _, hj, hl, fun h _ => by omega, fun X R h36 h3 h4 h5 h6 => ⟨R, ?_, h3, h6, fun q _ _ => rfl⟩, fun Z R h127 h11 h14 => ⟨R, ?_, h14, fun q _ => rfl⟩⟩
      · rw [L_X8_advance_133, ma_same, h3, c2_ok (by omega) (by omega) (by omega) (by omega), if_pos g]
      · rw [L_X12_ahead_81, ma_same, h14, byteAt_eq hT h127 h11 (by omega) (by omega), if_neg (by omega), cl_some, small_eq (by decide), cl_some, if_neg (by decide), c1_okk (by decide) (by decide), if_pos rfl]
    · have ht := hT.2 (b + j) (by omega) (by omega)
      by_cases gl : 97 ≤ T (b + j) ∧ T (b + j) ≤ 122
      · have hkob : kob (T (b + j)) = 1 := by
          unfold kob
          rw [if_pos gl]
        have e3 : b + (j : Int) + 1 = b + ((j + 1 : Nat) : Int) := by omega
        obtain ⟨m, m1, m2, m3, -, m4, m5⟩ := ih (j + 1) (by omega) (by omega) (fun i hi => by
          by_cases e : i = j
          · rw [e]; exact gl
          · exact hl i (by omega))
        refine ⟨m, by omega, m2, m3, fun _ _ => by omega, fun X R h36 h3 h4 h5 h6 => ?_, fun Z R h127 h11 h14 => ?_⟩
        · obtain ⟨R', r1, r2, r3, r4⟩ := m4 X (up (up R 6 (cwk T b (j + 1))) 3 (b + ((j + 1 : Nat) : Int))) h36 up_same (by rw [up_ne (by decide), up_ne (by decide)]; exact h4) (by rw [up_ne (by decide), up_ne (by decide)]; exact h5) (by rw [up_ne (by decide), up_same])
          refine ⟨R', ?_, r2, r3, fun q q1 q2 => by rw [r4 q q1 q2, up_ne q1, up_ne q2]⟩
          have e211 : B_X8_advance_211 (fun x1 X => L_X8_advance_133 k x1 X) n (cwk T b (j + 1)) (ma X 35 R) = L_X8_advance_133 k n (ma X 35 (up (up R 6 (cwk T b (j + 1))) 3 (b + ((j + 1 : Nat) : Int)))) := by
            rw [B_X8_advance_211, bd_eq, ms_row, B_X8_advance_254, bd_eq, ms_row, ma_same, up_ne (by decide), h3, e3]
          rw [← r1, ← e211, L_X8_advance_133, ma_same, h3, c2_ok (by omega) (by omega) (by omega) (by omega), if_neg g, ax_ok (by omega) (by omega), ma_ne (show (36 : Int) ≠ 35 by decide), h36, kob_eq ht, cl_some, ma_same, h4, hkob, c2_ok (by decide) (by decide) (by decide) (by decide), if_neg (by decide), c2_ok (by decide) (by decide) (by decide) (by decide), if_neg (by decide), h3, h5, c2_ok (by omega) (by omega) (by decide) (by decide)]
          by_cases g8 : 8 ≤ b + (j : Int) - b
          · rw [if_pos g8]
            have e0 : cwk T b (j + 1) = 0 := by
              unfold cwk
              rw [if_neg (by omega)]
            rw [e0]
          · have e0 : cwk T b (j + 1) = cwk T b j * 32 + (T (b + j) - 97 + 1) := by
              unfold cwk
              rw [if_pos (by omega), if_pos (by omega), LT, c5_app]
            rw [if_neg g8, ax_ok (by omega) (by omega), ma_ne (show (36 : Int) ≠ 35 by decide), h36, c1_okk (by omega) (by omega), h6, e0]
        · obtain ⟨R', r1, r2, r3⟩ := m5 Z (up R 14 (b + ((j + 1 : Nat) : Int))) h127 (by rw [up_ne (by decide)]; exact h11) up_same
          refine ⟨R', ?_, r2, fun q hq => by rw [r3 q hq, up_ne hq]⟩
          rw [← r1, L_X12_ahead_81, ma_same, h14, byteAt_eq hT h127 h11 (by omega) (by omega), if_pos (by omega), if_neg (by omega), cl_some, small_eq (by omega), cl_some, if_pos gl, c1_okk (by decide) (by decide), if_neg (by decide), bd_eq, ms_row, ma_same, h14, e3]
      · have hkob : kob (T (b + j)) ≠ 1 := by
          unfold kob
          rw [if_neg gl]
          split
          · decide
          · split <;> decide
        have hko : -10 ≤ kob (T (b + j)) ∧ kob (T (b + j)) ≤ 10 := by
          unfold kob
          split
          · decide
          · split
            · decide
            · split <;> decide
        refine ⟨j, Nat.le_refl _, hj, hl, fun _ h => absurd h hkob, fun X R h36 h3 h4 h5 h6 => ⟨R, ?_, h3, h6, fun q _ _ => rfl⟩, fun Z R h127 h11 h14 => ⟨R, ?_, h14, fun q _ => rfl⟩⟩
        · rw [L_X8_advance_133, ma_same, h3, c2_ok (by omega) (by omega) (by omega) (by omega), if_neg g, ax_ok (by omega) (by omega), ma_ne (show (36 : Int) ≠ 35 by decide), h36, kob_eq ht, cl_some, ma_same, h4, c2_ok (by omega) (by omega) (by decide) (by decide), if_pos hkob]
        · have hb : -1 ≤ (if T (b + j) < 0 then T (b + j) + 256 else T (b + j)) ∧ (if T (b + j) < 0 then T (b + j) + 256 else T (b + j)) ≤ 255 ∧ ¬ (97 ≤ (if T (b + j) < 0 then T (b + j) + 256 else T (b + j)) ∧ (if T (b + j) < 0 then T (b + j) + 256 else T (b + j)) ≤ 122) := by
            split <;> omega
          rw [L_X12_ahead_81, ma_same, h14, byteAt_eq hT h127 h11 (by omega) (by omega), if_pos (show b + (j : Int) < n by omega), cl_some, small_eq (by omega), cl_some, if_neg hb.2.2, c1_okk (by decide) (by decide), if_pos rfl]
/-- a number's value: the class's (its first four digits), the reference's (cut at 100,000) -/
def dvk (T : Int → Int) (b : Int) : Nat → Int
  | 0 => 0
  | j + 1 => if j < 4 then dvk T b j * 10 + (T (b + j) - 48) else dvk T b j
def rvk (T : Int → Int) (b : Int) : Nat → Int
  | 0 => 0
  | j + 1 => min 100000 (10 * rvk T b j + T (b + j) - 48)
theorem rvk_r {T : Int → Int} {b : Int} : ∀ j : Nat, (∀ i : Nat, i < j → 48 ≤ T (b + i) ∧ T (b + i) ≤ 57) → 0 ≤ rvk T b j ∧ rvk T b j ≤ 100000
  | 0, _ => by
    show (0 : Int) ≤ 0 ∧ (0 : Int) ≤ 100000
    decide
  | j + 1, h => by
    have h1 := rvk_r j fun i hi => h i (by omega)
    have h2 := h j (by omega)
    rw [rvk]
    omega
theorem dvk_r {T : Int → Int} {b : Int} : ∀ j : Nat, j ≤ 4 → (∀ i : Nat, i < j → 48 ≤ T (b + i) ∧ T (b + i) ≤ 57) → (0 ≤ dvk T b j ∧ dvk T b j < 10 ^ j) ∧ rvk T b j = dvk T b j
  | 0, _, _ => ⟨by
    show (0 : Int) ≤ 0 ∧ (0 : Int) < 10 ^ 0
    decide, rfl⟩
  | j + 1, hj, h => by
    obtain ⟨h1, h3⟩ := dvk_r j (by omega) fun i hi => h i (by omega)
    have h2 := h j (by omega)
    have h4 : (10 : Int) ^ (j + 1) ≤ 10000 := by
      rcases (show j = 0 ∨ j = 1 ∨ j = 2 ∨ j = 3 by omega) with rfl | rfl | rfl | rfl <;> decide
    rw [rvk, dvk, if_pos (by omega), h3]
    rw [Int.pow_succ] at h4 ⊢
    omega
theorem up_self {f : Int → Int} {k : Int} : up f k (f k) = f := by
  funext q
  unfold up
  split
  · rename_i h
    rw [h]
  · rfl
/-- a number, for both -/
theorem digits_both {T : Int → Int} {n b : Int} (hT : TXT T n) (b0 : 0 ≤ b) : ∀ (k j : Nat), b + j ≤ n → (n - (b + j)).toNat < k → (∀ i : Nat, i < j → 48 ≤ T (b + i) ∧ T (b + i) ≤ 57) →
    ∃ m : Nat, j ≤ m ∧ b + m ≤ n ∧ (∀ i : Nat, i < m → 48 ≤ T (b + i) ∧ T (b + i) ≤ 57) ∧ (j < n - b → kob (T (b + j)) = 2 → j < m) ∧
    (∀ (X : Mem) (R : Int → Int), X 36 = T → R 3 = b + j → R 4 = 2 → R 5 = b → R 7 = dvk T b j → ∃ R' : Int → Int, L_X8_advance_133 k n (ma X 35 R) = B_X8_advance_267 (ma X 35 R') ∧ R' 3 = b + m ∧ R' 7 = dvk T b m ∧ ∀ q : Int, q ≠ 3 → q ≠ 7 → R' q = R q) ∧
    (∀ (Z : Mem) (R : Int → Int), (∀ i : Int, 0 ≤ i → i < n → Z 127 i = T i) → R 11 = n → R 14 = b + j → R 15 = rvk T b j → ∃ R' : Int → Int, L_X12_ahead_128 k (ma Z 120 R) = B_X12_ahead_183 (ma Z 120 R') ∧ R' 14 = b + m ∧ R' 15 = rvk T b m ∧ ∀ q : Int, q ≠ 14 → q ≠ 15 → R' q = R q) := by
  have hn := hT.1
  intro k
  induction k with
  | zero => intro j _ h; omega
  | succ k ih =>
    intro j hj hk hl
    by_cases g : n ≤ b + j
    · refine ⟨j, Nat.le_refl _, hj, hl, fun h _ => by omega, fun X R h36 h3 h4 h5 h7 => ⟨R, ?_, h3, h7, fun q _ _ => rfl⟩, fun Z R h127 h11 h14 h15 => ⟨R, ?_, h14, h15, fun q _ _ => rfl⟩⟩
      · rw [L_X8_advance_133, ma_same, h3, c2_ok (by omega) (by omega) (by omega) (by omega), if_pos g]
      · rw [L_X12_ahead_128, ma_same, h14, byteAt_eq hT h127 h11 (by omega) (by omega), if_neg (by omega), cl_some, digit_eq (by decide), cl_some, if_neg (by decide), c1_okk (by decide) (by decide), if_pos rfl]
    · have ht := hT.2 (b + j) (by omega) (by omega)
      have hko : -10 ≤ kob (T (b + j)) ∧ kob (T (b + j)) ≤ 10 := by
        unfold kob
        split
        · decide
        · split
          · decide
          · split <;> decide
      by_cases gl : 48 ≤ T (b + j) ∧ T (b + j) ≤ 57
      · have hkob : kob (T (b + j)) = 2 := by
          unfold kob
          rw [if_neg (by omega), if_pos gl]
        have e3 : b + (j : Int) + 1 = b + ((j + 1 : Nat) : Int) := by omega
        obtain ⟨m, m1, m2, m3, -, m4, m5⟩ := ih (j + 1) (by omega) (by omega) (fun i hi => by
          by_cases e : i = j
          · rw [e]; exact gl
          · exact hl i (by omega))
        refine ⟨m, by omega, m2, m3, fun _ _ => by omega, fun X R h36 h3 h4 h5 h7 => ?_, fun Z R h127 h11 h14 h15 => ?_⟩
        · obtain ⟨R', r1, r2, r3, r4⟩ := m4 X (up (up R 7 (dvk T b (j + 1))) 3 (b + ((j + 1 : Nat) : Int))) h36 up_same (by rw [up_ne (by decide), up_ne (by decide)]; exact h4) (by rw [up_ne (by decide), up_ne (by decide)]; exact h5) (by rw [up_ne (by decide), up_same])
          refine ⟨R', ?_, r2, r3, fun q q1 q2 => by rw [r4 q q1 q2, up_ne q1, up_ne q2]⟩
          rw [← r1, L_X8_advance_133, ma_same, h3, c2_ok (by omega) (by omega) (by omega) (by omega), if_neg g, ax_ok (by omega) (by omega), ma_ne (show (36 : Int) ≠ 35 by decide), h36, kob_eq ht, cl_some, ma_same, h4, hkob, c2_ok (by decide) (by decide) (by decide) (by decide), if_neg (by decide), c2_ok (by decide) (by decide) (by decide) (by decide), if_pos (by decide), h3, h5, c2_ok (by omega) (by omega) (by decide) (by decide)]
          by_cases g4 : 4 ≤ b + (j : Int) - b
          · have e0 : dvk T b (j + 1) = R 7 := by
              rw [h7, dvk, if_neg (by omega)]
            rw [if_pos g4, B_X8_advance_254, bd_eq, ms_row, ma_same, h3, e3, e0, up_self]
          · have e0 : dvk T b (j + 1) = dvk T b j * 10 + (T (b + j) - 48) := by
              rw [dvk, if_pos (by omega)]
            rw [if_neg g4, ax_ok (by omega) (by omega), bd_eq, ma_ne (show (36 : Int) ≠ 35 by decide), h36, h7, ← e0, ms_row, B_X8_advance_254, bd_eq, ms_row, ma_same, up_ne (by decide), h3, e3]
        · obtain ⟨R', r1, r2, r3, r4⟩ := m5 Z (up (up R 15 (rvk T b (j + 1))) 14 (b + ((j + 1 : Nat) : Int))) h127 (by rw [up_ne (by decide), up_ne (by decide)]; exact h11) up_same (by rw [up_ne (by decide), up_same])
          refine ⟨R', ?_, r2, r3, fun q q1 q2 => by rw [r4 q q1 q2, up_ne q1, up_ne q2]⟩
          have hr := rvk_r j hl
          have e0 : rvk T b (j + 1) = min 100000 (10 * rvk T b j + T (b + j) - 48) := rfl
          rw [← r1, L_X12_ahead_128, ma_same, h14, byteAt_eq hT h127 h11 (by omega) (by omega), if_pos (by omega), if_neg (by omega), cl_some, digit_eq (by omega), cl_some, if_pos gl, c1_okk (by decide) (by decide), if_neg (by decide), ma_same, h14, byteAt_eq hT h127 h11 (by omega) (by omega), if_pos (by omega), if_neg (by omega), cl_some, h15, c2_ok (by decide) (by decide) (by omega) (by omega), bd_eq, ← e0, ms_row, bd_eq, ms_row, ma_same, up_ne (by decide), h14, e3]
      · have hkob : kob (T (b + j)) ≠ 2 := by
          unfold kob
          split
          · decide
          · split
            · decide
            · decide
        refine ⟨j, Nat.le_refl _, hj, hl, fun _ h => absurd h hkob, fun X R h36 h3 h4 h5 h7 => ⟨R, ?_, h3, h7, fun q _ _ => rfl⟩, fun Z R h127 h11 h14 h15 => ⟨R, ?_, h14, h15, fun q _ _ => rfl⟩⟩
        · rw [L_X8_advance_133, ma_same, h3, c2_ok (by omega) (by omega) (by omega) (by omega), if_neg g, ax_ok (by omega) (by omega), ma_ne (show (36 : Int) ≠ 35 by decide), h36, kob_eq ht, cl_some, ma_same, h4, c2_ok (by omega) (by omega) (by decide) (by decide), if_pos hkob]
        · have hb : -1 ≤ (if T (b + j) < 0 then T (b + j) + 256 else T (b + j)) ∧ (if T (b + j) < 0 then T (b + j) + 256 else T (b + j)) ≤ 255 ∧ ¬ (48 ≤ (if T (b + j) < 0 then T (b + j) + 256 else T (b + j)) ∧ (if T (b + j) < 0 then T (b + j) + 256 else T (b + j)) ≤ 57) := by
            split <;> omega
          rw [L_X12_ahead_128, ma_same, h14, byteAt_eq hT h127 h11 (by omega) (by omega), if_pos (show b + (j : Int) < n by omega), cl_some, digit_eq (by omega), cl_some, if_neg hb.2.2, c1_okk (by decide) (by decide), if_pos rfl]
/-- a token from b to e: its kind (the class's numbers), its word's code, its value -/
def TK (T : Int → Int) (n b e k w v : Int) : Prop := (0 ≤ b ∧ b ≤ e ∧ e ≤ n) ∧ ((k = 0 ∧ b = n ∧ e = n) ∨ (k = 1 ∧ b < e ∧ (∀ i : Nat, i < (e - b).toNat → 97 ≤ T (b + i) ∧ T (b + i) ≤ 122) ∧ w = cwk T b (e - b).toNat) ∨ (k = 2 ∧ b < e ∧ 0 ≤ v ∧ v ≤ 9999) ∨ (k = 3 ∧ b < e) ∨ (k = 4 ∧ b < e))
/-- the reference's number of a kind -/
def km (k : Int) : Int := if k = 0 then 0 else if k = 1 then 2 else if k = 2 then 3 else if k = 3 then 4 else 1
def CS (X : Mem) (T : Int → Int) (n b e k w v : Int) : Prop := X 36 = T ∧ X 35 2 = n ∧ X 35 3 = e ∧ X 35 4 = k ∧ X 35 5 = b ∧ (k = 1 → X 35 6 = w) ∧ (k = 2 → X 35 7 = v)
def MS (Z : Mem) (T : Int → Int) (n b e k v : Int) : Prop := (∀ i : Int, 0 ≤ i → i < n → Z 127 i = T i) ∧ Z 120 11 = n ∧ Z 120 12 = km k ∧ Z 120 13 = b ∧ Z 120 14 = e ∧ (k = 2 → Z 120 15 = v) ∧ (k = 3 → Z 120 15 = 59)
/-- to the next token, for both -/
theorem adv_both {T : Int → Int} {n p : Int} (hT : TXT T n) (p0 : 0 ≤ p) (p1 : p ≤ n) : ∃ b e k w v : Int, TK T n b e k w v ∧ p ≤ b ∧
    (∀ X : Mem, X 36 = T → X 35 2 = n → X 35 3 = p → ∃ R' : Int → Int, f_X8_advance X = some (0, ma X 35 R') ∧ CS (ma X 35 R') T n b e k w v ∧ ∀ q : Int, q < 3 ∨ 7 < q → R' q = X 35 q) ∧
    (∀ Z : Mem, (∀ i : Int, 0 ≤ i → i < n → Z 127 i = T i) → Z 120 11 = n → Z 120 14 = p → ∃ R' : Int → Int, f_X12_ahead Z = some (0, ma Z 120 R') ∧ MS (ma Z 120 R') T n b e k v ∧ ∀ q : Int, q < 12 ∨ 15 < q → R' q = Z 120 q) := by
  have hn := hT.1
  obtain ⟨b, b1, b2, b3, b4, b5⟩ := skip_both hT KF p p0 p1 (by rw [KF_eq]; omega)
  have cls : ∀ X : Mem, X 36 = T → X 35 2 = n → X 35 3 = p → ∃ R4 : Int → Int, f_X8_advance X = (c2 b n <| if b < n then ax 900 b <| cl (f_X8_kindOfByte (T b) (ma X 35 R4)) fun r5 X6 => bd (ms X6 35 4 r5) fun X7 => c2 (X7 35 4) 1 <| if (X7 35 4) = 1 then B_X8_advance_119 X7 else c2 (X7 35 4) 2 <| if ¬ (X7 35 4) = 2 then B_X8_advance_132 ((X7 35 3) + 1) X7 else B_X8_advance_119 X7 else some (0, ma X 35 R4)) ∧ (R4 2 = n ∧ R4 3 = b ∧ R4 4 = 0 ∧ R4 5 = b ∧ R4 6 = 0 ∧ R4 7 = 0) ∧ ∀ q : Int, q < 3 ∨ 7 < q → R4 q = X 35 q := fun X h36 h2 h3 => by
    obtain ⟨R', r1, r2, r3⟩ := b4 X (X 35) h36 h2 h3
    rw [ma_self] at r1
    have e0 : f_X8_advance X = B_X8_advance_52 (ma X 35 R') := r1
    refine ⟨up (up (up (up R' 5 b) 4 0) 6 0) 7 0, ?_, ?_, fun q hq => ?_⟩
    · rw [e0, B_X8_advance_52, bd_eq, ms_row, ma_same, r2, bd_eq, ms_row, bd_eq, ms_row, bd_eq, ms_row]
      simp only [ma_same]
      have e3 : up (up (up (up R' 5 b) 4 0) 6 0) 7 0 3 = b := by
        rw [up_ne (by decide), up_ne (by decide), up_ne (by decide), up_ne (by decide), r2]
      have e2 : up (up (up (up R' 5 b) 4 0) 6 0) 7 0 2 = n := by
        rw [up_ne (by decide), up_ne (by decide), up_ne (by decide), up_ne (by decide), r3 2 (by decide), h2]
      rw [e3, e2, ma_ne (show (36 : Int) ≠ 35 by decide), h36]
    · refine ⟨?_, ?_, ?_, ?_, ?_, ?_⟩
      · rw [up_ne (by decide), up_ne (by decide), up_ne (by decide), up_ne (by decide), r3 2 (by decide), h2]
      · rw [up_ne (by decide), up_ne (by decide), up_ne (by decide), up_ne (by decide), r2]
      · rw [up_ne (by decide), up_ne (by decide), up_same]
      · rw [up_ne (by decide), up_ne (by decide), up_ne (by decide), up_same]
      · rw [up_ne (by decide), up_same]
      · rw [up_same]
    · rw [up_ne (by omega), up_ne (by omega), up_ne (by omega), up_ne (by omega), r3 q (by omega)]
  have ref : ∀ Z : Mem, (∀ i : Int, 0 ≤ i → i < n → Z 127 i = T i) → Z 120 11 = n → Z 120 14 = p → ∃ R4 : Int → Int, f_X12_ahead Z = (c2 (if b < n then (if T b < 0 then T b + 256 else T b) else -1) (-1) <| if ¬ (if b < n then (if T b < 0 then T b + 256 else T b) else -1) = -1 then cl (f_X12_isSmall (if b < n then (if T b < 0 then T b + 256 else T b) else -1) (ma Z 120 R4)) fun r10 X11 => c1 r10 <| if r10 = 0 then cl (f_X12_isDigit (if b < n then (if T b < 0 then T b + 256 else T b) else -1) X11) fun r12 X13 => c1 r12 <| if r12 = 0 then bd (ms X13 120 14 ((X13 120 14) + 1)) fun X14 => c2 (if b < n then (if T b < 0 then T b + 256 else T b) else -1) 59 <| if ¬ (if b < n then (if T b < 0 then T b + 256 else T b) else -1) = 59 then B_X12_ahead_230 1 X14 else B_X12_ahead_230 4 X14 else bd (ms X13 120 15 0) fun X16 => L_X12_ahead_128 KF X16 else L_X12_ahead_81 KF X11 else bd (ms (ma Z 120 R4) 120 12 0) fun X32 => some (0, X32)) ∧ (R4 11 = n ∧ R4 13 = b ∧ R4 14 = b ∧ R4 15 = (if b < n then (if T b < 0 then T b + 256 else T b) else -1)) ∧ ∀ q : Int, q < 12 ∨ 15 < q → R4 q = Z 120 q := fun Z h127 h11 h14 => by
    obtain ⟨R', r1, r2, r3⟩ := b5 Z (Z 120) h127 h11 h14
    rw [ma_self] at r1
    have e0 : f_X12_ahead Z = B_X12_ahead_39 (ma Z 120 R') := r1
    have e14 : up R' 13 b 14 = b := by rw [up_ne (by decide), r2]
    have e11 : up R' 13 b 11 = n := by rw [up_ne (by decide), r3 11 (by decide), h11]
    refine ⟨up (up R' 13 b) 15 (if b < n then (if T b < 0 then T b + 256 else T b) else -1), ?_, ?_, fun q hq => ?_⟩
    · rw [e0, B_X12_ahead_39, bd_eq, ms_row, ma_same (X := Z) (i := 120) (f := R'), r2, ma_same, e14, byteAt_eq hT h127 e11 (by omega) (by omega), cl_some, bd_eq, ms_row]
    · refine ⟨?_, ?_, ?_, up_same⟩
      · rw [up_ne (by decide), e11]
      · rw [up_ne (by decide), up_same]
      · rw [up_ne (by decide), e14]
    · rw [up_ne (by omega), up_ne (by omega), r3 q (by omega)]
  clear b4 b5
  by_cases gb : b < n
  · have ht := hT.2 b (by omega) gb
    simp only [if_pos gb] at ref cls
    have hub : -1 < (if T b < 0 then T b + 256 else T b) ∧ (if T b < 0 then T b + 256 else T b) ≤ 255 := by
      split <;> omega
    by_cases g1 : 97 ≤ T b ∧ T b ≤ 122
    · have hk : kob (T b) = 1 := by
        unfold kob
        rw [if_pos g1]
      obtain ⟨m, m1, m2, m3, m4, m5, m6⟩ := word_both hT (b := b) (by omega) KF 0 (by omega) (by rw [KF_eq]; omega) (fun i hi => by omega)
      have hm : 0 < m := m4 (by omega) (by rw [show b + ((0 : Nat) : Int) = b by omega]; exact hk)
      have em : (b + (m : Int) - b).toNat = m := by omega
      refine ⟨b, b + m, 1, cwk T b m, 0, ⟨by omega, Or.inr (Or.inl ⟨rfl, by omega, by rw [em]; exact m3, by rw [em]⟩)⟩, b1, fun X h36 h2 h3 => ?_, fun Z h127 h11 h14 => ?_⟩
      · obtain ⟨R4, q1, ⟨q2, q3, q4, q5, q6, q7⟩, q8⟩ := cls X h36 h2 h3
        obtain ⟨R', r1, r2, r3, r4⟩ := m5 X (up R4 4 1) h36 (by rw [up_ne (by decide), q3]; omega) up_same (by rw [up_ne (by decide)]; exact q5) (by rw [up_ne (by decide), q6]; rfl)
        refine ⟨R', ?_, ⟨by rw [ma_ne (by decide)]; exact h36, ?_, ?_, ?_, ?_, fun _ => ?_, fun h => by omega⟩, fun q hq => by rw [r4 q (by omega) (by omega), up_ne (by omega), q8 q hq]⟩
        · rw [q1, c2_ok (by omega) (by omega) (by omega) (by omega), ax_ok (by omega) (by omega), kob_eq ht, cl_some, bd_eq, ms_row, hk, ma_same, up_same, c2_ok (by decide) (by decide) (by decide) (by decide), if_pos rfl, B_X8_advance_119, ma_same, up_ne (by decide), q2, B_X8_advance_132, r1, B_X8_advance_267, ma_same, r4 4 (by decide) (by decide), up_same, c2_ok (by decide) (by decide) (by decide) (by decide), if_pos (by decide)]
        · rw [ma_same, r4 2 (by decide) (by decide), up_ne (by decide)]; exact q2
        · rw [ma_same]; exact r2
        · rw [ma_same, r4 4 (by decide) (by decide), up_same]
        · rw [ma_same, r4 5 (by decide) (by decide), up_ne (by decide)]; exact q5
        · rw [ma_same]; exact r3
      · obtain ⟨R4, q1, ⟨q2, q3, q4, q5⟩, q8⟩ := ref Z h127 h11 h14
        obtain ⟨R', r1, r2, r3⟩ := m6 Z R4 h127 q2 (by rw [q4]; omega)
        have hub2 : 97 ≤ (if T b < 0 then T b + 256 else T b) ∧ (if T b < 0 then T b + 256 else T b) ≤ 122 := by
          rw [if_neg (by omega)]
          exact g1
        refine ⟨up R' 12 2, ?_, ⟨by rw [ma_ne (by decide)]; exact h127, ?_, ?_, ?_, ?_, fun h => by omega, fun h => by omega⟩, fun q hq => by rw [up_ne (by omega), r3 q (by omega), q8 q hq]⟩
        · rw [q1, c2_ok (by omega) (by omega) (by decide) (by decide), if_pos (by omega), small_eq (by omega), cl_some, if_pos hub2, c1_okk (by decide) (by decide), if_neg (by decide), r1, B_X12_ahead_108, bd_eq, ms_row]
        · rw [ma_same, up_ne (by decide), r3 11 (by decide), q2]
        · rw [ma_same, up_same]; rfl
        · rw [ma_same, up_ne (by decide), r3 13 (by decide), q3]
        · rw [ma_same, up_ne (by decide), r2]
    · have hub1 : ¬ (97 ≤ (if T b < 0 then T b + 256 else T b) ∧ (if T b < 0 then T b + 256 else T b) ≤ 122) := by
        split <;> omega
      by_cases g2 : 48 ≤ T b ∧ T b ≤ 57
      · have hk : kob (T b) = 2 := by
          unfold kob
          rw [if_neg g1, if_pos g2]
        have hub2 : 48 ≤ (if T b < 0 then T b + 256 else T b) ∧ (if T b < 0 then T b + 256 else T b) ≤ 57 := by
          rw [if_neg (by omega)]
          exact g2
        obtain ⟨m, m1, m2, m3, m4, m5, m6⟩ := digits_both hT (b := b) (by omega) KF 0 (by omega) (by rw [KF_eq]; omega) (fun i hi => by omega)
        have hm : 0 < m := m4 (by omega) (by rw [show b + ((0 : Nat) : Int) = b by omega]; exact hk)
        have em : (b + (m : Int) - b).toNat = m := by omega
        refine ⟨b, b + m, if m ≤ 4 then 2 else 4, 0, dvk T b m, ⟨by omega, ?_⟩, b1, fun X h36 h2 h3 => ?_, fun Z h127 h11 h14 => ?_⟩
        · by_cases g4 : m ≤ 4
          · have h1 := dvk_r m g4 m3
            have h2 : (10 : Int) ^ m ≤ 10000 := by
              rcases (show m = 1 ∨ m = 2 ∨ m = 3 ∨ m = 4 by omega) with rfl | rfl | rfl | rfl <;> decide
            rw [if_pos g4]
            exact Or.inr (Or.inr (Or.inl ⟨rfl, by omega, h1.1.1, by omega⟩))
          · rw [if_neg g4]
            exact Or.inr (Or.inr (Or.inr (Or.inr ⟨rfl, by omega⟩)))
        · obtain ⟨R4, q1, ⟨q2, q3, q4, q5, q6, q7⟩, q8⟩ := cls X h36 h2 h3
          obtain ⟨R', r1, r2, r3, r4⟩ := m5 X (up R4 4 2) h36 (by rw [up_ne (by decide), q3]; omega) up_same (by rw [up_ne (by decide)]; exact q5) (by rw [up_ne (by decide), q7]; rfl)
          have e0 : f_X8_advance X = B_X8_advance_267 (ma X 35 R') := by
            rw [q1, c2_ok (by omega) (by omega) (by omega) (by omega), ax_ok (by omega) (by omega), kob_eq ht, cl_some, bd_eq, ms_row, hk, ma_same, up_same, c2_ok (by decide) (by decide) (by decide) (by decide), if_neg (by decide), c2_ok (by decide) (by decide) (by decide) (by decide), if_neg (by decide), B_X8_advance_119, ma_same, up_ne (by decide), q2, B_X8_advance_132, r1]
          have e4 : R' 4 = 2 := by rw [r4 4 (by decide) (by decide), up_same]
          have e5 : R' 5 = b := by rw [r4 5 (by decide) (by decide), up_ne (by decide)]; exact q5
          have e2 : R' 2 = n := by rw [r4 2 (by decide) (by decide), up_ne (by decide)]; exact q2
          have ef : ∀ q : Int, q < 3 ∨ 7 < q → R' q = X 35 q := fun q hq => by rw [r4 q (by omega) (by omega), up_ne (by omega), q8 q hq]
          by_cases g4 : m ≤ 4
          · rw [if_pos g4]
            refine ⟨R', ?_, ⟨by rw [ma_ne (by decide)]; exact h36, by rw [ma_same]; exact e2, by rw [ma_same]; exact r2, by rw [ma_same]; exact e4, by rw [ma_same]; exact e5, fun h => by omega, fun _ => by rw [ma_same]; exact r3⟩, ef⟩
            rw [e0, B_X8_advance_267, ma_same, e4, c2_ok (by decide) (by decide) (by decide) (by decide), if_neg (by decide), r2, e5, c2_ok (by omega) (by omega) (by decide) (by decide), if_pos (by omega)]
          · rw [if_neg g4]
            refine ⟨up R' 4 4, ?_, ⟨by rw [ma_ne (by decide)]; exact h36, by rw [ma_same, up_ne (by decide)]; exact e2, by rw [ma_same, up_ne (by decide)]; exact r2, by rw [ma_same, up_same], by rw [ma_same, up_ne (by decide)]; exact e5, fun h => by omega, fun h => by omega⟩, fun q hq => by rw [up_ne (by omega)]; exact ef q hq⟩
            rw [e0, B_X8_advance_267, ma_same, e4, c2_ok (by decide) (by decide) (by decide) (by decide), if_neg (by decide), r2, e5, c2_ok (by omega) (by omega) (by decide) (by decide), if_neg (by omega), bd_eq, ms_row]
        · obtain ⟨R4, q1, ⟨q2, q3, q4, q5⟩, q8⟩ := ref Z h127 h11 h14
          obtain ⟨R', r1, r2, r3, r4⟩ := m6 Z (up R4 15 0) h127 (by rw [up_ne (by decide)]; exact q2) (by rw [up_ne (by decide), q4]; omega) up_same
          have e0 : f_X12_ahead Z = B_X12_ahead_183 (ma Z 120 R') := by
            rw [q1, c2_ok (by omega) (by omega) (by decide) (by decide), if_pos (by omega), small_eq (by omega), cl_some, if_neg hub1, c1_okk (by decide) (by decide), if_pos rfl, digit_eq (by omega), cl_some, if_pos hub2, c1_okk (by decide) (by decide), if_neg (by decide), bd_eq, ms_row, r1]
          have e11 : R' 11 = n := by rw [r4 11 (by decide) (by decide), up_ne (by decide)]; exact q2
          have e13 : R' 13 = b := by rw [r4 13 (by decide) (by decide), up_ne (by decide)]; exact q3
          have ef : ∀ q : Int, q < 12 ∨ 15 < q → R' q = Z 120 q := fun q hq => by rw [r4 q (by omega) (by omega), up_ne (by omega), q8 q hq]
          by_cases g4 : m ≤ 4
          · have hd := (dvk_r m g4 m3).2
            rw [if_pos g4]
            refine ⟨up R' 12 3, ?_, ⟨by rw [ma_ne (by decide)]; exact h127, by rw [ma_same, up_ne (by decide)]; exact e11, by rw [ma_same, up_same]; rfl, by rw [ma_same, up_ne (by decide)]; exact e13, by rw [ma_same, up_ne (by decide)]; exact r2, fun _ => by rw [ma_same, up_ne (by decide), r3, hd], fun h => by omega⟩, fun q hq => by rw [up_ne (by omega)]; exact ef q hq⟩
            rw [e0, B_X12_ahead_183, ma_same, r2, e13, c2_ok (by omega) (by omega) (by decide) (by decide), if_pos (by omega), B_X12_ahead_202, bd_eq, ms_row]
          · rw [if_neg g4]
            refine ⟨up R' 12 1, ?_, ⟨by rw [ma_ne (by decide)]; exact h127, by rw [ma_same, up_ne (by decide)]; exact e11, by rw [ma_same, up_same]; rfl, by rw [ma_same, up_ne (by decide)]; exact e13, by rw [ma_same, up_ne (by decide)]; exact r2, fun h => by omega, fun h => by omega⟩, fun q hq => by rw [up_ne (by omega)]; exact ef q hq⟩
            rw [e0, B_X12_ahead_183, ma_same, r2, e13, c2_ok (by omega) (by omega) (by decide) (by decide), if_neg (by omega), B_X12_ahead_202, bd_eq, ms_row]
      · have hub2 : ¬ (48 ≤ (if T b < 0 then T b + 256 else T b) ∧ (if T b < 0 then T b + 256 else T b) ≤ 57) := by
          split <;> omega
        have hk : kob (T b) = if T b = 59 then 3 else 4 := by
          unfold kob
          rw [if_neg g1, if_neg g2]
        have hk1 : kob (T b) ≠ 1 ∧ kob (T b) ≠ 2 ∧ 3 ≤ kob (T b) ∧ kob (T b) ≤ 4 := by
          rw [hk]
          split <;> decide
        refine ⟨b, b + 1, kob (T b), 0, 0, ⟨by omega, ?_⟩, b1, fun X h36 h2 h3 => ?_, fun Z h127 h11 h14 => ?_⟩
        · rcases (show kob (T b) = 3 ∨ kob (T b) = 4 by omega) with h | h
          · exact Or.inr (Or.inr (Or.inr (Or.inl ⟨h, by omega⟩)))
          · exact Or.inr (Or.inr (Or.inr (Or.inr ⟨h, by omega⟩)))
        · obtain ⟨R4, q1, ⟨q2, q3, q4, q5, q6, q7⟩, q8⟩ := cls X h36 h2 h3
          obtain ⟨KF', hKF⟩ : ∃ k' : Nat, KF = k' + 1 + 1 := ⟨4611686018427387902, by rw [KF_eq]⟩
          refine ⟨up (up (up R4 4 (kob (T b))) 7 (0 * 10 + (T b - 48))) 3 (b + 1), ?_, ⟨by rw [ma_ne (by decide)]; exact h36, ?_, ?_, ?_, ?_, fun h => absurd h hk1.1, fun h => absurd h hk1.2.1⟩, fun q hq => by rw [up_ne (by omega), up_ne (by omega), up_ne (by omega), q8 q hq]⟩
          · rw [q1, c2_ok (by omega) (by omega) (by omega) (by omega), ax_ok (by omega) (by omega), kob_eq ht, cl_some, bd_eq, ms_row, ma_same, up_same, c2_ok (by omega) (by omega) (by decide) (by decide), if_neg hk1.1, c2_ok (by omega) (by omega) (by decide) (by decide), if_pos hk1.2.1, up_ne (by decide), q3, B_X8_advance_132, hKF, L_X8_advance_133, ma_same, up_ne (by decide), q3, c2_ok (by omega) (by omega) (by omega) (by omega), if_neg (by omega), ax_ok (by omega) (by omega), ma_ne (show (36 : Int) ≠ 35 by decide), h36, kob_eq ht, cl_some, ma_same, up_same, c2_ok (by omega) (by omega) (by omega) (by omega), if_neg (by simp), c2_ok (by omega) (by omega) (by decide) (by decide), if_pos hk1.1, up_ne (by decide), up_ne (by decide), q3, q5, c2_ok (by omega) (by omega) (by decide) (by decide), if_neg (by omega), ax_ok (by omega) (by omega), up_ne (by decide), q7, ma_ne (show (36 : Int) ≠ 35 by decide), h36, bd_eq, ms_row, B_X8_advance_254, bd_eq, ms_row, ma_same, up_ne (by decide), up_ne (by decide), q3, L_X8_advance_133, ma_same, up_same, c2_ok (by omega) (by omega) (by omega) (by omega), if_pos (by omega), B_X8_advance_267, ma_same, up_ne (by decide), up_ne (by decide), up_same, c2_ok (by omega) (by omega) (by decide) (by decide), if_pos hk1.2.1]
          · rw [ma_same, up_ne (by decide), up_ne (by decide), up_ne (by decide)]; exact q2
          · rw [ma_same, up_same]
          · rw [ma_same, up_ne (by decide), up_ne (by decide), up_same]
          · rw [ma_same, up_ne (by decide), up_ne (by decide), up_ne (by decide)]; exact q5
        · obtain ⟨R4, q1, ⟨q2, q3, q4, q5⟩, q8⟩ := ref Z h127 h11 h14
          have e0 : f_X12_ahead Z = some (0, ma Z 120 (up (up R4 14 (b + 1)) 12 (km (kob (T b))))) := by
            rw [q1, c2_ok (by omega) (by omega) (by decide) (by decide), if_pos (by omega), small_eq (by omega), cl_some, if_neg hub1, c1_okk (by decide) (by decide), if_pos rfl, digit_eq (by omega), cl_some, if_neg hub2, c1_okk (by decide) (by decide), if_pos rfl, bd_eq, ms_row, ma_same, q4, c2_ok (by omega) (by omega) (by decide) (by decide), hk]
            by_cases g59 : T b = 59
            · have : (if T b < 0 then T b + 256 else T b) = 59 := by rw [if_neg (by omega)]; exact g59
              rw [if_neg (by simpa using this), if_pos g59, B_X12_ahead_230, bd_eq, ms_row]
              rfl
            · have : (if T b < 0 then T b + 256 else T b) ≠ 59 := by split <;> omega
              rw [if_pos this, if_neg g59, B_X12_ahead_230, bd_eq, ms_row]
              rfl
          refine ⟨_, e0, ⟨by rw [ma_ne (by decide)]; exact h127, by rw [ma_same, up_ne (by decide), up_ne (by decide)]; exact q2, by rw [ma_same, up_same], by rw [ma_same, up_ne (by decide), up_ne (by decide)]; exact q3, by rw [ma_same, up_ne (by decide), up_same], fun h => absurd h hk1.2.1, fun h => ?_⟩, fun q hq => by rw [up_ne (by omega), up_ne (by omega), q8 q hq]⟩
          have g59 : T b = 59 := by
            rw [hk] at h
            by_cases g : T b = 59
            · exact g
            · rw [if_neg g] at h
              exact absurd h (by decide)
          rw [ma_same, up_ne (by decide), up_ne (by decide), q5, if_neg (by omega)]
          exact g59
  · have ebn : b = n := by omega
    simp only [if_neg gb] at ref cls
    refine ⟨n, n, 0, 0, 0, ⟨by omega, Or.inl ⟨rfl, rfl, rfl⟩⟩, p1, fun X h36 h2 h3 => ?_, fun Z h127 h11 h14 => ?_⟩
    · obtain ⟨R4, q1, ⟨q2, q3, q4, q5, q6, q7⟩, q8⟩ := cls X h36 h2 h3
      refine ⟨R4, ?_, ⟨by rw [ma_ne (by decide)]; exact h36, by rw [ma_same]; exact q2, by rw [ma_same, q3]; exact ebn, by rw [ma_same]; exact q4, by rw [ma_same, q5]; exact ebn, fun h => by omega, fun h => by omega⟩, q8⟩
      rw [q1, c2_ok (by omega) (by omega) (by omega) (by omega)]
    · obtain ⟨R4, q1, ⟨q2, q3, q4, q5⟩, q8⟩ := ref Z h127 h11 h14
      refine ⟨up R4 12 0, ?_, ⟨by rw [ma_ne (by decide)]; exact h127, by rw [ma_same, up_ne (by decide)]; exact q2, by rw [ma_same, up_same]; rfl, by rw [ma_same, up_ne (by decide), q3]; exact ebn, by rw [ma_same, up_ne (by decide), q4]; exact ebn, fun h => by omega, fun h => by omega⟩, fun q hq => by rw [up_ne (by omega)]; exact q8 q hq⟩
      rw [q1, c2_ok (by decide) (by decide) (by decide) (by decide), if_neg (by decide), bd_eq, ms_row]
