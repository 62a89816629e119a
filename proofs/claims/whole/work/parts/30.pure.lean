/-! Layer B: rows for the functions of the memory -/
theorem c1_ok {β : Type} {a : Int} {k : Option β} (h1 : -2147483648 ≤ a) (h2 : a ≤ 2147483647) : c1 a k = k := if_pos ⟨h1, h2⟩
theorem c2_ok {β : Type} {a b : Int} {k : Option β} (h1 : -2147483648 ≤ a) (h2 : a ≤ 2147483647) (h3 : -2147483648 ≤ b) (h4 : b ≤ 2147483647) : c2 a b k = k := if_pos ⟨⟨h1, h2⟩, h3, h4⟩
theorem d2_ok {β : Type} {a b : Int} {k : Option β} (h1 : -9223372036854775808 ≤ a) (h2 : a ≤ 9223372036854775807) (h3 : -9223372036854775808 ≤ b) (h4 : b ≤ 9223372036854775807) : d2 a b k = k := if_pos ⟨⟨h1, h2⟩, h3, h4⟩
theorem ax_ok {β : Type} {n j : Int} {k : Option β} (h1 : 0 ≤ j) (h2 : j < n) : ax n j k = k := if_pos ⟨h1, h2⟩
theorem cd_ok {β : Type} {a b : Int} {k : Option β} (h1 : 0 ≤ a) (h2 : a ≤ 2147483647) (h3 : 0 < b) (h4 : b ≤ 2147483647) : cd a b k = k := if_pos ⟨⟨h1, h2⟩, h3, h4⟩
theorem dd_ok {β : Type} {a b : Int} {k : Option β} (h1 : 0 ≤ a) (h2 : a ≤ 9223372036854775807) (h3 : 0 < b) (h4 : b ≤ 9223372036854775807) : dd a b k = k := if_pos ⟨⟨h1, h2⟩, h3, h4⟩
theorem cz_0 {β : Type} {k : Option β} : cz 0 k = k := if_pos (Or.inl rfl)
theorem cz_1 {β : Type} {k : Option β} : cz 1 k = k := if_pos (Or.inr rfl)
theorem cz_ok {β : Type} {a : Int} {k : Option β} (h : a = 0 ∨ a = 1) : cz a k = k := if_pos h
theorem cm_ok {β : Type} {l : List Int} {a : Int} {k : Option β} (h : a ∈ l) : cm l a k = k := if_pos h
theorem cpk_ok {β : Type} {n0 n1 sp dp n : Int} {k : Option β} (h0 : 0 ≤ sp) (h1 : 0 ≤ dp) (h2 : 0 ≤ n) (h3 : sp + n ≤ n0) (h4 : dp + n ≤ n1) : cpk n0 n1 sp dp n k = k := if_pos ⟨⟨h0, h1, h2⟩, h3, h4⟩
theorem bd_eq {α β : Type} {x : α} {k : α → β} : bd x k = k x := rfl
theorem cl_some {β : Type} {r : Int} {X : Mem} {k : Int → Mem → Option β} : cl (some (r, X)) k = k r X := rfl
/-- one place of a row changed -/
def up (f : Int → Int) (k v : Int) : Int → Int := fun q => if q = k then v else f q
theorem up_same {f : Int → Int} {k v : Int} : up f k v k = v := if_pos rfl
theorem up_ne {f : Int → Int} {k v q : Int} (h : q ≠ k) : up f k v q = f q := if_neg h
theorem up_at {f : Int → Int} {k v q : Int} : up f k v q = if q = k then v else f q := rfl
theorem ms_ma {X : Mem} {i k v : Int} : ms X i k v = ma X i (up (X i) k v) := by
  funext i' k'
  unfold ms ma up
  by_cases h : i' = i
  · subst h
    by_cases hk : k' = k <;> simp [hk]
  · simp [h]
theorem ma_same {X : Mem} {i : Int} {f : Int → Int} : ma X i f i = f := if_pos rfl
theorem ma_ma {X : Mem} {i : Int} {f g : Int → Int} : ma (ma X i f) i g = ma X i g := by
  funext i'
  unfold ma
  by_cases h : i' = i <;> simp [h]
theorem ma_self {X : Mem} {i : Int} : ma X i (X i) = X := by
  funext i'
  unfold ma
  by_cases h : i' = i
  · simp [h]
  · simp [h]
theorem ma_comm {X : Mem} {i j : Int} {f g : Int → Int} (h : i ≠ j) : ma (ma X i f) j g = ma (ma X j g) i f := by
  funext q
  unfold ma
  by_cases h1 : q = i
  · subst h1; simp [h]
  · simp [h1]
/-- the same memory but for these cells -/
def Fr (S : List Int) (X Y : Mem) : Prop := ∀ i : Int, i ∉ S → Y i = X i
theorem Fr.refl {S : List Int} {X : Mem} : Fr S X X := fun _ _ => rfl
theorem Fr.trans {S : List Int} {X Y Z : Mem} (h1 : Fr S X Y) (h2 : Fr S Y Z) : Fr S X Z := fun i hi => (h2 i hi).trans (h1 i hi)
theorem Fr.mono {S S' : List Int} {X Y : Mem} (h : Fr S X Y) (hs : ∀ i ∈ S, i ∈ S') : Fr S' X Y := fun i hi => h i (fun q => hi (hs i q))
theorem Fr.ma {S : List Int} {X Y : Mem} {i : Int} {f : Int → Int} (h : Fr S X Y) (hi : i ∈ S) : Fr S X (ma Y i f) := fun j hj => (ma_ne (fun e => hj (by rw [e]; exact hi))).trans (h j hj)
theorem Fr.ms {S : List Int} {X Y : Mem} {i k v : Int} (h : Fr S X Y) (hi : i ∈ S) : Fr S X (ms Y i k v) := fun j hj => (ms_ne (fun e => hj (by rw [e]; exact hi))).trans (h j hj)
theorem ma_z {X : Mem} {i j : Int} {f : Int → Int} (h : (j == i) = false) : ma X i f j = X j := ma_ne (by simpa using h)
/-! Arrays.fill -/
def fl (f : Int → Int) (a b v : Int) : Int → Int := fun q => if a ≤ q ∧ q < b then v else f q
theorem fillI_loop {p n v : Int} (h0 : 0 ≤ n) (h1 : n ≤ 100000) : ∀ (k : Nat) (j : Int) (X : Mem), 0 ≤ j → j ≤ n → (n - j).toNat < k → L_J7_fill_53178_5 p n k v j n X = some (0, ma X p (fl (X p) j n v)) := by
  intro k
  induction k with
  | zero => intro j X _ _ h; omega
  | succ k ih =>
    intro j X hj hn hk
    rw [L_J7_fill_53178_5, c2_ok (by omega) (by omega) (by omega) (by omega)]
    by_cases h : n ≤ j
    · rw [if_pos h]
      have e : fl (X p) j n v = X p := funext fun q => if_neg (by omega)
      rw [e, ma_self]
    · rw [if_neg h, ax_ok hj (by omega), bd_eq, ih (j + 1) _ (by omega) (by omega) (by omega), ms_ma, ma_ma, ma_same]
      congr 3
      funext q
      unfold fl up
      by_cases hq : q = j
      · rw [if_neg (by omega), if_pos hq, if_pos (by omega)]
      · rw [if_neg hq]
        by_cases hq2 : j + 1 ≤ q ∧ q < n
        · rw [if_pos hq2, if_pos (by omega)]
        · rw [if_neg hq2, if_neg (by omega)]
theorem fillI {p n v : Int} {X : Mem} (h0 : 0 ≤ n) (h1 : n ≤ 100000) : f_J7_fill_53178 p n v X = some (0, ma X p (fl (X p) 0 n v)) := by
  unfold f_J7_fill_53178
  exact fillI_loop h0 h1 KF 0 X (by omega) h0 (by rw [KF_eq]; omega)
theorem fillJ_loop {p n v : Int} (h0 : 0 ≤ n) (h1 : n ≤ 100000) : ∀ (k : Nat) (j : Int) (X : Mem), 0 ≤ j → j ≤ n → (n - j).toNat < k → L_J7_fill_d0a16_6 p n k v j n X = some (0, ma X p (fl (X p) j n v)) := by
  intro k
  induction k with
  | zero => intro j X _ _ h; omega
  | succ k ih =>
    intro j X hj hn hk
    rw [L_J7_fill_d0a16_6, c2_ok (by omega) (by omega) (by omega) (by omega)]
    by_cases h : n ≤ j
    · rw [if_pos h]
      have e : fl (X p) j n v = X p := funext fun q => if_neg (by omega)
      rw [e, ma_self]
    · rw [if_neg h, ax_ok hj (by omega), bd_eq, ih (j + 1) _ (by omega) (by omega) (by omega), ms_ma, ma_ma, ma_same]
      congr 3
      funext q
      unfold fl up
      by_cases hq : q = j
      · rw [if_neg (by omega), if_pos hq, if_pos (by omega)]
      · rw [if_neg hq]
        by_cases hq2 : j + 1 ≤ q ∧ q < n
        · rw [if_pos hq2, if_pos (by omega)]
        · rw [if_neg hq2, if_neg (by omega)]
theorem fillJ {p n v : Int} {X : Mem} (h0 : 0 ≤ n) (h1 : n ≤ 100000) : f_J7_fill_d0a16 p n v X = some (0, ma X p (fl (X p) 0 n v)) := by
  unfold f_J7_fill_d0a16
  exact fillJ_loop h0 h1 KF 0 X (by omega) h0 (by rw [KF_eq]; omega)
/-! a new river -/
def clrF (f : Int → Int) : Int → Int := up (up (up (up (up (up (up (up (up (up (up f 0 0) 1 0) 2 0) 3 4) 4 0) 5 10) 6 14) 7 1) 8 120) 9 12) 10 11
def clr (r : Int) (X : Mem) : Mem := ma (ma (ma (ma X r (clrF (X r))) (r + 1) (fl (X (r + 1)) 0 60 0)) (r + 2) (fl (X (r + 2)) 0 60 (-1))) (r + 3) (fl (X (r + 3)) 0 12 0)
theorem clear_eq {r : Int} {X : Mem} : f_X2_clear r X = some (0, clr r X) := by
  unfold f_X2_clear clr clrF
  simp only [bd_eq]
  rw [fillI (by decide) (by decide), cl_some, fillI (by decide) (by decide), cl_some, fillI (by decide) (by decide), cl_some]
  simp only [ms_ma, ma_ma, ma_same]
  rw [ma_ne (j := r + 1) (i := r) (by omega), ma_ne (j := r + 2) (i := r + 1) (by omega), ma_ne (j := r + 2) (i := r) (by omega), ma_ne (j := r + 3) (i := r + 2) (by omega), ma_ne (j := r + 3) (i := r + 1) (by omega), ma_ne (j := r + 3) (i := r) (by omega)]
/-! a new slot of the model -/
def plF (f : Int → Int) (s : Int) : Int → Int := up (up (up (up (up (up (up (up (fl (fl f s (s + 200) 0) (s + 108) (s + 168) (-1)) (s + 5) 4) (s + 7) 10) (s + 8) 14) (s + 9) 1) (s + 10) 120) (s + 11) 12) (s + 12) 11) (s + 168) 1000000
theorem fl_step {f : Int → Int} {a b v : Int} (h : a < b) : fl (up f a v) (a + 1) b v = fl f a b v := by
  funext q
  unfold fl up
  by_cases hq : q = a
  · rw [if_neg (by omega), if_pos hq, if_pos (by omega)]
  · rw [if_neg hq]
    by_cases hq2 : a + 1 ≤ q ∧ q < b
    · rw [if_pos hq2, if_pos (by omega)]
    · rw [if_neg hq2, if_neg (by omega)]
theorem fl_nil {f : Int → Int} {a b v : Int} (h : b ≤ a) : fl f a b v = f := funext fun q => if_neg (by omega)
theorem plain_26 {s : Int} (h0 : 0 ≤ s) (h1 : s ≤ 1760) : ∀ (k : Nat) (j : Int) (X : Mem), 0 ≤ j → j ≤ 60 → (60 - j).toNat < k → L_X12_plain_26 k s j X = B_X12_plain_50 s (ma X 121 (fl (X 121) (s + 108 + j) (s + 168) (-1))) := by
  intro k
  induction k with
  | zero => intro j X _ _ h; omega
  | succ k ih =>
    intro j X hj hn hk
    rw [L_X12_plain_26, c2_ok (by omega) (by omega) (by omega) (by omega)]
    by_cases h : 60 ≤ j
    · rw [if_pos h, fl_nil (by omega), ma_self]
    · rw [if_neg h, ax_ok (by omega) (by omega), bd_eq, ih (j + 1) _ (by omega) (by omega) (by omega), ms_ma, ma_ma, ma_same, show s + 108 + (j + 1) = s + 108 + j + 1 from by omega, fl_step (by omega)]
theorem plain_2 {s : Int} (h0 : 0 ≤ s) (h1 : s ≤ 1760) : ∀ (k : Nat) (j : Int) (X : Mem), 0 ≤ j → j ≤ 200 → (200 - j).toNat < k → L_X12_plain_2 k s j X = B_X12_plain_24 s (ma X 121 (fl (X 121) (s + j) (s + 200) 0)) := by
  intro k
  induction k with
  | zero => intro j X _ _ h; omega
  | succ k ih =>
    intro j X hj hn hk
    rw [L_X12_plain_2, c2_ok (by omega) (by omega) (by omega) (by omega)]
    by_cases h : 200 ≤ j
    · rw [if_pos h, fl_nil (by omega), ma_self]
    · rw [if_neg h, ax_ok (by omega) (by omega), bd_eq, ih (j + 1) _ (by omega) (by omega) (by omega), ms_ma, ma_ma, ma_same, show s + (j + 1) = s + j + 1 from by omega, fl_step (by omega)]
theorem plain_eq {s : Int} {X : Mem} (h0 : 0 ≤ s) (h1 : s ≤ 1760) : f_X12_plain s X = some (0, ma X 121 (plF (X 121) s)) := by
  unfold f_X12_plain
  rw [plain_2 h0 h1 KF 0 X (by omega) (by omega) (by rw [KF_eq]; omega)]
  unfold B_X12_plain_24
  rw [plain_26 h0 h1 KF 0 _ (by omega) (by omega) (by rw [KF_eq]; omega)]
  unfold B_X12_plain_50 plF
  simp only [bd_eq, Int.add_zero, ms_ma, ma_ma, ma_same]
  rw [ax_ok (by omega) (by omega), ax_ok (by omega) (by omega), ax_ok (by omega) (by omega), ax_ok (by omega) (by omega), ax_ok (by omega) (by omega), ax_ok (by omega) (by omega), ax_ok (by omega) (by omega), ax_ok (by omega) (by omega)]
