/-! the relation of class and reference: trays and answers -/
theorem w32_r (a : Int) : -2147483648 ≤ w32 a ∧ w32 a ≤ 2147483647 := ⟨Int32.le_toInt _, Int32.toInt_le _⟩
theorem w8_r (a : Int) : -128 ≤ w8 a ∧ w8 a ≤ 127 := ⟨Int8.le_toInt _, Int8.toInt_le _⟩
theorem w16_r (a : Int) : -32768 ≤ w16 a ∧ w16 a ≤ 32767 := ⟨Int16.le_toInt _, Int16.toInt_le _⟩
def inI (a : Int) : Prop := -2147483648 ≤ a ∧ a ≤ 2147483647
def inJ (a : Int) : Prop := -9223372036854775808 ≤ a ∧ a ≤ 9223372036854775807
/-- the answers kept: status, top, bottom -/
def RS (X : Mem) : Prop := (0 ≤ X 0 16 ∧ X 0 16 ≤ 100 ∧ X 120 2 = X 0 16) ∧ (inJ (X 0 17) ∧ X 120 3 = X 0 17) ∧ (inJ (X 0 18) ∧ X 120 4 = X 0 18)
/-- one tray: not laid, or laid alike -/
def RT1 (X : Mem) (t : Int) : Prop := (X (61 + 2 * t) 1 = -1 ∧ X 124 t = -1) ∨
  (0 ≤ X (61 + 2 * t) 1 ∧ X (61 + 2 * t) 1 ≤ 3 ∧ X 123 t = X (61 + 2 * t) 1 ∧ 0 ≤ X 124 t ∧ X 124 t ≤ 60 ∧ X (61 + 2 * t) 2 = X 124 t ∧ ∀ j : Int, 0 ≤ j → j < X 124 t → inJ (X (62 + 2 * t) j) ∧ X 125 (60 * t + j) = X (62 + 2 * t) j)
def RT (X : Mem) : Prop := ∀ t : Int, 0 ≤ t → t < 4 → RT1 X t
/-- what calls on trays may change -/
def PT (i k : Int) : Prop := (i = 0 ∧ 16 ≤ k ∧ k ≤ 18) ∨ (i = 120 ∧ 2 ≤ k ∧ k ≤ 4) ∨ (61 ≤ i ∧ i ≤ 68) ∨ (123 ≤ i ∧ i ≤ 125)
def FT (X Y : Mem) : Prop := ∀ i k : Int, ¬ PT i k → Y i k = X i k
theorem FT.refl {X : Mem} : FT X X := fun _ _ _ => rfl
theorem FT.s1 {X Y : Mem} {i k v : Int} (h : FT X Y) (hp : PT i k) : FT X (ms Y i k v) := fun i' k' hn => by
  rw [← h i' k' hn]
  unfold ms
  rw [if_neg]
  rintro ⟨rfl, rfl⟩
  exact hn hp
theorem FT.a1 {X Y : Mem} {i : Int} {f : Int → Int} (h : FT X Y) (hp : (61 ≤ i ∧ i ≤ 68) ∨ (123 ≤ i ∧ i ≤ 125)) : FT X (ma Y i f) := fun i' k' hn => by
  rw [← h i' k' hn, ma_ne]
  rintro rfl
  exact hn (Or.inr (Or.inr hp))
theorem ms_s {X : Mem} {i k v : Int} : ms X i k v i k = v := if_pos ⟨rfl, rfl⟩
theorem ms_k {X : Mem} {i k v k' : Int} (h : k' ≠ k) : ms X i k v i k' = X i k' := if_neg fun q => h q.2
/-- a status told by both -/
theorem RS.st {X : Mem} (h : RS X) {v : Int} (h0 : 0 ≤ v) (h1 : v ≤ 100) : RS (ms (ms X 0 16 v) 120 2 v) := by
  obtain ⟨h2, h3, h4⟩ := h
  refine ⟨?_, ?_, ?_⟩
  · rw [ms_ne (by decide), ms_s, ms_s]
    exact ⟨h0, h1, rfl⟩
  · rw [ms_ne (by decide), ms_k (by decide), ms_k (by decide), ms_ne (by decide)]
    exact h3
  · rw [ms_ne (by decide), ms_k (by decide), ms_k (by decide), ms_ne (by decide)]
    exact h4
theorem RT.st {X : Mem} (h : RT X) {v w : Int} : RT (ms (ms X 0 16 v) 120 2 w) := by
  intro t h0 h1
  have e : ∀ i : Int, i ≠ 0 → i ≠ 120 → ms (ms X 0 16 v) 120 2 w i = X i := fun i a b => by rw [ms_ne b, ms_ne a]
  unfold RT1
  rw [e _ (by omega) (by omega), e _ (by omega) (by omega), e _ (by omega) (by omega), e _ (by omega) (by omega), e _ (by omega) (by omega)]
  exact h t h0 h1
theorem isTray_eq {a : Int} {X : Mem} (ha : inI a) : f_X11_isTray a X = some (if 0 ≤ a ∧ a < 4 then 1 else 0, X) := by
  unfold f_X11_isTray
  rw [c1_ok ha.1 ha.2]
  by_cases h : a < 0
  · rw [if_pos h, if_neg (by omega)]
  · rw [if_neg h, c2_ok ha.1 ha.2 (by decide) (by decide)]
    by_cases h2 : 4 ≤ a
    · rw [if_pos h2, if_neg (by omega)]
    · rw [if_neg h2, if_pos (by omega)]
theorem isTray_eqm {a : Int} {X : Mem} (ha : inI a) : f_X12_isTray a X = some (if 0 ≤ a ∧ a < 4 then 1 else 0, X) := by
  unfold f_X12_isTray
  rw [c1_ok ha.1 ha.2]
  by_cases h : a < 0
  · rw [if_pos h, if_neg (by omega)]
  · rw [if_neg h, c2_ok ha.1 ha.2 (by decide) (by decide)]
    by_cases h2 : 4 ≤ a
    · rw [if_pos h2, if_neg (by omega)]
    · rw [if_neg h2, if_pos (by omega)]
theorem is_eq {v : Int} {X : Mem} (h0 : 0 ≤ v) (h1 : v ≤ 100) : f_X12_is v X = some (if v = 0 then 1 else 0, ms X 120 2 v) := by
  unfold f_X12_is
  rw [bd_eq, c1_ok (by omega) (by omega)]
  by_cases h : v = 0
  · rw [if_neg (by simpa using h), if_pos h]
  · rw [if_pos h, if_neg h]
theorem refuse_eq {v : Int} {X : Mem} : f_X11_refuse v X = some (0, ms X 0 16 v) := rfl
theorem agree_eq {X : Mem} : f_X11_agree X = some (1, ms X 0 16 0) := rfl
theorem TRA_at {t : Int} (h0 : 0 ≤ t) (h1 : t < 4) : tl TRA t = 61 + 2 * t ∧ (61 + 2 * t) ∈ TRA := by
  rcases show t = 0 ∨ t = 1 ∨ t = 2 ∨ t = 3 by omega with rfl | rfl | rfl | rfl <;> exact ⟨rfl, by decide⟩
/-- a call that only refuses -/
theorem refuse2 {v : Int} {X : Mem} (h0 : 0 < v) (h1 : v ≤ 100) (hS : RS X) (hT : RT X) : (cl (f_X11_refuse v X) fun r3 X4 => cz r3 (some (r3, X4))) = some (0, ms X 0 16 v) ∧ (cl (f_X12_is v (ms X 0 16 v)) fun r3 X4 => cz r3 (some (r3, X4))) = some (0, ms (ms X 0 16 v) 120 2 v) ∧ RS (ms (ms X 0 16 v) 120 2 v) ∧ RT (ms (ms X 0 16 v) 120 2 v) ∧ FT X (ms (ms X 0 16 v) 120 2 v) := by
  refine ⟨by rw [refuse_eq, cl_some, cz_0], ?_, hS.st (by omega) h1, hT.st, (FT.refl.s1 (Or.inl ⟨rfl, by decide, by decide⟩)).s1 (Or.inr (Or.inl ⟨rfl, by decide, by decide⟩))⟩
  rw [is_eq (by omega) h1, if_neg (by omega), cl_some, cz_0]
/-- a pair of answers, alike, with what stays -/
def Pr (a b : Mem → Option (Int × Mem)) (lo hi : Int) : Prop := ∀ X : Mem, RS X → RT X → ∃ (r : Int) (X1 X2 : Mem), a X = some (r, X1) ∧ b X1 = some (r, X2) ∧ (lo ≤ r ∧ r ≤ hi) ∧ RS X2 ∧ RT X2 ∧ FT X X2
theorem pr_status : Pr f_X11_status f_X12_status 0 100 := fun X hS hT => ⟨X 0 16, X, X, rfl, by unfold f_X12_status; rw [hS.1.2.2], ⟨hS.1.1, hS.1.2.1⟩, hS, hT, FT.refl⟩
theorem pr_top : Pr f_X11_top f_X12_top (-9223372036854775808) 9223372036854775807 := fun X hS hT => ⟨X 0 17, X, X, rfl, by unfold f_X12_top; rw [hS.2.1.2], hS.2.1.1, hS, hT, FT.refl⟩
theorem pr_bottom : Pr f_X11_bottom f_X12_bottom (-9223372036854775808) 9223372036854775807 := fun X hS hT => ⟨X 0 18, X, X, rfl, by unfold f_X12_bottom; rw [hS.2.2.2], hS.2.2.1, hS, hT, FT.refl⟩
/-- laying a tray in the class -/
theorem lay_eq {r s n : Int} {X : Mem} : f_X10_lay r s n X = some (0, ma (ma X r (up (up (X r) 1 s) 2 n)) (r + 1) (fl (X (r + 1)) 0 60 0)) := by
  unfold f_X10_lay
  rw [bd_eq, bd_eq, fillJ (by decide) (by decide), cl_some, ms_ma, ms_ma, ma_ma, ma_same, ma_ne (j := r + 1) (i := r) (by omega)]
theorem tray_49 {t n : Int} (h0 : 0 ≤ t) (h1 : t < 4) (hn : n ≤ 60) : ∀ (k : Nat) (j : Int) (X : Mem), 0 ≤ j → j ≤ n → (n - j).toNat < k → L_X12_tray_49 k t n j X = some (1, ms (ma X 125 (fl (X 125) (60 * t + j) (60 * t + n) 0)) 120 2 0) := by
  intro k
  induction k with
  | zero => intro j X _ _ h; omega
  | succ k ih =>
    intro j X hj hjn hk
    rw [L_X12_tray_49, c2_ok (by omega) (by omega) (by omega) (by omega)]
    by_cases h : n ≤ j
    · rw [if_pos h, fl_nil (by omega), ma_self]
      unfold B_X12_tray_74
      rw [is_eq (by decide) (by decide), if_pos rfl, cl_some, cz_1]
    · rw [if_neg h, ax_ok (by omega) (by omega), bd_eq, ih (j + 1) _ (by omega) (by omega) (by omega), ms_ma (i := 125), ma_ma, ma_same, show 60 * t + (j + 1) = 60 * t + j + 1 from by omega, fl_step (by omega)]
theorem gate2 {β : Type} {p m : Int} (hp : inI p) (hm : inI m) {B K : Option β} : (c1 p <| if p < 0 then B else c2 p m <| if m < p then B else K) = if 0 ≤ p ∧ p ≤ m then K else B := by
  rw [c1_ok hp.1 hp.2]
  by_cases h : p < 0
  · rw [if_pos h, if_neg (by omega)]
  · rw [if_neg h, c2_ok hp.1 hp.2 hm.1 hm.2]
    by_cases h2 : m < p
    · rw [if_pos h2, if_neg (by omega)]
    · rw [if_neg h2, if_pos (by omega)]
theorem gate3 {β : Type} {p m : Int} (hp : inI p) (hm : inI m) {B K : Option β} : (c1 p <| if p < 0 then B else c2 p m <| if p ≤ m then K else B) = if 0 ≤ p ∧ p ≤ m then K else B := by
  rw [c1_ok hp.1 hp.2]
  by_cases h : p < 0
  · rw [if_pos h, if_neg (by omega)]
  · rw [if_neg h, c2_ok hp.1 hp.2 hm.1 hm.2]
    by_cases h2 : p ≤ m
    · rw [if_pos h2, if_pos (by omega)]
    · rw [if_neg h2, if_neg (by omega)]
theorem inI_3 : inI 3 := ⟨by decide, by decide⟩
theorem inI_60 : inI 60 := ⟨by decide, by decide⟩
theorem pr_refuse {a b : Mem → Option (Int × Mem)} {v : Int} (h0 : 0 < v) (h1 : v ≤ 100) {X : Mem} (hS : RS X) (hT : RT X) (ea : a X = cl (f_X11_refuse v X) fun r3 X4 => cz r3 (some (r3, X4))) (eb : ∀ Y : Mem, Y = ms X 0 16 v → b Y = cl (f_X12_is v Y) fun r3 X4 => cz r3 (some (r3, X4))) :
    ∃ (r : Int) (X1 X2 : Mem), a X = some (r, X1) ∧ b X1 = some (r, X2) ∧ (0 ≤ r ∧ r ≤ 1) ∧ RS X2 ∧ RT X2 ∧ FT X X2 := by
  obtain ⟨e1, e2, e3, e4, e5⟩ := refuse2 h0 h1 hS hT
  exact ⟨0, _, _, ea.trans e1, (eb _ rfl).trans e2, ⟨by decide, by decide⟩, e3, e4, e5⟩
theorem pr_tray {a b c : Int} (ha : inI a) (hb : inI b) (hc : inI c) : Pr (f_X11_tray a b c) (f_X12_tray a b c) 0 1 := by
  intro X hS hT
  have eA : ∀ Y : Mem, f_X11_tray a b c Y = if 0 ≤ a ∧ a < 4 then (if 0 ≤ b ∧ b ≤ 3 then (if 0 ≤ c ∧ c ≤ 60 then (ax TRA.length a <| cm TRA (tl TRA a) <| cl (f_X10_lay (tl TRA a) b c Y) fun _ X7 => cl (f_X11_agree X7) fun r8 X9 => cz r8 (some (r8, X9))) else B_X11_tray_26 Y) else B_X11_tray_26 Y) else B_X11_tray_26 Y := by
    intro Y
    unfold f_X11_tray
    rw [isTray_eq ha, cl_some]
    by_cases h : 0 ≤ a ∧ a < 4
    · rw [if_pos h, if_pos h, c1_ok (by decide) (by decide), if_neg (by decide), gate2 hb inI_3, gate3 hc inI_60]
    · rw [if_neg h, if_neg h, c1_ok (by decide) (by decide), if_pos rfl]
  have eB : ∀ Y : Mem, f_X12_tray a b c Y = if 0 ≤ a ∧ a < 4 then (if 0 ≤ b ∧ b ≤ 3 then (if 0 ≤ c ∧ c ≤ 60 then (ax 4 a <| bd (ms Y 123 a b) fun X5 => ax 4 a <| bd (ms X5 124 a c) fun X6 => L_X12_tray_49 KF a c 0 X6) else B_X12_tray_26 Y) else B_X12_tray_26 Y) else B_X12_tray_26 Y := by
    intro Y
    unfold f_X12_tray
    rw [isTray_eqm ha, cl_some]
    by_cases h : 0 ≤ a ∧ a < 4
    · rw [if_pos h, if_pos h, c1_ok (by decide) (by decide), if_neg (by decide), gate2 hb inI_3, gate3 hc inI_60]
    · rw [if_neg h, if_neg h, c1_ok (by decide) (by decide), if_pos rfl]
  by_cases h1 : 0 ≤ a ∧ a < 4
  · by_cases h2 : 0 ≤ b ∧ b ≤ 3
    · by_cases h3 : 0 ≤ c ∧ c ≤ 60
      · obtain ⟨q1, q2⟩ := TRA_at h1.1 h1.2
        have hTL : ((TRA.length : Nat) : Int) = 4 := rfl
        obtain ⟨Y, hY⟩ : ∃ Y : Mem, ms (ma (ma X (61 + 2 * a) (up (up (X (61 + 2 * a)) 1 b) 2 c)) (61 + 2 * a + 1) (fl (X (61 + 2 * a + 1)) 0 60 0)) 0 16 0 = Y := ⟨_, rfl⟩
        obtain ⟨Z, hZ⟩ : ∃ Z : Mem, ms (ma (ms (ms Y 123 a b) 124 a c) 125 (fl (ms (ms Y 123 a b) 124 a c 125) (60 * a + 0) (60 * a + c) 0)) 120 2 0 = Z := ⟨_, rfl⟩
        refine ⟨1, Y, Z, ?_, ?_, ⟨by decide, by decide⟩, ?_⟩
        · rw [eA, if_pos h1, if_pos h2, if_pos h3, ax_ok h1.1 (by rw [hTL]; exact h1.2), q1, cm_ok q2, lay_eq, cl_some, agree_eq, cl_some, cz_1, hY]
        · rw [eB, if_pos h1, if_pos h2, if_pos h3, ax_ok h1.1 h1.2, bd_eq, ax_ok h1.1 h1.2, bd_eq, tray_49 h1.1 h1.2 h3.2 KF 0 _ (by decide) h3.1 (by rw [KF_eq]; omega), hZ]
        · have y0 : ∀ i : Int, i ≠ 0 → i ≠ 61 + 2 * a → i ≠ 61 + 2 * a + 1 → Y i = X i := fun i a1 a2 a3 => by rw [← hY, ms_ne a1, ma_ne a3, ma_ne a2]
          have y1 : Y 0 = up (X 0) 16 0 := by rw [← hY, ms_ma, ma_same, ma_ne (by omega), ma_ne (by omega)]
          have y2 : Y (61 + 2 * a) = up (up (X (61 + 2 * a)) 1 b) 2 c := by rw [← hY, ms_ne (by omega), ma_ne (by omega), ma_same]
          have y3 : Y (61 + 2 * a + 1) = fl (X (61 + 2 * a + 1)) 0 60 0 := by rw [← hY, ms_ne (by omega), ma_same]
          have z0 : ∀ i : Int, i ≠ 120 → i ≠ 123 → i ≠ 124 → i ≠ 125 → Z i = Y i := fun i a1 a2 a3 a4 => by rw [← hZ, ms_ne a1, ma_ne a4, ms_ne a3, ms_ne a2]
          have z1 : Z 120 = up (X 120) 2 0 := by rw [← hZ, ms_ma, ma_same, ma_ne (by decide), ms_ne (by decide), ms_ne (by decide), y0 _ (by decide) (by omega) (by omega)]
          have z3 : Z 123 = up (X 123) a b := by rw [← hZ, ms_ne (by decide), ma_ne (by decide), ms_ne (by decide), ms_ma, ma_same, y0 _ (by decide) (by omega) (by omega)]
          have z4 : Z 124 = up (X 124) a c := by rw [← hZ, ms_ne (by decide), ma_ne (by decide), ms_ma, ma_same, ms_ne (by decide), y0 _ (by decide) (by omega) (by omega)]
          have z5 : Z 125 = fl (X 125) (60 * a) (60 * a + c) 0 := by rw [← hZ, ms_ne (by decide), ma_same, ms_ne (by decide), ms_ne (by decide), y0 _ (by decide) (by omega) (by omega), Int.add_zero]
          refine ⟨?_, ?_, ?_⟩
          · obtain ⟨r1, r2, r3⟩ := hS
            unfold RS
            rw [z1, z0 0 (by decide) (by decide) (by decide) (by decide), y1, up_same, up_same, up_ne (by decide), up_ne (by decide), up_ne (by decide), up_ne (by decide)]
            exact ⟨⟨by decide, by decide, rfl⟩, r2, r3⟩
          · intro t t0 t1
            unfold RT1
            rw [z3, z4, z5, z0 (61 + 2 * t) (by omega) (by omega) (by omega) (by omega), z0 (62 + 2 * t) (by omega) (by omega) (by omega) (by omega)]
            by_cases ht : t = a
            · subst ht
              rw [y2, show 62 + 2 * t = 61 + 2 * t + 1 from by omega, y3, up_same, up_same, up_ne (by decide), up_same, up_same]
              refine Or.inr ⟨h2.1, h2.2, rfl, h3.1, h3.2, rfl, fun j j0 j1 => ?_⟩
              unfold fl
              rw [if_pos (by omega), if_pos (by omega)]
              exact ⟨⟨by decide, by decide⟩, rfl⟩
            · rw [y0 _ (by omega) (by omega) (by omega), y0 (62 + 2 * t) (by omega) (by omega) (by omega), up_ne ht, up_ne ht]
              rcases hT t t0 t1 with h | ⟨g1, g2, g3, g4, g5, g6, g7⟩
              · exact Or.inl h
              · refine Or.inr ⟨g1, g2, g3, g4, g5, g6, fun j j0 j1 => ?_⟩
                obtain ⟨g8, g9⟩ := g7 j j0 j1
                refine ⟨g8, ?_⟩
                unfold fl
                rw [if_neg (by omega)]
                exact g9
          · rw [← hZ, ← hY]
            exact (((((((FT.refl.a1 (Or.inl (by omega))).a1 (Or.inl (by omega))).s1 (Or.inl ⟨rfl, by decide, by decide⟩)).s1 (Or.inr (Or.inr (Or.inr (by decide))))).s1 (Or.inr (Or.inr (Or.inr (by decide))))).a1 (Or.inr (by decide))).s1 (Or.inr (Or.inl ⟨rfl, by decide, by decide⟩)))
      · exact pr_refuse (v := 1) (by decide) (by decide) hS hT (by rw [eA, if_pos h1, if_pos h2, if_neg h3]; rfl) (fun Y _ => by rw [eB, if_pos h1, if_pos h2, if_neg h3]; rfl)
    · exact pr_refuse (v := 1) (by decide) (by decide) hS hT (by rw [eA, if_pos h1, if_neg h2]; rfl) (fun Y _ => by rw [eB, if_pos h1, if_neg h2]; rfl)
  · exact pr_refuse (v := 1) (by decide) (by decide) hS hT (by rw [eA, if_neg h1]; rfl) (fun Y _ => by rw [eB, if_neg h1]; rfl)
theorem isMissing_eq {r : Int} {X : Mem} (h : inI (X r 1)) : f_X10_isMissing r X = some (if X r 1 = -1 then 1 else 0, X) := by
  unfold f_X10_isMissing
  rw [c2_ok h.1 h.2 (by decide) (by decide)]
  by_cases e : X r 1 = -1
  · rw [if_neg (by simpa using e), if_pos e]
  · rw [if_pos e, if_neg e]
/-- the place of a call on a tray: both say alike whether it is there -/
theorem place_eq {a b : Int} {X : Mem} (ha : inI a) (hb : inI b) (hT : RT X) : ∃ v : Int, f_X11_placeStatus a b X = some (v, X) ∧ (∀ Y : Mem, Y 124 = X 124 → f_X12_wrongPlace a b Y = some (v, Y)) ∧
    ((v = 0 ∧ (0 ≤ a ∧ a < 4) ∧ (0 ≤ b ∧ b < X 124 a) ∧ X 124 a ≠ -1) ∨ (1 ≤ v ∧ v ≤ 3)) := by
  unfold f_X11_placeStatus f_X12_wrongPlace
  rw [isTray_eq ha, cl_some]
  by_cases h1 : 0 ≤ a ∧ a < 4
  · obtain ⟨q1, q2⟩ := TRA_at h1.1 h1.2
    have hTL : ((TRA.length : Nat) : Int) = 4 := rfl
    have hr := hT a h1.1 h1.2
    have hI1 : inI (X (61 + 2 * a) 1) := by rcases hr with h | h <;> constructor <;> omega
    rw [if_pos h1, c1_ok (by decide) (by decide), if_pos (by decide), ax_ok h1.1 (by rw [hTL]; exact h1.2), q1, cm_ok q2, isMissing_eq hI1, cl_some]
    by_cases hm : X (61 + 2 * a) 1 = -1
    · refine ⟨2, ?_, fun Y hY => ?_, Or.inr ⟨by decide, by decide⟩⟩
      · rw [if_pos hm, c1_ok (by decide) (by decide), if_neg (by decide)]
      · have hm2 : Y 124 a = -1 := by rw [hY]; rcases hr with h | h <;> omega
        rw [isTray_eqm ha, cl_some, if_pos h1, c1_ok (by decide) (by decide), if_pos (by decide), ax_ok h1.1 h1.2, hm2, c2_ok (by decide) (by decide) (by decide) (by decide), if_neg (by decide)]
    · have hr2 : 0 ≤ X 124 a ∧ X 124 a ≤ 60 ∧ X (61 + 2 * a) 2 = X 124 a := by rcases hr with h | h <;> omega
      have hb1 := hb.1
      have hb2 := hb.2
      rw [if_neg hm, c1_ok (by decide) (by decide), if_pos rfl, c1_ok hb.1 hb.2, ax_ok h1.1 (by rw [hTL]; exact h1.2), cm_ok q2, hr2.2.2, c2_ok hb.1 hb.2 (by omega) (by omega)]
      have hw : ∀ Y : Mem, Y 124 = X 124 → (cl (f_X12_isTray a Y) fun r1 X2 => c1 r1 <| if ¬ r1 = 0 then ax 4 a <| c2 (X2 124 a) ((-1)) <| if ¬ (X2 124 a) = ((-1)) then c1 b <| if b < 0 then some (3, X2) else ax 4 a <| c2 b (X2 124 a) <| if b < (X2 124 a) then some (0, X2) else some (3, X2) else some (2, X2) else some (1, X2)) = if b < 0 then some (3, Y) else if b < X 124 a then some (0, Y) else some ((3 : Int), Y) := by
        intro Y hY
        rw [isTray_eqm ha, cl_some, if_pos h1, c1_ok (by decide) (by decide), if_pos (by decide), ax_ok h1.1 h1.2, hY, c2_ok (by omega) (by omega) (by decide) (by decide), if_pos (by omega), c1_ok hb.1 hb.2, ax_ok h1.1 h1.2, c2_ok hb.1 hb.2 (by omega) (by omega)]
      by_cases h2 : b < 0
      · exact ⟨3, by rw [if_pos h2], fun Y hY => by rw [hw Y hY, if_pos h2], Or.inr ⟨by decide, by decide⟩⟩
      · by_cases h3 : b < X 124 a
        · exact ⟨0, by rw [if_neg h2, if_neg (by omega)], fun Y hY => by rw [hw Y hY, if_neg h2, if_pos h3], Or.inl ⟨rfl, h1, ⟨by omega, h3⟩, by omega⟩⟩
        · exact ⟨3, by rw [if_neg h2, if_pos (by omega)], fun Y hY => by rw [hw Y hY, if_neg h2, if_neg h3], Or.inr ⟨by decide, by decide⟩⟩
  · refine ⟨1, by rw [if_neg h1, c1_ok (by decide) (by decide), if_neg (by decide)], fun Y _ => ?_, Or.inr ⟨by decide, by decide⟩⟩
    rw [isTray_eqm ha, cl_some, if_neg h1, c1_ok (by decide) (by decide), if_neg (by decide)]
theorem pr_read {a b : Int} (ha : inI a) (hb : inI b) : Pr (f_X11_read a b) (f_X12_read a b) (-9223372036854775808) 9223372036854775807 := by
  intro X hS hT
  obtain ⟨v, e1, e2, e3⟩ := place_eq ha hb hT
  unfold f_X11_read f_X12_read
  rw [e1, cl_some]
  have hF : ∀ v w : Int, FT X (ms (ms X 0 16 v) 120 2 w) := fun v w => (FT.refl.s1 (Or.inl ⟨rfl, by decide, by decide⟩)).s1 (Or.inr (Or.inl ⟨rfl, by decide, by decide⟩))
  rcases e3 with ⟨rfl, h1, h2, h3⟩ | h1
  · obtain ⟨q1, q2⟩ := TRA_at h1.1 h1.2
    have hTL : ((TRA.length : Nat) : Int) = 4 := rfl
    rcases hT a h1.1 h1.2 with h | ⟨g1, g2, g3, g4, g5, g6, g7⟩
    · exact absurd h.2 h3
    · obtain ⟨g8, g9⟩ := g7 b h2.1 h2.2
      refine ⟨X (62 + 2 * a) b, ms X 0 16 0, ms (ms X 0 16 0) 120 2 0, ?_, ?_, g8, hS.st (by decide) (by decide), hT.st, hF _ _⟩
      · rw [c1_ok (by decide) (by decide), if_pos rfl, bd_eq, ax_ok h1.1 (by rw [hTL]; exact h1.2), q1, cm_ok q2, ax_ok h2.1 (by omega), ms_ne (by omega), show 61 + 2 * a + 1 = 62 + 2 * a from by omega]
      · rw [e2 _ (by rw [ms_ne (by decide)]), cl_some, bd_eq, ms_s, c1_ok (by decide) (by decide), if_pos (by decide), ax_ok (by omega) (by omega), ms_ne (by decide), ms_ne (by decide), g9]
  · refine ⟨-1, ms X 0 16 v, ms (ms X 0 16 v) 120 2 v, ?_, ?_, ⟨by decide, by decide⟩, hS.st (by omega) (by omega), hT.st, hF _ _⟩
    · rw [c1_ok (by omega) (by omega), if_neg (by omega)]
      rfl
    · rw [e2 _ (by rw [ms_ne (by decide)]), cl_some, bd_eq, ms_s, c1_ok (by omega) (by omega), if_neg (by omega)]
def cutV (s v : Int) : Int := if s = 0 then w8 v else if s = 1 then w16 v else if s = 2 then w32 v else v
theorem cutV_J {s v : Int} (hv : inJ v) : inJ (cutV s v) := by
  have h1 := w8_r v
  have h2 := w16_r v
  have h3 := w32_r v
  have h4 := hv.1
  have h5 := hv.2
  unfold cutV inJ
  split
  · omega
  · split
    · omega
    · split <;> omega
theorem cut_eq {r v : Int} {X : Mem} (h0 : 0 ≤ X r 1) (h1 : X r 1 ≤ 3) : f_X10_cut r v X = some (cutV (X r 1) v, X) := by
  have e1 := w8_r v
  have e2 := w16_r v
  have e3 := w32_r v
  unfold f_X10_cut cutV
  rw [c1_ok (by omega) (by omega), c1_ok (by omega) (by omega), c1_ok (by omega) (by omega), c1_ok e3.1 e3.2]
  by_cases g0 : X r 1 = 0
  · rw [if_pos g0, if_pos g0]
  · rw [if_neg g0, if_neg g0]
    by_cases g1 : X r 1 = 1
    · rw [if_pos g1, if_pos g1]
    · rw [if_neg g1, if_neg g1]
      by_cases g2 : X r 1 = 2
      · rw [if_pos g2, if_pos g2]
      · rw [if_neg g2, if_neg g2]
theorem cut_eqm {s v : Int} {X : Mem} (h0 : 0 ≤ s) (h1 : s ≤ 3) : f_X12_cut v s X = some (cutV s v, X) := by
  have e1 := w8_r v
  have e2 := w16_r v
  have e3 := w32_r v
  unfold f_X12_cut cutV
  rw [c1_ok (by omega) (by omega), c2_ok (by omega) (by omega) (by decide) (by decide), c2_ok (by omega) (by omega) (by decide) (by decide), c1_ok e3.1 e3.2, c1_ok (by omega) (by omega), c1_ok (by omega) (by omega)]
  by_cases g0 : s = 0
  · rw [if_neg (by simpa using g0), if_pos g0]
  · rw [if_pos g0, if_neg g0]
    by_cases g1 : s = 1
    · rw [if_neg (by simpa using g1), if_pos g1]
    · rw [if_pos g1, if_neg g1]
      by_cases g2 : s = 2
      · rw [if_neg (by simpa using g2), if_pos g2]
      · rw [if_pos g2, if_neg g2]
theorem pr_write {a b v : Int} (ha : inI a) (hb : inI b) (hv : inJ v) : Pr (f_X11_write a b v) (f_X12_write a b v) 0 1 := by
  intro X hS hT
  obtain ⟨w, e1, e2, e3⟩ := place_eq ha hb hT
  rcases e3 with ⟨rfl, h1, h2, h3⟩ | h1
  · obtain ⟨q1, q2⟩ := TRA_at h1.1 h1.2
    have hTL : ((TRA.length : Nat) : Int) = 4 := rfl
    rcases hT a h1.1 h1.2 with h | ⟨g1, g2, g3, g4, g5, g6, g7⟩
    · exact absurd h.2 h3
    · generalize hu : cutV (X (61 + 2 * a) 1) v = u
      have hJ : inJ u := hu ▸ cutV_J hv
      refine ⟨1, ms (ms X (61 + 2 * a + 1) b u) 0 16 0, ms (ms (ms (ms X (61 + 2 * a + 1) b u) 0 16 0) 125 (60 * a + b) u) 120 2 0, ?_, ?_, ⟨by decide, by decide⟩, ?_⟩
      · unfold f_X11_write
        rw [e1, cl_some, c1_ok (by decide) (by decide), if_pos rfl, ax_ok h1.1 (by rw [hTL]; exact h1.2), q1, cm_ok q2, cut_eq g1 g2, cl_some, ax_ok h2.1 (by omega), bd_eq, agree_eq, cl_some, cz_1, hu]
      · unfold f_X12_write B_X12_write_34
        rw [e2 _ (by rw [ms_ne (by decide), ms_ne (by omega)]), cl_some, c1_ok (by decide) (by decide), if_neg (by decide), ax_ok h1.1 h1.2, ms_ne (i := 0) (by decide), ms_ne (by omega), g3, cut_eqm g1 g2, cl_some, ax_ok (by omega) (by omega), bd_eq, is_eq (by decide) (by decide), if_pos rfl, cl_some, cz_1, hu]
      · generalize hZ : ms (ms (ms (ms X (61 + 2 * a + 1) b u) 0 16 0) 125 (60 * a + b) u) 120 2 0 = Z
        have z0 : ∀ i : Int, i ≠ 0 → i ≠ 61 + 2 * a + 1 → i ≠ 125 → i ≠ 120 → Z i = X i := fun i a1 a2 a3 a4 => by rw [← hZ, ms_ne a4, ms_ne a3, ms_ne a1, ms_ne a2]
        have z1 : Z 0 = up (X 0) 16 0 := by rw [← hZ, ms_ne (by decide), ms_ne (by decide), ms_ma, ma_same, ms_ne (by omega)]
        have z2 : Z (61 + 2 * a + 1) = up (X (61 + 2 * a + 1)) b u := by rw [← hZ, ms_ne (by omega), ms_ne (by omega), ms_ne (by omega), ms_ma, ma_same]
        have z3 : Z 125 = up (X 125) (60 * a + b) u := by rw [← hZ, ms_ne (by decide), ms_ma, ma_same, ms_ne (by decide), ms_ne (by omega)]
        have z4 : Z 120 = up (X 120) 2 0 := by rw [← hZ, ms_ma, ma_same, ms_ne (by decide), ms_ne (by decide), ms_ne (by omega)]
        refine ⟨?_, ?_, ?_⟩
        · obtain ⟨r1, r2, r3⟩ := hS
          unfold RS
          rw [z1, z4, up_same, up_same, up_ne (by decide), up_ne (by decide), up_ne (by decide), up_ne (by decide)]
          exact ⟨⟨by decide, by decide, rfl⟩, r2, r3⟩
        · intro t t0 t1
          unfold RT1
          rw [z3, z0 (61 + 2 * t) (by omega) (by omega) (by omega) (by omega), z0 123 (by decide) (by omega) (by decide) (by decide), z0 124 (by decide) (by omega) (by decide) (by decide)]
          by_cases ht : t = a
          · subst ht
            rw [show 62 + 2 * t = 61 + 2 * t + 1 from by omega, z2]
            refine Or.inr ⟨g1, g2, g3, g4, g5, g6, fun j j0 j1 => ?_⟩
            by_cases hj : j = b
            · subst hj
              rw [up_same, up_same]
              exact ⟨hJ, rfl⟩
            · rw [up_ne hj, up_ne (by omega), show 61 + 2 * t + 1 = 62 + 2 * t from by omega]
              exact g7 j j0 j1
          · rw [z0 (62 + 2 * t) (by omega) (by omega) (by omega) (by omega)]
            rcases hT t t0 t1 with h | ⟨f1, f2, f3, f4, f5, f6, f7⟩
            · exact Or.inl h
            · refine Or.inr ⟨f1, f2, f3, f4, f5, f6, fun j j0 j1 => ?_⟩
              rw [up_ne (by omega)]
              exact f7 j j0 j1
        · rw [← hZ]
          exact (((FT.refl.s1 (Or.inr (Or.inr (Or.inl (by omega))))).s1 (Or.inl ⟨rfl, by decide, by decide⟩)).s1 (Or.inr (Or.inr (Or.inr (by decide))))).s1 (Or.inr (Or.inl ⟨rfl, by decide, by decide⟩))
  · obtain ⟨f1, f2, f3, f4, f5⟩ := refuse2 (v := w) (by omega) (by omega) hS hT
    refine ⟨0, ms X 0 16 w, _, ?_, ?_, ⟨by decide, by decide⟩, f3, f4, f5⟩
    · unfold f_X11_write
      rw [e1, cl_some, c1_ok (by omega) (by omega), if_neg (by omega)]
      exact f1
    · unfold f_X12_write
      rw [e2 _ (by rw [ms_ne (by decide)]), cl_some, c1_ok (by omega) (by omega), if_pos (by omega)]
      exact f2
