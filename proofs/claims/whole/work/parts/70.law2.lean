/-! the law out of the 46 pairs -/
def PI (Rel : Int → Mem → Prop) (a b : Mem → Option (Int × Mem)) : Prop := ∀ (cn : Int) (X : Mem), 0 ≤ cn ∧ cn ≤ 600 → Rel cn X → ∃ (r : Int) (X1 X2 : Mem), a X = some (r, X1) ∧ b X1 = some (r, X2) ∧ inI r ∧ Rel (cn + 1) X2
def PJ (Rel : Int → Mem → Prop) (a b : Mem → Option (Int × Mem)) : Prop := ∀ (cn : Int) (X : Mem), 0 ≤ cn ∧ cn ≤ 600 → Rel cn X → ∃ (r : Int) (X1 X2 : Mem), a X = some (r, X1) ∧ b X1 = some (r, X2) ∧ inJ r ∧ Rel (cn + 1) X2
theorem lo_J (a b : Int) : inJ (lo a b) := ⟨Int64.le_toInt _, Int64.toInt_le _⟩
def pair_0 (Rel : Int → Mem → Prop) : Prop := PI Rel f_X11_status f_X12_status
theorem w_0 {Rel : Int → Mem → Prop} {cn : Int} {n : Int} {sx : Int → Int} {go : Int → Mem → Option (Int × Mem)} {i : Int} {X : Mem} (hc : 0 ≤ cn ∧ cn ≤ 600) (hi : 0 ≤ i) (hn : i + 6 ≤ n) (hn2 : n ≤ 3072) (hs : ∀ j : Int, 0 ≤ j → inI (sx j)) (hX : Rel cn X) (h : pair_0 Rel) : ∃ X2 : Mem, Rel (cn + 1) X2 ∧ W_law_0 n sx go i X = go (i + 6) X2 := by
  obtain ⟨r, X1, X2, e1, e2, hr, h2⟩ := h   cn X hc hX
  refine ⟨X2, h2, ?_⟩
  unfold W_law_0
  rw [e1, cl_some, e2, cl_some, c2_ok hr.1 hr.2 hr.1 hr.2, if_pos rfl]
def pair_1 (Rel : Int → Mem → Prop) : Prop := PJ Rel f_X11_top f_X12_top
theorem w_1 {Rel : Int → Mem → Prop} {cn : Int} {n : Int} {sx : Int → Int} {go : Int → Mem → Option (Int × Mem)} {i : Int} {X : Mem} (hc : 0 ≤ cn ∧ cn ≤ 600) (hi : 0 ≤ i) (hn : i + 6 ≤ n) (hn2 : n ≤ 3072) (hs : ∀ j : Int, 0 ≤ j → inI (sx j)) (hX : Rel cn X) (h : pair_1 Rel) : ∃ X2 : Mem, Rel (cn + 1) X2 ∧ W_law_1 n sx go i X = go (i + 6) X2 := by
  obtain ⟨r, X1, X2, e1, e2, hr, h2⟩ := h   cn X hc hX
  refine ⟨X2, h2, ?_⟩
  unfold W_law_1
  rw [e1, cl_some, e2, cl_some, d2_ok hr.1 hr.2 hr.1 hr.2, if_pos rfl]
def pair_2 (Rel : Int → Mem → Prop) : Prop := PJ Rel f_X11_bottom f_X12_bottom
theorem w_2 {Rel : Int → Mem → Prop} {cn : Int} {n : Int} {sx : Int → Int} {go : Int → Mem → Option (Int × Mem)} {i : Int} {X : Mem} (hc : 0 ≤ cn ∧ cn ≤ 600) (hi : 0 ≤ i) (hn : i + 6 ≤ n) (hn2 : n ≤ 3072) (hs : ∀ j : Int, 0 ≤ j → inI (sx j)) (hX : Rel cn X) (h : pair_2 Rel) : ∃ X2 : Mem, Rel (cn + 1) X2 ∧ W_law_2 n sx go i X = go (i + 6) X2 := by
  obtain ⟨r, X1, X2, e1, e2, hr, h2⟩ := h   cn X hc hX
  refine ⟨X2, h2, ?_⟩
  unfold W_law_2
  rw [e1, cl_some, e2, cl_some, d2_ok hr.1 hr.2 hr.1 hr.2, if_pos rfl]
def pair_3 (Rel : Int → Mem → Prop) : Prop := ∀ a0 a1 a2 : Int, inI a0 → inI a1 → inI a2 → PI Rel (f_X11_tray a0 a1 a2) (f_X12_tray a0 a1 a2)
theorem w_3 {Rel : Int → Mem → Prop} {cn : Int} {n : Int} {sx : Int → Int} {go : Int → Mem → Option (Int × Mem)} {i : Int} {X : Mem} (hc : 0 ≤ cn ∧ cn ≤ 600) (hi : 0 ≤ i) (hn : i + 6 ≤ n) (hn2 : n ≤ 3072) (hs : ∀ j : Int, 0 ≤ j → inI (sx j)) (hX : Rel cn X) (h : pair_3 Rel) : ∃ X2 : Mem, Rel (cn + 1) X2 ∧ W_law_3 n sx go i X = go (i + 6) X2 := by
  obtain ⟨r, X1, X2, e1, e2, hr, h2⟩ := h (sx (i + 1)) (sx (i + 2)) (sx (i + 3)) (hs _ (by omega)) (hs _ (by omega)) (hs _ (by omega)) cn X hc hX
  refine ⟨X2, h2, ?_⟩
  unfold W_law_3
  rw [ax_ok (by omega) (by omega), ax_ok (by omega) (by omega), ax_ok (by omega) (by omega), e1, cl_some, ax_ok (by omega) (by omega), ax_ok (by omega) (by omega), ax_ok (by omega) (by omega), e2, cl_some, c2_ok hr.1 hr.2 hr.1 hr.2, if_pos rfl]
def pair_4 (Rel : Int → Mem → Prop) : Prop := ∀ a0 a1 a2 : Int, inI a0 → inI a1 → inJ a2 → PI Rel (f_X11_write a0 a1 a2) (f_X12_write a0 a1 a2)
theorem w_4 {Rel : Int → Mem → Prop} {cn : Int} {n : Int} {sx : Int → Int} {go : Int → Mem → Option (Int × Mem)} {i : Int} {X : Mem} (hc : 0 ≤ cn ∧ cn ≤ 600) (hi : 0 ≤ i) (hn : i + 6 ≤ n) (hn2 : n ≤ 3072) (hs : ∀ j : Int, 0 ≤ j → inI (sx j)) (hX : Rel cn X) (h : pair_4 Rel) : ∃ X2 : Mem, Rel (cn + 1) X2 ∧ W_law_4 n sx go i X = go (i + 6) X2 := by
  obtain ⟨r, X1, X2, e1, e2, hr, h2⟩ := h (sx (i + 1)) (sx (i + 2)) (lo (lshl (sx (i + 3)) 32) (la (sx (i + 4)) 4294967295)) (hs _ (by omega)) (hs _ (by omega)) (lo_J _ _) cn X hc hX
  refine ⟨X2, h2, ?_⟩
  unfold W_law_4
  rw [ax_ok (by omega) (by omega), ax_ok (by omega) (by omega), ax_ok (by omega) (by omega), c1_ok (hs _ (by omega)).1 (hs _ (by omega)).2, ax_ok (by omega) (by omega), c1_ok (hs _ (by omega)).1 (hs _ (by omega)).2, e1, cl_some, ax_ok (by omega) (by omega), ax_ok (by omega) (by omega), ax_ok (by omega) (by omega), c1_ok (hs _ (by omega)).1 (hs _ (by omega)).2, ax_ok (by omega) (by omega), c1_ok (hs _ (by omega)).1 (hs _ (by omega)).2, e2, cl_some, c2_ok hr.1 hr.2 hr.1 hr.2, if_pos rfl]
def pair_5 (Rel : Int → Mem → Prop) : Prop := ∀ a0 a1 : Int, inI a0 → inI a1 → PJ Rel (f_X11_read a0 a1) (f_X12_read a0 a1)
theorem w_5 {Rel : Int → Mem → Prop} {cn : Int} {n : Int} {sx : Int → Int} {go : Int → Mem → Option (Int × Mem)} {i : Int} {X : Mem} (hc : 0 ≤ cn ∧ cn ≤ 600) (hi : 0 ≤ i) (hn : i + 6 ≤ n) (hn2 : n ≤ 3072) (hs : ∀ j : Int, 0 ≤ j → inI (sx j)) (hX : Rel cn X) (h : pair_5 Rel) : ∃ X2 : Mem, Rel (cn + 1) X2 ∧ W_law_5 n sx go i X = go (i + 6) X2 := by
  obtain ⟨r, X1, X2, e1, e2, hr, h2⟩ := h (sx (i + 1)) (sx (i + 2)) (hs _ (by omega)) (hs _ (by omega)) cn X hc hX
  refine ⟨X2, h2, ?_⟩
  unfold W_law_5
  rw [ax_ok (by omega) (by omega), ax_ok (by omega) (by omega), e1, cl_some, ax_ok (by omega) (by omega), ax_ok (by omega) (by omega), e2, cl_some, d2_ok hr.1 hr.2 hr.1 hr.2, if_pos rfl]
def pair_6 (Rel : Int → Mem → Prop) : Prop := ∀ a0 a1 a2 a3 a4 : Int, inI a0 → inI a1 → inI a2 → inI a3 → inI a4 → PI Rel (f_X11_pour a0 a1 a2 a3 a4) (f_X12_pour a0 a1 a2 a3 a4)
theorem w_6 {Rel : Int → Mem → Prop} {cn : Int} {n : Int} {sx : Int → Int} {go : Int → Mem → Option (Int × Mem)} {i : Int} {X : Mem} (hc : 0 ≤ cn ∧ cn ≤ 600) (hi : 0 ≤ i) (hn : i + 6 ≤ n) (hn2 : n ≤ 3072) (hs : ∀ j : Int, 0 ≤ j → inI (sx j)) (hX : Rel cn X) (h : pair_6 Rel) : ∃ X2 : Mem, Rel (cn + 1) X2 ∧ W_law_6 n sx go i X = go (i + 6) X2 := by
  obtain ⟨r, X1, X2, e1, e2, hr, h2⟩ := h (sx (i + 1)) (sx (i + 2)) (sx (i + 3)) (sx (i + 4)) (sx (i + 5)) (hs _ (by omega)) (hs _ (by omega)) (hs _ (by omega)) (hs _ (by omega)) (hs _ (by omega)) cn X hc hX
  refine ⟨X2, h2, ?_⟩
  unfold W_law_6
  rw [ax_ok (by omega) (by omega), ax_ok (by omega) (by omega), ax_ok (by omega) (by omega), ax_ok (by omega) (by omega), ax_ok (by omega) (by omega), e1, cl_some, ax_ok (by omega) (by omega), ax_ok (by omega) (by omega), ax_ok (by omega) (by omega), ax_ok (by omega) (by omega), ax_ok (by omega) (by omega), e2, cl_some, c2_ok hr.1 hr.2 hr.1 hr.2, if_pos rfl]
def pair_7 (Rel : Int → Mem → Prop) : Prop := ∀ a0 a1 a2 a3 a4 : Int, inI a0 → inI a1 → inI a2 → inI a3 → inI a4 → PI Rel (f_X11_feed a0 a1 a2 a3 a4) (f_X12_feed a0 a1 a2 a3 a4)
theorem w_7 {Rel : Int → Mem → Prop} {cn : Int} {n : Int} {sx : Int → Int} {go : Int → Mem → Option (Int × Mem)} {i : Int} {X : Mem} (hc : 0 ≤ cn ∧ cn ≤ 600) (hi : 0 ≤ i) (hn : i + 6 ≤ n) (hn2 : n ≤ 3072) (hs : ∀ j : Int, 0 ≤ j → inI (sx j)) (hX : Rel cn X) (h : pair_7 Rel) : ∃ X2 : Mem, Rel (cn + 1) X2 ∧ W_law_7 n sx go i X = go (i + 6) X2 := by
  obtain ⟨r, X1, X2, e1, e2, hr, h2⟩ := h (sx (i + 1)) (sx (i + 2)) (sx (i + 3)) (sx (i + 4)) (sx (i + 5)) (hs _ (by omega)) (hs _ (by omega)) (hs _ (by omega)) (hs _ (by omega)) (hs _ (by omega)) cn X hc hX
  refine ⟨X2, h2, ?_⟩
  unfold W_law_7
  rw [ax_ok (by omega) (by omega), ax_ok (by omega) (by omega), ax_ok (by omega) (by omega), ax_ok (by omega) (by omega), ax_ok (by omega) (by omega), e1, cl_some, ax_ok (by omega) (by omega), ax_ok (by omega) (by omega), ax_ok (by omega) (by omega), ax_ok (by omega) (by omega), ax_ok (by omega) (by omega), e2, cl_some, c2_ok hr.1 hr.2 hr.1 hr.2, if_pos rfl]
def pair_8 (Rel : Int → Mem → Prop) : Prop := ∀ a0 : Int, inI a0 → PI Rel (f_X11_river a0) (f_X12_river a0)
theorem w_8 {Rel : Int → Mem → Prop} {cn : Int} {n : Int} {sx : Int → Int} {go : Int → Mem → Option (Int × Mem)} {i : Int} {X : Mem} (hc : 0 ≤ cn ∧ cn ≤ 600) (hi : 0 ≤ i) (hn : i + 6 ≤ n) (hn2 : n ≤ 3072) (hs : ∀ j : Int, 0 ≤ j → inI (sx j)) (hX : Rel cn X) (h : pair_8 Rel) : ∃ X2 : Mem, Rel (cn + 1) X2 ∧ W_law_8 n sx go i X = go (i + 6) X2 := by
  obtain ⟨r, X1, X2, e1, e2, hr, h2⟩ := h (sx (i + 1)) (hs _ (by omega)) cn X hc hX
  refine ⟨X2, h2, ?_⟩
  unfold W_law_8
  rw [ax_ok (by omega) (by omega), e1, cl_some, ax_ok (by omega) (by omega), e2, cl_some, c2_ok hr.1 hr.2 hr.1 hr.2, if_pos rfl]
def pair_9 (Rel : Int → Mem → Prop) : Prop := ∀ a0 : Int, inI a0 → PI Rel (f_X11_rule a0) (f_X12_rule a0)
theorem w_9 {Rel : Int → Mem → Prop} {cn : Int} {n : Int} {sx : Int → Int} {go : Int → Mem → Option (Int × Mem)} {i : Int} {X : Mem} (hc : 0 ≤ cn ∧ cn ≤ 600) (hi : 0 ≤ i) (hn : i + 6 ≤ n) (hn2 : n ≤ 3072) (hs : ∀ j : Int, 0 ≤ j → inI (sx j)) (hX : Rel cn X) (h : pair_9 Rel) : ∃ X2 : Mem, Rel (cn + 1) X2 ∧ W_law_9 n sx go i X = go (i + 6) X2 := by
  obtain ⟨r, X1, X2, e1, e2, hr, h2⟩ := h (sx (i + 1)) (hs _ (by omega)) cn X hc hX
  refine ⟨X2, h2, ?_⟩
  unfold W_law_9
  rw [ax_ok (by omega) (by omega), e1, cl_some, ax_ok (by omega) (by omega), e2, cl_some, c2_ok hr.1 hr.2 hr.1 hr.2, if_pos rfl]
def pair_10 (Rel : Int → Mem → Prop) : Prop := ∀ a0 : Int, inI a0 → PI Rel (f_X11_fault a0) (f_X12_fault a0)
theorem w_10 {Rel : Int → Mem → Prop} {cn : Int} {n : Int} {sx : Int → Int} {go : Int → Mem → Option (Int × Mem)} {i : Int} {X : Mem} (hc : 0 ≤ cn ∧ cn ≤ 600) (hi : 0 ≤ i) (hn : i + 6 ≤ n) (hn2 : n ≤ 3072) (hs : ∀ j : Int, 0 ≤ j → inI (sx j)) (hX : Rel cn X) (h : pair_10 Rel) : ∃ X2 : Mem, Rel (cn + 1) X2 ∧ W_law_10 n sx go i X = go (i + 6) X2 := by
  obtain ⟨r, X1, X2, e1, e2, hr, h2⟩ := h (sx (i + 1)) (hs _ (by omega)) cn X hc hX
  refine ⟨X2, h2, ?_⟩
  unfold W_law_10
  rw [ax_ok (by omega) (by omega), e1, cl_some, ax_ok (by omega) (by omega), e2, cl_some, c2_ok hr.1 hr.2 hr.1 hr.2, if_pos rfl]
def pair_11 (Rel : Int → Mem → Prop) : Prop := ∀ a0 : Int, inI a0 → PI Rel (f_X11_told a0) (f_X12_told a0)
theorem w_11 {Rel : Int → Mem → Prop} {cn : Int} {n : Int} {sx : Int → Int} {go : Int → Mem → Option (Int × Mem)} {i : Int} {X : Mem} (hc : 0 ≤ cn ∧ cn ≤ 600) (hi : 0 ≤ i) (hn : i + 6 ≤ n) (hn2 : n ≤ 3072) (hs : ∀ j : Int, 0 ≤ j → inI (sx j)) (hX : Rel cn X) (h : pair_11 Rel) : ∃ X2 : Mem, Rel (cn + 1) X2 ∧ W_law_11 n sx go i X = go (i + 6) X2 := by
  obtain ⟨r, X1, X2, e1, e2, hr, h2⟩ := h (sx (i + 1)) (hs _ (by omega)) cn X hc hX
  refine ⟨X2, h2, ?_⟩
  unfold W_law_11
  rw [ax_ok (by omega) (by omega), e1, cl_some, ax_ok (by omega) (by omega), e2, cl_some, c2_ok hr.1 hr.2 hr.1 hr.2, if_pos rfl]
def pair_12 (Rel : Int → Mem → Prop) : Prop := ∀ a0 a1 : Int, inI a0 → inI a1 → PI Rel (f_X11_bar a0 a1) (f_X12_bar a0 a1)
theorem w_12 {Rel : Int → Mem → Prop} {cn : Int} {n : Int} {sx : Int → Int} {go : Int → Mem → Option (Int × Mem)} {i : Int} {X : Mem} (hc : 0 ≤ cn ∧ cn ≤ 600) (hi : 0 ≤ i) (hn : i + 6 ≤ n) (hn2 : n ≤ 3072) (hs : ∀ j : Int, 0 ≤ j → inI (sx j)) (hX : Rel cn X) (h : pair_12 Rel) : ∃ X2 : Mem, Rel (cn + 1) X2 ∧ W_law_12 n sx go i X = go (i + 6) X2 := by
  obtain ⟨r, X1, X2, e1, e2, hr, h2⟩ := h (sx (i + 1)) (sx (i + 2)) (hs _ (by omega)) (hs _ (by omega)) cn X hc hX
  refine ⟨X2, h2, ?_⟩
  unfold W_law_12
  rw [ax_ok (by omega) (by omega), ax_ok (by omega) (by omega), e1, cl_some, ax_ok (by omega) (by omega), ax_ok (by omega) (by omega), e2, cl_some, c2_ok hr.1 hr.2 hr.1 hr.2, if_pos rfl]
def pair_13 (Rel : Int → Mem → Prop) : Prop := ∀ a0 : Int, inI a0 → PI Rel (f_X11_barOf a0) (f_X12_barOf a0)
theorem w_13 {Rel : Int → Mem → Prop} {cn : Int} {n : Int} {sx : Int → Int} {go : Int → Mem → Option (Int × Mem)} {i : Int} {X : Mem} (hc : 0 ≤ cn ∧ cn ≤ 600) (hi : 0 ≤ i) (hn : i + 6 ≤ n) (hn2 : n ≤ 3072) (hs : ∀ j : Int, 0 ≤ j → inI (sx j)) (hX : Rel cn X) (h : pair_13 Rel) : ∃ X2 : Mem, Rel (cn + 1) X2 ∧ W_law_13 n sx go i X = go (i + 6) X2 := by
  obtain ⟨r, X1, X2, e1, e2, hr, h2⟩ := h (sx (i + 1)) (hs _ (by omega)) cn X hc hX
  refine ⟨X2, h2, ?_⟩
  unfold W_law_13
  rw [ax_ok (by omega) (by omega), e1, cl_some, ax_ok (by omega) (by omega), e2, cl_some, c2_ok hr.1 hr.2 hr.1 hr.2, if_pos rfl]
def pair_14 (Rel : Int → Mem → Prop) : Prop := ∀ a0 : Int, inI a0 → PI Rel (f_X11_stage a0) (f_X12_stage a0)
theorem w_14 {Rel : Int → Mem → Prop} {cn : Int} {n : Int} {sx : Int → Int} {go : Int → Mem → Option (Int × Mem)} {i : Int} {X : Mem} (hc : 0 ≤ cn ∧ cn ≤ 600) (hi : 0 ≤ i) (hn : i + 6 ≤ n) (hn2 : n ≤ 3072) (hs : ∀ j : Int, 0 ≤ j → inI (sx j)) (hX : Rel cn X) (h : pair_14 Rel) : ∃ X2 : Mem, Rel (cn + 1) X2 ∧ W_law_14 n sx go i X = go (i + 6) X2 := by
  obtain ⟨r, X1, X2, e1, e2, hr, h2⟩ := h (sx (i + 1)) (hs _ (by omega)) cn X hc hX
  refine ⟨X2, h2, ?_⟩
  unfold W_law_14
  rw [ax_ok (by omega) (by omega), e1, cl_some, ax_ok (by omega) (by omega), e2, cl_some, c2_ok hr.1 hr.2 hr.1 hr.2, if_pos rfl]
def pair_15 (Rel : Int → Mem → Prop) : Prop := ∀ a0 a1 : Int, inI a0 → inI a1 → PI Rel (f_X11_depth a0 a1) (f_X12_depth a0 a1)
theorem w_15 {Rel : Int → Mem → Prop} {cn : Int} {n : Int} {sx : Int → Int} {go : Int → Mem → Option (Int × Mem)} {i : Int} {X : Mem} (hc : 0 ≤ cn ∧ cn ≤ 600) (hi : 0 ≤ i) (hn : i + 6 ≤ n) (hn2 : n ≤ 3072) (hs : ∀ j : Int, 0 ≤ j → inI (sx j)) (hX : Rel cn X) (h : pair_15 Rel) : ∃ X2 : Mem, Rel (cn + 1) X2 ∧ W_law_15 n sx go i X = go (i + 6) X2 := by
  obtain ⟨r, X1, X2, e1, e2, hr, h2⟩ := h (sx (i + 1)) (sx (i + 2)) (hs _ (by omega)) (hs _ (by omega)) cn X hc hX
  refine ⟨X2, h2, ?_⟩
  unfold W_law_15
  rw [ax_ok (by omega) (by omega), ax_ok (by omega) (by omega), e1, cl_some, ax_ok (by omega) (by omega), ax_ok (by omega) (by omega), e2, cl_some, c2_ok hr.1 hr.2 hr.1 hr.2, if_pos rfl]
def pair_16 (Rel : Int → Mem → Prop) : Prop := ∀ a0 : Int, inI a0 → PI Rel (f_X11_open a0) (f_X12_open a0)
theorem w_16 {Rel : Int → Mem → Prop} {cn : Int} {n : Int} {sx : Int → Int} {go : Int → Mem → Option (Int × Mem)} {i : Int} {X : Mem} (hc : 0 ≤ cn ∧ cn ≤ 600) (hi : 0 ≤ i) (hn : i + 6 ≤ n) (hn2 : n ≤ 3072) (hs : ∀ j : Int, 0 ≤ j → inI (sx j)) (hX : Rel cn X) (h : pair_16 Rel) : ∃ X2 : Mem, Rel (cn + 1) X2 ∧ W_law_16 n sx go i X = go (i + 6) X2 := by
  obtain ⟨r, X1, X2, e1, e2, hr, h2⟩ := h (sx (i + 1)) (hs _ (by omega)) cn X hc hX
  refine ⟨X2, h2, ?_⟩
  unfold W_law_16
  rw [ax_ok (by omega) (by omega), e1, cl_some, ax_ok (by omega) (by omega), e2, cl_some, c2_ok hr.1 hr.2 hr.1 hr.2, if_pos rfl]
def pair_17 (Rel : Int → Mem → Prop) : Prop := ∀ a0 : Int, inI a0 → PI Rel (f_X11_part a0) (f_X12_part a0)
theorem w_17 {Rel : Int → Mem → Prop} {cn : Int} {n : Int} {sx : Int → Int} {go : Int → Mem → Option (Int × Mem)} {i : Int} {X : Mem} (hc : 0 ≤ cn ∧ cn ≤ 600) (hi : 0 ≤ i) (hn : i + 6 ≤ n) (hn2 : n ≤ 3072) (hs : ∀ j : Int, 0 ≤ j → inI (sx j)) (hX : Rel cn X) (h : pair_17 Rel) : ∃ X2 : Mem, Rel (cn + 1) X2 ∧ W_law_17 n sx go i X = go (i + 6) X2 := by
  obtain ⟨r, X1, X2, e1, e2, hr, h2⟩ := h (sx (i + 1)) (hs _ (by omega)) cn X hc hX
  refine ⟨X2, h2, ?_⟩
  unfold W_law_17
  rw [ax_ok (by omega) (by omega), e1, cl_some, ax_ok (by omega) (by omega), e2, cl_some, c2_ok hr.1 hr.2 hr.1 hr.2, if_pos rfl]
def pair_18 (Rel : Int → Mem → Prop) : Prop := ∀ a0 : Int, inI a0 → PI Rel (f_X11_there a0) (f_X12_there a0)
theorem w_18 {Rel : Int → Mem → Prop} {cn : Int} {n : Int} {sx : Int → Int} {go : Int → Mem → Option (Int × Mem)} {i : Int} {X : Mem} (hc : 0 ≤ cn ∧ cn ≤ 600) (hi : 0 ≤ i) (hn : i + 6 ≤ n) (hn2 : n ≤ 3072) (hs : ∀ j : Int, 0 ≤ j → inI (sx j)) (hX : Rel cn X) (h : pair_18 Rel) : ∃ X2 : Mem, Rel (cn + 1) X2 ∧ W_law_18 n sx go i X = go (i + 6) X2 := by
  obtain ⟨r, X1, X2, e1, e2, hr, h2⟩ := h (sx (i + 1)) (hs _ (by omega)) cn X hc hX
  refine ⟨X2, h2, ?_⟩
  unfold W_law_18
  rw [ax_ok (by omega) (by omega), e1, cl_some, ax_ok (by omega) (by omega), e2, cl_some, c2_ok hr.1 hr.2 hr.1 hr.2, if_pos rfl]
def pair_19 (Rel : Int → Mem → Prop) : Prop := ∀ a0 : Int, inI a0 → PI Rel (f_X11_chance a0) (f_X12_chance a0)
theorem w_19 {Rel : Int → Mem → Prop} {cn : Int} {n : Int} {sx : Int → Int} {go : Int → Mem → Option (Int × Mem)} {i : Int} {X : Mem} (hc : 0 ≤ cn ∧ cn ≤ 600) (hi : 0 ≤ i) (hn : i + 6 ≤ n) (hn2 : n ≤ 3072) (hs : ∀ j : Int, 0 ≤ j → inI (sx j)) (hX : Rel cn X) (h : pair_19 Rel) : ∃ X2 : Mem, Rel (cn + 1) X2 ∧ W_law_19 n sx go i X = go (i + 6) X2 := by
  obtain ⟨r, X1, X2, e1, e2, hr, h2⟩ := h (sx (i + 1)) (hs _ (by omega)) cn X hc hX
  refine ⟨X2, h2, ?_⟩
  unfold W_law_19
  rw [ax_ok (by omega) (by omega), e1, cl_some, ax_ok (by omega) (by omega), e2, cl_some, c2_ok hr.1 hr.2 hr.1 hr.2, if_pos rfl]
def pair_20 (Rel : Int → Mem → Prop) : Prop := ∀ a0 : Int, inI a0 → PI Rel (f_X11_pass a0) (f_X12_pass a0)
theorem w_20 {Rel : Int → Mem → Prop} {cn : Int} {n : Int} {sx : Int → Int} {go : Int → Mem → Option (Int × Mem)} {i : Int} {X : Mem} (hc : 0 ≤ cn ∧ cn ≤ 600) (hi : 0 ≤ i) (hn : i + 6 ≤ n) (hn2 : n ≤ 3072) (hs : ∀ j : Int, 0 ≤ j → inI (sx j)) (hX : Rel cn X) (h : pair_20 Rel) : ∃ X2 : Mem, Rel (cn + 1) X2 ∧ W_law_20 n sx go i X = go (i + 6) X2 := by
  obtain ⟨r, X1, X2, e1, e2, hr, h2⟩ := h (sx (i + 1)) (hs _ (by omega)) cn X hc hX
  refine ⟨X2, h2, ?_⟩
  unfold W_law_20
  rw [ax_ok (by omega) (by omega), e1, cl_some, ax_ok (by omega) (by omega), e2, cl_some, c2_ok hr.1 hr.2 hr.1 hr.2, if_pos rfl]
def pair_21 (Rel : Int → Mem → Prop) : Prop := ∀ a0 a1 : Int, inI a0 → inI a1 → PI Rel (f_X11_sound a0 a1) (f_X12_sound a0 a1)
theorem w_21 {Rel : Int → Mem → Prop} {cn : Int} {n : Int} {sx : Int → Int} {go : Int → Mem → Option (Int × Mem)} {i : Int} {X : Mem} (hc : 0 ≤ cn ∧ cn ≤ 600) (hi : 0 ≤ i) (hn : i + 6 ≤ n) (hn2 : n ≤ 3072) (hs : ∀ j : Int, 0 ≤ j → inI (sx j)) (hX : Rel cn X) (h : pair_21 Rel) : ∃ X2 : Mem, Rel (cn + 1) X2 ∧ W_law_21 n sx go i X = go (i + 6) X2 := by
  obtain ⟨r, X1, X2, e1, e2, hr, h2⟩ := h (sx (i + 1)) (sx (i + 2)) (hs _ (by omega)) (hs _ (by omega)) cn X hc hX
  refine ⟨X2, h2, ?_⟩
  unfold W_law_21
  rw [ax_ok (by omega) (by omega), ax_ok (by omega) (by omega), e1, cl_some, ax_ok (by omega) (by omega), ax_ok (by omega) (by omega), e2, cl_some, c2_ok hr.1 hr.2 hr.1 hr.2, if_pos rfl]
def pair_22 (Rel : Int → Mem → Prop) : Prop := ∀ a0 a1 : Int, inI a0 → (a1 = 0 ∨ a1 = 1) → PI Rel (f_X11_colour a0 a1) (f_X12_colour a0 a1)
theorem w_22 {Rel : Int → Mem → Prop} {cn : Int} {n : Int} {sx : Int → Int} {go : Int → Mem → Option (Int × Mem)} {i : Int} {X : Mem} (hc : 0 ≤ cn ∧ cn ≤ 600) (hi : 0 ≤ i) (hn : i + 6 ≤ n) (hn2 : n ≤ 3072) (hs : ∀ j : Int, 0 ≤ j → inI (sx j)) (hX : Rel cn X) (h : pair_22 Rel) : ∃ X2 : Mem, Rel (cn + 1) X2 ∧ W_law_22 n sx go i X = go (i + 6) X2 := by
  have hq := hs (i + 2) (by omega)
  unfold W_law_22
  by_cases e : sx (i + 2) = 0
  · obtain ⟨r, X1, X2, e1, e2, hr, h2⟩ := h (sx (i + 1)) 0 (hs _ (by omega)) (Or.inl rfl) cn X hc hX
    refine ⟨X2, h2, ?_⟩
    rw [ax_ok (by omega) (by omega), ax_ok (by omega) (by omega), c1_ok hq.1 hq.2, if_pos e, e1, cl_some, ax_ok (by omega) (by omega), ax_ok (by omega) (by omega), c1_ok hq.1 hq.2, if_pos e, e2, cl_some, c2_ok hr.1 hr.2 hr.1 hr.2, if_pos rfl]
  · obtain ⟨r, X1, X2, e1, e2, hr, h2⟩ := h (sx (i + 1)) 1 (hs _ (by omega)) (Or.inr rfl) cn X hc hX
    refine ⟨X2, h2, ?_⟩
    rw [ax_ok (by omega) (by omega), ax_ok (by omega) (by omega), c1_ok hq.1 hq.2, if_neg e, e1, cl_some, ax_ok (by omega) (by omega), ax_ok (by omega) (by omega), c1_ok hq.1 hq.2, if_neg e, e2, cl_some, c2_ok hr.1 hr.2 hr.1 hr.2, if_pos rfl]
def pair_23 (Rel : Int → Mem → Prop) : Prop := ∀ a0 : Int, inI a0 → PI Rel (f_X11_off a0) (f_X12_off a0)
theorem w_23 {Rel : Int → Mem → Prop} {cn : Int} {n : Int} {sx : Int → Int} {go : Int → Mem → Option (Int × Mem)} {i : Int} {X : Mem} (hc : 0 ≤ cn ∧ cn ≤ 600) (hi : 0 ≤ i) (hn : i + 6 ≤ n) (hn2 : n ≤ 3072) (hs : ∀ j : Int, 0 ≤ j → inI (sx j)) (hX : Rel cn X) (h : pair_23 Rel) : ∃ X2 : Mem, Rel (cn + 1) X2 ∧ W_law_23 n sx go i X = go (i + 6) X2 := by
  obtain ⟨r, X1, X2, e1, e2, hr, h2⟩ := h (sx (i + 1)) (hs _ (by omega)) cn X hc hX
  refine ⟨X2, h2, ?_⟩
  unfold W_law_23
  rw [ax_ok (by omega) (by omega), e1, cl_some, ax_ok (by omega) (by omega), e2, cl_some, c2_ok hr.1 hr.2 hr.1 hr.2, if_pos rfl]
def pair_24 (Rel : Int → Mem → Prop) : Prop := PI Rel f_X11_forget f_X12_forget
theorem w_24 {Rel : Int → Mem → Prop} {cn : Int} {n : Int} {sx : Int → Int} {go : Int → Mem → Option (Int × Mem)} {i : Int} {X : Mem} (hc : 0 ≤ cn ∧ cn ≤ 600) (hi : 0 ≤ i) (hn : i + 6 ≤ n) (hn2 : n ≤ 3072) (hs : ∀ j : Int, 0 ≤ j → inI (sx j)) (hX : Rel cn X) (h : pair_24 Rel) : ∃ X2 : Mem, Rel (cn + 1) X2 ∧ W_law_24 n sx go i X = go (i + 6) X2 := by
  obtain ⟨r, X1, X2, e1, e2, hr, h2⟩ := h   cn X hc hX
  refine ⟨X2, h2, ?_⟩
  unfold W_law_24
  rw [e1, cl_some, e2, cl_some, c2_ok hr.1 hr.2 hr.1 hr.2, if_pos rfl]
def pair_25 (Rel : Int → Mem → Prop) : Prop := ∀ a0 a1 : Int, inI a0 → inI a1 → PI Rel (f_X11_minutes a0 a1) (f_X12_minutes a0 a1)
theorem w_25 {Rel : Int → Mem → Prop} {cn : Int} {n : Int} {sx : Int → Int} {go : Int → Mem → Option (Int × Mem)} {i : Int} {X : Mem} (hc : 0 ≤ cn ∧ cn ≤ 600) (hi : 0 ≤ i) (hn : i + 6 ≤ n) (hn2 : n ≤ 3072) (hs : ∀ j : Int, 0 ≤ j → inI (sx j)) (hX : Rel cn X) (h : pair_25 Rel) : ∃ X2 : Mem, Rel (cn + 1) X2 ∧ W_law_25 n sx go i X = go (i + 6) X2 := by
  obtain ⟨r, X1, X2, e1, e2, hr, h2⟩ := h (sx (i + 1)) (sx (i + 2)) (hs _ (by omega)) (hs _ (by omega)) cn X hc hX
  refine ⟨X2, h2, ?_⟩
  unfold W_law_25
  rw [ax_ok (by omega) (by omega), ax_ok (by omega) (by omega), e1, cl_some, ax_ok (by omega) (by omega), ax_ok (by omega) (by omega), e2, cl_some, c2_ok hr.1 hr.2 hr.1 hr.2, if_pos rfl]
def pair_26 (Rel : Int → Mem → Prop) : Prop := ∀ a0 a1 a2 : Int, inI a0 → inI a1 → inI a2 → PI Rel (f_X11_struck a0 a1 a2) (f_X12_struck a0 a1 a2)
theorem w_26 {Rel : Int → Mem → Prop} {cn : Int} {n : Int} {sx : Int → Int} {go : Int → Mem → Option (Int × Mem)} {i : Int} {X : Mem} (hc : 0 ≤ cn ∧ cn ≤ 600) (hi : 0 ≤ i) (hn : i + 6 ≤ n) (hn2 : n ≤ 3072) (hs : ∀ j : Int, 0 ≤ j → inI (sx j)) (hX : Rel cn X) (h : pair_26 Rel) : ∃ X2 : Mem, Rel (cn + 1) X2 ∧ W_law_26 n sx go i X = go (i + 6) X2 := by
  obtain ⟨r, X1, X2, e1, e2, hr, h2⟩ := h (sx (i + 1)) (sx (i + 2)) (sx (i + 3)) (hs _ (by omega)) (hs _ (by omega)) (hs _ (by omega)) cn X hc hX
  refine ⟨X2, h2, ?_⟩
  unfold W_law_26
  rw [ax_ok (by omega) (by omega), ax_ok (by omega) (by omega), ax_ok (by omega) (by omega), e1, cl_some, ax_ok (by omega) (by omega), ax_ok (by omega) (by omega), ax_ok (by omega) (by omega), e2, cl_some, c2_ok hr.1 hr.2 hr.1 hr.2, if_pos rfl]
def pair_27 (Rel : Int → Mem → Prop) : Prop := ∀ a0 a1 : Int, inI a0 → inI a1 → PI Rel (f_X11_sure a0 a1) (f_X12_sure a0 a1)
theorem w_27 {Rel : Int → Mem → Prop} {cn : Int} {n : Int} {sx : Int → Int} {go : Int → Mem → Option (Int × Mem)} {i : Int} {X : Mem} (hc : 0 ≤ cn ∧ cn ≤ 600) (hi : 0 ≤ i) (hn : i + 6 ≤ n) (hn2 : n ≤ 3072) (hs : ∀ j : Int, 0 ≤ j → inI (sx j)) (hX : Rel cn X) (h : pair_27 Rel) : ∃ X2 : Mem, Rel (cn + 1) X2 ∧ W_law_27 n sx go i X = go (i + 6) X2 := by
  obtain ⟨r, X1, X2, e1, e2, hr, h2⟩ := h (sx (i + 1)) (sx (i + 2)) (hs _ (by omega)) (hs _ (by omega)) cn X hc hX
  refine ⟨X2, h2, ?_⟩
  unfold W_law_27
  rw [ax_ok (by omega) (by omega), ax_ok (by omega) (by omega), e1, cl_some, ax_ok (by omega) (by omega), ax_ok (by omega) (by omega), e2, cl_some, c2_ok hr.1 hr.2 hr.1 hr.2, if_pos rfl]
def pair_28 (Rel : Int → Mem → Prop) : Prop := ∀ a0 a1 a2 : Int, inI a0 → inI a1 → inI a2 → PI Rel (f_X11_soonest a0 a1 a2) (f_X12_soonest a0 a1 a2)
theorem w_28 {Rel : Int → Mem → Prop} {cn : Int} {n : Int} {sx : Int → Int} {go : Int → Mem → Option (Int × Mem)} {i : Int} {X : Mem} (hc : 0 ≤ cn ∧ cn ≤ 600) (hi : 0 ≤ i) (hn : i + 6 ≤ n) (hn2 : n ≤ 3072) (hs : ∀ j : Int, 0 ≤ j → inI (sx j)) (hX : Rel cn X) (h : pair_28 Rel) : ∃ X2 : Mem, Rel (cn + 1) X2 ∧ W_law_28 n sx go i X = go (i + 6) X2 := by
  obtain ⟨r, X1, X2, e1, e2, hr, h2⟩ := h (sx (i + 1)) (sx (i + 2)) (sx (i + 3)) (hs _ (by omega)) (hs _ (by omega)) (hs _ (by omega)) cn X hc hX
  refine ⟨X2, h2, ?_⟩
  unfold W_law_28
  rw [ax_ok (by omega) (by omega), ax_ok (by omega) (by omega), ax_ok (by omega) (by omega), e1, cl_some, ax_ok (by omega) (by omega), ax_ok (by omega) (by omega), ax_ok (by omega) (by omega), e2, cl_some, c2_ok hr.1 hr.2 hr.1 hr.2, if_pos rfl]
def pair_29 (Rel : Int → Mem → Prop) : Prop := ∀ a0 a1 : Int, inI a0 → inI a1 → PI Rel (f_X11_surest a0 a1) (f_X12_surest a0 a1)
theorem w_29 {Rel : Int → Mem → Prop} {cn : Int} {n : Int} {sx : Int → Int} {go : Int → Mem → Option (Int × Mem)} {i : Int} {X : Mem} (hc : 0 ≤ cn ∧ cn ≤ 600) (hi : 0 ≤ i) (hn : i + 6 ≤ n) (hn2 : n ≤ 3072) (hs : ∀ j : Int, 0 ≤ j → inI (sx j)) (hX : Rel cn X) (h : pair_29 Rel) : ∃ X2 : Mem, Rel (cn + 1) X2 ∧ W_law_29 n sx go i X = go (i + 6) X2 := by
  obtain ⟨r, X1, X2, e1, e2, hr, h2⟩ := h (sx (i + 1)) (sx (i + 2)) (hs _ (by omega)) (hs _ (by omega)) cn X hc hX
  refine ⟨X2, h2, ?_⟩
  unfold W_law_29
  rw [ax_ok (by omega) (by omega), ax_ok (by omega) (by omega), e1, cl_some, ax_ok (by omega) (by omega), ax_ok (by omega) (by omega), e2, cl_some, c2_ok hr.1 hr.2 hr.1 hr.2, if_pos rfl]
def pair_30 (Rel : Int → Mem → Prop) : Prop := ∀ a0 a1 : Int, inI a0 → inI a1 → PI Rel (f_X11_mean a0 a1) (f_X12_mean a0 a1)
theorem w_30 {Rel : Int → Mem → Prop} {cn : Int} {n : Int} {sx : Int → Int} {go : Int → Mem → Option (Int × Mem)} {i : Int} {X : Mem} (hc : 0 ≤ cn ∧ cn ≤ 600) (hi : 0 ≤ i) (hn : i + 6 ≤ n) (hn2 : n ≤ 3072) (hs : ∀ j : Int, 0 ≤ j → inI (sx j)) (hX : Rel cn X) (h : pair_30 Rel) : ∃ X2 : Mem, Rel (cn + 1) X2 ∧ W_law_30 n sx go i X = go (i + 6) X2 := by
  obtain ⟨r, X1, X2, e1, e2, hr, h2⟩ := h (sx (i + 1)) (sx (i + 2)) (hs _ (by omega)) (hs _ (by omega)) cn X hc hX
  refine ⟨X2, h2, ?_⟩
  unfold W_law_30
  rw [ax_ok (by omega) (by omega), ax_ok (by omega) (by omega), e1, cl_some, ax_ok (by omega) (by omega), ax_ok (by omega) (by omega), e2, cl_some, c2_ok hr.1 hr.2 hr.1 hr.2, if_pos rfl]
def pair_31 (Rel : Int → Mem → Prop) : Prop := PI Rel f_X11_length f_X12_length
theorem w_31 {Rel : Int → Mem → Prop} {cn : Int} {n : Int} {sx : Int → Int} {go : Int → Mem → Option (Int × Mem)} {i : Int} {X : Mem} (hc : 0 ≤ cn ∧ cn ≤ 600) (hi : 0 ≤ i) (hn : i + 6 ≤ n) (hn2 : n ≤ 3072) (hs : ∀ j : Int, 0 ≤ j → inI (sx j)) (hX : Rel cn X) (h : pair_31 Rel) : ∃ X2 : Mem, Rel (cn + 1) X2 ∧ W_law_31 n sx go i X = go (i + 6) X2 := by
  obtain ⟨r, X1, X2, e1, e2, hr, h2⟩ := h   cn X hc hX
  refine ⟨X2, h2, ?_⟩
  unfold W_law_31
  rw [e1, cl_some, e2, cl_some, c2_ok hr.1 hr.2 hr.1 hr.2, if_pos rfl]
def pair_32 (Rel : Int → Mem → Prop) : Prop := ∀ a0 : Int, inI a0 → PI Rel (f_X11_way a0) (f_X12_way a0)
theorem w_32 {Rel : Int → Mem → Prop} {cn : Int} {n : Int} {sx : Int → Int} {go : Int → Mem → Option (Int × Mem)} {i : Int} {X : Mem} (hc : 0 ≤ cn ∧ cn ≤ 600) (hi : 0 ≤ i) (hn : i + 6 ≤ n) (hn2 : n ≤ 3072) (hs : ∀ j : Int, 0 ≤ j → inI (sx j)) (hX : Rel cn X) (h : pair_32 Rel) : ∃ X2 : Mem, Rel (cn + 1) X2 ∧ W_law_32 n sx go i X = go (i + 6) X2 := by
  obtain ⟨r, X1, X2, e1, e2, hr, h2⟩ := h (sx (i + 1)) (hs _ (by omega)) cn X hc hX
  refine ⟨X2, h2, ?_⟩
  unfold W_law_32
  rw [ax_ok (by omega) (by omega), e1, cl_some, ax_ok (by omega) (by omega), e2, cl_some, c2_ok hr.1 hr.2 hr.1 hr.2, if_pos rfl]
def pair_33 (Rel : Int → Mem → Prop) : Prop := ∀ a0 a1 a2 : Int, inI a0 → inI a1 → inI a2 → PI Rel (f_X11_worth a0 a1 a2) (f_X12_worth a0 a1 a2)
theorem w_33 {Rel : Int → Mem → Prop} {cn : Int} {n : Int} {sx : Int → Int} {go : Int → Mem → Option (Int × Mem)} {i : Int} {X : Mem} (hc : 0 ≤ cn ∧ cn ≤ 600) (hi : 0 ≤ i) (hn : i + 6 ≤ n) (hn2 : n ≤ 3072) (hs : ∀ j : Int, 0 ≤ j → inI (sx j)) (hX : Rel cn X) (h : pair_33 Rel) : ∃ X2 : Mem, Rel (cn + 1) X2 ∧ W_law_33 n sx go i X = go (i + 6) X2 := by
  obtain ⟨r, X1, X2, e1, e2, hr, h2⟩ := h (sx (i + 1)) (sx (i + 2)) (sx (i + 3)) (hs _ (by omega)) (hs _ (by omega)) (hs _ (by omega)) cn X hc hX
  refine ⟨X2, h2, ?_⟩
  unfold W_law_33
  rw [ax_ok (by omega) (by omega), ax_ok (by omega) (by omega), ax_ok (by omega) (by omega), e1, cl_some, ax_ok (by omega) (by omega), ax_ok (by omega) (by omega), ax_ok (by omega) (by omega), e2, cl_some, c2_ok hr.1 hr.2 hr.1 hr.2, if_pos rfl]
def pair_34 (Rel : Int → Mem → Prop) : Prop := ∀ a0 a1 a2 : Int, inI a0 → inI a1 → inI a2 → PI Rel (f_X11_next a0 a1 a2) (f_X12_next a0 a1 a2)
theorem w_34 {Rel : Int → Mem → Prop} {cn : Int} {n : Int} {sx : Int → Int} {go : Int → Mem → Option (Int × Mem)} {i : Int} {X : Mem} (hc : 0 ≤ cn ∧ cn ≤ 600) (hi : 0 ≤ i) (hn : i + 6 ≤ n) (hn2 : n ≤ 3072) (hs : ∀ j : Int, 0 ≤ j → inI (sx j)) (hX : Rel cn X) (h : pair_34 Rel) : ∃ X2 : Mem, Rel (cn + 1) X2 ∧ W_law_34 n sx go i X = go (i + 6) X2 := by
  obtain ⟨r, X1, X2, e1, e2, hr, h2⟩ := h (sx (i + 1)) (sx (i + 2)) (sx (i + 3)) (hs _ (by omega)) (hs _ (by omega)) (hs _ (by omega)) cn X hc hX
  refine ⟨X2, h2, ?_⟩
  unfold W_law_34
  rw [ax_ok (by omega) (by omega), ax_ok (by omega) (by omega), ax_ok (by omega) (by omega), e1, cl_some, ax_ok (by omega) (by omega), ax_ok (by omega) (by omega), ax_ok (by omega) (by omega), e2, cl_some, c2_ok hr.1 hr.2 hr.1 hr.2, if_pos rfl]
def pair_35 (Rel : Int → Mem → Prop) : Prop := ∀ a0 a1 a2 a3 : Int, inI a0 → inI a1 → inI a2 → inI a3 → PI Rel (f_X11_lieTo a0 a1 a2 a3) (f_X12_lieTo a0 a1 a2 a3)
theorem w_35 {Rel : Int → Mem → Prop} {cn : Int} {n : Int} {sx : Int → Int} {go : Int → Mem → Option (Int × Mem)} {i : Int} {X : Mem} (hc : 0 ≤ cn ∧ cn ≤ 600) (hi : 0 ≤ i) (hn : i + 6 ≤ n) (hn2 : n ≤ 3072) (hs : ∀ j : Int, 0 ≤ j → inI (sx j)) (hX : Rel cn X) (h : pair_35 Rel) : ∃ X2 : Mem, Rel (cn + 1) X2 ∧ W_law_35 n sx go i X = go (i + 6) X2 := by
  obtain ⟨r, X1, X2, e1, e2, hr, h2⟩ := h (sx (i + 1)) (sx (i + 2)) (sx (i + 3)) (sx (i + 4)) (hs _ (by omega)) (hs _ (by omega)) (hs _ (by omega)) (hs _ (by omega)) cn X hc hX
  refine ⟨X2, h2, ?_⟩
  unfold W_law_35
  rw [ax_ok (by omega) (by omega), ax_ok (by omega) (by omega), ax_ok (by omega) (by omega), ax_ok (by omega) (by omega), e1, cl_some, ax_ok (by omega) (by omega), ax_ok (by omega) (by omega), ax_ok (by omega) (by omega), ax_ok (by omega) (by omega), e2, cl_some, c2_ok hr.1 hr.2 hr.1 hr.2, if_pos rfl]
def pair_36 (Rel : Int → Mem → Prop) : Prop := ∀ a0 a1 a2 : Int, inI a0 → inI a1 → inI a2 → PI Rel (f_X11_marked a0 a1 a2) (f_X12_marked a0 a1 a2)
theorem w_36 {Rel : Int → Mem → Prop} {cn : Int} {n : Int} {sx : Int → Int} {go : Int → Mem → Option (Int × Mem)} {i : Int} {X : Mem} (hc : 0 ≤ cn ∧ cn ≤ 600) (hi : 0 ≤ i) (hn : i + 6 ≤ n) (hn2 : n ≤ 3072) (hs : ∀ j : Int, 0 ≤ j → inI (sx j)) (hX : Rel cn X) (h : pair_36 Rel) : ∃ X2 : Mem, Rel (cn + 1) X2 ∧ W_law_36 n sx go i X = go (i + 6) X2 := by
  obtain ⟨r, X1, X2, e1, e2, hr, h2⟩ := h (sx (i + 1)) (sx (i + 2)) (sx (i + 3)) (hs _ (by omega)) (hs _ (by omega)) (hs _ (by omega)) cn X hc hX
  refine ⟨X2, h2, ?_⟩
  unfold W_law_36
  rw [ax_ok (by omega) (by omega), ax_ok (by omega) (by omega), ax_ok (by omega) (by omega), e1, cl_some, ax_ok (by omega) (by omega), ax_ok (by omega) (by omega), ax_ok (by omega) (by omega), e2, cl_some, c2_ok hr.1 hr.2 hr.1 hr.2, if_pos rfl]
def pair_37 (Rel : Int → Mem → Prop) : Prop := ∀ a0 a1 : Int, inI a0 → inI a1 → PI Rel (f_X11_tells a0 a1) (f_X12_tells a0 a1)
theorem w_37 {Rel : Int → Mem → Prop} {cn : Int} {n : Int} {sx : Int → Int} {go : Int → Mem → Option (Int × Mem)} {i : Int} {X : Mem} (hc : 0 ≤ cn ∧ cn ≤ 600) (hi : 0 ≤ i) (hn : i + 6 ≤ n) (hn2 : n ≤ 3072) (hs : ∀ j : Int, 0 ≤ j → inI (sx j)) (hX : Rel cn X) (h : pair_37 Rel) : ∃ X2 : Mem, Rel (cn + 1) X2 ∧ W_law_37 n sx go i X = go (i + 6) X2 := by
  obtain ⟨r, X1, X2, e1, e2, hr, h2⟩ := h (sx (i + 1)) (sx (i + 2)) (hs _ (by omega)) (hs _ (by omega)) cn X hc hX
  refine ⟨X2, h2, ?_⟩
  unfold W_law_37
  rw [ax_ok (by omega) (by omega), ax_ok (by omega) (by omega), e1, cl_some, ax_ok (by omega) (by omega), ax_ok (by omega) (by omega), e2, cl_some, c2_ok hr.1 hr.2 hr.1 hr.2, if_pos rfl]
def pair_38 (Rel : Int → Mem → Prop) : Prop := ∀ a0 a1 : Int, inI a0 → inI a1 → PI Rel (f_X11_dredged a0 a1) (f_X12_dredged a0 a1)
theorem w_38 {Rel : Int → Mem → Prop} {cn : Int} {n : Int} {sx : Int → Int} {go : Int → Mem → Option (Int × Mem)} {i : Int} {X : Mem} (hc : 0 ≤ cn ∧ cn ≤ 600) (hi : 0 ≤ i) (hn : i + 6 ≤ n) (hn2 : n ≤ 3072) (hs : ∀ j : Int, 0 ≤ j → inI (sx j)) (hX : Rel cn X) (h : pair_38 Rel) : ∃ X2 : Mem, Rel (cn + 1) X2 ∧ W_law_38 n sx go i X = go (i + 6) X2 := by
  obtain ⟨r, X1, X2, e1, e2, hr, h2⟩ := h (sx (i + 1)) (sx (i + 2)) (hs _ (by omega)) (hs _ (by omega)) cn X hc hX
  refine ⟨X2, h2, ?_⟩
  unfold W_law_38
  rw [ax_ok (by omega) (by omega), ax_ok (by omega) (by omega), e1, cl_some, ax_ok (by omega) (by omega), ax_ok (by omega) (by omega), e2, cl_some, c2_ok hr.1 hr.2 hr.1 hr.2, if_pos rfl]
def pair_39 (Rel : Int → Mem → Prop) : Prop := ∀ a0 a1 a2 a3 a4 : Int, inI a0 → inI a1 → inI a2 → inI a3 → inI a4 → PI Rel (f_X11_brush a0 a1 a2 a3 a4) (f_X12_brush a0 a1 a2 a3 a4)
theorem w_39 {Rel : Int → Mem → Prop} {cn : Int} {n : Int} {sx : Int → Int} {go : Int → Mem → Option (Int × Mem)} {i : Int} {X : Mem} (hc : 0 ≤ cn ∧ cn ≤ 600) (hi : 0 ≤ i) (hn : i + 6 ≤ n) (hn2 : n ≤ 3072) (hs : ∀ j : Int, 0 ≤ j → inI (sx j)) (hX : Rel cn X) (h : pair_39 Rel) : ∃ X2 : Mem, Rel (cn + 1) X2 ∧ W_law_39 n sx go i X = go (i + 6) X2 := by
  obtain ⟨r, X1, X2, e1, e2, hr, h2⟩ := h (sx (i + 1)) (sx (i + 2)) (sx (i + 3)) (sx (i + 4)) (sx (i + 5)) (hs _ (by omega)) (hs _ (by omega)) (hs _ (by omega)) (hs _ (by omega)) (hs _ (by omega)) cn X hc hX
  refine ⟨X2, h2, ?_⟩
  unfold W_law_39
  rw [ax_ok (by omega) (by omega), ax_ok (by omega) (by omega), ax_ok (by omega) (by omega), ax_ok (by omega) (by omega), ax_ok (by omega) (by omega), e1, cl_some, ax_ok (by omega) (by omega), ax_ok (by omega) (by omega), ax_ok (by omega) (by omega), ax_ok (by omega) (by omega), ax_ok (by omega) (by omega), e2, cl_some, c2_ok hr.1 hr.2 hr.1 hr.2, if_pos rfl]
def pair_40 (Rel : Int → Mem → Prop) : Prop := ∀ a0 a1 a2 : Int, inI a0 → inI a1 → inI a2 → PI Rel (f_X11_lighten a0 a1 a2) (f_X12_lighten a0 a1 a2)
theorem w_40 {Rel : Int → Mem → Prop} {cn : Int} {n : Int} {sx : Int → Int} {go : Int → Mem → Option (Int × Mem)} {i : Int} {X : Mem} (hc : 0 ≤ cn ∧ cn ≤ 600) (hi : 0 ≤ i) (hn : i + 6 ≤ n) (hn2 : n ≤ 3072) (hs : ∀ j : Int, 0 ≤ j → inI (sx j)) (hX : Rel cn X) (h : pair_40 Rel) : ∃ X2 : Mem, Rel (cn + 1) X2 ∧ W_law_40 n sx go i X = go (i + 6) X2 := by
  obtain ⟨r, X1, X2, e1, e2, hr, h2⟩ := h (sx (i + 1)) (sx (i + 2)) (sx (i + 3)) (hs _ (by omega)) (hs _ (by omega)) (hs _ (by omega)) cn X hc hX
  refine ⟨X2, h2, ?_⟩
  unfold W_law_40
  rw [ax_ok (by omega) (by omega), ax_ok (by omega) (by omega), ax_ok (by omega) (by omega), e1, cl_some, ax_ok (by omega) (by omega), ax_ok (by omega) (by omega), ax_ok (by omega) (by omega), e2, cl_some, c2_ok hr.1 hr.2 hr.1 hr.2, if_pos rfl]
def pair_41 (Rel : Int → Mem → Prop) : Prop := ∀ a0 a1 a2 : Int, inI a0 → inI a1 → inI a2 → PI Rel (f_X11_play a0 a1 a2) (f_X12_play a0 a1 a2)
theorem w_41 {Rel : Int → Mem → Prop} {cn : Int} {n : Int} {sx : Int → Int} {go : Int → Mem → Option (Int × Mem)} {i : Int} {X : Mem} (hc : 0 ≤ cn ∧ cn ≤ 600) (hi : 0 ≤ i) (hn : i + 6 ≤ n) (hn2 : n ≤ 3072) (hs : ∀ j : Int, 0 ≤ j → inI (sx j)) (hX : Rel cn X) (h : pair_41 Rel) : ∃ X2 : Mem, Rel (cn + 1) X2 ∧ W_law_41 n sx go i X = go (i + 6) X2 := by
  obtain ⟨r, X1, X2, e1, e2, hr, h2⟩ := h (sx (i + 1)) (sx (i + 2)) (sx (i + 3)) (hs _ (by omega)) (hs _ (by omega)) (hs _ (by omega)) cn X hc hX
  refine ⟨X2, h2, ?_⟩
  unfold W_law_41
  rw [ax_ok (by omega) (by omega), ax_ok (by omega) (by omega), ax_ok (by omega) (by omega), e1, cl_some, ax_ok (by omega) (by omega), ax_ok (by omega) (by omega), ax_ok (by omega) (by omega), e2, cl_some, c2_ok hr.1 hr.2 hr.1 hr.2, if_pos rfl]
def pair_42 (Rel : Int → Mem → Prop) : Prop := ∀ a0 : Int, inI a0 → PI Rel (f_X11_played a0) (f_X12_played a0)
theorem w_42 {Rel : Int → Mem → Prop} {cn : Int} {n : Int} {sx : Int → Int} {go : Int → Mem → Option (Int × Mem)} {i : Int} {X : Mem} (hc : 0 ≤ cn ∧ cn ≤ 600) (hi : 0 ≤ i) (hn : i + 6 ≤ n) (hn2 : n ≤ 3072) (hs : ∀ j : Int, 0 ≤ j → inI (sx j)) (hX : Rel cn X) (h : pair_42 Rel) : ∃ X2 : Mem, Rel (cn + 1) X2 ∧ W_law_42 n sx go i X = go (i + 6) X2 := by
  obtain ⟨r, X1, X2, e1, e2, hr, h2⟩ := h (sx (i + 1)) (hs _ (by omega)) cn X hc hX
  refine ⟨X2, h2, ?_⟩
  unfold W_law_42
  rw [ax_ok (by omega) (by omega), e1, cl_some, ax_ok (by omega) (by omega), e2, cl_some, c2_ok hr.1 hr.2 hr.1 hr.2, if_pos rfl]
def pair_43 (Rel : Int → Mem → Prop) : Prop := ∀ a0 a1 a2 a3 a4 : Int, inI a0 → inI a1 → inI a2 → inI a3 → inI a4 → PI Rel (f_X11_tally a0 a1 a2 a3 a4) (f_X12_tally a0 a1 a2 a3 a4)
theorem w_43 {Rel : Int → Mem → Prop} {cn : Int} {n : Int} {sx : Int → Int} {go : Int → Mem → Option (Int × Mem)} {i : Int} {X : Mem} (hc : 0 ≤ cn ∧ cn ≤ 600) (hi : 0 ≤ i) (hn : i + 6 ≤ n) (hn2 : n ≤ 3072) (hs : ∀ j : Int, 0 ≤ j → inI (sx j)) (hX : Rel cn X) (h : pair_43 Rel) : ∃ X2 : Mem, Rel (cn + 1) X2 ∧ W_law_43 n sx go i X = go (i + 6) X2 := by
  obtain ⟨r, X1, X2, e1, e2, hr, h2⟩ := h (sx (i + 1)) (sx (i + 2)) (sx (i + 3)) (sx (i + 4)) (sx (i + 5)) (hs _ (by omega)) (hs _ (by omega)) (hs _ (by omega)) (hs _ (by omega)) (hs _ (by omega)) cn X hc hX
  refine ⟨X2, h2, ?_⟩
  unfold W_law_43
  rw [ax_ok (by omega) (by omega), ax_ok (by omega) (by omega), ax_ok (by omega) (by omega), ax_ok (by omega) (by omega), ax_ok (by omega) (by omega), e1, cl_some, ax_ok (by omega) (by omega), ax_ok (by omega) (by omega), ax_ok (by omega) (by omega), ax_ok (by omega) (by omega), ax_ok (by omega) (by omega), e2, cl_some, c2_ok hr.1 hr.2 hr.1 hr.2, if_pos rfl]
def pair_44 (Rel : Int → Mem → Prop) : Prop := PI Rel f_X11_mark f_X12_mark
theorem w_44 {Rel : Int → Mem → Prop} {cn : Int} {n : Int} {sx : Int → Int} {go : Int → Mem → Option (Int × Mem)} {i : Int} {X : Mem} (hc : 0 ≤ cn ∧ cn ≤ 600) (hi : 0 ≤ i) (hn : i + 6 ≤ n) (hn2 : n ≤ 3072) (hs : ∀ j : Int, 0 ≤ j → inI (sx j)) (hX : Rel cn X) (h : pair_44 Rel) : ∃ X2 : Mem, Rel (cn + 1) X2 ∧ W_law_44 n sx go i X = go (i + 6) X2 := by
  obtain ⟨r, X1, X2, e1, e2, hr, h2⟩ := h   cn X hc hX
  refine ⟨X2, h2, ?_⟩
  unfold W_law_44
  rw [e1, cl_some, e2, cl_some, c2_ok hr.1 hr.2 hr.1 hr.2, if_pos rfl]
def pair_45 (Rel : Int → Mem → Prop) : Prop := PI Rel f_X11_back f_X12_back
theorem w_45 {Rel : Int → Mem → Prop} {cn : Int} {n : Int} {sx : Int → Int} {go : Int → Mem → Option (Int × Mem)} {i : Int} {X : Mem} (hc : 0 ≤ cn ∧ cn ≤ 600) (hi : 0 ≤ i) (hn : i + 6 ≤ n) (hn2 : n ≤ 3072) (hs : ∀ j : Int, 0 ≤ j → inI (sx j)) (hX : Rel cn X) (h : pair_45 Rel) : ∃ X2 : Mem, Rel (cn + 1) X2 ∧ W_law_45 n sx go i X = go (i + 6) X2 := by
  obtain ⟨r, X1, X2, e1, e2, hr, h2⟩ := h   cn X hc hX
  refine ⟨X2, h2, ?_⟩
  unfold W_law_45
  rw [e1, cl_some, e2, cl_some, c2_ok hr.1 hr.2 hr.1 hr.2, if_pos rfl]
def AllPr (Rel : Int → Mem → Prop) : Prop := (∀ (cn : Int) (X : Mem), Rel cn X → Rel (cn + 1) X) ∧ pair_0 Rel ∧ pair_1 Rel ∧ pair_2 Rel ∧ pair_3 Rel ∧ pair_4 Rel ∧ pair_5 Rel ∧ pair_6 Rel ∧ pair_7 Rel ∧ pair_8 Rel ∧ pair_9 Rel ∧ pair_10 Rel ∧ pair_11 Rel ∧ pair_12 Rel ∧ pair_13 Rel ∧ pair_14 Rel ∧ pair_15 Rel ∧ pair_16 Rel ∧ pair_17 Rel ∧ pair_18 Rel ∧ pair_19 Rel ∧ pair_20 Rel ∧ pair_21 Rel ∧ pair_22 Rel ∧ pair_23 Rel ∧ pair_24 Rel ∧ pair_25 Rel ∧ pair_26 Rel ∧ pair_27 Rel ∧ pair_28 Rel ∧ pair_29 Rel ∧ pair_30 Rel ∧ pair_31 Rel ∧ pair_32 Rel ∧ pair_33 Rel ∧ pair_34 Rel ∧ pair_35 Rel ∧ pair_36 Rel ∧ pair_37 Rel ∧ pair_38 Rel ∧ pair_39 Rel ∧ pair_40 Rel ∧ pair_41 Rel ∧ pair_42 Rel ∧ pair_43 Rel ∧ pair_44 Rel ∧ pair_45 Rel
theorem s_ok {Rel : Int → Mem → Prop} {cn : Int} {n : Int} {sx : Int → Int} {go : Int → Mem → Option (Int × Mem)} {i : Int} {X : Mem} (hc : 0 ≤ cn ∧ cn ≤ 600) (hi : 0 ≤ i) (hn : i + 6 ≤ n) (hn2 : n ≤ 3072) (hs : ∀ j : Int, 0 ≤ j → inI (sx j)) (hX : Rel cn X) (hA : AllPr Rel) (k : Int) (hk : inI k) : ∃ X2 : Mem, Rel (cn + 1) X2 ∧ S_law n sx go i X k = go (i + 6) X2 := by
  obtain ⟨hM, h0, h1, h2, h3, h4, h5, h6, h7, h8, h9, h10, h11, h12, h13, h14, h15, h16, h17, h18, h19, h20, h21, h22, h23, h24, h25, h26, h27, h28, h29, h30, h31, h32, h33, h34, h35, h36, h37, h38, h39, h40, h41, h42, h43, h44, h45⟩ := hA
  unfold S_law
  refine dite (k = 0) (fun e => ?_) (fun e0 => ?_)
  · rw [if_pos e]
    exact w_0 hc hi hn hn2 hs hX h0
  rw [if_neg e0]
  refine dite (k = 1) (fun e => ?_) (fun e1 => ?_)
  · rw [if_pos e]
    exact w_1 hc hi hn hn2 hs hX h1
  rw [if_neg e1]
  refine dite (k = 2) (fun e => ?_) (fun e2 => ?_)
  · rw [if_pos e]
    exact w_2 hc hi hn hn2 hs hX h2
  rw [if_neg e2]
  refine dite (k = 3) (fun e => ?_) (fun e3 => ?_)
  · rw [if_pos e]
    exact w_3 hc hi hn hn2 hs hX h3
  rw [if_neg e3]
  refine dite (k = 4) (fun e => ?_) (fun e4 => ?_)
  · rw [if_pos e]
    exact w_4 hc hi hn hn2 hs hX h4
  rw [if_neg e4]
  refine dite (k = 5) (fun e => ?_) (fun e5 => ?_)
  · rw [if_pos e]
    exact w_5 hc hi hn hn2 hs hX h5
  rw [if_neg e5]
  refine dite (k = 6) (fun e => ?_) (fun e6 => ?_)
  · rw [if_pos e]
    exact w_6 hc hi hn hn2 hs hX h6
  rw [if_neg e6]
  refine dite (k = 7) (fun e => ?_) (fun e7 => ?_)
  · rw [if_pos e]
    exact w_7 hc hi hn hn2 hs hX h7
  rw [if_neg e7]
  refine dite (k = 8) (fun e => ?_) (fun e8 => ?_)
  · rw [if_pos e]
    exact w_8 hc hi hn hn2 hs hX h8
  rw [if_neg e8]
  refine dite (k = 9) (fun e => ?_) (fun e9 => ?_)
  · rw [if_pos e]
    exact w_9 hc hi hn hn2 hs hX h9
  rw [if_neg e9]
  refine dite (k = 10) (fun e => ?_) (fun e10 => ?_)
  · rw [if_pos e]
    exact w_10 hc hi hn hn2 hs hX h10
  rw [if_neg e10]
  refine dite (k = 11) (fun e => ?_) (fun e11 => ?_)
  · rw [if_pos e]
    exact w_11 hc hi hn hn2 hs hX h11
  rw [if_neg e11]
  refine dite (k = 12) (fun e => ?_) (fun e12 => ?_)
  · rw [if_pos e]
    exact w_12 hc hi hn hn2 hs hX h12
  rw [if_neg e12]
  refine dite (k = 13) (fun e => ?_) (fun e13 => ?_)
  · rw [if_pos e]
    exact w_13 hc hi hn hn2 hs hX h13
  rw [if_neg e13]
  refine dite (k = 14) (fun e => ?_) (fun e14 => ?_)
  · rw [if_pos e]
    exact w_14 hc hi hn hn2 hs hX h14
  rw [if_neg e14]
  refine dite (k = 15) (fun e => ?_) (fun e15 => ?_)
  · rw [if_pos e]
    exact w_15 hc hi hn hn2 hs hX h15
  rw [if_neg e15]
  refine dite (k = 16) (fun e => ?_) (fun e16 => ?_)
  · rw [if_pos e]
    exact w_16 hc hi hn hn2 hs hX h16
  rw [if_neg e16]
  refine dite (k = 17) (fun e => ?_) (fun e17 => ?_)
  · rw [if_pos e]
    exact w_17 hc hi hn hn2 hs hX h17
  rw [if_neg e17]
  refine dite (k = 18) (fun e => ?_) (fun e18 => ?_)
  · rw [if_pos e]
    exact w_18 hc hi hn hn2 hs hX h18
  rw [if_neg e18]
  refine dite (k = 19) (fun e => ?_) (fun e19 => ?_)
  · rw [if_pos e]
    exact w_19 hc hi hn hn2 hs hX h19
  rw [if_neg e19]
  refine dite (k = 20) (fun e => ?_) (fun e20 => ?_)
  · rw [if_pos e]
    exact w_20 hc hi hn hn2 hs hX h20
  rw [if_neg e20]
  refine dite (k = 21) (fun e => ?_) (fun e21 => ?_)
  · rw [if_pos e]
    exact w_21 hc hi hn hn2 hs hX h21
  rw [if_neg e21]
  refine dite (k = 22) (fun e => ?_) (fun e22 => ?_)
  · rw [if_pos e]
    exact w_22 hc hi hn hn2 hs hX h22
  rw [if_neg e22]
  refine dite (k = 23) (fun e => ?_) (fun e23 => ?_)
  · rw [if_pos e]
    exact w_23 hc hi hn hn2 hs hX h23
  rw [if_neg e23]
  refine dite (k = 24) (fun e => ?_) (fun e24 => ?_)
  · rw [if_pos e]
    exact w_24 hc hi hn hn2 hs hX h24
  rw [if_neg e24]
  refine dite (k = 25) (fun e => ?_) (fun e25 => ?_)
  · rw [if_pos e]
    exact w_25 hc hi hn hn2 hs hX h25
  rw [if_neg e25]
  refine dite (k = 26) (fun e => ?_) (fun e26 => ?_)
  · rw [if_pos e]
    exact w_26 hc hi hn hn2 hs hX h26
  rw [if_neg e26]
  refine dite (k = 27) (fun e => ?_) (fun e27 => ?_)
  · rw [if_pos e]
    exact w_27 hc hi hn hn2 hs hX h27
  rw [if_neg e27]
  refine dite (k = 28) (fun e => ?_) (fun e28 => ?_)
  · rw [if_pos e]
    exact w_28 hc hi hn hn2 hs hX h28
  rw [if_neg e28]
  refine dite (k = 29) (fun e => ?_) (fun e29 => ?_)
  · rw [if_pos e]
    exact w_29 hc hi hn hn2 hs hX h29
  rw [if_neg e29]
  refine dite (k = 30) (fun e => ?_) (fun e30 => ?_)
  · rw [if_pos e]
    exact w_30 hc hi hn hn2 hs hX h30
  rw [if_neg e30]
  refine dite (k = 31) (fun e => ?_) (fun e31 => ?_)
  · rw [if_pos e]
    exact w_31 hc hi hn hn2 hs hX h31
  rw [if_neg e31]
  refine dite (k = 32) (fun e => ?_) (fun e32 => ?_)
  · rw [if_pos e]
    exact w_32 hc hi hn hn2 hs hX h32
  rw [if_neg e32]
  refine dite (k = 33) (fun e => ?_) (fun e33 => ?_)
  · rw [if_pos e]
    exact w_33 hc hi hn hn2 hs hX h33
  rw [if_neg e33]
  refine dite (k = 34) (fun e => ?_) (fun e34 => ?_)
  · rw [if_pos e]
    exact w_34 hc hi hn hn2 hs hX h34
  rw [if_neg e34]
  refine dite (k = 35) (fun e => ?_) (fun e35 => ?_)
  · rw [if_pos e]
    exact w_35 hc hi hn hn2 hs hX h35
  rw [if_neg e35]
  refine dite (k = 36) (fun e => ?_) (fun e36 => ?_)
  · rw [if_pos e]
    exact w_36 hc hi hn hn2 hs hX h36
  rw [if_neg e36]
  refine dite (k = 37) (fun e => ?_) (fun e37 => ?_)
  · rw [if_pos e]
    exact w_37 hc hi hn hn2 hs hX h37
  rw [if_neg e37]
  refine dite (k = 38) (fun e => ?_) (fun e38 => ?_)
  · rw [if_pos e]
    exact w_38 hc hi hn hn2 hs hX h38
  rw [if_neg e38]
  refine dite (k = 39) (fun e => ?_) (fun e39 => ?_)
  · rw [if_pos e]
    exact w_39 hc hi hn hn2 hs hX h39
  rw [if_neg e39]
  refine dite (k = 40) (fun e => ?_) (fun e40 => ?_)
  · rw [if_pos e]
    exact w_40 hc hi hn hn2 hs hX h40
  rw [if_neg e40]
  refine dite (k = 41) (fun e => ?_) (fun e41 => ?_)
  · rw [if_pos e]
    exact w_41 hc hi hn hn2 hs hX h41
  rw [if_neg e41]
  refine dite (k = 42) (fun e => ?_) (fun e42 => ?_)
  · rw [if_pos e]
    exact w_42 hc hi hn hn2 hs hX h42
  rw [if_neg e42]
  refine dite (k = 43) (fun e => ?_) (fun e43 => ?_)
  · rw [if_pos e]
    exact w_43 hc hi hn hn2 hs hX h43
  rw [if_neg e43]
  refine dite (k = 44) (fun e => ?_) (fun e44 => ?_)
  · rw [if_pos e]
    exact w_44 hc hi hn hn2 hs hX h44
  rw [if_neg e44]
  refine dite (k = 45) (fun e => ?_) (fun e45 => ?_)
  · rw [if_pos e]
    exact w_45 hc hi hn hn2 hs hX h45
  rw [if_neg e45]
  exact ⟨X, hM cn X hX, c1_ok hk.1 hk.2⟩
theorem ia_I (a b : Int) : inI (ia a b) := ⟨Int32.le_toInt _, Int32.toInt_le _⟩
theorem law_ok {Rel : Int → Mem → Prop} {n : Int} {sx : Int → Int} (h0 : 0 ≤ n) (hn2 : n ≤ 3072) (hs : ∀ j : Int, 0 ≤ j → inI (sx j)) (hA : AllPr Rel) : ∀ (g : Nat) (i cn : Int) (X : Mem), 0 ≤ i → i ≤ n → 6 * cn = i → (n - i).toNat < g → Rel cn X → ∃ Xf : Mem, L_law g n sx i X = some (1, Xf) := by
  intro g
  induction g with
  | zero => intro i cn X _ _ _ h; omega
  | succ g ih =>
    intro i cn X hi hin hcn hg hX
    rw [L_law, c2_ok (by omega) (by omega) (by omega) (by omega)]
    by_cases h : n - 6 < i
    · rw [if_pos h]
      exact ⟨X, rfl⟩
    · rw [if_neg h, ax_ok hi (by omega)]
      obtain ⟨X2, h2, e⟩ := s_ok (go := L_law g n sx) ⟨by omega, by omega⟩ hi (by omega) hn2 hs hX hA (ia (sx i) 63) (ia_I _ _)
      rw [e]
      exact ih (i + 6) (cn + 1) X2 (by omega) (by omega) (by omega) (by omega) h2
/-- so all that is left: a relation that holds at first and that the 46 pairs keep -/
theorem pure_of {Rel : Int → Mem → Prop} {X1 : Mem} (ht : f_X9_think 3 18 (xP0 Z0) = some (0, X1)) (hz : ∀ i k : Int, 120 ≤ i → X1 i k = 0) (h0 : Rel 0 (xE X1)) (hA : AllPr Rel) : PURE :=
  ⟨X1, ht, hz, fun n sx a b hs => law_ok a b (fun j hj => hs j hj) hA KF 0 0 _ (by decide) a (by decide) (by rw [KF_eq]; omega) h0⟩
