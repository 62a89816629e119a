section GM
variable {C : Cx} {V : Ev} {L : List Kd} {ca sl nL pc fr lc : Nat} {cc : ByteArray} {own : String} {lv : List (Nat × Value)} {st : List Value} {X : Mem} {f f1 f2 : Option (Int × Mem)}
theorem i32_max {a b : Int} (ha : -2147483648 ≤ a ∧ a ≤ 2147483647) (hb : -2147483648 ≤ b ∧ b ≤ 2147483647) : (if Int32.ofInt a < Int32.ofInt b then Int32.ofInt b else Int32.ofInt a) = Int32.ofInt (max a b) := by
  by_cases h : a < b
  · rw [if_pos ((i32_lt ha hb).mpr h), Int.max_eq_right (by omega)]
  · rw [if_neg (fun q => h ((i32_lt ha hb).mp q)), Int.max_eq_left (by omega)]
theorem g_mmax {a b : Int} {ix : Nat} (hC : Ok C V cc own nL fr lc) (hlink : Cond.methodLink own ix yJ9_max_7cf53 ∈ WS) (hfr : 1 ≤ fr) (hlo : (st.map fun v => v.category).sum + 13 ≤ lc) (hca : ca ≤ C.2.2.2.1.cells ∧ sl ≤ C.2.2.2.1.slots) (hdg : decode cc pc = .ok (.invokestatic ix, 3)) (h : G C V L ca sl nL (pc + 3) lv (vI (max a b) :: st) X f) : G C V L ca sl nL pc lv (vI b :: vI a :: st) X (c2 a b f) :=
  g_c2 fun ha hb hk H locs ls hP hS hl => va_mmax hC.1 hC.2.1 (by rw [hC.2.2.1]; exact hl.1.symm) hC.2.2.2.1 (hC.2.2.2.2.1 _ hlink) (hC.2.2.2.2.1 _ wst_yJ9_max_7cf53) (hC.2.2.2.2.1 _ wini_RJ9) (hC.2.2.2.2.1 _ wc_yJ9_max_7cf53) (Nat.le_trans hfr hC.2.2.2.2.2.2.1) (Nat.le_trans hlo hC.2.2.2.2.2.2.2) hca.1 hca.2 hdg (by rw [i32_max ha hb]; exact h hk H locs ls hP hS hl)
theorem g_mmin {a b : Int} {ix : Nat} (hC : Ok C V cc own nL fr lc) (hlink : Cond.methodLink own ix yJ9_min_7cf53 ∈ WS) (hfr : 1 ≤ fr) (hlo : (st.map fun v => v.category).sum + 13 ≤ lc) (hca : ca ≤ C.2.2.2.1.cells ∧ sl ≤ C.2.2.2.1.slots) (hdg : decode cc pc = .ok (.invokestatic ix, 3)) (h : G C V L ca sl nL (pc + 3) lv (vI (min a b) :: st) X f) : G C V L ca sl nL pc lv (vI b :: vI a :: st) X (c2 a b f) :=
  g_c2 fun ha hb hk H locs ls hP hS hl => va_mmin hC.1 hC.2.1 (by rw [hC.2.2.1]; exact hl.1.symm) hC.2.2.2.1 (hC.2.2.2.2.1 _ hlink) (hC.2.2.2.2.1 _ wst_yJ9_min_7cf53) (hC.2.2.2.2.1 _ wini_RJ9) (hC.2.2.2.2.1 _ wc_yJ9_min_7cf53) (Nat.le_trans hfr hC.2.2.2.2.2.2.1) (Nat.le_trans hlo hC.2.2.2.2.2.2.2) hca.1 hca.2 hdg (by
    have h := h hk H locs ls hP hS hl
    by_cases q : a ≤ b
    · rw [Int.min_eq_left q] at h
      first
        | (rw [if_pos ((i32_le ha hb).mpr q)]; exact h)
        | (rw [if_neg (fun z => absurd ((i32_lt hb ha).mp z) (by omega))]; exact h)
    · rw [Int.min_eq_right (by omega)] at h
      first
        | (rw [if_neg (fun z => q ((i32_le ha hb).mp z))]; exact h)
        | (rw [if_pos ((i32_lt hb ha).mpr (by omega))]; exact h))
theorem g_mabs {a : Int} {ix : Nat} (hC : Ok C V cc own nL fr lc) (hlink : Cond.methodLink own ix yJ9_abs_0f7a4 ∈ WS) (hfr : 1 ≤ fr) (hlo : (st.map fun v => v.category).sum + 13 ≤ lc) (hca : ca ≤ C.2.2.2.1.cells ∧ sl ≤ C.2.2.2.1.slots) (hdg : decode cc pc = .ok (.invokestatic ix, 3)) (h : G C V L ca sl nL (pc + 3) lv (vI (if 0 ≤ a then a else -a) :: st) X f) : G C V L ca sl nL pc lv (vI a :: st) X (c1 a f) :=
  g_c1 fun ha hk H locs ls hP hS hl => va_mabs hC.1 hC.2.1 (by rw [hC.2.2.1]; exact hl.1.symm) hC.2.2.2.1 (hC.2.2.2.2.1 _ hlink) (hC.2.2.2.2.1 _ wst_yJ9_abs_0f7a4) (hC.2.2.2.2.1 _ wini_RJ9) (hC.2.2.2.2.1 _ wc_yJ9_abs_0f7a4) (Nat.le_trans hfr hC.2.2.2.2.2.2.1) (Nat.le_trans hlo hC.2.2.2.2.2.2.2) hca.1 hca.2 hdg (by
    have h := h hk H locs ls hP hS hl
    by_cases q : 0 ≤ a
    · rw [if_pos q] at h
      rw [if_pos (show (0 : Int32) ≤ Int32.ofInt a from (i32_le (a := 0) (by decide) ha).mpr q)]
      exact h
    · rw [if_neg q] at h
      rw [if_neg (show ¬ (0 : Int32) ≤ Int32.ofInt a from fun z => q ((i32_le (a := 0) (by decide) ha).mp z)), show (0 : Int32) - Int32.ofInt a = Int32.ofInt (-a) from by rw [Int32.ofInt_neg, Int32.zero_sub]]
      exact h)
theorem g_maxl {a b : Int} {ix : Nat} (hC : Ok C V cc own nL fr lc) (hlink : Cond.methodLink own ix yJ9_max_f86c9 ∈ WS) (hfr : 1 ≤ fr) (hlo : (st.map fun v => v.category).sum + 15 ≤ lc) (hca : ca ≤ C.2.2.2.1.cells ∧ sl ≤ C.2.2.2.1.slots) (hdg : decode cc pc = .ok (.invokestatic ix, 3)) (h : G C V L ca sl nL (pc + 3) lv (vJ (max a b) :: st) X f) : G C V L ca sl nL pc lv (vJ b :: vJ a :: st) X (d2 a b f) :=
  g_d2 fun ha hb hk H locs ls hP hS hl => va_mmax_long hC.1 hC.2.1 (by rw [hC.2.2.1]; exact hl.1.symm) hC.2.2.2.1 (hC.2.2.2.2.1 _ hlink) (hC.2.2.2.2.1 _ wst_yJ9_max_f86c9) (hC.2.2.2.2.1 _ wini_RJ9) (hC.2.2.2.2.1 _ wc_yJ9_max_f86c9) (Nat.le_trans hfr hC.2.2.2.2.2.2.1) (Nat.le_trans hlo hC.2.2.2.2.2.2.2) hca.1 hca.2 hdg (by
    have h := h hk H locs ls hP hS hl
    by_cases q : b < a
    · rw [Int.max_eq_left (by omega)] at h
      rw [if_pos ((i64_lt hb ha).mpr q)]
      exact h
    · rw [Int.max_eq_right (by omega)] at h
      rw [if_neg (fun z => q ((i64_lt hb ha).mp z))]
      exact h)
/-- a stretch of one row comes into another (or into itself) -/
def mc (X : Mem) (i sp j dp n : Int) : Mem := ma X j fun q => if dp ≤ q ∧ q < dp + n then X i (sp + (q - dp)) else X j q
def cpk {β : Type} (n0 n1 sp dp n : Int) (k : Option β) : Option β := if (0 ≤ sp ∧ 0 ≤ dp ∧ 0 ≤ n) ∧ sp + n ≤ n0 ∧ dp + n ≤ n1 then k else none
theorem cpy_mc {α : Type} {X : Mem} {i j sp dp n : Int} (g : Int → α) (h0 : 0 ≤ sp) (h1 : 0 ≤ dp) (h2 : 0 ≤ n) : va_cpy (fun q : Nat => g (X i q)) (fun q : Nat => g (X j q)) sp.toNat dp.toNat n.toNat = fun q : Nat => g (mc X i sp j dp n j q) := by
  funext q
  unfold va_cpy mc ma
  rw [if_pos rfl]
  by_cases hq : dp ≤ (q : Int) ∧ (q : Int) < dp + n
  · have e : ((sp.toNat + (q - dp.toNat) : Nat) : Int) = sp + ((q : Int) - dp) := by omega
    rw [if_pos hq, if_pos (by omega)]
    show g (X i ((sp.toNat + (q - dp.toNat) : Nat) : Int)) = _
    rw [e]
  · rw [if_neg hq, if_neg (by omega)]
theorem not_neg {a : Int} (h0 : 0 ≤ a) (h1 : a ≤ 2147483647) : ¬ Int32.ofInt a < 0 := fun q => absurd ((i32_lt (b := 0) ⟨by omega, h1⟩ (by decide)).mp q) (by omega)
theorem g_copyi {i j n0 n1 sp dp n : Int} {ix : Nat} {fm : Mem → Option (Int × Mem)} (hC : Ok C V cc own nL fr lc) (hlink : Cond.methodLink own ix arraycopyName ∈ WS) (hA : At L i (100, [n0])) (hB : At L j (100, [n1])) (hn0 : n0 ≤ 2147483647) (hn1 : n1 ≤ 2147483647) (hfr : 1 ≤ fr) (hlo : (st.map fun v => v.category).sum + (nativeFrameWords "java/lang/System" "arraycopy" 5 + 11) ≤ lc) (hdg : decode cc pc = .ok (.invokestatic ix, 3))
    (h : ∀ X1 : Mem, G C V L ca sl nL (pc + 3) lv st X1 (fm X1)) : G C V L ca sl nL pc lv (vI n :: vI dp :: vR V.1 j :: vI sp :: vR V.1 i :: st) X (cpk n0 n1 sp dp n (bd (mc X i sp j dp n) fm)) := by
  intro hk H locs ls hP hS hl
  unfold cpk at hk
  split at hk
  · rename_i hh
    obtain ⟨⟨h0, h1, h2⟩, h3, h4⟩ := hh
    have c0 := i32_clamp (a := sp) ⟨h0, by omega⟩
    have cd := i32_clamp (a := dp) ⟨h1, by omega⟩
    have cn := i32_clamp (a := n) ⟨h2, by omega⟩
    refine va_copyi hC.1 hC.2.1 (by rw [hC.2.2.1]; exact hl.1.symm) hC.2.2.2.1 (hC.2.2.2.2.1 _ hlink) (hC.2.2.2.2.1 _ wnat_arraycopyName) (hC.2.2.2.2.1 _ wst_arraycopyName) (hC.2.2.2.2.1 _ wini_RJ10) hC.2.2.2.2.2.1.1 hP (WL_D _ _ _ _) hS i.toNat j.toNat 0 0 (ty := .int) (WL_at hA) (WL_at hB) rfl rfl rfl
      (not_neg h0 (by omega)) (not_neg h1 (by omega)) (not_neg h2 (by omega)) ?_ ?_ (fun _ _ => rfl) (Nat.le_trans hfr hC.2.2.2.2.2.2.1) (Nat.le_trans hlo hC.2.2.2.2.2.2.2) hdg (fun H1 locs1 hP1 _ hS1 => ?_)
    · rw [c0, cn]
      show sp.toNat + n.toNat ≤ n0.toNat
      omega
    · rw [cd, cn]
      show dp.toNat + n.toNat ≤ n1.toNat
      omega
    · rw [c0, cd, cn, cpy_mc Int32.ofInt h0 h1 h2] at hP1
      refine h _ hk H1 locs1 ls ?_ hS1 hl
      rw [← WL_set (X := X) (X' := mc X i sp j dp n) hB rfl (fun q hq => ma_ne hq)]
      exact hP1
  · cases hk
theorem g_copyl {i j n0 n1 sp dp n : Int} {ix : Nat} {fm : Mem → Option (Int × Mem)} (hC : Ok C V cc own nL fr lc) (hlink : Cond.methodLink own ix arraycopyName ∈ WS) (hA : At L i (101, [n0])) (hB : At L j (101, [n1])) (hn0 : n0 ≤ 2147483647) (hn1 : n1 ≤ 2147483647) (hfr : 1 ≤ fr) (hlo : (st.map fun v => v.category).sum + (nativeFrameWords "java/lang/System" "arraycopy" 5 + 11) ≤ lc) (hdg : decode cc pc = .ok (.invokestatic ix, 3))
    (h : ∀ X1 : Mem, G C V L ca sl nL (pc + 3) lv st X1 (fm X1)) : G C V L ca sl nL pc lv (vI n :: vI dp :: vR V.1 j :: vI sp :: vR V.1 i :: st) X (cpk n0 n1 sp dp n (bd (mc X i sp j dp n) fm)) := by
  intro hk H locs ls hP hS hl
  unfold cpk at hk
  split at hk
  · rename_i hh
    obtain ⟨⟨h0, h1, h2⟩, h3, h4⟩ := hh
    have c0 := i32_clamp (a := sp) ⟨h0, by omega⟩
    have cd := i32_clamp (a := dp) ⟨h1, by omega⟩
    have cn := i32_clamp (a := n) ⟨h2, by omega⟩
    refine va_copyl hC.1 hC.2.1 (by rw [hC.2.2.1]; exact hl.1.symm) hC.2.2.2.1 (hC.2.2.2.2.1 _ hlink) (hC.2.2.2.2.1 _ wnat_arraycopyName) (hC.2.2.2.2.1 _ wst_arraycopyName) (hC.2.2.2.2.1 _ wini_RJ10) hC.2.2.2.2.2.1.1 hP (WL_D _ _ _ _) hS i.toNat j.toNat 1 1 (ty := .long) (WL_at hA) (WL_at hB) rfl rfl rfl
      (not_neg h0 (by omega)) (not_neg h1 (by omega)) (not_neg h2 (by omega)) ?_ ?_ (fun _ _ => rfl) (Nat.le_trans hfr hC.2.2.2.2.2.2.1) (Nat.le_trans hlo hC.2.2.2.2.2.2.2) hdg (fun H1 locs1 hP1 _ hS1 => ?_)
    · rw [c0, cn]
      show sp.toNat + n.toNat ≤ n0.toNat
      omega
    · rw [cd, cn]
      show dp.toNat + n.toNat ≤ n1.toNat
      omega
    · rw [c0, cd, cn, cpy_mc Int64.ofInt h0 h1 h2] at hP1
      refine h _ hk H1 locs1 ls ?_ hS1 hl
      rw [← WL_set (X := X) (X' := mc X i sp j dp n) hB rfl (fun q hq => ma_ne hq)]
      exact hP1
  · cases hk
/-- a table of branches -/
theorem g_tabIn {x off : Int} {j tgt len : Nat} {dflt lo hi : Int} {offs : Array Int} (hC : Ok C V cc own nL fr lc) (hdg : decode cc pc = .ok (.tableswitch dflt lo hi offs, len)) (hx : x = lo + j) (hj : offs[j]? = some off) (hr : -2147483648 ≤ lo ∧ hi ≤ 2147483647 ∧ lo + (offs.size : Int) = hi + 1) (ht : (pc : Int) + off = (tgt : Int)) (h : G C V L ca sl nL tgt lv st X f) : G C V L ca sl nL pc lv (vI x :: st) X f := by
  have hl : j < offs.size := (Array.getElem?_eq_some_iff.mp hj).1
  have e : (Int32.ofInt x).toInt = x := i32_toInt ⟨by omega, by omega⟩
  exact g_lift (fun _ _ _ _ w => lv_tableIn hC.1 hC.2.1 hdg (by rw [e]; omega) (by rw [e]; omega) (by rw [e, show (x - lo).toNat = j from by omega]; exact hj) ht w) h
theorem g_tabOut {x : Int} {tgt len : Nat} {dflt lo hi : Int} {offs : Array Int} (hC : Ok C V cc own nL fr lc) (hdg : decode cc pc = .ok (.tableswitch dflt lo hi offs, len)) (hr : -2147483648 ≤ x ∧ x ≤ 2147483647) (hx : x < lo ∨ hi < x) (ht : (pc : Int) + dflt = (tgt : Int)) (h : G C V L ca sl nL tgt lv st X f) : G C V L ca sl nL pc lv (vI x :: st) X f :=
  g_lift (fun _ _ _ _ w => lv_tableOut hC.1 hC.2.1 hdg (by rw [i32_toInt hr]; exact hx) ht w) h
end GM
