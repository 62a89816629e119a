/-! from the Statement's start to what the proof stands on -/
theorem ev_of {args : Array Value} {s : State} {t : Term} {z : Int32} (h : (Cond.eq t (.int z)).before args s = true) : t.eval args s none [] s = some (.int z) := by
  cases hv : t.eval args s none [] s with
  | none => simp [Cond.before, Cond.holds, Cond.value, hv] at h
  | some w =>
    have hz : (Term.int z).eval args s none [] s = some (.int z) := rfl
    simp only [Cond.before, Cond.holds, Cond.value, hv, hz] at h
    cases w <;> simp_all
theorem arrT {args : Array Value} {s : State} {ty : FieldType} (hty : ty = .int ∨ ty = .long ∨ ty = .byte ∨ ty = .boolean) (h : (Cond.arrayClass ty).before args s = true) : ∃ cA, ArrOfT s cA ty ∧ va_RA s cA ty := by
  obtain ⟨c, k, comp, h1, h2, h3⟩ := Cond.arrayClass_spec h
  refine ⟨c, fun n z => ⟨fun k9 h9 => ?_, k, h2, comp, h3⟩, ?_⟩
  · rcases hty with rfl | rfl | rfl | rfl <;> cases h9
  · rcases hty with rfl | rfl | rfl | rfl <;> exact h1
theorem arrO {s : State} {K : String} (h : va_AO K s) : ∃ cA, ArrOfT s cA (.object K) ∧ va_RA s cA (.object K) := by
  obtain ⟨comp, c, k, h1, h2, h3, h4, h5⟩ := Cond.arrayOver_spec h
  exact ⟨c, fun n z => ⟨(fun k9 h9 => by cases h9), k, h3, comp, h4⟩, k, comp, h3, h4, h1, h5⟩
theorem arrL {s : State} (h : vAL s) : ∃ cA, ArrOfT s cA (.array .long) ∧ va_RA s cA (.array .long) := by
  obtain ⟨comp, c, k, h1, h2, h3, h4, h5⟩ := vAL.spec h
  exact ⟨c, fun n z => ⟨(fun k9 h9 => by cases h9), k, h3, comp, h4⟩, h5⟩
theorem Kn_of {args : Array Value} {s : State} (hW : ∀ w ∈ WS, w.before args s = true) : ∀ (c : Nat) (q : vw_C), vwCl[c]? = some q → ∃ (cC : ClassId) (iS : Nat → Nat), u_Kn s q.1 q.2.1 q.2.2 cC iS
  | 0, _, e => by
    cases e
    exact u_known hW cf_X0.2.1 (hW _ wnew_RX0)
  | 1, _, e => by
    cases e
    exact u_known hW cf_X1.2.1 (hW _ wnew_RX1)
  | 2, _, e => by
    cases e
    exact u_known hW cf_X2.2.1 (hW _ wnew_RX2)
  | 3, _, e => by
    cases e
    exact u_known hW cf_X3.2.1 (hW _ wnew_RX3)
  | 4, _, e => by
    cases e
    exact u_known hW cf_X4.2.1 (hW _ wnew_RX4)
  | 5, _, e => by
    cases e
    exact u_known hW cf_X5.2.1 (hW _ wnew_RX5)
  | 6, _, e => by
    cases e
    exact u_known hW cf_X6.2.1 (hW _ wnew_RX6)
  | 7, _, e => by
    cases e
    exact u_known hW cf_X7.2.1 (hW _ wnew_RX7)
  | 8, _, e => by
    cases e
    exact u_known hW cf_X8.2.1 (hW _ wnew_RX8)
  | 9, _, e => by
    cases e
    exact u_known hW cf_X9.2.1 (hW _ wnew_RX9)
  | 10, _, e => by
    cases e
    exact u_known hW cf_X10.2.1 (hW _ wnew_RX10)
  | 11, _, e => by
    cases e
    exact u_known hW cf_X11.2.1 (hW _ wnew_RX11)
  | 12, _, e => by
    cases e
    exact u_known hW cf_X12.2.1 (hW _ wnew_RX12)
  | n + 13, _, e => absurd e (by simp [vwCl])
theorem K_of {args : Array Value} {s : State} (hts : ∀ w ∈ lw_tbl, w.before args s = true) : ∃ (D : va_G) (cs : Nat → ClassId), va_K D vwCl (TYS cs) s := by
  have hW : ∀ w ∈ WS, w.before args s = true := fun w h => hts w (List.mem_filter.mp h).1
  have h1 : ∀ c : Nat, ∃ p : ClassId × (Nat → Nat), ∀ q, vwCl[c]? = some q → u_Kn s q.1 q.2.1 q.2.2 p.1 p.2 := by
    intro c
    cases e : vwCl[c]? with
    | none => exact ⟨(0, fun _ => 0), fun q h => by cases h⟩
    | some q =>
      obtain ⟨cC, iS, h⟩ := Kn_of hW c q e
      exact ⟨(cC, iS), fun q2 e2 => by cases e2; exact h⟩
  obtain ⟨g, hg⟩ := Classical.axiomOfChoice h1
  obtain ⟨c0, a0⟩ := arrT (Or.inl rfl) (hW _ war_FieldType_int)
  obtain ⟨c1, a1⟩ := arrT (Or.inr (Or.inl rfl)) (hW _ war_FieldType_long)
  obtain ⟨c2, a2⟩ := arrT (Or.inr (Or.inr (Or.inl rfl))) (hW _ war_FieldType_byte)
  obtain ⟨c3, a3⟩ := arrT (Or.inr (Or.inr (Or.inr rfl))) (hW _ war_FieldType_boolean)
  obtain ⟨c4, a4⟩ := arrO (va_AO.of (hts _ wao_FieldType_object__PoleRiver_Tray_))
  obtain ⟨c5, a5⟩ := arrO (va_AO.of (hts _ wao_FieldType_object__PoleRiver_State_))
  obtain ⟨c6, a6⟩ := arrL (hts _ wao_FieldType_array_FieldType_long)
  refine ⟨(fun c => (g c).1, fun c => (g c).2), fun k => match k with | 0 => c0 | 1 => c1 | 2 => c2 | 3 => c3 | 4 => c4 | 5 => c5 | _ => c6, fun c q e => hg c q e, fun k q e => ?_⟩
  match k, e with
  | 0, e => cases e; exact a0
  | 1, e => cases e; exact a1
  | 2, e => cases e; exact a2
  | 3, e => cases e; exact a3
  | 4, e => cases e; exact a4
  | 5, e => cases e; exact a5
  | 6, e => cases e; exact a6
  | n + 7, e => exact absurd e (by simp [TYS])
theorem N_of {args : Array Value} {s : State} (hts : ∀ w ∈ lw_tbl, w.before args s = true) : ∀ q ∈ NST, va_Nw (.methodLinkNest q.1 q.2.1 q.2.2.1 q.2.2.2) s :=
  List.forall_mem_cons.mpr ⟨va_Nw.of rfl (hts _ wnl_RX11_17), List.forall_mem_cons.mpr ⟨va_Nw.of rfl (hts _ wnl_RX7_20), List.forall_mem_cons.mpr ⟨va_Nw.of rfl (hts _ wnl_RX11_35), List.forall_mem_cons.mpr ⟨va_Nw.of rfl (hts _ wnl_RX11_42), List.forall_mem_cons.mpr ⟨va_Nw.of rfl (hts _ wnl_RX11_70), List.forall_mem_cons.mpr ⟨va_Nw.of rfl (hts _ wnl_RX11_128), List.forall_mem_cons.mpr ⟨va_Nw.of rfl (hts _ wnl_RX9_39), List.forall_mem_cons.mpr ⟨va_Nw.of rfl (hts _ wnl_RX1_146), List.forall_mem_cons.mpr ⟨va_Nw.of rfl (hts _ wnl_RX6_48), List.forall_mem_cons.mpr ⟨va_Nw.of rfl (hts _ wnl_RX11_377), List.forall_mem_cons.mpr ⟨va_Nw.of rfl (hts _ wnl_RX0_61), List.forall_mem_cons.mpr ⟨va_Nw.of rfl (hts _ wnl_RX7_43), fun _ h => absurd h List.not_mem_nil⟩⟩⟩⟩⟩⟩⟩⟩⟩⟩⟩⟩
def elC (tm : Term) (l : List Int) : List Cond := l.mapIdx fun j x => Cond.eq (.elem tm (.int (Int32.ofNat j))) (.int (Int32.ofInt x))
theorem el_of {args : Array Value} {s : State} {tm : Term} {l : List Int} (h : ∀ c ∈ elC tm l, c.before args s = true) : ∀ j : Nat, j < l.length → (Term.elem tm (.int (Int32.ofNat j))).eval args s none [] s = some (vI (tl l j)) := by
  intro j hj
  have h1 : Cond.eq (.elem tm (.int (Int32.ofNat j))) (.int (Int32.ofInt l[j])) ∈ elC tm l := by
    unfold elC
    exact List.mem_iff_getElem?.mpr ⟨j, by rw [List.getElem?_mapIdx, List.getElem?_eq_getElem hj]; rfl⟩
  have h2 := ev_of (h _ h1)
  rw [h2]
  show some (Value.int (Int32.ofInt l[j])) = some (.int (Int32.ofInt (l.getD (j : Int).toNat 0)))
  rw [Int.toNat_natCast, List.getD_eq_getElem?_getD, List.getElem?_eq_getElem hj, Option.getD_some]
def stC (K n : String) (l : List Int) : List Cond := [Cond.arrayOf (.static K n "[I") .int, Cond.eq (.length (.static K n "[I")) (.int (Int32.ofNat l.length))] ++ elC (.static K n "[I") l
theorem stat_of {args : Array Value} {s : State} {A : Nat → Prop} {K n : String} {l : List Int} (hl : (Cond.laysStatic K n "[I").before args s = true) (hini : (Cond.initialized K).before args s = true) (h : ∀ c ∈ stC K n l, c.before args s = true) (hN : l.length < 2 ^ 31) (hA : ∀ a : Nat, a < s.heap.size → ¬ A a) :
    ∃ t : Nat, va_Z K n "[I" (.ref t) A s s.heap ∧ va_T .int t l.length (fun j => vI (tl l j)) A s s.heap := by
  obtain ⟨t, h1, h2⟩ := va_Tof (tm := .static K n "[I") (ty := .int) (N := l.length) (f := fun j => vI (tl l j)) (A := A) hN (h _ (List.mem_append_left _ List.mem_cons_self)) (ev_of (h _ (List.mem_append_left _ (List.mem_cons_of_mem _ List.mem_cons_self)))) (el_of fun c hc => h c (List.mem_append_right _ hc)) hA
  exact ⟨t, va_Zof hl hini h1 hA, h2⟩
def sv (own : String) (k : Nat) : Term := .field (.string own k) "java/lang/String" "value" "[B"
def slC (own : String) (k : Nat) (l : List Int) : List Cond := [Cond.exactly (.string own k) "java/lang/String", Cond.eq (.field (.string own k) "java/lang/String" "coder" "B") (.int 0), Cond.arrayOf (sv own k) .byte, Cond.eq (.length (sv own k)) (.int (Int32.ofNat l.length))] ++ elC (sv own k) l
theorem str_of {args : Array Value} {s : State} {A : Nat → Prop} {own tx : String} {k : Nat} {l : List Int} (hr : (Cond.stringRef own k tx).before args s = true) (h : ∀ c ∈ slC own k l, c.before args s = true) (hN : l.length < 2 ^ 31) (hA : ∀ a : Nat, a < s.heap.size → ¬ A a) :
    ∃ a b : Nat, vk_R own k tx a s ∧ va_O "java/lang/String" a A s s.heap ∧ va_OF "java/lang/String" "coder" "B" (.int 0) a A s s.heap ∧ va_OF "java/lang/String" "value" "[B" (.ref b) a A s s.heap ∧ va_T .byte b l.length (fun j => vI (tl l j)) A s s.heap := by
  have h0 := h _ (List.mem_append_left _ List.mem_cons_self)
  obtain ⟨a, c, cA, kA, q1, -⟩ := Cond.exactly_spec (args := args) (first := s) (o := none) (s := s) (idx := []) (t := .string own k) (cls := "java/lang/String") h0
  obtain ⟨b, h1, h2⟩ := va_Tof (tm := sv own k) (ty := .byte) (N := l.length) (f := fun j => vI (tl l j)) (A := A) hN (h _ (List.mem_append_left _ (List.mem_cons_of_mem _ (List.mem_cons_of_mem _ List.mem_cons_self)))) (ev_of (h _ (List.mem_append_left _ (List.mem_cons_of_mem _ (List.mem_cons_of_mem _ (List.mem_cons_of_mem _ List.mem_cons_self)))))) (el_of fun c hc => h c (List.mem_append_right _ hc)) hA
  have hev : (Term.string own k).eval #[] s none [] s = some (.ref a) := q1
  exact ⟨a, b, ⟨hr, hev⟩, va_Oof h0 q1 hA, vk_OFof q1 (ev_of (h _ (List.mem_append_left _ (List.mem_cons_of_mem _ List.mem_cons_self)))) hA, vk_OFof q1 h1 hA, h2⟩
def FL : List Cond := Jvm.Free.XT.flat (Jvm.Cond.and given_1 narrow_1)
theorem fl_of {args : Array Value} {s : State} (h : (Jvm.Cond.and given_1 narrow_1).before args s = true) : ∀ c ∈ FL, c.before args s = true := flat_of_before _ h
set_option maxRecDepth 100000 in
theorem st_0 : stC RX2 "ACROSS" (tRow.getD 0 []) = (FL.drop 10).take 10 := by decide +kernel
set_option maxRecDepth 100000 in
theorem st_1 : stC RX2 "DOWN" (tRow.getD 1 []) = (FL.drop 21).take 10 := by decide +kernel
set_option maxRecDepth 100000 in
theorem st_2 : stC RX1 "BY_CELL" (tRow.getD 2 []) = (FL.drop 32).take 10 := by decide +kernel
set_option maxRecDepth 100000 in
theorem sl_0 : slC RX3 57 (sB 0) = (FL.drop 68).take 8 := by decide +kernel
set_option maxRecDepth 100000 in
theorem sl_1 : slC RX3 79 (sB 1) = (FL.drop 76).take 7 := by decide +kernel
set_option maxRecDepth 100000 in
theorem sl_2 : slC RX3 88 (sB 2) = (FL.drop 83).take 7 := by decide +kernel
set_option maxRecDepth 100000 in
theorem sl_3 : slC RX8 91 (sB 3) = (FL.drop 90).take 111 := by decide +kernel
set_option maxRecDepth 100000 in
theorem sl_4 : slC RX3 159 (sB 4) = (FL.drop 201).take 9 := by decide +kernel
set_option maxRecDepth 100000 in
theorem sl_5 : slC RX3 163 (sB 5) = (FL.drop 210).take 10 := by decide +kernel
set_option maxRecDepth 100000 in
theorem sl_6 : slC RX3 168 (sB 6) = (FL.drop 220).take 8 := by decide +kernel
set_option maxRecDepth 100000 in
theorem sl_7 : slC RX3 172 (sB 7) = (FL.drop 228).take 9 := by decide +kernel
set_option maxRecDepth 100000 in
theorem sl_8 : slC RX3 93 (sB 8) = (FL.drop 237).take 6 := by decide +kernel
set_option maxRecDepth 100000 in
theorem sl_9 : slC RX3 176 (sB 9) = (FL.drop 243).take 6 := by decide +kernel
set_option maxRecDepth 100000 in
theorem sl_10 : slC RX3 98 (sB 10) = (FL.drop 249).take 9 := by decide +kernel
set_option maxRecDepth 100000 in
theorem sl_11 : slC RX3 185 (sB 11) = (FL.drop 258).take 8 := by decide +kernel
set_option maxRecDepth 100000 in
theorem sl_12 : slC RX3 103 (sB 12) = (FL.drop 266).take 8 := by decide +kernel
set_option maxRecDepth 100000 in
theorem sl_13 : slC RX3 190 (sB 13) = (FL.drop 274).take 9 := by decide +kernel
set_option maxRecDepth 100000 in
theorem sl_14 : slC RX3 194 (sB 14) = (FL.drop 283).take 8 := by decide +kernel
set_option maxRecDepth 100000 in
theorem sl_15 : slC RX3 204 (sB 15) = (FL.drop 291).take 12 := by decide +kernel
set_option maxRecDepth 100000 in
theorem sl_16 : slC RX3 208 (sB 16) = (FL.drop 303).take 9 := by decide +kernel
set_option maxRecDepth 100000 in
theorem sl_17 : slC RX3 212 (sB 17) = (FL.drop 312).take 8 := by decide +kernel
set_option maxRecDepth 100000 in
theorem sl_18 : slC RX3 216 (sB 18) = (FL.drop 320).take 8 := by decide +kernel
set_option maxRecDepth 100000 in
theorem sl_19 : slC RX3 108 (sB 19) = (FL.drop 328).take 8 := by decide +kernel
set_option maxRecDepth 100000 in
theorem sl_20 : slC RX3 113 (sB 20) = (FL.drop 336).take 10 := by decide +kernel
set_option maxRecDepth 100000 in
theorem sl_21 : slC RX5 48 (sB 21) = (FL.drop 346).take 7 := by decide +kernel
set_option maxRecDepth 100000 in
theorem sl_22 : slC RX5 89 (sB 22) = (FL.drop 353).take 9 := by decide +kernel
set_option maxRecDepth 100000 in
theorem sl_23 : slC RX5 91 (sB 23) = (FL.drop 362).take 10 := by decide +kernel
set_option maxRecDepth 100000 in
theorem sl_24 : slC RX5 93 (sB 24) = (FL.drop 373).take 8 := by decide +kernel
set_option maxRecDepth 100000 in
theorem sl_25 : slC RX5 95 (sB 25) = (FL.drop 381).take 7 := by decide +kernel
set_option maxRecDepth 100000 in
theorem sl_26 : slC RX5 97 (sB 26) = (FL.drop 388).take 8 := by decide +kernel
set_option maxRecDepth 100000 in
theorem sl_27 : slC RX5 99 (sB 27) = (FL.drop 396).take 8 := by decide +kernel
set_option maxRecDepth 100000 in
theorem sl_28 : slC RX5 101 (sB 28) = (FL.drop 404).take 6 := by decide +kernel
set_option maxRecDepth 100000 in
theorem sl_29 : slC RX5 103 (sB 29) = (FL.drop 410).take 8 := by decide +kernel
set_option maxRecDepth 100000 in
theorem sl_30 : slC RX5 115 (sB 30) = (FL.drop 418).take 8 := by decide +kernel
set_option maxRecDepth 100000 in
theorem sl_31 : slC RX5 120 (sB 31) = (FL.drop 426).take 9 := by decide +kernel
set_option maxRecDepth 100000 in
theorem sl_32 : slC RX5 122 (sB 32) = (FL.drop 435).take 8 := by decide +kernel
set_option maxRecDepth 100000 in
theorem sl_33 : slC RX12 194 (sB 33) = (FL.drop 443).take 112 := by decide +kernel
set_option maxRecDepth 100000 in
theorem sl_34 : slC RX12 249 (sB 34) = (FL.drop 555).take 65 := by decide +kernel
theorem fl_d {args : Array Value} {s : State} (h : ∀ c ∈ FL, c.before args s = true) {l : List Cond} {k n : Nat} (e : l = (FL.drop k).take n) : ∀ c ∈ l, c.before args s = true := fun c hc => h c (List.mem_of_mem_drop (List.mem_of_mem_take (e ▸ hc)))
theorem B2_of {args : Array Value} {s : State} {A : Nat → Prop} (hts : ∀ w ∈ lw_tbl, w.before args s = true) (hF : ∀ c ∈ FL, c.before args s = true) (hA : ∀ a : Nat, a < s.heap.size → ¬ A a) : ∀ i : Nat, ∃ t : Nat, i < 3 → va_Z (tNm.getD i ("", "")).1 (tNm.getD i ("", "")).2 "[I" (.ref t) A s s.heap ∧ va_T .int t 8 (fun j => vI (tl (tRow.getD i []) j)) A s s.heap
  | 0 => by
    obtain ⟨t, h⟩ := stat_of (A := A) (l := tRow.getD 0 []) (hts _ wls_RX2_ACROSS) (hts _ (List.mem_filter.mp wini_RX2).1) (fl_d hF st_0) (by decide) hA
    exact ⟨t, fun _ => h⟩
  | 1 => by
    obtain ⟨t, h⟩ := stat_of (A := A) (l := tRow.getD 1 []) (hts _ wls_RX2_DOWN) (hts _ (List.mem_filter.mp wini_RX2).1) (fl_d hF st_1) (by decide) hA
    exact ⟨t, fun _ => h⟩
  | 2 => by
    obtain ⟨t, h⟩ := stat_of (A := A) (l := tRow.getD 2 []) (hts _ wls_RX1_BY_CELL) (hts _ (List.mem_filter.mp wini_RX1).1) (fl_d hF st_2) (by decide) hA
    exact ⟨t, fun _ => h⟩
  | n + 3 => ⟨0, fun h => absurd h (by omega)⟩
theorem B3_of {args : Array Value} {s : State} {A : Nat → Prop} (hts : ∀ w ∈ lw_tbl, w.before args s = true) (hF : ∀ c ∈ FL, c.before args s = true) (hA : ∀ a : Nat, a < s.heap.size → ¬ A a) : ∀ i : Nat, ∃ q : Nat × Nat, i < nSt → vk_R (sTx.getD i ("", 0, "")).1 (sTx.getD i ("", 0, "")).2.1 (sTx.getD i ("", 0, "")).2.2 q.1 s ∧ va_O "java/lang/String" q.1 A s s.heap ∧ va_OF "java/lang/String" "coder" "B" (.int 0) q.1 A s s.heap ∧ va_OF "java/lang/String" "value" "[B" (.ref q.2) q.1 A s s.heap ∧ va_T .byte q.2 (sB i).length (fun j => vI (tl (sB i) j)) A s s.heap
  | 0 => by
    obtain ⟨a, b, h⟩ := str_of (A := A) (l := sB 0) (hts _ wsr_RX3_57) (fl_d hF sl_0) (by decide) hA
    exact ⟨(a, b), fun _ => h⟩
  | 1 => by
    obtain ⟨a, b, h⟩ := str_of (A := A) (l := sB 1) (hts _ wsr_RX3_79) (fl_d hF sl_1) (by decide) hA
    exact ⟨(a, b), fun _ => h⟩
  | 2 => by
    obtain ⟨a, b, h⟩ := str_of (A := A) (l := sB 2) (hts _ wsr_RX3_88) (fl_d hF sl_2) (by decide) hA
    exact ⟨(a, b), fun _ => h⟩
  | 3 => by
    obtain ⟨a, b, h⟩ := str_of (A := A) (l := sB 3) (hts _ wsr_RX8_91) (fl_d hF sl_3) (by decide) hA
    exact ⟨(a, b), fun _ => h⟩
  | 4 => by
    obtain ⟨a, b, h⟩ := str_of (A := A) (l := sB 4) (hts _ wsr_RX3_159) (fl_d hF sl_4) (by decide) hA
    exact ⟨(a, b), fun _ => h⟩
  | 5 => by
    obtain ⟨a, b, h⟩ := str_of (A := A) (l := sB 5) (hts _ wsr_RX3_163) (fl_d hF sl_5) (by decide) hA
    exact ⟨(a, b), fun _ => h⟩
  | 6 => by
    obtain ⟨a, b, h⟩ := str_of (A := A) (l := sB 6) (hts _ wsr_RX3_168) (fl_d hF sl_6) (by decide) hA
    exact ⟨(a, b), fun _ => h⟩
  | 7 => by
    obtain ⟨a, b, h⟩ := str_of (A := A) (l := sB 7) (hts _ wsr_RX3_172) (fl_d hF sl_7) (by decide) hA
    exact ⟨(a, b), fun _ => h⟩
  | 8 => by
    obtain ⟨a, b, h⟩ := str_of (A := A) (l := sB 8) (hts _ wsr_RX3_93) (fl_d hF sl_8) (by decide) hA
    exact ⟨(a, b), fun _ => h⟩
  | 9 => by
    obtain ⟨a, b, h⟩ := str_of (A := A) (l := sB 9) (hts _ wsr_RX3_176) (fl_d hF sl_9) (by decide) hA
    exact ⟨(a, b), fun _ => h⟩
  | 10 => by
    obtain ⟨a, b, h⟩ := str_of (A := A) (l := sB 10) (hts _ wsr_RX3_98) (fl_d hF sl_10) (by decide) hA
    exact ⟨(a, b), fun _ => h⟩
  | 11 => by
    obtain ⟨a, b, h⟩ := str_of (A := A) (l := sB 11) (hts _ wsr_RX3_185) (fl_d hF sl_11) (by decide) hA
    exact ⟨(a, b), fun _ => h⟩
  | 12 => by
    obtain ⟨a, b, h⟩ := str_of (A := A) (l := sB 12) (hts _ wsr_RX3_103) (fl_d hF sl_12) (by decide) hA
    exact ⟨(a, b), fun _ => h⟩
  | 13 => by
    obtain ⟨a, b, h⟩ := str_of (A := A) (l := sB 13) (hts _ wsr_RX3_190) (fl_d hF sl_13) (by decide) hA
    exact ⟨(a, b), fun _ => h⟩
  | 14 => by
    obtain ⟨a, b, h⟩ := str_of (A := A) (l := sB 14) (hts _ wsr_RX3_194) (fl_d hF sl_14) (by decide) hA
    exact ⟨(a, b), fun _ => h⟩
  | 15 => by
    obtain ⟨a, b, h⟩ := str_of (A := A) (l := sB 15) (hts _ wsr_RX3_204) (fl_d hF sl_15) (by decide) hA
    exact ⟨(a, b), fun _ => h⟩
  | 16 => by
    obtain ⟨a, b, h⟩ := str_of (A := A) (l := sB 16) (hts _ wsr_RX3_208) (fl_d hF sl_16) (by decide) hA
    exact ⟨(a, b), fun _ => h⟩
  | 17 => by
    obtain ⟨a, b, h⟩ := str_of (A := A) (l := sB 17) (hts _ wsr_RX3_212) (fl_d hF sl_17) (by decide) hA
    exact ⟨(a, b), fun _ => h⟩
  | 18 => by
    obtain ⟨a, b, h⟩ := str_of (A := A) (l := sB 18) (hts _ wsr_RX3_216) (fl_d hF sl_18) (by decide) hA
    exact ⟨(a, b), fun _ => h⟩
  | 19 => by
    obtain ⟨a, b, h⟩ := str_of (A := A) (l := sB 19) (hts _ wsr_RX3_108) (fl_d hF sl_19) (by decide) hA
    exact ⟨(a, b), fun _ => h⟩
  | 20 => by
    obtain ⟨a, b, h⟩ := str_of (A := A) (l := sB 20) (hts _ wsr_RX3_113) (fl_d hF sl_20) (by decide) hA
    exact ⟨(a, b), fun _ => h⟩
  | 21 => by
    obtain ⟨a, b, h⟩ := str_of (A := A) (l := sB 21) (hts _ wsr_RX5_48) (fl_d hF sl_21) (by decide) hA
    exact ⟨(a, b), fun _ => h⟩
  | 22 => by
    obtain ⟨a, b, h⟩ := str_of (A := A) (l := sB 22) (hts _ wsr_RX5_89) (fl_d hF sl_22) (by decide) hA
    exact ⟨(a, b), fun _ => h⟩
  | 23 => by
    obtain ⟨a, b, h⟩ := str_of (A := A) (l := sB 23) (hts _ wsr_RX5_91) (fl_d hF sl_23) (by decide) hA
    exact ⟨(a, b), fun _ => h⟩
  | 24 => by
    obtain ⟨a, b, h⟩ := str_of (A := A) (l := sB 24) (hts _ wsr_RX5_93) (fl_d hF sl_24) (by decide) hA
    exact ⟨(a, b), fun _ => h⟩
  | 25 => by
    obtain ⟨a, b, h⟩ := str_of (A := A) (l := sB 25) (hts _ wsr_RX5_95) (fl_d hF sl_25) (by decide) hA
    exact ⟨(a, b), fun _ => h⟩
  | 26 => by
    obtain ⟨a, b, h⟩ := str_of (A := A) (l := sB 26) (hts _ wsr_RX5_97) (fl_d hF sl_26) (by decide) hA
    exact ⟨(a, b), fun _ => h⟩
  | 27 => by
    obtain ⟨a, b, h⟩ := str_of (A := A) (l := sB 27) (hts _ wsr_RX5_99) (fl_d hF sl_27) (by decide) hA
    exact ⟨(a, b), fun _ => h⟩
  | 28 => by
    obtain ⟨a, b, h⟩ := str_of (A := A) (l := sB 28) (hts _ wsr_RX5_101) (fl_d hF sl_28) (by decide) hA
    exact ⟨(a, b), fun _ => h⟩
  | 29 => by
    obtain ⟨a, b, h⟩ := str_of (A := A) (l := sB 29) (hts _ wsr_RX5_103) (fl_d hF sl_29) (by decide) hA
    exact ⟨(a, b), fun _ => h⟩
  | 30 => by
    obtain ⟨a, b, h⟩ := str_of (A := A) (l := sB 30) (hts _ wsr_RX5_115) (fl_d hF sl_30) (by decide) hA
    exact ⟨(a, b), fun _ => h⟩
  | 31 => by
    obtain ⟨a, b, h⟩ := str_of (A := A) (l := sB 31) (hts _ wsr_RX5_120) (fl_d hF sl_31) (by decide) hA
    exact ⟨(a, b), fun _ => h⟩
  | 32 => by
    obtain ⟨a, b, h⟩ := str_of (A := A) (l := sB 32) (hts _ wsr_RX5_122) (fl_d hF sl_32) (by decide) hA
    exact ⟨(a, b), fun _ => h⟩
  | 33 => by
    obtain ⟨a, b, h⟩ := str_of (A := A) (l := sB 33) (hts _ wsr_RX12_194) (fl_d hF sl_33) (by decide) hA
    exact ⟨(a, b), fun _ => h⟩
  | 34 => by
    obtain ⟨a, b, h⟩ := str_of (A := A) (l := sB 34) (hts _ wsr_RX12_249) (fl_d hF sl_34) (by decide) hA
    exact ⟨(a, b), fun _ => h⟩
  | n + 35 => ⟨(0, 0), fun h => absurd (show n + 35 < 35 from h) (by omega)⟩
theorem B_of {args : Array Value} {s : State} (hts : ∀ w ∈ lw_tbl, w.before args s = true) (hg : (Jvm.Cond.and given_1 narrow_1).before args s = true) (D : va_G) (cs : Nat → ClassId) : ∃ (adK adV tad : Nat → Nat), Bg (s.heap.size, D, cs, adK, adV, tad) s := by
  have hF := fl_of hg
  have hA : ∀ a : Nat, a < s.heap.size → ¬ (fun q : Nat => s.heap.size ≤ q) a := fun a h => Nat.not_le.mpr h
  obtain ⟨tad, h2⟩ := Classical.axiomOfChoice (B2_of hts hF hA)
  obtain ⟨ad, h3⟩ := Classical.axiomOfChoice (B3_of hts hF hA)
  refine ⟨fun i => (ad i).1, fun i => (ad i).2, tad, N_of hts, h2, h3, ?_, ?_, va_AO.of (hts _ wao_FieldType_object__PoleRiver_Tray_), va_AO.of (hts _ wao_FieldType_object__PoleRiver_State_), hts _ wao_FieldType_array_FieldType_long⟩
  · exact va_Zof (hts _ wls_RJ0_COMPACT_STRINGS) (hts _ (List.mem_filter.mp wini_RJ0).1) (ev_of (hF _ (List.mem_of_getElem? (i := 4) (by decide +kernel)))) hA
  · exact va_Zqof (hts _ wls_RJ3_SIOOBE_FORMATTER) (hts _ (List.mem_filter.mp wini_RJ3).1) (hF _ (List.mem_of_getElem? (i := 5) (by decide +kernel))) hA
