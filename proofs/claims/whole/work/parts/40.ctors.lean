theorem pq_len {P Q : List Kd} {n : Int} {j : Nat} (hn : (P.length : Int) = n) (hq : Q.length = j) : ((P ++ Q).length : Int) = n + (j : Int) := by
  rw [List.length_append, hq, ← hn]
  rfl
theorem pq_at {P Q : List Kd} {n : Int} {j : Nat} {k : Kd} (hn : (P.length : Int) = n) (hq : Q[j]? = some k) : At (P ++ Q) (n + (j : Int)) k := by
  subst hn
  refine ⟨by omega, ?_⟩
  rw [show ((P.length : Int) + (j : Int)).toNat = P.length + j from by omega, List.getElem?_append_right (by omega), Nat.add_sub_cancel_left]
  exact hq
theorem pq_at0 {P Q : List Kd} {n : Int} {k : Kd} (hn : (P.length : Int) = n) (hq : Q[0]? = some k) : At (P ++ Q) n k := by
  have h := pq_at hn hq
  rwa [show n + ((0 : Nat) : Int) = n from by omega] at h
theorem pq_set0 {P Q Q' : List Kd} {n : Int} {k : Kd} (hn : (P.length : Int) = n) (hq : Q.set 0 k = Q') : (P ++ Q).set n.toNat k = P ++ Q' := by
  subst hn hq
  rw [show ((P.length : Int)).toNat = P.length from rfl, List.set_append_right _ _ (Nat.le_refl _), Nat.sub_self]
theorem pq_app {P Q Q' : List Kd} {k : List Kd} (h : Q ++ k = Q') : (P ++ Q) ++ k = P ++ Q' := by rw [List.append_assoc, h]
theorem pq_sz {P Q : List Kd} {a b c : Nat} {k : Kd} (h : a = b + (P ++ [k]).length) (hq : 1 + c = Q.length) : a + c = b + (P ++ Q).length := by
  rw [List.length_append] at h ⊢
  have : [k].length = 1 := rfl
  omega
theorem pq_pos {P Q : List Kd} {k : Kd} (h : Q[0]? = some k) : 0 < (P ++ Q).length := by
  rw [List.length_append]
  have := (List.getElem?_eq_some_iff.mp h).1
  omega
theorem Kc.cast {l : Launch} {V : Ev} {y : MethodName} {cw : Cond} {fr mc ms lo : Nat} {vs : List Value} {L L1 L' L1' : List Kd} {X X' : Mem} (h : Kc l V y cw fr mc ms lo vs L X L' X') (e : L = L1) (e' : L' = L1') : Kc l V y cw fr mc ms lo vs L1 X L1' X' := by subst e e'; exact h
theorem lk_0 {L : List Kd} {k : Kd} {i : Nat} {z : Int} (h : L[i]? = some k) (hz : (i : Int) = z) : At L z k := by
  subst hz
  exact ⟨by omega, h⟩
def cR (n : Int) : List Kd := [(2, shR n), (100, [60]), (100, [60]), (100, [12]), (101, [5]), (100, [5]), (100, [5]), (100, [5]), (100, [5]), (100, [5])]
def cU (n : Int) : List Kd := [(4, [-1, -1, n + 1, n + 2, n + 3, n + 4]), (100, [60]), (100, [60]), (100, [60]), (100, [60])]
def cS (n : Int) : List Kd := [(7, [-3, -3, n + 16, -1, -1])] ++ cR (n + 1) ++ cU (n + 11) ++ [(101, [32])]
def cT (n : Int) : List Kd := [(10, [n + 1, -1, -1]), (101, [60])]
def xU (n : Int) (X : Mem) : Mem := ms (ms X n 0 0) n 1 0
def xS (n : Int) (X : Mem) : Mem := ms (ms (ms (xU (n + 11) (ms (clr (n + 1) X) n 0 (n + 1))) n 1 (n + 11)) n 3 0) n 4 0
def xT (n : Int) (X : Mem) : Mem := ms (ms X n 1 (-1)) n 2 0
theorem clr_ne {r i : Int} {X : Mem} (h : i < r ∨ r + 4 ≤ i) : clr r X i = X i := by
  unfold clr
  rw [ma_ne (by omega), ma_ne (by omega), ma_ne (by omega), ma_ne (by omega)]
theorem xU_ne {n i : Int} {X : Mem} (h : i ≠ n) : xU n X i = X i := by
  unfold xU
  rw [ms_ne h, ms_ne h]
theorem xS_ne {n i : Int} {X : Mem} (h : i < n ∨ n + 17 ≤ i) : xS n X i = X i := by
  unfold xS
  rw [ms_ne (by omega), ms_ne (by omega), ms_ne (by omega), xU_ne (by omega), ms_ne (by omega), clr_ne (by omega)]
theorem xT_ne {n i : Int} {X : Mem} (h : i ≠ n) : xT n X i = X i := by
  unfold xT
  rw [ms_ne h, ms_ne h]
theorem riv_c {P : List Kd} {n : Int} (hn : (P.length : Int) = n) : isRiver (P ++ cR n) n :=
  ⟨pq_at0 hn rfl, pq_at (j := 1) hn rfl, pq_at (j := 2) hn rfl, pq_at (j := 3) hn rfl, pq_at (j := 4) hn rfl, pq_at (j := 5) hn rfl, pq_at (j := 6) hn rfl, pq_at (j := 7) hn rfl, pq_at (j := 8) hn rfl, pq_at (j := 9) hn rfl⟩
theorem at_app {P Q : List Kd} {r : Int} (h : isState P r) : At (P ++ Q) r (7, [-3, -3, r + 16, -1, -1]) := ⟨h.1.1, by rw [List.getElem?_append_left (List.getElem?_eq_some_iff.mp h.1.2).1]; exact h.1.2⟩
set_option maxRecDepth 20000 in
theorem kc_X2 (l : Launch) (V : Ev) (P : List Kd) (n : Int) (hn : (P.length : Int) = n) (X : Mem) (hz : ∀ i k : Int, n ≤ i → X i k = 0) : Kc l V yX2_init (.code yX2_init cX2_init 1 none) 2 9 162 43 [vR V.1 n] (P ++ [(2, [(-1), (-1), (-1), (-1), (-1), (-1), (-1), (-1), (-1), (-1), (-1), (-4), (-4), (-4), (-4), (-4), (-4), (-4), (-4), (-4)])]) X (P ++ cR n) (clr n X) := by
  have hn0 : 0 ≤ n := by omega
  refine kc_of (own := RX2) (lv0 := [(0, vR V.1 n)]) (by decide) rfl rfl (Nat.le_of_ble_eq_true rfl) rfl (fun C hCl hC hR hsz hcc hcs hnm => ?_)
  subst hCl
  have hb : V.1 ≤ C.2.2.2.2.1.heap.size := by omega
  refine g_aload_n (q := 0) hC dX2_init_0 rfl rfl rfl ?_
  refine g_oinit hC wml_RX2_3 (by decide) (Nat.le_of_ble_eq_true rfl) dX2_init_1 ?_
  refine g_aload_n (q := 0) hC dX2_init_4 rfl rfl rfl ?_
  refine g_bipush (v := vI 60) hC dX2_init_5 rfl ?_
  refine g_newi (tag := 100) (t0 := 0) (atype := .int) (ix := 0) (i := n + 1) (L' := P ++ ([(2, [(-1), (-1), (-1), (-1), (-1), (-1), (-1), (-1), (-1), (-1), (-1), (-4), (-4), (-4), (-4), (-4), (-4), (-4), (-4), (-4)]), (100, [60])] : List Kd)) hC (by decide) war_FieldType_int rfl rfl (fun _ _ => rfl) rfl ⟨by decide, by decide⟩ (Nat.le_of_ble_eq_true rfl) (fun k => hz _ _ (by omega)) (pq_len hn (j := 1) rfl) (pq_app rfl) (pq_sz hsz rfl) hb (by rw [hcc]; exact Nat.le_of_ble_eq_true rfl) (by rw [hcs]; exact Nat.le_of_ble_eq_true rfl) dX2_init_7 ?_
  refine g_putP (k := 11) (L' := P ++ ([(2, [(-1), (-1), (-1), (-1), (-1), (-1), (-1), (-1), (-1), (-1), (-1), n + 1, (-4), (-4), (-4), (-4), (-4), (-4), (-4), (-4)]), (100, [60])] : List Kd)) hC cf_X2 (pq_at0 hn rfl) (by decide) (by omega) (by decide) (Nat.le_of_ble_eq_true rfl) wf_RX2_9 hnm rfl rfl (Or.inr ⟨_, rfl⟩) (pq_set0 hn rfl) dX2_init_9 ?_
  refine g_aload_n (q := 0) hC dX2_init_12 rfl rfl rfl ?_
  refine g_bipush (v := vI 60) hC dX2_init_13 rfl ?_
  refine g_newi (tag := 100) (t0 := 0) (atype := .int) (ix := 0) (i := n + 2) (L' := P ++ ([(2, [(-1), (-1), (-1), (-1), (-1), (-1), (-1), (-1), (-1), (-1), (-1), n + 1, (-4), (-4), (-4), (-4), (-4), (-4), (-4), (-4)]), (100, [60]), (100, [60])] : List Kd)) hC (by decide) war_FieldType_int rfl rfl (fun _ _ => rfl) rfl ⟨by decide, by decide⟩ (Nat.le_of_ble_eq_true rfl) (fun k => hz _ _ (by omega)) (pq_len hn (j := 2) rfl) (pq_app rfl) (pq_sz hsz rfl) hb (by rw [hcc]; exact Nat.le_of_ble_eq_true rfl) (by rw [hcs]; exact Nat.le_of_ble_eq_true rfl) dX2_init_15 ?_
  refine g_putP (k := 12) (L' := P ++ ([(2, [(-1), (-1), (-1), (-1), (-1), (-1), (-1), (-1), (-1), (-1), (-1), n + 1, n + 2, (-4), (-4), (-4), (-4), (-4), (-4), (-4)]), (100, [60]), (100, [60])] : List Kd)) hC cf_X2 (pq_at0 hn rfl) (by decide) (by omega) (by decide) (Nat.le_of_ble_eq_true rfl) wf_RX2_15 hnm rfl rfl (Or.inr ⟨_, rfl⟩) (pq_set0 hn rfl) dX2_init_17 ?_
  refine g_aload_n (q := 0) hC dX2_init_20 rfl rfl rfl ?_
  refine g_bipush (v := vI 12) hC dX2_init_21 rfl ?_
  refine g_newi (tag := 100) (t0 := 0) (atype := .int) (ix := 0) (i := n + 3) (L' := P ++ ([(2, [(-1), (-1), (-1), (-1), (-1), (-1), (-1), (-1), (-1), (-1), (-1), n + 1, n + 2, (-4), (-4), (-4), (-4), (-4), (-4), (-4)]), (100, [60]), (100, [60]), (100, [12])] : List Kd)) hC (by decide) war_FieldType_int rfl rfl (fun _ _ => rfl) rfl ⟨by decide, by decide⟩ (Nat.le_of_ble_eq_true rfl) (fun k => hz _ _ (by omega)) (pq_len hn (j := 3) rfl) (pq_app rfl) (pq_sz hsz rfl) hb (by rw [hcc]; exact Nat.le_of_ble_eq_true rfl) (by rw [hcs]; exact Nat.le_of_ble_eq_true rfl) dX2_init_23 ?_
  refine g_putP (k := 13) (L' := P ++ ([(2, [(-1), (-1), (-1), (-1), (-1), (-1), (-1), (-1), (-1), (-1), (-1), n + 1, n + 2, n + 3, (-4), (-4), (-4), (-4), (-4), (-4)]), (100, [60]), (100, [60]), (100, [12])] : List Kd)) hC cf_X2 (pq_at0 hn rfl) (by decide) (by omega) (by decide) (Nat.le_of_ble_eq_true rfl) wf_RX2_18 hnm rfl rfl (Or.inr ⟨_, rfl⟩) (pq_set0 hn rfl) dX2_init_25 ?_
  refine g_aload_n (q := 0) hC dX2_init_28 rfl rfl rfl ?_
  refine g_iconst (v := vI 5) hC dX2_init_29 rfl ?_
  refine g_newl (i := n + 4) (L' := P ++ ([(2, [(-1), (-1), (-1), (-1), (-1), (-1), (-1), (-1), (-1), (-1), (-1), n + 1, n + 2, n + 3, (-4), (-4), (-4), (-4), (-4), (-4)]), (100, [60]), (100, [60]), (100, [12]), (101, [5])] : List Kd)) hC ⟨by decide, by decide⟩ (fun k => hz _ _ (by omega)) (pq_len hn (j := 4) rfl) (pq_app rfl) (pq_sz hsz rfl) hb (by rw [hcc]; exact Nat.le_of_ble_eq_true rfl) (by rw [hcs]; exact Nat.le_of_ble_eq_true rfl) dX2_init_30 ?_
  refine g_putP (k := 14) (L' := P ++ ([(2, [(-1), (-1), (-1), (-1), (-1), (-1), (-1), (-1), (-1), (-1), (-1), n + 1, n + 2, n + 3, n + 4, (-4), (-4), (-4), (-4), (-4)]), (100, [60]), (100, [60]), (100, [12]), (101, [5])] : List Kd)) hC cf_X2 (pq_at0 hn rfl) (by decide) (by omega) (by decide) (Nat.le_of_ble_eq_true rfl) wf_RX2_21 hnm rfl rfl (Or.inr ⟨_, rfl⟩) (pq_set0 hn rfl) dX2_init_32 ?_
  refine g_aload_n (q := 0) hC dX2_init_35 rfl rfl rfl ?_
  refine g_iconst (v := vI 5) hC dX2_init_36 rfl ?_
  refine g_newi (tag := 100) (t0 := 0) (atype := .int) (ix := 0) (i := n + 5) (L' := P ++ ([(2, [(-1), (-1), (-1), (-1), (-1), (-1), (-1), (-1), (-1), (-1), (-1), n + 1, n + 2, n + 3, n + 4, (-4), (-4), (-4), (-4), (-4)]), (100, [60]), (100, [60]), (100, [12]), (101, [5]), (100, [5])] : List Kd)) hC (by decide) war_FieldType_int rfl rfl (fun _ _ => rfl) rfl ⟨by decide, by decide⟩ (Nat.le_of_ble_eq_true rfl) (fun k => hz _ _ (by omega)) (pq_len hn (j := 5) rfl) (pq_app rfl) (pq_sz hsz rfl) hb (by rw [hcc]; exact Nat.le_of_ble_eq_true rfl) (by rw [hcs]; exact Nat.le_of_ble_eq_true rfl) dX2_init_37 ?_
  refine g_putP (k := 15) (L' := P ++ ([(2, [(-1), (-1), (-1), (-1), (-1), (-1), (-1), (-1), (-1), (-1), (-1), n + 1, n + 2, n + 3, n + 4, n + 5, (-4), (-4), (-4), (-4)]), (100, [60]), (100, [60]), (100, [12]), (101, [5]), (100, [5])] : List Kd)) hC cf_X2 (pq_at0 hn rfl) (by decide) (by omega) (by decide) (Nat.le_of_ble_eq_true rfl) wf_RX2_25 hnm rfl rfl (Or.inr ⟨_, rfl⟩) (pq_set0 hn rfl) dX2_init_39 ?_
  refine g_aload_n (q := 0) hC dX2_init_42 rfl rfl rfl ?_
  refine g_iconst (v := vI 5) hC dX2_init_43 rfl ?_
  refine g_newi (tag := 100) (t0 := 0) (atype := .int) (ix := 0) (i := n + 6) (L' := P ++ ([(2, [(-1), (-1), (-1), (-1), (-1), (-1), (-1), (-1), (-1), (-1), (-1), n + 1, n + 2, n + 3, n + 4, n + 5, (-4), (-4), (-4), (-4)]), (100, [60]), (100, [60]), (100, [12]), (101, [5]), (100, [5]), (100, [5])] : List Kd)) hC (by decide) war_FieldType_int rfl rfl (fun _ _ => rfl) rfl ⟨by decide, by decide⟩ (Nat.le_of_ble_eq_true rfl) (fun k => hz _ _ (by omega)) (pq_len hn (j := 6) rfl) (pq_app rfl) (pq_sz hsz rfl) hb (by rw [hcc]; exact Nat.le_of_ble_eq_true rfl) (by rw [hcs]; exact Nat.le_of_ble_eq_true rfl) dX2_init_44 ?_
  refine g_putP (k := 16) (L' := P ++ ([(2, [(-1), (-1), (-1), (-1), (-1), (-1), (-1), (-1), (-1), (-1), (-1), n + 1, n + 2, n + 3, n + 4, n + 5, n + 6, (-4), (-4), (-4)]), (100, [60]), (100, [60]), (100, [12]), (101, [5]), (100, [5]), (100, [5])] : List Kd)) hC cf_X2 (pq_at0 hn rfl) (by decide) (by omega) (by decide) (Nat.le_of_ble_eq_true rfl) wf_RX2_28 hnm rfl rfl (Or.inr ⟨_, rfl⟩) (pq_set0 hn rfl) dX2_init_46 ?_
  refine g_aload_n (q := 0) hC dX2_init_49 rfl rfl rfl ?_
  refine g_iconst (v := vI 5) hC dX2_init_50 rfl ?_
  refine g_newi (tag := 100) (t0 := 0) (atype := .int) (ix := 0) (i := n + 7) (L' := P ++ ([(2, [(-1), (-1), (-1), (-1), (-1), (-1), (-1), (-1), (-1), (-1), (-1), n + 1, n + 2, n + 3, n + 4, n + 5, n + 6, (-4), (-4), (-4)]), (100, [60]), (100, [60]), (100, [12]), (101, [5]), (100, [5]), (100, [5]), (100, [5])] : List Kd)) hC (by decide) war_FieldType_int rfl rfl (fun _ _ => rfl) rfl ⟨by decide, by decide⟩ (Nat.le_of_ble_eq_true rfl) (fun k => hz _ _ (by omega)) (pq_len hn (j := 7) rfl) (pq_app rfl) (pq_sz hsz rfl) hb (by rw [hcc]; exact Nat.le_of_ble_eq_true rfl) (by rw [hcs]; exact Nat.le_of_ble_eq_true rfl) dX2_init_51 ?_
  refine g_putP (k := 17) (L' := P ++ ([(2, [(-1), (-1), (-1), (-1), (-1), (-1), (-1), (-1), (-1), (-1), (-1), n + 1, n + 2, n + 3, n + 4, n + 5, n + 6, n + 7, (-4), (-4)]), (100, [60]), (100, [60]), (100, [12]), (101, [5]), (100, [5]), (100, [5]), (100, [5])] : List Kd)) hC cf_X2 (pq_at0 hn rfl) (by decide) (by omega) (by decide) (Nat.le_of_ble_eq_true rfl) wf_RX2_31 hnm rfl rfl (Or.inr ⟨_, rfl⟩) (pq_set0 hn rfl) dX2_init_53 ?_
  refine g_aload_n (q := 0) hC dX2_init_56 rfl rfl rfl ?_
  refine g_iconst (v := vI 5) hC dX2_init_57 rfl ?_
  refine g_newi (tag := 100) (t0 := 0) (atype := .int) (ix := 0) (i := n + 8) (L' := P ++ ([(2, [(-1), (-1), (-1), (-1), (-1), (-1), (-1), (-1), (-1), (-1), (-1), n + 1, n + 2, n + 3, n + 4, n + 5, n + 6, n + 7, (-4), (-4)]), (100, [60]), (100, [60]), (100, [12]), (101, [5]), (100, [5]), (100, [5]), (100, [5]), (100, [5])] : List Kd)) hC (by decide) war_FieldType_int rfl rfl (fun _ _ => rfl) rfl ⟨by decide, by decide⟩ (Nat.le_of_ble_eq_true rfl) (fun k => hz _ _ (by omega)) (pq_len hn (j := 8) rfl) (pq_app rfl) (pq_sz hsz rfl) hb (by rw [hcc]; exact Nat.le_of_ble_eq_true rfl) (by rw [hcs]; exact Nat.le_of_ble_eq_true rfl) dX2_init_58 ?_
  refine g_putP (k := 18) (L' := P ++ ([(2, [(-1), (-1), (-1), (-1), (-1), (-1), (-1), (-1), (-1), (-1), (-1), n + 1, n + 2, n + 3, n + 4, n + 5, n + 6, n + 7, n + 8, (-4)]), (100, [60]), (100, [60]), (100, [12]), (101, [5]), (100, [5]), (100, [5]), (100, [5]), (100, [5])] : List Kd)) hC cf_X2 (pq_at0 hn rfl) (by decide) (by omega) (by decide) (Nat.le_of_ble_eq_true rfl) wf_RX2_34 hnm rfl rfl (Or.inr ⟨_, rfl⟩) (pq_set0 hn rfl) dX2_init_60 ?_
  refine g_aload_n (q := 0) hC dX2_init_63 rfl rfl rfl ?_
  refine g_iconst (v := vI 5) hC dX2_init_64 rfl ?_
  refine g_newi (tag := 100) (t0 := 0) (atype := .int) (ix := 0) (i := n + 9) (L' := P ++ ([(2, [(-1), (-1), (-1), (-1), (-1), (-1), (-1), (-1), (-1), (-1), (-1), n + 1, n + 2, n + 3, n + 4, n + 5, n + 6, n + 7, n + 8, (-4)]), (100, [60]), (100, [60]), (100, [12]), (101, [5]), (100, [5]), (100, [5]), (100, [5]), (100, [5]), (100, [5])] : List Kd)) hC (by decide) war_FieldType_int rfl rfl (fun _ _ => rfl) rfl ⟨by decide, by decide⟩ (Nat.le_of_ble_eq_true rfl) (fun k => hz _ _ (by omega)) (pq_len hn (j := 9) rfl) (pq_app rfl) (pq_sz hsz rfl) hb (by rw [hcc]; exact Nat.le_of_ble_eq_true rfl) (by rw [hcs]; exact Nat.le_of_ble_eq_true rfl) dX2_init_65 ?_
  refine g_putP (k := 19) (L' := P ++ ([(2, [(-1), (-1), (-1), (-1), (-1), (-1), (-1), (-1), (-1), (-1), (-1), n + 1, n + 2, n + 3, n + 4, n + 5, n + 6, n + 7, n + 8, n + 9]), (100, [60]), (100, [60]), (100, [12]), (101, [5]), (100, [5]), (100, [5]), (100, [5]), (100, [5]), (100, [5])] : List Kd)) hC cf_X2 (pq_at0 hn rfl) (by decide) (by omega) (by decide) (Nat.le_of_ble_eq_true rfl) wf_RX2_37 hnm rfl rfl (Or.inr ⟨_, rfl⟩) (pq_set0 hn rfl) dX2_init_67 ?_
  refine g_aload_n (q := 0) hC dX2_init_70 rfl rfl rfl ?_
  refine g_callVX (As := []) hC mv_X2_clear wml_RX2_40 (k_X2_clear _ V n _ (riv_c hn)) clear_eq cf_X2 (pq_at0 hn rfl) (by decide) ⟨by rw [hcc]; exact Nat.le_of_ble_eq_true rfl, by rw [hcs]; exact Nat.le_of_ble_eq_true rfl⟩ rfl rfl ⟨Nat.le_of_ble_eq_true rfl, Nat.le_of_ble_eq_true rfl⟩ (Nat.le_of_ble_eq_true rfl) dX2_init_71 ?_
  exact g_cret hC hR dX2_init_74
set_option maxRecDepth 20000 in
theorem kc_X4 (l : Launch) (V : Ev) (P : List Kd) (n : Int) (hn : (P.length : Int) = n) (X : Mem) (hz : ∀ i k : Int, n ≤ i → X i k = 0) : Kc l V yX4_init (.code yX4_init cX4_init 1 none) 1 4 240 14 [vR V.1 n] (P ++ [(4, [(-1), (-1), (-4), (-4), (-4), (-4)])]) X (P ++ cU n) (xU n X) := by
  have hn0 : 0 ≤ n := by omega
  refine kc_of (own := RX4) (lv0 := [(0, vR V.1 n)]) (by decide) rfl rfl (Nat.le_of_ble_eq_true rfl) rfl (fun C hCl hC hR hsz hcc hcs hnm => ?_)
  subst hCl
  have hb : V.1 ≤ C.2.2.2.2.1.heap.size := by omega
  refine g_aload_n (q := 0) hC dX4_init_0 rfl rfl rfl ?_
  refine g_oinit hC wml_RX4_3 (by decide) (Nat.le_of_ble_eq_true rfl) dX4_init_1 ?_
  refine g_aload_n (q := 0) hC dX4_init_4 rfl rfl rfl ?_
  refine g_iconst (v := vI 0) hC dX4_init_5 rfl ?_
  refine g_put (k := 0) (y := 0) hC cf_X4 (pq_at0 hn rfl) (by decide) rfl (by decide) wf_RX4_9 (shv_I _ _) rfl rfl rfl rfl dX4_init_6 ?_
  refine g_aload_n (q := 0) hC dX4_init_9 rfl rfl rfl ?_
  refine g_iconst (v := vI 0) hC dX4_init_10 rfl ?_
  refine g_put (k := 1) (y := 0) hC cf_X4 (pq_at0 hn rfl) (by decide) rfl (by decide) wf_RX4_15 (shv_I _ _) rfl rfl rfl rfl dX4_init_11 ?_
  refine g_aload_n (q := 0) hC dX4_init_14 rfl rfl rfl ?_
  refine g_bipush (v := vI 60) hC dX4_init_15 rfl ?_
  refine g_newi (tag := 100) (t0 := 0) (atype := .int) (ix := 0) (i := n + 1) (L' := P ++ ([(4, [(-1), (-1), (-4), (-4), (-4), (-4)]), (100, [60])] : List Kd)) hC (by decide) war_FieldType_int rfl rfl (fun _ _ => rfl) rfl ⟨by decide, by decide⟩ (Nat.le_of_ble_eq_true rfl) (fun k => by rw [ms_ne (by omega), ms_ne (by omega)]; exact hz _ _ (by omega)) (pq_len hn (j := 1) rfl) (pq_app rfl) (pq_sz hsz rfl) hb (by rw [hcc]; exact Nat.le_of_ble_eq_true rfl) (by rw [hcs]; exact Nat.le_of_ble_eq_true rfl) dX4_init_17 ?_
  refine g_putP (k := 2) (L' := P ++ ([(4, [(-1), (-1), n + 1, (-4), (-4), (-4)]), (100, [60])] : List Kd)) hC cf_X4 (pq_at0 hn rfl) (by decide) (by omega) (by decide) (Nat.le_of_ble_eq_true rfl) wf_RX4_18 hnm rfl rfl (Or.inr ⟨_, rfl⟩) (pq_set0 hn rfl) dX4_init_19 ?_
  refine g_aload_n (q := 0) hC dX4_init_22 rfl rfl rfl ?_
  refine g_bipush (v := vI 60) hC dX4_init_23 rfl ?_
  refine g_newi (tag := 100) (t0 := 0) (atype := .int) (ix := 0) (i := n + 2) (L' := P ++ ([(4, [(-1), (-1), n + 1, (-4), (-4), (-4)]), (100, [60]), (100, [60])] : List Kd)) hC (by decide) war_FieldType_int rfl rfl (fun _ _ => rfl) rfl ⟨by decide, by decide⟩ (Nat.le_of_ble_eq_true rfl) (fun k => by rw [ms_ne (by omega), ms_ne (by omega)]; exact hz _ _ (by omega)) (pq_len hn (j := 2) rfl) (pq_app rfl) (pq_sz hsz rfl) hb (by rw [hcc]; exact Nat.le_of_ble_eq_true rfl) (by rw [hcs]; exact Nat.le_of_ble_eq_true rfl) dX4_init_25 ?_
  refine g_putP (k := 3) (L' := P ++ ([(4, [(-1), (-1), n + 1, n + 2, (-4), (-4)]), (100, [60]), (100, [60])] : List Kd)) hC cf_X4 (pq_at0 hn rfl) (by decide) (by omega) (by decide) (Nat.le_of_ble_eq_true rfl) wf_RX4_22 hnm rfl rfl (Or.inr ⟨_, rfl⟩) (pq_set0 hn rfl) dX4_init_27 ?_
  refine g_aload_n (q := 0) hC dX4_init_30 rfl rfl rfl ?_
  refine g_bipush (v := vI 60) hC dX4_init_31 rfl ?_
  refine g_newi (tag := 100) (t0 := 0) (atype := .int) (ix := 0) (i := n + 3) (L' := P ++ ([(4, [(-1), (-1), n + 1, n + 2, (-4), (-4)]), (100, [60]), (100, [60]), (100, [60])] : List Kd)) hC (by decide) war_FieldType_int rfl rfl (fun _ _ => rfl) rfl ⟨by decide, by decide⟩ (Nat.le_of_ble_eq_true rfl) (fun k => by rw [ms_ne (by omega), ms_ne (by omega)]; exact hz _ _ (by omega)) (pq_len hn (j := 3) rfl) (pq_app rfl) (pq_sz hsz rfl) hb (by rw [hcc]; exact Nat.le_of_ble_eq_true rfl) (by rw [hcs]; exact Nat.le_of_ble_eq_true rfl) dX4_init_33 ?_
  refine g_putP (k := 4) (L' := P ++ ([(4, [(-1), (-1), n + 1, n + 2, n + 3, (-4)]), (100, [60]), (100, [60]), (100, [60])] : List Kd)) hC cf_X4 (pq_at0 hn rfl) (by decide) (by omega) (by decide) (Nat.le_of_ble_eq_true rfl) wf_RX4_25 hnm rfl rfl (Or.inr ⟨_, rfl⟩) (pq_set0 hn rfl) dX4_init_35 ?_
  refine g_aload_n (q := 0) hC dX4_init_38 rfl rfl rfl ?_
  refine g_bipush (v := vI 60) hC dX4_init_39 rfl ?_
  refine g_newi (tag := 100) (t0 := 0) (atype := .int) (ix := 0) (i := n + 4) (L' := P ++ ([(4, [(-1), (-1), n + 1, n + 2, n + 3, (-4)]), (100, [60]), (100, [60]), (100, [60]), (100, [60])] : List Kd)) hC (by decide) war_FieldType_int rfl rfl (fun _ _ => rfl) rfl ⟨by decide, by decide⟩ (Nat.le_of_ble_eq_true rfl) (fun k => by rw [ms_ne (by omega), ms_ne (by omega)]; exact hz _ _ (by omega)) (pq_len hn (j := 4) rfl) (pq_app rfl) (pq_sz hsz rfl) hb (by rw [hcc]; exact Nat.le_of_ble_eq_true rfl) (by rw [hcs]; exact Nat.le_of_ble_eq_true rfl) dX4_init_41 ?_
  refine g_putP (k := 5) (L' := P ++ ([(4, [(-1), (-1), n + 1, n + 2, n + 3, n + 4]), (100, [60]), (100, [60]), (100, [60]), (100, [60])] : List Kd)) hC cf_X4 (pq_at0 hn rfl) (by decide) (by omega) (by decide) (Nat.le_of_ble_eq_true rfl) wf_RX4_28 hnm rfl rfl (Or.inr ⟨_, rfl⟩) (pq_set0 hn rfl) dX4_init_43 ?_
  exact g_cret hC hR dX4_init_46
set_option maxRecDepth 20000 in
theorem kc_X7 (l : Launch) (V : Ev) (P : List Kd) (n : Int) (hn : (P.length : Int) = n) (X : Mem) (hz : ∀ i k : Int, n ≤ i → X i k = 0) : Kc l V yX7_init (.code yX7_init cX7_init 1 none) 3 16 460 63 [vR V.1 n] (P ++ [(7, [(-4), (-4), (-4), (-1), (-1)])]) X (P ++ cS n) (xS n X) := by
  have hn0 : 0 ≤ n := by omega
  refine kc_of (own := RX7) (lv0 := [(0, vR V.1 n)]) (by decide) rfl rfl (Nat.le_of_ble_eq_true rfl) rfl (fun C hCl hC hR hsz hcc hcs hnm => ?_)
  subst hCl
  have hb : V.1 ≤ C.2.2.2.2.1.heap.size := by omega
  refine g_aload_n (q := 0) hC dX7_init_0 rfl rfl rfl ?_
  refine g_oinit hC wml_RX7_3 (by decide) (Nat.le_of_ble_eq_true rfl) dX7_init_1 ?_
  refine g_aload_n (q := 0) hC dX7_init_4 rfl rfl rfl ?_
  refine g_newo (i := n + 1) (sh0 := [(-1), (-1), (-1), (-1), (-1), (-1), (-1), (-1), (-1), (-1), (-1), (-4), (-4), (-4), (-4), (-4), (-4), (-4), (-4), (-4)]) (L' := P ++ ([(7, [(-4), (-4), (-4), (-1), (-1)]), (2, [(-1), (-1), (-1), (-1), (-1), (-1), (-1), (-1), (-1), (-1), (-1), (-4), (-4), (-4), (-4), (-4), (-4), (-4), (-4), (-4)])] : List Kd)) hC cf_X2 wcl_RX7_9 wnew_RX2 wini_RX2 (by decide) (by decide) (by decide +kernel) (fun k => hz _ _ (by omega)) (pq_len hn (j := 1) rfl) (pq_app rfl) (pq_sz hsz rfl) hb (by rw [hcc]; exact Nat.le_of_ble_eq_true rfl) (by rw [hcs]; exact Nat.le_of_ble_eq_true rfl) dX7_init_5 ?_
  refine g_dup hC dX7_init_8 rfl ?_
  refine g_init (As := []) (L' := P ++ ([(7, [(-4), (-4), (-4), (-1), (-1)])] ++ cR (n + 1) : List Kd)) (mc := 9) (ms := 162) (fr1 := 2) (lo1 := 43) hC wi_yX2_init wini_RX2 wc_yX2_init rfl (by decide +kernel) (Or.inl wml_RX7_11) ((kc_X2 _ V (P ++ ([(7, [(-4), (-4), (-4), (-1), (-1)])] : List Kd)) (n + 1) (pq_len hn (j := 1) rfl) X (fun i k hi => hz _ _ (by omega))).cast (pq_app rfl) (pq_app rfl)) (pq_sz hsz rfl) (pq_pos rfl) ⟨by rw [hcc]; exact Nat.le_of_ble_eq_true rfl, by rw [hcs]; exact Nat.le_of_ble_eq_true rfl⟩ rfl rfl ⟨Nat.le_of_ble_eq_true rfl, Nat.le_of_ble_eq_true rfl⟩ (Nat.le_of_ble_eq_true rfl) dX7_init_9 ?_
  refine g_putPD (k := 0) (L' := P ++ ([(7, [(-3), (-4), (-4), (-1), (-1)])] ++ cR (n + 1) : List Kd)) hC cf_X7 (pq_at0 hn rfl) (by decide) (by decide) (Nat.le_of_ble_eq_true rfl) wf_RX7_12 rfl rfl (pq_set0 hn rfl) dX7_init_12 ?_
  refine g_aload_n (q := 0) hC dX7_init_15 rfl rfl rfl ?_
  refine g_newo (i := n + 11) (sh0 := [(-1), (-1), (-4), (-4), (-4), (-4)]) (L' := P ++ ([(7, [(-3), (-4), (-4), (-1), (-1)])] ++ cR (n + 1) ++ [(4, [(-1), (-1), (-4), (-4), (-4), (-4)])] : List Kd)) hC cf_X4 wcl_RX7_18 wnew_RX4 wini_RX4 (by decide) (by decide) (by decide +kernel) (fun k => by rw [ms_ne (by omega), clr_ne (by omega)]; exact hz _ _ (by omega)) (pq_len hn (j := 11) rfl) (pq_app rfl) (pq_sz hsz rfl) hb (by rw [hcc]; exact Nat.le_of_ble_eq_true rfl) (by rw [hcs]; exact Nat.le_of_ble_eq_true rfl) dX7_init_16 ?_
  refine g_dup hC dX7_init_19 rfl ?_
  refine g_init (As := []) (L' := P ++ ([(7, [(-3), (-4), (-4), (-1), (-1)])] ++ cR (n + 1) ++ cU (n + 11) : List Kd)) (mc := 4) (ms := 240) (fr1 := 1) (lo1 := 14) hC wi_yX4_init wini_RX4 wc_yX4_init rfl (by decide +kernel) (Or.inr ⟨_, nl_1⟩) ((kc_X4 _ V (P ++ ([(7, [(-3), (-4), (-4), (-1), (-1)])] ++ cR (n + 1) : List Kd)) (n + 11) (pq_len hn (j := 11) rfl) (ms (clr (n + 1) X) n 0 (n + 1)) (fun i k hi => by rw [ms_ne (by omega), clr_ne (by omega)]; exact hz _ _ (by omega))).cast (pq_app rfl) (pq_app rfl)) (pq_sz hsz rfl) (pq_pos rfl) ⟨by rw [hcc]; exact Nat.le_of_ble_eq_true rfl, by rw [hcs]; exact Nat.le_of_ble_eq_true rfl⟩ rfl rfl ⟨Nat.le_of_ble_eq_true rfl, Nat.le_of_ble_eq_true rfl⟩ (Nat.le_of_ble_eq_true rfl) dX7_init_20 ?_
  refine g_putPD (k := 1) (L' := P ++ ([(7, [(-3), (-3), (-4), (-1), (-1)])] ++ cR (n + 1) ++ cU (n + 11) : List Kd)) hC cf_X7 (pq_at0 hn rfl) (by decide) (by decide) (Nat.le_of_ble_eq_true rfl) wf_RX7_21 rfl rfl (pq_set0 hn rfl) dX7_init_23 ?_
  refine g_aload_n (q := 0) hC dX7_init_26 rfl rfl rfl ?_
  refine g_bipush (v := vI 32) hC dX7_init_27 rfl ?_
  refine g_newl (i := n + 16) (L' := P ++ ([(7, [(-3), (-3), (-4), (-1), (-1)])] ++ cR (n + 1) ++ cU (n + 11) ++ [(101, [32])] : List Kd)) hC ⟨by decide, by decide⟩ (fun k => by rw [ms_ne (by omega), xU_ne (by omega), ms_ne (by omega), clr_ne (by omega)]; exact hz _ _ (by omega)) (pq_len hn (j := 16) rfl) (pq_app rfl) (pq_sz hsz rfl) hb (by rw [hcc]; exact Nat.le_of_ble_eq_true rfl) (by rw [hcs]; exact Nat.le_of_ble_eq_true rfl) dX7_init_29 ?_
  refine g_putP (k := 2) (L' := P ++ ([(7, [(-3), (-3), n + 16, (-1), (-1)])] ++ cR (n + 1) ++ cU (n + 11) ++ [(101, [32])] : List Kd)) hC cf_X7 (pq_at0 hn rfl) (by decide) (by omega) (by decide) (Nat.le_of_ble_eq_true rfl) wf_RX7_25 hnm rfl rfl (Or.inr ⟨_, rfl⟩) (pq_set0 hn rfl) dX7_init_31 ?_
  refine g_aload_n (q := 0) hC dX7_init_34 rfl rfl rfl ?_
  refine g_iconst (v := vI 0) hC dX7_init_35 rfl ?_
  refine g_put (k := 3) (y := 0) hC cf_X7 (pq_at0 hn rfl) (by decide) rfl (by decide) wf_RX7_29 (shv_I _ _) rfl rfl rfl rfl dX7_init_36 ?_
  refine g_aload_n (q := 0) hC dX7_init_39 rfl rfl rfl ?_
  refine g_iconst (v := vI 0) hC dX7_init_40 rfl ?_
  refine g_put (k := 4) (y := 0) hC cf_X7 (pq_at0 hn rfl) (by decide) rfl (by decide) wf_RX7_33 (shv_I _ _) rfl rfl rfl rfl dX7_init_41 ?_
  exact g_cret hC hR dX7_init_44
set_option maxRecDepth 20000 in
theorem kc_X10 (l : Launch) (V : Ev) (P : List Kd) (n : Int) (hn : (P.length : Int) = n) (X : Mem) (hz : ∀ i k : Int, n ≤ i → X i k = 0) : Kc l V yX10_init (.code yX10_init cX10_init 1 none) 1 1 60 14 [vR V.1 n] (P ++ [(10, [(-4), (-1), (-1)])]) X (P ++ cT n) (xT n X) := by
  have hn0 : 0 ≤ n := by omega
  refine kc_of (own := RX10) (lv0 := [(0, vR V.1 n)]) (by decide) rfl rfl (Nat.le_of_ble_eq_true rfl) rfl (fun C hCl hC hR hsz hcc hcs hnm => ?_)
  subst hCl
  have hb : V.1 ≤ C.2.2.2.2.1.heap.size := by omega
  refine g_aload_n (q := 0) hC dX10_init_0 rfl rfl rfl ?_
  refine g_oinit hC wml_RX10_3 (by decide) (Nat.le_of_ble_eq_true rfl) dX10_init_1 ?_
  refine g_aload_n (q := 0) hC dX10_init_4 rfl rfl rfl ?_
  refine g_bipush (v := vI 60) hC dX10_init_5 rfl ?_
  refine g_newl (i := n + 1) (L' := P ++ ([(10, [(-4), (-1), (-1)]), (101, [60])] : List Kd)) hC ⟨by decide, by decide⟩ (fun k => hz _ _ (by omega)) (pq_len hn (j := 1) rfl) (pq_app rfl) (pq_sz hsz rfl) hb (by rw [hcc]; exact Nat.le_of_ble_eq_true rfl) (by rw [hcs]; exact Nat.le_of_ble_eq_true rfl) dX10_init_7 ?_
  refine g_putP (k := 0) (L' := P ++ ([(10, [n + 1, (-1), (-1)]), (101, [60])] : List Kd)) hC cf_X10 (pq_at0 hn rfl) (by decide) (by omega) (by decide) (Nat.le_of_ble_eq_true rfl) wf_RX10_9 hnm rfl rfl (Or.inr ⟨_, rfl⟩) (pq_set0 hn rfl) dX10_init_9 ?_
  refine g_aload_n (q := 0) hC dX10_init_12 rfl rfl rfl ?_
  refine g_iconst (v := vI (-1)) hC dX10_init_13 rfl ?_
  refine g_put (k := 1) (y := (-1)) hC cf_X10 (pq_at0 hn rfl) (by decide) rfl (by decide) wf_RX10_15 (shv_I _ _) rfl rfl rfl rfl dX10_init_14 ?_
  refine g_aload_n (q := 0) hC dX10_init_17 rfl rfl rfl ?_
  refine g_iconst (v := vI 0) hC dX10_init_18 rfl ?_
  refine g_put (k := 2) (y := 0) hC cf_X10 (pq_at0 hn rfl) (by decide) rfl (by decide) wf_RX10_19 (shv_I _ _) rfl rfl rfl rfl dX10_init_19 ?_
  exact g_cret hC hR dX10_init_22
