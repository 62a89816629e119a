theorem pq_len {P Q : List Kd} {n : Int} {j : Nat} (hn : (P.length : Int) = n) (hq : Q.length = j) : ((P ++ Q).length : Int) = n + (j : Int) := by
  rw [List.length_append, hq, ← hn]
  rfl
theorem pq_at {P Q : List Kd} {n : Int} {j : Nat} {k : Kd} (hn : (P.length : Int) = n) (hq : Q[j]? = some k) : At (P ++ Q) (n + (j : Int)) k := by
  subst hn
  refine ⟨by omega, ?_⟩
  rw [show ((P.length : Int) + (j : Int)).toNat = P.length + j from by omega, List.getElem?_append_right (by omega), Nat.add_sub_cancel_left]
  exact hq
theorem pq_at0 {P Q : List Kd} {n : Int} {k : Kd} (hn : (P.length : Int) = n) (hq : Q[0]? = some k) : At (P ++ Q) n k := by
  have h := pq_at hn hq
  rwa [show n + ((0 : Nat) : Int) = n from by omega] at h
theorem pq_set0 {P Q Q' : List Kd} {n : Int} {k : Kd} (hn : (P.length : Int) = n) (hq : Q.set 0 k = Q') : (P ++ Q).set n.toNat k = P ++ Q' := by
  subst hn hq
  rw [show ((P.length : Int)).toNat = P.length from rfl, List.set_append_right _ _ (Nat.le_refl _), Nat.sub_self]
theorem pq_app {P Q Q' : List Kd} {k : List Kd} (h : Q ++ k = Q') : (P ++ Q) ++ k = P ++ Q' := by rw [List.append_assoc, h]
theorem pq_sz {P Q : List Kd} {a b c : Nat} {k : Kd} (h : a = b + (P ++ [k]).length) (hq : 1 + c = Q.length) : a + c = b + (P ++ Q).length := by
  rw [List.length_append] at h ⊢
  have : [k].length = 1 := rfl
  omega
theorem pq_pos {P Q : List Kd} {k : Kd} (h : Q[0]? = some k) : 0 < (P ++ Q).length := by
  rw [List.length_append]
  have := (List.getElem?_eq_some_iff.mp h).1
  omega
theorem Kc.cast {l : Launch} {V : Ev} {y : MethodName} {cw : Cond} {fr mc ms lo : Nat} {vs : List Value} {L L1 L' L1' : List Kd} {X X' : Mem} (h : Kc l V y cw fr mc ms lo vs L X L' X') (e : L = L1) (e' : L' = L1') : Kc l V y cw fr mc ms lo vs L1 X L1' X' := by subst e e'; exact h
theorem lk_0 {L : List Kd} {k : Kd} {i : Nat} {z : Int} (h : L[i]? = some k) (hz : (i : Int) = z) : At L z k := by
  subst hz
  exact ⟨by omega, h⟩
def cR (n : Int) : List Kd := [(2, shR n), (100, [60]), (100, [60]), (100, [12]), (101, [5]), (100, [5]), (100, [5]), (100, [5]), (100, [5]), (100, [5])]
def cU (n : Int) : List Kd := [(4, [-1, -1, n + 1, n + 2, n + 3, n + 4]), (100, [60]), (100, [60]), (100, [60]), (100, [60])]
def cS (n : Int) : List Kd := [(7, [-3, -3, n + 16, -1, -1])] ++ cR (n + 1) ++ cU (n + 11) ++ [(101, [32])]
def cT (n : Int) : List Kd := [(10, [n + 1, -1, -1]), (101, [60])]
def xU (n : Int) (X : Mem) : Mem := ms (ms X n 0 0) n 1 0
def xS (n : Int) (X : Mem) : Mem := ms (ms (ms (xU (n + 11) (ms (clr (n + 1) X) n 0 (n + 1))) n 1 (n + 11)) n 3 0) n 4 0
def xT (n : Int) (X : Mem) : Mem := ms (ms X n 1 (-1)) n 2 0
theorem clr_ne {r i : Int} {X : Mem} (h : i < r ∨ r + 4 ≤ i) : clr r X i = X i := by
  unfold clr
  rw [ma_ne (by omega), ma_ne (by omega), ma_ne (by omega), ma_ne (by omega)]
theorem xU_ne {n i : Int} {X : Mem} (h : i ≠ n) : xU n X i = X i := by
  unfold xU
  rw [ms_ne h, ms_ne h]
theorem xS_ne {n i : Int} {X : Mem} (h : i < n ∨ n + 17 ≤ i) : xS n X i = X i := by
  unfold xS
  rw [ms_ne (by omega), ms_ne (by omega), ms_ne (by omega), xU_ne (by omega), ms_ne (by omega), clr_ne (by omega)]
theorem xT_ne {n i : Int} {X : Mem} (h : i ≠ n) : xT n X i = X i := by
  unfold xT
  rw [ms_ne h, ms_ne h]
theorem riv_c {P : List Kd} {n : Int} (hn : (P.length : Int) = n) : isRiver (P ++ cR n) n :=
  ⟨pq_at0 hn rfl, pq_at (j := 1) hn rfl, pq_at (j := 2) hn rfl, pq_at (j := 3) hn rfl, pq_at (j := 4) hn rfl, pq_at (j := 5) hn rfl, pq_at (j := 6) hn rfl, pq_at (j := 7) hn rfl, pq_at (j := 8) hn rfl, pq_at (j := 9) hn rfl⟩
theorem at_app {P Q : List Kd} {r : Int} (h : isState P r) : At (P ++ Q) r (7, [-3, -3, r + 16, -1, -1]) := ⟨h.1.1, by rw [List.getElem?_append_left (List.getElem?_eq_some_iff.mp h.1.2).1]; exact h.1.2⟩
set_option maxRecDepth 20000 in
theorem kc_X2 (l : Launch) (V : Ev) (P : List Kd) (n : Int) (hn : (P.length : Int) = n) (X : Mem) (hz : ∀ i k : Int, n ≤ i → X i k = 0) : Kc l V yX2_init (.code yX2_init cX2_init 1 none) 2 9 162 43 [vR V.1 n] (P ++ [(2, [(-1), (-1), (-1), (-1), (-1), (-1), (-1), (-1), (-1), (-1), (-1), (-4), (-4), (-4), (-4), (-4), (-4), (-4), (-4), (-4)])]) X (P ++ cR n) (clr n X) := by
  have hn0 : 0 ≤ n := by omega
  refine kc_of (own := RX2) (lv0 := [(0, vR V.1 n)]) (by decide) rfl rfl (Nat.le_of_ble_eq_true rfl) rfl (fun C hCl hC hR hsz hcc hcs hnm => ?_)
  subst hCl
  have hb : V.1 ≤ C.2.2.2.2.1.heap.size := by omega
  refine g_aload_n (q := 0) hC dX2_init_0 rfl rfl rfl ?_
  refine g_oinit hC wml_RX2_3 (by decide) (Nat.le_of_ble_eq_true rfl) dX2_init_1 ?_
  refine g_aload_n (q := 0) hC dX2_init_4 rfl rfl rfl ?_
  refine g_bipush (v := vI 60) hC dX2_init_5 rfl ?_
  refine g_newi (tag := 100) (t0 := 0) (atype := .int) (ix := 0) (i := n + 1) (L' := P ++ ([(2, [(-1), (-1), (-1), (-1), (-1), (-1), (-1), (-1), (-1), (-1), (-1), (-4), (-4), (-4), (-4), (-4), (-4), (-4), (-4), (-4)]), (100, [60])] : List Kd)) hC (by decide) war_FieldType_int rfl rfl (fun _ _ => rfl) rfl ⟨by decide, by decide⟩ (Nat.le_of_ble_eq_true rfl) (fun k => hz _ _ (by omega)) (pq_len hn (j := 1) rfl) (pq_app rfl) (pq_sz hsz rfl) hb (by rw [hcc]; exact Nat.le_of_ble_eq_true rfl) (by rw [hcs]; exact Nat.le_of_ble_eq_true rfl) dX2_init_7 ?_
  refine g_putP (k := 11) (L' := P ++ ([(2, [(-1), (-1), (-1), (-1), (-1), (-1), (-1), (-1), (-1), (-1), (-1), n + 1, (-4), (-4), (-4), (-4), (-4), (-4), (-4), (-4)]), (100, [60])] : List Kd)) hC cf_X2 (pq_at0 hn rfl) (by decide) (by omega) (by decide) (Nat.le_of_ble_eq_true rfl) wf_RX2_9 hnm rfl rfl (Or.inr ⟨_, rfl⟩) (pq_set0 hn rfl) dX2_init_9 ?_
  refine g_aload_n (q := 0) hC dX2_init_12 rfl rfl rfl ?_
  refine g_bipush (v := vI 60) hC dX2_init_13 rfl ?_
  refine g_newi (tag := 100) (t0 := 0) (atype := .int) (ix := 0) (i := n + 2) (L' := P ++ ([(2, [(-1), (-1), (-1), (-1), (-1), (-1), (-1), (-1), (-1), (-1), (-1), n + 1, (-4), (-4), (-4), (-4), (-4), (-4), (-4), (-4)]), (100, [60]), (100, [60])] : List Kd)) hC (by decide) war_FieldType_int rfl rfl (fun _ _ => rfl) rfl ⟨by decide, by decide⟩ (Nat.le_of_ble_eq_true rfl) (fun k => hz _ _ (by omega)) (pq_len hn (j := 2) rfl) (pq_app rfl) (pq_sz hsz rfl) hb (by rw [hcc]; exact Nat.le_of_ble_eq_true rfl) (by rw [hcs]; exact Nat.le_of_ble_eq_true rfl) dX2_init_15 ?_
  refine g_putP (k := 12) (L' := P ++ ([(2, [(-1), (-1), (-1), (-1), (-1), (-1), (-1), (-1), (-1), (-1), (-1), n + 1, n + 2, (-4), (-4), (-4), (-4), (-4), (-4), (-4)]), (100, [60]), (100, [60])] : List Kd)) hC cf_X2 (pq_at0 hn rfl) (by decide) (by omega) (by decide) (Nat.le_of_ble_eq_true rfl) wf_RX2_15 hnm rfl rfl (Or.inr ⟨_, rfl⟩) (pq_set0 hn rfl) dX2_init_17 ?_
  refine g_aload_n (q := 0) hC dX2_init_20 rfl rfl rfl ?_
  refine g_bipush (v := vI 12) hC dX2_init_21 rfl ?_
  refine g_newi (tag := 100) (t0 := 0) (atype := .int) (ix := 0) (i := n + 3) (L' := P ++ ([(2, [(-1), (-1), (-1), (-1), (-1), (-1), (-1), (-1), (-1), (-1), (-1), n + 1, n + 2, (-4), (-4), (-4), (-4), (-4), (-4), (-4)]), (100, [60]), (100, [60]), (100, [12])] : List Kd)) hC (by decide) war_FieldType_int rfl rfl (fun _ _ => rfl) rfl ⟨by decide, by decide⟩ (Nat.le_of_ble_eq_true rfl) (fun k => hz _ _ (by omega)) (pq_len hn (j := 3) rfl) (pq_app rfl) (pq_sz hsz rfl) hb (by rw [hcc]; exact Nat.le_of_ble_eq_true rfl) (by rw [hcs]; exact Nat.le_of_ble_eq_true rfl) dX2_init_23 ?_
  refine g_putP (k := 13) (L' := P ++ ([(2, [(-1), (-1), (-1), (-1), (-1), (-1), (-1), (-1), (-1), (-1), (-1), n + 1, n + 2, n + 3, (-4), (-4), (-4), (-4), (-4), (-4)]), (100, [60]), (100, [60]), (100, [12])] : List Kd)) hC cf_X2 (pq_at0 hn rfl) (by decide) (by omega) (by decide) (Nat.le_of_ble_eq_true rfl) wf_RX2_18 hnm rfl rfl (Or.inr ⟨_, rfl⟩) (pq_set0 hn rfl) dX2_init_25 ?_
  refine g_aload_n (q := 0) hC dX2_init_28 rfl rfl rfl ?_
  refine g_iconst (v := vI 5) hC dX2_init_29 rfl ?_
  refine g_newl (i := n + 4) (L' := P ++ ([(2, [(-1), (-1), (-1), (-1), (-1), (-1), (-1), (-1), (-1), (-1), (-1), n + 1, n + 2, n + 3, (-4), (-4), (-4), (-4), (-4), (-4)]), (100, [60]), (100, [60]), (100, [12]), (101, [5])] : List Kd)) hC ⟨by decide, by decide⟩ (fun k => hz _ _ (by omega)) (pq_len hn (j := 4) rfl) (pq_app rfl) (pq_sz hsz rfl) hb (by rw [hcc]; exact Nat.le_of_ble_eq_true rfl) (by rw [hcs]; exact Nat.le_of_ble_eq_true rfl) dX2_init_30 ?_
  refine g_putP (k := 14) (L' := P ++ ([(2, [(-1), (-1), (-1), (-1), (-1), (-1), (-1), (-1), (-1), (-1), (-1), n + 1, n + 2, n + 3, n + 4, (-4), (-4), (-4), (-4), (-4)]), (100, [60]), (100, [60]), (100, [12]), (101, [5])] : List Kd)) hC cf_X2 (pq_at0 hn rfl) (by decide) (by omega) (by decide) (Nat.le_of_ble_eq_true rfl) wf_RX2_21 hnm rfl rfl (Or.inr ⟨_, rfl⟩) (pq_set0 hn rfl) dX2_init_32 ?_
  refine g_aload_n (q := 0) hC dX2_init_35 rfl rfl rfl ?_
  refine g_iconst (v := vI 5) hC dX2_init_36 rfl ?_
  refine g_newi (tag := 100) (t0 := 0) (atype := .int) (ix := 0) (i := n + 5) (L' := P ++ ([(2, [(-1), (-1), (-1), (-1), (-1), (-1), (-1), (-1), (-1), (-1), (-1), n + 1, n + 2, n + 3, n + 4, (-4), (-4), (-4), (-4), (-4)]), (100, [60]), (100, [60]), (100, [12]), (101, [5]), (100, [5])] : List Kd)) hC (by decide) war_FieldType_int rfl rfl (fun _ _ => rfl) rfl ⟨by decide, by decide⟩ (Nat.le_of_ble_eq_true rfl) (fun k => hz _ _ (by omega)) (pq_len hn (j := 5) rfl) (pq_app rfl) (pq_sz hsz rfl) hb (by rw [hcc]; exact Nat.le_of_ble_eq_true rfl) (by rw [hcs]; exact Nat.le_of_ble_eq_true rfl) dX2_init_37 ?_
  refine g_putP (k := 15) (L' := P ++ ([(2, [(-1), (-1), (-1), (-1), (-1), (-1), (-1), (-1), (-1), (-1), (-1), n + 1, n + 2, n + 3, n + 4, n + 5, (-4), (-4), (-4), (-4)]), (100, [60]), (100, [60]), (100, [12]), (101, [5]), (100, [5])] : List Kd)) hC cf_X2 (pq_at0 hn rfl) (by decide) (by omega) (by decide) (Nat.le_of_ble_eq_true rfl) wf_RX2_25 hnm rfl rfl (Or.inr ⟨_, rfl⟩) (pq_set0 hn rfl) dX2_init_39 ?_
  refine g_aload_n (q := 0) hC dX2_init_42 rfl rfl rfl ?_
  refine g_iconst (v := vI 5) hC dX2_init_43 rfl ?_
  refine g_newi (tag := 100) (t0 := 0) (atype := .int) (ix := 0) (i := n + 6) (L' := P ++ ([(2, [(-1), (-1), (-1), (-1), (-1), (-1), (-1), (-1), (-1), (-1), (-1), n + 1, n + 2, n + 3, n + 4, n + 5, (-4), (-4), (-4), (-4)]), (100, [60]), (100, [60]), (100, [12]), (101, [5]), (100, [5]), (100, [5])] : List Kd)) hC (by decide) war_FieldType_int rfl rfl (fun _ _ => rfl) rfl ⟨by decide, by decide⟩ (Nat.le_of_ble_eq_true rfl) (fun k => hz _ _ (by omega)) (pq_len hn (j := 6) rfl) (pq_app rfl) (pq_sz hsz rfl) hb (by rw [hcc]; exact Nat.le_of_ble_eq_true rfl) (by rw [hcs]; exact Nat.le_of_ble_eq_true rfl) dX2_init_44 ?_
  refine g_putP (k := 16) (L' := P ++ ([(2, [(-1), (-1), (-1), (-1), (-1), (-1), (-1), (-1), (-1), (-1), (-1), n + 1, n + 2, n + 3, n + 4, n + 5, n + 6, (-4), (-4), (-4)]), (100, [60]), (100, [60]), (100, [12]), (101, [5]), (100, [5]), (100, [5])] : List Kd)) hC cf_X2 (pq_at0 hn rfl) (by decide) (by omega) (by decide) (Nat.le_of_ble_eq_true rfl) wf_RX2_28 hnm rfl rfl (Or.inr ⟨_, rfl⟩) (pq_set0 hn rfl) dX2_init_46 ?_
  refine g_aload_n (q := 0) hC dX2_init_49 rfl rfl rfl ?_
  refine g_iconst (v := vI 5) hC dX2_init_50 rfl ?_
  refine g_newi (tag := 100) (t0 := 0) (atype := .int) (ix := 0) (i := n + 7) (L' := P ++ ([(2, [(-1), (-1), (-1), (-1), (-1), (-1), (-1), (-1), (-1), (-1), (-1), n + 1, n + 2, n + 3, n + 4, n + 5, n + 6, (-4), (-4), (-4)]), (100, [60]), (100, [60]), (100, [12]), (101, [5]), (100, [5]), (100, [5]), (100, [5])] : List Kd)) hC (by decide) war_FieldType_int rfl rfl (fun _ _ => rfl) rfl ⟨by decide, by decide⟩ (Nat.le_of_ble_eq_true rfl) (fun k => hz _ _ (by omega)) (pq_len hn (j := 7) rfl) (pq_app rfl) (pq_sz hsz rfl) hb (by rw [hcc]; exact Nat.le_of_ble_eq_true rfl) (by rw [hcs]; exact Nat.le_of_ble_eq_true rfl) dX2_init_51 ?_
  refine g_putP (k := 17) (L' := P ++ ([(2, [(-1), (-1), (-1), (-1), (-1), (-1), (-1), (-1), (-1), (-1), (-1), n + 1, n + 2, n + 3, n + 4, n + 5, n + 6, n + 7, (-4), (-4)]), (100, [60]), (100, [60]), (100, [12]), (101, [5]), (100, [5]), (100, [5]), (100, [5])] : List Kd)) hC cf_X2 (pq_at0 hn rfl) (by decide) (by omega) (by decide) (Nat.le_of_ble_eq_true rfl) wf_RX2_31 hnm rfl rfl (Or.inr ⟨_, rfl⟩) (pq_set0 hn rfl) dX2_init_53 ?_
  refine g_aload_n (q := 0) hC dX2_init_56 rfl rfl rfl ?_
  refine g_iconst (v := vI 5) hC dX2_init_57 rfl ?_
  refine g_newi (tag := 100) (t0 := 0) (atype := .int) (ix := 0) (i := n + 8) (L' := P ++ ([(2, [(-1), (-1), (-1), (-1), (-1), (-1), (-1), (-1), (-1), (-1), (-1), n + 1, n + 2, n + 3, n + 4, n + 5, n + 6, n + 7, (-4), (-4)]), (100, [60]), (100, [60]), (100, [12]), (101, [5]), (100, [5]), (100, [5]), (100, [5]), (100, [5])] : List Kd)) hC (by decide) war_FieldType_int rfl rfl (fun _ _ => rfl) rfl ⟨by decide, by decide⟩ (Nat.le_of_ble_eq_true rfl) (fun k => hz _ _ (by omega)) (pq_len hn (j := 8) rfl) (pq_app rfl) (pq_sz hsz rfl) hb (by rw [hcc]; exact Nat.le_of_ble_eq_true rfl) (by rw [hcs]; exact Nat.le_of_ble_eq_true rfl) dX2_init_58 ?_
  refine g_putP (k := 18) (L' := P ++ ([(2, [(-1), (-1), (-1), (-1), (-1), (-1), (-1), (-1), (-1), (-1), (-1), n + 1, n + 2, n + 3, n + 4, n + 5, n + 6, n + 7, n + 8, (-4)]), (100, [60]), (100, [60]), (100, [12]), (101, [5]), (100, [5]), (100, [5]), (100, [5]), (100, [5])] : List Kd)) hC cf_X2 (pq_at0 hn rfl) (by decide) (by omega) (by decide) (Nat.le_of_ble_eq_true rfl) wf_RX2_34 hnm rfl rfl (Or.inr ⟨_, rfl⟩) (pq_set0 hn rfl) dX2_init_60 ?_
  refine g_aload_n (q := 0) hC dX2_init_63 rfl rfl rfl ?_
  refine g_iconst (v := vI 5) hC dX2_init_64 rfl ?_
  refine g_newi (tag := 100) (t0 := 0) (atype := .int) (ix := 0) (i := n + 9) (L' := P ++ ([(2, [(-1), (-1), (-1), (-1), (-1), (-1), (-1), (-1), (-1), (-1), (-1), n + 1, n + 2, n + 3, n + 4, n + 5, n + 6, n + 7, n + 8, (-4)]), (100, [60]), (100, [60]), (100, [12]), (101, [5]), (100, [5]), (100, [5]), (100, [5]), (100, [5]), (100, [5])] : List Kd)) hC (by decide) war_FieldType_int rfl rfl (fun _ _ => rfl) rfl ⟨by decide, by decide⟩ (Nat.le_of_ble_eq_true rfl) (fun k => hz _ _ (by omega)) (pq_len hn (j := 9) rfl) (pq_app rfl) (pq_sz hsz rfl) hb (by rw [hcc]; exact Nat.le_of_ble_eq_true rfl) (by rw [hcs]; exact Nat.le_of_ble_eq_true rfl) dX2_init_65 ?_
  refine g_putP (k := 19) (L' := P ++ ([(2, [(-1), (-1), (-1), (-1), (-1), (-1), (-1), (-1), (-1), (-1), (-1), n + 1, n + 2, n + 3, n + 4, n + 5, n + 6, n + 7, n + 8, n + 9]), (100, [60]), (100, [60]), (100, [12]), (101, [5]), (100, [5]), (100, [5]), (100, [5]), (100, [5]), (100, [5])] : List Kd)) hC cf_X2 (pq_at0 hn rfl) (by decide) (by omega) (by decide) (Nat.le_of_ble_eq_true rfl) wf_RX2_37 hnm rfl rfl (Or.inr ⟨_, rfl⟩) (pq_set0 hn rfl) dX2_init_67 ?_
  refine g_aload_n (q := 0) hC dX2_init_70 rfl rfl rfl ?_
  refine g_callVX (As := []) hC mv_X2_clear wml_RX2_40 (k_X2_clear _ V n _ (riv_c hn)) clear_eq cf_X2 (pq_at0 hn rfl) (by decide) ⟨by rw [hcc]; exact Nat.le_of_ble_eq_true rfl, by rw [hcs]; exact Nat.le_of_ble_eq_true rfl⟩ rfl rfl ⟨Nat.le_of_ble_eq_true rfl, Nat.le_of_ble_eq_true rfl⟩ (Nat.le_of_ble_eq_true rfl) dX2_init_71 ?_
  exact g_cret hC hR dX2_init_74
set_option maxRecDepth 20000 in
theorem kc_X4 (l : Launch) (V : Ev) (P : List Kd) (n : Int) (hn : (P.length : Int) = n) (X : Mem) (hz : ∀ i k : Int, n ≤ i → X i k = 0) : Kc l V yX4_init (.code yX4_init cX4_init 1 none) 1 4 240 14 [vR V.1 n] (P ++ [(4, [(-1), (-1), (-4), (-4), (-4), (-4)])]) X (P ++ cU n) (xU n X) := by
  have hn0 : 0 ≤ n := by omega
  refine kc_of (own := RX4) (lv0 := [(0, vR V.1 n)]) (by decide) rfl rfl (Nat.le_of_ble_eq_true rfl) rfl (fun C hCl hC hR hsz hcc hcs hnm => ?_)
  subst hCl
  have hb : V.1 ≤ C.2.2.2.2.1.heap.size := by omega
  refine g_aload_n (q := 0) hC dX4_init_0 rfl rfl rfl ?_
  refine g_oinit hC wml_RX4_3 (by decide) (Nat.le_of_ble_eq_true rfl) dX4_init_1 ?_
  refine g_aload_n (q := 0) hC dX4_init_4 rfl rfl rfl ?_
  refine g_iconst (v := vI 0) hC dX4_init_5 rfl ?_
  refine g_put (k := 0) (y := 0) hC cf_X4 (pq_at0 hn rfl) (by decide) rfl (by decide) wf_RX4_9 (shv_I _ _) rfl rfl rfl rfl dX4_init_6 ?_
  refine g_aload_n (q := 0) hC dX4_init_9 rfl rfl rfl ?_
  refine g_iconst (v := vI 0) hC dX4_init_10 rfl ?_
  refine g_put (k := 1) (y := 0) hC cf_X4 (pq_at0 hn rfl) (by decide) rfl (by decide) wf_RX4_15 (shv_I _ _) rfl rfl rfl rfl dX4_init_11 ?_
  refine g_aload_n (q := 0) hC dX4_init_14 rfl rfl rfl ?_
  refine g_bipush (v := vI 60) hC dX4_init_15 rfl ?_
  refine g_newi (tag := 100) (t0 := 0) (atype := .int) (ix := 0) (i := n + 1) (L' := P ++ ([(4, [(-1), (-1), (-4), (-4), (-4), (-4)]), (100, [60])] : List Kd)) hC (by decide) war_FieldType_int rfl rfl (fun _ _ => rfl) rfl ⟨by decide, by decide⟩ (Nat.le_of_ble_eq_true rfl) (fun k => by rw [ms_ne (by omega), ms_ne (by omega)]; exact hz _ _ (by omega)) (pq_len hn (j := 1) rfl) (pq_app rfl) (pq_sz hsz rfl) hb (by rw [hcc]; exact Nat.le_of_ble_eq_true rfl) (by rw [hcs]; exact Nat.le_of_ble_eq_true rfl) dX4_init_17 ?_
  refine g_putP (k := 2) (L' := P ++ ([(4, [(-1), (-1), n + 1, (-4), (-4), (-4)]), (100, [60])] : List Kd)) hC cf_X4 (pq_at0 hn rfl) (by decide) (by omega) (by decide) (Nat.le_of_ble_eq_true rfl) wf_RX4_18 hnm rfl rfl (Or.inr ⟨_, rfl⟩) (pq_set0 hn rfl) dX4_init_19 ?_
  refine g_aload_n (q := 0) hC dX4_init_22 rfl rfl rfl ?_
  refine g_bipush (v := vI 60) hC dX4_init_23 rfl ?_
  refine g_newi (tag := 100) (t0 := 0) (atype := .int) (ix := 0) (i := n + 2) (L' := P ++ ([(4, [(-1), (-1), n + 1, (-4), (-4), (-4)]), (100, [60]), (100, [60])] : List Kd)) hC (by decide) war_FieldType_int rfl rfl (fun _ _ => rfl) rfl ⟨by decide, by decide⟩ (Nat.le_of_ble_eq_true rfl) (fun k => by rw [ms_ne (by omega), ms_ne (by omega)]; exact hz _ _ (by omega)) (pq_len hn (j := 2) rfl) (pq_app rfl) (pq_sz hsz rfl) hb (by rw [hcc]; exact Nat.le_of_ble_eq_true rfl) (by rw [hcs]; exact Nat.le_of_ble_eq_true rfl) dX4_init_25 ?_
  refine g_putP (k := 3) (L' := P ++ ([(4, [(-1), (-1), n + 1, n + 2, (-4), (-4)]), (100, [60]), (100, [60])] : List Kd)) hC cf_X4 (pq_at0 hn rfl) (by decide) (by omega) (by decide) (Nat.le_of_ble_eq_true rfl) wf_RX4_22 hnm rfl rfl (Or.inr ⟨_, rfl⟩) (pq_set0 hn rfl) dX4_init_27 ?_
  refine g_aload_n (q := 0) hC dX4_init_30 rfl rfl rfl ?_
  refine g_bipush (v := vI 60) hC dX4_init_31 rfl ?_
  refine g_newi (tag := 100) (t0 := 0) (atype := .int) (ix := 0) (i := n + 3) (L' := P ++ ([(4, [(-1), (-1), n + 1, n + 2, (-4), (-4)]), (100, [60]), (100, [60]), (100, [60])] : List Kd)) hC (by decide) war_FieldType_int rfl rfl (fun _ _ => rfl) rfl ⟨by decide, by decide⟩ (Nat.le_of_ble_eq_true rfl) (fun k => by rw [ms_ne (by omega), ms_ne (by omega)]; exact hz _ _ (by omega)) (pq_len hn (j := 3) rfl) (pq_app rfl) (pq_sz hsz rfl) hb (by rw [hcc]; exact Nat.le_of_ble_eq_true rfl) (by rw [hcs]; exact Nat.le_of_ble_eq_true rfl) dX4_init_33 ?_
  refine g_putP (k := 4) (L' := P ++ ([(4, [(-1), (-1), n + 1, n + 2, n + 3, (-4)]), (100, [60]), (100, [60]), (100, [60])] : List Kd)) hC cf_X4 (pq_at0 hn rfl) (by decide) (by omega) (by decide) (Nat.le_of_ble_eq_true rfl) wf_RX4_25 hnm rfl rfl (Or.inr ⟨_, rfl⟩) (pq_set0 hn rfl) dX4_init_35 ?_
  refine g_aload_n (q := 0) hC dX4_init_38 rfl rfl rfl ?_
  refine g_bipush (v := vI 60) hC dX4_init_39 rfl ?_
  refine g_newi (tag := 100) (t0 := 0) (atype := .int) (ix := 0) (i := n + 4) (L' := P ++ ([(4, [(-1), (-1), n + 1, n + 2, n + 3, (-4)]), (100, [60]), (100, [60]), (100, [60]), (100, [60])] : List Kd)) hC (by decide) war_FieldType_int rfl rfl (fun _ _ => rfl) rfl ⟨by decide, by decide⟩ (Nat.le_of_ble_eq_true rfl) (fun k => by rw [ms_ne (by omega), ms_ne (by omega)]; exact hz _ _ (by omega)) (pq_len hn (j := 4) rfl) (pq_app rfl) (pq_sz hsz rfl) hb (by rw [hcc]; exact Nat.le_of_ble_eq_true rfl) (by rw [hcs]; exact Nat.le_of_ble_eq_true rfl) dX4_init_41 ?_
  refine g_putP (k := 5) (L' := P ++ ([(4, [(-1), (-1), n + 1, n + 2, n + 3, n + 4]), (100, [60]), (100, [60]), (100, [60]), (100, [60])] : List Kd)) hC cf_X4 (pq_at0 hn rfl) (by decide) (by omega) (by decide) (Nat.le_of_ble_eq_true rfl) wf_RX4_28 hnm rfl rfl (Or.inr ⟨_, rfl⟩) (pq_set0 hn rfl) dX4_init_43 ?_
  exact g_cret hC hR dX4_init_46
set_option maxRecDepth 20000 in
theorem kc_X7 (l : Launch) (V : Ev) (P : List Kd) (n : Int) (hn : (P.length : Int) = n) (X : Mem) (hz : ∀ i k : Int, n ≤ i → X i k = 0) : Kc l V yX7_init (.code yX7_init cX7_init 1 none) 3 16 460 63 [vR V.1 n] (P ++ [(7, [(-4), (-4), (-4), (-1), (-1)])]) X (P ++ cS n) (xS n X) := by
  have hn0 : 0 ≤ n := by omega
  refine kc_of (own := RX7) (lv0 := [(0, vR V.1 n)]) (by decide) rfl rfl (Nat.le_of_ble_eq_true rfl) rfl (fun C hCl hC hR hsz hcc hcs hnm => ?_)
  subst hCl
  have hb : V.1 ≤ C.2.2.2.2.1.heap.size := by omega
  refine g_aload_n (q := 0) hC dX7_init_0 rfl rfl rfl ?_
  refine g_oinit hC wml_RX7_3 (by decide) (Nat.le_of_ble_eq_true rfl) dX7_init_1 ?_
  refine g_aload_n (q := 0) hC dX7_init_4 rfl rfl rfl ?_
  refine g_newo (i := n + 1) (sh0 := [(-1), (-1), (-1), (-1), (-1), (-1), (-1), (-1), (-1), (-1), (-1), (-4), (-4), (-4), (-4), (-4), (-4), (-4), (-4), (-4)]) (L' := P ++ ([(7, [(-4), (-4), (-4), (-1), (-1)]), (2, [(-1), (-1), (-1), (-1), (-1), (-1), (-1), (-1), (-1), (-1), (-1), (-4), (-4), (-4), (-4), (-4), (-4), (-4), (-4), (-4)])] : List Kd)) hC cf_X2 wcl_RX7_9 wnew_RX2 wini_RX2 (by decide) (by decide) (by decide +kernel) (fun k => hz _ _ (by omega)) (pq_len hn (j := 1) rfl) (pq_app rfl) (pq_sz hsz rfl) hb (by rw [hcc]; exact Nat.le_of_ble_eq_true rfl) (by rw [hcs]; exact Nat.le_of_ble_eq_true rfl) dX7_init_5 ?_
  refine g_dup hC dX7_init_8 rfl ?_
  refine g_init (As := []) (L' := P ++ ([(7, [(-4), (-4), (-4), (-1), (-1)])] ++ cR (n + 1) : List Kd)) (mc := 9) (ms := 162) (fr1 := 2) (lo1 := 43) hC wi_yX2_init wini_RX2 wc_yX2_init rfl (by decide +kernel) (Or.inl wml_RX7_11) ((kc_X2 _ V (P ++ ([(7, [(-4), (-4), (-4), (-1), (-1)])] : List Kd)) (n + 1) (pq_len hn (j := 1) rfl) X (fun i k hi => hz _ _ (by omega))).cast (pq_app rfl) (pq_app rfl)) (pq_sz hsz rfl) (pq_pos rfl) ⟨by rw [hcc]; exact Nat.le_of_ble_eq_true rfl, by rw [hcs]; exact Nat.le_of_ble_eq_true rfl⟩ rfl rfl ⟨Nat.le_of_ble_eq_true rfl, Nat.le_of_ble_eq_true rfl⟩ (Nat.le_of_ble_eq_true rfl) dX7_init_9 ?_
  refine g_putPD (k := 0) (L' := P ++ ([(7, [(-3), (-4), (-4), (-1), (-1)])] ++ cR (n + 1) : List Kd)) hC cf_X7 (pq_at0 hn rfl) (by decide) (by decide) (Nat.le_of_ble_eq_true rfl) wf_RX7_12 rfl rfl (pq_set0 hn rfl) dX7_init_12 ?_
  refine g_aload_n (q := 0) hC dX7_init_15 rfl rfl rfl ?_
  refine g_newo (i := n + 11) (sh0 := [(-1), (-1), (-4), (-4), (-4), (-4)]) (L' := P ++ ([(7, [(-3), (-4), (-4), (-1), (-1)])] ++ cR (n + 1) ++ [(4, [(-1), (-1), (-4), (-4), (-4), (-4)])] : List Kd)) hC cf_X4 wcl_RX7_18 wnew_RX4 wini_RX4 (by decide) (by decide) (by decide +kernel) (fun k => by rw [ms_ne (by omega), clr_ne (by omega)]; exact hz _ _ (by omega)) (pq_len hn (j := 11) rfl) (pq_app rfl) (pq_sz hsz rfl) hb (by rw [hcc]; exact Nat.le_of_ble_eq_true rfl) (by rw [hcs]; exact Nat.le_of_ble_eq_true rfl) dX7_init_16 ?_
  refine g_dup hC dX7_init_19 rfl ?_
  refine g_init (As := []) (L' := P ++ ([(7, [(-3), (-4), (-4), (-1), (-1)])] ++ cR (n + 1) ++ cU (n + 11) : List Kd)) (mc := 4) (ms := 240) (fr1 := 1) (lo1 := 14) hC wi_yX4_init wini_RX4 wc_yX4_init rfl (by decide +kernel) (Or.inr ⟨_, nl_1⟩) ((kc_X4 _ V (P ++ ([(7, [(-3), (-4), (-4), (-1), (-1)])] ++ cR (n + 1) : List Kd)) (n + 11) (pq_len hn (j := 11) rfl) (ms (clr (n + 1) X) n 0 (n + 1)) (fun i k hi => by rw [ms_ne (by omega), clr_ne (by omega)]; exact hz _ _ (by omega))).cast (pq_app rfl) (pq_app rfl)) (pq_sz hsz rfl) (pq_pos rfl) ⟨by rw [hcc]; exact Nat.le_of_ble_eq_true rfl, by rw [hcs]; exact Nat.le_of_ble_eq_true rfl⟩ rfl rfl ⟨Nat.le_of_ble_eq_true rfl, Nat.le_of_ble_eq_true rfl⟩ (Nat.le_of_ble_eq_true rfl) dX7_init_20 ?_
  refine g_putPD (k := 1) (L' := P ++ ([(7, [(-3), (-3), (-4), (-1), (-1)])] ++ cR (n + 1) ++ cU (n + 11) : List Kd)) hC cf_X7 (pq_at0 hn rfl) (by decide) (by decide) (Nat.le_of_ble_eq_true rfl) wf_RX7_21 rfl rfl (pq_set0 hn rfl) dX7_init_23 ?_
  refine g_aload_n (q := 0) hC dX7_init_26 rfl rfl rfl ?_
  refine g_bipush (v := vI 32) hC dX7_init_27 rfl ?_
  refine g_newl (i := n + 16) (L' := P ++ ([(7, [(-3), (-3), (-4), (-1), (-1)])] ++ cR (n + 1) ++ cU (n + 11) ++ [(101, [32])] : List Kd)) hC ⟨by decide, by decide⟩ (fun k => by rw [ms_ne (by omega), xU_ne (by omega), ms_ne (by omega), clr_ne (by omega)]; exact hz _ _ (by omega)) (pq_len hn (j := 16) rfl) (pq_app rfl) (pq_sz hsz rfl) hb (by rw [hcc]; exact Nat.le_of_ble_eq_true rfl) (by rw [hcs]; exact Nat.le_of_ble_eq_true rfl) dX7_init_29 ?_
  refine g_putP (k := 2) (L' := P ++ ([(7, [(-3), (-3), n + 16, (-1), (-1)])] ++ cR (n + 1) ++ cU (n + 11) ++ [(101, [32])] : List Kd)) hC cf_X7 (pq_at0 hn rfl) (by decide) (by omega) (by decide) (Nat.le_of_ble_eq_true rfl) wf_RX7_25 hnm rfl rfl (Or.inr ⟨_, rfl⟩) (pq_set0 hn rfl) dX7_init_31 ?_
  refine g_aload_n (q := 0) hC dX7_init_34 rfl rfl rfl ?_
  refine g_iconst (v := vI 0) hC dX7_init_35 rfl ?_
  refine g_put (k := 3) (y := 0) hC cf_X7 (pq_at0 hn rfl) (by decide) rfl (by decide) wf_RX7_29 (shv_I _ _) rfl rfl rfl rfl dX7_init_36 ?_
  refine g_aload_n (q := 0) hC dX7_init_39 rfl rfl rfl ?_
  refine g_iconst (v := vI 0) hC dX7_init_40 rfl ?_
  refine g_put (k := 4) (y := 0) hC cf_X7 (pq_at0 hn rfl) (by decide) rfl (by decide) wf_RX7_33 (shv_I _ _) rfl rfl rfl rfl dX7_init_41 ?_
  exact g_cret hC hR dX7_init_44
set_option maxRecDepth 20000 in
theorem kc_X10 (l : Launch) (V : Ev) (P : List Kd) (n : Int) (hn : (P.length : Int) = n) (X : Mem) (hz : ∀ i k : Int, n ≤ i → X i k = 0) : Kc l V yX10_init (.code yX10_init cX10_init 1 none) 1 1 60 14 [vR V.1 n] (P ++ [(10, [(-4), (-1), (-1)])]) X (P ++ cT n) (xT n X) := by
  have hn0 : 0 ≤ n := by omega
  refine kc_of (own := RX10) (lv0 := [(0, vR V.1 n)]) (by decide) rfl rfl (Nat.le_of_ble_eq_true rfl) rfl (fun C hCl hC hR hsz hcc hcs hnm => ?_)
  subst hCl
  have hb : V.1 ≤ C.2.2.2.2.1.heap.size := by omega
  refine g_aload_n (q := 0) hC dX10_init_0 rfl rfl rfl ?_
  refine g_oinit hC wml_RX10_3 (by decide) (Nat.le_of_ble_eq_true rfl) dX10_init_1 ?_
  refine g_aload_n (q := 0) hC dX10_init_4 rfl rfl rfl ?_
  refine g_bipush (v := vI 60) hC dX10_init_5 rfl ?_
  refine g_newl (i := n + 1) (L' := P ++ ([(10, [(-4), (-1), (-1)]), (101, [60])] : List Kd)) hC ⟨by decide, by decide⟩ (fun k => hz _ _ (by omega)) (pq_len hn (j := 1) rfl) (pq_app rfl) (pq_sz hsz rfl) hb (by rw [hcc]; exact Nat.le_of_ble_eq_true rfl) (by rw [hcs]; exact Nat.le_of_ble_eq_true rfl) dX10_init_7 ?_
  refine g_putP (k := 0) (L' := P ++ ([(10, [n + 1, (-1), (-1)]), (101, [60])] : List Kd)) hC cf_X10 (pq_at0 hn rfl) (by decide) (by omega) (by decide) (Nat.le_of_ble_eq_true rfl) wf_RX10_9 hnm rfl rfl (Or.inr ⟨_, rfl⟩) (pq_set0 hn rfl) dX10_init_9 ?_
  refine g_aload_n (q := 0) hC dX10_init_12 rfl rfl rfl ?_
  refine g_iconst (v := vI (-1)) hC dX10_init_13 rfl ?_
  refine g_put (k := 1) (y := (-1)) hC cf_X10 (pq_at0 hn rfl) (by decide) rfl (by decide) wf_RX10_15 (shv_I _ _) rfl rfl rfl rfl dX10_init_14 ?_
  refine g_aload_n (q := 0) hC dX10_init_17 rfl rfl rfl ?_
  refine g_iconst (v := vI 0) hC dX10_init_18 rfl ?_
  refine g_put (k := 2) (y := 0) hC cf_X10 (pq_at0 hn rfl) (by decide) rfl (by decide) wf_RX10_19 (shv_I _ _) rfl rfl rfl rfl dX10_init_19 ?_
  exact g_cret hC hR dX10_init_22
def cN8 (n : Int) : List Kd := ([(8, [n + 1, (-1), (-1), (-1), (-1), (-1), (-2), (-1), (-1), (-1), (-1)]), (102, [900])] : List Kd)
def xN8 (n : Int) (X : Mem) : Mem := ms (ms (ms (ms (ms (ms (ms (ms (ms (ms X n 1 0) n 2 0) n 3 0) n 4 0) n 5 0) n 6 0) n 7 0) n 8 0) n 9 (-1)) n 10 (-1)
theorem xN8_ne {n i : Int} {X : Mem} (h : i ≠ n) : xN8 n X i = X i := by
  unfold xN8
  rw [ms_ne h, ms_ne h, ms_ne h, ms_ne h, ms_ne h, ms_ne h, ms_ne h, ms_ne h, ms_ne h, ms_ne h]
set_option maxRecDepth 20000 in
theorem kc_X8 (l : Launch) (V : Ev) (P : List Kd) (n : Int) (hn : (P.length : Int) = n) (X : Mem) (hz : ∀ i k : Int, n ≤ i → X i k = 0) : Kc l V yX8_init (.code yX8_init cX8_init 1 none) 1 1 900 14 [vR V.1 n] (P ++ [(8, [(-4), (-1), (-1), (-1), (-1), (-1), (-2), (-1), (-1), (-1), (-1)])]) X (P ++ cN8 n) (xN8 n X) := by
  have hn0 : 0 ≤ n := by omega
  refine kc_of (own := RX8) (lv0 := [(0, vR V.1 n)]) (by decide) rfl rfl (Nat.le_of_ble_eq_true rfl) rfl (fun C hCl hC hR hsz hcc hcs hnm => ?_)
  subst hCl
  have hb : V.1 ≤ C.2.2.2.2.1.heap.size := by omega
  refine g_aload_n (q := 0) hC dX8_init_0 rfl rfl rfl ?_
  refine g_oinit hC wml_RX8_3 (by decide) (Nat.le_of_ble_eq_true rfl) dX8_init_1 ?_
  refine g_aload_n (q := 0) hC dX8_init_4 rfl rfl rfl ?_
  refine g_sipush (v := vI 900) hC dX8_init_5 rfl ?_
  refine g_newi (tag := 102) (t0 := 2) (atype := .byte) (ix := 0) (i := n + 1) (L' := P ++ ([(8, [(-4), (-1), (-1), (-1), (-1), (-1), (-2), (-1), (-1), (-1), (-1)]), (102, [900])] : List Kd)) hC (by decide) war_FieldType_byte rfl rfl (fun _ _ => rfl) rfl ⟨by decide, by decide⟩ (Nat.le_of_ble_eq_true rfl) (fun k => hz _ _ (by omega)) (pq_len hn (j := 1) rfl) (pq_app rfl) (pq_sz hsz rfl) hb (by rw [hcc]; exact Nat.le_of_ble_eq_true rfl) (by rw [hcs]; exact Nat.le_of_ble_eq_true rfl) dX8_init_8 ?_
  refine g_putP (k := 0) (L' := P ++ ([(8, [n + 1, (-1), (-1), (-1), (-1), (-1), (-2), (-1), (-1), (-1), (-1)]), (102, [900])] : List Kd)) hC cf_X8 (pq_at0 hn rfl) (by decide) (by omega) (by decide) (Nat.le_of_ble_eq_true rfl) wf_RX8_9 hnm rfl rfl (Or.inr ⟨_, rfl⟩) (pq_set0 hn rfl) dX8_init_10 ?_
  refine g_aload_n (q := 0) hC dX8_init_13 rfl rfl rfl ?_
  refine g_iconst (v := vI 0) hC dX8_init_14 rfl ?_
  refine g_put (k := 1) (y := 0) hC cf_X8 (pq_at0 hn rfl) (by decide) rfl (by decide) wf_RX8_15 (shv_I _ _) rfl rfl rfl rfl dX8_init_15 ?_
  refine g_aload_n (q := 0) hC dX8_init_18 rfl rfl rfl ?_
  refine g_iconst (v := vI 0) hC dX8_init_19 rfl ?_
  refine g_put (k := 2) (y := 0) hC cf_X8 (pq_at0 hn rfl) (by decide) rfl (by decide) wf_RX8_19 (shv_I _ _) rfl rfl rfl rfl dX8_init_20 ?_
  refine g_aload_n (q := 0) hC dX8_init_23 rfl rfl rfl ?_
  refine g_iconst (v := vI 0) hC dX8_init_24 rfl ?_
  refine g_put (k := 3) (y := 0) hC cf_X8 (pq_at0 hn rfl) (by decide) rfl (by decide) wf_RX8_22 (shv_I _ _) rfl rfl rfl rfl dX8_init_25 ?_
  refine g_aload_n (q := 0) hC dX8_init_28 rfl rfl rfl ?_
  refine g_iconst (v := vI 0) hC dX8_init_29 rfl ?_
  refine g_put (k := 4) (y := 0) hC cf_X8 (pq_at0 hn rfl) (by decide) rfl (by decide) wf_RX8_25 (shv_I _ _) rfl rfl rfl rfl dX8_init_30 ?_
  refine g_aload_n (q := 0) hC dX8_init_33 rfl rfl rfl ?_
  refine g_iconst (v := vI 0) hC dX8_init_34 rfl ?_
  refine g_put (k := 5) (y := 0) hC cf_X8 (pq_at0 hn rfl) (by decide) rfl (by decide) wf_RX8_28 (shv_I _ _) rfl rfl rfl rfl dX8_init_35 ?_
  refine g_aload_n (q := 0) hC dX8_init_38 rfl rfl rfl ?_
  refine g_lconst (v := vJ 0) hC dX8_init_39 rfl ?_
  refine g_put (k := 6) (y := 0) hC cf_X8 (pq_at0 hn rfl) (by decide) rfl (by decide) wf_RX8_31 (shv_J _ _) rfl rfl rfl rfl dX8_init_40 ?_
  refine g_aload_n (q := 0) hC dX8_init_43 rfl rfl rfl ?_
  refine g_iconst (v := vI 0) hC dX8_init_44 rfl ?_
  refine g_put (k := 7) (y := 0) hC cf_X8 (pq_at0 hn rfl) (by decide) rfl (by decide) wf_RX8_35 (shv_I _ _) rfl rfl rfl rfl dX8_init_45 ?_
  refine g_aload_n (q := 0) hC dX8_init_48 rfl rfl rfl ?_
  refine g_iconst (v := vI 0) hC dX8_init_49 rfl ?_
  refine g_put (k := 8) (y := 0) hC cf_X8 (pq_at0 hn rfl) (by decide) rfl (by decide) wf_RX8_38 (shv_I _ _) rfl rfl rfl rfl dX8_init_50 ?_
  refine g_aload_n (q := 0) hC dX8_init_53 rfl rfl rfl ?_
  refine g_iconst (v := vI (-1)) hC dX8_init_54 rfl ?_
  refine g_put (k := 9) (y := (-1)) hC cf_X8 (pq_at0 hn rfl) (by decide) rfl (by decide) wf_RX8_41 (shv_I _ _) rfl rfl rfl rfl dX8_init_55 ?_
  refine g_aload_n (q := 0) hC dX8_init_58 rfl rfl rfl ?_
  refine g_iconst (v := vI (-1)) hC dX8_init_59 rfl ?_
  refine g_put (k := 10) (y := (-1)) hC cf_X8 (pq_at0 hn rfl) (by decide) rfl (by decide) wf_RX8_44 (shv_I _ _) rfl rfl rfl rfl dX8_init_60 ?_
  exact g_cret hC hR dX8_init_63
def cN3 (n q1 q2 : Int) : List Kd := ([(3, [q1, (-3), (-1), (-1), (-1), (-1), (-1)])] : List Kd)
def xN3 (n q1 q2 : Int) (X : Mem) : Mem := ms (ms (ms (ms (ms (ms X n 2 0) n 3 0) n 4 0) n 5 0) n 6 0) n 1 q2
theorem xN3_ne {n q1 q2 i : Int} {X : Mem} (h : i ≠ n) : xN3 n q1 q2 X i = X i := by
  unfold xN3
  rw [ms_ne h, ms_ne h, ms_ne h, ms_ne h, ms_ne h, ms_ne h]
set_option maxRecDepth 20000 in
theorem kc_X3 (l : Launch) (V : Ev) (P : List Kd) (n : Int) (hn : (P.length : Int) = n) (X : Mem) (hz : ∀ i k : Int, n ≤ i → X i k = 0) (q1 : Int) (hq1 : 0 ≤ q1) (q2 : Int) (hq2 : 0 ≤ q2) : Kc l V yX3_init (.code yX3_init cX3_init 3 none) 1 0 0 14 [vR V.1 n, vR V.1 q1, vR V.1 q2] (P ++ [(3, [(-4), (-4), (-1), (-1), (-1), (-1), (-1)])]) X (P ++ cN3 n q1 q2) (xN3 n q1 q2 X) := by
  have hn0 : 0 ≤ n := by omega
  refine kc_of (own := RX3) (lv0 := [(0, vR V.1 n), (1, vR V.1 q1), (2, vR V.1 q2)]) (by decide) rfl rfl (Nat.le_of_ble_eq_true rfl) rfl (fun C hCl hC hR hsz hcc hcs hnm => ?_)
  subst hCl
  have hb : V.1 ≤ C.2.2.2.2.1.heap.size := by omega
  refine g_aload_n (q := 0) hC dX3_init_0 rfl rfl rfl ?_
  refine g_oinit hC wml_RX3_3 (by decide) (Nat.le_of_ble_eq_true rfl) dX3_init_1 ?_
  refine g_aload_n (q := 0) hC dX3_init_4 rfl rfl rfl ?_
  refine g_iconst (v := vI 0) hC dX3_init_5 rfl ?_
  refine g_put (k := 2) (y := 0) hC cf_X3 (pq_at0 hn rfl) (by decide) rfl (by decide) wf_RX3_9 (shv_I _ _) rfl rfl rfl rfl dX3_init_6 ?_
  refine g_aload_n (q := 0) hC dX3_init_9 rfl rfl rfl ?_
  refine g_iconst (v := vI 0) hC dX3_init_10 rfl ?_
  refine g_put (k := 3) (y := 0) hC cf_X3 (pq_at0 hn rfl) (by decide) rfl (by decide) wf_RX3_15 (shv_I _ _) rfl rfl (nar_z (by decide)) rfl dX3_init_11 ?_
  refine g_aload_n (q := 0) hC dX3_init_14 rfl rfl rfl ?_
  refine g_iconst (v := vI 0) hC dX3_init_15 rfl ?_
  refine g_put (k := 4) (y := 0) hC cf_X3 (pq_at0 hn rfl) (by decide) rfl (by decide) wf_RX3_19 (shv_I _ _) rfl rfl (nar_z (by decide)) rfl dX3_init_16 ?_
  refine g_aload_n (q := 0) hC dX3_init_19 rfl rfl rfl ?_
  refine g_iconst (v := vI 0) hC dX3_init_20 rfl ?_
  refine g_put (k := 5) (y := 0) hC cf_X3 (pq_at0 hn rfl) (by decide) rfl (by decide) wf_RX3_22 (shv_I _ _) rfl rfl (nar_z (by decide)) rfl dX3_init_21 ?_
  refine g_aload_n (q := 0) hC dX3_init_24 rfl rfl rfl ?_
  refine g_iconst (v := vI 0) hC dX3_init_25 rfl ?_
  refine g_put (k := 6) (y := 0) hC cf_X3 (pq_at0 hn rfl) (by decide) rfl (by decide) wf_RX3_25 (shv_I _ _) rfl rfl (nar_z (by decide)) rfl dX3_init_26 ?_
  refine g_aload_n (q := 0) hC dX3_init_29 rfl rfl rfl ?_
  refine g_aload_n (q := 1) hC dX3_init_30 rfl rfl rfl ?_
  refine g_putP (k := 0) (L' := P ++ ([(3, [q1, (-4), (-1), (-1), (-1), (-1), (-1)])] : List Kd)) hC cf_X3 (pq_at0 hn rfl) (by decide) (by omega) (by decide) (Nat.le_of_ble_eq_true rfl) wf_RX3_28 hnm rfl rfl (Or.inl ⟨_, rfl⟩) (pq_set0 hn rfl) dX3_init_31 ?_
  refine g_aload_n (q := 0) hC dX3_init_34 rfl rfl rfl ?_
  refine g_aload_n (q := 2) hC dX3_init_35 rfl rfl rfl ?_
  refine g_putPD (k := 1) (L' := P ++ ([(3, [q1, (-3), (-1), (-1), (-1), (-1), (-1)])] : List Kd)) hC cf_X3 (pq_at0 hn rfl) (by decide) (by decide) (Nat.le_of_ble_eq_true rfl) wf_RX3_32 rfl rfl (pq_set0 hn rfl) dX3_init_36 ?_
  exact g_cret hC hR dX3_init_39
def cN5 (n q1 q2 q3 : Int) : List Kd := ([(5, [q1, n + 1, (-3), (-3), (-1)]), (100, [3])] : List Kd)
def xN5 (n q1 q2 q3 : Int) (X : Mem) : Mem := ms (ms (ms X n 4 0) n 2 q2) n 3 q3
theorem xN5_ne {n q1 q2 q3 i : Int} {X : Mem} (h : i ≠ n) : xN5 n q1 q2 q3 X i = X i := by
  unfold xN5
  rw [ms_ne h, ms_ne h, ms_ne h]
set_option maxRecDepth 20000 in
theorem kc_X5 (l : Launch) (V : Ev) (P : List Kd) (n : Int) (hn : (P.length : Int) = n) (X : Mem) (hz : ∀ i k : Int, n ≤ i → X i k = 0) (q1 : Int) (hq1 : 0 ≤ q1) (q2 : Int) (hq2 : 0 ≤ q2) (q3 : Int) (hq3 : 0 ≤ q3) : Kc l V yX5_init (.code yX5_init cX5_init 4 none) 1 1 3 14 [vR V.1 n, vR V.1 q1, vR V.1 q2, vR V.1 q3] (P ++ [(5, [(-4), (-4), (-4), (-4), (-1)])]) X (P ++ cN5 n q1 q2 q3) (xN5 n q1 q2 q3 X) := by
  have hn0 : 0 ≤ n := by omega
  refine kc_of (own := RX5) (lv0 := [(0, vR V.1 n), (1, vR V.1 q1), (2, vR V.1 q2), (3, vR V.1 q3)]) (by decide) rfl rfl (Nat.le_of_ble_eq_true rfl) rfl (fun C hCl hC hR hsz hcc hcs hnm => ?_)
  subst hCl
  have hb : V.1 ≤ C.2.2.2.2.1.heap.size := by omega
  refine g_aload_n (q := 0) hC dX5_init_0 rfl rfl rfl ?_
  refine g_oinit hC wml_RX5_3 (by decide) (Nat.le_of_ble_eq_true rfl) dX5_init_1 ?_
  refine g_aload_n (q := 0) hC dX5_init_4 rfl rfl rfl ?_
  refine g_iconst (v := vI 3) hC dX5_init_5 rfl ?_
  refine g_newi (tag := 100) (t0 := 0) (atype := .int) (ix := 0) (i := n + 1) (L' := P ++ ([(5, [(-4), (-4), (-4), (-4), (-1)]), (100, [3])] : List Kd)) hC (by decide) war_FieldType_int rfl rfl (fun _ _ => rfl) rfl ⟨by decide, by decide⟩ (Nat.le_of_ble_eq_true rfl) (fun k => hz _ _ (by omega)) (pq_len hn (j := 1) rfl) (pq_app rfl) (pq_sz hsz rfl) hb (by rw [hcc]; exact Nat.le_of_ble_eq_true rfl) (by rw [hcs]; exact Nat.le_of_ble_eq_true rfl) dX5_init_6 ?_
  refine g_putP (k := 1) (L' := P ++ ([(5, [(-4), n + 1, (-4), (-4), (-1)]), (100, [3])] : List Kd)) hC cf_X5 (pq_at0 hn rfl) (by decide) (by omega) (by decide) (Nat.le_of_ble_eq_true rfl) wf_RX5_9 hnm rfl rfl (Or.inr ⟨_, rfl⟩) (pq_set0 hn rfl) dX5_init_8 ?_
  refine g_aload_n (q := 0) hC dX5_init_11 rfl rfl rfl ?_
  refine g_iconst (v := vI 0) hC dX5_init_12 rfl ?_
  refine g_put (k := 4) (y := 0) hC cf_X5 (pq_at0 hn rfl) (by decide) rfl (by decide) wf_RX5_15 (shv_I _ _) rfl rfl rfl rfl dX5_init_13 ?_
  refine g_aload_n (q := 0) hC dX5_init_16 rfl rfl rfl ?_
  refine g_aload_n (q := 1) hC dX5_init_17 rfl rfl rfl ?_
  refine g_putP (k := 0) (L' := P ++ ([(5, [q1, n + 1, (-4), (-4), (-1)]), (100, [3])] : List Kd)) hC cf_X5 (pq_at0 hn rfl) (by decide) (by omega) (by decide) (Nat.le_of_ble_eq_true rfl) wf_RX5_19 hnm rfl rfl (Or.inl ⟨_, rfl⟩) (pq_set0 hn rfl) dX5_init_18 ?_
  refine g_aload_n (q := 0) hC dX5_init_21 rfl rfl rfl ?_
  refine g_aload_n (q := 2) hC dX5_init_22 rfl rfl rfl ?_
  refine g_putPD (k := 2) (L' := P ++ ([(5, [q1, n + 1, (-3), (-4), (-1)]), (100, [3])] : List Kd)) hC cf_X5 (pq_at0 hn rfl) (by decide) (by decide) (Nat.le_of_ble_eq_true rfl) wf_RX5_23 rfl rfl (pq_set0 hn rfl) dX5_init_23 ?_
  refine g_aload_n (q := 0) hC dX5_init_26 rfl rfl rfl ?_
  refine g_aload_n (q := 3) hC dX5_init_27 rfl rfl rfl ?_
  refine g_putPD (k := 3) (L' := P ++ ([(5, [q1, n + 1, (-3), (-3), (-1)]), (100, [3])] : List Kd)) hC cf_X5 (pq_at0 hn rfl) (by decide) (by decide) (Nat.le_of_ble_eq_true rfl) wf_RX5_27 rfl rfl (pq_set0 hn rfl) dX5_init_28 ?_
  exact g_cret hC hR dX5_init_31
def cN9 (n : Int) : List Kd := ([(9, [n + 1]), (101, [32])] : List Kd)
def xN9 (n : Int) (X : Mem) : Mem := X
theorem xN9_ne {n i : Int} {X : Mem} (h : i ≠ n) : xN9 n X i = X i := by
  unfold xN9
  rw []
set_option maxRecDepth 20000 in
theorem kc_X9 (l : Launch) (V : Ev) (P : List Kd) (n : Int) (hn : (P.length : Int) = n) (X : Mem) (hz : ∀ i k : Int, n ≤ i → X i k = 0) : Kc l V yX9_init (.code yX9_init cX9_init 1 none) 1 1 32 14 [vR V.1 n] (P ++ [(9, [(-4)])]) X (P ++ cN9 n) (xN9 n X) := by
  have hn0 : 0 ≤ n := by omega
  refine kc_of (own := RX9) (lv0 := [(0, vR V.1 n)]) (by decide) rfl rfl (Nat.le_of_ble_eq_true rfl) rfl (fun C hCl hC hR hsz hcc hcs hnm => ?_)
  subst hCl
  have hb : V.1 ≤ C.2.2.2.2.1.heap.size := by omega
  refine g_aload_n (q := 0) hC dX9_init_0 rfl rfl rfl ?_
  refine g_oinit hC wml_RX9_3 (by decide) (Nat.le_of_ble_eq_true rfl) dX9_init_1 ?_
  refine g_aload_n (q := 0) hC dX9_init_4 rfl rfl rfl ?_
  refine g_bipush (v := vI 32) hC dX9_init_5 rfl ?_
  refine g_newl (i := n + 1) (L' := P ++ ([(9, [(-4)]), (101, [32])] : List Kd)) hC ⟨by decide, by decide⟩ (fun k => hz _ _ (by omega)) (pq_len hn (j := 1) rfl) (pq_app rfl) (pq_sz hsz rfl) hb (by rw [hcc]; exact Nat.le_of_ble_eq_true rfl) (by rw [hcs]; exact Nat.le_of_ble_eq_true rfl) dX9_init_7 ?_
  refine g_putP (k := 0) (L' := P ++ ([(9, [n + 1]), (101, [32])] : List Kd)) hC cf_X9 (pq_at0 hn rfl) (by decide) (by omega) (by decide) (Nat.le_of_ble_eq_true rfl) wf_RX9_9 hnm rfl rfl (Or.inr ⟨_, rfl⟩) (pq_set0 hn rfl) dX9_init_9 ?_
  exact g_cret hC hR dX9_init_12
def cN1 (n q1 : Int) : List Kd := ([(1, [n + 1, n + 2, (-1), n + 3, n + 4, n + 5, n + 6, (-1), (-1), (-1), (-2), (-3), (-1), (-1), (-1), (-1), (-2), (-2), (-2)]), (103, [32]), (100, [32]), (101, [32]), (101, [5]), (100, [480]), (100, [60])] : List Kd)
def xN1 (n q1 : Int) (X : Mem) : Mem := ms (ms (ms (ms (ms (ms (ms (ms (ms (ms (ms (ms (ms X n 2 0) n 7 0) n 8 (-1)) n 9 0) n 10 0) n 12 0) n 13 0) n 14 0) n 15 0) n 16 0) n 17 0) n 18 0) n 11 q1
theorem xN1_ne {n q1 i : Int} {X : Mem} (h : i ≠ n) : xN1 n q1 X i = X i := by
  unfold xN1
  rw [ms_ne h, ms_ne h, ms_ne h, ms_ne h, ms_ne h, ms_ne h, ms_ne h, ms_ne h, ms_ne h, ms_ne h, ms_ne h, ms_ne h, ms_ne h]
set_option maxRecDepth 20000 in
theorem kc_X1 (l : Launch) (V : Ev) (P : List Kd) (n : Int) (hn : (P.length : Int) = n) (X : Mem) (hz : ∀ i k : Int, n ≤ i → X i k = 0) (q1 : Int) (hq1 : 0 ≤ q1) : Kc l V yX1_init (.code yX1_init cX1_init 2 none) 1 6 641 14 [vR V.1 n, vR V.1 q1] (P ++ [(1, [(-4), (-4), (-1), (-4), (-4), (-4), (-4), (-1), (-1), (-1), (-2), (-4), (-1), (-1), (-1), (-1), (-2), (-2), (-2)])]) X (P ++ cN1 n q1) (xN1 n q1 X) := by
  have hn0 : 0 ≤ n := by omega
  refine kc_of (own := RX1) (lv0 := [(0, vR V.1 n), (1, vR V.1 q1)]) (by decide) rfl rfl (Nat.le_of_ble_eq_true rfl) rfl (fun C hCl hC hR hsz hcc hcs hnm => ?_)
  subst hCl
  have hb : V.1 ≤ C.2.2.2.2.1.heap.size := by omega
  refine g_aload_n (q := 0) hC dX1_init_0 rfl rfl rfl ?_
  refine g_oinit hC wml_RX1_3 (by decide) (Nat.le_of_ble_eq_true rfl) dX1_init_1 ?_
  refine g_aload_n (q := 0) hC dX1_init_4 rfl rfl rfl ?_
  refine g_bipush (v := vI 32) hC dX1_init_5 rfl ?_
  refine g_newi (tag := 103) (t0 := 3) (atype := .boolean) (ix := 0) (i := n + 1) (L' := P ++ ([(1, [(-4), (-4), (-1), (-4), (-4), (-4), (-4), (-1), (-1), (-1), (-2), (-4), (-1), (-1), (-1), (-1), (-2), (-2), (-2)]), (103, [32])] : List Kd)) hC (by decide) war_FieldType_boolean rfl rfl (fun _ _ => rfl) rfl ⟨by decide, by decide⟩ (Nat.le_of_ble_eq_true rfl) (fun k => hz _ _ (by omega)) (pq_len hn (j := 1) rfl) (pq_app rfl) (pq_sz hsz rfl) hb (by rw [hcc]; exact Nat.le_of_ble_eq_true rfl) (by rw [hcs]; exact Nat.le_of_ble_eq_true rfl) dX1_init_7 ?_
  refine g_putP (k := 0) (L' := P ++ ([(1, [n + 1, (-4), (-1), (-4), (-4), (-4), (-4), (-1), (-1), (-1), (-2), (-4), (-1), (-1), (-1), (-1), (-2), (-2), (-2)]), (103, [32])] : List Kd)) hC cf_X1 (pq_at0 hn rfl) (by decide) (by omega) (by decide) (Nat.le_of_ble_eq_true rfl) wf_RX1_9 hnm rfl rfl (Or.inr ⟨_, rfl⟩) (pq_set0 hn rfl) dX1_init_9 ?_
  refine g_aload_n (q := 0) hC dX1_init_12 rfl rfl rfl ?_
  refine g_bipush (v := vI 32) hC dX1_init_13 rfl ?_
  refine g_newi (tag := 100) (t0 := 0) (atype := .int) (ix := 0) (i := n + 2) (L' := P ++ ([(1, [n + 1, (-4), (-1), (-4), (-4), (-4), (-4), (-1), (-1), (-1), (-2), (-4), (-1), (-1), (-1), (-1), (-2), (-2), (-2)]), (103, [32]), (100, [32])] : List Kd)) hC (by decide) war_FieldType_int rfl rfl (fun _ _ => rfl) rfl ⟨by decide, by decide⟩ (Nat.le_of_ble_eq_true rfl) (fun k => hz _ _ (by omega)) (pq_len hn (j := 2) rfl) (pq_app rfl) (pq_sz hsz rfl) hb (by rw [hcc]; exact Nat.le_of_ble_eq_true rfl) (by rw [hcs]; exact Nat.le_of_ble_eq_true rfl) dX1_init_15 ?_
  refine g_putP (k := 1) (L' := P ++ ([(1, [n + 1, n + 2, (-1), (-4), (-4), (-4), (-4), (-1), (-1), (-1), (-2), (-4), (-1), (-1), (-1), (-1), (-2), (-2), (-2)]), (103, [32]), (100, [32])] : List Kd)) hC cf_X1 (pq_at0 hn rfl) (by decide) (by omega) (by decide) (Nat.le_of_ble_eq_true rfl) wf_RX1_15 hnm rfl rfl (Or.inr ⟨_, rfl⟩) (pq_set0 hn rfl) dX1_init_17 ?_
  refine g_aload_n (q := 0) hC dX1_init_20 rfl rfl rfl ?_
  refine g_iconst (v := vI 0) hC dX1_init_21 rfl ?_
  refine g_put (k := 2) (y := 0) hC cf_X1 (pq_at0 hn rfl) (by decide) rfl (by decide) wf_RX1_19 (shv_I _ _) rfl rfl rfl rfl dX1_init_22 ?_
  refine g_aload_n (q := 0) hC dX1_init_25 rfl rfl rfl ?_
  refine g_bipush (v := vI 32) hC dX1_init_26 rfl ?_
  refine g_newl (i := n + 3) (L' := P ++ ([(1, [n + 1, n + 2, (-1), (-4), (-4), (-4), (-4), (-1), (-1), (-1), (-2), (-4), (-1), (-1), (-1), (-1), (-2), (-2), (-2)]), (103, [32]), (100, [32]), (101, [32])] : List Kd)) hC ⟨by decide, by decide⟩ (fun k => by rw [ms_ne (by omega)]; exact hz _ _ (by omega)) (pq_len hn (j := 3) rfl) (pq_app rfl) (pq_sz hsz rfl) hb (by rw [hcc]; exact Nat.le_of_ble_eq_true rfl) (by rw [hcs]; exact Nat.le_of_ble_eq_true rfl) dX1_init_28 ?_
  refine g_putP (k := 3) (L' := P ++ ([(1, [n + 1, n + 2, (-1), n + 3, (-4), (-4), (-4), (-1), (-1), (-1), (-2), (-4), (-1), (-1), (-1), (-1), (-2), (-2), (-2)]), (103, [32]), (100, [32]), (101, [32])] : List Kd)) hC cf_X1 (pq_at0 hn rfl) (by decide) (by omega) (by decide) (Nat.le_of_ble_eq_true rfl) wf_RX1_23 hnm rfl rfl (Or.inr ⟨_, rfl⟩) (pq_set0 hn rfl) dX1_init_30 ?_
  refine g_aload_n (q := 0) hC dX1_init_33 rfl rfl rfl ?_
  refine g_iconst (v := vI 5) hC dX1_init_34 rfl ?_
  refine g_newl (i := n + 4) (L' := P ++ ([(1, [n + 1, n + 2, (-1), n + 3, (-4), (-4), (-4), (-1), (-1), (-1), (-2), (-4), (-1), (-1), (-1), (-1), (-2), (-2), (-2)]), (103, [32]), (100, [32]), (101, [32]), (101, [5])] : List Kd)) hC ⟨by decide, by decide⟩ (fun k => by rw [ms_ne (by omega)]; exact hz _ _ (by omega)) (pq_len hn (j := 4) rfl) (pq_app rfl) (pq_sz hsz rfl) hb (by rw [hcc]; exact Nat.le_of_ble_eq_true rfl) (by rw [hcs]; exact Nat.le_of_ble_eq_true rfl) dX1_init_35 ?_
  refine g_putP (k := 4) (L' := P ++ ([(1, [n + 1, n + 2, (-1), n + 3, n + 4, (-4), (-4), (-1), (-1), (-1), (-2), (-4), (-1), (-1), (-1), (-1), (-2), (-2), (-2)]), (103, [32]), (100, [32]), (101, [32]), (101, [5])] : List Kd)) hC cf_X1 (pq_at0 hn rfl) (by decide) (by omega) (by decide) (Nat.le_of_ble_eq_true rfl) wf_RX1_27 hnm rfl rfl (Or.inr ⟨_, rfl⟩) (pq_set0 hn rfl) dX1_init_37 ?_
  refine g_aload_n (q := 0) hC dX1_init_40 rfl rfl rfl ?_
  refine g_sipush (v := vI 480) hC dX1_init_41 rfl ?_
  refine g_newi (tag := 100) (t0 := 0) (atype := .int) (ix := 0) (i := n + 5) (L' := P ++ ([(1, [n + 1, n + 2, (-1), n + 3, n + 4, (-4), (-4), (-1), (-1), (-1), (-2), (-4), (-1), (-1), (-1), (-1), (-2), (-2), (-2)]), (103, [32]), (100, [32]), (101, [32]), (101, [5]), (100, [480])] : List Kd)) hC (by decide) war_FieldType_int rfl rfl (fun _ _ => rfl) rfl ⟨by decide, by decide⟩ (Nat.le_of_ble_eq_true rfl) (fun k => by rw [ms_ne (by omega)]; exact hz _ _ (by omega)) (pq_len hn (j := 5) rfl) (pq_app rfl) (pq_sz hsz rfl) hb (by rw [hcc]; exact Nat.le_of_ble_eq_true rfl) (by rw [hcs]; exact Nat.le_of_ble_eq_true rfl) dX1_init_44 ?_
  refine g_putP (k := 5) (L' := P ++ ([(1, [n + 1, n + 2, (-1), n + 3, n + 4, n + 5, (-4), (-1), (-1), (-1), (-2), (-4), (-1), (-1), (-1), (-1), (-2), (-2), (-2)]), (103, [32]), (100, [32]), (101, [32]), (101, [5]), (100, [480])] : List Kd)) hC cf_X1 (pq_at0 hn rfl) (by decide) (by omega) (by decide) (Nat.le_of_ble_eq_true rfl) wf_RX1_30 hnm rfl rfl (Or.inr ⟨_, rfl⟩) (pq_set0 hn rfl) dX1_init_46 ?_
  refine g_aload_n (q := 0) hC dX1_init_49 rfl rfl rfl ?_
  refine g_bipush (v := vI 60) hC dX1_init_50 rfl ?_
  refine g_newi (tag := 100) (t0 := 0) (atype := .int) (ix := 0) (i := n + 6) (L' := P ++ ([(1, [n + 1, n + 2, (-1), n + 3, n + 4, n + 5, (-4), (-1), (-1), (-1), (-2), (-4), (-1), (-1), (-1), (-1), (-2), (-2), (-2)]), (103, [32]), (100, [32]), (101, [32]), (101, [5]), (100, [480]), (100, [60])] : List Kd)) hC (by decide) war_FieldType_int rfl rfl (fun _ _ => rfl) rfl ⟨by decide, by decide⟩ (Nat.le_of_ble_eq_true rfl) (fun k => by rw [ms_ne (by omega)]; exact hz _ _ (by omega)) (pq_len hn (j := 6) rfl) (pq_app rfl) (pq_sz hsz rfl) hb (by rw [hcc]; exact Nat.le_of_ble_eq_true rfl) (by rw [hcs]; exact Nat.le_of_ble_eq_true rfl) dX1_init_52 ?_
  refine g_putP (k := 6) (L' := P ++ ([(1, [n + 1, n + 2, (-1), n + 3, n + 4, n + 5, n + 6, (-1), (-1), (-1), (-2), (-4), (-1), (-1), (-1), (-1), (-2), (-2), (-2)]), (103, [32]), (100, [32]), (101, [32]), (101, [5]), (100, [480]), (100, [60])] : List Kd)) hC cf_X1 (pq_at0 hn rfl) (by decide) (by omega) (by decide) (Nat.le_of_ble_eq_true rfl) wf_RX1_33 hnm rfl rfl (Or.inr ⟨_, rfl⟩) (pq_set0 hn rfl) dX1_init_54 ?_
  refine g_aload_n (q := 0) hC dX1_init_57 rfl rfl rfl ?_
  refine g_iconst (v := vI 0) hC dX1_init_58 rfl ?_
  refine g_put (k := 7) (y := 0) hC cf_X1 (pq_at0 hn rfl) (by decide) rfl (by decide) wf_RX1_36 (shv_I _ _) rfl rfl rfl rfl dX1_init_59 ?_
  refine g_aload_n (q := 0) hC dX1_init_62 rfl rfl rfl ?_
  refine g_iconst (v := vI (-1)) hC dX1_init_63 rfl ?_
  refine g_put (k := 8) (y := (-1)) hC cf_X1 (pq_at0 hn rfl) (by decide) rfl (by decide) wf_RX1_39 (shv_I _ _) rfl rfl rfl rfl dX1_init_64 ?_
  refine g_aload_n (q := 0) hC dX1_init_67 rfl rfl rfl ?_
  refine g_iconst (v := vI 0) hC dX1_init_68 rfl ?_
  refine g_put (k := 9) (y := 0) hC cf_X1 (pq_at0 hn rfl) (by decide) rfl (by decide) wf_RX1_42 (shv_I _ _) rfl rfl rfl rfl dX1_init_69 ?_
  refine g_aload_n (q := 0) hC dX1_init_72 rfl rfl rfl ?_
  refine g_lconst (v := vJ 0) hC dX1_init_73 rfl ?_
  refine g_put (k := 10) (y := 0) hC cf_X1 (pq_at0 hn rfl) (by decide) rfl (by decide) wf_RX1_45 (shv_J _ _) rfl rfl rfl rfl dX1_init_74 ?_
  refine g_aload_n (q := 0) hC dX1_init_77 rfl rfl rfl ?_
  refine g_iconst (v := vI 0) hC dX1_init_78 rfl ?_
  refine g_put (k := 12) (y := 0) hC cf_X1 (pq_at0 hn rfl) (by decide) rfl (by decide) wf_RX1_49 (shv_I _ _) rfl rfl rfl rfl dX1_init_79 ?_
  refine g_aload_n (q := 0) hC dX1_init_82 rfl rfl rfl ?_
  refine g_iconst (v := vI 0) hC dX1_init_83 rfl ?_
  refine g_put (k := 13) (y := 0) hC cf_X1 (pq_at0 hn rfl) (by decide) rfl (by decide) wf_RX1_52 (shv_I _ _) rfl rfl rfl rfl dX1_init_84 ?_
  refine g_aload_n (q := 0) hC dX1_init_87 rfl rfl rfl ?_
  refine g_iconst (v := vI 0) hC dX1_init_88 rfl ?_
  refine g_put (k := 14) (y := 0) hC cf_X1 (pq_at0 hn rfl) (by decide) rfl (by decide) wf_RX1_55 (shv_I _ _) rfl rfl rfl rfl dX1_init_89 ?_
  refine g_aload_n (q := 0) hC dX1_init_92 rfl rfl rfl ?_
  refine g_iconst (v := vI 0) hC dX1_init_93 rfl ?_
  refine g_put (k := 15) (y := 0) hC cf_X1 (pq_at0 hn rfl) (by decide) rfl (by decide) wf_RX1_58 (shv_I _ _) rfl rfl rfl rfl dX1_init_94 ?_
  refine g_aload_n (q := 0) hC dX1_init_97 rfl rfl rfl ?_
  refine g_lconst (v := vJ 0) hC dX1_init_98 rfl ?_
  refine g_put (k := 16) (y := 0) hC cf_X1 (pq_at0 hn rfl) (by decide) rfl (by decide) wf_RX1_61 (shv_J _ _) rfl rfl rfl rfl dX1_init_99 ?_
  refine g_aload_n (q := 0) hC dX1_init_102 rfl rfl rfl ?_
  refine g_lconst (v := vJ 0) hC dX1_init_103 rfl ?_
  refine g_put (k := 17) (y := 0) hC cf_X1 (pq_at0 hn rfl) (by decide) rfl (by decide) wf_RX1_64 (shv_J _ _) rfl rfl rfl rfl dX1_init_104 ?_
  refine g_aload_n (q := 0) hC dX1_init_107 rfl rfl rfl ?_
  refine g_lconst (v := vJ 0) hC dX1_init_108 rfl ?_
  refine g_put (k := 18) (y := 0) hC cf_X1 (pq_at0 hn rfl) (by decide) rfl (by decide) wf_RX1_67 (shv_J _ _) rfl rfl rfl rfl dX1_init_109 ?_
  refine g_aload_n (q := 0) hC dX1_init_112 rfl rfl rfl ?_
  refine g_aload_n (q := 1) hC dX1_init_113 rfl rfl rfl ?_
  refine g_putPD (k := 11) (L' := P ++ ([(1, [n + 1, n + 2, (-1), n + 3, n + 4, n + 5, n + 6, (-1), (-1), (-1), (-2), (-3), (-1), (-1), (-1), (-1), (-2), (-2), (-2)]), (103, [32]), (100, [32]), (101, [32]), (101, [5]), (100, [480]), (100, [60])] : List Kd)) hC cf_X1 (pq_at0 hn rfl) (by decide) (by decide) (Nat.le_of_ble_eq_true rfl) wf_RX1_70 rfl rfl (pq_set0 hn rfl) dX1_init_114 ?_
  exact g_cret hC hR dX1_init_117
def cN6 (n q1 q2 : Int) : List Kd := ([(6, [q1, n + 1, (-3), (-1), (-1)]), (106, [n + 1 + 1, n + 1 + 2, n + 1 + 3, n + 1 + 4]), (101, [32]), (101, [32]), (101, [32]), (101, [32])] : List Kd)
def xN6 (n q1 q2 : Int) (X : Mem) : Mem := ms (ms (ms X n 3 0) n 4 0) n 2 q2
theorem xN6_ne {n q1 q2 i : Int} {X : Mem} (h : i ≠ n) : xN6 n q1 q2 X i = X i := by
  unfold xN6
  rw [ms_ne h, ms_ne h, ms_ne h]
set_option maxRecDepth 20000 in
theorem kc_X6 (l : Launch) (V : Ev) (P : List Kd) (n : Int) (hn : (P.length : Int) = n) (X : Mem) (hz : ∀ i k : Int, n ≤ i → X i k = 0) (q1 : Int) (hq1 : 0 ≤ q1) (q2 : Int) (hq2 : 0 ≤ q2) : Kc l V yX6_init (.code yX6_init cX6_init 3 none) 1 5 132 14 [vR V.1 n, vR V.1 q1, vR V.1 q2] (P ++ [(6, [(-4), (-4), (-4), (-1), (-1)])]) X (P ++ cN6 n q1 q2) (xN6 n q1 q2 X) := by
  have hn0 : 0 ≤ n := by omega
  refine kc_of (own := RX6) (lv0 := [(0, vR V.1 n), (1, vR V.1 q1), (2, vR V.1 q2)]) (by decide) rfl rfl (Nat.le_of_ble_eq_true rfl) rfl (fun C hCl hC hR hsz hcc hcs hnm => ?_)
  subst hCl
  have hb : V.1 ≤ C.2.2.2.2.1.heap.size := by omega
  refine g_aload_n (q := 0) hC dX6_init_0 rfl rfl rfl ?_
  refine g_oinit hC wml_RX6_3 (by decide) (Nat.le_of_ble_eq_true rfl) dX6_init_1 ?_
  refine g_aload_n (q := 0) hC dX6_init_4 rfl rfl rfl ?_
  refine g_iconst (v := vI 4) hC dX6_init_5 rfl ?_
  refine g_bipush (v := vI 32) hC dX6_init_6 rfl ?_
  refine g_mna4 (i := n + 1) (L' := P ++ ([(6, [(-4), (-4), (-4), (-1), (-1)]), (106, [n + 1 + 1, n + 1 + 2, n + 1 + 3, n + 1 + 4]), (101, [32]), (101, [32]), (101, [32]), (101, [32])] : List Kd)) hC wcl_RX6_9 (pq_len hn (j := 1) rfl) (fun j k hj => hz _ _ (by omega)) (pq_app rfl) (pq_sz hsz rfl) (pq_pos rfl) hb (by rw [hcc]; exact Nat.le_of_ble_eq_true rfl) (by rw [hcs]; exact Nat.le_of_ble_eq_true rfl) dX6_init_8 ?_
  refine g_putP (k := 1) (L' := P ++ ([(6, [(-4), n + 1, (-4), (-1), (-1)]), (106, [n + 1 + 1, n + 1 + 2, n + 1 + 3, n + 1 + 4]), (101, [32]), (101, [32]), (101, [32]), (101, [32])] : List Kd)) hC cf_X6 (pq_at0 hn rfl) (by decide) (by omega) (by decide) (Nat.le_of_ble_eq_true rfl) wf_RX6_11 hnm rfl rfl (Or.inr ⟨_, rfl⟩) (pq_set0 hn rfl) dX6_init_12 ?_
  refine g_aload_n (q := 0) hC dX6_init_15 rfl rfl rfl ?_
  refine g_iconst (v := vI 0) hC dX6_init_16 rfl ?_
  refine g_put (k := 3) (y := 0) hC cf_X6 (pq_at0 hn rfl) (by decide) rfl (by decide) wf_RX6_16 (shv_I _ _) rfl rfl rfl rfl dX6_init_17 ?_
  refine g_aload_n (q := 0) hC dX6_init_20 rfl rfl rfl ?_
  refine g_iconst (v := vI 0) hC dX6_init_21 rfl ?_
  refine g_put (k := 4) (y := 0) hC cf_X6 (pq_at0 hn rfl) (by decide) rfl (by decide) wf_RX6_20 (shv_I _ _) rfl rfl (nar_z (by decide)) rfl dX6_init_22 ?_
  refine g_aload_n (q := 0) hC dX6_init_25 rfl rfl rfl ?_
  refine g_aload_n (q := 1) hC dX6_init_26 rfl rfl rfl ?_
  refine g_putP (k := 0) (L' := P ++ ([(6, [q1, n + 1, (-4), (-1), (-1)]), (106, [n + 1 + 1, n + 1 + 2, n + 1 + 3, n + 1 + 4]), (101, [32]), (101, [32]), (101, [32]), (101, [32])] : List Kd)) hC cf_X6 (pq_at0 hn rfl) (by decide) (by omega) (by decide) (Nat.le_of_ble_eq_true rfl) wf_RX6_24 hnm rfl rfl (Or.inl ⟨_, rfl⟩) (pq_set0 hn rfl) dX6_init_27 ?_
  refine g_aload_n (q := 0) hC dX6_init_30 rfl rfl rfl ?_
  refine g_aload_n (q := 2) hC dX6_init_31 rfl rfl rfl ?_
  refine g_putPD (k := 2) (L' := P ++ ([(6, [q1, n + 1, (-3), (-1), (-1)]), (106, [n + 1 + 1, n + 1 + 2, n + 1 + 3, n + 1 + 4]), (101, [32]), (101, [32]), (101, [32]), (101, [32])] : List Kd)) hC cf_X6 (pq_at0 hn rfl) (by decide) (by decide) (Nat.le_of_ble_eq_true rfl) wf_RX6_28 rfl rfl (pq_set0 hn rfl) dX6_init_32 ?_
  exact g_cret hC hR dX6_init_35
def cN0 (n q1 q2 q3 : Int) : List Kd := ([(0, [q1, q2, n + 1, n + 2, n + 3, (-3), (-3), (-1), (-1), (-1), (-1), (-1)]), (100, [7]), (101, [32]), (100, [60])] : List Kd)
def xN0 (n q1 q2 q3 : Int) (X : Mem) : Mem := ms (ms (ms (ms (ms (ms (ms X n 7 0) n 8 0) n 9 0) n 10 0) n 11 0) n 5 ((ms (ms (ms (ms (ms X n 7 0) n 8 0) n 9 0) n 10 0) n 11 0) q3 0)) n 6 ((ms (ms (ms (ms (ms (ms X n 7 0) n 8 0) n 9 0) n 10 0) n 11 0) n 5 ((ms (ms (ms (ms (ms X n 7 0) n 8 0) n 9 0) n 10 0) n 11 0) q3 0)) q3 1)
theorem xN0_ne {n q1 q2 q3 i : Int} {X : Mem} (h : i ≠ n) : xN0 n q1 q2 q3 X i = X i := by
  unfold xN0
  rw [ms_ne h, ms_ne h, ms_ne h, ms_ne h, ms_ne h, ms_ne h, ms_ne h]
set_option maxRecDepth 20000 in
theorem kc_X0 (l : Launch) (V : Ev) (P : List Kd) (n : Int) (hn : (P.length : Int) = n) (X : Mem) (hz : ∀ i k : Int, n ≤ i → X i k = 0) (q1 : Int) (hq1 : 0 ≤ q1) (q2 : Int) (hq2 : 0 ≤ q2) (q3 : Int) (hq3 : 0 ≤ q3) (h3 : isState P q3) : Kc l V yX0_init (.code yX0_init cX0_init 4 none) 1 3 99 14 [vR V.1 n, vR V.1 q1, vR V.1 q2, vR V.1 q3] (P ++ [(0, [(-4), (-4), (-4), (-4), (-4), (-4), (-4), (-1), (-1), (-1), (-1), (-1)])]) X (P ++ cN0 n q1 q2 q3) (xN0 n q1 q2 q3 X) := by
  have hn0 : 0 ≤ n := by omega
  refine kc_of (own := RX0) (lv0 := [(0, vR V.1 n), (1, vR V.1 q1), (2, vR V.1 q2), (3, vR V.1 q3)]) (by decide) rfl rfl (Nat.le_of_ble_eq_true rfl) rfl (fun C hCl hC hR hsz hcc hcs hnm => ?_)
  subst hCl
  have hb : V.1 ≤ C.2.2.2.2.1.heap.size := by omega
  refine g_aload_n (q := 0) hC dX0_init_0 rfl rfl rfl ?_
  refine g_oinit hC wml_RX0_3 (by decide) (Nat.le_of_ble_eq_true rfl) dX0_init_1 ?_
  refine g_aload_n (q := 0) hC dX0_init_4 rfl rfl rfl ?_
  refine g_bipush (v := vI 7) hC dX0_init_5 rfl ?_
  refine g_newi (tag := 100) (t0 := 0) (atype := .int) (ix := 0) (i := n + 1) (L' := P ++ ([(0, [(-4), (-4), (-4), (-4), (-4), (-4), (-4), (-1), (-1), (-1), (-1), (-1)]), (100, [7])] : List Kd)) hC (by decide) war_FieldType_int rfl rfl (fun _ _ => rfl) rfl ⟨by decide, by decide⟩ (Nat.le_of_ble_eq_true rfl) (fun k => hz _ _ (by omega)) (pq_len hn (j := 1) rfl) (pq_app rfl) (pq_sz hsz rfl) hb (by rw [hcc]; exact Nat.le_of_ble_eq_true rfl) (by rw [hcs]; exact Nat.le_of_ble_eq_true rfl) dX0_init_7 ?_
  refine g_putP (k := 2) (L' := P ++ ([(0, [(-4), (-4), n + 1, (-4), (-4), (-4), (-4), (-1), (-1), (-1), (-1), (-1)]), (100, [7])] : List Kd)) hC cf_X0 (pq_at0 hn rfl) (by decide) (by omega) (by decide) (Nat.le_of_ble_eq_true rfl) wf_RX0_11 hnm rfl rfl (Or.inr ⟨_, rfl⟩) (pq_set0 hn rfl) dX0_init_9 ?_
  refine g_aload_n (q := 0) hC dX0_init_12 rfl rfl rfl ?_
  refine g_bipush (v := vI 32) hC dX0_init_13 rfl ?_
  refine g_newl (i := n + 2) (L' := P ++ ([(0, [(-4), (-4), n + 1, (-4), (-4), (-4), (-4), (-1), (-1), (-1), (-1), (-1)]), (100, [7]), (101, [32])] : List Kd)) hC ⟨by decide, by decide⟩ (fun k => hz _ _ (by omega)) (pq_len hn (j := 2) rfl) (pq_app rfl) (pq_sz hsz rfl) hb (by rw [hcc]; exact Nat.le_of_ble_eq_true rfl) (by rw [hcs]; exact Nat.le_of_ble_eq_true rfl) dX0_init_15 ?_
  refine g_putP (k := 3) (L' := P ++ ([(0, [(-4), (-4), n + 1, n + 2, (-4), (-4), (-4), (-1), (-1), (-1), (-1), (-1)]), (100, [7]), (101, [32])] : List Kd)) hC cf_X0 (pq_at0 hn rfl) (by decide) (by omega) (by decide) (Nat.le_of_ble_eq_true rfl) wf_RX0_15 hnm rfl rfl (Or.inr ⟨_, rfl⟩) (pq_set0 hn rfl) dX0_init_17 ?_
  refine g_aload_n (q := 0) hC dX0_init_20 rfl rfl rfl ?_
  refine g_bipush (v := vI 60) hC dX0_init_21 rfl ?_
  refine g_newi (tag := 100) (t0 := 0) (atype := .int) (ix := 0) (i := n + 3) (L' := P ++ ([(0, [(-4), (-4), n + 1, n + 2, (-4), (-4), (-4), (-1), (-1), (-1), (-1), (-1)]), (100, [7]), (101, [32]), (100, [60])] : List Kd)) hC (by decide) war_FieldType_int rfl rfl (fun _ _ => rfl) rfl ⟨by decide, by decide⟩ (Nat.le_of_ble_eq_true rfl) (fun k => hz _ _ (by omega)) (pq_len hn (j := 3) rfl) (pq_app rfl) (pq_sz hsz rfl) hb (by rw [hcc]; exact Nat.le_of_ble_eq_true rfl) (by rw [hcs]; exact Nat.le_of_ble_eq_true rfl) dX0_init_23 ?_
  refine g_putP (k := 4) (L' := P ++ ([(0, [(-4), (-4), n + 1, n + 2, n + 3, (-4), (-4), (-1), (-1), (-1), (-1), (-1)]), (100, [7]), (101, [32]), (100, [60])] : List Kd)) hC cf_X0 (pq_at0 hn rfl) (by decide) (by omega) (by decide) (Nat.le_of_ble_eq_true rfl) wf_RX0_19 hnm rfl rfl (Or.inr ⟨_, rfl⟩) (pq_set0 hn rfl) dX0_init_25 ?_
  refine g_aload_n (q := 0) hC dX0_init_28 rfl rfl rfl ?_
  refine g_iconst (v := vI 0) hC dX0_init_29 rfl ?_
  refine g_put (k := 7) (y := 0) hC cf_X0 (pq_at0 hn rfl) (by decide) rfl (by decide) wf_RX0_22 (shv_I _ _) rfl rfl rfl rfl dX0_init_30 ?_
  refine g_aload_n (q := 0) hC dX0_init_33 rfl rfl rfl ?_
  refine g_iconst (v := vI 0) hC dX0_init_34 rfl ?_
  refine g_put (k := 8) (y := 0) hC cf_X0 (pq_at0 hn rfl) (by decide) rfl (by decide) wf_RX0_26 (shv_I _ _) rfl rfl rfl rfl dX0_init_35 ?_
  refine g_aload_n (q := 0) hC dX0_init_38 rfl rfl rfl ?_
  refine g_iconst (v := vI 0) hC dX0_init_39 rfl ?_
  refine g_put (k := 9) (y := 0) hC cf_X0 (pq_at0 hn rfl) (by decide) rfl (by decide) wf_RX0_29 (shv_I _ _) rfl rfl rfl rfl dX0_init_40 ?_
  refine g_aload_n (q := 0) hC dX0_init_43 rfl rfl rfl ?_
  refine g_iconst (v := vI 0) hC dX0_init_44 rfl ?_
  refine g_put (k := 10) (y := 0) hC cf_X0 (pq_at0 hn rfl) (by decide) rfl (by decide) wf_RX0_32 (shv_I _ _) rfl rfl rfl rfl dX0_init_45 ?_
  refine g_aload_n (q := 0) hC dX0_init_48 rfl rfl rfl ?_
  refine g_iconst (v := vI 0) hC dX0_init_49 rfl ?_
  refine g_put (k := 11) (y := 0) hC cf_X0 (pq_at0 hn rfl) (by decide) rfl (by decide) wf_RX0_35 (shv_I _ _) rfl rfl rfl rfl dX0_init_50 ?_
  refine g_aload_n (q := 0) hC dX0_init_53 rfl rfl rfl ?_
  refine g_aload_n (q := 1) hC dX0_init_54 rfl rfl rfl ?_
  refine g_putP (k := 0) (L' := P ++ ([(0, [q1, (-4), n + 1, n + 2, n + 3, (-4), (-4), (-1), (-1), (-1), (-1), (-1)]), (100, [7]), (101, [32]), (100, [60])] : List Kd)) hC cf_X0 (pq_at0 hn rfl) (by decide) (by omega) (by decide) (Nat.le_of_ble_eq_true rfl) wf_RX0_38 hnm rfl rfl (Or.inl ⟨_, rfl⟩) (pq_set0 hn rfl) dX0_init_55 ?_
  refine g_aload_n (q := 0) hC dX0_init_58 rfl rfl rfl ?_
  refine g_aload_n (q := 2) hC dX0_init_59 rfl rfl rfl ?_
  refine g_putP (k := 1) (L' := P ++ ([(0, [q1, q2, n + 1, n + 2, n + 3, (-4), (-4), (-1), (-1), (-1), (-1), (-1)]), (100, [7]), (101, [32]), (100, [60])] : List Kd)) hC cf_X0 (pq_at0 hn rfl) (by decide) (by omega) (by decide) (Nat.le_of_ble_eq_true rfl) wf_RX0_42 hnm rfl rfl (Or.inl ⟨_, rfl⟩) (pq_set0 hn rfl) dX0_init_60 ?_
  refine g_aload_n (q := 0) hC dX0_init_63 rfl rfl rfl ?_
  refine g_aload_n (q := 3) hC dX0_init_64 rfl rfl rfl ?_
  refine g_getD (k := 0) (kz := 0) hC cf_X7 (at_app h3) (by decide) rfl (by decide) rfl wf_RX0_46 dX0_init_65 ?_
  refine g_putPD (k := 5) (L' := P ++ ([(0, [q1, q2, n + 1, n + 2, n + 3, (-3), (-4), (-1), (-1), (-1), (-1), (-1)]), (100, [7]), (101, [32]), (100, [60])] : List Kd)) hC cf_X0 (pq_at0 hn rfl) (by decide) (by decide) (Nat.le_of_ble_eq_true rfl) wf_RX0_52 rfl rfl (pq_set0 hn rfl) dX0_init_68 ?_
  refine g_aload_n (q := 0) hC dX0_init_71 rfl rfl rfl ?_
  refine g_aload_n (q := 3) hC dX0_init_72 rfl rfl rfl ?_
  refine g_getD (k := 1) (kz := 1) hC cf_X7 (at_app h3) (by decide) rfl (by decide) rfl wf_RX0_53 dX0_init_73 ?_
  refine g_putPD (k := 6) (L' := P ++ ([(0, [q1, q2, n + 1, n + 2, n + 3, (-3), (-3), (-1), (-1), (-1), (-1), (-1)]), (100, [7]), (101, [32]), (100, [60])] : List Kd)) hC cf_X0 (pq_at0 hn rfl) (by decide) (by decide) (Nat.le_of_ble_eq_true rfl) wf_RX0_57 rfl rfl (pq_set0 hn rfl) dX0_init_76 ?_
  exact g_cret hC hR dX0_init_79
theorem szc {a b c m k : Nat} (h : a = b + m) (hq : m + c = k) : a + c = b + k := by omega
theorem g_iastX {C : Cx} {V : Ev} {L : List Kd} {ca sl nL pc fr lc : Nat} {cc : ByteArray} {own : String} {lv : List (Nat × Value)} {st : List Value} {X : Mem} {f : Option (Int × Mem)} {i n j y : Int} (hC : Ok C V cc own nL fr lc) (hA : At L i (100, [n])) (hn : n ≤ 2147483647) (hj : 0 ≤ j ∧ j < n) (hdg : decode cc pc = .ok (.iastore, 1)) (h : G C V L ca sl nL (pc + 1) lv st (ms X i j y) f) : G C V L ca sl nL pc lv (vI y :: vI j :: vR V.1 i :: st) X f := by
  intro hk
  refine g_iast (fm := fun X2 => @ite _ (X2 = ms X i j y) (Classical.propDecidable _) f none) hC hA hn hdg (fun X2 => ?_) ?_
  · intro hk2
    by_cases e : X2 = ms X i j y
    · rw [if_pos e] at hk2
      subst e
      exact h hk2
    · rw [if_neg e] at hk2
      cases hk2
  · rw [ax, if_pos hj, bd_eq, if_pos rfl]
    exact hk
theorem lkc_c : LKc LAYc := ⟨[], (List.append_nil _).symm⟩
theorem lkm_m : LKm (LAYc ++ LAYm) := ⟨[], (List.append_nil _).symm⟩
def xM0 (X : Mem) : Mem := ms (ms (ms (ms (ms (ms (ms (ms (ms X 120 4 1) 124 0 (-1)) 124 1 (-1)) 124 2 (-1)) 124 3 (-1)) 120 16 (-1)) 120 17 (-1)) 120 31 (-1)) 120 49 (-1)
set_option maxRecDepth 20000 in
theorem kc_X12 (l : Launch) (V : Ev) (X : Mem) (hz : ∀ i k : Int, 120 ≤ i → X i k = 0) : Kc l V yX12_init (.code yX12_init cX12_init 1 none) 1 19 7207 22 [vR V.1 120] (LAYc ++ [(12, [(-4), (-4), (-1), (-2), (-2), (-4), (-4), (-4), (-4), (-4), (-1), (-1), (-1), (-1), (-1), (-1), (-1), (-1), (-1), (-1), (-1), (-4), (-1), (-4), (-1), (-1), (-4), (-4), (-4), (-4), (-4), (-1), (-1), (-1), (-1), (-4), (-1), (-4), (-4), (-1), (-1), (-1), (-1), (-1), (-1), (-1), (-1), (-1), (-1), (-1), (-4), (-4), (-1), (-1)])]) X (LAYc ++ LAYm) (ma (xM0 X) 121 (plF (xM0 X 121) 0)) := by
  refine kc_of (own := RX12) (lv0 := [(0, vR V.1 120)]) (by decide) rfl rfl (Nat.le_of_ble_eq_true rfl) rfl (fun C hCl hC hR hsz hcc hcs hnm => ?_)
  subst hCl
  have hb : V.1 ≤ C.2.2.2.2.1.heap.size := by omega
  refine g_aload_n (q := 0) hC dX12_init_0 rfl rfl rfl ?_
  refine g_oinit hC wml_RX12_1 (by decide) (Nat.le_of_ble_eq_true rfl) dX12_init_1 ?_
  refine g_aload_n (q := 0) hC dX12_init_4 rfl rfl rfl ?_
  refine g_sipush (v := vI 2200) hC dX12_init_5 rfl ?_
  refine g_newi (tag := 100) (t0 := 0) (atype := .int) (ix := 0) (i := 121) (L' := (LAYc ++ [(12, [(-4), (-4), (-1), (-2), (-2), (-4), (-4), (-4), (-4), (-4), (-1), (-1), (-1), (-1), (-1), (-1), (-1), (-1), (-1), (-1), (-1), (-4), (-1), (-4), (-1), (-1), (-4), (-4), (-4), (-4), (-4), (-1), (-1), (-1), (-1), (-4), (-1), (-4), (-4), (-1), (-1), (-1), (-1), (-1), (-1), (-1), (-1), (-1), (-1), (-1), (-4), (-4), (-1), (-1)]), (100, [2200])] : List Kd)) hC (by decide) war_FieldType_int rfl rfl (fun _ _ => rfl) rfl ⟨by decide, by decide⟩ (Nat.le_of_ble_eq_true rfl) (fun k => hz _ _ (by omega)) (by decide +kernel) rfl (szc hsz (by decide +kernel)) hb (by rw [hcc]; exact Nat.le_of_ble_eq_true rfl) (by rw [hcs]; exact Nat.le_of_ble_eq_true rfl) dX12_init_8 ?_
  refine g_putP (k := 0) (L' := (LAYc ++ [(12, [121, (-4), (-1), (-2), (-2), (-4), (-4), (-4), (-4), (-4), (-1), (-1), (-1), (-1), (-1), (-1), (-1), (-1), (-1), (-1), (-1), (-4), (-1), (-4), (-1), (-1), (-4), (-4), (-4), (-4), (-4), (-1), (-1), (-1), (-1), (-4), (-1), (-4), (-4), (-1), (-1), (-1), (-1), (-1), (-1), (-1), (-1), (-1), (-1), (-1), (-4), (-4), (-1), (-1)]), (100, [2200])] : List Kd)) hC cf_X12 (lk_0 (i := 120) rfl rfl) (by decide) (by decide) (by decide) (Nat.le_of_ble_eq_true rfl) wf_RX12_7 hnm rfl rfl (Or.inr ⟨_, rfl⟩) rfl dX12_init_10 ?_
  refine g_aload_n (q := 0) hC dX12_init_13 rfl rfl rfl ?_
  refine g_bipush (v := vI 25) hC dX12_init_14 rfl ?_
  refine g_newl (i := 122) (L' := (LAYc ++ [(12, [121, (-4), (-1), (-2), (-2), (-4), (-4), (-4), (-4), (-4), (-1), (-1), (-1), (-1), (-1), (-1), (-1), (-1), (-1), (-1), (-1), (-4), (-1), (-4), (-1), (-1), (-4), (-4), (-4), (-4), (-4), (-1), (-1), (-1), (-1), (-4), (-1), (-4), (-4), (-1), (-1), (-1), (-1), (-1), (-1), (-1), (-1), (-1), (-1), (-1), (-4), (-4), (-1), (-1)]), (100, [2200]), (101, [25])] : List Kd)) hC ⟨by decide, by decide⟩ (fun k => hz _ _ (by omega)) (by decide +kernel) rfl (szc hsz (by decide +kernel)) hb (by rw [hcc]; exact Nat.le_of_ble_eq_true rfl) (by rw [hcs]; exact Nat.le_of_ble_eq_true rfl) dX12_init_16 ?_
  refine g_putP (k := 1) (L' := (LAYc ++ [(12, [121, 122, (-1), (-2), (-2), (-4), (-4), (-4), (-4), (-4), (-1), (-1), (-1), (-1), (-1), (-1), (-1), (-1), (-1), (-1), (-1), (-4), (-1), (-4), (-1), (-1), (-4), (-4), (-4), (-4), (-4), (-1), (-1), (-1), (-1), (-4), (-1), (-4), (-4), (-1), (-1), (-1), (-1), (-1), (-1), (-1), (-1), (-1), (-1), (-1), (-4), (-4), (-1), (-1)]), (100, [2200]), (101, [25])] : List Kd)) hC cf_X12 (lk_0 (i := 120) rfl rfl) (by decide) (by decide) (by decide) (Nat.le_of_ble_eq_true rfl) wf_RX12_13 hnm rfl rfl (Or.inr ⟨_, rfl⟩) rfl dX12_init_18 ?_
  refine g_aload_n (q := 0) hC dX12_init_21 rfl rfl rfl ?_
  refine g_lconst (v := vJ 1) hC dX12_init_22 rfl ?_
  refine g_put (k := 4) (y := 1) hC cf_X12 (lk_0 (i := 120) rfl rfl) (by decide) rfl (by decide) wf_RX12_17 (shv_J _ _) rfl rfl rfl rfl dX12_init_23 ?_
  refine g_aload_n (q := 0) hC dX12_init_26 rfl rfl rfl ?_
  refine g_iconst (v := vI 4) hC dX12_init_27 rfl ?_
  refine g_newi (tag := 100) (t0 := 0) (atype := .int) (ix := 0) (i := 123) (L' := (LAYc ++ [(12, [121, 122, (-1), (-2), (-2), (-4), (-4), (-4), (-4), (-4), (-1), (-1), (-1), (-1), (-1), (-1), (-1), (-1), (-1), (-1), (-1), (-4), (-1), (-4), (-1), (-1), (-4), (-4), (-4), (-4), (-4), (-1), (-1), (-1), (-1), (-4), (-1), (-4), (-4), (-1), (-1), (-1), (-1), (-1), (-1), (-1), (-1), (-1), (-1), (-1), (-4), (-4), (-1), (-1)]), (100, [2200]), (101, [25]), (100, [4])] : List Kd)) hC (by decide) war_FieldType_int rfl rfl (fun _ _ => rfl) rfl ⟨by decide, by decide⟩ (Nat.le_of_ble_eq_true rfl) (fun k => by rw [ms_ne (by omega)]; exact hz _ _ (by omega)) (by decide +kernel) rfl (szc hsz (by decide +kernel)) hb (by rw [hcc]; exact Nat.le_of_ble_eq_true rfl) (by rw [hcs]; exact Nat.le_of_ble_eq_true rfl) dX12_init_28 ?_
  refine g_putP (k := 5) (L' := (LAYc ++ [(12, [121, 122, (-1), (-2), (-2), 123, (-4), (-4), (-4), (-4), (-1), (-1), (-1), (-1), (-1), (-1), (-1), (-1), (-1), (-1), (-1), (-4), (-1), (-4), (-1), (-1), (-4), (-4), (-4), (-4), (-4), (-1), (-1), (-1), (-1), (-4), (-1), (-4), (-4), (-1), (-1), (-1), (-1), (-1), (-1), (-1), (-1), (-1), (-1), (-1), (-4), (-4), (-1), (-1)]), (100, [2200]), (101, [25]), (100, [4])] : List Kd)) hC cf_X12 (lk_0 (i := 120) rfl rfl) (by decide) (by decide) (by decide) (Nat.le_of_ble_eq_true rfl) wf_RX12_21 hnm rfl rfl (Or.inr ⟨_, rfl⟩) rfl dX12_init_30 ?_
  refine g_aload_n (q := 0) hC dX12_init_33 rfl rfl rfl ?_
  refine g_iconst (v := vI 4) hC dX12_init_34 rfl ?_
  refine g_newi (tag := 100) (t0 := 0) (atype := .int) (ix := 0) (i := 124) (L' := (LAYc ++ [(12, [121, 122, (-1), (-2), (-2), 123, (-4), (-4), (-4), (-4), (-1), (-1), (-1), (-1), (-1), (-1), (-1), (-1), (-1), (-1), (-1), (-4), (-1), (-4), (-1), (-1), (-4), (-4), (-4), (-4), (-4), (-1), (-1), (-1), (-1), (-4), (-1), (-4), (-4), (-1), (-1), (-1), (-1), (-1), (-1), (-1), (-1), (-1), (-1), (-1), (-4), (-4), (-1), (-1)]), (100, [2200]), (101, [25]), (100, [4]), (100, [4])] : List Kd)) hC (by decide) war_FieldType_int rfl rfl (fun _ _ => rfl) rfl ⟨by decide, by decide⟩ (Nat.le_of_ble_eq_true rfl) (fun k => by rw [ms_ne (by omega)]; exact hz _ _ (by omega)) (by decide +kernel) rfl (szc hsz (by decide +kernel)) hb (by rw [hcc]; exact Nat.le_of_ble_eq_true rfl) (by rw [hcs]; exact Nat.le_of_ble_eq_true rfl) dX12_init_35 ?_
  refine g_dup hC dX12_init_37 rfl ?_
  refine g_iconst (v := vI 0) hC dX12_init_38 rfl ?_
  refine g_iconst (v := vI (-1)) hC dX12_init_39 rfl ?_
  refine g_iastX (n := 4) hC (lk_0 (i := 124) rfl rfl) (by decide) ⟨by decide, by decide⟩ dX12_init_40 ?_
  refine g_dup hC dX12_init_41 rfl ?_
  refine g_iconst (v := vI 1) hC dX12_init_42 rfl ?_
  refine g_iconst (v := vI (-1)) hC dX12_init_43 rfl ?_
  refine g_iastX (n := 4) hC (lk_0 (i := 124) rfl rfl) (by decide) ⟨by decide, by decide⟩ dX12_init_44 ?_
  refine g_dup hC dX12_init_45 rfl ?_
  refine g_iconst (v := vI 2) hC dX12_init_46 rfl ?_
  refine g_iconst (v := vI (-1)) hC dX12_init_47 rfl ?_
  refine g_iastX (n := 4) hC (lk_0 (i := 124) rfl rfl) (by decide) ⟨by decide, by decide⟩ dX12_init_48 ?_
  refine g_dup hC dX12_init_49 rfl ?_
  refine g_iconst (v := vI 3) hC dX12_init_50 rfl ?_
  refine g_iconst (v := vI (-1)) hC dX12_init_51 rfl ?_
  refine g_iastX (n := 4) hC (lk_0 (i := 124) rfl rfl) (by decide) ⟨by decide, by decide⟩ dX12_init_52 ?_
  refine g_putP (k := 6) (L' := (LAYc ++ [(12, [121, 122, (-1), (-2), (-2), 123, 124, (-4), (-4), (-4), (-1), (-1), (-1), (-1), (-1), (-1), (-1), (-1), (-1), (-1), (-1), (-4), (-1), (-4), (-1), (-1), (-4), (-4), (-4), (-4), (-4), (-1), (-1), (-1), (-1), (-4), (-1), (-4), (-4), (-1), (-1), (-1), (-1), (-1), (-1), (-1), (-1), (-1), (-1), (-1), (-4), (-4), (-1), (-1)]), (100, [2200]), (101, [25]), (100, [4]), (100, [4])] : List Kd)) hC cf_X12 (lk_0 (i := 120) rfl rfl) (by decide) (by decide) (by decide) (Nat.le_of_ble_eq_true rfl) wf_RX12_24 hnm rfl rfl (Or.inr ⟨_, rfl⟩) rfl dX12_init_53 ?_
  refine g_aload_n (q := 0) hC dX12_init_56 rfl rfl rfl ?_
  refine g_sipush (v := vI 240) hC dX12_init_57 rfl ?_
  refine g_newl (i := 125) (L' := (LAYc ++ [(12, [121, 122, (-1), (-2), (-2), 123, 124, (-4), (-4), (-4), (-1), (-1), (-1), (-1), (-1), (-1), (-1), (-1), (-1), (-1), (-1), (-4), (-1), (-4), (-1), (-1), (-4), (-4), (-4), (-4), (-4), (-1), (-1), (-1), (-1), (-4), (-1), (-4), (-4), (-1), (-1), (-1), (-1), (-1), (-1), (-1), (-1), (-1), (-1), (-1), (-4), (-4), (-1), (-1)]), (100, [2200]), (101, [25]), (100, [4]), (100, [4]), (101, [240])] : List Kd)) hC ⟨by decide, by decide⟩ (fun k => by rw [ms_ne (by omega), ms_ne (by omega), ms_ne (by omega), ms_ne (by omega), ms_ne (by omega)]; exact hz _ _ (by omega)) (by decide +kernel) rfl (szc hsz (by decide +kernel)) hb (by rw [hcc]; exact Nat.le_of_ble_eq_true rfl) (by rw [hcs]; exact Nat.le_of_ble_eq_true rfl) dX12_init_60 ?_
  refine g_putP (k := 7) (L' := (LAYc ++ [(12, [121, 122, (-1), (-2), (-2), 123, 124, 125, (-4), (-4), (-1), (-1), (-1), (-1), (-1), (-1), (-1), (-1), (-1), (-1), (-1), (-4), (-1), (-4), (-1), (-1), (-4), (-4), (-4), (-4), (-4), (-1), (-1), (-1), (-1), (-4), (-1), (-4), (-4), (-1), (-1), (-1), (-1), (-1), (-1), (-1), (-1), (-1), (-1), (-1), (-4), (-4), (-1), (-1)]), (100, [2200]), (101, [25]), (100, [4]), (100, [4]), (101, [240])] : List Kd)) hC cf_X12 (lk_0 (i := 120) rfl rfl) (by decide) (by decide) (by decide) (Nat.le_of_ble_eq_true rfl) wf_RX12_27 hnm rfl rfl (Or.inr ⟨_, rfl⟩) rfl dX12_init_62 ?_
  refine g_aload_n (q := 0) hC dX12_init_65 rfl rfl rfl ?_
  refine g_sipush (v := vI 900) hC dX12_init_66 rfl ?_
  refine g_newi (tag := 102) (t0 := 2) (atype := .byte) (ix := 0) (i := 126) (L' := (LAYc ++ [(12, [121, 122, (-1), (-2), (-2), 123, 124, 125, (-4), (-4), (-1), (-1), (-1), (-1), (-1), (-1), (-1), (-1), (-1), (-1), (-1), (-4), (-1), (-4), (-1), (-1), (-4), (-4), (-4), (-4), (-4), (-1), (-1), (-1), (-1), (-4), (-1), (-4), (-4), (-1), (-1), (-1), (-1), (-1), (-1), (-1), (-1), (-1), (-1), (-1), (-4), (-4), (-1), (-1)]), (100, [2200]), (101, [25]), (100, [4]), (100, [4]), (101, [240]), (102, [900])] : List Kd)) hC (by decide) war_FieldType_byte rfl rfl (fun _ _ => rfl) rfl ⟨by decide, by decide⟩ (Nat.le_of_ble_eq_true rfl) (fun k => by rw [ms_ne (by omega), ms_ne (by omega), ms_ne (by omega), ms_ne (by omega), ms_ne (by omega)]; exact hz _ _ (by omega)) (by decide +kernel) rfl (szc hsz (by decide +kernel)) hb (by rw [hcc]; exact Nat.le_of_ble_eq_true rfl) (by rw [hcs]; exact Nat.le_of_ble_eq_true rfl) dX12_init_69 ?_
  refine g_putP (k := 8) (L' := (LAYc ++ [(12, [121, 122, (-1), (-2), (-2), 123, 124, 125, 126, (-4), (-1), (-1), (-1), (-1), (-1), (-1), (-1), (-1), (-1), (-1), (-1), (-4), (-1), (-4), (-1), (-1), (-4), (-4), (-4), (-4), (-4), (-1), (-1), (-1), (-1), (-4), (-1), (-4), (-4), (-1), (-1), (-1), (-1), (-1), (-1), (-1), (-1), (-1), (-1), (-1), (-4), (-4), (-1), (-1)]), (100, [2200]), (101, [25]), (100, [4]), (100, [4]), (101, [240]), (102, [900])] : List Kd)) hC cf_X12 (lk_0 (i := 120) rfl rfl) (by decide) (by decide) (by decide) (Nat.le_of_ble_eq_true rfl) wf_RX12_30 hnm rfl rfl (Or.inr ⟨_, rfl⟩) rfl dX12_init_71 ?_
  refine g_aload_n (q := 0) hC dX12_init_74 rfl rfl rfl ?_
  refine g_sipush (v := vI 900) hC dX12_init_75 rfl ?_
  refine g_newi (tag := 102) (t0 := 2) (atype := .byte) (ix := 0) (i := 127) (L' := (LAYc ++ [(12, [121, 122, (-1), (-2), (-2), 123, 124, 125, 126, (-4), (-1), (-1), (-1), (-1), (-1), (-1), (-1), (-1), (-1), (-1), (-1), (-4), (-1), (-4), (-1), (-1), (-4), (-4), (-4), (-4), (-4), (-1), (-1), (-1), (-1), (-4), (-1), (-4), (-4), (-1), (-1), (-1), (-1), (-1), (-1), (-1), (-1), (-1), (-1), (-1), (-4), (-4), (-1), (-1)]), (100, [2200]), (101, [25]), (100, [4]), (100, [4]), (101, [240]), (102, [900]), (102, [900])] : List Kd)) hC (by decide) war_FieldType_byte rfl rfl (fun _ _ => rfl) rfl ⟨by decide, by decide⟩ (Nat.le_of_ble_eq_true rfl) (fun k => by rw [ms_ne (by omega), ms_ne (by omega), ms_ne (by omega), ms_ne (by omega), ms_ne (by omega)]; exact hz _ _ (by omega)) (by decide +kernel) rfl (szc hsz (by decide +kernel)) hb (by rw [hcc]; exact Nat.le_of_ble_eq_true rfl) (by rw [hcs]; exact Nat.le_of_ble_eq_true rfl) dX12_init_78 ?_
  refine g_putP (k := 9) (L' := (LAYc ++ [(12, [121, 122, (-1), (-2), (-2), 123, 124, 125, 126, 127, (-1), (-1), (-1), (-1), (-1), (-1), (-1), (-1), (-1), (-1), (-1), (-4), (-1), (-4), (-1), (-1), (-4), (-4), (-4), (-4), (-4), (-1), (-1), (-1), (-1), (-4), (-1), (-4), (-4), (-1), (-1), (-1), (-1), (-1), (-1), (-1), (-1), (-1), (-1), (-1), (-4), (-4), (-1), (-1)]), (100, [2200]), (101, [25]), (100, [4]), (100, [4]), (101, [240]), (102, [900]), (102, [900])] : List Kd)) hC cf_X12 (lk_0 (i := 120) rfl rfl) (by decide) (by decide) (by decide) (Nat.le_of_ble_eq_true rfl) wf_RX12_34 hnm rfl rfl (Or.inr ⟨_, rfl⟩) rfl dX12_init_80 ?_
  refine g_aload_n (q := 0) hC dX12_init_83 rfl rfl rfl ?_
  refine g_iconst (v := vI (-1)) hC dX12_init_84 rfl ?_
  refine g_put (k := 16) (y := (-1)) hC cf_X12 (lk_0 (i := 120) rfl rfl) (by decide) rfl (by decide) wf_RX12_37 (shv_I _ _) rfl rfl rfl rfl dX12_init_85 ?_
  refine g_aload_n (q := 0) hC dX12_init_88 rfl rfl rfl ?_
  refine g_iconst (v := vI (-1)) hC dX12_init_89 rfl ?_
  refine g_put (k := 17) (y := (-1)) hC cf_X12 (lk_0 (i := 120) rfl rfl) (by decide) rfl (by decide) wf_RX12_41 (shv_I _ _) rfl rfl rfl rfl dX12_init_90 ?_
  refine g_aload_n (q := 0) hC dX12_init_93 rfl rfl rfl ?_
  refine g_iconst (v := vI 4) hC dX12_init_94 rfl ?_
  refine g_newi (tag := 100) (t0 := 0) (atype := .int) (ix := 0) (i := 128) (L' := (LAYc ++ [(12, [121, 122, (-1), (-2), (-2), 123, 124, 125, 126, 127, (-1), (-1), (-1), (-1), (-1), (-1), (-1), (-1), (-1), (-1), (-1), (-4), (-1), (-4), (-1), (-1), (-4), (-4), (-4), (-4), (-4), (-1), (-1), (-1), (-1), (-4), (-1), (-4), (-4), (-1), (-1), (-1), (-1), (-1), (-1), (-1), (-1), (-1), (-1), (-1), (-4), (-4), (-1), (-1)]), (100, [2200]), (101, [25]), (100, [4]), (100, [4]), (101, [240]), (102, [900]), (102, [900]), (100, [4])] : List Kd)) hC (by decide) war_FieldType_int rfl rfl (fun _ _ => rfl) rfl ⟨by decide, by decide⟩ (Nat.le_of_ble_eq_true rfl) (fun k => by rw [ms_ne (by omega), ms_ne (by omega), ms_ne (by omega), ms_ne (by omega), ms_ne (by omega), ms_ne (by omega), ms_ne (by omega)]; exact hz _ _ (by omega)) (by decide +kernel) rfl (szc hsz (by decide +kernel)) hb (by rw [hcc]; exact Nat.le_of_ble_eq_true rfl) (by rw [hcs]; exact Nat.le_of_ble_eq_true rfl) dX12_init_95 ?_
  refine g_putP (k := 21) (L' := (LAYc ++ [(12, [121, 122, (-1), (-2), (-2), 123, 124, 125, 126, 127, (-1), (-1), (-1), (-1), (-1), (-1), (-1), (-1), (-1), (-1), (-1), 128, (-1), (-4), (-1), (-1), (-4), (-4), (-4), (-4), (-4), (-1), (-1), (-1), (-1), (-4), (-1), (-4), (-4), (-1), (-1), (-1), (-1), (-1), (-1), (-1), (-1), (-1), (-1), (-1), (-4), (-4), (-1), (-1)]), (100, [2200]), (101, [25]), (100, [4]), (100, [4]), (101, [240]), (102, [900]), (102, [900]), (100, [4])] : List Kd)) hC cf_X12 (lk_0 (i := 120) rfl rfl) (by decide) (by decide) (by decide) (Nat.le_of_ble_eq_true rfl) wf_RX12_44 hnm rfl rfl (Or.inr ⟨_, rfl⟩) rfl dX12_init_97 ?_
  refine g_aload_n (q := 0) hC dX12_init_100 rfl rfl rfl ?_
  refine g_iconst (v := vI 3) hC dX12_init_101 rfl ?_
  refine g_newi (tag := 100) (t0 := 0) (atype := .int) (ix := 0) (i := 129) (L' := (LAYc ++ [(12, [121, 122, (-1), (-2), (-2), 123, 124, 125, 126, 127, (-1), (-1), (-1), (-1), (-1), (-1), (-1), (-1), (-1), (-1), (-1), 128, (-1), (-4), (-1), (-1), (-4), (-4), (-4), (-4), (-4), (-1), (-1), (-1), (-1), (-4), (-1), (-4), (-4), (-1), (-1), (-1), (-1), (-1), (-1), (-1), (-1), (-1), (-1), (-1), (-4), (-4), (-1), (-1)]), (100, [2200]), (101, [25]), (100, [4]), (100, [4]), (101, [240]), (102, [900]), (102, [900]), (100, [4]), (100, [3])] : List Kd)) hC (by decide) war_FieldType_int rfl rfl (fun _ _ => rfl) rfl ⟨by decide, by decide⟩ (Nat.le_of_ble_eq_true rfl) (fun k => by rw [ms_ne (by omega), ms_ne (by omega), ms_ne (by omega), ms_ne (by omega), ms_ne (by omega), ms_ne (by omega), ms_ne (by omega)]; exact hz _ _ (by omega)) (by decide +kernel) rfl (szc hsz (by decide +kernel)) hb (by rw [hcc]; exact Nat.le_of_ble_eq_true rfl) (by rw [hcs]; exact Nat.le_of_ble_eq_true rfl) dX12_init_102 ?_
  refine g_putP (k := 23) (L' := (LAYc ++ [(12, [121, 122, (-1), (-2), (-2), 123, 124, 125, 126, 127, (-1), (-1), (-1), (-1), (-1), (-1), (-1), (-1), (-1), (-1), (-1), 128, (-1), 129, (-1), (-1), (-4), (-4), (-4), (-4), (-4), (-1), (-1), (-1), (-1), (-4), (-1), (-4), (-4), (-1), (-1), (-1), (-1), (-1), (-1), (-1), (-1), (-1), (-1), (-1), (-4), (-4), (-1), (-1)]), (100, [2200]), (101, [25]), (100, [4]), (100, [4]), (101, [240]), (102, [900]), (102, [900]), (100, [4]), (100, [3])] : List Kd)) hC cf_X12 (lk_0 (i := 120) rfl rfl) (by decide) (by decide) (by decide) (Nat.le_of_ble_eq_true rfl) wf_RX12_47 hnm rfl rfl (Or.inr ⟨_, rfl⟩) rfl dX12_init_104 ?_
  refine g_aload_n (q := 0) hC dX12_init_107 rfl rfl rfl ?_
  refine g_bipush (v := vI 32) hC dX12_init_108 rfl ?_
  refine g_newl (i := 130) (L' := (LAYc ++ [(12, [121, 122, (-1), (-2), (-2), 123, 124, 125, 126, 127, (-1), (-1), (-1), (-1), (-1), (-1), (-1), (-1), (-1), (-1), (-1), 128, (-1), 129, (-1), (-1), (-4), (-4), (-4), (-4), (-4), (-1), (-1), (-1), (-1), (-4), (-1), (-4), (-4), (-1), (-1), (-1), (-1), (-1), (-1), (-1), (-1), (-1), (-1), (-1), (-4), (-4), (-1), (-1)]), (100, [2200]), (101, [25]), (100, [4]), (100, [4]), (101, [240]), (102, [900]), (102, [900]), (100, [4]), (100, [3]), (101, [32])] : List Kd)) hC ⟨by decide, by decide⟩ (fun k => by rw [ms_ne (by omega), ms_ne (by omega), ms_ne (by omega), ms_ne (by omega), ms_ne (by omega), ms_ne (by omega), ms_ne (by omega)]; exact hz _ _ (by omega)) (by decide +kernel) rfl (szc hsz (by decide +kernel)) hb (by rw [hcc]; exact Nat.le_of_ble_eq_true rfl) (by rw [hcs]; exact Nat.le_of_ble_eq_true rfl) dX12_init_110 ?_
  refine g_putP (k := 26) (L' := (LAYc ++ [(12, [121, 122, (-1), (-2), (-2), 123, 124, 125, 126, 127, (-1), (-1), (-1), (-1), (-1), (-1), (-1), (-1), (-1), (-1), (-1), 128, (-1), 129, (-1), (-1), 130, (-4), (-4), (-4), (-4), (-1), (-1), (-1), (-1), (-4), (-1), (-4), (-4), (-1), (-1), (-1), (-1), (-1), (-1), (-1), (-1), (-1), (-1), (-1), (-4), (-4), (-1), (-1)]), (100, [2200]), (101, [25]), (100, [4]), (100, [4]), (101, [240]), (102, [900]), (102, [900]), (100, [4]), (100, [3]), (101, [32])] : List Kd)) hC cf_X12 (lk_0 (i := 120) rfl rfl) (by decide) (by decide) (by decide) (Nat.le_of_ble_eq_true rfl) wf_RX12_50 hnm rfl rfl (Or.inr ⟨_, rfl⟩) rfl dX12_init_112 ?_
  refine g_aload_n (q := 0) hC dX12_init_115 rfl rfl rfl ?_
  refine g_bipush (v := vI 32) hC dX12_init_116 rfl ?_
  refine g_newl (i := 131) (L' := (LAYc ++ [(12, [121, 122, (-1), (-2), (-2), 123, 124, 125, 126, 127, (-1), (-1), (-1), (-1), (-1), (-1), (-1), (-1), (-1), (-1), (-1), 128, (-1), 129, (-1), (-1), 130, (-4), (-4), (-4), (-4), (-1), (-1), (-1), (-1), (-4), (-1), (-4), (-4), (-1), (-1), (-1), (-1), (-1), (-1), (-1), (-1), (-1), (-1), (-1), (-4), (-4), (-1), (-1)]), (100, [2200]), (101, [25]), (100, [4]), (100, [4]), (101, [240]), (102, [900]), (102, [900]), (100, [4]), (100, [3]), (101, [32]), (101, [32])] : List Kd)) hC ⟨by decide, by decide⟩ (fun k => by rw [ms_ne (by omega), ms_ne (by omega), ms_ne (by omega), ms_ne (by omega), ms_ne (by omega), ms_ne (by omega), ms_ne (by omega)]; exact hz _ _ (by omega)) (by decide +kernel) rfl (szc hsz (by decide +kernel)) hb (by rw [hcc]; exact Nat.le_of_ble_eq_true rfl) (by rw [hcs]; exact Nat.le_of_ble_eq_true rfl) dX12_init_118 ?_
  refine g_putP (k := 27) (L' := (LAYc ++ [(12, [121, 122, (-1), (-2), (-2), 123, 124, 125, 126, 127, (-1), (-1), (-1), (-1), (-1), (-1), (-1), (-1), (-1), (-1), (-1), 128, (-1), 129, (-1), (-1), 130, 131, (-4), (-4), (-4), (-1), (-1), (-1), (-1), (-4), (-1), (-4), (-4), (-1), (-1), (-1), (-1), (-1), (-1), (-1), (-1), (-1), (-1), (-1), (-4), (-4), (-1), (-1)]), (100, [2200]), (101, [25]), (100, [4]), (100, [4]), (101, [240]), (102, [900]), (102, [900]), (100, [4]), (100, [3]), (101, [32]), (101, [32])] : List Kd)) hC cf_X12 (lk_0 (i := 120) rfl rfl) (by decide) (by decide) (by decide) (Nat.le_of_ble_eq_true rfl) wf_RX12_53 hnm rfl rfl (Or.inr ⟨_, rfl⟩) rfl dX12_init_120 ?_
  refine g_aload_n (q := 0) hC dX12_init_123 rfl rfl rfl ?_
  refine g_sipush (v := vI 540) hC dX12_init_124 rfl ?_
  refine g_newi (tag := 100) (t0 := 0) (atype := .int) (ix := 0) (i := 132) (L' := (LAYc ++ [(12, [121, 122, (-1), (-2), (-2), 123, 124, 125, 126, 127, (-1), (-1), (-1), (-1), (-1), (-1), (-1), (-1), (-1), (-1), (-1), 128, (-1), 129, (-1), (-1), 130, 131, (-4), (-4), (-4), (-1), (-1), (-1), (-1), (-4), (-1), (-4), (-4), (-1), (-1), (-1), (-1), (-1), (-1), (-1), (-1), (-1), (-1), (-1), (-4), (-4), (-1), (-1)]), (100, [2200]), (101, [25]), (100, [4]), (100, [4]), (101, [240]), (102, [900]), (102, [900]), (100, [4]), (100, [3]), (101, [32]), (101, [32]), (100, [540])] : List Kd)) hC (by decide) war_FieldType_int rfl rfl (fun _ _ => rfl) rfl ⟨by decide, by decide⟩ (Nat.le_of_ble_eq_true rfl) (fun k => by rw [ms_ne (by omega), ms_ne (by omega), ms_ne (by omega), ms_ne (by omega), ms_ne (by omega), ms_ne (by omega), ms_ne (by omega)]; exact hz _ _ (by omega)) (by decide +kernel) rfl (szc hsz (by decide +kernel)) hb (by rw [hcc]; exact Nat.le_of_ble_eq_true rfl) (by rw [hcs]; exact Nat.le_of_ble_eq_true rfl) dX12_init_127 ?_
  refine g_putP (k := 28) (L' := (LAYc ++ [(12, [121, 122, (-1), (-2), (-2), 123, 124, 125, 126, 127, (-1), (-1), (-1), (-1), (-1), (-1), (-1), (-1), (-1), (-1), (-1), 128, (-1), 129, (-1), (-1), 130, 131, 132, (-4), (-4), (-1), (-1), (-1), (-1), (-4), (-1), (-4), (-4), (-1), (-1), (-1), (-1), (-1), (-1), (-1), (-1), (-1), (-1), (-1), (-4), (-4), (-1), (-1)]), (100, [2200]), (101, [25]), (100, [4]), (100, [4]), (101, [240]), (102, [900]), (102, [900]), (100, [4]), (100, [3]), (101, [32]), (101, [32]), (100, [540])] : List Kd)) hC cf_X12 (lk_0 (i := 120) rfl rfl) (by decide) (by decide) (by decide) (Nat.le_of_ble_eq_true rfl) wf_RX12_56 hnm rfl rfl (Or.inr ⟨_, rfl⟩) rfl dX12_init_129 ?_
  refine g_aload_n (q := 0) hC dX12_init_132 rfl rfl rfl ?_
  refine g_bipush (v := vI 60) hC dX12_init_133 rfl ?_
  refine g_newi (tag := 103) (t0 := 3) (atype := .boolean) (ix := 0) (i := 133) (L' := (LAYc ++ [(12, [121, 122, (-1), (-2), (-2), 123, 124, 125, 126, 127, (-1), (-1), (-1), (-1), (-1), (-1), (-1), (-1), (-1), (-1), (-1), 128, (-1), 129, (-1), (-1), 130, 131, 132, (-4), (-4), (-1), (-1), (-1), (-1), (-4), (-1), (-4), (-4), (-1), (-1), (-1), (-1), (-1), (-1), (-1), (-1), (-1), (-1), (-1), (-4), (-4), (-1), (-1)]), (100, [2200]), (101, [25]), (100, [4]), (100, [4]), (101, [240]), (102, [900]), (102, [900]), (100, [4]), (100, [3]), (101, [32]), (101, [32]), (100, [540]), (103, [60])] : List Kd)) hC (by decide) war_FieldType_boolean rfl rfl (fun _ _ => rfl) rfl ⟨by decide, by decide⟩ (Nat.le_of_ble_eq_true rfl) (fun k => by rw [ms_ne (by omega), ms_ne (by omega), ms_ne (by omega), ms_ne (by omega), ms_ne (by omega), ms_ne (by omega), ms_ne (by omega)]; exact hz _ _ (by omega)) (by decide +kernel) rfl (szc hsz (by decide +kernel)) hb (by rw [hcc]; exact Nat.le_of_ble_eq_true rfl) (by rw [hcs]; exact Nat.le_of_ble_eq_true rfl) dX12_init_135 ?_
  refine g_putP (k := 29) (L' := (LAYc ++ [(12, [121, 122, (-1), (-2), (-2), 123, 124, 125, 126, 127, (-1), (-1), (-1), (-1), (-1), (-1), (-1), (-1), (-1), (-1), (-1), 128, (-1), 129, (-1), (-1), 130, 131, 132, 133, (-4), (-1), (-1), (-1), (-1), (-4), (-1), (-4), (-4), (-1), (-1), (-1), (-1), (-1), (-1), (-1), (-1), (-1), (-1), (-1), (-4), (-4), (-1), (-1)]), (100, [2200]), (101, [25]), (100, [4]), (100, [4]), (101, [240]), (102, [900]), (102, [900]), (100, [4]), (100, [3]), (101, [32]), (101, [32]), (100, [540]), (103, [60])] : List Kd)) hC cf_X12 (lk_0 (i := 120) rfl rfl) (by decide) (by decide) (by decide) (Nat.le_of_ble_eq_true rfl) wf_RX12_59 hnm rfl rfl (Or.inr ⟨_, rfl⟩) rfl dX12_init_137 ?_
  refine g_aload_n (q := 0) hC dX12_init_140 rfl rfl rfl ?_
  refine g_bipush (v := vI 32) hC dX12_init_141 rfl ?_
  refine g_newi (tag := 100) (t0 := 0) (atype := .int) (ix := 0) (i := 134) (L' := (LAYc ++ [(12, [121, 122, (-1), (-2), (-2), 123, 124, 125, 126, 127, (-1), (-1), (-1), (-1), (-1), (-1), (-1), (-1), (-1), (-1), (-1), 128, (-1), 129, (-1), (-1), 130, 131, 132, 133, (-4), (-1), (-1), (-1), (-1), (-4), (-1), (-4), (-4), (-1), (-1), (-1), (-1), (-1), (-1), (-1), (-1), (-1), (-1), (-1), (-4), (-4), (-1), (-1)]), (100, [2200]), (101, [25]), (100, [4]), (100, [4]), (101, [240]), (102, [900]), (102, [900]), (100, [4]), (100, [3]), (101, [32]), (101, [32]), (100, [540]), (103, [60]), (100, [32])] : List Kd)) hC (by decide) war_FieldType_int rfl rfl (fun _ _ => rfl) rfl ⟨by decide, by decide⟩ (Nat.le_of_ble_eq_true rfl) (fun k => by rw [ms_ne (by omega), ms_ne (by omega), ms_ne (by omega), ms_ne (by omega), ms_ne (by omega), ms_ne (by omega), ms_ne (by omega)]; exact hz _ _ (by omega)) (by decide +kernel) rfl (szc hsz (by decide +kernel)) hb (by rw [hcc]; exact Nat.le_of_ble_eq_true rfl) (by rw [hcs]; exact Nat.le_of_ble_eq_true rfl) dX12_init_143 ?_
  refine g_putP (k := 30) (L' := (LAYc ++ [(12, [121, 122, (-1), (-2), (-2), 123, 124, 125, 126, 127, (-1), (-1), (-1), (-1), (-1), (-1), (-1), (-1), (-1), (-1), (-1), 128, (-1), 129, (-1), (-1), 130, 131, 132, 133, 134, (-1), (-1), (-1), (-1), (-4), (-1), (-4), (-4), (-1), (-1), (-1), (-1), (-1), (-1), (-1), (-1), (-1), (-1), (-1), (-4), (-4), (-1), (-1)]), (100, [2200]), (101, [25]), (100, [4]), (100, [4]), (101, [240]), (102, [900]), (102, [900]), (100, [4]), (100, [3]), (101, [32]), (101, [32]), (100, [540]), (103, [60]), (100, [32])] : List Kd)) hC cf_X12 (lk_0 (i := 120) rfl rfl) (by decide) (by decide) (by decide) (Nat.le_of_ble_eq_true rfl) wf_RX12_63 hnm rfl rfl (Or.inr ⟨_, rfl⟩) rfl dX12_init_145 ?_
  refine g_aload_n (q := 0) hC dX12_init_148 rfl rfl rfl ?_
  refine g_iconst (v := vI (-1)) hC dX12_init_149 rfl ?_
  refine g_put (k := 31) (y := (-1)) hC cf_X12 (lk_0 (i := 120) rfl rfl) (by decide) rfl (by decide) wf_RX12_66 (shv_I _ _) rfl rfl rfl rfl dX12_init_150 ?_
  refine g_aload_n (q := 0) hC dX12_init_153 rfl rfl rfl ?_
  refine g_sipush (v := vI 2000) hC dX12_init_154 rfl ?_
  refine g_newi (tag := 100) (t0 := 0) (atype := .int) (ix := 0) (i := 135) (L' := (LAYc ++ [(12, [121, 122, (-1), (-2), (-2), 123, 124, 125, 126, 127, (-1), (-1), (-1), (-1), (-1), (-1), (-1), (-1), (-1), (-1), (-1), 128, (-1), 129, (-1), (-1), 130, 131, 132, 133, 134, (-1), (-1), (-1), (-1), (-4), (-1), (-4), (-4), (-1), (-1), (-1), (-1), (-1), (-1), (-1), (-1), (-1), (-1), (-1), (-4), (-4), (-1), (-1)]), (100, [2200]), (101, [25]), (100, [4]), (100, [4]), (101, [240]), (102, [900]), (102, [900]), (100, [4]), (100, [3]), (101, [32]), (101, [32]), (100, [540]), (103, [60]), (100, [32]), (100, [2000])] : List Kd)) hC (by decide) war_FieldType_int rfl rfl (fun _ _ => rfl) rfl ⟨by decide, by decide⟩ (Nat.le_of_ble_eq_true rfl) (fun k => by rw [ms_ne (by omega), ms_ne (by omega), ms_ne (by omega), ms_ne (by omega), ms_ne (by omega), ms_ne (by omega), ms_ne (by omega), ms_ne (by omega)]; exact hz _ _ (by omega)) (by decide +kernel) rfl (szc hsz (by decide +kernel)) hb (by rw [hcc]; exact Nat.le_of_ble_eq_true rfl) (by rw [hcs]; exact Nat.le_of_ble_eq_true rfl) dX12_init_157 ?_
  refine g_putP (k := 35) (L' := (LAYc ++ [(12, [121, 122, (-1), (-2), (-2), 123, 124, 125, 126, 127, (-1), (-1), (-1), (-1), (-1), (-1), (-1), (-1), (-1), (-1), (-1), 128, (-1), 129, (-1), (-1), 130, 131, 132, 133, 134, (-1), (-1), (-1), (-1), 135, (-1), (-4), (-4), (-1), (-1), (-1), (-1), (-1), (-1), (-1), (-1), (-1), (-1), (-1), (-4), (-4), (-1), (-1)]), (100, [2200]), (101, [25]), (100, [4]), (100, [4]), (101, [240]), (102, [900]), (102, [900]), (100, [4]), (100, [3]), (101, [32]), (101, [32]), (100, [540]), (103, [60]), (100, [32]), (100, [2000])] : List Kd)) hC cf_X12 (lk_0 (i := 120) rfl rfl) (by decide) (by decide) (by decide) (Nat.le_of_ble_eq_true rfl) wf_RX12_69 hnm rfl rfl (Or.inr ⟨_, rfl⟩) rfl dX12_init_159 ?_
  refine g_aload_n (q := 0) hC dX12_init_162 rfl rfl rfl ?_
  refine g_sipush (v := vI 128) hC dX12_init_163 rfl ?_
  refine g_newl (i := 136) (L' := (LAYc ++ [(12, [121, 122, (-1), (-2), (-2), 123, 124, 125, 126, 127, (-1), (-1), (-1), (-1), (-1), (-1), (-1), (-1), (-1), (-1), (-1), 128, (-1), 129, (-1), (-1), 130, 131, 132, 133, 134, (-1), (-1), (-1), (-1), 135, (-1), (-4), (-4), (-1), (-1), (-1), (-1), (-1), (-1), (-1), (-1), (-1), (-1), (-1), (-4), (-4), (-1), (-1)]), (100, [2200]), (101, [25]), (100, [4]), (100, [4]), (101, [240]), (102, [900]), (102, [900]), (100, [4]), (100, [3]), (101, [32]), (101, [32]), (100, [540]), (103, [60]), (100, [32]), (100, [2000]), (101, [128])] : List Kd)) hC ⟨by decide, by decide⟩ (fun k => by rw [ms_ne (by omega), ms_ne (by omega), ms_ne (by omega), ms_ne (by omega), ms_ne (by omega), ms_ne (by omega), ms_ne (by omega), ms_ne (by omega)]; exact hz _ _ (by omega)) (by decide +kernel) rfl (szc hsz (by decide +kernel)) hb (by rw [hcc]; exact Nat.le_of_ble_eq_true rfl) (by rw [hcs]; exact Nat.le_of_ble_eq_true rfl) dX12_init_166 ?_
  refine g_putP (k := 37) (L' := (LAYc ++ [(12, [121, 122, (-1), (-2), (-2), 123, 124, 125, 126, 127, (-1), (-1), (-1), (-1), (-1), (-1), (-1), (-1), (-1), (-1), (-1), 128, (-1), 129, (-1), (-1), 130, 131, 132, 133, 134, (-1), (-1), (-1), (-1), 135, (-1), 136, (-4), (-1), (-1), (-1), (-1), (-1), (-1), (-1), (-1), (-1), (-1), (-1), (-4), (-4), (-1), (-1)]), (100, [2200]), (101, [25]), (100, [4]), (100, [4]), (101, [240]), (102, [900]), (102, [900]), (100, [4]), (100, [3]), (101, [32]), (101, [32]), (100, [540]), (103, [60]), (100, [32]), (100, [2000]), (101, [128])] : List Kd)) hC cf_X12 (lk_0 (i := 120) rfl rfl) (by decide) (by decide) (by decide) (Nat.le_of_ble_eq_true rfl) wf_RX12_72 hnm rfl rfl (Or.inr ⟨_, rfl⟩) rfl dX12_init_168 ?_
  refine g_aload_n (q := 0) hC dX12_init_171 rfl rfl rfl ?_
  refine g_bipush (v := vI 32) hC dX12_init_172 rfl ?_
  refine g_newi (tag := 100) (t0 := 0) (atype := .int) (ix := 0) (i := 137) (L' := (LAYc ++ [(12, [121, 122, (-1), (-2), (-2), 123, 124, 125, 126, 127, (-1), (-1), (-1), (-1), (-1), (-1), (-1), (-1), (-1), (-1), (-1), 128, (-1), 129, (-1), (-1), 130, 131, 132, 133, 134, (-1), (-1), (-1), (-1), 135, (-1), 136, (-4), (-1), (-1), (-1), (-1), (-1), (-1), (-1), (-1), (-1), (-1), (-1), (-4), (-4), (-1), (-1)]), (100, [2200]), (101, [25]), (100, [4]), (100, [4]), (101, [240]), (102, [900]), (102, [900]), (100, [4]), (100, [3]), (101, [32]), (101, [32]), (100, [540]), (103, [60]), (100, [32]), (100, [2000]), (101, [128]), (100, [32])] : List Kd)) hC (by decide) war_FieldType_int rfl rfl (fun _ _ => rfl) rfl ⟨by decide, by decide⟩ (Nat.le_of_ble_eq_true rfl) (fun k => by rw [ms_ne (by omega), ms_ne (by omega), ms_ne (by omega), ms_ne (by omega), ms_ne (by omega), ms_ne (by omega), ms_ne (by omega), ms_ne (by omega)]; exact hz _ _ (by omega)) (by decide +kernel) rfl (szc hsz (by decide +kernel)) hb (by rw [hcc]; exact Nat.le_of_ble_eq_true rfl) (by rw [hcs]; exact Nat.le_of_ble_eq_true rfl) dX12_init_174 ?_
  refine g_putP (k := 38) (L' := (LAYc ++ [(12, [121, 122, (-1), (-2), (-2), 123, 124, 125, 126, 127, (-1), (-1), (-1), (-1), (-1), (-1), (-1), (-1), (-1), (-1), (-1), 128, (-1), 129, (-1), (-1), 130, 131, 132, 133, 134, (-1), (-1), (-1), (-1), 135, (-1), 136, 137, (-1), (-1), (-1), (-1), (-1), (-1), (-1), (-1), (-1), (-1), (-1), (-4), (-4), (-1), (-1)]), (100, [2200]), (101, [25]), (100, [4]), (100, [4]), (101, [240]), (102, [900]), (102, [900]), (100, [4]), (100, [3]), (101, [32]), (101, [32]), (100, [540]), (103, [60]), (100, [32]), (100, [2000]), (101, [128]), (100, [32])] : List Kd)) hC cf_X12 (lk_0 (i := 120) rfl rfl) (by decide) (by decide) (by decide) (Nat.le_of_ble_eq_true rfl) wf_RX12_75 hnm rfl rfl (Or.inr ⟨_, rfl⟩) rfl dX12_init_176 ?_
  refine g_aload_n (q := 0) hC dX12_init_179 rfl rfl rfl ?_
  refine g_iconst (v := vI (-1)) hC dX12_init_180 rfl ?_
  refine g_put (k := 49) (y := (-1)) hC cf_X12 (lk_0 (i := 120) rfl rfl) (by decide) rfl (by decide) wf_RX12_78 (shv_I _ _) rfl rfl rfl rfl dX12_init_181 ?_
  refine g_aload_n (q := 0) hC dX12_init_184 rfl rfl rfl ?_
  refine g_bipush (v := vI 64) hC dX12_init_185 rfl ?_
  refine g_newi (tag := 100) (t0 := 0) (atype := .int) (ix := 0) (i := 138) (L' := (LAYc ++ [(12, [121, 122, (-1), (-2), (-2), 123, 124, 125, 126, 127, (-1), (-1), (-1), (-1), (-1), (-1), (-1), (-1), (-1), (-1), (-1), 128, (-1), 129, (-1), (-1), 130, 131, 132, 133, 134, (-1), (-1), (-1), (-1), 135, (-1), 136, 137, (-1), (-1), (-1), (-1), (-1), (-1), (-1), (-1), (-1), (-1), (-1), (-4), (-4), (-1), (-1)]), (100, [2200]), (101, [25]), (100, [4]), (100, [4]), (101, [240]), (102, [900]), (102, [900]), (100, [4]), (100, [3]), (101, [32]), (101, [32]), (100, [540]), (103, [60]), (100, [32]), (100, [2000]), (101, [128]), (100, [32]), (100, [64])] : List Kd)) hC (by decide) war_FieldType_int rfl rfl (fun _ _ => rfl) rfl ⟨by decide, by decide⟩ (Nat.le_of_ble_eq_true rfl) (fun k => by rw [ms_ne (by omega), ms_ne (by omega), ms_ne (by omega), ms_ne (by omega), ms_ne (by omega), ms_ne (by omega), ms_ne (by omega), ms_ne (by omega), ms_ne (by omega)]; exact hz _ _ (by omega)) (by decide +kernel) rfl (szc hsz (by decide +kernel)) hb (by rw [hcc]; exact Nat.le_of_ble_eq_true rfl) (by rw [hcs]; exact Nat.le_of_ble_eq_true rfl) dX12_init_187 ?_
  refine g_putP (k := 50) (L' := (LAYc ++ [(12, [121, 122, (-1), (-2), (-2), 123, 124, 125, 126, 127, (-1), (-1), (-1), (-1), (-1), (-1), (-1), (-1), (-1), (-1), (-1), 128, (-1), 129, (-1), (-1), 130, 131, 132, 133, 134, (-1), (-1), (-1), (-1), 135, (-1), 136, 137, (-1), (-1), (-1), (-1), (-1), (-1), (-1), (-1), (-1), (-1), (-1), 138, (-4), (-1), (-1)]), (100, [2200]), (101, [25]), (100, [4]), (100, [4]), (101, [240]), (102, [900]), (102, [900]), (100, [4]), (100, [3]), (101, [32]), (101, [32]), (100, [540]), (103, [60]), (100, [32]), (100, [2000]), (101, [128]), (100, [32]), (100, [64])] : List Kd)) hC cf_X12 (lk_0 (i := 120) rfl rfl) (by decide) (by decide) (by decide) (Nat.le_of_ble_eq_true rfl) wf_RX12_81 hnm rfl rfl (Or.inr ⟨_, rfl⟩) rfl dX12_init_189 ?_
  refine g_aload_n (q := 0) hC dX12_init_192 rfl rfl rfl ?_
  refine g_bipush (v := vI 7) hC dX12_init_193 rfl ?_
  refine g_newi (tag := 100) (t0 := 0) (atype := .int) (ix := 0) (i := 139) (L' := (LAYc ++ [(12, [121, 122, (-1), (-2), (-2), 123, 124, 125, 126, 127, (-1), (-1), (-1), (-1), (-1), (-1), (-1), (-1), (-1), (-1), (-1), 128, (-1), 129, (-1), (-1), 130, 131, 132, 133, 134, (-1), (-1), (-1), (-1), 135, (-1), 136, 137, (-1), (-1), (-1), (-1), (-1), (-1), (-1), (-1), (-1), (-1), (-1), 138, (-4), (-1), (-1)]), (100, [2200]), (101, [25]), (100, [4]), (100, [4]), (101, [240]), (102, [900]), (102, [900]), (100, [4]), (100, [3]), (101, [32]), (101, [32]), (100, [540]), (103, [60]), (100, [32]), (100, [2000]), (101, [128]), (100, [32]), (100, [64]), (100, [7])] : List Kd)) hC (by decide) war_FieldType_int rfl rfl (fun _ _ => rfl) rfl ⟨by decide, by decide⟩ (Nat.le_of_ble_eq_true rfl) (fun k => by rw [ms_ne (by omega), ms_ne (by omega), ms_ne (by omega), ms_ne (by omega), ms_ne (by omega), ms_ne (by omega), ms_ne (by omega), ms_ne (by omega), ms_ne (by omega)]; exact hz _ _ (by omega)) (by decide +kernel) rfl (szc hsz (by decide +kernel)) hb (by rw [hcc]; exact Nat.le_of_ble_eq_true rfl) (by rw [hcs]; exact Nat.le_of_ble_eq_true rfl) dX12_init_195 ?_
  refine g_putP (k := 51) (L' := (LAYc ++ [(12, [121, 122, (-1), (-2), (-2), 123, 124, 125, 126, 127, (-1), (-1), (-1), (-1), (-1), (-1), (-1), (-1), (-1), (-1), (-1), 128, (-1), 129, (-1), (-1), 130, 131, 132, 133, 134, (-1), (-1), (-1), (-1), 135, (-1), 136, 137, (-1), (-1), (-1), (-1), (-1), (-1), (-1), (-1), (-1), (-1), (-1), 138, 139, (-1), (-1)]), (100, [2200]), (101, [25]), (100, [4]), (100, [4]), (101, [240]), (102, [900]), (102, [900]), (100, [4]), (100, [3]), (101, [32]), (101, [32]), (100, [540]), (103, [60]), (100, [32]), (100, [2000]), (101, [128]), (100, [32]), (100, [64]), (100, [7])] : List Kd)) hC cf_X12 (lk_0 (i := 120) rfl rfl) (by decide) (by decide) (by decide) (Nat.le_of_ble_eq_true rfl) wf_RX12_84 hnm rfl rfl (Or.inr ⟨_, rfl⟩) rfl dX12_init_197 ?_
  refine g_aload_n (q := 0) hC dX12_init_200 rfl rfl rfl ?_
  refine g_iconst (v := vI 0) hC dX12_init_201 rfl ?_
  rw [show (LAYc ++ [(12, [121, 122, (-1), (-2), (-2), 123, 124, 125, 126, 127, (-1), (-1), (-1), (-1), (-1), (-1), (-1), (-1), (-1), (-1), (-1), 128, (-1), 129, (-1), (-1), 130, 131, 132, 133, 134, (-1), (-1), (-1), (-1), 135, (-1), 136, 137, (-1), (-1), (-1), (-1), (-1), (-1), (-1), (-1), (-1), (-1), (-1), 138, 139, (-1), (-1)]), (100, [2200]), (101, [25]), (100, [4]), (100, [4]), (101, [240]), (102, [900]), (102, [900]), (100, [4]), (100, [3]), (101, [32]), (101, [32]), (100, [540]), (103, [60]), (100, [32]), (100, [2000]), (101, [128]), (100, [32]), (100, [64]), (100, [7])] : List Kd) = LAYc ++ LAYm from rfl]
  refine g_callVX (As := [vI 0]) hC mv_X12_plain wml_RX12_87 (k_X12_plain _ V lkm_m 0 _) (plain_eq (by decide) (by decide)) cf_X12 (at_120 lkm_m) (by decide) ⟨by rw [hcc]; exact Nat.le_of_ble_eq_true rfl, by rw [hcs]; exact Nat.le_of_ble_eq_true rfl⟩ rfl rfl ⟨Nat.le_of_ble_eq_true rfl, Nat.le_of_ble_eq_true rfl⟩ (Nat.le_of_ble_eq_true rfl) dX12_init_202 ?_
  exact g_cret hC hR dX12_init_205
