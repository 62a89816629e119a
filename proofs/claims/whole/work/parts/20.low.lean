noncomputable section
def L_J7_fill_53178_5 (p1 : Int) (n1 : Int) : Nat → Int → Int → Int → Mem → Option (Int × Mem)
  | 0, _, _, _, _ => none
  | n + 1, x1, x2, x3, X =>
    c2 x2 x3 <| if x3 ≤ x2 then
      some (0, X)
    else
      ax n1 x2 <| bd (ms X p1 x2 x1) fun X1 =>
      L_J7_fill_53178_5 p1 n1  n x1 (x2 + 1) x3 X1
def f_J7_fill_53178 (p1 : Int) (n1 : Int) (p2 : Int) (X : Mem) : Option (Int × Mem) :=
  L_J7_fill_53178_5 p1 n1  KF p2 0 n1 X
set_option maxRecDepth 20000 in
theorem gL_J7_fill_53178_5 {C : Cx} {V : Ev} {L : List Kd} {p1 : Int} {n1 : Int} (hC : Ok C V cJ7_fill_53178 RJ7 4 0 0) (hR : Rt C V L none rV) (hn1 : 0 ≤ n1 ∧ n1 ≤ 2147483647) (h1 : At L p1 (100, [n1])) : ∀ (n : Nat) (x1 : Int) (x2 : Int) (x3 : Int) (X : Mem), G C V L 0 0 4 5 [(0, vR V.1 p1), (1, vI x1), (2, vI x2), (3, vI x3)] [] X (L_J7_fill_53178_5 p1 n1  n x1 x2 x3 X) := by
  intro n
  induction n with
  | zero => intro x1 x2 x3 X; exact g_none
  | succ n ih =>
    intro x1 x2 x3 X
    rw [L_J7_fill_53178_5]
    refine g_iload_n (q := 2) hC dJ7_fill_53178_5 rfl rfl ?_
    refine g_iload_n (q := 3) hC dJ7_fill_53178_6 rfl rfl ?_
    refine g_icmp_ge (tgt := 20) hC dJ7_fill_53178_7 (by decide) ?_ ?_
    · exact g_vret hC hR dJ7_fill_53178_20
    · refine g_aload_n (q := 0) hC dJ7_fill_53178_10 rfl rfl rfl ?_
      refine g_iload_n (q := 2) hC dJ7_fill_53178_11 rfl rfl ?_
      refine g_iload_n (q := 1) hC dJ7_fill_53178_12 rfl rfl ?_
      refine g_iast hC h1 hn1.2 dJ7_fill_53178_13 (fun X1 => ?_)
      refine g_iinc (q := 2) hC dJ7_fill_53178_14 rfl (by decide) rfl ?_
      refine g_goto (tgt := 5) hC dJ7_fill_53178_17 (by decide) ?_
      refine g_sub [1, 2, 0, 3] rfl ?_
      exact ih x1 (x2 + 1) x3 X1
set_option maxRecDepth 20000 in
theorem k_J7_fill_53178 (l : Launch) (V : Ev) {L : List Kd}  (p1 : Int) (n1 : Int) (p2 : Int) (X : Mem) (hn1 : 0 ≤ n1 ∧ n1 ≤ 2147483647) (h1 : At L p1 (100, [n1])) : Kt l V L yJ7_fill_53178 (.code yJ7_fill_53178 cJ7_fill_53178 4 none) 0 0 [vR V.1 p1, vI p2] rV X (f_J7_fill_53178 p1 n1 p2 X) := by
  refine kt_of (own := RJ7) (lv0 := [(0, vR V.1 p1), (1, vI p2)]) (by decide) rfl (Nat.le_of_ble_eq_true rfl) rfl (fun C hCl hC hR => ?_)
  subst hCl
  unfold f_J7_fill_53178
  refine g_iconst (v := vI 0) hC dJ7_fill_53178_0 rfl ?_
  refine g_istore_n hC dJ7_fill_53178_1 rfl (by decide) rfl ?_
  refine g_aload_n (q := 1) hC dJ7_fill_53178_2 rfl rfl rfl ?_
  refine g_alen (t0 := 0) hC h1 hn1.1 (by decide) rfl dJ7_fill_53178_3 ?_
  refine g_istore_n hC dJ7_fill_53178_4 rfl (by decide) rfl ?_
  refine g_sub [2, 3, 1, 0] rfl ?_
  exact gL_J7_fill_53178_5 hC hR hn1 h1  KF p2 0 n1 X
def L_J7_fill_d0a16_6 (p1 : Int) (n1 : Int) : Nat → Int → Int → Int → Mem → Option (Int × Mem)
  | 0, _, _, _, _ => none
  | n + 1, x1, x3, x4, X =>
    c2 x3 x4 <| if x4 ≤ x3 then
      some (0, X)
    else
      ax n1 x3 <| bd (ms X p1 x3 x1) fun X1 =>
      L_J7_fill_d0a16_6 p1 n1  n x1 (x3 + 1) x4 X1
def f_J7_fill_d0a16 (p1 : Int) (n1 : Int) (p2 : Int) (X : Mem) : Option (Int × Mem) :=
  L_J7_fill_d0a16_6 p1 n1  KF p2 0 n1 X
set_option maxRecDepth 20000 in
theorem gL_J7_fill_d0a16_6 {C : Cx} {V : Ev} {L : List Kd} {p1 : Int} {n1 : Int} (hC : Ok C V cJ7_fill_d0a16 RJ7 5 0 0) (hR : Rt C V L none rV) (hn1 : 0 ≤ n1 ∧ n1 ≤ 2147483647) (h1 : At L p1 (101, [n1])) : ∀ (n : Nat) (x1 : Int) (x3 : Int) (x4 : Int) (X : Mem), G C V L 0 0 5 6 [(0, vR V.1 p1), (1, vJ x1), (3, vI x3), (4, vI x4)] [] X (L_J7_fill_d0a16_6 p1 n1  n x1 x3 x4 X) := by
  intro n
  induction n with
  | zero => intro x1 x3 x4 X; exact g_none
  | succ n ih =>
    intro x1 x3 x4 X
    rw [L_J7_fill_d0a16_6]
    refine g_iload_n (q := 2) hC dJ7_fill_d0a16_6 rfl rfl ?_
    refine g_iload (q := 3) hC dJ7_fill_d0a16_7 rfl ?_
    refine g_icmp_ge (tgt := 22) hC dJ7_fill_d0a16_9 (by decide) ?_ ?_
    · exact g_vret hC hR dJ7_fill_d0a16_22
    · refine g_aload_n (q := 0) hC dJ7_fill_d0a16_12 rfl rfl rfl ?_
      refine g_iload_n (q := 2) hC dJ7_fill_d0a16_13 rfl rfl ?_
      refine g_lload_n (q := 1) hC dJ7_fill_d0a16_14 rfl rfl ?_
      refine g_last hC h1 hn1.2 dJ7_fill_d0a16_15 (fun X1 => ?_)
      refine g_iinc (q := 2) hC dJ7_fill_d0a16_16 rfl (by decide) rfl ?_
      refine g_goto (tgt := 6) hC dJ7_fill_d0a16_19 (by decide) ?_
      refine g_sub [1, 2, 0, 3] rfl ?_
      exact ih x1 (x3 + 1) x4 X1
set_option maxRecDepth 20000 in
theorem k_J7_fill_d0a16 (l : Launch) (V : Ev) {L : List Kd}  (p1 : Int) (n1 : Int) (p2 : Int) (X : Mem) (hn1 : 0 ≤ n1 ∧ n1 ≤ 2147483647) (h1 : At L p1 (101, [n1])) : Kt l V L yJ7_fill_d0a16 (.code yJ7_fill_d0a16 cJ7_fill_d0a16 5 none) 0 0 [vR V.1 p1, vJ p2] rV X (f_J7_fill_d0a16 p1 n1 p2 X) := by
  refine kt_of (own := RJ7) (lv0 := [(0, vR V.1 p1), (1, vJ p2)]) (by decide) rfl (Nat.le_of_ble_eq_true rfl) rfl (fun C hCl hC hR => ?_)
  subst hCl
  unfold f_J7_fill_d0a16
  refine g_iconst (v := vI 0) hC dJ7_fill_d0a16_0 rfl ?_
  refine g_istore_n hC dJ7_fill_d0a16_1 rfl (by decide) rfl ?_
  refine g_aload_n (q := 1) hC dJ7_fill_d0a16_2 rfl rfl rfl ?_
  refine g_alen (t0 := 1) hC h1 hn1.1 (by decide) rfl dJ7_fill_d0a16_3 ?_
  refine g_istore hC dJ7_fill_d0a16_4 (by decide) rfl ?_
  refine g_sub [2, 3, 1, 0] rfl ?_
  exact gL_J7_fill_d0a16_6 hC hR hn1 h1  KF p2 0 n1 X
def f_J6_bitCount_0f7a4 (p1 : Int) (X : Mem) : Option (Int × Mem) :=
  bd (p1 - (ia (iushr p1 1) 1431655765)) fun v1 =>
  bd ((ia v1 858993459) + (ia (iushr v1 2) 858993459)) fun v2 =>
  bd (ia (v2 + (iushr v2 4)) 252645135) fun v3 =>
  bd (v3 + (iushr v3 8)) fun v4 =>
  bd (v4 + (iushr v4 16)) fun v5 =>
  some (ia v5 63, X)
set_option maxRecDepth 20000 in
theorem k_J6_bitCount_0f7a4 (l : Launch) (V : Ev) {L : List Kd}  (p1 : Int) (X : Mem)  : Kt l V L yJ6_bitCount_0f7a4 (.code yJ6_bitCount_0f7a4 cJ6_bitCount_0f7a4 1 (some .int)) 0 0 [vI p1] rI X (f_J6_bitCount_0f7a4 p1 X) := by
  refine kt_of (own := RJ6) (lv0 := [(0, vI p1)]) (by decide) rfl (Nat.le_of_ble_eq_true rfl) rfl (fun C hCl hC hR => ?_)
  subst hCl
  unfold f_J6_bitCount_0f7a4
  refine g_iload_n (q := 0) hC dJ6_bitCount_0f7a4_0 rfl rfl ?_
  refine g_iload_n (q := 0) hC dJ6_bitCount_0f7a4_1 rfl rfl ?_
  refine g_iconst (v := vI 1) hC dJ6_bitCount_0f7a4_2 rfl ?_
  refine g_iushr hC dJ6_bitCount_0f7a4_3 ?_
  refine g_ldcw (n := 1431655765) hC wk_RJ6_265 rfl dJ6_bitCount_0f7a4_4 ?_
  refine g_iand hC dJ6_bitCount_0f7a4_7 ?_
  refine g_isub hC dJ6_bitCount_0f7a4_8 ?_
  refine g_topI (fun v1 => ?_)
  refine g_istore_n hC dJ6_bitCount_0f7a4_9 rfl (by decide) rfl ?_
  refine g_iload_n (q := 0) hC dJ6_bitCount_0f7a4_10 rfl rfl ?_
  refine g_ldcw (n := 858993459) hC wk_RJ6_266 rfl dJ6_bitCount_0f7a4_11 ?_
  refine g_iand hC dJ6_bitCount_0f7a4_14 ?_
  refine g_iload_n (q := 0) hC dJ6_bitCount_0f7a4_15 rfl rfl ?_
  refine g_iconst (v := vI 2) hC dJ6_bitCount_0f7a4_16 rfl ?_
  refine g_iushr hC dJ6_bitCount_0f7a4_17 ?_
  refine g_ldcw (n := 858993459) hC wk_RJ6_266 rfl dJ6_bitCount_0f7a4_18 ?_
  refine g_iand hC dJ6_bitCount_0f7a4_21 ?_
  refine g_iadd hC dJ6_bitCount_0f7a4_22 ?_
  refine g_topI (fun v2 => ?_)
  refine g_istore_n hC dJ6_bitCount_0f7a4_23 rfl (by decide) rfl ?_
  refine g_iload_n (q := 0) hC dJ6_bitCount_0f7a4_24 rfl rfl ?_
  refine g_iload_n (q := 0) hC dJ6_bitCount_0f7a4_25 rfl rfl ?_
  refine g_iconst (v := vI 4) hC dJ6_bitCount_0f7a4_26 rfl ?_
  refine g_iushr hC dJ6_bitCount_0f7a4_27 ?_
  refine g_iadd hC dJ6_bitCount_0f7a4_28 ?_
  refine g_ldcw (n := 252645135) hC wk_RJ6_267 rfl dJ6_bitCount_0f7a4_29 ?_
  refine g_iand hC dJ6_bitCount_0f7a4_32 ?_
  refine g_topI (fun v3 => ?_)
  refine g_istore_n hC dJ6_bitCount_0f7a4_33 rfl (by decide) rfl ?_
  refine g_iload_n (q := 0) hC dJ6_bitCount_0f7a4_34 rfl rfl ?_
  refine g_iload_n (q := 0) hC dJ6_bitCount_0f7a4_35 rfl rfl ?_
  refine g_bipush (v := vI 8) hC dJ6_bitCount_0f7a4_36 rfl ?_
  refine g_iushr hC dJ6_bitCount_0f7a4_38 ?_
  refine g_iadd hC dJ6_bitCount_0f7a4_39 ?_
  refine g_topI (fun v4 => ?_)
  refine g_istore_n hC dJ6_bitCount_0f7a4_40 rfl (by decide) rfl ?_
  refine g_iload_n (q := 0) hC dJ6_bitCount_0f7a4_41 rfl rfl ?_
  refine g_iload_n (q := 0) hC dJ6_bitCount_0f7a4_42 rfl rfl ?_
  refine g_bipush (v := vI 16) hC dJ6_bitCount_0f7a4_43 rfl ?_
  refine g_iushr hC dJ6_bitCount_0f7a4_45 ?_
  refine g_iadd hC dJ6_bitCount_0f7a4_46 ?_
  refine g_topI (fun v5 => ?_)
  refine g_istore_n hC dJ6_bitCount_0f7a4_47 rfl (by decide) rfl ?_
  refine g_iload_n (q := 0) hC dJ6_bitCount_0f7a4_48 rfl rfl ?_
  refine g_bipush (v := vI 63) hC dJ6_bitCount_0f7a4_49 rfl ?_
  refine g_iand hC dJ6_bitCount_0f7a4_51 ?_
  exact g_iret hC hR dJ6_bitCount_0f7a4_52
def f_X2_clear (r0 : Int) (X : Mem) : Option (Int × Mem) :=
  bd (ms X r0 0 0) fun X1 =>
  bd (ms X1 r0 1 0) fun X2 =>
  bd (ms X2 r0 2 0) fun X3 =>
  bd (ms X3 r0 3 4) fun X4 =>
  bd (ms X4 r0 4 0) fun X5 =>
  bd (ms X5 r0 5 10) fun X6 =>
  bd (ms X6 r0 6 14) fun X7 =>
  bd (ms X7 r0 7 1) fun X8 =>
  bd (ms X8 r0 8 120) fun X9 =>
  bd (ms X9 r0 9 12) fun X10 =>
  bd (ms X10 r0 10 11) fun X11 =>
  cl (f_J7_fill_53178 (r0 + 1) 60 0 X11) fun _ X13 =>
  cl (f_J7_fill_53178 (r0 + 2) 60 ((-1)) X13) fun _ X15 =>
  cl (f_J7_fill_53178 (r0 + 3) 12 0 X15) fun _ X17 =>
  some (0, X17)
set_option maxRecDepth 20000 in
theorem k_X2_clear (l : Launch) (V : Ev) {L : List Kd}  (r0 : Int) (X : Mem) (h0 : isRiver L r0) : Kt l V L yX2_clear (.code yX2_clear cX2_clear 1 none) 1 23 [vR V.1 r0] rV X (f_X2_clear r0 X) := by
  refine kt_of (own := RX2) (lv0 := [(0, vR V.1 r0)]) (by decide) rfl (Nat.le_of_ble_eq_true rfl) rfl (fun C hCl hC hR => ?_)
  subst hCl
  unfold f_X2_clear
  refine g_aload_n (q := 0) hC dX2_clear_0 rfl rfl rfl ?_
  refine g_iconst (v := vI 0) hC dX2_clear_1 rfl ?_
  refine g_putI (k := 0) (kz := 0) hC cf_X2 (rv_0 h0) (by decide) rfl (by decide) rfl wf_RX2_43 rfl rfl dX2_clear_2 (fun X1 => ?_)
  refine g_aload_n (q := 0) hC dX2_clear_5 rfl rfl rfl ?_
  refine g_iconst (v := vI 0) hC dX2_clear_6 rfl ?_
  refine g_putI (k := 1) (kz := 1) hC cf_X2 (rv_0 h0) (by decide) rfl (by decide) rfl wf_RX2_47 rfl rfl dX2_clear_7 (fun X2 => ?_)
  refine g_aload_n (q := 0) hC dX2_clear_10 rfl rfl rfl ?_
  refine g_iconst (v := vI 0) hC dX2_clear_11 rfl ?_
  refine g_putI (k := 2) (kz := 2) hC cf_X2 (rv_0 h0) (by decide) rfl (by decide) rfl wf_RX2_50 rfl rfl dX2_clear_12 (fun X3 => ?_)
  refine g_aload_n (q := 0) hC dX2_clear_15 rfl rfl rfl ?_
  refine g_iconst (v := vI 4) hC dX2_clear_16 rfl ?_
  refine g_putI (k := 3) (kz := 3) hC cf_X2 (rv_0 h0) (by decide) rfl (by decide) rfl wf_RX2_53 rfl rfl dX2_clear_17 (fun X4 => ?_)
  refine g_aload_n (q := 0) hC dX2_clear_20 rfl rfl rfl ?_
  refine g_iconst (v := vI 0) hC dX2_clear_21 rfl ?_
  refine g_putI (k := 4) (kz := 4) hC cf_X2 (rv_0 h0) (by decide) rfl (by decide) rfl wf_RX2_56 rfl rfl dX2_clear_22 (fun X5 => ?_)
  refine g_aload_n (q := 0) hC dX2_clear_25 rfl rfl rfl ?_
  refine g_bipush (v := vI 10) hC dX2_clear_26 rfl ?_
  refine g_putI (k := 5) (kz := 5) hC cf_X2 (rv_0 h0) (by decide) rfl (by decide) rfl wf_RX2_59 rfl rfl dX2_clear_28 (fun X6 => ?_)
  refine g_aload_n (q := 0) hC dX2_clear_31 rfl rfl rfl ?_
  refine g_bipush (v := vI 14) hC dX2_clear_32 rfl ?_
  refine g_putI (k := 6) (kz := 6) hC cf_X2 (rv_0 h0) (by decide) rfl (by decide) rfl wf_RX2_62 rfl rfl dX2_clear_34 (fun X7 => ?_)
  refine g_aload_n (q := 0) hC dX2_clear_37 rfl rfl rfl ?_
  refine g_iconst (v := vI 1) hC dX2_clear_38 rfl ?_
  refine g_putI (k := 7) (kz := 7) hC cf_X2 (rv_0 h0) (by decide) rfl (by decide) rfl wf_RX2_65 rfl rfl dX2_clear_39 (fun X8 => ?_)
  refine g_aload_n (q := 0) hC dX2_clear_42 rfl rfl rfl ?_
  refine g_bipush (v := vI 120) hC dX2_clear_43 rfl ?_
  refine g_putI (k := 8) (kz := 8) hC cf_X2 (rv_0 h0) (by decide) rfl (by decide) rfl wf_RX2_68 rfl rfl dX2_clear_45 (fun X9 => ?_)
  refine g_aload_n (q := 0) hC dX2_clear_48 rfl rfl rfl ?_
  refine g_bipush (v := vI 12) hC dX2_clear_49 rfl ?_
  refine g_putI (k := 9) (kz := 9) hC cf_X2 (rv_0 h0) (by decide) rfl (by decide) rfl wf_RX2_71 rfl rfl dX2_clear_51 (fun X10 => ?_)
  refine g_aload_n (q := 0) hC dX2_clear_54 rfl rfl rfl ?_
  refine g_bipush (v := vI 11) hC dX2_clear_55 rfl ?_
  refine g_putI (k := 10) (kz := 10) hC cf_X2 (rv_0 h0) (by decide) rfl (by decide) rfl wf_RX2_74 rfl rfl dX2_clear_57 (fun X11 => ?_)
  refine g_aload_n (q := 0) hC dX2_clear_60 rfl rfl rfl ?_
  refine g_getS (k := 11) hC cf_X2 (rv_0 h0) (by decide) rfl (add_nn (rv_0 h0)) (by decide) wf_RX2_9 dX2_clear_61 ?_
  refine g_iconst (v := vI 0) hC dX2_clear_64 rfl ?_
  refine g_callSV (As := [vR V.1 (r0 + 1), vI 0]) hC mt_J7_fill_53178 wml_RX2_77 (k_J7_fill_53178 _ V (r0 + 1) 60 0 X11 (by decide) (rv_1 h0)) ⟨Nat.zero_le _, Nat.zero_le _⟩ rfl rfl ⟨Nat.le_of_ble_eq_true rfl, Nat.le_of_ble_eq_true rfl⟩ (Nat.le_of_ble_eq_true rfl) dX2_clear_65 (fun _ X13 => ?_)
  refine g_aload_n (q := 0) hC dX2_clear_68 rfl rfl rfl ?_
  refine g_getS (k := 12) hC cf_X2 (rv_0 h0) (by decide) rfl (add_nn (rv_0 h0)) (by decide) wf_RX2_15 dX2_clear_69 ?_
  refine g_iconst (v := vI (-1)) hC dX2_clear_72 rfl ?_
  refine g_callSV (As := [vR V.1 (r0 + 2), vI ((-1))]) hC mt_J7_fill_53178 wml_RX2_77 (k_J7_fill_53178 _ V (r0 + 2) 60 ((-1)) X13 (by decide) (rv_2 h0)) ⟨Nat.zero_le _, Nat.zero_le _⟩ rfl rfl ⟨Nat.le_of_ble_eq_true rfl, Nat.le_of_ble_eq_true rfl⟩ (Nat.le_of_ble_eq_true rfl) dX2_clear_73 (fun _ X15 => ?_)
  refine g_aload_n (q := 0) hC dX2_clear_76 rfl rfl rfl ?_
  refine g_getS (k := 13) hC cf_X2 (rv_0 h0) (by decide) rfl (add_nn (rv_0 h0)) (by decide) wf_RX2_18 dX2_clear_77 ?_
  refine g_iconst (v := vI 0) hC dX2_clear_80 rfl ?_
  refine g_callSV (As := [vR V.1 (r0 + 3), vI 0]) hC mt_J7_fill_53178 wml_RX2_77 (k_J7_fill_53178 _ V (r0 + 3) 12 0 X15 (by decide) (rv_3 h0)) ⟨Nat.zero_le _, Nat.zero_le _⟩ rfl rfl ⟨Nat.le_of_ble_eq_true rfl, Nat.le_of_ble_eq_true rfl⟩ (Nat.le_of_ble_eq_true rfl) dX2_clear_81 (fun _ X17 => ?_)
  exact g_vret hC hR dX2_clear_84
def f_X2_setCount (r0 : Int) (X : Mem) : Option (Int × Mem) :=
  some (ishl 1 (X r0 2), X)
set_option maxRecDepth 20000 in
theorem k_X2_setCount (l : Launch) (V : Ev) {L : List Kd}  (r0 : Int) (X : Mem) (h0 : isRiver L r0) : Kt l V L yX2_setCount (.code yX2_setCount cX2_setCount 1 (some .int)) 0 0 [vR V.1 r0] rI X (f_X2_setCount r0 X) := by
  refine kt_of (own := RX2) (lv0 := [(0, vR V.1 r0)]) (by decide) rfl (Nat.le_of_ble_eq_true rfl) rfl (fun C hCl hC hR => ?_)
  subst hCl
  unfold f_X2_setCount
  refine g_iconst (v := vI 1) hC dX2_setCount_0 rfl ?_
  refine g_aload_n (q := 0) hC dX2_setCount_1 rfl rfl rfl ?_
  refine g_getI (k := 2) (kz := 2) hC cf_X2 (rv_0 h0) (by decide) rfl (by decide) rfl wf_RX2_50 dX2_setCount_2 ?_
  refine g_ishl hC dX2_setCount_5 ?_
  exact g_iret hC hR dX2_setCount_6
def f_X10_lay (r0 : Int) (p1 : Int) (p2 : Int) (X : Mem) : Option (Int × Mem) :=
  bd (ms X r0 1 p1) fun X1 =>
  bd (ms X1 r0 2 p2) fun X2 =>
  cl (f_J7_fill_d0a16 (r0 + 1) 60 0 X2) fun _ X4 =>
  some (0, X4)
set_option maxRecDepth 20000 in
theorem k_X10_lay (l : Launch) (V : Ev) {L : List Kd}  (r0 : Int) (p1 : Int) (p2 : Int) (X : Mem) (h0 : isTray L r0) : Kt l V L yX10_lay (.code yX10_lay cX10_lay 3 none) 1 24 [vR V.1 r0, vI p1, vI p2] rV X (f_X10_lay r0 p1 p2 X) := by
  refine kt_of (own := RX10) (lv0 := [(0, vR V.1 r0), (1, vI p1), (2, vI p2)]) (by decide) rfl (Nat.le_of_ble_eq_true rfl) rfl (fun C hCl hC hR => ?_)
  subst hCl
  unfold f_X10_lay
  refine g_aload_n (q := 0) hC dX10_lay_0 rfl rfl rfl ?_
  refine g_iload_n (q := 1) hC dX10_lay_1 rfl rfl ?_
  refine g_putI (k := 1) (kz := 1) hC cf_X10 (ty_0 h0) (by decide) rfl (by decide) rfl wf_RX10_15 rfl rfl dX10_lay_2 (fun X1 => ?_)
  refine g_aload_n (q := 0) hC dX10_lay_5 rfl rfl rfl ?_
  refine g_iload_n (q := 2) hC dX10_lay_6 rfl rfl ?_
  refine g_putI (k := 2) (kz := 2) hC cf_X10 (ty_0 h0) (by decide) rfl (by decide) rfl wf_RX10_19 rfl rfl dX10_lay_7 (fun X2 => ?_)
  refine g_aload_n (q := 0) hC dX10_lay_10 rfl rfl rfl ?_
  refine g_getS (k := 0) hC cf_X10 (ty_0 h0) (by decide) rfl (add_nn (ty_0 h0)) (by decide) wf_RX10_9 dX10_lay_11 ?_
  refine g_lconst (v := vJ 0) hC dX10_lay_14 rfl ?_
  refine g_callSV (As := [vR V.1 (r0 + 1), vJ 0]) hC mt_J7_fill_d0a16 wml_RX10_22 (k_J7_fill_d0a16 _ V (r0 + 1) 60 0 X2 (by decide) (ty_1 h0)) ⟨Nat.zero_le _, Nat.zero_le _⟩ rfl rfl ⟨Nat.le_of_ble_eq_true rfl, Nat.le_of_ble_eq_true rfl⟩ (Nat.le_of_ble_eq_true rfl) dX10_lay_15 (fun _ X4 => ?_)
  exact g_vret hC hR dX10_lay_18
def f_X10_isMissing (r0 : Int) (X : Mem) : Option (Int × Mem) :=
  c2 (X r0 1) ((-1)) <| if ¬ (X r0 1) = ((-1)) then
    some (0, X)
  else
    some (1, X)
set_option maxRecDepth 20000 in
theorem k_X10_isMissing (l : Launch) (V : Ev) {L : List Kd}  (r0 : Int) (X : Mem) (h0 : isTray L r0) : Kt l V L yX10_isMissing (.code yX10_isMissing cX10_isMissing 1 (some .boolean)) 0 0 [vR V.1 r0] rI X (f_X10_isMissing r0 X) := by
  refine kt_of (own := RX10) (lv0 := [(0, vR V.1 r0)]) (by decide) rfl (Nat.le_of_ble_eq_true rfl) rfl (fun C hCl hC hR => ?_)
  subst hCl
  unfold f_X10_isMissing
  refine g_aload_n (q := 0) hC dX10_isMissing_0 rfl rfl rfl ?_
  refine g_getI (k := 1) (kz := 1) hC cf_X10 (ty_0 h0) (by decide) rfl (by decide) rfl wf_RX10_15 dX10_isMissing_1 ?_
  refine g_iconst (v := vI (-1)) hC dX10_isMissing_4 rfl ?_
  refine g_icmp_ne (tgt := 12) hC dX10_isMissing_5 (by decide) ?_ ?_
  · refine g_iconst (v := vI 0) hC dX10_isMissing_12 rfl ?_
    exact g_zret1 hC hR (by decide) dX10_isMissing_13
  · refine g_iconst (v := vI 1) hC dX10_isMissing_8 rfl ?_
    refine g_goto (tgt := 13) hC dX10_isMissing_9 (by decide) ?_
    exact g_zret1 hC hR (by decide) dX10_isMissing_13
def f_X10_cut (r0 : Int) (p1 : Int) (X : Mem) : Option (Int × Mem) :=
  c1 (X r0 1) <|
  if (X r0 1) = 0 then
    c1 (w8 p1) <|
    some (w8 p1, X)
  else
  if (X r0 1) = 1 then
    c1 (w16 p1) <|
    some (w16 p1, X)
  else
  if (X r0 1) = 2 then
    c1 (w32 p1) <|
    some (w32 p1, X)
  else
    some (p1, X)
set_option maxRecDepth 20000 in
theorem k_X10_cut (l : Launch) (V : Ev) {L : List Kd}  (r0 : Int) (p1 : Int) (X : Mem) (h0 : isTray L r0) : Kt l V L yX10_cut (.code yX10_cut cX10_cut 3 (some .long)) 0 0 [vR V.1 r0, vJ p1] rJ X (f_X10_cut r0 p1 X) := by
  refine kt_of (own := RX10) (lv0 := [(0, vR V.1 r0), (1, vJ p1)]) (by decide) rfl (Nat.le_of_ble_eq_true rfl) rfl (fun C hCl hC hR => ?_)
  subst hCl
  unfold f_X10_cut
  refine g_aload_n (q := 0) hC dX10_cut_0 rfl rfl rfl ?_
  refine g_getI (k := 1) (kz := 1) hC cf_X10 (ty_0 h0) (by decide) rfl (by decide) rfl wf_RX10_15 dX10_cut_1 ?_
  refine g_c1 (fun hz => ?_)
  refine g_ite (fun hq0 => ?_) (fun hq0 => ?_)
  · refine g_tabIn (j := 0) (tgt := 32) hC dX10_cut_4 (by omega) rfl (by decide) (by decide) ?_
    refine g_lload_n (q := 1) hC dX10_cut_32 rfl rfl ?_
    refine g_l2i hC dX10_cut_33 ?_
    refine g_i2b hC dX10_cut_34 ?_
    refine g_i2l hC dX10_cut_35 ?_
    exact g_lret hC hR dX10_cut_36
  · refine g_ite (fun hq1 => ?_) (fun hq1 => ?_)
    · refine g_tabIn (j := 1) (tgt := 37) hC dX10_cut_4 (by omega) rfl (by decide) (by decide) ?_
      refine g_lload_n (q := 1) hC dX10_cut_37 rfl rfl ?_
      refine g_l2i hC dX10_cut_38 ?_
      refine g_i2s hC dX10_cut_39 ?_
      refine g_i2l hC dX10_cut_40 ?_
      exact g_lret hC hR dX10_cut_41
    · refine g_ite (fun hq2 => ?_) (fun hq2 => ?_)
      · refine g_tabIn (j := 2) (tgt := 42) hC dX10_cut_4 (by omega) rfl (by decide) (by decide) ?_
        refine g_lload_n (q := 1) hC dX10_cut_42 rfl rfl ?_
        refine g_l2iw hC dX10_cut_43 ?_
        refine g_i2l hC dX10_cut_44 ?_
        exact g_lret hC hR dX10_cut_45
      · refine g_tabOut (tgt := 46) hC dX10_cut_4 hz (by omega) (by decide) ?_
        refine g_lload_n (q := 1) hC dX10_cut_46 rfl rfl ?_
        exact g_lret hC hR dX10_cut_47
def f_X10_holds (r0 : Int) (p1 : Int) (p2 : Int) (X : Mem) : Option (Int × Mem) :=
  c2 p1 (X r0 2) <| if (X r0 2) < p1 then
    some (0, X)
  else
    c2 p2 ((X r0 2) - p1) <| if ((X r0 2) - p1) < p2 then
      some (0, X)
    else
      some (1, X)
set_option maxRecDepth 20000 in
theorem k_X10_holds (l : Launch) (V : Ev) {L : List Kd}  (r0 : Int) (p1 : Int) (p2 : Int) (X : Mem) (h0 : isTray L r0) : Kt l V L yX10_holds (.code yX10_holds cX10_holds 3 (some .boolean)) 0 0 [vR V.1 r0, vI p1, vI p2] rI X (f_X10_holds r0 p1 p2 X) := by
  refine kt_of (own := RX10) (lv0 := [(0, vR V.1 r0), (1, vI p1), (2, vI p2)]) (by decide) rfl (Nat.le_of_ble_eq_true rfl) rfl (fun C hCl hC hR => ?_)
  subst hCl
  unfold f_X10_holds
  refine g_iload_n (q := 1) hC dX10_holds_0 rfl rfl ?_
  refine g_aload_n (q := 0) hC dX10_holds_1 rfl rfl rfl ?_
  refine g_getI (k := 2) (kz := 2) hC cf_X10 (ty_0 h0) (by decide) rfl (by decide) rfl wf_RX10_19 dX10_holds_2 ?_
  refine g_icmp_gt (tgt := 22) hC dX10_holds_5 (by decide) ?_ ?_
  · refine g_iconst (v := vI 0) hC dX10_holds_22 rfl ?_
    exact g_zret1 hC hR (by decide) dX10_holds_23
  · refine g_iload_n (q := 2) hC dX10_holds_8 rfl rfl ?_
    refine g_aload_n (q := 0) hC dX10_holds_9 rfl rfl rfl ?_
    refine g_getI (k := 2) (kz := 2) hC cf_X10 (ty_0 h0) (by decide) rfl (by decide) rfl wf_RX10_19 dX10_holds_10 ?_
    refine g_iload_n (q := 1) hC dX10_holds_13 rfl rfl ?_
    refine g_isub hC dX10_holds_14 ?_
    refine g_icmp_gt (tgt := 22) hC dX10_holds_15 (by decide) ?_ ?_
    · refine g_iconst (v := vI 0) hC dX10_holds_22 rfl ?_
      exact g_zret1 hC hR (by decide) dX10_holds_23
    · refine g_iconst (v := vI 1) hC dX10_holds_18 rfl ?_
      refine g_goto (tgt := 23) hC dX10_holds_19 (by decide) ?_
      exact g_zret1 hC hR (by decide) dX10_holds_23
def L_X8_append_3 : Nat → Int → Int → Mem → Option (Int × Mem)
  | 0, _, _, _ => none
  | n + 1, x1, x2, X =>
    c1 x2 <| if x2 < 0 then
      some (0, X)
    else
      c2 (X 35 1) 900 <| if 900 ≤ (X 35 1) then
        some (0, X)
      else
        ax 900 (X 35 1) <| bd (ms X 36 (X 35 1) (w8 (w8 (iushr x1 x2)))) fun X1 =>
        bd (ms X1 35 1 ((X1 35 1) + 1)) fun X2 =>
        L_X8_append_3   n x1 (x2 + (-8)) X2
def f_X8_append (p1 : Int) (X : Mem) : Option (Int × Mem) :=
  L_X8_append_3   KF p1 24 X
set_option maxRecDepth 20000 in
theorem gL_X8_append_3 {C : Cx} {V : Ev} {L : List Kd} (hC : Ok C V cX8_append RX8 3 0 0) (hR : Rt C V L none rV) (hL : LKc L) : ∀ (n : Nat) (x1 : Int) (x2 : Int) (X : Mem), G C V L 0 0 3 3 [(0, vR V.1 35), (1, vI x1), (2, vI x2)] [] X (L_X8_append_3   n x1 x2 X) := by
  intro n
  induction n with
  | zero => intro x1 x2 X; exact g_none
  | succ n ih =>
    intro x1 x2 X
    rw [L_X8_append_3]
    refine g_iload_n (q := 2) hC dX8_append_3 rfl rfl ?_
    refine g_if_lt (tgt := 46) hC dX8_append_4 (by decide) ?_ ?_
    · exact g_vret hC hR dX8_append_46
    · refine g_aload_n (q := 0) hC dX8_append_7 rfl rfl rfl ?_
      refine g_getI (k := 1) (kz := 1) hC cf_X8 (at_35 hL) (by decide) rfl (by decide) rfl wf_RX8_15 dX8_append_8 ?_
      refine g_sipush (v := vI 900) hC dX8_append_11 rfl ?_
      refine g_icmp_ge (tgt := 46) hC dX8_append_14 (by decide) ?_ ?_
      · exact g_vret hC hR dX8_append_46
      · refine g_aload_n (q := 0) hC dX8_append_17 rfl rfl rfl ?_
        refine g_getS (k := 0) hC cf_X8 (at_35 hL) (by decide) rfl (by decide) (by decide) wf_RX8_9 dX8_append_18 ?_
        refine g_aload_n (q := 0) hC dX8_append_21 rfl rfl rfl ?_
        refine g_getI (k := 1) (kz := 1) hC cf_X8 (at_35 hL) (by decide) rfl (by decide) rfl wf_RX8_15 dX8_append_22 ?_
        refine g_iload_n (q := 1) hC dX8_append_25 rfl rfl ?_
        refine g_iload_n (q := 2) hC dX8_append_26 rfl rfl ?_
        refine g_iushr hC dX8_append_27 ?_
        refine g_i2b hC dX8_append_28 ?_
        refine g_bast hC (at_36 hL) (by decide) dX8_append_29 (fun X1 => ?_)
        refine g_aload_n (q := 0) hC dX8_append_30 rfl rfl rfl ?_
        refine g_dup hC dX8_append_31 rfl ?_
        refine g_getI (k := 1) (kz := 1) hC cf_X8 (at_35 hL) (by decide) rfl (by decide) rfl wf_RX8_15 dX8_append_32 ?_
        refine g_iconst (v := vI 1) hC dX8_append_35 rfl ?_
        refine g_iadd hC dX8_append_36 ?_
        refine g_putI (k := 1) (kz := 1) hC cf_X8 (at_35 hL) (by decide) rfl (by decide) rfl wf_RX8_15 rfl rfl dX8_append_37 (fun X2 => ?_)
        refine g_iinc (q := 2) hC dX8_append_40 rfl (by decide) rfl ?_
        refine g_goto (tgt := 3) hC dX8_append_43 (by decide) ?_
        refine g_sub [1, 2, 0] rfl ?_
        exact ih x1 (x2 + (-8)) X2
set_option maxRecDepth 20000 in
theorem k_X8_append (l : Launch) (V : Ev) {L : List Kd} (hL : LKc L) (p1 : Int) (X : Mem)  : Kt l V L yX8_append (.code yX8_append cX8_append 3 none) 0 0 [vR V.1 35, vI p1] rV X (f_X8_append p1 X) := by
  refine kt_of (own := RX8) (lv0 := [(0, vR V.1 35), (1, vI p1)]) (by decide) rfl (Nat.le_of_ble_eq_true rfl) rfl (fun C hCl hC hR => ?_)
  subst hCl
  unfold f_X8_append
  refine g_bipush (v := vI 24) hC dX8_append_0 rfl ?_
  refine g_istore_n hC dX8_append_2 rfl (by decide) rfl ?_
  refine g_sub [1, 2, 0] rfl ?_
  exact gL_X8_append_3 hC hR hL  KF p1 24 X
def B_X8_kindOfByte_28 (x0 : Int) (X : Mem) : Option (Int × Mem) :=
  c2 x0 59 <| if ¬ x0 = 59 then
    some (4, X)
  else
    some (3, X)
def B_X8_kindOfByte_14 (x0 : Int) (X : Mem) : Option (Int × Mem) :=
  c2 x0 48 <| if x0 < 48 then
    B_X8_kindOfByte_28   x0 X
  else
    c2 x0 57 <| if 57 < x0 then
      B_X8_kindOfByte_28   x0 X
    else
      some (2, X)
def f_X8_kindOfByte (p1 : Int) (X : Mem) : Option (Int × Mem) :=
  c2 p1 97 <| if p1 < 97 then
    B_X8_kindOfByte_14   p1 X
  else
    c2 p1 122 <| if 122 < p1 then
      B_X8_kindOfByte_14   p1 X
    else
      some (1, X)
set_option maxRecDepth 20000 in
theorem gB_X8_kindOfByte_28 {C : Cx} {V : Ev} {L : List Kd} (hC : Ok C V cX8_kindOfByte RX8 1 0 0) (hR : Rt C V L (some .int) rI) (hL : LKc L) (x0 : Int) (X : Mem)  : G C V L 0 0 1 28 [(0, vI x0)] [] X (B_X8_kindOfByte_28   x0 X) := by
  unfold B_X8_kindOfByte_28
  refine g_iload_n (q := 0) hC dX8_kindOfByte_28 rfl rfl ?_
  refine g_bipush (v := vI 59) hC dX8_kindOfByte_29 rfl ?_
  refine g_icmp_ne (tgt := 38) hC dX8_kindOfByte_31 (by decide) ?_ ?_
  · refine g_iconst (v := vI 4) hC dX8_kindOfByte_38 rfl ?_
    exact g_iret hC hR dX8_kindOfByte_39
  · refine g_iconst (v := vI 3) hC dX8_kindOfByte_34 rfl ?_
    refine g_goto (tgt := 39) hC dX8_kindOfByte_35 (by decide) ?_
    exact g_iret hC hR dX8_kindOfByte_39
set_option maxRecDepth 20000 in
theorem gB_X8_kindOfByte_14 {C : Cx} {V : Ev} {L : List Kd} (hC : Ok C V cX8_kindOfByte RX8 1 0 0) (hR : Rt C V L (some .int) rI) (hL : LKc L) (x0 : Int) (X : Mem)  : G C V L 0 0 1 14 [(0, vI x0)] [] X (B_X8_kindOfByte_14   x0 X) := by
  unfold B_X8_kindOfByte_14
  refine g_iload_n (q := 0) hC dX8_kindOfByte_14 rfl rfl ?_
  refine g_bipush (v := vI 48) hC dX8_kindOfByte_15 rfl ?_
  refine g_icmp_lt (tgt := 28) hC dX8_kindOfByte_17 (by decide) ?_ ?_
  · exact gB_X8_kindOfByte_28 hC hR hL  x0 X
  · refine g_iload_n (q := 0) hC dX8_kindOfByte_20 rfl rfl ?_
    refine g_bipush (v := vI 57) hC dX8_kindOfByte_21 rfl ?_
    refine g_icmp_gt (tgt := 28) hC dX8_kindOfByte_23 (by decide) ?_ ?_
    · exact gB_X8_kindOfByte_28 hC hR hL  x0 X
    · refine g_iconst (v := vI 2) hC dX8_kindOfByte_26 rfl ?_
      exact g_iret hC hR dX8_kindOfByte_27
set_option maxRecDepth 20000 in
theorem k_X8_kindOfByte (l : Launch) (V : Ev) {L : List Kd} (hL : LKc L) (p1 : Int) (X : Mem)  : Kt l V L yX8_kindOfByte (.code yX8_kindOfByte cX8_kindOfByte 1 (some .int)) 0 0 [vI p1] rI X (f_X8_kindOfByte p1 X) := by
  refine kt_of (own := RX8) (lv0 := [(0, vI p1)]) (by decide) rfl (Nat.le_of_ble_eq_true rfl) rfl (fun C hCl hC hR => ?_)
  subst hCl
  unfold f_X8_kindOfByte
  refine g_iload_n (q := 0) hC dX8_kindOfByte_0 rfl rfl ?_
  refine g_bipush (v := vI 97) hC dX8_kindOfByte_1 rfl ?_
  refine g_icmp_lt (tgt := 14) hC dX8_kindOfByte_3 (by decide) ?_ ?_
  · exact gB_X8_kindOfByte_14 hC hR hL  p1 X
  · refine g_iload_n (q := 0) hC dX8_kindOfByte_6 rfl rfl ?_
    refine g_bipush (v := vI 122) hC dX8_kindOfByte_7 rfl ?_
    refine g_icmp_gt (tgt := 14) hC dX8_kindOfByte_9 (by decide) ?_ ?_
    · exact gB_X8_kindOfByte_14 hC hR hL  p1 X
    · refine g_iconst (v := vI 1) hC dX8_kindOfByte_12 rfl ?_
      exact g_iret hC hR dX8_kindOfByte_13
def B_X8_advance_267  (X : Mem) : Option (Int × Mem) :=
  c2 (X 35 4) 2 <| if ¬ (X 35 4) = 2 then
    some (0, X)
  else
    c2 ((X 35 3) - (X 35 5)) 4 <| if ((X 35 3) - (X 35 5)) ≤ 4 then
      some (0, X)
    else
      bd (ms X 35 4 4) fun X8 =>
      some (0, X8)
def B_X8_advance_254 (go133 : Int → Mem → Option (Int × Mem)) (x1 : Int) (X : Mem) : Option (Int × Mem) :=
  bd (ms X 35 3 ((X 35 3) + 1)) fun X11 =>
  go133 x1 X11
def B_X8_advance_211 (go133 : Int → Mem → Option (Int × Mem)) (x1 : Int) (s0 : Int) (X : Mem) : Option (Int × Mem) :=
  bd (ms X 35 6 s0) fun X13 =>
  B_X8_advance_254  go133 x1 X13
def L_X8_advance_133 : Nat → Int → Mem → Option (Int × Mem)
  | 0, _, _ => none
  | n + 1, x1, X =>
    c2 (X 35 3) x1 <| if x1 ≤ (X 35 3) then
      B_X8_advance_267   X
    else
      ax 900 (X 35 3) <|
      cl (f_X8_kindOfByte (X 36 (X 35 3)) X) fun r9 X10 =>
      c2 r9 (X10 35 4) <| if ¬ r9 = (X10 35 4) then
        B_X8_advance_267   X10
      else
        c2 (X10 35 4) 1 <| if ¬ (X10 35 4) = 1 then
          c2 ((X10 35 3) - (X10 35 5)) 4 <| if 4 ≤ ((X10 35 3) - (X10 35 5)) then
            B_X8_advance_254  (fun x1 X => L_X8_advance_133   n x1 X) x1 X10
          else
            ax 900 (X10 35 3) <|
            bd (ms X10 35 7 (((X10 35 7) * 10) + ((X10 36 (X10 35 3)) - 48))) fun X12 =>
            B_X8_advance_254  (fun x1 X => L_X8_advance_133   n x1 X) x1 X12
        else
          c2 ((X10 35 3) - (X10 35 5)) 8 <| if 8 ≤ ((X10 35 3) - (X10 35 5)) then
            B_X8_advance_211  (fun x1 X => L_X8_advance_133   n x1 X) x1 0 X10
          else
            ax 900 (X10 35 3) <|
            c1 (((X10 36 (X10 35 3)) - 97) + 1) <|
            B_X8_advance_211  (fun x1 X => L_X8_advance_133   n x1 X) x1 (((X10 35 6) * 32) + (((X10 36 (X10 35 3)) - 97) + 1)) X10
def B_X8_advance_132 (s0 : Int) (X : Mem) : Option (Int × Mem) :=
  L_X8_advance_133   KF s0 X
def B_X8_advance_119  (X : Mem) : Option (Int × Mem) :=
  B_X8_advance_132   (X 35 2) X
def B_X8_advance_52  (X : Mem) : Option (Int × Mem) :=
  bd (ms X 35 5 (X 35 3)) fun X1 =>
  bd (ms X1 35 4 0) fun X2 =>
  bd (ms X2 35 6 0) fun X3 =>
  bd (ms X3 35 7 0) fun X4 =>
  c2 (X4 35 3) (X4 35 2) <| if (X4 35 3) < (X4 35 2) then
    ax 900 (X4 35 3) <|
    cl (f_X8_kindOfByte (X4 36 (X4 35 3)) X4) fun r5 X6 =>
    bd (ms X6 35 4 r5) fun X7 =>
    c2 (X7 35 4) 1 <| if (X7 35 4) = 1 then
      B_X8_advance_119   X7
    else
      c2 (X7 35 4) 2 <| if ¬ (X7 35 4) = 2 then
        B_X8_advance_132   ((X7 35 3) + 1) X7
      else
        B_X8_advance_119   X7
  else
    some (0, X4)
def B_X8_advance_39 (go0 : Mem → Option (Int × Mem))  (X : Mem) : Option (Int × Mem) :=
  bd (ms X 35 3 ((X 35 3) + 1)) fun X14 =>
  go0 X14
def L_X8_advance_0 : Nat → Mem → Option (Int × Mem)
  | 0, _ => none
  | n + 1, X =>
    c2 (X 35 3) (X 35 2) <| if (X 35 2) ≤ (X 35 3) then
      B_X8_advance_52   X
    else
      ax 900 (X 35 3) <|
      c2 (X 36 (X 35 3)) 10 <| if (X 36 (X 35 3)) = 10 then
        B_X8_advance_39  (fun  X => L_X8_advance_0   n  X) X
      else
        ax 900 (X 35 3) <|
        c2 (X 36 (X 35 3)) 32 <| if ¬ (X 36 (X 35 3)) = 32 then
          B_X8_advance_52   X
        else
          B_X8_advance_39  (fun  X => L_X8_advance_0   n  X) X
def f_X8_advance  (X : Mem) : Option (Int × Mem) :=
  L_X8_advance_0   KF X
set_option maxRecDepth 20000 in
theorem gB_X8_advance_267 {C : Cx} {V : Ev} {L : List Kd} (hC : Ok C V cX8_advance RX8 2 1 20) (hR : Rt C V L none rV) (hL : LKc L)  (X : Mem)  : G C V L 0 0 2 267 [(0, vR V.1 35)] [] X (B_X8_advance_267    X) := by
  unfold B_X8_advance_267
  refine g_aload_n (q := 0) hC dX8_advance_267 rfl rfl rfl ?_
  refine g_getI (k := 4) (kz := 4) hC cf_X8 (at_35 hL) (by decide) rfl (by decide) rfl wf_RX8_25 dX8_advance_268 ?_
  refine g_iconst (v := vI 2) hC dX8_advance_271 rfl ?_
  refine g_icmp_ne (tgt := 293) hC dX8_advance_272 (by decide) ?_ ?_
  · exact g_vret hC hR dX8_advance_293
  · refine g_aload_n (q := 0) hC dX8_advance_275 rfl rfl rfl ?_
    refine g_getI (k := 3) (kz := 3) hC cf_X8 (at_35 hL) (by decide) rfl (by decide) rfl wf_RX8_22 dX8_advance_276 ?_
    refine g_aload_n (q := 0) hC dX8_advance_279 rfl rfl rfl ?_
    refine g_getI (k := 5) (kz := 5) hC cf_X8 (at_35 hL) (by decide) rfl (by decide) rfl wf_RX8_28 dX8_advance_280 ?_
    refine g_isub hC dX8_advance_283 ?_
    refine g_iconst (v := vI 4) hC dX8_advance_284 rfl ?_
    refine g_icmp_le (tgt := 293) hC dX8_advance_285 (by decide) ?_ ?_
    · exact g_vret hC hR dX8_advance_293
    · refine g_aload_n (q := 0) hC dX8_advance_288 rfl rfl rfl ?_
      refine g_iconst (v := vI 4) hC dX8_advance_289 rfl ?_
      refine g_putI (k := 4) (kz := 4) hC cf_X8 (at_35 hL) (by decide) rfl (by decide) rfl wf_RX8_25 rfl rfl dX8_advance_290 (fun X8 => ?_)
      exact g_vret hC hR dX8_advance_293
set_option maxRecDepth 20000 in
theorem gB_X8_advance_254 {C : Cx} {V : Ev} {L : List Kd} (hC : Ok C V cX8_advance RX8 2 1 20) (hR : Rt C V L none rV) (hL : LKc L) {go133 : Int → Mem → Option (Int × Mem)} (hgo133 : ∀ (x1 : Int) (X : Mem), G C V L 0 0 2 133 [(0, vR V.1 35), (1, vI x1)] [] X (go133 x1 X)) (x1 : Int) (X : Mem)  : G C V L 0 0 2 254 [(0, vR V.1 35), (1, vI x1)] [] X (B_X8_advance_254  go133 x1 X) := by
  unfold B_X8_advance_254
  refine g_aload_n (q := 0) hC dX8_advance_254 rfl rfl rfl ?_
  refine g_dup hC dX8_advance_255 rfl ?_
  refine g_getI (k := 3) (kz := 3) hC cf_X8 (at_35 hL) (by decide) rfl (by decide) rfl wf_RX8_22 dX8_advance_256 ?_
  refine g_iconst (v := vI 1) hC dX8_advance_259 rfl ?_
  refine g_iadd hC dX8_advance_260 ?_
  refine g_putI (k := 3) (kz := 3) hC cf_X8 (at_35 hL) (by decide) rfl (by decide) rfl wf_RX8_22 rfl rfl dX8_advance_261 (fun X11 => ?_)
  refine g_goto (tgt := 133) hC dX8_advance_264 (by decide) ?_
  exact hgo133 x1 X11
set_option maxRecDepth 20000 in
theorem gB_X8_advance_211 {C : Cx} {V : Ev} {L : List Kd} (hC : Ok C V cX8_advance RX8 2 1 20) (hR : Rt C V L none rV) (hL : LKc L) {go133 : Int → Mem → Option (Int × Mem)} (hgo133 : ∀ (x1 : Int) (X : Mem), G C V L 0 0 2 133 [(0, vR V.1 35), (1, vI x1)] [] X (go133 x1 X)) (x1 : Int) (s0 : Int) (X : Mem)  : G C V L 0 0 2 211 [(0, vR V.1 35), (1, vI x1)] [vJ s0, vR V.1 35] X (B_X8_advance_211  go133 x1 s0 X) := by
  unfold B_X8_advance_211
  refine g_putJ (k := 6) (kz := 6) hC cf_X8 (at_35 hL) (by decide) rfl (by decide) rfl wf_RX8_31 rfl rfl dX8_advance_211 (fun X13 => ?_)
  refine g_goto (tgt := 254) hC dX8_advance_214 (by decide) ?_
  exact gB_X8_advance_254 hC hR hL hgo133 x1 X13
set_option maxRecDepth 20000 in
theorem gL_X8_advance_133 {C : Cx} {V : Ev} {L : List Kd} (hC : Ok C V cX8_advance RX8 2 1 20) (hR : Rt C V L none rV) (hL : LKc L) : ∀ (n : Nat) (x1 : Int) (X : Mem), G C V L 0 0 2 133 [(0, vR V.1 35), (1, vI x1)] [] X (L_X8_advance_133   n x1 X) := by
  intro n
  induction n with
  | zero => intro x1 X; exact g_none
  | succ n ih =>
    intro x1 X
    rw [L_X8_advance_133]
    refine g_aload_n (q := 0) hC dX8_advance_133 rfl rfl rfl ?_
    refine g_getI (k := 3) (kz := 3) hC cf_X8 (at_35 hL) (by decide) rfl (by decide) rfl wf_RX8_22 dX8_advance_134 ?_
    refine g_iload_n (q := 1) hC dX8_advance_137 rfl rfl ?_
    refine g_icmp_ge (tgt := 267) hC dX8_advance_138 (by decide) ?_ ?_
    · refine g_sub [0] rfl ?_
      exact gB_X8_advance_267 hC hR hL  X
    · refine g_aload_n (q := 0) hC dX8_advance_141 rfl rfl rfl ?_
      refine g_getS (k := 0) hC cf_X8 (at_35 hL) (by decide) rfl (by decide) (by decide) wf_RX8_9 dX8_advance_142 ?_
      refine g_aload_n (q := 0) hC dX8_advance_145 rfl rfl rfl ?_
      refine g_getI (k := 3) (kz := 3) hC cf_X8 (at_35 hL) (by decide) rfl (by decide) rfl wf_RX8_22 dX8_advance_146 ?_
      refine g_bald hC (at_36 hL) (by decide) dX8_advance_149 ?_
      refine g_callSI (As := [vI (X 36 (X 35 3))]) hC mt_X8_kindOfByte wml_RX8_50 (k_X8_kindOfByte _ V hL (X 36 (X 35 3)) X) ⟨Nat.zero_le _, Nat.zero_le _⟩ rfl rfl ⟨Nat.le_of_ble_eq_true rfl, Nat.le_of_ble_eq_true rfl⟩ (Nat.le_of_ble_eq_true rfl) dX8_advance_150 (fun r9 X10 => ?_)
      refine g_aload_n (q := 0) hC dX8_advance_153 rfl rfl rfl ?_
      refine g_getI (k := 4) (kz := 4) hC cf_X8 (at_35 hL) (by decide) rfl (by decide) rfl wf_RX8_25 dX8_advance_154 ?_
      refine g_icmp_ne (tgt := 267) hC dX8_advance_157 (by decide) ?_ ?_
      · refine g_sub [0] rfl ?_
        exact gB_X8_advance_267 hC hR hL  X10
      · refine g_aload_n (q := 0) hC dX8_advance_160 rfl rfl rfl ?_
        refine g_getI (k := 4) (kz := 4) hC cf_X8 (at_35 hL) (by decide) rfl (by decide) rfl wf_RX8_25 dX8_advance_161 ?_
        refine g_iconst (v := vI 1) hC dX8_advance_164 rfl ?_
        refine g_icmp_ne (tgt := 217) hC dX8_advance_165 (by decide) ?_ ?_
        · refine g_aload_n (q := 0) hC dX8_advance_217 rfl rfl rfl ?_
          refine g_getI (k := 3) (kz := 3) hC cf_X8 (at_35 hL) (by decide) rfl (by decide) rfl wf_RX8_22 dX8_advance_218 ?_
          refine g_aload_n (q := 0) hC dX8_advance_221 rfl rfl rfl ?_
          refine g_getI (k := 5) (kz := 5) hC cf_X8 (at_35 hL) (by decide) rfl (by decide) rfl wf_RX8_28 dX8_advance_222 ?_
          refine g_isub hC dX8_advance_225 ?_
          refine g_iconst (v := vI 4) hC dX8_advance_226 rfl ?_
          refine g_icmp_ge (tgt := 254) hC dX8_advance_227 (by decide) ?_ ?_
          · exact gB_X8_advance_254 hC hR hL ih x1 X10
          · refine g_aload_n (q := 0) hC dX8_advance_230 rfl rfl rfl ?_
            refine g_aload_n (q := 0) hC dX8_advance_231 rfl rfl rfl ?_
            refine g_getI (k := 7) (kz := 7) hC cf_X8 (at_35 hL) (by decide) rfl (by decide) rfl wf_RX8_35 dX8_advance_232 ?_
            refine g_bipush (v := vI 10) hC dX8_advance_235 rfl ?_
            refine g_imul hC dX8_advance_237 ?_
            refine g_aload_n (q := 0) hC dX8_advance_238 rfl rfl rfl ?_
            refine g_getS (k := 0) hC cf_X8 (at_35 hL) (by decide) rfl (by decide) (by decide) wf_RX8_9 dX8_advance_239 ?_
            refine g_aload_n (q := 0) hC dX8_advance_242 rfl rfl rfl ?_
            refine g_getI (k := 3) (kz := 3) hC cf_X8 (at_35 hL) (by decide) rfl (by decide) rfl wf_RX8_22 dX8_advance_243 ?_
            refine g_bald hC (at_36 hL) (by decide) dX8_advance_246 ?_
            refine g_bipush (v := vI 48) hC dX8_advance_247 rfl ?_
            refine g_isub hC dX8_advance_249 ?_
            refine g_iadd hC dX8_advance_250 ?_
            refine g_putI (k := 7) (kz := 7) hC cf_X8 (at_35 hL) (by decide) rfl (by decide) rfl wf_RX8_35 rfl rfl dX8_advance_251 (fun X12 => ?_)
            exact gB_X8_advance_254 hC hR hL ih x1 X12
        · refine g_aload_n (q := 0) hC dX8_advance_168 rfl rfl rfl ?_
          refine g_aload_n (q := 0) hC dX8_advance_169 rfl rfl rfl ?_
          refine g_getI (k := 3) (kz := 3) hC cf_X8 (at_35 hL) (by decide) rfl (by decide) rfl wf_RX8_22 dX8_advance_170 ?_
          refine g_aload_n (q := 0) hC dX8_advance_173 rfl rfl rfl ?_
          refine g_getI (k := 5) (kz := 5) hC cf_X8 (at_35 hL) (by decide) rfl (by decide) rfl wf_RX8_28 dX8_advance_174 ?_
          refine g_isub hC dX8_advance_177 ?_
          refine g_bipush (v := vI 8) hC dX8_advance_178 rfl ?_
          refine g_icmp_ge (tgt := 210) hC dX8_advance_180 (by decide) ?_ ?_
          · refine g_lconst (v := vJ 0) hC dX8_advance_210 rfl ?_
            exact gB_X8_advance_211 hC hR hL ih x1 0 X10
          · refine g_aload_n (q := 0) hC dX8_advance_183 rfl rfl rfl ?_
            refine g_getJ (k := 6) (kz := 6) hC cf_X8 (at_35 hL) (by decide) rfl (by decide) rfl wf_RX8_31 dX8_advance_184 ?_
            refine g_ldc2 (n := 32) hC wk_RX8_54 rfl dX8_advance_187 ?_
            refine g_lmul hC dX8_advance_190 ?_
            refine g_aload_n (q := 0) hC dX8_advance_191 rfl rfl rfl ?_
            refine g_getS (k := 0) hC cf_X8 (at_35 hL) (by decide) rfl (by decide) (by decide) wf_RX8_9 dX8_advance_192 ?_
            refine g_aload_n (q := 0) hC dX8_advance_195 rfl rfl rfl ?_
            refine g_getI (k := 3) (kz := 3) hC cf_X8 (at_35 hL) (by decide) rfl (by decide) rfl wf_RX8_22 dX8_advance_196 ?_
            refine g_bald hC (at_36 hL) (by decide) dX8_advance_199 ?_
            refine g_bipush (v := vI 97) hC dX8_advance_200 rfl ?_
            refine g_isub hC dX8_advance_202 ?_
            refine g_iconst (v := vI 1) hC dX8_advance_203 rfl ?_
            refine g_iadd hC dX8_advance_204 ?_
            refine g_i2l hC dX8_advance_205 ?_
            refine g_ladd hC dX8_advance_206 ?_
            refine g_goto (tgt := 211) hC dX8_advance_207 (by decide) ?_
            exact gB_X8_advance_211 hC hR hL ih x1 (((X10 35 6) * 32) + (((X10 36 (X10 35 3)) - 97) + 1)) X10
set_option maxRecDepth 20000 in
theorem gB_X8_advance_132 {C : Cx} {V : Ev} {L : List Kd} (hC : Ok C V cX8_advance RX8 2 1 20) (hR : Rt C V L none rV) (hL : LKc L) (s0 : Int) (X : Mem)  : G C V L 0 0 2 132 [(0, vR V.1 35)] [vI s0] X (B_X8_advance_132   s0 X) := by
  unfold B_X8_advance_132
  refine g_istore_n hC dX8_advance_132 rfl (by decide) rfl ?_
  refine g_sub [1, 0] rfl ?_
  exact gL_X8_advance_133 hC hR hL  KF s0 X
set_option maxRecDepth 20000 in
theorem gB_X8_advance_119 {C : Cx} {V : Ev} {L : List Kd} (hC : Ok C V cX8_advance RX8 2 1 20) (hR : Rt C V L none rV) (hL : LKc L)  (X : Mem)  : G C V L 0 0 2 119 [(0, vR V.1 35)] [] X (B_X8_advance_119    X) := by
  unfold B_X8_advance_119
  refine g_aload_n (q := 0) hC dX8_advance_119 rfl rfl rfl ?_
  refine g_getI (k := 2) (kz := 2) hC cf_X8 (at_35 hL) (by decide) rfl (by decide) rfl wf_RX8_19 dX8_advance_120 ?_
  refine g_goto (tgt := 132) hC dX8_advance_123 (by decide) ?_
  exact gB_X8_advance_132 hC hR hL  (X 35 2) X
set_option maxRecDepth 20000 in
theorem gB_X8_advance_52 {C : Cx} {V : Ev} {L : List Kd} (hC : Ok C V cX8_advance RX8 2 1 20) (hR : Rt C V L none rV) (hL : LKc L)  (X : Mem)  : G C V L 0 0 2 52 [(0, vR V.1 35)] [] X (B_X8_advance_52    X) := by
  unfold B_X8_advance_52
  refine g_aload_n (q := 0) hC dX8_advance_52 rfl rfl rfl ?_
  refine g_aload_n (q := 0) hC dX8_advance_53 rfl rfl rfl ?_
  refine g_getI (k := 3) (kz := 3) hC cf_X8 (at_35 hL) (by decide) rfl (by decide) rfl wf_RX8_22 dX8_advance_54 ?_
  refine g_putI (k := 5) (kz := 5) hC cf_X8 (at_35 hL) (by decide) rfl (by decide) rfl wf_RX8_28 rfl rfl dX8_advance_57 (fun X1 => ?_)
  refine g_aload_n (q := 0) hC dX8_advance_60 rfl rfl rfl ?_
  refine g_iconst (v := vI 0) hC dX8_advance_61 rfl ?_
  refine g_putI (k := 4) (kz := 4) hC cf_X8 (at_35 hL) (by decide) rfl (by decide) rfl wf_RX8_25 rfl rfl dX8_advance_62 (fun X2 => ?_)
  refine g_aload_n (q := 0) hC dX8_advance_65 rfl rfl rfl ?_
  refine g_lconst (v := vJ 0) hC dX8_advance_66 rfl ?_
  refine g_putJ (k := 6) (kz := 6) hC cf_X8 (at_35 hL) (by decide) rfl (by decide) rfl wf_RX8_31 rfl rfl dX8_advance_67 (fun X3 => ?_)
  refine g_aload_n (q := 0) hC dX8_advance_70 rfl rfl rfl ?_
  refine g_iconst (v := vI 0) hC dX8_advance_71 rfl ?_
  refine g_putI (k := 7) (kz := 7) hC cf_X8 (at_35 hL) (by decide) rfl (by decide) rfl wf_RX8_35 rfl rfl dX8_advance_72 (fun X4 => ?_)
  refine g_aload_n (q := 0) hC dX8_advance_75 rfl rfl rfl ?_
  refine g_getI (k := 3) (kz := 3) hC cf_X8 (at_35 hL) (by decide) rfl (by decide) rfl wf_RX8_22 dX8_advance_76 ?_
  refine g_aload_n (q := 0) hC dX8_advance_79 rfl rfl rfl ?_
  refine g_getI (k := 2) (kz := 2) hC cf_X8 (at_35 hL) (by decide) rfl (by decide) rfl wf_RX8_19 dX8_advance_80 ?_
  refine g_icmp_lt (tgt := 87) hC dX8_advance_83 (by decide) ?_ ?_
  · refine g_aload_n (q := 0) hC dX8_advance_87 rfl rfl rfl ?_
    refine g_aload_n (q := 0) hC dX8_advance_88 rfl rfl rfl ?_
    refine g_getS (k := 0) hC cf_X8 (at_35 hL) (by decide) rfl (by decide) (by decide) wf_RX8_9 dX8_advance_89 ?_
    refine g_aload_n (q := 0) hC dX8_advance_92 rfl rfl rfl ?_
    refine g_getI (k := 3) (kz := 3) hC cf_X8 (at_35 hL) (by decide) rfl (by decide) rfl wf_RX8_22 dX8_advance_93 ?_
    refine g_bald hC (at_36 hL) (by decide) dX8_advance_96 ?_
    refine g_callSI (As := [vI (X4 36 (X4 35 3))]) hC mt_X8_kindOfByte wml_RX8_50 (k_X8_kindOfByte _ V hL (X4 36 (X4 35 3)) X4) ⟨Nat.zero_le _, Nat.zero_le _⟩ rfl rfl ⟨Nat.le_of_ble_eq_true rfl, Nat.le_of_ble_eq_true rfl⟩ (Nat.le_of_ble_eq_true rfl) dX8_advance_97 (fun r5 X6 => ?_)
    refine g_putI (k := 4) (kz := 4) hC cf_X8 (at_35 hL) (by decide) rfl (by decide) rfl wf_RX8_25 rfl rfl dX8_advance_100 (fun X7 => ?_)
    refine g_aload_n (q := 0) hC dX8_advance_103 rfl rfl rfl ?_
    refine g_getI (k := 4) (kz := 4) hC cf_X8 (at_35 hL) (by decide) rfl (by decide) rfl wf_RX8_25 dX8_advance_104 ?_
    refine g_iconst (v := vI 1) hC dX8_advance_107 rfl ?_
    refine g_icmp_eq (tgt := 119) hC dX8_advance_108 (by decide) ?_ ?_
    · exact gB_X8_advance_119 hC hR hL  X7
    · refine g_aload_n (q := 0) hC dX8_advance_111 rfl rfl rfl ?_
      refine g_getI (k := 4) (kz := 4) hC cf_X8 (at_35 hL) (by decide) rfl (by decide) rfl wf_RX8_25 dX8_advance_112 ?_
      refine g_iconst (v := vI 2) hC dX8_advance_115 rfl ?_
      refine g_icmp_ne (tgt := 126) hC dX8_advance_116 (by decide) ?_ ?_
      · refine g_aload_n (q := 0) hC dX8_advance_126 rfl rfl rfl ?_
        refine g_getI (k := 3) (kz := 3) hC cf_X8 (at_35 hL) (by decide) rfl (by decide) rfl wf_RX8_22 dX8_advance_127 ?_
        refine g_iconst (v := vI 1) hC dX8_advance_130 rfl ?_
        refine g_iadd hC dX8_advance_131 ?_
        exact gB_X8_advance_132 hC hR hL  ((X7 35 3) + 1) X7
      · exact gB_X8_advance_119 hC hR hL  X7
  · exact g_vret hC hR dX8_advance_86
set_option maxRecDepth 20000 in
theorem gB_X8_advance_39 {C : Cx} {V : Ev} {L : List Kd} (hC : Ok C V cX8_advance RX8 2 1 20) (hR : Rt C V L none rV) (hL : LKc L) {go0 : Mem → Option (Int × Mem)} (hgo0 : ∀ (X : Mem), G C V L 0 0 2 0 [(0, vR V.1 35)] [] X (go0  X))  (X : Mem)  : G C V L 0 0 2 39 [(0, vR V.1 35)] [] X (B_X8_advance_39  go0  X) := by
  unfold B_X8_advance_39
  refine g_aload_n (q := 0) hC dX8_advance_39 rfl rfl rfl ?_
  refine g_dup hC dX8_advance_40 rfl ?_
  refine g_getI (k := 3) (kz := 3) hC cf_X8 (at_35 hL) (by decide) rfl (by decide) rfl wf_RX8_22 dX8_advance_41 ?_
  refine g_iconst (v := vI 1) hC dX8_advance_44 rfl ?_
  refine g_iadd hC dX8_advance_45 ?_
  refine g_putI (k := 3) (kz := 3) hC cf_X8 (at_35 hL) (by decide) rfl (by decide) rfl wf_RX8_22 rfl rfl dX8_advance_46 (fun X14 => ?_)
  refine g_goto (tgt := 0) hC dX8_advance_49 (by decide) ?_
  exact hgo0 X14
set_option maxRecDepth 20000 in
theorem gL_X8_advance_0 {C : Cx} {V : Ev} {L : List Kd} (hC : Ok C V cX8_advance RX8 2 1 20) (hR : Rt C V L none rV) (hL : LKc L) : ∀ (n : Nat)  (X : Mem), G C V L 0 0 2 0 [(0, vR V.1 35)] [] X (L_X8_advance_0   n  X) := by
  intro n
  induction n with
  | zero => intro X; exact g_none
  | succ n ih =>
    intro X
    rw [L_X8_advance_0]
    refine g_aload_n (q := 0) hC dX8_advance_0 rfl rfl rfl ?_
    refine g_getI (k := 3) (kz := 3) hC cf_X8 (at_35 hL) (by decide) rfl (by decide) rfl wf_RX8_22 dX8_advance_1 ?_
    refine g_aload_n (q := 0) hC dX8_advance_4 rfl rfl rfl ?_
    refine g_getI (k := 2) (kz := 2) hC cf_X8 (at_35 hL) (by decide) rfl (by decide) rfl wf_RX8_19 dX8_advance_5 ?_
    refine g_icmp_ge (tgt := 52) hC dX8_advance_8 (by decide) ?_ ?_
    · exact gB_X8_advance_52 hC hR hL  X
    · refine g_aload_n (q := 0) hC dX8_advance_11 rfl rfl rfl ?_
      refine g_getS (k := 0) hC cf_X8 (at_35 hL) (by decide) rfl (by decide) (by decide) wf_RX8_9 dX8_advance_12 ?_
      refine g_aload_n (q := 0) hC dX8_advance_15 rfl rfl rfl ?_
      refine g_getI (k := 3) (kz := 3) hC cf_X8 (at_35 hL) (by decide) rfl (by decide) rfl wf_RX8_22 dX8_advance_16 ?_
      refine g_bald hC (at_36 hL) (by decide) dX8_advance_19 ?_
      refine g_bipush (v := vI 10) hC dX8_advance_20 rfl ?_
      refine g_icmp_eq (tgt := 39) hC dX8_advance_22 (by decide) ?_ ?_
      · exact gB_X8_advance_39 hC hR hL ih X
      · refine g_aload_n (q := 0) hC dX8_advance_25 rfl rfl rfl ?_
        refine g_getS (k := 0) hC cf_X8 (at_35 hL) (by decide) rfl (by decide) (by decide) wf_RX8_9 dX8_advance_26 ?_
        refine g_aload_n (q := 0) hC dX8_advance_29 rfl rfl rfl ?_
        refine g_getI (k := 3) (kz := 3) hC cf_X8 (at_35 hL) (by decide) rfl (by decide) rfl wf_RX8_22 dX8_advance_30 ?_
        refine g_bald hC (at_36 hL) (by decide) dX8_advance_33 ?_
        refine g_bipush (v := vI 32) hC dX8_advance_34 rfl ?_
        refine g_icmp_ne (tgt := 52) hC dX8_advance_36 (by decide) ?_ ?_
        · exact gB_X8_advance_52 hC hR hL  X
        · exact gB_X8_advance_39 hC hR hL ih X
set_option maxRecDepth 20000 in
theorem k_X8_advance (l : Launch) (V : Ev) {L : List Kd} (hL : LKc L)  (X : Mem)  : Kt l V L yX8_advance (.code yX8_advance cX8_advance 2 none) 1 20 [vR V.1 35] rV X (f_X8_advance  X) := by
  refine kt_of (own := RX8) (lv0 := [(0, vR V.1 35)]) (by decide) rfl (Nat.le_of_ble_eq_true rfl) rfl (fun C hCl hC hR => ?_)
  subst hCl
  unfold f_X8_advance
  exact gL_X8_advance_0 hC hR hL  KF X
def f_X8_start (p1 : Int) (X : Mem) : Option (Int × Mem) :=
  bd (ms X 35 2 p1) fun X1 =>
  bd (ms X1 35 3 0) fun X2 =>
  bd (ms X2 35 9 0) fun X3 =>
  bd (ms X3 35 10 ((-1))) fun X4 =>
  cl (f_X8_advance X4) fun _ X6 =>
  some (0, X6)
set_option maxRecDepth 20000 in
theorem k_X8_start (l : Launch) (V : Ev) {L : List Kd} (hL : LKc L) (p1 : Int) (X : Mem)  : Kt l V L yX8_start (.code yX8_start cX8_start 2 none) 2 41 [vR V.1 35, vI p1] rV X (f_X8_start p1 X) := by
  refine kt_of (own := RX8) (lv0 := [(0, vR V.1 35), (1, vI p1)]) (by decide) rfl (Nat.le_of_ble_eq_true rfl) rfl (fun C hCl hC hR => ?_)
  subst hCl
  unfold f_X8_start
  refine g_aload_n (q := 0) hC dX8_start_0 rfl rfl rfl ?_
  refine g_iload_n (q := 1) hC dX8_start_1 rfl rfl ?_
  refine g_putI (k := 2) (kz := 2) hC cf_X8 (at_35 hL) (by decide) rfl (by decide) rfl wf_RX8_19 rfl rfl dX8_start_2 (fun X1 => ?_)
  refine g_aload_n (q := 0) hC dX8_start_5 rfl rfl rfl ?_
  refine g_iconst (v := vI 0) hC dX8_start_6 rfl ?_
  refine g_putI (k := 3) (kz := 3) hC cf_X8 (at_35 hL) (by decide) rfl (by decide) rfl wf_RX8_22 rfl rfl dX8_start_7 (fun X2 => ?_)
  refine g_aload_n (q := 0) hC dX8_start_10 rfl rfl rfl ?_
  refine g_iconst (v := vI 0) hC dX8_start_11 rfl ?_
  refine g_putI (k := 9) (kz := 9) hC cf_X8 (at_35 hL) (by decide) rfl (by decide) rfl wf_RX8_41 rfl rfl dX8_start_12 (fun X3 => ?_)
  refine g_aload_n (q := 0) hC dX8_start_15 rfl rfl rfl ?_
  refine g_iconst (v := vI (-1)) hC dX8_start_16 rfl ?_
  refine g_putI (k := 10) (kz := 10) hC cf_X8 (at_35 hL) (by decide) rfl (by decide) rfl wf_RX8_44 rfl rfl dX8_start_17 (fun X4 => ?_)
  refine g_aload_n (q := 0) hC dX8_start_20 rfl rfl rfl ?_
  refine g_callVV (As := []) hC mv_X8_advance wml_RX8_47 (k_X8_advance _ V hL X4) cf_X8 (at_35 hL) (by decide) ⟨Nat.zero_le _, Nat.zero_le _⟩ rfl rfl ⟨Nat.le_of_ble_eq_true rfl, Nat.le_of_ble_eq_true rfl⟩ (Nat.le_of_ble_eq_true rfl) dX8_start_21 (fun _ X6 => ?_)
  exact g_vret hC hR dX8_start_24
def L_X8_is_30 : Nat → Nat → Int → Int → Mem → Option (Int × Mem)
  | 0, _, _, _, _ => none
  | n + 1, x1, x2, x3, X =>
    c2 x3 x2 <| if x2 ≤ x3 then
      some (1, X)
    else
      ax 900 ((X 35 5) + x3) <|
      ax ((sB x1).length : Int) x3 <|
      c2 (X 36 ((X 35 5) + x3)) (tl (sB x1) x3) <| if (X 36 ((X 35 5) + x3)) = (tl (sB x1) x3) then
        L_X8_is_30   n x1 x2 (x3 + 1) X
      else
        some (0, X)
def f_X8_is (p1 : Nat) (X : Mem) : Option (Int × Mem) :=
  bd (((sB p1).length : Int)) fun v1 =>
  c2 (X 35 4) 1 <| if ¬ (X 35 4) = 1 then
    some (0, X)
  else
    c2 v1 ((X 35 3) - (X 35 5)) <| if v1 = ((X 35 3) - (X 35 5)) then
      L_X8_is_30   KF p1 v1 0 X
    else
      some (0, X)
set_option maxRecDepth 20000 in
theorem gL_X8_is_30 {C : Cx} {V : Ev} {L : List Kd} (hC : Ok C V cX8_is RX8 4 5 160) (hR : Rt C V L (some .boolean) rI) (hL : LKc L) : ∀ (n : Nat) (x1 : Nat) (x2 : Int) (x3 : Int) (X : Mem) (g1 : x1 < nSt), G C V L 0 0 4 30 [(0, vR V.1 35), (1, vS V x1), (2, vI x2), (3, vI x3)] [] X (L_X8_is_30   n x1 x2 x3 X) := by
  intro n
  induction n with
  | zero => intro x1 x2 x3 X g1; exact g_none
  | succ n ih =>
    intro x1 x2 x3 X g1
    rw [L_X8_is_30]
    refine g_iload_n (q := 3) hC dX8_is_30 rfl rfl ?_
    refine g_iload_n (q := 2) hC dX8_is_31 rfl rfl ?_
    refine g_icmp_ge (tgt := 62) hC dX8_is_32 (by decide) ?_ ?_
    · refine g_iconst (v := vI 1) hC dX8_is_62 rfl ?_
      exact g_zret1 hC hR (by decide) dX8_is_63
    · refine g_aload_n (q := 0) hC dX8_is_35 rfl rfl rfl ?_
      refine g_getS (k := 0) hC cf_X8 (at_35 hL) (by decide) rfl (by decide) (by decide) wf_RX8_9 dX8_is_36 ?_
      refine g_aload_n (q := 0) hC dX8_is_39 rfl rfl rfl ?_
      refine g_getI (k := 5) (kz := 5) hC cf_X8 (at_35 hL) (by decide) rfl (by decide) rfl wf_RX8_28 dX8_is_40 ?_
      refine g_iload_n (q := 3) hC dX8_is_43 rfl rfl ?_
      refine g_iadd hC dX8_is_44 ?_
      refine g_bald hC (at_36 hL) (by decide) dX8_is_45 ?_
      refine g_aload_n (q := 1) hC dX8_is_46 rfl rfl rfl ?_
      refine g_iload_n (q := 3) hC dX8_is_47 rfl rfl ?_
      refine g_schar hC wml_RX8_62 g1 (Nat.le_of_ble_eq_true rfl) (Nat.le_of_ble_eq_true rfl) (Nat.le_of_ble_eq_true rfl) dX8_is_48 ?_
      refine g_icmp_eq (tgt := 56) hC dX8_is_51 (by decide) ?_ ?_
      · refine g_iinc (q := 3) hC dX8_is_56 rfl (by decide) rfl ?_
        refine g_goto (tgt := 30) hC dX8_is_59 (by decide) ?_
        refine g_sub [1, 2, 3, 0] rfl ?_
        exact ih x1 x2 (x3 + 1) X g1
      · refine g_iconst (v := vI 0) hC dX8_is_54 rfl ?_
        exact g_zret1 hC hR (by decide) dX8_is_55
set_option maxRecDepth 20000 in
theorem k_X8_is (l : Launch) (V : Ev) {L : List Kd} (hL : LKc L) (p1 : Nat) (X : Mem) (h1 : p1 < nSt) : Kt l V L yX8_is (.code yX8_is cX8_is 4 (some .boolean)) 5 160 [vR V.1 35, vS V p1] rI X (f_X8_is p1 X) := by
  refine kt_of (own := RX8) (lv0 := [(0, vR V.1 35), (1, vS V p1)]) (by decide) rfl (Nat.le_of_ble_eq_true rfl) rfl (fun C hCl hC hR => ?_)
  subst hCl
  unfold f_X8_is
  refine g_aload_n (q := 1) hC dX8_is_0 rfl rfl rfl ?_
  refine g_slen hC wml_RX8_56 h1 (Nat.le_of_ble_eq_true rfl) (Nat.le_of_ble_eq_true rfl) (Nat.le_of_ble_eq_true rfl) dX8_is_1 ?_
  refine g_topI (fun v1 => ?_)
  refine g_istore_n hC dX8_is_4 rfl (by decide) rfl ?_
  refine g_aload_n (q := 1) hC dX8_is_5 rfl rfl rfl ?_
  refine g_getI (k := 4) (kz := 4) hC cf_X8 (at_35 hL) (by decide) rfl (by decide) rfl wf_RX8_25 dX8_is_6 ?_
  refine g_iconst (v := vI 1) hC dX8_is_9 rfl ?_
  refine g_icmp_ne (tgt := 26) hC dX8_is_10 (by decide) ?_ ?_
  · refine g_iconst (v := vI 0) hC dX8_is_26 rfl ?_
    exact g_zret1 hC hR (by decide) dX8_is_27
  · refine g_iload_n (q := 0) hC dX8_is_13 rfl rfl ?_
    refine g_aload_n (q := 1) hC dX8_is_14 rfl rfl rfl ?_
    refine g_getI (k := 3) (kz := 3) hC cf_X8 (at_35 hL) (by decide) rfl (by decide) rfl wf_RX8_22 dX8_is_15 ?_
    refine g_aload_n (q := 1) hC dX8_is_18 rfl rfl rfl ?_
    refine g_getI (k := 5) (kz := 5) hC cf_X8 (at_35 hL) (by decide) rfl (by decide) rfl wf_RX8_28 dX8_is_19 ?_
    refine g_isub hC dX8_is_22 ?_
    refine g_icmp_eq (tgt := 28) hC dX8_is_23 (by decide) ?_ ?_
    · refine g_iconst (v := vI 0) hC dX8_is_28 rfl ?_
      refine g_istore_n hC dX8_is_29 rfl (by decide) rfl ?_
      refine g_sub [2, 3, 1, 0] rfl ?_
      exact gL_X8_is_30 hC hR hL  KF p1 v1 0 X h1
    · refine g_iconst (v := vI 0) hC dX8_is_26 rfl ?_
      exact g_zret1 hC hR (by decide) dX8_is_27
def B_X8_failHere_14 (s0 : Int) (X : Mem) : Option (Int × Mem) :=
  bd (ms X 35 9 s0) fun X1 =>
  bd (ms X1 35 10 (X1 35 5)) fun X2 =>
  some (0, X2)
def f_X8_failHere  (X : Mem) : Option (Int × Mem) :=
  c2 (X 35 4) 4 <| if ¬ (X 35 4) = 4 then
    B_X8_failHere_14   2 X
  else
    B_X8_failHere_14   1 X
set_option maxRecDepth 20000 in
theorem gB_X8_failHere_14 {C : Cx} {V : Ev} {L : List Kd} (hC : Ok C V cX8_failHere RX8 1 0 0) (hR : Rt C V L (some .boolean) rI) (hL : LKc L) (s0 : Int) (X : Mem)  : G C V L 0 0 1 14 [(0, vR V.1 35)] [vI s0, vR V.1 35] X (B_X8_failHere_14   s0 X) := by
  unfold B_X8_failHere_14
  refine g_putI (k := 9) (kz := 9) hC cf_X8 (at_35 hL) (by decide) rfl (by decide) rfl wf_RX8_41 rfl rfl dX8_failHere_14 (fun X1 => ?_)
  refine g_aload_n (q := 0) hC dX8_failHere_17 rfl rfl rfl ?_
  refine g_aload_n (q := 0) hC dX8_failHere_18 rfl rfl rfl ?_
  refine g_getI (k := 5) (kz := 5) hC cf_X8 (at_35 hL) (by decide) rfl (by decide) rfl wf_RX8_28 dX8_failHere_19 ?_
  refine g_putI (k := 10) (kz := 10) hC cf_X8 (at_35 hL) (by decide) rfl (by decide) rfl wf_RX8_44 rfl rfl dX8_failHere_22 (fun X2 => ?_)
  refine g_iconst (v := vI 0) hC dX8_failHere_25 rfl ?_
  exact g_zret1 hC hR (by decide) dX8_failHere_26
set_option maxRecDepth 20000 in
theorem k_X8_failHere (l : Launch) (V : Ev) {L : List Kd} (hL : LKc L)  (X : Mem)  : Kt l V L yX8_failHere (.code yX8_failHere cX8_failHere 1 (some .boolean)) 0 0 [vR V.1 35] rI X (f_X8_failHere  X) := by
  refine kt_of (own := RX8) (lv0 := [(0, vR V.1 35)]) (by decide) rfl (Nat.le_of_ble_eq_true rfl) rfl (fun C hCl hC hR => ?_)
  subst hCl
  unfold f_X8_failHere
  refine g_aload_n (q := 0) hC dX8_failHere_0 rfl rfl rfl ?_
  refine g_aload_n (q := 0) hC dX8_failHere_1 rfl rfl rfl ?_
  refine g_getI (k := 4) (kz := 4) hC cf_X8 (at_35 hL) (by decide) rfl (by decide) rfl wf_RX8_25 dX8_failHere_2 ?_
  refine g_iconst (v := vI 4) hC dX8_failHere_5 rfl ?_
  refine g_icmp_ne (tgt := 13) hC dX8_failHere_6 (by decide) ?_ ?_
  · refine g_iconst (v := vI 2) hC dX8_failHere_13 rfl ?_
    exact gB_X8_failHere_14 hC hR hL  2 X
  · refine g_iconst (v := vI 1) hC dX8_failHere_9 rfl ?_
    refine g_goto (tgt := 14) hC dX8_failHere_10 (by decide) ?_
    exact gB_X8_failHere_14 hC hR hL  1 X
def f_X8_takeWord (p1 : Nat) (X : Mem) : Option (Int × Mem) :=
  cl (f_X8_is p1 X) fun r1 X2 =>
  c1 r1 <| if ¬ r1 = 0 then
    cl (f_X8_advance X2) fun _ X4 =>
    some (1, X4)
  else
    cl (f_X8_failHere X2) fun r5 X6 =>
    cz r5 (some (r5, X6))
set_option maxRecDepth 20000 in
theorem k_X8_takeWord (l : Launch) (V : Ev) {L : List Kd} (hL : LKc L) (p1 : Nat) (X : Mem) (h1 : p1 < nSt) : Kt l V L yX8_takeWord (.code yX8_takeWord cX8_takeWord 2 (some .boolean)) 6 183 [vR V.1 35, vS V p1] rI X (f_X8_takeWord p1 X) := by
  refine kt_of (own := RX8) (lv0 := [(0, vR V.1 35), (1, vS V p1)]) (by decide) rfl (Nat.le_of_ble_eq_true rfl) rfl (fun C hCl hC hR => ?_)
  subst hCl
  unfold f_X8_takeWord
  refine g_aload_n (q := 0) hC dX8_takeWord_0 rfl rfl rfl ?_
  refine g_aload_n (q := 1) hC dX8_takeWord_1 rfl rfl rfl ?_
  refine g_callVI (As := [vS V p1]) hC mv_X8_is wml_RX8_66 (k_X8_is _ V hL p1 X h1) cf_X8 (at_35 hL) (by decide) ⟨Nat.zero_le _, Nat.zero_le _⟩ rfl rfl ⟨Nat.le_of_ble_eq_true rfl, Nat.le_of_ble_eq_true rfl⟩ (Nat.le_of_ble_eq_true rfl) dX8_takeWord_2 (fun r1 X2 => ?_)
  refine g_if_ne (tgt := 13) hC dX8_takeWord_5 (by decide) ?_ ?_
  · refine g_aload_n (q := 0) hC dX8_takeWord_13 rfl rfl rfl ?_
    refine g_callVV (As := []) hC mv_X8_advance wml_RX8_47 (k_X8_advance _ V hL X2) cf_X8 (at_35 hL) (by decide) ⟨Nat.zero_le _, Nat.zero_le _⟩ rfl rfl ⟨Nat.le_of_ble_eq_true rfl, Nat.le_of_ble_eq_true rfl⟩ (Nat.le_of_ble_eq_true rfl) dX8_takeWord_14 (fun _ X4 => ?_)
    refine g_iconst (v := vI 1) hC dX8_takeWord_17 rfl ?_
    exact g_zret1 hC hR (by decide) dX8_takeWord_18
  · refine g_aload_n (q := 0) hC dX8_takeWord_8 rfl rfl rfl ?_
    refine g_callVI (As := []) hC mv_X8_failHere wml_RX8_70 (k_X8_failHere _ V hL X2) cf_X8 (at_35 hL) (by decide) ⟨Nat.zero_le _, Nat.zero_le _⟩ rfl rfl ⟨Nat.le_of_ble_eq_true rfl, Nat.le_of_ble_eq_true rfl⟩ (Nat.le_of_ble_eq_true rfl) dX8_takeWord_9 (fun r5 X6 => ?_)
    exact g_zret hC hR dX8_takeWord_12
def f_X8_fail (p1 : Int) (X : Mem) : Option (Int × Mem) :=
  bd (ms X 35 9 p1) fun X1 =>
  bd (ms X1 35 10 (X1 35 5)) fun X2 =>
  some (0, X2)
set_option maxRecDepth 20000 in
theorem k_X8_fail (l : Launch) (V : Ev) {L : List Kd} (hL : LKc L) (p1 : Int) (X : Mem)  : Kt l V L yX8_fail (.code yX8_fail cX8_fail 2 (some .boolean)) 0 0 [vR V.1 35, vI p1] rI X (f_X8_fail p1 X) := by
  refine kt_of (own := RX8) (lv0 := [(0, vR V.1 35), (1, vI p1)]) (by decide) rfl (Nat.le_of_ble_eq_true rfl) rfl (fun C hCl hC hR => ?_)
  subst hCl
  unfold f_X8_fail
  refine g_aload_n (q := 0) hC dX8_fail_0 rfl rfl rfl ?_
  refine g_iload_n (q := 1) hC dX8_fail_1 rfl rfl ?_
  refine g_putI (k := 9) (kz := 9) hC cf_X8 (at_35 hL) (by decide) rfl (by decide) rfl wf_RX8_41 rfl rfl dX8_fail_2 (fun X1 => ?_)
  refine g_aload_n (q := 0) hC dX8_fail_5 rfl rfl rfl ?_
  refine g_aload_n (q := 0) hC dX8_fail_6 rfl rfl rfl ?_
  refine g_getI (k := 5) (kz := 5) hC cf_X8 (at_35 hL) (by decide) rfl (by decide) rfl wf_RX8_28 dX8_fail_7 ?_
  refine g_putI (k := 10) (kz := 10) hC cf_X8 (at_35 hL) (by decide) rfl (by decide) rfl wf_RX8_44 rfl rfl dX8_fail_10 (fun X2 => ?_)
  refine g_iconst (v := vI 0) hC dX8_fail_13 rfl ?_
  exact g_zret1 hC hR (by decide) dX8_fail_14
def B_X8_isNumber_29  (X : Mem) : Option (Int × Mem) :=
  cl (f_X8_fail 4 X) fun r1 X2 =>
  c1 r1 <| if r1 = 0 then
    some (0, X2)
  else
    some (1, X2)
def f_X8_isNumber (p1 : Int) (p2 : Int) (X : Mem) : Option (Int × Mem) :=
  c2 (X 35 4) 2 <| if (X 35 4) = 2 then
    c2 (X 35 7) p1 <| if (X 35 7) < p1 then
      B_X8_isNumber_29   X
    else
      c2 (X 35 7) p2 <| if (X 35 7) ≤ p2 then
        some (1, X)
      else
        B_X8_isNumber_29   X
  else
    cl (f_X8_failHere X) fun r3 X4 =>
    cz r3 (some (r3, X4))
set_option maxRecDepth 20000 in
theorem gB_X8_isNumber_29 {C : Cx} {V : Ev} {L : List Kd} (hC : Ok C V cX8_isNumber RX8 3 1 21) (hR : Rt C V L (some .boolean) rI) (hL : LKc L)  (X : Mem)  : G C V L 0 0 3 29 [(0, vR V.1 35)] [] X (B_X8_isNumber_29    X) := by
  unfold B_X8_isNumber_29
  refine g_aload_n (q := 0) hC dX8_isNumber_29 rfl rfl rfl ?_
  refine g_iconst (v := vI 4) hC dX8_isNumber_30 rfl ?_
  refine g_callVI (As := [vI 4]) hC mv_X8_fail wml_RX8_74 (k_X8_fail _ V hL 4 X) cf_X8 (at_35 hL) (by decide) ⟨Nat.zero_le _, Nat.zero_le _⟩ rfl rfl ⟨Nat.le_of_ble_eq_true rfl, Nat.le_of_ble_eq_true rfl⟩ (Nat.le_of_ble_eq_true rfl) dX8_isNumber_31 (fun r1 X2 => ?_)
  refine g_if_eq (tgt := 41) hC dX8_isNumber_34 (by decide) ?_ ?_
  · refine g_iconst (v := vI 0) hC dX8_isNumber_41 rfl ?_
    exact g_zret1 hC hR (by decide) dX8_isNumber_42
  · refine g_iconst (v := vI 1) hC dX8_isNumber_37 rfl ?_
    refine g_goto (tgt := 42) hC dX8_isNumber_38 (by decide) ?_
    exact g_zret1 hC hR (by decide) dX8_isNumber_42
set_option maxRecDepth 20000 in
theorem k_X8_isNumber (l : Launch) (V : Ev) {L : List Kd} (hL : LKc L) (p1 : Int) (p2 : Int) (X : Mem)  : Kt l V L yX8_isNumber (.code yX8_isNumber cX8_isNumber 3 (some .boolean)) 1 21 [vR V.1 35, vI p1, vI p2] rI X (f_X8_isNumber p1 p2 X) := by
  refine kt_of (own := RX8) (lv0 := [(0, vR V.1 35), (1, vI p1), (2, vI p2)]) (by decide) rfl (Nat.le_of_ble_eq_true rfl) rfl (fun C hCl hC hR => ?_)
  subst hCl
  unfold f_X8_isNumber
  refine g_aload_n (q := 0) hC dX8_isNumber_0 rfl rfl rfl ?_
  refine g_getI (k := 4) (kz := 4) hC cf_X8 (at_35 hL) (by decide) rfl (by decide) rfl wf_RX8_25 dX8_isNumber_1 ?_
  refine g_iconst (v := vI 2) hC dX8_isNumber_4 rfl ?_
  refine g_icmp_eq (tgt := 13) hC dX8_isNumber_5 (by decide) ?_ ?_
  · refine g_aload_n (q := 0) hC dX8_isNumber_13 rfl rfl rfl ?_
    refine g_getI (k := 7) (kz := 7) hC cf_X8 (at_35 hL) (by decide) rfl (by decide) rfl wf_RX8_35 dX8_isNumber_14 ?_
    refine g_iload_n (q := 1) hC dX8_isNumber_17 rfl rfl ?_
    refine g_icmp_lt (tgt := 29) hC dX8_isNumber_18 (by decide) ?_ ?_
    · refine g_sub [0] rfl ?_
      exact gB_X8_isNumber_29 hC hR hL  X
    · refine g_aload_n (q := 0) hC dX8_isNumber_21 rfl rfl rfl ?_
      refine g_getI (k := 7) (kz := 7) hC cf_X8 (at_35 hL) (by decide) rfl (by decide) rfl wf_RX8_35 dX8_isNumber_22 ?_
      refine g_iload_n (q := 2) hC dX8_isNumber_25 rfl rfl ?_
      refine g_icmp_le (tgt := 37) hC dX8_isNumber_26 (by decide) ?_ ?_
      · refine g_iconst (v := vI 1) hC dX8_isNumber_37 rfl ?_
        refine g_goto (tgt := 42) hC dX8_isNumber_38 (by decide) ?_
        exact g_zret1 hC hR (by decide) dX8_isNumber_42
      · refine g_sub [0] rfl ?_
        exact gB_X8_isNumber_29 hC hR hL  X
  · refine g_aload_n (q := 0) hC dX8_isNumber_8 rfl rfl rfl ?_
    refine g_callVI (As := []) hC mv_X8_failHere wml_RX8_70 (k_X8_failHere _ V hL X) cf_X8 (at_35 hL) (by decide) ⟨Nat.zero_le _, Nat.zero_le _⟩ rfl rfl ⟨Nat.le_of_ble_eq_true rfl, Nat.le_of_ble_eq_true rfl⟩ (Nat.le_of_ble_eq_true rfl) dX8_isNumber_9 (fun r3 X4 => ?_)
    exact g_zret hC hR dX8_isNumber_12
def f_X8_takeNumber (p1 : Int) (p2 : Int) (X : Mem) : Option (Int × Mem) :=
  cl (f_X8_isNumber p1 p2 X) fun r1 X2 =>
  c1 r1 <| if ¬ r1 = 0 then
    bd (ms X2 35 8 (X2 35 7)) fun X3 =>
    cl (f_X8_advance X3) fun _ X5 =>
    some (1, X5)
  else
    some (0, X2)
set_option maxRecDepth 20000 in
theorem k_X8_takeNumber (l : Launch) (V : Ev) {L : List Kd} (hL : LKc L) (p1 : Int) (p2 : Int) (X : Mem)  : Kt l V L yX8_takeNumber (.code yX8_takeNumber cX8_takeNumber 3 (some .boolean)) 2 43 [vR V.1 35, vI p1, vI p2] rI X (f_X8_takeNumber p1 p2 X) := by
  refine kt_of (own := RX8) (lv0 := [(0, vR V.1 35), (1, vI p1), (2, vI p2)]) (by decide) rfl (Nat.le_of_ble_eq_true rfl) rfl (fun C hCl hC hR => ?_)
  subst hCl
  unfold f_X8_takeNumber
  refine g_aload_n (q := 0) hC dX8_takeNumber_0 rfl rfl rfl ?_
  refine g_iload_n (q := 1) hC dX8_takeNumber_1 rfl rfl ?_
  refine g_iload_n (q := 2) hC dX8_takeNumber_2 rfl rfl ?_
  refine g_callVI (As := [vI p1, vI p2]) hC mv_X8_isNumber wml_RX8_78 (k_X8_isNumber _ V hL p1 p2 X) cf_X8 (at_35 hL) (by decide) ⟨Nat.zero_le _, Nat.zero_le _⟩ rfl rfl ⟨Nat.le_of_ble_eq_true rfl, Nat.le_of_ble_eq_true rfl⟩ (Nat.le_of_ble_eq_true rfl) dX8_takeNumber_3 (fun r1 X2 => ?_)
  refine g_if_ne (tgt := 11) hC dX8_takeNumber_6 (by decide) ?_ ?_
  · refine g_aload_n (q := 0) hC dX8_takeNumber_11 rfl rfl rfl ?_
    refine g_aload_n (q := 0) hC dX8_takeNumber_12 rfl rfl rfl ?_
    refine g_getI (k := 7) (kz := 7) hC cf_X8 (at_35 hL) (by decide) rfl (by decide) rfl wf_RX8_35 dX8_takeNumber_13 ?_
    refine g_putI (k := 8) (kz := 8) hC cf_X8 (at_35 hL) (by decide) rfl (by decide) rfl wf_RX8_38 rfl rfl dX8_takeNumber_16 (fun X3 => ?_)
    refine g_aload_n (q := 0) hC dX8_takeNumber_19 rfl rfl rfl ?_
    refine g_callVV (As := []) hC mv_X8_advance wml_RX8_47 (k_X8_advance _ V hL X3) cf_X8 (at_35 hL) (by decide) ⟨Nat.zero_le _, Nat.zero_le _⟩ rfl rfl ⟨Nat.le_of_ble_eq_true rfl, Nat.le_of_ble_eq_true rfl⟩ (Nat.le_of_ble_eq_true rfl) dX8_takeNumber_20 (fun _ X5 => ?_)
    refine g_iconst (v := vI 1) hC dX8_takeNumber_23 rfl ?_
    exact g_zret1 hC hR (by decide) dX8_takeNumber_24
  · refine g_iconst (v := vI 0) hC dX8_takeNumber_9 rfl ?_
    exact g_zret1 hC hR (by decide) dX8_takeNumber_10
def f_X8_takePair (p1 : Nat) (p2 : Int) (p3 : Int) (X : Mem) : Option (Int × Mem) :=
  cl (f_X8_takeWord p1 X) fun r1 X2 =>
  c1 r1 <| if r1 = 0 then
    some (0, X2)
  else
    cl (f_X8_takeNumber p2 p3 X2) fun r3 X4 =>
    c1 r3 <| if r3 = 0 then
      some (0, X4)
    else
      some (1, X4)
set_option maxRecDepth 20000 in
theorem k_X8_takePair (l : Launch) (V : Ev) {L : List Kd} (hL : LKc L) (p1 : Nat) (p2 : Int) (p3 : Int) (X : Mem) (h1 : p1 < nSt) : Kt l V L yX8_takePair (.code yX8_takePair cX8_takePair 4 (some .boolean)) 7 204 [vR V.1 35, vS V p1, vI p2, vI p3] rI X (f_X8_takePair p1 p2 p3 X) := by
  refine kt_of (own := RX8) (lv0 := [(0, vR V.1 35), (1, vS V p1), (2, vI p2), (3, vI p3)]) (by decide) rfl (Nat.le_of_ble_eq_true rfl) rfl (fun C hCl hC hR => ?_)
  subst hCl
  unfold f_X8_takePair
  refine g_aload_n (q := 0) hC dX8_takePair_0 rfl rfl rfl ?_
  refine g_aload_n (q := 1) hC dX8_takePair_1 rfl rfl rfl ?_
  refine g_callVI (As := [vS V p1]) hC mv_X8_takeWord wml_RX8_82 (k_X8_takeWord _ V hL p1 X h1) cf_X8 (at_35 hL) (by decide) ⟨Nat.zero_le _, Nat.zero_le _⟩ rfl rfl ⟨Nat.le_of_ble_eq_true rfl, Nat.le_of_ble_eq_true rfl⟩ (Nat.le_of_ble_eq_true rfl) dX8_takePair_2 (fun r1 X2 => ?_)
  refine g_if_eq (tgt := 21) hC dX8_takePair_5 (by decide) ?_ ?_
  · refine g_iconst (v := vI 0) hC dX8_takePair_21 rfl ?_
    exact g_zret1 hC hR (by decide) dX8_takePair_22
  · refine g_aload_n (q := 0) hC dX8_takePair_8 rfl rfl rfl ?_
    refine g_iload_n (q := 2) hC dX8_takePair_9 rfl rfl ?_
    refine g_iload_n (q := 3) hC dX8_takePair_10 rfl rfl ?_
    refine g_callVI (As := [vI p2, vI p3]) hC mv_X8_takeNumber wml_RX8_85 (k_X8_takeNumber _ V hL p2 p3 X2) cf_X8 (at_35 hL) (by decide) ⟨Nat.zero_le _, Nat.zero_le _⟩ rfl rfl ⟨Nat.le_of_ble_eq_true rfl, Nat.le_of_ble_eq_true rfl⟩ (Nat.le_of_ble_eq_true rfl) dX8_takePair_11 (fun r3 X4 => ?_)
    refine g_if_eq (tgt := 21) hC dX8_takePair_14 (by decide) ?_ ?_
    · refine g_iconst (v := vI 0) hC dX8_takePair_21 rfl ?_
      exact g_zret1 hC hR (by decide) dX8_takePair_22
    · refine g_iconst (v := vI 1) hC dX8_takePair_17 rfl ?_
      refine g_goto (tgt := 22) hC dX8_takePair_18 (by decide) ?_
      exact g_zret1 hC hR (by decide) dX8_takePair_22
def f_X8_takeSign  (X : Mem) : Option (Int × Mem) :=
  c2 (X 35 4) 3 <| if (X 35 4) = 3 then
    cl (f_X8_advance X) fun _ X2 =>
    some (1, X2)
  else
    cl (f_X8_failHere X) fun r3 X4 =>
    cz r3 (some (r3, X4))
set_option maxRecDepth 20000 in
theorem k_X8_takeSign (l : Launch) (V : Ev) {L : List Kd} (hL : LKc L)  (X : Mem)  : Kt l V L yX8_takeSign (.code yX8_takeSign cX8_takeSign 1 (some .boolean)) 2 41 [vR V.1 35] rI X (f_X8_takeSign  X) := by
  refine kt_of (own := RX8) (lv0 := [(0, vR V.1 35)]) (by decide) rfl (Nat.le_of_ble_eq_true rfl) rfl (fun C hCl hC hR => ?_)
  subst hCl
  unfold f_X8_takeSign
  refine g_aload_n (q := 0) hC dX8_takeSign_0 rfl rfl rfl ?_
  refine g_getI (k := 4) (kz := 4) hC cf_X8 (at_35 hL) (by decide) rfl (by decide) rfl wf_RX8_25 dX8_takeSign_1 ?_
  refine g_iconst (v := vI 3) hC dX8_takeSign_4 rfl ?_
  refine g_icmp_eq (tgt := 13) hC dX8_takeSign_5 (by decide) ?_ ?_
  · refine g_aload_n (q := 0) hC dX8_takeSign_13 rfl rfl rfl ?_
    refine g_callVV (As := []) hC mv_X8_advance wml_RX8_47 (k_X8_advance _ V hL X) cf_X8 (at_35 hL) (by decide) ⟨Nat.zero_le _, Nat.zero_le _⟩ rfl rfl ⟨Nat.le_of_ble_eq_true rfl, Nat.le_of_ble_eq_true rfl⟩ (Nat.le_of_ble_eq_true rfl) dX8_takeSign_14 (fun _ X2 => ?_)
    refine g_iconst (v := vI 1) hC dX8_takeSign_17 rfl ?_
    exact g_zret1 hC hR (by decide) dX8_takeSign_18
  · refine g_aload_n (q := 0) hC dX8_takeSign_8 rfl rfl rfl ?_
    refine g_callVI (As := []) hC mv_X8_failHere wml_RX8_70 (k_X8_failHere _ V hL X) cf_X8 (at_35 hL) (by decide) ⟨Nat.zero_le _, Nat.zero_le _⟩ rfl rfl ⟨Nat.le_of_ble_eq_true rfl, Nat.le_of_ble_eq_true rfl⟩ (Nat.le_of_ble_eq_true rfl) dX8_takeSign_9 (fun r3 X4 => ?_)
    exact g_zret hC hR dX8_takeSign_12
def B_X8_isReserved_59 (go4 : Int → Int → Mem → Option (Int × Mem)) (x1 : Int) (x3 : Int) (X : Mem) : Option (Int × Mem) :=
  go4 x1 (x3 + 1) X
def L_X8_isReserved_4 : Nat → Int → Int → Mem → Option (Int × Mem)
  | 0, _, _, _ => none
  | n + 1, x1, x3, X =>
    c2 x3 (((sB 3).length : Int)) <| if (((sB 3).length : Int)) ≤ x3 then
      some (0, X)
    else
      ax ((sB 3).length : Int) x3 <|
      bd (tl (sB 3) x3) fun v1 =>
      c2 v1 32 <| if v1 = 32 then
        d2 x1 (X 35 6) <| if ¬ x1 = (X 35 6) then
          B_X8_isReserved_59  (fun x1 x3 X => L_X8_isReserved_4   n x1 x3 X) 0 x3 X
        else
          some (1, X)
      else
        c1 ((v1 - 97) + 1) <|
        bd ((x1 * 32) + ((v1 - 97) + 1)) fun v2 =>
        B_X8_isReserved_59  (fun x1 x3 X => L_X8_isReserved_4   n x1 x3 X) v2 x3 X
def f_X8_isReserved  (X : Mem) : Option (Int × Mem) :=
  L_X8_isReserved_4   KF 0 0 X
set_option maxRecDepth 20000 in
theorem gB_X8_isReserved_59 {C : Cx} {V : Ev} {L : List Kd} (hC : Ok C V cX8_isReserved RX8 5 5 160) (hR : Rt C V L (some .boolean) rI) (hL : LKc L) {go4 : Int → Int → Mem → Option (Int × Mem)} (hgo4 : ∀ (x1 : Int) (x3 : Int) (X : Mem), G C V L 0 0 5 4 [(0, vR V.1 35), (1, vJ x1), (3, vI x3)] [] X (go4 x1 x3 X)) (x1 : Int) (x3 : Int) (X : Mem)  : G C V L 0 0 5 59 [(0, vR V.1 35), (1, vJ x1), (3, vI x3)] [] X (B_X8_isReserved_59  go4 x1 x3 X) := by
  unfold B_X8_isReserved_59
  refine g_iinc (q := 2) hC dX8_isReserved_59 rfl (by decide) rfl ?_
  refine g_goto (tgt := 4) hC dX8_isReserved_62 (by decide) ?_
  refine g_sub [1, 2, 0] rfl ?_
  exact hgo4 x1 (x3 + 1) X
set_option maxRecDepth 20000 in
theorem gL_X8_isReserved_4 {C : Cx} {V : Ev} {L : List Kd} (hC : Ok C V cX8_isReserved RX8 5 5 160) (hR : Rt C V L (some .boolean) rI) (hL : LKc L) : ∀ (n : Nat) (x1 : Int) (x3 : Int) (X : Mem), G C V L 0 0 5 4 [(0, vR V.1 35), (1, vJ x1), (3, vI x3)] [] X (L_X8_isReserved_4   n x1 x3 X) := by
  intro n
  induction n with
  | zero => intro x1 x3 X; exact g_none
  | succ n ih =>
    intro x1 x3 X
    rw [L_X8_isReserved_4]
    refine g_iload_n (q := 2) hC dX8_isReserved_4 rfl rfl ?_
    refine g_ldcS (i := 3) hC (by decide) rfl dX8_isReserved_5 ?_
    refine g_slen hC wml_RX8_56 (by decide) (Nat.le_of_ble_eq_true rfl) (Nat.le_of_ble_eq_true rfl) (Nat.le_of_ble_eq_true rfl) dX8_isReserved_7 ?_
    refine g_icmp_ge (tgt := 65) hC dX8_isReserved_10 (by decide) ?_ ?_
    · refine g_iconst (v := vI 0) hC dX8_isReserved_65 rfl ?_
      exact g_zret1 hC hR (by decide) dX8_isReserved_66
    · refine g_ldcS (i := 3) hC (by decide) rfl dX8_isReserved_13 ?_
      refine g_iload_n (q := 2) hC dX8_isReserved_15 rfl rfl ?_
      refine g_schar hC wml_RX8_62 (by decide) (Nat.le_of_ble_eq_true rfl) (Nat.le_of_ble_eq_true rfl) (Nat.le_of_ble_eq_true rfl) dX8_isReserved_16 ?_
      refine g_topI (fun v1 => ?_)
      refine g_istore hC dX8_isReserved_19 (by decide) rfl ?_
      refine g_iload (q := 0) hC dX8_isReserved_21 rfl ?_
      refine g_bipush (v := vI 32) hC dX8_isReserved_23 rfl ?_
      refine g_icmp_eq (tgt := 46) hC dX8_isReserved_25 (by decide) ?_ ?_
      · refine g_lload_n (q := 2) hC dX8_isReserved_46 rfl rfl ?_
        refine g_aload_n (q := 1) hC dX8_isReserved_47 rfl rfl rfl ?_
        refine g_getJ (k := 6) (kz := 6) hC cf_X8 (at_35 hL) (by decide) rfl (by decide) rfl wf_RX8_31 dX8_isReserved_48 ?_
        refine g_lcmp_ne (tgt := 57) hC dX8_isReserved_51 rfl dX8_isReserved_52 (by decide) ?_ ?_
        · refine g_lconst (v := vJ 0) hC dX8_isReserved_57 rfl ?_
          refine g_lstore_n hC dX8_isReserved_58 rfl (by decide) rfl ?_
          refine g_sub [2, 0, 3] rfl ?_
          exact gB_X8_isReserved_59 hC hR hL ih 0 x3 X
        · refine g_iconst (v := vI 1) hC dX8_isReserved_55 rfl ?_
          exact g_zret1 hC hR (by decide) dX8_isReserved_56
      · refine g_lload_n (q := 2) hC dX8_isReserved_28 rfl rfl ?_
        refine g_ldc2 (n := 32) hC wk_RX8_54 rfl dX8_isReserved_29 ?_
        refine g_lmul hC dX8_isReserved_32 ?_
        refine g_iload (q := 0) hC dX8_isReserved_33 rfl ?_
        refine g_bipush (v := vI 97) hC dX8_isReserved_35 rfl ?_
        refine g_isub hC dX8_isReserved_37 ?_
        refine g_iconst (v := vI 1) hC dX8_isReserved_38 rfl ?_
        refine g_iadd hC dX8_isReserved_39 ?_
        refine g_i2l hC dX8_isReserved_40 ?_
        refine g_ladd hC dX8_isReserved_41 ?_
        refine g_topJ (fun v2 => ?_)
        refine g_lstore_n hC dX8_isReserved_42 rfl (by decide) rfl ?_
        refine g_goto (tgt := 59) hC dX8_isReserved_43 (by decide) ?_
        refine g_sub [2, 0, 3] rfl ?_
        exact gB_X8_isReserved_59 hC hR hL ih v2 x3 X
set_option maxRecDepth 20000 in
theorem k_X8_isReserved (l : Launch) (V : Ev) {L : List Kd} (hL : LKc L)  (X : Mem)  : Kt l V L yX8_isReserved (.code yX8_isReserved cX8_isReserved 5 (some .boolean)) 5 160 [vR V.1 35] rI X (f_X8_isReserved  X) := by
  refine kt_of (own := RX8) (lv0 := [(0, vR V.1 35)]) (by decide) rfl (Nat.le_of_ble_eq_true rfl) rfl (fun C hCl hC hR => ?_)
  subst hCl
  unfold f_X8_isReserved
  refine g_lconst (v := vJ 0) hC dX8_isReserved_0 rfl ?_
  refine g_lstore_n hC dX8_isReserved_1 rfl (by decide) rfl ?_
  refine g_iconst (v := vI 0) hC dX8_isReserved_2 rfl ?_
  refine g_istore_n hC dX8_isReserved_3 rfl (by decide) rfl ?_
  refine g_sub [2, 1, 0] rfl ?_
  exact gL_X8_isReserved_4 hC hR hL  KF 0 0 X
def B_X8_isName_24  (X : Mem) : Option (Int × Mem) :=
  cl (f_X8_failHere X) fun r1 X2 =>
  c1 r1 <| if r1 = 0 then
    some (0, X2)
  else
    some (1, X2)
def f_X8_isName  (X : Mem) : Option (Int × Mem) :=
  c2 (X 35 4) 1 <| if ¬ (X 35 4) = 1 then
    B_X8_isName_24   X
  else
    d2 (X 35 6) 0 <| if (X 35 6) = 0 then
      B_X8_isName_24   X
    else
      cl (f_X8_isReserved X) fun r3 X4 =>
      c1 r3 <| if r3 = 0 then
        some (1, X4)
      else
        B_X8_isName_24   X4
set_option maxRecDepth 20000 in
theorem gB_X8_isName_24 {C : Cx} {V : Ev} {L : List Kd} (hC : Ok C V cX8_isName RX8 1 6 184) (hR : Rt C V L (some .boolean) rI) (hL : LKc L)  (X : Mem)  : G C V L 0 0 1 24 [(0, vR V.1 35)] [] X (B_X8_isName_24    X) := by
  unfold B_X8_isName_24
  refine g_aload_n (q := 0) hC dX8_isName_24 rfl rfl rfl ?_
  refine g_callVI (As := []) hC mv_X8_failHere wml_RX8_70 (k_X8_failHere _ V hL X) cf_X8 (at_35 hL) (by decide) ⟨Nat.zero_le _, Nat.zero_le _⟩ rfl rfl ⟨Nat.le_of_ble_eq_true rfl, Nat.le_of_ble_eq_true rfl⟩ (Nat.le_of_ble_eq_true rfl) dX8_isName_25 (fun r1 X2 => ?_)
  refine g_if_eq (tgt := 35) hC dX8_isName_28 (by decide) ?_ ?_
  · refine g_iconst (v := vI 0) hC dX8_isName_35 rfl ?_
    exact g_zret1 hC hR (by decide) dX8_isName_36
  · refine g_iconst (v := vI 1) hC dX8_isName_31 rfl ?_
    refine g_goto (tgt := 36) hC dX8_isName_32 (by decide) ?_
    exact g_zret1 hC hR (by decide) dX8_isName_36
set_option maxRecDepth 20000 in
theorem k_X8_isName (l : Launch) (V : Ev) {L : List Kd} (hL : LKc L)  (X : Mem)  : Kt l V L yX8_isName (.code yX8_isName cX8_isName 1 (some .boolean)) 6 184 [vR V.1 35] rI X (f_X8_isName  X) := by
  refine kt_of (own := RX8) (lv0 := [(0, vR V.1 35)]) (by decide) rfl (Nat.le_of_ble_eq_true rfl) rfl (fun C hCl hC hR => ?_)
  subst hCl
  unfold f_X8_isName
  refine g_aload_n (q := 0) hC dX8_isName_0 rfl rfl rfl ?_
  refine g_getI (k := 4) (kz := 4) hC cf_X8 (at_35 hL) (by decide) rfl (by decide) rfl wf_RX8_25 dX8_isName_1 ?_
  refine g_iconst (v := vI 1) hC dX8_isName_4 rfl ?_
  refine g_icmp_ne (tgt := 24) hC dX8_isName_5 (by decide) ?_ ?_
  · exact gB_X8_isName_24 hC hR hL  X
  · refine g_aload_n (q := 0) hC dX8_isName_8 rfl rfl rfl ?_
    refine g_getJ (k := 6) (kz := 6) hC cf_X8 (at_35 hL) (by decide) rfl (by decide) rfl wf_RX8_31 dX8_isName_9 ?_
    refine g_lconst (v := vJ 0) hC dX8_isName_12 rfl ?_
    refine g_lcmp_eq (tgt := 24) hC dX8_isName_13 rfl dX8_isName_14 (by decide) ?_ ?_
    · exact gB_X8_isName_24 hC hR hL  X
    · refine g_aload_n (q := 0) hC dX8_isName_17 rfl rfl rfl ?_
      refine g_callVI (As := []) hC mv_X8_isReserved wml_RX8_88 (k_X8_isReserved _ V hL X) cf_X8 (at_35 hL) (by decide) ⟨Nat.zero_le _, Nat.zero_le _⟩ rfl rfl ⟨Nat.le_of_ble_eq_true rfl, Nat.le_of_ble_eq_true rfl⟩ (Nat.le_of_ble_eq_true rfl) dX8_isName_18 (fun r3 X4 => ?_)
      refine g_if_eq (tgt := 31) hC dX8_isName_21 (by decide) ?_ ?_
      · refine g_iconst (v := vI 1) hC dX8_isName_31 rfl ?_
        refine g_goto (tgt := 36) hC dX8_isName_32 (by decide) ?_
        exact g_zret1 hC hR (by decide) dX8_isName_36
      · exact gB_X8_isName_24 hC hR hL  X4
def L_X2_barNamed_2 : Nat → Int → Int → Int → Mem → Option (Int × Mem)
  | 0, _, _, _, _ => none
  | n + 1, x0, x1, x3, X =>
    c2 x3 (X x0 2) <| if (X x0 2) ≤ x3 then
      some ((-1), X)
    else
      ax 5 x3 <|
      d2 (X (x0 + 4) x3) x1 <| if ¬ (X (x0 + 4) x3) = x1 then
        L_X2_barNamed_2   n x0 x1 (x3 + 1) X
      else
        some (x3, X)
def f_X2_barNamed (r0 : Int) (p1 : Int) (X : Mem) : Option (Int × Mem) :=
  L_X2_barNamed_2   KF r0 p1 0 X
set_option maxRecDepth 20000 in
theorem gL_X2_barNamed_2 {C : Cx} {V : Ev} {L : List Kd} (hC : Ok C V cX2_barNamed RX2 4 0 0) (hR : Rt C V L (some .int) rI) : ∀ (n : Nat) (x0 : Int) (x1 : Int) (x3 : Int) (X : Mem) (g0 : isRiver L x0), G C V L 0 0 4 2 [(0, vR V.1 x0), (1, vJ x1), (3, vI x3)] [] X (L_X2_barNamed_2   n x0 x1 x3 X) := by
  intro n
  induction n with
  | zero => intro x0 x1 x3 X g0; exact g_none
  | succ n ih =>
    intro x0 x1 x3 X g0
    rw [L_X2_barNamed_2]
    refine g_iload_n (q := 2) hC dX2_barNamed_2 rfl rfl ?_
    refine g_aload_n (q := 0) hC dX2_barNamed_3 rfl rfl rfl ?_
    refine g_getI (k := 2) (kz := 2) hC cf_X2 (rv_0 g0) (by decide) rfl (by decide) rfl wf_RX2_50 dX2_barNamed_4 ?_
    refine g_icmp_ge (tgt := 29) hC dX2_barNamed_7 (by decide) ?_ ?_
    · refine g_iconst (v := vI (-1)) hC dX2_barNamed_29 rfl ?_
      exact g_iret hC hR dX2_barNamed_30
    · refine g_aload_n (q := 0) hC dX2_barNamed_10 rfl rfl rfl ?_
      refine g_getS (k := 14) hC cf_X2 (rv_0 g0) (by decide) rfl (add_nn (rv_0 g0)) (by decide) wf_RX2_21 dX2_barNamed_11 ?_
      refine g_iload_n (q := 2) hC dX2_barNamed_14 rfl rfl ?_
      refine g_lald hC (rv_4 g0) (by decide) dX2_barNamed_15 ?_
      refine g_lload_n (q := 1) hC dX2_barNamed_16 rfl rfl ?_
      refine g_lcmp_ne (tgt := 23) hC dX2_barNamed_17 rfl dX2_barNamed_18 (by decide) ?_ ?_
      · refine g_iinc (q := 2) hC dX2_barNamed_23 rfl (by decide) rfl ?_
        refine g_goto (tgt := 2) hC dX2_barNamed_26 (by decide) ?_
        refine g_sub [1, 2, 0] rfl ?_
        exact ih x0 x1 (x3 + 1) X g0
      · refine g_iload_n (q := 2) hC dX2_barNamed_21 rfl rfl ?_
        exact g_iret hC hR dX2_barNamed_22
set_option maxRecDepth 20000 in
theorem k_X2_barNamed (l : Launch) (V : Ev) {L : List Kd}  (r0 : Int) (p1 : Int) (X : Mem) (h0 : isRiver L r0) : Kt l V L yX2_barNamed (.code yX2_barNamed cX2_barNamed 4 (some .int)) 0 0 [vR V.1 r0, vJ p1] rI X (f_X2_barNamed r0 p1 X) := by
  refine kt_of (own := RX2) (lv0 := [(0, vR V.1 r0), (1, vJ p1)]) (by decide) rfl (Nat.le_of_ble_eq_true rfl) rfl (fun C hCl hC hR => ?_)
  subst hCl
  unfold f_X2_barNamed
  refine g_iconst (v := vI 0) hC dX2_barNamed_0 rfl ?_
  refine g_istore_n hC dX2_barNamed_1 rfl (by decide) rfl ?_
  refine g_sub [1, 2, 0] rfl ?_
  exact gL_X2_barNamed_2 hC hR   KF r0 p1 0 X h0
def f_X2_cellCount (r0 : Int) (X : Mem) : Option (Int × Mem) :=
  some ((X r0 0) * (X r0 1), X)
set_option maxRecDepth 20000 in
theorem k_X2_cellCount (l : Launch) (V : Ev) {L : List Kd}  (r0 : Int) (X : Mem) (h0 : isRiver L r0) : Kt l V L yX2_cellCount (.code yX2_cellCount cX2_cellCount 1 (some .int)) 0 0 [vR V.1 r0] rI X (f_X2_cellCount r0 X) := by
  refine kt_of (own := RX2) (lv0 := [(0, vR V.1 r0)]) (by decide) rfl (Nat.le_of_ble_eq_true rfl) rfl (fun C hCl hC hR => ?_)
  subst hCl
  unfold f_X2_cellCount
  refine g_aload_n (q := 0) hC dX2_cellCount_0 rfl rfl rfl ?_
  refine g_getI (k := 0) (kz := 0) hC cf_X2 (rv_0 h0) (by decide) rfl (by decide) rfl wf_RX2_43 dX2_cellCount_1 ?_
  refine g_aload_n (q := 0) hC dX2_cellCount_4 rfl rfl rfl ?_
  refine g_getI (k := 1) (kz := 1) hC cf_X2 (rv_0 h0) (by decide) rfl (by decide) rfl wf_RX2_47 dX2_cellCount_5 ?_
  refine g_imul hC dX2_cellCount_8 ?_
  exact g_iret hC hR dX2_cellCount_9
def f_X4_add (r0 : Int) (p1 : Int) (X : Mem) : Option (Int × Mem) :=
  bd (X r0 0) fun v1 =>
  c2 v1 60 <| if v1 < 60 then
    ax 60 v1 <| bd (ms X (r0 + 1) v1 p1) fun X2 =>
    ax 60 v1 <| bd (ms X2 (r0 + 2) v1 ((-1))) fun X3 =>
    ax 60 v1 <| bd (ms X3 (r0 + 3) v1 0) fun X4 =>
    ax 60 v1 <| bd (ms X4 (r0 + 4) v1 ((-1))) fun X5 =>
    bd (ms X5 r0 0 ((X5 r0 0) + 1)) fun X6 =>
    some (v1, X6)
  else
    some ((-1), X)
set_option maxRecDepth 20000 in
theorem k_X4_add (l : Launch) (V : Ev) {L : List Kd}  (r0 : Int) (p1 : Int) (X : Mem) (h0 : isRule L r0) : Kt l V L yX4_add (.code yX4_add cX4_add 3 (some .int)) 0 0 [vR V.1 r0, vI p1] rI X (f_X4_add r0 p1 X) := by
  refine kt_of (own := RX4) (lv0 := [(0, vR V.1 r0), (1, vI p1)]) (by decide) rfl (Nat.le_of_ble_eq_true rfl) rfl (fun C hCl hC hR => ?_)
  subst hCl
  unfold f_X4_add
  refine g_aload_n (q := 0) hC dX4_add_0 rfl rfl rfl ?_
  refine g_getI (k := 0) (kz := 0) hC cf_X4 (ru_0 h0) (by decide) rfl (by decide) rfl wf_RX4_9 dX4_add_1 ?_
  refine g_topI (fun v1 => ?_)
  refine g_istore_n hC dX4_add_4 rfl (by decide) rfl ?_
  refine g_iload_n (q := 0) hC dX4_add_5 rfl rfl ?_
  refine g_bipush (v := vI 60) hC dX4_add_6 rfl ?_
  refine g_icmp_lt (tgt := 13) hC dX4_add_8 (by decide) ?_ ?_
  · refine g_aload_n (q := 1) hC dX4_add_13 rfl rfl rfl ?_
    refine g_getS (k := 2) hC cf_X4 (ru_0 h0) (by decide) rfl (add_nn (ru_0 h0)) (by decide) wf_RX4_18 dX4_add_14 ?_
    refine g_iload_n (q := 0) hC dX4_add_17 rfl rfl ?_
    refine g_iload_n (q := 2) hC dX4_add_18 rfl rfl ?_
    refine g_iast hC (ru_1 h0) (by decide) dX4_add_19 (fun X2 => ?_)
    refine g_aload_n (q := 1) hC dX4_add_20 rfl rfl rfl ?_
    refine g_getS (k := 3) hC cf_X4 (ru_0 h0) (by decide) rfl (add_nn (ru_0 h0)) (by decide) wf_RX4_22 dX4_add_21 ?_
    refine g_iload_n (q := 0) hC dX4_add_24 rfl rfl ?_
    refine g_iconst (v := vI (-1)) hC dX4_add_25 rfl ?_
    refine g_iast hC (ru_2 h0) (by decide) dX4_add_26 (fun X3 => ?_)
    refine g_aload_n (q := 1) hC dX4_add_27 rfl rfl rfl ?_
    refine g_getS (k := 4) hC cf_X4 (ru_0 h0) (by decide) rfl (add_nn (ru_0 h0)) (by decide) wf_RX4_25 dX4_add_28 ?_
    refine g_iload_n (q := 0) hC dX4_add_31 rfl rfl ?_
    refine g_iconst (v := vI 0) hC dX4_add_32 rfl ?_
    refine g_iast hC (ru_3 h0) (by decide) dX4_add_33 (fun X4 => ?_)
    refine g_aload_n (q := 1) hC dX4_add_34 rfl rfl rfl ?_
    refine g_getS (k := 5) hC cf_X4 (ru_0 h0) (by decide) rfl (add_nn (ru_0 h0)) (by decide) wf_RX4_28 dX4_add_35 ?_
    refine g_iload_n (q := 0) hC dX4_add_38 rfl rfl ?_
    refine g_iconst (v := vI (-1)) hC dX4_add_39 rfl ?_
    refine g_iast hC (ru_4 h0) (by decide) dX4_add_40 (fun X5 => ?_)
    refine g_aload_n (q := 1) hC dX4_add_41 rfl rfl rfl ?_
    refine g_dup hC dX4_add_42 rfl ?_
    refine g_getI (k := 0) (kz := 0) hC cf_X4 (ru_0 h0) (by decide) rfl (by decide) rfl wf_RX4_9 dX4_add_43 ?_
    refine g_iconst (v := vI 1) hC dX4_add_46 rfl ?_
    refine g_iadd hC dX4_add_47 ?_
    refine g_putI (k := 0) (kz := 0) hC cf_X4 (ru_0 h0) (by decide) rfl (by decide) rfl wf_RX4_9 rfl rfl dX4_add_48 (fun X6 => ?_)
    refine g_iload_n (q := 0) hC dX4_add_51 rfl rfl ?_
    exact g_iret hC hR dX4_add_52
  · refine g_iconst (v := vI (-1)) hC dX4_add_11 rfl ?_
    exact g_iret hC hR dX4_add_12
def B_X2_cellsOf_25 (go4 : Int → Int → Int → Int → Mem → Option (Int × Mem)) (x0 : Int) (x1 : Int) (x2 : Int) (x3 : Int) (X : Mem) : Option (Int × Mem) :=
  go4 x0 x1 x2 (x3 + 1) X
def L_X2_cellsOf_4 : Nat → Int → Int → Int → Int → Mem → Option (Int × Mem)
  | 0, _, _, _, _, _ => none
  | n + 1, x0, x1, x2, x3, X =>
    cl (f_X2_cellCount x0 X) fun r1 X2 =>
    c2 x3 r1 <| if r1 ≤ x3 then
      some (x2, X2)
    else
      ax 60 x3 <|
      c2 (X2 (x0 + 2) x3) x1 <| if ¬ (X2 (x0 + 2) x3) = x1 then
        B_X2_cellsOf_25  (fun x0 x1 x2 x3 X => L_X2_cellsOf_4   n x0 x1 x2 x3 X) x0 x1 x2 x3 X2
      else
        B_X2_cellsOf_25  (fun x0 x1 x2 x3 X => L_X2_cellsOf_4   n x0 x1 x2 x3 X) x0 x1 (x2 + 1) x3 X2
def f_X2_cellsOf (r0 : Int) (p1 : Int) (X : Mem) : Option (Int × Mem) :=
  L_X2_cellsOf_4   KF r0 p1 0 0 X
set_option maxRecDepth 20000 in
theorem gB_X2_cellsOf_25 {C : Cx} {V : Ev} {L : List Kd} (hC : Ok C V cX2_cellsOf RX2 4 1 20) (hR : Rt C V L (some .int) rI) {go4 : Int → Int → Int → Int → Mem → Option (Int × Mem)} (hgo4 : ∀ (x0 : Int) (x1 : Int) (x2 : Int) (x3 : Int) (X : Mem), isRiver L x0 → G C V L 0 0 4 4 [(0, vR V.1 x0), (1, vI x1), (2, vI x2), (3, vI x3)] [] X (go4 x0 x1 x2 x3 X)) (x0 : Int) (x1 : Int) (x2 : Int) (x3 : Int) (X : Mem) (g0 : isRiver L x0) : G C V L 0 0 4 25 [(0, vR V.1 x0), (1, vI x1), (2, vI x2), (3, vI x3)] [] X (B_X2_cellsOf_25  go4 x0 x1 x2 x3 X) := by
  unfold B_X2_cellsOf_25
  refine g_iinc (q := 3) hC dX2_cellsOf_25 rfl (by decide) rfl ?_
  refine g_goto (tgt := 4) hC dX2_cellsOf_28 (by decide) ?_
  refine g_sub [1, 2, 3, 0] rfl ?_
  exact hgo4 x0 x1 x2 (x3 + 1) X g0
set_option maxRecDepth 20000 in
theorem gL_X2_cellsOf_4 {C : Cx} {V : Ev} {L : List Kd} (hC : Ok C V cX2_cellsOf RX2 4 1 20) (hR : Rt C V L (some .int) rI) : ∀ (n : Nat) (x0 : Int) (x1 : Int) (x2 : Int) (x3 : Int) (X : Mem) (g0 : isRiver L x0), G C V L 0 0 4 4 [(0, vR V.1 x0), (1, vI x1), (2, vI x2), (3, vI x3)] [] X (L_X2_cellsOf_4   n x0 x1 x2 x3 X) := by
  intro n
  induction n with
  | zero => intro x0 x1 x2 x3 X g0; exact g_none
  | succ n ih =>
    intro x0 x1 x2 x3 X g0
    rw [L_X2_cellsOf_4]
    refine g_iload_n (q := 3) hC dX2_cellsOf_4 rfl rfl ?_
    refine g_aload_n (q := 0) hC dX2_cellsOf_5 rfl rfl rfl ?_
    refine g_callVI (As := []) hC mv_X2_cellCount wml_RX2_89 (k_X2_cellCount _ V x0 X g0) cf_X2 (rv_0 g0) (by decide) ⟨Nat.zero_le _, Nat.zero_le _⟩ rfl rfl ⟨Nat.le_of_ble_eq_true rfl, Nat.le_of_ble_eq_true rfl⟩ (Nat.le_of_ble_eq_true rfl) dX2_cellsOf_6 (fun r1 X2 => ?_)
    refine g_icmp_ge (tgt := 31) hC dX2_cellsOf_9 (by decide) ?_ ?_
    · refine g_iload_n (q := 2) hC dX2_cellsOf_31 rfl rfl ?_
      exact g_iret hC hR dX2_cellsOf_32
    · refine g_aload_n (q := 0) hC dX2_cellsOf_12 rfl rfl rfl ?_
      refine g_getS (k := 12) hC cf_X2 (rv_0 g0) (by decide) rfl (add_nn (rv_0 g0)) (by decide) wf_RX2_15 dX2_cellsOf_13 ?_
      refine g_iload_n (q := 3) hC dX2_cellsOf_16 rfl rfl ?_
      refine g_iald hC (rv_2 g0) (by decide) dX2_cellsOf_17 ?_
      refine g_iload_n (q := 1) hC dX2_cellsOf_18 rfl rfl ?_
      refine g_icmp_ne (tgt := 25) hC dX2_cellsOf_19 (by decide) ?_ ?_
      · exact gB_X2_cellsOf_25 hC hR  ih x0 x1 x2 x3 X2 g0
      · refine g_iinc (q := 2) hC dX2_cellsOf_22 rfl (by decide) rfl ?_
        refine g_sub [1, 2, 0, 3] rfl ?_
        exact gB_X2_cellsOf_25 hC hR  ih x0 x1 (x2 + 1) x3 X2 g0
set_option maxRecDepth 20000 in
theorem k_X2_cellsOf (l : Launch) (V : Ev) {L : List Kd}  (r0 : Int) (p1 : Int) (X : Mem) (h0 : isRiver L r0) : Kt l V L yX2_cellsOf (.code yX2_cellsOf cX2_cellsOf 4 (some .int)) 1 20 [vR V.1 r0, vI p1] rI X (f_X2_cellsOf r0 p1 X) := by
  refine kt_of (own := RX2) (lv0 := [(0, vR V.1 r0), (1, vI p1)]) (by decide) rfl (Nat.le_of_ble_eq_true rfl) rfl (fun C hCl hC hR => ?_)
  subst hCl
  unfold f_X2_cellsOf
  refine g_iconst (v := vI 0) hC dX2_cellsOf_0 rfl ?_
  refine g_istore_n hC dX2_cellsOf_1 rfl (by decide) rfl ?_
  refine g_iconst (v := vI 0) hC dX2_cellsOf_2 rfl ?_
  refine g_istore_n hC dX2_cellsOf_3 rfl (by decide) rfl ?_
  refine g_sub [2, 3, 1, 0] rfl ?_
  exact gL_X2_cellsOf_4 hC hR   KF r0 p1 0 0 X h0
def f_X2_stageOn (r0 : Int) (p1 : Int) (X : Mem) : Option (Int × Mem) :=
  c1 p1 <| if p1 < 0 then
    some (0, X)
  else
    c2 p1 12 <| if 12 ≤ p1 then
      some (0, X)
    else
      ax 12 p1 <|
      some (X (r0 + 3) p1, X)
set_option maxRecDepth 20000 in
theorem k_X2_stageOn (l : Launch) (V : Ev) {L : List Kd}  (r0 : Int) (p1 : Int) (X : Mem) (h0 : isRiver L r0) : Kt l V L yX2_stageOn (.code yX2_stageOn cX2_stageOn 2 (some .int)) 0 0 [vR V.1 r0, vI p1] rI X (f_X2_stageOn r0 p1 X) := by
  refine kt_of (own := RX2) (lv0 := [(0, vR V.1 r0), (1, vI p1)]) (by decide) rfl (Nat.le_of_ble_eq_true rfl) rfl (fun C hCl hC hR => ?_)
  subst hCl
  unfold f_X2_stageOn
  refine g_iload_n (q := 1) hC dX2_stageOn_0 rfl rfl ?_
  refine g_if_lt (tgt := 19) hC dX2_stageOn_1 (by decide) ?_ ?_
  · refine g_iconst (v := vI 0) hC dX2_stageOn_19 rfl ?_
    exact g_iret hC hR dX2_stageOn_20
  · refine g_iload_n (q := 1) hC dX2_stageOn_4 rfl rfl ?_
    refine g_bipush (v := vI 12) hC dX2_stageOn_5 rfl ?_
    refine g_icmp_ge (tgt := 19) hC dX2_stageOn_7 (by decide) ?_ ?_
    · refine g_iconst (v := vI 0) hC dX2_stageOn_19 rfl ?_
      exact g_iret hC hR dX2_stageOn_20
    · refine g_aload_n (q := 0) hC dX2_stageOn_10 rfl rfl rfl ?_
      refine g_getS (k := 13) hC cf_X2 (rv_0 h0) (by decide) rfl (add_nn (rv_0 h0)) (by decide) wf_RX2_18 dX2_stageOn_11 ?_
      refine g_iload_n (q := 1) hC dX2_stageOn_14 rfl rfl ?_
      refine g_iald hC (rv_3 h0) (by decide) dX2_stageOn_15 ?_
      refine g_goto (tgt := 20) hC dX2_stageOn_16 (by decide) ?_
      exact g_iret hC hR dX2_stageOn_20
def B_X2_depthAt_35 (x0 : Int) (x1 : Int) (x2 : Int) (s0 : Int) (X : Mem) : Option (Int × Mem) :=
  ax 60 x2 <|
  some (((X (x0 + 1) x2) + x1) - s0, X)
def B_X2_depthAt_34 (x0 : Int) (x1 : Int) (x2 : Int) (X : Mem) : Option (Int × Mem) :=
  B_X2_depthAt_35   x0 x1 x2 0 X
def f_X2_depthAt (r0 : Int) (p1 : Int) (p2 : Int) (p3 : Int) (X : Mem) : Option (Int × Mem) :=
  ax 60 p2 <|
  bd (X (r0 + 2) p2) fun v1 =>
  c2 v1 ((-1)) <| if v1 = ((-1)) then
    B_X2_depthAt_34   r0 p1 p2 X
  else
    c2 (ia (ishr p3 v1) 1) 1 <| if ¬ (ia (ishr p3 v1) 1) = 1 then
      B_X2_depthAt_34   r0 p1 p2 X
    else
      ax 5 v1 <|
      B_X2_depthAt_35   r0 p1 p2 (X (r0 + 5) v1) X
set_option maxRecDepth 20000 in
theorem gB_X2_depthAt_35 {C : Cx} {V : Ev} {L : List Kd} (hC : Ok C V cX2_depthAt RX2 6 0 0) (hR : Rt C V L (some .int) rI) (x0 : Int) (x1 : Int) (x2 : Int) (s0 : Int) (X : Mem) (g0 : isRiver L x0) : G C V L 0 0 6 35 [(0, vR V.1 x0), (1, vI x1), (2, vI x2)] [vI s0] X (B_X2_depthAt_35   x0 x1 x2 s0 X) := by
  unfold B_X2_depthAt_35
  refine g_istore hC dX2_depthAt_35 (by decide) rfl ?_
  refine g_aload_n (q := 1) hC dX2_depthAt_37 rfl rfl rfl ?_
  refine g_getS (k := 11) hC cf_X2 (rv_0 g0) (by decide) rfl (add_nn (rv_0 g0)) (by decide) wf_RX2_9 dX2_depthAt_38 ?_
  refine g_iload_n (q := 3) hC dX2_depthAt_41 rfl rfl ?_
  refine g_iald hC (rv_1 g0) (by decide) dX2_depthAt_42 ?_
  refine g_iload_n (q := 2) hC dX2_depthAt_43 rfl rfl ?_
  refine g_iadd hC dX2_depthAt_44 ?_
  refine g_iload (q := 0) hC dX2_depthAt_45 rfl ?_
  refine g_isub hC dX2_depthAt_47 ?_
  exact g_iret hC hR dX2_depthAt_48
set_option maxRecDepth 20000 in
theorem gB_X2_depthAt_34 {C : Cx} {V : Ev} {L : List Kd} (hC : Ok C V cX2_depthAt RX2 6 0 0) (hR : Rt C V L (some .int) rI) (x0 : Int) (x1 : Int) (x2 : Int) (X : Mem) (g0 : isRiver L x0) : G C V L 0 0 6 34 [(0, vR V.1 x0), (1, vI x1), (2, vI x2)] [] X (B_X2_depthAt_34   x0 x1 x2 X) := by
  unfold B_X2_depthAt_34
  refine g_iconst (v := vI 0) hC dX2_depthAt_34 rfl ?_
  exact gB_X2_depthAt_35 hC hR   x0 x1 x2 0 X g0
set_option maxRecDepth 20000 in
theorem k_X2_depthAt (l : Launch) (V : Ev) {L : List Kd}  (r0 : Int) (p1 : Int) (p2 : Int) (p3 : Int) (X : Mem) (h0 : isRiver L r0) : Kt l V L yX2_depthAt (.code yX2_depthAt cX2_depthAt 6 (some .int)) 0 0 [vR V.1 r0, vI p1, vI p2, vI p3] rI X (f_X2_depthAt r0 p1 p2 p3 X) := by
  refine kt_of (own := RX2) (lv0 := [(0, vR V.1 r0), (1, vI p1), (2, vI p2), (3, vI p3)]) (by decide) rfl (Nat.le_of_ble_eq_true rfl) rfl (fun C hCl hC hR => ?_)
  subst hCl
  unfold f_X2_depthAt
  refine g_aload_n (q := 0) hC dX2_depthAt_0 rfl rfl rfl ?_
  refine g_getS (k := 12) hC cf_X2 (rv_0 h0) (by decide) rfl (add_nn (rv_0 h0)) (by decide) wf_RX2_15 dX2_depthAt_1 ?_
  refine g_iload_n (q := 2) hC dX2_depthAt_4 rfl rfl ?_
  refine g_iald hC (rv_2 h0) (by decide) dX2_depthAt_5 ?_
  refine g_topI (fun v1 => ?_)
  refine g_istore hC dX2_depthAt_6 (by decide) rfl ?_
  refine g_iload (q := 0) hC dX2_depthAt_8 rfl ?_
  refine g_iconst (v := vI (-1)) hC dX2_depthAt_10 rfl ?_
  refine g_icmp_eq (tgt := 34) hC dX2_depthAt_11 (by decide) ?_ ?_
  · refine g_sub [1, 2, 3] rfl ?_
    exact gB_X2_depthAt_34 hC hR   r0 p1 p2 X h0
  · refine g_iload_n (q := 4) hC dX2_depthAt_14 rfl rfl ?_
    refine g_iload (q := 0) hC dX2_depthAt_15 rfl ?_
    refine g_ishr hC dX2_depthAt_17 ?_
    refine g_iconst (v := vI 1) hC dX2_depthAt_18 rfl ?_
    refine g_iand hC dX2_depthAt_19 ?_
    refine g_iconst (v := vI 1) hC dX2_depthAt_20 rfl ?_
    refine g_icmp_ne (tgt := 34) hC dX2_depthAt_21 (by decide) ?_ ?_
    · refine g_sub [1, 2, 3] rfl ?_
      exact gB_X2_depthAt_34 hC hR   r0 p1 p2 X h0
    · refine g_aload_n (q := 1) hC dX2_depthAt_24 rfl rfl rfl ?_
      refine g_getS (k := 15) hC cf_X2 (rv_0 h0) (by decide) rfl (add_nn (rv_0 h0)) (by decide) wf_RX2_25 dX2_depthAt_25 ?_
      refine g_iload (q := 0) hC dX2_depthAt_28 rfl ?_
      refine g_iald hC (rv_5 h0) (by decide) dX2_depthAt_30 ?_
      refine g_goto (tgt := 35) hC dX2_depthAt_31 (by decide) ?_
      refine g_sub [1, 2, 3] rfl ?_
      exact gB_X2_depthAt_35 hC hR   r0 p1 p2 (X (r0 + 5) v1) X h0
def B_X2_likelyRead_26 (x0 : Int) (X : Mem) : Option (Int × Mem) :=
  some (16 - (X x0 9), X)
def f_X2_likelyRead (r0 : Int) (p1 : Int) (p2 : Int) (X : Mem) : Option (Int × Mem) :=
  c2 p1 p2 <| if ¬ p1 = p2 then
    c2 p1 (p2 + 1) <| if p1 = (p2 + 1) then
      B_X2_likelyRead_26   r0 X
    else
      c2 p1 (p2 - 1) <| if ¬ p1 = (p2 - 1) then
        some (0, X)
      else
        B_X2_likelyRead_26   r0 X
  else
    some (2 * (X r0 9), X)
set_option maxRecDepth 20000 in
theorem gB_X2_likelyRead_26 {C : Cx} {V : Ev} {L : List Kd} (hC : Ok C V cX2_likelyRead RX2 3 0 0) (hR : Rt C V L (some .int) rI) (x0 : Int) (X : Mem) (g0 : isRiver L x0) : G C V L 0 0 3 26 [(0, vR V.1 x0)] [] X (B_X2_likelyRead_26   x0 X) := by
  unfold B_X2_likelyRead_26
  refine g_bipush (v := vI 16) hC dX2_likelyRead_26 rfl ?_
  refine g_aload_n (q := 0) hC dX2_likelyRead_28 rfl rfl rfl ?_
  refine g_getI (k := 9) (kz := 9) hC cf_X2 (rv_0 g0) (by decide) rfl (by decide) rfl wf_RX2_71 dX2_likelyRead_29 ?_
  refine g_isub hC dX2_likelyRead_32 ?_
  refine g_goto (tgt := 37) hC dX2_likelyRead_33 (by decide) ?_
  exact g_iret hC hR dX2_likelyRead_37
set_option maxRecDepth 20000 in
theorem k_X2_likelyRead (l : Launch) (V : Ev) {L : List Kd}  (r0 : Int) (p1 : Int) (p2 : Int) (X : Mem) (h0 : isRiver L r0) : Kt l V L yX2_likelyRead (.code yX2_likelyRead cX2_likelyRead 3 (some .int)) 0 0 [vR V.1 r0, vI p1, vI p2] rI X (f_X2_likelyRead r0 p1 p2 X) := by
  refine kt_of (own := RX2) (lv0 := [(0, vR V.1 r0), (1, vI p1), (2, vI p2)]) (by decide) rfl (Nat.le_of_ble_eq_true rfl) rfl (fun C hCl hC hR => ?_)
  subst hCl
  unfold f_X2_likelyRead
  refine g_iload_n (q := 1) hC dX2_likelyRead_0 rfl rfl ?_
  refine g_iload_n (q := 2) hC dX2_likelyRead_1 rfl rfl ?_
  refine g_icmp_ne (tgt := 12) hC dX2_likelyRead_2 (by decide) ?_ ?_
  · refine g_iload_n (q := 1) hC dX2_likelyRead_12 rfl rfl ?_
    refine g_iload_n (q := 2) hC dX2_likelyRead_13 rfl rfl ?_
    refine g_iconst (v := vI 1) hC dX2_likelyRead_14 rfl ?_
    refine g_iadd hC dX2_likelyRead_15 ?_
    refine g_icmp_eq (tgt := 26) hC dX2_likelyRead_16 (by decide) ?_ ?_
    · refine g_sub [0] rfl ?_
      exact gB_X2_likelyRead_26 hC hR   r0 X h0
    · refine g_iload_n (q := 1) hC dX2_likelyRead_19 rfl rfl ?_
      refine g_iload_n (q := 2) hC dX2_likelyRead_20 rfl rfl ?_
      refine g_iconst (v := vI 1) hC dX2_likelyRead_21 rfl ?_
      refine g_isub hC dX2_likelyRead_22 ?_
      refine g_icmp_ne (tgt := 36) hC dX2_likelyRead_23 (by decide) ?_ ?_
      · refine g_iconst (v := vI 0) hC dX2_likelyRead_36 rfl ?_
        exact g_iret hC hR dX2_likelyRead_37
      · refine g_sub [0] rfl ?_
        exact gB_X2_likelyRead_26 hC hR   r0 X h0
  · refine g_iconst (v := vI 2) hC dX2_likelyRead_5 rfl ?_
    refine g_aload_n (q := 0) hC dX2_likelyRead_6 rfl rfl rfl ?_
    refine g_getI (k := 9) (kz := 9) hC cf_X2 (rv_0 h0) (by decide) rfl (by decide) rfl wf_RX2_71 dX2_likelyRead_7 ?_
    refine g_imul hC dX2_likelyRead_10 ?_
    exact g_iret hC hR dX2_likelyRead_11
def f_X2_beside (r0 : Int) (p1 : Int) (p2 : Int) (X : Mem) : Option (Int × Mem) :=
  c1 (X r0 0) <| if 0 < (X r0 0) then
    cd p1 (X r0 0) <|
    ax 8 (ia p2 7) <|
    bd ((p1 % (X r0 0)) + (tl (tRow.getD 0 []) (ia p2 7))) fun v1 =>
    cd p1 (X r0 0) <|
    ax 8 (ia p2 7) <|
    bd ((p1 / (X r0 0)) + (tl (tRow.getD 1 []) (ia p2 7))) fun v2 =>
    c1 v1 <| if v1 < 0 then
      some ((-1), X)
    else
      c2 v1 (X r0 0) <| if (X r0 0) ≤ v1 then
        some ((-1), X)
      else
        c1 v2 <| if v2 < 0 then
          some ((-1), X)
        else
          c2 v2 (X r0 1) <| if (X r0 1) ≤ v2 then
            some ((-1), X)
          else
            some ((v2 * (X r0 0)) + v1, X)
  else
    some ((-1), X)
set_option maxRecDepth 20000 in
theorem k_X2_beside (l : Launch) (V : Ev) {L : List Kd}  (r0 : Int) (p1 : Int) (p2 : Int) (X : Mem) (h0 : isRiver L r0) : Kt l V L yX2_beside (.code yX2_beside cX2_beside 5 (some .int)) 0 0 [vR V.1 r0, vI p1, vI p2] rI X (f_X2_beside r0 p1 p2 X) := by
  refine kt_of (own := RX2) (lv0 := [(0, vR V.1 r0), (1, vI p1), (2, vI p2)]) (by decide) rfl (Nat.le_of_ble_eq_true rfl) rfl (fun C hCl hC hR => ?_)
  subst hCl
  unfold f_X2_beside
  refine g_aload_n (q := 0) hC dX2_beside_0 rfl rfl rfl ?_
  refine g_getI (k := 0) (kz := 0) hC cf_X2 (rv_0 h0) (by decide) rfl (by decide) rfl wf_RX2_43 dX2_beside_1 ?_
  refine g_if_gt (tgt := 9) hC dX2_beside_4 (by decide) ?_ ?_
  · refine g_iload_n (q := 1) hC dX2_beside_9 rfl rfl ?_
    refine g_aload_n (q := 0) hC dX2_beside_10 rfl rfl rfl ?_
    refine g_getI (k := 0) (kz := 0) hC cf_X2 (rv_0 h0) (by decide) rfl (by decide) rfl wf_RX2_43 dX2_beside_11 ?_
    refine g_irem hC dX2_beside_14 ?_
    refine g_getT (t := 0) hC (by decide) rfl wf_RX2_93 dX2_beside_15 ?_
    refine g_iload_n (q := 2) hC dX2_beside_18 rfl rfl ?_
    refine g_bipush (v := vI 7) hC dX2_beside_19 rfl ?_
    refine g_iand hC dX2_beside_21 ?_
    refine g_tald hC (by decide) dX2_beside_22 ?_
    refine g_iadd hC dX2_beside_23 ?_
    refine g_topI (fun v1 => ?_)
    refine g_istore_n hC dX2_beside_24 rfl (by decide) rfl ?_
    refine g_iload_n (q := 2) hC dX2_beside_25 rfl rfl ?_
    refine g_aload_n (q := 1) hC dX2_beside_26 rfl rfl rfl ?_
    refine g_getI (k := 0) (kz := 0) hC cf_X2 (rv_0 h0) (by decide) rfl (by decide) rfl wf_RX2_43 dX2_beside_27 ?_
    refine g_idiv hC dX2_beside_30 ?_
    refine g_getT (t := 1) hC (by decide) rfl wf_RX2_96 dX2_beside_31 ?_
    refine g_iload_n (q := 3) hC dX2_beside_34 rfl rfl ?_
    refine g_bipush (v := vI 7) hC dX2_beside_35 rfl ?_
    refine g_iand hC dX2_beside_37 ?_
    refine g_tald hC (by decide) dX2_beside_38 ?_
    refine g_iadd hC dX2_beside_39 ?_
    refine g_topI (fun v2 => ?_)
    refine g_istore hC dX2_beside_40 (by decide) rfl ?_
    refine g_iload_n (q := 1) hC dX2_beside_42 rfl rfl ?_
    refine g_if_lt (tgt := 80) hC dX2_beside_43 (by decide) ?_ ?_
    · refine g_iconst (v := vI (-1)) hC dX2_beside_80 rfl ?_
      exact g_iret hC hR dX2_beside_81
    · refine g_iload_n (q := 1) hC dX2_beside_46 rfl rfl ?_
      refine g_aload_n (q := 2) hC dX2_beside_47 rfl rfl rfl ?_
      refine g_getI (k := 0) (kz := 0) hC cf_X2 (rv_0 h0) (by decide) rfl (by decide) rfl wf_RX2_43 dX2_beside_48 ?_
      refine g_icmp_ge (tgt := 80) hC dX2_beside_51 (by decide) ?_ ?_
      · refine g_iconst (v := vI (-1)) hC dX2_beside_80 rfl ?_
        exact g_iret hC hR dX2_beside_81
      · refine g_iload (q := 0) hC dX2_beside_54 rfl ?_
        refine g_if_lt (tgt := 80) hC dX2_beside_56 (by decide) ?_ ?_
        · refine g_iconst (v := vI (-1)) hC dX2_beside_80 rfl ?_
          exact g_iret hC hR dX2_beside_81
        · refine g_iload (q := 0) hC dX2_beside_59 rfl ?_
          refine g_aload_n (q := 2) hC dX2_beside_61 rfl rfl rfl ?_
          refine g_getI (k := 1) (kz := 1) hC cf_X2 (rv_0 h0) (by decide) rfl (by decide) rfl wf_RX2_47 dX2_beside_62 ?_
          refine g_icmp_ge (tgt := 80) hC dX2_beside_65 (by decide) ?_ ?_
          · refine g_iconst (v := vI (-1)) hC dX2_beside_80 rfl ?_
            exact g_iret hC hR dX2_beside_81
          · refine g_iload (q := 0) hC dX2_beside_68 rfl ?_
            refine g_aload_n (q := 2) hC dX2_beside_70 rfl rfl rfl ?_
            refine g_getI (k := 0) (kz := 0) hC cf_X2 (rv_0 h0) (by decide) rfl (by decide) rfl wf_RX2_43 dX2_beside_71 ?_
            refine g_imul hC dX2_beside_74 ?_
            refine g_iload_n (q := 1) hC dX2_beside_75 rfl rfl ?_
            refine g_iadd hC dX2_beside_76 ?_
            refine g_goto (tgt := 81) hC dX2_beside_77 (by decide) ?_
            exact g_iret hC hR dX2_beside_81
  · refine g_iconst (v := vI (-1)) hC dX2_beside_7 rfl ?_
    exact g_iret hC hR dX2_beside_8
def B_X2_headingTo_36 (go3 : Int → Int → Int → Int → Mem → Option (Int × Mem)) (x0 : Int) (x1 : Int) (x2 : Int) (x4 : Int) (X : Mem) : Option (Int × Mem) :=
  go3 x0 x1 x2 (x4 + 1) X
def L_X2_headingTo_3 : Nat → Int → Int → Int → Int → Mem → Option (Int × Mem)
  | 0, _, _, _, _, _ => none
  | n + 1, x0, x1, x2, x4, X =>
    c2 x4 8 <| if 8 ≤ x4 then
      some ((-1), X)
    else
      cl (f_X2_beside x0 x1 x4 X) fun r1 X2 =>
      c2 r1 ((-1)) <| if r1 = ((-1)) then
        B_X2_headingTo_36  (fun x0 x1 x2 x4 X => L_X2_headingTo_3   n x0 x1 x2 x4 X) x0 x1 x2 x4 X2
      else
        c1 r1 <|
        d2 r1 x2 <| if ¬ r1 = x2 then
          B_X2_headingTo_36  (fun x0 x1 x2 x4 X => L_X2_headingTo_3   n x0 x1 x2 x4 X) x0 x1 x2 x4 X2
        else
          some (x4, X2)
def f_X2_headingTo (r0 : Int) (p1 : Int) (p2 : Int) (X : Mem) : Option (Int × Mem) :=
  L_X2_headingTo_3   KF r0 p1 p2 0 X
set_option maxRecDepth 20000 in
theorem gB_X2_headingTo_36 {C : Cx} {V : Ev} {L : List Kd} (hC : Ok C V cX2_headingTo RX2 6 1 24) (hR : Rt C V L (some .int) rI) {go3 : Int → Int → Int → Int → Mem → Option (Int × Mem)} (hgo3 : ∀ (x0 : Int) (x1 : Int) (x2 : Int) (x4 : Int) (X : Mem), isRiver L x0 → G C V L 0 0 6 3 [(0, vR V.1 x0), (1, vI x1), (2, vJ x2), (4, vI x4)] [] X (go3 x0 x1 x2 x4 X)) (x0 : Int) (x1 : Int) (x2 : Int) (x4 : Int) (X : Mem) (g0 : isRiver L x0) : G C V L 0 0 6 36 [(0, vR V.1 x0), (1, vI x1), (2, vJ x2), (4, vI x4)] [] X (B_X2_headingTo_36  go3 x0 x1 x2 x4 X) := by
  unfold B_X2_headingTo_36
  refine g_iinc (q := 3) hC dX2_headingTo_36 rfl (by decide) rfl ?_
  refine g_goto (tgt := 3) hC dX2_headingTo_39 (by decide) ?_
  refine g_sub [1, 2, 3, 0] rfl ?_
  exact hgo3 x0 x1 x2 (x4 + 1) X g0
set_option maxRecDepth 20000 in
theorem gL_X2_headingTo_3 {C : Cx} {V : Ev} {L : List Kd} (hC : Ok C V cX2_headingTo RX2 6 1 24) (hR : Rt C V L (some .int) rI) : ∀ (n : Nat) (x0 : Int) (x1 : Int) (x2 : Int) (x4 : Int) (X : Mem) (g0 : isRiver L x0), G C V L 0 0 6 3 [(0, vR V.1 x0), (1, vI x1), (2, vJ x2), (4, vI x4)] [] X (L_X2_headingTo_3   n x0 x1 x2 x4 X) := by
  intro n
  induction n with
  | zero => intro x0 x1 x2 x4 X g0; exact g_none
  | succ n ih =>
    intro x0 x1 x2 x4 X g0
    rw [L_X2_headingTo_3]
    refine g_iload (q := 3) hC dX2_headingTo_3 rfl ?_
    refine g_bipush (v := vI 8) hC dX2_headingTo_5 rfl ?_
    refine g_icmp_ge (tgt := 42) hC dX2_headingTo_7 (by decide) ?_ ?_
    · refine g_iconst (v := vI (-1)) hC dX2_headingTo_42 rfl ?_
      exact g_iret hC hR dX2_headingTo_43
    · refine g_aload_n (q := 0) hC dX2_headingTo_10 rfl rfl rfl ?_
      refine g_iload_n (q := 1) hC dX2_headingTo_11 rfl rfl ?_
      refine g_iload (q := 3) hC dX2_headingTo_12 rfl ?_
      refine g_callVI (As := [vI x1, vI x4]) hC mv_X2_beside wml_RX2_99 (k_X2_beside _ V x0 x1 x4 X g0) cf_X2 (rv_0 g0) (by decide) ⟨Nat.zero_le _, Nat.zero_le _⟩ rfl rfl ⟨Nat.le_of_ble_eq_true rfl, Nat.le_of_ble_eq_true rfl⟩ (Nat.le_of_ble_eq_true rfl) dX2_headingTo_14 (fun r1 X2 => ?_)
      refine g_istore hC dX2_headingTo_17 (by decide) rfl ?_
      refine g_iload (q := 0) hC dX2_headingTo_19 rfl ?_
      refine g_iconst (v := vI (-1)) hC dX2_headingTo_21 rfl ?_
      refine g_icmp_eq (tgt := 36) hC dX2_headingTo_22 (by decide) ?_ ?_
      · refine g_sub [1, 2, 3, 4] rfl ?_
        exact gB_X2_headingTo_36 hC hR  ih x0 x1 x2 x4 X2 g0
      · refine g_iload (q := 0) hC dX2_headingTo_25 rfl ?_
        refine g_i2l hC dX2_headingTo_27 ?_
        refine g_lload_n (q := 3) hC dX2_headingTo_28 rfl rfl ?_
        refine g_lcmp_ne (tgt := 36) hC dX2_headingTo_29 rfl dX2_headingTo_30 (by decide) ?_ ?_
        · refine g_sub [1, 2, 3, 4] rfl ?_
          exact gB_X2_headingTo_36 hC hR  ih x0 x1 x2 x4 X2 g0
        · refine g_iload (q := 4) hC dX2_headingTo_33 rfl ?_
          exact g_iret hC hR dX2_headingTo_35
set_option maxRecDepth 20000 in
theorem k_X2_headingTo (l : Launch) (V : Ev) {L : List Kd}  (r0 : Int) (p1 : Int) (p2 : Int) (X : Mem) (h0 : isRiver L r0) : Kt l V L yX2_headingTo (.code yX2_headingTo cX2_headingTo 6 (some .int)) 1 24 [vR V.1 r0, vI p1, vJ p2] rI X (f_X2_headingTo r0 p1 p2 X) := by
  refine kt_of (own := RX2) (lv0 := [(0, vR V.1 r0), (1, vI p1), (2, vJ p2)]) (by decide) rfl (Nat.le_of_ble_eq_true rfl) rfl (fun C hCl hC hR => ?_)
  subst hCl
  unfold f_X2_headingTo
  refine g_iconst (v := vI 0) hC dX2_headingTo_0 rfl ?_
  refine g_istore hC dX2_headingTo_1 (by decide) rfl ?_
  refine g_sub [1, 2, 3, 0] rfl ?_
  exact gL_X2_headingTo_3 hC hR   KF r0 p1 p2 0 X h0
def B_X2_isWay_52 (go2 : Int → Int → Int → Int → Mem → Option (Int × Mem)) (x0 : Int) (x1 : Int) (x2 : Int) (x3 : Int) (X : Mem) : Option (Int × Mem) :=
  go2 x0 x1 x2 (x3 + 1) X
def L_X2_isWay_2 : Nat → Int → Int → Int → Int → Mem → Option (Int × Mem)
  | 0, _, _, _, _, _ => none
  | n + 1, x0, x1, x2, x3, X =>
    c2 x3 x2 <| if x2 ≤ x3 then
      some (1, X)
    else
      ax 60 x3 <|
      d2 (X x1 x3) 0 <| if (X x1 x3) < 0 then
        some (0, X)
      else
        ax 60 x3 <|
        cl (f_X2_cellCount x0 X) fun r1 X2 =>
        c1 r1 <|
        d2 (X x1 x3) r1 <| if (X x1 x3) < r1 then
          c1 x3 <| if x3 ≤ 0 then
            B_X2_isWay_52  (fun x0 x1 x2 x3 X => L_X2_isWay_2   n x0 x1 x2 x3 X) x0 x1 x2 x3 X2
          else
            ax 60 (x3 - 1) <|
            ax 60 x3 <|
            cl (f_X2_headingTo x0 (X2 x1 (x3 - 1)) (X2 x1 x3) X2) fun r3 X4 =>
            c2 r3 ((-1)) <| if ¬ r3 = ((-1)) then
              B_X2_isWay_52  (fun x0 x1 x2 x3 X => L_X2_isWay_2   n x0 x1 x2 x3 X) x0 x1 x2 x3 X4
            else
              some (0, X4)
        else
          some (0, X2)
def f_X2_isWay (r0 : Int) (p1 : Int) (p2 : Int) (X : Mem) : Option (Int × Mem) :=
  L_X2_isWay_2   KF r0 p1 p2 0 X
set_option maxRecDepth 20000 in
theorem gB_X2_isWay_52 {C : Cx} {V : Ev} {L : List Kd} (hC : Ok C V cX2_isWay RX2 4 2 49) (hR : Rt C V L (some .boolean) rI) {go2 : Int → Int → Int → Int → Mem → Option (Int × Mem)} (hgo2 : ∀ (x0 : Int) (x1 : Int) (x2 : Int) (x3 : Int) (X : Mem), isRiver L x0 → At L x1 (101, [60]) → G C V L 0 0 4 2 [(0, vR V.1 x0), (1, vR V.1 x1), (2, vI x2), (3, vI x3)] [] X (go2 x0 x1 x2 x3 X)) (x0 : Int) (x1 : Int) (x2 : Int) (x3 : Int) (X : Mem) (g0 : isRiver L x0) (g1 : At L x1 (101, [60])) : G C V L 0 0 4 52 [(0, vR V.1 x0), (1, vR V.1 x1), (2, vI x2), (3, vI x3)] [] X (B_X2_isWay_52  go2 x0 x1 x2 x3 X) := by
  unfold B_X2_isWay_52
  refine g_iinc (q := 3) hC dX2_isWay_52 rfl (by decide) rfl ?_
  refine g_goto (tgt := 2) hC dX2_isWay_55 (by decide) ?_
  refine g_sub [1, 2, 3, 0] rfl ?_
  exact hgo2 x0 x1 x2 (x3 + 1) X g0 g1
set_option maxRecDepth 20000 in
theorem gL_X2_isWay_2 {C : Cx} {V : Ev} {L : List Kd} (hC : Ok C V cX2_isWay RX2 4 2 49) (hR : Rt C V L (some .boolean) rI) : ∀ (n : Nat) (x0 : Int) (x1 : Int) (x2 : Int) (x3 : Int) (X : Mem) (g0 : isRiver L x0) (g1 : At L x1 (101, [60])), G C V L 0 0 4 2 [(0, vR V.1 x0), (1, vR V.1 x1), (2, vI x2), (3, vI x3)] [] X (L_X2_isWay_2   n x0 x1 x2 x3 X) := by
  intro n
  induction n with
  | zero => intro x0 x1 x2 x3 X g0 g1; exact g_none
  | succ n ih =>
    intro x0 x1 x2 x3 X g0 g1
    rw [L_X2_isWay_2]
    refine g_iload_n (q := 3) hC dX2_isWay_2 rfl rfl ?_
    refine g_iload_n (q := 2) hC dX2_isWay_3 rfl rfl ?_
    refine g_icmp_ge (tgt := 58) hC dX2_isWay_4 (by decide) ?_ ?_
    · refine g_iconst (v := vI 1) hC dX2_isWay_58 rfl ?_
      exact g_zret1 hC hR (by decide) dX2_isWay_59
    · refine g_aload_n (q := 1) hC dX2_isWay_7 rfl rfl rfl ?_
      refine g_iload_n (q := 3) hC dX2_isWay_8 rfl rfl ?_
      refine g_lald hC g1 (by decide) dX2_isWay_9 ?_
      refine g_lconst (v := vJ 0) hC dX2_isWay_10 rfl ?_
      refine g_lcmp_lt (tgt := 27) hC dX2_isWay_11 rfl dX2_isWay_12 (by decide) ?_ ?_
      · refine g_iconst (v := vI 0) hC dX2_isWay_27 rfl ?_
        exact g_zret1 hC hR (by decide) dX2_isWay_28
      · refine g_aload_n (q := 1) hC dX2_isWay_15 rfl rfl rfl ?_
        refine g_iload_n (q := 3) hC dX2_isWay_16 rfl rfl ?_
        refine g_lald hC g1 (by decide) dX2_isWay_17 ?_
        refine g_aload_n (q := 0) hC dX2_isWay_18 rfl rfl rfl ?_
        refine g_callVI (As := []) hC mv_X2_cellCount wml_RX2_89 (k_X2_cellCount _ V x0 X g0) cf_X2 (rv_0 g0) (by decide) ⟨Nat.zero_le _, Nat.zero_le _⟩ rfl rfl ⟨Nat.le_of_ble_eq_true rfl, Nat.le_of_ble_eq_true rfl⟩ (Nat.le_of_ble_eq_true rfl) dX2_isWay_19 (fun r1 X2 => ?_)
        refine g_i2l hC dX2_isWay_22 ?_
        refine g_lcmp_lt (tgt := 29) hC dX2_isWay_23 rfl dX2_isWay_24 (by decide) ?_ ?_
        · refine g_iload_n (q := 3) hC dX2_isWay_29 rfl rfl ?_
          refine g_if_le (tgt := 52) hC dX2_isWay_30 (by decide) ?_ ?_
          · exact gB_X2_isWay_52 hC hR  ih x0 x1 x2 x3 X2 g0 g1
          · refine g_aload_n (q := 0) hC dX2_isWay_33 rfl rfl rfl ?_
            refine g_aload_n (q := 1) hC dX2_isWay_34 rfl rfl rfl ?_
            refine g_iload_n (q := 3) hC dX2_isWay_35 rfl rfl ?_
            refine g_iconst (v := vI 1) hC dX2_isWay_36 rfl ?_
            refine g_isub hC dX2_isWay_37 ?_
            refine g_lald hC g1 (by decide) dX2_isWay_38 ?_
            refine g_l2i hC dX2_isWay_39 ?_
            refine g_aload_n (q := 1) hC dX2_isWay_40 rfl rfl rfl ?_
            refine g_iload_n (q := 3) hC dX2_isWay_41 rfl rfl ?_
            refine g_lald hC g1 (by decide) dX2_isWay_42 ?_
            refine g_callVI (As := [vI (X2 x1 (x3 - 1)), vJ (X2 x1 x3)]) hC mv_X2_headingTo wml_RX2_103 (k_X2_headingTo _ V x0 (X2 x1 (x3 - 1)) (X2 x1 x3) X2 g0) cf_X2 (rv_0 g0) (by decide) ⟨Nat.zero_le _, Nat.zero_le _⟩ rfl rfl ⟨Nat.le_of_ble_eq_true rfl, Nat.le_of_ble_eq_true rfl⟩ (Nat.le_of_ble_eq_true rfl) dX2_isWay_43 (fun r3 X4 => ?_)
            refine g_iconst (v := vI (-1)) hC dX2_isWay_46 rfl ?_
            refine g_icmp_ne (tgt := 52) hC dX2_isWay_47 (by decide) ?_ ?_
            · exact gB_X2_isWay_52 hC hR  ih x0 x1 x2 x3 X4 g0 g1
            · refine g_iconst (v := vI 0) hC dX2_isWay_50 rfl ?_
              exact g_zret1 hC hR (by decide) dX2_isWay_51
        · refine g_iconst (v := vI 0) hC dX2_isWay_27 rfl ?_
          exact g_zret1 hC hR (by decide) dX2_isWay_28
set_option maxRecDepth 20000 in
theorem k_X2_isWay (l : Launch) (V : Ev) {L : List Kd}  (r0 : Int) (p1 : Int) (p2 : Int) (X : Mem) (h0 : isRiver L r0) (h1 : At L p1 (101, [60])) : Kt l V L yX2_isWay (.code yX2_isWay cX2_isWay 4 (some .boolean)) 2 49 [vR V.1 r0, vR V.1 p1, vI p2] rI X (f_X2_isWay r0 p1 p2 X) := by
  refine kt_of (own := RX2) (lv0 := [(0, vR V.1 r0), (1, vR V.1 p1), (2, vI p2)]) (by decide) rfl (Nat.le_of_ble_eq_true rfl) rfl (fun C hCl hC hR => ?_)
  subst hCl
  unfold f_X2_isWay
  refine g_iconst (v := vI 0) hC dX2_isWay_0 rfl ?_
  refine g_istore_n hC dX2_isWay_1 rfl (by decide) rfl ?_
  refine g_sub [1, 2, 3, 0] rfl ?_
  exact gL_X2_isWay_2 hC hR   KF r0 p1 p2 0 X h0 h1
def f_X2_stepMinutes (r0 : Int) (p1 : Int) (X : Mem) : Option (Int × Mem) :=
  c1 (ia p1 1) <| if ¬ (ia p1 1) = 0 then
    some (X r0 6, X)
  else
    some (X r0 5, X)
set_option maxRecDepth 20000 in
theorem k_X2_stepMinutes (l : Launch) (V : Ev) {L : List Kd}  (r0 : Int) (p1 : Int) (X : Mem) (h0 : isRiver L r0) : Kt l V L yX2_stepMinutes (.code yX2_stepMinutes cX2_stepMinutes 2 (some .int)) 0 0 [vR V.1 r0, vI p1] rI X (f_X2_stepMinutes r0 p1 X) := by
  refine kt_of (own := RX2) (lv0 := [(0, vR V.1 r0), (1, vI p1)]) (by decide) rfl (Nat.le_of_ble_eq_true rfl) rfl (fun C hCl hC hR => ?_)
  subst hCl
  unfold f_X2_stepMinutes
  refine g_iload_n (q := 1) hC dX2_stepMinutes_0 rfl rfl ?_
  refine g_iconst (v := vI 1) hC dX2_stepMinutes_1 rfl ?_
  refine g_iand hC dX2_stepMinutes_2 ?_
  refine g_if_ne (tgt := 13) hC dX2_stepMinutes_3 (by decide) ?_ ?_
  · refine g_aload_n (q := 0) hC dX2_stepMinutes_13 rfl rfl rfl ?_
    refine g_getI (k := 6) (kz := 6) hC cf_X2 (rv_0 h0) (by decide) rfl (by decide) rfl wf_RX2_62 dX2_stepMinutes_14 ?_
    exact g_iret hC hR dX2_stepMinutes_17
  · refine g_aload_n (q := 0) hC dX2_stepMinutes_6 rfl rfl rfl ?_
    refine g_getI (k := 5) (kz := 5) hC cf_X2 (rv_0 h0) (by decide) rfl (by decide) rfl wf_RX2_59 dX2_stepMinutes_7 ?_
    refine g_goto (tgt := 17) hC dX2_stepMinutes_10 (by decide) ?_
    exact g_iret hC hR dX2_stepMinutes_17
def B_X2_turnMinutes_31 (s0 : Int) (s1 : Int) (X : Mem) : Option (Int × Mem) :=
  some (s1 * s0, X)
def f_X2_turnMinutes (r0 : Int) (p1 : Int) (p2 : Int) (X : Mem) : Option (Int × Mem) :=
  c2 p1 ((-1)) <| if ¬ p1 = ((-1)) then
    bd (ia (p2 - p1) 7) fun v1 =>
    c2 v1 4 <| if v1 ≤ 4 then
      B_X2_turnMinutes_31   v1 (X r0 7) X
    else
      B_X2_turnMinutes_31   (8 - v1) (X r0 7) X
  else
    some (0, X)
set_option maxRecDepth 20000 in
theorem gB_X2_turnMinutes_31 {C : Cx} {V : Ev} {L : List Kd} (hC : Ok C V cX2_turnMinutes RX2 4 0 0) (hR : Rt C V L (some .int) rI) (s0 : Int) (s1 : Int) (X : Mem)  : G C V L 0 0 4 31 [] [vI s0, vI s1] X (B_X2_turnMinutes_31   s0 s1 X) := by
  unfold B_X2_turnMinutes_31
  refine g_imul hC dX2_turnMinutes_31 ?_
  exact g_iret hC hR dX2_turnMinutes_32
set_option maxRecDepth 20000 in
theorem k_X2_turnMinutes (l : Launch) (V : Ev) {L : List Kd}  (r0 : Int) (p1 : Int) (p2 : Int) (X : Mem) (h0 : isRiver L r0) : Kt l V L yX2_turnMinutes (.code yX2_turnMinutes cX2_turnMinutes 4 (some .int)) 0 0 [vR V.1 r0, vI p1, vI p2] rI X (f_X2_turnMinutes r0 p1 p2 X) := by
  refine kt_of (own := RX2) (lv0 := [(0, vR V.1 r0), (1, vI p1), (2, vI p2)]) (by decide) rfl (Nat.le_of_ble_eq_true rfl) rfl (fun C hCl hC hR => ?_)
  subst hCl
  unfold f_X2_turnMinutes
  refine g_iload_n (q := 1) hC dX2_turnMinutes_0 rfl rfl ?_
  refine g_iconst (v := vI (-1)) hC dX2_turnMinutes_1 rfl ?_
  refine g_icmp_ne (tgt := 7) hC dX2_turnMinutes_2 (by decide) ?_ ?_
  · refine g_iload_n (q := 2) hC dX2_turnMinutes_7 rfl rfl ?_
    refine g_iload_n (q := 1) hC dX2_turnMinutes_8 rfl rfl ?_
    refine g_isub hC dX2_turnMinutes_9 ?_
    refine g_bipush (v := vI 7) hC dX2_turnMinutes_10 rfl ?_
    refine g_iand hC dX2_turnMinutes_12 ?_
    refine g_topI (fun v1 => ?_)
    refine g_istore_n hC dX2_turnMinutes_13 rfl (by decide) rfl ?_
    refine g_aload_n (q := 1) hC dX2_turnMinutes_14 rfl rfl rfl ?_
    refine g_getI (k := 7) (kz := 7) hC cf_X2 (rv_0 h0) (by decide) rfl (by decide) rfl wf_RX2_65 dX2_turnMinutes_15 ?_
    refine g_iload_n (q := 0) hC dX2_turnMinutes_18 rfl rfl ?_
    refine g_iconst (v := vI 4) hC dX2_turnMinutes_19 rfl ?_
    refine g_icmp_le (tgt := 30) hC dX2_turnMinutes_20 (by decide) ?_ ?_
    · refine g_iload_n (q := 0) hC dX2_turnMinutes_30 rfl rfl ?_
      refine g_sub [] rfl ?_
      exact gB_X2_turnMinutes_31 hC hR   v1 (X r0 7) X
    · refine g_bipush (v := vI 8) hC dX2_turnMinutes_23 rfl ?_
      refine g_iload_n (q := 0) hC dX2_turnMinutes_25 rfl rfl ?_
      refine g_isub hC dX2_turnMinutes_26 ?_
      refine g_goto (tgt := 31) hC dX2_turnMinutes_27 (by decide) ?_
      refine g_sub [] rfl ?_
      exact gB_X2_turnMinutes_31 hC hR   (8 - v1) (X r0 7) X
  · refine g_iconst (v := vI 0) hC dX2_turnMinutes_5 rfl ?_
    exact g_iret hC hR dX2_turnMinutes_6
def L_X2_minutesAlong_8 : Nat → Int → Int → Int → Int → Int → Int → Mem → Option (Int × Mem)
  | 0, _, _, _, _, _, _, _ => none
  | n + 1, x0, x1, x2, x3, x4, x5, X =>
    c2 x5 x2 <| if x2 ≤ x5 then
      some (x3, X)
    else
      ax 60 (x5 - 1) <|
      ax 60 x5 <|
      cl (f_X2_headingTo x0 (X x1 (x5 - 1)) (X x1 x5) X) fun r1 X2 =>
      cl (f_X2_stepMinutes x0 r1 X2) fun r3 X4 =>
      cl (f_X2_turnMinutes x0 x4 r1 X4) fun r5 X6 =>
      bd (x3 + (r3 + r5)) fun v7 =>
      L_X2_minutesAlong_8   n x0 x1 x2 v7 r1 (x5 + 1) X6
def f_X2_minutesAlong (r0 : Int) (p1 : Int) (p2 : Int) (X : Mem) : Option (Int × Mem) :=
  L_X2_minutesAlong_8   KF r0 p1 p2 0 ((-1)) 1 X
set_option maxRecDepth 20000 in
theorem gL_X2_minutesAlong_8 {C : Cx} {V : Ev} {L : List Kd} (hC : Ok C V cX2_minutesAlong RX2 7 2 49) (hR : Rt C V L (some .int) rI) : ∀ (n : Nat) (x0 : Int) (x1 : Int) (x2 : Int) (x3 : Int) (x4 : Int) (x5 : Int) (X : Mem) (g0 : isRiver L x0) (g1 : At L x1 (101, [60])), G C V L 0 0 7 8 [(0, vR V.1 x0), (1, vR V.1 x1), (2, vI x2), (3, vI x3), (4, vI x4), (5, vI x5)] [] X (L_X2_minutesAlong_8   n x0 x1 x2 x3 x4 x5 X) := by
  intro n
  induction n with
  | zero => intro x0 x1 x2 x3 x4 x5 X g0 g1; exact g_none
  | succ n ih =>
    intro x0 x1 x2 x3 x4 x5 X g0 g1
    rw [L_X2_minutesAlong_8]
    refine g_iload (q := 5) hC dX2_minutesAlong_8 rfl ?_
    refine g_iload_n (q := 2) hC dX2_minutesAlong_10 rfl rfl ?_
    refine g_icmp_ge (tgt := 59) hC dX2_minutesAlong_11 (by decide) ?_ ?_
    · refine g_iload_n (q := 3) hC dX2_minutesAlong_59 rfl rfl ?_
      exact g_iret hC hR dX2_minutesAlong_60
    · refine g_aload_n (q := 0) hC dX2_minutesAlong_14 rfl rfl rfl ?_
      refine g_aload_n (q := 1) hC dX2_minutesAlong_15 rfl rfl rfl ?_
      refine g_iload (q := 5) hC dX2_minutesAlong_16 rfl ?_
      refine g_iconst (v := vI 1) hC dX2_minutesAlong_18 rfl ?_
      refine g_isub hC dX2_minutesAlong_19 ?_
      refine g_lald hC g1 (by decide) dX2_minutesAlong_20 ?_
      refine g_l2i hC dX2_minutesAlong_21 ?_
      refine g_aload_n (q := 1) hC dX2_minutesAlong_22 rfl rfl rfl ?_
      refine g_iload (q := 5) hC dX2_minutesAlong_23 rfl ?_
      refine g_lald hC g1 (by decide) dX2_minutesAlong_25 ?_
      refine g_callVI (As := [vI (X x1 (x5 - 1)), vJ (X x1 x5)]) hC mv_X2_headingTo wml_RX2_103 (k_X2_headingTo _ V x0 (X x1 (x5 - 1)) (X x1 x5) X g0) cf_X2 (rv_0 g0) (by decide) ⟨Nat.zero_le _, Nat.zero_le _⟩ rfl rfl ⟨Nat.le_of_ble_eq_true rfl, Nat.le_of_ble_eq_true rfl⟩ (Nat.le_of_ble_eq_true rfl) dX2_minutesAlong_26 (fun r1 X2 => ?_)
      refine g_istore hC dX2_minutesAlong_29 (by decide) rfl ?_
      refine g_iload_n (q := 4) hC dX2_minutesAlong_31 rfl rfl ?_
      refine g_aload_n (q := 1) hC dX2_minutesAlong_32 rfl rfl rfl ?_
      refine g_iload (q := 0) hC dX2_minutesAlong_33 rfl ?_
      refine g_callVI (As := [vI r1]) hC mv_X2_stepMinutes wml_RX2_107 (k_X2_stepMinutes _ V x0 r1 X2 g0) cf_X2 (rv_0 g0) (by decide) ⟨Nat.zero_le _, Nat.zero_le _⟩ rfl rfl ⟨Nat.le_of_ble_eq_true rfl, Nat.le_of_ble_eq_true rfl⟩ (Nat.le_of_ble_eq_true rfl) dX2_minutesAlong_35 (fun r3 X4 => ?_)
      refine g_aload_n (q := 1) hC dX2_minutesAlong_38 rfl rfl rfl ?_
      refine g_iload (q := 5) hC dX2_minutesAlong_39 rfl ?_
      refine g_iload (q := 0) hC dX2_minutesAlong_41 rfl ?_
      refine g_callVI (As := [vI x4, vI r1]) hC mv_X2_turnMinutes wml_RX2_111 (k_X2_turnMinutes _ V x0 x4 r1 X4 g0) cf_X2 (rv_0 g0) (by decide) ⟨Nat.zero_le _, Nat.zero_le _⟩ rfl rfl ⟨Nat.le_of_ble_eq_true rfl, Nat.le_of_ble_eq_true rfl⟩ (Nat.le_of_ble_eq_true rfl) dX2_minutesAlong_43 (fun r5 X6 => ?_)
      refine g_iadd hC dX2_minutesAlong_46 ?_
      refine g_iadd hC dX2_minutesAlong_47 ?_
      refine g_topI (fun v7 => ?_)
      refine g_istore_n hC dX2_minutesAlong_48 rfl (by decide) rfl ?_
      refine g_iload (q := 1) hC dX2_minutesAlong_49 rfl ?_
      refine g_istore hC dX2_minutesAlong_51 (by decide) rfl ?_
      refine g_iinc (q := 6) hC dX2_minutesAlong_53 rfl (by decide) rfl ?_
      refine g_goto (tgt := 8) hC dX2_minutesAlong_56 (by decide) ?_
      refine g_sub [4, 5, 6, 2, 1, 0] rfl ?_
      exact ih x0 x1 x2 v7 r1 (x5 + 1) X6 g0 g1
set_option maxRecDepth 20000 in
theorem k_X2_minutesAlong (l : Launch) (V : Ev) {L : List Kd}  (r0 : Int) (p1 : Int) (p2 : Int) (X : Mem) (h0 : isRiver L r0) (h1 : At L p1 (101, [60])) : Kt l V L yX2_minutesAlong (.code yX2_minutesAlong cX2_minutesAlong 7 (some .int)) 2 49 [vR V.1 r0, vR V.1 p1, vI p2] rI X (f_X2_minutesAlong r0 p1 p2 X) := by
  refine kt_of (own := RX2) (lv0 := [(0, vR V.1 r0), (1, vR V.1 p1), (2, vI p2)]) (by decide) rfl (Nat.le_of_ble_eq_true rfl) rfl (fun C hCl hC hR => ?_)
  subst hCl
  unfold f_X2_minutesAlong
  refine g_iconst (v := vI 0) hC dX2_minutesAlong_0 rfl ?_
  refine g_istore_n hC dX2_minutesAlong_1 rfl (by decide) rfl ?_
  refine g_iconst (v := vI (-1)) hC dX2_minutesAlong_2 rfl ?_
  refine g_istore hC dX2_minutesAlong_3 (by decide) rfl ?_
  refine g_iconst (v := vI 1) hC dX2_minutesAlong_5 rfl ?_
  refine g_istore hC dX2_minutesAlong_6 (by decide) rfl ?_
  refine g_sub [3, 4, 5, 2, 1, 0] rfl ?_
  exact gL_X2_minutesAlong_8 hC hR   KF r0 p1 p2 0 ((-1)) 1 X h0 h1
def f_X2_copyFrom (r0 : Int) (p1 : Int) (X : Mem) : Option (Int × Mem) :=
  bd (ms X r0 0 (X p1 0)) fun X1 =>
  bd (ms X1 r0 1 (X1 p1 1)) fun X2 =>
  bd (ms X2 r0 2 (X2 p1 2)) fun X3 =>
  bd (ms X3 r0 3 (X3 p1 3)) fun X4 =>
  bd (ms X4 r0 4 (X4 p1 4)) fun X5 =>
  bd (ms X5 r0 5 (X5 p1 5)) fun X6 =>
  bd (ms X6 r0 6 (X6 p1 6)) fun X7 =>
  bd (ms X7 r0 7 (X7 p1 7)) fun X8 =>
  bd (ms X8 r0 8 (X8 p1 8)) fun X9 =>
  bd (ms X9 r0 9 (X9 p1 9)) fun X10 =>
  bd (ms X10 r0 10 (X10 p1 10)) fun X11 =>
  cpk 60 60 0 0 60 <| bd (mc X11 (p1 + 1) 0 (r0 + 1) 0 60) fun X12 =>
  cpk 60 60 0 0 60 <| bd (mc X12 (p1 + 2) 0 (r0 + 2) 0 60) fun X13 =>
  cpk 12 12 0 0 12 <| bd (mc X13 (p1 + 3) 0 (r0 + 3) 0 12) fun X14 =>
  cpk 5 5 0 0 5 <| bd (mc X14 (p1 + 4) 0 (r0 + 4) 0 5) fun X15 =>
  cpk 5 5 0 0 5 <| bd (mc X15 (p1 + 5) 0 (r0 + 5) 0 5) fun X16 =>
  cpk 5 5 0 0 5 <| bd (mc X16 (p1 + 6) 0 (r0 + 6) 0 5) fun X17 =>
  cpk 5 5 0 0 5 <| bd (mc X17 (p1 + 7) 0 (r0 + 7) 0 5) fun X18 =>
  cpk 5 5 0 0 5 <| bd (mc X18 (p1 + 8) 0 (r0 + 8) 0 5) fun X19 =>
  cpk 5 5 0 0 5 <| bd (mc X19 (p1 + 9) 0 (r0 + 9) 0 5) fun X20 =>
  some (0, X20)
set_option maxRecDepth 20000 in
theorem k_X2_copyFrom (l : Launch) (V : Ev) {L : List Kd}  (r0 : Int) (p1 : Int) (X : Mem) (h0 : isRiver L r0) (h1 : isRiver L p1) : Kt l V L yX2_copyFrom (.code yX2_copyFrom cX2_copyFrom 2 none) 1 60 [vR V.1 r0, vR V.1 p1] rV X (f_X2_copyFrom r0 p1 X) := by
  refine kt_of (own := RX2) (lv0 := [(0, vR V.1 r0), (1, vR V.1 p1)]) (by decide) rfl (Nat.le_of_ble_eq_true rfl) rfl (fun C hCl hC hR => ?_)
  subst hCl
  unfold f_X2_copyFrom
  refine g_aload_n (q := 0) hC dX2_copyFrom_0 rfl rfl rfl ?_
  refine g_aload_n (q := 1) hC dX2_copyFrom_1 rfl rfl rfl ?_
  refine g_getI (k := 0) (kz := 0) hC cf_X2 (rv_0 h1) (by decide) rfl (by decide) rfl wf_RX2_43 dX2_copyFrom_2 ?_
  refine g_putI (k := 0) (kz := 0) hC cf_X2 (rv_0 h0) (by decide) rfl (by decide) rfl wf_RX2_43 rfl rfl dX2_copyFrom_5 (fun X1 => ?_)
  refine g_aload_n (q := 0) hC dX2_copyFrom_8 rfl rfl rfl ?_
  refine g_aload_n (q := 1) hC dX2_copyFrom_9 rfl rfl rfl ?_
  refine g_getI (k := 1) (kz := 1) hC cf_X2 (rv_0 h1) (by decide) rfl (by decide) rfl wf_RX2_47 dX2_copyFrom_10 ?_
  refine g_putI (k := 1) (kz := 1) hC cf_X2 (rv_0 h0) (by decide) rfl (by decide) rfl wf_RX2_47 rfl rfl dX2_copyFrom_13 (fun X2 => ?_)
  refine g_aload_n (q := 0) hC dX2_copyFrom_16 rfl rfl rfl ?_
  refine g_aload_n (q := 1) hC dX2_copyFrom_17 rfl rfl rfl ?_
  refine g_getI (k := 2) (kz := 2) hC cf_X2 (rv_0 h1) (by decide) rfl (by decide) rfl wf_RX2_50 dX2_copyFrom_18 ?_
  refine g_putI (k := 2) (kz := 2) hC cf_X2 (rv_0 h0) (by decide) rfl (by decide) rfl wf_RX2_50 rfl rfl dX2_copyFrom_21 (fun X3 => ?_)
  refine g_aload_n (q := 0) hC dX2_copyFrom_24 rfl rfl rfl ?_
  refine g_aload_n (q := 1) hC dX2_copyFrom_25 rfl rfl rfl ?_
  refine g_getI (k := 3) (kz := 3) hC cf_X2 (rv_0 h1) (by decide) rfl (by decide) rfl wf_RX2_53 dX2_copyFrom_26 ?_
  refine g_putI (k := 3) (kz := 3) hC cf_X2 (rv_0 h0) (by decide) rfl (by decide) rfl wf_RX2_53 rfl rfl dX2_copyFrom_29 (fun X4 => ?_)
  refine g_aload_n (q := 0) hC dX2_copyFrom_32 rfl rfl rfl ?_
  refine g_aload_n (q := 1) hC dX2_copyFrom_33 rfl rfl rfl ?_
  refine g_getI (k := 4) (kz := 4) hC cf_X2 (rv_0 h1) (by decide) rfl (by decide) rfl wf_RX2_56 dX2_copyFrom_34 ?_
  refine g_putI (k := 4) (kz := 4) hC cf_X2 (rv_0 h0) (by decide) rfl (by decide) rfl wf_RX2_56 rfl rfl dX2_copyFrom_37 (fun X5 => ?_)
  refine g_aload_n (q := 0) hC dX2_copyFrom_40 rfl rfl rfl ?_
  refine g_aload_n (q := 1) hC dX2_copyFrom_41 rfl rfl rfl ?_
  refine g_getI (k := 5) (kz := 5) hC cf_X2 (rv_0 h1) (by decide) rfl (by decide) rfl wf_RX2_59 dX2_copyFrom_42 ?_
  refine g_putI (k := 5) (kz := 5) hC cf_X2 (rv_0 h0) (by decide) rfl (by decide) rfl wf_RX2_59 rfl rfl dX2_copyFrom_45 (fun X6 => ?_)
  refine g_aload_n (q := 0) hC dX2_copyFrom_48 rfl rfl rfl ?_
  refine g_aload_n (q := 1) hC dX2_copyFrom_49 rfl rfl rfl ?_
  refine g_getI (k := 6) (kz := 6) hC cf_X2 (rv_0 h1) (by decide) rfl (by decide) rfl wf_RX2_62 dX2_copyFrom_50 ?_
  refine g_putI (k := 6) (kz := 6) hC cf_X2 (rv_0 h0) (by decide) rfl (by decide) rfl wf_RX2_62 rfl rfl dX2_copyFrom_53 (fun X7 => ?_)
  refine g_aload_n (q := 0) hC dX2_copyFrom_56 rfl rfl rfl ?_
  refine g_aload_n (q := 1) hC dX2_copyFrom_57 rfl rfl rfl ?_
  refine g_getI (k := 7) (kz := 7) hC cf_X2 (rv_0 h1) (by decide) rfl (by decide) rfl wf_RX2_65 dX2_copyFrom_58 ?_
  refine g_putI (k := 7) (kz := 7) hC cf_X2 (rv_0 h0) (by decide) rfl (by decide) rfl wf_RX2_65 rfl rfl dX2_copyFrom_61 (fun X8 => ?_)
  refine g_aload_n (q := 0) hC dX2_copyFrom_64 rfl rfl rfl ?_
  refine g_aload_n (q := 1) hC dX2_copyFrom_65 rfl rfl rfl ?_
  refine g_getI (k := 8) (kz := 8) hC cf_X2 (rv_0 h1) (by decide) rfl (by decide) rfl wf_RX2_68 dX2_copyFrom_66 ?_
  refine g_putI (k := 8) (kz := 8) hC cf_X2 (rv_0 h0) (by decide) rfl (by decide) rfl wf_RX2_68 rfl rfl dX2_copyFrom_69 (fun X9 => ?_)
  refine g_aload_n (q := 0) hC dX2_copyFrom_72 rfl rfl rfl ?_
  refine g_aload_n (q := 1) hC dX2_copyFrom_73 rfl rfl rfl ?_
  refine g_getI (k := 9) (kz := 9) hC cf_X2 (rv_0 h1) (by decide) rfl (by decide) rfl wf_RX2_71 dX2_copyFrom_74 ?_
  refine g_putI (k := 9) (kz := 9) hC cf_X2 (rv_0 h0) (by decide) rfl (by decide) rfl wf_RX2_71 rfl rfl dX2_copyFrom_77 (fun X10 => ?_)
  refine g_aload_n (q := 0) hC dX2_copyFrom_80 rfl rfl rfl ?_
  refine g_aload_n (q := 1) hC dX2_copyFrom_81 rfl rfl rfl ?_
  refine g_getI (k := 10) (kz := 10) hC cf_X2 (rv_0 h1) (by decide) rfl (by decide) rfl wf_RX2_74 dX2_copyFrom_82 ?_
  refine g_putI (k := 10) (kz := 10) hC cf_X2 (rv_0 h0) (by decide) rfl (by decide) rfl wf_RX2_74 rfl rfl dX2_copyFrom_85 (fun X11 => ?_)
  refine g_aload_n (q := 1) hC dX2_copyFrom_88 rfl rfl rfl ?_
  refine g_getS (k := 11) hC cf_X2 (rv_0 h1) (by decide) rfl (add_nn (rv_0 h1)) (by decide) wf_RX2_9 dX2_copyFrom_89 ?_
  refine g_iconst (v := vI 0) hC dX2_copyFrom_92 rfl ?_
  refine g_aload_n (q := 0) hC dX2_copyFrom_93 rfl rfl rfl ?_
  refine g_getS (k := 11) hC cf_X2 (rv_0 h0) (by decide) rfl (add_nn (rv_0 h0)) (by decide) wf_RX2_9 dX2_copyFrom_94 ?_
  refine g_iconst (v := vI 0) hC dX2_copyFrom_97 rfl ?_
  refine g_bipush (v := vI 60) hC dX2_copyFrom_98 rfl ?_
  refine g_copyi hC wml_RX2_83 (rv_1 h1) (rv_1 h0) (by decide) (by decide) (Nat.le_of_ble_eq_true rfl) (Nat.le_of_ble_eq_true rfl) dX2_copyFrom_100 (fun X12 => ?_)
  refine g_aload_n (q := 1) hC dX2_copyFrom_103 rfl rfl rfl ?_
  refine g_getS (k := 12) hC cf_X2 (rv_0 h1) (by decide) rfl (add_nn (rv_0 h1)) (by decide) wf_RX2_15 dX2_copyFrom_104 ?_
  refine g_iconst (v := vI 0) hC dX2_copyFrom_107 rfl ?_
  refine g_aload_n (q := 0) hC dX2_copyFrom_108 rfl rfl rfl ?_
  refine g_getS (k := 12) hC cf_X2 (rv_0 h0) (by decide) rfl (add_nn (rv_0 h0)) (by decide) wf_RX2_15 dX2_copyFrom_109 ?_
  refine g_iconst (v := vI 0) hC dX2_copyFrom_112 rfl ?_
  refine g_bipush (v := vI 60) hC dX2_copyFrom_113 rfl ?_
  refine g_copyi hC wml_RX2_83 (rv_2 h1) (rv_2 h0) (by decide) (by decide) (Nat.le_of_ble_eq_true rfl) (Nat.le_of_ble_eq_true rfl) dX2_copyFrom_115 (fun X13 => ?_)
  refine g_aload_n (q := 1) hC dX2_copyFrom_118 rfl rfl rfl ?_
  refine g_getS (k := 13) hC cf_X2 (rv_0 h1) (by decide) rfl (add_nn (rv_0 h1)) (by decide) wf_RX2_18 dX2_copyFrom_119 ?_
  refine g_iconst (v := vI 0) hC dX2_copyFrom_122 rfl ?_
  refine g_aload_n (q := 0) hC dX2_copyFrom_123 rfl rfl rfl ?_
  refine g_getS (k := 13) hC cf_X2 (rv_0 h0) (by decide) rfl (add_nn (rv_0 h0)) (by decide) wf_RX2_18 dX2_copyFrom_124 ?_
  refine g_iconst (v := vI 0) hC dX2_copyFrom_127 rfl ?_
  refine g_bipush (v := vI 12) hC dX2_copyFrom_128 rfl ?_
  refine g_copyi hC wml_RX2_83 (rv_3 h1) (rv_3 h0) (by decide) (by decide) (Nat.le_of_ble_eq_true rfl) (Nat.le_of_ble_eq_true rfl) dX2_copyFrom_130 (fun X14 => ?_)
  refine g_aload_n (q := 1) hC dX2_copyFrom_133 rfl rfl rfl ?_
  refine g_getS (k := 14) hC cf_X2 (rv_0 h1) (by decide) rfl (add_nn (rv_0 h1)) (by decide) wf_RX2_21 dX2_copyFrom_134 ?_
  refine g_iconst (v := vI 0) hC dX2_copyFrom_137 rfl ?_
  refine g_aload_n (q := 0) hC dX2_copyFrom_138 rfl rfl rfl ?_
  refine g_getS (k := 14) hC cf_X2 (rv_0 h0) (by decide) rfl (add_nn (rv_0 h0)) (by decide) wf_RX2_21 dX2_copyFrom_139 ?_
  refine g_iconst (v := vI 0) hC dX2_copyFrom_142 rfl ?_
  refine g_iconst (v := vI 5) hC dX2_copyFrom_143 rfl ?_
  refine g_copyl hC wml_RX2_83 (rv_4 h1) (rv_4 h0) (by decide) (by decide) (Nat.le_of_ble_eq_true rfl) (Nat.le_of_ble_eq_true rfl) dX2_copyFrom_144 (fun X15 => ?_)
  refine g_aload_n (q := 1) hC dX2_copyFrom_147 rfl rfl rfl ?_
  refine g_getS (k := 15) hC cf_X2 (rv_0 h1) (by decide) rfl (add_nn (rv_0 h1)) (by decide) wf_RX2_25 dX2_copyFrom_148 ?_
  refine g_iconst (v := vI 0) hC dX2_copyFrom_151 rfl ?_
  refine g_aload_n (q := 0) hC dX2_copyFrom_152 rfl rfl rfl ?_
  refine g_getS (k := 15) hC cf_X2 (rv_0 h0) (by decide) rfl (add_nn (rv_0 h0)) (by decide) wf_RX2_25 dX2_copyFrom_153 ?_
  refine g_iconst (v := vI 0) hC dX2_copyFrom_156 rfl ?_
  refine g_iconst (v := vI 5) hC dX2_copyFrom_157 rfl ?_
  refine g_copyi hC wml_RX2_83 (rv_5 h1) (rv_5 h0) (by decide) (by decide) (Nat.le_of_ble_eq_true rfl) (Nat.le_of_ble_eq_true rfl) dX2_copyFrom_158 (fun X16 => ?_)
  refine g_aload_n (q := 1) hC dX2_copyFrom_161 rfl rfl rfl ?_
  refine g_getS (k := 16) hC cf_X2 (rv_0 h1) (by decide) rfl (add_nn (rv_0 h1)) (by decide) wf_RX2_28 dX2_copyFrom_162 ?_
  refine g_iconst (v := vI 0) hC dX2_copyFrom_165 rfl ?_
  refine g_aload_n (q := 0) hC dX2_copyFrom_166 rfl rfl rfl ?_
  refine g_getS (k := 16) hC cf_X2 (rv_0 h0) (by decide) rfl (add_nn (rv_0 h0)) (by decide) wf_RX2_28 dX2_copyFrom_167 ?_
  refine g_iconst (v := vI 0) hC dX2_copyFrom_170 rfl ?_
  refine g_iconst (v := vI 5) hC dX2_copyFrom_171 rfl ?_
  refine g_copyi hC wml_RX2_83 (rv_6 h1) (rv_6 h0) (by decide) (by decide) (Nat.le_of_ble_eq_true rfl) (Nat.le_of_ble_eq_true rfl) dX2_copyFrom_172 (fun X17 => ?_)
  refine g_aload_n (q := 1) hC dX2_copyFrom_175 rfl rfl rfl ?_
  refine g_getS (k := 17) hC cf_X2 (rv_0 h1) (by decide) rfl (add_nn (rv_0 h1)) (by decide) wf_RX2_31 dX2_copyFrom_176 ?_
  refine g_iconst (v := vI 0) hC dX2_copyFrom_179 rfl ?_
  refine g_aload_n (q := 0) hC dX2_copyFrom_180 rfl rfl rfl ?_
  refine g_getS (k := 17) hC cf_X2 (rv_0 h0) (by decide) rfl (add_nn (rv_0 h0)) (by decide) wf_RX2_31 dX2_copyFrom_181 ?_
  refine g_iconst (v := vI 0) hC dX2_copyFrom_184 rfl ?_
  refine g_iconst (v := vI 5) hC dX2_copyFrom_185 rfl ?_
  refine g_copyi hC wml_RX2_83 (rv_7 h1) (rv_7 h0) (by decide) (by decide) (Nat.le_of_ble_eq_true rfl) (Nat.le_of_ble_eq_true rfl) dX2_copyFrom_186 (fun X18 => ?_)
  refine g_aload_n (q := 1) hC dX2_copyFrom_189 rfl rfl rfl ?_
  refine g_getS (k := 18) hC cf_X2 (rv_0 h1) (by decide) rfl (add_nn (rv_0 h1)) (by decide) wf_RX2_34 dX2_copyFrom_190 ?_
  refine g_iconst (v := vI 0) hC dX2_copyFrom_193 rfl ?_
  refine g_aload_n (q := 0) hC dX2_copyFrom_194 rfl rfl rfl ?_
  refine g_getS (k := 18) hC cf_X2 (rv_0 h0) (by decide) rfl (add_nn (rv_0 h0)) (by decide) wf_RX2_34 dX2_copyFrom_195 ?_
  refine g_iconst (v := vI 0) hC dX2_copyFrom_198 rfl ?_
  refine g_iconst (v := vI 5) hC dX2_copyFrom_199 rfl ?_
  refine g_copyi hC wml_RX2_83 (rv_8 h1) (rv_8 h0) (by decide) (by decide) (Nat.le_of_ble_eq_true rfl) (Nat.le_of_ble_eq_true rfl) dX2_copyFrom_200 (fun X19 => ?_)
  refine g_aload_n (q := 1) hC dX2_copyFrom_203 rfl rfl rfl ?_
  refine g_getS (k := 19) hC cf_X2 (rv_0 h1) (by decide) rfl (add_nn (rv_0 h1)) (by decide) wf_RX2_37 dX2_copyFrom_204 ?_
  refine g_iconst (v := vI 0) hC dX2_copyFrom_207 rfl ?_
  refine g_aload_n (q := 0) hC dX2_copyFrom_208 rfl rfl rfl ?_
  refine g_getS (k := 19) hC cf_X2 (rv_0 h0) (by decide) rfl (add_nn (rv_0 h0)) (by decide) wf_RX2_37 dX2_copyFrom_209 ?_
  refine g_iconst (v := vI 0) hC dX2_copyFrom_212 rfl ?_
  refine g_iconst (v := vI 5) hC dX2_copyFrom_213 rfl ?_
  refine g_copyi hC wml_RX2_83 (rv_9 h1) (rv_9 h0) (by decide) (by decide) (Nat.le_of_ble_eq_true rfl) (Nat.le_of_ble_eq_true rfl) dX2_copyFrom_214 (fun X20 => ?_)
  exact g_vret hC hR dX2_copyFrom_217
def f_X4_copyFrom (r0 : Int) (p1 : Int) (X : Mem) : Option (Int × Mem) :=
  bd (ms X r0 0 (X p1 0)) fun X1 =>
  bd (ms X1 r0 1 (X1 p1 1)) fun X2 =>
  cpk 60 60 0 0 60 <| bd (mc X2 (p1 + 1) 0 (r0 + 1) 0 60) fun X3 =>
  cpk 60 60 0 0 60 <| bd (mc X3 (p1 + 2) 0 (r0 + 2) 0 60) fun X4 =>
  cpk 60 60 0 0 60 <| bd (mc X4 (p1 + 3) 0 (r0 + 3) 0 60) fun X5 =>
  cpk 60 60 0 0 60 <| bd (mc X5 (p1 + 4) 0 (r0 + 4) 0 60) fun X6 =>
  some (0, X6)
set_option maxRecDepth 20000 in
theorem k_X4_copyFrom (l : Launch) (V : Ev) {L : List Kd}  (r0 : Int) (p1 : Int) (X : Mem) (h0 : isRule L r0) (h1 : isRule L p1) : Kt l V L yX4_copyFrom (.code yX4_copyFrom cX4_copyFrom 2 none) 1 60 [vR V.1 r0, vR V.1 p1] rV X (f_X4_copyFrom r0 p1 X) := by
  refine kt_of (own := RX4) (lv0 := [(0, vR V.1 r0), (1, vR V.1 p1)]) (by decide) rfl (Nat.le_of_ble_eq_true rfl) rfl (fun C hCl hC hR => ?_)
  subst hCl
  unfold f_X4_copyFrom
  refine g_aload_n (q := 0) hC dX4_copyFrom_0 rfl rfl rfl ?_
  refine g_aload_n (q := 1) hC dX4_copyFrom_1 rfl rfl rfl ?_
  refine g_getI (k := 0) (kz := 0) hC cf_X4 (ru_0 h1) (by decide) rfl (by decide) rfl wf_RX4_9 dX4_copyFrom_2 ?_
  refine g_putI (k := 0) (kz := 0) hC cf_X4 (ru_0 h0) (by decide) rfl (by decide) rfl wf_RX4_9 rfl rfl dX4_copyFrom_5 (fun X1 => ?_)
  refine g_aload_n (q := 0) hC dX4_copyFrom_8 rfl rfl rfl ?_
  refine g_aload_n (q := 1) hC dX4_copyFrom_9 rfl rfl rfl ?_
  refine g_getI (k := 1) (kz := 1) hC cf_X4 (ru_0 h1) (by decide) rfl (by decide) rfl wf_RX4_15 dX4_copyFrom_10 ?_
  refine g_putI (k := 1) (kz := 1) hC cf_X4 (ru_0 h0) (by decide) rfl (by decide) rfl wf_RX4_15 rfl rfl dX4_copyFrom_13 (fun X2 => ?_)
  refine g_aload_n (q := 1) hC dX4_copyFrom_16 rfl rfl rfl ?_
  refine g_getS (k := 2) hC cf_X4 (ru_0 h1) (by decide) rfl (add_nn (ru_0 h1)) (by decide) wf_RX4_18 dX4_copyFrom_17 ?_
  refine g_iconst (v := vI 0) hC dX4_copyFrom_20 rfl ?_
  refine g_aload_n (q := 0) hC dX4_copyFrom_21 rfl rfl rfl ?_
  refine g_getS (k := 2) hC cf_X4 (ru_0 h0) (by decide) rfl (add_nn (ru_0 h0)) (by decide) wf_RX4_18 dX4_copyFrom_22 ?_
  refine g_iconst (v := vI 0) hC dX4_copyFrom_25 rfl ?_
  refine g_bipush (v := vI 60) hC dX4_copyFrom_26 rfl ?_
  refine g_copyi hC wml_RX4_31 (ru_1 h1) (ru_1 h0) (by decide) (by decide) (Nat.le_of_ble_eq_true rfl) (Nat.le_of_ble_eq_true rfl) dX4_copyFrom_28 (fun X3 => ?_)
  refine g_aload_n (q := 1) hC dX4_copyFrom_31 rfl rfl rfl ?_
  refine g_getS (k := 3) hC cf_X4 (ru_0 h1) (by decide) rfl (add_nn (ru_0 h1)) (by decide) wf_RX4_22 dX4_copyFrom_32 ?_
  refine g_iconst (v := vI 0) hC dX4_copyFrom_35 rfl ?_
  refine g_aload_n (q := 0) hC dX4_copyFrom_36 rfl rfl rfl ?_
  refine g_getS (k := 3) hC cf_X4 (ru_0 h0) (by decide) rfl (add_nn (ru_0 h0)) (by decide) wf_RX4_22 dX4_copyFrom_37 ?_
  refine g_iconst (v := vI 0) hC dX4_copyFrom_40 rfl ?_
  refine g_bipush (v := vI 60) hC dX4_copyFrom_41 rfl ?_
  refine g_copyi hC wml_RX4_31 (ru_2 h1) (ru_2 h0) (by decide) (by decide) (Nat.le_of_ble_eq_true rfl) (Nat.le_of_ble_eq_true rfl) dX4_copyFrom_43 (fun X4 => ?_)
  refine g_aload_n (q := 1) hC dX4_copyFrom_46 rfl rfl rfl ?_
  refine g_getS (k := 4) hC cf_X4 (ru_0 h1) (by decide) rfl (add_nn (ru_0 h1)) (by decide) wf_RX4_25 dX4_copyFrom_47 ?_
  refine g_iconst (v := vI 0) hC dX4_copyFrom_50 rfl ?_
  refine g_aload_n (q := 0) hC dX4_copyFrom_51 rfl rfl rfl ?_
  refine g_getS (k := 4) hC cf_X4 (ru_0 h0) (by decide) rfl (add_nn (ru_0 h0)) (by decide) wf_RX4_25 dX4_copyFrom_52 ?_
  refine g_iconst (v := vI 0) hC dX4_copyFrom_55 rfl ?_
  refine g_bipush (v := vI 60) hC dX4_copyFrom_56 rfl ?_
  refine g_copyi hC wml_RX4_31 (ru_3 h1) (ru_3 h0) (by decide) (by decide) (Nat.le_of_ble_eq_true rfl) (Nat.le_of_ble_eq_true rfl) dX4_copyFrom_58 (fun X5 => ?_)
  refine g_aload_n (q := 1) hC dX4_copyFrom_61 rfl rfl rfl ?_
  refine g_getS (k := 5) hC cf_X4 (ru_0 h1) (by decide) rfl (add_nn (ru_0 h1)) (by decide) wf_RX4_28 dX4_copyFrom_62 ?_
  refine g_iconst (v := vI 0) hC dX4_copyFrom_65 rfl ?_
  refine g_aload_n (q := 0) hC dX4_copyFrom_66 rfl rfl rfl ?_
  refine g_getS (k := 5) hC cf_X4 (ru_0 h0) (by decide) rfl (add_nn (ru_0 h0)) (by decide) wf_RX4_28 dX4_copyFrom_67 ?_
  refine g_iconst (v := vI 0) hC dX4_copyFrom_70 rfl ?_
  refine g_bipush (v := vI 60) hC dX4_copyFrom_71 rfl ?_
  refine g_copyi hC wml_RX4_31 (ru_4 h1) (ru_4 h0) (by decide) (by decide) (Nat.le_of_ble_eq_true rfl) (Nat.le_of_ble_eq_true rfl) dX4_copyFrom_73 (fun X6 => ?_)
  exact g_vret hC hR dX4_copyFrom_76
end
