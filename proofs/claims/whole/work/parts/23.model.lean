noncomputable section
def B_X12_plain_50 (x1 : Int) (X : Mem) : Option (Int × Mem) :=
  ax 2200 (x1 + 5) <| bd (ms X 121 (x1 + 5) 4) fun X1 =>
  ax 2200 (x1 + 7) <| bd (ms X1 121 (x1 + 7) 10) fun X2 =>
  ax 2200 (x1 + 8) <| bd (ms X2 121 (x1 + 8) 14) fun X3 =>
  ax 2200 (x1 + 9) <| bd (ms X3 121 (x1 + 9) 1) fun X4 =>
  ax 2200 (x1 + 10) <| bd (ms X4 121 (x1 + 10) 120) fun X5 =>
  ax 2200 (x1 + 11) <| bd (ms X5 121 (x1 + 11) 12) fun X6 =>
  ax 2200 (x1 + 12) <| bd (ms X6 121 (x1 + 12) 11) fun X7 =>
  ax 2200 (x1 + 168) <| bd (ms X7 121 (x1 + 168) 1000000) fun X8 =>
  some (0, X8)
def L_X12_plain_26 : Nat → Int → Int → Mem → Option (Int × Mem)
  | 0, _, _, _ => none
  | n + 1, x1, x2, X =>
    c2 x2 60 <| if 60 ≤ x2 then
      B_X12_plain_50   x1 X
    else
      ax 2200 ((x1 + 108) + x2) <| bd (ms X 121 ((x1 + 108) + x2) ((-1))) fun X9 =>
      L_X12_plain_26   n x1 (x2 + 1) X9
def B_X12_plain_24 (x1 : Int) (X : Mem) : Option (Int × Mem) :=
  L_X12_plain_26   KF x1 0 X
def L_X12_plain_2 : Nat → Int → Int → Mem → Option (Int × Mem)
  | 0, _, _, _ => none
  | n + 1, x1, x2, X =>
    c2 x2 200 <| if 200 ≤ x2 then
      B_X12_plain_24   x1 X
    else
      ax 2200 (x1 + x2) <| bd (ms X 121 (x1 + x2) 0) fun X10 =>
      L_X12_plain_2   n x1 (x2 + 1) X10
def f_X12_plain (p1 : Int) (X : Mem) : Option (Int × Mem) :=
  L_X12_plain_2   KF p1 0 X
set_option maxRecDepth 20000 in
theorem gB_X12_plain_50 {C : Cx} {V : Ev} {L : List Kd} (hC : Ok C V cX12_plain RX12 3 0 0) (hR : Rt C V L none rV) (hL : LKm L) (x1 : Int) (X : Mem)  : G C V L 0 0 3 50 [(0, vR V.1 120), (1, vI x1)] [] X (B_X12_plain_50   x1 X) := by
  unfold B_X12_plain_50
  refine g_aload_n (q := 0) hC dX12_plain_50 rfl rfl rfl ?_
  refine g_getS (k := 0) hC cf_X12 (at_120 hL) (by decide) rfl (by decide) (by decide) wf_RX12_7 dX12_plain_51 ?_
  refine g_iload_n (q := 1) hC dX12_plain_54 rfl rfl ?_
  refine g_iconst (v := vI 5) hC dX12_plain_55 rfl ?_
  refine g_iadd hC dX12_plain_56 ?_
  refine g_iconst (v := vI 4) hC dX12_plain_57 rfl ?_
  refine g_iast hC (at_121 hL) (by decide) dX12_plain_58 (fun X1 => ?_)
  refine g_aload_n (q := 0) hC dX12_plain_59 rfl rfl rfl ?_
  refine g_getS (k := 0) hC cf_X12 (at_120 hL) (by decide) rfl (by decide) (by decide) wf_RX12_7 dX12_plain_60 ?_
  refine g_iload_n (q := 1) hC dX12_plain_63 rfl rfl ?_
  refine g_bipush (v := vI 7) hC dX12_plain_64 rfl ?_
  refine g_iadd hC dX12_plain_66 ?_
  refine g_bipush (v := vI 10) hC dX12_plain_67 rfl ?_
  refine g_iast hC (at_121 hL) (by decide) dX12_plain_69 (fun X2 => ?_)
  refine g_aload_n (q := 0) hC dX12_plain_70 rfl rfl rfl ?_
  refine g_getS (k := 0) hC cf_X12 (at_120 hL) (by decide) rfl (by decide) (by decide) wf_RX12_7 dX12_plain_71 ?_
  refine g_iload_n (q := 1) hC dX12_plain_74 rfl rfl ?_
  refine g_bipush (v := vI 8) hC dX12_plain_75 rfl ?_
  refine g_iadd hC dX12_plain_77 ?_
  refine g_bipush (v := vI 14) hC dX12_plain_78 rfl ?_
  refine g_iast hC (at_121 hL) (by decide) dX12_plain_80 (fun X3 => ?_)
  refine g_aload_n (q := 0) hC dX12_plain_81 rfl rfl rfl ?_
  refine g_getS (k := 0) hC cf_X12 (at_120 hL) (by decide) rfl (by decide) (by decide) wf_RX12_7 dX12_plain_82 ?_
  refine g_iload_n (q := 1) hC dX12_plain_85 rfl rfl ?_
  refine g_bipush (v := vI 9) hC dX12_plain_86 rfl ?_
  refine g_iadd hC dX12_plain_88 ?_
  refine g_iconst (v := vI 1) hC dX12_plain_89 rfl ?_
  refine g_iast hC (at_121 hL) (by decide) dX12_plain_90 (fun X4 => ?_)
  refine g_aload_n (q := 0) hC dX12_plain_91 rfl rfl rfl ?_
  refine g_getS (k := 0) hC cf_X12 (at_120 hL) (by decide) rfl (by decide) (by decide) wf_RX12_7 dX12_plain_92 ?_
  refine g_iload_n (q := 1) hC dX12_plain_95 rfl rfl ?_
  refine g_bipush (v := vI 10) hC dX12_plain_96 rfl ?_
  refine g_iadd hC dX12_plain_98 ?_
  refine g_bipush (v := vI 120) hC dX12_plain_99 rfl ?_
  refine g_iast hC (at_121 hL) (by decide) dX12_plain_101 (fun X5 => ?_)
  refine g_aload_n (q := 0) hC dX12_plain_102 rfl rfl rfl ?_
  refine g_getS (k := 0) hC cf_X12 (at_120 hL) (by decide) rfl (by decide) (by decide) wf_RX12_7 dX12_plain_103 ?_
  refine g_iload_n (q := 1) hC dX12_plain_106 rfl rfl ?_
  refine g_bipush (v := vI 11) hC dX12_plain_107 rfl ?_
  refine g_iadd hC dX12_plain_109 ?_
  refine g_bipush (v := vI 12) hC dX12_plain_110 rfl ?_
  refine g_iast hC (at_121 hL) (by decide) dX12_plain_112 (fun X6 => ?_)
  refine g_aload_n (q := 0) hC dX12_plain_113 rfl rfl rfl ?_
  refine g_getS (k := 0) hC cf_X12 (at_120 hL) (by decide) rfl (by decide) (by decide) wf_RX12_7 dX12_plain_114 ?_
  refine g_iload_n (q := 1) hC dX12_plain_117 rfl rfl ?_
  refine g_bipush (v := vI 12) hC dX12_plain_118 rfl ?_
  refine g_iadd hC dX12_plain_120 ?_
  refine g_bipush (v := vI 11) hC dX12_plain_121 rfl ?_
  refine g_iast hC (at_121 hL) (by decide) dX12_plain_123 (fun X7 => ?_)
  refine g_aload_n (q := 0) hC dX12_plain_124 rfl rfl rfl ?_
  refine g_getS (k := 0) hC cf_X12 (at_120 hL) (by decide) rfl (by decide) (by decide) wf_RX12_7 dX12_plain_125 ?_
  refine g_iload_n (q := 1) hC dX12_plain_128 rfl rfl ?_
  refine g_sipush (v := vI 168) hC dX12_plain_129 rfl ?_
  refine g_iadd hC dX12_plain_132 ?_
  refine g_ldc (n := 1000000) hC wk_RX12_91 rfl dX12_plain_133 ?_
  refine g_iast hC (at_121 hL) (by decide) dX12_plain_135 (fun X8 => ?_)
  exact g_vret hC hR dX12_plain_136
set_option maxRecDepth 20000 in
theorem gL_X12_plain_26 {C : Cx} {V : Ev} {L : List Kd} (hC : Ok C V cX12_plain RX12 3 0 0) (hR : Rt C V L none rV) (hL : LKm L) : ∀ (n : Nat) (x1 : Int) (x2 : Int) (X : Mem), G C V L 0 0 3 26 [(0, vR V.1 120), (1, vI x1), (2, vI x2)] [] X (L_X12_plain_26   n x1 x2 X) := by
  intro n
  induction n with
  | zero => intro x1 x2 X; exact g_none
  | succ n ih =>
    intro x1 x2 X
    rw [L_X12_plain_26]
    refine g_iload_n (q := 2) hC dX12_plain_26 rfl rfl ?_
    refine g_bipush (v := vI 60) hC dX12_plain_27 rfl ?_
    refine g_icmp_ge (tgt := 50) hC dX12_plain_29 (by decide) ?_ ?_
    · refine g_sub [0, 1] rfl ?_
      exact gB_X12_plain_50 hC hR hL  x1 X
    · refine g_aload_n (q := 0) hC dX12_plain_32 rfl rfl rfl ?_
      refine g_getS (k := 0) hC cf_X12 (at_120 hL) (by decide) rfl (by decide) (by decide) wf_RX12_7 dX12_plain_33 ?_
      refine g_iload_n (q := 1) hC dX12_plain_36 rfl rfl ?_
      refine g_bipush (v := vI 108) hC dX12_plain_37 rfl ?_
      refine g_iadd hC dX12_plain_39 ?_
      refine g_iload_n (q := 2) hC dX12_plain_40 rfl rfl ?_
      refine g_iadd hC dX12_plain_41 ?_
      refine g_iconst (v := vI (-1)) hC dX12_plain_42 rfl ?_
      refine g_iast hC (at_121 hL) (by decide) dX12_plain_43 (fun X9 => ?_)
      refine g_iinc (q := 2) hC dX12_plain_44 rfl (by decide) rfl ?_
      refine g_goto (tgt := 26) hC dX12_plain_47 (by decide) ?_
      refine g_sub [1, 2, 0] rfl ?_
      exact ih x1 (x2 + 1) X9
set_option maxRecDepth 20000 in
theorem gB_X12_plain_24 {C : Cx} {V : Ev} {L : List Kd} (hC : Ok C V cX12_plain RX12 3 0 0) (hR : Rt C V L none rV) (hL : LKm L) (x1 : Int) (X : Mem)  : G C V L 0 0 3 24 [(0, vR V.1 120), (1, vI x1)] [] X (B_X12_plain_24   x1 X) := by
  unfold B_X12_plain_24
  refine g_iconst (v := vI 0) hC dX12_plain_24 rfl ?_
  refine g_istore_n hC dX12_plain_25 rfl (by decide) rfl ?_
  refine g_sub [1, 2, 0] rfl ?_
  exact gL_X12_plain_26 hC hR hL  KF x1 0 X
set_option maxRecDepth 20000 in
theorem gL_X12_plain_2 {C : Cx} {V : Ev} {L : List Kd} (hC : Ok C V cX12_plain RX12 3 0 0) (hR : Rt C V L none rV) (hL : LKm L) : ∀ (n : Nat) (x1 : Int) (x2 : Int) (X : Mem), G C V L 0 0 3 2 [(0, vR V.1 120), (1, vI x1), (2, vI x2)] [] X (L_X12_plain_2   n x1 x2 X) := by
  intro n
  induction n with
  | zero => intro x1 x2 X; exact g_none
  | succ n ih =>
    intro x1 x2 X
    rw [L_X12_plain_2]
    refine g_iload_n (q := 2) hC dX12_plain_2 rfl rfl ?_
    refine g_sipush (v := vI 200) hC dX12_plain_3 rfl ?_
    refine g_icmp_ge (tgt := 24) hC dX12_plain_6 (by decide) ?_ ?_
    · refine g_sub [0, 1] rfl ?_
      exact gB_X12_plain_24 hC hR hL  x1 X
    · refine g_aload_n (q := 0) hC dX12_plain_9 rfl rfl rfl ?_
      refine g_getS (k := 0) hC cf_X12 (at_120 hL) (by decide) rfl (by decide) (by decide) wf_RX12_7 dX12_plain_10 ?_
      refine g_iload_n (q := 1) hC dX12_plain_13 rfl rfl ?_
      refine g_iload_n (q := 2) hC dX12_plain_14 rfl rfl ?_
      refine g_iadd hC dX12_plain_15 ?_
      refine g_iconst (v := vI 0) hC dX12_plain_16 rfl ?_
      refine g_iast hC (at_121 hL) (by decide) dX12_plain_17 (fun X10 => ?_)
      refine g_iinc (q := 2) hC dX12_plain_18 rfl (by decide) rfl ?_
      refine g_goto (tgt := 2) hC dX12_plain_21 (by decide) ?_
      refine g_sub [1, 2, 0] rfl ?_
      exact ih x1 (x2 + 1) X10
set_option maxRecDepth 20000 in
theorem k_X12_plain (l : Launch) (V : Ev) {L : List Kd} (hL : LKm L) (p1 : Int) (X : Mem)  : Kt l V L yX12_plain (.code yX12_plain cX12_plain 3 none) 0 0 [vR V.1 120, vI p1] rV X (f_X12_plain p1 X) := by
  refine kt_of (own := RX12) (lv0 := [(0, vR V.1 120), (1, vI p1)]) (by decide) rfl (Nat.le_of_ble_eq_true rfl) rfl (fun C hCl hC hR => ?_)
  subst hCl
  unfold f_X12_plain
  refine g_iconst (v := vI 0) hC dX12_plain_0 rfl ?_
  refine g_istore_n hC dX12_plain_1 rfl (by decide) rfl ?_
  refine g_sub [1, 2, 0] rfl ?_
  exact gL_X12_plain_2 hC hR hL  KF p1 0 X
def f_X12_status  (X : Mem) : Option (Int × Mem) :=
  some (X 120 2, X)
set_option maxRecDepth 20000 in
theorem k_X12_status (l : Launch) (V : Ev) {L : List Kd} (hL : LKm L)  (X : Mem)  : Kt l V L yX12_status (.code yX12_status cX12_status 1 (some .int)) 0 0 [vR V.1 120] rI X (f_X12_status  X) := by
  refine kt_of (own := RX12) (lv0 := [(0, vR V.1 120)]) (by decide) rfl (Nat.le_of_ble_eq_true rfl) rfl (fun C hCl hC hR => ?_)
  subst hCl
  unfold f_X12_status
  refine g_aload_n (q := 0) hC dX12_status_0 rfl rfl rfl ?_
  refine g_getI (k := 2) (kz := 2) hC cf_X12 (at_120 hL) (by decide) rfl (by decide) rfl wf_RX12_92 dX12_status_1 ?_
  exact g_iret hC hR dX12_status_4
def f_X12_top  (X : Mem) : Option (Int × Mem) :=
  some (X 120 3, X)
set_option maxRecDepth 20000 in
theorem k_X12_top (l : Launch) (V : Ev) {L : List Kd} (hL : LKm L)  (X : Mem)  : Kt l V L yX12_top (.code yX12_top cX12_top 1 (some .long)) 0 0 [vR V.1 120] rJ X (f_X12_top  X) := by
  refine kt_of (own := RX12) (lv0 := [(0, vR V.1 120)]) (by decide) rfl (Nat.le_of_ble_eq_true rfl) rfl (fun C hCl hC hR => ?_)
  subst hCl
  unfold f_X12_top
  refine g_aload_n (q := 0) hC dX12_top_0 rfl rfl rfl ?_
  refine g_getJ (k := 3) (kz := 3) hC cf_X12 (at_120 hL) (by decide) rfl (by decide) rfl wf_RX12_95 dX12_top_1 ?_
  exact g_lret hC hR dX12_top_4
def f_X12_bottom  (X : Mem) : Option (Int × Mem) :=
  some (X 120 4, X)
set_option maxRecDepth 20000 in
theorem k_X12_bottom (l : Launch) (V : Ev) {L : List Kd} (hL : LKm L)  (X : Mem)  : Kt l V L yX12_bottom (.code yX12_bottom cX12_bottom 1 (some .long)) 0 0 [vR V.1 120] rJ X (f_X12_bottom  X) := by
  refine kt_of (own := RX12) (lv0 := [(0, vR V.1 120)]) (by decide) rfl (Nat.le_of_ble_eq_true rfl) rfl (fun C hCl hC hR => ?_)
  subst hCl
  unfold f_X12_bottom
  refine g_aload_n (q := 0) hC dX12_bottom_0 rfl rfl rfl ?_
  refine g_getJ (k := 4) (kz := 4) hC cf_X12 (at_120 hL) (by decide) rfl (by decide) rfl wf_RX12_17 dX12_bottom_1 ?_
  exact g_lret hC hR dX12_bottom_4
def f_X12_isTray (p1 : Int) (X : Mem) : Option (Int × Mem) :=
  c1 p1 <| if p1 < 0 then
    some (0, X)
  else
    c2 p1 4 <| if 4 ≤ p1 then
      some (0, X)
    else
      some (1, X)
set_option maxRecDepth 20000 in
theorem k_X12_isTray (l : Launch) (V : Ev) {L : List Kd} (hL : LKm L) (p1 : Int) (X : Mem)  : Kt l V L yX12_isTray (.code yX12_isTray cX12_isTray 1 (some .boolean)) 0 0 [vI p1] rI X (f_X12_isTray p1 X) := by
  refine kt_of (own := RX12) (lv0 := [(0, vI p1)]) (by decide) rfl (Nat.le_of_ble_eq_true rfl) rfl (fun C hCl hC hR => ?_)
  subst hCl
  unfold f_X12_isTray
  refine g_iload_n (q := 0) hC dX12_isTray_0 rfl rfl ?_
  refine g_if_lt (tgt := 13) hC dX12_isTray_1 (by decide) ?_ ?_
  · refine g_iconst (v := vI 0) hC dX12_isTray_13 rfl ?_
    exact g_zret1 hC hR (by decide) dX12_isTray_14
  · refine g_iload_n (q := 0) hC dX12_isTray_4 rfl rfl ?_
    refine g_iconst (v := vI 4) hC dX12_isTray_5 rfl ?_
    refine g_icmp_ge (tgt := 13) hC dX12_isTray_6 (by decide) ?_ ?_
    · refine g_iconst (v := vI 0) hC dX12_isTray_13 rfl ?_
      exact g_zret1 hC hR (by decide) dX12_isTray_14
    · refine g_iconst (v := vI 1) hC dX12_isTray_9 rfl ?_
      refine g_goto (tgt := 14) hC dX12_isTray_10 (by decide) ?_
      exact g_zret1 hC hR (by decide) dX12_isTray_14
def f_X12_is (p1 : Int) (X : Mem) : Option (Int × Mem) :=
  bd (ms X 120 2 p1) fun X1 =>
  c1 p1 <| if ¬ p1 = 0 then
    some (0, X1)
  else
    some (1, X1)
set_option maxRecDepth 20000 in
theorem k_X12_is (l : Launch) (V : Ev) {L : List Kd} (hL : LKm L) (p1 : Int) (X : Mem)  : Kt l V L yX12_is (.code yX12_is cX12_is 2 (some .boolean)) 0 0 [vR V.1 120, vI p1] rI X (f_X12_is p1 X) := by
  refine kt_of (own := RX12) (lv0 := [(0, vR V.1 120), (1, vI p1)]) (by decide) rfl (Nat.le_of_ble_eq_true rfl) rfl (fun C hCl hC hR => ?_)
  subst hCl
  unfold f_X12_is
  refine g_aload_n (q := 0) hC dX12_is_0 rfl rfl rfl ?_
  refine g_iload_n (q := 1) hC dX12_is_1 rfl rfl ?_
  refine g_putI (k := 2) (kz := 2) hC cf_X12 (at_120 hL) (by decide) rfl (by decide) rfl wf_RX12_92 rfl rfl dX12_is_2 (fun X1 => ?_)
  refine g_iload_n (q := 1) hC dX12_is_5 rfl rfl ?_
  refine g_if_ne (tgt := 13) hC dX12_is_6 (by decide) ?_ ?_
  · refine g_iconst (v := vI 0) hC dX12_is_13 rfl ?_
    exact g_zret1 hC hR (by decide) dX12_is_14
  · refine g_iconst (v := vI 1) hC dX12_is_9 rfl ?_
    refine g_goto (tgt := 14) hC dX12_is_10 (by decide) ?_
    exact g_zret1 hC hR (by decide) dX12_is_14
def B_X12_tray_26  (X : Mem) : Option (Int × Mem) :=
  cl (f_X12_is 1 X) fun r3 X4 =>
  cz r3 (some (r3, X4))
def B_X12_tray_74  (X : Mem) : Option (Int × Mem) :=
  cl (f_X12_is 0 X) fun r7 X8 =>
  cz r7 (some (r7, X8))
def L_X12_tray_49 : Nat → Int → Int → Int → Mem → Option (Int × Mem)
  | 0, _, _, _, _ => none
  | n + 1, x1, x3, x4, X =>
    c2 x4 x3 <| if x3 ≤ x4 then
      B_X12_tray_74   X
    else
      ax 240 ((60 * x1) + x4) <| bd (ms X 125 ((60 * x1) + x4) 0) fun X9 =>
      L_X12_tray_49   n x1 x3 (x4 + 1) X9
def f_X12_tray (p1 : Int) (p2 : Int) (p3 : Int) (X : Mem) : Option (Int × Mem) :=
  cl (f_X12_isTray p1 X) fun r1 X2 =>
  c1 r1 <| if r1 = 0 then
    B_X12_tray_26   X2
  else
    c1 p2 <| if p2 < 0 then
      B_X12_tray_26   X2
    else
      c2 p2 3 <| if 3 < p2 then
        B_X12_tray_26   X2
      else
        c1 p3 <| if p3 < 0 then
          B_X12_tray_26   X2
        else
          c2 p3 60 <| if p3 ≤ 60 then
            ax 4 p1 <| bd (ms X2 123 p1 p2) fun X5 =>
            ax 4 p1 <| bd (ms X5 124 p1 p3) fun X6 =>
            L_X12_tray_49   KF p1 p3 0 X6
          else
            B_X12_tray_26   X2
set_option maxRecDepth 20000 in
theorem gB_X12_tray_26 {C : Cx} {V : Ev} {L : List Kd} (hC : Ok C V cX12_tray RX12 5 1 21) (hR : Rt C V L (some .boolean) rI) (hL : LKm L)  (X : Mem)  : G C V L 0 0 5 26 [(0, vR V.1 120)] [] X (B_X12_tray_26    X) := by
  unfold B_X12_tray_26
  refine g_aload_n (q := 0) hC dX12_tray_26 rfl rfl rfl ?_
  refine g_iconst (v := vI 1) hC dX12_tray_27 rfl ?_
  refine g_callVI (As := [vI 1]) hC mv_X12_is wml_RX12_98 (k_X12_is _ V hL 1 X) cf_X12 (at_120 hL) (by decide) ⟨Nat.zero_le _, Nat.zero_le _⟩ rfl rfl ⟨Nat.le_of_ble_eq_true rfl, Nat.le_of_ble_eq_true rfl⟩ (Nat.le_of_ble_eq_true rfl) dX12_tray_28 (fun r3 X4 => ?_)
  exact g_zret hC hR dX12_tray_31
set_option maxRecDepth 20000 in
theorem gB_X12_tray_74 {C : Cx} {V : Ev} {L : List Kd} (hC : Ok C V cX12_tray RX12 5 1 21) (hR : Rt C V L (some .boolean) rI) (hL : LKm L)  (X : Mem)  : G C V L 0 0 5 74 [(0, vR V.1 120)] [] X (B_X12_tray_74    X) := by
  unfold B_X12_tray_74
  refine g_aload_n (q := 0) hC dX12_tray_74 rfl rfl rfl ?_
  refine g_iconst (v := vI 0) hC dX12_tray_75 rfl ?_
  refine g_callVI (As := [vI 0]) hC mv_X12_is wml_RX12_98 (k_X12_is _ V hL 0 X) cf_X12 (at_120 hL) (by decide) ⟨Nat.zero_le _, Nat.zero_le _⟩ rfl rfl ⟨Nat.le_of_ble_eq_true rfl, Nat.le_of_ble_eq_true rfl⟩ (Nat.le_of_ble_eq_true rfl) dX12_tray_76 (fun r7 X8 => ?_)
  exact g_zret hC hR dX12_tray_79
set_option maxRecDepth 20000 in
theorem gL_X12_tray_49 {C : Cx} {V : Ev} {L : List Kd} (hC : Ok C V cX12_tray RX12 5 1 21) (hR : Rt C V L (some .boolean) rI) (hL : LKm L) : ∀ (n : Nat) (x1 : Int) (x3 : Int) (x4 : Int) (X : Mem), G C V L 0 0 5 49 [(0, vR V.1 120), (1, vI x1), (3, vI x3), (4, vI x4)] [] X (L_X12_tray_49   n x1 x3 x4 X) := by
  intro n
  induction n with
  | zero => intro x1 x3 x4 X; exact g_none
  | succ n ih =>
    intro x1 x3 x4 X
    rw [L_X12_tray_49]
    refine g_iload (q := 3) hC dX12_tray_49 rfl ?_
    refine g_iload_n (q := 2) hC dX12_tray_51 rfl rfl ?_
    refine g_icmp_ge (tgt := 74) hC dX12_tray_52 (by decide) ?_ ?_
    · refine g_sub [0] rfl ?_
      exact gB_X12_tray_74 hC hR hL  X
    · refine g_aload_n (q := 0) hC dX12_tray_55 rfl rfl rfl ?_
      refine g_getS (k := 7) hC cf_X12 (at_120 hL) (by decide) rfl (by decide) (by decide) wf_RX12_27 dX12_tray_56 ?_
      refine g_bipush (v := vI 60) hC dX12_tray_59 rfl ?_
      refine g_iload_n (q := 1) hC dX12_tray_61 rfl rfl ?_
      refine g_imul hC dX12_tray_62 ?_
      refine g_iload (q := 3) hC dX12_tray_63 rfl ?_
      refine g_iadd hC dX12_tray_65 ?_
      refine g_lconst (v := vJ 0) hC dX12_tray_66 rfl ?_
      refine g_last hC (at_125 hL) (by decide) dX12_tray_67 (fun X9 => ?_)
      refine g_iinc (q := 3) hC dX12_tray_68 rfl (by decide) rfl ?_
      refine g_goto (tgt := 49) hC dX12_tray_71 (by decide) ?_
      refine g_sub [1, 2, 3, 0] rfl ?_
      exact ih x1 x3 (x4 + 1) X9
set_option maxRecDepth 20000 in
theorem k_X12_tray (l : Launch) (V : Ev) {L : List Kd} (hL : LKm L) (p1 : Int) (p2 : Int) (p3 : Int) (X : Mem)  : Kt l V L yX12_tray (.code yX12_tray cX12_tray 5 (some .boolean)) 1 21 [vR V.1 120, vI p1, vI p2, vI p3] rI X (f_X12_tray p1 p2 p3 X) := by
  refine kt_of (own := RX12) (lv0 := [(0, vR V.1 120), (1, vI p1), (2, vI p2), (3, vI p3)]) (by decide) rfl (Nat.le_of_ble_eq_true rfl) rfl (fun C hCl hC hR => ?_)
  subst hCl
  unfold f_X12_tray
  refine g_iload_n (q := 1) hC dX12_tray_0 rfl rfl ?_
  refine g_callSI (As := [vI p1]) hC mt_X12_isTray wml_RX12_102 (k_X12_isTray _ V hL p1 X) ⟨Nat.zero_le _, Nat.zero_le _⟩ rfl rfl ⟨Nat.le_of_ble_eq_true rfl, Nat.le_of_ble_eq_true rfl⟩ (Nat.le_of_ble_eq_true rfl) dX12_tray_1 (fun r1 X2 => ?_)
  refine g_if_eq (tgt := 26) hC dX12_tray_4 (by decide) ?_ ?_
  · refine g_sub [0] rfl ?_
    exact gB_X12_tray_26 hC hR hL  X2
  · refine g_iload_n (q := 2) hC dX12_tray_7 rfl rfl ?_
    refine g_if_lt (tgt := 26) hC dX12_tray_8 (by decide) ?_ ?_
    · refine g_sub [0] rfl ?_
      exact gB_X12_tray_26 hC hR hL  X2
    · refine g_iload_n (q := 2) hC dX12_tray_11 rfl rfl ?_
      refine g_iconst (v := vI 3) hC dX12_tray_12 rfl ?_
      refine g_icmp_gt (tgt := 26) hC dX12_tray_13 (by decide) ?_ ?_
      · refine g_sub [0] rfl ?_
        exact gB_X12_tray_26 hC hR hL  X2
      · refine g_iload_n (q := 3) hC dX12_tray_16 rfl rfl ?_
        refine g_if_lt (tgt := 26) hC dX12_tray_17 (by decide) ?_ ?_
        · refine g_sub [0] rfl ?_
          exact gB_X12_tray_26 hC hR hL  X2
        · refine g_iload_n (q := 3) hC dX12_tray_20 rfl rfl ?_
          refine g_bipush (v := vI 60) hC dX12_tray_21 rfl ?_
          refine g_icmp_le (tgt := 32) hC dX12_tray_23 (by decide) ?_ ?_
          · refine g_aload_n (q := 0) hC dX12_tray_32 rfl rfl rfl ?_
            refine g_getS (k := 5) hC cf_X12 (at_120 hL) (by decide) rfl (by decide) (by decide) wf_RX12_21 dX12_tray_33 ?_
            refine g_iload_n (q := 1) hC dX12_tray_36 rfl rfl ?_
            refine g_iload_n (q := 2) hC dX12_tray_37 rfl rfl ?_
            refine g_iast hC (at_123 hL) (by decide) dX12_tray_38 (fun X5 => ?_)
            refine g_aload_n (q := 0) hC dX12_tray_39 rfl rfl rfl ?_
            refine g_getS (k := 6) hC cf_X12 (at_120 hL) (by decide) rfl (by decide) (by decide) wf_RX12_24 dX12_tray_40 ?_
            refine g_iload_n (q := 1) hC dX12_tray_43 rfl rfl ?_
            refine g_iload_n (q := 3) hC dX12_tray_44 rfl rfl ?_
            refine g_iast hC (at_124 hL) (by decide) dX12_tray_45 (fun X6 => ?_)
            refine g_iconst (v := vI 0) hC dX12_tray_46 rfl ?_
            refine g_istore hC dX12_tray_47 (by decide) rfl ?_
            refine g_sub [1, 2, 4, 0] rfl ?_
            exact gL_X12_tray_49 hC hR hL  KF p1 p3 0 X6
          · refine g_sub [0] rfl ?_
            exact gB_X12_tray_26 hC hR hL  X2
def f_X12_wrongPlace (p1 : Int) (p2 : Int) (X : Mem) : Option (Int × Mem) :=
  cl (f_X12_isTray p1 X) fun r1 X2 =>
  c1 r1 <| if ¬ r1 = 0 then
    ax 4 p1 <|
    c2 (X2 124 p1) ((-1)) <| if ¬ (X2 124 p1) = ((-1)) then
      c1 p2 <| if p2 < 0 then
        some (3, X2)
      else
        ax 4 p1 <|
        c2 p2 (X2 124 p1) <| if p2 < (X2 124 p1) then
          some (0, X2)
        else
          some (3, X2)
    else
      some (2, X2)
  else
    some (1, X2)
set_option maxRecDepth 20000 in
theorem k_X12_wrongPlace (l : Launch) (V : Ev) {L : List Kd} (hL : LKm L) (p1 : Int) (p2 : Int) (X : Mem)  : Kt l V L yX12_wrongPlace (.code yX12_wrongPlace cX12_wrongPlace 3 (some .int)) 1 20 [vR V.1 120, vI p1, vI p2] rI X (f_X12_wrongPlace p1 p2 X) := by
  refine kt_of (own := RX12) (lv0 := [(0, vR V.1 120), (1, vI p1), (2, vI p2)]) (by decide) rfl (Nat.le_of_ble_eq_true rfl) rfl (fun C hCl hC hR => ?_)
  subst hCl
  unfold f_X12_wrongPlace
  refine g_iload_n (q := 1) hC dX12_wrongPlace_0 rfl rfl ?_
  refine g_callSI (As := [vI p1]) hC mt_X12_isTray wml_RX12_102 (k_X12_isTray _ V hL p1 X) ⟨Nat.zero_le _, Nat.zero_le _⟩ rfl rfl ⟨Nat.le_of_ble_eq_true rfl, Nat.le_of_ble_eq_true rfl⟩ (Nat.le_of_ble_eq_true rfl) dX12_wrongPlace_1 (fun r1 X2 => ?_)
  refine g_if_ne (tgt := 11) hC dX12_wrongPlace_4 (by decide) ?_ ?_
  · refine g_aload_n (q := 0) hC dX12_wrongPlace_11 rfl rfl rfl ?_
    refine g_getS (k := 6) hC cf_X12 (at_120 hL) (by decide) rfl (by decide) (by decide) wf_RX12_24 dX12_wrongPlace_12 ?_
    refine g_iload_n (q := 1) hC dX12_wrongPlace_15 rfl rfl ?_
    refine g_iald hC (at_124 hL) (by decide) dX12_wrongPlace_16 ?_
    refine g_iconst (v := vI (-1)) hC dX12_wrongPlace_17 rfl ?_
    refine g_icmp_ne (tgt := 25) hC dX12_wrongPlace_18 (by decide) ?_ ?_
    · refine g_iload_n (q := 2) hC dX12_wrongPlace_25 rfl rfl ?_
      refine g_if_lt (tgt := 39) hC dX12_wrongPlace_26 (by decide) ?_ ?_
      · refine g_iconst (v := vI 3) hC dX12_wrongPlace_39 rfl ?_
        refine g_goto (tgt := 44) hC dX12_wrongPlace_40 (by decide) ?_
        exact g_iret hC hR dX12_wrongPlace_44
      · refine g_iload_n (q := 2) hC dX12_wrongPlace_29 rfl rfl ?_
        refine g_aload_n (q := 0) hC dX12_wrongPlace_30 rfl rfl rfl ?_
        refine g_getS (k := 6) hC cf_X12 (at_120 hL) (by decide) rfl (by decide) (by decide) wf_RX12_24 dX12_wrongPlace_31 ?_
        refine g_iload_n (q := 1) hC dX12_wrongPlace_34 rfl rfl ?_
        refine g_iald hC (at_124 hL) (by decide) dX12_wrongPlace_35 ?_
        refine g_icmp_lt (tgt := 43) hC dX12_wrongPlace_36 (by decide) ?_ ?_
        · refine g_iconst (v := vI 0) hC dX12_wrongPlace_43 rfl ?_
          exact g_iret hC hR dX12_wrongPlace_44
        · refine g_iconst (v := vI 3) hC dX12_wrongPlace_39 rfl ?_
          refine g_goto (tgt := 44) hC dX12_wrongPlace_40 (by decide) ?_
          exact g_iret hC hR dX12_wrongPlace_44
    · refine g_iconst (v := vI 2) hC dX12_wrongPlace_21 rfl ?_
      refine g_goto (tgt := 44) hC dX12_wrongPlace_22 (by decide) ?_
      exact g_iret hC hR dX12_wrongPlace_44
  · refine g_iconst (v := vI 1) hC dX12_wrongPlace_7 rfl ?_
    refine g_goto (tgt := 44) hC dX12_wrongPlace_8 (by decide) ?_
    exact g_iret hC hR dX12_wrongPlace_44
def f_X12_cut (p1 : Int) (p2 : Int) (X : Mem) : Option (Int × Mem) :=
  c1 p2 <| if ¬ p2 = 0 then
    c2 p2 1 <| if ¬ p2 = 1 then
      c2 p2 2 <| if ¬ p2 = 2 then
        some (p1, X)
      else
        c1 (w32 p1) <|
        some (w32 p1, X)
    else
      c1 (w16 p1) <|
      some (w16 p1, X)
  else
    c1 (w8 p1) <|
    some (w8 p1, X)
set_option maxRecDepth 20000 in
theorem k_X12_cut (l : Launch) (V : Ev) {L : List Kd} (hL : LKm L) (p1 : Int) (p2 : Int) (X : Mem)  : Kt l V L yX12_cut (.code yX12_cut cX12_cut 3 (some .long)) 0 0 [vJ p1, vI p2] rJ X (f_X12_cut p1 p2 X) := by
  refine kt_of (own := RX12) (lv0 := [(0, vJ p1), (2, vI p2)]) (by decide) rfl (Nat.le_of_ble_eq_true rfl) rfl (fun C hCl hC hR => ?_)
  subst hCl
  unfold f_X12_cut
  refine g_iload_n (q := 1) hC dX12_cut_0 rfl rfl ?_
  refine g_if_ne (tgt := 11) hC dX12_cut_1 (by decide) ?_ ?_
  · refine g_iload_n (q := 1) hC dX12_cut_11 rfl rfl ?_
    refine g_iconst (v := vI 1) hC dX12_cut_12 rfl ?_
    refine g_icmp_ne (tgt := 23) hC dX12_cut_13 (by decide) ?_ ?_
    · refine g_iload_n (q := 1) hC dX12_cut_23 rfl rfl ?_
      refine g_iconst (v := vI 2) hC dX12_cut_24 rfl ?_
      refine g_icmp_ne (tgt := 34) hC dX12_cut_25 (by decide) ?_ ?_
      · refine g_lload_n (q := 0) hC dX12_cut_34 rfl rfl ?_
        exact g_lret hC hR dX12_cut_35
      · refine g_lload_n (q := 0) hC dX12_cut_28 rfl rfl ?_
        refine g_l2iw hC dX12_cut_29 ?_
        refine g_i2l hC dX12_cut_30 ?_
        refine g_goto (tgt := 35) hC dX12_cut_31 (by decide) ?_
        exact g_lret hC hR dX12_cut_35
    · refine g_lload_n (q := 0) hC dX12_cut_16 rfl rfl ?_
      refine g_l2i hC dX12_cut_17 ?_
      refine g_i2s hC dX12_cut_18 ?_
      refine g_i2l hC dX12_cut_19 ?_
      refine g_goto (tgt := 35) hC dX12_cut_20 (by decide) ?_
      exact g_lret hC hR dX12_cut_35
  · refine g_lload_n (q := 0) hC dX12_cut_4 rfl rfl ?_
    refine g_l2i hC dX12_cut_5 ?_
    refine g_i2b hC dX12_cut_6 ?_
    refine g_i2l hC dX12_cut_7 ?_
    refine g_goto (tgt := 35) hC dX12_cut_8 (by decide) ?_
    exact g_lret hC hR dX12_cut_35
def B_X12_write_34 (x5 : Int) (X : Mem) : Option (Int × Mem) :=
  cl (f_X12_is x5 X) fun r3 X4 =>
  cz r3 (some (r3, X4))
def f_X12_write (p1 : Int) (p2 : Int) (p3 : Int) (X : Mem) : Option (Int × Mem) :=
  cl (f_X12_wrongPlace p1 p2 X) fun r1 X2 =>
  c1 r1 <| if ¬ r1 = 0 then
    B_X12_write_34   r1 X2
  else
    ax 4 p1 <|
    cl (f_X12_cut p3 (X2 123 p1) X2) fun r5 X6 =>
    ax 240 ((60 * p1) + p2) <| bd (ms X6 125 ((60 * p1) + p2) r5) fun X7 =>
    B_X12_write_34   r1 X7
set_option maxRecDepth 20000 in
theorem gB_X12_write_34 {C : Cx} {V : Ev} {L : List Kd} (hC : Ok C V cX12_write RX12 6 2 42) (hR : Rt C V L (some .boolean) rI) (hL : LKm L) (x5 : Int) (X : Mem)  : G C V L 0 0 6 34 [(0, vR V.1 120), (5, vI x5)] [] X (B_X12_write_34   x5 X) := by
  unfold B_X12_write_34
  refine g_aload_n (q := 0) hC dX12_write_34 rfl rfl rfl ?_
  refine g_iload (q := 1) hC dX12_write_35 rfl ?_
  refine g_callVI (As := [vI x5]) hC mv_X12_is wml_RX12_98 (k_X12_is _ V hL x5 X) cf_X12 (at_120 hL) (by decide) ⟨Nat.zero_le _, Nat.zero_le _⟩ rfl rfl ⟨Nat.le_of_ble_eq_true rfl, Nat.le_of_ble_eq_true rfl⟩ (Nat.le_of_ble_eq_true rfl) dX12_write_37 (fun r3 X4 => ?_)
  exact g_zret hC hR dX12_write_40
set_option maxRecDepth 20000 in
theorem k_X12_write (l : Launch) (V : Ev) {L : List Kd} (hL : LKm L) (p1 : Int) (p2 : Int) (p3 : Int) (X : Mem)  : Kt l V L yX12_write (.code yX12_write cX12_write 6 (some .boolean)) 2 42 [vR V.1 120, vI p1, vI p2, vJ p3] rI X (f_X12_write p1 p2 p3 X) := by
  refine kt_of (own := RX12) (lv0 := [(0, vR V.1 120), (1, vI p1), (2, vI p2), (3, vJ p3)]) (by decide) rfl (Nat.le_of_ble_eq_true rfl) rfl (fun C hCl hC hR => ?_)
  subst hCl
  unfold f_X12_write
  refine g_aload_n (q := 0) hC dX12_write_0 rfl rfl rfl ?_
  refine g_iload_n (q := 1) hC dX12_write_1 rfl rfl ?_
  refine g_iload_n (q := 2) hC dX12_write_2 rfl rfl ?_
  refine g_callVI (As := [vI p1, vI p2]) hC mv_X12_wrongPlace wml_RX12_105 (k_X12_wrongPlace _ V hL p1 p2 X) cf_X12 (at_120 hL) (by decide) ⟨Nat.zero_le _, Nat.zero_le _⟩ rfl rfl ⟨Nat.le_of_ble_eq_true rfl, Nat.le_of_ble_eq_true rfl⟩ (Nat.le_of_ble_eq_true rfl) dX12_write_3 (fun r1 X2 => ?_)
  refine g_istore hC dX12_write_6 (by decide) rfl ?_
  refine g_iload (q := 0) hC dX12_write_8 rfl ?_
  refine g_if_ne (tgt := 34) hC dX12_write_10 (by decide) ?_ ?_
  · refine g_sub [1, 0] rfl ?_
    exact gB_X12_write_34 hC hR hL  r1 X2
  · refine g_aload_n (q := 1) hC dX12_write_13 rfl rfl rfl ?_
    refine g_getS (k := 7) hC cf_X12 (at_120 hL) (by decide) rfl (by decide) (by decide) wf_RX12_27 dX12_write_14 ?_
    refine g_bipush (v := vI 60) hC dX12_write_17 rfl ?_
    refine g_iload_n (q := 2) hC dX12_write_19 rfl rfl ?_
    refine g_imul hC dX12_write_20 ?_
    refine g_iload_n (q := 3) hC dX12_write_21 rfl rfl ?_
    refine g_iadd hC dX12_write_22 ?_
    refine g_lload_n (q := 4) hC dX12_write_23 rfl rfl ?_
    refine g_aload_n (q := 1) hC dX12_write_24 rfl rfl rfl ?_
    refine g_getS (k := 5) hC cf_X12 (at_120 hL) (by decide) rfl (by decide) (by decide) wf_RX12_21 dX12_write_25 ?_
    refine g_iload_n (q := 2) hC dX12_write_28 rfl rfl ?_
    refine g_iald hC (at_123 hL) (by decide) dX12_write_29 ?_
    refine g_callSJ (As := [vJ p3, vI (X2 123 p1)]) hC mt_X12_cut wml_RX12_109 (k_X12_cut _ V hL p3 (X2 123 p1) X2) ⟨Nat.zero_le _, Nat.zero_le _⟩ rfl rfl ⟨Nat.le_of_ble_eq_true rfl, Nat.le_of_ble_eq_true rfl⟩ (Nat.le_of_ble_eq_true rfl) dX12_write_30 (fun r5 X6 => ?_)
    refine g_last hC (at_125 hL) (by decide) dX12_write_33 (fun X7 => ?_)
    refine g_sub [1, 0] rfl ?_
    exact gB_X12_write_34 hC hR hL  r1 X7
def f_X12_read (p1 : Int) (p2 : Int) (X : Mem) : Option (Int × Mem) :=
  cl (f_X12_wrongPlace p1 p2 X) fun r1 X2 =>
  bd (ms X2 120 2 r1) fun X3 =>
  c1 (X3 120 2) <| if (X3 120 2) ≤ 0 then
    ax 240 ((60 * p1) + p2) <|
    some (X3 125 ((60 * p1) + p2), X3)
  else
    some ((-1), X3)
set_option maxRecDepth 20000 in
theorem k_X12_read (l : Launch) (V : Ev) {L : List Kd} (hL : LKm L) (p1 : Int) (p2 : Int) (X : Mem)  : Kt l V L yX12_read (.code yX12_read cX12_read 3 (some .long)) 2 42 [vR V.1 120, vI p1, vI p2] rJ X (f_X12_read p1 p2 X) := by
  refine kt_of (own := RX12) (lv0 := [(0, vR V.1 120), (1, vI p1), (2, vI p2)]) (by decide) rfl (Nat.le_of_ble_eq_true rfl) rfl (fun C hCl hC hR => ?_)
  subst hCl
  unfold f_X12_read
  refine g_aload_n (q := 0) hC dX12_read_0 rfl rfl rfl ?_
  refine g_aload_n (q := 0) hC dX12_read_1 rfl rfl rfl ?_
  refine g_iload_n (q := 1) hC dX12_read_2 rfl rfl ?_
  refine g_iload_n (q := 2) hC dX12_read_3 rfl rfl ?_
  refine g_callVI (As := [vI p1, vI p2]) hC mv_X12_wrongPlace wml_RX12_105 (k_X12_wrongPlace _ V hL p1 p2 X) cf_X12 (at_120 hL) (by decide) ⟨Nat.zero_le _, Nat.zero_le _⟩ rfl rfl ⟨Nat.le_of_ble_eq_true rfl, Nat.le_of_ble_eq_true rfl⟩ (Nat.le_of_ble_eq_true rfl) dX12_read_4 (fun r1 X2 => ?_)
  refine g_putI (k := 2) (kz := 2) hC cf_X12 (at_120 hL) (by decide) rfl (by decide) rfl wf_RX12_92 rfl rfl dX12_read_7 (fun X3 => ?_)
  refine g_aload_n (q := 0) hC dX12_read_10 rfl rfl rfl ?_
  refine g_getI (k := 2) (kz := 2) hC cf_X12 (at_120 hL) (by decide) rfl (by decide) rfl wf_RX12_92 dX12_read_11 ?_
  refine g_if_le (tgt := 23) hC dX12_read_14 (by decide) ?_ ?_
  · refine g_aload_n (q := 0) hC dX12_read_23 rfl rfl rfl ?_
    refine g_getS (k := 7) hC cf_X12 (at_120 hL) (by decide) rfl (by decide) (by decide) wf_RX12_27 dX12_read_24 ?_
    refine g_bipush (v := vI 60) hC dX12_read_27 rfl ?_
    refine g_iload_n (q := 1) hC dX12_read_29 rfl rfl ?_
    refine g_imul hC dX12_read_30 ?_
    refine g_iload_n (q := 2) hC dX12_read_31 rfl rfl ?_
    refine g_iadd hC dX12_read_32 ?_
    refine g_lald hC (at_125 hL) (by decide) dX12_read_33 ?_
    exact g_lret hC hR dX12_read_34
  · refine g_ldc2 (n := (-1)) hC wk_RX12_113 rfl dX12_read_17 ?_
    refine g_goto (tgt := 34) hC dX12_read_20 (by decide) ?_
    exact g_lret hC hR dX12_read_34
def B_X12_pour_28  (X : Mem) : Option (Int × Mem) :=
  cl (f_X12_is 1 X) fun r3 X4 =>
  cz r3 (some (r3, X4))
def B_X12_pour_54  (X : Mem) : Option (Int × Mem) :=
  cl (f_X12_is 2 X) fun r7 X8 =>
  cz r7 (some (r7, X8))
def B_X12_pour_109  (X : Mem) : Option (Int × Mem) :=
  cl (f_X12_is 3 X) fun r9 X10 =>
  cz r9 (some (r9, X10))
def B_X12_pour_180  (X : Mem) : Option (Int × Mem) :=
  cl (f_X12_is 0 X) fun r11 X12 =>
  cz r11 (some (r11, X12))
def B_X12_pour_143 (go118 : Int → Int → Int → Int → Int → Int → Mem → Option (Int × Mem)) (x1 : Int) (x2 : Int) (x3 : Int) (x4 : Int) (x5 : Int) (x6 : Int) (s0 : Int) (X : Mem) : Option (Int × Mem) :=
  ax 240 (((60 * x1) + x2) + s0) <|
  ax 240 (((60 * x3) + x4) + s0) <| bd (ms X 125 (((60 * x3) + x4) + s0) (X 125 (((60 * x1) + x2) + s0))) fun X13 =>
  go118 x1 x2 x3 x4 x5 (x6 + 1) X13
def L_X12_pour_118 : Nat → Int → Int → Int → Int → Int → Int → Mem → Option (Int × Mem)
  | 0, _, _, _, _, _, _, _ => none
  | n + 1, x1, x2, x3, x4, x5, x6, X =>
    c2 x6 x5 <| if x5 ≤ x6 then
      B_X12_pour_180   X
    else
      c2 x2 x4 <| if x4 ≤ x2 then
        B_X12_pour_143  (fun x1 x2 x3 x4 x5 x6 X => L_X12_pour_118   n x1 x2 x3 x4 x5 x6 X) x1 x2 x3 x4 x5 x6 x6 X
      else
        B_X12_pour_143  (fun x1 x2 x3 x4 x5 x6 X => L_X12_pour_118   n x1 x2 x3 x4 x5 x6 X) x1 x2 x3 x4 x5 x6 ((x5 - 1) - x6) X
def f_X12_pour (p1 : Int) (p2 : Int) (p3 : Int) (p4 : Int) (p5 : Int) (X : Mem) : Option (Int × Mem) :=
  cl (f_X12_isTray p1 X) fun r1 X2 =>
  c1 r1 <| if r1 = 0 then
    B_X12_pour_28   X2
  else
    cl (f_X12_isTray p3 X2) fun r5 X6 =>
    c1 r5 <| if r5 = 0 then
      B_X12_pour_28   X6
    else
      c1 p2 <| if p2 < 0 then
        B_X12_pour_28   X6
      else
        c1 p4 <| if p4 < 0 then
          B_X12_pour_28   X6
        else
          c1 p5 <| if 0 ≤ p5 then
            ax 4 p1 <|
            c2 (X6 124 p1) ((-1)) <| if (X6 124 p1) = ((-1)) then
              B_X12_pour_54   X6
            else
              ax 4 p3 <|
              c2 (X6 124 p3) ((-1)) <| if ¬ (X6 124 p3) = ((-1)) then
                ax 4 p1 <|
                ax 4 p3 <|
                c2 (X6 123 p1) (X6 123 p3) <| if (X6 123 p1) = (X6 123 p3) then
                  ax 4 p1 <|
                  c2 p5 ((X6 124 p1) - p2) <| if ((X6 124 p1) - p2) < p5 then
                    B_X12_pour_109   X6
                  else
                    ax 4 p3 <|
                    c2 p5 ((X6 124 p3) - p4) <| if p5 ≤ ((X6 124 p3) - p4) then
                      L_X12_pour_118   KF p1 p2 p3 p4 p5 0 X6
                    else
                      B_X12_pour_109   X6
                else
                  cl (f_X12_is 8 X6) fun r14 X15 =>
                  cz r14 (some (r14, X15))
              else
                B_X12_pour_54   X6
          else
            B_X12_pour_28   X6
set_option maxRecDepth 20000 in
theorem gB_X12_pour_28 {C : Cx} {V : Ev} {L : List Kd} (hC : Ok C V cX12_pour RX12 8 1 21) (hR : Rt C V L (some .boolean) rI) (hL : LKm L)  (X : Mem)  : G C V L 0 0 8 28 [(0, vR V.1 120)] [] X (B_X12_pour_28    X) := by
  unfold B_X12_pour_28
  refine g_aload_n (q := 0) hC dX12_pour_28 rfl rfl rfl ?_
  refine g_iconst (v := vI 1) hC dX12_pour_29 rfl ?_
  refine g_callVI (As := [vI 1]) hC mv_X12_is wml_RX12_98 (k_X12_is _ V hL 1 X) cf_X12 (at_120 hL) (by decide) ⟨Nat.zero_le _, Nat.zero_le _⟩ rfl rfl ⟨Nat.le_of_ble_eq_true rfl, Nat.le_of_ble_eq_true rfl⟩ (Nat.le_of_ble_eq_true rfl) dX12_pour_30 (fun r3 X4 => ?_)
  exact g_zret hC hR dX12_pour_33
set_option maxRecDepth 20000 in
theorem gB_X12_pour_54 {C : Cx} {V : Ev} {L : List Kd} (hC : Ok C V cX12_pour RX12 8 1 21) (hR : Rt C V L (some .boolean) rI) (hL : LKm L)  (X : Mem)  : G C V L 0 0 8 54 [(0, vR V.1 120)] [] X (B_X12_pour_54    X) := by
  unfold B_X12_pour_54
  refine g_aload_n (q := 0) hC dX12_pour_54 rfl rfl rfl ?_
  refine g_iconst (v := vI 2) hC dX12_pour_55 rfl ?_
  refine g_callVI (As := [vI 2]) hC mv_X12_is wml_RX12_98 (k_X12_is _ V hL 2 X) cf_X12 (at_120 hL) (by decide) ⟨Nat.zero_le _, Nat.zero_le _⟩ rfl rfl ⟨Nat.le_of_ble_eq_true rfl, Nat.le_of_ble_eq_true rfl⟩ (Nat.le_of_ble_eq_true rfl) dX12_pour_56 (fun r7 X8 => ?_)
  exact g_zret hC hR dX12_pour_59
set_option maxRecDepth 20000 in
theorem gB_X12_pour_109 {C : Cx} {V : Ev} {L : List Kd} (hC : Ok C V cX12_pour RX12 8 1 21) (hR : Rt C V L (some .boolean) rI) (hL : LKm L)  (X : Mem)  : G C V L 0 0 8 109 [(0, vR V.1 120)] [] X (B_X12_pour_109    X) := by
  unfold B_X12_pour_109
  refine g_aload_n (q := 0) hC dX12_pour_109 rfl rfl rfl ?_
  refine g_iconst (v := vI 3) hC dX12_pour_110 rfl ?_
  refine g_callVI (As := [vI 3]) hC mv_X12_is wml_RX12_98 (k_X12_is _ V hL 3 X) cf_X12 (at_120 hL) (by decide) ⟨Nat.zero_le _, Nat.zero_le _⟩ rfl rfl ⟨Nat.le_of_ble_eq_true rfl, Nat.le_of_ble_eq_true rfl⟩ (Nat.le_of_ble_eq_true rfl) dX12_pour_111 (fun r9 X10 => ?_)
  exact g_zret hC hR dX12_pour_114
set_option maxRecDepth 20000 in
theorem gB_X12_pour_180 {C : Cx} {V : Ev} {L : List Kd} (hC : Ok C V cX12_pour RX12 8 1 21) (hR : Rt C V L (some .boolean) rI) (hL : LKm L)  (X : Mem)  : G C V L 0 0 8 180 [(0, vR V.1 120)] [] X (B_X12_pour_180    X) := by
  unfold B_X12_pour_180
  refine g_aload_n (q := 0) hC dX12_pour_180 rfl rfl rfl ?_
  refine g_iconst (v := vI 0) hC dX12_pour_181 rfl ?_
  refine g_callVI (As := [vI 0]) hC mv_X12_is wml_RX12_98 (k_X12_is _ V hL 0 X) cf_X12 (at_120 hL) (by decide) ⟨Nat.zero_le _, Nat.zero_le _⟩ rfl rfl ⟨Nat.le_of_ble_eq_true rfl, Nat.le_of_ble_eq_true rfl⟩ (Nat.le_of_ble_eq_true rfl) dX12_pour_182 (fun r11 X12 => ?_)
  exact g_zret hC hR dX12_pour_185
set_option maxRecDepth 20000 in
theorem gB_X12_pour_143 {C : Cx} {V : Ev} {L : List Kd} (hC : Ok C V cX12_pour RX12 8 1 21) (hR : Rt C V L (some .boolean) rI) (hL : LKm L) {go118 : Int → Int → Int → Int → Int → Int → Mem → Option (Int × Mem)} (hgo118 : ∀ (x1 : Int) (x2 : Int) (x3 : Int) (x4 : Int) (x5 : Int) (x6 : Int) (X : Mem), G C V L 0 0 8 118 [(0, vR V.1 120), (1, vI x1), (2, vI x2), (3, vI x3), (4, vI x4), (5, vI x5), (6, vI x6)] [] X (go118 x1 x2 x3 x4 x5 x6 X)) (x1 : Int) (x2 : Int) (x3 : Int) (x4 : Int) (x5 : Int) (x6 : Int) (s0 : Int) (X : Mem)  : G C V L 0 0 8 143 [(0, vR V.1 120), (1, vI x1), (2, vI x2), (3, vI x3), (4, vI x4), (5, vI x5), (6, vI x6)] [vI s0] X (B_X12_pour_143  go118 x1 x2 x3 x4 x5 x6 s0 X) := by
  unfold B_X12_pour_143
  refine g_istore hC dX12_pour_143 (by decide) rfl ?_
  refine g_aload_n (q := 1) hC dX12_pour_145 rfl rfl rfl ?_
  refine g_getS (k := 7) hC cf_X12 (at_120 hL) (by decide) rfl (by decide) (by decide) wf_RX12_27 dX12_pour_146 ?_
  refine g_bipush (v := vI 60) hC dX12_pour_149 rfl ?_
  refine g_iload_n (q := 4) hC dX12_pour_151 rfl rfl ?_
  refine g_imul hC dX12_pour_152 ?_
  refine g_iload (q := 5) hC dX12_pour_153 rfl ?_
  refine g_iadd hC dX12_pour_155 ?_
  refine g_iload (q := 0) hC dX12_pour_156 rfl ?_
  refine g_iadd hC dX12_pour_158 ?_
  refine g_aload_n (q := 1) hC dX12_pour_159 rfl rfl rfl ?_
  refine g_getS (k := 7) hC cf_X12 (at_120 hL) (by decide) rfl (by decide) (by decide) wf_RX12_27 dX12_pour_160 ?_
  refine g_bipush (v := vI 60) hC dX12_pour_163 rfl ?_
  refine g_iload_n (q := 2) hC dX12_pour_165 rfl rfl ?_
  refine g_imul hC dX12_pour_166 ?_
  refine g_iload_n (q := 3) hC dX12_pour_167 rfl rfl ?_
  refine g_iadd hC dX12_pour_168 ?_
  refine g_iload (q := 0) hC dX12_pour_169 rfl ?_
  refine g_iadd hC dX12_pour_171 ?_
  refine g_lald hC (at_125 hL) (by decide) dX12_pour_172 ?_
  refine g_last hC (at_125 hL) (by decide) dX12_pour_173 (fun X13 => ?_)
  refine g_iinc (q := 7) hC dX12_pour_174 rfl (by decide) rfl ?_
  refine g_goto (tgt := 118) hC dX12_pour_177 (by decide) ?_
  refine g_sub [2, 3, 4, 5, 6, 7, 0] rfl ?_
  exact hgo118 x1 x2 x3 x4 x5 (x6 + 1) X13
set_option maxRecDepth 20000 in
theorem gL_X12_pour_118 {C : Cx} {V : Ev} {L : List Kd} (hC : Ok C V cX12_pour RX12 8 1 21) (hR : Rt C V L (some .boolean) rI) (hL : LKm L) : ∀ (n : Nat) (x1 : Int) (x2 : Int) (x3 : Int) (x4 : Int) (x5 : Int) (x6 : Int) (X : Mem), G C V L 0 0 8 118 [(0, vR V.1 120), (1, vI x1), (2, vI x2), (3, vI x3), (4, vI x4), (5, vI x5), (6, vI x6)] [] X (L_X12_pour_118   n x1 x2 x3 x4 x5 x6 X) := by
  intro n
  induction n with
  | zero => intro x1 x2 x3 x4 x5 x6 X; exact g_none
  | succ n ih =>
    intro x1 x2 x3 x4 x5 x6 X
    rw [L_X12_pour_118]
    refine g_iload (q := 6) hC dX12_pour_118 rfl ?_
    refine g_iload (q := 5) hC dX12_pour_120 rfl ?_
    refine g_icmp_ge (tgt := 180) hC dX12_pour_122 (by decide) ?_ ?_
    · refine g_sub [0] rfl ?_
      exact gB_X12_pour_180 hC hR hL  X
    · refine g_iload_n (q := 2) hC dX12_pour_125 rfl rfl ?_
      refine g_iload (q := 4) hC dX12_pour_126 rfl ?_
      refine g_icmp_ge (tgt := 141) hC dX12_pour_128 (by decide) ?_ ?_
      · refine g_iload (q := 6) hC dX12_pour_141 rfl ?_
        exact gB_X12_pour_143 hC hR hL ih x1 x2 x3 x4 x5 x6 x6 X
      · refine g_iload (q := 5) hC dX12_pour_131 rfl ?_
        refine g_iconst (v := vI 1) hC dX12_pour_133 rfl ?_
        refine g_isub hC dX12_pour_134 ?_
        refine g_iload (q := 6) hC dX12_pour_135 rfl ?_
        refine g_isub hC dX12_pour_137 ?_
        refine g_goto (tgt := 143) hC dX12_pour_138 (by decide) ?_
        exact gB_X12_pour_143 hC hR hL ih x1 x2 x3 x4 x5 x6 ((x5 - 1) - x6) X
set_option maxRecDepth 20000 in
theorem k_X12_pour (l : Launch) (V : Ev) {L : List Kd} (hL : LKm L) (p1 : Int) (p2 : Int) (p3 : Int) (p4 : Int) (p5 : Int) (X : Mem)  : Kt l V L yX12_pour (.code yX12_pour cX12_pour 8 (some .boolean)) 1 21 [vR V.1 120, vI p1, vI p2, vI p3, vI p4, vI p5] rI X (f_X12_pour p1 p2 p3 p4 p5 X) := by
  refine kt_of (own := RX12) (lv0 := [(0, vR V.1 120), (1, vI p1), (2, vI p2), (3, vI p3), (4, vI p4), (5, vI p5)]) (by decide) rfl (Nat.le_of_ble_eq_true rfl) rfl (fun C hCl hC hR => ?_)
  subst hCl
  unfold f_X12_pour
  refine g_iload_n (q := 1) hC dX12_pour_0 rfl rfl ?_
  refine g_callSI (As := [vI p1]) hC mt_X12_isTray wml_RX12_102 (k_X12_isTray _ V hL p1 X) ⟨Nat.zero_le _, Nat.zero_le _⟩ rfl rfl ⟨Nat.le_of_ble_eq_true rfl, Nat.le_of_ble_eq_true rfl⟩ (Nat.le_of_ble_eq_true rfl) dX12_pour_1 (fun r1 X2 => ?_)
  refine g_if_eq (tgt := 28) hC dX12_pour_4 (by decide) ?_ ?_
  · refine g_sub [0] rfl ?_
    exact gB_X12_pour_28 hC hR hL  X2
  · refine g_iload_n (q := 3) hC dX12_pour_7 rfl rfl ?_
    refine g_callSI (As := [vI p3]) hC mt_X12_isTray wml_RX12_102 (k_X12_isTray _ V hL p3 X2) ⟨Nat.zero_le _, Nat.zero_le _⟩ rfl rfl ⟨Nat.le_of_ble_eq_true rfl, Nat.le_of_ble_eq_true rfl⟩ (Nat.le_of_ble_eq_true rfl) dX12_pour_8 (fun r5 X6 => ?_)
    refine g_if_eq (tgt := 28) hC dX12_pour_11 (by decide) ?_ ?_
    · refine g_sub [0] rfl ?_
      exact gB_X12_pour_28 hC hR hL  X6
    · refine g_iload_n (q := 2) hC dX12_pour_14 rfl rfl ?_
      refine g_if_lt (tgt := 28) hC dX12_pour_15 (by decide) ?_ ?_
      · refine g_sub [0] rfl ?_
        exact gB_X12_pour_28 hC hR hL  X6
      · refine g_iload (q := 4) hC dX12_pour_18 rfl ?_
        refine g_if_lt (tgt := 28) hC dX12_pour_20 (by decide) ?_ ?_
        · refine g_sub [0] rfl ?_
          exact gB_X12_pour_28 hC hR hL  X6
        · refine g_iload (q := 5) hC dX12_pour_23 rfl ?_
          refine g_if_ge (tgt := 34) hC dX12_pour_25 (by decide) ?_ ?_
          · refine g_aload_n (q := 0) hC dX12_pour_34 rfl rfl rfl ?_
            refine g_getS (k := 6) hC cf_X12 (at_120 hL) (by decide) rfl (by decide) (by decide) wf_RX12_24 dX12_pour_35 ?_
            refine g_iload_n (q := 1) hC dX12_pour_38 rfl rfl ?_
            refine g_iald hC (at_124 hL) (by decide) dX12_pour_39 ?_
            refine g_iconst (v := vI (-1)) hC dX12_pour_40 rfl ?_
            refine g_icmp_eq (tgt := 54) hC dX12_pour_41 (by decide) ?_ ?_
            · refine g_sub [0] rfl ?_
              exact gB_X12_pour_54 hC hR hL  X6
            · refine g_aload_n (q := 0) hC dX12_pour_44 rfl rfl rfl ?_
              refine g_getS (k := 6) hC cf_X12 (at_120 hL) (by decide) rfl (by decide) (by decide) wf_RX12_24 dX12_pour_45 ?_
              refine g_iload_n (q := 3) hC dX12_pour_48 rfl rfl ?_
              refine g_iald hC (at_124 hL) (by decide) dX12_pour_49 ?_
              refine g_iconst (v := vI (-1)) hC dX12_pour_50 rfl ?_
              refine g_icmp_ne (tgt := 60) hC dX12_pour_51 (by decide) ?_ ?_
              · refine g_aload_n (q := 0) hC dX12_pour_60 rfl rfl rfl ?_
                refine g_getS (k := 5) hC cf_X12 (at_120 hL) (by decide) rfl (by decide) (by decide) wf_RX12_21 dX12_pour_61 ?_
                refine g_iload_n (q := 1) hC dX12_pour_64 rfl rfl ?_
                refine g_iald hC (at_123 hL) (by decide) dX12_pour_65 ?_
                refine g_aload_n (q := 0) hC dX12_pour_66 rfl rfl rfl ?_
                refine g_getS (k := 5) hC cf_X12 (at_120 hL) (by decide) rfl (by decide) (by decide) wf_RX12_21 dX12_pour_67 ?_
                refine g_iload_n (q := 3) hC dX12_pour_70 rfl rfl ?_
                refine g_iald hC (at_123 hL) (by decide) dX12_pour_71 ?_
                refine g_icmp_eq (tgt := 82) hC dX12_pour_72 (by decide) ?_ ?_
                · refine g_iload (q := 5) hC dX12_pour_82 rfl ?_
                  refine g_aload_n (q := 0) hC dX12_pour_84 rfl rfl rfl ?_
                  refine g_getS (k := 6) hC cf_X12 (at_120 hL) (by decide) rfl (by decide) (by decide) wf_RX12_24 dX12_pour_85 ?_
                  refine g_iload_n (q := 1) hC dX12_pour_88 rfl rfl ?_
                  refine g_iald hC (at_124 hL) (by decide) dX12_pour_89 ?_
                  refine g_iload_n (q := 2) hC dX12_pour_90 rfl rfl ?_
                  refine g_isub hC dX12_pour_91 ?_
                  refine g_icmp_gt (tgt := 109) hC dX12_pour_92 (by decide) ?_ ?_
                  · refine g_sub [0] rfl ?_
                    exact gB_X12_pour_109 hC hR hL  X6
                  · refine g_iload (q := 5) hC dX12_pour_95 rfl ?_
                    refine g_aload_n (q := 0) hC dX12_pour_97 rfl rfl rfl ?_
                    refine g_getS (k := 6) hC cf_X12 (at_120 hL) (by decide) rfl (by decide) (by decide) wf_RX12_24 dX12_pour_98 ?_
                    refine g_iload_n (q := 3) hC dX12_pour_101 rfl rfl ?_
                    refine g_iald hC (at_124 hL) (by decide) dX12_pour_102 ?_
                    refine g_iload (q := 4) hC dX12_pour_103 rfl ?_
                    refine g_isub hC dX12_pour_105 ?_
                    refine g_icmp_le (tgt := 115) hC dX12_pour_106 (by decide) ?_ ?_
                    · refine g_iconst (v := vI 0) hC dX12_pour_115 rfl ?_
                      refine g_istore hC dX12_pour_116 (by decide) rfl ?_
                      refine g_sub [1, 2, 3, 4, 5, 6, 0] rfl ?_
                      exact gL_X12_pour_118 hC hR hL  KF p1 p2 p3 p4 p5 0 X6
                    · refine g_sub [0] rfl ?_
                      exact gB_X12_pour_109 hC hR hL  X6
                · refine g_aload_n (q := 0) hC dX12_pour_75 rfl rfl rfl ?_
                  refine g_bipush (v := vI 8) hC dX12_pour_76 rfl ?_
                  refine g_callVI (As := [vI 8]) hC mv_X12_is wml_RX12_98 (k_X12_is _ V hL 8 X6) cf_X12 (at_120 hL) (by decide) ⟨Nat.zero_le _, Nat.zero_le _⟩ rfl rfl ⟨Nat.le_of_ble_eq_true rfl, Nat.le_of_ble_eq_true rfl⟩ (Nat.le_of_ble_eq_true rfl) dX12_pour_78 (fun r14 X15 => ?_)
                  exact g_zret hC hR dX12_pour_81
              · refine g_sub [0] rfl ?_
                exact gB_X12_pour_54 hC hR hL  X6
          · refine g_sub [0] rfl ?_
            exact gB_X12_pour_28 hC hR hL  X6
def L_X12_four_3 : Nat → Int → Int → Mem → Option (Int × Mem)
  | 0, _, _, _ => none
  | n + 1, x1, x2, X =>
    c1 x2 <| if x2 < 0 then
      some (0, X)
    else
      ax 900 (X 120 10) <| bd (ms X 126 (X 120 10) (w8 (w8 (ishr x1 x2)))) fun X1 =>
      bd (ms X1 120 10 ((X1 120 10) + 1)) fun X2 =>
      L_X12_four_3   n x1 (x2 + (-8)) X2
def f_X12_four (p1 : Int) (X : Mem) : Option (Int × Mem) :=
  L_X12_four_3   KF p1 24 X
set_option maxRecDepth 20000 in
theorem gL_X12_four_3 {C : Cx} {V : Ev} {L : List Kd} (hC : Ok C V cX12_four RX12 3 0 0) (hR : Rt C V L none rV) (hL : LKm L) : ∀ (n : Nat) (x1 : Int) (x2 : Int) (X : Mem), G C V L 0 0 3 3 [(0, vR V.1 120), (1, vI x1), (2, vI x2)] [] X (L_X12_four_3   n x1 x2 X) := by
  intro n
  induction n with
  | zero => intro x1 x2 X; exact g_none
  | succ n ih =>
    intro x1 x2 X
    rw [L_X12_four_3]
    refine g_iload_n (q := 2) hC dX12_four_3 rfl rfl ?_
    refine g_if_lt (tgt := 36) hC dX12_four_4 (by decide) ?_ ?_
    · exact g_vret hC hR dX12_four_36
    · refine g_aload_n (q := 0) hC dX12_four_7 rfl rfl rfl ?_
      refine g_getS (k := 8) hC cf_X12 (at_120 hL) (by decide) rfl (by decide) (by decide) wf_RX12_30 dX12_four_8 ?_
      refine g_aload_n (q := 0) hC dX12_four_11 rfl rfl rfl ?_
      refine g_getI (k := 10) (kz := 10) hC cf_X12 (at_120 hL) (by decide) rfl (by decide) rfl wf_RX12_115 dX12_four_12 ?_
      refine g_iload_n (q := 1) hC dX12_four_15 rfl rfl ?_
      refine g_iload_n (q := 2) hC dX12_four_16 rfl rfl ?_
      refine g_ishr hC dX12_four_17 ?_
      refine g_i2b hC dX12_four_18 ?_
      refine g_bast hC (at_126 hL) (by decide) dX12_four_19 (fun X1 => ?_)
      refine g_aload_n (q := 0) hC dX12_four_20 rfl rfl rfl ?_
      refine g_dup hC dX12_four_21 rfl ?_
      refine g_getI (k := 10) (kz := 10) hC cf_X12 (at_120 hL) (by decide) rfl (by decide) rfl wf_RX12_115 dX12_four_22 ?_
      refine g_iconst (v := vI 1) hC dX12_four_25 rfl ?_
      refine g_iadd hC dX12_four_26 ?_
      refine g_putI (k := 10) (kz := 10) hC cf_X12 (at_120 hL) (by decide) rfl (by decide) rfl wf_RX12_115 rfl rfl dX12_four_27 (fun X2 => ?_)
      refine g_iinc (q := 2) hC dX12_four_30 rfl (by decide) rfl ?_
      refine g_goto (tgt := 3) hC dX12_four_33 (by decide) ?_
      refine g_sub [1, 2, 0] rfl ?_
      exact ih x1 (x2 + (-8)) X2
set_option maxRecDepth 20000 in
theorem k_X12_four (l : Launch) (V : Ev) {L : List Kd} (hL : LKm L) (p1 : Int) (X : Mem)  : Kt l V L yX12_four (.code yX12_four cX12_four 3 none) 0 0 [vR V.1 120, vI p1] rV X (f_X12_four p1 X) := by
  refine kt_of (own := RX12) (lv0 := [(0, vR V.1 120), (1, vI p1)]) (by decide) rfl (Nat.le_of_ble_eq_true rfl) rfl (fun C hCl hC hR => ?_)
  subst hCl
  unfold f_X12_four
  refine g_bipush (v := vI 24) hC dX12_four_0 rfl ?_
  refine g_istore_n hC dX12_four_2 rfl (by decide) rfl ?_
  refine g_sub [1, 2, 0] rfl ?_
  exact gL_X12_four_3 hC hR hL  KF p1 24 X
def f_X12_feed (p1 : Int) (p2 : Int) (p3 : Int) (p4 : Int) (p5 : Int) (X : Mem) : Option (Int × Mem) :=
  c2 ((X 120 10) + 20) 900 <| if ((X 120 10) + 20) ≤ 900 then
    cl (f_X12_four p1 X) fun _ X2 =>
    cl (f_X12_four p2 X2) fun _ X4 =>
    cl (f_X12_four p3 X4) fun _ X6 =>
    cl (f_X12_four p4 X6) fun _ X8 =>
    cl (f_X12_four p5 X8) fun _ X10 =>
    some (X10 120 10, X10)
  else
    some ((-1), X)
set_option maxRecDepth 20000 in
theorem k_X12_feed (l : Launch) (V : Ev) {L : List Kd} (hL : LKm L) (p1 : Int) (p2 : Int) (p3 : Int) (p4 : Int) (p5 : Int) (X : Mem)  : Kt l V L yX12_feed (.code yX12_feed cX12_feed 6 (some .int)) 1 22 [vR V.1 120, vI p1, vI p2, vI p3, vI p4, vI p5] rI X (f_X12_feed p1 p2 p3 p4 p5 X) := by
  refine kt_of (own := RX12) (lv0 := [(0, vR V.1 120), (1, vI p1), (2, vI p2), (3, vI p3), (4, vI p4), (5, vI p5)]) (by decide) rfl (Nat.le_of_ble_eq_true rfl) rfl (fun C hCl hC hR => ?_)
  subst hCl
  unfold f_X12_feed
  refine g_aload_n (q := 0) hC dX12_feed_0 rfl rfl rfl ?_
  refine g_getI (k := 10) (kz := 10) hC cf_X12 (at_120 hL) (by decide) rfl (by decide) rfl wf_RX12_115 dX12_feed_1 ?_
  refine g_bipush (v := vI 20) hC dX12_feed_4 rfl ?_
  refine g_iadd hC dX12_feed_6 ?_
  refine g_sipush (v := vI 900) hC dX12_feed_7 rfl ?_
  refine g_icmp_le (tgt := 15) hC dX12_feed_10 (by decide) ?_ ?_
  · refine g_aload_n (q := 0) hC dX12_feed_15 rfl rfl rfl ?_
    refine g_iload_n (q := 1) hC dX12_feed_16 rfl rfl ?_
    refine g_callVV (As := [vI p1]) hC mv_X12_four wml_RX12_118 (k_X12_four _ V hL p1 X) cf_X12 (at_120 hL) (by decide) ⟨Nat.zero_le _, Nat.zero_le _⟩ rfl rfl ⟨Nat.le_of_ble_eq_true rfl, Nat.le_of_ble_eq_true rfl⟩ (Nat.le_of_ble_eq_true rfl) dX12_feed_17 (fun _ X2 => ?_)
    refine g_aload_n (q := 0) hC dX12_feed_20 rfl rfl rfl ?_
    refine g_iload_n (q := 2) hC dX12_feed_21 rfl rfl ?_
    refine g_callVV (As := [vI p2]) hC mv_X12_four wml_RX12_118 (k_X12_four _ V hL p2 X2) cf_X12 (at_120 hL) (by decide) ⟨Nat.zero_le _, Nat.zero_le _⟩ rfl rfl ⟨Nat.le_of_ble_eq_true rfl, Nat.le_of_ble_eq_true rfl⟩ (Nat.le_of_ble_eq_true rfl) dX12_feed_22 (fun _ X4 => ?_)
    refine g_aload_n (q := 0) hC dX12_feed_25 rfl rfl rfl ?_
    refine g_iload_n (q := 3) hC dX12_feed_26 rfl rfl ?_
    refine g_callVV (As := [vI p3]) hC mv_X12_four wml_RX12_118 (k_X12_four _ V hL p3 X4) cf_X12 (at_120 hL) (by decide) ⟨Nat.zero_le _, Nat.zero_le _⟩ rfl rfl ⟨Nat.le_of_ble_eq_true rfl, Nat.le_of_ble_eq_true rfl⟩ (Nat.le_of_ble_eq_true rfl) dX12_feed_27 (fun _ X6 => ?_)
    refine g_aload_n (q := 0) hC dX12_feed_30 rfl rfl rfl ?_
    refine g_iload (q := 4) hC dX12_feed_31 rfl ?_
    refine g_callVV (As := [vI p4]) hC mv_X12_four wml_RX12_118 (k_X12_four _ V hL p4 X6) cf_X12 (at_120 hL) (by decide) ⟨Nat.zero_le _, Nat.zero_le _⟩ rfl rfl ⟨Nat.le_of_ble_eq_true rfl, Nat.le_of_ble_eq_true rfl⟩ (Nat.le_of_ble_eq_true rfl) dX12_feed_33 (fun _ X8 => ?_)
    refine g_aload_n (q := 0) hC dX12_feed_36 rfl rfl rfl ?_
    refine g_iload (q := 5) hC dX12_feed_37 rfl ?_
    refine g_callVV (As := [vI p5]) hC mv_X12_four wml_RX12_118 (k_X12_four _ V hL p5 X8) cf_X12 (at_120 hL) (by decide) ⟨Nat.zero_le _, Nat.zero_le _⟩ rfl rfl ⟨Nat.le_of_ble_eq_true rfl, Nat.le_of_ble_eq_true rfl⟩ (Nat.le_of_ble_eq_true rfl) dX12_feed_39 (fun _ X10 => ?_)
    refine g_aload_n (q := 0) hC dX12_feed_42 rfl rfl rfl ?_
    refine g_getI (k := 10) (kz := 10) hC cf_X12 (at_120 hL) (by decide) rfl (by decide) rfl wf_RX12_115 dX12_feed_43 ?_
    exact g_iret hC hR dX12_feed_46
  · refine g_iconst (v := vI (-1)) hC dX12_feed_13 rfl ?_
    exact g_iret hC hR dX12_feed_14
def f_X12_byteAt (p1 : Int) (X : Mem) : Option (Int × Mem) :=
  c2 p1 (X 120 11) <| if (X 120 11) ≤ p1 then
    some ((-1), X)
  else
    ax 900 p1 <|
    some (ia (X 127 p1) 255, X)
set_option maxRecDepth 20000 in
theorem k_X12_byteAt (l : Launch) (V : Ev) {L : List Kd} (hL : LKm L) (p1 : Int) (X : Mem)  : Kt l V L yX12_byteAt (.code yX12_byteAt cX12_byteAt 2 (some .int)) 0 0 [vR V.1 120, vI p1] rI X (f_X12_byteAt p1 X) := by
  refine kt_of (own := RX12) (lv0 := [(0, vR V.1 120), (1, vI p1)]) (by decide) rfl (Nat.le_of_ble_eq_true rfl) rfl (fun C hCl hC hR => ?_)
  subst hCl
  unfold f_X12_byteAt
  refine g_iload_n (q := 1) hC dX12_byteAt_0 rfl rfl ?_
  refine g_aload_n (q := 0) hC dX12_byteAt_1 rfl rfl rfl ?_
  refine g_getI (k := 11) (kz := 11) hC cf_X12 (at_120 hL) (by decide) rfl (by decide) rfl wf_RX12_121 dX12_byteAt_2 ?_
  refine g_icmp_ge (tgt := 21) hC dX12_byteAt_5 (by decide) ?_ ?_
  · refine g_iconst (v := vI (-1)) hC dX12_byteAt_21 rfl ?_
    exact g_iret hC hR dX12_byteAt_22
  · refine g_aload_n (q := 0) hC dX12_byteAt_8 rfl rfl rfl ?_
    refine g_getS (k := 9) hC cf_X12 (at_120 hL) (by decide) rfl (by decide) (by decide) wf_RX12_34 dX12_byteAt_9 ?_
    refine g_iload_n (q := 1) hC dX12_byteAt_12 rfl rfl ?_
    refine g_bald hC (at_127 hL) (by decide) dX12_byteAt_13 ?_
    refine g_sipush (v := vI 255) hC dX12_byteAt_14 rfl ?_
    refine g_iand hC dX12_byteAt_17 ?_
    refine g_goto (tgt := 22) hC dX12_byteAt_18 (by decide) ?_
    exact g_iret hC hR dX12_byteAt_22
def f_X12_isSmall (p1 : Int) (X : Mem) : Option (Int × Mem) :=
  c2 p1 97 <| if p1 < 97 then
    some (0, X)
  else
    c2 p1 122 <| if 122 < p1 then
      some (0, X)
    else
      some (1, X)
set_option maxRecDepth 20000 in
theorem k_X12_isSmall (l : Launch) (V : Ev) {L : List Kd} (hL : LKm L) (p1 : Int) (X : Mem)  : Kt l V L yX12_isSmall (.code yX12_isSmall cX12_isSmall 1 (some .boolean)) 0 0 [vI p1] rI X (f_X12_isSmall p1 X) := by
  refine kt_of (own := RX12) (lv0 := [(0, vI p1)]) (by decide) rfl (Nat.le_of_ble_eq_true rfl) rfl (fun C hCl hC hR => ?_)
  subst hCl
  unfold f_X12_isSmall
  refine g_iload_n (q := 0) hC dX12_isSmall_0 rfl rfl ?_
  refine g_bipush (v := vI 97) hC dX12_isSmall_1 rfl ?_
  refine g_icmp_lt (tgt := 16) hC dX12_isSmall_3 (by decide) ?_ ?_
  · refine g_iconst (v := vI 0) hC dX12_isSmall_16 rfl ?_
    exact g_zret1 hC hR (by decide) dX12_isSmall_17
  · refine g_iload_n (q := 0) hC dX12_isSmall_6 rfl rfl ?_
    refine g_bipush (v := vI 122) hC dX12_isSmall_7 rfl ?_
    refine g_icmp_gt (tgt := 16) hC dX12_isSmall_9 (by decide) ?_ ?_
    · refine g_iconst (v := vI 0) hC dX12_isSmall_16 rfl ?_
      exact g_zret1 hC hR (by decide) dX12_isSmall_17
    · refine g_iconst (v := vI 1) hC dX12_isSmall_12 rfl ?_
      refine g_goto (tgt := 17) hC dX12_isSmall_13 (by decide) ?_
      exact g_zret1 hC hR (by decide) dX12_isSmall_17
def f_X12_isDigit (p1 : Int) (X : Mem) : Option (Int × Mem) :=
  c2 p1 48 <| if p1 < 48 then
    some (0, X)
  else
    c2 p1 57 <| if 57 < p1 then
      some (0, X)
    else
      some (1, X)
set_option maxRecDepth 20000 in
theorem k_X12_isDigit (l : Launch) (V : Ev) {L : List Kd} (hL : LKm L) (p1 : Int) (X : Mem)  : Kt l V L yX12_isDigit (.code yX12_isDigit cX12_isDigit 1 (some .boolean)) 0 0 [vI p1] rI X (f_X12_isDigit p1 X) := by
  refine kt_of (own := RX12) (lv0 := [(0, vI p1)]) (by decide) rfl (Nat.le_of_ble_eq_true rfl) rfl (fun C hCl hC hR => ?_)
  subst hCl
  unfold f_X12_isDigit
  refine g_iload_n (q := 0) hC dX12_isDigit_0 rfl rfl ?_
  refine g_bipush (v := vI 48) hC dX12_isDigit_1 rfl ?_
  refine g_icmp_lt (tgt := 16) hC dX12_isDigit_3 (by decide) ?_ ?_
  · refine g_iconst (v := vI 0) hC dX12_isDigit_16 rfl ?_
    exact g_zret1 hC hR (by decide) dX12_isDigit_17
  · refine g_iload_n (q := 0) hC dX12_isDigit_6 rfl rfl ?_
    refine g_bipush (v := vI 57) hC dX12_isDigit_7 rfl ?_
    refine g_icmp_gt (tgt := 16) hC dX12_isDigit_9 (by decide) ?_ ?_
    · refine g_iconst (v := vI 0) hC dX12_isDigit_16 rfl ?_
      exact g_zret1 hC hR (by decide) dX12_isDigit_17
    · refine g_iconst (v := vI 1) hC dX12_isDigit_12 rfl ?_
      refine g_goto (tgt := 17) hC dX12_isDigit_13 (by decide) ?_
      exact g_zret1 hC hR (by decide) dX12_isDigit_17
def B_X12_ahead_26 (go0 : Mem → Option (Int × Mem))  (X : Mem) : Option (Int × Mem) :=
  bd (ms X 120 14 ((X 120 14) + 1)) fun X3 =>
  go0 X3
def B_X12_ahead_230 (s0 : Int) (X : Mem) : Option (Int × Mem) :=
  bd (ms X 120 12 s0) fun X15 =>
  some (0, X15)
def B_X12_ahead_202 (s0 : Int) (X : Mem) : Option (Int × Mem) :=
  bd (ms X 120 12 s0) fun X21 =>
  some (0, X21)
def B_X12_ahead_183  (X : Mem) : Option (Int × Mem) :=
  c2 ((X 120 14) - (X 120 13)) 4 <| if ((X 120 14) - (X 120 13)) ≤ 4 then
    B_X12_ahead_202   3 X
  else
    B_X12_ahead_202   1 X
def L_X12_ahead_128 : Nat → Mem → Option (Int × Mem)
  | 0, _ => none
  | n + 1, X =>
    cl (f_X12_byteAt (X 120 14) X) fun r17 X18 =>
    cl (f_X12_isDigit r17 X18) fun r19 X20 =>
    c1 r19 <| if r19 = 0 then
      B_X12_ahead_183   X20
    else
      cl (f_X12_byteAt (X20 120 14) X20) fun r22 X23 =>
      c2 100000 (((10 * (X20 120 15)) + r22) - 48) <|
      bd (ms X23 120 15 (min 100000 (((10 * (X20 120 15)) + r22) - 48))) fun X24 =>
      bd (ms X24 120 14 ((X24 120 14) + 1)) fun X25 =>
      L_X12_ahead_128   n X25
def B_X12_ahead_108  (X : Mem) : Option (Int × Mem) :=
  bd (ms X 120 12 2) fun X30 =>
  some (0, X30)
def L_X12_ahead_81 : Nat → Mem → Option (Int × Mem)
  | 0, _ => none
  | n + 1, X =>
    cl (f_X12_byteAt (X 120 14) X) fun r26 X27 =>
    cl (f_X12_isSmall r26 X27) fun r28 X29 =>
    c1 r28 <| if r28 = 0 then
      B_X12_ahead_108   X29
    else
      bd (ms X29 120 14 ((X29 120 14) + 1)) fun X31 =>
      L_X12_ahead_81   n X31
def B_X12_ahead_39  (X : Mem) : Option (Int × Mem) :=
  bd (ms X 120 13 (X 120 14)) fun X6 =>
  cl (f_X12_byteAt (X6 120 14) X6) fun r7 X8 =>
  bd (ms X8 120 15 r7) fun X9 =>
  c2 r7 ((-1)) <| if ¬ r7 = ((-1)) then
    cl (f_X12_isSmall r7 X9) fun r10 X11 =>
    c1 r10 <| if r10 = 0 then
      cl (f_X12_isDigit r7 X11) fun r12 X13 =>
      c1 r12 <| if r12 = 0 then
        bd (ms X13 120 14 ((X13 120 14) + 1)) fun X14 =>
        c2 r7 59 <| if ¬ r7 = 59 then
          B_X12_ahead_230   1 X14
        else
          B_X12_ahead_230   4 X14
      else
        bd (ms X13 120 15 0) fun X16 =>
        L_X12_ahead_128   KF X16
    else
      L_X12_ahead_81   KF X11
  else
    bd (ms X9 120 12 0) fun X32 =>
    some (0, X32)
def L_X12_ahead_0 : Nat → Mem → Option (Int × Mem)
  | 0, _ => none
  | n + 1, X =>
    cl (f_X12_byteAt (X 120 14) X) fun r1 X2 =>
    c2 r1 32 <| if r1 = 32 then
      B_X12_ahead_26  (fun  X => L_X12_ahead_0   n  X) X2
    else
      cl (f_X12_byteAt (X2 120 14) X2) fun r4 X5 =>
      c2 r4 10 <| if ¬ r4 = 10 then
        B_X12_ahead_39   X5
      else
        B_X12_ahead_26  (fun  X => L_X12_ahead_0   n  X) X5
def f_X12_ahead  (X : Mem) : Option (Int × Mem) :=
  L_X12_ahead_0   KF X
set_option maxRecDepth 20000 in
theorem gB_X12_ahead_26 {C : Cx} {V : Ev} {L : List Kd} (hC : Ok C V cX12_ahead RX12 2 1 21) (hR : Rt C V L none rV) (hL : LKm L) {go0 : Mem → Option (Int × Mem)} (hgo0 : ∀ (X : Mem), G C V L 0 0 2 0 [(0, vR V.1 120)] [] X (go0  X))  (X : Mem)  : G C V L 0 0 2 26 [(0, vR V.1 120)] [] X (B_X12_ahead_26  go0  X) := by
  unfold B_X12_ahead_26
  refine g_aload_n (q := 0) hC dX12_ahead_26 rfl rfl rfl ?_
  refine g_dup hC dX12_ahead_27 rfl ?_
  refine g_getI (k := 14) (kz := 14) hC cf_X12 (at_120 hL) (by decide) rfl (by decide) rfl wf_RX12_124 dX12_ahead_28 ?_
  refine g_iconst (v := vI 1) hC dX12_ahead_31 rfl ?_
  refine g_iadd hC dX12_ahead_32 ?_
  refine g_putI (k := 14) (kz := 14) hC cf_X12 (at_120 hL) (by decide) rfl (by decide) rfl wf_RX12_124 rfl rfl dX12_ahead_33 (fun X3 => ?_)
  refine g_goto (tgt := 0) hC dX12_ahead_36 (by decide) ?_
  exact hgo0 X3
set_option maxRecDepth 20000 in
theorem gB_X12_ahead_230 {C : Cx} {V : Ev} {L : List Kd} (hC : Ok C V cX12_ahead RX12 2 1 21) (hR : Rt C V L none rV) (hL : LKm L) (s0 : Int) (X : Mem)  : G C V L 0 0 2 230 [] [vI s0, vR V.1 120] X (B_X12_ahead_230   s0 X) := by
  unfold B_X12_ahead_230
  refine g_putI (k := 12) (kz := 12) hC cf_X12 (at_120 hL) (by decide) rfl (by decide) rfl wf_RX12_137 rfl rfl dX12_ahead_230 (fun X15 => ?_)
  exact g_vret hC hR dX12_ahead_233
set_option maxRecDepth 20000 in
theorem gB_X12_ahead_202 {C : Cx} {V : Ev} {L : List Kd} (hC : Ok C V cX12_ahead RX12 2 1 21) (hR : Rt C V L none rV) (hL : LKm L) (s0 : Int) (X : Mem)  : G C V L 0 0 2 202 [] [vI s0, vR V.1 120] X (B_X12_ahead_202   s0 X) := by
  unfold B_X12_ahead_202
  refine g_putI (k := 12) (kz := 12) hC cf_X12 (at_120 hL) (by decide) rfl (by decide) rfl wf_RX12_137 rfl rfl dX12_ahead_202 (fun X21 => ?_)
  refine g_goto (tgt := 233) hC dX12_ahead_205 (by decide) ?_
  exact g_vret hC hR dX12_ahead_233
set_option maxRecDepth 20000 in
theorem gB_X12_ahead_183 {C : Cx} {V : Ev} {L : List Kd} (hC : Ok C V cX12_ahead RX12 2 1 21) (hR : Rt C V L none rV) (hL : LKm L)  (X : Mem)  : G C V L 0 0 2 183 [(0, vR V.1 120)] [] X (B_X12_ahead_183    X) := by
  unfold B_X12_ahead_183
  refine g_aload_n (q := 0) hC dX12_ahead_183 rfl rfl rfl ?_
  refine g_aload_n (q := 0) hC dX12_ahead_184 rfl rfl rfl ?_
  refine g_getI (k := 14) (kz := 14) hC cf_X12 (at_120 hL) (by decide) rfl (by decide) rfl wf_RX12_124 dX12_ahead_185 ?_
  refine g_aload_n (q := 0) hC dX12_ahead_188 rfl rfl rfl ?_
  refine g_getI (k := 13) (kz := 13) hC cf_X12 (at_120 hL) (by decide) rfl (by decide) rfl wf_RX12_131 dX12_ahead_189 ?_
  refine g_isub hC dX12_ahead_192 ?_
  refine g_iconst (v := vI 4) hC dX12_ahead_193 rfl ?_
  refine g_icmp_le (tgt := 201) hC dX12_ahead_194 (by decide) ?_ ?_
  · refine g_iconst (v := vI 3) hC dX12_ahead_201 rfl ?_
    refine g_sub [] rfl ?_
    exact gB_X12_ahead_202 hC hR hL  3 X
  · refine g_iconst (v := vI 1) hC dX12_ahead_197 rfl ?_
    refine g_goto (tgt := 202) hC dX12_ahead_198 (by decide) ?_
    refine g_sub [] rfl ?_
    exact gB_X12_ahead_202 hC hR hL  1 X
set_option maxRecDepth 20000 in
theorem gL_X12_ahead_128 {C : Cx} {V : Ev} {L : List Kd} (hC : Ok C V cX12_ahead RX12 2 1 21) (hR : Rt C V L none rV) (hL : LKm L) : ∀ (n : Nat)  (X : Mem), G C V L 0 0 2 128 [(0, vR V.1 120)] [] X (L_X12_ahead_128   n  X) := by
  intro n
  induction n with
  | zero => intro X; exact g_none
  | succ n ih =>
    intro X
    rw [L_X12_ahead_128]
    refine g_aload_n (q := 0) hC dX12_ahead_128 rfl rfl rfl ?_
    refine g_aload_n (q := 0) hC dX12_ahead_129 rfl rfl rfl ?_
    refine g_getI (k := 14) (kz := 14) hC cf_X12 (at_120 hL) (by decide) rfl (by decide) rfl wf_RX12_124 dX12_ahead_130 ?_
    refine g_callVI (As := [vI (X 120 14)]) hC mv_X12_byteAt wml_RX12_127 (k_X12_byteAt _ V hL (X 120 14) X) cf_X12 (at_120 hL) (by decide) ⟨Nat.zero_le _, Nat.zero_le _⟩ rfl rfl ⟨Nat.le_of_ble_eq_true rfl, Nat.le_of_ble_eq_true rfl⟩ (Nat.le_of_ble_eq_true rfl) dX12_ahead_133 (fun r17 X18 => ?_)
    refine g_callSI (As := [vI r17]) hC mt_X12_isDigit wml_RX12_143 (k_X12_isDigit _ V hL r17 X18) ⟨Nat.zero_le _, Nat.zero_le _⟩ rfl rfl ⟨Nat.le_of_ble_eq_true rfl, Nat.le_of_ble_eq_true rfl⟩ (Nat.le_of_ble_eq_true rfl) dX12_ahead_136 (fun r19 X20 => ?_)
    refine g_if_eq (tgt := 183) hC dX12_ahead_139 (by decide) ?_ ?_
    · exact gB_X12_ahead_183 hC hR hL  X20
    · refine g_aload_n (q := 0) hC dX12_ahead_142 rfl rfl rfl ?_
      refine g_ldc (n := 100000) hC wk_RX12_146 rfl dX12_ahead_143 ?_
      refine g_bipush (v := vI 10) hC dX12_ahead_145 rfl ?_
      refine g_aload_n (q := 0) hC dX12_ahead_147 rfl rfl rfl ?_
      refine g_getI (k := 15) (kz := 15) hC cf_X12 (at_120 hL) (by decide) rfl (by decide) rfl wf_RX12_134 dX12_ahead_148 ?_
      refine g_imul hC dX12_ahead_151 ?_
      refine g_aload_n (q := 0) hC dX12_ahead_152 rfl rfl rfl ?_
      refine g_aload_n (q := 0) hC dX12_ahead_153 rfl rfl rfl ?_
      refine g_getI (k := 14) (kz := 14) hC cf_X12 (at_120 hL) (by decide) rfl (by decide) rfl wf_RX12_124 dX12_ahead_154 ?_
      refine g_callVI (As := [vI (X20 120 14)]) hC mv_X12_byteAt wml_RX12_127 (k_X12_byteAt _ V hL (X20 120 14) X20) cf_X12 (at_120 hL) (by decide) ⟨Nat.zero_le _, Nat.zero_le _⟩ rfl rfl ⟨Nat.le_of_ble_eq_true rfl, Nat.le_of_ble_eq_true rfl⟩ (Nat.le_of_ble_eq_true rfl) dX12_ahead_157 (fun r22 X23 => ?_)
      refine g_iadd hC dX12_ahead_160 ?_
      refine g_bipush (v := vI 48) hC dX12_ahead_161 rfl ?_
      refine g_isub hC dX12_ahead_163 ?_
      refine g_mmin hC wml_RX12_147 (Nat.le_of_ble_eq_true rfl) (Nat.le_of_ble_eq_true rfl) ⟨Nat.zero_le _, Nat.zero_le _⟩ dX12_ahead_164 ?_
      refine g_putI (k := 15) (kz := 15) hC cf_X12 (at_120 hL) (by decide) rfl (by decide) rfl wf_RX12_134 rfl rfl dX12_ahead_167 (fun X24 => ?_)
      refine g_aload_n (q := 0) hC dX12_ahead_170 rfl rfl rfl ?_
      refine g_dup hC dX12_ahead_171 rfl ?_
      refine g_getI (k := 14) (kz := 14) hC cf_X12 (at_120 hL) (by decide) rfl (by decide) rfl wf_RX12_124 dX12_ahead_172 ?_
      refine g_iconst (v := vI 1) hC dX12_ahead_175 rfl ?_
      refine g_iadd hC dX12_ahead_176 ?_
      refine g_putI (k := 14) (kz := 14) hC cf_X12 (at_120 hL) (by decide) rfl (by decide) rfl wf_RX12_124 rfl rfl dX12_ahead_177 (fun X25 => ?_)
      refine g_goto (tgt := 128) hC dX12_ahead_180 (by decide) ?_
      exact ih X25
set_option maxRecDepth 20000 in
theorem gB_X12_ahead_108 {C : Cx} {V : Ev} {L : List Kd} (hC : Ok C V cX12_ahead RX12 2 1 21) (hR : Rt C V L none rV) (hL : LKm L)  (X : Mem)  : G C V L 0 0 2 108 [(0, vR V.1 120)] [] X (B_X12_ahead_108    X) := by
  unfold B_X12_ahead_108
  refine g_aload_n (q := 0) hC dX12_ahead_108 rfl rfl rfl ?_
  refine g_iconst (v := vI 2) hC dX12_ahead_109 rfl ?_
  refine g_putI (k := 12) (kz := 12) hC cf_X12 (at_120 hL) (by decide) rfl (by decide) rfl wf_RX12_137 rfl rfl dX12_ahead_110 (fun X30 => ?_)
  refine g_goto (tgt := 233) hC dX12_ahead_113 (by decide) ?_
  exact g_vret hC hR dX12_ahead_233
set_option maxRecDepth 20000 in
theorem gL_X12_ahead_81 {C : Cx} {V : Ev} {L : List Kd} (hC : Ok C V cX12_ahead RX12 2 1 21) (hR : Rt C V L none rV) (hL : LKm L) : ∀ (n : Nat)  (X : Mem), G C V L 0 0 2 81 [(0, vR V.1 120)] [] X (L_X12_ahead_81   n  X) := by
  intro n
  induction n with
  | zero => intro X; exact g_none
  | succ n ih =>
    intro X
    rw [L_X12_ahead_81]
    refine g_aload_n (q := 0) hC dX12_ahead_81 rfl rfl rfl ?_
    refine g_aload_n (q := 0) hC dX12_ahead_82 rfl rfl rfl ?_
    refine g_getI (k := 14) (kz := 14) hC cf_X12 (at_120 hL) (by decide) rfl (by decide) rfl wf_RX12_124 dX12_ahead_83 ?_
    refine g_callVI (As := [vI (X 120 14)]) hC mv_X12_byteAt wml_RX12_127 (k_X12_byteAt _ V hL (X 120 14) X) cf_X12 (at_120 hL) (by decide) ⟨Nat.zero_le _, Nat.zero_le _⟩ rfl rfl ⟨Nat.le_of_ble_eq_true rfl, Nat.le_of_ble_eq_true rfl⟩ (Nat.le_of_ble_eq_true rfl) dX12_ahead_86 (fun r26 X27 => ?_)
    refine g_callSI (As := [vI r26]) hC mt_X12_isSmall wml_RX12_140 (k_X12_isSmall _ V hL r26 X27) ⟨Nat.zero_le _, Nat.zero_le _⟩ rfl rfl ⟨Nat.le_of_ble_eq_true rfl, Nat.le_of_ble_eq_true rfl⟩ (Nat.le_of_ble_eq_true rfl) dX12_ahead_89 (fun r28 X29 => ?_)
    refine g_if_eq (tgt := 108) hC dX12_ahead_92 (by decide) ?_ ?_
    · exact gB_X12_ahead_108 hC hR hL  X29
    · refine g_aload_n (q := 0) hC dX12_ahead_95 rfl rfl rfl ?_
      refine g_dup hC dX12_ahead_96 rfl ?_
      refine g_getI (k := 14) (kz := 14) hC cf_X12 (at_120 hL) (by decide) rfl (by decide) rfl wf_RX12_124 dX12_ahead_97 ?_
      refine g_iconst (v := vI 1) hC dX12_ahead_100 rfl ?_
      refine g_iadd hC dX12_ahead_101 ?_
      refine g_putI (k := 14) (kz := 14) hC cf_X12 (at_120 hL) (by decide) rfl (by decide) rfl wf_RX12_124 rfl rfl dX12_ahead_102 (fun X31 => ?_)
      refine g_goto (tgt := 81) hC dX12_ahead_105 (by decide) ?_
      exact ih X31
set_option maxRecDepth 20000 in
theorem gB_X12_ahead_39 {C : Cx} {V : Ev} {L : List Kd} (hC : Ok C V cX12_ahead RX12 2 1 21) (hR : Rt C V L none rV) (hL : LKm L)  (X : Mem)  : G C V L 0 0 2 39 [(0, vR V.1 120)] [] X (B_X12_ahead_39    X) := by
  unfold B_X12_ahead_39
  refine g_aload_n (q := 0) hC dX12_ahead_39 rfl rfl rfl ?_
  refine g_aload_n (q := 0) hC dX12_ahead_40 rfl rfl rfl ?_
  refine g_getI (k := 14) (kz := 14) hC cf_X12 (at_120 hL) (by decide) rfl (by decide) rfl wf_RX12_124 dX12_ahead_41 ?_
  refine g_putI (k := 13) (kz := 13) hC cf_X12 (at_120 hL) (by decide) rfl (by decide) rfl wf_RX12_131 rfl rfl dX12_ahead_44 (fun X6 => ?_)
  refine g_aload_n (q := 0) hC dX12_ahead_47 rfl rfl rfl ?_
  refine g_aload_n (q := 0) hC dX12_ahead_48 rfl rfl rfl ?_
  refine g_getI (k := 14) (kz := 14) hC cf_X12 (at_120 hL) (by decide) rfl (by decide) rfl wf_RX12_124 dX12_ahead_49 ?_
  refine g_callVI (As := [vI (X6 120 14)]) hC mv_X12_byteAt wml_RX12_127 (k_X12_byteAt _ V hL (X6 120 14) X6) cf_X12 (at_120 hL) (by decide) ⟨Nat.zero_le _, Nat.zero_le _⟩ rfl rfl ⟨Nat.le_of_ble_eq_true rfl, Nat.le_of_ble_eq_true rfl⟩ (Nat.le_of_ble_eq_true rfl) dX12_ahead_52 (fun r7 X8 => ?_)
  refine g_istore_n hC dX12_ahead_55 rfl (by decide) rfl ?_
  refine g_aload_n (q := 1) hC dX12_ahead_56 rfl rfl rfl ?_
  refine g_iload_n (q := 0) hC dX12_ahead_57 rfl rfl ?_
  refine g_putI (k := 15) (kz := 15) hC cf_X12 (at_120 hL) (by decide) rfl (by decide) rfl wf_RX12_134 rfl rfl dX12_ahead_58 (fun X9 => ?_)
  refine g_iload_n (q := 0) hC dX12_ahead_61 rfl rfl ?_
  refine g_iconst (v := vI (-1)) hC dX12_ahead_62 rfl ?_
  refine g_icmp_ne (tgt := 74) hC dX12_ahead_63 (by decide) ?_ ?_
  · refine g_iload_n (q := 0) hC dX12_ahead_74 rfl rfl ?_
    refine g_callSI (As := [vI r7]) hC mt_X12_isSmall wml_RX12_140 (k_X12_isSmall _ V hL r7 X9) ⟨Nat.zero_le _, Nat.zero_le _⟩ rfl rfl ⟨Nat.le_of_ble_eq_true rfl, Nat.le_of_ble_eq_true rfl⟩ (Nat.le_of_ble_eq_true rfl) dX12_ahead_75 (fun r10 X11 => ?_)
    refine g_if_eq (tgt := 116) hC dX12_ahead_78 (by decide) ?_ ?_
    · refine g_iload_n (q := 0) hC dX12_ahead_116 rfl rfl ?_
      refine g_callSI (As := [vI r7]) hC mt_X12_isDigit wml_RX12_143 (k_X12_isDigit _ V hL r7 X11) ⟨Nat.zero_le _, Nat.zero_le _⟩ rfl rfl ⟨Nat.le_of_ble_eq_true rfl, Nat.le_of_ble_eq_true rfl⟩ (Nat.le_of_ble_eq_true rfl) dX12_ahead_117 (fun r12 X13 => ?_)
      refine g_if_eq (tgt := 208) hC dX12_ahead_120 (by decide) ?_ ?_
      · refine g_aload_n (q := 1) hC dX12_ahead_208 rfl rfl rfl ?_
        refine g_dup hC dX12_ahead_209 rfl ?_
        refine g_getI (k := 14) (kz := 14) hC cf_X12 (at_120 hL) (by decide) rfl (by decide) rfl wf_RX12_124 dX12_ahead_210 ?_
        refine g_iconst (v := vI 1) hC dX12_ahead_213 rfl ?_
        refine g_iadd hC dX12_ahead_214 ?_
        refine g_putI (k := 14) (kz := 14) hC cf_X12 (at_120 hL) (by decide) rfl (by decide) rfl wf_RX12_124 rfl rfl dX12_ahead_215 (fun X14 => ?_)
        refine g_aload_n (q := 1) hC dX12_ahead_218 rfl rfl rfl ?_
        refine g_iload_n (q := 0) hC dX12_ahead_219 rfl rfl ?_
        refine g_bipush (v := vI 59) hC dX12_ahead_220 rfl ?_
        refine g_icmp_ne (tgt := 229) hC dX12_ahead_222 (by decide) ?_ ?_
        · refine g_iconst (v := vI 1) hC dX12_ahead_229 rfl ?_
          refine g_sub [] rfl ?_
          exact gB_X12_ahead_230 hC hR hL  1 X14
        · refine g_iconst (v := vI 4) hC dX12_ahead_225 rfl ?_
          refine g_goto (tgt := 230) hC dX12_ahead_226 (by decide) ?_
          refine g_sub [] rfl ?_
          exact gB_X12_ahead_230 hC hR hL  4 X14
      · refine g_aload_n (q := 1) hC dX12_ahead_123 rfl rfl rfl ?_
        refine g_iconst (v := vI 0) hC dX12_ahead_124 rfl ?_
        refine g_putI (k := 15) (kz := 15) hC cf_X12 (at_120 hL) (by decide) rfl (by decide) rfl wf_RX12_134 rfl rfl dX12_ahead_125 (fun X16 => ?_)
        refine g_sub [1] rfl ?_
        exact gL_X12_ahead_128 hC hR hL  KF X16
    · refine g_sub [1] rfl ?_
      exact gL_X12_ahead_81 hC hR hL  KF X11
  · refine g_aload_n (q := 1) hC dX12_ahead_66 rfl rfl rfl ?_
    refine g_iconst (v := vI 0) hC dX12_ahead_67 rfl ?_
    refine g_putI (k := 12) (kz := 12) hC cf_X12 (at_120 hL) (by decide) rfl (by decide) rfl wf_RX12_137 rfl rfl dX12_ahead_68 (fun X32 => ?_)
    refine g_goto (tgt := 233) hC dX12_ahead_71 (by decide) ?_
    exact g_vret hC hR dX12_ahead_233
set_option maxRecDepth 20000 in
theorem gL_X12_ahead_0 {C : Cx} {V : Ev} {L : List Kd} (hC : Ok C V cX12_ahead RX12 2 1 21) (hR : Rt C V L none rV) (hL : LKm L) : ∀ (n : Nat)  (X : Mem), G C V L 0 0 2 0 [(0, vR V.1 120)] [] X (L_X12_ahead_0   n  X) := by
  intro n
  induction n with
  | zero => intro X; exact g_none
  | succ n ih =>
    intro X
    rw [L_X12_ahead_0]
    refine g_aload_n (q := 0) hC dX12_ahead_0 rfl rfl rfl ?_
    refine g_aload_n (q := 0) hC dX12_ahead_1 rfl rfl rfl ?_
    refine g_getI (k := 14) (kz := 14) hC cf_X12 (at_120 hL) (by decide) rfl (by decide) rfl wf_RX12_124 dX12_ahead_2 ?_
    refine g_callVI (As := [vI (X 120 14)]) hC mv_X12_byteAt wml_RX12_127 (k_X12_byteAt _ V hL (X 120 14) X) cf_X12 (at_120 hL) (by decide) ⟨Nat.zero_le _, Nat.zero_le _⟩ rfl rfl ⟨Nat.le_of_ble_eq_true rfl, Nat.le_of_ble_eq_true rfl⟩ (Nat.le_of_ble_eq_true rfl) dX12_ahead_5 (fun r1 X2 => ?_)
    refine g_bipush (v := vI 32) hC dX12_ahead_8 rfl ?_
    refine g_icmp_eq (tgt := 26) hC dX12_ahead_10 (by decide) ?_ ?_
    · exact gB_X12_ahead_26 hC hR hL ih X2
    · refine g_aload_n (q := 0) hC dX12_ahead_13 rfl rfl rfl ?_
      refine g_aload_n (q := 0) hC dX12_ahead_14 rfl rfl rfl ?_
      refine g_getI (k := 14) (kz := 14) hC cf_X12 (at_120 hL) (by decide) rfl (by decide) rfl wf_RX12_124 dX12_ahead_15 ?_
      refine g_callVI (As := [vI (X2 120 14)]) hC mv_X12_byteAt wml_RX12_127 (k_X12_byteAt _ V hL (X2 120 14) X2) cf_X12 (at_120 hL) (by decide) ⟨Nat.zero_le _, Nat.zero_le _⟩ rfl rfl ⟨Nat.le_of_ble_eq_true rfl, Nat.le_of_ble_eq_true rfl⟩ (Nat.le_of_ble_eq_true rfl) dX12_ahead_18 (fun r4 X5 => ?_)
      refine g_bipush (v := vI 10) hC dX12_ahead_21 rfl ?_
      refine g_icmp_ne (tgt := 39) hC dX12_ahead_23 (by decide) ?_ ?_
      · exact gB_X12_ahead_39 hC hR hL  X5
      · exact gB_X12_ahead_26 hC hR hL ih X5
set_option maxRecDepth 20000 in
theorem k_X12_ahead (l : Launch) (V : Ev) {L : List Kd} (hL : LKm L)  (X : Mem)  : Kt l V L yX12_ahead (.code yX12_ahead cX12_ahead 2 none) 1 21 [vR V.1 120] rV X (f_X12_ahead  X) := by
  refine kt_of (own := RX12) (lv0 := [(0, vR V.1 120)]) (by decide) rfl (Nat.le_of_ble_eq_true rfl) rfl (fun C hCl hC hR => ?_)
  subst hCl
  unfold f_X12_ahead
  exact gL_X12_ahead_0 hC hR hL  KF X
def B_X12_begins_49  (X : Mem) : Option (Int × Mem) :=
  bd (ms X 120 10 0) fun X2 =>
  bd (ms X2 120 18 0) fun X3 =>
  bd (ms X3 120 17 ((-1))) fun X4 =>
  bd (ms X4 120 14 0) fun X5 =>
  bd (ms X5 120 19 0) fun X6 =>
  cl (f_X12_ahead X6) fun _ X8 =>
  some (1, X8)
def L_X12_begins_26 : Nat → Int → Int → Mem → Option (Int × Mem)
  | 0, _, _, _ => none
  | n + 1, x1, x3, X =>
    c2 x3 x1 <| if x1 ≤ x3 then
      B_X12_begins_49   X
    else
      ax 900 x3 <|
      ax 900 x3 <| bd (ms X 127 x3 (w8 (X 126 x3))) fun X9 =>
      L_X12_begins_26   n x1 (x3 + 1) X9
def f_X12_begins (p1 : Int) (p2 : Int) (X : Mem) : Option (Int × Mem) :=
  c1 p1 <| if p1 < 0 then
    some (0, X)
  else
    c2 p1 (X 120 10) <| if (X 120 10) < p1 then
      some (0, X)
    else
      c2 p1 p2 <| if p1 ≤ p2 then
        bd (ms X 120 11 p1) fun X1 =>
        L_X12_begins_26   KF p1 0 X1
      else
        some (0, X)
set_option maxRecDepth 20000 in
theorem gB_X12_begins_49 {C : Cx} {V : Ev} {L : List Kd} (hC : Ok C V cX12_begins RX12 4 2 42) (hR : Rt C V L (some .boolean) rI) (hL : LKm L)  (X : Mem)  : G C V L 0 0 4 49 [(0, vR V.1 120)] [] X (B_X12_begins_49    X) := by
  unfold B_X12_begins_49
  refine g_aload_n (q := 0) hC dX12_begins_49 rfl rfl rfl ?_
  refine g_iconst (v := vI 0) hC dX12_begins_50 rfl ?_
  refine g_putI (k := 10) (kz := 10) hC cf_X12 (at_120 hL) (by decide) rfl (by decide) rfl wf_RX12_115 rfl rfl dX12_begins_51 (fun X2 => ?_)
  refine g_aload_n (q := 0) hC dX12_begins_54 rfl rfl rfl ?_
  refine g_iconst (v := vI 0) hC dX12_begins_55 rfl ?_
  refine g_putI (k := 18) (kz := 18) hC cf_X12 (at_120 hL) (by decide) rfl (by decide) rfl wf_RX12_162 rfl rfl dX12_begins_56 (fun X3 => ?_)
  refine g_aload_n (q := 0) hC dX12_begins_59 rfl rfl rfl ?_
  refine g_iconst (v := vI (-1)) hC dX12_begins_60 rfl ?_
  refine g_putI (k := 17) (kz := 17) hC cf_X12 (at_120 hL) (by decide) rfl (by decide) rfl wf_RX12_41 rfl rfl dX12_begins_61 (fun X4 => ?_)
  refine g_aload_n (q := 0) hC dX12_begins_64 rfl rfl rfl ?_
  refine g_iconst (v := vI 0) hC dX12_begins_65 rfl ?_
  refine g_putI (k := 14) (kz := 14) hC cf_X12 (at_120 hL) (by decide) rfl (by decide) rfl wf_RX12_124 rfl rfl dX12_begins_66 (fun X5 => ?_)
  refine g_aload_n (q := 0) hC dX12_begins_69 rfl rfl rfl ?_
  refine g_iconst (v := vI 0) hC dX12_begins_70 rfl ?_
  refine g_putI (k := 19) (kz := 19) hC cf_X12 (at_120 hL) (by decide) rfl (by decide) rfl wf_RX12_165 rfl rfl dX12_begins_71 (fun X6 => ?_)
  refine g_aload_n (q := 0) hC dX12_begins_74 rfl rfl rfl ?_
  refine g_callVV (As := []) hC mv_X12_ahead wml_RX12_168 (k_X12_ahead _ V hL X6) cf_X12 (at_120 hL) (by decide) ⟨Nat.zero_le _, Nat.zero_le _⟩ rfl rfl ⟨Nat.le_of_ble_eq_true rfl, Nat.le_of_ble_eq_true rfl⟩ (Nat.le_of_ble_eq_true rfl) dX12_begins_75 (fun _ X8 => ?_)
  refine g_iconst (v := vI 1) hC dX12_begins_78 rfl ?_
  exact g_zret1 hC hR (by decide) dX12_begins_79
set_option maxRecDepth 20000 in
theorem gL_X12_begins_26 {C : Cx} {V : Ev} {L : List Kd} (hC : Ok C V cX12_begins RX12 4 2 42) (hR : Rt C V L (some .boolean) rI) (hL : LKm L) : ∀ (n : Nat) (x1 : Int) (x3 : Int) (X : Mem), G C V L 0 0 4 26 [(0, vR V.1 120), (1, vI x1), (3, vI x3)] [] X (L_X12_begins_26   n x1 x3 X) := by
  intro n
  induction n with
  | zero => intro x1 x3 X; exact g_none
  | succ n ih =>
    intro x1 x3 X
    rw [L_X12_begins_26]
    refine g_iload_n (q := 2) hC dX12_begins_26 rfl rfl ?_
    refine g_iload_n (q := 1) hC dX12_begins_27 rfl rfl ?_
    refine g_icmp_ge (tgt := 49) hC dX12_begins_28 (by decide) ?_ ?_
    · refine g_sub [0] rfl ?_
      exact gB_X12_begins_49 hC hR hL  X
    · refine g_aload_n (q := 0) hC dX12_begins_31 rfl rfl rfl ?_
      refine g_getS (k := 9) hC cf_X12 (at_120 hL) (by decide) rfl (by decide) (by decide) wf_RX12_34 dX12_begins_32 ?_
      refine g_iload_n (q := 2) hC dX12_begins_35 rfl rfl ?_
      refine g_aload_n (q := 0) hC dX12_begins_36 rfl rfl rfl ?_
      refine g_getS (k := 8) hC cf_X12 (at_120 hL) (by decide) rfl (by decide) (by decide) wf_RX12_30 dX12_begins_37 ?_
      refine g_iload_n (q := 2) hC dX12_begins_40 rfl rfl ?_
      refine g_bald hC (at_126 hL) (by decide) dX12_begins_41 ?_
      refine g_bast hC (at_127 hL) (by decide) dX12_begins_42 (fun X9 => ?_)
      refine g_iinc (q := 2) hC dX12_begins_43 rfl (by decide) rfl ?_
      refine g_goto (tgt := 26) hC dX12_begins_46 (by decide) ?_
      refine g_sub [1, 2, 0] rfl ?_
      exact ih x1 (x3 + 1) X9
set_option maxRecDepth 20000 in
theorem k_X12_begins (l : Launch) (V : Ev) {L : List Kd} (hL : LKm L) (p1 : Int) (p2 : Int) (X : Mem)  : Kt l V L yX12_begins (.code yX12_begins cX12_begins 4 (some .boolean)) 2 42 [vR V.1 120, vI p1, vI p2] rI X (f_X12_begins p1 p2 X) := by
  refine kt_of (own := RX12) (lv0 := [(0, vR V.1 120), (1, vI p1), (2, vI p2)]) (by decide) rfl (Nat.le_of_ble_eq_true rfl) rfl (fun C hCl hC hR => ?_)
  subst hCl
  unfold f_X12_begins
  refine g_iload_n (q := 1) hC dX12_begins_0 rfl rfl ?_
  refine g_if_lt (tgt := 17) hC dX12_begins_1 (by decide) ?_ ?_
  · refine g_iconst (v := vI 0) hC dX12_begins_17 rfl ?_
    exact g_zret1 hC hR (by decide) dX12_begins_18
  · refine g_iload_n (q := 1) hC dX12_begins_4 rfl rfl ?_
    refine g_aload_n (q := 0) hC dX12_begins_5 rfl rfl rfl ?_
    refine g_getI (k := 10) (kz := 10) hC cf_X12 (at_120 hL) (by decide) rfl (by decide) rfl wf_RX12_115 dX12_begins_6 ?_
    refine g_icmp_gt (tgt := 17) hC dX12_begins_9 (by decide) ?_ ?_
    · refine g_iconst (v := vI 0) hC dX12_begins_17 rfl ?_
      exact g_zret1 hC hR (by decide) dX12_begins_18
    · refine g_iload_n (q := 1) hC dX12_begins_12 rfl rfl ?_
      refine g_iload_n (q := 2) hC dX12_begins_13 rfl rfl ?_
      refine g_icmp_le (tgt := 19) hC dX12_begins_14 (by decide) ?_ ?_
      · refine g_aload_n (q := 0) hC dX12_begins_19 rfl rfl rfl ?_
        refine g_iload_n (q := 1) hC dX12_begins_20 rfl rfl ?_
        refine g_putI (k := 11) (kz := 11) hC cf_X12 (at_120 hL) (by decide) rfl (by decide) rfl wf_RX12_121 rfl rfl dX12_begins_21 (fun X1 => ?_)
        refine g_iconst (v := vI 0) hC dX12_begins_24 rfl ?_
        refine g_istore_n hC dX12_begins_25 rfl (by decide) rfl ?_
        refine g_sub [1, 2, 0] rfl ?_
        exact gL_X12_begins_26 hC hR hL  KF p1 0 X1
      · refine g_iconst (v := vI 0) hC dX12_begins_17 rfl ?_
        exact g_zret1 hC hR (by decide) dX12_begins_18
def f_X12_refuse (p1 : Int) (X : Mem) : Option (Int × Mem) :=
  bd (ms X 120 2 p1) fun X1 =>
  some ((-1), X1)
set_option maxRecDepth 20000 in
theorem k_X12_refuse (l : Launch) (V : Ev) {L : List Kd} (hL : LKm L) (p1 : Int) (X : Mem)  : Kt l V L yX12_refuse (.code yX12_refuse cX12_refuse 2 (some .int)) 0 0 [vR V.1 120, vI p1] rI X (f_X12_refuse p1 X) := by
  refine kt_of (own := RX12) (lv0 := [(0, vR V.1 120), (1, vI p1)]) (by decide) rfl (Nat.le_of_ble_eq_true rfl) rfl (fun C hCl hC hR => ?_)
  subst hCl
  unfold f_X12_refuse
  refine g_aload_n (q := 0) hC dX12_refuse_0 rfl rfl rfl ?_
  refine g_iload_n (q := 1) hC dX12_refuse_1 rfl rfl ?_
  refine g_putI (k := 2) (kz := 2) hC cf_X12 (at_120 hL) (by decide) rfl (by decide) rfl wf_RX12_92 rfl rfl dX12_refuse_2 (fun X1 => ?_)
  refine g_iconst (v := vI (-1)) hC dX12_refuse_5 rfl ?_
  exact g_iret hC hR dX12_refuse_6
def B_X12_inWords_115 (go14 : Nat → Int → Int → Mem → Option (Int × Mem)) (x1 : Nat) (x2 : Int) (x4 : Int) (x5 : Int) (X : Mem) : Option (Int × Mem) :=
  c1 x5 <| if x5 = 0 then
    bd (x4 + 1) fun v1 =>
    go14 x1 (x2 + 1) v1 X
  else
    some (x2, X)
def B_X12_inWords_107 (go14 : Nat → Int → Int → Mem → Option (Int × Mem)) (go68 : Nat → Int → Int → Int → Int → Int → Mem → Option (Int × Mem)) (x1 : Nat) (x2 : Int) (x3 : Int) (x4 : Int) (x6 : Int) (s0 : Int) (X : Mem) : Option (Int × Mem) :=
  go68 x1 x2 x3 x4 s0 (x6 + 1) X
def L_X12_inWords_68 (go14 : Nat → Int → Int → Mem → Option (Int × Mem)) : Nat → Nat → Int → Int → Int → Int → Int → Mem → Option (Int × Mem)
  | 0, _, _, _, _, _, _, _ => none
  | n + 1, x1, x2, x3, x4, x5, x6, X =>
    c2 x6 x4 <| if x4 ≤ x6 then
      B_X12_inWords_115  go14 x1 x2 x4 x5 X
    else
      c1 x5 <| if x5 = 0 then
        B_X12_inWords_115  go14 x1 x2 x4 x5 X
      else
        ax ((sB x1).length : Int) x6 <|
        cl (f_X12_byteAt (((X 120 13) + x6) - x3) X) fun r2 X3 =>
        c2 (tl (sB x1) x6) r2 <| if ¬ (tl (sB x1) x6) = r2 then
          B_X12_inWords_107  go14 (fun x1 x2 x3 x4 x5 x6 X => L_X12_inWords_68  go14 n x1 x2 x3 x4 x5 x6 X) x1 x2 x3 x4 x6 0 X3
        else
          B_X12_inWords_107  go14 (fun x1 x2 x3 x4 x5 x6 X => L_X12_inWords_68  go14 n x1 x2 x3 x4 x5 x6 X) x1 x2 x3 x4 x6 1 X3
def B_X12_inWords_63 (go14 : Nat → Int → Int → Mem → Option (Int × Mem)) (x1 : Nat) (x2 : Int) (x3 : Int) (x4 : Int) (s0 : Int) (X : Mem) : Option (Int × Mem) :=
  L_X12_inWords_68  go14 KF x1 x2 x3 x4 s0 x3 X
def B_X12_inWords_42 (go14 : Nat → Int → Int → Mem → Option (Int × Mem)) (x1 : Nat) (x2 : Int) (x3 : Int) (x4 : Int) (X : Mem) : Option (Int × Mem) :=
  c2 (x4 - x3) ((X 120 14) - (X 120 13)) <| if ¬ (x4 - x3) = ((X 120 14) - (X 120 13)) then
    B_X12_inWords_63  go14 x1 x2 x3 x4 0 X
  else
    B_X12_inWords_63  go14 x1 x2 x3 x4 1 X
def L_X12_inWords_25 (go14 : Nat → Int → Int → Mem → Option (Int × Mem)) : Nat → Nat → Int → Int → Int → Mem → Option (Int × Mem)
  | 0, _, _, _, _, _ => none
  | n + 1, x1, x2, x3, x4, X =>
    ax ((sB x1).length : Int) x4 <|
    c2 (tl (sB x1) x4) 32 <| if (tl (sB x1) x4) = 32 then
      B_X12_inWords_42  go14 x1 x2 x3 x4 X
    else
      L_X12_inWords_25  go14 n x1 x2 x3 (x4 + 1) X
def L_X12_inWords_14 : Nat → Nat → Int → Int → Mem → Option (Int × Mem)
  | 0, _, _, _, _ => none
  | n + 1, x1, x2, x3, X =>
    c2 x3 (((sB x1).length : Int)) <| if (((sB x1).length : Int)) ≤ x3 then
      some ((-1), X)
    else
      L_X12_inWords_25  (fun x1 x2 x3 X => L_X12_inWords_14   n x1 x2 x3 X) KF x1 x2 x3 x3 X
def f_X12_inWords (p1 : Nat) (X : Mem) : Option (Int × Mem) :=
  c2 (X 120 12) 2 <| if (X 120 12) = 2 then
    L_X12_inWords_14   KF p1 0 1 X
  else
    some ((-1), X)
set_option maxRecDepth 20000 in
theorem gB_X12_inWords_115 {C : Cx} {V : Ev} {L : List Kd} (hC : Ok C V cX12_inWords RX12 7 5 160) (hR : Rt C V L (some .int) rI) (hL : LKm L) {go14 : Nat → Int → Int → Mem → Option (Int × Mem)} (hgo14 : ∀ (x1 : Nat) (x2 : Int) (x3 : Int) (X : Mem), x1 < nSt → G C V L 0 0 7 14 [(0, vR V.1 120), (1, vS V x1), (2, vI x2), (3, vI x3)] [] X (go14 x1 x2 x3 X)) (x1 : Nat) (x2 : Int) (x4 : Int) (x5 : Int) (X : Mem) (g1 : x1 < nSt) : G C V L 0 0 7 115 [(0, vR V.1 120), (1, vS V x1), (2, vI x2), (4, vI x4), (5, vI x5)] [] X (B_X12_inWords_115  go14 x1 x2 x4 x5 X) := by
  unfold B_X12_inWords_115
  refine g_iload (q := 4) hC dX12_inWords_115 rfl ?_
  refine g_if_eq (tgt := 122) hC dX12_inWords_117 (by decide) ?_ ?_
  · refine g_iinc (q := 2) hC dX12_inWords_122 rfl (by decide) rfl ?_
    refine g_iload (q := 3) hC dX12_inWords_125 rfl ?_
    refine g_iconst (v := vI 1) hC dX12_inWords_127 rfl ?_
    refine g_iadd hC dX12_inWords_128 ?_
    refine g_topI (fun v1 => ?_)
    refine g_istore_n hC dX12_inWords_129 rfl (by decide) rfl ?_
    refine g_goto (tgt := 14) hC dX12_inWords_130 (by decide) ?_
    refine g_sub [2, 3, 1, 0] rfl ?_
    exact hgo14 x1 (x2 + 1) v1 X g1
  · refine g_iload_n (q := 2) hC dX12_inWords_120 rfl rfl ?_
    exact g_iret hC hR dX12_inWords_121
set_option maxRecDepth 20000 in
theorem gB_X12_inWords_107 {C : Cx} {V : Ev} {L : List Kd} (hC : Ok C V cX12_inWords RX12 7 5 160) (hR : Rt C V L (some .int) rI) (hL : LKm L) {go14 : Nat → Int → Int → Mem → Option (Int × Mem)} {go68 : Nat → Int → Int → Int → Int → Int → Mem → Option (Int × Mem)} (hgo14 : ∀ (x1 : Nat) (x2 : Int) (x3 : Int) (X : Mem), x1 < nSt → G C V L 0 0 7 14 [(0, vR V.1 120), (1, vS V x1), (2, vI x2), (3, vI x3)] [] X (go14 x1 x2 x3 X)) (hgo68 : ∀ (x1 : Nat) (x2 : Int) (x3 : Int) (x4 : Int) (x5 : Int) (x6 : Int) (X : Mem), x1 < nSt → G C V L 0 0 7 68 [(0, vR V.1 120), (1, vS V x1), (2, vI x2), (3, vI x3), (4, vI x4), (5, vI x5), (6, vI x6)] [] X (go68 x1 x2 x3 x4 x5 x6 X)) (x1 : Nat) (x2 : Int) (x3 : Int) (x4 : Int) (x6 : Int) (s0 : Int) (X : Mem) (g1 : x1 < nSt) : G C V L 0 0 7 107 [(0, vR V.1 120), (1, vS V x1), (2, vI x2), (3, vI x3), (4, vI x4), (6, vI x6)] [vI s0] X (B_X12_inWords_107  go14 go68 x1 x2 x3 x4 x6 s0 X) := by
  unfold B_X12_inWords_107
  refine g_istore hC dX12_inWords_107 (by decide) rfl ?_
  refine g_iinc (q := 6) hC dX12_inWords_109 rfl (by decide) rfl ?_
  refine g_goto (tgt := 68) hC dX12_inWords_112 (by decide) ?_
  refine g_sub [2, 3, 4, 5, 6, 1, 0] rfl ?_
  exact hgo68 x1 x2 x3 x4 s0 (x6 + 1) X g1
set_option maxRecDepth 20000 in
theorem gL_X12_inWords_68 {C : Cx} {V : Ev} {L : List Kd} (hC : Ok C V cX12_inWords RX12 7 5 160) (hR : Rt C V L (some .int) rI) (hL : LKm L) {go14 : Nat → Int → Int → Mem → Option (Int × Mem)} (hgo14 : ∀ (x1 : Nat) (x2 : Int) (x3 : Int) (X : Mem), x1 < nSt → G C V L 0 0 7 14 [(0, vR V.1 120), (1, vS V x1), (2, vI x2), (3, vI x3)] [] X (go14 x1 x2 x3 X)) : ∀ (n : Nat) (x1 : Nat) (x2 : Int) (x3 : Int) (x4 : Int) (x5 : Int) (x6 : Int) (X : Mem) (g1 : x1 < nSt), G C V L 0 0 7 68 [(0, vR V.1 120), (1, vS V x1), (2, vI x2), (3, vI x3), (4, vI x4), (5, vI x5), (6, vI x6)] [] X (L_X12_inWords_68  go14 n x1 x2 x3 x4 x5 x6 X) := by
  intro n
  induction n with
  | zero => intro x1 x2 x3 x4 x5 x6 X g1; exact g_none
  | succ n ih =>
    intro x1 x2 x3 x4 x5 x6 X g1
    rw [L_X12_inWords_68]
    refine g_iload (q := 6) hC dX12_inWords_68 rfl ?_
    refine g_iload (q := 4) hC dX12_inWords_70 rfl ?_
    refine g_icmp_ge (tgt := 115) hC dX12_inWords_72 (by decide) ?_ ?_
    · refine g_sub [0, 1, 2, 4, 5] rfl ?_
      exact gB_X12_inWords_115 hC hR hL hgo14 x1 x2 x4 x5 X g1
    · refine g_iload (q := 5) hC dX12_inWords_75 rfl ?_
      refine g_if_eq (tgt := 115) hC dX12_inWords_77 (by decide) ?_ ?_
      · refine g_sub [0, 1, 2, 4, 5] rfl ?_
        exact gB_X12_inWords_115 hC hR hL hgo14 x1 x2 x4 x5 X g1
      · refine g_aload_n (q := 1) hC dX12_inWords_80 rfl rfl rfl ?_
        refine g_iload (q := 6) hC dX12_inWords_81 rfl ?_
        refine g_schar hC wml_RX12_158 g1 (Nat.le_of_ble_eq_true rfl) (Nat.le_of_ble_eq_true rfl) (Nat.le_of_ble_eq_true rfl) dX12_inWords_83 ?_
        refine g_aload_n (q := 0) hC dX12_inWords_86 rfl rfl rfl ?_
        refine g_aload_n (q := 0) hC dX12_inWords_87 rfl rfl rfl ?_
        refine g_getI (k := 13) (kz := 13) hC cf_X12 (at_120 hL) (by decide) rfl (by decide) rfl wf_RX12_131 dX12_inWords_88 ?_
        refine g_iload (q := 6) hC dX12_inWords_91 rfl ?_
        refine g_iadd hC dX12_inWords_93 ?_
        refine g_iload_n (q := 3) hC dX12_inWords_94 rfl rfl ?_
        refine g_isub hC dX12_inWords_95 ?_
        refine g_callVI (As := [vI (((X 120 13) + x6) - x3)]) hC mv_X12_byteAt wml_RX12_127 (k_X12_byteAt _ V hL (((X 120 13) + x6) - x3) X) cf_X12 (at_120 hL) (by decide) ⟨Nat.zero_le _, Nat.zero_le _⟩ rfl rfl ⟨Nat.le_of_ble_eq_true rfl, Nat.le_of_ble_eq_true rfl⟩ (Nat.le_of_ble_eq_true rfl) dX12_inWords_96 (fun r2 X3 => ?_)
        refine g_icmp_ne (tgt := 106) hC dX12_inWords_99 (by decide) ?_ ?_
        · refine g_iconst (v := vI 0) hC dX12_inWords_106 rfl ?_
          refine g_sub [0, 1, 2, 3, 4, 6] rfl ?_
          exact gB_X12_inWords_107 hC hR hL hgo14 ih x1 x2 x3 x4 x6 0 X3 g1
        · refine g_iconst (v := vI 1) hC dX12_inWords_102 rfl ?_
          refine g_goto (tgt := 107) hC dX12_inWords_103 (by decide) ?_
          refine g_sub [0, 1, 2, 3, 4, 6] rfl ?_
          exact gB_X12_inWords_107 hC hR hL hgo14 ih x1 x2 x3 x4 x6 1 X3 g1
set_option maxRecDepth 20000 in
theorem gB_X12_inWords_63 {C : Cx} {V : Ev} {L : List Kd} (hC : Ok C V cX12_inWords RX12 7 5 160) (hR : Rt C V L (some .int) rI) (hL : LKm L) {go14 : Nat → Int → Int → Mem → Option (Int × Mem)} (hgo14 : ∀ (x1 : Nat) (x2 : Int) (x3 : Int) (X : Mem), x1 < nSt → G C V L 0 0 7 14 [(0, vR V.1 120), (1, vS V x1), (2, vI x2), (3, vI x3)] [] X (go14 x1 x2 x3 X)) (x1 : Nat) (x2 : Int) (x3 : Int) (x4 : Int) (s0 : Int) (X : Mem) (g1 : x1 < nSt) : G C V L 0 0 7 63 [(0, vR V.1 120), (1, vS V x1), (2, vI x2), (3, vI x3), (4, vI x4)] [vI s0] X (B_X12_inWords_63  go14 x1 x2 x3 x4 s0 X) := by
  unfold B_X12_inWords_63
  refine g_istore hC dX12_inWords_63 (by decide) rfl ?_
  refine g_iload_n (q := 4) hC dX12_inWords_65 rfl rfl ?_
  refine g_istore hC dX12_inWords_66 (by decide) rfl ?_
  refine g_sub [2, 3, 4, 5, 6, 1, 0] rfl ?_
  exact gL_X12_inWords_68 hC hR hL hgo14 KF x1 x2 x3 x4 s0 x3 X g1
set_option maxRecDepth 20000 in
theorem gB_X12_inWords_42 {C : Cx} {V : Ev} {L : List Kd} (hC : Ok C V cX12_inWords RX12 7 5 160) (hR : Rt C V L (some .int) rI) (hL : LKm L) {go14 : Nat → Int → Int → Mem → Option (Int × Mem)} (hgo14 : ∀ (x1 : Nat) (x2 : Int) (x3 : Int) (X : Mem), x1 < nSt → G C V L 0 0 7 14 [(0, vR V.1 120), (1, vS V x1), (2, vI x2), (3, vI x3)] [] X (go14 x1 x2 x3 X)) (x1 : Nat) (x2 : Int) (x3 : Int) (x4 : Int) (X : Mem) (g1 : x1 < nSt) : G C V L 0 0 7 42 [(0, vR V.1 120), (1, vS V x1), (2, vI x2), (3, vI x3), (4, vI x4)] [] X (B_X12_inWords_42  go14 x1 x2 x3 x4 X) := by
  unfold B_X12_inWords_42
  refine g_iload (q := 4) hC dX12_inWords_42 rfl ?_
  refine g_iload_n (q := 3) hC dX12_inWords_44 rfl rfl ?_
  refine g_isub hC dX12_inWords_45 ?_
  refine g_aload_n (q := 0) hC dX12_inWords_46 rfl rfl rfl ?_
  refine g_getI (k := 14) (kz := 14) hC cf_X12 (at_120 hL) (by decide) rfl (by decide) rfl wf_RX12_124 dX12_inWords_47 ?_
  refine g_aload_n (q := 0) hC dX12_inWords_50 rfl rfl rfl ?_
  refine g_getI (k := 13) (kz := 13) hC cf_X12 (at_120 hL) (by decide) rfl (by decide) rfl wf_RX12_131 dX12_inWords_51 ?_
  refine g_isub hC dX12_inWords_54 ?_
  refine g_icmp_ne (tgt := 62) hC dX12_inWords_55 (by decide) ?_ ?_
  · refine g_iconst (v := vI 0) hC dX12_inWords_62 rfl ?_
    exact gB_X12_inWords_63 hC hR hL hgo14 x1 x2 x3 x4 0 X g1
  · refine g_iconst (v := vI 1) hC dX12_inWords_58 rfl ?_
    refine g_goto (tgt := 63) hC dX12_inWords_59 (by decide) ?_
    exact gB_X12_inWords_63 hC hR hL hgo14 x1 x2 x3 x4 1 X g1
set_option maxRecDepth 20000 in
theorem gL_X12_inWords_25 {C : Cx} {V : Ev} {L : List Kd} (hC : Ok C V cX12_inWords RX12 7 5 160) (hR : Rt C V L (some .int) rI) (hL : LKm L) {go14 : Nat → Int → Int → Mem → Option (Int × Mem)} (hgo14 : ∀ (x1 : Nat) (x2 : Int) (x3 : Int) (X : Mem), x1 < nSt → G C V L 0 0 7 14 [(0, vR V.1 120), (1, vS V x1), (2, vI x2), (3, vI x3)] [] X (go14 x1 x2 x3 X)) : ∀ (n : Nat) (x1 : Nat) (x2 : Int) (x3 : Int) (x4 : Int) (X : Mem) (g1 : x1 < nSt), G C V L 0 0 7 25 [(0, vR V.1 120), (1, vS V x1), (2, vI x2), (3, vI x3), (4, vI x4)] [] X (L_X12_inWords_25  go14 n x1 x2 x3 x4 X) := by
  intro n
  induction n with
  | zero => intro x1 x2 x3 x4 X g1; exact g_none
  | succ n ih =>
    intro x1 x2 x3 x4 X g1
    rw [L_X12_inWords_25]
    refine g_aload_n (q := 1) hC dX12_inWords_25 rfl rfl rfl ?_
    refine g_iload (q := 4) hC dX12_inWords_26 rfl ?_
    refine g_schar hC wml_RX12_158 g1 (Nat.le_of_ble_eq_true rfl) (Nat.le_of_ble_eq_true rfl) (Nat.le_of_ble_eq_true rfl) dX12_inWords_28 ?_
    refine g_bipush (v := vI 32) hC dX12_inWords_31 rfl ?_
    refine g_icmp_eq (tgt := 42) hC dX12_inWords_33 (by decide) ?_ ?_
    · exact gB_X12_inWords_42 hC hR hL hgo14 x1 x2 x3 x4 X g1
    · refine g_iinc (q := 4) hC dX12_inWords_36 rfl (by decide) rfl ?_
      refine g_goto (tgt := 25) hC dX12_inWords_39 (by decide) ?_
      refine g_sub [1, 2, 3, 4, 0] rfl ?_
      exact ih x1 x2 x3 (x4 + 1) X g1
set_option maxRecDepth 20000 in
theorem gL_X12_inWords_14 {C : Cx} {V : Ev} {L : List Kd} (hC : Ok C V cX12_inWords RX12 7 5 160) (hR : Rt C V L (some .int) rI) (hL : LKm L) : ∀ (n : Nat) (x1 : Nat) (x2 : Int) (x3 : Int) (X : Mem) (g1 : x1 < nSt), G C V L 0 0 7 14 [(0, vR V.1 120), (1, vS V x1), (2, vI x2), (3, vI x3)] [] X (L_X12_inWords_14   n x1 x2 x3 X) := by
  intro n
  induction n with
  | zero => intro x1 x2 x3 X g1; exact g_none
  | succ n ih =>
    intro x1 x2 x3 X g1
    rw [L_X12_inWords_14]
    refine g_iload_n (q := 3) hC dX12_inWords_14 rfl rfl ?_
    refine g_aload_n (q := 1) hC dX12_inWords_15 rfl rfl rfl ?_
    refine g_slen hC wml_RX12_152 g1 (Nat.le_of_ble_eq_true rfl) (Nat.le_of_ble_eq_true rfl) (Nat.le_of_ble_eq_true rfl) dX12_inWords_16 ?_
    refine g_icmp_ge (tgt := 133) hC dX12_inWords_19 (by decide) ?_ ?_
    · refine g_iconst (v := vI (-1)) hC dX12_inWords_133 rfl ?_
      exact g_iret hC hR dX12_inWords_134
    · refine g_iload_n (q := 3) hC dX12_inWords_22 rfl rfl ?_
      refine g_istore hC dX12_inWords_23 (by decide) rfl ?_
      refine g_sub [1, 2, 3, 4, 0] rfl ?_
      exact gL_X12_inWords_25 hC hR hL ih KF x1 x2 x3 x3 X g1
set_option maxRecDepth 20000 in
theorem k_X12_inWords (l : Launch) (V : Ev) {L : List Kd} (hL : LKm L) (p1 : Nat) (X : Mem) (h1 : p1 < nSt) : Kt l V L yX12_inWords (.code yX12_inWords cX12_inWords 7 (some .int)) 5 160 [vR V.1 120, vS V p1] rI X (f_X12_inWords p1 X) := by
  refine kt_of (own := RX12) (lv0 := [(0, vR V.1 120), (1, vS V p1)]) (by decide) rfl (Nat.le_of_ble_eq_true rfl) rfl (fun C hCl hC hR => ?_)
  subst hCl
  unfold f_X12_inWords
  refine g_aload_n (q := 0) hC dX12_inWords_0 rfl rfl rfl ?_
  refine g_getI (k := 12) (kz := 12) hC cf_X12 (at_120 hL) (by decide) rfl (by decide) rfl wf_RX12_137 dX12_inWords_1 ?_
  refine g_iconst (v := vI 2) hC dX12_inWords_4 rfl ?_
  refine g_icmp_eq (tgt := 10) hC dX12_inWords_5 (by decide) ?_ ?_
  · refine g_iconst (v := vI 0) hC dX12_inWords_10 rfl ?_
    refine g_istore_n hC dX12_inWords_11 rfl (by decide) rfl ?_
    refine g_iconst (v := vI 1) hC dX12_inWords_12 rfl ?_
    refine g_istore_n hC dX12_inWords_13 rfl (by decide) rfl ?_
    refine g_sub [2, 3, 1, 0] rfl ?_
    exact gL_X12_inWords_14 hC hR hL  KF p1 0 1 X h1
  · refine g_iconst (v := vI (-1)) hC dX12_inWords_8 rfl ?_
    exact g_iret hC hR dX12_inWords_9
def B_X12_fails_21 (s0 : Int) (X : Mem) : Option (Int × Mem) :=
  bd (ms X 120 18 s0) fun X1 =>
  bd (ms X1 120 17 (X1 120 13)) fun X2 =>
  some (0, X2)
def f_X12_fails (p1 : Int) (X : Mem) : Option (Int × Mem) :=
  c1 (X 120 18) <| if ¬ (X 120 18) = 0 then
    some (0, X)
  else
    c2 (X 120 12) 1 <| if ¬ (X 120 12) = 1 then
      B_X12_fails_21   p1 X
    else
      B_X12_fails_21   1 X
set_option maxRecDepth 20000 in
theorem gB_X12_fails_21 {C : Cx} {V : Ev} {L : List Kd} (hC : Ok C V cX12_fails RX12 2 0 0) (hR : Rt C V L (some .boolean) rI) (hL : LKm L) (s0 : Int) (X : Mem)  : G C V L 0 0 2 21 [(0, vR V.1 120)] [vI s0, vR V.1 120] X (B_X12_fails_21   s0 X) := by
  unfold B_X12_fails_21
  refine g_putI (k := 18) (kz := 18) hC cf_X12 (at_120 hL) (by decide) rfl (by decide) rfl wf_RX12_162 rfl rfl dX12_fails_21 (fun X1 => ?_)
  refine g_aload_n (q := 0) hC dX12_fails_24 rfl rfl rfl ?_
  refine g_aload_n (q := 0) hC dX12_fails_25 rfl rfl rfl ?_
  refine g_getI (k := 13) (kz := 13) hC cf_X12 (at_120 hL) (by decide) rfl (by decide) rfl wf_RX12_131 dX12_fails_26 ?_
  refine g_putI (k := 17) (kz := 17) hC cf_X12 (at_120 hL) (by decide) rfl (by decide) rfl wf_RX12_41 rfl rfl dX12_fails_29 (fun X2 => ?_)
  refine g_iconst (v := vI 0) hC dX12_fails_32 rfl ?_
  exact g_zret1 hC hR (by decide) dX12_fails_33
set_option maxRecDepth 20000 in
theorem k_X12_fails (l : Launch) (V : Ev) {L : List Kd} (hL : LKm L) (p1 : Int) (X : Mem)  : Kt l V L yX12_fails (.code yX12_fails cX12_fails 2 (some .boolean)) 0 0 [vR V.1 120, vI p1] rI X (f_X12_fails p1 X) := by
  refine kt_of (own := RX12) (lv0 := [(0, vR V.1 120), (1, vI p1)]) (by decide) rfl (Nat.le_of_ble_eq_true rfl) rfl (fun C hCl hC hR => ?_)
  subst hCl
  unfold f_X12_fails
  refine g_aload_n (q := 0) hC dX12_fails_0 rfl rfl rfl ?_
  refine g_getI (k := 18) (kz := 18) hC cf_X12 (at_120 hL) (by decide) rfl (by decide) rfl wf_RX12_162 dX12_fails_1 ?_
  refine g_if_ne (tgt := 32) hC dX12_fails_4 (by decide) ?_ ?_
  · refine g_iconst (v := vI 0) hC dX12_fails_32 rfl ?_
    exact g_zret1 hC hR (by decide) dX12_fails_33
  · refine g_aload_n (q := 0) hC dX12_fails_7 rfl rfl rfl ?_
    refine g_aload_n (q := 0) hC dX12_fails_8 rfl rfl rfl ?_
    refine g_getI (k := 12) (kz := 12) hC cf_X12 (at_120 hL) (by decide) rfl (by decide) rfl wf_RX12_137 dX12_fails_9 ?_
    refine g_iconst (v := vI 1) hC dX12_fails_12 rfl ?_
    refine g_icmp_ne (tgt := 20) hC dX12_fails_13 (by decide) ?_ ?_
    · refine g_iload_n (q := 1) hC dX12_fails_20 rfl rfl ?_
      refine g_sub [0] rfl ?_
      exact gB_X12_fails_21 hC hR hL  p1 X
    · refine g_iconst (v := vI 1) hC dX12_fails_16 rfl ?_
      refine g_goto (tgt := 21) hC dX12_fails_17 (by decide) ?_
      refine g_sub [0] rfl ?_
      exact gB_X12_fails_21 hC hR hL  1 X
def f_X12_wantWord (p1 : Nat) (p2 : Int) (X : Mem) : Option (Int × Mem) :=
  cl (f_X12_inWords p1 X) fun r1 X2 =>
  c2 r1 p2 <| if r1 = p2 then
    cl (f_X12_ahead X2) fun _ X4 =>
    some (1, X4)
  else
    cl (f_X12_fails 2 X2) fun r5 X6 =>
    cz r5 (some (r5, X6))
set_option maxRecDepth 20000 in
theorem k_X12_wantWord (l : Launch) (V : Ev) {L : List Kd} (hL : LKm L) (p1 : Nat) (p2 : Int) (X : Mem) (h1 : p1 < nSt) : Kt l V L yX12_wantWord (.code yX12_wantWord cX12_wantWord 3 (some .boolean)) 6 186 [vR V.1 120, vS V p1, vI p2] rI X (f_X12_wantWord p1 p2 X) := by
  refine kt_of (own := RX12) (lv0 := [(0, vR V.1 120), (1, vS V p1), (2, vI p2)]) (by decide) rfl (Nat.le_of_ble_eq_true rfl) rfl (fun C hCl hC hR => ?_)
  subst hCl
  unfold f_X12_wantWord
  refine g_aload_n (q := 0) hC dX12_wantWord_0 rfl rfl rfl ?_
  refine g_aload_n (q := 1) hC dX12_wantWord_1 rfl rfl rfl ?_
  refine g_callVI (As := [vS V p1]) hC mv_X12_inWords wml_RX12_177 (k_X12_inWords _ V hL p1 X h1) cf_X12 (at_120 hL) (by decide) ⟨Nat.zero_le _, Nat.zero_le _⟩ rfl rfl ⟨Nat.le_of_ble_eq_true rfl, Nat.le_of_ble_eq_true rfl⟩ (Nat.le_of_ble_eq_true rfl) dX12_wantWord_2 (fun r1 X2 => ?_)
  refine g_iload_n (q := 2) hC dX12_wantWord_5 rfl rfl ?_
  refine g_icmp_eq (tgt := 15) hC dX12_wantWord_6 (by decide) ?_ ?_
  · refine g_aload_n (q := 0) hC dX12_wantWord_15 rfl rfl rfl ?_
    refine g_callVV (As := []) hC mv_X12_ahead wml_RX12_168 (k_X12_ahead _ V hL X2) cf_X12 (at_120 hL) (by decide) ⟨Nat.zero_le _, Nat.zero_le _⟩ rfl rfl ⟨Nat.le_of_ble_eq_true rfl, Nat.le_of_ble_eq_true rfl⟩ (Nat.le_of_ble_eq_true rfl) dX12_wantWord_16 (fun _ X4 => ?_)
    refine g_iconst (v := vI 1) hC dX12_wantWord_19 rfl ?_
    exact g_zret1 hC hR (by decide) dX12_wantWord_20
  · refine g_aload_n (q := 0) hC dX12_wantWord_9 rfl rfl rfl ?_
    refine g_iconst (v := vI 2) hC dX12_wantWord_10 rfl ?_
    refine g_callVI (As := [vI 2]) hC mv_X12_fails wml_RX12_174 (k_X12_fails _ V hL 2 X2) cf_X12 (at_120 hL) (by decide) ⟨Nat.zero_le _, Nat.zero_le _⟩ rfl rfl ⟨Nat.le_of_ble_eq_true rfl, Nat.le_of_ble_eq_true rfl⟩ (Nat.le_of_ble_eq_true rfl) dX12_wantWord_11 (fun r5 X6 => ?_)
    exact g_zret hC hR dX12_wantWord_14
def B_X12_number_30  (X : Mem) : Option (Int × Mem) :=
  cl (f_X12_fails 4 X) fun r1 X2 =>
  cz r1 (some (r1, X2))
def f_X12_number (p1 : Int) (p2 : Int) (p3 : Int) (X : Mem) : Option (Int × Mem) :=
  c2 (X 120 12) 3 <| if (X 120 12) = 3 then
    c2 (X 120 15) p2 <| if (X 120 15) < p2 then
      B_X12_number_30   X
    else
      c2 (X 120 15) p3 <| if (X 120 15) ≤ p3 then
        ax 2200 p1 <| bd (ms X 121 p1 (X 120 15)) fun X3 =>
        cl (f_X12_ahead X3) fun _ X5 =>
        some (1, X5)
      else
        B_X12_number_30   X
  else
    cl (f_X12_fails 2 X) fun r6 X7 =>
    cz r6 (some (r6, X7))
set_option maxRecDepth 20000 in
theorem gB_X12_number_30 {C : Cx} {V : Ev} {L : List Kd} (hC : Ok C V cX12_number RX12 4 2 42) (hR : Rt C V L (some .boolean) rI) (hL : LKm L)  (X : Mem)  : G C V L 0 0 4 30 [(0, vR V.1 120)] [] X (B_X12_number_30    X) := by
  unfold B_X12_number_30
  refine g_aload_n (q := 0) hC dX12_number_30 rfl rfl rfl ?_
  refine g_iconst (v := vI 4) hC dX12_number_31 rfl ?_
  refine g_callVI (As := [vI 4]) hC mv_X12_fails wml_RX12_174 (k_X12_fails _ V hL 4 X) cf_X12 (at_120 hL) (by decide) ⟨Nat.zero_le _, Nat.zero_le _⟩ rfl rfl ⟨Nat.le_of_ble_eq_true rfl, Nat.le_of_ble_eq_true rfl⟩ (Nat.le_of_ble_eq_true rfl) dX12_number_32 (fun r1 X2 => ?_)
  exact g_zret hC hR dX12_number_35
set_option maxRecDepth 20000 in
theorem k_X12_number (l : Launch) (V : Ev) {L : List Kd} (hL : LKm L) (p1 : Int) (p2 : Int) (p3 : Int) (X : Mem)  : Kt l V L yX12_number (.code yX12_number cX12_number 4 (some .boolean)) 2 42 [vR V.1 120, vI p1, vI p2, vI p3] rI X (f_X12_number p1 p2 p3 X) := by
  refine kt_of (own := RX12) (lv0 := [(0, vR V.1 120), (1, vI p1), (2, vI p2), (3, vI p3)]) (by decide) rfl (Nat.le_of_ble_eq_true rfl) rfl (fun C hCl hC hR => ?_)
  subst hCl
  unfold f_X12_number
  refine g_aload_n (q := 0) hC dX12_number_0 rfl rfl rfl ?_
  refine g_getI (k := 12) (kz := 12) hC cf_X12 (at_120 hL) (by decide) rfl (by decide) rfl wf_RX12_137 dX12_number_1 ?_
  refine g_iconst (v := vI 3) hC dX12_number_4 rfl ?_
  refine g_icmp_eq (tgt := 14) hC dX12_number_5 (by decide) ?_ ?_
  · refine g_aload_n (q := 0) hC dX12_number_14 rfl rfl rfl ?_
    refine g_getI (k := 15) (kz := 15) hC cf_X12 (at_120 hL) (by decide) rfl (by decide) rfl wf_RX12_134 dX12_number_15 ?_
    refine g_iload_n (q := 2) hC dX12_number_18 rfl rfl ?_
    refine g_icmp_lt (tgt := 30) hC dX12_number_19 (by decide) ?_ ?_
    · refine g_sub [0] rfl ?_
      exact gB_X12_number_30 hC hR hL  X
    · refine g_aload_n (q := 0) hC dX12_number_22 rfl rfl rfl ?_
      refine g_getI (k := 15) (kz := 15) hC cf_X12 (at_120 hL) (by decide) rfl (by decide) rfl wf_RX12_134 dX12_number_23 ?_
      refine g_iload_n (q := 3) hC dX12_number_26 rfl rfl ?_
      refine g_icmp_le (tgt := 36) hC dX12_number_27 (by decide) ?_ ?_
      · refine g_aload_n (q := 0) hC dX12_number_36 rfl rfl rfl ?_
        refine g_getS (k := 0) hC cf_X12 (at_120 hL) (by decide) rfl (by decide) (by decide) wf_RX12_7 dX12_number_37 ?_
        refine g_iload_n (q := 1) hC dX12_number_40 rfl rfl ?_
        refine g_aload_n (q := 0) hC dX12_number_41 rfl rfl rfl ?_
        refine g_getI (k := 15) (kz := 15) hC cf_X12 (at_120 hL) (by decide) rfl (by decide) rfl wf_RX12_134 dX12_number_42 ?_
        refine g_iast hC (at_121 hL) (by decide) dX12_number_45 (fun X3 => ?_)
        refine g_aload_n (q := 0) hC dX12_number_46 rfl rfl rfl ?_
        refine g_callVV (As := []) hC mv_X12_ahead wml_RX12_168 (k_X12_ahead _ V hL X3) cf_X12 (at_120 hL) (by decide) ⟨Nat.zero_le _, Nat.zero_le _⟩ rfl rfl ⟨Nat.le_of_ble_eq_true rfl, Nat.le_of_ble_eq_true rfl⟩ (Nat.le_of_ble_eq_true rfl) dX12_number_47 (fun _ X5 => ?_)
        refine g_iconst (v := vI 1) hC dX12_number_50 rfl ?_
        exact g_zret1 hC hR (by decide) dX12_number_51
      · refine g_sub [0] rfl ?_
        exact gB_X12_number_30 hC hR hL  X
  · refine g_aload_n (q := 0) hC dX12_number_8 rfl rfl rfl ?_
    refine g_iconst (v := vI 2) hC dX12_number_9 rfl ?_
    refine g_callVI (As := [vI 2]) hC mv_X12_fails wml_RX12_174 (k_X12_fails _ V hL 2 X) cf_X12 (at_120 hL) (by decide) ⟨Nat.zero_le _, Nat.zero_le _⟩ rfl rfl ⟨Nat.le_of_ble_eq_true rfl, Nat.le_of_ble_eq_true rfl⟩ (Nat.le_of_ble_eq_true rfl) dX12_number_10 (fun r6 X7 => ?_)
    exact g_zret hC hR dX12_number_13
def f_X12_isSign (p1 : Int) (X : Mem) : Option (Int × Mem) :=
  c2 (X 120 12) 4 <| if ¬ (X 120 12) = 4 then
    some (0, X)
  else
    c2 (X 120 15) p1 <| if ¬ (X 120 15) = p1 then
      some (0, X)
    else
      some (1, X)
set_option maxRecDepth 20000 in
theorem k_X12_isSign (l : Launch) (V : Ev) {L : List Kd} (hL : LKm L) (p1 : Int) (X : Mem)  : Kt l V L yX12_isSign (.code yX12_isSign cX12_isSign 2 (some .boolean)) 0 0 [vR V.1 120, vI p1] rI X (f_X12_isSign p1 X) := by
  refine kt_of (own := RX12) (lv0 := [(0, vR V.1 120), (1, vI p1)]) (by decide) rfl (Nat.le_of_ble_eq_true rfl) rfl (fun C hCl hC hR => ?_)
  subst hCl
  unfold f_X12_isSign
  refine g_aload_n (q := 0) hC dX12_isSign_0 rfl rfl rfl ?_
  refine g_getI (k := 12) (kz := 12) hC cf_X12 (at_120 hL) (by decide) rfl (by decide) rfl wf_RX12_137 dX12_isSign_1 ?_
  refine g_iconst (v := vI 4) hC dX12_isSign_4 rfl ?_
  refine g_icmp_ne (tgt := 20) hC dX12_isSign_5 (by decide) ?_ ?_
  · refine g_iconst (v := vI 0) hC dX12_isSign_20 rfl ?_
    exact g_zret1 hC hR (by decide) dX12_isSign_21
  · refine g_aload_n (q := 0) hC dX12_isSign_8 rfl rfl rfl ?_
    refine g_getI (k := 15) (kz := 15) hC cf_X12 (at_120 hL) (by decide) rfl (by decide) rfl wf_RX12_134 dX12_isSign_9 ?_
    refine g_iload_n (q := 1) hC dX12_isSign_12 rfl rfl ?_
    refine g_icmp_ne (tgt := 20) hC dX12_isSign_13 (by decide) ?_ ?_
    · refine g_iconst (v := vI 0) hC dX12_isSign_20 rfl ?_
      exact g_zret1 hC hR (by decide) dX12_isSign_21
    · refine g_iconst (v := vI 1) hC dX12_isSign_16 rfl ?_
      refine g_goto (tgt := 21) hC dX12_isSign_17 (by decide) ?_
      exact g_zret1 hC hR (by decide) dX12_isSign_21
def f_X12_wantSign (p1 : Int) (X : Mem) : Option (Int × Mem) :=
  cl (f_X12_isSign p1 X) fun r1 X2 =>
  c1 r1 <| if ¬ r1 = 0 then
    cl (f_X12_ahead X2) fun _ X4 =>
    some (1, X4)
  else
    cl (f_X12_fails 2 X2) fun r5 X6 =>
    cz r5 (some (r5, X6))
set_option maxRecDepth 20000 in
theorem k_X12_wantSign (l : Launch) (V : Ev) {L : List Kd} (hL : LKm L) (p1 : Int) (X : Mem)  : Kt l V L yX12_wantSign (.code yX12_wantSign cX12_wantSign 2 (some .boolean)) 2 42 [vR V.1 120, vI p1] rI X (f_X12_wantSign p1 X) := by
  refine kt_of (own := RX12) (lv0 := [(0, vR V.1 120), (1, vI p1)]) (by decide) rfl (Nat.le_of_ble_eq_true rfl) rfl (fun C hCl hC hR => ?_)
  subst hCl
  unfold f_X12_wantSign
  refine g_aload_n (q := 0) hC dX12_wantSign_0 rfl rfl rfl ?_
  refine g_iload_n (q := 1) hC dX12_wantSign_1 rfl rfl ?_
  refine g_callVI (As := [vI p1]) hC mv_X12_isSign wml_RX12_171 (k_X12_isSign _ V hL p1 X) cf_X12 (at_120 hL) (by decide) ⟨Nat.zero_le _, Nat.zero_le _⟩ rfl rfl ⟨Nat.le_of_ble_eq_true rfl, Nat.le_of_ble_eq_true rfl⟩ (Nat.le_of_ble_eq_true rfl) dX12_wantSign_2 (fun r1 X2 => ?_)
  refine g_if_ne (tgt := 14) hC dX12_wantSign_5 (by decide) ?_ ?_
  · refine g_aload_n (q := 0) hC dX12_wantSign_14 rfl rfl rfl ?_
    refine g_callVV (As := []) hC mv_X12_ahead wml_RX12_168 (k_X12_ahead _ V hL X2) cf_X12 (at_120 hL) (by decide) ⟨Nat.zero_le _, Nat.zero_le _⟩ rfl rfl ⟨Nat.le_of_ble_eq_true rfl, Nat.le_of_ble_eq_true rfl⟩ (Nat.le_of_ble_eq_true rfl) dX12_wantSign_15 (fun _ X4 => ?_)
    refine g_iconst (v := vI 1) hC dX12_wantSign_18 rfl ?_
    exact g_zret1 hC hR (by decide) dX12_wantSign_19
  · refine g_aload_n (q := 0) hC dX12_wantSign_8 rfl rfl rfl ?_
    refine g_iconst (v := vI 2) hC dX12_wantSign_9 rfl ?_
    refine g_callVI (As := [vI 2]) hC mv_X12_fails wml_RX12_174 (k_X12_fails _ V hL 2 X2) cf_X12 (at_120 hL) (by decide) ⟨Nat.zero_le _, Nat.zero_le _⟩ rfl rfl ⟨Nat.le_of_ble_eq_true rfl, Nat.le_of_ble_eq_true rfl⟩ (Nat.le_of_ble_eq_true rfl) dX12_wantSign_10 (fun r5 X6 => ?_)
    exact g_zret hC hR dX12_wantSign_13
def B_X12_aRow_150  (X : Mem) : Option (Int × Mem) :=
  bd (ms X 120 20 ((X 120 20) + 1)) fun X5 =>
  some (1, X5)
def B_X12_aRow_122 (x1 : Int) (X : Mem) : Option (Int × Mem) :=
  cl (f_X12_isSign 59 X) fun r3 X4 =>
  c1 r3 <| if r3 = 0 then
    B_X12_aRow_150   X4
  else
    ax 2200 1760 <|
    c2 x1 (X4 121 1760) <| if (X4 121 1760) ≤ x1 then
      B_X12_aRow_150   X4
    else
      cl (f_X12_fails 7 X4) fun r6 X7 =>
      cz r6 (some (r6, X7))
def B_X12_aRow_77  (X : Mem) : Option (Int × Mem) :=
  cl (f_X12_fails 6 X) fun r11 X12 =>
  cz r11 (some (r11, X12))
def B_X12_aRow_59  (X : Mem) : Option (Int × Mem) :=
  cl (f_X12_fails 4 X) fun r13 X14 =>
  cz r13 (some (r13, X14))
def L_X12_aRow_42 : Nat → Int → Mem → Option (Int × Mem)
  | 0, _, _ => none
  | n + 1, x1, X =>
    c2 (X 120 12) 3 <| if ¬ (X 120 12) = 3 then
      B_X12_aRow_122   x1 X
    else
      c2 (X 120 15) 20 <| if (X 120 15) ≤ 20 then
        ax 2200 1760 <|
        c2 x1 (X 121 1760) <| if ¬ x1 = (X 121 1760) then
          ax 2200 1760 <|
          ax 2200 ((1808 + ((X 121 1760) * (X 120 20))) + x1) <| bd (ms X 121 ((1808 + ((X 121 1760) * (X 120 20))) + x1) (X 120 15)) fun X8 =>
          cl (f_X12_ahead X8) fun _ X10 =>
          L_X12_aRow_42   n (x1 + 1) X10
        else
          B_X12_aRow_77   X
      else
        B_X12_aRow_59   X
def f_X12_aRow  (X : Mem) : Option (Int × Mem) :=
  ax 2200 1761 <|
  c2 (X 120 20) (X 121 1761) <| if ¬ (X 120 20) = (X 121 1761) then
    cl (f_X12_ahead X) fun _ X2 =>
    c2 (X2 120 12) 3 <| if (X2 120 12) = 3 then
      L_X12_aRow_42   KF 0 X2
    else
      cl (f_X12_fails 2 X2) fun r15 X16 =>
      cz r15 (some (r15, X16))
  else
    cl (f_X12_fails 6 X) fun r17 X18 =>
    cz r17 (some (r17, X18))
set_option maxRecDepth 20000 in
theorem gB_X12_aRow_150 {C : Cx} {V : Ev} {L : List Kd} (hC : Ok C V cX12_aRow RX12 2 2 42) (hR : Rt C V L (some .boolean) rI) (hL : LKm L)  (X : Mem)  : G C V L 0 0 2 150 [(0, vR V.1 120)] [] X (B_X12_aRow_150    X) := by
  unfold B_X12_aRow_150
  refine g_aload_n (q := 0) hC dX12_aRow_150 rfl rfl rfl ?_
  refine g_dup hC dX12_aRow_151 rfl ?_
  refine g_getI (k := 20) (kz := 20) hC cf_X12 (at_120 hL) (by decide) rfl (by decide) rfl wf_RX12_191 dX12_aRow_152 ?_
  refine g_iconst (v := vI 1) hC dX12_aRow_155 rfl ?_
  refine g_iadd hC dX12_aRow_156 ?_
  refine g_putI (k := 20) (kz := 20) hC cf_X12 (at_120 hL) (by decide) rfl (by decide) rfl wf_RX12_191 rfl rfl dX12_aRow_157 (fun X5 => ?_)
  refine g_iconst (v := vI 1) hC dX12_aRow_160 rfl ?_
  exact g_zret1 hC hR (by decide) dX12_aRow_161
set_option maxRecDepth 20000 in
theorem gB_X12_aRow_122 {C : Cx} {V : Ev} {L : List Kd} (hC : Ok C V cX12_aRow RX12 2 2 42) (hR : Rt C V L (some .boolean) rI) (hL : LKm L) (x1 : Int) (X : Mem)  : G C V L 0 0 2 122 [(0, vR V.1 120), (1, vI x1)] [] X (B_X12_aRow_122   x1 X) := by
  unfold B_X12_aRow_122
  refine g_aload_n (q := 0) hC dX12_aRow_122 rfl rfl rfl ?_
  refine g_bipush (v := vI 59) hC dX12_aRow_123 rfl ?_
  refine g_callVI (As := [vI 59]) hC mv_X12_isSign wml_RX12_171 (k_X12_isSign _ V hL 59 X) cf_X12 (at_120 hL) (by decide) ⟨Nat.zero_le _, Nat.zero_le _⟩ rfl rfl ⟨Nat.le_of_ble_eq_true rfl, Nat.le_of_ble_eq_true rfl⟩ (Nat.le_of_ble_eq_true rfl) dX12_aRow_125 (fun r3 X4 => ?_)
  refine g_if_eq (tgt := 150) hC dX12_aRow_128 (by decide) ?_ ?_
  · refine g_sub [0] rfl ?_
    exact gB_X12_aRow_150 hC hR hL  X4
  · refine g_iload_n (q := 1) hC dX12_aRow_131 rfl rfl ?_
    refine g_aload_n (q := 0) hC dX12_aRow_132 rfl rfl rfl ?_
    refine g_getS (k := 0) hC cf_X12 (at_120 hL) (by decide) rfl (by decide) (by decide) wf_RX12_7 dX12_aRow_133 ?_
    refine g_sipush (v := vI 1760) hC dX12_aRow_136 rfl ?_
    refine g_iald hC (at_121 hL) (by decide) dX12_aRow_139 ?_
    refine g_icmp_ge (tgt := 150) hC dX12_aRow_140 (by decide) ?_ ?_
    · refine g_sub [0] rfl ?_
      exact gB_X12_aRow_150 hC hR hL  X4
    · refine g_aload_n (q := 0) hC dX12_aRow_143 rfl rfl rfl ?_
      refine g_bipush (v := vI 7) hC dX12_aRow_144 rfl ?_
      refine g_callVI (As := [vI 7]) hC mv_X12_fails wml_RX12_174 (k_X12_fails _ V hL 7 X4) cf_X12 (at_120 hL) (by decide) ⟨Nat.zero_le _, Nat.zero_le _⟩ rfl rfl ⟨Nat.le_of_ble_eq_true rfl, Nat.le_of_ble_eq_true rfl⟩ (Nat.le_of_ble_eq_true rfl) dX12_aRow_146 (fun r6 X7 => ?_)
      exact g_zret hC hR dX12_aRow_149
set_option maxRecDepth 20000 in
theorem gB_X12_aRow_77 {C : Cx} {V : Ev} {L : List Kd} (hC : Ok C V cX12_aRow RX12 2 2 42) (hR : Rt C V L (some .boolean) rI) (hL : LKm L)  (X : Mem)  : G C V L 0 0 2 77 [(0, vR V.1 120)] [] X (B_X12_aRow_77    X) := by
  unfold B_X12_aRow_77
  refine g_aload_n (q := 0) hC dX12_aRow_77 rfl rfl rfl ?_
  refine g_bipush (v := vI 6) hC dX12_aRow_78 rfl ?_
  refine g_callVI (As := [vI 6]) hC mv_X12_fails wml_RX12_174 (k_X12_fails _ V hL 6 X) cf_X12 (at_120 hL) (by decide) ⟨Nat.zero_le _, Nat.zero_le _⟩ rfl rfl ⟨Nat.le_of_ble_eq_true rfl, Nat.le_of_ble_eq_true rfl⟩ (Nat.le_of_ble_eq_true rfl) dX12_aRow_80 (fun r11 X12 => ?_)
  exact g_zret hC hR dX12_aRow_83
set_option maxRecDepth 20000 in
theorem gB_X12_aRow_59 {C : Cx} {V : Ev} {L : List Kd} (hC : Ok C V cX12_aRow RX12 2 2 42) (hR : Rt C V L (some .boolean) rI) (hL : LKm L)  (X : Mem)  : G C V L 0 0 2 59 [(0, vR V.1 120)] [] X (B_X12_aRow_59    X) := by
  unfold B_X12_aRow_59
  refine g_aload_n (q := 0) hC dX12_aRow_59 rfl rfl rfl ?_
  refine g_iconst (v := vI 4) hC dX12_aRow_60 rfl ?_
  refine g_callVI (As := [vI 4]) hC mv_X12_fails wml_RX12_174 (k_X12_fails _ V hL 4 X) cf_X12 (at_120 hL) (by decide) ⟨Nat.zero_le _, Nat.zero_le _⟩ rfl rfl ⟨Nat.le_of_ble_eq_true rfl, Nat.le_of_ble_eq_true rfl⟩ (Nat.le_of_ble_eq_true rfl) dX12_aRow_61 (fun r13 X14 => ?_)
  exact g_zret hC hR dX12_aRow_64
set_option maxRecDepth 20000 in
theorem gL_X12_aRow_42 {C : Cx} {V : Ev} {L : List Kd} (hC : Ok C V cX12_aRow RX12 2 2 42) (hR : Rt C V L (some .boolean) rI) (hL : LKm L) : ∀ (n : Nat) (x1 : Int) (X : Mem), G C V L 0 0 2 42 [(0, vR V.1 120), (1, vI x1)] [] X (L_X12_aRow_42   n x1 X) := by
  intro n
  induction n with
  | zero => intro x1 X; exact g_none
  | succ n ih =>
    intro x1 X
    rw [L_X12_aRow_42]
    refine g_aload_n (q := 0) hC dX12_aRow_42 rfl rfl rfl ?_
    refine g_getI (k := 12) (kz := 12) hC cf_X12 (at_120 hL) (by decide) rfl (by decide) rfl wf_RX12_137 dX12_aRow_43 ?_
    refine g_iconst (v := vI 3) hC dX12_aRow_46 rfl ?_
    refine g_icmp_ne (tgt := 122) hC dX12_aRow_47 (by decide) ?_ ?_
    · exact gB_X12_aRow_122 hC hR hL  x1 X
    · refine g_aload_n (q := 0) hC dX12_aRow_50 rfl rfl rfl ?_
      refine g_getI (k := 15) (kz := 15) hC cf_X12 (at_120 hL) (by decide) rfl (by decide) rfl wf_RX12_134 dX12_aRow_51 ?_
      refine g_bipush (v := vI 20) hC dX12_aRow_54 rfl ?_
      refine g_icmp_le (tgt := 65) hC dX12_aRow_56 (by decide) ?_ ?_
      · refine g_iload_n (q := 1) hC dX12_aRow_65 rfl rfl ?_
        refine g_aload_n (q := 0) hC dX12_aRow_66 rfl rfl rfl ?_
        refine g_getS (k := 0) hC cf_X12 (at_120 hL) (by decide) rfl (by decide) (by decide) wf_RX12_7 dX12_aRow_67 ?_
        refine g_sipush (v := vI 1760) hC dX12_aRow_70 rfl ?_
        refine g_iald hC (at_121 hL) (by decide) dX12_aRow_73 ?_
        refine g_icmp_ne (tgt := 84) hC dX12_aRow_74 (by decide) ?_ ?_
        · refine g_aload_n (q := 0) hC dX12_aRow_84 rfl rfl rfl ?_
          refine g_getS (k := 0) hC cf_X12 (at_120 hL) (by decide) rfl (by decide) (by decide) wf_RX12_7 dX12_aRow_85 ?_
          refine g_sipush (v := vI 1808) hC dX12_aRow_88 rfl ?_
          refine g_aload_n (q := 0) hC dX12_aRow_91 rfl rfl rfl ?_
          refine g_getS (k := 0) hC cf_X12 (at_120 hL) (by decide) rfl (by decide) (by decide) wf_RX12_7 dX12_aRow_92 ?_
          refine g_sipush (v := vI 1760) hC dX12_aRow_95 rfl ?_
          refine g_iald hC (at_121 hL) (by decide) dX12_aRow_98 ?_
          refine g_aload_n (q := 0) hC dX12_aRow_99 rfl rfl rfl ?_
          refine g_getI (k := 20) (kz := 20) hC cf_X12 (at_120 hL) (by decide) rfl (by decide) rfl wf_RX12_191 dX12_aRow_100 ?_
          refine g_imul hC dX12_aRow_103 ?_
          refine g_iadd hC dX12_aRow_104 ?_
          refine g_iload_n (q := 1) hC dX12_aRow_105 rfl rfl ?_
          refine g_iadd hC dX12_aRow_106 ?_
          refine g_aload_n (q := 0) hC dX12_aRow_107 rfl rfl rfl ?_
          refine g_getI (k := 15) (kz := 15) hC cf_X12 (at_120 hL) (by decide) rfl (by decide) rfl wf_RX12_134 dX12_aRow_108 ?_
          refine g_iast hC (at_121 hL) (by decide) dX12_aRow_111 (fun X8 => ?_)
          refine g_iinc (q := 1) hC dX12_aRow_112 rfl (by decide) rfl ?_
          refine g_aload_n (q := 1) hC dX12_aRow_115 rfl rfl rfl ?_
          refine g_callVV (As := []) hC mv_X12_ahead wml_RX12_168 (k_X12_ahead _ V hL X8) cf_X12 (at_120 hL) (by decide) ⟨Nat.zero_le _, Nat.zero_le _⟩ rfl rfl ⟨Nat.le_of_ble_eq_true rfl, Nat.le_of_ble_eq_true rfl⟩ (Nat.le_of_ble_eq_true rfl) dX12_aRow_116 (fun _ X10 => ?_)
          refine g_goto (tgt := 42) hC dX12_aRow_119 (by decide) ?_
          refine g_sub [1, 0] rfl ?_
          exact ih (x1 + 1) X10
        · refine g_sub [0] rfl ?_
          exact gB_X12_aRow_77 hC hR hL  X
      · refine g_sub [0] rfl ?_
        exact gB_X12_aRow_59 hC hR hL  X
set_option maxRecDepth 20000 in
theorem k_X12_aRow (l : Launch) (V : Ev) {L : List Kd} (hL : LKm L)  (X : Mem)  : Kt l V L yX12_aRow (.code yX12_aRow cX12_aRow 2 (some .boolean)) 2 42 [vR V.1 120] rI X (f_X12_aRow  X) := by
  refine kt_of (own := RX12) (lv0 := [(0, vR V.1 120)]) (by decide) rfl (Nat.le_of_ble_eq_true rfl) rfl (fun C hCl hC hR => ?_)
  subst hCl
  unfold f_X12_aRow
  refine g_aload_n (q := 0) hC dX12_aRow_0 rfl rfl rfl ?_
  refine g_getI (k := 20) (kz := 20) hC cf_X12 (at_120 hL) (by decide) rfl (by decide) rfl wf_RX12_191 dX12_aRow_1 ?_
  refine g_aload_n (q := 0) hC dX12_aRow_4 rfl rfl rfl ?_
  refine g_getS (k := 0) hC cf_X12 (at_120 hL) (by decide) rfl (by decide) (by decide) wf_RX12_7 dX12_aRow_5 ?_
  refine g_sipush (v := vI 1761) hC dX12_aRow_8 rfl ?_
  refine g_iald hC (at_121 hL) (by decide) dX12_aRow_11 ?_
  refine g_icmp_ne (tgt := 22) hC dX12_aRow_12 (by decide) ?_ ?_
  · refine g_aload_n (q := 0) hC dX12_aRow_22 rfl rfl rfl ?_
    refine g_callVV (As := []) hC mv_X12_ahead wml_RX12_168 (k_X12_ahead _ V hL X) cf_X12 (at_120 hL) (by decide) ⟨Nat.zero_le _, Nat.zero_le _⟩ rfl rfl ⟨Nat.le_of_ble_eq_true rfl, Nat.le_of_ble_eq_true rfl⟩ (Nat.le_of_ble_eq_true rfl) dX12_aRow_23 (fun _ X2 => ?_)
    refine g_aload_n (q := 0) hC dX12_aRow_26 rfl rfl rfl ?_
    refine g_getI (k := 12) (kz := 12) hC cf_X12 (at_120 hL) (by decide) rfl (by decide) rfl wf_RX12_137 dX12_aRow_27 ?_
    refine g_iconst (v := vI 3) hC dX12_aRow_30 rfl ?_
    refine g_icmp_eq (tgt := 40) hC dX12_aRow_31 (by decide) ?_ ?_
    · refine g_iconst (v := vI 0) hC dX12_aRow_40 rfl ?_
      refine g_istore_n hC dX12_aRow_41 rfl (by decide) rfl ?_
      refine g_sub [1, 0] rfl ?_
      exact gL_X12_aRow_42 hC hR hL  KF 0 X2
    · refine g_aload_n (q := 0) hC dX12_aRow_34 rfl rfl rfl ?_
      refine g_iconst (v := vI 2) hC dX12_aRow_35 rfl ?_
      refine g_callVI (As := [vI 2]) hC mv_X12_fails wml_RX12_174 (k_X12_fails _ V hL 2 X2) cf_X12 (at_120 hL) (by decide) ⟨Nat.zero_le _, Nat.zero_le _⟩ rfl rfl ⟨Nat.le_of_ble_eq_true rfl, Nat.le_of_ble_eq_true rfl⟩ (Nat.le_of_ble_eq_true rfl) dX12_aRow_36 (fun r15 X16 => ?_)
      exact g_zret hC hR dX12_aRow_39
  · refine g_aload_n (q := 0) hC dX12_aRow_15 rfl rfl rfl ?_
    refine g_bipush (v := vI 6) hC dX12_aRow_16 rfl ?_
    refine g_callVI (As := [vI 6]) hC mv_X12_fails wml_RX12_174 (k_X12_fails _ V hL 6 X) cf_X12 (at_120 hL) (by decide) ⟨Nat.zero_le _, Nat.zero_le _⟩ rfl rfl ⟨Nat.le_of_ble_eq_true rfl, Nat.le_of_ble_eq_true rfl⟩ (Nat.le_of_ble_eq_true rfl) dX12_aRow_18 (fun r17 X18 => ?_)
    exact g_zret hC hR dX12_aRow_21
def f_X12_isName (p1 : Nat) (X : Mem) : Option (Int × Mem) :=
  c2 (X 120 12) 2 <| if ¬ (X 120 12) = 2 then
    some (0, X)
  else
    c2 ((X 120 14) - (X 120 13)) 8 <| if 8 < ((X 120 14) - (X 120 13)) then
      some (0, X)
    else
      cl (f_X12_inWords p1 X) fun r1 X2 =>
      c2 r1 ((-1)) <| if ¬ r1 = ((-1)) then
        some (0, X2)
      else
        some (1, X2)
set_option maxRecDepth 20000 in
theorem k_X12_isName (l : Launch) (V : Ev) {L : List Kd} (hL : LKm L) (p1 : Nat) (X : Mem) (h1 : p1 < nSt) : Kt l V L yX12_isName (.code yX12_isName cX12_isName 2 (some .boolean)) 6 186 [vR V.1 120, vS V p1] rI X (f_X12_isName p1 X) := by
  refine kt_of (own := RX12) (lv0 := [(0, vR V.1 120), (1, vS V p1)]) (by decide) rfl (Nat.le_of_ble_eq_true rfl) rfl (fun C hCl hC hR => ?_)
  subst hCl
  unfold f_X12_isName
  refine g_aload_n (q := 0) hC dX12_isName_0 rfl rfl rfl ?_
  refine g_getI (k := 12) (kz := 12) hC cf_X12 (at_120 hL) (by decide) rfl (by decide) rfl wf_RX12_137 dX12_isName_1 ?_
  refine g_iconst (v := vI 2) hC dX12_isName_4 rfl ?_
  refine g_icmp_ne (tgt := 35) hC dX12_isName_5 (by decide) ?_ ?_
  · refine g_iconst (v := vI 0) hC dX12_isName_35 rfl ?_
    exact g_zret1 hC hR (by decide) dX12_isName_36
  · refine g_aload_n (q := 0) hC dX12_isName_8 rfl rfl rfl ?_
    refine g_getI (k := 14) (kz := 14) hC cf_X12 (at_120 hL) (by decide) rfl (by decide) rfl wf_RX12_124 dX12_isName_9 ?_
    refine g_aload_n (q := 0) hC dX12_isName_12 rfl rfl rfl ?_
    refine g_getI (k := 13) (kz := 13) hC cf_X12 (at_120 hL) (by decide) rfl (by decide) rfl wf_RX12_131 dX12_isName_13 ?_
    refine g_isub hC dX12_isName_16 ?_
    refine g_bipush (v := vI 8) hC dX12_isName_17 rfl ?_
    refine g_icmp_gt (tgt := 35) hC dX12_isName_19 (by decide) ?_ ?_
    · refine g_iconst (v := vI 0) hC dX12_isName_35 rfl ?_
      exact g_zret1 hC hR (by decide) dX12_isName_36
    · refine g_aload_n (q := 0) hC dX12_isName_22 rfl rfl rfl ?_
      refine g_aload_n (q := 1) hC dX12_isName_23 rfl rfl rfl ?_
      refine g_callVI (As := [vS V p1]) hC mv_X12_inWords wml_RX12_177 (k_X12_inWords _ V hL p1 X h1) cf_X12 (at_120 hL) (by decide) ⟨Nat.zero_le _, Nat.zero_le _⟩ rfl rfl ⟨Nat.le_of_ble_eq_true rfl, Nat.le_of_ble_eq_true rfl⟩ (Nat.le_of_ble_eq_true rfl) dX12_isName_24 (fun r1 X2 => ?_)
      refine g_iconst (v := vI (-1)) hC dX12_isName_27 rfl ?_
      refine g_icmp_ne (tgt := 35) hC dX12_isName_28 (by decide) ?_ ?_
      · refine g_iconst (v := vI 0) hC dX12_isName_35 rfl ?_
        exact g_zret1 hC hR (by decide) dX12_isName_36
      · refine g_iconst (v := vI 1) hC dX12_isName_31 rfl ?_
        refine g_goto (tgt := 36) hC dX12_isName_32 (by decide) ?_
        exact g_zret1 hC hR (by decide) dX12_isName_36
def L_X12_nameHere_7 : Nat → Int → Int → Mem → Option (Int × Mem)
  | 0, _, _, _ => none
  | n + 1, x1, x3, X =>
    c2 x3 (X 120 14) <| if (X 120 14) ≤ x3 then
      some (x1, X)
    else
      cl (f_X12_byteAt x3 X) fun r2 X3 =>
      c1 r2 <|
      bd (lo (lshl x1 8) r2) fun v4 =>
      L_X12_nameHere_7   n v4 (x3 + 1) X3
def f_X12_nameHere  (X : Mem) : Option (Int × Mem) :=
  bd (X 120 13) fun v1 =>
  L_X12_nameHere_7   KF 0 v1 X
set_option maxRecDepth 20000 in
theorem gL_X12_nameHere_7 {C : Cx} {V : Ev} {L : List Kd} (hC : Ok C V cX12_nameHere RX12 4 1 21) (hR : Rt C V L (some .long) rJ) (hL : LKm L) : ∀ (n : Nat) (x1 : Int) (x3 : Int) (X : Mem), G C V L 0 0 4 7 [(0, vR V.1 120), (1, vJ x1), (3, vI x3)] [] X (L_X12_nameHere_7   n x1 x3 X) := by
  intro n
  induction n with
  | zero => intro x1 x3 X; exact g_none
  | succ n ih =>
    intro x1 x3 X
    rw [L_X12_nameHere_7]
    refine g_iload_n (q := 2) hC dX12_nameHere_7 rfl rfl ?_
    refine g_aload_n (q := 0) hC dX12_nameHere_8 rfl rfl rfl ?_
    refine g_getI (k := 14) (kz := 14) hC cf_X12 (at_120 hL) (by decide) rfl (by decide) rfl wf_RX12_124 dX12_nameHere_9 ?_
    refine g_icmp_ge (tgt := 33) hC dX12_nameHere_12 (by decide) ?_ ?_
    · refine g_lload_n (q := 1) hC dX12_nameHere_33 rfl rfl ?_
      exact g_lret hC hR dX12_nameHere_34
    · refine g_lload_n (q := 1) hC dX12_nameHere_15 rfl rfl ?_
      refine g_bipush (v := vI 8) hC dX12_nameHere_16 rfl ?_
      refine g_lshl hC dX12_nameHere_18 ?_
      refine g_aload_n (q := 0) hC dX12_nameHere_19 rfl rfl rfl ?_
      refine g_iload_n (q := 2) hC dX12_nameHere_20 rfl rfl ?_
      refine g_callVI (As := [vI x3]) hC mv_X12_byteAt wml_RX12_127 (k_X12_byteAt _ V hL x3 X) cf_X12 (at_120 hL) (by decide) ⟨Nat.zero_le _, Nat.zero_le _⟩ rfl rfl ⟨Nat.le_of_ble_eq_true rfl, Nat.le_of_ble_eq_true rfl⟩ (Nat.le_of_ble_eq_true rfl) dX12_nameHere_21 (fun r2 X3 => ?_)
      refine g_i2l hC dX12_nameHere_24 ?_
      refine g_lor hC dX12_nameHere_25 ?_
      refine g_topJ (fun v4 => ?_)
      refine g_lstore_n hC dX12_nameHere_26 rfl (by decide) rfl ?_
      refine g_iinc (q := 2) hC dX12_nameHere_27 rfl (by decide) rfl ?_
      refine g_goto (tgt := 7) hC dX12_nameHere_30 (by decide) ?_
      refine g_sub [2, 1, 0] rfl ?_
      exact ih v4 (x3 + 1) X3
set_option maxRecDepth 20000 in
theorem k_X12_nameHere (l : Launch) (V : Ev) {L : List Kd} (hL : LKm L)  (X : Mem)  : Kt l V L yX12_nameHere (.code yX12_nameHere cX12_nameHere 4 (some .long)) 1 21 [vR V.1 120] rJ X (f_X12_nameHere  X) := by
  refine kt_of (own := RX12) (lv0 := [(0, vR V.1 120)]) (by decide) rfl (Nat.le_of_ble_eq_true rfl) rfl (fun C hCl hC hR => ?_)
  subst hCl
  unfold f_X12_nameHere
  refine g_lconst (v := vJ 0) hC dX12_nameHere_0 rfl ?_
  refine g_lstore_n hC dX12_nameHere_1 rfl (by decide) rfl ?_
  refine g_aload_n (q := 1) hC dX12_nameHere_2 rfl rfl rfl ?_
  refine g_getI (k := 13) (kz := 13) hC cf_X12 (at_120 hL) (by decide) rfl (by decide) rfl wf_RX12_131 dX12_nameHere_3 ?_
  refine g_topI (fun v1 => ?_)
  refine g_istore_n hC dX12_nameHere_6 rfl (by decide) rfl ?_
  refine g_sub [2, 1, 0] rfl ?_
  exact gL_X12_nameHere_7 hC hR hL  KF 0 v1 X
def L_X12_findHere_2 : Nat → Int → Int → Int → Mem → Option (Int × Mem)
  | 0, _, _, _, _ => none
  | n + 1, x1, x2, x3, X =>
    c2 x3 x2 <| if x2 ≤ x3 then
      some ((-1), X)
    else
      ax 25 (x1 + x3) <|
      cl (f_X12_nameHere X) fun r1 X2 =>
      d2 (X 122 (x1 + x3)) r1 <| if ¬ (X 122 (x1 + x3)) = r1 then
        L_X12_findHere_2   n x1 x2 (x3 + 1) X2
      else
        some (x3, X2)
def f_X12_findHere (p1 : Int) (p2 : Int) (X : Mem) : Option (Int × Mem) :=
  L_X12_findHere_2   KF p1 p2 0 X
set_option maxRecDepth 20000 in
theorem gL_X12_findHere_2 {C : Cx} {V : Ev} {L : List Kd} (hC : Ok C V cX12_findHere RX12 4 2 44) (hR : Rt C V L (some .int) rI) (hL : LKm L) : ∀ (n : Nat) (x1 : Int) (x2 : Int) (x3 : Int) (X : Mem), G C V L 0 0 4 2 [(0, vR V.1 120), (1, vI x1), (2, vI x2), (3, vI x3)] [] X (L_X12_findHere_2   n x1 x2 x3 X) := by
  intro n
  induction n with
  | zero => intro x1 x2 x3 X; exact g_none
  | succ n ih =>
    intro x1 x2 x3 X
    rw [L_X12_findHere_2]
    refine g_iload_n (q := 3) hC dX12_findHere_2 rfl rfl ?_
    refine g_iload_n (q := 2) hC dX12_findHere_3 rfl rfl ?_
    refine g_icmp_ge (tgt := 31) hC dX12_findHere_4 (by decide) ?_ ?_
    · refine g_iconst (v := vI (-1)) hC dX12_findHere_31 rfl ?_
      exact g_iret hC hR dX12_findHere_32
    · refine g_aload_n (q := 0) hC dX12_findHere_7 rfl rfl rfl ?_
      refine g_getS (k := 1) hC cf_X12 (at_120 hL) (by decide) rfl (by decide) (by decide) wf_RX12_13 dX12_findHere_8 ?_
      refine g_iload_n (q := 1) hC dX12_findHere_11 rfl rfl ?_
      refine g_iload_n (q := 3) hC dX12_findHere_12 rfl rfl ?_
      refine g_iadd hC dX12_findHere_13 ?_
      refine g_lald hC (at_122 hL) (by decide) dX12_findHere_14 ?_
      refine g_aload_n (q := 0) hC dX12_findHere_15 rfl rfl rfl ?_
      refine g_callVJ (As := []) hC mv_X12_nameHere wml_RX12_181 (k_X12_nameHere _ V hL X) cf_X12 (at_120 hL) (by decide) ⟨Nat.zero_le _, Nat.zero_le _⟩ rfl rfl ⟨Nat.le_of_ble_eq_true rfl, Nat.le_of_ble_eq_true rfl⟩ (Nat.le_of_ble_eq_true rfl) dX12_findHere_16 (fun r1 X2 => ?_)
      refine g_lcmp_ne (tgt := 25) hC dX12_findHere_19 rfl dX12_findHere_20 (by decide) ?_ ?_
      · refine g_iinc (q := 3) hC dX12_findHere_25 rfl (by decide) rfl ?_
        refine g_goto (tgt := 2) hC dX12_findHere_28 (by decide) ?_
        refine g_sub [1, 2, 3, 0] rfl ?_
        exact ih x1 x2 (x3 + 1) X2
      · refine g_iload_n (q := 3) hC dX12_findHere_23 rfl rfl ?_
        exact g_iret hC hR dX12_findHere_24
set_option maxRecDepth 20000 in
theorem k_X12_findHere (l : Launch) (V : Ev) {L : List Kd} (hL : LKm L) (p1 : Int) (p2 : Int) (X : Mem)  : Kt l V L yX12_findHere (.code yX12_findHere cX12_findHere 4 (some .int)) 2 44 [vR V.1 120, vI p1, vI p2] rI X (f_X12_findHere p1 p2 X) := by
  refine kt_of (own := RX12) (lv0 := [(0, vR V.1 120), (1, vI p1), (2, vI p2)]) (by decide) rfl (Nat.le_of_ble_eq_true rfl) rfl (fun C hCl hC hR => ?_)
  subst hCl
  unfold f_X12_findHere
  refine g_iconst (v := vI 0) hC dX12_findHere_0 rfl ?_
  refine g_istore_n hC dX12_findHere_1 rfl (by decide) rfl ?_
  refine g_sub [1, 2, 3, 0] rfl ?_
  exact gL_X12_findHere_2 hC hR hL  KF p1 p2 0 X
def B_X12_aBar_139  (X : Mem) : Option (Int × Mem) :=
  ax 2200 1762 <|
  ax 2200 1762 <| bd (ms X 121 1762 ((X 121 1762) + 1)) fun X14 =>
  some (1, X14)
def B_X12_aBar_125 (go84 : Int → Int → Mem → Option (Int × Mem)) (x2 : Int) (x3 : Int) (s0 : Int) (s1 : Int) (s2 : Int) (X : Mem) : Option (Int × Mem) :=
  cl (f_X12_number s2 s1 s0 X) fun r17 X18 =>
  c1 r17 <| if ¬ r17 = 0 then
    go84 x2 (x3 + 1) X18
  else
    some (0, X18)
def B_X12_aBar_114 (go84 : Int → Int → Mem → Option (Int × Mem)) (x2 : Int) (x3 : Int) (s0 : Int) (s1 : Int) (X : Mem) : Option (Int × Mem) :=
  c1 x3 <| if ¬ x3 = 0 then
    B_X12_aBar_125  go84 x2 x3 16 s0 s1 X
  else
    B_X12_aBar_125  go84 x2 x3 9 s0 s1 X
def L_X12_aBar_84 : Nat → Int → Int → Mem → Option (Int × Mem)
  | 0, _, _, _ => none
  | n + 1, x2, x3, X =>
    c2 x3 4 <| if 4 ≤ x3 then
      B_X12_aBar_139   X
    else
      cl (f_X12_wantWord 33 (3 + x3) X) fun r15 X16 =>
      c1 r15 <| if r15 = 0 then
        some (0, X16)
      else
        c1 x3 <| if ¬ x3 = 0 then
          B_X12_aBar_114  (fun x2 x3 X => L_X12_aBar_84   n x2 x3 X) x2 x3 0 (x2 + x3) X16
        else
          B_X12_aBar_114  (fun x2 x3 X => L_X12_aBar_84   n x2 x3 X) x2 x3 1 (x2 + x3) X16
def f_X12_aBar  (X : Mem) : Option (Int × Mem) :=
  ax 2200 1762 <|
  bd (X 121 1762) fun v1 =>
  bd (1788 + (4 * v1)) fun v2 =>
  c2 v1 5 <| if ¬ v1 = 5 then
    cl (f_X12_ahead X) fun _ X4 =>
    cl (f_X12_isName 33 X4) fun r5 X6 =>
    c1 r5 <| if ¬ r5 = 0 then
      cl (f_X12_findHere 20 v1 X6) fun r7 X8 =>
      c2 r7 ((-1)) <| if r7 = ((-1)) then
        cl (f_X12_nameHere X8) fun r9 X10 =>
        ax 25 (20 + v1) <| bd (ms X10 122 (20 + v1) r9) fun X11 =>
        cl (f_X12_ahead X11) fun _ X13 =>
        L_X12_aBar_84   KF v2 0 X13
      else
        cl (f_X12_fails 3 X8) fun r19 X20 =>
        cz r19 (some (r19, X20))
    else
      cl (f_X12_fails 2 X6) fun r21 X22 =>
      cz r21 (some (r21, X22))
  else
    cl (f_X12_fails 6 X) fun r23 X24 =>
    cz r23 (some (r23, X24))
set_option maxRecDepth 20000 in
theorem gB_X12_aBar_139 {C : Cx} {V : Ev} {L : List Kd} (hC : Ok C V cX12_aBar RX12 4 7 208) (hR : Rt C V L (some .boolean) rI) (hL : LKm L)  (X : Mem)  : G C V L 0 0 4 139 [(0, vR V.1 120)] [] X (B_X12_aBar_139    X) := by
  unfold B_X12_aBar_139
  refine g_aload_n (q := 0) hC dX12_aBar_139 rfl rfl rfl ?_
  refine g_getS (k := 0) hC cf_X12 (at_120 hL) (by decide) rfl (by decide) (by decide) wf_RX12_7 dX12_aBar_140 ?_
  refine g_sipush (v := vI 1762) hC dX12_aBar_143 rfl ?_
  refine g_dup2 hC dX12_aBar_146 rfl rfl ?_
  refine g_iald hC (at_121 hL) (by decide) dX12_aBar_147 ?_
  refine g_iconst (v := vI 1) hC dX12_aBar_148 rfl ?_
  refine g_iadd hC dX12_aBar_149 ?_
  refine g_iast hC (at_121 hL) (by decide) dX12_aBar_150 (fun X14 => ?_)
  refine g_iconst (v := vI 1) hC dX12_aBar_151 rfl ?_
  exact g_zret1 hC hR (by decide) dX12_aBar_152
set_option maxRecDepth 20000 in
theorem gB_X12_aBar_125 {C : Cx} {V : Ev} {L : List Kd} (hC : Ok C V cX12_aBar RX12 4 7 208) (hR : Rt C V L (some .boolean) rI) (hL : LKm L) {go84 : Int → Int → Mem → Option (Int × Mem)} (hgo84 : ∀ (x2 : Int) (x3 : Int) (X : Mem), G C V L 0 0 4 84 [(0, vR V.1 120), (2, vI x2), (3, vI x3)] [] X (go84 x2 x3 X)) (x2 : Int) (x3 : Int) (s0 : Int) (s1 : Int) (s2 : Int) (X : Mem)  : G C V L 0 0 4 125 [(0, vR V.1 120), (2, vI x2), (3, vI x3)] [vI s0, vI s1, vI s2, vR V.1 120] X (B_X12_aBar_125  go84 x2 x3 s0 s1 s2 X) := by
  unfold B_X12_aBar_125
  refine g_callVI (As := [vI s2, vI s1, vI s0]) hC mv_X12_number wml_RX12_207 (k_X12_number _ V hL s2 s1 s0 X) cf_X12 (at_120 hL) (by decide) ⟨Nat.zero_le _, Nat.zero_le _⟩ rfl rfl ⟨Nat.le_of_ble_eq_true rfl, Nat.le_of_ble_eq_true rfl⟩ (Nat.le_of_ble_eq_true rfl) dX12_aBar_125 (fun r17 X18 => ?_)
  refine g_if_ne (tgt := 133) hC dX12_aBar_128 (by decide) ?_ ?_
  · refine g_iinc (q := 2) hC dX12_aBar_133 rfl (by decide) rfl ?_
    refine g_goto (tgt := 84) hC dX12_aBar_136 (by decide) ?_
    refine g_sub [1, 2, 0] rfl ?_
    exact hgo84 x2 (x3 + 1) X18
  · refine g_iconst (v := vI 0) hC dX12_aBar_131 rfl ?_
    exact g_zret1 hC hR (by decide) dX12_aBar_132
set_option maxRecDepth 20000 in
theorem gB_X12_aBar_114 {C : Cx} {V : Ev} {L : List Kd} (hC : Ok C V cX12_aBar RX12 4 7 208) (hR : Rt C V L (some .boolean) rI) (hL : LKm L) {go84 : Int → Int → Mem → Option (Int × Mem)} (hgo84 : ∀ (x2 : Int) (x3 : Int) (X : Mem), G C V L 0 0 4 84 [(0, vR V.1 120), (2, vI x2), (3, vI x3)] [] X (go84 x2 x3 X)) (x2 : Int) (x3 : Int) (s0 : Int) (s1 : Int) (X : Mem)  : G C V L 0 0 4 114 [(0, vR V.1 120), (2, vI x2), (3, vI x3)] [vI s0, vI s1, vR V.1 120] X (B_X12_aBar_114  go84 x2 x3 s0 s1 X) := by
  unfold B_X12_aBar_114
  refine g_iload_n (q := 2) hC dX12_aBar_114 rfl rfl ?_
  refine g_if_ne (tgt := 123) hC dX12_aBar_115 (by decide) ?_ ?_
  · refine g_bipush (v := vI 16) hC dX12_aBar_123 rfl ?_
    exact gB_X12_aBar_125 hC hR hL hgo84 x2 x3 16 s0 s1 X
  · refine g_bipush (v := vI 9) hC dX12_aBar_118 rfl ?_
    refine g_goto (tgt := 125) hC dX12_aBar_120 (by decide) ?_
    exact gB_X12_aBar_125 hC hR hL hgo84 x2 x3 9 s0 s1 X
set_option maxRecDepth 20000 in
theorem gL_X12_aBar_84 {C : Cx} {V : Ev} {L : List Kd} (hC : Ok C V cX12_aBar RX12 4 7 208) (hR : Rt C V L (some .boolean) rI) (hL : LKm L) : ∀ (n : Nat) (x2 : Int) (x3 : Int) (X : Mem), G C V L 0 0 4 84 [(0, vR V.1 120), (2, vI x2), (3, vI x3)] [] X (L_X12_aBar_84   n x2 x3 X) := by
  intro n
  induction n with
  | zero => intro x2 x3 X; exact g_none
  | succ n ih =>
    intro x2 x3 X
    rw [L_X12_aBar_84]
    refine g_iload_n (q := 2) hC dX12_aBar_84 rfl rfl ?_
    refine g_iconst (v := vI 4) hC dX12_aBar_85 rfl ?_
    refine g_icmp_ge (tgt := 139) hC dX12_aBar_86 (by decide) ?_ ?_
    · refine g_sub [0] rfl ?_
      exact gB_X12_aBar_139 hC hR hL  X
    · refine g_aload_n (q := 0) hC dX12_aBar_89 rfl rfl rfl ?_
      refine g_ldcS (i := 33) hC (by decide) rfl dX12_aBar_90 ?_
      refine g_iconst (v := vI 3) hC dX12_aBar_92 rfl ?_
      refine g_iload_n (q := 2) hC dX12_aBar_93 rfl rfl ?_
      refine g_iadd hC dX12_aBar_94 ?_
      refine g_callVI (As := [vS V 33, vI (3 + x3)]) hC mv_X12_wantWord wml_RX12_203 (k_X12_wantWord _ V hL 33 (3 + x3) X (by decide)) cf_X12 (at_120 hL) (by decide) ⟨Nat.zero_le _, Nat.zero_le _⟩ rfl rfl ⟨Nat.le_of_ble_eq_true rfl, Nat.le_of_ble_eq_true rfl⟩ (Nat.le_of_ble_eq_true rfl) dX12_aBar_95 (fun r15 X16 => ?_)
      refine g_if_eq (tgt := 131) hC dX12_aBar_98 (by decide) ?_ ?_
      · refine g_iconst (v := vI 0) hC dX12_aBar_131 rfl ?_
        exact g_zret1 hC hR (by decide) dX12_aBar_132
      · refine g_aload_n (q := 0) hC dX12_aBar_101 rfl rfl rfl ?_
        refine g_iload_n (q := 1) hC dX12_aBar_102 rfl rfl ?_
        refine g_iload_n (q := 2) hC dX12_aBar_103 rfl rfl ?_
        refine g_iadd hC dX12_aBar_104 ?_
        refine g_iload_n (q := 2) hC dX12_aBar_105 rfl rfl ?_
        refine g_if_ne (tgt := 113) hC dX12_aBar_106 (by decide) ?_ ?_
        · refine g_iconst (v := vI 0) hC dX12_aBar_113 rfl ?_
          exact gB_X12_aBar_114 hC hR hL ih x2 x3 0 (x2 + x3) X16
        · refine g_iconst (v := vI 1) hC dX12_aBar_109 rfl ?_
          refine g_goto (tgt := 114) hC dX12_aBar_110 (by decide) ?_
          exact gB_X12_aBar_114 hC hR hL ih x2 x3 1 (x2 + x3) X16
set_option maxRecDepth 20000 in
theorem k_X12_aBar (l : Launch) (V : Ev) {L : List Kd} (hL : LKm L)  (X : Mem)  : Kt l V L yX12_aBar (.code yX12_aBar cX12_aBar 4 (some .boolean)) 7 208 [vR V.1 120] rI X (f_X12_aBar  X) := by
  refine kt_of (own := RX12) (lv0 := [(0, vR V.1 120)]) (by decide) rfl (Nat.le_of_ble_eq_true rfl) rfl (fun C hCl hC hR => ?_)
  subst hCl
  unfold f_X12_aBar
  refine g_aload_n (q := 0) hC dX12_aBar_0 rfl rfl rfl ?_
  refine g_getS (k := 0) hC cf_X12 (at_120 hL) (by decide) rfl (by decide) (by decide) wf_RX12_7 dX12_aBar_1 ?_
  refine g_sipush (v := vI 1762) hC dX12_aBar_4 rfl ?_
  refine g_iald hC (at_121 hL) (by decide) dX12_aBar_7 ?_
  refine g_topI (fun v1 => ?_)
  refine g_istore_n hC dX12_aBar_8 rfl (by decide) rfl ?_
  refine g_sipush (v := vI 1788) hC dX12_aBar_9 rfl ?_
  refine g_iconst (v := vI 4) hC dX12_aBar_12 rfl ?_
  refine g_iload_n (q := 0) hC dX12_aBar_13 rfl rfl ?_
  refine g_imul hC dX12_aBar_14 ?_
  refine g_iadd hC dX12_aBar_15 ?_
  refine g_topI (fun v2 => ?_)
  refine g_istore_n hC dX12_aBar_16 rfl (by decide) rfl ?_
  refine g_iload_n (q := 1) hC dX12_aBar_17 rfl rfl ?_
  refine g_iconst (v := vI 5) hC dX12_aBar_18 rfl ?_
  refine g_icmp_ne (tgt := 29) hC dX12_aBar_19 (by decide) ?_ ?_
  · refine g_aload_n (q := 2) hC dX12_aBar_29 rfl rfl rfl ?_
    refine g_callVV (As := []) hC mv_X12_ahead wml_RX12_168 (k_X12_ahead _ V hL X) cf_X12 (at_120 hL) (by decide) ⟨Nat.zero_le _, Nat.zero_le _⟩ rfl rfl ⟨Nat.le_of_ble_eq_true rfl, Nat.le_of_ble_eq_true rfl⟩ (Nat.le_of_ble_eq_true rfl) dX12_aBar_30 (fun _ X4 => ?_)
    refine g_aload_n (q := 2) hC dX12_aBar_33 rfl rfl rfl ?_
    refine g_ldcS (i := 33) hC (by decide) rfl dX12_aBar_34 ?_
    refine g_callVI (As := [vS V 33]) hC mv_X12_isName wml_RX12_196 (k_X12_isName _ V hL 33 X4 (by decide)) cf_X12 (at_120 hL) (by decide) ⟨Nat.zero_le _, Nat.zero_le _⟩ rfl rfl ⟨Nat.le_of_ble_eq_true rfl, Nat.le_of_ble_eq_true rfl⟩ (Nat.le_of_ble_eq_true rfl) dX12_aBar_36 (fun r5 X6 => ?_)
    refine g_if_ne (tgt := 48) hC dX12_aBar_39 (by decide) ?_ ?_
    · refine g_aload_n (q := 2) hC dX12_aBar_48 rfl rfl rfl ?_
      refine g_bipush (v := vI 20) hC dX12_aBar_49 rfl ?_
      refine g_iload_n (q := 1) hC dX12_aBar_51 rfl rfl ?_
      refine g_callVI (As := [vI 20, vI v1]) hC mv_X12_findHere wml_RX12_200 (k_X12_findHere _ V hL 20 v1 X6) cf_X12 (at_120 hL) (by decide) ⟨Nat.zero_le _, Nat.zero_le _⟩ rfl rfl ⟨Nat.le_of_ble_eq_true rfl, Nat.le_of_ble_eq_true rfl⟩ (Nat.le_of_ble_eq_true rfl) dX12_aBar_52 (fun r7 X8 => ?_)
      refine g_iconst (v := vI (-1)) hC dX12_aBar_55 rfl ?_
      refine g_icmp_eq (tgt := 65) hC dX12_aBar_56 (by decide) ?_ ?_
      · refine g_aload_n (q := 2) hC dX12_aBar_65 rfl rfl rfl ?_
        refine g_getS (k := 1) hC cf_X12 (at_120 hL) (by decide) rfl (by decide) (by decide) wf_RX12_13 dX12_aBar_66 ?_
        refine g_bipush (v := vI 20) hC dX12_aBar_69 rfl ?_
        refine g_iload_n (q := 1) hC dX12_aBar_71 rfl rfl ?_
        refine g_iadd hC dX12_aBar_72 ?_
        refine g_aload_n (q := 2) hC dX12_aBar_73 rfl rfl rfl ?_
        refine g_callVJ (As := []) hC mv_X12_nameHere wml_RX12_181 (k_X12_nameHere _ V hL X8) cf_X12 (at_120 hL) (by decide) ⟨Nat.zero_le _, Nat.zero_le _⟩ rfl rfl ⟨Nat.le_of_ble_eq_true rfl, Nat.le_of_ble_eq_true rfl⟩ (Nat.le_of_ble_eq_true rfl) dX12_aBar_74 (fun r9 X10 => ?_)
        refine g_last hC (at_122 hL) (by decide) dX12_aBar_77 (fun X11 => ?_)
        refine g_aload_n (q := 2) hC dX12_aBar_78 rfl rfl rfl ?_
        refine g_callVV (As := []) hC mv_X12_ahead wml_RX12_168 (k_X12_ahead _ V hL X11) cf_X12 (at_120 hL) (by decide) ⟨Nat.zero_le _, Nat.zero_le _⟩ rfl rfl ⟨Nat.le_of_ble_eq_true rfl, Nat.le_of_ble_eq_true rfl⟩ (Nat.le_of_ble_eq_true rfl) dX12_aBar_79 (fun _ X13 => ?_)
        refine g_iconst (v := vI 0) hC dX12_aBar_82 rfl ?_
        refine g_istore_n hC dX12_aBar_83 rfl (by decide) rfl ?_
        refine g_sub [3, 1, 0] rfl ?_
        exact gL_X12_aBar_84 hC hR hL  KF v2 0 X13
      · refine g_aload_n (q := 2) hC dX12_aBar_59 rfl rfl rfl ?_
        refine g_iconst (v := vI 3) hC dX12_aBar_60 rfl ?_
        refine g_callVI (As := [vI 3]) hC mv_X12_fails wml_RX12_174 (k_X12_fails _ V hL 3 X8) cf_X12 (at_120 hL) (by decide) ⟨Nat.zero_le _, Nat.zero_le _⟩ rfl rfl ⟨Nat.le_of_ble_eq_true rfl, Nat.le_of_ble_eq_true rfl⟩ (Nat.le_of_ble_eq_true rfl) dX12_aBar_61 (fun r19 X20 => ?_)
        exact g_zret hC hR dX12_aBar_64
    · refine g_aload_n (q := 2) hC dX12_aBar_42 rfl rfl rfl ?_
      refine g_iconst (v := vI 2) hC dX12_aBar_43 rfl ?_
      refine g_callVI (As := [vI 2]) hC mv_X12_fails wml_RX12_174 (k_X12_fails _ V hL 2 X6) cf_X12 (at_120 hL) (by decide) ⟨Nat.zero_le _, Nat.zero_le _⟩ rfl rfl ⟨Nat.le_of_ble_eq_true rfl, Nat.le_of_ble_eq_true rfl⟩ (Nat.le_of_ble_eq_true rfl) dX12_aBar_44 (fun r21 X22 => ?_)
      exact g_zret hC hR dX12_aBar_47
  · refine g_aload_n (q := 2) hC dX12_aBar_22 rfl rfl rfl ?_
    refine g_bipush (v := vI 6) hC dX12_aBar_23 rfl ?_
    refine g_callVI (As := [vI 6]) hC mv_X12_fails wml_RX12_174 (k_X12_fails _ V hL 6 X) cf_X12 (at_120 hL) (by decide) ⟨Nat.zero_le _, Nat.zero_le _⟩ rfl rfl ⟨Nat.le_of_ble_eq_true rfl, Nat.le_of_ble_eq_true rfl⟩ (Nat.le_of_ble_eq_true rfl) dX12_aBar_25 (fun r23 X24 => ?_)
    exact g_zret hC hR dX12_aBar_28
def B_X12_someCells_283  (X : Mem) : Option (Int × Mem) :=
  cl (f_X12_ahead X) fun _ X10 =>
  some (1, X10)
def B_X12_someCells_277 (go164 : Int → Int → Mem → Option (Int × Mem)) (x1 : Int) (x2 : Int) (X : Mem) : Option (Int × Mem) :=
  go164 x1 (x2 + 1) X
def B_X12_someCells_271 (go164 : Int → Int → Mem → Option (Int × Mem)) (go176 : Int → Int → Int → Mem → Option (Int × Mem)) (x1 : Int) (x2 : Int) (x3 : Int) (X : Mem) : Option (Int × Mem) :=
  go176 x1 x2 (x3 + 1) X
def B_X12_someCells_265 (go164 : Int → Int → Mem → Option (Int × Mem)) (go176 : Int → Int → Int → Mem → Option (Int × Mem)) (go194 : Int → Int → Int → Int → Mem → Option (Int × Mem)) (x1 : Int) (x2 : Int) (x3 : Int) (x4 : Int) (X : Mem) : Option (Int × Mem) :=
  go194 x1 x2 x3 (x4 + 1) X
def B_X12_someCells_245 (go164 : Int → Int → Mem → Option (Int × Mem)) (go176 : Int → Int → Int → Mem → Option (Int × Mem)) (go194 : Int → Int → Int → Int → Mem → Option (Int × Mem)) (x1 : Int) (x2 : Int) (x3 : Int) (x4 : Int) (x5 : Int) (X : Mem) : Option (Int × Mem) :=
  ax 2200 x5 <| bd (ms X 121 x5 x1) fun X14 =>
  c1 x2 <| if ¬ x2 = 0 then
    B_X12_someCells_265  go164 go176 go194 x1 x2 x3 x4 X14
  else
    ax 2200 x5 <| bd (ms X14 121 x5 ((-1))) fun X15 =>
    B_X12_someCells_265  go164 go176 go194 x1 x2 x3 x4 X15
def B_X12_someCells_239  (X : Mem) : Option (Int × Mem) :=
  cl (f_X12_fails 5 X) fun r16 X17 =>
  cz r16 (some (r16, X17))
def L_X12_someCells_194 (go164 : Int → Int → Mem → Option (Int × Mem)) (go176 : Int → Int → Int → Mem → Option (Int × Mem)) : Nat → Int → Int → Int → Int → Mem → Option (Int × Mem)
  | 0, _, _, _, _, _ => none
  | n + 1, x1, x2, x3, x4, X =>
    ax 4 2 <|
    c2 x4 (X 128 2) <| if (X 128 2) < x4 then
      B_X12_someCells_271  go164 go176 x1 x2 x3 X
    else
      ax 2200 1760 <|
      bd ((1868 + ((X 121 1760) * x3)) + x4) fun v13 =>
      c1 x2 <| if ¬ x2 = 0 then
        B_X12_someCells_245  go164 go176 (fun x1 x2 x3 x4 X => L_X12_someCells_194  go164 go176 n x1 x2 x3 x4 X) x1 x2 x3 x4 v13 X
      else
        ax 2200 v13 <|
        c2 (X 121 v13) ((-1)) <| if (X 121 v13) = ((-1)) then
          B_X12_someCells_245  go164 go176 (fun x1 x2 x3 x4 X => L_X12_someCells_194  go164 go176 n x1 x2 x3 x4 X) x1 x2 x3 x4 v13 X
        else
          B_X12_someCells_239   X
def L_X12_someCells_176 (go164 : Int → Int → Mem → Option (Int × Mem)) : Nat → Int → Int → Int → Mem → Option (Int × Mem)
  | 0, _, _, _, _ => none
  | n + 1, x1, x2, x3, X =>
    ax 4 3 <|
    c2 x3 (X 128 3) <| if (X 128 3) < x3 then
      B_X12_someCells_277  go164 x1 x2 X
    else
      ax 4 0 <|
      bd (X 128 0) fun v12 =>
      L_X12_someCells_194  go164 (fun x1 x2 x3 X => L_X12_someCells_176  go164 n x1 x2 x3 X) KF x1 x2 x3 v12 X
def L_X12_someCells_164 : Nat → Int → Int → Mem → Option (Int × Mem)
  | 0, _, _, _ => none
  | n + 1, x1, x2, X =>
    c2 x2 2 <| if 2 ≤ x2 then
      B_X12_someCells_283   X
    else
      ax 4 1 <|
      bd (X 128 1) fun v11 =>
      L_X12_someCells_176  (fun x1 x2 X => L_X12_someCells_164   n x1 x2 X) KF x1 x2 v11 X
def B_X12_someCells_162 (x1 : Int) (X : Mem) : Option (Int × Mem) :=
  L_X12_someCells_164   KF x1 0 X
def B_X12_someCells_131  (X : Mem) : Option (Int × Mem) :=
  cl (f_X12_fails 4 X) fun r18 X19 =>
  cz r18 (some (r18, X19))
def B_X12_someCells_156 (go51 : Int → Int → Mem → Option (Int × Mem)) (x1 : Int) (x2 : Int) (X : Mem) : Option (Int × Mem) :=
  go51 x1 (x2 + 1) X
def B_X12_someCells_109 (go51 : Int → Int → Mem → Option (Int × Mem)) (x1 : Int) (x2 : Int) (s0 : Int) (s1 : Int) (X : Mem) : Option (Int × Mem) :=
  c2 s1 s0 <| if s1 < s0 then
    B_X12_someCells_131   X
  else
    cd x2 2 <|
    ax 2200 (1760 + (x2 % 2)) <|
    c2 (X 120 15) (X 121 (1760 + (x2 % 2))) <| if (X 120 15) < (X 121 (1760 + (x2 % 2))) then
      ax 4 x2 <| bd (ms X 128 x2 (X 120 15)) fun X20 =>
      c2 x2 3 <| if 3 ≤ x2 then
        B_X12_someCells_156  go51 x1 x2 X20
      else
        cl (f_X12_ahead X20) fun _ X22 =>
        B_X12_someCells_156  go51 x1 x2 X22
    else
      B_X12_someCells_131   X
def B_X12_someCells_82  (X : Mem) : Option (Int × Mem) :=
  cl (f_X12_fails 2 X) fun r23 X24 =>
  cz r23 (some (r23, X24))
def B_X12_someCells_74 (go51 : Int → Int → Mem → Option (Int × Mem)) (x1 : Int) (x2 : Int) (X : Mem) : Option (Int × Mem) :=
  c2 (X 120 12) 3 <| if (X 120 12) = 3 then
    c2 x2 2 <| if 2 ≤ x2 then
      ax 4 (x2 - 2) <|
      B_X12_someCells_109  go51 x1 x2 (X 128 (x2 - 2)) (X 120 15) X
    else
      B_X12_someCells_109  go51 x1 x2 0 (X 120 15) X
  else
    B_X12_someCells_82   X
def L_X12_someCells_51 : Nat → Int → Int → Mem → Option (Int × Mem)
  | 0, _, _, _ => none
  | n + 1, x1, x2, X =>
    c2 x2 4 <| if 4 ≤ x2 then
      B_X12_someCells_162   x1 X
    else
      c2 x2 2 <| if ¬ x2 = 2 then
        B_X12_someCells_74  (fun x1 x2 X => L_X12_someCells_51   n x1 x2 X) x1 x2 X
      else
        cl (f_X12_wantWord 33 8 X) fun r25 X26 =>
        c1 r25 <| if ¬ r25 = 0 then
          B_X12_someCells_74  (fun x1 x2 X => L_X12_someCells_51   n x1 x2 X) x1 x2 X26
        else
          some (0, X26)
def f_X12_someCells  (X : Mem) : Option (Int × Mem) :=
  cl (f_X12_ahead X) fun _ X2 =>
  cl (f_X12_isName 33 X2) fun r3 X4 =>
  c1 r3 <| if ¬ r3 = 0 then
    ax 2200 1762 <|
    cl (f_X12_findHere 20 (X4 121 1762) X4) fun r5 X6 =>
    c2 r5 ((-1)) <| if ¬ r5 = ((-1)) then
      cl (f_X12_ahead X6) fun _ X8 =>
      L_X12_someCells_51   KF r5 0 X8
    else
      cl (f_X12_fails 3 X6) fun r27 X28 =>
      cz r27 (some (r27, X28))
  else
    cl (f_X12_fails 2 X4) fun r29 X30 =>
    cz r29 (some (r29, X30))
set_option maxRecDepth 20000 in
theorem gB_X12_someCells_283 {C : Cx} {V : Ev} {L : List Kd} (hC : Ok C V cX12_someCells RX12 6 7 208) (hR : Rt C V L (some .boolean) rI) (hL : LKm L)  (X : Mem)  : G C V L 0 0 6 283 [(0, vR V.1 120)] [] X (B_X12_someCells_283    X) := by
  unfold B_X12_someCells_283
  refine g_aload_n (q := 0) hC dX12_someCells_283 rfl rfl rfl ?_
  refine g_callVV (As := []) hC mv_X12_ahead wml_RX12_168 (k_X12_ahead _ V hL X) cf_X12 (at_120 hL) (by decide) ⟨Nat.zero_le _, Nat.zero_le _⟩ rfl rfl ⟨Nat.le_of_ble_eq_true rfl, Nat.le_of_ble_eq_true rfl⟩ (Nat.le_of_ble_eq_true rfl) dX12_someCells_284 (fun _ X10 => ?_)
  refine g_iconst (v := vI 1) hC dX12_someCells_287 rfl ?_
  exact g_zret1 hC hR (by decide) dX12_someCells_288
set_option maxRecDepth 20000 in
theorem gB_X12_someCells_277 {C : Cx} {V : Ev} {L : List Kd} (hC : Ok C V cX12_someCells RX12 6 7 208) (hR : Rt C V L (some .boolean) rI) (hL : LKm L) {go164 : Int → Int → Mem → Option (Int × Mem)} (hgo164 : ∀ (x1 : Int) (x2 : Int) (X : Mem), G C V L 0 0 6 164 [(0, vR V.1 120), (1, vI x1), (2, vI x2)] [] X (go164 x1 x2 X)) (x1 : Int) (x2 : Int) (X : Mem)  : G C V L 0 0 6 277 [(0, vR V.1 120), (1, vI x1), (2, vI x2)] [] X (B_X12_someCells_277  go164 x1 x2 X) := by
  unfold B_X12_someCells_277
  refine g_iinc (q := 2) hC dX12_someCells_277 rfl (by decide) rfl ?_
  refine g_goto (tgt := 164) hC dX12_someCells_280 (by decide) ?_
  refine g_sub [1, 2, 0] rfl ?_
  exact hgo164 x1 (x2 + 1) X
set_option maxRecDepth 20000 in
theorem gB_X12_someCells_271 {C : Cx} {V : Ev} {L : List Kd} (hC : Ok C V cX12_someCells RX12 6 7 208) (hR : Rt C V L (some .boolean) rI) (hL : LKm L) {go164 : Int → Int → Mem → Option (Int × Mem)} {go176 : Int → Int → Int → Mem → Option (Int × Mem)} (hgo164 : ∀ (x1 : Int) (x2 : Int) (X : Mem), G C V L 0 0 6 164 [(0, vR V.1 120), (1, vI x1), (2, vI x2)] [] X (go164 x1 x2 X)) (hgo176 : ∀ (x1 : Int) (x2 : Int) (x3 : Int) (X : Mem), G C V L 0 0 6 176 [(0, vR V.1 120), (1, vI x1), (2, vI x2), (3, vI x3)] [] X (go176 x1 x2 x3 X)) (x1 : Int) (x2 : Int) (x3 : Int) (X : Mem)  : G C V L 0 0 6 271 [(0, vR V.1 120), (1, vI x1), (2, vI x2), (3, vI x3)] [] X (B_X12_someCells_271  go164 go176 x1 x2 x3 X) := by
  unfold B_X12_someCells_271
  refine g_iinc (q := 3) hC dX12_someCells_271 rfl (by decide) rfl ?_
  refine g_goto (tgt := 176) hC dX12_someCells_274 (by decide) ?_
  refine g_sub [1, 2, 3, 0] rfl ?_
  exact hgo176 x1 x2 (x3 + 1) X
set_option maxRecDepth 20000 in
theorem gB_X12_someCells_265 {C : Cx} {V : Ev} {L : List Kd} (hC : Ok C V cX12_someCells RX12 6 7 208) (hR : Rt C V L (some .boolean) rI) (hL : LKm L) {go164 : Int → Int → Mem → Option (Int × Mem)} {go176 : Int → Int → Int → Mem → Option (Int × Mem)} {go194 : Int → Int → Int → Int → Mem → Option (Int × Mem)} (hgo164 : ∀ (x1 : Int) (x2 : Int) (X : Mem), G C V L 0 0 6 164 [(0, vR V.1 120), (1, vI x1), (2, vI x2)] [] X (go164 x1 x2 X)) (hgo176 : ∀ (x1 : Int) (x2 : Int) (x3 : Int) (X : Mem), G C V L 0 0 6 176 [(0, vR V.1 120), (1, vI x1), (2, vI x2), (3, vI x3)] [] X (go176 x1 x2 x3 X)) (hgo194 : ∀ (x1 : Int) (x2 : Int) (x3 : Int) (x4 : Int) (X : Mem), G C V L 0 0 6 194 [(0, vR V.1 120), (1, vI x1), (2, vI x2), (3, vI x3), (4, vI x4)] [] X (go194 x1 x2 x3 x4 X)) (x1 : Int) (x2 : Int) (x3 : Int) (x4 : Int) (X : Mem)  : G C V L 0 0 6 265 [(0, vR V.1 120), (1, vI x1), (2, vI x2), (3, vI x3), (4, vI x4)] [] X (B_X12_someCells_265  go164 go176 go194 x1 x2 x3 x4 X) := by
  unfold B_X12_someCells_265
  refine g_iinc (q := 4) hC dX12_someCells_265 rfl (by decide) rfl ?_
  refine g_goto (tgt := 194) hC dX12_someCells_268 (by decide) ?_
  refine g_sub [1, 2, 3, 4, 0] rfl ?_
  exact hgo194 x1 x2 x3 (x4 + 1) X
set_option maxRecDepth 20000 in
theorem gB_X12_someCells_245 {C : Cx} {V : Ev} {L : List Kd} (hC : Ok C V cX12_someCells RX12 6 7 208) (hR : Rt C V L (some .boolean) rI) (hL : LKm L) {go164 : Int → Int → Mem → Option (Int × Mem)} {go176 : Int → Int → Int → Mem → Option (Int × Mem)} {go194 : Int → Int → Int → Int → Mem → Option (Int × Mem)} (hgo164 : ∀ (x1 : Int) (x2 : Int) (X : Mem), G C V L 0 0 6 164 [(0, vR V.1 120), (1, vI x1), (2, vI x2)] [] X (go164 x1 x2 X)) (hgo176 : ∀ (x1 : Int) (x2 : Int) (x3 : Int) (X : Mem), G C V L 0 0 6 176 [(0, vR V.1 120), (1, vI x1), (2, vI x2), (3, vI x3)] [] X (go176 x1 x2 x3 X)) (hgo194 : ∀ (x1 : Int) (x2 : Int) (x3 : Int) (x4 : Int) (X : Mem), G C V L 0 0 6 194 [(0, vR V.1 120), (1, vI x1), (2, vI x2), (3, vI x3), (4, vI x4)] [] X (go194 x1 x2 x3 x4 X)) (x1 : Int) (x2 : Int) (x3 : Int) (x4 : Int) (x5 : Int) (X : Mem)  : G C V L 0 0 6 245 [(0, vR V.1 120), (1, vI x1), (2, vI x2), (3, vI x3), (4, vI x4), (5, vI x5)] [] X (B_X12_someCells_245  go164 go176 go194 x1 x2 x3 x4 x5 X) := by
  unfold B_X12_someCells_245
  refine g_aload_n (q := 0) hC dX12_someCells_245 rfl rfl rfl ?_
  refine g_getS (k := 0) hC cf_X12 (at_120 hL) (by decide) rfl (by decide) (by decide) wf_RX12_7 dX12_someCells_246 ?_
  refine g_iload (q := 5) hC dX12_someCells_249 rfl ?_
  refine g_iload_n (q := 1) hC dX12_someCells_251 rfl rfl ?_
  refine g_iast hC (at_121 hL) (by decide) dX12_someCells_252 (fun X14 => ?_)
  refine g_iload_n (q := 2) hC dX12_someCells_253 rfl rfl ?_
  refine g_if_ne (tgt := 265) hC dX12_someCells_254 (by decide) ?_ ?_
  · refine g_sub [0, 1, 2, 3, 4] rfl ?_
    exact gB_X12_someCells_265 hC hR hL hgo164 hgo176 hgo194 x1 x2 x3 x4 X14
  · refine g_aload_n (q := 0) hC dX12_someCells_257 rfl rfl rfl ?_
    refine g_getS (k := 0) hC cf_X12 (at_120 hL) (by decide) rfl (by decide) (by decide) wf_RX12_7 dX12_someCells_258 ?_
    refine g_iload (q := 5) hC dX12_someCells_261 rfl ?_
    refine g_iconst (v := vI (-1)) hC dX12_someCells_263 rfl ?_
    refine g_iast hC (at_121 hL) (by decide) dX12_someCells_264 (fun X15 => ?_)
    refine g_sub [0, 1, 2, 3, 4] rfl ?_
    exact gB_X12_someCells_265 hC hR hL hgo164 hgo176 hgo194 x1 x2 x3 x4 X15
set_option maxRecDepth 20000 in
theorem gB_X12_someCells_239 {C : Cx} {V : Ev} {L : List Kd} (hC : Ok C V cX12_someCells RX12 6 7 208) (hR : Rt C V L (some .boolean) rI) (hL : LKm L)  (X : Mem)  : G C V L 0 0 6 239 [(0, vR V.1 120)] [] X (B_X12_someCells_239    X) := by
  unfold B_X12_someCells_239
  refine g_aload_n (q := 0) hC dX12_someCells_239 rfl rfl rfl ?_
  refine g_iconst (v := vI 5) hC dX12_someCells_240 rfl ?_
  refine g_callVI (As := [vI 5]) hC mv_X12_fails wml_RX12_174 (k_X12_fails _ V hL 5 X) cf_X12 (at_120 hL) (by decide) ⟨Nat.zero_le _, Nat.zero_le _⟩ rfl rfl ⟨Nat.le_of_ble_eq_true rfl, Nat.le_of_ble_eq_true rfl⟩ (Nat.le_of_ble_eq_true rfl) dX12_someCells_241 (fun r16 X17 => ?_)
  exact g_zret hC hR dX12_someCells_244
set_option maxRecDepth 20000 in
theorem gL_X12_someCells_194 {C : Cx} {V : Ev} {L : List Kd} (hC : Ok C V cX12_someCells RX12 6 7 208) (hR : Rt C V L (some .boolean) rI) (hL : LKm L) {go164 : Int → Int → Mem → Option (Int × Mem)} {go176 : Int → Int → Int → Mem → Option (Int × Mem)} (hgo164 : ∀ (x1 : Int) (x2 : Int) (X : Mem), G C V L 0 0 6 164 [(0, vR V.1 120), (1, vI x1), (2, vI x2)] [] X (go164 x1 x2 X)) (hgo176 : ∀ (x1 : Int) (x2 : Int) (x3 : Int) (X : Mem), G C V L 0 0 6 176 [(0, vR V.1 120), (1, vI x1), (2, vI x2), (3, vI x3)] [] X (go176 x1 x2 x3 X)) : ∀ (n : Nat) (x1 : Int) (x2 : Int) (x3 : Int) (x4 : Int) (X : Mem), G C V L 0 0 6 194 [(0, vR V.1 120), (1, vI x1), (2, vI x2), (3, vI x3), (4, vI x4)] [] X (L_X12_someCells_194  go164 go176 n x1 x2 x3 x4 X) := by
  intro n
  induction n with
  | zero => intro x1 x2 x3 x4 X; exact g_none
  | succ n ih =>
    intro x1 x2 x3 x4 X
    rw [L_X12_someCells_194]
    refine g_iload (q := 4) hC dX12_someCells_194 rfl ?_
    refine g_aload_n (q := 0) hC dX12_someCells_196 rfl rfl rfl ?_
    refine g_getS (k := 21) hC cf_X12 (at_120 hL) (by decide) rfl (by decide) (by decide) wf_RX12_44 dX12_someCells_197 ?_
    refine g_iconst (v := vI 2) hC dX12_someCells_200 rfl ?_
    refine g_iald hC (at_128 hL) (by decide) dX12_someCells_201 ?_
    refine g_icmp_gt (tgt := 271) hC dX12_someCells_202 (by decide) ?_ ?_
    · refine g_sub [0, 1, 2, 3] rfl ?_
      exact gB_X12_someCells_271 hC hR hL hgo164 hgo176 x1 x2 x3 X
    · refine g_sipush (v := vI 1868) hC dX12_someCells_205 rfl ?_
      refine g_aload_n (q := 0) hC dX12_someCells_208 rfl rfl rfl ?_
      refine g_getS (k := 0) hC cf_X12 (at_120 hL) (by decide) rfl (by decide) (by decide) wf_RX12_7 dX12_someCells_209 ?_
      refine g_sipush (v := vI 1760) hC dX12_someCells_212 rfl ?_
      refine g_iald hC (at_121 hL) (by decide) dX12_someCells_215 ?_
      refine g_iload_n (q := 3) hC dX12_someCells_216 rfl rfl ?_
      refine g_imul hC dX12_someCells_217 ?_
      refine g_iadd hC dX12_someCells_218 ?_
      refine g_iload (q := 4) hC dX12_someCells_219 rfl ?_
      refine g_iadd hC dX12_someCells_221 ?_
      refine g_topI (fun v13 => ?_)
      refine g_istore hC dX12_someCells_222 (by decide) rfl ?_
      refine g_iload_n (q := 3) hC dX12_someCells_224 rfl rfl ?_
      refine g_if_ne (tgt := 245) hC dX12_someCells_225 (by decide) ?_ ?_
      · refine g_sub [1, 2, 3, 4, 5, 0] rfl ?_
        exact gB_X12_someCells_245 hC hR hL hgo164 hgo176 ih x1 x2 x3 x4 v13 X
      · refine g_aload_n (q := 1) hC dX12_someCells_228 rfl rfl rfl ?_
        refine g_getS (k := 0) hC cf_X12 (at_120 hL) (by decide) rfl (by decide) (by decide) wf_RX12_7 dX12_someCells_229 ?_
        refine g_iload (q := 0) hC dX12_someCells_232 rfl ?_
        refine g_iald hC (at_121 hL) (by decide) dX12_someCells_234 ?_
        refine g_iconst (v := vI (-1)) hC dX12_someCells_235 rfl ?_
        refine g_icmp_eq (tgt := 245) hC dX12_someCells_236 (by decide) ?_ ?_
        · refine g_sub [1, 2, 3, 4, 5, 0] rfl ?_
          exact gB_X12_someCells_245 hC hR hL hgo164 hgo176 ih x1 x2 x3 x4 v13 X
        · refine g_sub [1] rfl ?_
          exact gB_X12_someCells_239 hC hR hL  X
set_option maxRecDepth 20000 in
theorem gL_X12_someCells_176 {C : Cx} {V : Ev} {L : List Kd} (hC : Ok C V cX12_someCells RX12 6 7 208) (hR : Rt C V L (some .boolean) rI) (hL : LKm L) {go164 : Int → Int → Mem → Option (Int × Mem)} (hgo164 : ∀ (x1 : Int) (x2 : Int) (X : Mem), G C V L 0 0 6 164 [(0, vR V.1 120), (1, vI x1), (2, vI x2)] [] X (go164 x1 x2 X)) : ∀ (n : Nat) (x1 : Int) (x2 : Int) (x3 : Int) (X : Mem), G C V L 0 0 6 176 [(0, vR V.1 120), (1, vI x1), (2, vI x2), (3, vI x3)] [] X (L_X12_someCells_176  go164 n x1 x2 x3 X) := by
  intro n
  induction n with
  | zero => intro x1 x2 x3 X; exact g_none
  | succ n ih =>
    intro x1 x2 x3 X
    rw [L_X12_someCells_176]
    refine g_iload_n (q := 3) hC dX12_someCells_176 rfl rfl ?_
    refine g_aload_n (q := 0) hC dX12_someCells_177 rfl rfl rfl ?_
    refine g_getS (k := 21) hC cf_X12 (at_120 hL) (by decide) rfl (by decide) (by decide) wf_RX12_44 dX12_someCells_178 ?_
    refine g_iconst (v := vI 3) hC dX12_someCells_181 rfl ?_
    refine g_iald hC (at_128 hL) (by decide) dX12_someCells_182 ?_
    refine g_icmp_gt (tgt := 277) hC dX12_someCells_183 (by decide) ?_ ?_
    · refine g_sub [0, 1, 2] rfl ?_
      exact gB_X12_someCells_277 hC hR hL hgo164 x1 x2 X
    · refine g_aload_n (q := 0) hC dX12_someCells_186 rfl rfl rfl ?_
      refine g_getS (k := 21) hC cf_X12 (at_120 hL) (by decide) rfl (by decide) (by decide) wf_RX12_44 dX12_someCells_187 ?_
      refine g_iconst (v := vI 0) hC dX12_someCells_190 rfl ?_
      refine g_iald hC (at_128 hL) (by decide) dX12_someCells_191 ?_
      refine g_topI (fun v12 => ?_)
      refine g_istore hC dX12_someCells_192 (by decide) rfl ?_
      refine g_sub [1, 2, 3, 4, 0] rfl ?_
      exact gL_X12_someCells_194 hC hR hL hgo164 ih KF x1 x2 x3 v12 X
set_option maxRecDepth 20000 in
theorem gL_X12_someCells_164 {C : Cx} {V : Ev} {L : List Kd} (hC : Ok C V cX12_someCells RX12 6 7 208) (hR : Rt C V L (some .boolean) rI) (hL : LKm L) : ∀ (n : Nat) (x1 : Int) (x2 : Int) (X : Mem), G C V L 0 0 6 164 [(0, vR V.1 120), (1, vI x1), (2, vI x2)] [] X (L_X12_someCells_164   n x1 x2 X) := by
  intro n
  induction n with
  | zero => intro x1 x2 X; exact g_none
  | succ n ih =>
    intro x1 x2 X
    rw [L_X12_someCells_164]
    refine g_iload_n (q := 2) hC dX12_someCells_164 rfl rfl ?_
    refine g_iconst (v := vI 2) hC dX12_someCells_165 rfl ?_
    refine g_icmp_ge (tgt := 283) hC dX12_someCells_166 (by decide) ?_ ?_
    · refine g_sub [0] rfl ?_
      exact gB_X12_someCells_283 hC hR hL  X
    · refine g_aload_n (q := 0) hC dX12_someCells_169 rfl rfl rfl ?_
      refine g_getS (k := 21) hC cf_X12 (at_120 hL) (by decide) rfl (by decide) (by decide) wf_RX12_44 dX12_someCells_170 ?_
      refine g_iconst (v := vI 1) hC dX12_someCells_173 rfl ?_
      refine g_iald hC (at_128 hL) (by decide) dX12_someCells_174 ?_
      refine g_topI (fun v11 => ?_)
      refine g_istore_n hC dX12_someCells_175 rfl (by decide) rfl ?_
      refine g_sub [1, 2, 3, 0] rfl ?_
      exact gL_X12_someCells_176 hC hR hL ih KF x1 x2 v11 X
set_option maxRecDepth 20000 in
theorem gB_X12_someCells_162 {C : Cx} {V : Ev} {L : List Kd} (hC : Ok C V cX12_someCells RX12 6 7 208) (hR : Rt C V L (some .boolean) rI) (hL : LKm L) (x1 : Int) (X : Mem)  : G C V L 0 0 6 162 [(0, vR V.1 120), (1, vI x1)] [] X (B_X12_someCells_162   x1 X) := by
  unfold B_X12_someCells_162
  refine g_iconst (v := vI 0) hC dX12_someCells_162 rfl ?_
  refine g_istore_n hC dX12_someCells_163 rfl (by decide) rfl ?_
  refine g_sub [1, 2, 0] rfl ?_
  exact gL_X12_someCells_164 hC hR hL  KF x1 0 X
set_option maxRecDepth 20000 in
theorem gB_X12_someCells_131 {C : Cx} {V : Ev} {L : List Kd} (hC : Ok C V cX12_someCells RX12 6 7 208) (hR : Rt C V L (some .boolean) rI) (hL : LKm L)  (X : Mem)  : G C V L 0 0 6 131 [(0, vR V.1 120)] [] X (B_X12_someCells_131    X) := by
  unfold B_X12_someCells_131
  refine g_aload_n (q := 0) hC dX12_someCells_131 rfl rfl rfl ?_
  refine g_iconst (v := vI 4) hC dX12_someCells_132 rfl ?_
  refine g_callVI (As := [vI 4]) hC mv_X12_fails wml_RX12_174 (k_X12_fails _ V hL 4 X) cf_X12 (at_120 hL) (by decide) ⟨Nat.zero_le _, Nat.zero_le _⟩ rfl rfl ⟨Nat.le_of_ble_eq_true rfl, Nat.le_of_ble_eq_true rfl⟩ (Nat.le_of_ble_eq_true rfl) dX12_someCells_133 (fun r18 X19 => ?_)
  exact g_zret hC hR dX12_someCells_136
set_option maxRecDepth 20000 in
theorem gB_X12_someCells_156 {C : Cx} {V : Ev} {L : List Kd} (hC : Ok C V cX12_someCells RX12 6 7 208) (hR : Rt C V L (some .boolean) rI) (hL : LKm L) {go51 : Int → Int → Mem → Option (Int × Mem)} (hgo51 : ∀ (x1 : Int) (x2 : Int) (X : Mem), G C V L 0 0 6 51 [(0, vR V.1 120), (1, vI x1), (2, vI x2)] [] X (go51 x1 x2 X)) (x1 : Int) (x2 : Int) (X : Mem)  : G C V L 0 0 6 156 [(0, vR V.1 120), (1, vI x1), (2, vI x2)] [] X (B_X12_someCells_156  go51 x1 x2 X) := by
  unfold B_X12_someCells_156
  refine g_iinc (q := 2) hC dX12_someCells_156 rfl (by decide) rfl ?_
  refine g_goto (tgt := 51) hC dX12_someCells_159 (by decide) ?_
  refine g_sub [1, 2, 0] rfl ?_
  exact hgo51 x1 (x2 + 1) X
set_option maxRecDepth 20000 in
theorem gB_X12_someCells_109 {C : Cx} {V : Ev} {L : List Kd} (hC : Ok C V cX12_someCells RX12 6 7 208) (hR : Rt C V L (some .boolean) rI) (hL : LKm L) {go51 : Int → Int → Mem → Option (Int × Mem)} (hgo51 : ∀ (x1 : Int) (x2 : Int) (X : Mem), G C V L 0 0 6 51 [(0, vR V.1 120), (1, vI x1), (2, vI x2)] [] X (go51 x1 x2 X)) (x1 : Int) (x2 : Int) (s0 : Int) (s1 : Int) (X : Mem)  : G C V L 0 0 6 109 [(0, vR V.1 120), (1, vI x1), (2, vI x2)] [vI s0, vI s1] X (B_X12_someCells_109  go51 x1 x2 s0 s1 X) := by
  unfold B_X12_someCells_109
  refine g_icmp_lt (tgt := 131) hC dX12_someCells_109 (by decide) ?_ ?_
  · refine g_sub [0] rfl ?_
    exact gB_X12_someCells_131 hC hR hL  X
  · refine g_aload_n (q := 0) hC dX12_someCells_112 rfl rfl rfl ?_
    refine g_getI (k := 15) (kz := 15) hC cf_X12 (at_120 hL) (by decide) rfl (by decide) rfl wf_RX12_134 dX12_someCells_113 ?_
    refine g_aload_n (q := 0) hC dX12_someCells_116 rfl rfl rfl ?_
    refine g_getS (k := 0) hC cf_X12 (at_120 hL) (by decide) rfl (by decide) (by decide) wf_RX12_7 dX12_someCells_117 ?_
    refine g_sipush (v := vI 1760) hC dX12_someCells_120 rfl ?_
    refine g_iload_n (q := 2) hC dX12_someCells_123 rfl rfl ?_
    refine g_iconst (v := vI 2) hC dX12_someCells_124 rfl ?_
    refine g_irem hC dX12_someCells_125 ?_
    refine g_iadd hC dX12_someCells_126 ?_
    refine g_iald hC (at_121 hL) (by decide) dX12_someCells_127 ?_
    refine g_icmp_lt (tgt := 137) hC dX12_someCells_128 (by decide) ?_ ?_
    · refine g_aload_n (q := 0) hC dX12_someCells_137 rfl rfl rfl ?_
      refine g_getS (k := 21) hC cf_X12 (at_120 hL) (by decide) rfl (by decide) (by decide) wf_RX12_44 dX12_someCells_138 ?_
      refine g_iload_n (q := 2) hC dX12_someCells_141 rfl rfl ?_
      refine g_aload_n (q := 0) hC dX12_someCells_142 rfl rfl rfl ?_
      refine g_getI (k := 15) (kz := 15) hC cf_X12 (at_120 hL) (by decide) rfl (by decide) rfl wf_RX12_134 dX12_someCells_143 ?_
      refine g_iast hC (at_128 hL) (by decide) dX12_someCells_146 (fun X20 => ?_)
      refine g_iload_n (q := 2) hC dX12_someCells_147 rfl rfl ?_
      refine g_iconst (v := vI 3) hC dX12_someCells_148 rfl ?_
      refine g_icmp_ge (tgt := 156) hC dX12_someCells_149 (by decide) ?_ ?_
      · exact gB_X12_someCells_156 hC hR hL hgo51 x1 x2 X20
      · refine g_aload_n (q := 0) hC dX12_someCells_152 rfl rfl rfl ?_
        refine g_callVV (As := []) hC mv_X12_ahead wml_RX12_168 (k_X12_ahead _ V hL X20) cf_X12 (at_120 hL) (by decide) ⟨Nat.zero_le _, Nat.zero_le _⟩ rfl rfl ⟨Nat.le_of_ble_eq_true rfl, Nat.le_of_ble_eq_true rfl⟩ (Nat.le_of_ble_eq_true rfl) dX12_someCells_153 (fun _ X22 => ?_)
        exact gB_X12_someCells_156 hC hR hL hgo51 x1 x2 X22
    · refine g_sub [0] rfl ?_
      exact gB_X12_someCells_131 hC hR hL  X
set_option maxRecDepth 20000 in
theorem gB_X12_someCells_82 {C : Cx} {V : Ev} {L : List Kd} (hC : Ok C V cX12_someCells RX12 6 7 208) (hR : Rt C V L (some .boolean) rI) (hL : LKm L)  (X : Mem)  : G C V L 0 0 6 82 [(0, vR V.1 120)] [] X (B_X12_someCells_82    X) := by
  unfold B_X12_someCells_82
  refine g_aload_n (q := 0) hC dX12_someCells_82 rfl rfl rfl ?_
  refine g_iconst (v := vI 2) hC dX12_someCells_83 rfl ?_
  refine g_callVI (As := [vI 2]) hC mv_X12_fails wml_RX12_174 (k_X12_fails _ V hL 2 X) cf_X12 (at_120 hL) (by decide) ⟨Nat.zero_le _, Nat.zero_le _⟩ rfl rfl ⟨Nat.le_of_ble_eq_true rfl, Nat.le_of_ble_eq_true rfl⟩ (Nat.le_of_ble_eq_true rfl) dX12_someCells_84 (fun r23 X24 => ?_)
  exact g_zret hC hR dX12_someCells_87
set_option maxRecDepth 20000 in
theorem gB_X12_someCells_74 {C : Cx} {V : Ev} {L : List Kd} (hC : Ok C V cX12_someCells RX12 6 7 208) (hR : Rt C V L (some .boolean) rI) (hL : LKm L) {go51 : Int → Int → Mem → Option (Int × Mem)} (hgo51 : ∀ (x1 : Int) (x2 : Int) (X : Mem), G C V L 0 0 6 51 [(0, vR V.1 120), (1, vI x1), (2, vI x2)] [] X (go51 x1 x2 X)) (x1 : Int) (x2 : Int) (X : Mem)  : G C V L 0 0 6 74 [(0, vR V.1 120), (1, vI x1), (2, vI x2)] [] X (B_X12_someCells_74  go51 x1 x2 X) := by
  unfold B_X12_someCells_74
  refine g_aload_n (q := 0) hC dX12_someCells_74 rfl rfl rfl ?_
  refine g_getI (k := 12) (kz := 12) hC cf_X12 (at_120 hL) (by decide) rfl (by decide) rfl wf_RX12_137 dX12_someCells_75 ?_
  refine g_iconst (v := vI 3) hC dX12_someCells_78 rfl ?_
  refine g_icmp_eq (tgt := 88) hC dX12_someCells_79 (by decide) ?_ ?_
  · refine g_aload_n (q := 0) hC dX12_someCells_88 rfl rfl rfl ?_
    refine g_getI (k := 15) (kz := 15) hC cf_X12 (at_120 hL) (by decide) rfl (by decide) rfl wf_RX12_134 dX12_someCells_89 ?_
    refine g_iload_n (q := 2) hC dX12_someCells_92 rfl rfl ?_
    refine g_iconst (v := vI 2) hC dX12_someCells_93 rfl ?_
    refine g_icmp_ge (tgt := 101) hC dX12_someCells_94 (by decide) ?_ ?_
    · refine g_aload_n (q := 0) hC dX12_someCells_101 rfl rfl rfl ?_
      refine g_getS (k := 21) hC cf_X12 (at_120 hL) (by decide) rfl (by decide) (by decide) wf_RX12_44 dX12_someCells_102 ?_
      refine g_iload_n (q := 2) hC dX12_someCells_105 rfl rfl ?_
      refine g_iconst (v := vI 2) hC dX12_someCells_106 rfl ?_
      refine g_isub hC dX12_someCells_107 ?_
      refine g_iald hC (at_128 hL) (by decide) dX12_someCells_108 ?_
      exact gB_X12_someCells_109 hC hR hL hgo51 x1 x2 (X 128 (x2 - 2)) (X 120 15) X
    · refine g_iconst (v := vI 0) hC dX12_someCells_97 rfl ?_
      refine g_goto (tgt := 109) hC dX12_someCells_98 (by decide) ?_
      exact gB_X12_someCells_109 hC hR hL hgo51 x1 x2 0 (X 120 15) X
  · refine g_sub [0] rfl ?_
    exact gB_X12_someCells_82 hC hR hL  X
set_option maxRecDepth 20000 in
theorem gL_X12_someCells_51 {C : Cx} {V : Ev} {L : List Kd} (hC : Ok C V cX12_someCells RX12 6 7 208) (hR : Rt C V L (some .boolean) rI) (hL : LKm L) : ∀ (n : Nat) (x1 : Int) (x2 : Int) (X : Mem), G C V L 0 0 6 51 [(0, vR V.1 120), (1, vI x1), (2, vI x2)] [] X (L_X12_someCells_51   n x1 x2 X) := by
  intro n
  induction n with
  | zero => intro x1 x2 X; exact g_none
  | succ n ih =>
    intro x1 x2 X
    rw [L_X12_someCells_51]
    refine g_iload_n (q := 2) hC dX12_someCells_51 rfl rfl ?_
    refine g_iconst (v := vI 4) hC dX12_someCells_52 rfl ?_
    refine g_icmp_ge (tgt := 162) hC dX12_someCells_53 (by decide) ?_ ?_
    · refine g_sub [0, 1] rfl ?_
      exact gB_X12_someCells_162 hC hR hL  x1 X
    · refine g_iload_n (q := 2) hC dX12_someCells_56 rfl rfl ?_
      refine g_iconst (v := vI 2) hC dX12_someCells_57 rfl ?_
      refine g_icmp_ne (tgt := 74) hC dX12_someCells_58 (by decide) ?_ ?_
      · exact gB_X12_someCells_74 hC hR hL ih x1 x2 X
      · refine g_aload_n (q := 0) hC dX12_someCells_61 rfl rfl rfl ?_
        refine g_ldcS (i := 33) hC (by decide) rfl dX12_someCells_62 ?_
        refine g_bipush (v := vI 8) hC dX12_someCells_64 rfl ?_
        refine g_callVI (As := [vS V 33, vI 8]) hC mv_X12_wantWord wml_RX12_203 (k_X12_wantWord _ V hL 33 8 X (by decide)) cf_X12 (at_120 hL) (by decide) ⟨Nat.zero_le _, Nat.zero_le _⟩ rfl rfl ⟨Nat.le_of_ble_eq_true rfl, Nat.le_of_ble_eq_true rfl⟩ (Nat.le_of_ble_eq_true rfl) dX12_someCells_66 (fun r25 X26 => ?_)
        refine g_if_ne (tgt := 74) hC dX12_someCells_69 (by decide) ?_ ?_
        · exact gB_X12_someCells_74 hC hR hL ih x1 x2 X26
        · refine g_iconst (v := vI 0) hC dX12_someCells_72 rfl ?_
          exact g_zret1 hC hR (by decide) dX12_someCells_73
set_option maxRecDepth 20000 in
theorem k_X12_someCells (l : Launch) (V : Ev) {L : List Kd} (hL : LKm L)  (X : Mem)  : Kt l V L yX12_someCells (.code yX12_someCells cX12_someCells 6 (some .boolean)) 7 208 [vR V.1 120] rI X (f_X12_someCells  X) := by
  refine kt_of (own := RX12) (lv0 := [(0, vR V.1 120)]) (by decide) rfl (Nat.le_of_ble_eq_true rfl) rfl (fun C hCl hC hR => ?_)
  subst hCl
  unfold f_X12_someCells
  refine g_aload_n (q := 0) hC dX12_someCells_0 rfl rfl rfl ?_
  refine g_callVV (As := []) hC mv_X12_ahead wml_RX12_168 (k_X12_ahead _ V hL X) cf_X12 (at_120 hL) (by decide) ⟨Nat.zero_le _, Nat.zero_le _⟩ rfl rfl ⟨Nat.le_of_ble_eq_true rfl, Nat.le_of_ble_eq_true rfl⟩ (Nat.le_of_ble_eq_true rfl) dX12_someCells_1 (fun _ X2 => ?_)
  refine g_aload_n (q := 0) hC dX12_someCells_4 rfl rfl rfl ?_
  refine g_ldcS (i := 33) hC (by decide) rfl dX12_someCells_5 ?_
  refine g_callVI (As := [vS V 33]) hC mv_X12_isName wml_RX12_196 (k_X12_isName _ V hL 33 X2 (by decide)) cf_X12 (at_120 hL) (by decide) ⟨Nat.zero_le _, Nat.zero_le _⟩ rfl rfl ⟨Nat.le_of_ble_eq_true rfl, Nat.le_of_ble_eq_true rfl⟩ (Nat.le_of_ble_eq_true rfl) dX12_someCells_7 (fun r3 X4 => ?_)
  refine g_if_ne (tgt := 19) hC dX12_someCells_10 (by decide) ?_ ?_
  · refine g_aload_n (q := 0) hC dX12_someCells_19 rfl rfl rfl ?_
    refine g_bipush (v := vI 20) hC dX12_someCells_20 rfl ?_
    refine g_aload_n (q := 0) hC dX12_someCells_22 rfl rfl rfl ?_
    refine g_getS (k := 0) hC cf_X12 (at_120 hL) (by decide) rfl (by decide) (by decide) wf_RX12_7 dX12_someCells_23 ?_
    refine g_sipush (v := vI 1762) hC dX12_someCells_26 rfl ?_
    refine g_iald hC (at_121 hL) (by decide) dX12_someCells_29 ?_
    refine g_callVI (As := [vI 20, vI (X4 121 1762)]) hC mv_X12_findHere wml_RX12_200 (k_X12_findHere _ V hL 20 (X4 121 1762) X4) cf_X12 (at_120 hL) (by decide) ⟨Nat.zero_le _, Nat.zero_le _⟩ rfl rfl ⟨Nat.le_of_ble_eq_true rfl, Nat.le_of_ble_eq_true rfl⟩ (Nat.le_of_ble_eq_true rfl) dX12_someCells_30 (fun r5 X6 => ?_)
    refine g_istore_n hC dX12_someCells_33 rfl (by decide) rfl ?_
    refine g_iload_n (q := 0) hC dX12_someCells_34 rfl rfl ?_
    refine g_iconst (v := vI (-1)) hC dX12_someCells_35 rfl ?_
    refine g_icmp_ne (tgt := 45) hC dX12_someCells_36 (by decide) ?_ ?_
    · refine g_aload_n (q := 1) hC dX12_someCells_45 rfl rfl rfl ?_
      refine g_callVV (As := []) hC mv_X12_ahead wml_RX12_168 (k_X12_ahead _ V hL X6) cf_X12 (at_120 hL) (by decide) ⟨Nat.zero_le _, Nat.zero_le _⟩ rfl rfl ⟨Nat.le_of_ble_eq_true rfl, Nat.le_of_ble_eq_true rfl⟩ (Nat.le_of_ble_eq_true rfl) dX12_someCells_46 (fun _ X8 => ?_)
      refine g_iconst (v := vI 0) hC dX12_someCells_49 rfl ?_
      refine g_istore_n hC dX12_someCells_50 rfl (by decide) rfl ?_
      refine g_sub [2, 1, 0] rfl ?_
      exact gL_X12_someCells_51 hC hR hL  KF r5 0 X8
    · refine g_aload_n (q := 1) hC dX12_someCells_39 rfl rfl rfl ?_
      refine g_iconst (v := vI 3) hC dX12_someCells_40 rfl ?_
      refine g_callVI (As := [vI 3]) hC mv_X12_fails wml_RX12_174 (k_X12_fails _ V hL 3 X6) cf_X12 (at_120 hL) (by decide) ⟨Nat.zero_le _, Nat.zero_le _⟩ rfl rfl ⟨Nat.le_of_ble_eq_true rfl, Nat.le_of_ble_eq_true rfl⟩ (Nat.le_of_ble_eq_true rfl) dX12_someCells_41 (fun r27 X28 => ?_)
      exact g_zret hC hR dX12_someCells_44
  · refine g_aload_n (q := 0) hC dX12_someCells_13 rfl rfl rfl ?_
    refine g_iconst (v := vI 2) hC dX12_someCells_14 rfl ?_
    refine g_callVI (As := [vI 2]) hC mv_X12_fails wml_RX12_174 (k_X12_fails _ V hL 2 X4) cf_X12 (at_120 hL) (by decide) ⟨Nat.zero_le _, Nat.zero_le _⟩ rfl rfl ⟨Nat.le_of_ble_eq_true rfl, Nat.le_of_ble_eq_true rfl⟩ (Nat.le_of_ble_eq_true rfl) dX12_someCells_15 (fun r29 X30 => ?_)
    exact g_zret hC hR dX12_someCells_18
def B_X12_someStages_187 (x1 : Int) (X : Mem) : Option (Int × Mem) :=
  ax 2200 1773 <| bd (ms X 121 1773 x1) fun X3 =>
  some (1, X3)
def B_X12_someStages_183 (go41 : Int → Int → Mem → Option (Int × Mem)) (x1 : Int) (s0 : Int) (X : Mem) : Option (Int × Mem) :=
  go41 x1 s0 X
def B_X12_someStages_178 (go41 : Int → Int → Mem → Option (Int × Mem)) (x1 : Int) (X : Mem) : Option (Int × Mem) :=
  B_X12_someStages_183  go41 x1 1 X
def B_X12_someStages_151 (go41 : Int → Int → Mem → Option (Int × Mem)) (x1 : Int) (s0 : Int) (s1 : Int) (X : Mem) : Option (Int × Mem) :=
  ax 2200 s1 <| bd (ms X 121 s1 s0) fun X4 =>
  cl (f_X12_ahead X4) fun _ X6 =>
  c2 (X6 120 12) 3 <| if (X6 120 12) = 3 then
    B_X12_someStages_178  go41 (x1 + 1) X6
  else
    cl (f_X12_inWords 33 X6) fun r7 X8 =>
    c2 r7 10 <| if ¬ r7 = 10 then
      B_X12_someStages_183  go41 (x1 + 1) 0 X8
    else
      B_X12_someStages_178  go41 (x1 + 1) X8
def B_X12_someStages_119  (X : Mem) : Option (Int × Mem) :=
  cl (f_X12_fails 6 X) fun r9 X10 =>
  cz r9 (some (r9, X10))
def B_X12_someStages_107  (X : Mem) : Option (Int × Mem) :=
  cl (f_X12_fails 4 X) fun r11 X12 =>
  cz r11 (some (r11, X12))
def B_X12_someStages_92  (X : Mem) : Option (Int × Mem) :=
  cl (f_X12_fails 2 X) fun r13 X14 =>
  cz r13 (some (r13, X14))
def B_X12_someStages_84 (go41 : Int → Int → Mem → Option (Int × Mem)) (x1 : Int) (x3 : Int) (X : Mem) : Option (Int × Mem) :=
  c2 (X 120 12) 3 <| if (X 120 12) = 3 then
    c2 (X 120 15) 9 <| if (X 120 15) ≤ 9 then
      c2 x1 12 <| if ¬ x1 = 12 then
        c1 x3 <| if x3 = 0 then
          B_X12_someStages_151  go41 x1 (X 120 15) (1776 + x1) X
        else
          B_X12_someStages_151  go41 x1 (-(X 120 15)) (1776 + x1) X
      else
        B_X12_someStages_119   X
    else
      B_X12_someStages_107   X
  else
    B_X12_someStages_92   X
def B_X12_someStages_76 (go41 : Int → Int → Mem → Option (Int × Mem)) (x1 : Int) (x3 : Int) (X : Mem) : Option (Int × Mem) :=
  c1 x3 <| if x3 = 0 then
    B_X12_someStages_84  go41 x1 x3 X
  else
    cl (f_X12_ahead X) fun _ X16 =>
    B_X12_someStages_84  go41 x1 x3 X16
def B_X12_someStages_69  (X : Mem) : Option (Int × Mem) :=
  cl (f_X12_fails 6 X) fun r17 X18 =>
  cz r17 (some (r17, X18))
def B_X12_someStages_58 (go41 : Int → Int → Mem → Option (Int × Mem)) (x1 : Int) (s0 : Int) (X : Mem) : Option (Int × Mem) :=
  c2 x1 12 <| if ¬ x1 = 12 then
    B_X12_someStages_76  go41 x1 s0 X
  else
    c1 s0 <| if s0 = 0 then
      B_X12_someStages_76  go41 x1 s0 X
    else
      B_X12_someStages_69   X
def L_X12_someStages_41 : Nat → Int → Int → Mem → Option (Int × Mem)
  | 0, _, _, _ => none
  | n + 1, x1, x2, X =>
    c1 x2 <| if x2 = 0 then
      B_X12_someStages_187   x1 X
    else
      c2 (X 120 12) 3 <| if (X 120 12) = 3 then
        B_X12_someStages_58  (fun x1 x2 X => L_X12_someStages_41   n x1 x2 X) x1 0 X
      else
        B_X12_someStages_58  (fun x1 x2 X => L_X12_someStages_41   n x1 x2 X) x1 1 X
def B_X12_someStages_30 (x1 : Int) (s0 : Int) (X : Mem) : Option (Int × Mem) :=
  c1 s0 <| if ¬ s0 = 0 then
    L_X12_someStages_41   KF x1 s0 X
  else
    cl (f_X12_fails 2 X) fun r19 X20 =>
    cz r19 (some (r19, X20))
def B_X12_someStages_25 (x1 : Int) (X : Mem) : Option (Int × Mem) :=
  B_X12_someStages_30   x1 1 X
def f_X12_someStages  (X : Mem) : Option (Int × Mem) :=
  cl (f_X12_ahead X) fun _ X2 =>
  c2 (X2 120 12) 3 <| if (X2 120 12) = 3 then
    B_X12_someStages_25   0 X2
  else
    cl (f_X12_inWords 33 X2) fun r21 X22 =>
    c2 r21 10 <| if ¬ r21 = 10 then
      B_X12_someStages_30   0 0 X22
    else
      B_X12_someStages_25   0 X22
set_option maxRecDepth 20000 in
theorem gB_X12_someStages_187 {C : Cx} {V : Ev} {L : List Kd} (hC : Ok C V cX12_someStages RX12 4 6 186) (hR : Rt C V L (some .boolean) rI) (hL : LKm L) (x1 : Int) (X : Mem)  : G C V L 0 0 4 187 [(0, vR V.1 120), (1, vI x1)] [] X (B_X12_someStages_187   x1 X) := by
  unfold B_X12_someStages_187
  refine g_aload_n (q := 0) hC dX12_someStages_187 rfl rfl rfl ?_
  refine g_getS (k := 0) hC cf_X12 (at_120 hL) (by decide) rfl (by decide) (by decide) wf_RX12_7 dX12_someStages_188 ?_
  refine g_sipush (v := vI 1773) hC dX12_someStages_191 rfl ?_
  refine g_iload_n (q := 1) hC dX12_someStages_194 rfl rfl ?_
  refine g_iast hC (at_121 hL) (by decide) dX12_someStages_195 (fun X3 => ?_)
  refine g_iconst (v := vI 1) hC dX12_someStages_196 rfl ?_
  exact g_zret1 hC hR (by decide) dX12_someStages_197
set_option maxRecDepth 20000 in
theorem gB_X12_someStages_183 {C : Cx} {V : Ev} {L : List Kd} (hC : Ok C V cX12_someStages RX12 4 6 186) (hR : Rt C V L (some .boolean) rI) (hL : LKm L) {go41 : Int → Int → Mem → Option (Int × Mem)} (hgo41 : ∀ (x1 : Int) (x2 : Int) (X : Mem), G C V L 0 0 4 41 [(0, vR V.1 120), (1, vI x1), (2, vI x2)] [] X (go41 x1 x2 X)) (x1 : Int) (s0 : Int) (X : Mem)  : G C V L 0 0 4 183 [(0, vR V.1 120), (1, vI x1)] [vI s0] X (B_X12_someStages_183  go41 x1 s0 X) := by
  unfold B_X12_someStages_183
  refine g_istore_n hC dX12_someStages_183 rfl (by decide) rfl ?_
  refine g_goto (tgt := 41) hC dX12_someStages_184 (by decide) ?_
  refine g_sub [1, 2, 0] rfl ?_
  exact hgo41 x1 s0 X
set_option maxRecDepth 20000 in
theorem gB_X12_someStages_178 {C : Cx} {V : Ev} {L : List Kd} (hC : Ok C V cX12_someStages RX12 4 6 186) (hR : Rt C V L (some .boolean) rI) (hL : LKm L) {go41 : Int → Int → Mem → Option (Int × Mem)} (hgo41 : ∀ (x1 : Int) (x2 : Int) (X : Mem), G C V L 0 0 4 41 [(0, vR V.1 120), (1, vI x1), (2, vI x2)] [] X (go41 x1 x2 X)) (x1 : Int) (X : Mem)  : G C V L 0 0 4 178 [(0, vR V.1 120), (1, vI x1)] [] X (B_X12_someStages_178  go41 x1 X) := by
  unfold B_X12_someStages_178
  refine g_iconst (v := vI 1) hC dX12_someStages_178 rfl ?_
  refine g_goto (tgt := 183) hC dX12_someStages_179 (by decide) ?_
  exact gB_X12_someStages_183 hC hR hL hgo41 x1 1 X
set_option maxRecDepth 20000 in
theorem gB_X12_someStages_151 {C : Cx} {V : Ev} {L : List Kd} (hC : Ok C V cX12_someStages RX12 4 6 186) (hR : Rt C V L (some .boolean) rI) (hL : LKm L) {go41 : Int → Int → Mem → Option (Int × Mem)} (hgo41 : ∀ (x1 : Int) (x2 : Int) (X : Mem), G C V L 0 0 4 41 [(0, vR V.1 120), (1, vI x1), (2, vI x2)] [] X (go41 x1 x2 X)) (x1 : Int) (s0 : Int) (s1 : Int) (X : Mem)  : G C V L 0 0 4 151 [(0, vR V.1 120), (1, vI x1)] [vI s0, vI s1, vR V.1 121] X (B_X12_someStages_151  go41 x1 s0 s1 X) := by
  unfold B_X12_someStages_151
  refine g_iast hC (at_121 hL) (by decide) dX12_someStages_151 (fun X4 => ?_)
  refine g_iinc (q := 1) hC dX12_someStages_152 rfl (by decide) rfl ?_
  refine g_aload_n (q := 1) hC dX12_someStages_155 rfl rfl rfl ?_
  refine g_callVV (As := []) hC mv_X12_ahead wml_RX12_168 (k_X12_ahead _ V hL X4) cf_X12 (at_120 hL) (by decide) ⟨Nat.zero_le _, Nat.zero_le _⟩ rfl rfl ⟨Nat.le_of_ble_eq_true rfl, Nat.le_of_ble_eq_true rfl⟩ (Nat.le_of_ble_eq_true rfl) dX12_someStages_156 (fun _ X6 => ?_)
  refine g_aload_n (q := 1) hC dX12_someStages_159 rfl rfl rfl ?_
  refine g_getI (k := 12) (kz := 12) hC cf_X12 (at_120 hL) (by decide) rfl (by decide) rfl wf_RX12_137 dX12_someStages_160 ?_
  refine g_iconst (v := vI 3) hC dX12_someStages_163 rfl ?_
  refine g_icmp_eq (tgt := 178) hC dX12_someStages_164 (by decide) ?_ ?_
  · refine g_sub [1, 0] rfl ?_
    exact gB_X12_someStages_178 hC hR hL hgo41 (x1 + 1) X6
  · refine g_aload_n (q := 1) hC dX12_someStages_167 rfl rfl rfl ?_
    refine g_ldcS (i := 33) hC (by decide) rfl dX12_someStages_168 ?_
    refine g_callVI (As := [vS V 33]) hC mv_X12_inWords wml_RX12_177 (k_X12_inWords _ V hL 33 X6 (by decide)) cf_X12 (at_120 hL) (by decide) ⟨Nat.zero_le _, Nat.zero_le _⟩ rfl rfl ⟨Nat.le_of_ble_eq_true rfl, Nat.le_of_ble_eq_true rfl⟩ (Nat.le_of_ble_eq_true rfl) dX12_someStages_170 (fun r7 X8 => ?_)
    refine g_bipush (v := vI 10) hC dX12_someStages_173 rfl ?_
    refine g_icmp_ne (tgt := 182) hC dX12_someStages_175 (by decide) ?_ ?_
    · refine g_iconst (v := vI 0) hC dX12_someStages_182 rfl ?_
      refine g_sub [1, 0] rfl ?_
      exact gB_X12_someStages_183 hC hR hL hgo41 (x1 + 1) 0 X8
    · refine g_sub [1, 0] rfl ?_
      exact gB_X12_someStages_178 hC hR hL hgo41 (x1 + 1) X8
set_option maxRecDepth 20000 in
theorem gB_X12_someStages_119 {C : Cx} {V : Ev} {L : List Kd} (hC : Ok C V cX12_someStages RX12 4 6 186) (hR : Rt C V L (some .boolean) rI) (hL : LKm L)  (X : Mem)  : G C V L 0 0 4 119 [(0, vR V.1 120)] [] X (B_X12_someStages_119    X) := by
  unfold B_X12_someStages_119
  refine g_aload_n (q := 0) hC dX12_someStages_119 rfl rfl rfl ?_
  refine g_bipush (v := vI 6) hC dX12_someStages_120 rfl ?_
  refine g_callVI (As := [vI 6]) hC mv_X12_fails wml_RX12_174 (k_X12_fails _ V hL 6 X) cf_X12 (at_120 hL) (by decide) ⟨Nat.zero_le _, Nat.zero_le _⟩ rfl rfl ⟨Nat.le_of_ble_eq_true rfl, Nat.le_of_ble_eq_true rfl⟩ (Nat.le_of_ble_eq_true rfl) dX12_someStages_122 (fun r9 X10 => ?_)
  exact g_zret hC hR dX12_someStages_125
set_option maxRecDepth 20000 in
theorem gB_X12_someStages_107 {C : Cx} {V : Ev} {L : List Kd} (hC : Ok C V cX12_someStages RX12 4 6 186) (hR : Rt C V L (some .boolean) rI) (hL : LKm L)  (X : Mem)  : G C V L 0 0 4 107 [(0, vR V.1 120)] [] X (B_X12_someStages_107    X) := by
  unfold B_X12_someStages_107
  refine g_aload_n (q := 0) hC dX12_someStages_107 rfl rfl rfl ?_
  refine g_iconst (v := vI 4) hC dX12_someStages_108 rfl ?_
  refine g_callVI (As := [vI 4]) hC mv_X12_fails wml_RX12_174 (k_X12_fails _ V hL 4 X) cf_X12 (at_120 hL) (by decide) ⟨Nat.zero_le _, Nat.zero_le _⟩ rfl rfl ⟨Nat.le_of_ble_eq_true rfl, Nat.le_of_ble_eq_true rfl⟩ (Nat.le_of_ble_eq_true rfl) dX12_someStages_109 (fun r11 X12 => ?_)
  exact g_zret hC hR dX12_someStages_112
set_option maxRecDepth 20000 in
theorem gB_X12_someStages_92 {C : Cx} {V : Ev} {L : List Kd} (hC : Ok C V cX12_someStages RX12 4 6 186) (hR : Rt C V L (some .boolean) rI) (hL : LKm L)  (X : Mem)  : G C V L 0 0 4 92 [(0, vR V.1 120)] [] X (B_X12_someStages_92    X) := by
  unfold B_X12_someStages_92
  refine g_aload_n (q := 0) hC dX12_someStages_92 rfl rfl rfl ?_
  refine g_iconst (v := vI 2) hC dX12_someStages_93 rfl ?_
  refine g_callVI (As := [vI 2]) hC mv_X12_fails wml_RX12_174 (k_X12_fails _ V hL 2 X) cf_X12 (at_120 hL) (by decide) ⟨Nat.zero_le _, Nat.zero_le _⟩ rfl rfl ⟨Nat.le_of_ble_eq_true rfl, Nat.le_of_ble_eq_true rfl⟩ (Nat.le_of_ble_eq_true rfl) dX12_someStages_94 (fun r13 X14 => ?_)
  exact g_zret hC hR dX12_someStages_97
set_option maxRecDepth 20000 in
theorem gB_X12_someStages_84 {C : Cx} {V : Ev} {L : List Kd} (hC : Ok C V cX12_someStages RX12 4 6 186) (hR : Rt C V L (some .boolean) rI) (hL : LKm L) {go41 : Int → Int → Mem → Option (Int × Mem)} (hgo41 : ∀ (x1 : Int) (x2 : Int) (X : Mem), G C V L 0 0 4 41 [(0, vR V.1 120), (1, vI x1), (2, vI x2)] [] X (go41 x1 x2 X)) (x1 : Int) (x3 : Int) (X : Mem)  : G C V L 0 0 4 84 [(0, vR V.1 120), (1, vI x1), (3, vI x3)] [] X (B_X12_someStages_84  go41 x1 x3 X) := by
  unfold B_X12_someStages_84
  refine g_aload_n (q := 0) hC dX12_someStages_84 rfl rfl rfl ?_
  refine g_getI (k := 12) (kz := 12) hC cf_X12 (at_120 hL) (by decide) rfl (by decide) rfl wf_RX12_137 dX12_someStages_85 ?_
  refine g_iconst (v := vI 3) hC dX12_someStages_88 rfl ?_
  refine g_icmp_eq (tgt := 98) hC dX12_someStages_89 (by decide) ?_ ?_
  · refine g_aload_n (q := 0) hC dX12_someStages_98 rfl rfl rfl ?_
    refine g_getI (k := 15) (kz := 15) hC cf_X12 (at_120 hL) (by decide) rfl (by decide) rfl wf_RX12_134 dX12_someStages_99 ?_
    refine g_bipush (v := vI 9) hC dX12_someStages_102 rfl ?_
    refine g_icmp_le (tgt := 113) hC dX12_someStages_104 (by decide) ?_ ?_
    · refine g_iload_n (q := 1) hC dX12_someStages_113 rfl rfl ?_
      refine g_bipush (v := vI 12) hC dX12_someStages_114 rfl ?_
      refine g_icmp_ne (tgt := 126) hC dX12_someStages_116 (by decide) ?_ ?_
      · refine g_aload_n (q := 0) hC dX12_someStages_126 rfl rfl rfl ?_
        refine g_getS (k := 0) hC cf_X12 (at_120 hL) (by decide) rfl (by decide) (by decide) wf_RX12_7 dX12_someStages_127 ?_
        refine g_sipush (v := vI 1776) hC dX12_someStages_130 rfl ?_
        refine g_iload_n (q := 1) hC dX12_someStages_133 rfl rfl ?_
        refine g_iadd hC dX12_someStages_134 ?_
        refine g_iload_n (q := 2) hC dX12_someStages_135 rfl rfl ?_
        refine g_if_eq (tgt := 147) hC dX12_someStages_136 (by decide) ?_ ?_
        · refine g_aload_n (q := 0) hC dX12_someStages_147 rfl rfl rfl ?_
          refine g_getI (k := 15) (kz := 15) hC cf_X12 (at_120 hL) (by decide) rfl (by decide) rfl wf_RX12_134 dX12_someStages_148 ?_
          refine g_sub [0, 1] rfl ?_
          exact gB_X12_someStages_151 hC hR hL hgo41 x1 (X 120 15) (1776 + x1) X
        · refine g_aload_n (q := 0) hC dX12_someStages_139 rfl rfl rfl ?_
          refine g_getI (k := 15) (kz := 15) hC cf_X12 (at_120 hL) (by decide) rfl (by decide) rfl wf_RX12_134 dX12_someStages_140 ?_
          refine g_ineg hC dX12_someStages_143 ?_
          refine g_goto (tgt := 151) hC dX12_someStages_144 (by decide) ?_
          refine g_sub [0, 1] rfl ?_
          exact gB_X12_someStages_151 hC hR hL hgo41 x1 (-(X 120 15)) (1776 + x1) X
      · refine g_sub [0] rfl ?_
        exact gB_X12_someStages_119 hC hR hL  X
    · refine g_sub [0] rfl ?_
      exact gB_X12_someStages_107 hC hR hL  X
  · refine g_sub [0] rfl ?_
    exact gB_X12_someStages_92 hC hR hL  X
set_option maxRecDepth 20000 in
theorem gB_X12_someStages_76 {C : Cx} {V : Ev} {L : List Kd} (hC : Ok C V cX12_someStages RX12 4 6 186) (hR : Rt C V L (some .boolean) rI) (hL : LKm L) {go41 : Int → Int → Mem → Option (Int × Mem)} (hgo41 : ∀ (x1 : Int) (x2 : Int) (X : Mem), G C V L 0 0 4 41 [(0, vR V.1 120), (1, vI x1), (2, vI x2)] [] X (go41 x1 x2 X)) (x1 : Int) (x3 : Int) (X : Mem)  : G C V L 0 0 4 76 [(0, vR V.1 120), (1, vI x1), (3, vI x3)] [] X (B_X12_someStages_76  go41 x1 x3 X) := by
  unfold B_X12_someStages_76
  refine g_iload_n (q := 2) hC dX12_someStages_76 rfl rfl ?_
  refine g_if_eq (tgt := 84) hC dX12_someStages_77 (by decide) ?_ ?_
  · exact gB_X12_someStages_84 hC hR hL hgo41 x1 x3 X
  · refine g_aload_n (q := 0) hC dX12_someStages_80 rfl rfl rfl ?_
    refine g_callVV (As := []) hC mv_X12_ahead wml_RX12_168 (k_X12_ahead _ V hL X) cf_X12 (at_120 hL) (by decide) ⟨Nat.zero_le _, Nat.zero_le _⟩ rfl rfl ⟨Nat.le_of_ble_eq_true rfl, Nat.le_of_ble_eq_true rfl⟩ (Nat.le_of_ble_eq_true rfl) dX12_someStages_81 (fun _ X16 => ?_)
    exact gB_X12_someStages_84 hC hR hL hgo41 x1 x3 X16
set_option maxRecDepth 20000 in
theorem gB_X12_someStages_69 {C : Cx} {V : Ev} {L : List Kd} (hC : Ok C V cX12_someStages RX12 4 6 186) (hR : Rt C V L (some .boolean) rI) (hL : LKm L)  (X : Mem)  : G C V L 0 0 4 69 [(0, vR V.1 120)] [] X (B_X12_someStages_69    X) := by
  unfold B_X12_someStages_69
  refine g_aload_n (q := 0) hC dX12_someStages_69 rfl rfl rfl ?_
  refine g_bipush (v := vI 6) hC dX12_someStages_70 rfl ?_
  refine g_callVI (As := [vI 6]) hC mv_X12_fails wml_RX12_174 (k_X12_fails _ V hL 6 X) cf_X12 (at_120 hL) (by decide) ⟨Nat.zero_le _, Nat.zero_le _⟩ rfl rfl ⟨Nat.le_of_ble_eq_true rfl, Nat.le_of_ble_eq_true rfl⟩ (Nat.le_of_ble_eq_true rfl) dX12_someStages_72 (fun r17 X18 => ?_)
  exact g_zret hC hR dX12_someStages_75
set_option maxRecDepth 20000 in
theorem gB_X12_someStages_58 {C : Cx} {V : Ev} {L : List Kd} (hC : Ok C V cX12_someStages RX12 4 6 186) (hR : Rt C V L (some .boolean) rI) (hL : LKm L) {go41 : Int → Int → Mem → Option (Int × Mem)} (hgo41 : ∀ (x1 : Int) (x2 : Int) (X : Mem), G C V L 0 0 4 41 [(0, vR V.1 120), (1, vI x1), (2, vI x2)] [] X (go41 x1 x2 X)) (x1 : Int) (s0 : Int) (X : Mem)  : G C V L 0 0 4 58 [(0, vR V.1 120), (1, vI x1)] [vI s0] X (B_X12_someStages_58  go41 x1 s0 X) := by
  unfold B_X12_someStages_58
  refine g_istore_n hC dX12_someStages_58 rfl (by decide) rfl ?_
  refine g_iload_n (q := 2) hC dX12_someStages_59 rfl rfl ?_
  refine g_bipush (v := vI 12) hC dX12_someStages_60 rfl ?_
  refine g_icmp_ne (tgt := 76) hC dX12_someStages_62 (by decide) ?_ ?_
  · refine g_sub [1, 2, 0] rfl ?_
    exact gB_X12_someStages_76 hC hR hL hgo41 x1 s0 X
  · refine g_iload_n (q := 0) hC dX12_someStages_65 rfl rfl ?_
    refine g_if_eq (tgt := 76) hC dX12_someStages_66 (by decide) ?_ ?_
    · refine g_sub [1, 2, 0] rfl ?_
      exact gB_X12_someStages_76 hC hR hL hgo41 x1 s0 X
    · refine g_sub [1] rfl ?_
      exact gB_X12_someStages_69 hC hR hL  X
set_option maxRecDepth 20000 in
theorem gL_X12_someStages_41 {C : Cx} {V : Ev} {L : List Kd} (hC : Ok C V cX12_someStages RX12 4 6 186) (hR : Rt C V L (some .boolean) rI) (hL : LKm L) : ∀ (n : Nat) (x1 : Int) (x2 : Int) (X : Mem), G C V L 0 0 4 41 [(0, vR V.1 120), (1, vI x1), (2, vI x2)] [] X (L_X12_someStages_41   n x1 x2 X) := by
  intro n
  induction n with
  | zero => intro x1 x2 X; exact g_none
  | succ n ih =>
    intro x1 x2 X
    rw [L_X12_someStages_41]
    refine g_iload_n (q := 2) hC dX12_someStages_41 rfl rfl ?_
    refine g_if_eq (tgt := 187) hC dX12_someStages_42 (by decide) ?_ ?_
    · refine g_sub [0, 1] rfl ?_
      exact gB_X12_someStages_187 hC hR hL  x1 X
    · refine g_aload_n (q := 0) hC dX12_someStages_45 rfl rfl rfl ?_
      refine g_getI (k := 12) (kz := 12) hC cf_X12 (at_120 hL) (by decide) rfl (by decide) rfl wf_RX12_137 dX12_someStages_46 ?_
      refine g_iconst (v := vI 3) hC dX12_someStages_49 rfl ?_
      refine g_icmp_eq (tgt := 57) hC dX12_someStages_50 (by decide) ?_ ?_
      · refine g_iconst (v := vI 0) hC dX12_someStages_57 rfl ?_
        refine g_sub [0, 1] rfl ?_
        exact gB_X12_someStages_58 hC hR hL ih x1 0 X
      · refine g_iconst (v := vI 1) hC dX12_someStages_53 rfl ?_
        refine g_goto (tgt := 58) hC dX12_someStages_54 (by decide) ?_
        refine g_sub [0, 1] rfl ?_
        exact gB_X12_someStages_58 hC hR hL ih x1 1 X
set_option maxRecDepth 20000 in
theorem gB_X12_someStages_30 {C : Cx} {V : Ev} {L : List Kd} (hC : Ok C V cX12_someStages RX12 4 6 186) (hR : Rt C V L (some .boolean) rI) (hL : LKm L) (x1 : Int) (s0 : Int) (X : Mem)  : G C V L 0 0 4 30 [(0, vR V.1 120), (1, vI x1)] [vI s0] X (B_X12_someStages_30   x1 s0 X) := by
  unfold B_X12_someStages_30
  refine g_istore_n hC dX12_someStages_30 rfl (by decide) rfl ?_
  refine g_iload_n (q := 0) hC dX12_someStages_31 rfl rfl ?_
  refine g_if_ne (tgt := 41) hC dX12_someStages_32 (by decide) ?_ ?_
  · refine g_sub [1, 2, 0] rfl ?_
    exact gL_X12_someStages_41 hC hR hL  KF x1 s0 X
  · refine g_aload_n (q := 1) hC dX12_someStages_35 rfl rfl rfl ?_
    refine g_iconst (v := vI 2) hC dX12_someStages_36 rfl ?_
    refine g_callVI (As := [vI 2]) hC mv_X12_fails wml_RX12_174 (k_X12_fails _ V hL 2 X) cf_X12 (at_120 hL) (by decide) ⟨Nat.zero_le _, Nat.zero_le _⟩ rfl rfl ⟨Nat.le_of_ble_eq_true rfl, Nat.le_of_ble_eq_true rfl⟩ (Nat.le_of_ble_eq_true rfl) dX12_someStages_37 (fun r19 X20 => ?_)
    exact g_zret hC hR dX12_someStages_40
set_option maxRecDepth 20000 in
theorem gB_X12_someStages_25 {C : Cx} {V : Ev} {L : List Kd} (hC : Ok C V cX12_someStages RX12 4 6 186) (hR : Rt C V L (some .boolean) rI) (hL : LKm L) (x1 : Int) (X : Mem)  : G C V L 0 0 4 25 [(0, vR V.1 120), (1, vI x1)] [] X (B_X12_someStages_25   x1 X) := by
  unfold B_X12_someStages_25
  refine g_iconst (v := vI 1) hC dX12_someStages_25 rfl ?_
  refine g_goto (tgt := 30) hC dX12_someStages_26 (by decide) ?_
  exact gB_X12_someStages_30 hC hR hL  x1 1 X
set_option maxRecDepth 20000 in
theorem k_X12_someStages (l : Launch) (V : Ev) {L : List Kd} (hL : LKm L)  (X : Mem)  : Kt l V L yX12_someStages (.code yX12_someStages cX12_someStages 4 (some .boolean)) 6 186 [vR V.1 120] rI X (f_X12_someStages  X) := by
  refine kt_of (own := RX12) (lv0 := [(0, vR V.1 120)]) (by decide) rfl (Nat.le_of_ble_eq_true rfl) rfl (fun C hCl hC hR => ?_)
  subst hCl
  unfold f_X12_someStages
  refine g_aload_n (q := 0) hC dX12_someStages_0 rfl rfl rfl ?_
  refine g_callVV (As := []) hC mv_X12_ahead wml_RX12_168 (k_X12_ahead _ V hL X) cf_X12 (at_120 hL) (by decide) ⟨Nat.zero_le _, Nat.zero_le _⟩ rfl rfl ⟨Nat.le_of_ble_eq_true rfl, Nat.le_of_ble_eq_true rfl⟩ (Nat.le_of_ble_eq_true rfl) dX12_someStages_1 (fun _ X2 => ?_)
  refine g_iconst (v := vI 0) hC dX12_someStages_4 rfl ?_
  refine g_istore_n hC dX12_someStages_5 rfl (by decide) rfl ?_
  refine g_aload_n (q := 1) hC dX12_someStages_6 rfl rfl rfl ?_
  refine g_getI (k := 12) (kz := 12) hC cf_X12 (at_120 hL) (by decide) rfl (by decide) rfl wf_RX12_137 dX12_someStages_7 ?_
  refine g_iconst (v := vI 3) hC dX12_someStages_10 rfl ?_
  refine g_icmp_eq (tgt := 25) hC dX12_someStages_11 (by decide) ?_ ?_
  · refine g_sub [1, 0] rfl ?_
    exact gB_X12_someStages_25 hC hR hL  0 X2
  · refine g_aload_n (q := 1) hC dX12_someStages_14 rfl rfl rfl ?_
    refine g_ldcS (i := 33) hC (by decide) rfl dX12_someStages_15 ?_
    refine g_callVI (As := [vS V 33]) hC mv_X12_inWords wml_RX12_177 (k_X12_inWords _ V hL 33 X2 (by decide)) cf_X12 (at_120 hL) (by decide) ⟨Nat.zero_le _, Nat.zero_le _⟩ rfl rfl ⟨Nat.le_of_ble_eq_true rfl, Nat.le_of_ble_eq_true rfl⟩ (Nat.le_of_ble_eq_true rfl) dX12_someStages_17 (fun r21 X22 => ?_)
    refine g_bipush (v := vI 10) hC dX12_someStages_20 rfl ?_
    refine g_icmp_ne (tgt := 29) hC dX12_someStages_22 (by decide) ?_ ?_
    · refine g_iconst (v := vI 0) hC dX12_someStages_29 rfl ?_
      refine g_sub [1, 0] rfl ?_
      exact gB_X12_someStages_30 hC hR hL  0 0 X22
    · refine g_sub [1, 0] rfl ?_
      exact gB_X12_someStages_25 hC hR hL  0 X22
def f_X12_aBoat  (X : Mem) : Option (Int × Mem) :=
  cl (f_X12_ahead X) fun _ X2 =>
  cl (f_X12_wantWord 33 12 X2) fun r3 X4 =>
  c1 r3 <| if r3 = 0 then
    some (0, X4)
  else
    cl (f_X12_number 1765 1 20 X4) fun r5 X6 =>
    c1 r5 <| if ¬ r5 = 0 then
      cl (f_X12_wantWord 33 13 X6) fun r7 X8 =>
      c1 r7 <| if r7 = 0 then
        some (0, X8)
      else
        ax 2200 1765 <|
        c2 9 ((X8 121 1765) - 1) <|
        cl (f_X12_number 1766 0 (min 9 ((X8 121 1765) - 1)) X8) fun r9 X10 =>
        c1 r9 <| if ¬ r9 = 0 then
          cl (f_X12_wantWord 33 14 X10) fun r11 X12 =>
          c1 r11 <| if r11 = 0 then
            some (0, X12)
          else
            cl (f_X12_number 1767 1 99 X12) fun r13 X14 =>
            c1 r13 <| if r13 = 0 then
              some (0, X14)
            else
              cl (f_X12_wantWord 33 15 X14) fun r15 X16 =>
              c1 r15 <| if r15 = 0 then
                some (0, X16)
              else
                cl (f_X12_number 1768 1 99 X16) fun r17 X18 =>
                c1 r17 <| if ¬ r17 = 0 then
                  cl (f_X12_wantWord 33 16 X18) fun r19 X20 =>
                  c1 r19 <| if r19 = 0 then
                    some (0, X20)
                  else
                    cl (f_X12_number 1769 0 99 X20) fun r21 X22 =>
                    c1 r21 <| if r21 = 0 then
                      some (0, X22)
                    else
                      cl (f_X12_wantWord 33 17 X22) fun r23 X24 =>
                      c1 r23 <| if r23 = 0 then
                        some (0, X24)
                      else
                        cl (f_X12_number 1770 0 999 X24) fun r25 X26 =>
                        c1 r25 <| if r25 = 0 then
                          some (0, X26)
                        else
                          some (1, X26)
                else
                  some (0, X18)
        else
          some (0, X10)
    else
      some (0, X6)
set_option maxRecDepth 20000 in
theorem k_X12_aBoat (l : Launch) (V : Ev) {L : List Kd} (hL : LKm L)  (X : Mem)  : Kt l V L yX12_aBoat (.code yX12_aBoat cX12_aBoat 1 (some .boolean)) 7 208 [vR V.1 120] rI X (f_X12_aBoat  X) := by
  refine kt_of (own := RX12) (lv0 := [(0, vR V.1 120)]) (by decide) rfl (Nat.le_of_ble_eq_true rfl) rfl (fun C hCl hC hR => ?_)
  subst hCl
  unfold f_X12_aBoat
  refine g_aload_n (q := 0) hC dX12_aBoat_0 rfl rfl rfl ?_
  refine g_callVV (As := []) hC mv_X12_ahead wml_RX12_168 (k_X12_ahead _ V hL X) cf_X12 (at_120 hL) (by decide) ⟨Nat.zero_le _, Nat.zero_le _⟩ rfl rfl ⟨Nat.le_of_ble_eq_true rfl, Nat.le_of_ble_eq_true rfl⟩ (Nat.le_of_ble_eq_true rfl) dX12_aBoat_1 (fun _ X2 => ?_)
  refine g_aload_n (q := 0) hC dX12_aBoat_4 rfl rfl rfl ?_
  refine g_ldcS (i := 33) hC (by decide) rfl dX12_aBoat_5 ?_
  refine g_bipush (v := vI 12) hC dX12_aBoat_7 rfl ?_
  refine g_callVI (As := [vS V 33, vI 12]) hC mv_X12_wantWord wml_RX12_203 (k_X12_wantWord _ V hL 33 12 X2 (by decide)) cf_X12 (at_120 hL) (by decide) ⟨Nat.zero_le _, Nat.zero_le _⟩ rfl rfl ⟨Nat.le_of_ble_eq_true rfl, Nat.le_of_ble_eq_true rfl⟩ (Nat.le_of_ble_eq_true rfl) dX12_aBoat_9 (fun r3 X4 => ?_)
  refine g_if_eq (tgt := 28) hC dX12_aBoat_12 (by decide) ?_ ?_
  · refine g_iconst (v := vI 0) hC dX12_aBoat_28 rfl ?_
    exact g_zret1 hC hR (by decide) dX12_aBoat_29
  · refine g_aload_n (q := 0) hC dX12_aBoat_15 rfl rfl rfl ?_
    refine g_sipush (v := vI 1765) hC dX12_aBoat_16 rfl ?_
    refine g_iconst (v := vI 1) hC dX12_aBoat_19 rfl ?_
    refine g_bipush (v := vI 20) hC dX12_aBoat_20 rfl ?_
    refine g_callVI (As := [vI 1765, vI 1, vI 20]) hC mv_X12_number wml_RX12_207 (k_X12_number _ V hL 1765 1 20 X4) cf_X12 (at_120 hL) (by decide) ⟨Nat.zero_le _, Nat.zero_le _⟩ rfl rfl ⟨Nat.le_of_ble_eq_true rfl, Nat.le_of_ble_eq_true rfl⟩ (Nat.le_of_ble_eq_true rfl) dX12_aBoat_22 (fun r5 X6 => ?_)
    refine g_if_ne (tgt := 30) hC dX12_aBoat_25 (by decide) ?_ ?_
    · refine g_aload_n (q := 0) hC dX12_aBoat_30 rfl rfl rfl ?_
      refine g_ldcS (i := 33) hC (by decide) rfl dX12_aBoat_31 ?_
      refine g_bipush (v := vI 13) hC dX12_aBoat_33 rfl ?_
      refine g_callVI (As := [vS V 33, vI 13]) hC mv_X12_wantWord wml_RX12_203 (k_X12_wantWord _ V hL 33 13 X6 (by decide)) cf_X12 (at_120 hL) (by decide) ⟨Nat.zero_le _, Nat.zero_le _⟩ rfl rfl ⟨Nat.le_of_ble_eq_true rfl, Nat.le_of_ble_eq_true rfl⟩ (Nat.le_of_ble_eq_true rfl) dX12_aBoat_35 (fun r7 X8 => ?_)
      refine g_if_eq (tgt := 67) hC dX12_aBoat_38 (by decide) ?_ ?_
      · refine g_iconst (v := vI 0) hC dX12_aBoat_67 rfl ?_
        exact g_zret1 hC hR (by decide) dX12_aBoat_68
      · refine g_aload_n (q := 0) hC dX12_aBoat_41 rfl rfl rfl ?_
        refine g_sipush (v := vI 1766) hC dX12_aBoat_42 rfl ?_
        refine g_iconst (v := vI 0) hC dX12_aBoat_45 rfl ?_
        refine g_bipush (v := vI 9) hC dX12_aBoat_46 rfl ?_
        refine g_aload_n (q := 0) hC dX12_aBoat_48 rfl rfl rfl ?_
        refine g_getS (k := 0) hC cf_X12 (at_120 hL) (by decide) rfl (by decide) (by decide) wf_RX12_7 dX12_aBoat_49 ?_
        refine g_sipush (v := vI 1765) hC dX12_aBoat_52 rfl ?_
        refine g_iald hC (at_121 hL) (by decide) dX12_aBoat_55 ?_
        refine g_iconst (v := vI 1) hC dX12_aBoat_56 rfl ?_
        refine g_isub hC dX12_aBoat_57 ?_
        refine g_mmin hC wml_RX12_147 (Nat.le_of_ble_eq_true rfl) (Nat.le_of_ble_eq_true rfl) ⟨Nat.zero_le _, Nat.zero_le _⟩ dX12_aBoat_58 ?_
        refine g_callVI (As := [vI 1766, vI 0, vI (min 9 ((X8 121 1765) - 1))]) hC mv_X12_number wml_RX12_207 (k_X12_number _ V hL 1766 0 (min 9 ((X8 121 1765) - 1)) X8) cf_X12 (at_120 hL) (by decide) ⟨Nat.zero_le _, Nat.zero_le _⟩ rfl rfl ⟨Nat.le_of_ble_eq_true rfl, Nat.le_of_ble_eq_true rfl⟩ (Nat.le_of_ble_eq_true rfl) dX12_aBoat_61 (fun r9 X10 => ?_)
        refine g_if_ne (tgt := 69) hC dX12_aBoat_64 (by decide) ?_ ?_
        · refine g_aload_n (q := 0) hC dX12_aBoat_69 rfl rfl rfl ?_
          refine g_ldcS (i := 33) hC (by decide) rfl dX12_aBoat_70 ?_
          refine g_bipush (v := vI 14) hC dX12_aBoat_72 rfl ?_
          refine g_callVI (As := [vS V 33, vI 14]) hC mv_X12_wantWord wml_RX12_203 (k_X12_wantWord _ V hL 33 14 X10 (by decide)) cf_X12 (at_120 hL) (by decide) ⟨Nat.zero_le _, Nat.zero_le _⟩ rfl rfl ⟨Nat.le_of_ble_eq_true rfl, Nat.le_of_ble_eq_true rfl⟩ (Nat.le_of_ble_eq_true rfl) dX12_aBoat_74 (fun r11 X12 => ?_)
          refine g_if_eq (tgt := 117) hC dX12_aBoat_77 (by decide) ?_ ?_
          · refine g_iconst (v := vI 0) hC dX12_aBoat_117 rfl ?_
            exact g_zret1 hC hR (by decide) dX12_aBoat_118
          · refine g_aload_n (q := 0) hC dX12_aBoat_80 rfl rfl rfl ?_
            refine g_sipush (v := vI 1767) hC dX12_aBoat_81 rfl ?_
            refine g_iconst (v := vI 1) hC dX12_aBoat_84 rfl ?_
            refine g_bipush (v := vI 99) hC dX12_aBoat_85 rfl ?_
            refine g_callVI (As := [vI 1767, vI 1, vI 99]) hC mv_X12_number wml_RX12_207 (k_X12_number _ V hL 1767 1 99 X12) cf_X12 (at_120 hL) (by decide) ⟨Nat.zero_le _, Nat.zero_le _⟩ rfl rfl ⟨Nat.le_of_ble_eq_true rfl, Nat.le_of_ble_eq_true rfl⟩ (Nat.le_of_ble_eq_true rfl) dX12_aBoat_87 (fun r13 X14 => ?_)
            refine g_if_eq (tgt := 117) hC dX12_aBoat_90 (by decide) ?_ ?_
            · refine g_iconst (v := vI 0) hC dX12_aBoat_117 rfl ?_
              exact g_zret1 hC hR (by decide) dX12_aBoat_118
            · refine g_aload_n (q := 0) hC dX12_aBoat_93 rfl rfl rfl ?_
              refine g_ldcS (i := 33) hC (by decide) rfl dX12_aBoat_94 ?_
              refine g_bipush (v := vI 15) hC dX12_aBoat_96 rfl ?_
              refine g_callVI (As := [vS V 33, vI 15]) hC mv_X12_wantWord wml_RX12_203 (k_X12_wantWord _ V hL 33 15 X14 (by decide)) cf_X12 (at_120 hL) (by decide) ⟨Nat.zero_le _, Nat.zero_le _⟩ rfl rfl ⟨Nat.le_of_ble_eq_true rfl, Nat.le_of_ble_eq_true rfl⟩ (Nat.le_of_ble_eq_true rfl) dX12_aBoat_98 (fun r15 X16 => ?_)
              refine g_if_eq (tgt := 117) hC dX12_aBoat_101 (by decide) ?_ ?_
              · refine g_iconst (v := vI 0) hC dX12_aBoat_117 rfl ?_
                exact g_zret1 hC hR (by decide) dX12_aBoat_118
              · refine g_aload_n (q := 0) hC dX12_aBoat_104 rfl rfl rfl ?_
                refine g_sipush (v := vI 1768) hC dX12_aBoat_105 rfl ?_
                refine g_iconst (v := vI 1) hC dX12_aBoat_108 rfl ?_
                refine g_bipush (v := vI 99) hC dX12_aBoat_109 rfl ?_
                refine g_callVI (As := [vI 1768, vI 1, vI 99]) hC mv_X12_number wml_RX12_207 (k_X12_number _ V hL 1768 1 99 X16) cf_X12 (at_120 hL) (by decide) ⟨Nat.zero_le _, Nat.zero_le _⟩ rfl rfl ⟨Nat.le_of_ble_eq_true rfl, Nat.le_of_ble_eq_true rfl⟩ (Nat.le_of_ble_eq_true rfl) dX12_aBoat_111 (fun r17 X18 => ?_)
                refine g_if_ne (tgt := 119) hC dX12_aBoat_114 (by decide) ?_ ?_
                · refine g_aload_n (q := 0) hC dX12_aBoat_119 rfl rfl rfl ?_
                  refine g_ldcS (i := 33) hC (by decide) rfl dX12_aBoat_120 ?_
                  refine g_bipush (v := vI 16) hC dX12_aBoat_122 rfl ?_
                  refine g_callVI (As := [vS V 33, vI 16]) hC mv_X12_wantWord wml_RX12_203 (k_X12_wantWord _ V hL 33 16 X18 (by decide)) cf_X12 (at_120 hL) (by decide) ⟨Nat.zero_le _, Nat.zero_le _⟩ rfl rfl ⟨Nat.le_of_ble_eq_true rfl, Nat.le_of_ble_eq_true rfl⟩ (Nat.le_of_ble_eq_true rfl) dX12_aBoat_124 (fun r19 X20 => ?_)
                  refine g_if_eq (tgt := 172) hC dX12_aBoat_127 (by decide) ?_ ?_
                  · refine g_iconst (v := vI 0) hC dX12_aBoat_172 rfl ?_
                    exact g_zret1 hC hR (by decide) dX12_aBoat_173
                  · refine g_aload_n (q := 0) hC dX12_aBoat_130 rfl rfl rfl ?_
                    refine g_sipush (v := vI 1769) hC dX12_aBoat_131 rfl ?_
                    refine g_iconst (v := vI 0) hC dX12_aBoat_134 rfl ?_
                    refine g_bipush (v := vI 99) hC dX12_aBoat_135 rfl ?_
                    refine g_callVI (As := [vI 1769, vI 0, vI 99]) hC mv_X12_number wml_RX12_207 (k_X12_number _ V hL 1769 0 99 X20) cf_X12 (at_120 hL) (by decide) ⟨Nat.zero_le _, Nat.zero_le _⟩ rfl rfl ⟨Nat.le_of_ble_eq_true rfl, Nat.le_of_ble_eq_true rfl⟩ (Nat.le_of_ble_eq_true rfl) dX12_aBoat_137 (fun r21 X22 => ?_)
                    refine g_if_eq (tgt := 172) hC dX12_aBoat_140 (by decide) ?_ ?_
                    · refine g_iconst (v := vI 0) hC dX12_aBoat_172 rfl ?_
                      exact g_zret1 hC hR (by decide) dX12_aBoat_173
                    · refine g_aload_n (q := 0) hC dX12_aBoat_143 rfl rfl rfl ?_
                      refine g_ldcS (i := 33) hC (by decide) rfl dX12_aBoat_144 ?_
                      refine g_bipush (v := vI 17) hC dX12_aBoat_146 rfl ?_
                      refine g_callVI (As := [vS V 33, vI 17]) hC mv_X12_wantWord wml_RX12_203 (k_X12_wantWord _ V hL 33 17 X22 (by decide)) cf_X12 (at_120 hL) (by decide) ⟨Nat.zero_le _, Nat.zero_le _⟩ rfl rfl ⟨Nat.le_of_ble_eq_true rfl, Nat.le_of_ble_eq_true rfl⟩ (Nat.le_of_ble_eq_true rfl) dX12_aBoat_148 (fun r23 X24 => ?_)
                      refine g_if_eq (tgt := 172) hC dX12_aBoat_151 (by decide) ?_ ?_
                      · refine g_iconst (v := vI 0) hC dX12_aBoat_172 rfl ?_
                        exact g_zret1 hC hR (by decide) dX12_aBoat_173
                      · refine g_aload_n (q := 0) hC dX12_aBoat_154 rfl rfl rfl ?_
                        refine g_sipush (v := vI 1770) hC dX12_aBoat_155 rfl ?_
                        refine g_iconst (v := vI 0) hC dX12_aBoat_158 rfl ?_
                        refine g_sipush (v := vI 999) hC dX12_aBoat_159 rfl ?_
                        refine g_callVI (As := [vI 1770, vI 0, vI 999]) hC mv_X12_number wml_RX12_207 (k_X12_number _ V hL 1770 0 999 X24) cf_X12 (at_120 hL) (by decide) ⟨Nat.zero_le _, Nat.zero_le _⟩ rfl rfl ⟨Nat.le_of_ble_eq_true rfl, Nat.le_of_ble_eq_true rfl⟩ (Nat.le_of_ble_eq_true rfl) dX12_aBoat_162 (fun r25 X26 => ?_)
                        refine g_if_eq (tgt := 172) hC dX12_aBoat_165 (by decide) ?_ ?_
                        · refine g_iconst (v := vI 0) hC dX12_aBoat_172 rfl ?_
                          exact g_zret1 hC hR (by decide) dX12_aBoat_173
                        · refine g_iconst (v := vI 1) hC dX12_aBoat_168 rfl ?_
                          refine g_goto (tgt := 173) hC dX12_aBoat_169 (by decide) ?_
                          exact g_zret1 hC hR (by decide) dX12_aBoat_173
                · refine g_iconst (v := vI 0) hC dX12_aBoat_117 rfl ?_
                  exact g_zret1 hC hR (by decide) dX12_aBoat_118
        · refine g_iconst (v := vI 0) hC dX12_aBoat_67 rfl ?_
          exact g_zret1 hC hR (by decide) dX12_aBoat_68
    · refine g_iconst (v := vI 0) hC dX12_aBoat_28 rfl ?_
      exact g_zret1 hC hR (by decide) dX12_aBoat_29
def B_X12_riverPart_230 (x2 : Int) (X : Mem) : Option (Int × Mem) :=
  c1 x2 <| if x2 = 0 then
    some (0, X)
  else
    cl (f_X12_wantSign 59 X) fun r10 X11 =>
    c1 r10 <| if r10 = 0 then
      some (0, X11)
    else
      some (1, X11)
def B_X12_riverPart_213 (s0 : Int) (s1 : Int) (X : Mem) : Option (Int × Mem) :=
  cl (f_X12_number (s1 + s0) 0 16 X) fun r8 X9 =>
  B_X12_riverPart_230   r8 X9
def B_X12_riverPart_61 (x1 : Int) (X : Mem) : Option (Int × Mem) :=
  c1 x1 <|
  if x1 = 1 then
    cl (f_X12_aRow X) fun r46 X47 =>
    B_X12_riverPart_230   r46 X47
  else
  if x1 = 2 then
    cl (f_X12_aBar X) fun r44 X45 =>
    B_X12_riverPart_230   r44 X45
  else
  if x1 = 3 then
    cl (f_X12_fails 2 X) fun r42 X43 =>
    cz r42 (some (r42, X43))
  else
  if x1 = 4 then
    cl (f_X12_fails 2 X) fun r40 X41 =>
    cz r40 (some (r40, X41))
  else
  if x1 = 5 then
    cl (f_X12_fails 2 X) fun r38 X39 =>
    cz r38 (some (r38, X39))
  else
  if x1 = 6 then
    cl (f_X12_fails 2 X) fun r36 X37 =>
    cz r36 (some (r36, X37))
  else
  if x1 = 7 then
    cl (f_X12_someCells X) fun r34 X35 =>
    B_X12_riverPart_230   r34 X35
  else
  if x1 = 8 then
    cl (f_X12_fails 2 X) fun r32 X33 =>
    cz r32 (some (r32, X33))
  else
  if x1 = 9 then
    cl (f_X12_someStages X) fun r30 X31 =>
    B_X12_riverPart_230   r30 X31
  else
  if x1 = 10 then
    cl (f_X12_fails 2 X) fun r28 X29 =>
    cz r28 (some (r28, X29))
  else
  if x1 = 11 then
    cl (f_X12_aBoat X) fun r26 X27 =>
    B_X12_riverPart_230   r26 X27
  else
  if x1 = 12 then
    cl (f_X12_fails 2 X) fun r24 X25 =>
    cz r24 (some (r24, X25))
  else
  if x1 = 13 then
    cl (f_X12_fails 2 X) fun r22 X23 =>
    cz r22 (some (r22, X23))
  else
  if x1 = 14 then
    cl (f_X12_fails 2 X) fun r20 X21 =>
    cz r20 (some (r20, X21))
  else
  if x1 = 15 then
    cl (f_X12_fails 2 X) fun r18 X19 =>
    cz r18 (some (r18, X19))
  else
  if x1 = 16 then
    cl (f_X12_fails 2 X) fun r16 X17 =>
    cz r16 (some (r16, X17))
  else
  if x1 = 17 then
    cl (f_X12_fails 2 X) fun r14 X15 =>
    cz r14 (some (r14, X15))
  else
  if x1 = 18 then
    cl (f_X12_ahead X) fun _ X13 =>
    c2 x1 18 <| if ¬ x1 = 18 then
      B_X12_riverPart_213   12 1760 X13
    else
      B_X12_riverPart_213   11 1760 X13
  else
  if x1 = 19 then
    cl (f_X12_ahead X) fun _ X7 =>
    c2 x1 18 <| if ¬ x1 = 18 then
      B_X12_riverPart_213   12 1760 X7
    else
      B_X12_riverPart_213   11 1760 X7
  else
    cl (f_X12_fails 2 X) fun r4 X5 =>
    cz r4 (some (r4, X5))
def B_X12_riverPart_31 (x1 : Int) (X : Mem) : Option (Int × Mem) :=
  c2 (ia (ishr (X 120 19) x1) 1) 1 <| if ¬ (ia (ishr (X 120 19) x1) 1) = 1 then
    bd (ms X 120 19 (io (X 120 19) (ishl 1 x1))) fun X3 =>
    B_X12_riverPart_61   x1 X3
  else
    cl (f_X12_fails 5 X) fun r48 X49 =>
    cz r48 (some (r48, X49))
def f_X12_riverPart  (X : Mem) : Option (Int × Mem) :=
  cl (f_X12_inWords 33 X) fun r1 X2 =>
  c2 r1 9 <| if r1 = 9 then
    B_X12_riverPart_31   r1 X2
  else
    c2 r1 11 <| if r1 = 11 then
      B_X12_riverPart_31   r1 X2
    else
      c2 r1 18 <| if r1 = 18 then
        B_X12_riverPart_31   r1 X2
      else
        c2 r1 19 <| if ¬ r1 = 19 then
          B_X12_riverPart_61   r1 X2
        else
          B_X12_riverPart_31   r1 X2
set_option maxRecDepth 20000 in
theorem gB_X12_riverPart_230 {C : Cx} {V : Ev} {L : List Kd} (hC : Ok C V cX12_riverPart RX12 3 8 233) (hR : Rt C V L (some .boolean) rI) (hL : LKm L) (x2 : Int) (X : Mem)  : G C V L 0 0 3 230 [(0, vR V.1 120), (2, vI x2)] [] X (B_X12_riverPart_230   x2 X) := by
  unfold B_X12_riverPart_230
  refine g_iload_n (q := 1) hC dX12_riverPart_230 rfl rfl ?_
  refine g_if_eq (tgt := 247) hC dX12_riverPart_231 (by decide) ?_ ?_
  · refine g_iconst (v := vI 0) hC dX12_riverPart_247 rfl ?_
    exact g_zret1 hC hR (by decide) dX12_riverPart_248
  · refine g_aload_n (q := 0) hC dX12_riverPart_234 rfl rfl rfl ?_
    refine g_bipush (v := vI 59) hC dX12_riverPart_235 rfl ?_
    refine g_callVI (As := [vI 59]) hC mv_X12_wantSign wml_RX12_227 (k_X12_wantSign _ V hL 59 X) cf_X12 (at_120 hL) (by decide) ⟨Nat.zero_le _, Nat.zero_le _⟩ rfl rfl ⟨Nat.le_of_ble_eq_true rfl, Nat.le_of_ble_eq_true rfl⟩ (Nat.le_of_ble_eq_true rfl) dX12_riverPart_237 (fun r10 X11 => ?_)
    refine g_if_eq (tgt := 247) hC dX12_riverPart_240 (by decide) ?_ ?_
    · refine g_iconst (v := vI 0) hC dX12_riverPart_247 rfl ?_
      exact g_zret1 hC hR (by decide) dX12_riverPart_248
    · refine g_iconst (v := vI 1) hC dX12_riverPart_243 rfl ?_
      refine g_goto (tgt := 248) hC dX12_riverPart_244 (by decide) ?_
      exact g_zret1 hC hR (by decide) dX12_riverPart_248
set_option maxRecDepth 20000 in
theorem gB_X12_riverPart_213 {C : Cx} {V : Ev} {L : List Kd} (hC : Ok C V cX12_riverPart RX12 3 8 233) (hR : Rt C V L (some .boolean) rI) (hL : LKm L) (s0 : Int) (s1 : Int) (X : Mem)  : G C V L 0 0 3 213 [(0, vR V.1 120)] [vI s0, vI s1, vR V.1 120] X (B_X12_riverPart_213   s0 s1 X) := by
  unfold B_X12_riverPart_213
  refine g_iadd hC dX12_riverPart_213 ?_
  refine g_iconst (v := vI 0) hC dX12_riverPart_214 rfl ?_
  refine g_bipush (v := vI 16) hC dX12_riverPart_215 rfl ?_
  refine g_callVI (As := [vI (s1 + s0), vI 0, vI 16]) hC mv_X12_number wml_RX12_207 (k_X12_number _ V hL (s1 + s0) 0 16 X) cf_X12 (at_120 hL) (by decide) ⟨Nat.zero_le _, Nat.zero_le _⟩ rfl rfl ⟨Nat.le_of_ble_eq_true rfl, Nat.le_of_ble_eq_true rfl⟩ (Nat.le_of_ble_eq_true rfl) dX12_riverPart_217 (fun r8 X9 => ?_)
  refine g_istore_n hC dX12_riverPart_220 rfl (by decide) rfl ?_
  refine g_goto (tgt := 230) hC dX12_riverPart_221 (by decide) ?_
  refine g_sub [1, 0] rfl ?_
  exact gB_X12_riverPart_230 hC hR hL  r8 X9
set_option maxRecDepth 20000 in
theorem gB_X12_riverPart_61 {C : Cx} {V : Ev} {L : List Kd} (hC : Ok C V cX12_riverPart RX12 3 8 233) (hR : Rt C V L (some .boolean) rI) (hL : LKm L) (x1 : Int) (X : Mem)  : G C V L 0 0 3 61 [(0, vR V.1 120), (1, vI x1)] [] X (B_X12_riverPart_61   x1 X) := by
  unfold B_X12_riverPart_61
  refine g_iload_n (q := 1) hC dX12_riverPart_61 rfl rfl ?_
  refine g_c1 (fun hz => ?_)
  refine g_ite (fun hq0 => ?_) (fun hq0 => ?_)
  · refine g_tabIn (j := 0) (tgt := 152) hC dX12_riverPart_62 (by omega) rfl (by decide) (by decide) ?_
    refine g_aload_n (q := 0) hC dX12_riverPart_152 rfl rfl rfl ?_
    refine g_callVI (As := []) hC mv_X12_aRow wml_RX12_211 (k_X12_aRow _ V hL X) cf_X12 (at_120 hL) (by decide) ⟨Nat.zero_le _, Nat.zero_le _⟩ rfl rfl ⟨Nat.le_of_ble_eq_true rfl, Nat.le_of_ble_eq_true rfl⟩ (Nat.le_of_ble_eq_true rfl) dX12_riverPart_153 (fun r46 X47 => ?_)
    refine g_istore_n hC dX12_riverPart_156 rfl (by decide) rfl ?_
    refine g_goto (tgt := 230) hC dX12_riverPart_157 (by decide) ?_
    refine g_sub [1, 0] rfl ?_
    exact gB_X12_riverPart_230 hC hR hL  r46 X47
  · refine g_ite (fun hq1 => ?_) (fun hq1 => ?_)
    · refine g_tabIn (j := 1) (tgt := 160) hC dX12_riverPart_62 (by omega) rfl (by decide) (by decide) ?_
      refine g_aload_n (q := 0) hC dX12_riverPart_160 rfl rfl rfl ?_
      refine g_callVI (As := []) hC mv_X12_aBar wml_RX12_215 (k_X12_aBar _ V hL X) cf_X12 (at_120 hL) (by decide) ⟨Nat.zero_le _, Nat.zero_le _⟩ rfl rfl ⟨Nat.le_of_ble_eq_true rfl, Nat.le_of_ble_eq_true rfl⟩ (Nat.le_of_ble_eq_true rfl) dX12_riverPart_161 (fun r44 X45 => ?_)
      refine g_istore_n hC dX12_riverPart_164 rfl (by decide) rfl ?_
      refine g_goto (tgt := 230) hC dX12_riverPart_165 (by decide) ?_
      refine g_sub [1, 0] rfl ?_
      exact gB_X12_riverPart_230 hC hR hL  r44 X45
    · refine g_ite (fun hq2 => ?_) (fun hq2 => ?_)
      · refine g_tabIn (j := 2) (tgt := 224) hC dX12_riverPart_62 (by omega) rfl (by decide) (by decide) ?_
        refine g_aload_n (q := 0) hC dX12_riverPart_224 rfl rfl rfl ?_
        refine g_iconst (v := vI 2) hC dX12_riverPart_225 rfl ?_
        refine g_callVI (As := [vI 2]) hC mv_X12_fails wml_RX12_174 (k_X12_fails _ V hL 2 X) cf_X12 (at_120 hL) (by decide) ⟨Nat.zero_le _, Nat.zero_le _⟩ rfl rfl ⟨Nat.le_of_ble_eq_true rfl, Nat.le_of_ble_eq_true rfl⟩ (Nat.le_of_ble_eq_true rfl) dX12_riverPart_226 (fun r42 X43 => ?_)
        exact g_zret hC hR dX12_riverPart_229
      · refine g_ite (fun hq3 => ?_) (fun hq3 => ?_)
        · refine g_tabIn (j := 3) (tgt := 224) hC dX12_riverPart_62 (by omega) rfl (by decide) (by decide) ?_
          refine g_aload_n (q := 0) hC dX12_riverPart_224 rfl rfl rfl ?_
          refine g_iconst (v := vI 2) hC dX12_riverPart_225 rfl ?_
          refine g_callVI (As := [vI 2]) hC mv_X12_fails wml_RX12_174 (k_X12_fails _ V hL 2 X) cf_X12 (at_120 hL) (by decide) ⟨Nat.zero_le _, Nat.zero_le _⟩ rfl rfl ⟨Nat.le_of_ble_eq_true rfl, Nat.le_of_ble_eq_true rfl⟩ (Nat.le_of_ble_eq_true rfl) dX12_riverPart_226 (fun r40 X41 => ?_)
          exact g_zret hC hR dX12_riverPart_229
        · refine g_ite (fun hq4 => ?_) (fun hq4 => ?_)
          · refine g_tabIn (j := 4) (tgt := 224) hC dX12_riverPart_62 (by omega) rfl (by decide) (by decide) ?_
            refine g_aload_n (q := 0) hC dX12_riverPart_224 rfl rfl rfl ?_
            refine g_iconst (v := vI 2) hC dX12_riverPart_225 rfl ?_
            refine g_callVI (As := [vI 2]) hC mv_X12_fails wml_RX12_174 (k_X12_fails _ V hL 2 X) cf_X12 (at_120 hL) (by decide) ⟨Nat.zero_le _, Nat.zero_le _⟩ rfl rfl ⟨Nat.le_of_ble_eq_true rfl, Nat.le_of_ble_eq_true rfl⟩ (Nat.le_of_ble_eq_true rfl) dX12_riverPart_226 (fun r38 X39 => ?_)
            exact g_zret hC hR dX12_riverPart_229
          · refine g_ite (fun hq5 => ?_) (fun hq5 => ?_)
            · refine g_tabIn (j := 5) (tgt := 224) hC dX12_riverPart_62 (by omega) rfl (by decide) (by decide) ?_
              refine g_aload_n (q := 0) hC dX12_riverPart_224 rfl rfl rfl ?_
              refine g_iconst (v := vI 2) hC dX12_riverPart_225 rfl ?_
              refine g_callVI (As := [vI 2]) hC mv_X12_fails wml_RX12_174 (k_X12_fails _ V hL 2 X) cf_X12 (at_120 hL) (by decide) ⟨Nat.zero_le _, Nat.zero_le _⟩ rfl rfl ⟨Nat.le_of_ble_eq_true rfl, Nat.le_of_ble_eq_true rfl⟩ (Nat.le_of_ble_eq_true rfl) dX12_riverPart_226 (fun r36 X37 => ?_)
              exact g_zret hC hR dX12_riverPart_229
            · refine g_ite (fun hq6 => ?_) (fun hq6 => ?_)
              · refine g_tabIn (j := 6) (tgt := 168) hC dX12_riverPart_62 (by omega) rfl (by decide) (by decide) ?_
                refine g_aload_n (q := 0) hC dX12_riverPart_168 rfl rfl rfl ?_
                refine g_callVI (As := []) hC mv_X12_someCells wml_RX12_218 (k_X12_someCells _ V hL X) cf_X12 (at_120 hL) (by decide) ⟨Nat.zero_le _, Nat.zero_le _⟩ rfl rfl ⟨Nat.le_of_ble_eq_true rfl, Nat.le_of_ble_eq_true rfl⟩ (Nat.le_of_ble_eq_true rfl) dX12_riverPart_169 (fun r34 X35 => ?_)
                refine g_istore_n hC dX12_riverPart_172 rfl (by decide) rfl ?_
                refine g_goto (tgt := 230) hC dX12_riverPart_173 (by decide) ?_
                refine g_sub [1, 0] rfl ?_
                exact gB_X12_riverPart_230 hC hR hL  r34 X35
              · refine g_ite (fun hq7 => ?_) (fun hq7 => ?_)
                · refine g_tabIn (j := 7) (tgt := 224) hC dX12_riverPart_62 (by omega) rfl (by decide) (by decide) ?_
                  refine g_aload_n (q := 0) hC dX12_riverPart_224 rfl rfl rfl ?_
                  refine g_iconst (v := vI 2) hC dX12_riverPart_225 rfl ?_
                  refine g_callVI (As := [vI 2]) hC mv_X12_fails wml_RX12_174 (k_X12_fails _ V hL 2 X) cf_X12 (at_120 hL) (by decide) ⟨Nat.zero_le _, Nat.zero_le _⟩ rfl rfl ⟨Nat.le_of_ble_eq_true rfl, Nat.le_of_ble_eq_true rfl⟩ (Nat.le_of_ble_eq_true rfl) dX12_riverPart_226 (fun r32 X33 => ?_)
                  exact g_zret hC hR dX12_riverPart_229
                · refine g_ite (fun hq8 => ?_) (fun hq8 => ?_)
                  · refine g_tabIn (j := 8) (tgt := 176) hC dX12_riverPart_62 (by omega) rfl (by decide) (by decide) ?_
                    refine g_aload_n (q := 0) hC dX12_riverPart_176 rfl rfl rfl ?_
                    refine g_callVI (As := []) hC mv_X12_someStages wml_RX12_221 (k_X12_someStages _ V hL X) cf_X12 (at_120 hL) (by decide) ⟨Nat.zero_le _, Nat.zero_le _⟩ rfl rfl ⟨Nat.le_of_ble_eq_true rfl, Nat.le_of_ble_eq_true rfl⟩ (Nat.le_of_ble_eq_true rfl) dX12_riverPart_177 (fun r30 X31 => ?_)
                    refine g_istore_n hC dX12_riverPart_180 rfl (by decide) rfl ?_
                    refine g_goto (tgt := 230) hC dX12_riverPart_181 (by decide) ?_
                    refine g_sub [1, 0] rfl ?_
                    exact gB_X12_riverPart_230 hC hR hL  r30 X31
                  · refine g_ite (fun hq9 => ?_) (fun hq9 => ?_)
                    · refine g_tabIn (j := 9) (tgt := 224) hC dX12_riverPart_62 (by omega) rfl (by decide) (by decide) ?_
                      refine g_aload_n (q := 0) hC dX12_riverPart_224 rfl rfl rfl ?_
                      refine g_iconst (v := vI 2) hC dX12_riverPart_225 rfl ?_
                      refine g_callVI (As := [vI 2]) hC mv_X12_fails wml_RX12_174 (k_X12_fails _ V hL 2 X) cf_X12 (at_120 hL) (by decide) ⟨Nat.zero_le _, Nat.zero_le _⟩ rfl rfl ⟨Nat.le_of_ble_eq_true rfl, Nat.le_of_ble_eq_true rfl⟩ (Nat.le_of_ble_eq_true rfl) dX12_riverPart_226 (fun r28 X29 => ?_)
                      exact g_zret hC hR dX12_riverPart_229
                    · refine g_ite (fun hq10 => ?_) (fun hq10 => ?_)
                      · refine g_tabIn (j := 10) (tgt := 184) hC dX12_riverPart_62 (by omega) rfl (by decide) (by decide) ?_
                        refine g_aload_n (q := 0) hC dX12_riverPart_184 rfl rfl rfl ?_
                        refine g_callVI (As := []) hC mv_X12_aBoat wml_RX12_224 (k_X12_aBoat _ V hL X) cf_X12 (at_120 hL) (by decide) ⟨Nat.zero_le _, Nat.zero_le _⟩ rfl rfl ⟨Nat.le_of_ble_eq_true rfl, Nat.le_of_ble_eq_true rfl⟩ (Nat.le_of_ble_eq_true rfl) dX12_riverPart_185 (fun r26 X27 => ?_)
                        refine g_istore_n hC dX12_riverPart_188 rfl (by decide) rfl ?_
                        refine g_goto (tgt := 230) hC dX12_riverPart_189 (by decide) ?_
                        refine g_sub [1, 0] rfl ?_
                        exact gB_X12_riverPart_230 hC hR hL  r26 X27
                      · refine g_ite (fun hq11 => ?_) (fun hq11 => ?_)
                        · refine g_tabIn (j := 11) (tgt := 224) hC dX12_riverPart_62 (by omega) rfl (by decide) (by decide) ?_
                          refine g_aload_n (q := 0) hC dX12_riverPart_224 rfl rfl rfl ?_
                          refine g_iconst (v := vI 2) hC dX12_riverPart_225 rfl ?_
                          refine g_callVI (As := [vI 2]) hC mv_X12_fails wml_RX12_174 (k_X12_fails _ V hL 2 X) cf_X12 (at_120 hL) (by decide) ⟨Nat.zero_le _, Nat.zero_le _⟩ rfl rfl ⟨Nat.le_of_ble_eq_true rfl, Nat.le_of_ble_eq_true rfl⟩ (Nat.le_of_ble_eq_true rfl) dX12_riverPart_226 (fun r24 X25 => ?_)
                          exact g_zret hC hR dX12_riverPart_229
                        · refine g_ite (fun hq12 => ?_) (fun hq12 => ?_)
                          · refine g_tabIn (j := 12) (tgt := 224) hC dX12_riverPart_62 (by omega) rfl (by decide) (by decide) ?_
                            refine g_aload_n (q := 0) hC dX12_riverPart_224 rfl rfl rfl ?_
                            refine g_iconst (v := vI 2) hC dX12_riverPart_225 rfl ?_
                            refine g_callVI (As := [vI 2]) hC mv_X12_fails wml_RX12_174 (k_X12_fails _ V hL 2 X) cf_X12 (at_120 hL) (by decide) ⟨Nat.zero_le _, Nat.zero_le _⟩ rfl rfl ⟨Nat.le_of_ble_eq_true rfl, Nat.le_of_ble_eq_true rfl⟩ (Nat.le_of_ble_eq_true rfl) dX12_riverPart_226 (fun r22 X23 => ?_)
                            exact g_zret hC hR dX12_riverPart_229
                          · refine g_ite (fun hq13 => ?_) (fun hq13 => ?_)
                            · refine g_tabIn (j := 13) (tgt := 224) hC dX12_riverPart_62 (by omega) rfl (by decide) (by decide) ?_
                              refine g_aload_n (q := 0) hC dX12_riverPart_224 rfl rfl rfl ?_
                              refine g_iconst (v := vI 2) hC dX12_riverPart_225 rfl ?_
                              refine g_callVI (As := [vI 2]) hC mv_X12_fails wml_RX12_174 (k_X12_fails _ V hL 2 X) cf_X12 (at_120 hL) (by decide) ⟨Nat.zero_le _, Nat.zero_le _⟩ rfl rfl ⟨Nat.le_of_ble_eq_true rfl, Nat.le_of_ble_eq_true rfl⟩ (Nat.le_of_ble_eq_true rfl) dX12_riverPart_226 (fun r20 X21 => ?_)
                              exact g_zret hC hR dX12_riverPart_229
                            · refine g_ite (fun hq14 => ?_) (fun hq14 => ?_)
                              · refine g_tabIn (j := 14) (tgt := 224) hC dX12_riverPart_62 (by omega) rfl (by decide) (by decide) ?_
                                refine g_aload_n (q := 0) hC dX12_riverPart_224 rfl rfl rfl ?_
                                refine g_iconst (v := vI 2) hC dX12_riverPart_225 rfl ?_
                                refine g_callVI (As := [vI 2]) hC mv_X12_fails wml_RX12_174 (k_X12_fails _ V hL 2 X) cf_X12 (at_120 hL) (by decide) ⟨Nat.zero_le _, Nat.zero_le _⟩ rfl rfl ⟨Nat.le_of_ble_eq_true rfl, Nat.le_of_ble_eq_true rfl⟩ (Nat.le_of_ble_eq_true rfl) dX12_riverPart_226 (fun r18 X19 => ?_)
                                exact g_zret hC hR dX12_riverPart_229
                              · refine g_ite (fun hq15 => ?_) (fun hq15 => ?_)
                                · refine g_tabIn (j := 15) (tgt := 224) hC dX12_riverPart_62 (by omega) rfl (by decide) (by decide) ?_
                                  refine g_aload_n (q := 0) hC dX12_riverPart_224 rfl rfl rfl ?_
                                  refine g_iconst (v := vI 2) hC dX12_riverPart_225 rfl ?_
                                  refine g_callVI (As := [vI 2]) hC mv_X12_fails wml_RX12_174 (k_X12_fails _ V hL 2 X) cf_X12 (at_120 hL) (by decide) ⟨Nat.zero_le _, Nat.zero_le _⟩ rfl rfl ⟨Nat.le_of_ble_eq_true rfl, Nat.le_of_ble_eq_true rfl⟩ (Nat.le_of_ble_eq_true rfl) dX12_riverPart_226 (fun r16 X17 => ?_)
                                  exact g_zret hC hR dX12_riverPart_229
                                · refine g_ite (fun hq16 => ?_) (fun hq16 => ?_)
                                  · refine g_tabIn (j := 16) (tgt := 224) hC dX12_riverPart_62 (by omega) rfl (by decide) (by decide) ?_
                                    refine g_aload_n (q := 0) hC dX12_riverPart_224 rfl rfl rfl ?_
                                    refine g_iconst (v := vI 2) hC dX12_riverPart_225 rfl ?_
                                    refine g_callVI (As := [vI 2]) hC mv_X12_fails wml_RX12_174 (k_X12_fails _ V hL 2 X) cf_X12 (at_120 hL) (by decide) ⟨Nat.zero_le _, Nat.zero_le _⟩ rfl rfl ⟨Nat.le_of_ble_eq_true rfl, Nat.le_of_ble_eq_true rfl⟩ (Nat.le_of_ble_eq_true rfl) dX12_riverPart_226 (fun r14 X15 => ?_)
                                    exact g_zret hC hR dX12_riverPart_229
                                  · refine g_ite (fun hq17 => ?_) (fun hq17 => ?_)
                                    · refine g_tabIn (j := 17) (tgt := 192) hC dX12_riverPart_62 (by omega) rfl (by decide) (by decide) ?_
                                      refine g_aload_n (q := 0) hC dX12_riverPart_192 rfl rfl rfl ?_
                                      refine g_callVV (As := []) hC mv_X12_ahead wml_RX12_168 (k_X12_ahead _ V hL X) cf_X12 (at_120 hL) (by decide) ⟨Nat.zero_le _, Nat.zero_le _⟩ rfl rfl ⟨Nat.le_of_ble_eq_true rfl, Nat.le_of_ble_eq_true rfl⟩ (Nat.le_of_ble_eq_true rfl) dX12_riverPart_193 (fun _ X13 => ?_)
                                      refine g_aload_n (q := 0) hC dX12_riverPart_196 rfl rfl rfl ?_
                                      refine g_sipush (v := vI 1760) hC dX12_riverPart_197 rfl ?_
                                      refine g_iload_n (q := 1) hC dX12_riverPart_200 rfl rfl ?_
                                      refine g_bipush (v := vI 18) hC dX12_riverPart_201 rfl ?_
                                      refine g_icmp_ne (tgt := 211) hC dX12_riverPart_203 (by decide) ?_ ?_
                                      · refine g_bipush (v := vI 12) hC dX12_riverPart_211 rfl ?_
                                        refine g_sub [0] rfl ?_
                                        exact gB_X12_riverPart_213 hC hR hL  12 1760 X13
                                      · refine g_bipush (v := vI 11) hC dX12_riverPart_206 rfl ?_
                                        refine g_goto (tgt := 213) hC dX12_riverPart_208 (by decide) ?_
                                        refine g_sub [0] rfl ?_
                                        exact gB_X12_riverPart_213 hC hR hL  11 1760 X13
                                    · refine g_ite (fun hq18 => ?_) (fun hq18 => ?_)
                                      · refine g_tabIn (j := 18) (tgt := 192) hC dX12_riverPart_62 (by omega) rfl (by decide) (by decide) ?_
                                        refine g_aload_n (q := 0) hC dX12_riverPart_192 rfl rfl rfl ?_
                                        refine g_callVV (As := []) hC mv_X12_ahead wml_RX12_168 (k_X12_ahead _ V hL X) cf_X12 (at_120 hL) (by decide) ⟨Nat.zero_le _, Nat.zero_le _⟩ rfl rfl ⟨Nat.le_of_ble_eq_true rfl, Nat.le_of_ble_eq_true rfl⟩ (Nat.le_of_ble_eq_true rfl) dX12_riverPart_193 (fun _ X7 => ?_)
                                        refine g_aload_n (q := 0) hC dX12_riverPart_196 rfl rfl rfl ?_
                                        refine g_sipush (v := vI 1760) hC dX12_riverPart_197 rfl ?_
                                        refine g_iload_n (q := 1) hC dX12_riverPart_200 rfl rfl ?_
                                        refine g_bipush (v := vI 18) hC dX12_riverPart_201 rfl ?_
                                        refine g_icmp_ne (tgt := 211) hC dX12_riverPart_203 (by decide) ?_ ?_
                                        · refine g_bipush (v := vI 12) hC dX12_riverPart_211 rfl ?_
                                          refine g_sub [0] rfl ?_
                                          exact gB_X12_riverPart_213 hC hR hL  12 1760 X7
                                        · refine g_bipush (v := vI 11) hC dX12_riverPart_206 rfl ?_
                                          refine g_goto (tgt := 213) hC dX12_riverPart_208 (by decide) ?_
                                          refine g_sub [0] rfl ?_
                                          exact gB_X12_riverPart_213 hC hR hL  11 1760 X7
                                      · refine g_tabOut (tgt := 224) hC dX12_riverPart_62 hz (by omega) (by decide) ?_
                                        refine g_aload_n (q := 0) hC dX12_riverPart_224 rfl rfl rfl ?_
                                        refine g_iconst (v := vI 2) hC dX12_riverPart_225 rfl ?_
                                        refine g_callVI (As := [vI 2]) hC mv_X12_fails wml_RX12_174 (k_X12_fails _ V hL 2 X) cf_X12 (at_120 hL) (by decide) ⟨Nat.zero_le _, Nat.zero_le _⟩ rfl rfl ⟨Nat.le_of_ble_eq_true rfl, Nat.le_of_ble_eq_true rfl⟩ (Nat.le_of_ble_eq_true rfl) dX12_riverPart_226 (fun r4 X5 => ?_)
                                        exact g_zret hC hR dX12_riverPart_229
set_option maxRecDepth 20000 in
theorem gB_X12_riverPart_31 {C : Cx} {V : Ev} {L : List Kd} (hC : Ok C V cX12_riverPart RX12 3 8 233) (hR : Rt C V L (some .boolean) rI) (hL : LKm L) (x1 : Int) (X : Mem)  : G C V L 0 0 3 31 [(0, vR V.1 120), (1, vI x1)] [] X (B_X12_riverPart_31   x1 X) := by
  unfold B_X12_riverPart_31
  refine g_aload_n (q := 0) hC dX12_riverPart_31 rfl rfl rfl ?_
  refine g_getI (k := 19) (kz := 19) hC cf_X12 (at_120 hL) (by decide) rfl (by decide) rfl wf_RX12_165 dX12_riverPart_32 ?_
  refine g_iload_n (q := 1) hC dX12_riverPart_35 rfl rfl ?_
  refine g_ishr hC dX12_riverPart_36 ?_
  refine g_iconst (v := vI 1) hC dX12_riverPart_37 rfl ?_
  refine g_iand hC dX12_riverPart_38 ?_
  refine g_iconst (v := vI 1) hC dX12_riverPart_39 rfl ?_
  refine g_icmp_ne (tgt := 49) hC dX12_riverPart_40 (by decide) ?_ ?_
  · refine g_aload_n (q := 0) hC dX12_riverPart_49 rfl rfl rfl ?_
    refine g_dup hC dX12_riverPart_50 rfl ?_
    refine g_getI (k := 19) (kz := 19) hC cf_X12 (at_120 hL) (by decide) rfl (by decide) rfl wf_RX12_165 dX12_riverPart_51 ?_
    refine g_iconst (v := vI 1) hC dX12_riverPart_54 rfl ?_
    refine g_iload_n (q := 1) hC dX12_riverPart_55 rfl rfl ?_
    refine g_ishl hC dX12_riverPart_56 ?_
    refine g_ior hC dX12_riverPart_57 ?_
    refine g_putI (k := 19) (kz := 19) hC cf_X12 (at_120 hL) (by decide) rfl (by decide) rfl wf_RX12_165 rfl rfl dX12_riverPart_58 (fun X3 => ?_)
    exact gB_X12_riverPart_61 hC hR hL  x1 X3
  · refine g_aload_n (q := 0) hC dX12_riverPart_43 rfl rfl rfl ?_
    refine g_iconst (v := vI 5) hC dX12_riverPart_44 rfl ?_
    refine g_callVI (As := [vI 5]) hC mv_X12_fails wml_RX12_174 (k_X12_fails _ V hL 5 X) cf_X12 (at_120 hL) (by decide) ⟨Nat.zero_le _, Nat.zero_le _⟩ rfl rfl ⟨Nat.le_of_ble_eq_true rfl, Nat.le_of_ble_eq_true rfl⟩ (Nat.le_of_ble_eq_true rfl) dX12_riverPart_45 (fun r48 X49 => ?_)
    exact g_zret hC hR dX12_riverPart_48
set_option maxRecDepth 20000 in
theorem k_X12_riverPart (l : Launch) (V : Ev) {L : List Kd} (hL : LKm L)  (X : Mem)  : Kt l V L yX12_riverPart (.code yX12_riverPart cX12_riverPart 3 (some .boolean)) 8 233 [vR V.1 120] rI X (f_X12_riverPart  X) := by
  refine kt_of (own := RX12) (lv0 := [(0, vR V.1 120)]) (by decide) rfl (Nat.le_of_ble_eq_true rfl) rfl (fun C hCl hC hR => ?_)
  subst hCl
  unfold f_X12_riverPart
  refine g_aload_n (q := 0) hC dX12_riverPart_0 rfl rfl rfl ?_
  refine g_ldcS (i := 33) hC (by decide) rfl dX12_riverPart_1 ?_
  refine g_callVI (As := [vS V 33]) hC mv_X12_inWords wml_RX12_177 (k_X12_inWords _ V hL 33 X (by decide)) cf_X12 (at_120 hL) (by decide) ⟨Nat.zero_le _, Nat.zero_le _⟩ rfl rfl ⟨Nat.le_of_ble_eq_true rfl, Nat.le_of_ble_eq_true rfl⟩ (Nat.le_of_ble_eq_true rfl) dX12_riverPart_3 (fun r1 X2 => ?_)
  refine g_istore_n hC dX12_riverPart_6 rfl (by decide) rfl ?_
  refine g_iload_n (q := 0) hC dX12_riverPart_7 rfl rfl ?_
  refine g_bipush (v := vI 9) hC dX12_riverPart_8 rfl ?_
  refine g_icmp_eq (tgt := 31) hC dX12_riverPart_10 (by decide) ?_ ?_
  · refine g_sub [1, 0] rfl ?_
    exact gB_X12_riverPart_31 hC hR hL  r1 X2
  · refine g_iload_n (q := 0) hC dX12_riverPart_13 rfl rfl ?_
    refine g_bipush (v := vI 11) hC dX12_riverPart_14 rfl ?_
    refine g_icmp_eq (tgt := 31) hC dX12_riverPart_16 (by decide) ?_ ?_
    · refine g_sub [1, 0] rfl ?_
      exact gB_X12_riverPart_31 hC hR hL  r1 X2
    · refine g_iload_n (q := 0) hC dX12_riverPart_19 rfl rfl ?_
      refine g_bipush (v := vI 18) hC dX12_riverPart_20 rfl ?_
      refine g_icmp_eq (tgt := 31) hC dX12_riverPart_22 (by decide) ?_ ?_
      · refine g_sub [1, 0] rfl ?_
        exact gB_X12_riverPart_31 hC hR hL  r1 X2
      · refine g_iload_n (q := 0) hC dX12_riverPart_25 rfl rfl ?_
        refine g_bipush (v := vI 19) hC dX12_riverPart_26 rfl ?_
        refine g_icmp_ne (tgt := 61) hC dX12_riverPart_28 (by decide) ?_ ?_
        · refine g_sub [1, 0] rfl ?_
          exact gB_X12_riverPart_61 hC hR hL  r1 X2
        · refine g_sub [1, 0] rfl ?_
          exact gB_X12_riverPart_31 hC hR hL  r1 X2
def f_X12_sets  (X : Mem) : Option (Int × Mem) :=
  ax 2200 2 <|
  some (ishl 1 (X 121 2), X)
set_option maxRecDepth 20000 in
theorem k_X12_sets (l : Launch) (V : Ev) {L : List Kd} (hL : LKm L)  (X : Mem)  : Kt l V L yX12_sets (.code yX12_sets cX12_sets 1 (some .int)) 0 0 [vR V.1 120] rI X (f_X12_sets  X) := by
  refine kt_of (own := RX12) (lv0 := [(0, vR V.1 120)]) (by decide) rfl (Nat.le_of_ble_eq_true rfl) rfl (fun C hCl hC hR => ?_)
  subst hCl
  unfold f_X12_sets
  refine g_iconst (v := vI 1) hC dX12_sets_0 rfl ?_
  refine g_aload_n (q := 0) hC dX12_sets_1 rfl rfl rfl ?_
  refine g_getS (k := 0) hC cf_X12 (at_120 hL) (by decide) rfl (by decide) (by decide) wf_RX12_7 dX12_sets_2 ?_
  refine g_iconst (v := vI 2) hC dX12_sets_5 rfl ?_
  refine g_iald hC (at_121 hL) (by decide) dX12_sets_6 ?_
  refine g_ishl hC dX12_sets_7 ?_
  exact g_iret hC hR dX12_sets_8
def f_X12_ofBar (p1 : Int) (p2 : Int) (X : Mem) : Option (Int × Mem) :=
  ax 2200 ((28 + (4 * p1)) + p2) <|
  some (X 121 ((28 + (4 * p1)) + p2), X)
set_option maxRecDepth 20000 in
theorem k_X12_ofBar (l : Launch) (V : Ev) {L : List Kd} (hL : LKm L) (p1 : Int) (p2 : Int) (X : Mem)  : Kt l V L yX12_ofBar (.code yX12_ofBar cX12_ofBar 3 (some .int)) 0 0 [vR V.1 120, vI p1, vI p2] rI X (f_X12_ofBar p1 p2 X) := by
  refine kt_of (own := RX12) (lv0 := [(0, vR V.1 120), (1, vI p1), (2, vI p2)]) (by decide) rfl (Nat.le_of_ble_eq_true rfl) rfl (fun C hCl hC hR => ?_)
  subst hCl
  unfold f_X12_ofBar
  refine g_aload_n (q := 0) hC dX12_ofBar_0 rfl rfl rfl ?_
  refine g_getS (k := 0) hC cf_X12 (at_120 hL) (by decide) rfl (by decide) (by decide) wf_RX12_7 dX12_ofBar_1 ?_
  refine g_bipush (v := vI 28) hC dX12_ofBar_4 rfl ?_
  refine g_iconst (v := vI 4) hC dX12_ofBar_6 rfl ?_
  refine g_iload_n (q := 1) hC dX12_ofBar_7 rfl rfl ?_
  refine g_imul hC dX12_ofBar_8 ?_
  refine g_iadd hC dX12_ofBar_9 ?_
  refine g_iload_n (q := 2) hC dX12_ofBar_10 rfl rfl ?_
  refine g_iadd hC dX12_ofBar_11 ?_
  refine g_iald hC (at_121 hL) (by decide) dX12_ofBar_12 ?_
  exact g_iret hC hR dX12_ofBar_13
def B_X12_sharesOut_127 (x3 : Int) (x4 : Int) (X : Mem) : Option (Int × Mem) :=
  ax 2200 (168 + x3) <|
  ax 2200 (168 + x3) <| bd (ms X 121 (168 + x3) ((X 121 (168 + x3)) + x4)) fun X5 =>
  some (1, X5)
def L_X12_sharesOut_71 : Nat → Int → Int → Int → Int → Mem → Option (Int × Mem)
  | 0, _, _, _, _, _ => none
  | n + 1, x1, x3, x4, x5, X =>
    cl (f_X12_sets X) fun r3 X4 =>
    c2 x5 r3 <| if r3 ≤ x5 then
      B_X12_sharesOut_127   x3 x4 X4
    else
      ax 32 x5 <|
      dd (1000000 * (X4 130 x5)) x1 <|
      ax 2200 (168 + x5) <| bd (ms X4 121 (168 + x5) ((1000000 * (X4 130 x5)) / x1)) fun X6 =>
      ax 2200 (168 + x5) <|
      bd (x4 - (X6 121 (168 + x5))) fun v7 =>
      L_X12_sharesOut_71   n x1 x3 v7 (x5 + 1) X6
def B_X12_sharesOut_56 (x1 : Int) (x3 : Int) (X : Mem) : Option (Int × Mem) :=
  d2 x1 0 <| if ¬ x1 = 0 then
    L_X12_sharesOut_71   KF x1 x3 1000000 0 X
  else
    some (0, X)
def B_X12_sharesOut_49 (go7 : Int → Int → Int → Mem → Option (Int × Mem)) (x1 : Int) (x4 : Int) (s0 : Int) (X : Mem) : Option (Int × Mem) :=
  go7 x1 s0 (x4 + 1) X
def L_X12_sharesOut_7 : Nat → Int → Int → Int → Mem → Option (Int × Mem)
  | 0, _, _, _, _ => none
  | n + 1, x1, x3, x4, X =>
    cl (f_X12_sets X) fun r1 X2 =>
    c2 x4 r1 <| if r1 ≤ x4 then
      B_X12_sharesOut_56   x1 x3 X2
    else
      ax 32 x4 <|
      bd (x1 + (X2 130 x4)) fun v8 =>
      ax 32 x4 <|
      ax 32 x3 <|
      d2 (X2 130 x4) (X2 130 x3) <| if (X2 130 x4) ≤ (X2 130 x3) then
        B_X12_sharesOut_49  (fun x1 x3 x4 X => L_X12_sharesOut_7   n x1 x3 x4 X) v8 x4 x3 X2
      else
        B_X12_sharesOut_49  (fun x1 x3 x4 X => L_X12_sharesOut_7   n x1 x3 x4 X) v8 x4 x4 X2
def f_X12_sharesOut  (X : Mem) : Option (Int × Mem) :=
  L_X12_sharesOut_7   KF 0 0 0 X
set_option maxRecDepth 20000 in
theorem gB_X12_sharesOut_127 {C : Cx} {V : Ev} {L : List Kd} (hC : Ok C V cX12_sharesOut RX12 6 1 20) (hR : Rt C V L (some .boolean) rI) (hL : LKm L) (x3 : Int) (x4 : Int) (X : Mem)  : G C V L 0 0 6 127 [(0, vR V.1 120), (3, vI x3), (4, vI x4)] [] X (B_X12_sharesOut_127   x3 x4 X) := by
  unfold B_X12_sharesOut_127
  refine g_aload_n (q := 0) hC dX12_sharesOut_127 rfl rfl rfl ?_
  refine g_getS (k := 0) hC cf_X12 (at_120 hL) (by decide) rfl (by decide) (by decide) wf_RX12_7 dX12_sharesOut_128 ?_
  refine g_sipush (v := vI 168) hC dX12_sharesOut_131 rfl ?_
  refine g_iload_n (q := 1) hC dX12_sharesOut_134 rfl rfl ?_
  refine g_iadd hC dX12_sharesOut_135 ?_
  refine g_dup2 hC dX12_sharesOut_136 rfl rfl ?_
  refine g_iald hC (at_121 hL) (by decide) dX12_sharesOut_137 ?_
  refine g_iload (q := 2) hC dX12_sharesOut_138 rfl ?_
  refine g_iadd hC dX12_sharesOut_140 ?_
  refine g_iast hC (at_121 hL) (by decide) dX12_sharesOut_141 (fun X5 => ?_)
  refine g_iconst (v := vI 1) hC dX12_sharesOut_142 rfl ?_
  exact g_zret1 hC hR (by decide) dX12_sharesOut_143
set_option maxRecDepth 20000 in
theorem gL_X12_sharesOut_71 {C : Cx} {V : Ev} {L : List Kd} (hC : Ok C V cX12_sharesOut RX12 6 1 20) (hR : Rt C V L (some .boolean) rI) (hL : LKm L) : ∀ (n : Nat) (x1 : Int) (x3 : Int) (x4 : Int) (x5 : Int) (X : Mem), G C V L 0 0 6 71 [(0, vR V.1 120), (1, vJ x1), (3, vI x3), (4, vI x4), (5, vI x5)] [] X (L_X12_sharesOut_71   n x1 x3 x4 x5 X) := by
  intro n
  induction n with
  | zero => intro x1 x3 x4 x5 X; exact g_none
  | succ n ih =>
    intro x1 x3 x4 x5 X
    rw [L_X12_sharesOut_71]
    refine g_iload (q := 4) hC dX12_sharesOut_71 rfl ?_
    refine g_aload_n (q := 0) hC dX12_sharesOut_73 rfl rfl rfl ?_
    refine g_callVI (As := []) hC mv_X12_sets wml_RX12_263 (k_X12_sets _ V hL X) cf_X12 (at_120 hL) (by decide) ⟨Nat.zero_le _, Nat.zero_le _⟩ rfl rfl ⟨Nat.le_of_ble_eq_true rfl, Nat.le_of_ble_eq_true rfl⟩ (Nat.le_of_ble_eq_true rfl) dX12_sharesOut_74 (fun r3 X4 => ?_)
    refine g_icmp_ge (tgt := 127) hC dX12_sharesOut_77 (by decide) ?_ ?_
    · refine g_sub [0, 2, 3] rfl ?_
      exact gB_X12_sharesOut_127 hC hR hL  x3 x4 X4
    · refine g_aload_n (q := 0) hC dX12_sharesOut_80 rfl rfl rfl ?_
      refine g_getS (k := 0) hC cf_X12 (at_120 hL) (by decide) rfl (by decide) (by decide) wf_RX12_7 dX12_sharesOut_81 ?_
      refine g_sipush (v := vI 168) hC dX12_sharesOut_84 rfl ?_
      refine g_iload (q := 4) hC dX12_sharesOut_87 rfl ?_
      refine g_iadd hC dX12_sharesOut_89 ?_
      refine g_ldc2 (n := 1000000) hC wk_RX12_300 rfl dX12_sharesOut_90 ?_
      refine g_aload_n (q := 0) hC dX12_sharesOut_93 rfl rfl rfl ?_
      refine g_getS (k := 26) hC cf_X12 (at_120 hL) (by decide) rfl (by decide) (by decide) wf_RX12_50 dX12_sharesOut_94 ?_
      refine g_iload (q := 4) hC dX12_sharesOut_97 rfl ?_
      refine g_lald hC (at_130 hL) (by decide) dX12_sharesOut_99 ?_
      refine g_lmul hC dX12_sharesOut_100 ?_
      refine g_lload_n (q := 1) hC dX12_sharesOut_101 rfl rfl ?_
      refine g_ldiv hC dX12_sharesOut_102 ?_
      refine g_l2i hC dX12_sharesOut_103 ?_
      refine g_iast hC (at_121 hL) (by decide) dX12_sharesOut_104 (fun X6 => ?_)
      refine g_iload (q := 3) hC dX12_sharesOut_105 rfl ?_
      refine g_aload_n (q := 0) hC dX12_sharesOut_107 rfl rfl rfl ?_
      refine g_getS (k := 0) hC cf_X12 (at_120 hL) (by decide) rfl (by decide) (by decide) wf_RX12_7 dX12_sharesOut_108 ?_
      refine g_sipush (v := vI 168) hC dX12_sharesOut_111 rfl ?_
      refine g_iload (q := 4) hC dX12_sharesOut_114 rfl ?_
      refine g_iadd hC dX12_sharesOut_116 ?_
      refine g_iald hC (at_121 hL) (by decide) dX12_sharesOut_117 ?_
      refine g_isub hC dX12_sharesOut_118 ?_
      refine g_topI (fun v7 => ?_)
      refine g_istore hC dX12_sharesOut_119 (by decide) rfl ?_
      refine g_iinc (q := 4) hC dX12_sharesOut_121 rfl (by decide) rfl ?_
      refine g_goto (tgt := 71) hC dX12_sharesOut_124 (by decide) ?_
      refine g_sub [2, 3, 4, 1, 0] rfl ?_
      exact ih x1 x3 v7 (x5 + 1) X6
set_option maxRecDepth 20000 in
theorem gB_X12_sharesOut_56 {C : Cx} {V : Ev} {L : List Kd} (hC : Ok C V cX12_sharesOut RX12 6 1 20) (hR : Rt C V L (some .boolean) rI) (hL : LKm L) (x1 : Int) (x3 : Int) (X : Mem)  : G C V L 0 0 6 56 [(0, vR V.1 120), (1, vJ x1), (3, vI x3)] [] X (B_X12_sharesOut_56   x1 x3 X) := by
  unfold B_X12_sharesOut_56
  refine g_lload_n (q := 1) hC dX12_sharesOut_56 rfl rfl ?_
  refine g_lconst (v := vJ 0) hC dX12_sharesOut_57 rfl ?_
  refine g_lcmp_ne (tgt := 64) hC dX12_sharesOut_58 rfl dX12_sharesOut_59 (by decide) ?_ ?_
  · refine g_ldc (n := 1000000) hC wk_RX12_91 rfl dX12_sharesOut_64 ?_
    refine g_istore hC dX12_sharesOut_66 (by decide) rfl ?_
    refine g_iconst (v := vI 0) hC dX12_sharesOut_68 rfl ?_
    refine g_istore hC dX12_sharesOut_69 (by decide) rfl ?_
    refine g_sub [2, 3, 4, 1, 0] rfl ?_
    exact gL_X12_sharesOut_71 hC hR hL  KF x1 x3 1000000 0 X
  · refine g_iconst (v := vI 0) hC dX12_sharesOut_62 rfl ?_
    exact g_zret1 hC hR (by decide) dX12_sharesOut_63
set_option maxRecDepth 20000 in
theorem gB_X12_sharesOut_49 {C : Cx} {V : Ev} {L : List Kd} (hC : Ok C V cX12_sharesOut RX12 6 1 20) (hR : Rt C V L (some .boolean) rI) (hL : LKm L) {go7 : Int → Int → Int → Mem → Option (Int × Mem)} (hgo7 : ∀ (x1 : Int) (x3 : Int) (x4 : Int) (X : Mem), G C V L 0 0 6 7 [(0, vR V.1 120), (1, vJ x1), (3, vI x3), (4, vI x4)] [] X (go7 x1 x3 x4 X)) (x1 : Int) (x4 : Int) (s0 : Int) (X : Mem)  : G C V L 0 0 6 49 [(0, vR V.1 120), (1, vJ x1), (4, vI x4)] [vI s0] X (B_X12_sharesOut_49  go7 x1 x4 s0 X) := by
  unfold B_X12_sharesOut_49
  refine g_istore_n hC dX12_sharesOut_49 rfl (by decide) rfl ?_
  refine g_iinc (q := 3) hC dX12_sharesOut_50 rfl (by decide) rfl ?_
  refine g_goto (tgt := 7) hC dX12_sharesOut_53 (by decide) ?_
  refine g_sub [2, 3, 1, 0] rfl ?_
  exact hgo7 x1 s0 (x4 + 1) X
set_option maxRecDepth 20000 in
theorem gL_X12_sharesOut_7 {C : Cx} {V : Ev} {L : List Kd} (hC : Ok C V cX12_sharesOut RX12 6 1 20) (hR : Rt C V L (some .boolean) rI) (hL : LKm L) : ∀ (n : Nat) (x1 : Int) (x3 : Int) (x4 : Int) (X : Mem), G C V L 0 0 6 7 [(0, vR V.1 120), (1, vJ x1), (3, vI x3), (4, vI x4)] [] X (L_X12_sharesOut_7   n x1 x3 x4 X) := by
  intro n
  induction n with
  | zero => intro x1 x3 x4 X; exact g_none
  | succ n ih =>
    intro x1 x3 x4 X
    rw [L_X12_sharesOut_7]
    refine g_iload (q := 3) hC dX12_sharesOut_7 rfl ?_
    refine g_aload_n (q := 0) hC dX12_sharesOut_9 rfl rfl rfl ?_
    refine g_callVI (As := []) hC mv_X12_sets wml_RX12_263 (k_X12_sets _ V hL X) cf_X12 (at_120 hL) (by decide) ⟨Nat.zero_le _, Nat.zero_le _⟩ rfl rfl ⟨Nat.le_of_ble_eq_true rfl, Nat.le_of_ble_eq_true rfl⟩ (Nat.le_of_ble_eq_true rfl) dX12_sharesOut_10 (fun r1 X2 => ?_)
    refine g_icmp_ge (tgt := 56) hC dX12_sharesOut_13 (by decide) ?_ ?_
    · refine g_sub [0, 1, 2] rfl ?_
      exact gB_X12_sharesOut_56 hC hR hL  x1 x3 X2
    · refine g_lload_n (q := 1) hC dX12_sharesOut_16 rfl rfl ?_
      refine g_aload_n (q := 0) hC dX12_sharesOut_17 rfl rfl rfl ?_
      refine g_getS (k := 26) hC cf_X12 (at_120 hL) (by decide) rfl (by decide) (by decide) wf_RX12_50 dX12_sharesOut_18 ?_
      refine g_iload (q := 3) hC dX12_sharesOut_21 rfl ?_
      refine g_lald hC (at_130 hL) (by decide) dX12_sharesOut_23 ?_
      refine g_ladd hC dX12_sharesOut_24 ?_
      refine g_topJ (fun v8 => ?_)
      refine g_lstore_n hC dX12_sharesOut_25 rfl (by decide) rfl ?_
      refine g_aload_n (q := 1) hC dX12_sharesOut_26 rfl rfl rfl ?_
      refine g_getS (k := 26) hC cf_X12 (at_120 hL) (by decide) rfl (by decide) (by decide) wf_RX12_50 dX12_sharesOut_27 ?_
      refine g_iload (q := 3) hC dX12_sharesOut_30 rfl ?_
      refine g_lald hC (at_130 hL) (by decide) dX12_sharesOut_32 ?_
      refine g_aload_n (q := 1) hC dX12_sharesOut_33 rfl rfl rfl ?_
      refine g_getS (k := 26) hC cf_X12 (at_120 hL) (by decide) rfl (by decide) (by decide) wf_RX12_50 dX12_sharesOut_34 ?_
      refine g_iload_n (q := 2) hC dX12_sharesOut_37 rfl rfl ?_
      refine g_lald hC (at_130 hL) (by decide) dX12_sharesOut_38 ?_
      refine g_lcmp_le (tgt := 48) hC dX12_sharesOut_39 rfl dX12_sharesOut_40 (by decide) ?_ ?_
      · refine g_iload_n (q := 2) hC dX12_sharesOut_48 rfl rfl ?_
        refine g_sub [1, 0, 3] rfl ?_
        exact gB_X12_sharesOut_49 hC hR hL ih v8 x4 x3 X2
      · refine g_iload (q := 3) hC dX12_sharesOut_43 rfl ?_
        refine g_goto (tgt := 49) hC dX12_sharesOut_45 (by decide) ?_
        refine g_sub [1, 0, 3] rfl ?_
        exact gB_X12_sharesOut_49 hC hR hL ih v8 x4 x4 X2
set_option maxRecDepth 20000 in
theorem k_X12_sharesOut (l : Launch) (V : Ev) {L : List Kd} (hL : LKm L)  (X : Mem)  : Kt l V L yX12_sharesOut (.code yX12_sharesOut cX12_sharesOut 6 (some .boolean)) 1 20 [vR V.1 120] rI X (f_X12_sharesOut  X) := by
  refine kt_of (own := RX12) (lv0 := [(0, vR V.1 120)]) (by decide) rfl (Nat.le_of_ble_eq_true rfl) rfl (fun C hCl hC hR => ?_)
  subst hCl
  unfold f_X12_sharesOut
  refine g_lconst (v := vJ 0) hC dX12_sharesOut_0 rfl ?_
  refine g_lstore_n hC dX12_sharesOut_1 rfl (by decide) rfl ?_
  refine g_iconst (v := vI 0) hC dX12_sharesOut_2 rfl ?_
  refine g_istore_n hC dX12_sharesOut_3 rfl (by decide) rfl ?_
  refine g_iconst (v := vI 0) hC dX12_sharesOut_4 rfl ?_
  refine g_istore hC dX12_sharesOut_5 (by decide) rfl ?_
  refine g_sub [3, 2, 1, 0] rfl ?_
  exact gL_X12_sharesOut_7 hC hR hL  KF 0 0 0 X
def B_X12_first_79  (X : Mem) : Option (Int × Mem) :=
  cl (f_X12_sharesOut X) fun r3 X4 =>
  c1 r3 <| if ¬ r3 = 0 then
    some (0, X4)
  else
    ax 2200 168 <| bd (ms X4 121 168 1000000) fun X5 =>
    some (0, X5)
def B_X12_first_73 (go2 : Int → Mem → Option (Int × Mem)) (x1 : Int) (X : Mem) : Option (Int × Mem) :=
  go2 (x1 + 1) X
def B_X12_first_65 (go2 : Int → Mem → Option (Int × Mem)) (go19 : Int → Int → Mem → Option (Int × Mem)) (x1 : Int) (x2 : Int) (s0 : Int) (s1 : Int) (s2 : Int) (X : Mem) : Option (Int × Mem) :=
  ax 32 s2 <| bd (ms X 130 s2 (s1 * s0)) fun X9 =>
  go19 x1 (x2 + 1) X9
def L_X12_first_19 (go2 : Int → Mem → Option (Int × Mem)) : Nat → Int → Int → Mem → Option (Int × Mem)
  | 0, _, _, _ => none
  | n + 1, x1, x2, X =>
    ax 2200 2 <|
    c2 x2 (X 121 2) <| if (X 121 2) ≤ x2 then
      B_X12_first_73  go2 x1 X
    else
      ax 32 x1 <|
      c2 (ia (ishr x1 x2) 1) 1 <| if ¬ (ia (ishr x1 x2) 1) = 1 then
        cl (f_X12_ofBar x2 1 X) fun r7 X8 =>
        c1 (16 - r7) <|
        B_X12_first_65  go2 (fun x1 x2 X => L_X12_first_19  go2 n x1 x2 X) x1 x2 (16 - r7) (X 130 x1) x1 X8
      else
        cl (f_X12_ofBar x2 1 X) fun r10 X11 =>
        c1 r10 <|
        B_X12_first_65  go2 (fun x1 x2 X => L_X12_first_19  go2 n x1 x2 X) x1 x2 r10 (X 130 x1) x1 X11
def L_X12_first_2 : Nat → Int → Mem → Option (Int × Mem)
  | 0, _, _ => none
  | n + 1, x1, X =>
    cl (f_X12_sets X) fun r1 X2 =>
    c2 x1 r1 <| if r1 ≤ x1 then
      B_X12_first_79   X2
    else
      ax 32 x1 <| bd (ms X2 130 x1 1) fun X6 =>
      L_X12_first_19  (fun x1 X => L_X12_first_2   n x1 X) KF x1 0 X6
def f_X12_first  (X : Mem) : Option (Int × Mem) :=
  L_X12_first_2   KF 0 X
set_option maxRecDepth 20000 in
theorem gB_X12_first_79 {C : Cx} {V : Ev} {L : List Kd} (hC : Ok C V cX12_first RX12 3 2 45) (hR : Rt C V L none rV) (hL : LKm L)  (X : Mem)  : G C V L 0 0 3 79 [(0, vR V.1 120)] [] X (B_X12_first_79    X) := by
  unfold B_X12_first_79
  refine g_aload_n (q := 0) hC dX12_first_79 rfl rfl rfl ?_
  refine g_callVI (As := []) hC mv_X12_sharesOut wml_RX12_302 (k_X12_sharesOut _ V hL X) cf_X12 (at_120 hL) (by decide) ⟨Nat.zero_le _, Nat.zero_le _⟩ rfl rfl ⟨Nat.le_of_ble_eq_true rfl, Nat.le_of_ble_eq_true rfl⟩ (Nat.le_of_ble_eq_true rfl) dX12_first_80 (fun r3 X4 => ?_)
  refine g_if_ne (tgt := 96) hC dX12_first_83 (by decide) ?_ ?_
  · exact g_vret hC hR dX12_first_96
  · refine g_aload_n (q := 0) hC dX12_first_86 rfl rfl rfl ?_
    refine g_getS (k := 0) hC cf_X12 (at_120 hL) (by decide) rfl (by decide) (by decide) wf_RX12_7 dX12_first_87 ?_
    refine g_sipush (v := vI 168) hC dX12_first_90 rfl ?_
    refine g_ldc (n := 1000000) hC wk_RX12_91 rfl dX12_first_93 ?_
    refine g_iast hC (at_121 hL) (by decide) dX12_first_95 (fun X5 => ?_)
    exact g_vret hC hR dX12_first_96
set_option maxRecDepth 20000 in
theorem gB_X12_first_73 {C : Cx} {V : Ev} {L : List Kd} (hC : Ok C V cX12_first RX12 3 2 45) (hR : Rt C V L none rV) (hL : LKm L) {go2 : Int → Mem → Option (Int × Mem)} (hgo2 : ∀ (x1 : Int) (X : Mem), G C V L 0 0 3 2 [(0, vR V.1 120), (1, vI x1)] [] X (go2 x1 X)) (x1 : Int) (X : Mem)  : G C V L 0 0 3 73 [(0, vR V.1 120), (1, vI x1)] [] X (B_X12_first_73  go2 x1 X) := by
  unfold B_X12_first_73
  refine g_iinc (q := 1) hC dX12_first_73 rfl (by decide) rfl ?_
  refine g_goto (tgt := 2) hC dX12_first_76 (by decide) ?_
  refine g_sub [1, 0] rfl ?_
  exact hgo2 (x1 + 1) X
set_option maxRecDepth 20000 in
theorem gB_X12_first_65 {C : Cx} {V : Ev} {L : List Kd} (hC : Ok C V cX12_first RX12 3 2 45) (hR : Rt C V L none rV) (hL : LKm L) {go2 : Int → Mem → Option (Int × Mem)} {go19 : Int → Int → Mem → Option (Int × Mem)} (hgo2 : ∀ (x1 : Int) (X : Mem), G C V L 0 0 3 2 [(0, vR V.1 120), (1, vI x1)] [] X (go2 x1 X)) (hgo19 : ∀ (x1 : Int) (x2 : Int) (X : Mem), G C V L 0 0 3 19 [(0, vR V.1 120), (1, vI x1), (2, vI x2)] [] X (go19 x1 x2 X)) (x1 : Int) (x2 : Int) (s0 : Int) (s1 : Int) (s2 : Int) (X : Mem)  : G C V L 0 0 3 65 [(0, vR V.1 120), (1, vI x1), (2, vI x2)] [vJ s0, vJ s1, vI s2, vR V.1 130] X (B_X12_first_65  go2 go19 x1 x2 s0 s1 s2 X) := by
  unfold B_X12_first_65
  refine g_lmul hC dX12_first_65 ?_
  refine g_last hC (at_130 hL) (by decide) dX12_first_66 (fun X9 => ?_)
  refine g_iinc (q := 2) hC dX12_first_67 rfl (by decide) rfl ?_
  refine g_goto (tgt := 19) hC dX12_first_70 (by decide) ?_
  refine g_sub [1, 2, 0] rfl ?_
  exact hgo19 x1 (x2 + 1) X9
set_option maxRecDepth 20000 in
theorem gL_X12_first_19 {C : Cx} {V : Ev} {L : List Kd} (hC : Ok C V cX12_first RX12 3 2 45) (hR : Rt C V L none rV) (hL : LKm L) {go2 : Int → Mem → Option (Int × Mem)} (hgo2 : ∀ (x1 : Int) (X : Mem), G C V L 0 0 3 2 [(0, vR V.1 120), (1, vI x1)] [] X (go2 x1 X)) : ∀ (n : Nat) (x1 : Int) (x2 : Int) (X : Mem), G C V L 0 0 3 19 [(0, vR V.1 120), (1, vI x1), (2, vI x2)] [] X (L_X12_first_19  go2 n x1 x2 X) := by
  intro n
  induction n with
  | zero => intro x1 x2 X; exact g_none
  | succ n ih =>
    intro x1 x2 X
    rw [L_X12_first_19]
    refine g_iload_n (q := 2) hC dX12_first_19 rfl rfl ?_
    refine g_aload_n (q := 0) hC dX12_first_20 rfl rfl rfl ?_
    refine g_getS (k := 0) hC cf_X12 (at_120 hL) (by decide) rfl (by decide) (by decide) wf_RX12_7 dX12_first_21 ?_
    refine g_iconst (v := vI 2) hC dX12_first_24 rfl ?_
    refine g_iald hC (at_121 hL) (by decide) dX12_first_25 ?_
    refine g_icmp_ge (tgt := 73) hC dX12_first_26 (by decide) ?_ ?_
    · refine g_sub [0, 1] rfl ?_
      exact gB_X12_first_73 hC hR hL hgo2 x1 X
    · refine g_aload_n (q := 0) hC dX12_first_29 rfl rfl rfl ?_
      refine g_getS (k := 26) hC cf_X12 (at_120 hL) (by decide) rfl (by decide) (by decide) wf_RX12_50 dX12_first_30 ?_
      refine g_iload_n (q := 1) hC dX12_first_33 rfl rfl ?_
      refine g_dup2 hC dX12_first_34 rfl rfl ?_
      refine g_lald hC (at_130 hL) (by decide) dX12_first_35 ?_
      refine g_iload_n (q := 1) hC dX12_first_36 rfl rfl ?_
      refine g_iload_n (q := 2) hC dX12_first_37 rfl rfl ?_
      refine g_ishr hC dX12_first_38 ?_
      refine g_iconst (v := vI 1) hC dX12_first_39 rfl ?_
      refine g_iand hC dX12_first_40 ?_
      refine g_iconst (v := vI 1) hC dX12_first_41 rfl ?_
      refine g_icmp_ne (tgt := 55) hC dX12_first_42 (by decide) ?_ ?_
      · refine g_bipush (v := vI 16) hC dX12_first_55 rfl ?_
        refine g_aload_n (q := 0) hC dX12_first_57 rfl rfl rfl ?_
        refine g_iload_n (q := 2) hC dX12_first_58 rfl rfl ?_
        refine g_iconst (v := vI 1) hC dX12_first_59 rfl ?_
        refine g_callVI (As := [vI x2, vI 1]) hC mv_X12_ofBar wml_RX12_269 (k_X12_ofBar _ V hL x2 1 X) cf_X12 (at_120 hL) (by decide) ⟨Nat.zero_le _, Nat.zero_le _⟩ rfl rfl ⟨Nat.le_of_ble_eq_true rfl, Nat.le_of_ble_eq_true rfl⟩ (Nat.le_of_ble_eq_true rfl) dX12_first_60 (fun r7 X8 => ?_)
        refine g_isub hC dX12_first_63 ?_
        refine g_i2l hC dX12_first_64 ?_
        exact gB_X12_first_65 hC hR hL hgo2 ih x1 x2 (16 - r7) (X 130 x1) x1 X8
      · refine g_aload_n (q := 0) hC dX12_first_45 rfl rfl rfl ?_
        refine g_iload_n (q := 2) hC dX12_first_46 rfl rfl ?_
        refine g_iconst (v := vI 1) hC dX12_first_47 rfl ?_
        refine g_callVI (As := [vI x2, vI 1]) hC mv_X12_ofBar wml_RX12_269 (k_X12_ofBar _ V hL x2 1 X) cf_X12 (at_120 hL) (by decide) ⟨Nat.zero_le _, Nat.zero_le _⟩ rfl rfl ⟨Nat.le_of_ble_eq_true rfl, Nat.le_of_ble_eq_true rfl⟩ (Nat.le_of_ble_eq_true rfl) dX12_first_48 (fun r10 X11 => ?_)
        refine g_i2l hC dX12_first_51 ?_
        refine g_goto (tgt := 65) hC dX12_first_52 (by decide) ?_
        exact gB_X12_first_65 hC hR hL hgo2 ih x1 x2 r10 (X 130 x1) x1 X11
set_option maxRecDepth 20000 in
theorem gL_X12_first_2 {C : Cx} {V : Ev} {L : List Kd} (hC : Ok C V cX12_first RX12 3 2 45) (hR : Rt C V L none rV) (hL : LKm L) : ∀ (n : Nat) (x1 : Int) (X : Mem), G C V L 0 0 3 2 [(0, vR V.1 120), (1, vI x1)] [] X (L_X12_first_2   n x1 X) := by
  intro n
  induction n with
  | zero => intro x1 X; exact g_none
  | succ n ih =>
    intro x1 X
    rw [L_X12_first_2]
    refine g_iload_n (q := 1) hC dX12_first_2 rfl rfl ?_
    refine g_aload_n (q := 0) hC dX12_first_3 rfl rfl rfl ?_
    refine g_callVI (As := []) hC mv_X12_sets wml_RX12_263 (k_X12_sets _ V hL X) cf_X12 (at_120 hL) (by decide) ⟨Nat.zero_le _, Nat.zero_le _⟩ rfl rfl ⟨Nat.le_of_ble_eq_true rfl, Nat.le_of_ble_eq_true rfl⟩ (Nat.le_of_ble_eq_true rfl) dX12_first_4 (fun r1 X2 => ?_)
    refine g_icmp_ge (tgt := 79) hC dX12_first_7 (by decide) ?_ ?_
    · refine g_sub [0] rfl ?_
      exact gB_X12_first_79 hC hR hL  X2
    · refine g_aload_n (q := 0) hC dX12_first_10 rfl rfl rfl ?_
      refine g_getS (k := 26) hC cf_X12 (at_120 hL) (by decide) rfl (by decide) (by decide) wf_RX12_50 dX12_first_11 ?_
      refine g_iload_n (q := 1) hC dX12_first_14 rfl rfl ?_
      refine g_lconst (v := vJ 1) hC dX12_first_15 rfl ?_
      refine g_last hC (at_130 hL) (by decide) dX12_first_16 (fun X6 => ?_)
      refine g_iconst (v := vI 0) hC dX12_first_17 rfl ?_
      refine g_istore_n hC dX12_first_18 rfl (by decide) rfl ?_
      refine g_sub [1, 2, 0] rfl ?_
      exact gL_X12_first_19 hC hR hL ih KF x1 0 X6
set_option maxRecDepth 20000 in
theorem k_X12_first (l : Launch) (V : Ev) {L : List Kd} (hL : LKm L)  (X : Mem)  : Kt l V L yX12_first (.code yX12_first cX12_first 3 none) 2 45 [vR V.1 120] rV X (f_X12_first  X) := by
  refine kt_of (own := RX12) (lv0 := [(0, vR V.1 120)]) (by decide) rfl (Nat.le_of_ble_eq_true rfl) rfl (fun C hCl hC hR => ?_)
  subst hCl
  unfold f_X12_first
  refine g_iconst (v := vI 0) hC dX12_first_0 rfl ?_
  refine g_istore_n hC dX12_first_1 rfl (by decide) rfl ?_
  refine g_sub [1, 0] rfl ?_
  exact gL_X12_first_2 hC hR hL  KF 0 X
def f_X12_cells  (X : Mem) : Option (Int × Mem) :=
  ax 2200 0 <|
  ax 2200 1 <|
  some ((X 121 0) * (X 121 1), X)
set_option maxRecDepth 20000 in
theorem k_X12_cells (l : Launch) (V : Ev) {L : List Kd} (hL : LKm L)  (X : Mem)  : Kt l V L yX12_cells (.code yX12_cells cX12_cells 1 (some .int)) 0 0 [vR V.1 120] rI X (f_X12_cells  X) := by
  refine kt_of (own := RX12) (lv0 := [(0, vR V.1 120)]) (by decide) rfl (Nat.le_of_ble_eq_true rfl) rfl (fun C hCl hC hR => ?_)
  subst hCl
  unfold f_X12_cells
  refine g_aload_n (q := 0) hC dX12_cells_0 rfl rfl rfl ?_
  refine g_getS (k := 0) hC cf_X12 (at_120 hL) (by decide) rfl (by decide) (by decide) wf_RX12_7 dX12_cells_1 ?_
  refine g_iconst (v := vI 0) hC dX12_cells_4 rfl ?_
  refine g_iald hC (at_121 hL) (by decide) dX12_cells_5 ?_
  refine g_aload_n (q := 0) hC dX12_cells_6 rfl rfl rfl ?_
  refine g_getS (k := 0) hC cf_X12 (at_120 hL) (by decide) rfl (by decide) (by decide) wf_RX12_7 dX12_cells_7 ?_
  refine g_iconst (v := vI 1) hC dX12_cells_10 rfl ?_
  refine g_iald hC (at_121 hL) (by decide) dX12_cells_11 ?_
  refine g_imul hC dX12_cells_12 ?_
  exact g_iret hC hR dX12_cells_13
def f_X12_gives (p1 : Int) (X : Mem) : Option (Int × Mem) :=
  bd (ms X 120 2 0) fun X1 =>
  some (p1, X1)
set_option maxRecDepth 20000 in
theorem k_X12_gives (l : Launch) (V : Ev) {L : List Kd} (hL : LKm L) (p1 : Int) (X : Mem)  : Kt l V L yX12_gives (.code yX12_gives cX12_gives 2 (some .int)) 0 0 [vR V.1 120, vI p1] rI X (f_X12_gives p1 X) := by
  refine kt_of (own := RX12) (lv0 := [(0, vR V.1 120), (1, vI p1)]) (by decide) rfl (Nat.le_of_ble_eq_true rfl) rfl (fun C hCl hC hR => ?_)
  subst hCl
  unfold f_X12_gives
  refine g_aload_n (q := 0) hC dX12_gives_0 rfl rfl rfl ?_
  refine g_iconst (v := vI 0) hC dX12_gives_1 rfl ?_
  refine g_putI (k := 2) (kz := 2) hC cf_X12 (at_120 hL) (by decide) rfl (by decide) rfl wf_RX12_92 rfl rfl dX12_gives_2 (fun X1 => ?_)
  refine g_iload_n (q := 1) hC dX12_gives_5 rfl rfl ?_
  exact g_iret hC hR dX12_gives_6
def f_X12_taken (p1 : Int) (X : Mem) : Option (Int × Mem) :=
  bd (ms X 120 16 (X 120 18)) fun X1 =>
  c1 (X1 120 18) <| if (X1 120 18) ≤ 0 then
    cl (f_X12_gives p1 X1) fun r2 X3 =>
    some (r2, X3)
  else
    cl (f_X12_refuse 9 X1) fun r4 X5 =>
    some (r4, X5)
set_option maxRecDepth 20000 in
theorem k_X12_taken (l : Launch) (V : Ev) {L : List Kd} (hL : LKm L) (p1 : Int) (X : Mem)  : Kt l V L yX12_taken (.code yX12_taken cX12_taken 2 (some .int)) 1 21 [vR V.1 120, vI p1] rI X (f_X12_taken p1 X) := by
  refine kt_of (own := RX12) (lv0 := [(0, vR V.1 120), (1, vI p1)]) (by decide) rfl (Nat.le_of_ble_eq_true rfl) rfl (fun C hCl hC hR => ?_)
  subst hCl
  unfold f_X12_taken
  refine g_aload_n (q := 0) hC dX12_taken_0 rfl rfl rfl ?_
  refine g_aload_n (q := 0) hC dX12_taken_1 rfl rfl rfl ?_
  refine g_getI (k := 18) (kz := 18) hC cf_X12 (at_120 hL) (by decide) rfl (by decide) rfl wf_RX12_162 dX12_taken_2 ?_
  refine g_putI (k := 16) (kz := 16) hC cf_X12 (at_120 hL) (by decide) rfl (by decide) rfl wf_RX12_37 rfl rfl dX12_taken_5 (fun X1 => ?_)
  refine g_aload_n (q := 0) hC dX12_taken_8 rfl rfl rfl ?_
  refine g_getI (k := 18) (kz := 18) hC cf_X12 (at_120 hL) (by decide) rfl (by decide) rfl wf_RX12_162 dX12_taken_9 ?_
  refine g_if_le (tgt := 24) hC dX12_taken_12 (by decide) ?_ ?_
  · refine g_aload_n (q := 0) hC dX12_taken_24 rfl rfl rfl ?_
    refine g_iload_n (q := 1) hC dX12_taken_25 rfl rfl ?_
    refine g_callVI (As := [vI p1]) hC mv_X12_gives wml_RX12_188 (k_X12_gives _ V hL p1 X1) cf_X12 (at_120 hL) (by decide) ⟨Nat.zero_le _, Nat.zero_le _⟩ rfl rfl ⟨Nat.le_of_ble_eq_true rfl, Nat.le_of_ble_eq_true rfl⟩ (Nat.le_of_ble_eq_true rfl) dX12_taken_26 (fun r2 X3 => ?_)
    exact g_iret hC hR dX12_taken_29
  · refine g_aload_n (q := 0) hC dX12_taken_15 rfl rfl rfl ?_
    refine g_bipush (v := vI 9) hC dX12_taken_16 rfl ?_
    refine g_callVI (As := [vI 9]) hC mv_X12_refuse wml_RX12_185 (k_X12_refuse _ V hL 9 X1) cf_X12 (at_120 hL) (by decide) ⟨Nat.zero_le _, Nat.zero_le _⟩ rfl rfl ⟨Nat.le_of_ble_eq_true rfl, Nat.le_of_ble_eq_true rfl⟩ (Nat.le_of_ble_eq_true rfl) dX12_taken_18 (fun r4 X5 => ?_)
    refine g_goto (tgt := 29) hC dX12_taken_21 (by decide) ?_
    exact g_iret hC hR dX12_taken_29
def B_X12_river_194  (X : Mem) : Option (Int × Mem) :=
  cl (f_X12_cells X) fun r8 X9 =>
  cl (f_X12_taken r8 X9) fun r10 X11 =>
  some (r10, X11)
def B_X12_river_180  (X : Mem) : Option (Int × Mem) :=
  cl (f_X12_first X) fun _ X14 =>
  bd (ms X14 120 22 ((X14 120 22) + 1)) fun X15 =>
  B_X12_river_194   X15
def L_X12_river_154 : Nat → Int → Mem → Option (Int × Mem)
  | 0, _, _ => none
  | n + 1, x3, X =>
    c2 x3 5 <| if 5 ≤ x3 then
      B_X12_river_180   X
    else
      ax 25 (20 + x3) <|
      ax 25 x3 <| bd (ms X 122 x3 (X 122 (20 + x3))) fun X16 =>
      L_X12_river_154   n (x3 + 1) X16
def B_X12_river_152  (X : Mem) : Option (Int × Mem) :=
  L_X12_river_154   KF 0 X
def L_X12_river_123 : Nat → Int → Mem → Option (Int × Mem)
  | 0, _, _ => none
  | n + 1, x3, X =>
    c2 x3 200 <| if 200 ≤ x3 then
      B_X12_river_152   X
    else
      ax 2200 (1760 + x3) <|
      ax 2200 x3 <| bd (ms X 121 x3 (X 121 (1760 + x3))) fun X17 =>
      L_X12_river_123   n (x3 + 1) X17
def B_X12_river_99  (X : Mem) : Option (Int × Mem) :=
  c1 (X 120 18) <| if ¬ (X 120 18) = 0 then
    B_X12_river_194   X
  else
    ax 2200 14 <|
    ax 2200 1774 <| bd (ms X 121 1774 (X 121 14)) fun X12 =>
    L_X12_river_123   KF 0 X12
def L_X12_river_80 : Nat → Int → Mem → Option (Int × Mem)
  | 0, _, _ => none
  | n + 1, x2, X =>
    c1 x2 <| if x2 = 0 then
      B_X12_river_99   X
    else
      c1 (X 120 12) <| if (X 120 12) = 0 then
        B_X12_river_99   X
      else
        cl (f_X12_riverPart X) fun r18 X19 =>
        L_X12_river_80   n r18 X19
def B_X12_river_79 (s0 : Int) (X : Mem) : Option (Int × Mem) :=
  L_X12_river_80   KF s0 X
def B_X12_river_78  (X : Mem) : Option (Int × Mem) :=
  B_X12_river_79   0 X
def f_X12_river (p1 : Int) (X : Mem) : Option (Int × Mem) :=
  cl (f_X12_begins p1 900 X) fun r1 X2 =>
  c1 r1 <| if ¬ r1 = 0 then
    cl (f_X12_plain 1760 X2) fun _ X4 =>
    bd (ms X4 120 20 0) fun X5 =>
    cl (f_X12_wantWord 33 0 X5) fun r6 X7 =>
    c1 r6 <| if r6 = 0 then
      B_X12_river_78   X7
    else
      cl (f_X12_number 1760 2 10 X7) fun r20 X21 =>
      c1 r20 <| if r20 = 0 then
        B_X12_river_78   X21
      else
        cl (f_X12_number 1761 2 6 X21) fun r22 X23 =>
        c1 r22 <| if r22 = 0 then
          B_X12_river_78   X23
        else
          cl (f_X12_wantSign 59 X23) fun r24 X25 =>
          c1 r24 <| if r24 = 0 then
            B_X12_river_78   X25
          else
            B_X12_river_79   1 X25
  else
    cl (f_X12_refuse 1 X2) fun r26 X27 =>
    some (r26, X27)
set_option maxRecDepth 20000 in
theorem gB_X12_river_194 {C : Cx} {V : Ev} {L : List Kd} (hC : Ok C V cX12_river RX12 4 9 255) (hR : Rt C V L (some .int) rI) (hL : LKm L)  (X : Mem)  : G C V L 0 0 4 194 [(0, vR V.1 120)] [] X (B_X12_river_194    X) := by
  unfold B_X12_river_194
  refine g_aload_n (q := 0) hC dX12_river_194 rfl rfl rfl ?_
  refine g_aload_n (q := 0) hC dX12_river_195 rfl rfl rfl ?_
  refine g_callVI (As := []) hC mv_X12_cells wml_RX12_243 (k_X12_cells _ V hL X) cf_X12 (at_120 hL) (by decide) ⟨Nat.zero_le _, Nat.zero_le _⟩ rfl rfl ⟨Nat.le_of_ble_eq_true rfl, Nat.le_of_ble_eq_true rfl⟩ (Nat.le_of_ble_eq_true rfl) dX12_river_196 (fun r8 X9 => ?_)
  refine g_callVI (As := [vI r8]) hC mv_X12_taken wml_RX12_246 (k_X12_taken _ V hL r8 X9) cf_X12 (at_120 hL) (by decide) ⟨Nat.zero_le _, Nat.zero_le _⟩ rfl rfl ⟨Nat.le_of_ble_eq_true rfl, Nat.le_of_ble_eq_true rfl⟩ (Nat.le_of_ble_eq_true rfl) dX12_river_199 (fun r10 X11 => ?_)
  exact g_iret hC hR dX12_river_202
set_option maxRecDepth 20000 in
theorem gB_X12_river_180 {C : Cx} {V : Ev} {L : List Kd} (hC : Ok C V cX12_river RX12 4 9 255) (hR : Rt C V L (some .int) rI) (hL : LKm L)  (X : Mem)  : G C V L 0 0 4 180 [(0, vR V.1 120)] [] X (B_X12_river_180    X) := by
  unfold B_X12_river_180
  refine g_aload_n (q := 0) hC dX12_river_180 rfl rfl rfl ?_
  refine g_callVV (As := []) hC mv_X12_first wml_RX12_237 (k_X12_first _ V hL X) cf_X12 (at_120 hL) (by decide) ⟨Nat.zero_le _, Nat.zero_le _⟩ rfl rfl ⟨Nat.le_of_ble_eq_true rfl, Nat.le_of_ble_eq_true rfl⟩ (Nat.le_of_ble_eq_true rfl) dX12_river_181 (fun _ X14 => ?_)
  refine g_aload_n (q := 0) hC dX12_river_184 rfl rfl rfl ?_
  refine g_dup hC dX12_river_185 rfl ?_
  refine g_getI (k := 22) (kz := 22) hC cf_X12 (at_120 hL) (by decide) rfl (by decide) rfl wf_RX12_240 dX12_river_186 ?_
  refine g_iconst (v := vI 1) hC dX12_river_189 rfl ?_
  refine g_iadd hC dX12_river_190 ?_
  refine g_putI (k := 22) (kz := 22) hC cf_X12 (at_120 hL) (by decide) rfl (by decide) rfl wf_RX12_240 rfl rfl dX12_river_191 (fun X15 => ?_)
  exact gB_X12_river_194 hC hR hL  X15
set_option maxRecDepth 20000 in
theorem gL_X12_river_154 {C : Cx} {V : Ev} {L : List Kd} (hC : Ok C V cX12_river RX12 4 9 255) (hR : Rt C V L (some .int) rI) (hL : LKm L) : ∀ (n : Nat) (x3 : Int) (X : Mem), G C V L 0 0 4 154 [(0, vR V.1 120), (3, vI x3)] [] X (L_X12_river_154   n x3 X) := by
  intro n
  induction n with
  | zero => intro x3 X; exact g_none
  | succ n ih =>
    intro x3 X
    rw [L_X12_river_154]
    refine g_iload_n (q := 1) hC dX12_river_154 rfl rfl ?_
    refine g_iconst (v := vI 5) hC dX12_river_155 rfl ?_
    refine g_icmp_ge (tgt := 180) hC dX12_river_156 (by decide) ?_ ?_
    · refine g_sub [0] rfl ?_
      exact gB_X12_river_180 hC hR hL  X
    · refine g_aload_n (q := 0) hC dX12_river_159 rfl rfl rfl ?_
      refine g_getS (k := 1) hC cf_X12 (at_120 hL) (by decide) rfl (by decide) (by decide) wf_RX12_13 dX12_river_160 ?_
      refine g_iload_n (q := 1) hC dX12_river_163 rfl rfl ?_
      refine g_aload_n (q := 0) hC dX12_river_164 rfl rfl rfl ?_
      refine g_getS (k := 1) hC cf_X12 (at_120 hL) (by decide) rfl (by decide) (by decide) wf_RX12_13 dX12_river_165 ?_
      refine g_bipush (v := vI 20) hC dX12_river_168 rfl ?_
      refine g_iload_n (q := 1) hC dX12_river_170 rfl rfl ?_
      refine g_iadd hC dX12_river_171 ?_
      refine g_lald hC (at_122 hL) (by decide) dX12_river_172 ?_
      refine g_last hC (at_122 hL) (by decide) dX12_river_173 (fun X16 => ?_)
      refine g_iinc (q := 1) hC dX12_river_174 rfl (by decide) rfl ?_
      refine g_goto (tgt := 154) hC dX12_river_177 (by decide) ?_
      refine g_sub [1, 0] rfl ?_
      exact ih (x3 + 1) X16
set_option maxRecDepth 20000 in
theorem gB_X12_river_152 {C : Cx} {V : Ev} {L : List Kd} (hC : Ok C V cX12_river RX12 4 9 255) (hR : Rt C V L (some .int) rI) (hL : LKm L)  (X : Mem)  : G C V L 0 0 4 152 [(0, vR V.1 120)] [] X (B_X12_river_152    X) := by
  unfold B_X12_river_152
  refine g_iconst (v := vI 0) hC dX12_river_152 rfl ?_
  refine g_istore_n hC dX12_river_153 rfl (by decide) rfl ?_
  refine g_sub [1, 0] rfl ?_
  exact gL_X12_river_154 hC hR hL  KF 0 X
set_option maxRecDepth 20000 in
theorem gL_X12_river_123 {C : Cx} {V : Ev} {L : List Kd} (hC : Ok C V cX12_river RX12 4 9 255) (hR : Rt C V L (some .int) rI) (hL : LKm L) : ∀ (n : Nat) (x3 : Int) (X : Mem), G C V L 0 0 4 123 [(0, vR V.1 120), (3, vI x3)] [] X (L_X12_river_123   n x3 X) := by
  intro n
  induction n with
  | zero => intro x3 X; exact g_none
  | succ n ih =>
    intro x3 X
    rw [L_X12_river_123]
    refine g_iload_n (q := 1) hC dX12_river_123 rfl rfl ?_
    refine g_sipush (v := vI 200) hC dX12_river_124 rfl ?_
    refine g_icmp_ge (tgt := 152) hC dX12_river_127 (by decide) ?_ ?_
    · refine g_sub [0] rfl ?_
      exact gB_X12_river_152 hC hR hL  X
    · refine g_aload_n (q := 0) hC dX12_river_130 rfl rfl rfl ?_
      refine g_getS (k := 0) hC cf_X12 (at_120 hL) (by decide) rfl (by decide) (by decide) wf_RX12_7 dX12_river_131 ?_
      refine g_iload_n (q := 1) hC dX12_river_134 rfl rfl ?_
      refine g_aload_n (q := 0) hC dX12_river_135 rfl rfl rfl ?_
      refine g_getS (k := 0) hC cf_X12 (at_120 hL) (by decide) rfl (by decide) (by decide) wf_RX12_7 dX12_river_136 ?_
      refine g_sipush (v := vI 1760) hC dX12_river_139 rfl ?_
      refine g_iload_n (q := 1) hC dX12_river_142 rfl rfl ?_
      refine g_iadd hC dX12_river_143 ?_
      refine g_iald hC (at_121 hL) (by decide) dX12_river_144 ?_
      refine g_iast hC (at_121 hL) (by decide) dX12_river_145 (fun X17 => ?_)
      refine g_iinc (q := 1) hC dX12_river_146 rfl (by decide) rfl ?_
      refine g_goto (tgt := 123) hC dX12_river_149 (by decide) ?_
      refine g_sub [1, 0] rfl ?_
      exact ih (x3 + 1) X17
set_option maxRecDepth 20000 in
theorem gB_X12_river_99 {C : Cx} {V : Ev} {L : List Kd} (hC : Ok C V cX12_river RX12 4 9 255) (hR : Rt C V L (some .int) rI) (hL : LKm L)  (X : Mem)  : G C V L 0 0 4 99 [(0, vR V.1 120)] [] X (B_X12_river_99    X) := by
  unfold B_X12_river_99
  refine g_aload_n (q := 0) hC dX12_river_99 rfl rfl rfl ?_
  refine g_getI (k := 18) (kz := 18) hC cf_X12 (at_120 hL) (by decide) rfl (by decide) rfl wf_RX12_162 dX12_river_100 ?_
  refine g_if_ne (tgt := 194) hC dX12_river_103 (by decide) ?_ ?_
  · exact gB_X12_river_194 hC hR hL  X
  · refine g_aload_n (q := 0) hC dX12_river_106 rfl rfl rfl ?_
    refine g_getS (k := 0) hC cf_X12 (at_120 hL) (by decide) rfl (by decide) (by decide) wf_RX12_7 dX12_river_107 ?_
    refine g_sipush (v := vI 1774) hC dX12_river_110 rfl ?_
    refine g_aload_n (q := 0) hC dX12_river_113 rfl rfl rfl ?_
    refine g_getS (k := 0) hC cf_X12 (at_120 hL) (by decide) rfl (by decide) (by decide) wf_RX12_7 dX12_river_114 ?_
    refine g_bipush (v := vI 14) hC dX12_river_117 rfl ?_
    refine g_iald hC (at_121 hL) (by decide) dX12_river_119 ?_
    refine g_iast hC (at_121 hL) (by decide) dX12_river_120 (fun X12 => ?_)
    refine g_iconst (v := vI 0) hC dX12_river_121 rfl ?_
    refine g_istore_n hC dX12_river_122 rfl (by decide) rfl ?_
    refine g_sub [1, 0] rfl ?_
    exact gL_X12_river_123 hC hR hL  KF 0 X12
set_option maxRecDepth 20000 in
theorem gL_X12_river_80 {C : Cx} {V : Ev} {L : List Kd} (hC : Ok C V cX12_river RX12 4 9 255) (hR : Rt C V L (some .int) rI) (hL : LKm L) : ∀ (n : Nat) (x2 : Int) (X : Mem), G C V L 0 0 4 80 [(0, vR V.1 120), (2, vI x2)] [] X (L_X12_river_80   n x2 X) := by
  intro n
  induction n with
  | zero => intro x2 X; exact g_none
  | succ n ih =>
    intro x2 X
    rw [L_X12_river_80]
    refine g_iload_n (q := 1) hC dX12_river_80 rfl rfl ?_
    refine g_if_eq (tgt := 99) hC dX12_river_81 (by decide) ?_ ?_
    · refine g_sub [0] rfl ?_
      exact gB_X12_river_99 hC hR hL  X
    · refine g_aload_n (q := 0) hC dX12_river_84 rfl rfl rfl ?_
      refine g_getI (k := 12) (kz := 12) hC cf_X12 (at_120 hL) (by decide) rfl (by decide) rfl wf_RX12_137 dX12_river_85 ?_
      refine g_if_eq (tgt := 99) hC dX12_river_88 (by decide) ?_ ?_
      · refine g_sub [0] rfl ?_
        exact gB_X12_river_99 hC hR hL  X
      · refine g_aload_n (q := 0) hC dX12_river_91 rfl rfl rfl ?_
        refine g_callVI (As := []) hC mv_X12_riverPart wml_RX12_234 (k_X12_riverPart _ V hL X) cf_X12 (at_120 hL) (by decide) ⟨Nat.zero_le _, Nat.zero_le _⟩ rfl rfl ⟨Nat.le_of_ble_eq_true rfl, Nat.le_of_ble_eq_true rfl⟩ (Nat.le_of_ble_eq_true rfl) dX12_river_92 (fun r18 X19 => ?_)
        refine g_istore_n hC dX12_river_95 rfl (by decide) rfl ?_
        refine g_goto (tgt := 80) hC dX12_river_96 (by decide) ?_
        refine g_sub [1, 0] rfl ?_
        exact ih r18 X19
set_option maxRecDepth 20000 in
theorem gB_X12_river_79 {C : Cx} {V : Ev} {L : List Kd} (hC : Ok C V cX12_river RX12 4 9 255) (hR : Rt C V L (some .int) rI) (hL : LKm L) (s0 : Int) (X : Mem)  : G C V L 0 0 4 79 [(0, vR V.1 120)] [vI s0] X (B_X12_river_79   s0 X) := by
  unfold B_X12_river_79
  refine g_istore_n hC dX12_river_79 rfl (by decide) rfl ?_
  refine g_sub [1, 0] rfl ?_
  exact gL_X12_river_80 hC hR hL  KF s0 X
set_option maxRecDepth 20000 in
theorem gB_X12_river_78 {C : Cx} {V : Ev} {L : List Kd} (hC : Ok C V cX12_river RX12 4 9 255) (hR : Rt C V L (some .int) rI) (hL : LKm L)  (X : Mem)  : G C V L 0 0 4 78 [(0, vR V.1 120)] [] X (B_X12_river_78    X) := by
  unfold B_X12_river_78
  refine g_iconst (v := vI 0) hC dX12_river_78 rfl ?_
  exact gB_X12_river_79 hC hR hL  0 X
set_option maxRecDepth 20000 in
theorem k_X12_river (l : Launch) (V : Ev) {L : List Kd} (hL : LKm L) (p1 : Int) (X : Mem)  : Kt l V L yX12_river (.code yX12_river cX12_river 4 (some .int)) 9 255 [vR V.1 120, vI p1] rI X (f_X12_river p1 X) := by
  refine kt_of (own := RX12) (lv0 := [(0, vR V.1 120), (1, vI p1)]) (by decide) rfl (Nat.le_of_ble_eq_true rfl) rfl (fun C hCl hC hR => ?_)
  subst hCl
  unfold f_X12_river
  refine g_aload_n (q := 0) hC dX12_river_0 rfl rfl rfl ?_
  refine g_iload_n (q := 1) hC dX12_river_1 rfl rfl ?_
  refine g_sipush (v := vI 900) hC dX12_river_2 rfl ?_
  refine g_callVI (As := [vI p1, vI 900]) hC mv_X12_begins wml_RX12_230 (k_X12_begins _ V hL p1 900 X) cf_X12 (at_120 hL) (by decide) ⟨Nat.zero_le _, Nat.zero_le _⟩ rfl rfl ⟨Nat.le_of_ble_eq_true rfl, Nat.le_of_ble_eq_true rfl⟩ (Nat.le_of_ble_eq_true rfl) dX12_river_5 (fun r1 X2 => ?_)
  refine g_if_ne (tgt := 17) hC dX12_river_8 (by decide) ?_ ?_
  · refine g_aload_n (q := 0) hC dX12_river_17 rfl rfl rfl ?_
    refine g_sipush (v := vI 1760) hC dX12_river_18 rfl ?_
    refine g_callVV (As := [vI 1760]) hC mv_X12_plain wml_RX12_87 (k_X12_plain _ V hL 1760 X2) cf_X12 (at_120 hL) (by decide) ⟨Nat.zero_le _, Nat.zero_le _⟩ rfl rfl ⟨Nat.le_of_ble_eq_true rfl, Nat.le_of_ble_eq_true rfl⟩ (Nat.le_of_ble_eq_true rfl) dX12_river_21 (fun _ X4 => ?_)
    refine g_aload_n (q := 0) hC dX12_river_24 rfl rfl rfl ?_
    refine g_iconst (v := vI 0) hC dX12_river_25 rfl ?_
    refine g_putI (k := 20) (kz := 20) hC cf_X12 (at_120 hL) (by decide) rfl (by decide) rfl wf_RX12_191 rfl rfl dX12_river_26 (fun X5 => ?_)
    refine g_aload_n (q := 0) hC dX12_river_29 rfl rfl rfl ?_
    refine g_ldcS (i := 33) hC (by decide) rfl dX12_river_30 ?_
    refine g_iconst (v := vI 0) hC dX12_river_32 rfl ?_
    refine g_callVI (As := [vS V 33, vI 0]) hC mv_X12_wantWord wml_RX12_203 (k_X12_wantWord _ V hL 33 0 X5 (by decide)) cf_X12 (at_120 hL) (by decide) ⟨Nat.zero_le _, Nat.zero_le _⟩ rfl rfl ⟨Nat.le_of_ble_eq_true rfl, Nat.le_of_ble_eq_true rfl⟩ (Nat.le_of_ble_eq_true rfl) dX12_river_33 (fun r6 X7 => ?_)
    refine g_if_eq (tgt := 78) hC dX12_river_36 (by decide) ?_ ?_
    · refine g_sub [0] rfl ?_
      exact gB_X12_river_78 hC hR hL  X7
    · refine g_aload_n (q := 0) hC dX12_river_39 rfl rfl rfl ?_
      refine g_sipush (v := vI 1760) hC dX12_river_40 rfl ?_
      refine g_iconst (v := vI 2) hC dX12_river_43 rfl ?_
      refine g_bipush (v := vI 10) hC dX12_river_44 rfl ?_
      refine g_callVI (As := [vI 1760, vI 2, vI 10]) hC mv_X12_number wml_RX12_207 (k_X12_number _ V hL 1760 2 10 X7) cf_X12 (at_120 hL) (by decide) ⟨Nat.zero_le _, Nat.zero_le _⟩ rfl rfl ⟨Nat.le_of_ble_eq_true rfl, Nat.le_of_ble_eq_true rfl⟩ (Nat.le_of_ble_eq_true rfl) dX12_river_46 (fun r20 X21 => ?_)
      refine g_if_eq (tgt := 78) hC dX12_river_49 (by decide) ?_ ?_
      · refine g_sub [0] rfl ?_
        exact gB_X12_river_78 hC hR hL  X21
      · refine g_aload_n (q := 0) hC dX12_river_52 rfl rfl rfl ?_
        refine g_sipush (v := vI 1761) hC dX12_river_53 rfl ?_
        refine g_iconst (v := vI 2) hC dX12_river_56 rfl ?_
        refine g_bipush (v := vI 6) hC dX12_river_57 rfl ?_
        refine g_callVI (As := [vI 1761, vI 2, vI 6]) hC mv_X12_number wml_RX12_207 (k_X12_number _ V hL 1761 2 6 X21) cf_X12 (at_120 hL) (by decide) ⟨Nat.zero_le _, Nat.zero_le _⟩ rfl rfl ⟨Nat.le_of_ble_eq_true rfl, Nat.le_of_ble_eq_true rfl⟩ (Nat.le_of_ble_eq_true rfl) dX12_river_59 (fun r22 X23 => ?_)
        refine g_if_eq (tgt := 78) hC dX12_river_62 (by decide) ?_ ?_
        · refine g_sub [0] rfl ?_
          exact gB_X12_river_78 hC hR hL  X23
        · refine g_aload_n (q := 0) hC dX12_river_65 rfl rfl rfl ?_
          refine g_bipush (v := vI 59) hC dX12_river_66 rfl ?_
          refine g_callVI (As := [vI 59]) hC mv_X12_wantSign wml_RX12_227 (k_X12_wantSign _ V hL 59 X23) cf_X12 (at_120 hL) (by decide) ⟨Nat.zero_le _, Nat.zero_le _⟩ rfl rfl ⟨Nat.le_of_ble_eq_true rfl, Nat.le_of_ble_eq_true rfl⟩ (Nat.le_of_ble_eq_true rfl) dX12_river_68 (fun r24 X25 => ?_)
          refine g_if_eq (tgt := 78) hC dX12_river_71 (by decide) ?_ ?_
          · refine g_sub [0] rfl ?_
            exact gB_X12_river_78 hC hR hL  X25
          · refine g_iconst (v := vI 1) hC dX12_river_74 rfl ?_
            refine g_goto (tgt := 79) hC dX12_river_75 (by decide) ?_
            refine g_sub [0] rfl ?_
            exact gB_X12_river_79 hC hR hL  1 X25
  · refine g_aload_n (q := 0) hC dX12_river_11 rfl rfl rfl ?_
    refine g_iconst (v := vI 1) hC dX12_river_12 rfl ?_
    refine g_callVI (As := [vI 1]) hC mv_X12_refuse wml_RX12_185 (k_X12_refuse _ V hL 1 X2) cf_X12 (at_120 hL) (by decide) ⟨Nat.zero_le _, Nat.zero_le _⟩ rfl rfl ⟨Nat.le_of_ble_eq_true rfl, Nat.le_of_ble_eq_true rfl⟩ (Nat.le_of_ble_eq_true rfl) dX12_river_13 (fun r26 X27 => ?_)
    exact g_iret hC hR dX12_river_16
def f_X12_ruleName (p1 : Int) (X : Mem) : Option (Int × Mem) :=
  cl (f_X12_isName 33 X) fun r1 X2 =>
  c1 r1 <| if ¬ r1 = 0 then
    ax 2200 2 <|
    cl (f_X12_findHere 0 (X2 121 2) X2) fun r3 X4 =>
    c2 r3 ((-1)) <| if ¬ r3 = ((-1)) then
      ax 2200 p1 <| bd (ms X4 121 p1 r3) fun X5 =>
      cl (f_X12_ahead X5) fun _ X7 =>
      some (1, X7)
    else
      cl (f_X12_fails 3 X4) fun r8 X9 =>
      cz r8 (some (r8, X9))
  else
    cl (f_X12_fails 2 X2) fun r10 X11 =>
    cz r10 (some (r10, X11))
set_option maxRecDepth 20000 in
theorem k_X12_ruleName (l : Launch) (V : Ev) {L : List Kd} (hL : LKm L) (p1 : Int) (X : Mem)  : Kt l V L yX12_ruleName (.code yX12_ruleName cX12_ruleName 3 (some .boolean)) 7 207 [vR V.1 120, vI p1] rI X (f_X12_ruleName p1 X) := by
  refine kt_of (own := RX12) (lv0 := [(0, vR V.1 120), (1, vI p1)]) (by decide) rfl (Nat.le_of_ble_eq_true rfl) rfl (fun C hCl hC hR => ?_)
  subst hCl
  unfold f_X12_ruleName
  refine g_aload_n (q := 0) hC dX12_ruleName_0 rfl rfl rfl ?_
  refine g_ldcS (i := 33) hC (by decide) rfl dX12_ruleName_1 ?_
  refine g_callVI (As := [vS V 33]) hC mv_X12_isName wml_RX12_196 (k_X12_isName _ V hL 33 X (by decide)) cf_X12 (at_120 hL) (by decide) ⟨Nat.zero_le _, Nat.zero_le _⟩ rfl rfl ⟨Nat.le_of_ble_eq_true rfl, Nat.le_of_ble_eq_true rfl⟩ (Nat.le_of_ble_eq_true rfl) dX12_ruleName_3 (fun r1 X2 => ?_)
  refine g_if_ne (tgt := 15) hC dX12_ruleName_6 (by decide) ?_ ?_
  · refine g_aload_n (q := 0) hC dX12_ruleName_15 rfl rfl rfl ?_
    refine g_iconst (v := vI 0) hC dX12_ruleName_16 rfl ?_
    refine g_aload_n (q := 0) hC dX12_ruleName_17 rfl rfl rfl ?_
    refine g_getS (k := 0) hC cf_X12 (at_120 hL) (by decide) rfl (by decide) (by decide) wf_RX12_7 dX12_ruleName_18 ?_
    refine g_iconst (v := vI 2) hC dX12_ruleName_21 rfl ?_
    refine g_iald hC (at_121 hL) (by decide) dX12_ruleName_22 ?_
    refine g_callVI (As := [vI 0, vI (X2 121 2)]) hC mv_X12_findHere wml_RX12_200 (k_X12_findHere _ V hL 0 (X2 121 2) X2) cf_X12 (at_120 hL) (by decide) ⟨Nat.zero_le _, Nat.zero_le _⟩ rfl rfl ⟨Nat.le_of_ble_eq_true rfl, Nat.le_of_ble_eq_true rfl⟩ (Nat.le_of_ble_eq_true rfl) dX12_ruleName_23 (fun r3 X4 => ?_)
    refine g_istore_n hC dX12_ruleName_26 rfl (by decide) rfl ?_
    refine g_iload_n (q := 0) hC dX12_ruleName_27 rfl rfl ?_
    refine g_iconst (v := vI (-1)) hC dX12_ruleName_28 rfl ?_
    refine g_icmp_ne (tgt := 38) hC dX12_ruleName_29 (by decide) ?_ ?_
    · refine g_aload_n (q := 1) hC dX12_ruleName_38 rfl rfl rfl ?_
      refine g_getS (k := 0) hC cf_X12 (at_120 hL) (by decide) rfl (by decide) (by decide) wf_RX12_7 dX12_ruleName_39 ?_
      refine g_iload_n (q := 2) hC dX12_ruleName_42 rfl rfl ?_
      refine g_iload_n (q := 0) hC dX12_ruleName_43 rfl rfl ?_
      refine g_iast hC (at_121 hL) (by decide) dX12_ruleName_44 (fun X5 => ?_)
      refine g_aload_n (q := 1) hC dX12_ruleName_45 rfl rfl rfl ?_
      refine g_callVV (As := []) hC mv_X12_ahead wml_RX12_168 (k_X12_ahead _ V hL X5) cf_X12 (at_120 hL) (by decide) ⟨Nat.zero_le _, Nat.zero_le _⟩ rfl rfl ⟨Nat.le_of_ble_eq_true rfl, Nat.le_of_ble_eq_true rfl⟩ (Nat.le_of_ble_eq_true rfl) dX12_ruleName_46 (fun _ X7 => ?_)
      refine g_iconst (v := vI 1) hC dX12_ruleName_49 rfl ?_
      exact g_zret1 hC hR (by decide) dX12_ruleName_50
    · refine g_aload_n (q := 1) hC dX12_ruleName_32 rfl rfl rfl ?_
      refine g_iconst (v := vI 3) hC dX12_ruleName_33 rfl ?_
      refine g_callVI (As := [vI 3]) hC mv_X12_fails wml_RX12_174 (k_X12_fails _ V hL 3 X4) cf_X12 (at_120 hL) (by decide) ⟨Nat.zero_le _, Nat.zero_le _⟩ rfl rfl ⟨Nat.le_of_ble_eq_true rfl, Nat.le_of_ble_eq_true rfl⟩ (Nat.le_of_ble_eq_true rfl) dX12_ruleName_34 (fun r8 X9 => ?_)
      exact g_zret hC hR dX12_ruleName_37
  · refine g_aload_n (q := 0) hC dX12_ruleName_9 rfl rfl rfl ?_
    refine g_iconst (v := vI 2) hC dX12_ruleName_10 rfl ?_
    refine g_callVI (As := [vI 2]) hC mv_X12_fails wml_RX12_174 (k_X12_fails _ V hL 2 X2) cf_X12 (at_120 hL) (by decide) ⟨Nat.zero_le _, Nat.zero_le _⟩ rfl rfl ⟨Nat.le_of_ble_eq_true rfl, Nat.le_of_ble_eq_true rfl⟩ (Nat.le_of_ble_eq_true rfl) dX12_ruleName_11 (fun r10 X11 => ?_)
    exact g_zret hC hR dX12_ruleName_14
def B_X12_step_48  (X : Mem) : Option (Int × Mem) :=
  cl (f_X12_fails 2 X) fun r5 X6 =>
  cz r5 (some (r5, X6))
def B_X12_step_419  (X : Mem) : Option (Int × Mem) :=
  cl (f_X12_wantSign 59 X) fun r14 X15 =>
  cz r14 (some (r14, X15))
def B_X12_step_363 (x1 : Int) (x2 : Int) (x3 : Int) (X : Mem) : Option (Int × Mem) :=
  c2 x1 6 <| if ¬ x1 = 6 then
    B_X12_step_419   X
  else
    bd (ms X 120 24 ((X 120 24) - 1)) fun X16 =>
    ax 3 (X16 120 24) <|
    ax 2200 (x3 + 3) <| bd (ms X16 121 (x3 + 3) (X16 129 (X16 120 24))) fun X17 =>
    ax 3 (X17 120 24) <|
    ax 2200 ((1960 + (4 * (X17 129 (X17 120 24)))) + 3) <| bd (ms X17 121 ((1960 + (4 * (X17 129 (X17 120 24)))) + 3) x2) fun X18 =>
    B_X12_step_419   X18
def B_X12_step_331 (x1 : Int) (x2 : Int) (x3 : Int) (x4 : Int) (x5 : Int) (X : Mem) : Option (Int × Mem) :=
  c1 x5 <| if ¬ x5 = 0 then
    c1 x4 <| if x4 = 0 then
      B_X12_step_363   x1 x2 x3 X
    else
      ax 3 (X 120 24) <| bd (ms X 129 (X 120 24) x2) fun X19 =>
      bd (ms X19 120 24 ((X19 120 24) + 1)) fun X20 =>
      B_X12_step_363   x1 x2 x3 X20
  else
    some (0, X)
def B_X12_step_329 (x1 : Int) (x2 : Int) (x3 : Int) (x4 : Int) (s0 : Int) (X : Mem) : Option (Int × Mem) :=
  B_X12_step_331   x1 x2 x3 x4 s0 X
def B_X12_step_328 (x1 : Int) (x2 : Int) (x3 : Int) (x4 : Int) (X : Mem) : Option (Int × Mem) :=
  B_X12_step_329   x1 x2 x3 x4 0 X
def B_X12_step_311 (x1 : Int) (x2 : Int) (x3 : Int) (x4 : Int) (X : Mem) : Option (Int × Mem) :=
  cl (f_X12_number (x3 + 2) 0 16 X) fun r26 X27 =>
  c1 r26 <| if r26 = 0 then
    B_X12_step_328   x1 x2 x3 x4 X27
  else
    B_X12_step_329   x1 x2 x3 x4 1 X27
def B_X12_step_253 (x1 : Int) (x2 : Int) (x3 : Int) (x4 : Int) (x5 : Int) (X : Mem) : Option (Int × Mem) :=
  c2 x1 4 <| if ¬ x1 = 4 then
    B_X12_step_331   x1 x2 x3 x4 x5 X
  else
    cl (f_X12_inWords 34 X) fun r21 X22 =>
    c2 r21 9 <| if 9 ≤ r21 then
      ax 2200 x3 <| bd (ms X22 121 x3 (40 + r21)) fun X23 =>
      cl (f_X12_ahead X23) fun _ X25 =>
      c2 r21 11 <| if r21 = 11 then
        B_X12_step_311   x1 x2 x3 x4 X25
      else
        cl (f_X12_ruleName (x3 + 1) X25) fun r28 X29 =>
        c1 r28 <| if r28 = 0 then
          B_X12_step_328   x1 x2 x3 x4 X29
        else
          B_X12_step_311   x1 x2 x3 x4 X29
    else
      cl (f_X12_fails 2 X22) fun r30 X31 =>
      cz r30 (some (r30, X31))
def B_X12_step_236 (x1 : Int) (x2 : Int) (x3 : Int) (x4 : Int) (x5 : Int) (X : Mem) : Option (Int × Mem) :=
  c2 x1 5 <| if ¬ x1 = 5 then
    B_X12_step_253   x1 x2 x3 x4 x5 X
  else
    cl (f_X12_number (x3 + 2) 1 9 X) fun r32 X33 =>
    B_X12_step_253   x1 x2 x3 x4 r32 X33
def B_X12_step_219 (x1 : Int) (x2 : Int) (x3 : Int) (x4 : Int) (x5 : Int) (X : Mem) : Option (Int × Mem) :=
  c2 x1 3 <| if ¬ x1 = 3 then
    B_X12_step_236   x1 x2 x3 x4 x5 X
  else
    cl (f_X12_number (x3 + 2) 0 9 X) fun r34 X35 =>
    B_X12_step_236   x1 x2 x3 x4 r34 X35
def B_X12_step_202 (x1 : Int) (x2 : Int) (x3 : Int) (x4 : Int) (x5 : Int) (X : Mem) : Option (Int × Mem) :=
  c2 x1 2 <| if ¬ x1 = 2 then
    B_X12_step_219   x1 x2 x3 x4 x5 X
  else
    cl (f_X12_number (x3 + 2) 1 9 X) fun r36 X37 =>
    B_X12_step_219   x1 x2 x3 x4 r36 X37
def B_X12_step_193 (x1 : Int) (x2 : Int) (x3 : Int) (x4 : Int) (X : Mem) : Option (Int × Mem) :=
  cl (f_X12_ruleName (x3 + 1) X) fun r12 X13 =>
  B_X12_step_202   x1 x2 x3 x4 r12 X13
def B_X12_step_158 (x1 : Int) (x2 : Int) (x3 : Int) (x4 : Int) (X : Mem) : Option (Int × Mem) :=
  ax 2200 x3 <| bd (ms X 121 x3 x1) fun X8 =>
  ax 2200 1774 <|
  ax 2200 1774 <| bd (ms X8 121 1774 ((X8 121 1774) + 1)) fun X9 =>
  cl (f_X12_ahead X9) fun _ X11 =>
  c1 x1 <| if x1 = 0 then
    B_X12_step_193   x1 x2 x3 x4 X11
  else
    c2 x1 1 <| if ¬ x1 = 1 then
      B_X12_step_202   x1 x2 x3 x4 1 X11
    else
      B_X12_step_193   x1 x2 x3 x4 X11
def L_X12_step_136 : Nat → Int → Int → Int → Int → Int → Mem → Option (Int × Mem)
  | 0, _, _, _, _, _, _ => none
  | n + 1, x1, x2, x3, x4, x5, X =>
    c2 x5 4 <| if 4 ≤ x5 then
      B_X12_step_158   x1 x2 x3 x4 X
    else
      ax 2200 (x3 + x5) <| bd (ms X 121 (x3 + x5) 0) fun X38 =>
      L_X12_step_136   n x1 x2 x3 x4 (x5 + 1) X38
def B_X12_step_129 (x1 : Int) (x2 : Int) (x3 : Int) (x4 : Int) (s0 : Int) (s1 : Int) (X : Mem) : Option (Int × Mem) :=
  bd (ms X 120 25 (s1 + s0)) fun X7 =>
  L_X12_step_136   KF x1 x2 x3 x4 1 X7
def B_X12_step_113 (x1 : Int) (x2 : Int) (x3 : Int) (x4 : Int) (X : Mem) : Option (Int × Mem) :=
  c2 x1 6 <| if ¬ x1 = 6 then
    B_X12_step_129   x1 x2 x3 x4 1 (X 120 25) X
  else
    B_X12_step_129   x1 x2 x3 x4 0 (X 120 25) X
def B_X12_step_93 (x1 : Int) (x2 : Int) (x3 : Int) (x4 : Int) (X : Mem) : Option (Int × Mem) :=
  c1 x4 <| if x4 = 0 then
    B_X12_step_113   x1 x2 x3 x4 X
  else
    c2 (X 120 24) 3 <| if ¬ (X 120 24) = 3 then
      B_X12_step_113   x1 x2 x3 x4 X
    else
      cl (f_X12_fails 7 X) fun r39 X40 =>
      cz r39 (some (r39, X40))
def B_X12_step_69 (x1 : Int) (x2 : Int) (x3 : Int) (s0 : Int) (X : Mem) : Option (Int × Mem) :=
  c2 x1 6 <| if x1 = 6 then
    B_X12_step_93   x1 x2 x3 s0 X
  else
    c2 (X 120 25) 30 <| if ¬ (X 120 25) = 30 then
      B_X12_step_93   x1 x2 x3 s0 X
    else
      cl (f_X12_fails 6 X) fun r41 X42 =>
      cz r41 (some (r41, X42))
def B_X12_step_64 (x1 : Int) (x2 : Int) (x3 : Int) (X : Mem) : Option (Int × Mem) :=
  B_X12_step_69   x1 x2 x3 1 X
def B_X12_step_54 (x1 : Int) (x2 : Int) (x3 : Int) (X : Mem) : Option (Int × Mem) :=
  c2 x1 4 <| if x1 = 4 then
    B_X12_step_64   x1 x2 x3 X
  else
    c2 x1 5 <| if ¬ x1 = 5 then
      B_X12_step_69   x1 x2 x3 0 X
    else
      B_X12_step_64   x1 x2 x3 X
def f_X12_step  (X : Mem) : Option (Int × Mem) :=
  cl (f_X12_inWords 34 X) fun r1 X2 =>
  ax 2200 1774 <|
  bd (X2 121 1774) fun v3 =>
  bd (1960 + (4 * v3)) fun v4 =>
  c2 r1 ((-1)) <| if r1 = ((-1)) then
    B_X12_step_48   X2
  else
    c2 r1 8 <| if 8 < r1 then
      B_X12_step_48   X2
    else
      c2 r1 6 <| if ¬ r1 = 6 then
        B_X12_step_54   r1 v3 v4 X2
      else
        c1 (X2 120 24) <| if ¬ (X2 120 24) = 0 then
          B_X12_step_54   r1 v3 v4 X2
        else
          B_X12_step_48   X2
set_option maxRecDepth 20000 in
theorem gB_X12_step_48 {C : Cx} {V : Ev} {L : List Kd} (hC : Ok C V cX12_step RX12 7 8 229) (hR : Rt C V L (some .boolean) rI) (hL : LKm L)  (X : Mem)  : G C V L 0 0 7 48 [(0, vR V.1 120)] [] X (B_X12_step_48    X) := by
  unfold B_X12_step_48
  refine g_aload_n (q := 0) hC dX12_step_48 rfl rfl rfl ?_
  refine g_iconst (v := vI 2) hC dX12_step_49 rfl ?_
  refine g_callVI (As := [vI 2]) hC mv_X12_fails wml_RX12_174 (k_X12_fails _ V hL 2 X) cf_X12 (at_120 hL) (by decide) ⟨Nat.zero_le _, Nat.zero_le _⟩ rfl rfl ⟨Nat.le_of_ble_eq_true rfl, Nat.le_of_ble_eq_true rfl⟩ (Nat.le_of_ble_eq_true rfl) dX12_step_50 (fun r5 X6 => ?_)
  exact g_zret hC hR dX12_step_53
set_option maxRecDepth 20000 in
theorem gB_X12_step_419 {C : Cx} {V : Ev} {L : List Kd} (hC : Ok C V cX12_step RX12 7 8 229) (hR : Rt C V L (some .boolean) rI) (hL : LKm L)  (X : Mem)  : G C V L 0 0 7 419 [(0, vR V.1 120)] [] X (B_X12_step_419    X) := by
  unfold B_X12_step_419
  refine g_aload_n (q := 0) hC dX12_step_419 rfl rfl rfl ?_
  refine g_bipush (v := vI 59) hC dX12_step_420 rfl ?_
  refine g_callVI (As := [vI 59]) hC mv_X12_wantSign wml_RX12_227 (k_X12_wantSign _ V hL 59 X) cf_X12 (at_120 hL) (by decide) ⟨Nat.zero_le _, Nat.zero_le _⟩ rfl rfl ⟨Nat.le_of_ble_eq_true rfl, Nat.le_of_ble_eq_true rfl⟩ (Nat.le_of_ble_eq_true rfl) dX12_step_422 (fun r14 X15 => ?_)
  exact g_zret hC hR dX12_step_425
set_option maxRecDepth 20000 in
theorem gB_X12_step_363 {C : Cx} {V : Ev} {L : List Kd} (hC : Ok C V cX12_step RX12 7 8 229) (hR : Rt C V L (some .boolean) rI) (hL : LKm L) (x1 : Int) (x2 : Int) (x3 : Int) (X : Mem)  : G C V L 0 0 7 363 [(0, vR V.1 120), (1, vI x1), (2, vI x2), (3, vI x3)] [] X (B_X12_step_363   x1 x2 x3 X) := by
  unfold B_X12_step_363
  refine g_iload_n (q := 1) hC dX12_step_363 rfl rfl ?_
  refine g_bipush (v := vI 6) hC dX12_step_364 rfl ?_
  refine g_icmp_ne (tgt := 419) hC dX12_step_366 (by decide) ?_ ?_
  · refine g_sub [0] rfl ?_
    exact gB_X12_step_419 hC hR hL  X
  · refine g_aload_n (q := 0) hC dX12_step_369 rfl rfl rfl ?_
    refine g_dup hC dX12_step_370 rfl ?_
    refine g_getI (k := 24) (kz := 24) hC cf_X12 (at_120 hL) (by decide) rfl (by decide) rfl wf_RX12_251 dX12_step_371 ?_
    refine g_iconst (v := vI 1) hC dX12_step_374 rfl ?_
    refine g_isub hC dX12_step_375 ?_
    refine g_putI (k := 24) (kz := 24) hC cf_X12 (at_120 hL) (by decide) rfl (by decide) rfl wf_RX12_251 rfl rfl dX12_step_376 (fun X16 => ?_)
    refine g_aload_n (q := 0) hC dX12_step_379 rfl rfl rfl ?_
    refine g_getS (k := 0) hC cf_X12 (at_120 hL) (by decide) rfl (by decide) (by decide) wf_RX12_7 dX12_step_380 ?_
    refine g_iload_n (q := 3) hC dX12_step_383 rfl rfl ?_
    refine g_iconst (v := vI 3) hC dX12_step_384 rfl ?_
    refine g_iadd hC dX12_step_385 ?_
    refine g_aload_n (q := 0) hC dX12_step_386 rfl rfl rfl ?_
    refine g_getS (k := 23) hC cf_X12 (at_120 hL) (by decide) rfl (by decide) (by decide) wf_RX12_47 dX12_step_387 ?_
    refine g_aload_n (q := 0) hC dX12_step_390 rfl rfl rfl ?_
    refine g_getI (k := 24) (kz := 24) hC cf_X12 (at_120 hL) (by decide) rfl (by decide) rfl wf_RX12_251 dX12_step_391 ?_
    refine g_iald hC (at_129 hL) (by decide) dX12_step_394 ?_
    refine g_iast hC (at_121 hL) (by decide) dX12_step_395 (fun X17 => ?_)
    refine g_aload_n (q := 0) hC dX12_step_396 rfl rfl rfl ?_
    refine g_getS (k := 0) hC cf_X12 (at_120 hL) (by decide) rfl (by decide) (by decide) wf_RX12_7 dX12_step_397 ?_
    refine g_sipush (v := vI 1960) hC dX12_step_400 rfl ?_
    refine g_iconst (v := vI 4) hC dX12_step_403 rfl ?_
    refine g_aload_n (q := 0) hC dX12_step_404 rfl rfl rfl ?_
    refine g_getS (k := 23) hC cf_X12 (at_120 hL) (by decide) rfl (by decide) (by decide) wf_RX12_47 dX12_step_405 ?_
    refine g_aload_n (q := 0) hC dX12_step_408 rfl rfl rfl ?_
    refine g_getI (k := 24) (kz := 24) hC cf_X12 (at_120 hL) (by decide) rfl (by decide) rfl wf_RX12_251 dX12_step_409 ?_
    refine g_iald hC (at_129 hL) (by decide) dX12_step_412 ?_
    refine g_imul hC dX12_step_413 ?_
    refine g_iadd hC dX12_step_414 ?_
    refine g_iconst (v := vI 3) hC dX12_step_415 rfl ?_
    refine g_iadd hC dX12_step_416 ?_
    refine g_iload_n (q := 2) hC dX12_step_417 rfl rfl ?_
    refine g_iast hC (at_121 hL) (by decide) dX12_step_418 (fun X18 => ?_)
    refine g_sub [0] rfl ?_
    exact gB_X12_step_419 hC hR hL  X18
set_option maxRecDepth 20000 in
theorem gB_X12_step_331 {C : Cx} {V : Ev} {L : List Kd} (hC : Ok C V cX12_step RX12 7 8 229) (hR : Rt C V L (some .boolean) rI) (hL : LKm L) (x1 : Int) (x2 : Int) (x3 : Int) (x4 : Int) (x5 : Int) (X : Mem)  : G C V L 0 0 7 331 [(0, vR V.1 120), (1, vI x1), (2, vI x2), (3, vI x3), (4, vI x4), (5, vI x5)] [] X (B_X12_step_331   x1 x2 x3 x4 x5 X) := by
  unfold B_X12_step_331
  refine g_iload (q := 5) hC dX12_step_331 rfl ?_
  refine g_if_ne (tgt := 338) hC dX12_step_333 (by decide) ?_ ?_
  · refine g_iload (q := 4) hC dX12_step_338 rfl ?_
    refine g_if_eq (tgt := 363) hC dX12_step_340 (by decide) ?_ ?_
    · refine g_sub [0, 1, 2, 3] rfl ?_
      exact gB_X12_step_363 hC hR hL  x1 x2 x3 X
    · refine g_aload_n (q := 0) hC dX12_step_343 rfl rfl rfl ?_
      refine g_getS (k := 23) hC cf_X12 (at_120 hL) (by decide) rfl (by decide) (by decide) wf_RX12_47 dX12_step_344 ?_
      refine g_aload_n (q := 0) hC dX12_step_347 rfl rfl rfl ?_
      refine g_getI (k := 24) (kz := 24) hC cf_X12 (at_120 hL) (by decide) rfl (by decide) rfl wf_RX12_251 dX12_step_348 ?_
      refine g_iload_n (q := 2) hC dX12_step_351 rfl rfl ?_
      refine g_iast hC (at_129 hL) (by decide) dX12_step_352 (fun X19 => ?_)
      refine g_aload_n (q := 0) hC dX12_step_353 rfl rfl rfl ?_
      refine g_dup hC dX12_step_354 rfl ?_
      refine g_getI (k := 24) (kz := 24) hC cf_X12 (at_120 hL) (by decide) rfl (by decide) rfl wf_RX12_251 dX12_step_355 ?_
      refine g_iconst (v := vI 1) hC dX12_step_358 rfl ?_
      refine g_iadd hC dX12_step_359 ?_
      refine g_putI (k := 24) (kz := 24) hC cf_X12 (at_120 hL) (by decide) rfl (by decide) rfl wf_RX12_251 rfl rfl dX12_step_360 (fun X20 => ?_)
      refine g_sub [0, 1, 2, 3] rfl ?_
      exact gB_X12_step_363 hC hR hL  x1 x2 x3 X20
  · refine g_iconst (v := vI 0) hC dX12_step_336 rfl ?_
    exact g_zret1 hC hR (by decide) dX12_step_337
set_option maxRecDepth 20000 in
theorem gB_X12_step_329 {C : Cx} {V : Ev} {L : List Kd} (hC : Ok C V cX12_step RX12 7 8 229) (hR : Rt C V L (some .boolean) rI) (hL : LKm L) (x1 : Int) (x2 : Int) (x3 : Int) (x4 : Int) (s0 : Int) (X : Mem)  : G C V L 0 0 7 329 [(0, vR V.1 120), (1, vI x1), (2, vI x2), (3, vI x3), (4, vI x4)] [vI s0] X (B_X12_step_329   x1 x2 x3 x4 s0 X) := by
  unfold B_X12_step_329
  refine g_istore hC dX12_step_329 (by decide) rfl ?_
  refine g_sub [1, 2, 3, 4, 5, 0] rfl ?_
  exact gB_X12_step_331 hC hR hL  x1 x2 x3 x4 s0 X
set_option maxRecDepth 20000 in
theorem gB_X12_step_328 {C : Cx} {V : Ev} {L : List Kd} (hC : Ok C V cX12_step RX12 7 8 229) (hR : Rt C V L (some .boolean) rI) (hL : LKm L) (x1 : Int) (x2 : Int) (x3 : Int) (x4 : Int) (X : Mem)  : G C V L 0 0 7 328 [(0, vR V.1 120), (1, vI x1), (2, vI x2), (3, vI x3), (4, vI x4)] [] X (B_X12_step_328   x1 x2 x3 x4 X) := by
  unfold B_X12_step_328
  refine g_iconst (v := vI 0) hC dX12_step_328 rfl ?_
  exact gB_X12_step_329 hC hR hL  x1 x2 x3 x4 0 X
set_option maxRecDepth 20000 in
theorem gB_X12_step_311 {C : Cx} {V : Ev} {L : List Kd} (hC : Ok C V cX12_step RX12 7 8 229) (hR : Rt C V L (some .boolean) rI) (hL : LKm L) (x1 : Int) (x2 : Int) (x3 : Int) (x4 : Int) (X : Mem)  : G C V L 0 0 7 311 [(0, vR V.1 120), (1, vI x1), (2, vI x2), (3, vI x3), (4, vI x4)] [] X (B_X12_step_311   x1 x2 x3 x4 X) := by
  unfold B_X12_step_311
  refine g_aload_n (q := 0) hC dX12_step_311 rfl rfl rfl ?_
  refine g_iload_n (q := 3) hC dX12_step_312 rfl rfl ?_
  refine g_iconst (v := vI 2) hC dX12_step_313 rfl ?_
  refine g_iadd hC dX12_step_314 ?_
  refine g_iconst (v := vI 0) hC dX12_step_315 rfl ?_
  refine g_bipush (v := vI 16) hC dX12_step_316 rfl ?_
  refine g_callVI (As := [vI (x3 + 2), vI 0, vI 16]) hC mv_X12_number wml_RX12_207 (k_X12_number _ V hL (x3 + 2) 0 16 X) cf_X12 (at_120 hL) (by decide) ⟨Nat.zero_le _, Nat.zero_le _⟩ rfl rfl ⟨Nat.le_of_ble_eq_true rfl, Nat.le_of_ble_eq_true rfl⟩ (Nat.le_of_ble_eq_true rfl) dX12_step_318 (fun r26 X27 => ?_)
  refine g_if_eq (tgt := 328) hC dX12_step_321 (by decide) ?_ ?_
  · exact gB_X12_step_328 hC hR hL  x1 x2 x3 x4 X27
  · refine g_iconst (v := vI 1) hC dX12_step_324 rfl ?_
    refine g_goto (tgt := 329) hC dX12_step_325 (by decide) ?_
    exact gB_X12_step_329 hC hR hL  x1 x2 x3 x4 1 X27
set_option maxRecDepth 20000 in
theorem gB_X12_step_253 {C : Cx} {V : Ev} {L : List Kd} (hC : Ok C V cX12_step RX12 7 8 229) (hR : Rt C V L (some .boolean) rI) (hL : LKm L) (x1 : Int) (x2 : Int) (x3 : Int) (x4 : Int) (x5 : Int) (X : Mem)  : G C V L 0 0 7 253 [(0, vR V.1 120), (1, vI x1), (2, vI x2), (3, vI x3), (4, vI x4), (5, vI x5)] [] X (B_X12_step_253   x1 x2 x3 x4 x5 X) := by
  unfold B_X12_step_253
  refine g_iload_n (q := 1) hC dX12_step_253 rfl rfl ?_
  refine g_iconst (v := vI 4) hC dX12_step_254 rfl ?_
  refine g_icmp_ne (tgt := 331) hC dX12_step_255 (by decide) ?_ ?_
  · exact gB_X12_step_331 hC hR hL  x1 x2 x3 x4 x5 X
  · refine g_aload_n (q := 0) hC dX12_step_258 rfl rfl rfl ?_
    refine g_ldcS (i := 34) hC (by decide) rfl dX12_step_259 ?_
    refine g_callVI (As := [vS V 34]) hC mv_X12_inWords wml_RX12_177 (k_X12_inWords _ V hL 34 X (by decide)) cf_X12 (at_120 hL) (by decide) ⟨Nat.zero_le _, Nat.zero_le _⟩ rfl rfl ⟨Nat.le_of_ble_eq_true rfl, Nat.le_of_ble_eq_true rfl⟩ (Nat.le_of_ble_eq_true rfl) dX12_step_261 (fun r21 X22 => ?_)
    refine g_istore hC dX12_step_264 (by decide) rfl ?_
    refine g_iload (q := 0) hC dX12_step_266 rfl ?_
    refine g_bipush (v := vI 9) hC dX12_step_268 rfl ?_
    refine g_icmp_ge (tgt := 279) hC dX12_step_270 (by decide) ?_ ?_
    · refine g_aload_n (q := 1) hC dX12_step_279 rfl rfl rfl ?_
      refine g_getS (k := 0) hC cf_X12 (at_120 hL) (by decide) rfl (by decide) (by decide) wf_RX12_7 dX12_step_280 ?_
      refine g_iload_n (q := 4) hC dX12_step_283 rfl rfl ?_
      refine g_bipush (v := vI 40) hC dX12_step_284 rfl ?_
      refine g_iload (q := 0) hC dX12_step_286 rfl ?_
      refine g_iadd hC dX12_step_288 ?_
      refine g_iast hC (at_121 hL) (by decide) dX12_step_289 (fun X23 => ?_)
      refine g_aload_n (q := 1) hC dX12_step_290 rfl rfl rfl ?_
      refine g_callVV (As := []) hC mv_X12_ahead wml_RX12_168 (k_X12_ahead _ V hL X23) cf_X12 (at_120 hL) (by decide) ⟨Nat.zero_le _, Nat.zero_le _⟩ rfl rfl ⟨Nat.le_of_ble_eq_true rfl, Nat.le_of_ble_eq_true rfl⟩ (Nat.le_of_ble_eq_true rfl) dX12_step_291 (fun _ X25 => ?_)
      refine g_iload (q := 0) hC dX12_step_294 rfl ?_
      refine g_bipush (v := vI 11) hC dX12_step_296 rfl ?_
      refine g_icmp_eq (tgt := 311) hC dX12_step_298 (by decide) ?_ ?_
      · refine g_sub [1, 2, 3, 4, 5] rfl ?_
        exact gB_X12_step_311 hC hR hL  x1 x2 x3 x4 X25
      · refine g_aload_n (q := 1) hC dX12_step_301 rfl rfl rfl ?_
        refine g_iload_n (q := 4) hC dX12_step_302 rfl rfl ?_
        refine g_iconst (v := vI 1) hC dX12_step_303 rfl ?_
        refine g_iadd hC dX12_step_304 ?_
        refine g_callVI (As := [vI (x3 + 1)]) hC mv_X12_ruleName wml_RX12_257 (k_X12_ruleName _ V hL (x3 + 1) X25) cf_X12 (at_120 hL) (by decide) ⟨Nat.zero_le _, Nat.zero_le _⟩ rfl rfl ⟨Nat.le_of_ble_eq_true rfl, Nat.le_of_ble_eq_true rfl⟩ (Nat.le_of_ble_eq_true rfl) dX12_step_305 (fun r28 X29 => ?_)
        refine g_if_eq (tgt := 328) hC dX12_step_308 (by decide) ?_ ?_
        · refine g_sub [1, 2, 3, 4, 5] rfl ?_
          exact gB_X12_step_328 hC hR hL  x1 x2 x3 x4 X29
        · refine g_sub [1, 2, 3, 4, 5] rfl ?_
          exact gB_X12_step_311 hC hR hL  x1 x2 x3 x4 X29
    · refine g_aload_n (q := 1) hC dX12_step_273 rfl rfl rfl ?_
      refine g_iconst (v := vI 2) hC dX12_step_274 rfl ?_
      refine g_callVI (As := [vI 2]) hC mv_X12_fails wml_RX12_174 (k_X12_fails _ V hL 2 X22) cf_X12 (at_120 hL) (by decide) ⟨Nat.zero_le _, Nat.zero_le _⟩ rfl rfl ⟨Nat.le_of_ble_eq_true rfl, Nat.le_of_ble_eq_true rfl⟩ (Nat.le_of_ble_eq_true rfl) dX12_step_275 (fun r30 X31 => ?_)
      exact g_zret hC hR dX12_step_278
set_option maxRecDepth 20000 in
theorem gB_X12_step_236 {C : Cx} {V : Ev} {L : List Kd} (hC : Ok C V cX12_step RX12 7 8 229) (hR : Rt C V L (some .boolean) rI) (hL : LKm L) (x1 : Int) (x2 : Int) (x3 : Int) (x4 : Int) (x5 : Int) (X : Mem)  : G C V L 0 0 7 236 [(0, vR V.1 120), (1, vI x1), (2, vI x2), (3, vI x3), (4, vI x4), (5, vI x5)] [] X (B_X12_step_236   x1 x2 x3 x4 x5 X) := by
  unfold B_X12_step_236
  refine g_iload_n (q := 1) hC dX12_step_236 rfl rfl ?_
  refine g_iconst (v := vI 5) hC dX12_step_237 rfl ?_
  refine g_icmp_ne (tgt := 253) hC dX12_step_238 (by decide) ?_ ?_
  · exact gB_X12_step_253 hC hR hL  x1 x2 x3 x4 x5 X
  · refine g_aload_n (q := 0) hC dX12_step_241 rfl rfl rfl ?_
    refine g_iload_n (q := 3) hC dX12_step_242 rfl rfl ?_
    refine g_iconst (v := vI 2) hC dX12_step_243 rfl ?_
    refine g_iadd hC dX12_step_244 ?_
    refine g_iconst (v := vI 1) hC dX12_step_245 rfl ?_
    refine g_bipush (v := vI 9) hC dX12_step_246 rfl ?_
    refine g_callVI (As := [vI (x3 + 2), vI 1, vI 9]) hC mv_X12_number wml_RX12_207 (k_X12_number _ V hL (x3 + 2) 1 9 X) cf_X12 (at_120 hL) (by decide) ⟨Nat.zero_le _, Nat.zero_le _⟩ rfl rfl ⟨Nat.le_of_ble_eq_true rfl, Nat.le_of_ble_eq_true rfl⟩ (Nat.le_of_ble_eq_true rfl) dX12_step_248 (fun r32 X33 => ?_)
    refine g_istore hC dX12_step_251 (by decide) rfl ?_
    refine g_sub [1, 2, 3, 4, 5, 0] rfl ?_
    exact gB_X12_step_253 hC hR hL  x1 x2 x3 x4 r32 X33
set_option maxRecDepth 20000 in
theorem gB_X12_step_219 {C : Cx} {V : Ev} {L : List Kd} (hC : Ok C V cX12_step RX12 7 8 229) (hR : Rt C V L (some .boolean) rI) (hL : LKm L) (x1 : Int) (x2 : Int) (x3 : Int) (x4 : Int) (x5 : Int) (X : Mem)  : G C V L 0 0 7 219 [(0, vR V.1 120), (1, vI x1), (2, vI x2), (3, vI x3), (4, vI x4), (5, vI x5)] [] X (B_X12_step_219   x1 x2 x3 x4 x5 X) := by
  unfold B_X12_step_219
  refine g_iload_n (q := 1) hC dX12_step_219 rfl rfl ?_
  refine g_iconst (v := vI 3) hC dX12_step_220 rfl ?_
  refine g_icmp_ne (tgt := 236) hC dX12_step_221 (by decide) ?_ ?_
  · exact gB_X12_step_236 hC hR hL  x1 x2 x3 x4 x5 X
  · refine g_aload_n (q := 0) hC dX12_step_224 rfl rfl rfl ?_
    refine g_iload_n (q := 3) hC dX12_step_225 rfl rfl ?_
    refine g_iconst (v := vI 2) hC dX12_step_226 rfl ?_
    refine g_iadd hC dX12_step_227 ?_
    refine g_iconst (v := vI 0) hC dX12_step_228 rfl ?_
    refine g_bipush (v := vI 9) hC dX12_step_229 rfl ?_
    refine g_callVI (As := [vI (x3 + 2), vI 0, vI 9]) hC mv_X12_number wml_RX12_207 (k_X12_number _ V hL (x3 + 2) 0 9 X) cf_X12 (at_120 hL) (by decide) ⟨Nat.zero_le _, Nat.zero_le _⟩ rfl rfl ⟨Nat.le_of_ble_eq_true rfl, Nat.le_of_ble_eq_true rfl⟩ (Nat.le_of_ble_eq_true rfl) dX12_step_231 (fun r34 X35 => ?_)
    refine g_istore hC dX12_step_234 (by decide) rfl ?_
    refine g_sub [1, 2, 3, 4, 5, 0] rfl ?_
    exact gB_X12_step_236 hC hR hL  x1 x2 x3 x4 r34 X35
set_option maxRecDepth 20000 in
theorem gB_X12_step_202 {C : Cx} {V : Ev} {L : List Kd} (hC : Ok C V cX12_step RX12 7 8 229) (hR : Rt C V L (some .boolean) rI) (hL : LKm L) (x1 : Int) (x2 : Int) (x3 : Int) (x4 : Int) (x5 : Int) (X : Mem)  : G C V L 0 0 7 202 [(0, vR V.1 120), (1, vI x1), (2, vI x2), (3, vI x3), (4, vI x4), (5, vI x5)] [] X (B_X12_step_202   x1 x2 x3 x4 x5 X) := by
  unfold B_X12_step_202
  refine g_iload_n (q := 1) hC dX12_step_202 rfl rfl ?_
  refine g_iconst (v := vI 2) hC dX12_step_203 rfl ?_
  refine g_icmp_ne (tgt := 219) hC dX12_step_204 (by decide) ?_ ?_
  · exact gB_X12_step_219 hC hR hL  x1 x2 x3 x4 x5 X
  · refine g_aload_n (q := 0) hC dX12_step_207 rfl rfl rfl ?_
    refine g_iload_n (q := 3) hC dX12_step_208 rfl rfl ?_
    refine g_iconst (v := vI 2) hC dX12_step_209 rfl ?_
    refine g_iadd hC dX12_step_210 ?_
    refine g_iconst (v := vI 1) hC dX12_step_211 rfl ?_
    refine g_bipush (v := vI 9) hC dX12_step_212 rfl ?_
    refine g_callVI (As := [vI (x3 + 2), vI 1, vI 9]) hC mv_X12_number wml_RX12_207 (k_X12_number _ V hL (x3 + 2) 1 9 X) cf_X12 (at_120 hL) (by decide) ⟨Nat.zero_le _, Nat.zero_le _⟩ rfl rfl ⟨Nat.le_of_ble_eq_true rfl, Nat.le_of_ble_eq_true rfl⟩ (Nat.le_of_ble_eq_true rfl) dX12_step_214 (fun r36 X37 => ?_)
    refine g_istore hC dX12_step_217 (by decide) rfl ?_
    refine g_sub [1, 2, 3, 4, 5, 0] rfl ?_
    exact gB_X12_step_219 hC hR hL  x1 x2 x3 x4 r36 X37
set_option maxRecDepth 20000 in
theorem gB_X12_step_193 {C : Cx} {V : Ev} {L : List Kd} (hC : Ok C V cX12_step RX12 7 8 229) (hR : Rt C V L (some .boolean) rI) (hL : LKm L) (x1 : Int) (x2 : Int) (x3 : Int) (x4 : Int) (X : Mem)  : G C V L 0 0 7 193 [(0, vR V.1 120), (1, vI x1), (2, vI x2), (3, vI x3), (4, vI x4)] [] X (B_X12_step_193   x1 x2 x3 x4 X) := by
  unfold B_X12_step_193
  refine g_aload_n (q := 0) hC dX12_step_193 rfl rfl rfl ?_
  refine g_iload_n (q := 3) hC dX12_step_194 rfl rfl ?_
  refine g_iconst (v := vI 1) hC dX12_step_195 rfl ?_
  refine g_iadd hC dX12_step_196 ?_
  refine g_callVI (As := [vI (x3 + 1)]) hC mv_X12_ruleName wml_RX12_257 (k_X12_ruleName _ V hL (x3 + 1) X) cf_X12 (at_120 hL) (by decide) ⟨Nat.zero_le _, Nat.zero_le _⟩ rfl rfl ⟨Nat.le_of_ble_eq_true rfl, Nat.le_of_ble_eq_true rfl⟩ (Nat.le_of_ble_eq_true rfl) dX12_step_197 (fun r12 X13 => ?_)
  refine g_istore hC dX12_step_200 (by decide) rfl ?_
  refine g_sub [1, 2, 3, 4, 5, 0] rfl ?_
  exact gB_X12_step_202 hC hR hL  x1 x2 x3 x4 r12 X13
set_option maxRecDepth 20000 in
theorem gB_X12_step_158 {C : Cx} {V : Ev} {L : List Kd} (hC : Ok C V cX12_step RX12 7 8 229) (hR : Rt C V L (some .boolean) rI) (hL : LKm L) (x1 : Int) (x2 : Int) (x3 : Int) (x4 : Int) (X : Mem)  : G C V L 0 0 7 158 [(0, vR V.1 120), (1, vI x1), (2, vI x2), (3, vI x3), (4, vI x4)] [] X (B_X12_step_158   x1 x2 x3 x4 X) := by
  unfold B_X12_step_158
  refine g_aload_n (q := 0) hC dX12_step_158 rfl rfl rfl ?_
  refine g_getS (k := 0) hC cf_X12 (at_120 hL) (by decide) rfl (by decide) (by decide) wf_RX12_7 dX12_step_159 ?_
  refine g_iload_n (q := 3) hC dX12_step_162 rfl rfl ?_
  refine g_iload_n (q := 1) hC dX12_step_163 rfl rfl ?_
  refine g_iast hC (at_121 hL) (by decide) dX12_step_164 (fun X8 => ?_)
  refine g_aload_n (q := 0) hC dX12_step_165 rfl rfl rfl ?_
  refine g_getS (k := 0) hC cf_X12 (at_120 hL) (by decide) rfl (by decide) (by decide) wf_RX12_7 dX12_step_166 ?_
  refine g_sipush (v := vI 1774) hC dX12_step_169 rfl ?_
  refine g_dup2 hC dX12_step_172 rfl rfl ?_
  refine g_iald hC (at_121 hL) (by decide) dX12_step_173 ?_
  refine g_iconst (v := vI 1) hC dX12_step_174 rfl ?_
  refine g_iadd hC dX12_step_175 ?_
  refine g_iast hC (at_121 hL) (by decide) dX12_step_176 (fun X9 => ?_)
  refine g_aload_n (q := 0) hC dX12_step_177 rfl rfl rfl ?_
  refine g_callVV (As := []) hC mv_X12_ahead wml_RX12_168 (k_X12_ahead _ V hL X9) cf_X12 (at_120 hL) (by decide) ⟨Nat.zero_le _, Nat.zero_le _⟩ rfl rfl ⟨Nat.le_of_ble_eq_true rfl, Nat.le_of_ble_eq_true rfl⟩ (Nat.le_of_ble_eq_true rfl) dX12_step_178 (fun _ X11 => ?_)
  refine g_iconst (v := vI 1) hC dX12_step_181 rfl ?_
  refine g_istore hC dX12_step_182 (by decide) rfl ?_
  refine g_iload_n (q := 2) hC dX12_step_184 rfl rfl ?_
  refine g_if_eq (tgt := 193) hC dX12_step_185 (by decide) ?_ ?_
  · refine g_sub [1, 2, 3, 4, 5] rfl ?_
    exact gB_X12_step_193 hC hR hL  x1 x2 x3 x4 X11
  · refine g_iload_n (q := 2) hC dX12_step_188 rfl rfl ?_
    refine g_iconst (v := vI 1) hC dX12_step_189 rfl ?_
    refine g_icmp_ne (tgt := 202) hC dX12_step_190 (by decide) ?_ ?_
    · refine g_sub [1, 2, 3, 4, 5, 0] rfl ?_
      exact gB_X12_step_202 hC hR hL  x1 x2 x3 x4 1 X11
    · refine g_sub [1, 2, 3, 4, 5] rfl ?_
      exact gB_X12_step_193 hC hR hL  x1 x2 x3 x4 X11
set_option maxRecDepth 20000 in
theorem gL_X12_step_136 {C : Cx} {V : Ev} {L : List Kd} (hC : Ok C V cX12_step RX12 7 8 229) (hR : Rt C V L (some .boolean) rI) (hL : LKm L) : ∀ (n : Nat) (x1 : Int) (x2 : Int) (x3 : Int) (x4 : Int) (x5 : Int) (X : Mem), G C V L 0 0 7 136 [(0, vR V.1 120), (1, vI x1), (2, vI x2), (3, vI x3), (4, vI x4), (5, vI x5)] [] X (L_X12_step_136   n x1 x2 x3 x4 x5 X) := by
  intro n
  induction n with
  | zero => intro x1 x2 x3 x4 x5 X; exact g_none
  | succ n ih =>
    intro x1 x2 x3 x4 x5 X
    rw [L_X12_step_136]
    refine g_iload (q := 5) hC dX12_step_136 rfl ?_
    refine g_iconst (v := vI 4) hC dX12_step_138 rfl ?_
    refine g_icmp_ge (tgt := 158) hC dX12_step_139 (by decide) ?_ ?_
    · refine g_sub [0, 1, 2, 3, 4] rfl ?_
      exact gB_X12_step_158 hC hR hL  x1 x2 x3 x4 X
    · refine g_aload_n (q := 0) hC dX12_step_142 rfl rfl rfl ?_
      refine g_getS (k := 0) hC cf_X12 (at_120 hL) (by decide) rfl (by decide) (by decide) wf_RX12_7 dX12_step_143 ?_
      refine g_iload_n (q := 3) hC dX12_step_146 rfl rfl ?_
      refine g_iload (q := 5) hC dX12_step_147 rfl ?_
      refine g_iadd hC dX12_step_149 ?_
      refine g_iconst (v := vI 0) hC dX12_step_150 rfl ?_
      refine g_iast hC (at_121 hL) (by decide) dX12_step_151 (fun X38 => ?_)
      refine g_iinc (q := 5) hC dX12_step_152 rfl (by decide) rfl ?_
      refine g_goto (tgt := 136) hC dX12_step_155 (by decide) ?_
      refine g_sub [1, 2, 3, 4, 5, 0] rfl ?_
      exact ih x1 x2 x3 x4 (x5 + 1) X38
set_option maxRecDepth 20000 in
theorem gB_X12_step_129 {C : Cx} {V : Ev} {L : List Kd} (hC : Ok C V cX12_step RX12 7 8 229) (hR : Rt C V L (some .boolean) rI) (hL : LKm L) (x1 : Int) (x2 : Int) (x3 : Int) (x4 : Int) (s0 : Int) (s1 : Int) (X : Mem)  : G C V L 0 0 7 129 [(0, vR V.1 120), (1, vI x1), (2, vI x2), (3, vI x3), (4, vI x4)] [vI s0, vI s1, vR V.1 120] X (B_X12_step_129   x1 x2 x3 x4 s0 s1 X) := by
  unfold B_X12_step_129
  refine g_iadd hC dX12_step_129 ?_
  refine g_putI (k := 25) (kz := 25) hC cf_X12 (at_120 hL) (by decide) rfl (by decide) rfl wf_RX12_254 rfl rfl dX12_step_130 (fun X7 => ?_)
  refine g_iconst (v := vI 1) hC dX12_step_133 rfl ?_
  refine g_istore hC dX12_step_134 (by decide) rfl ?_
  refine g_sub [1, 2, 3, 4, 5, 0] rfl ?_
  exact gL_X12_step_136 hC hR hL  KF x1 x2 x3 x4 1 X7
set_option maxRecDepth 20000 in
theorem gB_X12_step_113 {C : Cx} {V : Ev} {L : List Kd} (hC : Ok C V cX12_step RX12 7 8 229) (hR : Rt C V L (some .boolean) rI) (hL : LKm L) (x1 : Int) (x2 : Int) (x3 : Int) (x4 : Int) (X : Mem)  : G C V L 0 0 7 113 [(0, vR V.1 120), (1, vI x1), (2, vI x2), (3, vI x3), (4, vI x4)] [] X (B_X12_step_113   x1 x2 x3 x4 X) := by
  unfold B_X12_step_113
  refine g_aload_n (q := 0) hC dX12_step_113 rfl rfl rfl ?_
  refine g_dup hC dX12_step_114 rfl ?_
  refine g_getI (k := 25) (kz := 25) hC cf_X12 (at_120 hL) (by decide) rfl (by decide) rfl wf_RX12_254 dX12_step_115 ?_
  refine g_iload_n (q := 1) hC dX12_step_118 rfl rfl ?_
  refine g_bipush (v := vI 6) hC dX12_step_119 rfl ?_
  refine g_icmp_ne (tgt := 128) hC dX12_step_121 (by decide) ?_ ?_
  · refine g_iconst (v := vI 1) hC dX12_step_128 rfl ?_
    exact gB_X12_step_129 hC hR hL  x1 x2 x3 x4 1 (X 120 25) X
  · refine g_iconst (v := vI 0) hC dX12_step_124 rfl ?_
    refine g_goto (tgt := 129) hC dX12_step_125 (by decide) ?_
    exact gB_X12_step_129 hC hR hL  x1 x2 x3 x4 0 (X 120 25) X
set_option maxRecDepth 20000 in
theorem gB_X12_step_93 {C : Cx} {V : Ev} {L : List Kd} (hC : Ok C V cX12_step RX12 7 8 229) (hR : Rt C V L (some .boolean) rI) (hL : LKm L) (x1 : Int) (x2 : Int) (x3 : Int) (x4 : Int) (X : Mem)  : G C V L 0 0 7 93 [(0, vR V.1 120), (1, vI x1), (2, vI x2), (3, vI x3), (4, vI x4)] [] X (B_X12_step_93   x1 x2 x3 x4 X) := by
  unfold B_X12_step_93
  refine g_iload (q := 4) hC dX12_step_93 rfl ?_
  refine g_if_eq (tgt := 113) hC dX12_step_95 (by decide) ?_ ?_
  · exact gB_X12_step_113 hC hR hL  x1 x2 x3 x4 X
  · refine g_aload_n (q := 0) hC dX12_step_98 rfl rfl rfl ?_
    refine g_getI (k := 24) (kz := 24) hC cf_X12 (at_120 hL) (by decide) rfl (by decide) rfl wf_RX12_251 dX12_step_99 ?_
    refine g_iconst (v := vI 3) hC dX12_step_102 rfl ?_
    refine g_icmp_ne (tgt := 113) hC dX12_step_103 (by decide) ?_ ?_
    · exact gB_X12_step_113 hC hR hL  x1 x2 x3 x4 X
    · refine g_aload_n (q := 0) hC dX12_step_106 rfl rfl rfl ?_
      refine g_bipush (v := vI 7) hC dX12_step_107 rfl ?_
      refine g_callVI (As := [vI 7]) hC mv_X12_fails wml_RX12_174 (k_X12_fails _ V hL 7 X) cf_X12 (at_120 hL) (by decide) ⟨Nat.zero_le _, Nat.zero_le _⟩ rfl rfl ⟨Nat.le_of_ble_eq_true rfl, Nat.le_of_ble_eq_true rfl⟩ (Nat.le_of_ble_eq_true rfl) dX12_step_109 (fun r39 X40 => ?_)
      exact g_zret hC hR dX12_step_112
set_option maxRecDepth 20000 in
theorem gB_X12_step_69 {C : Cx} {V : Ev} {L : List Kd} (hC : Ok C V cX12_step RX12 7 8 229) (hR : Rt C V L (some .boolean) rI) (hL : LKm L) (x1 : Int) (x2 : Int) (x3 : Int) (s0 : Int) (X : Mem)  : G C V L 0 0 7 69 [(0, vR V.1 120), (1, vI x1), (2, vI x2), (3, vI x3)] [vI s0] X (B_X12_step_69   x1 x2 x3 s0 X) := by
  unfold B_X12_step_69
  refine g_istore hC dX12_step_69 (by decide) rfl ?_
  refine g_iload_n (q := 2) hC dX12_step_71 rfl rfl ?_
  refine g_bipush (v := vI 6) hC dX12_step_72 rfl ?_
  refine g_icmp_eq (tgt := 93) hC dX12_step_74 (by decide) ?_ ?_
  · refine g_sub [1, 2, 3, 4, 0] rfl ?_
    exact gB_X12_step_93 hC hR hL  x1 x2 x3 s0 X
  · refine g_aload_n (q := 1) hC dX12_step_77 rfl rfl rfl ?_
    refine g_getI (k := 25) (kz := 25) hC cf_X12 (at_120 hL) (by decide) rfl (by decide) rfl wf_RX12_254 dX12_step_78 ?_
    refine g_bipush (v := vI 30) hC dX12_step_81 rfl ?_
    refine g_icmp_ne (tgt := 93) hC dX12_step_83 (by decide) ?_ ?_
    · refine g_sub [1, 2, 3, 4, 0] rfl ?_
      exact gB_X12_step_93 hC hR hL  x1 x2 x3 s0 X
    · refine g_aload_n (q := 1) hC dX12_step_86 rfl rfl rfl ?_
      refine g_bipush (v := vI 6) hC dX12_step_87 rfl ?_
      refine g_callVI (As := [vI 6]) hC mv_X12_fails wml_RX12_174 (k_X12_fails _ V hL 6 X) cf_X12 (at_120 hL) (by decide) ⟨Nat.zero_le _, Nat.zero_le _⟩ rfl rfl ⟨Nat.le_of_ble_eq_true rfl, Nat.le_of_ble_eq_true rfl⟩ (Nat.le_of_ble_eq_true rfl) dX12_step_89 (fun r41 X42 => ?_)
      exact g_zret hC hR dX12_step_92
set_option maxRecDepth 20000 in
theorem gB_X12_step_64 {C : Cx} {V : Ev} {L : List Kd} (hC : Ok C V cX12_step RX12 7 8 229) (hR : Rt C V L (some .boolean) rI) (hL : LKm L) (x1 : Int) (x2 : Int) (x3 : Int) (X : Mem)  : G C V L 0 0 7 64 [(0, vR V.1 120), (1, vI x1), (2, vI x2), (3, vI x3)] [] X (B_X12_step_64   x1 x2 x3 X) := by
  unfold B_X12_step_64
  refine g_iconst (v := vI 1) hC dX12_step_64 rfl ?_
  refine g_goto (tgt := 69) hC dX12_step_65 (by decide) ?_
  exact gB_X12_step_69 hC hR hL  x1 x2 x3 1 X
set_option maxRecDepth 20000 in
theorem gB_X12_step_54 {C : Cx} {V : Ev} {L : List Kd} (hC : Ok C V cX12_step RX12 7 8 229) (hR : Rt C V L (some .boolean) rI) (hL : LKm L) (x1 : Int) (x2 : Int) (x3 : Int) (X : Mem)  : G C V L 0 0 7 54 [(0, vR V.1 120), (1, vI x1), (2, vI x2), (3, vI x3)] [] X (B_X12_step_54   x1 x2 x3 X) := by
  unfold B_X12_step_54
  refine g_iload_n (q := 1) hC dX12_step_54 rfl rfl ?_
  refine g_iconst (v := vI 4) hC dX12_step_55 rfl ?_
  refine g_icmp_eq (tgt := 64) hC dX12_step_56 (by decide) ?_ ?_
  · exact gB_X12_step_64 hC hR hL  x1 x2 x3 X
  · refine g_iload_n (q := 1) hC dX12_step_59 rfl rfl ?_
    refine g_iconst (v := vI 5) hC dX12_step_60 rfl ?_
    refine g_icmp_ne (tgt := 68) hC dX12_step_61 (by decide) ?_ ?_
    · refine g_iconst (v := vI 0) hC dX12_step_68 rfl ?_
      exact gB_X12_step_69 hC hR hL  x1 x2 x3 0 X
    · exact gB_X12_step_64 hC hR hL  x1 x2 x3 X
set_option maxRecDepth 20000 in
theorem k_X12_step (l : Launch) (V : Ev) {L : List Kd} (hL : LKm L)  (X : Mem)  : Kt l V L yX12_step (.code yX12_step cX12_step 7 (some .boolean)) 8 229 [vR V.1 120] rI X (f_X12_step  X) := by
  refine kt_of (own := RX12) (lv0 := [(0, vR V.1 120)]) (by decide) rfl (Nat.le_of_ble_eq_true rfl) rfl (fun C hCl hC hR => ?_)
  subst hCl
  unfold f_X12_step
  refine g_aload_n (q := 0) hC dX12_step_0 rfl rfl rfl ?_
  refine g_ldcS (i := 34) hC (by decide) rfl dX12_step_1 ?_
  refine g_callVI (As := [vS V 34]) hC mv_X12_inWords wml_RX12_177 (k_X12_inWords _ V hL 34 X (by decide)) cf_X12 (at_120 hL) (by decide) ⟨Nat.zero_le _, Nat.zero_le _⟩ rfl rfl ⟨Nat.le_of_ble_eq_true rfl, Nat.le_of_ble_eq_true rfl⟩ (Nat.le_of_ble_eq_true rfl) dX12_step_3 (fun r1 X2 => ?_)
  refine g_istore_n hC dX12_step_6 rfl (by decide) rfl ?_
  refine g_aload_n (q := 1) hC dX12_step_7 rfl rfl rfl ?_
  refine g_getS (k := 0) hC cf_X12 (at_120 hL) (by decide) rfl (by decide) (by decide) wf_RX12_7 dX12_step_8 ?_
  refine g_sipush (v := vI 1774) hC dX12_step_11 rfl ?_
  refine g_iald hC (at_121 hL) (by decide) dX12_step_14 ?_
  refine g_topI (fun v3 => ?_)
  refine g_istore_n hC dX12_step_15 rfl (by decide) rfl ?_
  refine g_sipush (v := vI 1960) hC dX12_step_16 rfl ?_
  refine g_iconst (v := vI 4) hC dX12_step_19 rfl ?_
  refine g_iload_n (q := 0) hC dX12_step_20 rfl rfl ?_
  refine g_imul hC dX12_step_21 ?_
  refine g_iadd hC dX12_step_22 ?_
  refine g_topI (fun v4 => ?_)
  refine g_istore_n hC dX12_step_23 rfl (by decide) rfl ?_
  refine g_iload_n (q := 2) hC dX12_step_24 rfl rfl ?_
  refine g_iconst (v := vI (-1)) hC dX12_step_25 rfl ?_
  refine g_icmp_eq (tgt := 48) hC dX12_step_26 (by decide) ?_ ?_
  · refine g_sub [3] rfl ?_
    exact gB_X12_step_48 hC hR hL  X2
  · refine g_iload_n (q := 2) hC dX12_step_29 rfl rfl ?_
    refine g_bipush (v := vI 8) hC dX12_step_30 rfl ?_
    refine g_icmp_gt (tgt := 48) hC dX12_step_32 (by decide) ?_ ?_
    · refine g_sub [3] rfl ?_
      exact gB_X12_step_48 hC hR hL  X2
    · refine g_iload_n (q := 2) hC dX12_step_35 rfl rfl ?_
      refine g_bipush (v := vI 6) hC dX12_step_36 rfl ?_
      refine g_icmp_ne (tgt := 54) hC dX12_step_38 (by decide) ?_ ?_
      · refine g_sub [3, 2, 1, 0] rfl ?_
        exact gB_X12_step_54 hC hR hL  r1 v3 v4 X2
      · refine g_aload_n (q := 3) hC dX12_step_41 rfl rfl rfl ?_
        refine g_getI (k := 24) (kz := 24) hC cf_X12 (at_120 hL) (by decide) rfl (by decide) rfl wf_RX12_251 dX12_step_42 ?_
        refine g_if_ne (tgt := 54) hC dX12_step_45 (by decide) ?_ ?_
        · refine g_sub [3, 2, 1, 0] rfl ?_
          exact gB_X12_step_54 hC hR hL  r1 v3 v4 X2
        · refine g_sub [3] rfl ?_
          exact gB_X12_step_48 hC hR hL  X2
def B_X12_rule_132  (X : Mem) : Option (Int × Mem) :=
  cl (f_X12_taken (X 120 25) X) fun r6 X7 =>
  some (r6, X7)
def L_X12_rule_103 : Nat → Int → Mem → Option (Int × Mem)
  | 0, _, _ => none
  | n + 1, x3, X =>
    c2 x3 440 <| if 440 ≤ x3 then
      B_X12_rule_132   X
    else
      ax 2200 (1760 + x3) <|
      ax 2200 x3 <| bd (ms X 121 x3 (X 121 (1760 + x3))) fun X9 =>
      L_X12_rule_103   n (x3 + 1) X9
def B_X12_rule_77  (X : Mem) : Option (Int × Mem) :=
  c1 (X 120 18) <| if ¬ (X 120 18) = 0 then
    B_X12_rule_132   X
  else
    ax 2200 1774 <|
    ax 2200 14 <| bd (ms X 121 14 (X 121 1774)) fun X8 =>
    L_X12_rule_103   KF 200 X8
def B_X12_rule_57  (X : Mem) : Option (Int × Mem) :=
  c1 (X 120 18) <| if ¬ (X 120 18) = 0 then
    B_X12_rule_77   X
  else
    c1 (X 120 24) <| if (X 120 24) ≤ 0 then
      B_X12_rule_77   X
    else
      cl (f_X12_fails 2 X) fun r10 X11 =>
      B_X12_rule_77   X11
def L_X12_rule_38 : Nat → Int → Mem → Option (Int × Mem)
  | 0, _, _ => none
  | n + 1, x2, X =>
    c1 x2 <| if x2 = 0 then
      B_X12_rule_57   X
    else
      c1 (X 120 12) <| if (X 120 12) = 0 then
        B_X12_rule_57   X
      else
        cl (f_X12_step X) fun r12 X13 =>
        L_X12_rule_38   n r12 X13
def f_X12_rule (p1 : Int) (X : Mem) : Option (Int × Mem) :=
  cl (f_X12_begins p1 300 X) fun r1 X2 =>
  c1 r1 <| if ¬ r1 = 0 then
    ax 2200 1774 <| bd (ms X2 121 1774 0) fun X3 =>
    bd (ms X3 120 24 0) fun X4 =>
    bd (ms X4 120 25 0) fun X5 =>
    L_X12_rule_38   KF 1 X5
  else
    cl (f_X12_refuse 1 X2) fun r14 X15 =>
    some (r14, X15)
set_option maxRecDepth 20000 in
theorem gB_X12_rule_132 {C : Cx} {V : Ev} {L : List Kd} (hC : Ok C V cX12_rule RX12 4 9 255) (hR : Rt C V L (some .int) rI) (hL : LKm L)  (X : Mem)  : G C V L 0 0 4 132 [(0, vR V.1 120)] [] X (B_X12_rule_132    X) := by
  unfold B_X12_rule_132
  refine g_aload_n (q := 0) hC dX12_rule_132 rfl rfl rfl ?_
  refine g_aload_n (q := 0) hC dX12_rule_133 rfl rfl rfl ?_
  refine g_getI (k := 25) (kz := 25) hC cf_X12 (at_120 hL) (by decide) rfl (by decide) rfl wf_RX12_254 dX12_rule_134 ?_
  refine g_callVI (As := [vI (X 120 25)]) hC mv_X12_taken wml_RX12_246 (k_X12_taken _ V hL (X 120 25) X) cf_X12 (at_120 hL) (by decide) ⟨Nat.zero_le _, Nat.zero_le _⟩ rfl rfl ⟨Nat.le_of_ble_eq_true rfl, Nat.le_of_ble_eq_true rfl⟩ (Nat.le_of_ble_eq_true rfl) dX12_rule_137 (fun r6 X7 => ?_)
  exact g_iret hC hR dX12_rule_140
set_option maxRecDepth 20000 in
theorem gL_X12_rule_103 {C : Cx} {V : Ev} {L : List Kd} (hC : Ok C V cX12_rule RX12 4 9 255) (hR : Rt C V L (some .int) rI) (hL : LKm L) : ∀ (n : Nat) (x3 : Int) (X : Mem), G C V L 0 0 4 103 [(0, vR V.1 120), (3, vI x3)] [] X (L_X12_rule_103   n x3 X) := by
  intro n
  induction n with
  | zero => intro x3 X; exact g_none
  | succ n ih =>
    intro x3 X
    rw [L_X12_rule_103]
    refine g_iload_n (q := 1) hC dX12_rule_103 rfl rfl ?_
    refine g_sipush (v := vI 440) hC dX12_rule_104 rfl ?_
    refine g_icmp_ge (tgt := 132) hC dX12_rule_107 (by decide) ?_ ?_
    · refine g_sub [0] rfl ?_
      exact gB_X12_rule_132 hC hR hL  X
    · refine g_aload_n (q := 0) hC dX12_rule_110 rfl rfl rfl ?_
      refine g_getS (k := 0) hC cf_X12 (at_120 hL) (by decide) rfl (by decide) (by decide) wf_RX12_7 dX12_rule_111 ?_
      refine g_iload_n (q := 1) hC dX12_rule_114 rfl rfl ?_
      refine g_aload_n (q := 0) hC dX12_rule_115 rfl rfl rfl ?_
      refine g_getS (k := 0) hC cf_X12 (at_120 hL) (by decide) rfl (by decide) (by decide) wf_RX12_7 dX12_rule_116 ?_
      refine g_sipush (v := vI 1760) hC dX12_rule_119 rfl ?_
      refine g_iload_n (q := 1) hC dX12_rule_122 rfl rfl ?_
      refine g_iadd hC dX12_rule_123 ?_
      refine g_iald hC (at_121 hL) (by decide) dX12_rule_124 ?_
      refine g_iast hC (at_121 hL) (by decide) dX12_rule_125 (fun X9 => ?_)
      refine g_iinc (q := 1) hC dX12_rule_126 rfl (by decide) rfl ?_
      refine g_goto (tgt := 103) hC dX12_rule_129 (by decide) ?_
      refine g_sub [1, 0] rfl ?_
      exact ih (x3 + 1) X9
set_option maxRecDepth 20000 in
theorem gB_X12_rule_77 {C : Cx} {V : Ev} {L : List Kd} (hC : Ok C V cX12_rule RX12 4 9 255) (hR : Rt C V L (some .int) rI) (hL : LKm L)  (X : Mem)  : G C V L 0 0 4 77 [(0, vR V.1 120)] [] X (B_X12_rule_77    X) := by
  unfold B_X12_rule_77
  refine g_aload_n (q := 0) hC dX12_rule_77 rfl rfl rfl ?_
  refine g_getI (k := 18) (kz := 18) hC cf_X12 (at_120 hL) (by decide) rfl (by decide) rfl wf_RX12_162 dX12_rule_78 ?_
  refine g_if_ne (tgt := 132) hC dX12_rule_81 (by decide) ?_ ?_
  · exact gB_X12_rule_132 hC hR hL  X
  · refine g_aload_n (q := 0) hC dX12_rule_84 rfl rfl rfl ?_
    refine g_getS (k := 0) hC cf_X12 (at_120 hL) (by decide) rfl (by decide) (by decide) wf_RX12_7 dX12_rule_85 ?_
    refine g_bipush (v := vI 14) hC dX12_rule_88 rfl ?_
    refine g_aload_n (q := 0) hC dX12_rule_90 rfl rfl rfl ?_
    refine g_getS (k := 0) hC cf_X12 (at_120 hL) (by decide) rfl (by decide) (by decide) wf_RX12_7 dX12_rule_91 ?_
    refine g_sipush (v := vI 1774) hC dX12_rule_94 rfl ?_
    refine g_iald hC (at_121 hL) (by decide) dX12_rule_97 ?_
    refine g_iast hC (at_121 hL) (by decide) dX12_rule_98 (fun X8 => ?_)
    refine g_sipush (v := vI 200) hC dX12_rule_99 rfl ?_
    refine g_istore_n hC dX12_rule_102 rfl (by decide) rfl ?_
    refine g_sub [1, 0] rfl ?_
    exact gL_X12_rule_103 hC hR hL  KF 200 X8
set_option maxRecDepth 20000 in
theorem gB_X12_rule_57 {C : Cx} {V : Ev} {L : List Kd} (hC : Ok C V cX12_rule RX12 4 9 255) (hR : Rt C V L (some .int) rI) (hL : LKm L)  (X : Mem)  : G C V L 0 0 4 57 [(0, vR V.1 120)] [] X (B_X12_rule_57    X) := by
  unfold B_X12_rule_57
  refine g_aload_n (q := 0) hC dX12_rule_57 rfl rfl rfl ?_
  refine g_getI (k := 18) (kz := 18) hC cf_X12 (at_120 hL) (by decide) rfl (by decide) rfl wf_RX12_162 dX12_rule_58 ?_
  refine g_if_ne (tgt := 77) hC dX12_rule_61 (by decide) ?_ ?_
  · exact gB_X12_rule_77 hC hR hL  X
  · refine g_aload_n (q := 0) hC dX12_rule_64 rfl rfl rfl ?_
    refine g_getI (k := 24) (kz := 24) hC cf_X12 (at_120 hL) (by decide) rfl (by decide) rfl wf_RX12_251 dX12_rule_65 ?_
    refine g_if_le (tgt := 77) hC dX12_rule_68 (by decide) ?_ ?_
    · exact gB_X12_rule_77 hC hR hL  X
    · refine g_aload_n (q := 0) hC dX12_rule_71 rfl rfl rfl ?_
      refine g_iconst (v := vI 2) hC dX12_rule_72 rfl ?_
      refine g_callVI (As := [vI 2]) hC mv_X12_fails wml_RX12_174 (k_X12_fails _ V hL 2 X) cf_X12 (at_120 hL) (by decide) ⟨Nat.zero_le _, Nat.zero_le _⟩ rfl rfl ⟨Nat.le_of_ble_eq_true rfl, Nat.le_of_ble_eq_true rfl⟩ (Nat.le_of_ble_eq_true rfl) dX12_rule_73 (fun r10 X11 => ?_)
      refine g_pop hC dX12_rule_76 rfl ?_
      exact gB_X12_rule_77 hC hR hL  X11
set_option maxRecDepth 20000 in
theorem gL_X12_rule_38 {C : Cx} {V : Ev} {L : List Kd} (hC : Ok C V cX12_rule RX12 4 9 255) (hR : Rt C V L (some .int) rI) (hL : LKm L) : ∀ (n : Nat) (x2 : Int) (X : Mem), G C V L 0 0 4 38 [(0, vR V.1 120), (2, vI x2)] [] X (L_X12_rule_38   n x2 X) := by
  intro n
  induction n with
  | zero => intro x2 X; exact g_none
  | succ n ih =>
    intro x2 X
    rw [L_X12_rule_38]
    refine g_iload_n (q := 1) hC dX12_rule_38 rfl rfl ?_
    refine g_if_eq (tgt := 57) hC dX12_rule_39 (by decide) ?_ ?_
    · refine g_sub [0] rfl ?_
      exact gB_X12_rule_57 hC hR hL  X
    · refine g_aload_n (q := 0) hC dX12_rule_42 rfl rfl rfl ?_
      refine g_getI (k := 12) (kz := 12) hC cf_X12 (at_120 hL) (by decide) rfl (by decide) rfl wf_RX12_137 dX12_rule_43 ?_
      refine g_if_eq (tgt := 57) hC dX12_rule_46 (by decide) ?_ ?_
      · refine g_sub [0] rfl ?_
        exact gB_X12_rule_57 hC hR hL  X
      · refine g_aload_n (q := 0) hC dX12_rule_49 rfl rfl rfl ?_
        refine g_callVI (As := []) hC mv_X12_step wml_RX12_260 (k_X12_step _ V hL X) cf_X12 (at_120 hL) (by decide) ⟨Nat.zero_le _, Nat.zero_le _⟩ rfl rfl ⟨Nat.le_of_ble_eq_true rfl, Nat.le_of_ble_eq_true rfl⟩ (Nat.le_of_ble_eq_true rfl) dX12_rule_50 (fun r12 X13 => ?_)
        refine g_istore_n hC dX12_rule_53 rfl (by decide) rfl ?_
        refine g_goto (tgt := 38) hC dX12_rule_54 (by decide) ?_
        refine g_sub [1, 0] rfl ?_
        exact ih r12 X13
set_option maxRecDepth 20000 in
theorem k_X12_rule (l : Launch) (V : Ev) {L : List Kd} (hL : LKm L) (p1 : Int) (X : Mem)  : Kt l V L yX12_rule (.code yX12_rule cX12_rule 4 (some .int)) 9 255 [vR V.1 120, vI p1] rI X (f_X12_rule p1 X) := by
  refine kt_of (own := RX12) (lv0 := [(0, vR V.1 120), (1, vI p1)]) (by decide) rfl (Nat.le_of_ble_eq_true rfl) rfl (fun C hCl hC hR => ?_)
  subst hCl
  unfold f_X12_rule
  refine g_aload_n (q := 0) hC dX12_rule_0 rfl rfl rfl ?_
  refine g_iload_n (q := 1) hC dX12_rule_1 rfl rfl ?_
  refine g_sipush (v := vI 300) hC dX12_rule_2 rfl ?_
  refine g_callVI (As := [vI p1, vI 300]) hC mv_X12_begins wml_RX12_230 (k_X12_begins _ V hL p1 300 X) cf_X12 (at_120 hL) (by decide) ⟨Nat.zero_le _, Nat.zero_le _⟩ rfl rfl ⟨Nat.le_of_ble_eq_true rfl, Nat.le_of_ble_eq_true rfl⟩ (Nat.le_of_ble_eq_true rfl) dX12_rule_5 (fun r1 X2 => ?_)
  refine g_if_ne (tgt := 17) hC dX12_rule_8 (by decide) ?_ ?_
  · refine g_aload_n (q := 0) hC dX12_rule_17 rfl rfl rfl ?_
    refine g_getS (k := 0) hC cf_X12 (at_120 hL) (by decide) rfl (by decide) (by decide) wf_RX12_7 dX12_rule_18 ?_
    refine g_sipush (v := vI 1774) hC dX12_rule_21 rfl ?_
    refine g_iconst (v := vI 0) hC dX12_rule_24 rfl ?_
    refine g_iast hC (at_121 hL) (by decide) dX12_rule_25 (fun X3 => ?_)
    refine g_aload_n (q := 0) hC dX12_rule_26 rfl rfl rfl ?_
    refine g_iconst (v := vI 0) hC dX12_rule_27 rfl ?_
    refine g_putI (k := 24) (kz := 24) hC cf_X12 (at_120 hL) (by decide) rfl (by decide) rfl wf_RX12_251 rfl rfl dX12_rule_28 (fun X4 => ?_)
    refine g_aload_n (q := 0) hC dX12_rule_31 rfl rfl rfl ?_
    refine g_iconst (v := vI 0) hC dX12_rule_32 rfl ?_
    refine g_putI (k := 25) (kz := 25) hC cf_X12 (at_120 hL) (by decide) rfl (by decide) rfl wf_RX12_254 rfl rfl dX12_rule_33 (fun X5 => ?_)
    refine g_iconst (v := vI 1) hC dX12_rule_36 rfl ?_
    refine g_istore_n hC dX12_rule_37 rfl (by decide) rfl ?_
    refine g_sub [1, 0] rfl ?_
    exact gL_X12_rule_38 hC hR hL  KF 1 X5
  · refine g_aload_n (q := 0) hC dX12_rule_11 rfl rfl rfl ?_
    refine g_iconst (v := vI 1) hC dX12_rule_12 rfl ?_
    refine g_callVI (As := [vI 1]) hC mv_X12_refuse wml_RX12_185 (k_X12_refuse _ V hL 1 X2) cf_X12 (at_120 hL) (by decide) ⟨Nat.zero_le _, Nat.zero_le _⟩ rfl rfl ⟨Nat.le_of_ble_eq_true rfl, Nat.le_of_ble_eq_true rfl⟩ (Nat.le_of_ble_eq_true rfl) dX12_rule_13 (fun r14 X15 => ?_)
    exact g_iret hC hR dX12_rule_16
def f_X12_fault (p1 : Int) (X : Mem) : Option (Int × Mem) :=
  c1 p1 <| if ¬ p1 = 0 then
    c2 p1 1 <| if ¬ p1 = 1 then
      some ((-1), X)
    else
      some (X 120 17, X)
  else
    some (X 120 16, X)
set_option maxRecDepth 20000 in
theorem k_X12_fault (l : Launch) (V : Ev) {L : List Kd} (hL : LKm L) (p1 : Int) (X : Mem)  : Kt l V L yX12_fault (.code yX12_fault cX12_fault 2 (some .int)) 0 0 [vR V.1 120, vI p1] rI X (f_X12_fault p1 X) := by
  refine kt_of (own := RX12) (lv0 := [(0, vR V.1 120), (1, vI p1)]) (by decide) rfl (Nat.le_of_ble_eq_true rfl) rfl (fun C hCl hC hR => ?_)
  subst hCl
  unfold f_X12_fault
  refine g_iload_n (q := 1) hC dX12_fault_0 rfl rfl ?_
  refine g_if_ne (tgt := 11) hC dX12_fault_1 (by decide) ?_ ?_
  · refine g_iload_n (q := 1) hC dX12_fault_11 rfl rfl ?_
    refine g_iconst (v := vI 1) hC dX12_fault_12 rfl ?_
    refine g_icmp_ne (tgt := 23) hC dX12_fault_13 (by decide) ?_ ?_
    · refine g_iconst (v := vI (-1)) hC dX12_fault_23 rfl ?_
      exact g_iret hC hR dX12_fault_24
    · refine g_aload_n (q := 0) hC dX12_fault_16 rfl rfl rfl ?_
      refine g_getI (k := 17) (kz := 17) hC cf_X12 (at_120 hL) (by decide) rfl (by decide) rfl wf_RX12_41 dX12_fault_17 ?_
      refine g_goto (tgt := 24) hC dX12_fault_20 (by decide) ?_
      exact g_iret hC hR dX12_fault_24
  · refine g_aload_n (q := 0) hC dX12_fault_4 rfl rfl rfl ?_
    refine g_getI (k := 16) (kz := 16) hC cf_X12 (at_120 hL) (by decide) rfl (by decide) rfl wf_RX12_37 dX12_fault_5 ?_
    refine g_goto (tgt := 24) hC dX12_fault_8 (by decide) ?_
    exact g_iret hC hR dX12_fault_24
def B_X12_told_10  (X : Mem) : Option (Int × Mem) :=
  cl (f_X12_refuse 1 X) fun r1 X2 =>
  some (r1, X2)
def f_X12_told (p1 : Int) (X : Mem) : Option (Int × Mem) :=
  c1 p1 <| if p1 < 0 then
    B_X12_told_10   X
  else
    c2 p1 12 <| if p1 ≤ 12 then
      ax 2200 p1 <|
      cl (f_X12_gives (X 121 p1) X) fun r3 X4 =>
      some (r3, X4)
    else
      B_X12_told_10   X
set_option maxRecDepth 20000 in
theorem gB_X12_told_10 {C : Cx} {V : Ev} {L : List Kd} (hC : Ok C V cX12_told RX12 2 1 21) (hR : Rt C V L (some .int) rI) (hL : LKm L)  (X : Mem)  : G C V L 0 0 2 10 [(0, vR V.1 120)] [] X (B_X12_told_10    X) := by
  unfold B_X12_told_10
  refine g_aload_n (q := 0) hC dX12_told_10 rfl rfl rfl ?_
  refine g_iconst (v := vI 1) hC dX12_told_11 rfl ?_
  refine g_callVI (As := [vI 1]) hC mv_X12_refuse wml_RX12_185 (k_X12_refuse _ V hL 1 X) cf_X12 (at_120 hL) (by decide) ⟨Nat.zero_le _, Nat.zero_le _⟩ rfl rfl ⟨Nat.le_of_ble_eq_true rfl, Nat.le_of_ble_eq_true rfl⟩ (Nat.le_of_ble_eq_true rfl) dX12_told_12 (fun r1 X2 => ?_)
  refine g_goto (tgt := 28) hC dX12_told_15 (by decide) ?_
  exact g_iret hC hR dX12_told_28
set_option maxRecDepth 20000 in
theorem k_X12_told (l : Launch) (V : Ev) {L : List Kd} (hL : LKm L) (p1 : Int) (X : Mem)  : Kt l V L yX12_told (.code yX12_told cX12_told 2 (some .int)) 1 21 [vR V.1 120, vI p1] rI X (f_X12_told p1 X) := by
  refine kt_of (own := RX12) (lv0 := [(0, vR V.1 120), (1, vI p1)]) (by decide) rfl (Nat.le_of_ble_eq_true rfl) rfl (fun C hCl hC hR => ?_)
  subst hCl
  unfold f_X12_told
  refine g_iload_n (q := 1) hC dX12_told_0 rfl rfl ?_
  refine g_if_lt (tgt := 10) hC dX12_told_1 (by decide) ?_ ?_
  · refine g_sub [0] rfl ?_
    exact gB_X12_told_10 hC hR hL  X
  · refine g_iload_n (q := 1) hC dX12_told_4 rfl rfl ?_
    refine g_bipush (v := vI 12) hC dX12_told_5 rfl ?_
    refine g_icmp_le (tgt := 18) hC dX12_told_7 (by decide) ?_ ?_
    · refine g_aload_n (q := 0) hC dX12_told_18 rfl rfl rfl ?_
      refine g_aload_n (q := 0) hC dX12_told_19 rfl rfl rfl ?_
      refine g_getS (k := 0) hC cf_X12 (at_120 hL) (by decide) rfl (by decide) (by decide) wf_RX12_7 dX12_told_20 ?_
      refine g_iload_n (q := 1) hC dX12_told_23 rfl rfl ?_
      refine g_iald hC (at_121 hL) (by decide) dX12_told_24 ?_
      refine g_callVI (As := [vI (X 121 p1)]) hC mv_X12_gives wml_RX12_188 (k_X12_gives _ V hL (X 121 p1) X) cf_X12 (at_120 hL) (by decide) ⟨Nat.zero_le _, Nat.zero_le _⟩ rfl rfl ⟨Nat.le_of_ble_eq_true rfl, Nat.le_of_ble_eq_true rfl⟩ (Nat.le_of_ble_eq_true rfl) dX12_told_25 (fun r3 X4 => ?_)
      exact g_iret hC hR dX12_told_28
    · refine g_sub [0] rfl ?_
      exact gB_X12_told_10 hC hR hL  X
def f_X12_isBar (p1 : Int) (X : Mem) : Option (Int × Mem) :=
  c1 p1 <| if p1 < 0 then
    some (0, X)
  else
    ax 2200 2 <|
    c2 p1 (X 121 2) <| if (X 121 2) ≤ p1 then
      some (0, X)
    else
      some (1, X)
set_option maxRecDepth 20000 in
theorem k_X12_isBar (l : Launch) (V : Ev) {L : List Kd} (hL : LKm L) (p1 : Int) (X : Mem)  : Kt l V L yX12_isBar (.code yX12_isBar cX12_isBar 2 (some .boolean)) 0 0 [vR V.1 120, vI p1] rI X (f_X12_isBar p1 X) := by
  refine kt_of (own := RX12) (lv0 := [(0, vR V.1 120), (1, vI p1)]) (by decide) rfl (Nat.le_of_ble_eq_true rfl) rfl (fun C hCl hC hR => ?_)
  subst hCl
  unfold f_X12_isBar
  refine g_iload_n (q := 1) hC dX12_isBar_0 rfl rfl ?_
  refine g_if_lt (tgt := 18) hC dX12_isBar_1 (by decide) ?_ ?_
  · refine g_iconst (v := vI 0) hC dX12_isBar_18 rfl ?_
    exact g_zret1 hC hR (by decide) dX12_isBar_19
  · refine g_iload_n (q := 1) hC dX12_isBar_4 rfl rfl ?_
    refine g_aload_n (q := 0) hC dX12_isBar_5 rfl rfl rfl ?_
    refine g_getS (k := 0) hC cf_X12 (at_120 hL) (by decide) rfl (by decide) (by decide) wf_RX12_7 dX12_isBar_6 ?_
    refine g_iconst (v := vI 2) hC dX12_isBar_9 rfl ?_
    refine g_iald hC (at_121 hL) (by decide) dX12_isBar_10 ?_
    refine g_icmp_ge (tgt := 18) hC dX12_isBar_11 (by decide) ?_ ?_
    · refine g_iconst (v := vI 0) hC dX12_isBar_18 rfl ?_
      exact g_zret1 hC hR (by decide) dX12_isBar_19
    · refine g_iconst (v := vI 1) hC dX12_isBar_14 rfl ?_
      refine g_goto (tgt := 19) hC dX12_isBar_15 (by decide) ?_
      exact g_zret1 hC hR (by decide) dX12_isBar_19
def L_X12_cellOf_2 : Nat → Int → Int → Mem → Option (Int × Mem)
  | 0, _, _, _ => none
  | n + 1, x1, x2, X =>
    cl (f_X12_cells X) fun r1 X2 =>
    c2 x2 r1 <| if r1 ≤ x2 then
      some ((-1), X2)
    else
      ax 2200 (108 + x2) <|
      c2 (X2 121 (108 + x2)) x1 <| if ¬ (X2 121 (108 + x2)) = x1 then
        L_X12_cellOf_2   n x1 (x2 + 1) X2
      else
        some (x2, X2)
def f_X12_cellOf (p1 : Int) (X : Mem) : Option (Int × Mem) :=
  L_X12_cellOf_2   KF p1 0 X
set_option maxRecDepth 20000 in
theorem gL_X12_cellOf_2 {C : Cx} {V : Ev} {L : List Kd} (hC : Ok C V cX12_cellOf RX12 3 1 20) (hR : Rt C V L (some .int) rI) (hL : LKm L) : ∀ (n : Nat) (x1 : Int) (x2 : Int) (X : Mem), G C V L 0 0 3 2 [(0, vR V.1 120), (1, vI x1), (2, vI x2)] [] X (L_X12_cellOf_2   n x1 x2 X) := by
  intro n
  induction n with
  | zero => intro x1 x2 X; exact g_none
  | succ n ih =>
    intro x1 x2 X
    rw [L_X12_cellOf_2]
    refine g_iload_n (q := 2) hC dX12_cellOf_2 rfl rfl ?_
    refine g_aload_n (q := 0) hC dX12_cellOf_3 rfl rfl rfl ?_
    refine g_callVI (As := []) hC mv_X12_cells wml_RX12_243 (k_X12_cells _ V hL X) cf_X12 (at_120 hL) (by decide) ⟨Nat.zero_le _, Nat.zero_le _⟩ rfl rfl ⟨Nat.le_of_ble_eq_true rfl, Nat.le_of_ble_eq_true rfl⟩ (Nat.le_of_ble_eq_true rfl) dX12_cellOf_4 (fun r1 X2 => ?_)
    refine g_icmp_ge (tgt := 31) hC dX12_cellOf_7 (by decide) ?_ ?_
    · refine g_iconst (v := vI (-1)) hC dX12_cellOf_31 rfl ?_
      exact g_iret hC hR dX12_cellOf_32
    · refine g_aload_n (q := 0) hC dX12_cellOf_10 rfl rfl rfl ?_
      refine g_getS (k := 0) hC cf_X12 (at_120 hL) (by decide) rfl (by decide) (by decide) wf_RX12_7 dX12_cellOf_11 ?_
      refine g_bipush (v := vI 108) hC dX12_cellOf_14 rfl ?_
      refine g_iload_n (q := 2) hC dX12_cellOf_16 rfl rfl ?_
      refine g_iadd hC dX12_cellOf_17 ?_
      refine g_iald hC (at_121 hL) (by decide) dX12_cellOf_18 ?_
      refine g_iload_n (q := 1) hC dX12_cellOf_19 rfl rfl ?_
      refine g_icmp_ne (tgt := 25) hC dX12_cellOf_20 (by decide) ?_ ?_
      · refine g_iinc (q := 2) hC dX12_cellOf_25 rfl (by decide) rfl ?_
        refine g_goto (tgt := 2) hC dX12_cellOf_28 (by decide) ?_
        refine g_sub [1, 2, 0] rfl ?_
        exact ih x1 (x2 + 1) X2
      · refine g_iload_n (q := 2) hC dX12_cellOf_23 rfl rfl ?_
        exact g_iret hC hR dX12_cellOf_24
set_option maxRecDepth 20000 in
theorem k_X12_cellOf (l : Launch) (V : Ev) {L : List Kd} (hL : LKm L) (p1 : Int) (X : Mem)  : Kt l V L yX12_cellOf (.code yX12_cellOf cX12_cellOf 3 (some .int)) 1 20 [vR V.1 120, vI p1] rI X (f_X12_cellOf p1 X) := by
  refine kt_of (own := RX12) (lv0 := [(0, vR V.1 120), (1, vI p1)]) (by decide) rfl (Nat.le_of_ble_eq_true rfl) rfl (fun C hCl hC hR => ?_)
  subst hCl
  unfold f_X12_cellOf
  refine g_iconst (v := vI 0) hC dX12_cellOf_0 rfl ?_
  refine g_istore_n hC dX12_cellOf_1 rfl (by decide) rfl ?_
  refine g_sub [1, 2, 0] rfl ?_
  exact gL_X12_cellOf_2 hC hR hL  KF p1 0 X
def B_X12_bar_17  (X : Mem) : Option (Int × Mem) :=
  cl (f_X12_refuse 1 X) fun r3 X4 =>
  some (r3, X4)
def B_X12_bar_114 (x3 : Int) (X : Mem) : Option (Int × Mem) :=
  cl (f_X12_gives x3 X) fun r7 X8 =>
  some (r7, X8)
def B_X12_bar_106 (go77 : Int → Int → Int → Mem → Option (Int × Mem)) (x1 : Int) (x4 : Int) (s0 : Int) (s1 : Int) (X : Mem) : Option (Int × Mem) :=
  bd (s1 + s0) fun v9 =>
  go77 x1 v9 (x4 + 1) X
def L_X12_bar_77 : Nat → Int → Int → Int → Mem → Option (Int × Mem)
  | 0, _, _, _, _ => none
  | n + 1, x1, x3, x4, X =>
    cl (f_X12_cells X) fun r5 X6 =>
    c2 x4 r5 <| if r5 ≤ x4 then
      B_X12_bar_114   x3 X6
    else
      ax 2200 (108 + x4) <|
      c2 (X6 121 (108 + x4)) x1 <| if ¬ (X6 121 (108 + x4)) = x1 then
        B_X12_bar_106  (fun x1 x3 x4 X => L_X12_bar_77   n x1 x3 x4 X) x1 x4 0 x3 X6
      else
        B_X12_bar_106  (fun x1 x3 x4 X => L_X12_bar_77   n x1 x3 x4 X) x1 x4 1 x3 X6
def f_X12_bar (p1 : Int) (p2 : Int) (X : Mem) : Option (Int × Mem) :=
  cl (f_X12_isBar p1 X) fun r1 X2 =>
  c1 r1 <| if r1 = 0 then
    B_X12_bar_17   X2
  else
    c1 p2 <| if p2 < 0 then
      B_X12_bar_17   X2
    else
      c2 p2 5 <| if p2 ≤ 5 then
        c2 p2 4 <| if 4 ≤ p2 then
          c2 p2 5 <| if ¬ p2 = 5 then
            L_X12_bar_77   KF p1 0 0 X2
          else
            cl (f_X12_cellOf p1 X2) fun r10 X11 =>
            c2 r10 ((-1)) <| if ¬ r10 = ((-1)) then
              cl (f_X12_cellOf p1 X11) fun r12 X13 =>
              cl (f_X12_gives r12 X13) fun r14 X15 =>
              some (r14, X15)
            else
              cl (f_X12_refuse 6 X11) fun r16 X17 =>
              some (r16, X17)
        else
          cl (f_X12_ofBar p1 p2 X2) fun r18 X19 =>
          cl (f_X12_gives r18 X19) fun r20 X21 =>
          some (r20, X21)
      else
        B_X12_bar_17   X2
set_option maxRecDepth 20000 in
theorem gB_X12_bar_17 {C : Cx} {V : Ev} {L : List Kd} (hC : Ok C V cX12_bar RX12 5 2 42) (hR : Rt C V L (some .int) rI) (hL : LKm L)  (X : Mem)  : G C V L 0 0 5 17 [(0, vR V.1 120)] [] X (B_X12_bar_17    X) := by
  unfold B_X12_bar_17
  refine g_aload_n (q := 0) hC dX12_bar_17 rfl rfl rfl ?_
  refine g_iconst (v := vI 1) hC dX12_bar_18 rfl ?_
  refine g_callVI (As := [vI 1]) hC mv_X12_refuse wml_RX12_185 (k_X12_refuse _ V hL 1 X) cf_X12 (at_120 hL) (by decide) ⟨Nat.zero_le _, Nat.zero_le _⟩ rfl rfl ⟨Nat.le_of_ble_eq_true rfl, Nat.le_of_ble_eq_true rfl⟩ (Nat.le_of_ble_eq_true rfl) dX12_bar_19 (fun r3 X4 => ?_)
  exact g_iret hC hR dX12_bar_22
set_option maxRecDepth 20000 in
theorem gB_X12_bar_114 {C : Cx} {V : Ev} {L : List Kd} (hC : Ok C V cX12_bar RX12 5 2 42) (hR : Rt C V L (some .int) rI) (hL : LKm L) (x3 : Int) (X : Mem)  : G C V L 0 0 5 114 [(0, vR V.1 120), (3, vI x3)] [] X (B_X12_bar_114   x3 X) := by
  unfold B_X12_bar_114
  refine g_aload_n (q := 0) hC dX12_bar_114 rfl rfl rfl ?_
  refine g_iload_n (q := 1) hC dX12_bar_115 rfl rfl ?_
  refine g_callVI (As := [vI x3]) hC mv_X12_gives wml_RX12_188 (k_X12_gives _ V hL x3 X) cf_X12 (at_120 hL) (by decide) ⟨Nat.zero_le _, Nat.zero_le _⟩ rfl rfl ⟨Nat.le_of_ble_eq_true rfl, Nat.le_of_ble_eq_true rfl⟩ (Nat.le_of_ble_eq_true rfl) dX12_bar_116 (fun r7 X8 => ?_)
  exact g_iret hC hR dX12_bar_119
set_option maxRecDepth 20000 in
theorem gB_X12_bar_106 {C : Cx} {V : Ev} {L : List Kd} (hC : Ok C V cX12_bar RX12 5 2 42) (hR : Rt C V L (some .int) rI) (hL : LKm L) {go77 : Int → Int → Int → Mem → Option (Int × Mem)} (hgo77 : ∀ (x1 : Int) (x3 : Int) (x4 : Int) (X : Mem), G C V L 0 0 5 77 [(0, vR V.1 120), (1, vI x1), (3, vI x3), (4, vI x4)] [] X (go77 x1 x3 x4 X)) (x1 : Int) (x4 : Int) (s0 : Int) (s1 : Int) (X : Mem)  : G C V L 0 0 5 106 [(0, vR V.1 120), (1, vI x1), (4, vI x4)] [vI s0, vI s1] X (B_X12_bar_106  go77 x1 x4 s0 s1 X) := by
  unfold B_X12_bar_106
  refine g_iadd hC dX12_bar_106 ?_
  refine g_topI (fun v9 => ?_)
  refine g_istore_n hC dX12_bar_107 rfl (by decide) rfl ?_
  refine g_iinc (q := 3) hC dX12_bar_108 rfl (by decide) rfl ?_
  refine g_goto (tgt := 77) hC dX12_bar_111 (by decide) ?_
  refine g_sub [2, 3, 1, 0] rfl ?_
  exact hgo77 x1 v9 (x4 + 1) X
set_option maxRecDepth 20000 in
theorem gL_X12_bar_77 {C : Cx} {V : Ev} {L : List Kd} (hC : Ok C V cX12_bar RX12 5 2 42) (hR : Rt C V L (some .int) rI) (hL : LKm L) : ∀ (n : Nat) (x1 : Int) (x3 : Int) (x4 : Int) (X : Mem), G C V L 0 0 5 77 [(0, vR V.1 120), (1, vI x1), (3, vI x3), (4, vI x4)] [] X (L_X12_bar_77   n x1 x3 x4 X) := by
  intro n
  induction n with
  | zero => intro x1 x3 x4 X; exact g_none
  | succ n ih =>
    intro x1 x3 x4 X
    rw [L_X12_bar_77]
    refine g_iload (q := 3) hC dX12_bar_77 rfl ?_
    refine g_aload_n (q := 0) hC dX12_bar_79 rfl rfl rfl ?_
    refine g_callVI (As := []) hC mv_X12_cells wml_RX12_243 (k_X12_cells _ V hL X) cf_X12 (at_120 hL) (by decide) ⟨Nat.zero_le _, Nat.zero_le _⟩ rfl rfl ⟨Nat.le_of_ble_eq_true rfl, Nat.le_of_ble_eq_true rfl⟩ (Nat.le_of_ble_eq_true rfl) dX12_bar_80 (fun r5 X6 => ?_)
    refine g_icmp_ge (tgt := 114) hC dX12_bar_83 (by decide) ?_ ?_
    · refine g_sub [0, 2] rfl ?_
      exact gB_X12_bar_114 hC hR hL  x3 X6
    · refine g_iload_n (q := 2) hC dX12_bar_86 rfl rfl ?_
      refine g_aload_n (q := 0) hC dX12_bar_87 rfl rfl rfl ?_
      refine g_getS (k := 0) hC cf_X12 (at_120 hL) (by decide) rfl (by decide) (by decide) wf_RX12_7 dX12_bar_88 ?_
      refine g_bipush (v := vI 108) hC dX12_bar_91 rfl ?_
      refine g_iload (q := 3) hC dX12_bar_93 rfl ?_
      refine g_iadd hC dX12_bar_95 ?_
      refine g_iald hC (at_121 hL) (by decide) dX12_bar_96 ?_
      refine g_iload_n (q := 1) hC dX12_bar_97 rfl rfl ?_
      refine g_icmp_ne (tgt := 105) hC dX12_bar_98 (by decide) ?_ ?_
      · refine g_iconst (v := vI 0) hC dX12_bar_105 rfl ?_
        refine g_sub [0, 1, 3] rfl ?_
        exact gB_X12_bar_106 hC hR hL ih x1 x4 0 x3 X6
      · refine g_iconst (v := vI 1) hC dX12_bar_101 rfl ?_
        refine g_goto (tgt := 106) hC dX12_bar_102 (by decide) ?_
        refine g_sub [0, 1, 3] rfl ?_
        exact gB_X12_bar_106 hC hR hL ih x1 x4 1 x3 X6
set_option maxRecDepth 20000 in
theorem k_X12_bar (l : Launch) (V : Ev) {L : List Kd} (hL : LKm L) (p1 : Int) (p2 : Int) (X : Mem)  : Kt l V L yX12_bar (.code yX12_bar cX12_bar 5 (some .int)) 2 42 [vR V.1 120, vI p1, vI p2] rI X (f_X12_bar p1 p2 X) := by
  refine kt_of (own := RX12) (lv0 := [(0, vR V.1 120), (1, vI p1), (2, vI p2)]) (by decide) rfl (Nat.le_of_ble_eq_true rfl) rfl (fun C hCl hC hR => ?_)
  subst hCl
  unfold f_X12_bar
  refine g_aload_n (q := 0) hC dX12_bar_0 rfl rfl rfl ?_
  refine g_iload_n (q := 1) hC dX12_bar_1 rfl rfl ?_
  refine g_callVI (As := [vI p1]) hC mv_X12_isBar wml_RX12_266 (k_X12_isBar _ V hL p1 X) cf_X12 (at_120 hL) (by decide) ⟨Nat.zero_le _, Nat.zero_le _⟩ rfl rfl ⟨Nat.le_of_ble_eq_true rfl, Nat.le_of_ble_eq_true rfl⟩ (Nat.le_of_ble_eq_true rfl) dX12_bar_2 (fun r1 X2 => ?_)
  refine g_if_eq (tgt := 17) hC dX12_bar_5 (by decide) ?_ ?_
  · refine g_sub [0] rfl ?_
    exact gB_X12_bar_17 hC hR hL  X2
  · refine g_iload_n (q := 2) hC dX12_bar_8 rfl rfl ?_
    refine g_if_lt (tgt := 17) hC dX12_bar_9 (by decide) ?_ ?_
    · refine g_sub [0] rfl ?_
      exact gB_X12_bar_17 hC hR hL  X2
    · refine g_iload_n (q := 2) hC dX12_bar_12 rfl rfl ?_
      refine g_iconst (v := vI 5) hC dX12_bar_13 rfl ?_
      refine g_icmp_le (tgt := 23) hC dX12_bar_14 (by decide) ?_ ?_
      · refine g_iload_n (q := 2) hC dX12_bar_23 rfl rfl ?_
        refine g_iconst (v := vI 4) hC dX12_bar_24 rfl ?_
        refine g_icmp_ge (tgt := 39) hC dX12_bar_25 (by decide) ?_ ?_
        · refine g_iload_n (q := 2) hC dX12_bar_39 rfl rfl ?_
          refine g_iconst (v := vI 5) hC dX12_bar_40 rfl ?_
          refine g_icmp_ne (tgt := 72) hC dX12_bar_41 (by decide) ?_ ?_
          · refine g_iconst (v := vI 0) hC dX12_bar_72 rfl ?_
            refine g_istore_n hC dX12_bar_73 rfl (by decide) rfl ?_
            refine g_iconst (v := vI 0) hC dX12_bar_74 rfl ?_
            refine g_istore hC dX12_bar_75 (by decide) rfl ?_
            refine g_sub [2, 3, 1, 0] rfl ?_
            exact gL_X12_bar_77 hC hR hL  KF p1 0 0 X2
          · refine g_aload_n (q := 0) hC dX12_bar_44 rfl rfl rfl ?_
            refine g_iload_n (q := 1) hC dX12_bar_45 rfl rfl ?_
            refine g_callVI (As := [vI p1]) hC mv_X12_cellOf wml_RX12_272 (k_X12_cellOf _ V hL p1 X2) cf_X12 (at_120 hL) (by decide) ⟨Nat.zero_le _, Nat.zero_le _⟩ rfl rfl ⟨Nat.le_of_ble_eq_true rfl, Nat.le_of_ble_eq_true rfl⟩ (Nat.le_of_ble_eq_true rfl) dX12_bar_46 (fun r10 X11 => ?_)
            refine g_iconst (v := vI (-1)) hC dX12_bar_49 rfl ?_
            refine g_icmp_ne (tgt := 62) hC dX12_bar_50 (by decide) ?_ ?_
            · refine g_aload_n (q := 0) hC dX12_bar_62 rfl rfl rfl ?_
              refine g_aload_n (q := 0) hC dX12_bar_63 rfl rfl rfl ?_
              refine g_iload_n (q := 1) hC dX12_bar_64 rfl rfl ?_
              refine g_callVI (As := [vI p1]) hC mv_X12_cellOf wml_RX12_272 (k_X12_cellOf _ V hL p1 X11) cf_X12 (at_120 hL) (by decide) ⟨Nat.zero_le _, Nat.zero_le _⟩ rfl rfl ⟨Nat.le_of_ble_eq_true rfl, Nat.le_of_ble_eq_true rfl⟩ (Nat.le_of_ble_eq_true rfl) dX12_bar_65 (fun r12 X13 => ?_)
              refine g_callVI (As := [vI r12]) hC mv_X12_gives wml_RX12_188 (k_X12_gives _ V hL r12 X13) cf_X12 (at_120 hL) (by decide) ⟨Nat.zero_le _, Nat.zero_le _⟩ rfl rfl ⟨Nat.le_of_ble_eq_true rfl, Nat.le_of_ble_eq_true rfl⟩ (Nat.le_of_ble_eq_true rfl) dX12_bar_68 (fun r14 X15 => ?_)
              exact g_iret hC hR dX12_bar_71
            · refine g_aload_n (q := 0) hC dX12_bar_53 rfl rfl rfl ?_
              refine g_bipush (v := vI 6) hC dX12_bar_54 rfl ?_
              refine g_callVI (As := [vI 6]) hC mv_X12_refuse wml_RX12_185 (k_X12_refuse _ V hL 6 X11) cf_X12 (at_120 hL) (by decide) ⟨Nat.zero_le _, Nat.zero_le _⟩ rfl rfl ⟨Nat.le_of_ble_eq_true rfl, Nat.le_of_ble_eq_true rfl⟩ (Nat.le_of_ble_eq_true rfl) dX12_bar_56 (fun r16 X17 => ?_)
              refine g_goto (tgt := 71) hC dX12_bar_59 (by decide) ?_
              exact g_iret hC hR dX12_bar_71
        · refine g_aload_n (q := 0) hC dX12_bar_28 rfl rfl rfl ?_
          refine g_aload_n (q := 0) hC dX12_bar_29 rfl rfl rfl ?_
          refine g_iload_n (q := 1) hC dX12_bar_30 rfl rfl ?_
          refine g_iload_n (q := 2) hC dX12_bar_31 rfl rfl ?_
          refine g_callVI (As := [vI p1, vI p2]) hC mv_X12_ofBar wml_RX12_269 (k_X12_ofBar _ V hL p1 p2 X2) cf_X12 (at_120 hL) (by decide) ⟨Nat.zero_le _, Nat.zero_le _⟩ rfl rfl ⟨Nat.le_of_ble_eq_true rfl, Nat.le_of_ble_eq_true rfl⟩ (Nat.le_of_ble_eq_true rfl) dX12_bar_32 (fun r18 X19 => ?_)
          refine g_callVI (As := [vI r18]) hC mv_X12_gives wml_RX12_188 (k_X12_gives _ V hL r18 X19) cf_X12 (at_120 hL) (by decide) ⟨Nat.zero_le _, Nat.zero_le _⟩ rfl rfl ⟨Nat.le_of_ble_eq_true rfl, Nat.le_of_ble_eq_true rfl⟩ (Nat.le_of_ble_eq_true rfl) dX12_bar_35 (fun r20 X21 => ?_)
          exact g_iret hC hR dX12_bar_38
      · refine g_sub [0] rfl ?_
        exact gB_X12_bar_17 hC hR hL  X2
def f_X12_isCell (p1 : Int) (X : Mem) : Option (Int × Mem) :=
  d2 p1 0 <| if p1 < 0 then
    some (0, X)
  else
    cl (f_X12_cells X) fun r1 X2 =>
    c1 r1 <|
    d2 p1 r1 <| if r1 ≤ p1 then
      some (0, X2)
    else
      some (1, X2)
set_option maxRecDepth 20000 in
theorem k_X12_isCell (l : Launch) (V : Ev) {L : List Kd} (hL : LKm L) (p1 : Int) (X : Mem)  : Kt l V L yX12_isCell (.code yX12_isCell cX12_isCell 3 (some .boolean)) 1 20 [vR V.1 120, vJ p1] rI X (f_X12_isCell p1 X) := by
  refine kt_of (own := RX12) (lv0 := [(0, vR V.1 120), (1, vJ p1)]) (by decide) rfl (Nat.le_of_ble_eq_true rfl) rfl (fun C hCl hC hR => ?_)
  subst hCl
  unfold f_X12_isCell
  refine g_lload_n (q := 1) hC dX12_isCell_0 rfl rfl ?_
  refine g_lconst (v := vJ 0) hC dX12_isCell_1 rfl ?_
  refine g_lcmp_lt (tgt := 20) hC dX12_isCell_2 rfl dX12_isCell_3 (by decide) ?_ ?_
  · refine g_iconst (v := vI 0) hC dX12_isCell_20 rfl ?_
    exact g_zret1 hC hR (by decide) dX12_isCell_21
  · refine g_lload_n (q := 1) hC dX12_isCell_6 rfl rfl ?_
    refine g_aload_n (q := 0) hC dX12_isCell_7 rfl rfl rfl ?_
    refine g_callVI (As := []) hC mv_X12_cells wml_RX12_243 (k_X12_cells _ V hL X) cf_X12 (at_120 hL) (by decide) ⟨Nat.zero_le _, Nat.zero_le _⟩ rfl rfl ⟨Nat.le_of_ble_eq_true rfl, Nat.le_of_ble_eq_true rfl⟩ (Nat.le_of_ble_eq_true rfl) dX12_isCell_8 (fun r1 X2 => ?_)
    refine g_i2l hC dX12_isCell_11 ?_
    refine g_lcmp_ge (tgt := 20) hC dX12_isCell_12 rfl dX12_isCell_13 (by decide) ?_ ?_
    · refine g_iconst (v := vI 0) hC dX12_isCell_20 rfl ?_
      exact g_zret1 hC hR (by decide) dX12_isCell_21
    · refine g_iconst (v := vI 1) hC dX12_isCell_16 rfl ?_
      refine g_goto (tgt := 21) hC dX12_isCell_17 (by decide) ?_
      exact g_zret1 hC hR (by decide) dX12_isCell_21
def f_X12_barOf (p1 : Int) (X : Mem) : Option (Int × Mem) :=
  c1 p1 <|
  cl (f_X12_isCell p1 X) fun r1 X2 =>
  c1 r1 <| if ¬ r1 = 0 then
    ax 2200 (108 + p1) <|
    c2 (X2 121 (108 + p1)) ((-1)) <| if ¬ (X2 121 (108 + p1)) = ((-1)) then
      ax 2200 (108 + p1) <|
      cl (f_X12_gives (X2 121 (108 + p1)) X2) fun r3 X4 =>
      some (r3, X4)
    else
      cl (f_X12_refuse 6 X2) fun r5 X6 =>
      some (r5, X6)
  else
    cl (f_X12_refuse 1 X2) fun r7 X8 =>
    some (r7, X8)
set_option maxRecDepth 20000 in
theorem k_X12_barOf (l : Launch) (V : Ev) {L : List Kd} (hL : LKm L) (p1 : Int) (X : Mem)  : Kt l V L yX12_barOf (.code yX12_barOf cX12_barOf 2 (some .int)) 2 42 [vR V.1 120, vI p1] rI X (f_X12_barOf p1 X) := by
  refine kt_of (own := RX12) (lv0 := [(0, vR V.1 120), (1, vI p1)]) (by decide) rfl (Nat.le_of_ble_eq_true rfl) rfl (fun C hCl hC hR => ?_)
  subst hCl
  unfold f_X12_barOf
  refine g_aload_n (q := 0) hC dX12_barOf_0 rfl rfl rfl ?_
  refine g_iload_n (q := 1) hC dX12_barOf_1 rfl rfl ?_
  refine g_i2l hC dX12_barOf_2 ?_
  refine g_callVI (As := [vJ p1]) hC mv_X12_isCell wml_RX12_275 (k_X12_isCell _ V hL p1 X) cf_X12 (at_120 hL) (by decide) ⟨Nat.zero_le _, Nat.zero_le _⟩ rfl rfl ⟨Nat.le_of_ble_eq_true rfl, Nat.le_of_ble_eq_true rfl⟩ (Nat.le_of_ble_eq_true rfl) dX12_barOf_3 (fun r1 X2 => ?_)
  refine g_if_ne (tgt := 17) hC dX12_barOf_6 (by decide) ?_ ?_
  · refine g_aload_n (q := 0) hC dX12_barOf_17 rfl rfl rfl ?_
    refine g_getS (k := 0) hC cf_X12 (at_120 hL) (by decide) rfl (by decide) (by decide) wf_RX12_7 dX12_barOf_18 ?_
    refine g_bipush (v := vI 108) hC dX12_barOf_21 rfl ?_
    refine g_iload_n (q := 1) hC dX12_barOf_23 rfl rfl ?_
    refine g_iadd hC dX12_barOf_24 ?_
    refine g_iald hC (at_121 hL) (by decide) dX12_barOf_25 ?_
    refine g_iconst (v := vI (-1)) hC dX12_barOf_26 rfl ?_
    refine g_icmp_ne (tgt := 39) hC dX12_barOf_27 (by decide) ?_ ?_
    · refine g_aload_n (q := 0) hC dX12_barOf_39 rfl rfl rfl ?_
      refine g_aload_n (q := 0) hC dX12_barOf_40 rfl rfl rfl ?_
      refine g_getS (k := 0) hC cf_X12 (at_120 hL) (by decide) rfl (by decide) (by decide) wf_RX12_7 dX12_barOf_41 ?_
      refine g_bipush (v := vI 108) hC dX12_barOf_44 rfl ?_
      refine g_iload_n (q := 1) hC dX12_barOf_46 rfl rfl ?_
      refine g_iadd hC dX12_barOf_47 ?_
      refine g_iald hC (at_121 hL) (by decide) dX12_barOf_48 ?_
      refine g_callVI (As := [vI (X2 121 (108 + p1))]) hC mv_X12_gives wml_RX12_188 (k_X12_gives _ V hL (X2 121 (108 + p1)) X2) cf_X12 (at_120 hL) (by decide) ⟨Nat.zero_le _, Nat.zero_le _⟩ rfl rfl ⟨Nat.le_of_ble_eq_true rfl, Nat.le_of_ble_eq_true rfl⟩ (Nat.le_of_ble_eq_true rfl) dX12_barOf_49 (fun r3 X4 => ?_)
      exact g_iret hC hR dX12_barOf_52
    · refine g_aload_n (q := 0) hC dX12_barOf_30 rfl rfl rfl ?_
      refine g_bipush (v := vI 6) hC dX12_barOf_31 rfl ?_
      refine g_callVI (As := [vI 6]) hC mv_X12_refuse wml_RX12_185 (k_X12_refuse _ V hL 6 X2) cf_X12 (at_120 hL) (by decide) ⟨Nat.zero_le _, Nat.zero_le _⟩ rfl rfl ⟨Nat.le_of_ble_eq_true rfl, Nat.le_of_ble_eq_true rfl⟩ (Nat.le_of_ble_eq_true rfl) dX12_barOf_33 (fun r5 X6 => ?_)
      refine g_goto (tgt := 52) hC dX12_barOf_36 (by decide) ?_
      exact g_iret hC hR dX12_barOf_52
  · refine g_aload_n (q := 0) hC dX12_barOf_9 rfl rfl rfl ?_
    refine g_iconst (v := vI 1) hC dX12_barOf_10 rfl ?_
    refine g_callVI (As := [vI 1]) hC mv_X12_refuse wml_RX12_185 (k_X12_refuse _ V hL 1 X2) cf_X12 (at_120 hL) (by decide) ⟨Nat.zero_le _, Nat.zero_le _⟩ rfl rfl ⟨Nat.le_of_ble_eq_true rfl, Nat.le_of_ble_eq_true rfl⟩ (Nat.le_of_ble_eq_true rfl) dX12_barOf_11 (fun r7 X8 => ?_)
    refine g_goto (tgt := 52) hC dX12_barOf_14 (by decide) ?_
    exact g_iret hC hR dX12_barOf_52
def f_X12_isFrom (p1 : Int) (p2 : Int) (p3 : Int) (X : Mem) : Option (Int × Mem) :=
  d2 p1 p2 <| if p1 < p2 then
    some (0, X)
  else
    d2 p1 p3 <| if p3 < p1 then
      some (0, X)
    else
      some (1, X)
set_option maxRecDepth 20000 in
theorem k_X12_isFrom (l : Launch) (V : Ev) {L : List Kd} (hL : LKm L) (p1 : Int) (p2 : Int) (p3 : Int) (X : Mem)  : Kt l V L yX12_isFrom (.code yX12_isFrom cX12_isFrom 6 (some .boolean)) 0 0 [vJ p1, vJ p2, vJ p3] rI X (f_X12_isFrom p1 p2 p3 X) := by
  refine kt_of (own := RX12) (lv0 := [(0, vJ p1), (2, vJ p2), (4, vJ p3)]) (by decide) rfl (Nat.le_of_ble_eq_true rfl) rfl (fun C hCl hC hR => ?_)
  subst hCl
  unfold f_X12_isFrom
  refine g_lload_n (q := 0) hC dX12_isFrom_0 rfl rfl ?_
  refine g_lload_n (q := 1) hC dX12_isFrom_1 rfl rfl ?_
  refine g_lcmp_lt (tgt := 17) hC dX12_isFrom_2 rfl dX12_isFrom_3 (by decide) ?_ ?_
  · refine g_iconst (v := vI 0) hC dX12_isFrom_17 rfl ?_
    exact g_zret1 hC hR (by decide) dX12_isFrom_18
  · refine g_lload_n (q := 0) hC dX12_isFrom_6 rfl rfl ?_
    refine g_lload (q := 2) hC dX12_isFrom_7 rfl ?_
    refine g_lcmp_gt (tgt := 17) hC dX12_isFrom_9 rfl dX12_isFrom_10 (by decide) ?_ ?_
    · refine g_iconst (v := vI 0) hC dX12_isFrom_17 rfl ?_
      exact g_zret1 hC hR (by decide) dX12_isFrom_18
    · refine g_iconst (v := vI 1) hC dX12_isFrom_13 rfl ?_
      refine g_goto (tgt := 18) hC dX12_isFrom_14 (by decide) ?_
      exact g_zret1 hC hR (by decide) dX12_isFrom_18
def f_X12_stageOf (p1 : Int) (X : Mem) : Option (Int × Mem) :=
  ax 2200 13 <|
  c2 p1 (X 121 13) <| if (X 121 13) ≤ p1 then
    some (0, X)
  else
    ax 2200 (16 + p1) <|
    some (X 121 (16 + p1), X)
set_option maxRecDepth 20000 in
theorem k_X12_stageOf (l : Launch) (V : Ev) {L : List Kd} (hL : LKm L) (p1 : Int) (X : Mem)  : Kt l V L yX12_stageOf (.code yX12_stageOf cX12_stageOf 2 (some .int)) 0 0 [vR V.1 120, vI p1] rI X (f_X12_stageOf p1 X) := by
  refine kt_of (own := RX12) (lv0 := [(0, vR V.1 120), (1, vI p1)]) (by decide) rfl (Nat.le_of_ble_eq_true rfl) rfl (fun C hCl hC hR => ?_)
  subst hCl
  unfold f_X12_stageOf
  refine g_iload_n (q := 1) hC dX12_stageOf_0 rfl rfl ?_
  refine g_aload_n (q := 0) hC dX12_stageOf_1 rfl rfl rfl ?_
  refine g_getS (k := 0) hC cf_X12 (at_120 hL) (by decide) rfl (by decide) (by decide) wf_RX12_7 dX12_stageOf_2 ?_
  refine g_bipush (v := vI 13) hC dX12_stageOf_5 rfl ?_
  refine g_iald hC (at_121 hL) (by decide) dX12_stageOf_7 ?_
  refine g_icmp_ge (tgt := 23) hC dX12_stageOf_8 (by decide) ?_ ?_
  · refine g_iconst (v := vI 0) hC dX12_stageOf_23 rfl ?_
    exact g_iret hC hR dX12_stageOf_24
  · refine g_aload_n (q := 0) hC dX12_stageOf_11 rfl rfl rfl ?_
    refine g_getS (k := 0) hC cf_X12 (at_120 hL) (by decide) rfl (by decide) (by decide) wf_RX12_7 dX12_stageOf_12 ?_
    refine g_bipush (v := vI 16) hC dX12_stageOf_15 rfl ?_
    refine g_iload_n (q := 1) hC dX12_stageOf_17 rfl rfl ?_
    refine g_iadd hC dX12_stageOf_18 ?_
    refine g_iald hC (at_121 hL) (by decide) dX12_stageOf_19 ?_
    refine g_goto (tgt := 24) hC dX12_stageOf_20 (by decide) ?_
    exact g_iret hC hR dX12_stageOf_24
def f_X12_stage (p1 : Int) (X : Mem) : Option (Int × Mem) :=
  c1 p1 <|
  cl (f_X12_isFrom p1 0 99 X) fun r1 X2 =>
  c1 r1 <| if r1 = 0 then
    cl (f_X12_refuse 1 X2) fun r3 X4 =>
    some (r3, X4)
  else
    cl (f_X12_stageOf p1 X2) fun r5 X6 =>
    cl (f_X12_gives r5 X6) fun r7 X8 =>
    some (r7, X8)
set_option maxRecDepth 20000 in
theorem k_X12_stage (l : Launch) (V : Ev) {L : List Kd} (hL : LKm L) (p1 : Int) (X : Mem)  : Kt l V L yX12_stage (.code yX12_stage cX12_stage 2 (some .int)) 1 25 [vR V.1 120, vI p1] rI X (f_X12_stage p1 X) := by
  refine kt_of (own := RX12) (lv0 := [(0, vR V.1 120), (1, vI p1)]) (by decide) rfl (Nat.le_of_ble_eq_true rfl) rfl (fun C hCl hC hR => ?_)
  subst hCl
  unfold f_X12_stage
  refine g_iload_n (q := 1) hC dX12_stage_0 rfl rfl ?_
  refine g_i2l hC dX12_stage_1 ?_
  refine g_lconst (v := vJ 0) hC dX12_stage_2 rfl ?_
  refine g_ldc2 (n := 99) hC wk_RX12_279 rfl dX12_stage_3 ?_
  refine g_callSI (As := [vJ p1, vJ 0, vJ 99]) hC mt_X12_isFrom wml_RX12_281 (k_X12_isFrom _ V hL p1 0 99 X) ⟨Nat.zero_le _, Nat.zero_le _⟩ rfl rfl ⟨Nat.le_of_ble_eq_true rfl, Nat.le_of_ble_eq_true rfl⟩ (Nat.le_of_ble_eq_true rfl) dX12_stage_6 (fun r1 X2 => ?_)
  refine g_if_eq (tgt := 24) hC dX12_stage_9 (by decide) ?_ ?_
  · refine g_aload_n (q := 0) hC dX12_stage_24 rfl rfl rfl ?_
    refine g_iconst (v := vI 1) hC dX12_stage_25 rfl ?_
    refine g_callVI (As := [vI 1]) hC mv_X12_refuse wml_RX12_185 (k_X12_refuse _ V hL 1 X2) cf_X12 (at_120 hL) (by decide) ⟨Nat.zero_le _, Nat.zero_le _⟩ rfl rfl ⟨Nat.le_of_ble_eq_true rfl, Nat.le_of_ble_eq_true rfl⟩ (Nat.le_of_ble_eq_true rfl) dX12_stage_26 (fun r3 X4 => ?_)
    exact g_iret hC hR dX12_stage_29
  · refine g_aload_n (q := 0) hC dX12_stage_12 rfl rfl rfl ?_
    refine g_aload_n (q := 0) hC dX12_stage_13 rfl rfl rfl ?_
    refine g_iload_n (q := 1) hC dX12_stage_14 rfl rfl ?_
    refine g_callVI (As := [vI p1]) hC mv_X12_stageOf wml_RX12_285 (k_X12_stageOf _ V hL p1 X2) cf_X12 (at_120 hL) (by decide) ⟨Nat.zero_le _, Nat.zero_le _⟩ rfl rfl ⟨Nat.le_of_ble_eq_true rfl, Nat.le_of_ble_eq_true rfl⟩ (Nat.le_of_ble_eq_true rfl) dX12_stage_15 (fun r5 X6 => ?_)
    refine g_callVI (As := [vI r5]) hC mv_X12_gives wml_RX12_188 (k_X12_gives _ V hL r5 X6) cf_X12 (at_120 hL) (by decide) ⟨Nat.zero_le _, Nat.zero_le _⟩ rfl rfl ⟨Nat.le_of_ble_eq_true rfl, Nat.le_of_ble_eq_true rfl⟩ (Nat.le_of_ble_eq_true rfl) dX12_stage_18 (fun r7 X8 => ?_)
    refine g_goto (tgt := 29) hC dX12_stage_21 (by decide) ?_
    exact g_iret hC hR dX12_stage_29
def f_X12_isSet (p1 : Int) (X : Mem) : Option (Int × Mem) :=
  c1 p1 <| if p1 < 0 then
    some (0, X)
  else
    cl (f_X12_sets X) fun r1 X2 =>
    c2 p1 r1 <| if r1 ≤ p1 then
      some (0, X2)
    else
      some (1, X2)
set_option maxRecDepth 20000 in
theorem k_X12_isSet (l : Launch) (V : Ev) {L : List Kd} (hL : LKm L) (p1 : Int) (X : Mem)  : Kt l V L yX12_isSet (.code yX12_isSet cX12_isSet 2 (some .boolean)) 1 20 [vR V.1 120, vI p1] rI X (f_X12_isSet p1 X) := by
  refine kt_of (own := RX12) (lv0 := [(0, vR V.1 120), (1, vI p1)]) (by decide) rfl (Nat.le_of_ble_eq_true rfl) rfl (fun C hCl hC hR => ?_)
  subst hCl
  unfold f_X12_isSet
  refine g_iload_n (q := 1) hC dX12_isSet_0 rfl rfl ?_
  refine g_if_lt (tgt := 16) hC dX12_isSet_1 (by decide) ?_ ?_
  · refine g_iconst (v := vI 0) hC dX12_isSet_16 rfl ?_
    exact g_zret1 hC hR (by decide) dX12_isSet_17
  · refine g_iload_n (q := 1) hC dX12_isSet_4 rfl rfl ?_
    refine g_aload_n (q := 0) hC dX12_isSet_5 rfl rfl rfl ?_
    refine g_callVI (As := []) hC mv_X12_sets wml_RX12_263 (k_X12_sets _ V hL X) cf_X12 (at_120 hL) (by decide) ⟨Nat.zero_le _, Nat.zero_le _⟩ rfl rfl ⟨Nat.le_of_ble_eq_true rfl, Nat.le_of_ble_eq_true rfl⟩ (Nat.le_of_ble_eq_true rfl) dX12_isSet_6 (fun r1 X2 => ?_)
    refine g_icmp_ge (tgt := 16) hC dX12_isSet_9 (by decide) ?_ ?_
    · refine g_iconst (v := vI 0) hC dX12_isSet_16 rfl ?_
      exact g_zret1 hC hR (by decide) dX12_isSet_17
    · refine g_iconst (v := vI 1) hC dX12_isSet_12 rfl ?_
      refine g_goto (tgt := 17) hC dX12_isSet_13 (by decide) ?_
      exact g_zret1 hC hR (by decide) dX12_isSet_17
def B_X12_depthOf_54 (s0 : Int) (s1 : Int) (X : Mem) : Option (Int × Mem) :=
  some (s1 - s0, X)
def B_X12_depthOf_53 (s0 : Int) (X : Mem) : Option (Int × Mem) :=
  B_X12_depthOf_54   0 s0 X
def f_X12_depthOf (p1 : Int) (p2 : Int) (X : Mem) : Option (Int × Mem) :=
  ax 2200 (108 + p1) <|
  bd (X 121 (108 + p1)) fun v1 =>
  ax 2200 (48 + p1) <|
  ax 2200 3 <|
  cl (f_X12_stageOf (X 121 3) X) fun r2 X3 =>
  c2 v1 ((-1)) <| if v1 = ((-1)) then
    B_X12_depthOf_53   ((X 121 (48 + p1)) + r2) X3
  else
    c2 (ia (ishr p2 v1) 1) 1 <| if ¬ (ia (ishr p2 v1) 1) = 1 then
      B_X12_depthOf_53   ((X 121 (48 + p1)) + r2) X3
    else
      cl (f_X12_ofBar v1 0 X3) fun r4 X5 =>
      B_X12_depthOf_54   r4 ((X 121 (48 + p1)) + r2) X5
set_option maxRecDepth 20000 in
theorem gB_X12_depthOf_54 {C : Cx} {V : Ev} {L : List Kd} (hC : Ok C V cX12_depthOf RX12 4 1 22) (hR : Rt C V L (some .int) rI) (hL : LKm L) (s0 : Int) (s1 : Int) (X : Mem)  : G C V L 0 0 4 54 [] [vI s0, vI s1] X (B_X12_depthOf_54   s0 s1 X) := by
  unfold B_X12_depthOf_54
  refine g_isub hC dX12_depthOf_54 ?_
  exact g_iret hC hR dX12_depthOf_55
set_option maxRecDepth 20000 in
theorem gB_X12_depthOf_53 {C : Cx} {V : Ev} {L : List Kd} (hC : Ok C V cX12_depthOf RX12 4 1 22) (hR : Rt C V L (some .int) rI) (hL : LKm L) (s0 : Int) (X : Mem)  : G C V L 0 0 4 53 [] [vI s0] X (B_X12_depthOf_53   s0 X) := by
  unfold B_X12_depthOf_53
  refine g_iconst (v := vI 0) hC dX12_depthOf_53 rfl ?_
  exact gB_X12_depthOf_54 hC hR hL  0 s0 X
set_option maxRecDepth 20000 in
theorem k_X12_depthOf (l : Launch) (V : Ev) {L : List Kd} (hL : LKm L) (p1 : Int) (p2 : Int) (X : Mem)  : Kt l V L yX12_depthOf (.code yX12_depthOf cX12_depthOf 4 (some .int)) 1 22 [vR V.1 120, vI p1, vI p2] rI X (f_X12_depthOf p1 p2 X) := by
  refine kt_of (own := RX12) (lv0 := [(0, vR V.1 120), (1, vI p1), (2, vI p2)]) (by decide) rfl (Nat.le_of_ble_eq_true rfl) rfl (fun C hCl hC hR => ?_)
  subst hCl
  unfold f_X12_depthOf
  refine g_aload_n (q := 0) hC dX12_depthOf_0 rfl rfl rfl ?_
  refine g_getS (k := 0) hC cf_X12 (at_120 hL) (by decide) rfl (by decide) (by decide) wf_RX12_7 dX12_depthOf_1 ?_
  refine g_bipush (v := vI 108) hC dX12_depthOf_4 rfl ?_
  refine g_iload_n (q := 1) hC dX12_depthOf_6 rfl rfl ?_
  refine g_iadd hC dX12_depthOf_7 ?_
  refine g_iald hC (at_121 hL) (by decide) dX12_depthOf_8 ?_
  refine g_topI (fun v1 => ?_)
  refine g_istore_n hC dX12_depthOf_9 rfl (by decide) rfl ?_
  refine g_aload_n (q := 1) hC dX12_depthOf_10 rfl rfl rfl ?_
  refine g_getS (k := 0) hC cf_X12 (at_120 hL) (by decide) rfl (by decide) (by decide) wf_RX12_7 dX12_depthOf_11 ?_
  refine g_bipush (v := vI 48) hC dX12_depthOf_14 rfl ?_
  refine g_iload_n (q := 2) hC dX12_depthOf_16 rfl rfl ?_
  refine g_iadd hC dX12_depthOf_17 ?_
  refine g_iald hC (at_121 hL) (by decide) dX12_depthOf_18 ?_
  refine g_aload_n (q := 1) hC dX12_depthOf_19 rfl rfl rfl ?_
  refine g_aload_n (q := 1) hC dX12_depthOf_20 rfl rfl rfl ?_
  refine g_getS (k := 0) hC cf_X12 (at_120 hL) (by decide) rfl (by decide) (by decide) wf_RX12_7 dX12_depthOf_21 ?_
  refine g_iconst (v := vI 3) hC dX12_depthOf_24 rfl ?_
  refine g_iald hC (at_121 hL) (by decide) dX12_depthOf_25 ?_
  refine g_callVI (As := [vI (X 121 3)]) hC mv_X12_stageOf wml_RX12_285 (k_X12_stageOf _ V hL (X 121 3) X) cf_X12 (at_120 hL) (by decide) ⟨Nat.zero_le _, Nat.zero_le _⟩ rfl rfl ⟨Nat.le_of_ble_eq_true rfl, Nat.le_of_ble_eq_true rfl⟩ (Nat.le_of_ble_eq_true rfl) dX12_depthOf_26 (fun r2 X3 => ?_)
  refine g_iadd hC dX12_depthOf_29 ?_
  refine g_iload_n (q := 0) hC dX12_depthOf_30 rfl rfl ?_
  refine g_iconst (v := vI (-1)) hC dX12_depthOf_31 rfl ?_
  refine g_icmp_eq (tgt := 53) hC dX12_depthOf_32 (by decide) ?_ ?_
  · refine g_sub [] rfl ?_
    exact gB_X12_depthOf_53 hC hR hL  ((X 121 (48 + p1)) + r2) X3
  · refine g_iload_n (q := 3) hC dX12_depthOf_35 rfl rfl ?_
    refine g_iload_n (q := 0) hC dX12_depthOf_36 rfl rfl ?_
    refine g_ishr hC dX12_depthOf_37 ?_
    refine g_iconst (v := vI 1) hC dX12_depthOf_38 rfl ?_
    refine g_iand hC dX12_depthOf_39 ?_
    refine g_iconst (v := vI 1) hC dX12_depthOf_40 rfl ?_
    refine g_icmp_ne (tgt := 53) hC dX12_depthOf_41 (by decide) ?_ ?_
    · refine g_sub [] rfl ?_
      exact gB_X12_depthOf_53 hC hR hL  ((X 121 (48 + p1)) + r2) X3
    · refine g_aload_n (q := 1) hC dX12_depthOf_44 rfl rfl rfl ?_
      refine g_iload_n (q := 0) hC dX12_depthOf_45 rfl rfl ?_
      refine g_iconst (v := vI 0) hC dX12_depthOf_46 rfl ?_
      refine g_callVI (As := [vI v1, vI 0]) hC mv_X12_ofBar wml_RX12_269 (k_X12_ofBar _ V hL v1 0 X3) cf_X12 (at_120 hL) (by decide) ⟨Nat.zero_le _, Nat.zero_le _⟩ rfl rfl ⟨Nat.le_of_ble_eq_true rfl, Nat.le_of_ble_eq_true rfl⟩ (Nat.le_of_ble_eq_true rfl) dX12_depthOf_47 (fun r4 X5 => ?_)
      refine g_goto (tgt := 54) hC dX12_depthOf_50 (by decide) ?_
      refine g_sub [] rfl ?_
      exact gB_X12_depthOf_54 hC hR hL  r4 ((X 121 (48 + p1)) + r2) X5
def B_X12_depth_30  (X : Mem) : Option (Int × Mem) :=
  cl (f_X12_refuse 1 X) fun r3 X4 =>
  some (r3, X4)
def f_X12_depth (p1 : Int) (p2 : Int) (X : Mem) : Option (Int × Mem) :=
  c1 p1 <|
  cl (f_X12_isCell p1 X) fun r1 X2 =>
  c1 r1 <| if r1 = 0 then
    B_X12_depth_30   X2
  else
    cl (f_X12_isSet p2 X2) fun r5 X6 =>
    c1 r5 <| if r5 = 0 then
      B_X12_depth_30   X6
    else
      cl (f_X12_depthOf p1 p2 X6) fun r7 X8 =>
      cl (f_X12_gives r7 X8) fun r9 X10 =>
      some (r9, X10)
set_option maxRecDepth 20000 in
theorem gB_X12_depth_30 {C : Cx} {V : Ev} {L : List Kd} (hC : Ok C V cX12_depth RX12 3 2 45) (hR : Rt C V L (some .int) rI) (hL : LKm L)  (X : Mem)  : G C V L 0 0 3 30 [(0, vR V.1 120)] [] X (B_X12_depth_30    X) := by
  unfold B_X12_depth_30
  refine g_aload_n (q := 0) hC dX12_depth_30 rfl rfl rfl ?_
  refine g_iconst (v := vI 1) hC dX12_depth_31 rfl ?_
  refine g_callVI (As := [vI 1]) hC mv_X12_refuse wml_RX12_185 (k_X12_refuse _ V hL 1 X) cf_X12 (at_120 hL) (by decide) ⟨Nat.zero_le _, Nat.zero_le _⟩ rfl rfl ⟨Nat.le_of_ble_eq_true rfl, Nat.le_of_ble_eq_true rfl⟩ (Nat.le_of_ble_eq_true rfl) dX12_depth_32 (fun r3 X4 => ?_)
  exact g_iret hC hR dX12_depth_35
set_option maxRecDepth 20000 in
theorem k_X12_depth (l : Launch) (V : Ev) {L : List Kd} (hL : LKm L) (p1 : Int) (p2 : Int) (X : Mem)  : Kt l V L yX12_depth (.code yX12_depth cX12_depth 3 (some .int)) 2 45 [vR V.1 120, vI p1, vI p2] rI X (f_X12_depth p1 p2 X) := by
  refine kt_of (own := RX12) (lv0 := [(0, vR V.1 120), (1, vI p1), (2, vI p2)]) (by decide) rfl (Nat.le_of_ble_eq_true rfl) rfl (fun C hCl hC hR => ?_)
  subst hCl
  unfold f_X12_depth
  refine g_aload_n (q := 0) hC dX12_depth_0 rfl rfl rfl ?_
  refine g_iload_n (q := 1) hC dX12_depth_1 rfl rfl ?_
  refine g_i2l hC dX12_depth_2 ?_
  refine g_callVI (As := [vJ p1]) hC mv_X12_isCell wml_RX12_275 (k_X12_isCell _ V hL p1 X) cf_X12 (at_120 hL) (by decide) ⟨Nat.zero_le _, Nat.zero_le _⟩ rfl rfl ⟨Nat.le_of_ble_eq_true rfl, Nat.le_of_ble_eq_true rfl⟩ (Nat.le_of_ble_eq_true rfl) dX12_depth_3 (fun r1 X2 => ?_)
  refine g_if_eq (tgt := 30) hC dX12_depth_6 (by decide) ?_ ?_
  · refine g_sub [0] rfl ?_
    exact gB_X12_depth_30 hC hR hL  X2
  · refine g_aload_n (q := 0) hC dX12_depth_9 rfl rfl rfl ?_
    refine g_iload_n (q := 2) hC dX12_depth_10 rfl rfl ?_
    refine g_callVI (As := [vI p2]) hC mv_X12_isSet wml_RX12_288 (k_X12_isSet _ V hL p2 X2) cf_X12 (at_120 hL) (by decide) ⟨Nat.zero_le _, Nat.zero_le _⟩ rfl rfl ⟨Nat.le_of_ble_eq_true rfl, Nat.le_of_ble_eq_true rfl⟩ (Nat.le_of_ble_eq_true rfl) dX12_depth_11 (fun r5 X6 => ?_)
    refine g_if_eq (tgt := 30) hC dX12_depth_14 (by decide) ?_ ?_
    · refine g_sub [0] rfl ?_
      exact gB_X12_depth_30 hC hR hL  X6
    · refine g_aload_n (q := 0) hC dX12_depth_17 rfl rfl rfl ?_
      refine g_aload_n (q := 0) hC dX12_depth_18 rfl rfl rfl ?_
      refine g_iload_n (q := 1) hC dX12_depth_19 rfl rfl ?_
      refine g_iload_n (q := 2) hC dX12_depth_20 rfl rfl ?_
      refine g_callVI (As := [vI p1, vI p2]) hC mv_X12_depthOf wml_RX12_291 (k_X12_depthOf _ V hL p1 p2 X6) cf_X12 (at_120 hL) (by decide) ⟨Nat.zero_le _, Nat.zero_le _⟩ rfl rfl ⟨Nat.le_of_ble_eq_true rfl, Nat.le_of_ble_eq_true rfl⟩ (Nat.le_of_ble_eq_true rfl) dX12_depth_21 (fun r7 X8 => ?_)
      refine g_callVI (As := [vI r7]) hC mv_X12_gives wml_RX12_188 (k_X12_gives _ V hL r7 X8) cf_X12 (at_120 hL) (by decide) ⟨Nat.zero_le _, Nat.zero_le _⟩ rfl rfl ⟨Nat.le_of_ble_eq_true rfl, Nat.le_of_ble_eq_true rfl⟩ (Nat.le_of_ble_eq_true rfl) dX12_depth_24 (fun r9 X10 => ?_)
      refine g_goto (tgt := 35) hC dX12_depth_27 (by decide) ?_
      exact g_iret hC hR dX12_depth_35
def f_X12_passes (p1 : Int) (p2 : Int) (X : Mem) : Option (Int × Mem) :=
  cl (f_X12_depthOf p1 p2 X) fun r1 X2 =>
  ax 2200 5 <|
  ax 2200 4 <|
  c2 r1 ((X2 121 5) - (X2 121 4)) <| if r1 < ((X2 121 5) - (X2 121 4)) then
    some (0, X2)
  else
    some (1, X2)
set_option maxRecDepth 20000 in
theorem k_X12_passes (l : Launch) (V : Ev) {L : List Kd} (hL : LKm L) (p1 : Int) (p2 : Int) (X : Mem)  : Kt l V L yX12_passes (.code yX12_passes cX12_passes 3 (some .boolean)) 2 45 [vR V.1 120, vI p1, vI p2] rI X (f_X12_passes p1 p2 X) := by
  refine kt_of (own := RX12) (lv0 := [(0, vR V.1 120), (1, vI p1), (2, vI p2)]) (by decide) rfl (Nat.le_of_ble_eq_true rfl) rfl (fun C hCl hC hR => ?_)
  subst hCl
  unfold f_X12_passes
  refine g_aload_n (q := 0) hC dX12_passes_0 rfl rfl rfl ?_
  refine g_iload_n (q := 1) hC dX12_passes_1 rfl rfl ?_
  refine g_iload_n (q := 2) hC dX12_passes_2 rfl rfl ?_
  refine g_callVI (As := [vI p1, vI p2]) hC mv_X12_depthOf wml_RX12_291 (k_X12_depthOf _ V hL p1 p2 X) cf_X12 (at_120 hL) (by decide) ⟨Nat.zero_le _, Nat.zero_le _⟩ rfl rfl ⟨Nat.le_of_ble_eq_true rfl, Nat.le_of_ble_eq_true rfl⟩ (Nat.le_of_ble_eq_true rfl) dX12_passes_3 (fun r1 X2 => ?_)
  refine g_aload_n (q := 0) hC dX12_passes_6 rfl rfl rfl ?_
  refine g_getS (k := 0) hC cf_X12 (at_120 hL) (by decide) rfl (by decide) (by decide) wf_RX12_7 dX12_passes_7 ?_
  refine g_iconst (v := vI 5) hC dX12_passes_10 rfl ?_
  refine g_iald hC (at_121 hL) (by decide) dX12_passes_11 ?_
  refine g_aload_n (q := 0) hC dX12_passes_12 rfl rfl rfl ?_
  refine g_getS (k := 0) hC cf_X12 (at_120 hL) (by decide) rfl (by decide) (by decide) wf_RX12_7 dX12_passes_13 ?_
  refine g_iconst (v := vI 4) hC dX12_passes_16 rfl ?_
  refine g_iald hC (at_121 hL) (by decide) dX12_passes_17 ?_
  refine g_isub hC dX12_passes_18 ?_
  refine g_icmp_lt (tgt := 26) hC dX12_passes_19 (by decide) ?_ ?_
  · refine g_iconst (v := vI 0) hC dX12_passes_26 rfl ?_
    exact g_zret1 hC hR (by decide) dX12_passes_27
  · refine g_iconst (v := vI 1) hC dX12_passes_22 rfl ?_
    refine g_goto (tgt := 27) hC dX12_passes_23 (by decide) ?_
    exact g_zret1 hC hR (by decide) dX12_passes_27
def f_X12_openOf (p1 : Int) (X : Mem) : Option (Int × Mem) :=
  cl (f_X12_sets X) fun r1 X2 =>
  cl (f_X12_passes p1 (r1 - 1) X2) fun r3 X4 =>
  c1 r3 <| if r3 = 0 then
    cl (f_X12_passes p1 0 X4) fun r5 X6 =>
    c1 r5 <| if r5 = 0 then
      some (0, X6)
    else
      some (1, X6)
  else
    some (2, X4)
set_option maxRecDepth 20000 in
theorem k_X12_openOf (l : Launch) (V : Ev) {L : List Kd} (hL : LKm L) (p1 : Int) (X : Mem)  : Kt l V L yX12_openOf (.code yX12_openOf cX12_openOf 2 (some .int)) 3 67 [vR V.1 120, vI p1] rI X (f_X12_openOf p1 X) := by
  refine kt_of (own := RX12) (lv0 := [(0, vR V.1 120), (1, vI p1)]) (by decide) rfl (Nat.le_of_ble_eq_true rfl) rfl (fun C hCl hC hR => ?_)
  subst hCl
  unfold f_X12_openOf
  refine g_aload_n (q := 0) hC dX12_openOf_0 rfl rfl rfl ?_
  refine g_iload_n (q := 1) hC dX12_openOf_1 rfl rfl ?_
  refine g_aload_n (q := 0) hC dX12_openOf_2 rfl rfl rfl ?_
  refine g_callVI (As := []) hC mv_X12_sets wml_RX12_263 (k_X12_sets _ V hL X) cf_X12 (at_120 hL) (by decide) ⟨Nat.zero_le _, Nat.zero_le _⟩ rfl rfl ⟨Nat.le_of_ble_eq_true rfl, Nat.le_of_ble_eq_true rfl⟩ (Nat.le_of_ble_eq_true rfl) dX12_openOf_3 (fun r1 X2 => ?_)
  refine g_iconst (v := vI 1) hC dX12_openOf_6 rfl ?_
  refine g_isub hC dX12_openOf_7 ?_
  refine g_callVI (As := [vI p1, vI (r1 - 1)]) hC mv_X12_passes wml_RX12_294 (k_X12_passes _ V hL p1 (r1 - 1) X2) cf_X12 (at_120 hL) (by decide) ⟨Nat.zero_le _, Nat.zero_le _⟩ rfl rfl ⟨Nat.le_of_ble_eq_true rfl, Nat.le_of_ble_eq_true rfl⟩ (Nat.le_of_ble_eq_true rfl) dX12_openOf_8 (fun r3 X4 => ?_)
  refine g_if_eq (tgt := 18) hC dX12_openOf_11 (by decide) ?_ ?_
  · refine g_aload_n (q := 0) hC dX12_openOf_18 rfl rfl rfl ?_
    refine g_iload_n (q := 1) hC dX12_openOf_19 rfl rfl ?_
    refine g_iconst (v := vI 0) hC dX12_openOf_20 rfl ?_
    refine g_callVI (As := [vI p1, vI 0]) hC mv_X12_passes wml_RX12_294 (k_X12_passes _ V hL p1 0 X4) cf_X12 (at_120 hL) (by decide) ⟨Nat.zero_le _, Nat.zero_le _⟩ rfl rfl ⟨Nat.le_of_ble_eq_true rfl, Nat.le_of_ble_eq_true rfl⟩ (Nat.le_of_ble_eq_true rfl) dX12_openOf_21 (fun r5 X6 => ?_)
    refine g_if_eq (tgt := 31) hC dX12_openOf_24 (by decide) ?_ ?_
    · refine g_iconst (v := vI 0) hC dX12_openOf_31 rfl ?_
      exact g_iret hC hR dX12_openOf_32
    · refine g_iconst (v := vI 1) hC dX12_openOf_27 rfl ?_
      refine g_goto (tgt := 32) hC dX12_openOf_28 (by decide) ?_
      exact g_iret hC hR dX12_openOf_32
  · refine g_iconst (v := vI 2) hC dX12_openOf_14 rfl ?_
    refine g_goto (tgt := 32) hC dX12_openOf_15 (by decide) ?_
    exact g_iret hC hR dX12_openOf_32
def f_X12_open (p1 : Int) (X : Mem) : Option (Int × Mem) :=
  c1 p1 <|
  cl (f_X12_isCell p1 X) fun r1 X2 =>
  c1 r1 <| if r1 = 0 then
    cl (f_X12_refuse 1 X2) fun r3 X4 =>
    some (r3, X4)
  else
    cl (f_X12_openOf p1 X2) fun r5 X6 =>
    cl (f_X12_gives r5 X6) fun r7 X8 =>
    some (r7, X8)
set_option maxRecDepth 20000 in
theorem k_X12_open (l : Launch) (V : Ev) {L : List Kd} (hL : LKm L) (p1 : Int) (X : Mem)  : Kt l V L yX12_open (.code yX12_open cX12_open 2 (some .int)) 4 88 [vR V.1 120, vI p1] rI X (f_X12_open p1 X) := by
  refine kt_of (own := RX12) (lv0 := [(0, vR V.1 120), (1, vI p1)]) (by decide) rfl (Nat.le_of_ble_eq_true rfl) rfl (fun C hCl hC hR => ?_)
  subst hCl
  unfold f_X12_open
  refine g_aload_n (q := 0) hC dX12_open_0 rfl rfl rfl ?_
  refine g_iload_n (q := 1) hC dX12_open_1 rfl rfl ?_
  refine g_i2l hC dX12_open_2 ?_
  refine g_callVI (As := [vJ p1]) hC mv_X12_isCell wml_RX12_275 (k_X12_isCell _ V hL p1 X) cf_X12 (at_120 hL) (by decide) ⟨Nat.zero_le _, Nat.zero_le _⟩ rfl rfl ⟨Nat.le_of_ble_eq_true rfl, Nat.le_of_ble_eq_true rfl⟩ (Nat.le_of_ble_eq_true rfl) dX12_open_3 (fun r1 X2 => ?_)
  refine g_if_eq (tgt := 21) hC dX12_open_6 (by decide) ?_ ?_
  · refine g_aload_n (q := 0) hC dX12_open_21 rfl rfl rfl ?_
    refine g_iconst (v := vI 1) hC dX12_open_22 rfl ?_
    refine g_callVI (As := [vI 1]) hC mv_X12_refuse wml_RX12_185 (k_X12_refuse _ V hL 1 X2) cf_X12 (at_120 hL) (by decide) ⟨Nat.zero_le _, Nat.zero_le _⟩ rfl rfl ⟨Nat.le_of_ble_eq_true rfl, Nat.le_of_ble_eq_true rfl⟩ (Nat.le_of_ble_eq_true rfl) dX12_open_23 (fun r3 X4 => ?_)
    exact g_iret hC hR dX12_open_26
  · refine g_aload_n (q := 0) hC dX12_open_9 rfl rfl rfl ?_
    refine g_aload_n (q := 0) hC dX12_open_10 rfl rfl rfl ?_
    refine g_iload_n (q := 1) hC dX12_open_11 rfl rfl ?_
    refine g_callVI (As := [vI p1]) hC mv_X12_openOf wml_RX12_297 (k_X12_openOf _ V hL p1 X2) cf_X12 (at_120 hL) (by decide) ⟨Nat.zero_le _, Nat.zero_le _⟩ rfl rfl ⟨Nat.le_of_ble_eq_true rfl, Nat.le_of_ble_eq_true rfl⟩ (Nat.le_of_ble_eq_true rfl) dX12_open_12 (fun r5 X6 => ?_)
    refine g_callVI (As := [vI r5]) hC mv_X12_gives wml_RX12_188 (k_X12_gives _ V hL r5 X6) cf_X12 (at_120 hL) (by decide) ⟨Nat.zero_le _, Nat.zero_le _⟩ rfl rfl ⟨Nat.le_of_ble_eq_true rfl, Nat.le_of_ble_eq_true rfl⟩ (Nat.le_of_ble_eq_true rfl) dX12_open_15 (fun r7 X8 => ?_)
    refine g_goto (tgt := 26) hC dX12_open_18 (by decide) ?_
    exact g_iret hC hR dX12_open_26
def f_X12_part (p1 : Int) (X : Mem) : Option (Int × Mem) :=
  cl (f_X12_isSet p1 X) fun r1 X2 =>
  c1 r1 <| if r1 = 0 then
    cl (f_X12_refuse 1 X2) fun r3 X4 =>
    some (r3, X4)
  else
    ax 2200 (168 + p1) <|
    cl (f_X12_gives (X2 121 (168 + p1)) X2) fun r5 X6 =>
    some (r5, X6)
set_option maxRecDepth 20000 in
theorem k_X12_part (l : Launch) (V : Ev) {L : List Kd} (hL : LKm L) (p1 : Int) (X : Mem)  : Kt l V L yX12_part (.code yX12_part cX12_part 2 (some .int)) 2 41 [vR V.1 120, vI p1] rI X (f_X12_part p1 X) := by
  refine kt_of (own := RX12) (lv0 := [(0, vR V.1 120), (1, vI p1)]) (by decide) rfl (Nat.le_of_ble_eq_true rfl) rfl (fun C hCl hC hR => ?_)
  subst hCl
  unfold f_X12_part
  refine g_aload_n (q := 0) hC dX12_part_0 rfl rfl rfl ?_
  refine g_iload_n (q := 1) hC dX12_part_1 rfl rfl ?_
  refine g_callVI (As := [vI p1]) hC mv_X12_isSet wml_RX12_288 (k_X12_isSet _ V hL p1 X) cf_X12 (at_120 hL) (by decide) ⟨Nat.zero_le _, Nat.zero_le _⟩ rfl rfl ⟨Nat.le_of_ble_eq_true rfl, Nat.le_of_ble_eq_true rfl⟩ (Nat.le_of_ble_eq_true rfl) dX12_part_2 (fun r1 X2 => ?_)
  refine g_if_eq (tgt := 25) hC dX12_part_5 (by decide) ?_ ?_
  · refine g_aload_n (q := 0) hC dX12_part_25 rfl rfl rfl ?_
    refine g_iconst (v := vI 1) hC dX12_part_26 rfl ?_
    refine g_callVI (As := [vI 1]) hC mv_X12_refuse wml_RX12_185 (k_X12_refuse _ V hL 1 X2) cf_X12 (at_120 hL) (by decide) ⟨Nat.zero_le _, Nat.zero_le _⟩ rfl rfl ⟨Nat.le_of_ble_eq_true rfl, Nat.le_of_ble_eq_true rfl⟩ (Nat.le_of_ble_eq_true rfl) dX12_part_27 (fun r3 X4 => ?_)
    exact g_iret hC hR dX12_part_30
  · refine g_aload_n (q := 0) hC dX12_part_8 rfl rfl rfl ?_
    refine g_aload_n (q := 0) hC dX12_part_9 rfl rfl rfl ?_
    refine g_getS (k := 0) hC cf_X12 (at_120 hL) (by decide) rfl (by decide) (by decide) wf_RX12_7 dX12_part_10 ?_
    refine g_sipush (v := vI 168) hC dX12_part_13 rfl ?_
    refine g_iload_n (q := 1) hC dX12_part_16 rfl rfl ?_
    refine g_iadd hC dX12_part_17 ?_
    refine g_iald hC (at_121 hL) (by decide) dX12_part_18 ?_
    refine g_callVI (As := [vI (X2 121 (168 + p1))]) hC mv_X12_gives wml_RX12_188 (k_X12_gives _ V hL (X2 121 (168 + p1)) X2) cf_X12 (at_120 hL) (by decide) ⟨Nat.zero_le _, Nat.zero_le _⟩ rfl rfl ⟨Nat.le_of_ble_eq_true rfl, Nat.le_of_ble_eq_true rfl⟩ (Nat.le_of_ble_eq_true rfl) dX12_part_19 (fun r5 X6 => ?_)
    refine g_goto (tgt := 30) hC dX12_part_22 (by decide) ?_
    exact g_iret hC hR dX12_part_30
def B_X12_partsOf_46 (go5 : Int → Int → Int → Int → Mem → Option (Int × Mem)) (x1 : Int) (x2 : Int) (x5 : Int) (s0 : Int) (s1 : Int) (X : Mem) : Option (Int × Mem) :=
  bd (s1 + s0) fun v3 =>
  go5 x1 x2 v3 (x5 + 1) X
def B_X12_partsOf_45 (go5 : Int → Int → Int → Int → Mem → Option (Int × Mem)) (x1 : Int) (x2 : Int) (x5 : Int) (s0 : Int) (X : Mem) : Option (Int × Mem) :=
  B_X12_partsOf_46  go5 x1 x2 x5 0 s0 X
def L_X12_partsOf_5 : Nat → Int → Int → Int → Int → Mem → Option (Int × Mem)
  | 0, _, _, _, _, _ => none
  | n + 1, x1, x2, x3, x5, X =>
    cl (f_X12_sets X) fun r1 X2 =>
    c2 x5 r1 <| if r1 ≤ x5 then
      some (x3, X2)
    else
      c2 (ia x5 x1) x1 <| if ¬ (ia x5 x1) = x1 then
        B_X12_partsOf_45  (fun x1 x2 x3 x5 X => L_X12_partsOf_5   n x1 x2 x3 x5 X) x1 x2 x5 x3 X2
      else
        c1 (ia x5 x2) <| if ¬ (ia x5 x2) = 0 then
          B_X12_partsOf_45  (fun x1 x2 x3 x5 X => L_X12_partsOf_5   n x1 x2 x3 x5 X) x1 x2 x5 x3 X2
        else
          ax 2200 (168 + x5) <|
          c1 (X2 121 (168 + x5)) <|
          B_X12_partsOf_46  (fun x1 x2 x3 x5 X => L_X12_partsOf_5   n x1 x2 x3 x5 X) x1 x2 x5 (X2 121 (168 + x5)) x3 X2
def f_X12_partsOf (p1 : Int) (p2 : Int) (X : Mem) : Option (Int × Mem) :=
  L_X12_partsOf_5   KF p1 p2 0 0 X
set_option maxRecDepth 20000 in
theorem gB_X12_partsOf_46 {C : Cx} {V : Ev} {L : List Kd} (hC : Ok C V cX12_partsOf RX12 6 1 20) (hR : Rt C V L (some .long) rJ) (hL : LKm L) {go5 : Int → Int → Int → Int → Mem → Option (Int × Mem)} (hgo5 : ∀ (x1 : Int) (x2 : Int) (x3 : Int) (x5 : Int) (X : Mem), G C V L 0 0 6 5 [(0, vR V.1 120), (1, vI x1), (2, vI x2), (3, vJ x3), (5, vI x5)] [] X (go5 x1 x2 x3 x5 X)) (x1 : Int) (x2 : Int) (x5 : Int) (s0 : Int) (s1 : Int) (X : Mem)  : G C V L 0 0 6 46 [(0, vR V.1 120), (1, vI x1), (2, vI x2), (5, vI x5)] [vJ s0, vJ s1] X (B_X12_partsOf_46  go5 x1 x2 x5 s0 s1 X) := by
  unfold B_X12_partsOf_46
  refine g_ladd hC dX12_partsOf_46 ?_
  refine g_topJ (fun v3 => ?_)
  refine g_lstore_n hC dX12_partsOf_47 rfl (by decide) rfl ?_
  refine g_iinc (q := 4) hC dX12_partsOf_48 rfl (by decide) rfl ?_
  refine g_goto (tgt := 5) hC dX12_partsOf_51 (by decide) ?_
  refine g_sub [2, 3, 4, 1, 0] rfl ?_
  exact hgo5 x1 x2 v3 (x5 + 1) X
set_option maxRecDepth 20000 in
theorem gB_X12_partsOf_45 {C : Cx} {V : Ev} {L : List Kd} (hC : Ok C V cX12_partsOf RX12 6 1 20) (hR : Rt C V L (some .long) rJ) (hL : LKm L) {go5 : Int → Int → Int → Int → Mem → Option (Int × Mem)} (hgo5 : ∀ (x1 : Int) (x2 : Int) (x3 : Int) (x5 : Int) (X : Mem), G C V L 0 0 6 5 [(0, vR V.1 120), (1, vI x1), (2, vI x2), (3, vJ x3), (5, vI x5)] [] X (go5 x1 x2 x3 x5 X)) (x1 : Int) (x2 : Int) (x5 : Int) (s0 : Int) (X : Mem)  : G C V L 0 0 6 45 [(0, vR V.1 120), (1, vI x1), (2, vI x2), (5, vI x5)] [vJ s0] X (B_X12_partsOf_45  go5 x1 x2 x5 s0 X) := by
  unfold B_X12_partsOf_45
  refine g_lconst (v := vJ 0) hC dX12_partsOf_45 rfl ?_
  exact gB_X12_partsOf_46 hC hR hL hgo5 x1 x2 x5 0 s0 X
set_option maxRecDepth 20000 in
theorem gL_X12_partsOf_5 {C : Cx} {V : Ev} {L : List Kd} (hC : Ok C V cX12_partsOf RX12 6 1 20) (hR : Rt C V L (some .long) rJ) (hL : LKm L) : ∀ (n : Nat) (x1 : Int) (x2 : Int) (x3 : Int) (x5 : Int) (X : Mem), G C V L 0 0 6 5 [(0, vR V.1 120), (1, vI x1), (2, vI x2), (3, vJ x3), (5, vI x5)] [] X (L_X12_partsOf_5   n x1 x2 x3 x5 X) := by
  intro n
  induction n with
  | zero => intro x1 x2 x3 x5 X; exact g_none
  | succ n ih =>
    intro x1 x2 x3 x5 X
    rw [L_X12_partsOf_5]
    refine g_iload (q := 4) hC dX12_partsOf_5 rfl ?_
    refine g_aload_n (q := 0) hC dX12_partsOf_7 rfl rfl rfl ?_
    refine g_callVI (As := []) hC mv_X12_sets wml_RX12_263 (k_X12_sets _ V hL X) cf_X12 (at_120 hL) (by decide) ⟨Nat.zero_le _, Nat.zero_le _⟩ rfl rfl ⟨Nat.le_of_ble_eq_true rfl, Nat.le_of_ble_eq_true rfl⟩ (Nat.le_of_ble_eq_true rfl) dX12_partsOf_8 (fun r1 X2 => ?_)
    refine g_icmp_ge (tgt := 54) hC dX12_partsOf_11 (by decide) ?_ ?_
    · refine g_lload_n (q := 3) hC dX12_partsOf_54 rfl rfl ?_
      exact g_lret hC hR dX12_partsOf_55
    · refine g_lload_n (q := 3) hC dX12_partsOf_14 rfl rfl ?_
      refine g_iload (q := 4) hC dX12_partsOf_15 rfl ?_
      refine g_iload_n (q := 1) hC dX12_partsOf_17 rfl rfl ?_
      refine g_iand hC dX12_partsOf_18 ?_
      refine g_iload_n (q := 1) hC dX12_partsOf_19 rfl rfl ?_
      refine g_icmp_ne (tgt := 45) hC dX12_partsOf_20 (by decide) ?_ ?_
      · refine g_sub [0, 1, 2, 4] rfl ?_
        exact gB_X12_partsOf_45 hC hR hL ih x1 x2 x5 x3 X2
      · refine g_iload (q := 4) hC dX12_partsOf_23 rfl ?_
        refine g_iload_n (q := 2) hC dX12_partsOf_25 rfl rfl ?_
        refine g_iand hC dX12_partsOf_26 ?_
        refine g_if_ne (tgt := 45) hC dX12_partsOf_27 (by decide) ?_ ?_
        · refine g_sub [0, 1, 2, 4] rfl ?_
          exact gB_X12_partsOf_45 hC hR hL ih x1 x2 x5 x3 X2
        · refine g_aload_n (q := 0) hC dX12_partsOf_30 rfl rfl rfl ?_
          refine g_getS (k := 0) hC cf_X12 (at_120 hL) (by decide) rfl (by decide) (by decide) wf_RX12_7 dX12_partsOf_31 ?_
          refine g_sipush (v := vI 168) hC dX12_partsOf_34 rfl ?_
          refine g_iload (q := 4) hC dX12_partsOf_37 rfl ?_
          refine g_iadd hC dX12_partsOf_39 ?_
          refine g_iald hC (at_121 hL) (by decide) dX12_partsOf_40 ?_
          refine g_i2l hC dX12_partsOf_41 ?_
          refine g_goto (tgt := 46) hC dX12_partsOf_42 (by decide) ?_
          refine g_sub [0, 1, 2, 4] rfl ?_
          exact gB_X12_partsOf_46 hC hR hL ih x1 x2 x5 (X2 121 (168 + x5)) x3 X2
set_option maxRecDepth 20000 in
theorem k_X12_partsOf (l : Launch) (V : Ev) {L : List Kd} (hL : LKm L) (p1 : Int) (p2 : Int) (X : Mem)  : Kt l V L yX12_partsOf (.code yX12_partsOf cX12_partsOf 6 (some .long)) 1 20 [vR V.1 120, vI p1, vI p2] rJ X (f_X12_partsOf p1 p2 X) := by
  refine kt_of (own := RX12) (lv0 := [(0, vR V.1 120), (1, vI p1), (2, vI p2)]) (by decide) rfl (Nat.le_of_ble_eq_true rfl) rfl (fun C hCl hC hR => ?_)
  subst hCl
  unfold f_X12_partsOf
  refine g_lconst (v := vJ 0) hC dX12_partsOf_0 rfl ?_
  refine g_lstore_n hC dX12_partsOf_1 rfl (by decide) rfl ?_
  refine g_iconst (v := vI 0) hC dX12_partsOf_2 rfl ?_
  refine g_istore hC dX12_partsOf_3 (by decide) rfl ?_
  refine g_sub [2, 3, 4, 1, 0] rfl ?_
  exact gL_X12_partsOf_5 hC hR hL  KF p1 p2 0 0 X
def B_X12_tellsBy_31 (x1 : Int) (x3 : Int) (x5 : Int) (X : Mem) : Option (Int × Mem) :=
  dd x1 x5 <|
  bd (ms X 120 3 (x1 / x5)) fun X1 =>
  dd x3 x5 <|
  bd (ms X1 120 4 (x3 / x5)) fun X2 =>
  cl (f_X12_is 0 X2) fun r3 X4 =>
  cz r3 (some (r3, X4))
def L_X12_tellsBy_6 : Nat → Int → Int → Int → Int → Mem → Option (Int × Mem)
  | 0, _, _, _, _, _ => none
  | n + 1, x1, x3, x5, x7, X =>
    d2 x7 0 <| if x7 = 0 then
      B_X12_tellsBy_31   x1 x3 x5 X
    else
      dd x5 x7 <|
      bd (x5 % x7) fun v5 =>
      L_X12_tellsBy_6   n x1 x3 x7 v5 X
def f_X12_tellsBy (p1 : Int) (p2 : Int) (X : Mem) : Option (Int × Mem) :=
  L_X12_tellsBy_6   KF p1 p2 p1 p2 X
set_option maxRecDepth 20000 in
theorem gB_X12_tellsBy_31 {C : Cx} {V : Ev} {L : List Kd} (hC : Ok C V cX12_tellsBy RX12 11 1 21) (hR : Rt C V L (some .boolean) rI) (hL : LKm L) (x1 : Int) (x3 : Int) (x5 : Int) (X : Mem)  : G C V L 0 0 11 31 [(0, vR V.1 120), (1, vJ x1), (3, vJ x3), (5, vJ x5)] [] X (B_X12_tellsBy_31   x1 x3 x5 X) := by
  unfold B_X12_tellsBy_31
  refine g_aload_n (q := 0) hC dX12_tellsBy_31 rfl rfl rfl ?_
  refine g_lload_n (q := 1) hC dX12_tellsBy_32 rfl rfl ?_
  refine g_lload (q := 3) hC dX12_tellsBy_33 rfl ?_
  refine g_ldiv hC dX12_tellsBy_35 ?_
  refine g_putJ (k := 3) (kz := 3) hC cf_X12 (at_120 hL) (by decide) rfl (by decide) rfl wf_RX12_95 rfl rfl dX12_tellsBy_36 (fun X1 => ?_)
  refine g_aload_n (q := 0) hC dX12_tellsBy_39 rfl rfl rfl ?_
  refine g_lload_n (q := 2) hC dX12_tellsBy_40 rfl rfl ?_
  refine g_lload (q := 3) hC dX12_tellsBy_41 rfl ?_
  refine g_ldiv hC dX12_tellsBy_43 ?_
  refine g_putJ (k := 4) (kz := 4) hC cf_X12 (at_120 hL) (by decide) rfl (by decide) rfl wf_RX12_17 rfl rfl dX12_tellsBy_44 (fun X2 => ?_)
  refine g_aload_n (q := 0) hC dX12_tellsBy_47 rfl rfl rfl ?_
  refine g_iconst (v := vI 0) hC dX12_tellsBy_48 rfl ?_
  refine g_callVI (As := [vI 0]) hC mv_X12_is wml_RX12_98 (k_X12_is _ V hL 0 X2) cf_X12 (at_120 hL) (by decide) ⟨Nat.zero_le _, Nat.zero_le _⟩ rfl rfl ⟨Nat.le_of_ble_eq_true rfl, Nat.le_of_ble_eq_true rfl⟩ (Nat.le_of_ble_eq_true rfl) dX12_tellsBy_49 (fun r3 X4 => ?_)
  exact g_zret hC hR dX12_tellsBy_52
set_option maxRecDepth 20000 in
theorem gL_X12_tellsBy_6 {C : Cx} {V : Ev} {L : List Kd} (hC : Ok C V cX12_tellsBy RX12 11 1 21) (hR : Rt C V L (some .boolean) rI) (hL : LKm L) : ∀ (n : Nat) (x1 : Int) (x3 : Int) (x5 : Int) (x7 : Int) (X : Mem), G C V L 0 0 11 6 [(0, vR V.1 120), (1, vJ x1), (3, vJ x3), (5, vJ x5), (7, vJ x7)] [] X (L_X12_tellsBy_6   n x1 x3 x5 x7 X) := by
  intro n
  induction n with
  | zero => intro x1 x3 x5 x7 X; exact g_none
  | succ n ih =>
    intro x1 x3 x5 x7 X
    rw [L_X12_tellsBy_6]
    refine g_lload (q := 4) hC dX12_tellsBy_6 rfl ?_
    refine g_lconst (v := vJ 0) hC dX12_tellsBy_8 rfl ?_
    refine g_lcmp_eq (tgt := 31) hC dX12_tellsBy_9 rfl dX12_tellsBy_10 (by decide) ?_ ?_
    · refine g_sub [0, 1, 2, 3] rfl ?_
      exact gB_X12_tellsBy_31 hC hR hL  x1 x3 x5 X
    · refine g_lload (q := 3) hC dX12_tellsBy_13 rfl ?_
      refine g_lload (q := 4) hC dX12_tellsBy_15 rfl ?_
      refine g_lrem hC dX12_tellsBy_17 ?_
      refine g_topJ (fun v5 => ?_)
      refine g_lstore hC dX12_tellsBy_18 (by decide) rfl ?_
      refine g_lload (q := 5) hC dX12_tellsBy_20 rfl ?_
      refine g_lstore hC dX12_tellsBy_22 (by decide) rfl ?_
      refine g_lload (q := 1) hC dX12_tellsBy_24 rfl ?_
      refine g_lstore hC dX12_tellsBy_26 (by decide) rfl ?_
      refine g_goto (tgt := 6) hC dX12_tellsBy_28 (by decide) ?_
      refine g_sub [3, 4, 5, 1, 0] rfl ?_
      exact ih x1 x3 x7 v5 X
set_option maxRecDepth 20000 in
theorem k_X12_tellsBy (l : Launch) (V : Ev) {L : List Kd} (hL : LKm L) (p1 : Int) (p2 : Int) (X : Mem)  : Kt l V L yX12_tellsBy (.code yX12_tellsBy cX12_tellsBy 11 (some .boolean)) 1 21 [vR V.1 120, vJ p1, vJ p2] rI X (f_X12_tellsBy p1 p2 X) := by
  refine kt_of (own := RX12) (lv0 := [(0, vR V.1 120), (1, vJ p1), (3, vJ p2)]) (by decide) rfl (Nat.le_of_ble_eq_true rfl) rfl (fun C hCl hC hR => ?_)
  subst hCl
  unfold f_X12_tellsBy
  refine g_lload_n (q := 1) hC dX12_tellsBy_0 rfl rfl ?_
  refine g_lstore hC dX12_tellsBy_1 (by decide) rfl ?_
  refine g_lload_n (q := 3) hC dX12_tellsBy_3 rfl rfl ?_
  refine g_lstore hC dX12_tellsBy_4 (by decide) rfl ?_
  refine g_sub [2, 3, 4, 1, 0] rfl ?_
  exact gL_X12_tellsBy_6 hC hR hL  KF p1 p2 p1 p2 X
def f_X12_there (p1 : Int) (X : Mem) : Option (Int × Mem) :=
  cl (f_X12_isBar p1 X) fun r1 X2 =>
  c1 r1 <| if r1 = 0 then
    cl (f_X12_is 1 X2) fun r3 X4 =>
    cz r3 (some (r3, X4))
  else
    cl (f_X12_partsOf (ishl 1 p1) 0 X2) fun r5 X6 =>
    cl (f_X12_tellsBy r5 1000000 X6) fun r7 X8 =>
    cz r7 (some (r7, X8))
set_option maxRecDepth 20000 in
theorem k_X12_there (l : Launch) (V : Ev) {L : List Kd} (hL : LKm L) (p1 : Int) (X : Mem)  : Kt l V L yX12_there (.code yX12_there cX12_there 2 (some .boolean)) 2 51 [vR V.1 120, vI p1] rI X (f_X12_there p1 X) := by
  refine kt_of (own := RX12) (lv0 := [(0, vR V.1 120), (1, vI p1)]) (by decide) rfl (Nat.le_of_ble_eq_true rfl) rfl (fun C hCl hC hR => ?_)
  subst hCl
  unfold f_X12_there
  refine g_aload_n (q := 0) hC dX12_there_0 rfl rfl rfl ?_
  refine g_iload_n (q := 1) hC dX12_there_1 rfl rfl ?_
  refine g_callVI (As := [vI p1]) hC mv_X12_isBar wml_RX12_266 (k_X12_isBar _ V hL p1 X) cf_X12 (at_120 hL) (by decide) ⟨Nat.zero_le _, Nat.zero_le _⟩ rfl rfl ⟨Nat.le_of_ble_eq_true rfl, Nat.le_of_ble_eq_true rfl⟩ (Nat.le_of_ble_eq_true rfl) dX12_there_2 (fun r1 X2 => ?_)
  refine g_if_eq (tgt := 26) hC dX12_there_5 (by decide) ?_ ?_
  · refine g_aload_n (q := 0) hC dX12_there_26 rfl rfl rfl ?_
    refine g_iconst (v := vI 1) hC dX12_there_27 rfl ?_
    refine g_callVI (As := [vI 1]) hC mv_X12_is wml_RX12_98 (k_X12_is _ V hL 1 X2) cf_X12 (at_120 hL) (by decide) ⟨Nat.zero_le _, Nat.zero_le _⟩ rfl rfl ⟨Nat.le_of_ble_eq_true rfl, Nat.le_of_ble_eq_true rfl⟩ (Nat.le_of_ble_eq_true rfl) dX12_there_28 (fun r3 X4 => ?_)
    exact g_zret hC hR dX12_there_31
  · refine g_aload_n (q := 0) hC dX12_there_8 rfl rfl rfl ?_
    refine g_aload_n (q := 0) hC dX12_there_9 rfl rfl rfl ?_
    refine g_iconst (v := vI 1) hC dX12_there_10 rfl ?_
    refine g_iload_n (q := 1) hC dX12_there_11 rfl rfl ?_
    refine g_ishl hC dX12_there_12 ?_
    refine g_iconst (v := vI 0) hC dX12_there_13 rfl ?_
    refine g_callVJ (As := [vI (ishl 1 p1), vI 0]) hC mv_X12_partsOf wml_RX12_308 (k_X12_partsOf _ V hL (ishl 1 p1) 0 X2) cf_X12 (at_120 hL) (by decide) ⟨Nat.zero_le _, Nat.zero_le _⟩ rfl rfl ⟨Nat.le_of_ble_eq_true rfl, Nat.le_of_ble_eq_true rfl⟩ (Nat.le_of_ble_eq_true rfl) dX12_there_14 (fun r5 X6 => ?_)
    refine g_ldc2 (n := 1000000) hC wk_RX12_300 rfl dX12_there_17 ?_
    refine g_callVI (As := [vJ r5, vJ 1000000]) hC mv_X12_tellsBy wml_RX12_312 (k_X12_tellsBy _ V hL r5 1000000 X6) cf_X12 (at_120 hL) (by decide) ⟨Nat.zero_le _, Nat.zero_le _⟩ rfl rfl ⟨Nat.le_of_ble_eq_true rfl, Nat.le_of_ble_eq_true rfl⟩ (Nat.le_of_ble_eq_true rfl) dX12_there_20 (fun r7 X8 => ?_)
    refine g_goto (tgt := 31) hC dX12_there_23 (by decide) ?_
    exact g_zret hC hR dX12_there_31
def f_X12_chance (p1 : Int) (X : Mem) : Option (Int × Mem) :=
  cl (f_X12_isSet p1 X) fun r1 X2 =>
  c1 r1 <| if r1 = 0 then
    cl (f_X12_is 1 X2) fun r3 X4 =>
    cz r3 (some (r3, X4))
  else
    cl (f_X12_partsOf 0 p1 X2) fun r5 X6 =>
    cl (f_X12_tellsBy r5 1000000 X6) fun r7 X8 =>
    cz r7 (some (r7, X8))
set_option maxRecDepth 20000 in
theorem k_X12_chance (l : Launch) (V : Ev) {L : List Kd} (hL : LKm L) (p1 : Int) (X : Mem)  : Kt l V L yX12_chance (.code yX12_chance cX12_chance 2 (some .boolean)) 2 51 [vR V.1 120, vI p1] rI X (f_X12_chance p1 X) := by
  refine kt_of (own := RX12) (lv0 := [(0, vR V.1 120), (1, vI p1)]) (by decide) rfl (Nat.le_of_ble_eq_true rfl) rfl (fun C hCl hC hR => ?_)
  subst hCl
  unfold f_X12_chance
  refine g_aload_n (q := 0) hC dX12_chance_0 rfl rfl rfl ?_
  refine g_iload_n (q := 1) hC dX12_chance_1 rfl rfl ?_
  refine g_callVI (As := [vI p1]) hC mv_X12_isSet wml_RX12_288 (k_X12_isSet _ V hL p1 X) cf_X12 (at_120 hL) (by decide) ⟨Nat.zero_le _, Nat.zero_le _⟩ rfl rfl ⟨Nat.le_of_ble_eq_true rfl, Nat.le_of_ble_eq_true rfl⟩ (Nat.le_of_ble_eq_true rfl) dX12_chance_2 (fun r1 X2 => ?_)
  refine g_if_eq (tgt := 24) hC dX12_chance_5 (by decide) ?_ ?_
  · refine g_aload_n (q := 0) hC dX12_chance_24 rfl rfl rfl ?_
    refine g_iconst (v := vI 1) hC dX12_chance_25 rfl ?_
    refine g_callVI (As := [vI 1]) hC mv_X12_is wml_RX12_98 (k_X12_is _ V hL 1 X2) cf_X12 (at_120 hL) (by decide) ⟨Nat.zero_le _, Nat.zero_le _⟩ rfl rfl ⟨Nat.le_of_ble_eq_true rfl, Nat.le_of_ble_eq_true rfl⟩ (Nat.le_of_ble_eq_true rfl) dX12_chance_26 (fun r3 X4 => ?_)
    exact g_zret hC hR dX12_chance_29
  · refine g_aload_n (q := 0) hC dX12_chance_8 rfl rfl rfl ?_
    refine g_aload_n (q := 0) hC dX12_chance_9 rfl rfl rfl ?_
    refine g_iconst (v := vI 0) hC dX12_chance_10 rfl ?_
    refine g_iload_n (q := 1) hC dX12_chance_11 rfl rfl ?_
    refine g_callVJ (As := [vI 0, vI p1]) hC mv_X12_partsOf wml_RX12_308 (k_X12_partsOf _ V hL 0 p1 X2) cf_X12 (at_120 hL) (by decide) ⟨Nat.zero_le _, Nat.zero_le _⟩ rfl rfl ⟨Nat.le_of_ble_eq_true rfl, Nat.le_of_ble_eq_true rfl⟩ (Nat.le_of_ble_eq_true rfl) dX12_chance_12 (fun r5 X6 => ?_)
    refine g_ldc2 (n := 1000000) hC wk_RX12_300 rfl dX12_chance_15 ?_
    refine g_callVI (As := [vJ r5, vJ 1000000]) hC mv_X12_tellsBy wml_RX12_312 (k_X12_tellsBy _ V hL r5 1000000 X6) cf_X12 (at_120 hL) (by decide) ⟨Nat.zero_le _, Nat.zero_le _⟩ rfl rfl ⟨Nat.le_of_ble_eq_true rfl, Nat.le_of_ble_eq_true rfl⟩ (Nat.le_of_ble_eq_true rfl) dX12_chance_18 (fun r7 X8 => ?_)
    refine g_goto (tgt := 29) hC dX12_chance_21 (by decide) ?_
    exact g_zret hC hR dX12_chance_29
def B_X12_passDay_225  (X : Mem) : Option (Int × Mem) :=
  cl (f_X12_sharesOut X) fun r3 X4 =>
  c1 r3 <| if r3 = 0 then
    some (0, X4)
  else
    ax 2200 3 <|
    ax 2200 3 <| bd (ms X4 121 3 ((X4 121 3) + 1)) fun X5 =>
    some (0, X5)
def B_X12_passDay_219 (go35 : Int → Int → Int → Mem → Option (Int × Mem)) (x1 : Int) (x2 : Int) (x3 : Int) (X : Mem) : Option (Int × Mem) :=
  go35 x1 x2 (x3 + 1) X
def L_X12_passDay_190 (go35 : Int → Int → Int → Mem → Option (Int × Mem)) : Nat → Int → Int → Int → Int → Mem → Option (Int × Mem)
  | 0, _, _, _, _, _ => none
  | n + 1, x1, x2, x3, x6, X =>
    cl (f_X12_sets X) fun r12 X13 =>
    c2 x6 r12 <| if r12 ≤ x6 then
      B_X12_passDay_219  go35 x1 x2 x3 X13
    else
      ax 32 x6 <|
      ax 32 x6 <| bd (ms X13 130 x6 (X13 131 x6)) fun X14 =>
      L_X12_passDay_190  go35 n x1 x2 x3 (x6 + 1) X14
def B_X12_passDay_187 (go35 : Int → Int → Int → Mem → Option (Int × Mem)) (x1 : Int) (x2 : Int) (x3 : Int) (X : Mem) : Option (Int × Mem) :=
  L_X12_passDay_190  go35 KF x1 x2 x3 0 X
def B_X12_passDay_180 (go35 : Int → Int → Int → Mem → Option (Int × Mem)) (go85 : Int → Int → Int → Int → Int → Int → Mem → Option (Int × Mem)) (x1 : Int) (x2 : Int) (x3 : Int) (x4 : Int) (x5 : Int) (x6 : Int) (s0 : Int) (s1 : Int) (X : Mem) : Option (Int × Mem) :=
  ax 32 s1 <| bd (ms X 131 s1 s0) fun X17 =>
  go85 x1 x2 x3 x4 x5 (x6 + 1) X17
def L_X12_passDay_85 (go35 : Int → Int → Int → Mem → Option (Int × Mem)) : Nat → Int → Int → Int → Int → Int → Int → Mem → Option (Int × Mem)
  | 0, _, _, _, _, _, _, _ => none
  | n + 1, x1, x2, x3, x4, x5, x6, X =>
    cl (f_X12_sets X) fun r10 X11 =>
    c2 x6 r10 <| if r10 ≤ x6 then
      B_X12_passDay_187  go35 x1 x2 x3 X11
    else
      bd (io x6 (ishl 1 x3)) fun v15 =>
      bd (ia x6 (ix (ishl 1 x3) ((-1)))) fun v16 =>
      c2 x6 v15 <| if ¬ x6 = v15 then
        ax 32 v15 <|
        c1 x4 <|
        ax 32 v16 <|
        c1 (16 - x5) <|
        B_X12_passDay_180  go35 (fun x1 x2 x3 x4 x5 x6 X => L_X12_passDay_85  go35 n x1 x2 x3 x4 x5 x6 X) x1 x2 x3 x4 x5 x6 (((X11 130 v15) * x4) + ((X11 130 v16) * (16 - x5))) x6 X11
      else
        ax 32 v15 <|
        c1 (16 - x4) <|
        ax 32 v16 <|
        c1 x5 <|
        B_X12_passDay_180  go35 (fun x1 x2 x3 x4 x5 x6 X => L_X12_passDay_85  go35 n x1 x2 x3 x4 x5 x6 X) x1 x2 x3 x4 x5 x6 (((X11 130 v15) * (16 - x4)) + ((X11 130 v16) * x5)) x6 X11
def B_X12_passDay_72 (go35 : Int → Int → Int → Mem → Option (Int × Mem)) (x1 : Int) (x2 : Int) (x3 : Int) (s0 : Int) (X : Mem) : Option (Int × Mem) :=
  cl (f_X12_ofBar x3 3 X) fun r8 X9 =>
  L_X12_passDay_85  go35 KF x1 x2 x3 s0 r8 0 X9
def L_X12_passDay_35 : Nat → Int → Int → Int → Mem → Option (Int × Mem)
  | 0, _, _, _, _ => none
  | n + 1, x1, x2, x3, X =>
    ax 2200 2 <|
    c2 x3 (X 121 2) <| if (X 121 2) ≤ x3 then
      B_X12_passDay_225   X
    else
      c2 x3 x1 <| if ¬ x3 = x1 then
        cl (f_X12_ofBar x3 2 X) fun r6 X7 =>
        B_X12_passDay_72  (fun x1 x2 x3 X => L_X12_passDay_35   n x1 x2 x3 X) x1 x2 x3 r6 X7
      else
        cl (f_X12_ofBar x3 2 X) fun r18 X19 =>
        c2 16 (r18 + x2) <|
        B_X12_passDay_72  (fun x1 x2 x3 X => L_X12_passDay_35   n x1 x2 x3 X) x1 x2 x3 (min 16 (r18 + x2)) X19
def B_X12_passDay_33 (x1 : Int) (x2 : Int) (X : Mem) : Option (Int × Mem) :=
  L_X12_passDay_35   KF x1 x2 0 X
def L_X12_passDay_2 : Nat → Int → Int → Int → Mem → Option (Int × Mem)
  | 0, _, _, _, _ => none
  | n + 1, x1, x2, x3, X =>
    cl (f_X12_sets X) fun r1 X2 =>
    c2 x3 r1 <| if r1 ≤ x3 then
      B_X12_passDay_33   x1 x2 X2
    else
      ax 2200 (168 + x3) <|
      c1 (X2 121 (168 + x3)) <|
      ax 32 x3 <| bd (ms X2 130 x3 (X2 121 (168 + x3))) fun X20 =>
      L_X12_passDay_2   n x1 x2 (x3 + 1) X20
def f_X12_passDay (p1 : Int) (p2 : Int) (X : Mem) : Option (Int × Mem) :=
  L_X12_passDay_2   KF p1 p2 0 X
set_option maxRecDepth 20000 in
theorem gB_X12_passDay_225 {C : Cx} {V : Ev} {L : List Kd} (hC : Ok C V cX12_passDay RX12 9 2 45) (hR : Rt C V L none rV) (hL : LKm L)  (X : Mem)  : G C V L 0 0 9 225 [(0, vR V.1 120)] [] X (B_X12_passDay_225    X) := by
  unfold B_X12_passDay_225
  refine g_aload_n (q := 0) hC dX12_passDay_225 rfl rfl rfl ?_
  refine g_callVI (As := []) hC mv_X12_sharesOut wml_RX12_302 (k_X12_sharesOut _ V hL X) cf_X12 (at_120 hL) (by decide) ⟨Nat.zero_le _, Nat.zero_le _⟩ rfl rfl ⟨Nat.le_of_ble_eq_true rfl, Nat.le_of_ble_eq_true rfl⟩ (Nat.le_of_ble_eq_true rfl) dX12_passDay_226 (fun r3 X4 => ?_)
  refine g_if_eq (tgt := 242) hC dX12_passDay_229 (by decide) ?_ ?_
  · exact g_vret hC hR dX12_passDay_242
  · refine g_aload_n (q := 0) hC dX12_passDay_232 rfl rfl rfl ?_
    refine g_getS (k := 0) hC cf_X12 (at_120 hL) (by decide) rfl (by decide) (by decide) wf_RX12_7 dX12_passDay_233 ?_
    refine g_iconst (v := vI 3) hC dX12_passDay_236 rfl ?_
    refine g_dup2 hC dX12_passDay_237 rfl rfl ?_
    refine g_iald hC (at_121 hL) (by decide) dX12_passDay_238 ?_
    refine g_iconst (v := vI 1) hC dX12_passDay_239 rfl ?_
    refine g_iadd hC dX12_passDay_240 ?_
    refine g_iast hC (at_121 hL) (by decide) dX12_passDay_241 (fun X5 => ?_)
    exact g_vret hC hR dX12_passDay_242
set_option maxRecDepth 20000 in
theorem gB_X12_passDay_219 {C : Cx} {V : Ev} {L : List Kd} (hC : Ok C V cX12_passDay RX12 9 2 45) (hR : Rt C V L none rV) (hL : LKm L) {go35 : Int → Int → Int → Mem → Option (Int × Mem)} (hgo35 : ∀ (x1 : Int) (x2 : Int) (x3 : Int) (X : Mem), G C V L 0 0 9 35 [(0, vR V.1 120), (1, vI x1), (2, vI x2), (3, vI x3)] [] X (go35 x1 x2 x3 X)) (x1 : Int) (x2 : Int) (x3 : Int) (X : Mem)  : G C V L 0 0 9 219 [(0, vR V.1 120), (1, vI x1), (2, vI x2), (3, vI x3)] [] X (B_X12_passDay_219  go35 x1 x2 x3 X) := by
  unfold B_X12_passDay_219
  refine g_iinc (q := 3) hC dX12_passDay_219 rfl (by decide) rfl ?_
  refine g_goto (tgt := 35) hC dX12_passDay_222 (by decide) ?_
  refine g_sub [1, 2, 3, 0] rfl ?_
  exact hgo35 x1 x2 (x3 + 1) X
set_option maxRecDepth 20000 in
theorem gL_X12_passDay_190 {C : Cx} {V : Ev} {L : List Kd} (hC : Ok C V cX12_passDay RX12 9 2 45) (hR : Rt C V L none rV) (hL : LKm L) {go35 : Int → Int → Int → Mem → Option (Int × Mem)} (hgo35 : ∀ (x1 : Int) (x2 : Int) (x3 : Int) (X : Mem), G C V L 0 0 9 35 [(0, vR V.1 120), (1, vI x1), (2, vI x2), (3, vI x3)] [] X (go35 x1 x2 x3 X)) : ∀ (n : Nat) (x1 : Int) (x2 : Int) (x3 : Int) (x6 : Int) (X : Mem), G C V L 0 0 9 190 [(0, vR V.1 120), (1, vI x1), (2, vI x2), (3, vI x3), (6, vI x6)] [] X (L_X12_passDay_190  go35 n x1 x2 x3 x6 X) := by
  intro n
  induction n with
  | zero => intro x1 x2 x3 x6 X; exact g_none
  | succ n ih =>
    intro x1 x2 x3 x6 X
    rw [L_X12_passDay_190]
    refine g_iload (q := 4) hC dX12_passDay_190 rfl ?_
    refine g_aload_n (q := 0) hC dX12_passDay_192 rfl rfl rfl ?_
    refine g_callVI (As := []) hC mv_X12_sets wml_RX12_263 (k_X12_sets _ V hL X) cf_X12 (at_120 hL) (by decide) ⟨Nat.zero_le _, Nat.zero_le _⟩ rfl rfl ⟨Nat.le_of_ble_eq_true rfl, Nat.le_of_ble_eq_true rfl⟩ (Nat.le_of_ble_eq_true rfl) dX12_passDay_193 (fun r12 X13 => ?_)
    refine g_icmp_ge (tgt := 219) hC dX12_passDay_196 (by decide) ?_ ?_
    · refine g_sub [0, 1, 2, 3] rfl ?_
      exact gB_X12_passDay_219 hC hR hL hgo35 x1 x2 x3 X13
    · refine g_aload_n (q := 0) hC dX12_passDay_199 rfl rfl rfl ?_
      refine g_getS (k := 26) hC cf_X12 (at_120 hL) (by decide) rfl (by decide) (by decide) wf_RX12_50 dX12_passDay_200 ?_
      refine g_iload (q := 4) hC dX12_passDay_203 rfl ?_
      refine g_aload_n (q := 0) hC dX12_passDay_205 rfl rfl rfl ?_
      refine g_getS (k := 27) hC cf_X12 (at_120 hL) (by decide) rfl (by decide) (by decide) wf_RX12_53 dX12_passDay_206 ?_
      refine g_iload (q := 4) hC dX12_passDay_209 rfl ?_
      refine g_lald hC (at_131 hL) (by decide) dX12_passDay_211 ?_
      refine g_last hC (at_130 hL) (by decide) dX12_passDay_212 (fun X14 => ?_)
      refine g_iinc (q := 4) hC dX12_passDay_213 rfl (by decide) rfl ?_
      refine g_goto (tgt := 190) hC dX12_passDay_216 (by decide) ?_
      refine g_sub [1, 2, 3, 4, 0] rfl ?_
      exact ih x1 x2 x3 (x6 + 1) X14
set_option maxRecDepth 20000 in
theorem gB_X12_passDay_187 {C : Cx} {V : Ev} {L : List Kd} (hC : Ok C V cX12_passDay RX12 9 2 45) (hR : Rt C V L none rV) (hL : LKm L) {go35 : Int → Int → Int → Mem → Option (Int × Mem)} (hgo35 : ∀ (x1 : Int) (x2 : Int) (x3 : Int) (X : Mem), G C V L 0 0 9 35 [(0, vR V.1 120), (1, vI x1), (2, vI x2), (3, vI x3)] [] X (go35 x1 x2 x3 X)) (x1 : Int) (x2 : Int) (x3 : Int) (X : Mem)  : G C V L 0 0 9 187 [(0, vR V.1 120), (1, vI x1), (2, vI x2), (3, vI x3)] [] X (B_X12_passDay_187  go35 x1 x2 x3 X) := by
  unfold B_X12_passDay_187
  refine g_iconst (v := vI 0) hC dX12_passDay_187 rfl ?_
  refine g_istore hC dX12_passDay_188 (by decide) rfl ?_
  refine g_sub [1, 2, 3, 4, 0] rfl ?_
  exact gL_X12_passDay_190 hC hR hL hgo35 KF x1 x2 x3 0 X
set_option maxRecDepth 20000 in
theorem gB_X12_passDay_180 {C : Cx} {V : Ev} {L : List Kd} (hC : Ok C V cX12_passDay RX12 9 2 45) (hR : Rt C V L none rV) (hL : LKm L) {go35 : Int → Int → Int → Mem → Option (Int × Mem)} {go85 : Int → Int → Int → Int → Int → Int → Mem → Option (Int × Mem)} (hgo35 : ∀ (x1 : Int) (x2 : Int) (x3 : Int) (X : Mem), G C V L 0 0 9 35 [(0, vR V.1 120), (1, vI x1), (2, vI x2), (3, vI x3)] [] X (go35 x1 x2 x3 X)) (hgo85 : ∀ (x1 : Int) (x2 : Int) (x3 : Int) (x4 : Int) (x5 : Int) (x6 : Int) (X : Mem), G C V L 0 0 9 85 [(0, vR V.1 120), (1, vI x1), (2, vI x2), (3, vI x3), (4, vI x4), (5, vI x5), (6, vI x6)] [] X (go85 x1 x2 x3 x4 x5 x6 X)) (x1 : Int) (x2 : Int) (x3 : Int) (x4 : Int) (x5 : Int) (x6 : Int) (s0 : Int) (s1 : Int) (X : Mem)  : G C V L 0 0 9 180 [(0, vR V.1 120), (1, vI x1), (2, vI x2), (3, vI x3), (4, vI x4), (5, vI x5), (6, vI x6)] [vJ s0, vI s1, vR V.1 131] X (B_X12_passDay_180  go35 go85 x1 x2 x3 x4 x5 x6 s0 s1 X) := by
  unfold B_X12_passDay_180
  refine g_last hC (at_131 hL) (by decide) dX12_passDay_180 (fun X17 => ?_)
  refine g_iinc (q := 6) hC dX12_passDay_181 rfl (by decide) rfl ?_
  refine g_goto (tgt := 85) hC dX12_passDay_184 (by decide) ?_
  refine g_sub [1, 2, 3, 4, 5, 6, 0] rfl ?_
  exact hgo85 x1 x2 x3 x4 x5 (x6 + 1) X17
set_option maxRecDepth 20000 in
theorem gL_X12_passDay_85 {C : Cx} {V : Ev} {L : List Kd} (hC : Ok C V cX12_passDay RX12 9 2 45) (hR : Rt C V L none rV) (hL : LKm L) {go35 : Int → Int → Int → Mem → Option (Int × Mem)} (hgo35 : ∀ (x1 : Int) (x2 : Int) (x3 : Int) (X : Mem), G C V L 0 0 9 35 [(0, vR V.1 120), (1, vI x1), (2, vI x2), (3, vI x3)] [] X (go35 x1 x2 x3 X)) : ∀ (n : Nat) (x1 : Int) (x2 : Int) (x3 : Int) (x4 : Int) (x5 : Int) (x6 : Int) (X : Mem), G C V L 0 0 9 85 [(0, vR V.1 120), (1, vI x1), (2, vI x2), (3, vI x3), (4, vI x4), (5, vI x5), (6, vI x6)] [] X (L_X12_passDay_85  go35 n x1 x2 x3 x4 x5 x6 X) := by
  intro n
  induction n with
  | zero => intro x1 x2 x3 x4 x5 x6 X; exact g_none
  | succ n ih =>
    intro x1 x2 x3 x4 x5 x6 X
    rw [L_X12_passDay_85]
    refine g_iload (q := 6) hC dX12_passDay_85 rfl ?_
    refine g_aload_n (q := 0) hC dX12_passDay_87 rfl rfl rfl ?_
    refine g_callVI (As := []) hC mv_X12_sets wml_RX12_263 (k_X12_sets _ V hL X) cf_X12 (at_120 hL) (by decide) ⟨Nat.zero_le _, Nat.zero_le _⟩ rfl rfl ⟨Nat.le_of_ble_eq_true rfl, Nat.le_of_ble_eq_true rfl⟩ (Nat.le_of_ble_eq_true rfl) dX12_passDay_88 (fun r10 X11 => ?_)
    refine g_icmp_ge (tgt := 187) hC dX12_passDay_91 (by decide) ?_ ?_
    · refine g_sub [0, 1, 2, 3] rfl ?_
      exact gB_X12_passDay_187 hC hR hL hgo35 x1 x2 x3 X11
    · refine g_iload (q := 6) hC dX12_passDay_94 rfl ?_
      refine g_iconst (v := vI 1) hC dX12_passDay_96 rfl ?_
      refine g_iload_n (q := 3) hC dX12_passDay_97 rfl rfl ?_
      refine g_ishl hC dX12_passDay_98 ?_
      refine g_ior hC dX12_passDay_99 ?_
      refine g_topI (fun v15 => ?_)
      refine g_istore hC dX12_passDay_100 (by decide) rfl ?_
      refine g_iload (q := 7) hC dX12_passDay_102 rfl ?_
      refine g_iconst (v := vI 1) hC dX12_passDay_104 rfl ?_
      refine g_iload_n (q := 4) hC dX12_passDay_105 rfl rfl ?_
      refine g_ishl hC dX12_passDay_106 ?_
      refine g_iconst (v := vI (-1)) hC dX12_passDay_107 rfl ?_
      refine g_ixor hC dX12_passDay_108 ?_
      refine g_iand hC dX12_passDay_109 ?_
      refine g_topI (fun v16 => ?_)
      refine g_istore hC dX12_passDay_110 (by decide) rfl ?_
      refine g_aload_n (q := 2) hC dX12_passDay_112 rfl rfl rfl ?_
      refine g_getS (k := 27) hC cf_X12 (at_120 hL) (by decide) rfl (by decide) (by decide) wf_RX12_53 dX12_passDay_113 ?_
      refine g_iload (q := 8) hC dX12_passDay_116 rfl ?_
      refine g_iload (q := 8) hC dX12_passDay_118 rfl ?_
      refine g_iload (q := 1) hC dX12_passDay_120 rfl ?_
      refine g_icmp_ne (tgt := 154) hC dX12_passDay_122 (by decide) ?_ ?_
      · refine g_aload_n (q := 2) hC dX12_passDay_154 rfl rfl rfl ?_
        refine g_getS (k := 26) hC cf_X12 (at_120 hL) (by decide) rfl (by decide) (by decide) wf_RX12_50 dX12_passDay_155 ?_
        refine g_iload (q := 1) hC dX12_passDay_158 rfl ?_
        refine g_lald hC (at_130 hL) (by decide) dX12_passDay_160 ?_
        refine g_iload (q := 6) hC dX12_passDay_161 rfl ?_
        refine g_i2l hC dX12_passDay_163 ?_
        refine g_lmul hC dX12_passDay_164 ?_
        refine g_aload_n (q := 2) hC dX12_passDay_165 rfl rfl rfl ?_
        refine g_getS (k := 26) hC cf_X12 (at_120 hL) (by decide) rfl (by decide) (by decide) wf_RX12_50 dX12_passDay_166 ?_
        refine g_iload (q := 0) hC dX12_passDay_169 rfl ?_
        refine g_lald hC (at_130 hL) (by decide) dX12_passDay_171 ?_
        refine g_bipush (v := vI 16) hC dX12_passDay_172 rfl ?_
        refine g_iload (q := 7) hC dX12_passDay_174 rfl ?_
        refine g_isub hC dX12_passDay_176 ?_
        refine g_i2l hC dX12_passDay_177 ?_
        refine g_lmul hC dX12_passDay_178 ?_
        refine g_ladd hC dX12_passDay_179 ?_
        refine g_sub [2, 3, 4, 5, 6, 7, 8] rfl ?_
        exact gB_X12_passDay_180 hC hR hL hgo35 ih x1 x2 x3 x4 x5 x6 (((X11 130 v15) * x4) + ((X11 130 v16) * (16 - x5))) x6 X11
      · refine g_aload_n (q := 2) hC dX12_passDay_125 rfl rfl rfl ?_
        refine g_getS (k := 26) hC cf_X12 (at_120 hL) (by decide) rfl (by decide) (by decide) wf_RX12_50 dX12_passDay_126 ?_
        refine g_iload (q := 1) hC dX12_passDay_129 rfl ?_
        refine g_lald hC (at_130 hL) (by decide) dX12_passDay_131 ?_
        refine g_bipush (v := vI 16) hC dX12_passDay_132 rfl ?_
        refine g_iload (q := 6) hC dX12_passDay_134 rfl ?_
        refine g_isub hC dX12_passDay_136 ?_
        refine g_i2l hC dX12_passDay_137 ?_
        refine g_lmul hC dX12_passDay_138 ?_
        refine g_aload_n (q := 2) hC dX12_passDay_139 rfl rfl rfl ?_
        refine g_getS (k := 26) hC cf_X12 (at_120 hL) (by decide) rfl (by decide) (by decide) wf_RX12_50 dX12_passDay_140 ?_
        refine g_iload (q := 0) hC dX12_passDay_143 rfl ?_
        refine g_lald hC (at_130 hL) (by decide) dX12_passDay_145 ?_
        refine g_iload (q := 7) hC dX12_passDay_146 rfl ?_
        refine g_i2l hC dX12_passDay_148 ?_
        refine g_lmul hC dX12_passDay_149 ?_
        refine g_ladd hC dX12_passDay_150 ?_
        refine g_goto (tgt := 180) hC dX12_passDay_151 (by decide) ?_
        refine g_sub [2, 3, 4, 5, 6, 7, 8] rfl ?_
        exact gB_X12_passDay_180 hC hR hL hgo35 ih x1 x2 x3 x4 x5 x6 (((X11 130 v15) * (16 - x4)) + ((X11 130 v16) * x5)) x6 X11
set_option maxRecDepth 20000 in
theorem gB_X12_passDay_72 {C : Cx} {V : Ev} {L : List Kd} (hC : Ok C V cX12_passDay RX12 9 2 45) (hR : Rt C V L none rV) (hL : LKm L) {go35 : Int → Int → Int → Mem → Option (Int × Mem)} (hgo35 : ∀ (x1 : Int) (x2 : Int) (x3 : Int) (X : Mem), G C V L 0 0 9 35 [(0, vR V.1 120), (1, vI x1), (2, vI x2), (3, vI x3)] [] X (go35 x1 x2 x3 X)) (x1 : Int) (x2 : Int) (x3 : Int) (s0 : Int) (X : Mem)  : G C V L 0 0 9 72 [(0, vR V.1 120), (1, vI x1), (2, vI x2), (3, vI x3)] [vI s0] X (B_X12_passDay_72  go35 x1 x2 x3 s0 X) := by
  unfold B_X12_passDay_72
  refine g_istore hC dX12_passDay_72 (by decide) rfl ?_
  refine g_aload_n (q := 1) hC dX12_passDay_74 rfl rfl rfl ?_
  refine g_iload_n (q := 4) hC dX12_passDay_75 rfl rfl ?_
  refine g_iconst (v := vI 3) hC dX12_passDay_76 rfl ?_
  refine g_callVI (As := [vI x3, vI 3]) hC mv_X12_ofBar wml_RX12_269 (k_X12_ofBar _ V hL x3 3 X) cf_X12 (at_120 hL) (by decide) ⟨Nat.zero_le _, Nat.zero_le _⟩ rfl rfl ⟨Nat.le_of_ble_eq_true rfl, Nat.le_of_ble_eq_true rfl⟩ (Nat.le_of_ble_eq_true rfl) dX12_passDay_77 (fun r8 X9 => ?_)
  refine g_istore hC dX12_passDay_80 (by decide) rfl ?_
  refine g_iconst (v := vI 0) hC dX12_passDay_82 rfl ?_
  refine g_istore hC dX12_passDay_83 (by decide) rfl ?_
  refine g_sub [3, 4, 5, 6, 2, 1, 0] rfl ?_
  exact gL_X12_passDay_85 hC hR hL hgo35 KF x1 x2 x3 s0 r8 0 X9
set_option maxRecDepth 20000 in
theorem gL_X12_passDay_35 {C : Cx} {V : Ev} {L : List Kd} (hC : Ok C V cX12_passDay RX12 9 2 45) (hR : Rt C V L none rV) (hL : LKm L) : ∀ (n : Nat) (x1 : Int) (x2 : Int) (x3 : Int) (X : Mem), G C V L 0 0 9 35 [(0, vR V.1 120), (1, vI x1), (2, vI x2), (3, vI x3)] [] X (L_X12_passDay_35   n x1 x2 x3 X) := by
  intro n
  induction n with
  | zero => intro x1 x2 x3 X; exact g_none
  | succ n ih =>
    intro x1 x2 x3 X
    rw [L_X12_passDay_35]
    refine g_iload_n (q := 3) hC dX12_passDay_35 rfl rfl ?_
    refine g_aload_n (q := 0) hC dX12_passDay_36 rfl rfl rfl ?_
    refine g_getS (k := 0) hC cf_X12 (at_120 hL) (by decide) rfl (by decide) (by decide) wf_RX12_7 dX12_passDay_37 ?_
    refine g_iconst (v := vI 2) hC dX12_passDay_40 rfl ?_
    refine g_iald hC (at_121 hL) (by decide) dX12_passDay_41 ?_
    refine g_icmp_ge (tgt := 225) hC dX12_passDay_42 (by decide) ?_ ?_
    · refine g_sub [0] rfl ?_
      exact gB_X12_passDay_225 hC hR hL  X
    · refine g_iload_n (q := 3) hC dX12_passDay_45 rfl rfl ?_
      refine g_iload_n (q := 1) hC dX12_passDay_46 rfl rfl ?_
      refine g_icmp_ne (tgt := 66) hC dX12_passDay_47 (by decide) ?_ ?_
      · refine g_aload_n (q := 0) hC dX12_passDay_66 rfl rfl rfl ?_
        refine g_iload_n (q := 3) hC dX12_passDay_67 rfl rfl ?_
        refine g_iconst (v := vI 2) hC dX12_passDay_68 rfl ?_
        refine g_callVI (As := [vI x3, vI 2]) hC mv_X12_ofBar wml_RX12_269 (k_X12_ofBar _ V hL x3 2 X) cf_X12 (at_120 hL) (by decide) ⟨Nat.zero_le _, Nat.zero_le _⟩ rfl rfl ⟨Nat.le_of_ble_eq_true rfl, Nat.le_of_ble_eq_true rfl⟩ (Nat.le_of_ble_eq_true rfl) dX12_passDay_69 (fun r6 X7 => ?_)
        exact gB_X12_passDay_72 hC hR hL ih x1 x2 x3 r6 X7
      · refine g_bipush (v := vI 16) hC dX12_passDay_50 rfl ?_
        refine g_aload_n (q := 0) hC dX12_passDay_52 rfl rfl rfl ?_
        refine g_iload_n (q := 3) hC dX12_passDay_53 rfl rfl ?_
        refine g_iconst (v := vI 2) hC dX12_passDay_54 rfl ?_
        refine g_callVI (As := [vI x3, vI 2]) hC mv_X12_ofBar wml_RX12_269 (k_X12_ofBar _ V hL x3 2 X) cf_X12 (at_120 hL) (by decide) ⟨Nat.zero_le _, Nat.zero_le _⟩ rfl rfl ⟨Nat.le_of_ble_eq_true rfl, Nat.le_of_ble_eq_true rfl⟩ (Nat.le_of_ble_eq_true rfl) dX12_passDay_55 (fun r18 X19 => ?_)
        refine g_iload_n (q := 2) hC dX12_passDay_58 rfl rfl ?_
        refine g_iadd hC dX12_passDay_59 ?_
        refine g_mmin hC wml_RX12_147 (Nat.le_of_ble_eq_true rfl) (Nat.le_of_ble_eq_true rfl) ⟨Nat.zero_le _, Nat.zero_le _⟩ dX12_passDay_60 ?_
        refine g_goto (tgt := 72) hC dX12_passDay_63 (by decide) ?_
        exact gB_X12_passDay_72 hC hR hL ih x1 x2 x3 (min 16 (r18 + x2)) X19
set_option maxRecDepth 20000 in
theorem gB_X12_passDay_33 {C : Cx} {V : Ev} {L : List Kd} (hC : Ok C V cX12_passDay RX12 9 2 45) (hR : Rt C V L none rV) (hL : LKm L) (x1 : Int) (x2 : Int) (X : Mem)  : G C V L 0 0 9 33 [(0, vR V.1 120), (1, vI x1), (2, vI x2)] [] X (B_X12_passDay_33   x1 x2 X) := by
  unfold B_X12_passDay_33
  refine g_iconst (v := vI 0) hC dX12_passDay_33 rfl ?_
  refine g_istore_n hC dX12_passDay_34 rfl (by decide) rfl ?_
  refine g_sub [1, 2, 3, 0] rfl ?_
  exact gL_X12_passDay_35 hC hR hL  KF x1 x2 0 X
set_option maxRecDepth 20000 in
theorem gL_X12_passDay_2 {C : Cx} {V : Ev} {L : List Kd} (hC : Ok C V cX12_passDay RX12 9 2 45) (hR : Rt C V L none rV) (hL : LKm L) : ∀ (n : Nat) (x1 : Int) (x2 : Int) (x3 : Int) (X : Mem), G C V L 0 0 9 2 [(0, vR V.1 120), (1, vI x1), (2, vI x2), (3, vI x3)] [] X (L_X12_passDay_2   n x1 x2 x3 X) := by
  intro n
  induction n with
  | zero => intro x1 x2 x3 X; exact g_none
  | succ n ih =>
    intro x1 x2 x3 X
    rw [L_X12_passDay_2]
    refine g_iload_n (q := 3) hC dX12_passDay_2 rfl rfl ?_
    refine g_aload_n (q := 0) hC dX12_passDay_3 rfl rfl rfl ?_
    refine g_callVI (As := []) hC mv_X12_sets wml_RX12_263 (k_X12_sets _ V hL X) cf_X12 (at_120 hL) (by decide) ⟨Nat.zero_le _, Nat.zero_le _⟩ rfl rfl ⟨Nat.le_of_ble_eq_true rfl, Nat.le_of_ble_eq_true rfl⟩ (Nat.le_of_ble_eq_true rfl) dX12_passDay_4 (fun r1 X2 => ?_)
    refine g_icmp_ge (tgt := 33) hC dX12_passDay_7 (by decide) ?_ ?_
    · refine g_sub [0, 1, 2] rfl ?_
      exact gB_X12_passDay_33 hC hR hL  x1 x2 X2
    · refine g_aload_n (q := 0) hC dX12_passDay_10 rfl rfl rfl ?_
      refine g_getS (k := 26) hC cf_X12 (at_120 hL) (by decide) rfl (by decide) (by decide) wf_RX12_50 dX12_passDay_11 ?_
      refine g_iload_n (q := 3) hC dX12_passDay_14 rfl rfl ?_
      refine g_aload_n (q := 0) hC dX12_passDay_15 rfl rfl rfl ?_
      refine g_getS (k := 0) hC cf_X12 (at_120 hL) (by decide) rfl (by decide) (by decide) wf_RX12_7 dX12_passDay_16 ?_
      refine g_sipush (v := vI 168) hC dX12_passDay_19 rfl ?_
      refine g_iload_n (q := 3) hC dX12_passDay_22 rfl rfl ?_
      refine g_iadd hC dX12_passDay_23 ?_
      refine g_iald hC (at_121 hL) (by decide) dX12_passDay_24 ?_
      refine g_i2l hC dX12_passDay_25 ?_
      refine g_last hC (at_130 hL) (by decide) dX12_passDay_26 (fun X20 => ?_)
      refine g_iinc (q := 3) hC dX12_passDay_27 rfl (by decide) rfl ?_
      refine g_goto (tgt := 2) hC dX12_passDay_30 (by decide) ?_
      refine g_sub [1, 2, 3, 0] rfl ?_
      exact ih x1 x2 (x3 + 1) X20
set_option maxRecDepth 20000 in
theorem k_X12_passDay (l : Launch) (V : Ev) {L : List Kd} (hL : LKm L) (p1 : Int) (p2 : Int) (X : Mem)  : Kt l V L yX12_passDay (.code yX12_passDay cX12_passDay 9 none) 2 45 [vR V.1 120, vI p1, vI p2] rV X (f_X12_passDay p1 p2 X) := by
  refine kt_of (own := RX12) (lv0 := [(0, vR V.1 120), (1, vI p1), (2, vI p2)]) (by decide) rfl (Nat.le_of_ble_eq_true rfl) rfl (fun C hCl hC hR => ?_)
  subst hCl
  unfold f_X12_passDay
  refine g_iconst (v := vI 0) hC dX12_passDay_0 rfl ?_
  refine g_istore_n hC dX12_passDay_1 rfl (by decide) rfl ?_
  refine g_sub [1, 2, 3, 0] rfl ?_
  exact gL_X12_passDay_2 hC hR hL  KF p1 p2 0 X
def B_X12_pass_56  (X : Mem) : Option (Int × Mem) :=
  ax 2200 3 <|
  cl (f_X12_gives (X 121 3) X) fun r3 X4 =>
  some (r3, X4)
def L_X12_pass_39 : Nat → Int → Int → Mem → Option (Int × Mem)
  | 0, _, _, _ => none
  | n + 1, x1, x2, X =>
    c2 x2 x1 <| if x1 ≤ x2 then
      B_X12_pass_56   X
    else
      cl (f_X12_passDay ((-1)) 0 X) fun _ X6 =>
      L_X12_pass_39   n x1 (x2 + 1) X6
def f_X12_pass (p1 : Int) (X : Mem) : Option (Int × Mem) :=
  c1 p1 <|
  cl (f_X12_isFrom p1 1 9 X) fun r1 X2 =>
  c1 r1 <| if ¬ r1 = 0 then
    ax 2200 3 <|
    c2 ((X2 121 3) + p1) 99 <| if ((X2 121 3) + p1) ≤ 99 then
      L_X12_pass_39   KF p1 0 X2
    else
      cl (f_X12_refuse 4 X2) fun r7 X8 =>
      some (r7, X8)
  else
    cl (f_X12_refuse 1 X2) fun r9 X10 =>
    some (r9, X10)
set_option maxRecDepth 20000 in
theorem gB_X12_pass_56 {C : Cx} {V : Ev} {L : List Kd} (hC : Ok C V cX12_pass RX12 3 3 73) (hR : Rt C V L (some .int) rI) (hL : LKm L)  (X : Mem)  : G C V L 0 0 3 56 [(0, vR V.1 120)] [] X (B_X12_pass_56    X) := by
  unfold B_X12_pass_56
  refine g_aload_n (q := 0) hC dX12_pass_56 rfl rfl rfl ?_
  refine g_aload_n (q := 0) hC dX12_pass_57 rfl rfl rfl ?_
  refine g_getS (k := 0) hC cf_X12 (at_120 hL) (by decide) rfl (by decide) (by decide) wf_RX12_7 dX12_pass_58 ?_
  refine g_iconst (v := vI 3) hC dX12_pass_61 rfl ?_
  refine g_iald hC (at_121 hL) (by decide) dX12_pass_62 ?_
  refine g_callVI (As := [vI (X 121 3)]) hC mv_X12_gives wml_RX12_188 (k_X12_gives _ V hL (X 121 3) X) cf_X12 (at_120 hL) (by decide) ⟨Nat.zero_le _, Nat.zero_le _⟩ rfl rfl ⟨Nat.le_of_ble_eq_true rfl, Nat.le_of_ble_eq_true rfl⟩ (Nat.le_of_ble_eq_true rfl) dX12_pass_63 (fun r3 X4 => ?_)
  exact g_iret hC hR dX12_pass_66
set_option maxRecDepth 20000 in
theorem gL_X12_pass_39 {C : Cx} {V : Ev} {L : List Kd} (hC : Ok C V cX12_pass RX12 3 3 73) (hR : Rt C V L (some .int) rI) (hL : LKm L) : ∀ (n : Nat) (x1 : Int) (x2 : Int) (X : Mem), G C V L 0 0 3 39 [(0, vR V.1 120), (1, vI x1), (2, vI x2)] [] X (L_X12_pass_39   n x1 x2 X) := by
  intro n
  induction n with
  | zero => intro x1 x2 X; exact g_none
  | succ n ih =>
    intro x1 x2 X
    rw [L_X12_pass_39]
    refine g_iload_n (q := 2) hC dX12_pass_39 rfl rfl ?_
    refine g_iload_n (q := 1) hC dX12_pass_40 rfl rfl ?_
    refine g_icmp_ge (tgt := 56) hC dX12_pass_41 (by decide) ?_ ?_
    · refine g_sub [0] rfl ?_
      exact gB_X12_pass_56 hC hR hL  X
    · refine g_aload_n (q := 0) hC dX12_pass_44 rfl rfl rfl ?_
      refine g_iconst (v := vI (-1)) hC dX12_pass_45 rfl ?_
      refine g_iconst (v := vI 0) hC dX12_pass_46 rfl ?_
      refine g_callVV (As := [vI ((-1)), vI 0]) hC mv_X12_passDay wml_RX12_318 (k_X12_passDay _ V hL ((-1)) 0 X) cf_X12 (at_120 hL) (by decide) ⟨Nat.zero_le _, Nat.zero_le _⟩ rfl rfl ⟨Nat.le_of_ble_eq_true rfl, Nat.le_of_ble_eq_true rfl⟩ (Nat.le_of_ble_eq_true rfl) dX12_pass_47 (fun _ X6 => ?_)
      refine g_iinc (q := 2) hC dX12_pass_50 rfl (by decide) rfl ?_
      refine g_goto (tgt := 39) hC dX12_pass_53 (by decide) ?_
      refine g_sub [1, 2, 0] rfl ?_
      exact ih x1 (x2 + 1) X6
set_option maxRecDepth 20000 in
theorem k_X12_pass (l : Launch) (V : Ev) {L : List Kd} (hL : LKm L) (p1 : Int) (X : Mem)  : Kt l V L yX12_pass (.code yX12_pass cX12_pass 3 (some .int)) 3 73 [vR V.1 120, vI p1] rI X (f_X12_pass p1 X) := by
  refine kt_of (own := RX12) (lv0 := [(0, vR V.1 120), (1, vI p1)]) (by decide) rfl (Nat.le_of_ble_eq_true rfl) rfl (fun C hCl hC hR => ?_)
  subst hCl
  unfold f_X12_pass
  refine g_iload_n (q := 1) hC dX12_pass_0 rfl rfl ?_
  refine g_i2l hC dX12_pass_1 ?_
  refine g_lconst (v := vJ 1) hC dX12_pass_2 rfl ?_
  refine g_ldc2 (n := 9) hC wk_RX12_316 rfl dX12_pass_3 ?_
  refine g_callSI (As := [vJ p1, vJ 1, vJ 9]) hC mt_X12_isFrom wml_RX12_281 (k_X12_isFrom _ V hL p1 1 9 X) ⟨Nat.zero_le _, Nat.zero_le _⟩ rfl rfl ⟨Nat.le_of_ble_eq_true rfl, Nat.le_of_ble_eq_true rfl⟩ (Nat.le_of_ble_eq_true rfl) dX12_pass_6 (fun r1 X2 => ?_)
  refine g_if_ne (tgt := 18) hC dX12_pass_9 (by decide) ?_ ?_
  · refine g_aload_n (q := 0) hC dX12_pass_18 rfl rfl rfl ?_
    refine g_getS (k := 0) hC cf_X12 (at_120 hL) (by decide) rfl (by decide) (by decide) wf_RX12_7 dX12_pass_19 ?_
    refine g_iconst (v := vI 3) hC dX12_pass_22 rfl ?_
    refine g_iald hC (at_121 hL) (by decide) dX12_pass_23 ?_
    refine g_iload_n (q := 1) hC dX12_pass_24 rfl rfl ?_
    refine g_iadd hC dX12_pass_25 ?_
    refine g_bipush (v := vI 99) hC dX12_pass_26 rfl ?_
    refine g_icmp_le (tgt := 37) hC dX12_pass_28 (by decide) ?_ ?_
    · refine g_iconst (v := vI 0) hC dX12_pass_37 rfl ?_
      refine g_istore_n hC dX12_pass_38 rfl (by decide) rfl ?_
      refine g_sub [1, 2, 0] rfl ?_
      exact gL_X12_pass_39 hC hR hL  KF p1 0 X2
    · refine g_aload_n (q := 0) hC dX12_pass_31 rfl rfl rfl ?_
      refine g_iconst (v := vI 4) hC dX12_pass_32 rfl ?_
      refine g_callVI (As := [vI 4]) hC mv_X12_refuse wml_RX12_185 (k_X12_refuse _ V hL 4 X2) cf_X12 (at_120 hL) (by decide) ⟨Nat.zero_le _, Nat.zero_le _⟩ rfl rfl ⟨Nat.le_of_ble_eq_true rfl, Nat.le_of_ble_eq_true rfl⟩ (Nat.le_of_ble_eq_true rfl) dX12_pass_33 (fun r7 X8 => ?_)
      exact g_iret hC hR dX12_pass_36
  · refine g_aload_n (q := 0) hC dX12_pass_12 rfl rfl rfl ?_
    refine g_iconst (v := vI 1) hC dX12_pass_13 rfl ?_
    refine g_callVI (As := [vI 1]) hC mv_X12_refuse wml_RX12_185 (k_X12_refuse _ V hL 1 X2) cf_X12 (at_120 hL) (by decide) ⟨Nat.zero_le _, Nat.zero_le _⟩ rfl rfl ⟨Nat.le_of_ble_eq_true rfl, Nat.le_of_ble_eq_true rfl⟩ (Nat.le_of_ble_eq_true rfl) dX12_pass_14 (fun r9 X10 => ?_)
    exact g_iret hC hR dX12_pass_17
def B_X12_weighs_31  (X : Mem) : Option (Int × Mem) :=
  ax 2200 11 <|
  some (16 - (X 121 11), X)
def f_X12_weighs (p1 : Int) (p2 : Int) (X : Mem) : Option (Int × Mem) :=
  c2 p2 p1 <| if ¬ p2 = p1 then
    c2 p2 (p1 - 1) <| if p2 = (p1 - 1) then
      B_X12_weighs_31   X
    else
      c2 p2 (p1 + 1) <| if ¬ p2 = (p1 + 1) then
        some (0, X)
      else
        B_X12_weighs_31   X
  else
    ax 2200 11 <|
    some (2 * (X 121 11), X)
set_option maxRecDepth 20000 in
theorem gB_X12_weighs_31 {C : Cx} {V : Ev} {L : List Kd} (hC : Ok C V cX12_weighs RX12 3 0 0) (hR : Rt C V L (some .int) rI) (hL : LKm L)  (X : Mem)  : G C V L 0 0 3 31 [(0, vR V.1 120)] [] X (B_X12_weighs_31    X) := by
  unfold B_X12_weighs_31
  refine g_bipush (v := vI 16) hC dX12_weighs_31 rfl ?_
  refine g_aload_n (q := 0) hC dX12_weighs_33 rfl rfl rfl ?_
  refine g_getS (k := 0) hC cf_X12 (at_120 hL) (by decide) rfl (by decide) (by decide) wf_RX12_7 dX12_weighs_34 ?_
  refine g_bipush (v := vI 11) hC dX12_weighs_37 rfl ?_
  refine g_iald hC (at_121 hL) (by decide) dX12_weighs_39 ?_
  refine g_isub hC dX12_weighs_40 ?_
  refine g_goto (tgt := 45) hC dX12_weighs_41 (by decide) ?_
  exact g_iret hC hR dX12_weighs_45
set_option maxRecDepth 20000 in
theorem k_X12_weighs (l : Launch) (V : Ev) {L : List Kd} (hL : LKm L) (p1 : Int) (p2 : Int) (X : Mem)  : Kt l V L yX12_weighs (.code yX12_weighs cX12_weighs 3 (some .int)) 0 0 [vR V.1 120, vI p1, vI p2] rI X (f_X12_weighs p1 p2 X) := by
  refine kt_of (own := RX12) (lv0 := [(0, vR V.1 120), (1, vI p1), (2, vI p2)]) (by decide) rfl (Nat.le_of_ble_eq_true rfl) rfl (fun C hCl hC hR => ?_)
  subst hCl
  unfold f_X12_weighs
  refine g_iload_n (q := 2) hC dX12_weighs_0 rfl rfl ?_
  refine g_iload_n (q := 1) hC dX12_weighs_1 rfl rfl ?_
  refine g_icmp_ne (tgt := 17) hC dX12_weighs_2 (by decide) ?_ ?_
  · refine g_iload_n (q := 2) hC dX12_weighs_17 rfl rfl ?_
    refine g_iload_n (q := 1) hC dX12_weighs_18 rfl rfl ?_
    refine g_iconst (v := vI 1) hC dX12_weighs_19 rfl ?_
    refine g_isub hC dX12_weighs_20 ?_
    refine g_icmp_eq (tgt := 31) hC dX12_weighs_21 (by decide) ?_ ?_
    · refine g_sub [0] rfl ?_
      exact gB_X12_weighs_31 hC hR hL  X
    · refine g_iload_n (q := 2) hC dX12_weighs_24 rfl rfl ?_
      refine g_iload_n (q := 1) hC dX12_weighs_25 rfl rfl ?_
      refine g_iconst (v := vI 1) hC dX12_weighs_26 rfl ?_
      refine g_iadd hC dX12_weighs_27 ?_
      refine g_icmp_ne (tgt := 44) hC dX12_weighs_28 (by decide) ?_ ?_
      · refine g_iconst (v := vI 0) hC dX12_weighs_44 rfl ?_
        exact g_iret hC hR dX12_weighs_45
      · refine g_sub [0] rfl ?_
        exact gB_X12_weighs_31 hC hR hL  X
  · refine g_iconst (v := vI 2) hC dX12_weighs_5 rfl ?_
    refine g_aload_n (q := 0) hC dX12_weighs_6 rfl rfl rfl ?_
    refine g_getS (k := 0) hC cf_X12 (at_120 hL) (by decide) rfl (by decide) (by decide) wf_RX12_7 dX12_weighs_7 ?_
    refine g_bipush (v := vI 11) hC dX12_weighs_10 rfl ?_
    refine g_iald hC (at_121 hL) (by decide) dX12_weighs_12 ?_
    refine g_imul hC dX12_weighs_13 ?_
    refine g_goto (tgt := 45) hC dX12_weighs_14 (by decide) ?_
    exact g_iret hC hR dX12_weighs_45
def B_X12_sounds_46  (X : Mem) : Option (Int × Mem) :=
  cl (f_X12_sharesOut X) fun r3 X4 =>
  cz r3 (some (r3, X4))
def L_X12_sounds_2 : Nat → Int → Int → Int → Mem → Option (Int × Mem)
  | 0, _, _, _, _ => none
  | n + 1, x1, x2, x3, X =>
    cl (f_X12_sets X) fun r1 X2 =>
    c2 x3 r1 <| if r1 ≤ x3 then
      B_X12_sounds_46   X2
    else
      ax 2200 (168 + x3) <|
      c1 (X2 121 (168 + x3)) <|
      cl (f_X12_depthOf x1 x3 X2) fun r5 X6 =>
      cl (f_X12_weighs r5 x2 X6) fun r7 X8 =>
      c1 r7 <|
      ax 32 x3 <| bd (ms X8 130 x3 ((X2 121 (168 + x3)) * r7)) fun X9 =>
      L_X12_sounds_2   n x1 x2 (x3 + 1) X9
def f_X12_sounds (p1 : Int) (p2 : Int) (X : Mem) : Option (Int × Mem) :=
  L_X12_sounds_2   KF p1 p2 0 X
set_option maxRecDepth 20000 in
theorem gB_X12_sounds_46 {C : Cx} {V : Ev} {L : List Kd} (hC : Ok C V cX12_sounds RX12 4 2 45) (hR : Rt C V L (some .boolean) rI) (hL : LKm L)  (X : Mem)  : G C V L 0 0 4 46 [(0, vR V.1 120)] [] X (B_X12_sounds_46    X) := by
  unfold B_X12_sounds_46
  refine g_aload_n (q := 0) hC dX12_sounds_46 rfl rfl rfl ?_
  refine g_callVI (As := []) hC mv_X12_sharesOut wml_RX12_302 (k_X12_sharesOut _ V hL X) cf_X12 (at_120 hL) (by decide) ⟨Nat.zero_le _, Nat.zero_le _⟩ rfl rfl ⟨Nat.le_of_ble_eq_true rfl, Nat.le_of_ble_eq_true rfl⟩ (Nat.le_of_ble_eq_true rfl) dX12_sounds_47 (fun r3 X4 => ?_)
  exact g_zret hC hR dX12_sounds_50
set_option maxRecDepth 20000 in
theorem gL_X12_sounds_2 {C : Cx} {V : Ev} {L : List Kd} (hC : Ok C V cX12_sounds RX12 4 2 45) (hR : Rt C V L (some .boolean) rI) (hL : LKm L) : ∀ (n : Nat) (x1 : Int) (x2 : Int) (x3 : Int) (X : Mem), G C V L 0 0 4 2 [(0, vR V.1 120), (1, vI x1), (2, vI x2), (3, vI x3)] [] X (L_X12_sounds_2   n x1 x2 x3 X) := by
  intro n
  induction n with
  | zero => intro x1 x2 x3 X; exact g_none
  | succ n ih =>
    intro x1 x2 x3 X
    rw [L_X12_sounds_2]
    refine g_iload_n (q := 3) hC dX12_sounds_2 rfl rfl ?_
    refine g_aload_n (q := 0) hC dX12_sounds_3 rfl rfl rfl ?_
    refine g_callVI (As := []) hC mv_X12_sets wml_RX12_263 (k_X12_sets _ V hL X) cf_X12 (at_120 hL) (by decide) ⟨Nat.zero_le _, Nat.zero_le _⟩ rfl rfl ⟨Nat.le_of_ble_eq_true rfl, Nat.le_of_ble_eq_true rfl⟩ (Nat.le_of_ble_eq_true rfl) dX12_sounds_4 (fun r1 X2 => ?_)
    refine g_icmp_ge (tgt := 46) hC dX12_sounds_7 (by decide) ?_ ?_
    · refine g_sub [0] rfl ?_
      exact gB_X12_sounds_46 hC hR hL  X2
    · refine g_aload_n (q := 0) hC dX12_sounds_10 rfl rfl rfl ?_
      refine g_getS (k := 26) hC cf_X12 (at_120 hL) (by decide) rfl (by decide) (by decide) wf_RX12_50 dX12_sounds_11 ?_
      refine g_iload_n (q := 3) hC dX12_sounds_14 rfl rfl ?_
      refine g_aload_n (q := 0) hC dX12_sounds_15 rfl rfl rfl ?_
      refine g_getS (k := 0) hC cf_X12 (at_120 hL) (by decide) rfl (by decide) (by decide) wf_RX12_7 dX12_sounds_16 ?_
      refine g_sipush (v := vI 168) hC dX12_sounds_19 rfl ?_
      refine g_iload_n (q := 3) hC dX12_sounds_22 rfl rfl ?_
      refine g_iadd hC dX12_sounds_23 ?_
      refine g_iald hC (at_121 hL) (by decide) dX12_sounds_24 ?_
      refine g_i2l hC dX12_sounds_25 ?_
      refine g_aload_n (q := 0) hC dX12_sounds_26 rfl rfl rfl ?_
      refine g_aload_n (q := 0) hC dX12_sounds_27 rfl rfl rfl ?_
      refine g_iload_n (q := 1) hC dX12_sounds_28 rfl rfl ?_
      refine g_iload_n (q := 3) hC dX12_sounds_29 rfl rfl ?_
      refine g_callVI (As := [vI x1, vI x3]) hC mv_X12_depthOf wml_RX12_291 (k_X12_depthOf _ V hL x1 x3 X2) cf_X12 (at_120 hL) (by decide) ⟨Nat.zero_le _, Nat.zero_le _⟩ rfl rfl ⟨Nat.le_of_ble_eq_true rfl, Nat.le_of_ble_eq_true rfl⟩ (Nat.le_of_ble_eq_true rfl) dX12_sounds_30 (fun r5 X6 => ?_)
      refine g_iload_n (q := 2) hC dX12_sounds_33 rfl rfl ?_
      refine g_callVI (As := [vI r5, vI x2]) hC mv_X12_weighs wml_RX12_305 (k_X12_weighs _ V hL r5 x2 X6) cf_X12 (at_120 hL) (by decide) ⟨Nat.zero_le _, Nat.zero_le _⟩ rfl rfl ⟨Nat.le_of_ble_eq_true rfl, Nat.le_of_ble_eq_true rfl⟩ (Nat.le_of_ble_eq_true rfl) dX12_sounds_34 (fun r7 X8 => ?_)
      refine g_i2l hC dX12_sounds_37 ?_
      refine g_lmul hC dX12_sounds_38 ?_
      refine g_last hC (at_130 hL) (by decide) dX12_sounds_39 (fun X9 => ?_)
      refine g_iinc (q := 3) hC dX12_sounds_40 rfl (by decide) rfl ?_
      refine g_goto (tgt := 2) hC dX12_sounds_43 (by decide) ?_
      refine g_sub [1, 2, 3, 0] rfl ?_
      exact ih x1 x2 (x3 + 1) X9
set_option maxRecDepth 20000 in
theorem k_X12_sounds (l : Launch) (V : Ev) {L : List Kd} (hL : LKm L) (p1 : Int) (p2 : Int) (X : Mem)  : Kt l V L yX12_sounds (.code yX12_sounds cX12_sounds 4 (some .boolean)) 2 45 [vR V.1 120, vI p1, vI p2] rI X (f_X12_sounds p1 p2 X) := by
  refine kt_of (own := RX12) (lv0 := [(0, vR V.1 120), (1, vI p1), (2, vI p2)]) (by decide) rfl (Nat.le_of_ble_eq_true rfl) rfl (fun C hCl hC hR => ?_)
  subst hCl
  unfold f_X12_sounds
  refine g_iconst (v := vI 0) hC dX12_sounds_0 rfl ?_
  refine g_istore_n hC dX12_sounds_1 rfl (by decide) rfl ?_
  refine g_sub [1, 2, 3, 0] rfl ?_
  exact gL_X12_sounds_2 hC hR hL  KF p1 p2 0 X
def B_X12_sound_23  (X : Mem) : Option (Int × Mem) :=
  cl (f_X12_is 1 X) fun r3 X4 =>
  cz r3 (some (r3, X4))
def f_X12_sound (p1 : Int) (p2 : Int) (X : Mem) : Option (Int × Mem) :=
  c1 p1 <|
  cl (f_X12_isCell p1 X) fun r1 X2 =>
  c1 r1 <| if r1 = 0 then
    B_X12_sound_23   X2
  else
    c1 p2 <|
    cl (f_X12_isFrom p2 ((-9)) 30 X2) fun r5 X6 =>
    c1 r5 <| if ¬ r5 = 0 then
      cl (f_X12_sounds p1 p2 X6) fun r7 X8 =>
      c1 r7 <| if r7 = 0 then
        cl (f_X12_is 7 X8) fun r9 X10 =>
        cz r9 (some (r9, X10))
      else
        cl (f_X12_is 0 X8) fun r11 X12 =>
        cz r11 (some (r11, X12))
    else
      B_X12_sound_23   X6
set_option maxRecDepth 20000 in
theorem gB_X12_sound_23 {C : Cx} {V : Ev} {L : List Kd} (hC : Ok C V cX12_sound RX12 3 3 68) (hR : Rt C V L (some .boolean) rI) (hL : LKm L)  (X : Mem)  : G C V L 0 0 3 23 [(0, vR V.1 120)] [] X (B_X12_sound_23    X) := by
  unfold B_X12_sound_23
  refine g_aload_n (q := 0) hC dX12_sound_23 rfl rfl rfl ?_
  refine g_iconst (v := vI 1) hC dX12_sound_24 rfl ?_
  refine g_callVI (As := [vI 1]) hC mv_X12_is wml_RX12_98 (k_X12_is _ V hL 1 X) cf_X12 (at_120 hL) (by decide) ⟨Nat.zero_le _, Nat.zero_le _⟩ rfl rfl ⟨Nat.le_of_ble_eq_true rfl, Nat.le_of_ble_eq_true rfl⟩ (Nat.le_of_ble_eq_true rfl) dX12_sound_25 (fun r3 X4 => ?_)
  exact g_zret hC hR dX12_sound_28
set_option maxRecDepth 20000 in
theorem k_X12_sound (l : Launch) (V : Ev) {L : List Kd} (hL : LKm L) (p1 : Int) (p2 : Int) (X : Mem)  : Kt l V L yX12_sound (.code yX12_sound cX12_sound 3 (some .boolean)) 3 68 [vR V.1 120, vI p1, vI p2] rI X (f_X12_sound p1 p2 X) := by
  refine kt_of (own := RX12) (lv0 := [(0, vR V.1 120), (1, vI p1), (2, vI p2)]) (by decide) rfl (Nat.le_of_ble_eq_true rfl) rfl (fun C hCl hC hR => ?_)
  subst hCl
  unfold f_X12_sound
  refine g_aload_n (q := 0) hC dX12_sound_0 rfl rfl rfl ?_
  refine g_iload_n (q := 1) hC dX12_sound_1 rfl rfl ?_
  refine g_i2l hC dX12_sound_2 ?_
  refine g_callVI (As := [vJ p1]) hC mv_X12_isCell wml_RX12_275 (k_X12_isCell _ V hL p1 X) cf_X12 (at_120 hL) (by decide) ⟨Nat.zero_le _, Nat.zero_le _⟩ rfl rfl ⟨Nat.le_of_ble_eq_true rfl, Nat.le_of_ble_eq_true rfl⟩ (Nat.le_of_ble_eq_true rfl) dX12_sound_3 (fun r1 X2 => ?_)
  refine g_if_eq (tgt := 23) hC dX12_sound_6 (by decide) ?_ ?_
  · refine g_sub [0] rfl ?_
    exact gB_X12_sound_23 hC hR hL  X2
  · refine g_iload_n (q := 2) hC dX12_sound_9 rfl rfl ?_
    refine g_i2l hC dX12_sound_10 ?_
    refine g_ldc2 (n := (-9)) hC wk_RX12_322 rfl dX12_sound_11 ?_
    refine g_ldc2 (n := 30) hC wk_RX12_324 rfl dX12_sound_14 ?_
    refine g_callSI (As := [vJ p2, vJ ((-9)), vJ 30]) hC mt_X12_isFrom wml_RX12_281 (k_X12_isFrom _ V hL p2 ((-9)) 30 X2) ⟨Nat.zero_le _, Nat.zero_le _⟩ rfl rfl ⟨Nat.le_of_ble_eq_true rfl, Nat.le_of_ble_eq_true rfl⟩ (Nat.le_of_ble_eq_true rfl) dX12_sound_17 (fun r5 X6 => ?_)
    refine g_if_ne (tgt := 29) hC dX12_sound_20 (by decide) ?_ ?_
    · refine g_aload_n (q := 0) hC dX12_sound_29 rfl rfl rfl ?_
      refine g_iload_n (q := 1) hC dX12_sound_30 rfl rfl ?_
      refine g_iload_n (q := 2) hC dX12_sound_31 rfl rfl ?_
      refine g_callVI (As := [vI p1, vI p2]) hC mv_X12_sounds wml_RX12_326 (k_X12_sounds _ V hL p1 p2 X6) cf_X12 (at_120 hL) (by decide) ⟨Nat.zero_le _, Nat.zero_le _⟩ rfl rfl ⟨Nat.le_of_ble_eq_true rfl, Nat.le_of_ble_eq_true rfl⟩ (Nat.le_of_ble_eq_true rfl) dX12_sound_32 (fun r7 X8 => ?_)
      refine g_if_eq (tgt := 46) hC dX12_sound_35 (by decide) ?_ ?_
      · refine g_aload_n (q := 0) hC dX12_sound_46 rfl rfl rfl ?_
        refine g_bipush (v := vI 7) hC dX12_sound_47 rfl ?_
        refine g_callVI (As := [vI 7]) hC mv_X12_is wml_RX12_98 (k_X12_is _ V hL 7 X8) cf_X12 (at_120 hL) (by decide) ⟨Nat.zero_le _, Nat.zero_le _⟩ rfl rfl ⟨Nat.le_of_ble_eq_true rfl, Nat.le_of_ble_eq_true rfl⟩ (Nat.le_of_ble_eq_true rfl) dX12_sound_49 (fun r9 X10 => ?_)
        exact g_zret hC hR dX12_sound_52
      · refine g_aload_n (q := 0) hC dX12_sound_38 rfl rfl rfl ?_
        refine g_iconst (v := vI 0) hC dX12_sound_39 rfl ?_
        refine g_callVI (As := [vI 0]) hC mv_X12_is wml_RX12_98 (k_X12_is _ V hL 0 X8) cf_X12 (at_120 hL) (by decide) ⟨Nat.zero_le _, Nat.zero_le _⟩ rfl rfl ⟨Nat.le_of_ble_eq_true rfl, Nat.le_of_ble_eq_true rfl⟩ (Nat.le_of_ble_eq_true rfl) dX12_sound_40 (fun r11 X12 => ?_)
        refine g_goto (tgt := 52) hC dX12_sound_43 (by decide) ?_
        exact g_zret hC hR dX12_sound_52
    · refine g_sub [0] rfl ?_
      exact gB_X12_sound_23 hC hR hL  X6
def B_X12_colours_97  (X : Mem) : Option (Int × Mem) :=
  cl (f_X12_sharesOut X) fun r4 X5 =>
  cz r4 (some (r4, X5))
def B_X12_colours_88 (go13 : Int → Int → Int → Mem → Option (Int × Mem)) (x2 : Int) (x3 : Int) (x4 : Int) (s0 : Int) (s1 : Int) (s2 : Int) (X : Mem) : Option (Int × Mem) :=
  c1 s0 <|
  ax 32 s2 <| bd (ms X 130 s2 (s1 * s0)) fun X6 =>
  go13 x2 x3 (x4 + 1) X6
def B_X12_colours_42 (go13 : Int → Int → Int → Mem → Option (Int × Mem)) (x2 : Int) (x3 : Int) (x4 : Int) (s0 : Int) (X : Mem) : Option (Int × Mem) :=
  ax 2200 (168 + x4) <|
  c1 (X 121 (168 + x4)) <|
  c2 s0 x2 <| if ¬ s0 = x2 then
    ax 2200 12 <|
    B_X12_colours_88  go13 x2 x3 x4 (16 - (X 121 12)) (X 121 (168 + x4)) x4 X
  else
    ax 2200 12 <|
    B_X12_colours_88  go13 x2 x3 x4 (X 121 12) (X 121 (168 + x4)) x4 X
def B_X12_colours_41 (go13 : Int → Int → Int → Mem → Option (Int × Mem)) (x2 : Int) (x3 : Int) (x4 : Int) (X : Mem) : Option (Int × Mem) :=
  B_X12_colours_42  go13 x2 x3 x4 0 X
def L_X12_colours_13 : Nat → Int → Int → Int → Mem → Option (Int × Mem)
  | 0, _, _, _, _ => none
  | n + 1, x2, x3, x4, X =>
    cl (f_X12_sets X) fun r2 X3 =>
    c2 x4 r2 <| if r2 ≤ x4 then
      B_X12_colours_97   X3
    else
      c2 x3 ((-1)) <| if x3 = ((-1)) then
        B_X12_colours_41  (fun x2 x3 x4 X => L_X12_colours_13   n x2 x3 x4 X) x2 x3 x4 X3
      else
        c2 (ia (ishr x4 x3) 1) 1 <| if ¬ (ia (ishr x4 x3) 1) = 1 then
          B_X12_colours_41  (fun x2 x3 x4 X => L_X12_colours_13   n x2 x3 x4 X) x2 x3 x4 X3
        else
          B_X12_colours_42  (fun x2 x3 x4 X => L_X12_colours_13   n x2 x3 x4 X) x2 x3 x4 1 X3
def f_X12_colours (p1 : Int) (p2 : Int) (X : Mem) : Option (Int × Mem) :=
  ax 2200 (108 + p1) <|
  bd (X 121 (108 + p1)) fun v1 =>
  L_X12_colours_13   KF p2 v1 0 X
set_option maxRecDepth 20000 in
theorem gB_X12_colours_97 {C : Cx} {V : Ev} {L : List Kd} (hC : Ok C V cX12_colours RX12 6 2 45) (hR : Rt C V L (some .boolean) rI) (hL : LKm L)  (X : Mem)  : G C V L 0 0 6 97 [(0, vR V.1 120)] [] X (B_X12_colours_97    X) := by
  unfold B_X12_colours_97
  refine g_aload_n (q := 0) hC dX12_colours_97 rfl rfl rfl ?_
  refine g_callVI (As := []) hC mv_X12_sharesOut wml_RX12_302 (k_X12_sharesOut _ V hL X) cf_X12 (at_120 hL) (by decide) ⟨Nat.zero_le _, Nat.zero_le _⟩ rfl rfl ⟨Nat.le_of_ble_eq_true rfl, Nat.le_of_ble_eq_true rfl⟩ (Nat.le_of_ble_eq_true rfl) dX12_colours_98 (fun r4 X5 => ?_)
  exact g_zret hC hR dX12_colours_101
set_option maxRecDepth 20000 in
theorem gB_X12_colours_88 {C : Cx} {V : Ev} {L : List Kd} (hC : Ok C V cX12_colours RX12 6 2 45) (hR : Rt C V L (some .boolean) rI) (hL : LKm L) {go13 : Int → Int → Int → Mem → Option (Int × Mem)} (hgo13 : ∀ (x2 : Int) (x3 : Int) (x4 : Int) (X : Mem), G C V L 0 0 6 13 [(0, vR V.1 120), (2, vI x2), (3, vI x3), (4, vI x4)] [] X (go13 x2 x3 x4 X)) (x2 : Int) (x3 : Int) (x4 : Int) (s0 : Int) (s1 : Int) (s2 : Int) (X : Mem)  : G C V L 0 0 6 88 [(0, vR V.1 120), (2, vI x2), (3, vI x3), (4, vI x4)] [vI s0, vJ s1, vI s2, vR V.1 130] X (B_X12_colours_88  go13 x2 x3 x4 s0 s1 s2 X) := by
  unfold B_X12_colours_88
  refine g_i2l hC dX12_colours_88 ?_
  refine g_lmul hC dX12_colours_89 ?_
  refine g_last hC (at_130 hL) (by decide) dX12_colours_90 (fun X6 => ?_)
  refine g_iinc (q := 3) hC dX12_colours_91 rfl (by decide) rfl ?_
  refine g_goto (tgt := 13) hC dX12_colours_94 (by decide) ?_
  refine g_sub [1, 2, 3, 0] rfl ?_
  exact hgo13 x2 x3 (x4 + 1) X6
set_option maxRecDepth 20000 in
theorem gB_X12_colours_42 {C : Cx} {V : Ev} {L : List Kd} (hC : Ok C V cX12_colours RX12 6 2 45) (hR : Rt C V L (some .boolean) rI) (hL : LKm L) {go13 : Int → Int → Int → Mem → Option (Int × Mem)} (hgo13 : ∀ (x2 : Int) (x3 : Int) (x4 : Int) (X : Mem), G C V L 0 0 6 13 [(0, vR V.1 120), (2, vI x2), (3, vI x3), (4, vI x4)] [] X (go13 x2 x3 x4 X)) (x2 : Int) (x3 : Int) (x4 : Int) (s0 : Int) (X : Mem)  : G C V L 0 0 6 42 [(0, vR V.1 120), (2, vI x2), (3, vI x3), (4, vI x4)] [vI s0] X (B_X12_colours_42  go13 x2 x3 x4 s0 X) := by
  unfold B_X12_colours_42
  refine g_istore hC dX12_colours_42 (by decide) rfl ?_
  refine g_aload_n (q := 1) hC dX12_colours_44 rfl rfl rfl ?_
  refine g_getS (k := 26) hC cf_X12 (at_120 hL) (by decide) rfl (by decide) (by decide) wf_RX12_50 dX12_colours_45 ?_
  refine g_iload (q := 4) hC dX12_colours_48 rfl ?_
  refine g_aload_n (q := 1) hC dX12_colours_50 rfl rfl rfl ?_
  refine g_getS (k := 0) hC cf_X12 (at_120 hL) (by decide) rfl (by decide) (by decide) wf_RX12_7 dX12_colours_51 ?_
  refine g_sipush (v := vI 168) hC dX12_colours_54 rfl ?_
  refine g_iload (q := 4) hC dX12_colours_57 rfl ?_
  refine g_iadd hC dX12_colours_59 ?_
  refine g_iald hC (at_121 hL) (by decide) dX12_colours_60 ?_
  refine g_i2l hC dX12_colours_61 ?_
  refine g_iload (q := 0) hC dX12_colours_62 rfl ?_
  refine g_iload_n (q := 2) hC dX12_colours_64 rfl rfl ?_
  refine g_icmp_ne (tgt := 78) hC dX12_colours_65 (by decide) ?_ ?_
  · refine g_bipush (v := vI 16) hC dX12_colours_78 rfl ?_
    refine g_aload_n (q := 1) hC dX12_colours_80 rfl rfl rfl ?_
    refine g_getS (k := 0) hC cf_X12 (at_120 hL) (by decide) rfl (by decide) (by decide) wf_RX12_7 dX12_colours_81 ?_
    refine g_bipush (v := vI 12) hC dX12_colours_84 rfl ?_
    refine g_iald hC (at_121 hL) (by decide) dX12_colours_86 ?_
    refine g_isub hC dX12_colours_87 ?_
    refine g_sub [1, 2, 3, 4] rfl ?_
    exact gB_X12_colours_88 hC hR hL hgo13 x2 x3 x4 (16 - (X 121 12)) (X 121 (168 + x4)) x4 X
  · refine g_aload_n (q := 1) hC dX12_colours_68 rfl rfl rfl ?_
    refine g_getS (k := 0) hC cf_X12 (at_120 hL) (by decide) rfl (by decide) (by decide) wf_RX12_7 dX12_colours_69 ?_
    refine g_bipush (v := vI 12) hC dX12_colours_72 rfl ?_
    refine g_iald hC (at_121 hL) (by decide) dX12_colours_74 ?_
    refine g_goto (tgt := 88) hC dX12_colours_75 (by decide) ?_
    refine g_sub [1, 2, 3, 4] rfl ?_
    exact gB_X12_colours_88 hC hR hL hgo13 x2 x3 x4 (X 121 12) (X 121 (168 + x4)) x4 X
set_option maxRecDepth 20000 in
theorem gB_X12_colours_41 {C : Cx} {V : Ev} {L : List Kd} (hC : Ok C V cX12_colours RX12 6 2 45) (hR : Rt C V L (some .boolean) rI) (hL : LKm L) {go13 : Int → Int → Int → Mem → Option (Int × Mem)} (hgo13 : ∀ (x2 : Int) (x3 : Int) (x4 : Int) (X : Mem), G C V L 0 0 6 13 [(0, vR V.1 120), (2, vI x2), (3, vI x3), (4, vI x4)] [] X (go13 x2 x3 x4 X)) (x2 : Int) (x3 : Int) (x4 : Int) (X : Mem)  : G C V L 0 0 6 41 [(0, vR V.1 120), (2, vI x2), (3, vI x3), (4, vI x4)] [] X (B_X12_colours_41  go13 x2 x3 x4 X) := by
  unfold B_X12_colours_41
  refine g_iconst (v := vI 0) hC dX12_colours_41 rfl ?_
  exact gB_X12_colours_42 hC hR hL hgo13 x2 x3 x4 0 X
set_option maxRecDepth 20000 in
theorem gL_X12_colours_13 {C : Cx} {V : Ev} {L : List Kd} (hC : Ok C V cX12_colours RX12 6 2 45) (hR : Rt C V L (some .boolean) rI) (hL : LKm L) : ∀ (n : Nat) (x2 : Int) (x3 : Int) (x4 : Int) (X : Mem), G C V L 0 0 6 13 [(0, vR V.1 120), (2, vI x2), (3, vI x3), (4, vI x4)] [] X (L_X12_colours_13   n x2 x3 x4 X) := by
  intro n
  induction n with
  | zero => intro x2 x3 x4 X; exact g_none
  | succ n ih =>
    intro x2 x3 x4 X
    rw [L_X12_colours_13]
    refine g_iload (q := 3) hC dX12_colours_13 rfl ?_
    refine g_aload_n (q := 0) hC dX12_colours_15 rfl rfl rfl ?_
    refine g_callVI (As := []) hC mv_X12_sets wml_RX12_263 (k_X12_sets _ V hL X) cf_X12 (at_120 hL) (by decide) ⟨Nat.zero_le _, Nat.zero_le _⟩ rfl rfl ⟨Nat.le_of_ble_eq_true rfl, Nat.le_of_ble_eq_true rfl⟩ (Nat.le_of_ble_eq_true rfl) dX12_colours_16 (fun r2 X3 => ?_)
    refine g_icmp_ge (tgt := 97) hC dX12_colours_19 (by decide) ?_ ?_
    · refine g_sub [0] rfl ?_
      exact gB_X12_colours_97 hC hR hL  X3
    · refine g_iload_n (q := 2) hC dX12_colours_22 rfl rfl ?_
      refine g_iconst (v := vI (-1)) hC dX12_colours_23 rfl ?_
      refine g_icmp_eq (tgt := 41) hC dX12_colours_24 (by decide) ?_ ?_
      · exact gB_X12_colours_41 hC hR hL ih x2 x3 x4 X3
      · refine g_iload (q := 3) hC dX12_colours_27 rfl ?_
        refine g_iload_n (q := 2) hC dX12_colours_29 rfl rfl ?_
        refine g_ishr hC dX12_colours_30 ?_
        refine g_iconst (v := vI 1) hC dX12_colours_31 rfl ?_
        refine g_iand hC dX12_colours_32 ?_
        refine g_iconst (v := vI 1) hC dX12_colours_33 rfl ?_
        refine g_icmp_ne (tgt := 41) hC dX12_colours_34 (by decide) ?_ ?_
        · exact gB_X12_colours_41 hC hR hL ih x2 x3 x4 X3
        · refine g_iconst (v := vI 1) hC dX12_colours_37 rfl ?_
          refine g_goto (tgt := 42) hC dX12_colours_38 (by decide) ?_
          exact gB_X12_colours_42 hC hR hL ih x2 x3 x4 1 X3
set_option maxRecDepth 20000 in
theorem k_X12_colours (l : Launch) (V : Ev) {L : List Kd} (hL : LKm L) (p1 : Int) (p2 : Int) (X : Mem)  : Kt l V L yX12_colours (.code yX12_colours cX12_colours 6 (some .boolean)) 2 45 [vR V.1 120, vI p1, vI p2] rI X (f_X12_colours p1 p2 X) := by
  refine kt_of (own := RX12) (lv0 := [(0, vR V.1 120), (1, vI p1), (2, vI p2)]) (by decide) rfl (Nat.le_of_ble_eq_true rfl) rfl (fun C hCl hC hR => ?_)
  subst hCl
  unfold f_X12_colours
  refine g_aload_n (q := 0) hC dX12_colours_0 rfl rfl rfl ?_
  refine g_getS (k := 0) hC cf_X12 (at_120 hL) (by decide) rfl (by decide) (by decide) wf_RX12_7 dX12_colours_1 ?_
  refine g_bipush (v := vI 108) hC dX12_colours_4 rfl ?_
  refine g_iload_n (q := 1) hC dX12_colours_6 rfl rfl ?_
  refine g_iadd hC dX12_colours_7 ?_
  refine g_iald hC (at_121 hL) (by decide) dX12_colours_8 ?_
  refine g_topI (fun v1 => ?_)
  refine g_istore_n hC dX12_colours_9 rfl (by decide) rfl ?_
  refine g_iconst (v := vI 0) hC dX12_colours_10 rfl ?_
  refine g_istore hC dX12_colours_11 (by decide) rfl ?_
  refine g_sub [2, 4, 1, 0] rfl ?_
  exact gL_X12_colours_13 hC hR hL  KF p2 v1 0 X
def f_X12_colour (p1 : Int) (p2 : Int) (X : Mem) : Option (Int × Mem) :=
  c1 p1 <|
  cl (f_X12_isCell p1 X) fun r1 X2 =>
  c1 r1 <| if ¬ r1 = 0 then
    cl (f_X12_colours p1 p2 X2) fun r3 X4 =>
    c1 r3 <| if r3 = 0 then
      cl (f_X12_is 7 X4) fun r5 X6 =>
      cz r5 (some (r5, X6))
    else
      cl (f_X12_is 0 X4) fun r7 X8 =>
      cz r7 (some (r7, X8))
  else
    cl (f_X12_is 1 X2) fun r9 X10 =>
    cz r9 (some (r9, X10))
set_option maxRecDepth 20000 in
theorem k_X12_colour (l : Launch) (V : Ev) {L : List Kd} (hL : LKm L) (p1 : Int) (p2 : Int) (X : Mem)  : Kt l V L yX12_colour (.code yX12_colour cX12_colour 3 (some .boolean)) 3 70 [vR V.1 120, vI p1, vI p2] rI X (f_X12_colour p1 p2 X) := by
  refine kt_of (own := RX12) (lv0 := [(0, vR V.1 120), (1, vI p1), (2, vI p2)]) (by decide) rfl (Nat.le_of_ble_eq_true rfl) rfl (fun C hCl hC hR => ?_)
  subst hCl
  unfold f_X12_colour
  refine g_aload_n (q := 0) hC dX12_colour_0 rfl rfl rfl ?_
  refine g_iload_n (q := 1) hC dX12_colour_1 rfl rfl ?_
  refine g_i2l hC dX12_colour_2 ?_
  refine g_callVI (As := [vJ p1]) hC mv_X12_isCell wml_RX12_275 (k_X12_isCell _ V hL p1 X) cf_X12 (at_120 hL) (by decide) ⟨Nat.zero_le _, Nat.zero_le _⟩ rfl rfl ⟨Nat.le_of_ble_eq_true rfl, Nat.le_of_ble_eq_true rfl⟩ (Nat.le_of_ble_eq_true rfl) dX12_colour_3 (fun r1 X2 => ?_)
  refine g_if_ne (tgt := 15) hC dX12_colour_6 (by decide) ?_ ?_
  · refine g_aload_n (q := 0) hC dX12_colour_15 rfl rfl rfl ?_
    refine g_iload_n (q := 1) hC dX12_colour_16 rfl rfl ?_
    refine g_iload_n (q := 2) hC dX12_colour_17 rfl rfl ?_
    refine g_callVI (As := [vI p1, vI p2]) hC mv_X12_colours wml_RX12_329 (k_X12_colours _ V hL p1 p2 X2) cf_X12 (at_120 hL) (by decide) ⟨Nat.zero_le _, Nat.zero_le _⟩ rfl rfl ⟨Nat.le_of_ble_eq_true rfl, Nat.le_of_ble_eq_true rfl⟩ (Nat.le_of_ble_eq_true rfl) dX12_colour_18 (fun r3 X4 => ?_)
    refine g_if_eq (tgt := 32) hC dX12_colour_21 (by decide) ?_ ?_
    · refine g_aload_n (q := 0) hC dX12_colour_32 rfl rfl rfl ?_
      refine g_bipush (v := vI 7) hC dX12_colour_33 rfl ?_
      refine g_callVI (As := [vI 7]) hC mv_X12_is wml_RX12_98 (k_X12_is _ V hL 7 X4) cf_X12 (at_120 hL) (by decide) ⟨Nat.zero_le _, Nat.zero_le _⟩ rfl rfl ⟨Nat.le_of_ble_eq_true rfl, Nat.le_of_ble_eq_true rfl⟩ (Nat.le_of_ble_eq_true rfl) dX12_colour_35 (fun r5 X6 => ?_)
      exact g_zret hC hR dX12_colour_38
    · refine g_aload_n (q := 0) hC dX12_colour_24 rfl rfl rfl ?_
      refine g_iconst (v := vI 0) hC dX12_colour_25 rfl ?_
      refine g_callVI (As := [vI 0]) hC mv_X12_is wml_RX12_98 (k_X12_is _ V hL 0 X4) cf_X12 (at_120 hL) (by decide) ⟨Nat.zero_le _, Nat.zero_le _⟩ rfl rfl ⟨Nat.le_of_ble_eq_true rfl, Nat.le_of_ble_eq_true rfl⟩ (Nat.le_of_ble_eq_true rfl) dX12_colour_26 (fun r7 X8 => ?_)
      refine g_goto (tgt := 38) hC dX12_colour_29 (by decide) ?_
      exact g_zret hC hR dX12_colour_38
  · refine g_aload_n (q := 0) hC dX12_colour_9 rfl rfl rfl ?_
    refine g_iconst (v := vI 1) hC dX12_colour_10 rfl ?_
    refine g_callVI (As := [vI 1]) hC mv_X12_is wml_RX12_98 (k_X12_is _ V hL 1 X2) cf_X12 (at_120 hL) (by decide) ⟨Nat.zero_le _, Nat.zero_le _⟩ rfl rfl ⟨Nat.le_of_ble_eq_true rfl, Nat.le_of_ble_eq_true rfl⟩ (Nat.le_of_ble_eq_true rfl) dX12_colour_11 (fun r9 X10 => ?_)
    exact g_zret hC hR dX12_colour_14
def B_X12_off_15  (X : Mem) : Option (Int × Mem) :=
  cl (f_X12_is 1 X) fun r1 X2 =>
  cz r1 (some (r1, X2))
def f_X12_off (p1 : Int) (X : Mem) : Option (Int × Mem) :=
  c1 p1 <| if p1 < 0 then
    B_X12_off_15   X
  else
    ax 2200 6 <|
    c2 p1 (X 121 6) <| if p1 ≤ (X 121 6) then
      ax 2200 4 <| bd (ms X 121 4 p1) fun X3 =>
      cl (f_X12_is 0 X3) fun r4 X5 =>
      cz r4 (some (r4, X5))
    else
      B_X12_off_15   X
set_option maxRecDepth 20000 in
theorem gB_X12_off_15 {C : Cx} {V : Ev} {L : List Kd} (hC : Ok C V cX12_off RX12 2 1 21) (hR : Rt C V L (some .boolean) rI) (hL : LKm L)  (X : Mem)  : G C V L 0 0 2 15 [(0, vR V.1 120)] [] X (B_X12_off_15    X) := by
  unfold B_X12_off_15
  refine g_aload_n (q := 0) hC dX12_off_15 rfl rfl rfl ?_
  refine g_iconst (v := vI 1) hC dX12_off_16 rfl ?_
  refine g_callVI (As := [vI 1]) hC mv_X12_is wml_RX12_98 (k_X12_is _ V hL 1 X) cf_X12 (at_120 hL) (by decide) ⟨Nat.zero_le _, Nat.zero_le _⟩ rfl rfl ⟨Nat.le_of_ble_eq_true rfl, Nat.le_of_ble_eq_true rfl⟩ (Nat.le_of_ble_eq_true rfl) dX12_off_17 (fun r1 X2 => ?_)
  exact g_zret hC hR dX12_off_20
set_option maxRecDepth 20000 in
theorem k_X12_off (l : Launch) (V : Ev) {L : List Kd} (hL : LKm L) (p1 : Int) (X : Mem)  : Kt l V L yX12_off (.code yX12_off cX12_off 2 (some .boolean)) 1 21 [vR V.1 120, vI p1] rI X (f_X12_off p1 X) := by
  refine kt_of (own := RX12) (lv0 := [(0, vR V.1 120), (1, vI p1)]) (by decide) rfl (Nat.le_of_ble_eq_true rfl) rfl (fun C hCl hC hR => ?_)
  subst hCl
  unfold f_X12_off
  refine g_iload_n (q := 1) hC dX12_off_0 rfl rfl ?_
  refine g_if_lt (tgt := 15) hC dX12_off_1 (by decide) ?_ ?_
  · refine g_sub [0] rfl ?_
    exact gB_X12_off_15 hC hR hL  X
  · refine g_iload_n (q := 1) hC dX12_off_4 rfl rfl ?_
    refine g_aload_n (q := 0) hC dX12_off_5 rfl rfl rfl ?_
    refine g_getS (k := 0) hC cf_X12 (at_120 hL) (by decide) rfl (by decide) (by decide) wf_RX12_7 dX12_off_6 ?_
    refine g_bipush (v := vI 6) hC dX12_off_9 rfl ?_
    refine g_iald hC (at_121 hL) (by decide) dX12_off_11 ?_
    refine g_icmp_le (tgt := 21) hC dX12_off_12 (by decide) ?_ ?_
    · refine g_aload_n (q := 0) hC dX12_off_21 rfl rfl rfl ?_
      refine g_getS (k := 0) hC cf_X12 (at_120 hL) (by decide) rfl (by decide) (by decide) wf_RX12_7 dX12_off_22 ?_
      refine g_iconst (v := vI 4) hC dX12_off_25 rfl ?_
      refine g_iload_n (q := 1) hC dX12_off_26 rfl rfl ?_
      refine g_iast hC (at_121 hL) (by decide) dX12_off_27 (fun X3 => ?_)
      refine g_aload_n (q := 0) hC dX12_off_28 rfl rfl rfl ?_
      refine g_iconst (v := vI 0) hC dX12_off_29 rfl ?_
      refine g_callVI (As := [vI 0]) hC mv_X12_is wml_RX12_98 (k_X12_is _ V hL 0 X3) cf_X12 (at_120 hL) (by decide) ⟨Nat.zero_le _, Nat.zero_le _⟩ rfl rfl ⟨Nat.le_of_ble_eq_true rfl, Nat.le_of_ble_eq_true rfl⟩ (Nat.le_of_ble_eq_true rfl) dX12_off_30 (fun r4 X5 => ?_)
      exact g_zret hC hR dX12_off_33
    · refine g_sub [0] rfl ?_
      exact gB_X12_off_15 hC hR hL  X
def f_X12_forget  (X : Mem) : Option (Int × Mem) :=
  ax 2200 3 <| bd (ms X 121 3 0) fun X1 =>
  ax 2200 4 <| bd (ms X1 121 4 0) fun X2 =>
  cl (f_X12_first X2) fun _ X4 =>
  cl (f_X12_is 0 X4) fun r5 X6 =>
  cz r5 (some (r5, X6))
set_option maxRecDepth 20000 in
theorem k_X12_forget (l : Launch) (V : Ev) {L : List Kd} (hL : LKm L)  (X : Mem)  : Kt l V L yX12_forget (.code yX12_forget cX12_forget 1 (some .boolean)) 3 67 [vR V.1 120] rI X (f_X12_forget  X) := by
  refine kt_of (own := RX12) (lv0 := [(0, vR V.1 120)]) (by decide) rfl (Nat.le_of_ble_eq_true rfl) rfl (fun C hCl hC hR => ?_)
  subst hCl
  unfold f_X12_forget
  refine g_aload_n (q := 0) hC dX12_forget_0 rfl rfl rfl ?_
  refine g_getS (k := 0) hC cf_X12 (at_120 hL) (by decide) rfl (by decide) (by decide) wf_RX12_7 dX12_forget_1 ?_
  refine g_iconst (v := vI 3) hC dX12_forget_4 rfl ?_
  refine g_iconst (v := vI 0) hC dX12_forget_5 rfl ?_
  refine g_iast hC (at_121 hL) (by decide) dX12_forget_6 (fun X1 => ?_)
  refine g_aload_n (q := 0) hC dX12_forget_7 rfl rfl rfl ?_
  refine g_getS (k := 0) hC cf_X12 (at_120 hL) (by decide) rfl (by decide) (by decide) wf_RX12_7 dX12_forget_8 ?_
  refine g_iconst (v := vI 4) hC dX12_forget_11 rfl ?_
  refine g_iconst (v := vI 0) hC dX12_forget_12 rfl ?_
  refine g_iast hC (at_121 hL) (by decide) dX12_forget_13 (fun X2 => ?_)
  refine g_aload_n (q := 0) hC dX12_forget_14 rfl rfl rfl ?_
  refine g_callVV (As := []) hC mv_X12_first wml_RX12_237 (k_X12_first _ V hL X2) cf_X12 (at_120 hL) (by decide) ⟨Nat.zero_le _, Nat.zero_le _⟩ rfl rfl ⟨Nat.le_of_ble_eq_true rfl, Nat.le_of_ble_eq_true rfl⟩ (Nat.le_of_ble_eq_true rfl) dX12_forget_15 (fun _ X4 => ?_)
  refine g_aload_n (q := 0) hC dX12_forget_18 rfl rfl rfl ?_
  refine g_iconst (v := vI 0) hC dX12_forget_19 rfl ?_
  refine g_callVI (As := [vI 0]) hC mv_X12_is wml_RX12_98 (k_X12_is _ V hL 0 X4) cf_X12 (at_120 hL) (by decide) ⟨Nat.zero_le _, Nat.zero_le _⟩ rfl rfl ⟨Nat.le_of_ble_eq_true rfl, Nat.le_of_ble_eq_true rfl⟩ (Nat.le_of_ble_eq_true rfl) dX12_forget_20 (fun r5 X6 => ?_)
  exact g_zret hC hR dX12_forget_23
def B_X12_leads_76 (x3 : Int) (s0 : Int) (s1 : Int) (X : Mem) : Option (Int × Mem) :=
  bd (s1 + s0) fun v2 =>
  c1 x3 <| if x3 < 0 then
    some ((-1), X)
  else
    c1 v2 <| if v2 < 0 then
      some ((-1), X)
    else
      ax 2200 0 <|
      c2 x3 (X 121 0) <| if (X 121 0) ≤ x3 then
        some ((-1), X)
      else
        ax 2200 1 <|
        c2 v2 (X 121 1) <| if v2 < (X 121 1) then
          ax 2200 0 <|
          some (((X 121 0) * v2) + x3, X)
        else
          some ((-1), X)
def B_X12_leads_66 (x2 : Int) (x3 : Int) (s0 : Int) (X : Mem) : Option (Int × Mem) :=
  c2 x2 5 <| if x2 < 5 then
    B_X12_leads_76   x3 0 s0 X
  else
    B_X12_leads_76   x3 ((-1)) s0 X
def B_X12_leads_42 (x1 : Int) (x2 : Int) (s0 : Int) (s1 : Int) (X : Mem) : Option (Int × Mem) :=
  bd (s1 + s0) fun v1 =>
  ax 2200 0 <|
  cd x1 (X 121 0) <|
  c2 x2 1 <| if x2 < 1 then
    B_X12_leads_66   x2 v1 (x1 / (X 121 0)) X
  else
    c2 x2 3 <| if 3 < x2 then
      B_X12_leads_66   x2 v1 (x1 / (X 121 0)) X
    else
      B_X12_leads_76   v1 1 (x1 / (X 121 0)) X
def B_X12_leads_23 (x1 : Int) (x2 : Int) (s0 : Int) (X : Mem) : Option (Int × Mem) :=
  B_X12_leads_42   x1 x2 1 s0 X
def B_X12_leads_41 (x1 : Int) (x2 : Int) (s0 : Int) (X : Mem) : Option (Int × Mem) :=
  B_X12_leads_42   x1 x2 0 s0 X
def f_X12_leads (p1 : Int) (p2 : Int) (X : Mem) : Option (Int × Mem) :=
  ax 2200 0 <|
  cd p1 (X 121 0) <|
  c1 p2 <| if p2 = 0 then
    B_X12_leads_23   p1 p2 (p1 % (X 121 0)) X
  else
    c2 p2 1 <| if p2 = 1 then
      B_X12_leads_23   p1 p2 (p1 % (X 121 0)) X
    else
      c2 p2 7 <| if ¬ p2 = 7 then
        c2 p2 3 <| if p2 < 3 then
          B_X12_leads_41   p1 p2 (p1 % (X 121 0)) X
        else
          c2 p2 5 <| if 5 < p2 then
            B_X12_leads_41   p1 p2 (p1 % (X 121 0)) X
          else
            B_X12_leads_42   p1 p2 ((-1)) (p1 % (X 121 0)) X
      else
        B_X12_leads_23   p1 p2 (p1 % (X 121 0)) X
set_option maxRecDepth 20000 in
theorem gB_X12_leads_76 {C : Cx} {V : Ev} {L : List Kd} (hC : Ok C V cX12_leads RX12 5 0 0) (hR : Rt C V L (some .int) rI) (hL : LKm L) (x3 : Int) (s0 : Int) (s1 : Int) (X : Mem)  : G C V L 0 0 5 76 [(0, vR V.1 120), (3, vI x3)] [vI s0, vI s1] X (B_X12_leads_76   x3 s0 s1 X) := by
  unfold B_X12_leads_76
  refine g_iadd hC dX12_leads_76 ?_
  refine g_topI (fun v2 => ?_)
  refine g_istore hC dX12_leads_77 (by decide) rfl ?_
  refine g_iload_n (q := 2) hC dX12_leads_79 rfl rfl ?_
  refine g_if_lt (tgt := 109) hC dX12_leads_80 (by decide) ?_ ?_
  · refine g_iconst (v := vI (-1)) hC dX12_leads_109 rfl ?_
    refine g_goto (tgt := 124) hC dX12_leads_110 (by decide) ?_
    exact g_iret hC hR dX12_leads_124
  · refine g_iload (q := 0) hC dX12_leads_83 rfl ?_
    refine g_if_lt (tgt := 109) hC dX12_leads_85 (by decide) ?_ ?_
    · refine g_iconst (v := vI (-1)) hC dX12_leads_109 rfl ?_
      refine g_goto (tgt := 124) hC dX12_leads_110 (by decide) ?_
      exact g_iret hC hR dX12_leads_124
    · refine g_iload_n (q := 2) hC dX12_leads_88 rfl rfl ?_
      refine g_aload_n (q := 1) hC dX12_leads_89 rfl rfl rfl ?_
      refine g_getS (k := 0) hC cf_X12 (at_120 hL) (by decide) rfl (by decide) (by decide) wf_RX12_7 dX12_leads_90 ?_
      refine g_iconst (v := vI 0) hC dX12_leads_93 rfl ?_
      refine g_iald hC (at_121 hL) (by decide) dX12_leads_94 ?_
      refine g_icmp_ge (tgt := 109) hC dX12_leads_95 (by decide) ?_ ?_
      · refine g_iconst (v := vI (-1)) hC dX12_leads_109 rfl ?_
        refine g_goto (tgt := 124) hC dX12_leads_110 (by decide) ?_
        exact g_iret hC hR dX12_leads_124
      · refine g_iload (q := 0) hC dX12_leads_98 rfl ?_
        refine g_aload_n (q := 1) hC dX12_leads_100 rfl rfl rfl ?_
        refine g_getS (k := 0) hC cf_X12 (at_120 hL) (by decide) rfl (by decide) (by decide) wf_RX12_7 dX12_leads_101 ?_
        refine g_iconst (v := vI 1) hC dX12_leads_104 rfl ?_
        refine g_iald hC (at_121 hL) (by decide) dX12_leads_105 ?_
        refine g_icmp_lt (tgt := 113) hC dX12_leads_106 (by decide) ?_ ?_
        · refine g_aload_n (q := 1) hC dX12_leads_113 rfl rfl rfl ?_
          refine g_getS (k := 0) hC cf_X12 (at_120 hL) (by decide) rfl (by decide) (by decide) wf_RX12_7 dX12_leads_114 ?_
          refine g_iconst (v := vI 0) hC dX12_leads_117 rfl ?_
          refine g_iald hC (at_121 hL) (by decide) dX12_leads_118 ?_
          refine g_iload (q := 0) hC dX12_leads_119 rfl ?_
          refine g_imul hC dX12_leads_121 ?_
          refine g_iload_n (q := 2) hC dX12_leads_122 rfl rfl ?_
          refine g_iadd hC dX12_leads_123 ?_
          exact g_iret hC hR dX12_leads_124
        · refine g_iconst (v := vI (-1)) hC dX12_leads_109 rfl ?_
          refine g_goto (tgt := 124) hC dX12_leads_110 (by decide) ?_
          exact g_iret hC hR dX12_leads_124
set_option maxRecDepth 20000 in
theorem gB_X12_leads_66 {C : Cx} {V : Ev} {L : List Kd} (hC : Ok C V cX12_leads RX12 5 0 0) (hR : Rt C V L (some .int) rI) (hL : LKm L) (x2 : Int) (x3 : Int) (s0 : Int) (X : Mem)  : G C V L 0 0 5 66 [(0, vR V.1 120), (2, vI x2), (3, vI x3)] [vI s0] X (B_X12_leads_66   x2 x3 s0 X) := by
  unfold B_X12_leads_66
  refine g_iload_n (q := 1) hC dX12_leads_66 rfl rfl ?_
  refine g_iconst (v := vI 5) hC dX12_leads_67 rfl ?_
  refine g_icmp_lt (tgt := 75) hC dX12_leads_68 (by decide) ?_ ?_
  · refine g_iconst (v := vI 0) hC dX12_leads_75 rfl ?_
    refine g_sub [0, 2] rfl ?_
    exact gB_X12_leads_76 hC hR hL  x3 0 s0 X
  · refine g_iconst (v := vI (-1)) hC dX12_leads_71 rfl ?_
    refine g_goto (tgt := 76) hC dX12_leads_72 (by decide) ?_
    refine g_sub [0, 2] rfl ?_
    exact gB_X12_leads_76 hC hR hL  x3 ((-1)) s0 X
set_option maxRecDepth 20000 in
theorem gB_X12_leads_42 {C : Cx} {V : Ev} {L : List Kd} (hC : Ok C V cX12_leads RX12 5 0 0) (hR : Rt C V L (some .int) rI) (hL : LKm L) (x1 : Int) (x2 : Int) (s0 : Int) (s1 : Int) (X : Mem)  : G C V L 0 0 5 42 [(0, vR V.1 120), (1, vI x1), (2, vI x2)] [vI s0, vI s1] X (B_X12_leads_42   x1 x2 s0 s1 X) := by
  unfold B_X12_leads_42
  refine g_iadd hC dX12_leads_42 ?_
  refine g_topI (fun v1 => ?_)
  refine g_istore_n hC dX12_leads_43 rfl (by decide) rfl ?_
  refine g_iload_n (q := 2) hC dX12_leads_44 rfl rfl ?_
  refine g_aload_n (q := 1) hC dX12_leads_45 rfl rfl rfl ?_
  refine g_getS (k := 0) hC cf_X12 (at_120 hL) (by decide) rfl (by decide) (by decide) wf_RX12_7 dX12_leads_46 ?_
  refine g_iconst (v := vI 0) hC dX12_leads_49 rfl ?_
  refine g_iald hC (at_121 hL) (by decide) dX12_leads_50 ?_
  refine g_idiv hC dX12_leads_51 ?_
  refine g_iload_n (q := 3) hC dX12_leads_52 rfl rfl ?_
  refine g_iconst (v := vI 1) hC dX12_leads_53 rfl ?_
  refine g_icmp_lt (tgt := 66) hC dX12_leads_54 (by decide) ?_ ?_
  · refine g_sub [1, 3, 0] rfl ?_
    exact gB_X12_leads_66 hC hR hL  x2 v1 (x1 / (X 121 0)) X
  · refine g_iload_n (q := 3) hC dX12_leads_57 rfl rfl ?_
    refine g_iconst (v := vI 3) hC dX12_leads_58 rfl ?_
    refine g_icmp_gt (tgt := 66) hC dX12_leads_59 (by decide) ?_ ?_
    · refine g_sub [1, 3, 0] rfl ?_
      exact gB_X12_leads_66 hC hR hL  x2 v1 (x1 / (X 121 0)) X
    · refine g_iconst (v := vI 1) hC dX12_leads_62 rfl ?_
      refine g_goto (tgt := 76) hC dX12_leads_63 (by decide) ?_
      refine g_sub [1, 0] rfl ?_
      exact gB_X12_leads_76 hC hR hL  v1 1 (x1 / (X 121 0)) X
set_option maxRecDepth 20000 in
theorem gB_X12_leads_23 {C : Cx} {V : Ev} {L : List Kd} (hC : Ok C V cX12_leads RX12 5 0 0) (hR : Rt C V L (some .int) rI) (hL : LKm L) (x1 : Int) (x2 : Int) (s0 : Int) (X : Mem)  : G C V L 0 0 5 23 [(0, vR V.1 120), (1, vI x1), (2, vI x2)] [vI s0] X (B_X12_leads_23   x1 x2 s0 X) := by
  unfold B_X12_leads_23
  refine g_iconst (v := vI 1) hC dX12_leads_23 rfl ?_
  refine g_goto (tgt := 42) hC dX12_leads_24 (by decide) ?_
  exact gB_X12_leads_42 hC hR hL  x1 x2 1 s0 X
set_option maxRecDepth 20000 in
theorem gB_X12_leads_41 {C : Cx} {V : Ev} {L : List Kd} (hC : Ok C V cX12_leads RX12 5 0 0) (hR : Rt C V L (some .int) rI) (hL : LKm L) (x1 : Int) (x2 : Int) (s0 : Int) (X : Mem)  : G C V L 0 0 5 41 [(0, vR V.1 120), (1, vI x1), (2, vI x2)] [vI s0] X (B_X12_leads_41   x1 x2 s0 X) := by
  unfold B_X12_leads_41
  refine g_iconst (v := vI 0) hC dX12_leads_41 rfl ?_
  exact gB_X12_leads_42 hC hR hL  x1 x2 0 s0 X
set_option maxRecDepth 20000 in
theorem k_X12_leads (l : Launch) (V : Ev) {L : List Kd} (hL : LKm L) (p1 : Int) (p2 : Int) (X : Mem)  : Kt l V L yX12_leads (.code yX12_leads cX12_leads 5 (some .int)) 0 0 [vR V.1 120, vI p1, vI p2] rI X (f_X12_leads p1 p2 X) := by
  refine kt_of (own := RX12) (lv0 := [(0, vR V.1 120), (1, vI p1), (2, vI p2)]) (by decide) rfl (Nat.le_of_ble_eq_true rfl) rfl (fun C hCl hC hR => ?_)
  subst hCl
  unfold f_X12_leads
  refine g_iload_n (q := 1) hC dX12_leads_0 rfl rfl ?_
  refine g_aload_n (q := 0) hC dX12_leads_1 rfl rfl rfl ?_
  refine g_getS (k := 0) hC cf_X12 (at_120 hL) (by decide) rfl (by decide) (by decide) wf_RX12_7 dX12_leads_2 ?_
  refine g_iconst (v := vI 0) hC dX12_leads_5 rfl ?_
  refine g_iald hC (at_121 hL) (by decide) dX12_leads_6 ?_
  refine g_irem hC dX12_leads_7 ?_
  refine g_iload_n (q := 2) hC dX12_leads_8 rfl rfl ?_
  refine g_if_eq (tgt := 23) hC dX12_leads_9 (by decide) ?_ ?_
  · exact gB_X12_leads_23 hC hR hL  p1 p2 (p1 % (X 121 0)) X
  · refine g_iload_n (q := 2) hC dX12_leads_12 rfl rfl ?_
    refine g_iconst (v := vI 1) hC dX12_leads_13 rfl ?_
    refine g_icmp_eq (tgt := 23) hC dX12_leads_14 (by decide) ?_ ?_
    · exact gB_X12_leads_23 hC hR hL  p1 p2 (p1 % (X 121 0)) X
    · refine g_iload_n (q := 2) hC dX12_leads_17 rfl rfl ?_
      refine g_bipush (v := vI 7) hC dX12_leads_18 rfl ?_
      refine g_icmp_ne (tgt := 27) hC dX12_leads_20 (by decide) ?_ ?_
      · refine g_iload_n (q := 2) hC dX12_leads_27 rfl rfl ?_
        refine g_iconst (v := vI 3) hC dX12_leads_28 rfl ?_
        refine g_icmp_lt (tgt := 41) hC dX12_leads_29 (by decide) ?_ ?_
        · exact gB_X12_leads_41 hC hR hL  p1 p2 (p1 % (X 121 0)) X
        · refine g_iload_n (q := 2) hC dX12_leads_32 rfl rfl ?_
          refine g_iconst (v := vI 5) hC dX12_leads_33 rfl ?_
          refine g_icmp_gt (tgt := 41) hC dX12_leads_34 (by decide) ?_ ?_
          · exact gB_X12_leads_41 hC hR hL  p1 p2 (p1 % (X 121 0)) X
          · refine g_iconst (v := vI (-1)) hC dX12_leads_37 rfl ?_
            refine g_goto (tgt := 42) hC dX12_leads_38 (by decide) ?_
            exact gB_X12_leads_42 hC hR hL  p1 p2 ((-1)) (p1 % (X 121 0)) X
      · exact gB_X12_leads_23 hC hR hL  p1 p2 (p1 % (X 121 0)) X
def L_X12_headingTo_2 : Nat → Int → Int → Int → Mem → Option (Int × Mem)
  | 0, _, _, _, _ => none
  | n + 1, x1, x2, x3, X =>
    c2 x3 8 <| if 8 ≤ x3 then
      some ((-1), X)
    else
      cl (f_X12_leads x1 x3 X) fun r1 X2 =>
      c2 r1 x2 <| if ¬ r1 = x2 then
        L_X12_headingTo_2   n x1 x2 (x3 + 1) X2
      else
        some (x3, X2)
def f_X12_headingTo (p1 : Int) (p2 : Int) (X : Mem) : Option (Int × Mem) :=
  L_X12_headingTo_2   KF p1 p2 0 X
set_option maxRecDepth 20000 in
theorem gL_X12_headingTo_2 {C : Cx} {V : Ev} {L : List Kd} (hC : Ok C V cX12_headingTo RX12 4 1 24) (hR : Rt C V L (some .int) rI) (hL : LKm L) : ∀ (n : Nat) (x1 : Int) (x2 : Int) (x3 : Int) (X : Mem), G C V L 0 0 4 2 [(0, vR V.1 120), (1, vI x1), (2, vI x2), (3, vI x3)] [] X (L_X12_headingTo_2   n x1 x2 x3 X) := by
  intro n
  induction n with
  | zero => intro x1 x2 x3 X; exact g_none
  | succ n ih =>
    intro x1 x2 x3 X
    rw [L_X12_headingTo_2]
    refine g_iload_n (q := 3) hC dX12_headingTo_2 rfl rfl ?_
    refine g_bipush (v := vI 8) hC dX12_headingTo_3 rfl ?_
    refine g_icmp_ge (tgt := 26) hC dX12_headingTo_5 (by decide) ?_ ?_
    · refine g_iconst (v := vI (-1)) hC dX12_headingTo_26 rfl ?_
      exact g_iret hC hR dX12_headingTo_27
    · refine g_aload_n (q := 0) hC dX12_headingTo_8 rfl rfl rfl ?_
      refine g_iload_n (q := 1) hC dX12_headingTo_9 rfl rfl ?_
      refine g_iload_n (q := 3) hC dX12_headingTo_10 rfl rfl ?_
      refine g_callVI (As := [vI x1, vI x3]) hC mv_X12_leads wml_RX12_333 (k_X12_leads _ V hL x1 x3 X) cf_X12 (at_120 hL) (by decide) ⟨Nat.zero_le _, Nat.zero_le _⟩ rfl rfl ⟨Nat.le_of_ble_eq_true rfl, Nat.le_of_ble_eq_true rfl⟩ (Nat.le_of_ble_eq_true rfl) dX12_headingTo_11 (fun r1 X2 => ?_)
      refine g_iload_n (q := 2) hC dX12_headingTo_14 rfl rfl ?_
      refine g_icmp_ne (tgt := 20) hC dX12_headingTo_15 (by decide) ?_ ?_
      · refine g_iinc (q := 3) hC dX12_headingTo_20 rfl (by decide) rfl ?_
        refine g_goto (tgt := 2) hC dX12_headingTo_23 (by decide) ?_
        refine g_sub [1, 2, 3, 0] rfl ?_
        exact ih x1 x2 (x3 + 1) X2
      · refine g_iload_n (q := 3) hC dX12_headingTo_18 rfl rfl ?_
        exact g_iret hC hR dX12_headingTo_19
set_option maxRecDepth 20000 in
theorem k_X12_headingTo (l : Launch) (V : Ev) {L : List Kd} (hL : LKm L) (p1 : Int) (p2 : Int) (X : Mem)  : Kt l V L yX12_headingTo (.code yX12_headingTo cX12_headingTo 4 (some .int)) 1 24 [vR V.1 120, vI p1, vI p2] rI X (f_X12_headingTo p1 p2 X) := by
  refine kt_of (own := RX12) (lv0 := [(0, vR V.1 120), (1, vI p1), (2, vI p2)]) (by decide) rfl (Nat.le_of_ble_eq_true rfl) rfl (fun C hCl hC hR => ?_)
  subst hCl
  unfold f_X12_headingTo
  refine g_iconst (v := vI 0) hC dX12_headingTo_0 rfl ?_
  refine g_istore_n hC dX12_headingTo_1 rfl (by decide) rfl ?_
  refine g_sub [1, 2, 3, 0] rfl ?_
  exact gL_X12_headingTo_2 hC hR hL  KF p1 p2 0 X
def B_X12_wrongWay_113 (go52 : Int → Int → Int → Mem → Option (Int × Mem)) (x2 : Int) (x3 : Int) (x4 : Int) (X : Mem) : Option (Int × Mem) :=
  go52 x2 x3 (x4 + 1) X
def L_X12_wrongWay_52 : Nat → Int → Int → Int → Mem → Option (Int × Mem)
  | 0, _, _, _, _ => none
  | n + 1, x2, x3, x4, X =>
    c2 x4 x2 <| if x2 ≤ x4 then
      some (0, X)
    else
      ax 240 (x3 + x4) <|
      cl (f_X12_isCell (X 125 (x3 + x4)) X) fun r4 X5 =>
      c1 r4 <| if ¬ r4 = 0 then
        c1 x4 <| if x4 ≤ 0 then
          B_X12_wrongWay_113  (fun x2 x3 x4 X => L_X12_wrongWay_52   n x2 x3 x4 X) x2 x3 x4 X5
        else
          ax 240 ((x3 + x4) - 1) <|
          ax 240 (x3 + x4) <|
          cl (f_X12_headingTo (X5 125 ((x3 + x4) - 1)) (X5 125 (x3 + x4)) X5) fun r6 X7 =>
          c2 r6 ((-1)) <| if ¬ r6 = ((-1)) then
            B_X12_wrongWay_113  (fun x2 x3 x4 X => L_X12_wrongWay_52   n x2 x3 x4 X) x2 x3 x4 X7
          else
            some (5, X7)
      else
        some (5, X5)
def f_X12_wrongWay (p1 : Int) (p2 : Int) (X : Mem) : Option (Int × Mem) :=
  cl (f_X12_isTray p1 X) fun r1 X2 =>
  c1 r1 <| if r1 = 0 then
    some (1, X2)
  else
    c2 p2 1 <| if p2 < 1 then
      some (1, X2)
    else
      c2 p2 40 <| if p2 ≤ 40 then
        ax 4 p1 <|
        c2 (X2 124 p1) ((-1)) <| if ¬ (X2 124 p1) = ((-1)) then
          ax 4 p1 <|
          c2 (X2 124 p1) p2 <| if p2 ≤ (X2 124 p1) then
            bd (60 * p1) fun v3 =>
            L_X12_wrongWay_52   KF p2 v3 0 X2
          else
            some (3, X2)
        else
          some (2, X2)
      else
        some (1, X2)
set_option maxRecDepth 20000 in
theorem gB_X12_wrongWay_113 {C : Cx} {V : Ev} {L : List Kd} (hC : Ok C V cX12_wrongWay RX12 5 2 47) (hR : Rt C V L (some .int) rI) (hL : LKm L) {go52 : Int → Int → Int → Mem → Option (Int × Mem)} (hgo52 : ∀ (x2 : Int) (x3 : Int) (x4 : Int) (X : Mem), G C V L 0 0 5 52 [(0, vR V.1 120), (2, vI x2), (3, vI x3), (4, vI x4)] [] X (go52 x2 x3 x4 X)) (x2 : Int) (x3 : Int) (x4 : Int) (X : Mem)  : G C V L 0 0 5 113 [(0, vR V.1 120), (2, vI x2), (3, vI x3), (4, vI x4)] [] X (B_X12_wrongWay_113  go52 x2 x3 x4 X) := by
  unfold B_X12_wrongWay_113
  refine g_iinc (q := 3) hC dX12_wrongWay_113 rfl (by decide) rfl ?_
  refine g_goto (tgt := 52) hC dX12_wrongWay_116 (by decide) ?_
  refine g_sub [1, 2, 3, 0] rfl ?_
  exact hgo52 x2 x3 (x4 + 1) X
set_option maxRecDepth 20000 in
theorem gL_X12_wrongWay_52 {C : Cx} {V : Ev} {L : List Kd} (hC : Ok C V cX12_wrongWay RX12 5 2 47) (hR : Rt C V L (some .int) rI) (hL : LKm L) : ∀ (n : Nat) (x2 : Int) (x3 : Int) (x4 : Int) (X : Mem), G C V L 0 0 5 52 [(0, vR V.1 120), (2, vI x2), (3, vI x3), (4, vI x4)] [] X (L_X12_wrongWay_52   n x2 x3 x4 X) := by
  intro n
  induction n with
  | zero => intro x2 x3 x4 X; exact g_none
  | succ n ih =>
    intro x2 x3 x4 X
    rw [L_X12_wrongWay_52]
    refine g_iload (q := 3) hC dX12_wrongWay_52 rfl ?_
    refine g_iload_n (q := 1) hC dX12_wrongWay_54 rfl rfl ?_
    refine g_icmp_ge (tgt := 119) hC dX12_wrongWay_55 (by decide) ?_ ?_
    · refine g_iconst (v := vI 0) hC dX12_wrongWay_119 rfl ?_
      exact g_iret hC hR dX12_wrongWay_120
    · refine g_aload_n (q := 0) hC dX12_wrongWay_58 rfl rfl rfl ?_
      refine g_aload_n (q := 0) hC dX12_wrongWay_59 rfl rfl rfl ?_
      refine g_getS (k := 7) hC cf_X12 (at_120 hL) (by decide) rfl (by decide) (by decide) wf_RX12_27 dX12_wrongWay_60 ?_
      refine g_iload_n (q := 2) hC dX12_wrongWay_63 rfl rfl ?_
      refine g_iload (q := 3) hC dX12_wrongWay_64 rfl ?_
      refine g_iadd hC dX12_wrongWay_66 ?_
      refine g_lald hC (at_125 hL) (by decide) dX12_wrongWay_67 ?_
      refine g_callVI (As := [vJ (X 125 (x3 + x4))]) hC mv_X12_isCell wml_RX12_275 (k_X12_isCell _ V hL (X 125 (x3 + x4)) X) cf_X12 (at_120 hL) (by decide) ⟨Nat.zero_le _, Nat.zero_le _⟩ rfl rfl ⟨Nat.le_of_ble_eq_true rfl, Nat.le_of_ble_eq_true rfl⟩ (Nat.le_of_ble_eq_true rfl) dX12_wrongWay_68 (fun r4 X5 => ?_)
      refine g_if_ne (tgt := 76) hC dX12_wrongWay_71 (by decide) ?_ ?_
      · refine g_iload (q := 3) hC dX12_wrongWay_76 rfl ?_
        refine g_if_le (tgt := 113) hC dX12_wrongWay_78 (by decide) ?_ ?_
        · exact gB_X12_wrongWay_113 hC hR hL ih x2 x3 x4 X5
        · refine g_aload_n (q := 0) hC dX12_wrongWay_81 rfl rfl rfl ?_
          refine g_aload_n (q := 0) hC dX12_wrongWay_82 rfl rfl rfl ?_
          refine g_getS (k := 7) hC cf_X12 (at_120 hL) (by decide) rfl (by decide) (by decide) wf_RX12_27 dX12_wrongWay_83 ?_
          refine g_iload_n (q := 2) hC dX12_wrongWay_86 rfl rfl ?_
          refine g_iload (q := 3) hC dX12_wrongWay_87 rfl ?_
          refine g_iadd hC dX12_wrongWay_89 ?_
          refine g_iconst (v := vI 1) hC dX12_wrongWay_90 rfl ?_
          refine g_isub hC dX12_wrongWay_91 ?_
          refine g_lald hC (at_125 hL) (by decide) dX12_wrongWay_92 ?_
          refine g_l2i hC dX12_wrongWay_93 ?_
          refine g_aload_n (q := 0) hC dX12_wrongWay_94 rfl rfl rfl ?_
          refine g_getS (k := 7) hC cf_X12 (at_120 hL) (by decide) rfl (by decide) (by decide) wf_RX12_27 dX12_wrongWay_95 ?_
          refine g_iload_n (q := 2) hC dX12_wrongWay_98 rfl rfl ?_
          refine g_iload (q := 3) hC dX12_wrongWay_99 rfl ?_
          refine g_iadd hC dX12_wrongWay_101 ?_
          refine g_lald hC (at_125 hL) (by decide) dX12_wrongWay_102 ?_
          refine g_l2i hC dX12_wrongWay_103 ?_
          refine g_callVI (As := [vI (X5 125 ((x3 + x4) - 1)), vI (X5 125 (x3 + x4))]) hC mv_X12_headingTo wml_RX12_339 (k_X12_headingTo _ V hL (X5 125 ((x3 + x4) - 1)) (X5 125 (x3 + x4)) X5) cf_X12 (at_120 hL) (by decide) ⟨Nat.zero_le _, Nat.zero_le _⟩ rfl rfl ⟨Nat.le_of_ble_eq_true rfl, Nat.le_of_ble_eq_true rfl⟩ (Nat.le_of_ble_eq_true rfl) dX12_wrongWay_104 (fun r6 X7 => ?_)
          refine g_iconst (v := vI (-1)) hC dX12_wrongWay_107 rfl ?_
          refine g_icmp_ne (tgt := 113) hC dX12_wrongWay_108 (by decide) ?_ ?_
          · exact gB_X12_wrongWay_113 hC hR hL ih x2 x3 x4 X7
          · refine g_iconst (v := vI 5) hC dX12_wrongWay_111 rfl ?_
            exact g_iret hC hR dX12_wrongWay_112
      · refine g_iconst (v := vI 5) hC dX12_wrongWay_74 rfl ?_
        exact g_iret hC hR dX12_wrongWay_75
set_option maxRecDepth 20000 in
theorem k_X12_wrongWay (l : Launch) (V : Ev) {L : List Kd} (hL : LKm L) (p1 : Int) (p2 : Int) (X : Mem)  : Kt l V L yX12_wrongWay (.code yX12_wrongWay cX12_wrongWay 5 (some .int)) 2 47 [vR V.1 120, vI p1, vI p2] rI X (f_X12_wrongWay p1 p2 X) := by
  refine kt_of (own := RX12) (lv0 := [(0, vR V.1 120), (1, vI p1), (2, vI p2)]) (by decide) rfl (Nat.le_of_ble_eq_true rfl) rfl (fun C hCl hC hR => ?_)
  subst hCl
  unfold f_X12_wrongWay
  refine g_iload_n (q := 1) hC dX12_wrongWay_0 rfl rfl ?_
  refine g_callSI (As := [vI p1]) hC mt_X12_isTray wml_RX12_102 (k_X12_isTray _ V hL p1 X) ⟨Nat.zero_le _, Nat.zero_le _⟩ rfl rfl ⟨Nat.le_of_ble_eq_true rfl, Nat.le_of_ble_eq_true rfl⟩ (Nat.le_of_ble_eq_true rfl) dX12_wrongWay_1 (fun r1 X2 => ?_)
  refine g_if_eq (tgt := 18) hC dX12_wrongWay_4 (by decide) ?_ ?_
  · refine g_iconst (v := vI 1) hC dX12_wrongWay_18 rfl ?_
    exact g_iret hC hR dX12_wrongWay_19
  · refine g_iload_n (q := 2) hC dX12_wrongWay_7 rfl rfl ?_
    refine g_iconst (v := vI 1) hC dX12_wrongWay_8 rfl ?_
    refine g_icmp_lt (tgt := 18) hC dX12_wrongWay_9 (by decide) ?_ ?_
    · refine g_iconst (v := vI 1) hC dX12_wrongWay_18 rfl ?_
      exact g_iret hC hR dX12_wrongWay_19
    · refine g_iload_n (q := 2) hC dX12_wrongWay_12 rfl rfl ?_
      refine g_bipush (v := vI 40) hC dX12_wrongWay_13 rfl ?_
      refine g_icmp_le (tgt := 20) hC dX12_wrongWay_15 (by decide) ?_ ?_
      · refine g_aload_n (q := 0) hC dX12_wrongWay_20 rfl rfl rfl ?_
        refine g_getS (k := 6) hC cf_X12 (at_120 hL) (by decide) rfl (by decide) (by decide) wf_RX12_24 dX12_wrongWay_21 ?_
        refine g_iload_n (q := 1) hC dX12_wrongWay_24 rfl rfl ?_
        refine g_iald hC (at_124 hL) (by decide) dX12_wrongWay_25 ?_
        refine g_iconst (v := vI (-1)) hC dX12_wrongWay_26 rfl ?_
        refine g_icmp_ne (tgt := 32) hC dX12_wrongWay_27 (by decide) ?_ ?_
        · refine g_aload_n (q := 0) hC dX12_wrongWay_32 rfl rfl rfl ?_
          refine g_getS (k := 6) hC cf_X12 (at_120 hL) (by decide) rfl (by decide) (by decide) wf_RX12_24 dX12_wrongWay_33 ?_
          refine g_iload_n (q := 1) hC dX12_wrongWay_36 rfl rfl ?_
          refine g_iald hC (at_124 hL) (by decide) dX12_wrongWay_37 ?_
          refine g_iload_n (q := 2) hC dX12_wrongWay_38 rfl rfl ?_
          refine g_icmp_ge (tgt := 44) hC dX12_wrongWay_39 (by decide) ?_ ?_
          · refine g_bipush (v := vI 60) hC dX12_wrongWay_44 rfl ?_
            refine g_iload_n (q := 1) hC dX12_wrongWay_46 rfl rfl ?_
            refine g_imul hC dX12_wrongWay_47 ?_
            refine g_topI (fun v3 => ?_)
            refine g_istore_n hC dX12_wrongWay_48 rfl (by decide) rfl ?_
            refine g_iconst (v := vI 0) hC dX12_wrongWay_49 rfl ?_
            refine g_istore hC dX12_wrongWay_50 (by decide) rfl ?_
            refine g_sub [2, 4, 1, 0] rfl ?_
            exact gL_X12_wrongWay_52 hC hR hL  KF p2 v3 0 X2
          · refine g_iconst (v := vI 3) hC dX12_wrongWay_42 rfl ?_
            exact g_iret hC hR dX12_wrongWay_43
        · refine g_iconst (v := vI 2) hC dX12_wrongWay_30 rfl ?_
          exact g_iret hC hR dX12_wrongWay_31
      · refine g_iconst (v := vI 1) hC dX12_wrongWay_18 rfl ?_
        exact g_iret hC hR dX12_wrongWay_19
def B_X12_stepMinutes_56 (s0 : Int) (s1 : Int) (X : Mem) : Option (Int × Mem) :=
  some (s1 + s0, X)
def B_X12_stepMinutes_30 (x1 : Int) (x3 : Int) (s0 : Int) (X : Mem) : Option (Int × Mem) :=
  c2 x1 8 <| if ¬ x1 = 8 then
    ax 2200 9 <|
    c2 x3 (8 - x3) <|
    B_X12_stepMinutes_56   ((X 121 9) * (min x3 (8 - x3))) s0 X
  else
    B_X12_stepMinutes_56   0 s0 X
def f_X12_stepMinutes (p1 : Int) (p2 : Int) (X : Mem) : Option (Int × Mem) :=
  c1 (p1 - p2) <|
  bd (if 0 ≤ (p1 - p2) then p1 - p2 else -(p1 - p2)) fun v1 =>
  cd p2 2 <|
  c1 (p2 % 2) <| if ¬ (p2 % 2) = 0 then
    ax 2200 8 <|
    B_X12_stepMinutes_30   p1 v1 (X 121 8) X
  else
    ax 2200 7 <|
    B_X12_stepMinutes_30   p1 v1 (X 121 7) X
set_option maxRecDepth 20000 in
theorem gB_X12_stepMinutes_56 {C : Cx} {V : Ev} {L : List Kd} (hC : Ok C V cX12_stepMinutes RX12 4 1 21) (hR : Rt C V L (some .int) rI) (hL : LKm L) (s0 : Int) (s1 : Int) (X : Mem)  : G C V L 0 0 4 56 [] [vI s0, vI s1] X (B_X12_stepMinutes_56   s0 s1 X) := by
  unfold B_X12_stepMinutes_56
  refine g_iadd hC dX12_stepMinutes_56 ?_
  exact g_iret hC hR dX12_stepMinutes_57
set_option maxRecDepth 20000 in
theorem gB_X12_stepMinutes_30 {C : Cx} {V : Ev} {L : List Kd} (hC : Ok C V cX12_stepMinutes RX12 4 1 21) (hR : Rt C V L (some .int) rI) (hL : LKm L) (x1 : Int) (x3 : Int) (s0 : Int) (X : Mem)  : G C V L 0 0 4 30 [(0, vR V.1 120), (1, vI x1), (3, vI x3)] [vI s0] X (B_X12_stepMinutes_30   x1 x3 s0 X) := by
  unfold B_X12_stepMinutes_30
  refine g_iload_n (q := 1) hC dX12_stepMinutes_30 rfl rfl ?_
  refine g_bipush (v := vI 8) hC dX12_stepMinutes_31 rfl ?_
  refine g_icmp_ne (tgt := 40) hC dX12_stepMinutes_33 (by decide) ?_ ?_
  · refine g_aload_n (q := 0) hC dX12_stepMinutes_40 rfl rfl rfl ?_
    refine g_getS (k := 0) hC cf_X12 (at_120 hL) (by decide) rfl (by decide) (by decide) wf_RX12_7 dX12_stepMinutes_41 ?_
    refine g_bipush (v := vI 9) hC dX12_stepMinutes_44 rfl ?_
    refine g_iald hC (at_121 hL) (by decide) dX12_stepMinutes_46 ?_
    refine g_iload_n (q := 2) hC dX12_stepMinutes_47 rfl rfl ?_
    refine g_bipush (v := vI 8) hC dX12_stepMinutes_48 rfl ?_
    refine g_iload_n (q := 2) hC dX12_stepMinutes_50 rfl rfl ?_
    refine g_isub hC dX12_stepMinutes_51 ?_
    refine g_mmin hC wml_RX12_147 (Nat.le_of_ble_eq_true rfl) (Nat.le_of_ble_eq_true rfl) ⟨Nat.zero_le _, Nat.zero_le _⟩ dX12_stepMinutes_52 ?_
    refine g_imul hC dX12_stepMinutes_55 ?_
    refine g_sub [] rfl ?_
    exact gB_X12_stepMinutes_56 hC hR hL  ((X 121 9) * (min x3 (8 - x3))) s0 X
  · refine g_iconst (v := vI 0) hC dX12_stepMinutes_36 rfl ?_
    refine g_goto (tgt := 56) hC dX12_stepMinutes_37 (by decide) ?_
    refine g_sub [] rfl ?_
    exact gB_X12_stepMinutes_56 hC hR hL  0 s0 X
set_option maxRecDepth 20000 in
theorem k_X12_stepMinutes (l : Launch) (V : Ev) {L : List Kd} (hL : LKm L) (p1 : Int) (p2 : Int) (X : Mem)  : Kt l V L yX12_stepMinutes (.code yX12_stepMinutes cX12_stepMinutes 4 (some .int)) 1 21 [vR V.1 120, vI p1, vI p2] rI X (f_X12_stepMinutes p1 p2 X) := by
  refine kt_of (own := RX12) (lv0 := [(0, vR V.1 120), (1, vI p1), (2, vI p2)]) (by decide) rfl (Nat.le_of_ble_eq_true rfl) rfl (fun C hCl hC hR => ?_)
  subst hCl
  unfold f_X12_stepMinutes
  refine g_iload_n (q := 1) hC dX12_stepMinutes_0 rfl rfl ?_
  refine g_iload_n (q := 2) hC dX12_stepMinutes_1 rfl rfl ?_
  refine g_isub hC dX12_stepMinutes_2 ?_
  refine g_mabs hC wml_RX12_336 (Nat.le_of_ble_eq_true rfl) (Nat.le_of_ble_eq_true rfl) ⟨Nat.zero_le _, Nat.zero_le _⟩ dX12_stepMinutes_3 ?_
  refine g_topI (fun v1 => ?_)
  refine g_istore_n hC dX12_stepMinutes_6 rfl (by decide) rfl ?_
  refine g_iload_n (q := 3) hC dX12_stepMinutes_7 rfl rfl ?_
  refine g_iconst (v := vI 2) hC dX12_stepMinutes_8 rfl ?_
  refine g_irem hC dX12_stepMinutes_9 ?_
  refine g_if_ne (tgt := 23) hC dX12_stepMinutes_10 (by decide) ?_ ?_
  · refine g_aload_n (q := 1) hC dX12_stepMinutes_23 rfl rfl rfl ?_
    refine g_getS (k := 0) hC cf_X12 (at_120 hL) (by decide) rfl (by decide) (by decide) wf_RX12_7 dX12_stepMinutes_24 ?_
    refine g_bipush (v := vI 8) hC dX12_stepMinutes_27 rfl ?_
    refine g_iald hC (at_121 hL) (by decide) dX12_stepMinutes_29 ?_
    refine g_sub [1, 2, 0] rfl ?_
    exact gB_X12_stepMinutes_30 hC hR hL  p1 v1 (X 121 8) X
  · refine g_aload_n (q := 1) hC dX12_stepMinutes_13 rfl rfl rfl ?_
    refine g_getS (k := 0) hC cf_X12 (at_120 hL) (by decide) rfl (by decide) (by decide) wf_RX12_7 dX12_stepMinutes_14 ?_
    refine g_bipush (v := vI 7) hC dX12_stepMinutes_17 rfl ?_
    refine g_iald hC (at_121 hL) (by decide) dX12_stepMinutes_19 ?_
    refine g_goto (tgt := 30) hC dX12_stepMinutes_20 (by decide) ?_
    refine g_sub [1, 2, 0] rfl ?_
    exact gB_X12_stepMinutes_30 hC hR hL  p1 v1 (X 121 7) X
def B_X12_minutes_92 (x5 : Int) (X : Mem) : Option (Int × Mem) :=
  cl (f_X12_gives x5 X) fun r4 X5 =>
  some (r4, X5)
def L_X12_minutes_33 : Nat → Int → Int → Int → Int → Int → Mem → Option (Int × Mem)
  | 0, _, _, _, _, _, _ => none
  | n + 1, x2, x4, x5, x6, x7, X =>
    c2 x7 x2 <| if x2 ≤ x7 then
      B_X12_minutes_92   x5 X
    else
      ax 240 ((x4 + x7) - 1) <|
      ax 240 (x4 + x7) <|
      cl (f_X12_headingTo (X 125 ((x4 + x7) - 1)) (X 125 (x4 + x7)) X) fun r6 X7 =>
      cl (f_X12_stepMinutes x6 r6 X7) fun r8 X9 =>
      bd (x5 + r8) fun v10 =>
      L_X12_minutes_33   n x2 x4 v10 r6 (x7 + 1) X9
def f_X12_minutes (p1 : Int) (p2 : Int) (X : Mem) : Option (Int × Mem) :=
  cl (f_X12_wrongWay p1 p2 X) fun r1 X2 =>
  c1 r1 <| if r1 ≤ 0 then
    bd (60 * p1) fun v3 =>
    L_X12_minutes_33   KF p2 v3 0 8 1 X2
  else
    cl (f_X12_refuse r1 X2) fun r11 X12 =>
    some (r11, X12)
set_option maxRecDepth 20000 in
theorem gB_X12_minutes_92 {C : Cx} {V : Ev} {L : List Kd} (hC : Ok C V cX12_minutes RX12 9 3 71) (hR : Rt C V L (some .int) rI) (hL : LKm L) (x5 : Int) (X : Mem)  : G C V L 0 0 9 92 [(0, vR V.1 120), (5, vI x5)] [] X (B_X12_minutes_92   x5 X) := by
  unfold B_X12_minutes_92
  refine g_aload_n (q := 0) hC dX12_minutes_92 rfl rfl rfl ?_
  refine g_iload (q := 1) hC dX12_minutes_93 rfl ?_
  refine g_callVI (As := [vI x5]) hC mv_X12_gives wml_RX12_188 (k_X12_gives _ V hL x5 X) cf_X12 (at_120 hL) (by decide) ⟨Nat.zero_le _, Nat.zero_le _⟩ rfl rfl ⟨Nat.le_of_ble_eq_true rfl, Nat.le_of_ble_eq_true rfl⟩ (Nat.le_of_ble_eq_true rfl) dX12_minutes_95 (fun r4 X5 => ?_)
  exact g_iret hC hR dX12_minutes_98
set_option maxRecDepth 20000 in
theorem gL_X12_minutes_33 {C : Cx} {V : Ev} {L : List Kd} (hC : Ok C V cX12_minutes RX12 9 3 71) (hR : Rt C V L (some .int) rI) (hL : LKm L) : ∀ (n : Nat) (x2 : Int) (x4 : Int) (x5 : Int) (x6 : Int) (x7 : Int) (X : Mem), G C V L 0 0 9 33 [(0, vR V.1 120), (2, vI x2), (4, vI x4), (5, vI x5), (6, vI x6), (7, vI x7)] [] X (L_X12_minutes_33   n x2 x4 x5 x6 x7 X) := by
  intro n
  induction n with
  | zero => intro x2 x4 x5 x6 x7 X; exact g_none
  | succ n ih =>
    intro x2 x4 x5 x6 x7 X
    rw [L_X12_minutes_33]
    refine g_iload (q := 5) hC dX12_minutes_33 rfl ?_
    refine g_iload_n (q := 1) hC dX12_minutes_35 rfl rfl ?_
    refine g_icmp_ge (tgt := 92) hC dX12_minutes_36 (by decide) ?_ ?_
    · refine g_sub [0, 3] rfl ?_
      exact gB_X12_minutes_92 hC hR hL  x5 X
    · refine g_aload_n (q := 0) hC dX12_minutes_39 rfl rfl rfl ?_
      refine g_aload_n (q := 0) hC dX12_minutes_40 rfl rfl rfl ?_
      refine g_getS (k := 7) hC cf_X12 (at_120 hL) (by decide) rfl (by decide) (by decide) wf_RX12_27 dX12_minutes_41 ?_
      refine g_iload (q := 2) hC dX12_minutes_44 rfl ?_
      refine g_iload (q := 5) hC dX12_minutes_46 rfl ?_
      refine g_iadd hC dX12_minutes_48 ?_
      refine g_iconst (v := vI 1) hC dX12_minutes_49 rfl ?_
      refine g_isub hC dX12_minutes_50 ?_
      refine g_lald hC (at_125 hL) (by decide) dX12_minutes_51 ?_
      refine g_l2i hC dX12_minutes_52 ?_
      refine g_aload_n (q := 0) hC dX12_minutes_53 rfl rfl rfl ?_
      refine g_getS (k := 7) hC cf_X12 (at_120 hL) (by decide) rfl (by decide) (by decide) wf_RX12_27 dX12_minutes_54 ?_
      refine g_iload (q := 2) hC dX12_minutes_57 rfl ?_
      refine g_iload (q := 5) hC dX12_minutes_59 rfl ?_
      refine g_iadd hC dX12_minutes_61 ?_
      refine g_lald hC (at_125 hL) (by decide) dX12_minutes_62 ?_
      refine g_l2i hC dX12_minutes_63 ?_
      refine g_callVI (As := [vI (X 125 ((x4 + x7) - 1)), vI (X 125 (x4 + x7))]) hC mv_X12_headingTo wml_RX12_339 (k_X12_headingTo _ V hL (X 125 ((x4 + x7) - 1)) (X 125 (x4 + x7)) X) cf_X12 (at_120 hL) (by decide) ⟨Nat.zero_le _, Nat.zero_le _⟩ rfl rfl ⟨Nat.le_of_ble_eq_true rfl, Nat.le_of_ble_eq_true rfl⟩ (Nat.le_of_ble_eq_true rfl) dX12_minutes_64 (fun r6 X7 => ?_)
      refine g_istore hC dX12_minutes_67 (by decide) rfl ?_
      refine g_iload (q := 4) hC dX12_minutes_69 rfl ?_
      refine g_aload_n (q := 1) hC dX12_minutes_71 rfl rfl rfl ?_
      refine g_iload (q := 5) hC dX12_minutes_72 rfl ?_
      refine g_iload (q := 0) hC dX12_minutes_74 rfl ?_
      refine g_callVI (As := [vI x6, vI r6]) hC mv_X12_stepMinutes wml_RX12_345 (k_X12_stepMinutes _ V hL x6 r6 X7) cf_X12 (at_120 hL) (by decide) ⟨Nat.zero_le _, Nat.zero_le _⟩ rfl rfl ⟨Nat.le_of_ble_eq_true rfl, Nat.le_of_ble_eq_true rfl⟩ (Nat.le_of_ble_eq_true rfl) dX12_minutes_76 (fun r8 X9 => ?_)
      refine g_iadd hC dX12_minutes_79 ?_
      refine g_topI (fun v10 => ?_)
      refine g_istore hC dX12_minutes_80 (by decide) rfl ?_
      refine g_iload (q := 1) hC dX12_minutes_82 rfl ?_
      refine g_istore hC dX12_minutes_84 (by decide) rfl ?_
      refine g_iinc (q := 6) hC dX12_minutes_86 rfl (by decide) rfl ?_
      refine g_goto (tgt := 33) hC dX12_minutes_89 (by decide) ?_
      refine g_sub [4, 5, 6, 2, 1, 0] rfl ?_
      exact ih x2 x4 v10 r6 (x7 + 1) X9
set_option maxRecDepth 20000 in
theorem k_X12_minutes (l : Launch) (V : Ev) {L : List Kd} (hL : LKm L) (p1 : Int) (p2 : Int) (X : Mem)  : Kt l V L yX12_minutes (.code yX12_minutes cX12_minutes 9 (some .int)) 3 71 [vR V.1 120, vI p1, vI p2] rI X (f_X12_minutes p1 p2 X) := by
  refine kt_of (own := RX12) (lv0 := [(0, vR V.1 120), (1, vI p1), (2, vI p2)]) (by decide) rfl (Nat.le_of_ble_eq_true rfl) rfl (fun C hCl hC hR => ?_)
  subst hCl
  unfold f_X12_minutes
  refine g_aload_n (q := 0) hC dX12_minutes_0 rfl rfl rfl ?_
  refine g_iload_n (q := 1) hC dX12_minutes_1 rfl rfl ?_
  refine g_iload_n (q := 2) hC dX12_minutes_2 rfl rfl ?_
  refine g_callVI (As := [vI p1, vI p2]) hC mv_X12_wrongWay wml_RX12_342 (k_X12_wrongWay _ V hL p1 p2 X) cf_X12 (at_120 hL) (by decide) ⟨Nat.zero_le _, Nat.zero_le _⟩ rfl rfl ⟨Nat.le_of_ble_eq_true rfl, Nat.le_of_ble_eq_true rfl⟩ (Nat.le_of_ble_eq_true rfl) dX12_minutes_3 (fun r1 X2 => ?_)
  refine g_istore_n hC dX12_minutes_6 rfl (by decide) rfl ?_
  refine g_iload_n (q := 0) hC dX12_minutes_7 rfl rfl ?_
  refine g_if_le (tgt := 17) hC dX12_minutes_8 (by decide) ?_ ?_
  · refine g_bipush (v := vI 60) hC dX12_minutes_17 rfl ?_
    refine g_iload_n (q := 2) hC dX12_minutes_19 rfl rfl ?_
    refine g_imul hC dX12_minutes_20 ?_
    refine g_topI (fun v3 => ?_)
    refine g_istore hC dX12_minutes_21 (by decide) rfl ?_
    refine g_iconst (v := vI 0) hC dX12_minutes_23 rfl ?_
    refine g_istore hC dX12_minutes_24 (by decide) rfl ?_
    refine g_bipush (v := vI 8) hC dX12_minutes_26 rfl ?_
    refine g_istore hC dX12_minutes_28 (by decide) rfl ?_
    refine g_iconst (v := vI 1) hC dX12_minutes_30 rfl ?_
    refine g_istore hC dX12_minutes_31 (by decide) rfl ?_
    refine g_sub [5, 7, 3, 2, 1, 0] rfl ?_
    exact gL_X12_minutes_33 hC hR hL  KF p2 v3 0 8 1 X2
  · refine g_aload_n (q := 1) hC dX12_minutes_11 rfl rfl rfl ?_
    refine g_iload_n (q := 0) hC dX12_minutes_12 rfl rfl ?_
    refine g_callVI (As := [vI r1]) hC mv_X12_refuse wml_RX12_185 (k_X12_refuse _ V hL r1 X2) cf_X12 (at_120 hL) (by decide) ⟨Nat.zero_le _, Nat.zero_le _⟩ rfl rfl ⟨Nat.le_of_ble_eq_true rfl, Nat.le_of_ble_eq_true rfl⟩ (Nat.le_of_ble_eq_true rfl) dX12_minutes_13 (fun r11 X12 => ?_)
    exact g_iret hC hR dX12_minutes_16
def L_X12_struckAt_3 : Nat → Int → Int → Int → Int → Mem → Option (Int × Mem)
  | 0, _, _, _, _, _ => none
  | n + 1, x1, x2, x3, x4, X =>
    c2 x4 x2 <| if x2 ≤ x4 then
      some ((-1), X)
    else
      ax 240 ((60 * x1) + x4) <|
      cl (f_X12_passes (X 125 ((60 * x1) + x4)) x3 X) fun r1 X2 =>
      c1 r1 <| if ¬ r1 = 0 then
        L_X12_struckAt_3   n x1 x2 x3 (x4 + 1) X2
      else
        some (x4, X2)
def f_X12_struckAt (p1 : Int) (p2 : Int) (p3 : Int) (X : Mem) : Option (Int × Mem) :=
  L_X12_struckAt_3   KF p1 p2 p3 0 X
set_option maxRecDepth 20000 in
theorem gL_X12_struckAt_3 {C : Cx} {V : Ev} {L : List Kd} (hC : Ok C V cX12_struckAt RX12 5 3 67) (hR : Rt C V L (some .int) rI) (hL : LKm L) : ∀ (n : Nat) (x1 : Int) (x2 : Int) (x3 : Int) (x4 : Int) (X : Mem), G C V L 0 0 5 3 [(0, vR V.1 120), (1, vI x1), (2, vI x2), (3, vI x3), (4, vI x4)] [] X (L_X12_struckAt_3   n x1 x2 x3 x4 X) := by
  intro n
  induction n with
  | zero => intro x1 x2 x3 x4 X; exact g_none
  | succ n ih =>
    intro x1 x2 x3 x4 X
    rw [L_X12_struckAt_3]
    refine g_iload (q := 4) hC dX12_struckAt_3 rfl ?_
    refine g_iload_n (q := 2) hC dX12_struckAt_5 rfl rfl ?_
    refine g_icmp_ge (tgt := 39) hC dX12_struckAt_6 (by decide) ?_ ?_
    · refine g_iconst (v := vI (-1)) hC dX12_struckAt_39 rfl ?_
      exact g_iret hC hR dX12_struckAt_40
    · refine g_aload_n (q := 0) hC dX12_struckAt_9 rfl rfl rfl ?_
      refine g_aload_n (q := 0) hC dX12_struckAt_10 rfl rfl rfl ?_
      refine g_getS (k := 7) hC cf_X12 (at_120 hL) (by decide) rfl (by decide) (by decide) wf_RX12_27 dX12_struckAt_11 ?_
      refine g_bipush (v := vI 60) hC dX12_struckAt_14 rfl ?_
      refine g_iload_n (q := 1) hC dX12_struckAt_16 rfl rfl ?_
      refine g_imul hC dX12_struckAt_17 ?_
      refine g_iload (q := 4) hC dX12_struckAt_18 rfl ?_
      refine g_iadd hC dX12_struckAt_20 ?_
      refine g_lald hC (at_125 hL) (by decide) dX12_struckAt_21 ?_
      refine g_l2i hC dX12_struckAt_22 ?_
      refine g_iload_n (q := 3) hC dX12_struckAt_23 rfl rfl ?_
      refine g_callVI (As := [vI (X 125 ((60 * x1) + x4)), vI x3]) hC mv_X12_passes wml_RX12_294 (k_X12_passes _ V hL (X 125 ((60 * x1) + x4)) x3 X) cf_X12 (at_120 hL) (by decide) ⟨Nat.zero_le _, Nat.zero_le _⟩ rfl rfl ⟨Nat.le_of_ble_eq_true rfl, Nat.le_of_ble_eq_true rfl⟩ (Nat.le_of_ble_eq_true rfl) dX12_struckAt_24 (fun r1 X2 => ?_)
      refine g_if_ne (tgt := 33) hC dX12_struckAt_27 (by decide) ?_ ?_
      · refine g_iinc (q := 4) hC dX12_struckAt_33 rfl (by decide) rfl ?_
        refine g_goto (tgt := 3) hC dX12_struckAt_36 (by decide) ?_
        refine g_sub [1, 2, 3, 4, 0] rfl ?_
        exact ih x1 x2 x3 (x4 + 1) X2
      · refine g_iload (q := 4) hC dX12_struckAt_30 rfl ?_
        exact g_iret hC hR dX12_struckAt_32
set_option maxRecDepth 20000 in
theorem k_X12_struckAt (l : Launch) (V : Ev) {L : List Kd} (hL : LKm L) (p1 : Int) (p2 : Int) (p3 : Int) (X : Mem)  : Kt l V L yX12_struckAt (.code yX12_struckAt cX12_struckAt 5 (some .int)) 3 67 [vR V.1 120, vI p1, vI p2, vI p3] rI X (f_X12_struckAt p1 p2 p3 X) := by
  refine kt_of (own := RX12) (lv0 := [(0, vR V.1 120), (1, vI p1), (2, vI p2), (3, vI p3)]) (by decide) rfl (Nat.le_of_ble_eq_true rfl) rfl (fun C hCl hC hR => ?_)
  subst hCl
  unfold f_X12_struckAt
  refine g_iconst (v := vI 0) hC dX12_struckAt_0 rfl ?_
  refine g_istore hC dX12_struckAt_1 (by decide) rfl ?_
  refine g_sub [1, 2, 3, 4, 0] rfl ?_
  exact gL_X12_struckAt_3 hC hR hL  KF p1 p2 p3 0 X
def f_X12_struck (p1 : Int) (p2 : Int) (p3 : Int) (X : Mem) : Option (Int × Mem) :=
  cl (f_X12_isSet p3 X) fun r1 X2 =>
  c1 r1 <| if ¬ r1 = 0 then
    cl (f_X12_wrongWay p1 p2 X2) fun r3 X4 =>
    c1 r3 <| if r3 ≤ 0 then
      cl (f_X12_struckAt p1 p2 p3 X4) fun r5 X6 =>
      c2 r5 ((-1)) <| if ¬ r5 = ((-1)) then
        cl (f_X12_gives r5 X6) fun r7 X8 =>
        some (r7, X8)
      else
        cl (f_X12_refuse 6 X6) fun r9 X10 =>
        some (r9, X10)
    else
      cl (f_X12_refuse r3 X4) fun r11 X12 =>
      some (r11, X12)
  else
    cl (f_X12_refuse 1 X2) fun r13 X14 =>
    some (r13, X14)
set_option maxRecDepth 20000 in
theorem k_X12_struck (l : Launch) (V : Ev) {L : List Kd} (hL : LKm L) (p1 : Int) (p2 : Int) (p3 : Int) (X : Mem)  : Kt l V L yX12_struck (.code yX12_struck cX12_struck 6 (some .int)) 4 91 [vR V.1 120, vI p1, vI p2, vI p3] rI X (f_X12_struck p1 p2 p3 X) := by
  refine kt_of (own := RX12) (lv0 := [(0, vR V.1 120), (1, vI p1), (2, vI p2), (3, vI p3)]) (by decide) rfl (Nat.le_of_ble_eq_true rfl) rfl (fun C hCl hC hR => ?_)
  subst hCl
  unfold f_X12_struck
  refine g_aload_n (q := 0) hC dX12_struck_0 rfl rfl rfl ?_
  refine g_iload_n (q := 3) hC dX12_struck_1 rfl rfl ?_
  refine g_callVI (As := [vI p3]) hC mv_X12_isSet wml_RX12_288 (k_X12_isSet _ V hL p3 X) cf_X12 (at_120 hL) (by decide) ⟨Nat.zero_le _, Nat.zero_le _⟩ rfl rfl ⟨Nat.le_of_ble_eq_true rfl, Nat.le_of_ble_eq_true rfl⟩ (Nat.le_of_ble_eq_true rfl) dX12_struck_2 (fun r1 X2 => ?_)
  refine g_if_ne (tgt := 14) hC dX12_struck_5 (by decide) ?_ ?_
  · refine g_aload_n (q := 0) hC dX12_struck_14 rfl rfl rfl ?_
    refine g_iload_n (q := 1) hC dX12_struck_15 rfl rfl ?_
    refine g_iload_n (q := 2) hC dX12_struck_16 rfl rfl ?_
    refine g_callVI (As := [vI p1, vI p2]) hC mv_X12_wrongWay wml_RX12_342 (k_X12_wrongWay _ V hL p1 p2 X2) cf_X12 (at_120 hL) (by decide) ⟨Nat.zero_le _, Nat.zero_le _⟩ rfl rfl ⟨Nat.le_of_ble_eq_true rfl, Nat.le_of_ble_eq_true rfl⟩ (Nat.le_of_ble_eq_true rfl) dX12_struck_17 (fun r3 X4 => ?_)
    refine g_istore hC dX12_struck_20 (by decide) rfl ?_
    refine g_iload (q := 0) hC dX12_struck_22 rfl ?_
    refine g_if_le (tgt := 34) hC dX12_struck_24 (by decide) ?_ ?_
    · refine g_aload_n (q := 1) hC dX12_struck_34 rfl rfl rfl ?_
      refine g_iload_n (q := 2) hC dX12_struck_35 rfl rfl ?_
      refine g_iload_n (q := 3) hC dX12_struck_36 rfl rfl ?_
      refine g_iload_n (q := 4) hC dX12_struck_37 rfl rfl ?_
      refine g_callVI (As := [vI p1, vI p2, vI p3]) hC mv_X12_struckAt wml_RX12_348 (k_X12_struckAt _ V hL p1 p2 p3 X4) cf_X12 (at_120 hL) (by decide) ⟨Nat.zero_le _, Nat.zero_le _⟩ rfl rfl ⟨Nat.le_of_ble_eq_true rfl, Nat.le_of_ble_eq_true rfl⟩ (Nat.le_of_ble_eq_true rfl) dX12_struck_38 (fun r5 X6 => ?_)
      refine g_istore hC dX12_struck_41 (by decide) rfl ?_
      refine g_iload (q := 0) hC dX12_struck_43 rfl ?_
      refine g_iconst (v := vI (-1)) hC dX12_struck_45 rfl ?_
      refine g_icmp_ne (tgt := 58) hC dX12_struck_46 (by decide) ?_ ?_
      · refine g_aload_n (q := 2) hC dX12_struck_58 rfl rfl rfl ?_
        refine g_iload (q := 0) hC dX12_struck_59 rfl ?_
        refine g_callVI (As := [vI r5]) hC mv_X12_gives wml_RX12_188 (k_X12_gives _ V hL r5 X6) cf_X12 (at_120 hL) (by decide) ⟨Nat.zero_le _, Nat.zero_le _⟩ rfl rfl ⟨Nat.le_of_ble_eq_true rfl, Nat.le_of_ble_eq_true rfl⟩ (Nat.le_of_ble_eq_true rfl) dX12_struck_61 (fun r7 X8 => ?_)
        exact g_iret hC hR dX12_struck_64
      · refine g_aload_n (q := 2) hC dX12_struck_49 rfl rfl rfl ?_
        refine g_bipush (v := vI 6) hC dX12_struck_50 rfl ?_
        refine g_callVI (As := [vI 6]) hC mv_X12_refuse wml_RX12_185 (k_X12_refuse _ V hL 6 X6) cf_X12 (at_120 hL) (by decide) ⟨Nat.zero_le _, Nat.zero_le _⟩ rfl rfl ⟨Nat.le_of_ble_eq_true rfl, Nat.le_of_ble_eq_true rfl⟩ (Nat.le_of_ble_eq_true rfl) dX12_struck_52 (fun r9 X10 => ?_)
        refine g_goto (tgt := 64) hC dX12_struck_55 (by decide) ?_
        exact g_iret hC hR dX12_struck_64
    · refine g_aload_n (q := 1) hC dX12_struck_27 rfl rfl rfl ?_
      refine g_iload (q := 0) hC dX12_struck_28 rfl ?_
      refine g_callVI (As := [vI r3]) hC mv_X12_refuse wml_RX12_185 (k_X12_refuse _ V hL r3 X4) cf_X12 (at_120 hL) (by decide) ⟨Nat.zero_le _, Nat.zero_le _⟩ rfl rfl ⟨Nat.le_of_ble_eq_true rfl, Nat.le_of_ble_eq_true rfl⟩ (Nat.le_of_ble_eq_true rfl) dX12_struck_30 (fun r11 X12 => ?_)
      exact g_iret hC hR dX12_struck_33
  · refine g_aload_n (q := 0) hC dX12_struck_8 rfl rfl rfl ?_
    refine g_iconst (v := vI 1) hC dX12_struck_9 rfl ?_
    refine g_callVI (As := [vI 1]) hC mv_X12_refuse wml_RX12_185 (k_X12_refuse _ V hL 1 X2) cf_X12 (at_120 hL) (by decide) ⟨Nat.zero_le _, Nat.zero_le _⟩ rfl rfl ⟨Nat.le_of_ble_eq_true rfl, Nat.le_of_ble_eq_true rfl⟩ (Nat.le_of_ble_eq_true rfl) dX12_struck_10 (fun r13 X14 => ?_)
    exact g_iret hC hR dX12_struck_13
def B_X12_sure_71 (x4 : Int) (X : Mem) : Option (Int × Mem) :=
  cl (f_X12_tellsBy x4 1000000 X) fun r5 X6 =>
  cz r5 (some (r5, X6))
def B_X12_sure_62 (go23 : Int → Int → Int → Int → Mem → Option (Int × Mem)) (x1 : Int) (x2 : Int) (x6 : Int) (s0 : Int) (s1 : Int) (X : Mem) : Option (Int × Mem) :=
  bd (s1 + s0) fun v9 =>
  go23 x1 x2 v9 (x6 + 1) X
def L_X12_sure_23 : Nat → Int → Int → Int → Int → Mem → Option (Int × Mem)
  | 0, _, _, _, _, _ => none
  | n + 1, x1, x2, x4, x6, X =>
    cl (f_X12_sets X) fun r3 X4 =>
    c2 x6 r3 <| if r3 ≤ x6 then
      B_X12_sure_71   x4 X4
    else
      cl (f_X12_struckAt x1 x2 x6 X4) fun r7 X8 =>
      c2 r7 ((-1)) <| if ¬ r7 = ((-1)) then
        B_X12_sure_62  (fun x1 x2 x4 x6 X => L_X12_sure_23   n x1 x2 x4 x6 X) x1 x2 x6 0 x4 X8
      else
        ax 2200 (168 + x6) <|
        c1 (X8 121 (168 + x6)) <|
        B_X12_sure_62  (fun x1 x2 x4 x6 X => L_X12_sure_23   n x1 x2 x4 x6 X) x1 x2 x6 (X8 121 (168 + x6)) x4 X8
def f_X12_sure (p1 : Int) (p2 : Int) (X : Mem) : Option (Int × Mem) :=
  cl (f_X12_wrongWay p1 p2 X) fun r1 X2 =>
  c1 r1 <| if r1 ≤ 0 then
    L_X12_sure_23   KF p1 p2 0 0 X2
  else
    cl (f_X12_is r1 X2) fun r10 X11 =>
    cz r10 (some (r10, X11))
set_option maxRecDepth 20000 in
theorem gB_X12_sure_71 {C : Cx} {V : Ev} {L : List Kd} (hC : Ok C V cX12_sure RX12 7 4 91) (hR : Rt C V L (some .boolean) rI) (hL : LKm L) (x4 : Int) (X : Mem)  : G C V L 0 0 7 71 [(0, vR V.1 120), (4, vJ x4)] [] X (B_X12_sure_71   x4 X) := by
  unfold B_X12_sure_71
  refine g_aload_n (q := 0) hC dX12_sure_71 rfl rfl rfl ?_
  refine g_lload (q := 1) hC dX12_sure_72 rfl ?_
  refine g_ldc2 (n := 1000000) hC wk_RX12_300 rfl dX12_sure_74 ?_
  refine g_callVI (As := [vJ x4, vJ 1000000]) hC mv_X12_tellsBy wml_RX12_312 (k_X12_tellsBy _ V hL x4 1000000 X) cf_X12 (at_120 hL) (by decide) ⟨Nat.zero_le _, Nat.zero_le _⟩ rfl rfl ⟨Nat.le_of_ble_eq_true rfl, Nat.le_of_ble_eq_true rfl⟩ (Nat.le_of_ble_eq_true rfl) dX12_sure_77 (fun r5 X6 => ?_)
  exact g_zret hC hR dX12_sure_80
set_option maxRecDepth 20000 in
theorem gB_X12_sure_62 {C : Cx} {V : Ev} {L : List Kd} (hC : Ok C V cX12_sure RX12 7 4 91) (hR : Rt C V L (some .boolean) rI) (hL : LKm L) {go23 : Int → Int → Int → Int → Mem → Option (Int × Mem)} (hgo23 : ∀ (x1 : Int) (x2 : Int) (x4 : Int) (x6 : Int) (X : Mem), G C V L 0 0 7 23 [(0, vR V.1 120), (1, vI x1), (2, vI x2), (4, vJ x4), (6, vI x6)] [] X (go23 x1 x2 x4 x6 X)) (x1 : Int) (x2 : Int) (x6 : Int) (s0 : Int) (s1 : Int) (X : Mem)  : G C V L 0 0 7 62 [(0, vR V.1 120), (1, vI x1), (2, vI x2), (6, vI x6)] [vJ s0, vJ s1] X (B_X12_sure_62  go23 x1 x2 x6 s0 s1 X) := by
  unfold B_X12_sure_62
  refine g_ladd hC dX12_sure_62 ?_
  refine g_topJ (fun v9 => ?_)
  refine g_lstore hC dX12_sure_63 (by decide) rfl ?_
  refine g_iinc (q := 4) hC dX12_sure_65 rfl (by decide) rfl ?_
  refine g_goto (tgt := 23) hC dX12_sure_68 (by decide) ?_
  refine g_sub [2, 3, 4, 1, 0] rfl ?_
  exact hgo23 x1 x2 v9 (x6 + 1) X
set_option maxRecDepth 20000 in
theorem gL_X12_sure_23 {C : Cx} {V : Ev} {L : List Kd} (hC : Ok C V cX12_sure RX12 7 4 91) (hR : Rt C V L (some .boolean) rI) (hL : LKm L) : ∀ (n : Nat) (x1 : Int) (x2 : Int) (x4 : Int) (x6 : Int) (X : Mem), G C V L 0 0 7 23 [(0, vR V.1 120), (1, vI x1), (2, vI x2), (4, vJ x4), (6, vI x6)] [] X (L_X12_sure_23   n x1 x2 x4 x6 X) := by
  intro n
  induction n with
  | zero => intro x1 x2 x4 x6 X; exact g_none
  | succ n ih =>
    intro x1 x2 x4 x6 X
    rw [L_X12_sure_23]
    refine g_iload (q := 4) hC dX12_sure_23 rfl ?_
    refine g_aload_n (q := 0) hC dX12_sure_25 rfl rfl rfl ?_
    refine g_callVI (As := []) hC mv_X12_sets wml_RX12_263 (k_X12_sets _ V hL X) cf_X12 (at_120 hL) (by decide) ⟨Nat.zero_le _, Nat.zero_le _⟩ rfl rfl ⟨Nat.le_of_ble_eq_true rfl, Nat.le_of_ble_eq_true rfl⟩ (Nat.le_of_ble_eq_true rfl) dX12_sure_26 (fun r3 X4 => ?_)
    refine g_icmp_ge (tgt := 71) hC dX12_sure_29 (by decide) ?_ ?_
    · refine g_sub [0, 3] rfl ?_
      exact gB_X12_sure_71 hC hR hL  x4 X4
    · refine g_lload (q := 3) hC dX12_sure_32 rfl ?_
      refine g_aload_n (q := 0) hC dX12_sure_34 rfl rfl rfl ?_
      refine g_iload_n (q := 1) hC dX12_sure_35 rfl rfl ?_
      refine g_iload_n (q := 2) hC dX12_sure_36 rfl rfl ?_
      refine g_iload (q := 4) hC dX12_sure_37 rfl ?_
      refine g_callVI (As := [vI x1, vI x2, vI x6]) hC mv_X12_struckAt wml_RX12_348 (k_X12_struckAt _ V hL x1 x2 x6 X4) cf_X12 (at_120 hL) (by decide) ⟨Nat.zero_le _, Nat.zero_le _⟩ rfl rfl ⟨Nat.le_of_ble_eq_true rfl, Nat.le_of_ble_eq_true rfl⟩ (Nat.le_of_ble_eq_true rfl) dX12_sure_39 (fun r7 X8 => ?_)
      refine g_iconst (v := vI (-1)) hC dX12_sure_42 rfl ?_
      refine g_icmp_ne (tgt := 61) hC dX12_sure_43 (by decide) ?_ ?_
      · refine g_lconst (v := vJ 0) hC dX12_sure_61 rfl ?_
        refine g_sub [0, 1, 2, 4] rfl ?_
        exact gB_X12_sure_62 hC hR hL ih x1 x2 x6 0 x4 X8
      · refine g_aload_n (q := 0) hC dX12_sure_46 rfl rfl rfl ?_
        refine g_getS (k := 0) hC cf_X12 (at_120 hL) (by decide) rfl (by decide) (by decide) wf_RX12_7 dX12_sure_47 ?_
        refine g_sipush (v := vI 168) hC dX12_sure_50 rfl ?_
        refine g_iload (q := 4) hC dX12_sure_53 rfl ?_
        refine g_iadd hC dX12_sure_55 ?_
        refine g_iald hC (at_121 hL) (by decide) dX12_sure_56 ?_
        refine g_i2l hC dX12_sure_57 ?_
        refine g_goto (tgt := 62) hC dX12_sure_58 (by decide) ?_
        refine g_sub [0, 1, 2, 4] rfl ?_
        exact gB_X12_sure_62 hC hR hL ih x1 x2 x6 (X8 121 (168 + x6)) x4 X8
set_option maxRecDepth 20000 in
theorem k_X12_sure (l : Launch) (V : Ev) {L : List Kd} (hL : LKm L) (p1 : Int) (p2 : Int) (X : Mem)  : Kt l V L yX12_sure (.code yX12_sure cX12_sure 7 (some .boolean)) 4 91 [vR V.1 120, vI p1, vI p2] rI X (f_X12_sure p1 p2 X) := by
  refine kt_of (own := RX12) (lv0 := [(0, vR V.1 120), (1, vI p1), (2, vI p2)]) (by decide) rfl (Nat.le_of_ble_eq_true rfl) rfl (fun C hCl hC hR => ?_)
  subst hCl
  unfold f_X12_sure
  refine g_aload_n (q := 0) hC dX12_sure_0 rfl rfl rfl ?_
  refine g_iload_n (q := 1) hC dX12_sure_1 rfl rfl ?_
  refine g_iload_n (q := 2) hC dX12_sure_2 rfl rfl ?_
  refine g_callVI (As := [vI p1, vI p2]) hC mv_X12_wrongWay wml_RX12_342 (k_X12_wrongWay _ V hL p1 p2 X) cf_X12 (at_120 hL) (by decide) ⟨Nat.zero_le _, Nat.zero_le _⟩ rfl rfl ⟨Nat.le_of_ble_eq_true rfl, Nat.le_of_ble_eq_true rfl⟩ (Nat.le_of_ble_eq_true rfl) dX12_sure_3 (fun r1 X2 => ?_)
  refine g_istore_n hC dX12_sure_6 rfl (by decide) rfl ?_
  refine g_iload_n (q := 0) hC dX12_sure_7 rfl rfl ?_
  refine g_if_le (tgt := 17) hC dX12_sure_8 (by decide) ?_ ?_
  · refine g_lconst (v := vJ 0) hC dX12_sure_17 rfl ?_
    refine g_lstore hC dX12_sure_18 (by decide) rfl ?_
    refine g_iconst (v := vI 0) hC dX12_sure_20 rfl ?_
    refine g_istore hC dX12_sure_21 (by decide) rfl ?_
    refine g_sub [3, 4, 5, 1, 0] rfl ?_
    exact gL_X12_sure_23 hC hR hL  KF p1 p2 0 0 X2
  · refine g_aload_n (q := 1) hC dX12_sure_11 rfl rfl rfl ?_
    refine g_iload_n (q := 0) hC dX12_sure_12 rfl rfl ?_
    refine g_callVI (As := [vI r1]) hC mv_X12_is wml_RX12_98 (k_X12_is _ V hL r1 X2) cf_X12 (at_120 hL) (by decide) ⟨Nat.zero_le _, Nat.zero_le _⟩ rfl rfl ⟨Nat.le_of_ble_eq_true rfl, Nat.le_of_ble_eq_true rfl⟩ (Nat.le_of_ble_eq_true rfl) dX12_sure_13 (fun r10 X11 => ?_)
    exact g_zret hC hR dX12_sure_16
def B_X12_betters_151 (go21 : Int → Int → Int → Mem → Option (Int × Mem)) (x1 : Int) (x3 : Int) (x4 : Int) (X : Mem) : Option (Int × Mem) :=
  go21 x1 x3 (x4 + 1) X
def B_X12_betters_145 (go21 : Int → Int → Int → Mem → Option (Int × Mem)) (go78 : Int → Int → Int → Int → Int → Mem → Option (Int × Mem)) (x1 : Int) (x3 : Int) (x4 : Int) (x5 : Int) (x6 : Int) (X : Mem) : Option (Int × Mem) :=
  go78 x1 x3 x4 x5 (x6 + 1) X
def L_X12_betters_78 (go21 : Int → Int → Int → Mem → Option (Int × Mem)) : Nat → Int → Int → Int → Int → Int → Mem → Option (Int × Mem)
  | 0, _, _, _, _, _, _ => none
  | n + 1, x1, x3, x4, x5, x6, X =>
    c2 x6 9 <| if 9 ≤ x6 then
      B_X12_betters_151  go21 x1 x3 x4 X
    else
      cl (f_X12_stepMinutes x6 x4 X) fun r3 X4 =>
      ax 540 ((9 * x5) + x4) <|
      bd (r3 + (X4 132 ((9 * x5) + x4))) fun v5 =>
      ax 540 ((9 * x1) + x6) <|
      c2 v5 (X4 132 ((9 * x1) + x6)) <| if v5 < (X4 132 ((9 * x1) + x6)) then
        ax 540 ((9 * x1) + x6) <| bd (ms X4 132 ((9 * x1) + x6) v5) fun X6 =>
        B_X12_betters_145  go21 (fun x1 x3 x4 x5 x6 X => L_X12_betters_78  go21 n x1 x3 x4 x5 x6 X) x1 1 x4 x5 x6 X6
      else
        B_X12_betters_145  go21 (fun x1 x3 x4 x5 x6 X => L_X12_betters_78  go21 n x1 x3 x4 x5 x6 X) x1 x3 x4 x5 x6 X4
def L_X12_betters_21 : Nat → Int → Int → Int → Mem → Option (Int × Mem)
  | 0, _, _, _, _ => none
  | n + 1, x1, x3, x4, X =>
    c2 x4 8 <| if 8 ≤ x4 then
      cz x3 (some (x3, X))
    else
      cl (f_X12_leads x1 x4 X) fun r1 X2 =>
      c2 r1 ((-1)) <| if r1 = ((-1)) then
        B_X12_betters_151  (fun x1 x3 x4 X => L_X12_betters_21   n x1 x3 x4 X) x1 x3 x4 X2
      else
        ax 60 r1 <|
        c1 (X2 133 r1) <| if (X2 133 r1) = 0 then
          B_X12_betters_151  (fun x1 x3 x4 X => L_X12_betters_21   n x1 x3 x4 X) x1 x3 x4 X2
        else
          ax 540 ((9 * r1) + x4) <|
          c2 (X2 132 ((9 * r1) + x4)) 100000000 <| if ¬ (X2 132 ((9 * r1) + x4)) = 100000000 then
            L_X12_betters_78  (fun x1 x3 x4 X => L_X12_betters_21   n x1 x3 x4 X) KF x1 x3 x4 r1 0 X2
          else
            B_X12_betters_151  (fun x1 x3 x4 X => L_X12_betters_21   n x1 x3 x4 X) x1 x3 x4 X2
def f_X12_betters (p1 : Int) (p2 : Int) (X : Mem) : Option (Int × Mem) :=
  c2 p1 p2 <| if p1 = p2 then
    some (0, X)
  else
    ax 60 p1 <|
    c1 (X 133 p1) <| if ¬ (X 133 p1) = 0 then
      L_X12_betters_21   KF p1 0 0 X
    else
      some (0, X)
set_option maxRecDepth 20000 in
theorem gB_X12_betters_151 {C : Cx} {V : Ev} {L : List Kd} (hC : Ok C V cX12_betters RX12 8 2 44) (hR : Rt C V L (some .boolean) rI) (hL : LKm L) {go21 : Int → Int → Int → Mem → Option (Int × Mem)} (hgo21 : ∀ (x1 : Int) (x3 : Int) (x4 : Int) (X : Mem), G C V L 0 0 8 21 [(0, vR V.1 120), (1, vI x1), (3, vI x3), (4, vI x4)] [] X (go21 x1 x3 x4 X)) (x1 : Int) (x3 : Int) (x4 : Int) (X : Mem)  : G C V L 0 0 8 151 [(0, vR V.1 120), (1, vI x1), (3, vI x3), (4, vI x4)] [] X (B_X12_betters_151  go21 x1 x3 x4 X) := by
  unfold B_X12_betters_151
  refine g_iinc (q := 3) hC dX12_betters_151 rfl (by decide) rfl ?_
  refine g_goto (tgt := 21) hC dX12_betters_154 (by decide) ?_
  refine g_sub [1, 2, 3, 0] rfl ?_
  exact hgo21 x1 x3 (x4 + 1) X
set_option maxRecDepth 20000 in
theorem gB_X12_betters_145 {C : Cx} {V : Ev} {L : List Kd} (hC : Ok C V cX12_betters RX12 8 2 44) (hR : Rt C V L (some .boolean) rI) (hL : LKm L) {go21 : Int → Int → Int → Mem → Option (Int × Mem)} {go78 : Int → Int → Int → Int → Int → Mem → Option (Int × Mem)} (hgo21 : ∀ (x1 : Int) (x3 : Int) (x4 : Int) (X : Mem), G C V L 0 0 8 21 [(0, vR V.1 120), (1, vI x1), (3, vI x3), (4, vI x4)] [] X (go21 x1 x3 x4 X)) (hgo78 : ∀ (x1 : Int) (x3 : Int) (x4 : Int) (x5 : Int) (x6 : Int) (X : Mem), G C V L 0 0 8 78 [(0, vR V.1 120), (1, vI x1), (3, vI x3), (4, vI x4), (5, vI x5), (6, vI x6)] [] X (go78 x1 x3 x4 x5 x6 X)) (x1 : Int) (x3 : Int) (x4 : Int) (x5 : Int) (x6 : Int) (X : Mem)  : G C V L 0 0 8 145 [(0, vR V.1 120), (1, vI x1), (3, vI x3), (4, vI x4), (5, vI x5), (6, vI x6)] [] X (B_X12_betters_145  go21 go78 x1 x3 x4 x5 x6 X) := by
  unfold B_X12_betters_145
  refine g_iinc (q := 5) hC dX12_betters_145 rfl (by decide) rfl ?_
  refine g_goto (tgt := 78) hC dX12_betters_148 (by decide) ?_
  refine g_sub [1, 2, 3, 4, 5, 0] rfl ?_
  exact hgo78 x1 x3 x4 x5 (x6 + 1) X
set_option maxRecDepth 20000 in
theorem gL_X12_betters_78 {C : Cx} {V : Ev} {L : List Kd} (hC : Ok C V cX12_betters RX12 8 2 44) (hR : Rt C V L (some .boolean) rI) (hL : LKm L) {go21 : Int → Int → Int → Mem → Option (Int × Mem)} (hgo21 : ∀ (x1 : Int) (x3 : Int) (x4 : Int) (X : Mem), G C V L 0 0 8 21 [(0, vR V.1 120), (1, vI x1), (3, vI x3), (4, vI x4)] [] X (go21 x1 x3 x4 X)) : ∀ (n : Nat) (x1 : Int) (x3 : Int) (x4 : Int) (x5 : Int) (x6 : Int) (X : Mem), G C V L 0 0 8 78 [(0, vR V.1 120), (1, vI x1), (3, vI x3), (4, vI x4), (5, vI x5), (6, vI x6)] [] X (L_X12_betters_78  go21 n x1 x3 x4 x5 x6 X) := by
  intro n
  induction n with
  | zero => intro x1 x3 x4 x5 x6 X; exact g_none
  | succ n ih =>
    intro x1 x3 x4 x5 x6 X
    rw [L_X12_betters_78]
    refine g_iload (q := 5) hC dX12_betters_78 rfl ?_
    refine g_bipush (v := vI 9) hC dX12_betters_80 rfl ?_
    refine g_icmp_ge (tgt := 151) hC dX12_betters_82 (by decide) ?_ ?_
    · refine g_sub [0, 1, 2, 3] rfl ?_
      exact gB_X12_betters_151 hC hR hL hgo21 x1 x3 x4 X
    · refine g_aload_n (q := 0) hC dX12_betters_85 rfl rfl rfl ?_
      refine g_iload (q := 5) hC dX12_betters_86 rfl ?_
      refine g_iload (q := 3) hC dX12_betters_88 rfl ?_
      refine g_callVI (As := [vI x6, vI x4]) hC mv_X12_stepMinutes wml_RX12_345 (k_X12_stepMinutes _ V hL x6 x4 X) cf_X12 (at_120 hL) (by decide) ⟨Nat.zero_le _, Nat.zero_le _⟩ rfl rfl ⟨Nat.le_of_ble_eq_true rfl, Nat.le_of_ble_eq_true rfl⟩ (Nat.le_of_ble_eq_true rfl) dX12_betters_90 (fun r3 X4 => ?_)
      refine g_aload_n (q := 0) hC dX12_betters_93 rfl rfl rfl ?_
      refine g_getS (k := 28) hC cf_X12 (at_120 hL) (by decide) rfl (by decide) (by decide) wf_RX12_56 dX12_betters_94 ?_
      refine g_bipush (v := vI 9) hC dX12_betters_97 rfl ?_
      refine g_iload (q := 4) hC dX12_betters_99 rfl ?_
      refine g_imul hC dX12_betters_101 ?_
      refine g_iload (q := 3) hC dX12_betters_102 rfl ?_
      refine g_iadd hC dX12_betters_104 ?_
      refine g_iald hC (at_132 hL) (by decide) dX12_betters_105 ?_
      refine g_iadd hC dX12_betters_106 ?_
      refine g_topI (fun v5 => ?_)
      refine g_istore hC dX12_betters_107 (by decide) rfl ?_
      refine g_iload (q := 0) hC dX12_betters_109 rfl ?_
      refine g_aload_n (q := 1) hC dX12_betters_111 rfl rfl rfl ?_
      refine g_getS (k := 28) hC cf_X12 (at_120 hL) (by decide) rfl (by decide) (by decide) wf_RX12_56 dX12_betters_112 ?_
      refine g_bipush (v := vI 9) hC dX12_betters_115 rfl ?_
      refine g_iload_n (q := 2) hC dX12_betters_117 rfl rfl ?_
      refine g_imul hC dX12_betters_118 ?_
      refine g_iload (q := 6) hC dX12_betters_119 rfl ?_
      refine g_iadd hC dX12_betters_121 ?_
      refine g_iald hC (at_132 hL) (by decide) dX12_betters_122 ?_
      refine g_icmp_lt (tgt := 129) hC dX12_betters_123 (by decide) ?_ ?_
      · refine g_aload_n (q := 1) hC dX12_betters_129 rfl rfl rfl ?_
        refine g_getS (k := 28) hC cf_X12 (at_120 hL) (by decide) rfl (by decide) (by decide) wf_RX12_56 dX12_betters_130 ?_
        refine g_bipush (v := vI 9) hC dX12_betters_133 rfl ?_
        refine g_iload_n (q := 2) hC dX12_betters_135 rfl rfl ?_
        refine g_imul hC dX12_betters_136 ?_
        refine g_iload (q := 6) hC dX12_betters_137 rfl ?_
        refine g_iadd hC dX12_betters_139 ?_
        refine g_iload (q := 0) hC dX12_betters_140 rfl ?_
        refine g_iast hC (at_132 hL) (by decide) dX12_betters_142 (fun X6 => ?_)
        refine g_iconst (v := vI 1) hC dX12_betters_143 rfl ?_
        refine g_istore_n hC dX12_betters_144 rfl (by decide) rfl ?_
        refine g_sub [2, 3, 0, 4, 5, 6] rfl ?_
        exact gB_X12_betters_145 hC hR hL hgo21 ih x1 1 x4 x5 x6 X6
      · refine g_goto (tgt := 145) hC dX12_betters_126 (by decide) ?_
        refine g_sub [1, 2, 3, 4, 5, 6] rfl ?_
        exact gB_X12_betters_145 hC hR hL hgo21 ih x1 x3 x4 x5 x6 X4
set_option maxRecDepth 20000 in
theorem gL_X12_betters_21 {C : Cx} {V : Ev} {L : List Kd} (hC : Ok C V cX12_betters RX12 8 2 44) (hR : Rt C V L (some .boolean) rI) (hL : LKm L) : ∀ (n : Nat) (x1 : Int) (x3 : Int) (x4 : Int) (X : Mem), G C V L 0 0 8 21 [(0, vR V.1 120), (1, vI x1), (3, vI x3), (4, vI x4)] [] X (L_X12_betters_21   n x1 x3 x4 X) := by
  intro n
  induction n with
  | zero => intro x1 x3 x4 X; exact g_none
  | succ n ih =>
    intro x1 x3 x4 X
    rw [L_X12_betters_21]
    refine g_iload (q := 3) hC dX12_betters_21 rfl ?_
    refine g_bipush (v := vI 8) hC dX12_betters_23 rfl ?_
    refine g_icmp_ge (tgt := 157) hC dX12_betters_25 (by decide) ?_ ?_
    · refine g_iload_n (q := 2) hC dX12_betters_157 rfl rfl ?_
      exact g_zret hC hR dX12_betters_158
    · refine g_aload_n (q := 0) hC dX12_betters_28 rfl rfl rfl ?_
      refine g_iload_n (q := 1) hC dX12_betters_29 rfl rfl ?_
      refine g_iload (q := 3) hC dX12_betters_30 rfl ?_
      refine g_callVI (As := [vI x1, vI x4]) hC mv_X12_leads wml_RX12_333 (k_X12_leads _ V hL x1 x4 X) cf_X12 (at_120 hL) (by decide) ⟨Nat.zero_le _, Nat.zero_le _⟩ rfl rfl ⟨Nat.le_of_ble_eq_true rfl, Nat.le_of_ble_eq_true rfl⟩ (Nat.le_of_ble_eq_true rfl) dX12_betters_32 (fun r1 X2 => ?_)
      refine g_istore hC dX12_betters_35 (by decide) rfl ?_
      refine g_iload (q := 0) hC dX12_betters_37 rfl ?_
      refine g_iconst (v := vI (-1)) hC dX12_betters_39 rfl ?_
      refine g_icmp_eq (tgt := 151) hC dX12_betters_40 (by decide) ?_ ?_
      · refine g_sub [1, 2, 3, 4] rfl ?_
        exact gB_X12_betters_151 hC hR hL ih x1 x3 x4 X2
      · refine g_aload_n (q := 1) hC dX12_betters_43 rfl rfl rfl ?_
        refine g_getS (k := 29) hC cf_X12 (at_120 hL) (by decide) rfl (by decide) (by decide) wf_RX12_59 dX12_betters_44 ?_
        refine g_iload (q := 0) hC dX12_betters_47 rfl ?_
        refine g_zald hC (at_133 hL) (by decide) dX12_betters_49 ?_
        refine g_if_eq (tgt := 151) hC dX12_betters_50 (by decide) ?_ ?_
        · refine g_sub [1, 2, 3, 4] rfl ?_
          exact gB_X12_betters_151 hC hR hL ih x1 x3 x4 X2
        · refine g_aload_n (q := 1) hC dX12_betters_53 rfl rfl rfl ?_
          refine g_getS (k := 28) hC cf_X12 (at_120 hL) (by decide) rfl (by decide) (by decide) wf_RX12_56 dX12_betters_54 ?_
          refine g_bipush (v := vI 9) hC dX12_betters_57 rfl ?_
          refine g_iload (q := 0) hC dX12_betters_59 rfl ?_
          refine g_imul hC dX12_betters_61 ?_
          refine g_iload (q := 4) hC dX12_betters_62 rfl ?_
          refine g_iadd hC dX12_betters_64 ?_
          refine g_iald hC (at_132 hL) (by decide) dX12_betters_65 ?_
          refine g_ldcw (n := 100000000) hC wk_RX12_352 rfl dX12_betters_66 ?_
          refine g_icmp_ne (tgt := 75) hC dX12_betters_69 (by decide) ?_ ?_
          · refine g_iconst (v := vI 0) hC dX12_betters_75 rfl ?_
            refine g_istore hC dX12_betters_76 (by decide) rfl ?_
            refine g_sub [2, 3, 4, 5, 1, 0] rfl ?_
            exact gL_X12_betters_78 hC hR hL ih KF x1 x3 x4 r1 0 X2
          · refine g_goto (tgt := 151) hC dX12_betters_72 (by decide) ?_
            refine g_sub [1, 2, 3, 4] rfl ?_
            exact gB_X12_betters_151 hC hR hL ih x1 x3 x4 X2
set_option maxRecDepth 20000 in
theorem k_X12_betters (l : Launch) (V : Ev) {L : List Kd} (hL : LKm L) (p1 : Int) (p2 : Int) (X : Mem)  : Kt l V L yX12_betters (.code yX12_betters cX12_betters 8 (some .boolean)) 2 44 [vR V.1 120, vI p1, vI p2] rI X (f_X12_betters p1 p2 X) := by
  refine kt_of (own := RX12) (lv0 := [(0, vR V.1 120), (1, vI p1), (2, vI p2)]) (by decide) rfl (Nat.le_of_ble_eq_true rfl) rfl (fun C hCl hC hR => ?_)
  subst hCl
  unfold f_X12_betters
  refine g_iload_n (q := 1) hC dX12_betters_0 rfl rfl ?_
  refine g_iload_n (q := 2) hC dX12_betters_1 rfl rfl ?_
  refine g_icmp_eq (tgt := 14) hC dX12_betters_2 (by decide) ?_ ?_
  · refine g_iconst (v := vI 0) hC dX12_betters_14 rfl ?_
    exact g_zret1 hC hR (by decide) dX12_betters_15
  · refine g_aload_n (q := 0) hC dX12_betters_5 rfl rfl rfl ?_
    refine g_getS (k := 29) hC cf_X12 (at_120 hL) (by decide) rfl (by decide) (by decide) wf_RX12_59 dX12_betters_6 ?_
    refine g_iload_n (q := 1) hC dX12_betters_9 rfl rfl ?_
    refine g_zald hC (at_133 hL) (by decide) dX12_betters_10 ?_
    refine g_if_ne (tgt := 16) hC dX12_betters_11 (by decide) ?_ ?_
    · refine g_iconst (v := vI 0) hC dX12_betters_16 rfl ?_
      refine g_istore_n hC dX12_betters_17 rfl (by decide) rfl ?_
      refine g_iconst (v := vI 0) hC dX12_betters_18 rfl ?_
      refine g_istore hC dX12_betters_19 (by decide) rfl ?_
      refine g_sub [2, 3, 1, 0] rfl ?_
      exact gL_X12_betters_21 hC hR hL  KF p1 0 0 X
    · refine g_iconst (v := vI 0) hC dX12_betters_14 rfl ?_
      exact g_zret1 hC hR (by decide) dX12_betters_15
def B_X12_reckons_158 (go114 : Int → Int → Mem → Option (Int × Mem)) (x1 : Int) (x3 : Int) (X : Mem) : Option (Int × Mem) :=
  go114 x1 x3 X
def B_X12_reckons_151 (go114 : Int → Int → Mem → Option (Int × Mem)) (go123 : Int → Int → Int → Mem → Option (Int × Mem)) (x1 : Int) (x4 : Int) (s0 : Int) (X : Mem) : Option (Int × Mem) :=
  go123 x1 s0 (x4 + 1) X
def B_X12_reckons_146 (go114 : Int → Int → Mem → Option (Int × Mem)) (go123 : Int → Int → Int → Mem → Option (Int × Mem)) (x1 : Int) (x4 : Int) (X : Mem) : Option (Int × Mem) :=
  B_X12_reckons_151  go114 go123 x1 x4 1 X
def L_X12_reckons_123 (go114 : Int → Int → Mem → Option (Int × Mem)) : Nat → Int → Int → Int → Mem → Option (Int × Mem)
  | 0, _, _, _, _ => none
  | n + 1, x1, x3, x4, X =>
    cl (f_X12_cells X) fun r3 X4 =>
    c2 x4 r3 <| if r3 ≤ x4 then
      B_X12_reckons_158  go114 x1 x3 X4
    else
      cl (f_X12_betters x4 x1 X4) fun r5 X6 =>
      c1 r5 <| if ¬ r5 = 0 then
        B_X12_reckons_146  go114 (fun x1 x3 x4 X => L_X12_reckons_123  go114 n x1 x3 x4 X) x1 x4 X6
      else
        c1 x3 <| if x3 = 0 then
          B_X12_reckons_151  go114 (fun x1 x3 x4 X => L_X12_reckons_123  go114 n x1 x3 x4 X) x1 x4 0 X6
        else
          B_X12_reckons_146  go114 (fun x1 x3 x4 X => L_X12_reckons_123  go114 n x1 x3 x4 X) x1 x4 X6
def L_X12_reckons_114 : Nat → Int → Int → Mem → Option (Int × Mem)
  | 0, _, _, _ => none
  | n + 1, x1, x3, X =>
    c1 x3 <| if x3 = 0 then
      some (0, X)
    else
      L_X12_reckons_123  (fun x1 x3 X => L_X12_reckons_114   n x1 x3 X) KF x1 0 0 X
def B_X12_reckons_112 (x1 : Int) (X : Mem) : Option (Int × Mem) :=
  L_X12_reckons_114   KF x1 1 X
def B_X12_reckons_106 (go2 : Int → Int → Int → Mem → Option (Int × Mem)) (x1 : Int) (x2 : Int) (x3 : Int) (X : Mem) : Option (Int × Mem) :=
  go2 x1 x2 (x3 + 1) X
def B_X12_reckons_99 (go2 : Int → Int → Int → Mem → Option (Int × Mem)) (go60 : Int → Int → Int → Int → Mem → Option (Int × Mem)) (x1 : Int) (x2 : Int) (x3 : Int) (x5 : Int) (s0 : Int) (s1 : Int) (X : Mem) : Option (Int × Mem) :=
  ax 540 s1 <| bd (ms X 132 s1 s0) fun X10 =>
  go60 x1 x2 x3 (x5 + 1) X10
def B_X12_reckons_96 (go2 : Int → Int → Int → Mem → Option (Int × Mem)) (go60 : Int → Int → Int → Int → Mem → Option (Int × Mem)) (x1 : Int) (x2 : Int) (x3 : Int) (x5 : Int) (s0 : Int) (X : Mem) : Option (Int × Mem) :=
  B_X12_reckons_99  go2 go60 x1 x2 x3 x5 100000000 s0 X
def L_X12_reckons_60 (go2 : Int → Int → Int → Mem → Option (Int × Mem)) : Nat → Int → Int → Int → Int → Mem → Option (Int × Mem)
  | 0, _, _, _, _, _ => none
  | n + 1, x1, x2, x3, x5, X =>
    c2 x5 9 <| if 9 ≤ x5 then
      B_X12_reckons_106  go2 x1 x2 x3 X
    else
      c2 x3 x1 <| if ¬ x3 = x1 then
        B_X12_reckons_96  go2 (fun x1 x2 x3 x5 X => L_X12_reckons_60  go2 n x1 x2 x3 x5 X) x1 x2 x3 x5 ((9 * x3) + x5) X
      else
        ax 60 x3 <|
        c1 (X 133 x3) <| if (X 133 x3) = 0 then
          B_X12_reckons_96  go2 (fun x1 x2 x3 x5 X => L_X12_reckons_60  go2 n x1 x2 x3 x5 X) x1 x2 x3 x5 ((9 * x3) + x5) X
        else
          B_X12_reckons_99  go2 (fun x1 x2 x3 x5 X => L_X12_reckons_60  go2 n x1 x2 x3 x5 X) x1 x2 x3 x5 0 ((9 * x3) + x5) X
def B_X12_reckons_56 (go2 : Int → Int → Int → Mem → Option (Int × Mem)) (x1 : Int) (x2 : Int) (x3 : Int) (s0 : Int) (s1 : Int) (X : Mem) : Option (Int × Mem) :=
  ax 60 s1 <| bd (ms X 133 s1 (ia s0 1)) fun X9 =>
  L_X12_reckons_60  go2 KF x1 x2 x3 0 X9
def B_X12_reckons_51 (go2 : Int → Int → Int → Mem → Option (Int × Mem)) (x1 : Int) (x2 : Int) (x3 : Int) (s0 : Int) (X : Mem) : Option (Int × Mem) :=
  B_X12_reckons_56  go2 x1 x2 x3 1 s0 X
def B_X12_reckons_55 (go2 : Int → Int → Int → Mem → Option (Int × Mem)) (x1 : Int) (x2 : Int) (x3 : Int) (s0 : Int) (X : Mem) : Option (Int × Mem) :=
  B_X12_reckons_56  go2 x1 x2 x3 0 s0 X
def L_X12_reckons_2 : Nat → Int → Int → Int → Mem → Option (Int × Mem)
  | 0, _, _, _, _ => none
  | n + 1, x1, x2, x3, X =>
    cl (f_X12_cells X) fun r1 X2 =>
    c2 x3 r1 <| if r1 ≤ x3 then
      B_X12_reckons_112   x1 X2
    else
      cl (f_X12_openOf x3 X2) fun r7 X8 =>
      c2 r7 2 <| if r7 = 2 then
        B_X12_reckons_51  (fun x1 x2 x3 X => L_X12_reckons_2   n x1 x2 x3 X) x1 x2 x3 x3 X8
      else
        c2 r7 1 <| if ¬ r7 = 1 then
          B_X12_reckons_55  (fun x1 x2 x3 X => L_X12_reckons_2   n x1 x2 x3 X) x1 x2 x3 x3 X8
        else
          ax 2200 (108 + x3) <|
          c2 (ia (ishr x2 (X8 121 (108 + x3))) 1) 1 <| if ¬ (ia (ishr x2 (X8 121 (108 + x3))) 1) = 1 then
            B_X12_reckons_55  (fun x1 x2 x3 X => L_X12_reckons_2   n x1 x2 x3 X) x1 x2 x3 x3 X8
          else
            B_X12_reckons_51  (fun x1 x2 x3 X => L_X12_reckons_2   n x1 x2 x3 X) x1 x2 x3 x3 X8
def f_X12_reckons (p1 : Int) (p2 : Int) (X : Mem) : Option (Int × Mem) :=
  L_X12_reckons_2   KF p1 p2 0 X
set_option maxRecDepth 20000 in
theorem gB_X12_reckons_158 {C : Cx} {V : Ev} {L : List Kd} (hC : Ok C V cX12_reckons RX12 6 4 88) (hR : Rt C V L none rV) (hL : LKm L) {go114 : Int → Int → Mem → Option (Int × Mem)} (hgo114 : ∀ (x1 : Int) (x3 : Int) (X : Mem), G C V L 0 0 6 114 [(0, vR V.1 120), (1, vI x1), (3, vI x3)] [] X (go114 x1 x3 X)) (x1 : Int) (x3 : Int) (X : Mem)  : G C V L 0 0 6 158 [(0, vR V.1 120), (1, vI x1), (3, vI x3)] [] X (B_X12_reckons_158  go114 x1 x3 X) := by
  unfold B_X12_reckons_158
  refine g_goto (tgt := 114) hC dX12_reckons_158 (by decide) ?_
  exact hgo114 x1 x3 X
set_option maxRecDepth 20000 in
theorem gB_X12_reckons_151 {C : Cx} {V : Ev} {L : List Kd} (hC : Ok C V cX12_reckons RX12 6 4 88) (hR : Rt C V L none rV) (hL : LKm L) {go114 : Int → Int → Mem → Option (Int × Mem)} {go123 : Int → Int → Int → Mem → Option (Int × Mem)} (hgo114 : ∀ (x1 : Int) (x3 : Int) (X : Mem), G C V L 0 0 6 114 [(0, vR V.1 120), (1, vI x1), (3, vI x3)] [] X (go114 x1 x3 X)) (hgo123 : ∀ (x1 : Int) (x3 : Int) (x4 : Int) (X : Mem), G C V L 0 0 6 123 [(0, vR V.1 120), (1, vI x1), (3, vI x3), (4, vI x4)] [] X (go123 x1 x3 x4 X)) (x1 : Int) (x4 : Int) (s0 : Int) (X : Mem)  : G C V L 0 0 6 151 [(0, vR V.1 120), (1, vI x1), (4, vI x4)] [vI s0] X (B_X12_reckons_151  go114 go123 x1 x4 s0 X) := by
  unfold B_X12_reckons_151
  refine g_istore_n hC dX12_reckons_151 rfl (by decide) rfl ?_
  refine g_iinc (q := 3) hC dX12_reckons_152 rfl (by decide) rfl ?_
  refine g_goto (tgt := 123) hC dX12_reckons_155 (by decide) ?_
  refine g_sub [2, 3, 1, 0] rfl ?_
  exact hgo123 x1 s0 (x4 + 1) X
set_option maxRecDepth 20000 in
theorem gB_X12_reckons_146 {C : Cx} {V : Ev} {L : List Kd} (hC : Ok C V cX12_reckons RX12 6 4 88) (hR : Rt C V L none rV) (hL : LKm L) {go114 : Int → Int → Mem → Option (Int × Mem)} {go123 : Int → Int → Int → Mem → Option (Int × Mem)} (hgo114 : ∀ (x1 : Int) (x3 : Int) (X : Mem), G C V L 0 0 6 114 [(0, vR V.1 120), (1, vI x1), (3, vI x3)] [] X (go114 x1 x3 X)) (hgo123 : ∀ (x1 : Int) (x3 : Int) (x4 : Int) (X : Mem), G C V L 0 0 6 123 [(0, vR V.1 120), (1, vI x1), (3, vI x3), (4, vI x4)] [] X (go123 x1 x3 x4 X)) (x1 : Int) (x4 : Int) (X : Mem)  : G C V L 0 0 6 146 [(0, vR V.1 120), (1, vI x1), (4, vI x4)] [] X (B_X12_reckons_146  go114 go123 x1 x4 X) := by
  unfold B_X12_reckons_146
  refine g_iconst (v := vI 1) hC dX12_reckons_146 rfl ?_
  refine g_goto (tgt := 151) hC dX12_reckons_147 (by decide) ?_
  exact gB_X12_reckons_151 hC hR hL hgo114 hgo123 x1 x4 1 X
set_option maxRecDepth 20000 in
theorem gL_X12_reckons_123 {C : Cx} {V : Ev} {L : List Kd} (hC : Ok C V cX12_reckons RX12 6 4 88) (hR : Rt C V L none rV) (hL : LKm L) {go114 : Int → Int → Mem → Option (Int × Mem)} (hgo114 : ∀ (x1 : Int) (x3 : Int) (X : Mem), G C V L 0 0 6 114 [(0, vR V.1 120), (1, vI x1), (3, vI x3)] [] X (go114 x1 x3 X)) : ∀ (n : Nat) (x1 : Int) (x3 : Int) (x4 : Int) (X : Mem), G C V L 0 0 6 123 [(0, vR V.1 120), (1, vI x1), (3, vI x3), (4, vI x4)] [] X (L_X12_reckons_123  go114 n x1 x3 x4 X) := by
  intro n
  induction n with
  | zero => intro x1 x3 x4 X; exact g_none
  | succ n ih =>
    intro x1 x3 x4 X
    rw [L_X12_reckons_123]
    refine g_iload (q := 3) hC dX12_reckons_123 rfl ?_
    refine g_aload_n (q := 0) hC dX12_reckons_125 rfl rfl rfl ?_
    refine g_callVI (As := []) hC mv_X12_cells wml_RX12_243 (k_X12_cells _ V hL X) cf_X12 (at_120 hL) (by decide) ⟨Nat.zero_le _, Nat.zero_le _⟩ rfl rfl ⟨Nat.le_of_ble_eq_true rfl, Nat.le_of_ble_eq_true rfl⟩ (Nat.le_of_ble_eq_true rfl) dX12_reckons_126 (fun r3 X4 => ?_)
    refine g_icmp_ge (tgt := 158) hC dX12_reckons_129 (by decide) ?_ ?_
    · refine g_sub [0, 1, 2] rfl ?_
      exact gB_X12_reckons_158 hC hR hL hgo114 x1 x3 X4
    · refine g_aload_n (q := 0) hC dX12_reckons_132 rfl rfl rfl ?_
      refine g_iload (q := 3) hC dX12_reckons_133 rfl ?_
      refine g_iload_n (q := 1) hC dX12_reckons_135 rfl rfl ?_
      refine g_callVI (As := [vI x4, vI x1]) hC mv_X12_betters wml_RX12_353 (k_X12_betters _ V hL x4 x1 X4) cf_X12 (at_120 hL) (by decide) ⟨Nat.zero_le _, Nat.zero_le _⟩ rfl rfl ⟨Nat.le_of_ble_eq_true rfl, Nat.le_of_ble_eq_true rfl⟩ (Nat.le_of_ble_eq_true rfl) dX12_reckons_136 (fun r5 X6 => ?_)
      refine g_if_ne (tgt := 146) hC dX12_reckons_139 (by decide) ?_ ?_
      · refine g_sub [0, 1, 3] rfl ?_
        exact gB_X12_reckons_146 hC hR hL hgo114 ih x1 x4 X6
      · refine g_iload_n (q := 2) hC dX12_reckons_142 rfl rfl ?_
        refine g_if_eq (tgt := 150) hC dX12_reckons_143 (by decide) ?_ ?_
        · refine g_iconst (v := vI 0) hC dX12_reckons_150 rfl ?_
          refine g_sub [0, 1, 3] rfl ?_
          exact gB_X12_reckons_151 hC hR hL hgo114 ih x1 x4 0 X6
        · refine g_sub [0, 1, 3] rfl ?_
          exact gB_X12_reckons_146 hC hR hL hgo114 ih x1 x4 X6
set_option maxRecDepth 20000 in
theorem gL_X12_reckons_114 {C : Cx} {V : Ev} {L : List Kd} (hC : Ok C V cX12_reckons RX12 6 4 88) (hR : Rt C V L none rV) (hL : LKm L) : ∀ (n : Nat) (x1 : Int) (x3 : Int) (X : Mem), G C V L 0 0 6 114 [(0, vR V.1 120), (1, vI x1), (3, vI x3)] [] X (L_X12_reckons_114   n x1 x3 X) := by
  intro n
  induction n with
  | zero => intro x1 x3 X; exact g_none
  | succ n ih =>
    intro x1 x3 X
    rw [L_X12_reckons_114]
    refine g_iload_n (q := 2) hC dX12_reckons_114 rfl rfl ?_
    refine g_if_eq (tgt := 161) hC dX12_reckons_115 (by decide) ?_ ?_
    · exact g_vret hC hR dX12_reckons_161
    · refine g_iconst (v := vI 0) hC dX12_reckons_118 rfl ?_
      refine g_istore_n hC dX12_reckons_119 rfl (by decide) rfl ?_
      refine g_iconst (v := vI 0) hC dX12_reckons_120 rfl ?_
      refine g_istore hC dX12_reckons_121 (by decide) rfl ?_
      refine g_sub [2, 3, 1, 0] rfl ?_
      exact gL_X12_reckons_123 hC hR hL ih KF x1 0 0 X
set_option maxRecDepth 20000 in
theorem gB_X12_reckons_112 {C : Cx} {V : Ev} {L : List Kd} (hC : Ok C V cX12_reckons RX12 6 4 88) (hR : Rt C V L none rV) (hL : LKm L) (x1 : Int) (X : Mem)  : G C V L 0 0 6 112 [(0, vR V.1 120), (1, vI x1)] [] X (B_X12_reckons_112   x1 X) := by
  unfold B_X12_reckons_112
  refine g_iconst (v := vI 1) hC dX12_reckons_112 rfl ?_
  refine g_istore_n hC dX12_reckons_113 rfl (by decide) rfl ?_
  refine g_sub [1, 2, 0] rfl ?_
  exact gL_X12_reckons_114 hC hR hL  KF x1 1 X
set_option maxRecDepth 20000 in
theorem gB_X12_reckons_106 {C : Cx} {V : Ev} {L : List Kd} (hC : Ok C V cX12_reckons RX12 6 4 88) (hR : Rt C V L none rV) (hL : LKm L) {go2 : Int → Int → Int → Mem → Option (Int × Mem)} (hgo2 : ∀ (x1 : Int) (x2 : Int) (x3 : Int) (X : Mem), G C V L 0 0 6 2 [(0, vR V.1 120), (1, vI x1), (2, vI x2), (3, vI x3)] [] X (go2 x1 x2 x3 X)) (x1 : Int) (x2 : Int) (x3 : Int) (X : Mem)  : G C V L 0 0 6 106 [(0, vR V.1 120), (1, vI x1), (2, vI x2), (3, vI x3)] [] X (B_X12_reckons_106  go2 x1 x2 x3 X) := by
  unfold B_X12_reckons_106
  refine g_iinc (q := 3) hC dX12_reckons_106 rfl (by decide) rfl ?_
  refine g_goto (tgt := 2) hC dX12_reckons_109 (by decide) ?_
  refine g_sub [1, 2, 3, 0] rfl ?_
  exact hgo2 x1 x2 (x3 + 1) X
set_option maxRecDepth 20000 in
theorem gB_X12_reckons_99 {C : Cx} {V : Ev} {L : List Kd} (hC : Ok C V cX12_reckons RX12 6 4 88) (hR : Rt C V L none rV) (hL : LKm L) {go2 : Int → Int → Int → Mem → Option (Int × Mem)} {go60 : Int → Int → Int → Int → Mem → Option (Int × Mem)} (hgo2 : ∀ (x1 : Int) (x2 : Int) (x3 : Int) (X : Mem), G C V L 0 0 6 2 [(0, vR V.1 120), (1, vI x1), (2, vI x2), (3, vI x3)] [] X (go2 x1 x2 x3 X)) (hgo60 : ∀ (x1 : Int) (x2 : Int) (x3 : Int) (x5 : Int) (X : Mem), G C V L 0 0 6 60 [(0, vR V.1 120), (1, vI x1), (2, vI x2), (3, vI x3), (5, vI x5)] [] X (go60 x1 x2 x3 x5 X)) (x1 : Int) (x2 : Int) (x3 : Int) (x5 : Int) (s0 : Int) (s1 : Int) (X : Mem)  : G C V L 0 0 6 99 [(0, vR V.1 120), (1, vI x1), (2, vI x2), (3, vI x3), (5, vI x5)] [vI s0, vI s1, vR V.1 132] X (B_X12_reckons_99  go2 go60 x1 x2 x3 x5 s0 s1 X) := by
  unfold B_X12_reckons_99
  refine g_iast hC (at_132 hL) (by decide) dX12_reckons_99 (fun X10 => ?_)
  refine g_iinc (q := 4) hC dX12_reckons_100 rfl (by decide) rfl ?_
  refine g_goto (tgt := 60) hC dX12_reckons_103 (by decide) ?_
  refine g_sub [1, 2, 3, 4, 0] rfl ?_
  exact hgo60 x1 x2 x3 (x5 + 1) X10
set_option maxRecDepth 20000 in
theorem gB_X12_reckons_96 {C : Cx} {V : Ev} {L : List Kd} (hC : Ok C V cX12_reckons RX12 6 4 88) (hR : Rt C V L none rV) (hL : LKm L) {go2 : Int → Int → Int → Mem → Option (Int × Mem)} {go60 : Int → Int → Int → Int → Mem → Option (Int × Mem)} (hgo2 : ∀ (x1 : Int) (x2 : Int) (x3 : Int) (X : Mem), G C V L 0 0 6 2 [(0, vR V.1 120), (1, vI x1), (2, vI x2), (3, vI x3)] [] X (go2 x1 x2 x3 X)) (hgo60 : ∀ (x1 : Int) (x2 : Int) (x3 : Int) (x5 : Int) (X : Mem), G C V L 0 0 6 60 [(0, vR V.1 120), (1, vI x1), (2, vI x2), (3, vI x3), (5, vI x5)] [] X (go60 x1 x2 x3 x5 X)) (x1 : Int) (x2 : Int) (x3 : Int) (x5 : Int) (s0 : Int) (X : Mem)  : G C V L 0 0 6 96 [(0, vR V.1 120), (1, vI x1), (2, vI x2), (3, vI x3), (5, vI x5)] [vI s0, vR V.1 132] X (B_X12_reckons_96  go2 go60 x1 x2 x3 x5 s0 X) := by
  unfold B_X12_reckons_96
  refine g_ldcw (n := 100000000) hC wk_RX12_352 rfl dX12_reckons_96 ?_
  exact gB_X12_reckons_99 hC hR hL hgo2 hgo60 x1 x2 x3 x5 100000000 s0 X
set_option maxRecDepth 20000 in
theorem gL_X12_reckons_60 {C : Cx} {V : Ev} {L : List Kd} (hC : Ok C V cX12_reckons RX12 6 4 88) (hR : Rt C V L none rV) (hL : LKm L) {go2 : Int → Int → Int → Mem → Option (Int × Mem)} (hgo2 : ∀ (x1 : Int) (x2 : Int) (x3 : Int) (X : Mem), G C V L 0 0 6 2 [(0, vR V.1 120), (1, vI x1), (2, vI x2), (3, vI x3)] [] X (go2 x1 x2 x3 X)) : ∀ (n : Nat) (x1 : Int) (x2 : Int) (x3 : Int) (x5 : Int) (X : Mem), G C V L 0 0 6 60 [(0, vR V.1 120), (1, vI x1), (2, vI x2), (3, vI x3), (5, vI x5)] [] X (L_X12_reckons_60  go2 n x1 x2 x3 x5 X) := by
  intro n
  induction n with
  | zero => intro x1 x2 x3 x5 X; exact g_none
  | succ n ih =>
    intro x1 x2 x3 x5 X
    rw [L_X12_reckons_60]
    refine g_iload (q := 4) hC dX12_reckons_60 rfl ?_
    refine g_bipush (v := vI 9) hC dX12_reckons_62 rfl ?_
    refine g_icmp_ge (tgt := 106) hC dX12_reckons_64 (by decide) ?_ ?_
    · refine g_sub [0, 1, 2, 3] rfl ?_
      exact gB_X12_reckons_106 hC hR hL hgo2 x1 x2 x3 X
    · refine g_aload_n (q := 0) hC dX12_reckons_67 rfl rfl rfl ?_
      refine g_getS (k := 28) hC cf_X12 (at_120 hL) (by decide) rfl (by decide) (by decide) wf_RX12_56 dX12_reckons_68 ?_
      refine g_bipush (v := vI 9) hC dX12_reckons_71 rfl ?_
      refine g_iload_n (q := 3) hC dX12_reckons_73 rfl rfl ?_
      refine g_imul hC dX12_reckons_74 ?_
      refine g_iload (q := 4) hC dX12_reckons_75 rfl ?_
      refine g_iadd hC dX12_reckons_77 ?_
      refine g_iload_n (q := 3) hC dX12_reckons_78 rfl rfl ?_
      refine g_iload_n (q := 1) hC dX12_reckons_79 rfl rfl ?_
      refine g_icmp_ne (tgt := 96) hC dX12_reckons_80 (by decide) ?_ ?_
      · exact gB_X12_reckons_96 hC hR hL hgo2 ih x1 x2 x3 x5 ((9 * x3) + x5) X
      · refine g_aload_n (q := 0) hC dX12_reckons_83 rfl rfl rfl ?_
        refine g_getS (k := 29) hC cf_X12 (at_120 hL) (by decide) rfl (by decide) (by decide) wf_RX12_59 dX12_reckons_84 ?_
        refine g_iload_n (q := 3) hC dX12_reckons_87 rfl rfl ?_
        refine g_zald hC (at_133 hL) (by decide) dX12_reckons_88 ?_
        refine g_if_eq (tgt := 96) hC dX12_reckons_89 (by decide) ?_ ?_
        · exact gB_X12_reckons_96 hC hR hL hgo2 ih x1 x2 x3 x5 ((9 * x3) + x5) X
        · refine g_iconst (v := vI 0) hC dX12_reckons_92 rfl ?_
          refine g_goto (tgt := 99) hC dX12_reckons_93 (by decide) ?_
          exact gB_X12_reckons_99 hC hR hL hgo2 ih x1 x2 x3 x5 0 ((9 * x3) + x5) X
set_option maxRecDepth 20000 in
theorem gB_X12_reckons_56 {C : Cx} {V : Ev} {L : List Kd} (hC : Ok C V cX12_reckons RX12 6 4 88) (hR : Rt C V L none rV) (hL : LKm L) {go2 : Int → Int → Int → Mem → Option (Int × Mem)} (hgo2 : ∀ (x1 : Int) (x2 : Int) (x3 : Int) (X : Mem), G C V L 0 0 6 2 [(0, vR V.1 120), (1, vI x1), (2, vI x2), (3, vI x3)] [] X (go2 x1 x2 x3 X)) (x1 : Int) (x2 : Int) (x3 : Int) (s0 : Int) (s1 : Int) (X : Mem)  : G C V L 0 0 6 56 [(0, vR V.1 120), (1, vI x1), (2, vI x2), (3, vI x3)] [vI s0, vI s1, vR V.1 133] X (B_X12_reckons_56  go2 x1 x2 x3 s0 s1 X) := by
  unfold B_X12_reckons_56
  refine g_zast hC (at_133 hL) (by decide) dX12_reckons_56 (fun X9 => ?_)
  refine g_iconst (v := vI 0) hC dX12_reckons_57 rfl ?_
  refine g_istore hC dX12_reckons_58 (by decide) rfl ?_
  refine g_sub [1, 2, 3, 4, 0] rfl ?_
  exact gL_X12_reckons_60 hC hR hL hgo2 KF x1 x2 x3 0 X9
set_option maxRecDepth 20000 in
theorem gB_X12_reckons_51 {C : Cx} {V : Ev} {L : List Kd} (hC : Ok C V cX12_reckons RX12 6 4 88) (hR : Rt C V L none rV) (hL : LKm L) {go2 : Int → Int → Int → Mem → Option (Int × Mem)} (hgo2 : ∀ (x1 : Int) (x2 : Int) (x3 : Int) (X : Mem), G C V L 0 0 6 2 [(0, vR V.1 120), (1, vI x1), (2, vI x2), (3, vI x3)] [] X (go2 x1 x2 x3 X)) (x1 : Int) (x2 : Int) (x3 : Int) (s0 : Int) (X : Mem)  : G C V L 0 0 6 51 [(0, vR V.1 120), (1, vI x1), (2, vI x2), (3, vI x3)] [vI s0, vR V.1 133] X (B_X12_reckons_51  go2 x1 x2 x3 s0 X) := by
  unfold B_X12_reckons_51
  refine g_iconst (v := vI 1) hC dX12_reckons_51 rfl ?_
  refine g_goto (tgt := 56) hC dX12_reckons_52 (by decide) ?_
  exact gB_X12_reckons_56 hC hR hL hgo2 x1 x2 x3 1 s0 X
set_option maxRecDepth 20000 in
theorem gB_X12_reckons_55 {C : Cx} {V : Ev} {L : List Kd} (hC : Ok C V cX12_reckons RX12 6 4 88) (hR : Rt C V L none rV) (hL : LKm L) {go2 : Int → Int → Int → Mem → Option (Int × Mem)} (hgo2 : ∀ (x1 : Int) (x2 : Int) (x3 : Int) (X : Mem), G C V L 0 0 6 2 [(0, vR V.1 120), (1, vI x1), (2, vI x2), (3, vI x3)] [] X (go2 x1 x2 x3 X)) (x1 : Int) (x2 : Int) (x3 : Int) (s0 : Int) (X : Mem)  : G C V L 0 0 6 55 [(0, vR V.1 120), (1, vI x1), (2, vI x2), (3, vI x3)] [vI s0, vR V.1 133] X (B_X12_reckons_55  go2 x1 x2 x3 s0 X) := by
  unfold B_X12_reckons_55
  refine g_iconst (v := vI 0) hC dX12_reckons_55 rfl ?_
  exact gB_X12_reckons_56 hC hR hL hgo2 x1 x2 x3 0 s0 X
set_option maxRecDepth 20000 in
theorem gL_X12_reckons_2 {C : Cx} {V : Ev} {L : List Kd} (hC : Ok C V cX12_reckons RX12 6 4 88) (hR : Rt C V L none rV) (hL : LKm L) : ∀ (n : Nat) (x1 : Int) (x2 : Int) (x3 : Int) (X : Mem), G C V L 0 0 6 2 [(0, vR V.1 120), (1, vI x1), (2, vI x2), (3, vI x3)] [] X (L_X12_reckons_2   n x1 x2 x3 X) := by
  intro n
  induction n with
  | zero => intro x1 x2 x3 X; exact g_none
  | succ n ih =>
    intro x1 x2 x3 X
    rw [L_X12_reckons_2]
    refine g_iload_n (q := 3) hC dX12_reckons_2 rfl rfl ?_
    refine g_aload_n (q := 0) hC dX12_reckons_3 rfl rfl rfl ?_
    refine g_callVI (As := []) hC mv_X12_cells wml_RX12_243 (k_X12_cells _ V hL X) cf_X12 (at_120 hL) (by decide) ⟨Nat.zero_le _, Nat.zero_le _⟩ rfl rfl ⟨Nat.le_of_ble_eq_true rfl, Nat.le_of_ble_eq_true rfl⟩ (Nat.le_of_ble_eq_true rfl) dX12_reckons_4 (fun r1 X2 => ?_)
    refine g_icmp_ge (tgt := 112) hC dX12_reckons_7 (by decide) ?_ ?_
    · refine g_sub [0, 1] rfl ?_
      exact gB_X12_reckons_112 hC hR hL  x1 X2
    · refine g_aload_n (q := 0) hC dX12_reckons_10 rfl rfl rfl ?_
      refine g_iload_n (q := 3) hC dX12_reckons_11 rfl rfl ?_
      refine g_callVI (As := [vI x3]) hC mv_X12_openOf wml_RX12_297 (k_X12_openOf _ V hL x3 X2) cf_X12 (at_120 hL) (by decide) ⟨Nat.zero_le _, Nat.zero_le _⟩ rfl rfl ⟨Nat.le_of_ble_eq_true rfl, Nat.le_of_ble_eq_true rfl⟩ (Nat.le_of_ble_eq_true rfl) dX12_reckons_12 (fun r7 X8 => ?_)
      refine g_istore hC dX12_reckons_15 (by decide) rfl ?_
      refine g_aload_n (q := 1) hC dX12_reckons_17 rfl rfl rfl ?_
      refine g_getS (k := 29) hC cf_X12 (at_120 hL) (by decide) rfl (by decide) (by decide) wf_RX12_59 dX12_reckons_18 ?_
      refine g_iload_n (q := 4) hC dX12_reckons_21 rfl rfl ?_
      refine g_iload (q := 0) hC dX12_reckons_22 rfl ?_
      refine g_iconst (v := vI 2) hC dX12_reckons_24 rfl ?_
      refine g_icmp_eq (tgt := 51) hC dX12_reckons_25 (by decide) ?_ ?_
      · refine g_sub [1, 2, 3, 4] rfl ?_
        exact gB_X12_reckons_51 hC hR hL ih x1 x2 x3 x3 X8
      · refine g_iload (q := 0) hC dX12_reckons_28 rfl ?_
        refine g_iconst (v := vI 1) hC dX12_reckons_30 rfl ?_
        refine g_icmp_ne (tgt := 55) hC dX12_reckons_31 (by decide) ?_ ?_
        · refine g_sub [1, 2, 3, 4] rfl ?_
          exact gB_X12_reckons_55 hC hR hL ih x1 x2 x3 x3 X8
        · refine g_iload_n (q := 3) hC dX12_reckons_34 rfl rfl ?_
          refine g_aload_n (q := 1) hC dX12_reckons_35 rfl rfl rfl ?_
          refine g_getS (k := 0) hC cf_X12 (at_120 hL) (by decide) rfl (by decide) (by decide) wf_RX12_7 dX12_reckons_36 ?_
          refine g_bipush (v := vI 108) hC dX12_reckons_39 rfl ?_
          refine g_iload_n (q := 4) hC dX12_reckons_41 rfl rfl ?_
          refine g_iadd hC dX12_reckons_42 ?_
          refine g_iald hC (at_121 hL) (by decide) dX12_reckons_43 ?_
          refine g_ishr hC dX12_reckons_44 ?_
          refine g_iconst (v := vI 1) hC dX12_reckons_45 rfl ?_
          refine g_iand hC dX12_reckons_46 ?_
          refine g_iconst (v := vI 1) hC dX12_reckons_47 rfl ?_
          refine g_icmp_ne (tgt := 55) hC dX12_reckons_48 (by decide) ?_ ?_
          · refine g_sub [1, 2, 3, 4] rfl ?_
            exact gB_X12_reckons_55 hC hR hL ih x1 x2 x3 x3 X8
          · refine g_sub [1, 2, 3, 4] rfl ?_
            exact gB_X12_reckons_51 hC hR hL ih x1 x2 x3 x3 X8
set_option maxRecDepth 20000 in
theorem k_X12_reckons (l : Launch) (V : Ev) {L : List Kd} (hL : LKm L) (p1 : Int) (p2 : Int) (X : Mem)  : Kt l V L yX12_reckons (.code yX12_reckons cX12_reckons 6 none) 4 88 [vR V.1 120, vI p1, vI p2] rV X (f_X12_reckons p1 p2 X) := by
  refine kt_of (own := RX12) (lv0 := [(0, vR V.1 120), (1, vI p1), (2, vI p2)]) (by decide) rfl (Nat.le_of_ble_eq_true rfl) rfl (fun C hCl hC hR => ?_)
  subst hCl
  unfold f_X12_reckons
  refine g_iconst (v := vI 0) hC dX12_reckons_0 rfl ?_
  refine g_istore_n hC dX12_reckons_1 rfl (by decide) rfl ?_
  refine g_sub [1, 2, 3, 0] rfl ?_
  exact gL_X12_reckons_2 hC hR hL  KF p1 p2 0 X
def B_X12_readies_152 (go87 : Int → Int → Int → Mem → Option (Int × Mem)) (x1 : Int) (x2 : Int) (x4 : Int) (s0 : Int) (s1 : Int) (X : Mem) : Option (Int × Mem) :=
  ax 32 s1 <| bd (ms X 134 s1 s0) fun X12 =>
  go87 x1 x2 (x4 + 1) X12
def B_X12_readies_151 (go87 : Int → Int → Int → Mem → Option (Int × Mem)) (x1 : Int) (x2 : Int) (x4 : Int) (s0 : Int) (X : Mem) : Option (Int × Mem) :=
  B_X12_readies_152  go87 x1 x2 x4 ((-1)) s0 X
def L_X12_readies_87 : Nat → Int → Int → Int → Mem → Option (Int × Mem)
  | 0, _, _, _, _ => none
  | n + 1, x1, x2, x4, X =>
    cl (f_X12_sets X) fun r8 X9 =>
    c2 x4 r8 <| if r8 ≤ x4 then
      some (0, X9)
    else
      cl (f_X12_reckons x2 x4 X9) fun _ X11 =>
      ax 60 x1 <|
      c1 (X11 133 x1) <| if (X11 133 x1) = 0 then
        B_X12_readies_151  (fun x1 x2 x4 X => L_X12_readies_87   n x1 x2 x4 X) x1 x2 x4 x4 X11
      else
        ax 540 ((9 * x1) + 8) <|
        c2 (X11 132 ((9 * x1) + 8)) 100000000 <| if 100000000 ≤ (X11 132 ((9 * x1) + 8)) then
          B_X12_readies_151  (fun x1 x2 x4 X => L_X12_readies_87   n x1 x2 x4 X) x1 x2 x4 x4 X11
        else
          ax 540 ((9 * x1) + 8) <|
          B_X12_readies_152  (fun x1 x2 x4 X => L_X12_readies_87   n x1 x2 x4 X) x1 x2 x4 (X11 132 ((9 * x1) + 8)) x4 X11
def B_X12_readies_61 (x1 : Int) (x2 : Int) (x3 : Int) (X : Mem) : Option (Int × Mem) :=
  bd (ms X 120 31 x1) fun X4 =>
  bd (ms X4 120 32 x2) fun X5 =>
  bd (ms X5 120 33 x3) fun X6 =>
  bd (ms X6 120 34 (X6 120 22)) fun X7 =>
  L_X12_readies_87   KF x1 x2 0 X7
def f_X12_readies (p1 : Int) (p2 : Int) (X : Mem) : Option (Int × Mem) :=
  ax 2200 5 <|
  ax 2200 4 <|
  ax 2200 3 <|
  cl (f_X12_stageOf (X 121 3) X) fun r1 X2 =>
  bd (((X 121 5) - (X 121 4)) - r1) fun v3 =>
  c2 (X2 120 31) p1 <| if ¬ (X2 120 31) = p1 then
    B_X12_readies_61   p1 p2 v3 X2
  else
    c2 (X2 120 32) p2 <| if ¬ (X2 120 32) = p2 then
      B_X12_readies_61   p1 p2 v3 X2
    else
      c2 (X2 120 33) v3 <| if ¬ (X2 120 33) = v3 then
        B_X12_readies_61   p1 p2 v3 X2
      else
        c2 (X2 120 34) (X2 120 22) <| if ¬ (X2 120 34) = (X2 120 22) then
          B_X12_readies_61   p1 p2 v3 X2
        else
          some (0, X2)
set_option maxRecDepth 20000 in
theorem gB_X12_readies_152 {C : Cx} {V : Ev} {L : List Kd} (hC : Ok C V cX12_readies RX12 5 5 113) (hR : Rt C V L none rV) (hL : LKm L) {go87 : Int → Int → Int → Mem → Option (Int × Mem)} (hgo87 : ∀ (x1 : Int) (x2 : Int) (x4 : Int) (X : Mem), G C V L 0 0 5 87 [(0, vR V.1 120), (1, vI x1), (2, vI x2), (4, vI x4)] [] X (go87 x1 x2 x4 X)) (x1 : Int) (x2 : Int) (x4 : Int) (s0 : Int) (s1 : Int) (X : Mem)  : G C V L 0 0 5 152 [(0, vR V.1 120), (1, vI x1), (2, vI x2), (4, vI x4)] [vI s0, vI s1, vR V.1 134] X (B_X12_readies_152  go87 x1 x2 x4 s0 s1 X) := by
  unfold B_X12_readies_152
  refine g_iast hC (at_134 hL) (by decide) dX12_readies_152 (fun X12 => ?_)
  refine g_iinc (q := 3) hC dX12_readies_153 rfl (by decide) rfl ?_
  refine g_goto (tgt := 87) hC dX12_readies_156 (by decide) ?_
  refine g_sub [1, 2, 3, 0] rfl ?_
  exact hgo87 x1 x2 (x4 + 1) X12
set_option maxRecDepth 20000 in
theorem gB_X12_readies_151 {C : Cx} {V : Ev} {L : List Kd} (hC : Ok C V cX12_readies RX12 5 5 113) (hR : Rt C V L none rV) (hL : LKm L) {go87 : Int → Int → Int → Mem → Option (Int × Mem)} (hgo87 : ∀ (x1 : Int) (x2 : Int) (x4 : Int) (X : Mem), G C V L 0 0 5 87 [(0, vR V.1 120), (1, vI x1), (2, vI x2), (4, vI x4)] [] X (go87 x1 x2 x4 X)) (x1 : Int) (x2 : Int) (x4 : Int) (s0 : Int) (X : Mem)  : G C V L 0 0 5 151 [(0, vR V.1 120), (1, vI x1), (2, vI x2), (4, vI x4)] [vI s0, vR V.1 134] X (B_X12_readies_151  go87 x1 x2 x4 s0 X) := by
  unfold B_X12_readies_151
  refine g_iconst (v := vI (-1)) hC dX12_readies_151 rfl ?_
  exact gB_X12_readies_152 hC hR hL hgo87 x1 x2 x4 ((-1)) s0 X
set_option maxRecDepth 20000 in
theorem gL_X12_readies_87 {C : Cx} {V : Ev} {L : List Kd} (hC : Ok C V cX12_readies RX12 5 5 113) (hR : Rt C V L none rV) (hL : LKm L) : ∀ (n : Nat) (x1 : Int) (x2 : Int) (x4 : Int) (X : Mem), G C V L 0 0 5 87 [(0, vR V.1 120), (1, vI x1), (2, vI x2), (4, vI x4)] [] X (L_X12_readies_87   n x1 x2 x4 X) := by
  intro n
  induction n with
  | zero => intro x1 x2 x4 X; exact g_none
  | succ n ih =>
    intro x1 x2 x4 X
    rw [L_X12_readies_87]
    refine g_iload (q := 3) hC dX12_readies_87 rfl ?_
    refine g_aload_n (q := 0) hC dX12_readies_89 rfl rfl rfl ?_
    refine g_callVI (As := []) hC mv_X12_sets wml_RX12_263 (k_X12_sets _ V hL X) cf_X12 (at_120 hL) (by decide) ⟨Nat.zero_le _, Nat.zero_le _⟩ rfl rfl ⟨Nat.le_of_ble_eq_true rfl, Nat.le_of_ble_eq_true rfl⟩ (Nat.le_of_ble_eq_true rfl) dX12_readies_90 (fun r8 X9 => ?_)
    refine g_icmp_ge (tgt := 159) hC dX12_readies_93 (by decide) ?_ ?_
    · exact g_vret hC hR dX12_readies_159
    · refine g_aload_n (q := 0) hC dX12_readies_96 rfl rfl rfl ?_
      refine g_iload_n (q := 2) hC dX12_readies_97 rfl rfl ?_
      refine g_iload (q := 3) hC dX12_readies_98 rfl ?_
      refine g_callVV (As := [vI x2, vI x4]) hC mv_X12_reckons wml_RX12_365 (k_X12_reckons _ V hL x2 x4 X9) cf_X12 (at_120 hL) (by decide) ⟨Nat.zero_le _, Nat.zero_le _⟩ rfl rfl ⟨Nat.le_of_ble_eq_true rfl, Nat.le_of_ble_eq_true rfl⟩ (Nat.le_of_ble_eq_true rfl) dX12_readies_100 (fun _ X11 => ?_)
      refine g_aload_n (q := 0) hC dX12_readies_103 rfl rfl rfl ?_
      refine g_getS (k := 30) hC cf_X12 (at_120 hL) (by decide) rfl (by decide) (by decide) wf_RX12_63 dX12_readies_104 ?_
      refine g_iload (q := 3) hC dX12_readies_107 rfl ?_
      refine g_aload_n (q := 0) hC dX12_readies_109 rfl rfl rfl ?_
      refine g_getS (k := 29) hC cf_X12 (at_120 hL) (by decide) rfl (by decide) (by decide) wf_RX12_59 dX12_readies_110 ?_
      refine g_iload_n (q := 1) hC dX12_readies_113 rfl rfl ?_
      refine g_zald hC (at_133 hL) (by decide) dX12_readies_114 ?_
      refine g_if_eq (tgt := 151) hC dX12_readies_115 (by decide) ?_ ?_
      · exact gB_X12_readies_151 hC hR hL ih x1 x2 x4 x4 X11
      · refine g_aload_n (q := 0) hC dX12_readies_118 rfl rfl rfl ?_
        refine g_getS (k := 28) hC cf_X12 (at_120 hL) (by decide) rfl (by decide) (by decide) wf_RX12_56 dX12_readies_119 ?_
        refine g_bipush (v := vI 9) hC dX12_readies_122 rfl ?_
        refine g_iload_n (q := 1) hC dX12_readies_124 rfl rfl ?_
        refine g_imul hC dX12_readies_125 ?_
        refine g_bipush (v := vI 8) hC dX12_readies_126 rfl ?_
        refine g_iadd hC dX12_readies_128 ?_
        refine g_iald hC (at_132 hL) (by decide) dX12_readies_129 ?_
        refine g_ldcw (n := 100000000) hC wk_RX12_352 rfl dX12_readies_130 ?_
        refine g_icmp_ge (tgt := 151) hC dX12_readies_133 (by decide) ?_ ?_
        · exact gB_X12_readies_151 hC hR hL ih x1 x2 x4 x4 X11
        · refine g_aload_n (q := 0) hC dX12_readies_136 rfl rfl rfl ?_
          refine g_getS (k := 28) hC cf_X12 (at_120 hL) (by decide) rfl (by decide) (by decide) wf_RX12_56 dX12_readies_137 ?_
          refine g_bipush (v := vI 9) hC dX12_readies_140 rfl ?_
          refine g_iload_n (q := 1) hC dX12_readies_142 rfl rfl ?_
          refine g_imul hC dX12_readies_143 ?_
          refine g_bipush (v := vI 8) hC dX12_readies_144 rfl ?_
          refine g_iadd hC dX12_readies_146 ?_
          refine g_iald hC (at_132 hL) (by decide) dX12_readies_147 ?_
          refine g_goto (tgt := 152) hC dX12_readies_148 (by decide) ?_
          exact gB_X12_readies_152 hC hR hL ih x1 x2 x4 (X11 132 ((9 * x1) + 8)) x4 X11
set_option maxRecDepth 20000 in
theorem gB_X12_readies_61 {C : Cx} {V : Ev} {L : List Kd} (hC : Ok C V cX12_readies RX12 5 5 113) (hR : Rt C V L none rV) (hL : LKm L) (x1 : Int) (x2 : Int) (x3 : Int) (X : Mem)  : G C V L 0 0 5 61 [(0, vR V.1 120), (1, vI x1), (2, vI x2), (3, vI x3)] [] X (B_X12_readies_61   x1 x2 x3 X) := by
  unfold B_X12_readies_61
  refine g_aload_n (q := 0) hC dX12_readies_61 rfl rfl rfl ?_
  refine g_iload_n (q := 1) hC dX12_readies_62 rfl rfl ?_
  refine g_putI (k := 31) (kz := 31) hC cf_X12 (at_120 hL) (by decide) rfl (by decide) rfl wf_RX12_66 rfl rfl dX12_readies_63 (fun X4 => ?_)
  refine g_aload_n (q := 0) hC dX12_readies_66 rfl rfl rfl ?_
  refine g_iload_n (q := 2) hC dX12_readies_67 rfl rfl ?_
  refine g_putI (k := 32) (kz := 32) hC cf_X12 (at_120 hL) (by decide) rfl (by decide) rfl wf_RX12_356 rfl rfl dX12_readies_68 (fun X5 => ?_)
  refine g_aload_n (q := 0) hC dX12_readies_71 rfl rfl rfl ?_
  refine g_iload_n (q := 3) hC dX12_readies_72 rfl rfl ?_
  refine g_putI (k := 33) (kz := 33) hC cf_X12 (at_120 hL) (by decide) rfl (by decide) rfl wf_RX12_359 rfl rfl dX12_readies_73 (fun X6 => ?_)
  refine g_aload_n (q := 0) hC dX12_readies_76 rfl rfl rfl ?_
  refine g_aload_n (q := 0) hC dX12_readies_77 rfl rfl rfl ?_
  refine g_getI (k := 22) (kz := 22) hC cf_X12 (at_120 hL) (by decide) rfl (by decide) rfl wf_RX12_240 dX12_readies_78 ?_
  refine g_putI (k := 34) (kz := 34) hC cf_X12 (at_120 hL) (by decide) rfl (by decide) rfl wf_RX12_362 rfl rfl dX12_readies_81 (fun X7 => ?_)
  refine g_iconst (v := vI 0) hC dX12_readies_84 rfl ?_
  refine g_istore hC dX12_readies_85 (by decide) rfl ?_
  refine g_sub [1, 2, 3, 0] rfl ?_
  exact gL_X12_readies_87 hC hR hL  KF x1 x2 0 X7
set_option maxRecDepth 20000 in
theorem k_X12_readies (l : Launch) (V : Ev) {L : List Kd} (hL : LKm L) (p1 : Int) (p2 : Int) (X : Mem)  : Kt l V L yX12_readies (.code yX12_readies cX12_readies 5 none) 5 113 [vR V.1 120, vI p1, vI p2] rV X (f_X12_readies p1 p2 X) := by
  refine kt_of (own := RX12) (lv0 := [(0, vR V.1 120), (1, vI p1), (2, vI p2)]) (by decide) rfl (Nat.le_of_ble_eq_true rfl) rfl (fun C hCl hC hR => ?_)
  subst hCl
  unfold f_X12_readies
  refine g_aload_n (q := 0) hC dX12_readies_0 rfl rfl rfl ?_
  refine g_getS (k := 0) hC cf_X12 (at_120 hL) (by decide) rfl (by decide) (by decide) wf_RX12_7 dX12_readies_1 ?_
  refine g_iconst (v := vI 5) hC dX12_readies_4 rfl ?_
  refine g_iald hC (at_121 hL) (by decide) dX12_readies_5 ?_
  refine g_aload_n (q := 0) hC dX12_readies_6 rfl rfl rfl ?_
  refine g_getS (k := 0) hC cf_X12 (at_120 hL) (by decide) rfl (by decide) (by decide) wf_RX12_7 dX12_readies_7 ?_
  refine g_iconst (v := vI 4) hC dX12_readies_10 rfl ?_
  refine g_iald hC (at_121 hL) (by decide) dX12_readies_11 ?_
  refine g_isub hC dX12_readies_12 ?_
  refine g_aload_n (q := 0) hC dX12_readies_13 rfl rfl rfl ?_
  refine g_aload_n (q := 0) hC dX12_readies_14 rfl rfl rfl ?_
  refine g_getS (k := 0) hC cf_X12 (at_120 hL) (by decide) rfl (by decide) (by decide) wf_RX12_7 dX12_readies_15 ?_
  refine g_iconst (v := vI 3) hC dX12_readies_18 rfl ?_
  refine g_iald hC (at_121 hL) (by decide) dX12_readies_19 ?_
  refine g_callVI (As := [vI (X 121 3)]) hC mv_X12_stageOf wml_RX12_285 (k_X12_stageOf _ V hL (X 121 3) X) cf_X12 (at_120 hL) (by decide) ⟨Nat.zero_le _, Nat.zero_le _⟩ rfl rfl ⟨Nat.le_of_ble_eq_true rfl, Nat.le_of_ble_eq_true rfl⟩ (Nat.le_of_ble_eq_true rfl) dX12_readies_20 (fun r1 X2 => ?_)
  refine g_isub hC dX12_readies_23 ?_
  refine g_topI (fun v3 => ?_)
  refine g_istore_n hC dX12_readies_24 rfl (by decide) rfl ?_
  refine g_aload_n (q := 1) hC dX12_readies_25 rfl rfl rfl ?_
  refine g_getI (k := 31) (kz := 31) hC cf_X12 (at_120 hL) (by decide) rfl (by decide) rfl wf_RX12_66 dX12_readies_26 ?_
  refine g_iload_n (q := 2) hC dX12_readies_29 rfl rfl ?_
  refine g_icmp_ne (tgt := 61) hC dX12_readies_30 (by decide) ?_ ?_
  · refine g_sub [1, 2, 3, 0] rfl ?_
    exact gB_X12_readies_61 hC hR hL  p1 p2 v3 X2
  · refine g_aload_n (q := 1) hC dX12_readies_33 rfl rfl rfl ?_
    refine g_getI (k := 32) (kz := 32) hC cf_X12 (at_120 hL) (by decide) rfl (by decide) rfl wf_RX12_356 dX12_readies_34 ?_
    refine g_iload_n (q := 3) hC dX12_readies_37 rfl rfl ?_
    refine g_icmp_ne (tgt := 61) hC dX12_readies_38 (by decide) ?_ ?_
    · refine g_sub [1, 2, 3, 0] rfl ?_
      exact gB_X12_readies_61 hC hR hL  p1 p2 v3 X2
    · refine g_aload_n (q := 1) hC dX12_readies_41 rfl rfl rfl ?_
      refine g_getI (k := 33) (kz := 33) hC cf_X12 (at_120 hL) (by decide) rfl (by decide) rfl wf_RX12_359 dX12_readies_42 ?_
      refine g_iload_n (q := 0) hC dX12_readies_45 rfl rfl ?_
      refine g_icmp_ne (tgt := 61) hC dX12_readies_46 (by decide) ?_ ?_
      · refine g_sub [1, 2, 3, 0] rfl ?_
        exact gB_X12_readies_61 hC hR hL  p1 p2 v3 X2
      · refine g_aload_n (q := 1) hC dX12_readies_49 rfl rfl rfl ?_
        refine g_getI (k := 34) (kz := 34) hC cf_X12 (at_120 hL) (by decide) rfl (by decide) rfl wf_RX12_362 dX12_readies_50 ?_
        refine g_aload_n (q := 1) hC dX12_readies_53 rfl rfl rfl ?_
        refine g_getI (k := 22) (kz := 22) hC cf_X12 (at_120 hL) (by decide) rfl (by decide) rfl wf_RX12_240 dX12_readies_54 ?_
        refine g_icmp_ne (tgt := 61) hC dX12_readies_57 (by decide) ?_ ?_
        · refine g_sub [1, 2, 3, 0] rfl ?_
          exact gB_X12_readies_61 hC hR hL  p1 p2 v3 X2
        · exact g_vret hC hR dX12_readies_60
def B_X12_walks_182 (go22 : Int → Int → Mem → Option (Int × Mem)) (x2 : Int) (x6 : Int) (x7 : Int) (X : Mem) : Option (Int × Mem) :=
  ax 2000 (X 120 36) <| bd (ms X 135 (X 120 36) x6) fun X6 =>
  bd (ms X6 120 36 ((X6 120 36) + 1)) fun X7 =>
  go22 x2 x7 X7
def B_X12_walks_176 (go22 : Int → Int → Mem → Option (Int × Mem)) (go59 : Int → Int → Int → Int → Int → Int → Mem → Option (Int × Mem)) (x2 : Int) (x4 : Int) (x5 : Int) (x6 : Int) (x7 : Int) (x8 : Int) (X : Mem) : Option (Int × Mem) :=
  go59 x2 x4 x5 x6 x7 (x8 + 1) X
def B_X12_walks_168 (go22 : Int → Int → Mem → Option (Int × Mem)) (go59 : Int → Int → Int → Int → Int → Int → Mem → Option (Int × Mem)) (x2 : Int) (x4 : Int) (x5 : Int) (x8 : Int) (x9 : Int) (X : Mem) : Option (Int × Mem) :=
  B_X12_walks_176  go22 go59 x2 x4 x5 x9 x8 x8 X
def L_X12_walks_59 (go22 : Int → Int → Mem → Option (Int × Mem)) : Nat → Int → Int → Int → Int → Int → Int → Mem → Option (Int × Mem)
  | 0, _, _, _, _, _, _, _ => none
  | n + 1, x2, x4, x5, x6, x7, x8, X =>
    c2 x8 8 <| if 8 ≤ x8 then
      B_X12_walks_182  go22 x2 x6 x7 X
    else
      cl (f_X12_leads x5 x8 X) fun r8 X9 =>
      c2 r8 ((-1)) <| if r8 = ((-1)) then
        B_X12_walks_176  go22 (fun x2 x4 x5 x6 x7 x8 X => L_X12_walks_59  go22 n x2 x4 x5 x6 x7 x8 X) x2 x4 x5 x6 x7 x8 X9
      else
        ax 60 r8 <|
        c1 (X9 133 r8) <| if (X9 133 r8) = 0 then
          B_X12_walks_176  go22 (fun x2 x4 x5 x6 x7 x8 X => L_X12_walks_59  go22 n x2 x4 x5 x6 x7 x8 X) x2 x4 x5 x6 x7 x8 X9
        else
          ax 540 ((9 * r8) + x8) <|
          c2 (X9 132 ((9 * r8) + x8)) 100000000 <| if (X9 132 ((9 * r8) + x8)) = 100000000 then
            B_X12_walks_176  go22 (fun x2 x4 x5 x6 x7 x8 X => L_X12_walks_59  go22 n x2 x4 x5 x6 x7 x8 X) x2 x4 x5 x6 x7 x8 X9
          else
            cl (f_X12_stepMinutes x4 x8 X9) fun r10 X11 =>
            ax 540 ((9 * r8) + x8) <|
            ax 540 ((9 * x5) + x4) <|
            c2 (r10 + (X11 132 ((9 * r8) + x8))) (X11 132 ((9 * x5) + x4)) <| if (r10 + (X11 132 ((9 * r8) + x8))) = (X11 132 ((9 * x5) + x4)) then
              c2 x6 ((-1)) <| if x6 = ((-1)) then
                B_X12_walks_168  go22 (fun x2 x4 x5 x6 x7 x8 X => L_X12_walks_59  go22 n x2 x4 x5 x6 x7 x8 X) x2 x4 x5 x8 r8 X11
              else
                c2 r8 x6 <| if r8 < x6 then
                  B_X12_walks_168  go22 (fun x2 x4 x5 x6 x7 x8 X => L_X12_walks_59  go22 n x2 x4 x5 x6 x7 x8 X) x2 x4 x5 x8 r8 X11
                else
                  B_X12_walks_176  go22 (fun x2 x4 x5 x6 x7 x8 X => L_X12_walks_59  go22 n x2 x4 x5 x6 x7 x8 X) x2 x4 x5 x6 x7 x8 X11
            else
              B_X12_walks_176  go22 (fun x2 x4 x5 x6 x7 x8 X => L_X12_walks_59  go22 n x2 x4 x5 x6 x7 x8 X) x2 x4 x5 x6 x7 x8 X11
def L_X12_walks_22 : Nat → Int → Int → Mem → Option (Int × Mem)
  | 0, _, _, _ => none
  | n + 1, x2, x4, X =>
    ax 2000 ((X 120 36) - 1) <|
    c2 (X 135 ((X 120 36) - 1)) x2 <| if (X 135 ((X 120 36) - 1)) = x2 then
      some (0, X)
    else
      ax 2000 ((X 120 36) - 1) <|
      bd (X 135 ((X 120 36) - 1)) fun v5 =>
      L_X12_walks_59  (fun x2 x4 X => L_X12_walks_22   n x2 x4 X) KF x2 x4 v5 ((-1)) ((-1)) 0 X
def f_X12_walks (p1 : Int) (p2 : Int) (p3 : Int) (X : Mem) : Option (Int × Mem) :=
  cl (f_X12_reckons p2 p3 X) fun _ X2 =>
  ax 2000 0 <| bd (ms X2 135 0 p1) fun X3 =>
  bd (ms X3 120 36 1) fun X4 =>
  L_X12_walks_22   KF p2 8 X4
set_option maxRecDepth 20000 in
theorem gB_X12_walks_182 {C : Cx} {V : Ev} {L : List Kd} (hC : Ok C V cX12_walks RX12 10 5 113) (hR : Rt C V L none rV) (hL : LKm L) {go22 : Int → Int → Mem → Option (Int × Mem)} (hgo22 : ∀ (x2 : Int) (x4 : Int) (X : Mem), G C V L 0 0 10 22 [(0, vR V.1 120), (2, vI x2), (4, vI x4)] [] X (go22 x2 x4 X)) (x2 : Int) (x6 : Int) (x7 : Int) (X : Mem)  : G C V L 0 0 10 182 [(0, vR V.1 120), (2, vI x2), (6, vI x6), (7, vI x7)] [] X (B_X12_walks_182  go22 x2 x6 x7 X) := by
  unfold B_X12_walks_182
  refine g_aload_n (q := 0) hC dX12_walks_182 rfl rfl rfl ?_
  refine g_getS (k := 35) hC cf_X12 (at_120 hL) (by decide) rfl (by decide) (by decide) wf_RX12_69 dX12_walks_183 ?_
  refine g_aload_n (q := 0) hC dX12_walks_186 rfl rfl rfl ?_
  refine g_getI (k := 36) (kz := 36) hC cf_X12 (at_120 hL) (by decide) rfl (by decide) rfl wf_RX12_368 dX12_walks_187 ?_
  refine g_iload (q := 2) hC dX12_walks_190 rfl ?_
  refine g_iast hC (at_135 hL) (by decide) dX12_walks_192 (fun X6 => ?_)
  refine g_aload_n (q := 0) hC dX12_walks_193 rfl rfl rfl ?_
  refine g_dup hC dX12_walks_194 rfl ?_
  refine g_getI (k := 36) (kz := 36) hC cf_X12 (at_120 hL) (by decide) rfl (by decide) rfl wf_RX12_368 dX12_walks_195 ?_
  refine g_iconst (v := vI 1) hC dX12_walks_198 rfl ?_
  refine g_iadd hC dX12_walks_199 ?_
  refine g_putI (k := 36) (kz := 36) hC cf_X12 (at_120 hL) (by decide) rfl (by decide) rfl wf_RX12_368 rfl rfl dX12_walks_200 (fun X7 => ?_)
  refine g_iload (q := 3) hC dX12_walks_203 rfl ?_
  refine g_istore hC dX12_walks_205 (by decide) rfl ?_
  refine g_goto (tgt := 22) hC dX12_walks_207 (by decide) ?_
  refine g_sub [1, 2, 0] rfl ?_
  exact hgo22 x2 x7 X7
set_option maxRecDepth 20000 in
theorem gB_X12_walks_176 {C : Cx} {V : Ev} {L : List Kd} (hC : Ok C V cX12_walks RX12 10 5 113) (hR : Rt C V L none rV) (hL : LKm L) {go22 : Int → Int → Mem → Option (Int × Mem)} {go59 : Int → Int → Int → Int → Int → Int → Mem → Option (Int × Mem)} (hgo22 : ∀ (x2 : Int) (x4 : Int) (X : Mem), G C V L 0 0 10 22 [(0, vR V.1 120), (2, vI x2), (4, vI x4)] [] X (go22 x2 x4 X)) (hgo59 : ∀ (x2 : Int) (x4 : Int) (x5 : Int) (x6 : Int) (x7 : Int) (x8 : Int) (X : Mem), G C V L 0 0 10 59 [(0, vR V.1 120), (2, vI x2), (4, vI x4), (5, vI x5), (6, vI x6), (7, vI x7), (8, vI x8)] [] X (go59 x2 x4 x5 x6 x7 x8 X)) (x2 : Int) (x4 : Int) (x5 : Int) (x6 : Int) (x7 : Int) (x8 : Int) (X : Mem)  : G C V L 0 0 10 176 [(0, vR V.1 120), (2, vI x2), (4, vI x4), (5, vI x5), (6, vI x6), (7, vI x7), (8, vI x8)] [] X (B_X12_walks_176  go22 go59 x2 x4 x5 x6 x7 x8 X) := by
  unfold B_X12_walks_176
  refine g_iinc (q := 6) hC dX12_walks_176 rfl (by decide) rfl ?_
  refine g_goto (tgt := 59) hC dX12_walks_179 (by decide) ?_
  refine g_sub [1, 2, 3, 4, 5, 6, 0] rfl ?_
  exact hgo59 x2 x4 x5 x6 x7 (x8 + 1) X
set_option maxRecDepth 20000 in
theorem gB_X12_walks_168 {C : Cx} {V : Ev} {L : List Kd} (hC : Ok C V cX12_walks RX12 10 5 113) (hR : Rt C V L none rV) (hL : LKm L) {go22 : Int → Int → Mem → Option (Int × Mem)} {go59 : Int → Int → Int → Int → Int → Int → Mem → Option (Int × Mem)} (hgo22 : ∀ (x2 : Int) (x4 : Int) (X : Mem), G C V L 0 0 10 22 [(0, vR V.1 120), (2, vI x2), (4, vI x4)] [] X (go22 x2 x4 X)) (hgo59 : ∀ (x2 : Int) (x4 : Int) (x5 : Int) (x6 : Int) (x7 : Int) (x8 : Int) (X : Mem), G C V L 0 0 10 59 [(0, vR V.1 120), (2, vI x2), (4, vI x4), (5, vI x5), (6, vI x6), (7, vI x7), (8, vI x8)] [] X (go59 x2 x4 x5 x6 x7 x8 X)) (x2 : Int) (x4 : Int) (x5 : Int) (x8 : Int) (x9 : Int) (X : Mem)  : G C V L 0 0 10 168 [(0, vR V.1 120), (2, vI x2), (4, vI x4), (5, vI x5), (8, vI x8), (9, vI x9)] [] X (B_X12_walks_168  go22 go59 x2 x4 x5 x8 x9 X) := by
  unfold B_X12_walks_168
  refine g_iload (q := 5) hC dX12_walks_168 rfl ?_
  refine g_istore hC dX12_walks_170 (by decide) rfl ?_
  refine g_iload (q := 5) hC dX12_walks_172 rfl ?_
  refine g_istore hC dX12_walks_174 (by decide) rfl ?_
  refine g_sub [2, 3, 4, 5, 1, 0, 6] rfl ?_
  exact gB_X12_walks_176 hC hR hL hgo22 hgo59 x2 x4 x5 x9 x8 x8 X
set_option maxRecDepth 20000 in
theorem gL_X12_walks_59 {C : Cx} {V : Ev} {L : List Kd} (hC : Ok C V cX12_walks RX12 10 5 113) (hR : Rt C V L none rV) (hL : LKm L) {go22 : Int → Int → Mem → Option (Int × Mem)} (hgo22 : ∀ (x2 : Int) (x4 : Int) (X : Mem), G C V L 0 0 10 22 [(0, vR V.1 120), (2, vI x2), (4, vI x4)] [] X (go22 x2 x4 X)) : ∀ (n : Nat) (x2 : Int) (x4 : Int) (x5 : Int) (x6 : Int) (x7 : Int) (x8 : Int) (X : Mem), G C V L 0 0 10 59 [(0, vR V.1 120), (2, vI x2), (4, vI x4), (5, vI x5), (6, vI x6), (7, vI x7), (8, vI x8)] [] X (L_X12_walks_59  go22 n x2 x4 x5 x6 x7 x8 X) := by
  intro n
  induction n with
  | zero => intro x2 x4 x5 x6 x7 x8 X; exact g_none
  | succ n ih =>
    intro x2 x4 x5 x6 x7 x8 X
    rw [L_X12_walks_59]
    refine g_iload (q := 6) hC dX12_walks_59 rfl ?_
    refine g_bipush (v := vI 8) hC dX12_walks_61 rfl ?_
    refine g_icmp_ge (tgt := 182) hC dX12_walks_63 (by decide) ?_ ?_
    · refine g_sub [0, 1, 4, 5] rfl ?_
      exact gB_X12_walks_182 hC hR hL hgo22 x2 x6 x7 X
    · refine g_aload_n (q := 0) hC dX12_walks_66 rfl rfl rfl ?_
      refine g_iload (q := 3) hC dX12_walks_67 rfl ?_
      refine g_iload (q := 6) hC dX12_walks_69 rfl ?_
      refine g_callVI (As := [vI x5, vI x8]) hC mv_X12_leads wml_RX12_333 (k_X12_leads _ V hL x5 x8 X) cf_X12 (at_120 hL) (by decide) ⟨Nat.zero_le _, Nat.zero_le _⟩ rfl rfl ⟨Nat.le_of_ble_eq_true rfl, Nat.le_of_ble_eq_true rfl⟩ (Nat.le_of_ble_eq_true rfl) dX12_walks_71 (fun r8 X9 => ?_)
      refine g_istore hC dX12_walks_74 (by decide) rfl ?_
      refine g_iload (q := 0) hC dX12_walks_76 rfl ?_
      refine g_iconst (v := vI (-1)) hC dX12_walks_78 rfl ?_
      refine g_icmp_eq (tgt := 176) hC dX12_walks_79 (by decide) ?_ ?_
      · refine g_sub [1, 2, 3, 4, 5, 6, 7] rfl ?_
        exact gB_X12_walks_176 hC hR hL hgo22 ih x2 x4 x5 x6 x7 x8 X9
      · refine g_aload_n (q := 1) hC dX12_walks_82 rfl rfl rfl ?_
        refine g_getS (k := 29) hC cf_X12 (at_120 hL) (by decide) rfl (by decide) (by decide) wf_RX12_59 dX12_walks_83 ?_
        refine g_iload (q := 0) hC dX12_walks_86 rfl ?_
        refine g_zald hC (at_133 hL) (by decide) dX12_walks_88 ?_
        refine g_if_eq (tgt := 176) hC dX12_walks_89 (by decide) ?_ ?_
        · refine g_sub [1, 2, 3, 4, 5, 6, 7] rfl ?_
          exact gB_X12_walks_176 hC hR hL hgo22 ih x2 x4 x5 x6 x7 x8 X9
        · refine g_aload_n (q := 1) hC dX12_walks_92 rfl rfl rfl ?_
          refine g_getS (k := 28) hC cf_X12 (at_120 hL) (by decide) rfl (by decide) (by decide) wf_RX12_56 dX12_walks_93 ?_
          refine g_bipush (v := vI 9) hC dX12_walks_96 rfl ?_
          refine g_iload (q := 0) hC dX12_walks_98 rfl ?_
          refine g_imul hC dX12_walks_100 ?_
          refine g_iload (q := 7) hC dX12_walks_101 rfl ?_
          refine g_iadd hC dX12_walks_103 ?_
          refine g_iald hC (at_132 hL) (by decide) dX12_walks_104 ?_
          refine g_ldcw (n := 100000000) hC wk_RX12_352 rfl dX12_walks_105 ?_
          refine g_icmp_eq (tgt := 176) hC dX12_walks_108 (by decide) ?_ ?_
          · refine g_sub [1, 2, 3, 4, 5, 6, 7] rfl ?_
            exact gB_X12_walks_176 hC hR hL hgo22 ih x2 x4 x5 x6 x7 x8 X9
          · refine g_aload_n (q := 1) hC dX12_walks_111 rfl rfl rfl ?_
            refine g_iload (q := 3) hC dX12_walks_112 rfl ?_
            refine g_iload (q := 7) hC dX12_walks_114 rfl ?_
            refine g_callVI (As := [vI x4, vI x8]) hC mv_X12_stepMinutes wml_RX12_345 (k_X12_stepMinutes _ V hL x4 x8 X9) cf_X12 (at_120 hL) (by decide) ⟨Nat.zero_le _, Nat.zero_le _⟩ rfl rfl ⟨Nat.le_of_ble_eq_true rfl, Nat.le_of_ble_eq_true rfl⟩ (Nat.le_of_ble_eq_true rfl) dX12_walks_116 (fun r10 X11 => ?_)
            refine g_aload_n (q := 1) hC dX12_walks_119 rfl rfl rfl ?_
            refine g_getS (k := 28) hC cf_X12 (at_120 hL) (by decide) rfl (by decide) (by decide) wf_RX12_56 dX12_walks_120 ?_
            refine g_bipush (v := vI 9) hC dX12_walks_123 rfl ?_
            refine g_iload (q := 0) hC dX12_walks_125 rfl ?_
            refine g_imul hC dX12_walks_127 ?_
            refine g_iload (q := 7) hC dX12_walks_128 rfl ?_
            refine g_iadd hC dX12_walks_130 ?_
            refine g_iald hC (at_132 hL) (by decide) dX12_walks_131 ?_
            refine g_iadd hC dX12_walks_132 ?_
            refine g_aload_n (q := 1) hC dX12_walks_133 rfl rfl rfl ?_
            refine g_getS (k := 28) hC cf_X12 (at_120 hL) (by decide) rfl (by decide) (by decide) wf_RX12_56 dX12_walks_134 ?_
            refine g_bipush (v := vI 9) hC dX12_walks_137 rfl ?_
            refine g_iload (q := 4) hC dX12_walks_139 rfl ?_
            refine g_imul hC dX12_walks_141 ?_
            refine g_iload (q := 3) hC dX12_walks_142 rfl ?_
            refine g_iadd hC dX12_walks_144 ?_
            refine g_iald hC (at_132 hL) (by decide) dX12_walks_145 ?_
            refine g_icmp_eq (tgt := 152) hC dX12_walks_146 (by decide) ?_ ?_
            · refine g_iload (q := 5) hC dX12_walks_152 rfl ?_
              refine g_iconst (v := vI (-1)) hC dX12_walks_154 rfl ?_
              refine g_icmp_eq (tgt := 168) hC dX12_walks_155 (by decide) ?_ ?_
              · refine g_sub [1, 2, 3, 4, 7, 0] rfl ?_
                exact gB_X12_walks_168 hC hR hL hgo22 ih x2 x4 x5 x8 r8 X11
              · refine g_iload (q := 0) hC dX12_walks_158 rfl ?_
                refine g_iload (q := 5) hC dX12_walks_160 rfl ?_
                refine g_icmp_lt (tgt := 168) hC dX12_walks_162 (by decide) ?_ ?_
                · refine g_sub [1, 2, 3, 4, 7, 0] rfl ?_
                  exact gB_X12_walks_168 hC hR hL hgo22 ih x2 x4 x5 x8 r8 X11
                · refine g_goto (tgt := 176) hC dX12_walks_165 (by decide) ?_
                  refine g_sub [1, 2, 3, 4, 5, 6, 7] rfl ?_
                  exact gB_X12_walks_176 hC hR hL hgo22 ih x2 x4 x5 x6 x7 x8 X11
            · refine g_goto (tgt := 176) hC dX12_walks_149 (by decide) ?_
              refine g_sub [1, 2, 3, 4, 5, 6, 7] rfl ?_
              exact gB_X12_walks_176 hC hR hL hgo22 ih x2 x4 x5 x6 x7 x8 X11
set_option maxRecDepth 20000 in
theorem gL_X12_walks_22 {C : Cx} {V : Ev} {L : List Kd} (hC : Ok C V cX12_walks RX12 10 5 113) (hR : Rt C V L none rV) (hL : LKm L) : ∀ (n : Nat) (x2 : Int) (x4 : Int) (X : Mem), G C V L 0 0 10 22 [(0, vR V.1 120), (2, vI x2), (4, vI x4)] [] X (L_X12_walks_22   n x2 x4 X) := by
  intro n
  induction n with
  | zero => intro x2 x4 X; exact g_none
  | succ n ih =>
    intro x2 x4 X
    rw [L_X12_walks_22]
    refine g_aload_n (q := 0) hC dX12_walks_22 rfl rfl rfl ?_
    refine g_getS (k := 35) hC cf_X12 (at_120 hL) (by decide) rfl (by decide) (by decide) wf_RX12_69 dX12_walks_23 ?_
    refine g_aload_n (q := 0) hC dX12_walks_26 rfl rfl rfl ?_
    refine g_getI (k := 36) (kz := 36) hC cf_X12 (at_120 hL) (by decide) rfl (by decide) rfl wf_RX12_368 dX12_walks_27 ?_
    refine g_iconst (v := vI 1) hC dX12_walks_30 rfl ?_
    refine g_isub hC dX12_walks_31 ?_
    refine g_iald hC (at_135 hL) (by decide) dX12_walks_32 ?_
    refine g_iload_n (q := 1) hC dX12_walks_33 rfl rfl ?_
    refine g_icmp_eq (tgt := 210) hC dX12_walks_34 (by decide) ?_ ?_
    · exact g_vret hC hR dX12_walks_210
    · refine g_aload_n (q := 0) hC dX12_walks_37 rfl rfl rfl ?_
      refine g_getS (k := 35) hC cf_X12 (at_120 hL) (by decide) rfl (by decide) (by decide) wf_RX12_69 dX12_walks_38 ?_
      refine g_aload_n (q := 0) hC dX12_walks_41 rfl rfl rfl ?_
      refine g_getI (k := 36) (kz := 36) hC cf_X12 (at_120 hL) (by decide) rfl (by decide) rfl wf_RX12_368 dX12_walks_42 ?_
      refine g_iconst (v := vI 1) hC dX12_walks_45 rfl ?_
      refine g_isub hC dX12_walks_46 ?_
      refine g_iald hC (at_135 hL) (by decide) dX12_walks_47 ?_
      refine g_topI (fun v5 => ?_)
      refine g_istore hC dX12_walks_48 (by decide) rfl ?_
      refine g_iconst (v := vI (-1)) hC dX12_walks_50 rfl ?_
      refine g_istore hC dX12_walks_51 (by decide) rfl ?_
      refine g_iconst (v := vI (-1)) hC dX12_walks_53 rfl ?_
      refine g_istore hC dX12_walks_54 (by decide) rfl ?_
      refine g_iconst (v := vI 0) hC dX12_walks_56 rfl ?_
      refine g_istore hC dX12_walks_57 (by decide) rfl ?_
      refine g_sub [4, 5, 6, 3, 2, 1, 0] rfl ?_
      exact gL_X12_walks_59 hC hR hL ih KF x2 x4 v5 ((-1)) ((-1)) 0 X
set_option maxRecDepth 20000 in
theorem k_X12_walks (l : Launch) (V : Ev) {L : List Kd} (hL : LKm L) (p1 : Int) (p2 : Int) (p3 : Int) (X : Mem)  : Kt l V L yX12_walks (.code yX12_walks cX12_walks 10 none) 5 113 [vR V.1 120, vI p1, vI p2, vI p3] rV X (f_X12_walks p1 p2 p3 X) := by
  refine kt_of (own := RX12) (lv0 := [(0, vR V.1 120), (1, vI p1), (2, vI p2), (3, vI p3)]) (by decide) rfl (Nat.le_of_ble_eq_true rfl) rfl (fun C hCl hC hR => ?_)
  subst hCl
  unfold f_X12_walks
  refine g_aload_n (q := 0) hC dX12_walks_0 rfl rfl rfl ?_
  refine g_iload_n (q := 2) hC dX12_walks_1 rfl rfl ?_
  refine g_iload_n (q := 3) hC dX12_walks_2 rfl rfl ?_
  refine g_callVV (As := [vI p2, vI p3]) hC mv_X12_reckons wml_RX12_365 (k_X12_reckons _ V hL p2 p3 X) cf_X12 (at_120 hL) (by decide) ⟨Nat.zero_le _, Nat.zero_le _⟩ rfl rfl ⟨Nat.le_of_ble_eq_true rfl, Nat.le_of_ble_eq_true rfl⟩ (Nat.le_of_ble_eq_true rfl) dX12_walks_3 (fun _ X2 => ?_)
  refine g_aload_n (q := 0) hC dX12_walks_6 rfl rfl rfl ?_
  refine g_getS (k := 35) hC cf_X12 (at_120 hL) (by decide) rfl (by decide) (by decide) wf_RX12_69 dX12_walks_7 ?_
  refine g_iconst (v := vI 0) hC dX12_walks_10 rfl ?_
  refine g_iload_n (q := 1) hC dX12_walks_11 rfl rfl ?_
  refine g_iast hC (at_135 hL) (by decide) dX12_walks_12 (fun X3 => ?_)
  refine g_aload_n (q := 0) hC dX12_walks_13 rfl rfl rfl ?_
  refine g_iconst (v := vI 1) hC dX12_walks_14 rfl ?_
  refine g_putI (k := 36) (kz := 36) hC cf_X12 (at_120 hL) (by decide) rfl (by decide) rfl wf_RX12_368 rfl rfl dX12_walks_15 (fun X4 => ?_)
  refine g_bipush (v := vI 8) hC dX12_walks_18 rfl ?_
  refine g_istore hC dX12_walks_20 (by decide) rfl ?_
  refine g_sub [1, 3, 0] rfl ?_
  exact gL_X12_walks_22 hC hR hL  KF p2 8 X4
def B_X12_soonest_26  (X : Mem) : Option (Int × Mem) :=
  cl (f_X12_refuse 1 X) fun r3 X4 =>
  some (r3, X4)
def f_X12_soonest (p1 : Int) (p2 : Int) (p3 : Int) (X : Mem) : Option (Int × Mem) :=
  c1 p1 <|
  cl (f_X12_isCell p1 X) fun r1 X2 =>
  c1 r1 <| if r1 = 0 then
    B_X12_soonest_26   X2
  else
    c1 p2 <|
    cl (f_X12_isCell p2 X2) fun r5 X6 =>
    c1 r5 <| if r5 = 0 then
      B_X12_soonest_26   X6
    else
      cl (f_X12_isSet p3 X6) fun r7 X8 =>
      c1 r7 <| if ¬ r7 = 0 then
        cl (f_X12_readies p1 p2 X8) fun _ X10 =>
        ax 32 p3 <|
        c2 (X10 134 p3) ((-1)) <| if ¬ (X10 134 p3) = ((-1)) then
          cl (f_X12_walks p1 p2 p3 X10) fun _ X12 =>
          ax 32 p3 <|
          cl (f_X12_gives (X12 134 p3) X12) fun r13 X14 =>
          some (r13, X14)
        else
          cl (f_X12_refuse 6 X10) fun r15 X16 =>
          some (r15, X16)
      else
        B_X12_soonest_26   X8
set_option maxRecDepth 20000 in
theorem gB_X12_soonest_26 {C : Cx} {V : Ev} {L : List Kd} (hC : Ok C V cX12_soonest RX12 4 6 142) (hR : Rt C V L (some .int) rI) (hL : LKm L)  (X : Mem)  : G C V L 0 0 4 26 [(0, vR V.1 120)] [] X (B_X12_soonest_26    X) := by
  unfold B_X12_soonest_26
  refine g_aload_n (q := 0) hC dX12_soonest_26 rfl rfl rfl ?_
  refine g_iconst (v := vI 1) hC dX12_soonest_27 rfl ?_
  refine g_callVI (As := [vI 1]) hC mv_X12_refuse wml_RX12_185 (k_X12_refuse _ V hL 1 X) cf_X12 (at_120 hL) (by decide) ⟨Nat.zero_le _, Nat.zero_le _⟩ rfl rfl ⟨Nat.le_of_ble_eq_true rfl, Nat.le_of_ble_eq_true rfl⟩ (Nat.le_of_ble_eq_true rfl) dX12_soonest_28 (fun r3 X4 => ?_)
  exact g_iret hC hR dX12_soonest_31
set_option maxRecDepth 20000 in
theorem k_X12_soonest (l : Launch) (V : Ev) {L : List Kd} (hL : LKm L) (p1 : Int) (p2 : Int) (p3 : Int) (X : Mem)  : Kt l V L yX12_soonest (.code yX12_soonest cX12_soonest 4 (some .int)) 6 142 [vR V.1 120, vI p1, vI p2, vI p3] rI X (f_X12_soonest p1 p2 p3 X) := by
  refine kt_of (own := RX12) (lv0 := [(0, vR V.1 120), (1, vI p1), (2, vI p2), (3, vI p3)]) (by decide) rfl (Nat.le_of_ble_eq_true rfl) rfl (fun C hCl hC hR => ?_)
  subst hCl
  unfold f_X12_soonest
  refine g_aload_n (q := 0) hC dX12_soonest_0 rfl rfl rfl ?_
  refine g_iload_n (q := 1) hC dX12_soonest_1 rfl rfl ?_
  refine g_i2l hC dX12_soonest_2 ?_
  refine g_callVI (As := [vJ p1]) hC mv_X12_isCell wml_RX12_275 (k_X12_isCell _ V hL p1 X) cf_X12 (at_120 hL) (by decide) ⟨Nat.zero_le _, Nat.zero_le _⟩ rfl rfl ⟨Nat.le_of_ble_eq_true rfl, Nat.le_of_ble_eq_true rfl⟩ (Nat.le_of_ble_eq_true rfl) dX12_soonest_3 (fun r1 X2 => ?_)
  refine g_if_eq (tgt := 26) hC dX12_soonest_6 (by decide) ?_ ?_
  · refine g_sub [0] rfl ?_
    exact gB_X12_soonest_26 hC hR hL  X2
  · refine g_aload_n (q := 0) hC dX12_soonest_9 rfl rfl rfl ?_
    refine g_iload_n (q := 2) hC dX12_soonest_10 rfl rfl ?_
    refine g_i2l hC dX12_soonest_11 ?_
    refine g_callVI (As := [vJ p2]) hC mv_X12_isCell wml_RX12_275 (k_X12_isCell _ V hL p2 X2) cf_X12 (at_120 hL) (by decide) ⟨Nat.zero_le _, Nat.zero_le _⟩ rfl rfl ⟨Nat.le_of_ble_eq_true rfl, Nat.le_of_ble_eq_true rfl⟩ (Nat.le_of_ble_eq_true rfl) dX12_soonest_12 (fun r5 X6 => ?_)
    refine g_if_eq (tgt := 26) hC dX12_soonest_15 (by decide) ?_ ?_
    · refine g_sub [0] rfl ?_
      exact gB_X12_soonest_26 hC hR hL  X6
    · refine g_aload_n (q := 0) hC dX12_soonest_18 rfl rfl rfl ?_
      refine g_iload_n (q := 3) hC dX12_soonest_19 rfl rfl ?_
      refine g_callVI (As := [vI p3]) hC mv_X12_isSet wml_RX12_288 (k_X12_isSet _ V hL p3 X6) cf_X12 (at_120 hL) (by decide) ⟨Nat.zero_le _, Nat.zero_le _⟩ rfl rfl ⟨Nat.le_of_ble_eq_true rfl, Nat.le_of_ble_eq_true rfl⟩ (Nat.le_of_ble_eq_true rfl) dX12_soonest_20 (fun r7 X8 => ?_)
      refine g_if_ne (tgt := 32) hC dX12_soonest_23 (by decide) ?_ ?_
      · refine g_aload_n (q := 0) hC dX12_soonest_32 rfl rfl rfl ?_
        refine g_iload_n (q := 1) hC dX12_soonest_33 rfl rfl ?_
        refine g_iload_n (q := 2) hC dX12_soonest_34 rfl rfl ?_
        refine g_callVV (As := [vI p1, vI p2]) hC mv_X12_readies wml_RX12_371 (k_X12_readies _ V hL p1 p2 X8) cf_X12 (at_120 hL) (by decide) ⟨Nat.zero_le _, Nat.zero_le _⟩ rfl rfl ⟨Nat.le_of_ble_eq_true rfl, Nat.le_of_ble_eq_true rfl⟩ (Nat.le_of_ble_eq_true rfl) dX12_soonest_35 (fun _ X10 => ?_)
        refine g_aload_n (q := 0) hC dX12_soonest_38 rfl rfl rfl ?_
        refine g_getS (k := 30) hC cf_X12 (at_120 hL) (by decide) rfl (by decide) (by decide) wf_RX12_63 dX12_soonest_39 ?_
        refine g_iload_n (q := 3) hC dX12_soonest_42 rfl rfl ?_
        refine g_iald hC (at_134 hL) (by decide) dX12_soonest_43 ?_
        refine g_iconst (v := vI (-1)) hC dX12_soonest_44 rfl ?_
        refine g_icmp_ne (tgt := 55) hC dX12_soonest_45 (by decide) ?_ ?_
        · refine g_aload_n (q := 0) hC dX12_soonest_55 rfl rfl rfl ?_
          refine g_iload_n (q := 1) hC dX12_soonest_56 rfl rfl ?_
          refine g_iload_n (q := 2) hC dX12_soonest_57 rfl rfl ?_
          refine g_iload_n (q := 3) hC dX12_soonest_58 rfl rfl ?_
          refine g_callVV (As := [vI p1, vI p2, vI p3]) hC mv_X12_walks wml_RX12_374 (k_X12_walks _ V hL p1 p2 p3 X10) cf_X12 (at_120 hL) (by decide) ⟨Nat.zero_le _, Nat.zero_le _⟩ rfl rfl ⟨Nat.le_of_ble_eq_true rfl, Nat.le_of_ble_eq_true rfl⟩ (Nat.le_of_ble_eq_true rfl) dX12_soonest_59 (fun _ X12 => ?_)
          refine g_aload_n (q := 0) hC dX12_soonest_62 rfl rfl rfl ?_
          refine g_aload_n (q := 0) hC dX12_soonest_63 rfl rfl rfl ?_
          refine g_getS (k := 30) hC cf_X12 (at_120 hL) (by decide) rfl (by decide) (by decide) wf_RX12_63 dX12_soonest_64 ?_
          refine g_iload_n (q := 3) hC dX12_soonest_67 rfl rfl ?_
          refine g_iald hC (at_134 hL) (by decide) dX12_soonest_68 ?_
          refine g_callVI (As := [vI (X12 134 p3)]) hC mv_X12_gives wml_RX12_188 (k_X12_gives _ V hL (X12 134 p3) X12) cf_X12 (at_120 hL) (by decide) ⟨Nat.zero_le _, Nat.zero_le _⟩ rfl rfl ⟨Nat.le_of_ble_eq_true rfl, Nat.le_of_ble_eq_true rfl⟩ (Nat.le_of_ble_eq_true rfl) dX12_soonest_69 (fun r13 X14 => ?_)
          exact g_iret hC hR dX12_soonest_72
        · refine g_aload_n (q := 0) hC dX12_soonest_48 rfl rfl rfl ?_
          refine g_bipush (v := vI 6) hC dX12_soonest_49 rfl ?_
          refine g_callVI (As := [vI 6]) hC mv_X12_refuse wml_RX12_185 (k_X12_refuse _ V hL 6 X10) cf_X12 (at_120 hL) (by decide) ⟨Nat.zero_le _, Nat.zero_le _⟩ rfl rfl ⟨Nat.le_of_ble_eq_true rfl, Nat.le_of_ble_eq_true rfl⟩ (Nat.le_of_ble_eq_true rfl) dX12_soonest_51 (fun r15 X16 => ?_)
          exact g_iret hC hR dX12_soonest_54
      · refine g_sub [0] rfl ?_
        exact gB_X12_soonest_26 hC hR hL  X8
def f_X12_areCells (p1 : Int) (p2 : Int) (X : Mem) : Option (Int × Mem) :=
  c1 p1 <|
  cl (f_X12_isCell p1 X) fun r1 X2 =>
  c1 r1 <| if r1 = 0 then
    some (0, X2)
  else
    c1 p2 <|
    cl (f_X12_isCell p2 X2) fun r3 X4 =>
    c1 r3 <| if r3 = 0 then
      some (0, X4)
    else
      some (1, X4)
set_option maxRecDepth 20000 in
theorem k_X12_areCells (l : Launch) (V : Ev) {L : List Kd} (hL : LKm L) (p1 : Int) (p2 : Int) (X : Mem)  : Kt l V L yX12_areCells (.code yX12_areCells cX12_areCells 3 (some .boolean)) 2 42 [vR V.1 120, vI p1, vI p2] rI X (f_X12_areCells p1 p2 X) := by
  refine kt_of (own := RX12) (lv0 := [(0, vR V.1 120), (1, vI p1), (2, vI p2)]) (by decide) rfl (Nat.le_of_ble_eq_true rfl) rfl (fun C hCl hC hR => ?_)
  subst hCl
  unfold f_X12_areCells
  refine g_aload_n (q := 0) hC dX12_areCells_0 rfl rfl rfl ?_
  refine g_iload_n (q := 1) hC dX12_areCells_1 rfl rfl ?_
  refine g_i2l hC dX12_areCells_2 ?_
  refine g_callVI (As := [vJ p1]) hC mv_X12_isCell wml_RX12_275 (k_X12_isCell _ V hL p1 X) cf_X12 (at_120 hL) (by decide) ⟨Nat.zero_le _, Nat.zero_le _⟩ rfl rfl ⟨Nat.le_of_ble_eq_true rfl, Nat.le_of_ble_eq_true rfl⟩ (Nat.le_of_ble_eq_true rfl) dX12_areCells_3 (fun r1 X2 => ?_)
  refine g_if_eq (tgt := 22) hC dX12_areCells_6 (by decide) ?_ ?_
  · refine g_iconst (v := vI 0) hC dX12_areCells_22 rfl ?_
    exact g_zret1 hC hR (by decide) dX12_areCells_23
  · refine g_aload_n (q := 0) hC dX12_areCells_9 rfl rfl rfl ?_
    refine g_iload_n (q := 2) hC dX12_areCells_10 rfl rfl ?_
    refine g_i2l hC dX12_areCells_11 ?_
    refine g_callVI (As := [vJ p2]) hC mv_X12_isCell wml_RX12_275 (k_X12_isCell _ V hL p2 X2) cf_X12 (at_120 hL) (by decide) ⟨Nat.zero_le _, Nat.zero_le _⟩ rfl rfl ⟨Nat.le_of_ble_eq_true rfl, Nat.le_of_ble_eq_true rfl⟩ (Nat.le_of_ble_eq_true rfl) dX12_areCells_12 (fun r3 X4 => ?_)
    refine g_if_eq (tgt := 22) hC dX12_areCells_15 (by decide) ?_ ?_
    · refine g_iconst (v := vI 0) hC dX12_areCells_22 rfl ?_
      exact g_zret1 hC hR (by decide) dX12_areCells_23
    · refine g_iconst (v := vI 1) hC dX12_areCells_18 rfl ?_
      refine g_goto (tgt := 23) hC dX12_areCells_19 (by decide) ?_
      exact g_zret1 hC hR (by decide) dX12_areCells_23
def B_X12_surestOf_92 (go11 : Int → Int → Mem → Option (Int × Mem)) (x3 : Int) (x4 : Int) (X : Mem) : Option (Int × Mem) :=
  go11 x3 (x4 + 1) X
def B_X12_surestOf_89 (go11 : Int → Int → Mem → Option (Int × Mem)) (x4 : Int) (X : Mem) : Option (Int × Mem) :=
  B_X12_surestOf_92  go11 x4 x4 X
def B_X12_surestOf_57 (go11 : Int → Int → Mem → Option (Int × Mem)) (x3 : Int) (x4 : Int) (s0 : Int) (X : Mem) : Option (Int × Mem) :=
  d2 s0 0 <| if 0 < s0 then
    B_X12_surestOf_89  go11 x4 X
  else
    d2 s0 0 <| if ¬ s0 = 0 then
      B_X12_surestOf_92  go11 x3 x4 X
    else
      ax 32 x4 <|
      ax 32 x3 <|
      c2 (X 134 x4) (X 134 x3) <| if (X 134 x3) ≤ (X 134 x4) then
        B_X12_surestOf_92  go11 x3 x4 X
      else
        B_X12_surestOf_89  go11 x4 X
def L_X12_surestOf_11 : Nat → Int → Int → Mem → Option (Int × Mem)
  | 0, _, _, _ => none
  | n + 1, x3, x4, X =>
    cl (f_X12_sets X) fun r3 X4 =>
    c2 x4 r3 <| if r3 ≤ x4 then
      some (x3, X4)
    else
      ax 32 x4 <|
      c2 (X4 134 x4) ((-1)) <| if ¬ (X4 134 x4) = ((-1)) then
        c2 x3 ((-1)) <| if ¬ x3 = ((-1)) then
          cl (f_X12_partsOf 0 x4 X4) fun r5 X6 =>
          cl (f_X12_partsOf 0 x3 X6) fun r7 X8 =>
          B_X12_surestOf_57  (fun x3 x4 X => L_X12_surestOf_11   n x3 x4 X) x3 x4 (r5 - r7) X8
        else
          B_X12_surestOf_57  (fun x3 x4 X => L_X12_surestOf_11   n x3 x4 X) x3 x4 1 X4
      else
        B_X12_surestOf_92  (fun x3 x4 X => L_X12_surestOf_11   n x3 x4 X) x3 x4 X4
def f_X12_surestOf (p1 : Int) (p2 : Int) (X : Mem) : Option (Int × Mem) :=
  cl (f_X12_readies p1 p2 X) fun _ X2 =>
  L_X12_surestOf_11   KF ((-1)) 0 X2
set_option maxRecDepth 20000 in
theorem gB_X12_surestOf_92 {C : Cx} {V : Ev} {L : List Kd} (hC : Ok C V cX12_surestOf RX12 7 6 137) (hR : Rt C V L (some .int) rI) (hL : LKm L) {go11 : Int → Int → Mem → Option (Int × Mem)} (hgo11 : ∀ (x3 : Int) (x4 : Int) (X : Mem), G C V L 0 0 7 11 [(0, vR V.1 120), (3, vI x3), (4, vI x4)] [] X (go11 x3 x4 X)) (x3 : Int) (x4 : Int) (X : Mem)  : G C V L 0 0 7 92 [(0, vR V.1 120), (3, vI x3), (4, vI x4)] [] X (B_X12_surestOf_92  go11 x3 x4 X) := by
  unfold B_X12_surestOf_92
  refine g_iinc (q := 2) hC dX12_surestOf_92 rfl (by decide) rfl ?_
  refine g_goto (tgt := 11) hC dX12_surestOf_95 (by decide) ?_
  refine g_sub [1, 2, 0] rfl ?_
  exact hgo11 x3 (x4 + 1) X
set_option maxRecDepth 20000 in
theorem gB_X12_surestOf_89 {C : Cx} {V : Ev} {L : List Kd} (hC : Ok C V cX12_surestOf RX12 7 6 137) (hR : Rt C V L (some .int) rI) (hL : LKm L) {go11 : Int → Int → Mem → Option (Int × Mem)} (hgo11 : ∀ (x3 : Int) (x4 : Int) (X : Mem), G C V L 0 0 7 11 [(0, vR V.1 120), (3, vI x3), (4, vI x4)] [] X (go11 x3 x4 X)) (x4 : Int) (X : Mem)  : G C V L 0 0 7 89 [(0, vR V.1 120), (4, vI x4)] [] X (B_X12_surestOf_89  go11 x4 X) := by
  unfold B_X12_surestOf_89
  refine g_iload (q := 1) hC dX12_surestOf_89 rfl ?_
  refine g_istore_n hC dX12_surestOf_91 rfl (by decide) rfl ?_
  refine g_sub [1, 0, 2] rfl ?_
  exact gB_X12_surestOf_92 hC hR hL hgo11 x4 x4 X
set_option maxRecDepth 20000 in
theorem gB_X12_surestOf_57 {C : Cx} {V : Ev} {L : List Kd} (hC : Ok C V cX12_surestOf RX12 7 6 137) (hR : Rt C V L (some .int) rI) (hL : LKm L) {go11 : Int → Int → Mem → Option (Int × Mem)} (hgo11 : ∀ (x3 : Int) (x4 : Int) (X : Mem), G C V L 0 0 7 11 [(0, vR V.1 120), (3, vI x3), (4, vI x4)] [] X (go11 x3 x4 X)) (x3 : Int) (x4 : Int) (s0 : Int) (X : Mem)  : G C V L 0 0 7 57 [(0, vR V.1 120), (3, vI x3), (4, vI x4)] [vJ s0] X (B_X12_surestOf_57  go11 x3 x4 s0 X) := by
  unfold B_X12_surestOf_57
  refine g_lstore hC dX12_surestOf_57 (by decide) rfl ?_
  refine g_lload (q := 0) hC dX12_surestOf_59 rfl ?_
  refine g_lconst (v := vJ 0) hC dX12_surestOf_61 rfl ?_
  refine g_lcmp_gt (tgt := 89) hC dX12_surestOf_62 rfl dX12_surestOf_63 (by decide) ?_ ?_
  · refine g_sub [1, 3] rfl ?_
    exact gB_X12_surestOf_89 hC hR hL hgo11 x4 X
  · refine g_lload (q := 0) hC dX12_surestOf_66 rfl ?_
    refine g_lconst (v := vJ 0) hC dX12_surestOf_68 rfl ?_
    refine g_lcmp_ne (tgt := 92) hC dX12_surestOf_69 rfl dX12_surestOf_70 (by decide) ?_ ?_
    · refine g_sub [1, 2, 3] rfl ?_
      exact gB_X12_surestOf_92 hC hR hL hgo11 x3 x4 X
    · refine g_aload_n (q := 1) hC dX12_surestOf_73 rfl rfl rfl ?_
      refine g_getS (k := 30) hC cf_X12 (at_120 hL) (by decide) rfl (by decide) (by decide) wf_RX12_63 dX12_surestOf_74 ?_
      refine g_iload (q := 3) hC dX12_surestOf_77 rfl ?_
      refine g_iald hC (at_134 hL) (by decide) dX12_surestOf_79 ?_
      refine g_aload_n (q := 1) hC dX12_surestOf_80 rfl rfl rfl ?_
      refine g_getS (k := 30) hC cf_X12 (at_120 hL) (by decide) rfl (by decide) (by decide) wf_RX12_63 dX12_surestOf_81 ?_
      refine g_iload_n (q := 2) hC dX12_surestOf_84 rfl rfl ?_
      refine g_iald hC (at_134 hL) (by decide) dX12_surestOf_85 ?_
      refine g_icmp_ge (tgt := 92) hC dX12_surestOf_86 (by decide) ?_ ?_
      · refine g_sub [1, 2, 3] rfl ?_
        exact gB_X12_surestOf_92 hC hR hL hgo11 x3 x4 X
      · refine g_sub [1, 3] rfl ?_
        exact gB_X12_surestOf_89 hC hR hL hgo11 x4 X
set_option maxRecDepth 20000 in
theorem gL_X12_surestOf_11 {C : Cx} {V : Ev} {L : List Kd} (hC : Ok C V cX12_surestOf RX12 7 6 137) (hR : Rt C V L (some .int) rI) (hL : LKm L) : ∀ (n : Nat) (x3 : Int) (x4 : Int) (X : Mem), G C V L 0 0 7 11 [(0, vR V.1 120), (3, vI x3), (4, vI x4)] [] X (L_X12_surestOf_11   n x3 x4 X) := by
  intro n
  induction n with
  | zero => intro x3 x4 X; exact g_none
  | succ n ih =>
    intro x3 x4 X
    rw [L_X12_surestOf_11]
    refine g_iload (q := 2) hC dX12_surestOf_11 rfl ?_
    refine g_aload_n (q := 0) hC dX12_surestOf_13 rfl rfl rfl ?_
    refine g_callVI (As := []) hC mv_X12_sets wml_RX12_263 (k_X12_sets _ V hL X) cf_X12 (at_120 hL) (by decide) ⟨Nat.zero_le _, Nat.zero_le _⟩ rfl rfl ⟨Nat.le_of_ble_eq_true rfl, Nat.le_of_ble_eq_true rfl⟩ (Nat.le_of_ble_eq_true rfl) dX12_surestOf_14 (fun r3 X4 => ?_)
    refine g_icmp_ge (tgt := 98) hC dX12_surestOf_17 (by decide) ?_ ?_
    · refine g_iload_n (q := 1) hC dX12_surestOf_98 rfl rfl ?_
      exact g_iret hC hR dX12_surestOf_99
    · refine g_aload_n (q := 0) hC dX12_surestOf_20 rfl rfl rfl ?_
      refine g_getS (k := 30) hC cf_X12 (at_120 hL) (by decide) rfl (by decide) (by decide) wf_RX12_63 dX12_surestOf_21 ?_
      refine g_iload (q := 2) hC dX12_surestOf_24 rfl ?_
      refine g_iald hC (at_134 hL) (by decide) dX12_surestOf_26 ?_
      refine g_iconst (v := vI (-1)) hC dX12_surestOf_27 rfl ?_
      refine g_icmp_ne (tgt := 34) hC dX12_surestOf_28 (by decide) ?_ ?_
      · refine g_iload_n (q := 1) hC dX12_surestOf_34 rfl rfl ?_
        refine g_iconst (v := vI (-1)) hC dX12_surestOf_35 rfl ?_
        refine g_icmp_ne (tgt := 43) hC dX12_surestOf_36 (by decide) ?_ ?_
        · refine g_aload_n (q := 0) hC dX12_surestOf_43 rfl rfl rfl ?_
          refine g_iconst (v := vI 0) hC dX12_surestOf_44 rfl ?_
          refine g_iload (q := 2) hC dX12_surestOf_45 rfl ?_
          refine g_callVJ (As := [vI 0, vI x4]) hC mv_X12_partsOf wml_RX12_308 (k_X12_partsOf _ V hL 0 x4 X4) cf_X12 (at_120 hL) (by decide) ⟨Nat.zero_le _, Nat.zero_le _⟩ rfl rfl ⟨Nat.le_of_ble_eq_true rfl, Nat.le_of_ble_eq_true rfl⟩ (Nat.le_of_ble_eq_true rfl) dX12_surestOf_47 (fun r5 X6 => ?_)
          refine g_aload_n (q := 0) hC dX12_surestOf_50 rfl rfl rfl ?_
          refine g_iconst (v := vI 0) hC dX12_surestOf_51 rfl ?_
          refine g_iload_n (q := 1) hC dX12_surestOf_52 rfl rfl ?_
          refine g_callVJ (As := [vI 0, vI x3]) hC mv_X12_partsOf wml_RX12_308 (k_X12_partsOf _ V hL 0 x3 X6) cf_X12 (at_120 hL) (by decide) ⟨Nat.zero_le _, Nat.zero_le _⟩ rfl rfl ⟨Nat.le_of_ble_eq_true rfl, Nat.le_of_ble_eq_true rfl⟩ (Nat.le_of_ble_eq_true rfl) dX12_surestOf_53 (fun r7 X8 => ?_)
          refine g_lsub hC dX12_surestOf_56 ?_
          exact gB_X12_surestOf_57 hC hR hL ih x3 x4 (r5 - r7) X8
        · refine g_lconst (v := vJ 1) hC dX12_surestOf_39 rfl ?_
          refine g_goto (tgt := 57) hC dX12_surestOf_40 (by decide) ?_
          exact gB_X12_surestOf_57 hC hR hL ih x3 x4 1 X4
      · refine g_goto (tgt := 92) hC dX12_surestOf_31 (by decide) ?_
        exact gB_X12_surestOf_92 hC hR hL ih x3 x4 X4
set_option maxRecDepth 20000 in
theorem k_X12_surestOf (l : Launch) (V : Ev) {L : List Kd} (hL : LKm L) (p1 : Int) (p2 : Int) (X : Mem)  : Kt l V L yX12_surestOf (.code yX12_surestOf cX12_surestOf 7 (some .int)) 6 137 [vR V.1 120, vI p1, vI p2] rI X (f_X12_surestOf p1 p2 X) := by
  refine kt_of (own := RX12) (lv0 := [(0, vR V.1 120), (1, vI p1), (2, vI p2)]) (by decide) rfl (Nat.le_of_ble_eq_true rfl) rfl (fun C hCl hC hR => ?_)
  subst hCl
  unfold f_X12_surestOf
  refine g_aload_n (q := 0) hC dX12_surestOf_0 rfl rfl rfl ?_
  refine g_iload_n (q := 1) hC dX12_surestOf_1 rfl rfl ?_
  refine g_iload_n (q := 2) hC dX12_surestOf_2 rfl rfl ?_
  refine g_callVV (As := [vI p1, vI p2]) hC mv_X12_readies wml_RX12_371 (k_X12_readies _ V hL p1 p2 X) cf_X12 (at_120 hL) (by decide) ⟨Nat.zero_le _, Nat.zero_le _⟩ rfl rfl ⟨Nat.le_of_ble_eq_true rfl, Nat.le_of_ble_eq_true rfl⟩ (Nat.le_of_ble_eq_true rfl) dX12_surestOf_3 (fun _ X2 => ?_)
  refine g_iconst (v := vI (-1)) hC dX12_surestOf_6 rfl ?_
  refine g_istore_n hC dX12_surestOf_7 rfl (by decide) rfl ?_
  refine g_iconst (v := vI 0) hC dX12_surestOf_8 rfl ?_
  refine g_istore hC dX12_surestOf_9 (by decide) rfl ?_
  refine g_sub [2, 1, 0] rfl ?_
  exact gL_X12_surestOf_11 hC hR hL  KF ((-1)) 0 X2
def f_X12_surest (p1 : Int) (p2 : Int) (X : Mem) : Option (Int × Mem) :=
  cl (f_X12_areCells p1 p2 X) fun r1 X2 =>
  c1 r1 <| if ¬ r1 = 0 then
    cl (f_X12_surestOf p1 p2 X2) fun r3 X4 =>
    c2 r3 ((-1)) <| if ¬ r3 = ((-1)) then
      cl (f_X12_walks p1 p2 r3 X4) fun _ X6 =>
      cl (f_X12_partsOf 0 r3 X6) fun r7 X8 =>
      cl (f_X12_tellsBy r7 1000000 X8) fun r9 X10 =>
      cl (f_X12_gives r3 X10) fun r11 X12 =>
      some (r11, X12)
    else
      cl (f_X12_refuse 6 X4) fun r13 X14 =>
      some (r13, X14)
  else
    cl (f_X12_refuse 1 X2) fun r15 X16 =>
    some (r15, X16)
set_option maxRecDepth 20000 in
theorem k_X12_surest (l : Launch) (V : Ev) {L : List Kd} (hL : LKm L) (p1 : Int) (p2 : Int) (X : Mem)  : Kt l V L yX12_surest (.code yX12_surest cX12_surest 4 (some .int)) 7 163 [vR V.1 120, vI p1, vI p2] rI X (f_X12_surest p1 p2 X) := by
  refine kt_of (own := RX12) (lv0 := [(0, vR V.1 120), (1, vI p1), (2, vI p2)]) (by decide) rfl (Nat.le_of_ble_eq_true rfl) rfl (fun C hCl hC hR => ?_)
  subst hCl
  unfold f_X12_surest
  refine g_aload_n (q := 0) hC dX12_surest_0 rfl rfl rfl ?_
  refine g_iload_n (q := 1) hC dX12_surest_1 rfl rfl ?_
  refine g_iload_n (q := 2) hC dX12_surest_2 rfl rfl ?_
  refine g_callVI (As := [vI p1, vI p2]) hC mv_X12_areCells wml_RX12_378 (k_X12_areCells _ V hL p1 p2 X) cf_X12 (at_120 hL) (by decide) ⟨Nat.zero_le _, Nat.zero_le _⟩ rfl rfl ⟨Nat.le_of_ble_eq_true rfl, Nat.le_of_ble_eq_true rfl⟩ (Nat.le_of_ble_eq_true rfl) dX12_surest_3 (fun r1 X2 => ?_)
  refine g_if_ne (tgt := 15) hC dX12_surest_6 (by decide) ?_ ?_
  · refine g_aload_n (q := 0) hC dX12_surest_15 rfl rfl rfl ?_
    refine g_iload_n (q := 1) hC dX12_surest_16 rfl rfl ?_
    refine g_iload_n (q := 2) hC dX12_surest_17 rfl rfl ?_
    refine g_callVI (As := [vI p1, vI p2]) hC mv_X12_surestOf wml_RX12_381 (k_X12_surestOf _ V hL p1 p2 X2) cf_X12 (at_120 hL) (by decide) ⟨Nat.zero_le _, Nat.zero_le _⟩ rfl rfl ⟨Nat.le_of_ble_eq_true rfl, Nat.le_of_ble_eq_true rfl⟩ (Nat.le_of_ble_eq_true rfl) dX12_surest_18 (fun r3 X4 => ?_)
    refine g_istore_n hC dX12_surest_21 rfl (by decide) rfl ?_
    refine g_iload_n (q := 0) hC dX12_surest_22 rfl rfl ?_
    refine g_iconst (v := vI (-1)) hC dX12_surest_23 rfl ?_
    refine g_icmp_ne (tgt := 34) hC dX12_surest_24 (by decide) ?_ ?_
    · refine g_aload_n (q := 1) hC dX12_surest_34 rfl rfl rfl ?_
      refine g_iload_n (q := 2) hC dX12_surest_35 rfl rfl ?_
      refine g_iload_n (q := 3) hC dX12_surest_36 rfl rfl ?_
      refine g_iload_n (q := 0) hC dX12_surest_37 rfl rfl ?_
      refine g_callVV (As := [vI p1, vI p2, vI r3]) hC mv_X12_walks wml_RX12_374 (k_X12_walks _ V hL p1 p2 r3 X4) cf_X12 (at_120 hL) (by decide) ⟨Nat.zero_le _, Nat.zero_le _⟩ rfl rfl ⟨Nat.le_of_ble_eq_true rfl, Nat.le_of_ble_eq_true rfl⟩ (Nat.le_of_ble_eq_true rfl) dX12_surest_38 (fun _ X6 => ?_)
      refine g_aload_n (q := 1) hC dX12_surest_41 rfl rfl rfl ?_
      refine g_aload_n (q := 1) hC dX12_surest_42 rfl rfl rfl ?_
      refine g_iconst (v := vI 0) hC dX12_surest_43 rfl ?_
      refine g_iload_n (q := 0) hC dX12_surest_44 rfl rfl ?_
      refine g_callVJ (As := [vI 0, vI r3]) hC mv_X12_partsOf wml_RX12_308 (k_X12_partsOf _ V hL 0 r3 X6) cf_X12 (at_120 hL) (by decide) ⟨Nat.zero_le _, Nat.zero_le _⟩ rfl rfl ⟨Nat.le_of_ble_eq_true rfl, Nat.le_of_ble_eq_true rfl⟩ (Nat.le_of_ble_eq_true rfl) dX12_surest_45 (fun r7 X8 => ?_)
      refine g_ldc2 (n := 1000000) hC wk_RX12_300 rfl dX12_surest_48 ?_
      refine g_callVI (As := [vJ r7, vJ 1000000]) hC mv_X12_tellsBy wml_RX12_312 (k_X12_tellsBy _ V hL r7 1000000 X8) cf_X12 (at_120 hL) (by decide) ⟨Nat.zero_le _, Nat.zero_le _⟩ rfl rfl ⟨Nat.le_of_ble_eq_true rfl, Nat.le_of_ble_eq_true rfl⟩ (Nat.le_of_ble_eq_true rfl) dX12_surest_51 (fun r9 X10 => ?_)
      refine g_pop hC dX12_surest_54 rfl ?_
      refine g_aload_n (q := 1) hC dX12_surest_55 rfl rfl rfl ?_
      refine g_iload_n (q := 0) hC dX12_surest_56 rfl rfl ?_
      refine g_callVI (As := [vI r3]) hC mv_X12_gives wml_RX12_188 (k_X12_gives _ V hL r3 X10) cf_X12 (at_120 hL) (by decide) ⟨Nat.zero_le _, Nat.zero_le _⟩ rfl rfl ⟨Nat.le_of_ble_eq_true rfl, Nat.le_of_ble_eq_true rfl⟩ (Nat.le_of_ble_eq_true rfl) dX12_surest_57 (fun r11 X12 => ?_)
      exact g_iret hC hR dX12_surest_60
    · refine g_aload_n (q := 1) hC dX12_surest_27 rfl rfl rfl ?_
      refine g_bipush (v := vI 6) hC dX12_surest_28 rfl ?_
      refine g_callVI (As := [vI 6]) hC mv_X12_refuse wml_RX12_185 (k_X12_refuse _ V hL 6 X4) cf_X12 (at_120 hL) (by decide) ⟨Nat.zero_le _, Nat.zero_le _⟩ rfl rfl ⟨Nat.le_of_ble_eq_true rfl, Nat.le_of_ble_eq_true rfl⟩ (Nat.le_of_ble_eq_true rfl) dX12_surest_30 (fun r13 X14 => ?_)
      exact g_iret hC hR dX12_surest_33
  · refine g_aload_n (q := 0) hC dX12_surest_9 rfl rfl rfl ?_
    refine g_iconst (v := vI 1) hC dX12_surest_10 rfl ?_
    refine g_callVI (As := [vI 1]) hC mv_X12_refuse wml_RX12_185 (k_X12_refuse _ V hL 1 X2) cf_X12 (at_120 hL) (by decide) ⟨Nat.zero_le _, Nat.zero_le _⟩ rfl rfl ⟨Nat.le_of_ble_eq_true rfl, Nat.le_of_ble_eq_true rfl⟩ (Nat.le_of_ble_eq_true rfl) dX12_surest_11 (fun r15 X16 => ?_)
    exact g_iret hC hR dX12_surest_14
def B_X12_meanOf_59 (go15 : Int → Int → Int → Mem → Option (Int × Mem)) (x1 : Int) (x4 : Int) (s0 : Int) (s1 : Int) (X : Mem) : Option (Int × Mem) :=
  bd (s1 + s0) fun v2 =>
  go15 x1 v2 (x4 + 1) X
def L_X12_meanOf_15 : Nat → Int → Int → Int → Mem → Option (Int × Mem)
  | 0, _, _, _, _ => none
  | n + 1, x1, x2, x4, X =>
    ax 2200 2 <|
    c2 x4 (X 121 2) <| if (X 121 2) ≤ x4 then
      some (x2, X)
    else
      c2 (ia (ishr x1 x4) 1) 1 <| if ¬ (ia (ishr x1 x4) 1) = 1 then
        B_X12_meanOf_59  (fun x1 x2 x4 X => L_X12_meanOf_15   n x1 x2 x4 X) x1 x4 0 x2 X
      else
        ax 2200 10 <|
        c1 (X 121 10) <|
        cl (f_X12_partsOf (ishl 1 x4) 0 X) fun r3 X4 =>
        B_X12_meanOf_59  (fun x1 x2 x4 X => L_X12_meanOf_15   n x1 x2 x4 X) x1 x4 ((X 121 10) * r3) x2 X4
def f_X12_meanOf (p1 : Int) (X : Mem) : Option (Int × Mem) :=
  ax 32 p1 <|
  c1 (X 134 p1) <|
  bd (1000000 * (X 134 p1)) fun v1 =>
  L_X12_meanOf_15   KF p1 v1 0 X
set_option maxRecDepth 20000 in
theorem gB_X12_meanOf_59 {C : Cx} {V : Ev} {L : List Kd} (hC : Ok C V cX12_meanOf RX12 5 2 45) (hR : Rt C V L (some .long) rJ) (hL : LKm L) {go15 : Int → Int → Int → Mem → Option (Int × Mem)} (hgo15 : ∀ (x1 : Int) (x2 : Int) (x4 : Int) (X : Mem), G C V L 0 0 5 15 [(0, vR V.1 120), (1, vI x1), (2, vJ x2), (4, vI x4)] [] X (go15 x1 x2 x4 X)) (x1 : Int) (x4 : Int) (s0 : Int) (s1 : Int) (X : Mem)  : G C V L 0 0 5 59 [(0, vR V.1 120), (1, vI x1), (4, vI x4)] [vJ s0, vJ s1] X (B_X12_meanOf_59  go15 x1 x4 s0 s1 X) := by
  unfold B_X12_meanOf_59
  refine g_ladd hC dX12_meanOf_59 ?_
  refine g_topJ (fun v2 => ?_)
  refine g_lstore_n hC dX12_meanOf_60 rfl (by decide) rfl ?_
  refine g_iinc (q := 3) hC dX12_meanOf_61 rfl (by decide) rfl ?_
  refine g_goto (tgt := 15) hC dX12_meanOf_64 (by decide) ?_
  refine g_sub [2, 3, 1, 0] rfl ?_
  exact hgo15 x1 v2 (x4 + 1) X
set_option maxRecDepth 20000 in
theorem gL_X12_meanOf_15 {C : Cx} {V : Ev} {L : List Kd} (hC : Ok C V cX12_meanOf RX12 5 2 45) (hR : Rt C V L (some .long) rJ) (hL : LKm L) : ∀ (n : Nat) (x1 : Int) (x2 : Int) (x4 : Int) (X : Mem), G C V L 0 0 5 15 [(0, vR V.1 120), (1, vI x1), (2, vJ x2), (4, vI x4)] [] X (L_X12_meanOf_15   n x1 x2 x4 X) := by
  intro n
  induction n with
  | zero => intro x1 x2 x4 X; exact g_none
  | succ n ih =>
    intro x1 x2 x4 X
    rw [L_X12_meanOf_15]
    refine g_iload (q := 3) hC dX12_meanOf_15 rfl ?_
    refine g_aload_n (q := 0) hC dX12_meanOf_17 rfl rfl rfl ?_
    refine g_getS (k := 0) hC cf_X12 (at_120 hL) (by decide) rfl (by decide) (by decide) wf_RX12_7 dX12_meanOf_18 ?_
    refine g_iconst (v := vI 2) hC dX12_meanOf_21 rfl ?_
    refine g_iald hC (at_121 hL) (by decide) dX12_meanOf_22 ?_
    refine g_icmp_ge (tgt := 67) hC dX12_meanOf_23 (by decide) ?_ ?_
    · refine g_lload_n (q := 2) hC dX12_meanOf_67 rfl rfl ?_
      exact g_lret hC hR dX12_meanOf_68
    · refine g_lload_n (q := 2) hC dX12_meanOf_26 rfl rfl ?_
      refine g_iload_n (q := 1) hC dX12_meanOf_27 rfl rfl ?_
      refine g_iload (q := 3) hC dX12_meanOf_28 rfl ?_
      refine g_ishr hC dX12_meanOf_30 ?_
      refine g_iconst (v := vI 1) hC dX12_meanOf_31 rfl ?_
      refine g_iand hC dX12_meanOf_32 ?_
      refine g_iconst (v := vI 1) hC dX12_meanOf_33 rfl ?_
      refine g_icmp_ne (tgt := 58) hC dX12_meanOf_34 (by decide) ?_ ?_
      · refine g_lconst (v := vJ 0) hC dX12_meanOf_58 rfl ?_
        refine g_sub [0, 1, 3] rfl ?_
        exact gB_X12_meanOf_59 hC hR hL ih x1 x4 0 x2 X
      · refine g_aload_n (q := 0) hC dX12_meanOf_37 rfl rfl rfl ?_
        refine g_getS (k := 0) hC cf_X12 (at_120 hL) (by decide) rfl (by decide) (by decide) wf_RX12_7 dX12_meanOf_38 ?_
        refine g_bipush (v := vI 10) hC dX12_meanOf_41 rfl ?_
        refine g_iald hC (at_121 hL) (by decide) dX12_meanOf_43 ?_
        refine g_i2l hC dX12_meanOf_44 ?_
        refine g_aload_n (q := 0) hC dX12_meanOf_45 rfl rfl rfl ?_
        refine g_iconst (v := vI 1) hC dX12_meanOf_46 rfl ?_
        refine g_iload (q := 3) hC dX12_meanOf_47 rfl ?_
        refine g_ishl hC dX12_meanOf_49 ?_
        refine g_iconst (v := vI 0) hC dX12_meanOf_50 rfl ?_
        refine g_callVJ (As := [vI (ishl 1 x4), vI 0]) hC mv_X12_partsOf wml_RX12_308 (k_X12_partsOf _ V hL (ishl 1 x4) 0 X) cf_X12 (at_120 hL) (by decide) ⟨Nat.zero_le _, Nat.zero_le _⟩ rfl rfl ⟨Nat.le_of_ble_eq_true rfl, Nat.le_of_ble_eq_true rfl⟩ (Nat.le_of_ble_eq_true rfl) dX12_meanOf_51 (fun r3 X4 => ?_)
        refine g_lmul hC dX12_meanOf_54 ?_
        refine g_goto (tgt := 59) hC dX12_meanOf_55 (by decide) ?_
        refine g_sub [0, 1, 3] rfl ?_
        exact gB_X12_meanOf_59 hC hR hL ih x1 x4 ((X 121 10) * r3) x2 X4
set_option maxRecDepth 20000 in
theorem k_X12_meanOf (l : Launch) (V : Ev) {L : List Kd} (hL : LKm L) (p1 : Int) (X : Mem)  : Kt l V L yX12_meanOf (.code yX12_meanOf cX12_meanOf 5 (some .long)) 2 45 [vR V.1 120, vI p1] rJ X (f_X12_meanOf p1 X) := by
  refine kt_of (own := RX12) (lv0 := [(0, vR V.1 120), (1, vI p1)]) (by decide) rfl (Nat.le_of_ble_eq_true rfl) rfl (fun C hCl hC hR => ?_)
  subst hCl
  unfold f_X12_meanOf
  refine g_ldc2 (n := 1000000) hC wk_RX12_300 rfl dX12_meanOf_0 ?_
  refine g_aload_n (q := 0) hC dX12_meanOf_3 rfl rfl rfl ?_
  refine g_getS (k := 30) hC cf_X12 (at_120 hL) (by decide) rfl (by decide) (by decide) wf_RX12_63 dX12_meanOf_4 ?_
  refine g_iload_n (q := 1) hC dX12_meanOf_7 rfl rfl ?_
  refine g_iald hC (at_134 hL) (by decide) dX12_meanOf_8 ?_
  refine g_i2l hC dX12_meanOf_9 ?_
  refine g_lmul hC dX12_meanOf_10 ?_
  refine g_topJ (fun v1 => ?_)
  refine g_lstore_n hC dX12_meanOf_11 rfl (by decide) rfl ?_
  refine g_iconst (v := vI 0) hC dX12_meanOf_12 rfl ?_
  refine g_istore hC dX12_meanOf_13 (by decide) rfl ?_
  refine g_sub [2, 3, 1, 0] rfl ?_
  exact gL_X12_meanOf_15 hC hR hL  KF p1 v1 0 X
def B_X12_mean_75 (x1 : Int) (x2 : Int) (x3 : Int) (X : Mem) : Option (Int × Mem) :=
  c2 x3 ((-1)) <| if ¬ x3 = ((-1)) then
    cl (f_X12_walks x1 x2 x3 X) fun _ X8 =>
    cl (f_X12_meanOf x3 X8) fun r9 X10 =>
    cl (f_X12_tellsBy r9 1000000 X10) fun r11 X12 =>
    cl (f_X12_gives x3 X12) fun r13 X14 =>
    some (r13, X14)
  else
    cl (f_X12_refuse 6 X) fun r15 X16 =>
    some (r15, X16)
def B_X12_mean_69 (go26 : Int → Int → Int → Int → Mem → Option (Int × Mem)) (x1 : Int) (x2 : Int) (x3 : Int) (x4 : Int) (X : Mem) : Option (Int × Mem) :=
  go26 x1 x2 x3 (x4 + 1) X
def B_X12_mean_66 (go26 : Int → Int → Int → Int → Mem → Option (Int × Mem)) (x1 : Int) (x2 : Int) (x4 : Int) (X : Mem) : Option (Int × Mem) :=
  B_X12_mean_69  go26 x1 x2 x4 x4 X
def L_X12_mean_26 : Nat → Int → Int → Int → Int → Mem → Option (Int × Mem)
  | 0, _, _, _, _, _ => none
  | n + 1, x1, x2, x3, x4, X =>
    cl (f_X12_sets X) fun r5 X6 =>
    c2 x4 r5 <| if r5 ≤ x4 then
      B_X12_mean_75   x1 x2 x3 X6
    else
      ax 32 x4 <|
      c2 (X6 134 x4) ((-1)) <| if (X6 134 x4) = ((-1)) then
        B_X12_mean_69  (fun x1 x2 x3 x4 X => L_X12_mean_26   n x1 x2 x3 x4 X) x1 x2 x3 x4 X6
      else
        c2 x3 ((-1)) <| if x3 = ((-1)) then
          B_X12_mean_66  (fun x1 x2 x3 x4 X => L_X12_mean_26   n x1 x2 x3 x4 X) x1 x2 x4 X6
        else
          cl (f_X12_meanOf x4 X6) fun r17 X18 =>
          cl (f_X12_meanOf x3 X18) fun r19 X20 =>
          d2 r17 r19 <| if r19 ≤ r17 then
            B_X12_mean_69  (fun x1 x2 x3 x4 X => L_X12_mean_26   n x1 x2 x3 x4 X) x1 x2 x3 x4 X20
          else
            B_X12_mean_66  (fun x1 x2 x3 x4 X => L_X12_mean_26   n x1 x2 x3 x4 X) x1 x2 x4 X20
def f_X12_mean (p1 : Int) (p2 : Int) (X : Mem) : Option (Int × Mem) :=
  cl (f_X12_areCells p1 p2 X) fun r1 X2 =>
  c1 r1 <| if ¬ r1 = 0 then
    cl (f_X12_readies p1 p2 X2) fun _ X4 =>
    L_X12_mean_26   KF p1 p2 ((-1)) 0 X4
  else
    cl (f_X12_refuse 1 X2) fun r21 X22 =>
    some (r21, X22)
set_option maxRecDepth 20000 in
theorem gB_X12_mean_75 {C : Cx} {V : Ev} {L : List Kd} (hC : Ok C V cX12_mean RX12 5 6 142) (hR : Rt C V L (some .int) rI) (hL : LKm L) (x1 : Int) (x2 : Int) (x3 : Int) (X : Mem)  : G C V L 0 0 5 75 [(0, vR V.1 120), (1, vI x1), (2, vI x2), (3, vI x3)] [] X (B_X12_mean_75   x1 x2 x3 X) := by
  unfold B_X12_mean_75
  refine g_iload_n (q := 3) hC dX12_mean_75 rfl rfl ?_
  refine g_iconst (v := vI (-1)) hC dX12_mean_76 rfl ?_
  refine g_icmp_ne (tgt := 87) hC dX12_mean_77 (by decide) ?_ ?_
  · refine g_aload_n (q := 0) hC dX12_mean_87 rfl rfl rfl ?_
    refine g_iload_n (q := 1) hC dX12_mean_88 rfl rfl ?_
    refine g_iload_n (q := 2) hC dX12_mean_89 rfl rfl ?_
    refine g_iload_n (q := 3) hC dX12_mean_90 rfl rfl ?_
    refine g_callVV (As := [vI x1, vI x2, vI x3]) hC mv_X12_walks wml_RX12_374 (k_X12_walks _ V hL x1 x2 x3 X) cf_X12 (at_120 hL) (by decide) ⟨Nat.zero_le _, Nat.zero_le _⟩ rfl rfl ⟨Nat.le_of_ble_eq_true rfl, Nat.le_of_ble_eq_true rfl⟩ (Nat.le_of_ble_eq_true rfl) dX12_mean_91 (fun _ X8 => ?_)
    refine g_aload_n (q := 0) hC dX12_mean_94 rfl rfl rfl ?_
    refine g_aload_n (q := 0) hC dX12_mean_95 rfl rfl rfl ?_
    refine g_iload_n (q := 3) hC dX12_mean_96 rfl rfl ?_
    refine g_callVJ (As := [vI x3]) hC mv_X12_meanOf wml_RX12_384 (k_X12_meanOf _ V hL x3 X8) cf_X12 (at_120 hL) (by decide) ⟨Nat.zero_le _, Nat.zero_le _⟩ rfl rfl ⟨Nat.le_of_ble_eq_true rfl, Nat.le_of_ble_eq_true rfl⟩ (Nat.le_of_ble_eq_true rfl) dX12_mean_97 (fun r9 X10 => ?_)
    refine g_ldc2 (n := 1000000) hC wk_RX12_300 rfl dX12_mean_100 ?_
    refine g_callVI (As := [vJ r9, vJ 1000000]) hC mv_X12_tellsBy wml_RX12_312 (k_X12_tellsBy _ V hL r9 1000000 X10) cf_X12 (at_120 hL) (by decide) ⟨Nat.zero_le _, Nat.zero_le _⟩ rfl rfl ⟨Nat.le_of_ble_eq_true rfl, Nat.le_of_ble_eq_true rfl⟩ (Nat.le_of_ble_eq_true rfl) dX12_mean_103 (fun r11 X12 => ?_)
    refine g_pop hC dX12_mean_106 rfl ?_
    refine g_aload_n (q := 0) hC dX12_mean_107 rfl rfl rfl ?_
    refine g_iload_n (q := 3) hC dX12_mean_108 rfl rfl ?_
    refine g_callVI (As := [vI x3]) hC mv_X12_gives wml_RX12_188 (k_X12_gives _ V hL x3 X12) cf_X12 (at_120 hL) (by decide) ⟨Nat.zero_le _, Nat.zero_le _⟩ rfl rfl ⟨Nat.le_of_ble_eq_true rfl, Nat.le_of_ble_eq_true rfl⟩ (Nat.le_of_ble_eq_true rfl) dX12_mean_109 (fun r13 X14 => ?_)
    exact g_iret hC hR dX12_mean_112
  · refine g_aload_n (q := 0) hC dX12_mean_80 rfl rfl rfl ?_
    refine g_bipush (v := vI 6) hC dX12_mean_81 rfl ?_
    refine g_callVI (As := [vI 6]) hC mv_X12_refuse wml_RX12_185 (k_X12_refuse _ V hL 6 X) cf_X12 (at_120 hL) (by decide) ⟨Nat.zero_le _, Nat.zero_le _⟩ rfl rfl ⟨Nat.le_of_ble_eq_true rfl, Nat.le_of_ble_eq_true rfl⟩ (Nat.le_of_ble_eq_true rfl) dX12_mean_83 (fun r15 X16 => ?_)
    exact g_iret hC hR dX12_mean_86
set_option maxRecDepth 20000 in
theorem gB_X12_mean_69 {C : Cx} {V : Ev} {L : List Kd} (hC : Ok C V cX12_mean RX12 5 6 142) (hR : Rt C V L (some .int) rI) (hL : LKm L) {go26 : Int → Int → Int → Int → Mem → Option (Int × Mem)} (hgo26 : ∀ (x1 : Int) (x2 : Int) (x3 : Int) (x4 : Int) (X : Mem), G C V L 0 0 5 26 [(0, vR V.1 120), (1, vI x1), (2, vI x2), (3, vI x3), (4, vI x4)] [] X (go26 x1 x2 x3 x4 X)) (x1 : Int) (x2 : Int) (x3 : Int) (x4 : Int) (X : Mem)  : G C V L 0 0 5 69 [(0, vR V.1 120), (1, vI x1), (2, vI x2), (3, vI x3), (4, vI x4)] [] X (B_X12_mean_69  go26 x1 x2 x3 x4 X) := by
  unfold B_X12_mean_69
  refine g_iinc (q := 4) hC dX12_mean_69 rfl (by decide) rfl ?_
  refine g_goto (tgt := 26) hC dX12_mean_72 (by decide) ?_
  refine g_sub [1, 2, 3, 4, 0] rfl ?_
  exact hgo26 x1 x2 x3 (x4 + 1) X
set_option maxRecDepth 20000 in
theorem gB_X12_mean_66 {C : Cx} {V : Ev} {L : List Kd} (hC : Ok C V cX12_mean RX12 5 6 142) (hR : Rt C V L (some .int) rI) (hL : LKm L) {go26 : Int → Int → Int → Int → Mem → Option (Int × Mem)} (hgo26 : ∀ (x1 : Int) (x2 : Int) (x3 : Int) (x4 : Int) (X : Mem), G C V L 0 0 5 26 [(0, vR V.1 120), (1, vI x1), (2, vI x2), (3, vI x3), (4, vI x4)] [] X (go26 x1 x2 x3 x4 X)) (x1 : Int) (x2 : Int) (x4 : Int) (X : Mem)  : G C V L 0 0 5 66 [(0, vR V.1 120), (1, vI x1), (2, vI x2), (4, vI x4)] [] X (B_X12_mean_66  go26 x1 x2 x4 X) := by
  unfold B_X12_mean_66
  refine g_iload (q := 3) hC dX12_mean_66 rfl ?_
  refine g_istore_n hC dX12_mean_68 rfl (by decide) rfl ?_
  refine g_sub [1, 2, 3, 0, 4] rfl ?_
  exact gB_X12_mean_69 hC hR hL hgo26 x1 x2 x4 x4 X
set_option maxRecDepth 20000 in
theorem gL_X12_mean_26 {C : Cx} {V : Ev} {L : List Kd} (hC : Ok C V cX12_mean RX12 5 6 142) (hR : Rt C V L (some .int) rI) (hL : LKm L) : ∀ (n : Nat) (x1 : Int) (x2 : Int) (x3 : Int) (x4 : Int) (X : Mem), G C V L 0 0 5 26 [(0, vR V.1 120), (1, vI x1), (2, vI x2), (3, vI x3), (4, vI x4)] [] X (L_X12_mean_26   n x1 x2 x3 x4 X) := by
  intro n
  induction n with
  | zero => intro x1 x2 x3 x4 X; exact g_none
  | succ n ih =>
    intro x1 x2 x3 x4 X
    rw [L_X12_mean_26]
    refine g_iload (q := 4) hC dX12_mean_26 rfl ?_
    refine g_aload_n (q := 0) hC dX12_mean_28 rfl rfl rfl ?_
    refine g_callVI (As := []) hC mv_X12_sets wml_RX12_263 (k_X12_sets _ V hL X) cf_X12 (at_120 hL) (by decide) ⟨Nat.zero_le _, Nat.zero_le _⟩ rfl rfl ⟨Nat.le_of_ble_eq_true rfl, Nat.le_of_ble_eq_true rfl⟩ (Nat.le_of_ble_eq_true rfl) dX12_mean_29 (fun r5 X6 => ?_)
    refine g_icmp_ge (tgt := 75) hC dX12_mean_32 (by decide) ?_ ?_
    · refine g_sub [0, 1, 2, 3] rfl ?_
      exact gB_X12_mean_75 hC hR hL  x1 x2 x3 X6
    · refine g_aload_n (q := 0) hC dX12_mean_35 rfl rfl rfl ?_
      refine g_getS (k := 30) hC cf_X12 (at_120 hL) (by decide) rfl (by decide) (by decide) wf_RX12_63 dX12_mean_36 ?_
      refine g_iload (q := 4) hC dX12_mean_39 rfl ?_
      refine g_iald hC (at_134 hL) (by decide) dX12_mean_41 ?_
      refine g_iconst (v := vI (-1)) hC dX12_mean_42 rfl ?_
      refine g_icmp_eq (tgt := 69) hC dX12_mean_43 (by decide) ?_ ?_
      · exact gB_X12_mean_69 hC hR hL ih x1 x2 x3 x4 X6
      · refine g_iload_n (q := 3) hC dX12_mean_46 rfl rfl ?_
        refine g_iconst (v := vI (-1)) hC dX12_mean_47 rfl ?_
        refine g_icmp_eq (tgt := 66) hC dX12_mean_48 (by decide) ?_ ?_
        · refine g_sub [0, 1, 2, 4] rfl ?_
          exact gB_X12_mean_66 hC hR hL ih x1 x2 x4 X6
        · refine g_aload_n (q := 0) hC dX12_mean_51 rfl rfl rfl ?_
          refine g_iload (q := 4) hC dX12_mean_52 rfl ?_
          refine g_callVJ (As := [vI x4]) hC mv_X12_meanOf wml_RX12_384 (k_X12_meanOf _ V hL x4 X6) cf_X12 (at_120 hL) (by decide) ⟨Nat.zero_le _, Nat.zero_le _⟩ rfl rfl ⟨Nat.le_of_ble_eq_true rfl, Nat.le_of_ble_eq_true rfl⟩ (Nat.le_of_ble_eq_true rfl) dX12_mean_54 (fun r17 X18 => ?_)
          refine g_aload_n (q := 0) hC dX12_mean_57 rfl rfl rfl ?_
          refine g_iload_n (q := 3) hC dX12_mean_58 rfl rfl ?_
          refine g_callVJ (As := [vI x3]) hC mv_X12_meanOf wml_RX12_384 (k_X12_meanOf _ V hL x3 X18) cf_X12 (at_120 hL) (by decide) ⟨Nat.zero_le _, Nat.zero_le _⟩ rfl rfl ⟨Nat.le_of_ble_eq_true rfl, Nat.le_of_ble_eq_true rfl⟩ (Nat.le_of_ble_eq_true rfl) dX12_mean_59 (fun r19 X20 => ?_)
          refine g_lcmp_ge (tgt := 69) hC dX12_mean_62 rfl dX12_mean_63 (by decide) ?_ ?_
          · exact gB_X12_mean_69 hC hR hL ih x1 x2 x3 x4 X20
          · refine g_sub [0, 1, 2, 4] rfl ?_
            exact gB_X12_mean_66 hC hR hL ih x1 x2 x4 X20
set_option maxRecDepth 20000 in
theorem k_X12_mean (l : Launch) (V : Ev) {L : List Kd} (hL : LKm L) (p1 : Int) (p2 : Int) (X : Mem)  : Kt l V L yX12_mean (.code yX12_mean cX12_mean 5 (some .int)) 6 142 [vR V.1 120, vI p1, vI p2] rI X (f_X12_mean p1 p2 X) := by
  refine kt_of (own := RX12) (lv0 := [(0, vR V.1 120), (1, vI p1), (2, vI p2)]) (by decide) rfl (Nat.le_of_ble_eq_true rfl) rfl (fun C hCl hC hR => ?_)
  subst hCl
  unfold f_X12_mean
  refine g_aload_n (q := 0) hC dX12_mean_0 rfl rfl rfl ?_
  refine g_iload_n (q := 1) hC dX12_mean_1 rfl rfl ?_
  refine g_iload_n (q := 2) hC dX12_mean_2 rfl rfl ?_
  refine g_callVI (As := [vI p1, vI p2]) hC mv_X12_areCells wml_RX12_378 (k_X12_areCells _ V hL p1 p2 X) cf_X12 (at_120 hL) (by decide) ⟨Nat.zero_le _, Nat.zero_le _⟩ rfl rfl ⟨Nat.le_of_ble_eq_true rfl, Nat.le_of_ble_eq_true rfl⟩ (Nat.le_of_ble_eq_true rfl) dX12_mean_3 (fun r1 X2 => ?_)
  refine g_if_ne (tgt := 15) hC dX12_mean_6 (by decide) ?_ ?_
  · refine g_aload_n (q := 0) hC dX12_mean_15 rfl rfl rfl ?_
    refine g_iload_n (q := 1) hC dX12_mean_16 rfl rfl ?_
    refine g_iload_n (q := 2) hC dX12_mean_17 rfl rfl ?_
    refine g_callVV (As := [vI p1, vI p2]) hC mv_X12_readies wml_RX12_371 (k_X12_readies _ V hL p1 p2 X2) cf_X12 (at_120 hL) (by decide) ⟨Nat.zero_le _, Nat.zero_le _⟩ rfl rfl ⟨Nat.le_of_ble_eq_true rfl, Nat.le_of_ble_eq_true rfl⟩ (Nat.le_of_ble_eq_true rfl) dX12_mean_18 (fun _ X4 => ?_)
    refine g_iconst (v := vI (-1)) hC dX12_mean_21 rfl ?_
    refine g_istore_n hC dX12_mean_22 rfl (by decide) rfl ?_
    refine g_iconst (v := vI 0) hC dX12_mean_23 rfl ?_
    refine g_istore hC dX12_mean_24 (by decide) rfl ?_
    refine g_sub [2, 3, 4, 1, 0] rfl ?_
    exact gL_X12_mean_26 hC hR hL  KF p1 p2 ((-1)) 0 X4
  · refine g_aload_n (q := 0) hC dX12_mean_9 rfl rfl rfl ?_
    refine g_iconst (v := vI 1) hC dX12_mean_10 rfl ?_
    refine g_callVI (As := [vI 1]) hC mv_X12_refuse wml_RX12_185 (k_X12_refuse _ V hL 1 X2) cf_X12 (at_120 hL) (by decide) ⟨Nat.zero_le _, Nat.zero_le _⟩ rfl rfl ⟨Nat.le_of_ble_eq_true rfl, Nat.le_of_ble_eq_true rfl⟩ (Nat.le_of_ble_eq_true rfl) dX12_mean_11 (fun r21 X22 => ?_)
    exact g_iret hC hR dX12_mean_14
def f_X12_length  (X : Mem) : Option (Int × Mem) :=
  c1 (X 120 36) <| if ¬ (X 120 36) = 0 then
    cl (f_X12_gives (X 120 36) X) fun r1 X2 =>
    some (r1, X2)
  else
    cl (f_X12_refuse 6 X) fun r3 X4 =>
    some (r3, X4)
set_option maxRecDepth 20000 in
theorem k_X12_length (l : Launch) (V : Ev) {L : List Kd} (hL : LKm L)  (X : Mem)  : Kt l V L yX12_length (.code yX12_length cX12_length 1 (some .int)) 1 21 [vR V.1 120] rI X (f_X12_length  X) := by
  refine kt_of (own := RX12) (lv0 := [(0, vR V.1 120)]) (by decide) rfl (Nat.le_of_ble_eq_true rfl) rfl (fun C hCl hC hR => ?_)
  subst hCl
  unfold f_X12_length
  refine g_aload_n (q := 0) hC dX12_length_0 rfl rfl rfl ?_
  refine g_getI (k := 36) (kz := 36) hC cf_X12 (at_120 hL) (by decide) rfl (by decide) rfl wf_RX12_368 dX12_length_1 ?_
  refine g_if_ne (tgt := 16) hC dX12_length_4 (by decide) ?_ ?_
  · refine g_aload_n (q := 0) hC dX12_length_16 rfl rfl rfl ?_
    refine g_aload_n (q := 0) hC dX12_length_17 rfl rfl rfl ?_
    refine g_getI (k := 36) (kz := 36) hC cf_X12 (at_120 hL) (by decide) rfl (by decide) rfl wf_RX12_368 dX12_length_18 ?_
    refine g_callVI (As := [vI (X 120 36)]) hC mv_X12_gives wml_RX12_188 (k_X12_gives _ V hL (X 120 36) X) cf_X12 (at_120 hL) (by decide) ⟨Nat.zero_le _, Nat.zero_le _⟩ rfl rfl ⟨Nat.le_of_ble_eq_true rfl, Nat.le_of_ble_eq_true rfl⟩ (Nat.le_of_ble_eq_true rfl) dX12_length_21 (fun r1 X2 => ?_)
    exact g_iret hC hR dX12_length_24
  · refine g_aload_n (q := 0) hC dX12_length_7 rfl rfl rfl ?_
    refine g_bipush (v := vI 6) hC dX12_length_8 rfl ?_
    refine g_callVI (As := [vI 6]) hC mv_X12_refuse wml_RX12_185 (k_X12_refuse _ V hL 6 X) cf_X12 (at_120 hL) (by decide) ⟨Nat.zero_le _, Nat.zero_le _⟩ rfl rfl ⟨Nat.le_of_ble_eq_true rfl, Nat.le_of_ble_eq_true rfl⟩ (Nat.le_of_ble_eq_true rfl) dX12_length_10 (fun r3 X4 => ?_)
    refine g_goto (tgt := 24) hC dX12_length_13 (by decide) ?_
    exact g_iret hC hR dX12_length_24
def B_X12_way_12  (X : Mem) : Option (Int × Mem) :=
  cl (f_X12_refuse 6 X) fun r1 X2 =>
  some (r1, X2)
def f_X12_way (p1 : Int) (X : Mem) : Option (Int × Mem) :=
  c1 p1 <| if p1 < 0 then
    B_X12_way_12   X
  else
    c2 p1 (X 120 36) <| if p1 < (X 120 36) then
      ax 2000 p1 <|
      cl (f_X12_gives (X 135 p1) X) fun r3 X4 =>
      some (r3, X4)
    else
      B_X12_way_12   X
set_option maxRecDepth 20000 in
theorem gB_X12_way_12 {C : Cx} {V : Ev} {L : List Kd} (hC : Ok C V cX12_way RX12 2 1 21) (hR : Rt C V L (some .int) rI) (hL : LKm L)  (X : Mem)  : G C V L 0 0 2 12 [(0, vR V.1 120)] [] X (B_X12_way_12    X) := by
  unfold B_X12_way_12
  refine g_aload_n (q := 0) hC dX12_way_12 rfl rfl rfl ?_
  refine g_bipush (v := vI 6) hC dX12_way_13 rfl ?_
  refine g_callVI (As := [vI 6]) hC mv_X12_refuse wml_RX12_185 (k_X12_refuse _ V hL 6 X) cf_X12 (at_120 hL) (by decide) ⟨Nat.zero_le _, Nat.zero_le _⟩ rfl rfl ⟨Nat.le_of_ble_eq_true rfl, Nat.le_of_ble_eq_true rfl⟩ (Nat.le_of_ble_eq_true rfl) dX12_way_15 (fun r1 X2 => ?_)
  refine g_goto (tgt := 31) hC dX12_way_18 (by decide) ?_
  exact g_iret hC hR dX12_way_31
set_option maxRecDepth 20000 in
theorem k_X12_way (l : Launch) (V : Ev) {L : List Kd} (hL : LKm L) (p1 : Int) (X : Mem)  : Kt l V L yX12_way (.code yX12_way cX12_way 2 (some .int)) 1 21 [vR V.1 120, vI p1] rI X (f_X12_way p1 X) := by
  refine kt_of (own := RX12) (lv0 := [(0, vR V.1 120), (1, vI p1)]) (by decide) rfl (Nat.le_of_ble_eq_true rfl) rfl (fun C hCl hC hR => ?_)
  subst hCl
  unfold f_X12_way
  refine g_iload_n (q := 1) hC dX12_way_0 rfl rfl ?_
  refine g_if_lt (tgt := 12) hC dX12_way_1 (by decide) ?_ ?_
  · refine g_sub [0] rfl ?_
    exact gB_X12_way_12 hC hR hL  X
  · refine g_iload_n (q := 1) hC dX12_way_4 rfl rfl ?_
    refine g_aload_n (q := 0) hC dX12_way_5 rfl rfl rfl ?_
    refine g_getI (k := 36) (kz := 36) hC cf_X12 (at_120 hL) (by decide) rfl (by decide) rfl wf_RX12_368 dX12_way_6 ?_
    refine g_icmp_lt (tgt := 21) hC dX12_way_9 (by decide) ?_ ?_
    · refine g_aload_n (q := 0) hC dX12_way_21 rfl rfl rfl ?_
      refine g_aload_n (q := 0) hC dX12_way_22 rfl rfl rfl ?_
      refine g_getS (k := 35) hC cf_X12 (at_120 hL) (by decide) rfl (by decide) (by decide) wf_RX12_69 dX12_way_23 ?_
      refine g_iload_n (q := 1) hC dX12_way_26 rfl rfl ?_
      refine g_iald hC (at_135 hL) (by decide) dX12_way_27 ?_
      refine g_callVI (As := [vI (X 135 p1)]) hC mv_X12_gives wml_RX12_188 (k_X12_gives _ V hL (X 135 p1) X) cf_X12 (at_120 hL) (by decide) ⟨Nat.zero_le _, Nat.zero_le _⟩ rfl rfl ⟨Nat.le_of_ble_eq_true rfl, Nat.le_of_ble_eq_true rfl⟩ (Nat.le_of_ble_eq_true rfl) dX12_way_28 (fun r3 X4 => ?_)
      exact g_iret hC hR dX12_way_31
    · refine g_sub [0] rfl ?_
      exact gB_X12_way_12 hC hR hL  X
def L_X12_thinks_2 : Nat → Int → Mem → Option (Int × Mem)
  | 0, _, _ => none
  | n + 1, x1, X =>
    cl (f_X12_sets X) fun r1 X2 =>
    c2 x1 r1 <| if r1 ≤ x1 then
      some (0, X2)
    else
      ax 2200 (168 + x1) <|
      c1 (X2 121 (168 + x1)) <|
      ax 128 x1 <| bd (ms X2 136 x1 (X2 121 (168 + x1))) fun X3 =>
      L_X12_thinks_2   n (x1 + 1) X3
def f_X12_thinks  (X : Mem) : Option (Int × Mem) :=
  L_X12_thinks_2   KF 0 X
set_option maxRecDepth 20000 in
theorem gL_X12_thinks_2 {C : Cx} {V : Ev} {L : List Kd} (hC : Ok C V cX12_thinks RX12 2 1 20) (hR : Rt C V L none rV) (hL : LKm L) : ∀ (n : Nat) (x1 : Int) (X : Mem), G C V L 0 0 2 2 [(0, vR V.1 120), (1, vI x1)] [] X (L_X12_thinks_2   n x1 X) := by
  intro n
  induction n with
  | zero => intro x1 X; exact g_none
  | succ n ih =>
    intro x1 X
    rw [L_X12_thinks_2]
    refine g_iload_n (q := 1) hC dX12_thinks_2 rfl rfl ?_
    refine g_aload_n (q := 0) hC dX12_thinks_3 rfl rfl rfl ?_
    refine g_callVI (As := []) hC mv_X12_sets wml_RX12_263 (k_X12_sets _ V hL X) cf_X12 (at_120 hL) (by decide) ⟨Nat.zero_le _, Nat.zero_le _⟩ rfl rfl ⟨Nat.le_of_ble_eq_true rfl, Nat.le_of_ble_eq_true rfl⟩ (Nat.le_of_ble_eq_true rfl) dX12_thinks_4 (fun r1 X2 => ?_)
    refine g_icmp_ge (tgt := 33) hC dX12_thinks_7 (by decide) ?_ ?_
    · exact g_vret hC hR dX12_thinks_33
    · refine g_aload_n (q := 0) hC dX12_thinks_10 rfl rfl rfl ?_
      refine g_getS (k := 37) hC cf_X12 (at_120 hL) (by decide) rfl (by decide) (by decide) wf_RX12_72 dX12_thinks_11 ?_
      refine g_iload_n (q := 1) hC dX12_thinks_14 rfl rfl ?_
      refine g_aload_n (q := 0) hC dX12_thinks_15 rfl rfl rfl ?_
      refine g_getS (k := 0) hC cf_X12 (at_120 hL) (by decide) rfl (by decide) (by decide) wf_RX12_7 dX12_thinks_16 ?_
      refine g_sipush (v := vI 168) hC dX12_thinks_19 rfl ?_
      refine g_iload_n (q := 1) hC dX12_thinks_22 rfl rfl ?_
      refine g_iadd hC dX12_thinks_23 ?_
      refine g_iald hC (at_121 hL) (by decide) dX12_thinks_24 ?_
      refine g_i2l hC dX12_thinks_25 ?_
      refine g_last hC (at_136 hL) (by decide) dX12_thinks_26 (fun X3 => ?_)
      refine g_iinc (q := 1) hC dX12_thinks_27 rfl (by decide) rfl ?_
      refine g_goto (tgt := 2) hC dX12_thinks_30 (by decide) ?_
      refine g_sub [1, 0] rfl ?_
      exact ih (x1 + 1) X3
set_option maxRecDepth 20000 in
theorem k_X12_thinks (l : Launch) (V : Ev) {L : List Kd} (hL : LKm L)  (X : Mem)  : Kt l V L yX12_thinks (.code yX12_thinks cX12_thinks 2 none) 1 20 [vR V.1 120] rV X (f_X12_thinks  X) := by
  refine kt_of (own := RX12) (lv0 := [(0, vR V.1 120)]) (by decide) rfl (Nat.le_of_ble_eq_true rfl) rfl (fun C hCl hC hR => ?_)
  subst hCl
  unfold f_X12_thinks
  refine g_iconst (v := vI 0) hC dX12_thinks_0 rfl ?_
  refine g_istore_n hC dX12_thinks_1 rfl (by decide) rfl ?_
  refine g_sub [1, 0] rfl ?_
  exact gL_X12_thinks_2 hC hR hL  KF 0 X
def f_X12_hasCell (p1 : Int) (X : Mem) : Option (Int × Mem) :=
  cl (f_X12_cellOf p1 X) fun r1 X2 =>
  c2 r1 ((-1)) <| if r1 = ((-1)) then
    some (0, X2)
  else
    some (1, X2)
set_option maxRecDepth 20000 in
theorem k_X12_hasCell (l : Launch) (V : Ev) {L : List Kd} (hL : LKm L) (p1 : Int) (X : Mem)  : Kt l V L yX12_hasCell (.code yX12_hasCell cX12_hasCell 2 (some .boolean)) 2 42 [vR V.1 120, vI p1] rI X (f_X12_hasCell p1 X) := by
  refine kt_of (own := RX12) (lv0 := [(0, vR V.1 120), (1, vI p1)]) (by decide) rfl (Nat.le_of_ble_eq_true rfl) rfl (fun C hCl hC hR => ?_)
  subst hCl
  unfold f_X12_hasCell
  refine g_aload_n (q := 0) hC dX12_hasCell_0 rfl rfl rfl ?_
  refine g_iload_n (q := 1) hC dX12_hasCell_1 rfl rfl ?_
  refine g_callVI (As := [vI p1]) hC mv_X12_cellOf wml_RX12_272 (k_X12_cellOf _ V hL p1 X) cf_X12 (at_120 hL) (by decide) ⟨Nat.zero_le _, Nat.zero_le _⟩ rfl rfl ⟨Nat.le_of_ble_eq_true rfl, Nat.le_of_ble_eq_true rfl⟩ (Nat.le_of_ble_eq_true rfl) dX12_hasCell_2 (fun r1 X2 => ?_)
  refine g_iconst (v := vI (-1)) hC dX12_hasCell_5 rfl ?_
  refine g_icmp_eq (tgt := 13) hC dX12_hasCell_6 (by decide) ?_ ?_
  · refine g_iconst (v := vI 0) hC dX12_hasCell_13 rfl ?_
    exact g_zret1 hC hR (by decide) dX12_hasCell_14
  · refine g_iconst (v := vI 1) hC dX12_hasCell_9 rfl ?_
    refine g_goto (tgt := 14) hC dX12_hasCell_10 (by decide) ?_
    exact g_zret1 hC hR (by decide) dX12_hasCell_14
def f_X12_readFrom (p1 : Int) (X : Mem) : Option (Int × Mem) :=
  cl (f_X12_cellOf p1 X) fun r1 X2 =>
  cl (f_X12_sets X2) fun r3 X4 =>
  cl (f_X12_depthOf r1 (r3 - 1) X4) fun r5 X6 =>
  some (r5 - 1, X6)
set_option maxRecDepth 20000 in
theorem k_X12_readFrom (l : Launch) (V : Ev) {L : List Kd} (hL : LKm L) (p1 : Int) (X : Mem)  : Kt l V L yX12_readFrom (.code yX12_readFrom cX12_readFrom 2 (some .int)) 2 45 [vR V.1 120, vI p1] rI X (f_X12_readFrom p1 X) := by
  refine kt_of (own := RX12) (lv0 := [(0, vR V.1 120), (1, vI p1)]) (by decide) rfl (Nat.le_of_ble_eq_true rfl) rfl (fun C hCl hC hR => ?_)
  subst hCl
  unfold f_X12_readFrom
  refine g_aload_n (q := 0) hC dX12_readFrom_0 rfl rfl rfl ?_
  refine g_aload_n (q := 0) hC dX12_readFrom_1 rfl rfl rfl ?_
  refine g_iload_n (q := 1) hC dX12_readFrom_2 rfl rfl ?_
  refine g_callVI (As := [vI p1]) hC mv_X12_cellOf wml_RX12_272 (k_X12_cellOf _ V hL p1 X) cf_X12 (at_120 hL) (by decide) ⟨Nat.zero_le _, Nat.zero_le _⟩ rfl rfl ⟨Nat.le_of_ble_eq_true rfl, Nat.le_of_ble_eq_true rfl⟩ (Nat.le_of_ble_eq_true rfl) dX12_readFrom_3 (fun r1 X2 => ?_)
  refine g_aload_n (q := 0) hC dX12_readFrom_6 rfl rfl rfl ?_
  refine g_callVI (As := []) hC mv_X12_sets wml_RX12_263 (k_X12_sets _ V hL X2) cf_X12 (at_120 hL) (by decide) ⟨Nat.zero_le _, Nat.zero_le _⟩ rfl rfl ⟨Nat.le_of_ble_eq_true rfl, Nat.le_of_ble_eq_true rfl⟩ (Nat.le_of_ble_eq_true rfl) dX12_readFrom_7 (fun r3 X4 => ?_)
  refine g_iconst (v := vI 1) hC dX12_readFrom_10 rfl ?_
  refine g_isub hC dX12_readFrom_11 ?_
  refine g_callVI (As := [vI r1, vI (r3 - 1)]) hC mv_X12_depthOf wml_RX12_291 (k_X12_depthOf _ V hL r1 (r3 - 1) X4) cf_X12 (at_120 hL) (by decide) ⟨Nat.zero_le _, Nat.zero_le _⟩ rfl rfl ⟨Nat.le_of_ble_eq_true rfl, Nat.le_of_ble_eq_true rfl⟩ (Nat.le_of_ble_eq_true rfl) dX12_readFrom_12 (fun r5 X6 => ?_)
  refine g_iconst (v := vI 1) hC dX12_readFrom_15 rfl ?_
  refine g_isub hC dX12_readFrom_16 ?_
  exact g_iret hC hR dX12_readFrom_17
def f_X12_readTo (p1 : Int) (X : Mem) : Option (Int × Mem) :=
  cl (f_X12_cellOf p1 X) fun r1 X2 =>
  cl (f_X12_depthOf r1 0 X2) fun r3 X4 =>
  some (r3 + 1, X4)
set_option maxRecDepth 20000 in
theorem k_X12_readTo (l : Launch) (V : Ev) {L : List Kd} (hL : LKm L) (p1 : Int) (X : Mem)  : Kt l V L yX12_readTo (.code yX12_readTo cX12_readTo 2 (some .int)) 2 45 [vR V.1 120, vI p1] rI X (f_X12_readTo p1 X) := by
  refine kt_of (own := RX12) (lv0 := [(0, vR V.1 120), (1, vI p1)]) (by decide) rfl (Nat.le_of_ble_eq_true rfl) rfl (fun C hCl hC hR => ?_)
  subst hCl
  unfold f_X12_readTo
  refine g_aload_n (q := 0) hC dX12_readTo_0 rfl rfl rfl ?_
  refine g_aload_n (q := 0) hC dX12_readTo_1 rfl rfl rfl ?_
  refine g_iload_n (q := 1) hC dX12_readTo_2 rfl rfl ?_
  refine g_callVI (As := [vI p1]) hC mv_X12_cellOf wml_RX12_272 (k_X12_cellOf _ V hL p1 X) cf_X12 (at_120 hL) (by decide) ⟨Nat.zero_le _, Nat.zero_le _⟩ rfl rfl ⟨Nat.le_of_ble_eq_true rfl, Nat.le_of_ble_eq_true rfl⟩ (Nat.le_of_ble_eq_true rfl) dX12_readTo_3 (fun r1 X2 => ?_)
  refine g_iconst (v := vI 0) hC dX12_readTo_6 rfl ?_
  refine g_callVI (As := [vI r1, vI 0]) hC mv_X12_depthOf wml_RX12_291 (k_X12_depthOf _ V hL r1 0 X2) cf_X12 (at_120 hL) (by decide) ⟨Nat.zero_le _, Nat.zero_le _⟩ rfl rfl ⟨Nat.le_of_ble_eq_true rfl, Nat.le_of_ble_eq_true rfl⟩ (Nat.le_of_ble_eq_true rfl) dX12_readTo_7 (fun r3 X4 => ?_)
  refine g_iconst (v := vI 1) hC dX12_readTo_10 rfl ?_
  refine g_iadd hC dX12_readTo_11 ?_
  exact g_iret hC hR dX12_readTo_12
def B_X12_reads_81 (x5 : Int) (X : Mem) : Option (Int × Mem) :=
  d2 x5 0 <| if x5 ≤ 0 then
    some (0, X)
  else
    some (1, X)
def L_X12_reads_13 : Nat → Int → Int → Int → Int → Int → Mem → Option (Int × Mem)
  | 0, _, _, _, _, _, _ => none
  | n + 1, x1, x3, x4, x5, x7, X =>
    cl (f_X12_sets X) fun r3 X4 =>
    c2 x7 r3 <| if r3 ≤ x7 then
      B_X12_reads_81   x5 X4
    else
      ax 128 (x1 + x7) <|
      cl (f_X12_depthOf x4 x7 X4) fun r5 X6 =>
      cl (f_X12_weighs r5 x3 X6) fun r7 X8 =>
      c1 r7 <|
      ax 128 ((x1 + 32) + x7) <| bd (ms X8 136 ((x1 + 32) + x7) ((X4 136 (x1 + x7)) * r7)) fun X9 =>
      ax 128 ((x1 + 32) + x7) <|
      bd (x5 + (X9 136 ((x1 + 32) + x7))) fun v10 =>
      L_X12_reads_13   n x1 x3 x4 v10 (x7 + 1) X9
def f_X12_reads (p1 : Int) (p2 : Int) (p3 : Int) (X : Mem) : Option (Int × Mem) :=
  cl (f_X12_cellOf p2 X) fun r1 X2 =>
  L_X12_reads_13   KF p1 p3 r1 0 0 X2
set_option maxRecDepth 20000 in
theorem gB_X12_reads_81 {C : Cx} {V : Ev} {L : List Kd} (hC : Ok C V cX12_reads RX12 8 2 45) (hR : Rt C V L (some .boolean) rI) (hL : LKm L) (x5 : Int) (X : Mem)  : G C V L 0 0 8 81 [(5, vJ x5)] [] X (B_X12_reads_81   x5 X) := by
  unfold B_X12_reads_81
  refine g_lload (q := 0) hC dX12_reads_81 rfl ?_
  refine g_lconst (v := vJ 0) hC dX12_reads_83 rfl ?_
  refine g_lcmp_le (tgt := 92) hC dX12_reads_84 rfl dX12_reads_85 (by decide) ?_ ?_
  · refine g_iconst (v := vI 0) hC dX12_reads_92 rfl ?_
    exact g_zret1 hC hR (by decide) dX12_reads_93
  · refine g_iconst (v := vI 1) hC dX12_reads_88 rfl ?_
    refine g_goto (tgt := 93) hC dX12_reads_89 (by decide) ?_
    exact g_zret1 hC hR (by decide) dX12_reads_93
set_option maxRecDepth 20000 in
theorem gL_X12_reads_13 {C : Cx} {V : Ev} {L : List Kd} (hC : Ok C V cX12_reads RX12 8 2 45) (hR : Rt C V L (some .boolean) rI) (hL : LKm L) : ∀ (n : Nat) (x1 : Int) (x3 : Int) (x4 : Int) (x5 : Int) (x7 : Int) (X : Mem), G C V L 0 0 8 13 [(0, vR V.1 120), (1, vI x1), (3, vI x3), (4, vI x4), (5, vJ x5), (7, vI x7)] [] X (L_X12_reads_13   n x1 x3 x4 x5 x7 X) := by
  intro n
  induction n with
  | zero => intro x1 x3 x4 x5 x7 X; exact g_none
  | succ n ih =>
    intro x1 x3 x4 x5 x7 X
    rw [L_X12_reads_13]
    refine g_iload (q := 5) hC dX12_reads_13 rfl ?_
    refine g_aload_n (q := 0) hC dX12_reads_15 rfl rfl rfl ?_
    refine g_callVI (As := []) hC mv_X12_sets wml_RX12_263 (k_X12_sets _ V hL X) cf_X12 (at_120 hL) (by decide) ⟨Nat.zero_le _, Nat.zero_le _⟩ rfl rfl ⟨Nat.le_of_ble_eq_true rfl, Nat.le_of_ble_eq_true rfl⟩ (Nat.le_of_ble_eq_true rfl) dX12_reads_16 (fun r3 X4 => ?_)
    refine g_icmp_ge (tgt := 81) hC dX12_reads_19 (by decide) ?_ ?_
    · refine g_sub [4] rfl ?_
      exact gB_X12_reads_81 hC hR hL  x5 X4
    · refine g_aload_n (q := 0) hC dX12_reads_22 rfl rfl rfl ?_
      refine g_getS (k := 37) hC cf_X12 (at_120 hL) (by decide) rfl (by decide) (by decide) wf_RX12_72 dX12_reads_23 ?_
      refine g_iload_n (q := 1) hC dX12_reads_26 rfl rfl ?_
      refine g_bipush (v := vI 32) hC dX12_reads_27 rfl ?_
      refine g_iadd hC dX12_reads_29 ?_
      refine g_iload (q := 5) hC dX12_reads_30 rfl ?_
      refine g_iadd hC dX12_reads_32 ?_
      refine g_aload_n (q := 0) hC dX12_reads_33 rfl rfl rfl ?_
      refine g_getS (k := 37) hC cf_X12 (at_120 hL) (by decide) rfl (by decide) (by decide) wf_RX12_72 dX12_reads_34 ?_
      refine g_iload_n (q := 1) hC dX12_reads_37 rfl rfl ?_
      refine g_iload (q := 5) hC dX12_reads_38 rfl ?_
      refine g_iadd hC dX12_reads_40 ?_
      refine g_lald hC (at_136 hL) (by decide) dX12_reads_41 ?_
      refine g_aload_n (q := 0) hC dX12_reads_42 rfl rfl rfl ?_
      refine g_aload_n (q := 0) hC dX12_reads_43 rfl rfl rfl ?_
      refine g_iload (q := 3) hC dX12_reads_44 rfl ?_
      refine g_iload (q := 5) hC dX12_reads_46 rfl ?_
      refine g_callVI (As := [vI x4, vI x7]) hC mv_X12_depthOf wml_RX12_291 (k_X12_depthOf _ V hL x4 x7 X4) cf_X12 (at_120 hL) (by decide) ⟨Nat.zero_le _, Nat.zero_le _⟩ rfl rfl ⟨Nat.le_of_ble_eq_true rfl, Nat.le_of_ble_eq_true rfl⟩ (Nat.le_of_ble_eq_true rfl) dX12_reads_48 (fun r5 X6 => ?_)
      refine g_iload_n (q := 2) hC dX12_reads_51 rfl rfl ?_
      refine g_callVI (As := [vI r5, vI x3]) hC mv_X12_weighs wml_RX12_305 (k_X12_weighs _ V hL r5 x3 X6) cf_X12 (at_120 hL) (by decide) ⟨Nat.zero_le _, Nat.zero_le _⟩ rfl rfl ⟨Nat.le_of_ble_eq_true rfl, Nat.le_of_ble_eq_true rfl⟩ (Nat.le_of_ble_eq_true rfl) dX12_reads_52 (fun r7 X8 => ?_)
      refine g_i2l hC dX12_reads_55 ?_
      refine g_lmul hC dX12_reads_56 ?_
      refine g_last hC (at_136 hL) (by decide) dX12_reads_57 (fun X9 => ?_)
      refine g_lload (q := 4) hC dX12_reads_58 rfl ?_
      refine g_aload_n (q := 0) hC dX12_reads_60 rfl rfl rfl ?_
      refine g_getS (k := 37) hC cf_X12 (at_120 hL) (by decide) rfl (by decide) (by decide) wf_RX12_72 dX12_reads_61 ?_
      refine g_iload_n (q := 1) hC dX12_reads_64 rfl rfl ?_
      refine g_bipush (v := vI 32) hC dX12_reads_65 rfl ?_
      refine g_iadd hC dX12_reads_67 ?_
      refine g_iload (q := 5) hC dX12_reads_68 rfl ?_
      refine g_iadd hC dX12_reads_70 ?_
      refine g_lald hC (at_136 hL) (by decide) dX12_reads_71 ?_
      refine g_ladd hC dX12_reads_72 ?_
      refine g_topJ (fun v10 => ?_)
      refine g_lstore hC dX12_reads_73 (by decide) rfl ?_
      refine g_iinc (q := 5) hC dX12_reads_75 rfl (by decide) rfl ?_
      refine g_goto (tgt := 13) hC dX12_reads_78 (by decide) ?_
      refine g_sub [2, 3, 4, 5, 1, 0] rfl ?_
      exact ih x1 x3 x4 v10 (x7 + 1) X9
set_option maxRecDepth 20000 in
theorem k_X12_reads (l : Launch) (V : Ev) {L : List Kd} (hL : LKm L) (p1 : Int) (p2 : Int) (p3 : Int) (X : Mem)  : Kt l V L yX12_reads (.code yX12_reads cX12_reads 8 (some .boolean)) 2 45 [vR V.1 120, vI p1, vI p2, vI p3] rI X (f_X12_reads p1 p2 p3 X) := by
  refine kt_of (own := RX12) (lv0 := [(0, vR V.1 120), (1, vI p1), (2, vI p2), (3, vI p3)]) (by decide) rfl (Nat.le_of_ble_eq_true rfl) rfl (fun C hCl hC hR => ?_)
  subst hCl
  unfold f_X12_reads
  refine g_aload_n (q := 0) hC dX12_reads_0 rfl rfl rfl ?_
  refine g_iload_n (q := 2) hC dX12_reads_1 rfl rfl ?_
  refine g_callVI (As := [vI p2]) hC mv_X12_cellOf wml_RX12_272 (k_X12_cellOf _ V hL p2 X) cf_X12 (at_120 hL) (by decide) ⟨Nat.zero_le _, Nat.zero_le _⟩ rfl rfl ⟨Nat.le_of_ble_eq_true rfl, Nat.le_of_ble_eq_true rfl⟩ (Nat.le_of_ble_eq_true rfl) dX12_reads_2 (fun r1 X2 => ?_)
  refine g_istore hC dX12_reads_5 (by decide) rfl ?_
  refine g_lconst (v := vJ 0) hC dX12_reads_7 rfl ?_
  refine g_lstore hC dX12_reads_8 (by decide) rfl ?_
  refine g_iconst (v := vI 0) hC dX12_reads_10 rfl ?_
  refine g_istore hC dX12_reads_11 (by decide) rfl ?_
  refine g_sub [3, 4, 6, 2, 1, 0] rfl ?_
  exact gL_X12_reads_13 hC hR hL  KF p1 p3 r1 0 0 X2
def B_X12_worth0_82 (go5 : Int → Int → Int → Mem → Option (Int × Mem)) (x1 : Int) (x2 : Int) (x4 : Int) (X : Mem) : Option (Int × Mem) :=
  go5 x1 x2 (x4 + 1) X
def B_X12_worth0_75 (go5 : Int → Int → Int → Mem → Option (Int × Mem)) (x1 : Int) (x2 : Int) (x4 : Int) (x5 : Int) (X : Mem) : Option (Int × Mem) :=
  d2 x2 x5 <|
  bd (max x2 x5) fun v5 =>
  B_X12_worth0_82  go5 x1 v5 x4 X
def B_X12_worth0_66 (go5 : Int → Int → Int → Mem → Option (Int × Mem)) (go34 : Int → Int → Int → Int → Int → Mem → Option (Int × Mem)) (x1 : Int) (x2 : Int) (x4 : Int) (x7 : Int) (s0 : Int) (s1 : Int) (X : Mem) : Option (Int × Mem) :=
  bd (s1 + s0) fun v6 =>
  go34 x1 x2 x4 v6 (x7 + 1) X
def L_X12_worth0_34 (go5 : Int → Int → Int → Mem → Option (Int × Mem)) : Nat → Int → Int → Int → Int → Int → Mem → Option (Int × Mem)
  | 0, _, _, _, _, _, _ => none
  | n + 1, x1, x2, x4, x5, x7, X =>
    cl (f_X12_sets X) fun r3 X4 =>
    c2 x7 r3 <| if r3 ≤ x7 then
      B_X12_worth0_75  go5 x1 x2 x4 x5 X4
    else
      c1 (ia x7 x4) <| if ¬ (ia x7 x4) = 0 then
        B_X12_worth0_66  go5 (fun x1 x2 x4 x5 x7 X => L_X12_worth0_34  go5 n x1 x2 x4 x5 x7 X) x1 x2 x4 x7 0 x5 X4
      else
        ax 128 (x1 + x7) <|
        B_X12_worth0_66  go5 (fun x1 x2 x4 x5 x7 X => L_X12_worth0_34  go5 n x1 x2 x4 x5 x7 X) x1 x2 x4 x7 (X4 136 (x1 + x7)) x5 X4
def L_X12_worth0_5 : Nat → Int → Int → Int → Mem → Option (Int × Mem)
  | 0, _, _, _, _ => none
  | n + 1, x1, x2, x4, X =>
    cl (f_X12_sets X) fun r1 X2 =>
    c2 x4 r1 <| if r1 ≤ x4 then
      some (x2, X2)
    else
      ax 32 x4 <|
      c2 (X2 134 x4) ((-1)) <| if ¬ (X2 134 x4) = ((-1)) then
        L_X12_worth0_34  (fun x1 x2 x4 X => L_X12_worth0_5   n x1 x2 x4 X) KF x1 x2 x4 0 0 X2
      else
        B_X12_worth0_82  (fun x1 x2 x4 X => L_X12_worth0_5   n x1 x2 x4 X) x1 x2 x4 X2
def f_X12_worth0 (p1 : Int) (X : Mem) : Option (Int × Mem) :=
  L_X12_worth0_5   KF p1 0 0 X
set_option maxRecDepth 20000 in
theorem gB_X12_worth0_82 {C : Cx} {V : Ev} {L : List Kd} (hC : Ok C V cX12_worth0 RX12 8 1 23) (hR : Rt C V L (some .long) rJ) (hL : LKm L) {go5 : Int → Int → Int → Mem → Option (Int × Mem)} (hgo5 : ∀ (x1 : Int) (x2 : Int) (x4 : Int) (X : Mem), G C V L 0 0 8 5 [(0, vR V.1 120), (1, vI x1), (2, vJ x2), (4, vI x4)] [] X (go5 x1 x2 x4 X)) (x1 : Int) (x2 : Int) (x4 : Int) (X : Mem)  : G C V L 0 0 8 82 [(0, vR V.1 120), (1, vI x1), (2, vJ x2), (4, vI x4)] [] X (B_X12_worth0_82  go5 x1 x2 x4 X) := by
  unfold B_X12_worth0_82
  refine g_iinc (q := 3) hC dX12_worth0_82 rfl (by decide) rfl ?_
  refine g_goto (tgt := 5) hC dX12_worth0_85 (by decide) ?_
  refine g_sub [1, 2, 3, 0] rfl ?_
  exact hgo5 x1 x2 (x4 + 1) X
set_option maxRecDepth 20000 in
theorem gB_X12_worth0_75 {C : Cx} {V : Ev} {L : List Kd} (hC : Ok C V cX12_worth0 RX12 8 1 23) (hR : Rt C V L (some .long) rJ) (hL : LKm L) {go5 : Int → Int → Int → Mem → Option (Int × Mem)} (hgo5 : ∀ (x1 : Int) (x2 : Int) (x4 : Int) (X : Mem), G C V L 0 0 8 5 [(0, vR V.1 120), (1, vI x1), (2, vJ x2), (4, vI x4)] [] X (go5 x1 x2 x4 X)) (x1 : Int) (x2 : Int) (x4 : Int) (x5 : Int) (X : Mem)  : G C V L 0 0 8 75 [(0, vR V.1 120), (1, vI x1), (2, vJ x2), (4, vI x4), (5, vJ x5)] [] X (B_X12_worth0_75  go5 x1 x2 x4 x5 X) := by
  unfold B_X12_worth0_75
  refine g_lload_n (q := 2) hC dX12_worth0_75 rfl rfl ?_
  refine g_lload (q := 4) hC dX12_worth0_76 rfl ?_
  refine g_maxl hC wml_RX12_388 (Nat.le_of_ble_eq_true rfl) (Nat.le_of_ble_eq_true rfl) ⟨Nat.zero_le _, Nat.zero_le _⟩ dX12_worth0_78 ?_
  refine g_topJ (fun v5 => ?_)
  refine g_lstore_n hC dX12_worth0_81 rfl (by decide) rfl ?_
  refine g_sub [1, 2, 0, 3] rfl ?_
  exact gB_X12_worth0_82 hC hR hL hgo5 x1 v5 x4 X
set_option maxRecDepth 20000 in
theorem gB_X12_worth0_66 {C : Cx} {V : Ev} {L : List Kd} (hC : Ok C V cX12_worth0 RX12 8 1 23) (hR : Rt C V L (some .long) rJ) (hL : LKm L) {go5 : Int → Int → Int → Mem → Option (Int × Mem)} {go34 : Int → Int → Int → Int → Int → Mem → Option (Int × Mem)} (hgo5 : ∀ (x1 : Int) (x2 : Int) (x4 : Int) (X : Mem), G C V L 0 0 8 5 [(0, vR V.1 120), (1, vI x1), (2, vJ x2), (4, vI x4)] [] X (go5 x1 x2 x4 X)) (hgo34 : ∀ (x1 : Int) (x2 : Int) (x4 : Int) (x5 : Int) (x7 : Int) (X : Mem), G C V L 0 0 8 34 [(0, vR V.1 120), (1, vI x1), (2, vJ x2), (4, vI x4), (5, vJ x5), (7, vI x7)] [] X (go34 x1 x2 x4 x5 x7 X)) (x1 : Int) (x2 : Int) (x4 : Int) (x7 : Int) (s0 : Int) (s1 : Int) (X : Mem)  : G C V L 0 0 8 66 [(0, vR V.1 120), (1, vI x1), (2, vJ x2), (4, vI x4), (7, vI x7)] [vJ s0, vJ s1] X (B_X12_worth0_66  go5 go34 x1 x2 x4 x7 s0 s1 X) := by
  unfold B_X12_worth0_66
  refine g_ladd hC dX12_worth0_66 ?_
  refine g_topJ (fun v6 => ?_)
  refine g_lstore hC dX12_worth0_67 (by decide) rfl ?_
  refine g_iinc (q := 5) hC dX12_worth0_69 rfl (by decide) rfl ?_
  refine g_goto (tgt := 34) hC dX12_worth0_72 (by decide) ?_
  refine g_sub [2, 3, 4, 5, 1, 0] rfl ?_
  exact hgo34 x1 x2 x4 v6 (x7 + 1) X
set_option maxRecDepth 20000 in
theorem gL_X12_worth0_34 {C : Cx} {V : Ev} {L : List Kd} (hC : Ok C V cX12_worth0 RX12 8 1 23) (hR : Rt C V L (some .long) rJ) (hL : LKm L) {go5 : Int → Int → Int → Mem → Option (Int × Mem)} (hgo5 : ∀ (x1 : Int) (x2 : Int) (x4 : Int) (X : Mem), G C V L 0 0 8 5 [(0, vR V.1 120), (1, vI x1), (2, vJ x2), (4, vI x4)] [] X (go5 x1 x2 x4 X)) : ∀ (n : Nat) (x1 : Int) (x2 : Int) (x4 : Int) (x5 : Int) (x7 : Int) (X : Mem), G C V L 0 0 8 34 [(0, vR V.1 120), (1, vI x1), (2, vJ x2), (4, vI x4), (5, vJ x5), (7, vI x7)] [] X (L_X12_worth0_34  go5 n x1 x2 x4 x5 x7 X) := by
  intro n
  induction n with
  | zero => intro x1 x2 x4 x5 x7 X; exact g_none
  | succ n ih =>
    intro x1 x2 x4 x5 x7 X
    rw [L_X12_worth0_34]
    refine g_iload (q := 5) hC dX12_worth0_34 rfl ?_
    refine g_aload_n (q := 0) hC dX12_worth0_36 rfl rfl rfl ?_
    refine g_callVI (As := []) hC mv_X12_sets wml_RX12_263 (k_X12_sets _ V hL X) cf_X12 (at_120 hL) (by decide) ⟨Nat.zero_le _, Nat.zero_le _⟩ rfl rfl ⟨Nat.le_of_ble_eq_true rfl, Nat.le_of_ble_eq_true rfl⟩ (Nat.le_of_ble_eq_true rfl) dX12_worth0_37 (fun r3 X4 => ?_)
    refine g_icmp_ge (tgt := 75) hC dX12_worth0_40 (by decide) ?_ ?_
    · refine g_sub [0, 1, 2, 3, 4] rfl ?_
      exact gB_X12_worth0_75 hC hR hL hgo5 x1 x2 x4 x5 X4
    · refine g_lload (q := 4) hC dX12_worth0_43 rfl ?_
      refine g_iload (q := 5) hC dX12_worth0_45 rfl ?_
      refine g_iload (q := 3) hC dX12_worth0_47 rfl ?_
      refine g_iand hC dX12_worth0_49 ?_
      refine g_if_ne (tgt := 65) hC dX12_worth0_50 (by decide) ?_ ?_
      · refine g_lconst (v := vJ 0) hC dX12_worth0_65 rfl ?_
        refine g_sub [0, 1, 2, 3, 5] rfl ?_
        exact gB_X12_worth0_66 hC hR hL hgo5 ih x1 x2 x4 x7 0 x5 X4
      · refine g_aload_n (q := 0) hC dX12_worth0_53 rfl rfl rfl ?_
        refine g_getS (k := 37) hC cf_X12 (at_120 hL) (by decide) rfl (by decide) (by decide) wf_RX12_72 dX12_worth0_54 ?_
        refine g_iload_n (q := 1) hC dX12_worth0_57 rfl rfl ?_
        refine g_iload (q := 5) hC dX12_worth0_58 rfl ?_
        refine g_iadd hC dX12_worth0_60 ?_
        refine g_lald hC (at_136 hL) (by decide) dX12_worth0_61 ?_
        refine g_goto (tgt := 66) hC dX12_worth0_62 (by decide) ?_
        refine g_sub [0, 1, 2, 3, 5] rfl ?_
        exact gB_X12_worth0_66 hC hR hL hgo5 ih x1 x2 x4 x7 (X4 136 (x1 + x7)) x5 X4
set_option maxRecDepth 20000 in
theorem gL_X12_worth0_5 {C : Cx} {V : Ev} {L : List Kd} (hC : Ok C V cX12_worth0 RX12 8 1 23) (hR : Rt C V L (some .long) rJ) (hL : LKm L) : ∀ (n : Nat) (x1 : Int) (x2 : Int) (x4 : Int) (X : Mem), G C V L 0 0 8 5 [(0, vR V.1 120), (1, vI x1), (2, vJ x2), (4, vI x4)] [] X (L_X12_worth0_5   n x1 x2 x4 X) := by
  intro n
  induction n with
  | zero => intro x1 x2 x4 X; exact g_none
  | succ n ih =>
    intro x1 x2 x4 X
    rw [L_X12_worth0_5]
    refine g_iload (q := 3) hC dX12_worth0_5 rfl ?_
    refine g_aload_n (q := 0) hC dX12_worth0_7 rfl rfl rfl ?_
    refine g_callVI (As := []) hC mv_X12_sets wml_RX12_263 (k_X12_sets _ V hL X) cf_X12 (at_120 hL) (by decide) ⟨Nat.zero_le _, Nat.zero_le _⟩ rfl rfl ⟨Nat.le_of_ble_eq_true rfl, Nat.le_of_ble_eq_true rfl⟩ (Nat.le_of_ble_eq_true rfl) dX12_worth0_8 (fun r1 X2 => ?_)
    refine g_icmp_ge (tgt := 88) hC dX12_worth0_11 (by decide) ?_ ?_
    · refine g_lload_n (q := 2) hC dX12_worth0_88 rfl rfl ?_
      exact g_lret hC hR dX12_worth0_89
    · refine g_aload_n (q := 0) hC dX12_worth0_14 rfl rfl rfl ?_
      refine g_getS (k := 30) hC cf_X12 (at_120 hL) (by decide) rfl (by decide) (by decide) wf_RX12_63 dX12_worth0_15 ?_
      refine g_iload (q := 3) hC dX12_worth0_18 rfl ?_
      refine g_iald hC (at_134 hL) (by decide) dX12_worth0_20 ?_
      refine g_iconst (v := vI (-1)) hC dX12_worth0_21 rfl ?_
      refine g_icmp_ne (tgt := 28) hC dX12_worth0_22 (by decide) ?_ ?_
      · refine g_lconst (v := vJ 0) hC dX12_worth0_28 rfl ?_
        refine g_lstore hC dX12_worth0_29 (by decide) rfl ?_
        refine g_iconst (v := vI 0) hC dX12_worth0_31 rfl ?_
        refine g_istore hC dX12_worth0_32 (by decide) rfl ?_
        refine g_sub [2, 3, 4, 5, 1, 0] rfl ?_
        exact gL_X12_worth0_34 hC hR hL ih KF x1 x2 x4 0 0 X2
      · refine g_goto (tgt := 82) hC dX12_worth0_25 (by decide) ?_
        exact gB_X12_worth0_82 hC hR hL ih x1 x2 x4 X2
set_option maxRecDepth 20000 in
theorem k_X12_worth0 (l : Launch) (V : Ev) {L : List Kd} (hL : LKm L) (p1 : Int) (X : Mem)  : Kt l V L yX12_worth0 (.code yX12_worth0 cX12_worth0 8 (some .long)) 1 23 [vR V.1 120, vI p1] rJ X (f_X12_worth0 p1 X) := by
  refine kt_of (own := RX12) (lv0 := [(0, vR V.1 120), (1, vI p1)]) (by decide) rfl (Nat.le_of_ble_eq_true rfl) rfl (fun C hCl hC hR => ?_)
  subst hCl
  unfold f_X12_worth0
  refine g_lconst (v := vJ 0) hC dX12_worth0_0 rfl ?_
  refine g_lstore_n hC dX12_worth0_1 rfl (by decide) rfl ?_
  refine g_iconst (v := vI 0) hC dX12_worth0_2 rfl ?_
  refine g_istore hC dX12_worth0_3 (by decide) rfl ?_
  refine g_sub [2, 3, 1, 0] rfl ?_
  exact gL_X12_worth0_5 hC hR hL  KF p1 0 0 X
def B_X12_worthOf1_43 (go9 : Int → Int → Int → Int → Mem → Option (Int × Mem)) (x1 : Int) (x2 : Int) (x5 : Int) (s0 : Int) (s1 : Int) (X : Mem) : Option (Int × Mem) :=
  bd (s1 + s0) fun v7 =>
  go9 x1 x2 v7 (x5 + 1) X
def L_X12_worthOf1_9 : Nat → Int → Int → Int → Int → Mem → Option (Int × Mem)
  | 0, _, _, _, _, _ => none
  | n + 1, x1, x2, x3, x5, X =>
    cl (f_X12_readTo x2 X) fun r3 X4 =>
    c2 x5 r3 <| if r3 < x5 then
      some (x3, X4)
    else
      cl (f_X12_reads x1 x2 x5 X4) fun r5 X6 =>
      c1 r5 <| if r5 = 0 then
        B_X12_worthOf1_43  (fun x1 x2 x3 x5 X => L_X12_worthOf1_9   n x1 x2 x3 x5 X) x1 x2 x5 0 x3 X6
      else
        cl (f_X12_worth0 (x1 + 32) X6) fun r8 X9 =>
        B_X12_worthOf1_43  (fun x1 x2 x3 x5 X => L_X12_worthOf1_9   n x1 x2 x3 x5 X) x1 x2 x5 r8 x3 X9
def f_X12_worthOf1 (p1 : Int) (p2 : Int) (X : Mem) : Option (Int × Mem) :=
  cl (f_X12_readFrom p2 X) fun r1 X2 =>
  L_X12_worthOf1_9   KF p1 p2 0 r1 X2
set_option maxRecDepth 20000 in
theorem gB_X12_worthOf1_43 {C : Cx} {V : Ev} {L : List Kd} (hC : Ok C V cX12_worthOf1 RX12 6 3 72) (hR : Rt C V L (some .long) rJ) (hL : LKm L) {go9 : Int → Int → Int → Int → Mem → Option (Int × Mem)} (hgo9 : ∀ (x1 : Int) (x2 : Int) (x3 : Int) (x5 : Int) (X : Mem), G C V L 0 0 6 9 [(0, vR V.1 120), (1, vI x1), (2, vI x2), (3, vJ x3), (5, vI x5)] [] X (go9 x1 x2 x3 x5 X)) (x1 : Int) (x2 : Int) (x5 : Int) (s0 : Int) (s1 : Int) (X : Mem)  : G C V L 0 0 6 43 [(0, vR V.1 120), (1, vI x1), (2, vI x2), (5, vI x5)] [vJ s0, vJ s1] X (B_X12_worthOf1_43  go9 x1 x2 x5 s0 s1 X) := by
  unfold B_X12_worthOf1_43
  refine g_ladd hC dX12_worthOf1_43 ?_
  refine g_topJ (fun v7 => ?_)
  refine g_lstore_n hC dX12_worthOf1_44 rfl (by decide) rfl ?_
  refine g_iinc (q := 4) hC dX12_worthOf1_45 rfl (by decide) rfl ?_
  refine g_goto (tgt := 9) hC dX12_worthOf1_48 (by decide) ?_
  refine g_sub [2, 3, 4, 1, 0] rfl ?_
  exact hgo9 x1 x2 v7 (x5 + 1) X
set_option maxRecDepth 20000 in
theorem gL_X12_worthOf1_9 {C : Cx} {V : Ev} {L : List Kd} (hC : Ok C V cX12_worthOf1 RX12 6 3 72) (hR : Rt C V L (some .long) rJ) (hL : LKm L) : ∀ (n : Nat) (x1 : Int) (x2 : Int) (x3 : Int) (x5 : Int) (X : Mem), G C V L 0 0 6 9 [(0, vR V.1 120), (1, vI x1), (2, vI x2), (3, vJ x3), (5, vI x5)] [] X (L_X12_worthOf1_9   n x1 x2 x3 x5 X) := by
  intro n
  induction n with
  | zero => intro x1 x2 x3 x5 X; exact g_none
  | succ n ih =>
    intro x1 x2 x3 x5 X
    rw [L_X12_worthOf1_9]
    refine g_iload (q := 4) hC dX12_worthOf1_9 rfl ?_
    refine g_aload_n (q := 0) hC dX12_worthOf1_11 rfl rfl rfl ?_
    refine g_iload_n (q := 2) hC dX12_worthOf1_12 rfl rfl ?_
    refine g_callVI (As := [vI x2]) hC mv_X12_readTo wml_RX12_401 (k_X12_readTo _ V hL x2 X) cf_X12 (at_120 hL) (by decide) ⟨Nat.zero_le _, Nat.zero_le _⟩ rfl rfl ⟨Nat.le_of_ble_eq_true rfl, Nat.le_of_ble_eq_true rfl⟩ (Nat.le_of_ble_eq_true rfl) dX12_worthOf1_13 (fun r3 X4 => ?_)
    refine g_icmp_gt (tgt := 51) hC dX12_worthOf1_16 (by decide) ?_ ?_
    · refine g_lload_n (q := 3) hC dX12_worthOf1_51 rfl rfl ?_
      exact g_lret hC hR dX12_worthOf1_52
    · refine g_lload_n (q := 3) hC dX12_worthOf1_19 rfl rfl ?_
      refine g_aload_n (q := 0) hC dX12_worthOf1_20 rfl rfl rfl ?_
      refine g_iload_n (q := 1) hC dX12_worthOf1_21 rfl rfl ?_
      refine g_iload_n (q := 2) hC dX12_worthOf1_22 rfl rfl ?_
      refine g_iload (q := 4) hC dX12_worthOf1_23 rfl ?_
      refine g_callVI (As := [vI x1, vI x2, vI x5]) hC mv_X12_reads wml_RX12_404 (k_X12_reads _ V hL x1 x2 x5 X4) cf_X12 (at_120 hL) (by decide) ⟨Nat.zero_le _, Nat.zero_le _⟩ rfl rfl ⟨Nat.le_of_ble_eq_true rfl, Nat.le_of_ble_eq_true rfl⟩ (Nat.le_of_ble_eq_true rfl) dX12_worthOf1_25 (fun r5 X6 => ?_)
      refine g_if_eq (tgt := 42) hC dX12_worthOf1_28 (by decide) ?_ ?_
      · refine g_lconst (v := vJ 0) hC dX12_worthOf1_42 rfl ?_
        refine g_sub [0, 1, 2, 4] rfl ?_
        exact gB_X12_worthOf1_43 hC hR hL ih x1 x2 x5 0 x3 X6
      · refine g_aload_n (q := 0) hC dX12_worthOf1_31 rfl rfl rfl ?_
        refine g_iload_n (q := 1) hC dX12_worthOf1_32 rfl rfl ?_
        refine g_bipush (v := vI 32) hC dX12_worthOf1_33 rfl ?_
        refine g_iadd hC dX12_worthOf1_35 ?_
        refine g_callVJ (As := [vI (x1 + 32)]) hC mv_X12_worth0 wml_RX12_407 (k_X12_worth0 _ V hL (x1 + 32) X6) cf_X12 (at_120 hL) (by decide) ⟨Nat.zero_le _, Nat.zero_le _⟩ rfl rfl ⟨Nat.le_of_ble_eq_true rfl, Nat.le_of_ble_eq_true rfl⟩ (Nat.le_of_ble_eq_true rfl) dX12_worthOf1_36 (fun r8 X9 => ?_)
        refine g_goto (tgt := 43) hC dX12_worthOf1_39 (by decide) ?_
        refine g_sub [0, 1, 2, 4] rfl ?_
        exact gB_X12_worthOf1_43 hC hR hL ih x1 x2 x5 r8 x3 X9
set_option maxRecDepth 20000 in
theorem k_X12_worthOf1 (l : Launch) (V : Ev) {L : List Kd} (hL : LKm L) (p1 : Int) (p2 : Int) (X : Mem)  : Kt l V L yX12_worthOf1 (.code yX12_worthOf1 cX12_worthOf1 6 (some .long)) 3 72 [vR V.1 120, vI p1, vI p2] rJ X (f_X12_worthOf1 p1 p2 X) := by
  refine kt_of (own := RX12) (lv0 := [(0, vR V.1 120), (1, vI p1), (2, vI p2)]) (by decide) rfl (Nat.le_of_ble_eq_true rfl) rfl (fun C hCl hC hR => ?_)
  subst hCl
  unfold f_X12_worthOf1
  refine g_lconst (v := vJ 0) hC dX12_worthOf1_0 rfl ?_
  refine g_lstore_n hC dX12_worthOf1_1 rfl (by decide) rfl ?_
  refine g_aload_n (q := 1) hC dX12_worthOf1_2 rfl rfl rfl ?_
  refine g_iload_n (q := 3) hC dX12_worthOf1_3 rfl rfl ?_
  refine g_callVI (As := [vI p2]) hC mv_X12_readFrom wml_RX12_398 (k_X12_readFrom _ V hL p2 X) cf_X12 (at_120 hL) (by decide) ⟨Nat.zero_le _, Nat.zero_le _⟩ rfl rfl ⟨Nat.le_of_ble_eq_true rfl, Nat.le_of_ble_eq_true rfl⟩ (Nat.le_of_ble_eq_true rfl) dX12_worthOf1_4 (fun r1 X2 => ?_)
  refine g_istore hC dX12_worthOf1_7 (by decide) rfl ?_
  refine g_sub [2, 3, 4, 1, 0] rfl ?_
  exact gL_X12_worthOf1_9 hC hR hL  KF p1 p2 0 r1 X2
def B_X12_worth1_37 (go5 : Int → Int → Int → Mem → Option (Int × Mem)) (x1 : Int) (x4 : Int) (s0 : Int) (s1 : Int) (X : Mem) : Option (Int × Mem) :=
  d2 s1 s0 <|
  bd (max s1 s0) fun v3 =>
  go5 x1 v3 (x4 + 1) X
def L_X12_worth1_5 : Nat → Int → Int → Int → Mem → Option (Int × Mem)
  | 0, _, _, _, _ => none
  | n + 1, x1, x2, x4, X =>
    ax 2200 2 <|
    c2 x4 (X 121 2) <| if (X 121 2) ≤ x4 then
      some (x2, X)
    else
      cl (f_X12_hasCell x4 X) fun r1 X2 =>
      c1 r1 <| if r1 = 0 then
        B_X12_worth1_37  (fun x1 x2 x4 X => L_X12_worth1_5   n x1 x2 x4 X) x1 x4 0 x2 X2
      else
        cl (f_X12_worthOf1 x1 x4 X2) fun r4 X5 =>
        B_X12_worth1_37  (fun x1 x2 x4 X => L_X12_worth1_5   n x1 x2 x4 X) x1 x4 r4 x2 X5
def f_X12_worth1 (p1 : Int) (X : Mem) : Option (Int × Mem) :=
  L_X12_worth1_5   KF p1 0 0 X
set_option maxRecDepth 20000 in
theorem gB_X12_worth1_37 {C : Cx} {V : Ev} {L : List Kd} (hC : Ok C V cX12_worth1 RX12 5 4 97) (hR : Rt C V L (some .long) rJ) (hL : LKm L) {go5 : Int → Int → Int → Mem → Option (Int × Mem)} (hgo5 : ∀ (x1 : Int) (x2 : Int) (x4 : Int) (X : Mem), G C V L 0 0 5 5 [(0, vR V.1 120), (1, vI x1), (2, vJ x2), (4, vI x4)] [] X (go5 x1 x2 x4 X)) (x1 : Int) (x4 : Int) (s0 : Int) (s1 : Int) (X : Mem)  : G C V L 0 0 5 37 [(0, vR V.1 120), (1, vI x1), (4, vI x4)] [vJ s0, vJ s1] X (B_X12_worth1_37  go5 x1 x4 s0 s1 X) := by
  unfold B_X12_worth1_37
  refine g_maxl hC wml_RX12_388 (Nat.le_of_ble_eq_true rfl) (Nat.le_of_ble_eq_true rfl) ⟨Nat.zero_le _, Nat.zero_le _⟩ dX12_worth1_37 ?_
  refine g_topJ (fun v3 => ?_)
  refine g_lstore_n hC dX12_worth1_40 rfl (by decide) rfl ?_
  refine g_iinc (q := 3) hC dX12_worth1_41 rfl (by decide) rfl ?_
  refine g_goto (tgt := 5) hC dX12_worth1_44 (by decide) ?_
  refine g_sub [2, 3, 1, 0] rfl ?_
  exact hgo5 x1 v3 (x4 + 1) X
set_option maxRecDepth 20000 in
theorem gL_X12_worth1_5 {C : Cx} {V : Ev} {L : List Kd} (hC : Ok C V cX12_worth1 RX12 5 4 97) (hR : Rt C V L (some .long) rJ) (hL : LKm L) : ∀ (n : Nat) (x1 : Int) (x2 : Int) (x4 : Int) (X : Mem), G C V L 0 0 5 5 [(0, vR V.1 120), (1, vI x1), (2, vJ x2), (4, vI x4)] [] X (L_X12_worth1_5   n x1 x2 x4 X) := by
  intro n
  induction n with
  | zero => intro x1 x2 x4 X; exact g_none
  | succ n ih =>
    intro x1 x2 x4 X
    rw [L_X12_worth1_5]
    refine g_iload (q := 3) hC dX12_worth1_5 rfl ?_
    refine g_aload_n (q := 0) hC dX12_worth1_7 rfl rfl rfl ?_
    refine g_getS (k := 0) hC cf_X12 (at_120 hL) (by decide) rfl (by decide) (by decide) wf_RX12_7 dX12_worth1_8 ?_
    refine g_iconst (v := vI 2) hC dX12_worth1_11 rfl ?_
    refine g_iald hC (at_121 hL) (by decide) dX12_worth1_12 ?_
    refine g_icmp_ge (tgt := 47) hC dX12_worth1_13 (by decide) ?_ ?_
    · refine g_lload_n (q := 2) hC dX12_worth1_47 rfl rfl ?_
      exact g_lret hC hR dX12_worth1_48
    · refine g_lload_n (q := 2) hC dX12_worth1_16 rfl rfl ?_
      refine g_aload_n (q := 0) hC dX12_worth1_17 rfl rfl rfl ?_
      refine g_iload (q := 3) hC dX12_worth1_18 rfl ?_
      refine g_callVI (As := [vI x4]) hC mv_X12_hasCell wml_RX12_392 (k_X12_hasCell _ V hL x4 X) cf_X12 (at_120 hL) (by decide) ⟨Nat.zero_le _, Nat.zero_le _⟩ rfl rfl ⟨Nat.le_of_ble_eq_true rfl, Nat.le_of_ble_eq_true rfl⟩ (Nat.le_of_ble_eq_true rfl) dX12_worth1_20 (fun r1 X2 => ?_)
      refine g_if_eq (tgt := 36) hC dX12_worth1_23 (by decide) ?_ ?_
      · refine g_lconst (v := vJ 0) hC dX12_worth1_36 rfl ?_
        refine g_sub [0, 1, 3] rfl ?_
        exact gB_X12_worth1_37 hC hR hL ih x1 x4 0 x2 X2
      · refine g_aload_n (q := 0) hC dX12_worth1_26 rfl rfl rfl ?_
        refine g_iload_n (q := 1) hC dX12_worth1_27 rfl rfl ?_
        refine g_iload (q := 3) hC dX12_worth1_28 rfl ?_
        refine g_callVJ (As := [vI x1, vI x4]) hC mv_X12_worthOf1 wml_RX12_395 (k_X12_worthOf1 _ V hL x1 x4 X2) cf_X12 (at_120 hL) (by decide) ⟨Nat.zero_le _, Nat.zero_le _⟩ rfl rfl ⟨Nat.le_of_ble_eq_true rfl, Nat.le_of_ble_eq_true rfl⟩ (Nat.le_of_ble_eq_true rfl) dX12_worth1_30 (fun r4 X5 => ?_)
        refine g_goto (tgt := 37) hC dX12_worth1_33 (by decide) ?_
        refine g_sub [0, 1, 3] rfl ?_
        exact gB_X12_worth1_37 hC hR hL ih x1 x4 r4 x2 X5
set_option maxRecDepth 20000 in
theorem k_X12_worth1 (l : Launch) (V : Ev) {L : List Kd} (hL : LKm L) (p1 : Int) (X : Mem)  : Kt l V L yX12_worth1 (.code yX12_worth1 cX12_worth1 5 (some .long)) 4 97 [vR V.1 120, vI p1] rJ X (f_X12_worth1 p1 X) := by
  refine kt_of (own := RX12) (lv0 := [(0, vR V.1 120), (1, vI p1)]) (by decide) rfl (Nat.le_of_ble_eq_true rfl) rfl (fun C hCl hC hR => ?_)
  subst hCl
  unfold f_X12_worth1
  refine g_lconst (v := vJ 0) hC dX12_worth1_0 rfl ?_
  refine g_lstore_n hC dX12_worth1_1 rfl (by decide) rfl ?_
  refine g_iconst (v := vI 0) hC dX12_worth1_2 rfl ?_
  refine g_istore hC dX12_worth1_3 (by decide) rfl ?_
  refine g_sub [2, 3, 1, 0] rfl ?_
  exact gL_X12_worth1_5 hC hR hL  KF p1 0 0 X
def B_X12_worthOf2_43 (go9 : Int → Int → Int → Int → Mem → Option (Int × Mem)) (x1 : Int) (x2 : Int) (x5 : Int) (s0 : Int) (s1 : Int) (X : Mem) : Option (Int × Mem) :=
  bd (s1 + s0) fun v7 =>
  go9 x1 x2 v7 (x5 + 1) X
def L_X12_worthOf2_9 : Nat → Int → Int → Int → Int → Mem → Option (Int × Mem)
  | 0, _, _, _, _, _ => none
  | n + 1, x1, x2, x3, x5, X =>
    cl (f_X12_readTo x2 X) fun r3 X4 =>
    c2 x5 r3 <| if r3 < x5 then
      some (x3, X4)
    else
      cl (f_X12_reads x1 x2 x5 X4) fun r5 X6 =>
      c1 r5 <| if r5 = 0 then
        B_X12_worthOf2_43  (fun x1 x2 x3 x5 X => L_X12_worthOf2_9   n x1 x2 x3 x5 X) x1 x2 x5 0 x3 X6
      else
        cl (f_X12_worth1 (x1 + 32) X6) fun r8 X9 =>
        B_X12_worthOf2_43  (fun x1 x2 x3 x5 X => L_X12_worthOf2_9   n x1 x2 x3 x5 X) x1 x2 x5 r8 x3 X9
def f_X12_worthOf2 (p1 : Int) (p2 : Int) (X : Mem) : Option (Int × Mem) :=
  cl (f_X12_readFrom p2 X) fun r1 X2 =>
  L_X12_worthOf2_9   KF p1 p2 0 r1 X2
set_option maxRecDepth 20000 in
theorem gB_X12_worthOf2_43 {C : Cx} {V : Ev} {L : List Kd} (hC : Ok C V cX12_worthOf2 RX12 6 5 121) (hR : Rt C V L (some .long) rJ) (hL : LKm L) {go9 : Int → Int → Int → Int → Mem → Option (Int × Mem)} (hgo9 : ∀ (x1 : Int) (x2 : Int) (x3 : Int) (x5 : Int) (X : Mem), G C V L 0 0 6 9 [(0, vR V.1 120), (1, vI x1), (2, vI x2), (3, vJ x3), (5, vI x5)] [] X (go9 x1 x2 x3 x5 X)) (x1 : Int) (x2 : Int) (x5 : Int) (s0 : Int) (s1 : Int) (X : Mem)  : G C V L 0 0 6 43 [(0, vR V.1 120), (1, vI x1), (2, vI x2), (5, vI x5)] [vJ s0, vJ s1] X (B_X12_worthOf2_43  go9 x1 x2 x5 s0 s1 X) := by
  unfold B_X12_worthOf2_43
  refine g_ladd hC dX12_worthOf2_43 ?_
  refine g_topJ (fun v7 => ?_)
  refine g_lstore_n hC dX12_worthOf2_44 rfl (by decide) rfl ?_
  refine g_iinc (q := 4) hC dX12_worthOf2_45 rfl (by decide) rfl ?_
  refine g_goto (tgt := 9) hC dX12_worthOf2_48 (by decide) ?_
  refine g_sub [2, 3, 4, 1, 0] rfl ?_
  exact hgo9 x1 x2 v7 (x5 + 1) X
set_option maxRecDepth 20000 in
theorem gL_X12_worthOf2_9 {C : Cx} {V : Ev} {L : List Kd} (hC : Ok C V cX12_worthOf2 RX12 6 5 121) (hR : Rt C V L (some .long) rJ) (hL : LKm L) : ∀ (n : Nat) (x1 : Int) (x2 : Int) (x3 : Int) (x5 : Int) (X : Mem), G C V L 0 0 6 9 [(0, vR V.1 120), (1, vI x1), (2, vI x2), (3, vJ x3), (5, vI x5)] [] X (L_X12_worthOf2_9   n x1 x2 x3 x5 X) := by
  intro n
  induction n with
  | zero => intro x1 x2 x3 x5 X; exact g_none
  | succ n ih =>
    intro x1 x2 x3 x5 X
    rw [L_X12_worthOf2_9]
    refine g_iload (q := 4) hC dX12_worthOf2_9 rfl ?_
    refine g_aload_n (q := 0) hC dX12_worthOf2_11 rfl rfl rfl ?_
    refine g_iload_n (q := 2) hC dX12_worthOf2_12 rfl rfl ?_
    refine g_callVI (As := [vI x2]) hC mv_X12_readTo wml_RX12_401 (k_X12_readTo _ V hL x2 X) cf_X12 (at_120 hL) (by decide) ⟨Nat.zero_le _, Nat.zero_le _⟩ rfl rfl ⟨Nat.le_of_ble_eq_true rfl, Nat.le_of_ble_eq_true rfl⟩ (Nat.le_of_ble_eq_true rfl) dX12_worthOf2_13 (fun r3 X4 => ?_)
    refine g_icmp_gt (tgt := 51) hC dX12_worthOf2_16 (by decide) ?_ ?_
    · refine g_lload_n (q := 3) hC dX12_worthOf2_51 rfl rfl ?_
      exact g_lret hC hR dX12_worthOf2_52
    · refine g_lload_n (q := 3) hC dX12_worthOf2_19 rfl rfl ?_
      refine g_aload_n (q := 0) hC dX12_worthOf2_20 rfl rfl rfl ?_
      refine g_iload_n (q := 1) hC dX12_worthOf2_21 rfl rfl ?_
      refine g_iload_n (q := 2) hC dX12_worthOf2_22 rfl rfl ?_
      refine g_iload (q := 4) hC dX12_worthOf2_23 rfl ?_
      refine g_callVI (As := [vI x1, vI x2, vI x5]) hC mv_X12_reads wml_RX12_404 (k_X12_reads _ V hL x1 x2 x5 X4) cf_X12 (at_120 hL) (by decide) ⟨Nat.zero_le _, Nat.zero_le _⟩ rfl rfl ⟨Nat.le_of_ble_eq_true rfl, Nat.le_of_ble_eq_true rfl⟩ (Nat.le_of_ble_eq_true rfl) dX12_worthOf2_25 (fun r5 X6 => ?_)
      refine g_if_eq (tgt := 42) hC dX12_worthOf2_28 (by decide) ?_ ?_
      · refine g_lconst (v := vJ 0) hC dX12_worthOf2_42 rfl ?_
        refine g_sub [0, 1, 2, 4] rfl ?_
        exact gB_X12_worthOf2_43 hC hR hL ih x1 x2 x5 0 x3 X6
      · refine g_aload_n (q := 0) hC dX12_worthOf2_31 rfl rfl rfl ?_
        refine g_iload_n (q := 1) hC dX12_worthOf2_32 rfl rfl ?_
        refine g_bipush (v := vI 32) hC dX12_worthOf2_33 rfl ?_
        refine g_iadd hC dX12_worthOf2_35 ?_
        refine g_callVJ (As := [vI (x1 + 32)]) hC mv_X12_worth1 wml_RX12_413 (k_X12_worth1 _ V hL (x1 + 32) X6) cf_X12 (at_120 hL) (by decide) ⟨Nat.zero_le _, Nat.zero_le _⟩ rfl rfl ⟨Nat.le_of_ble_eq_true rfl, Nat.le_of_ble_eq_true rfl⟩ (Nat.le_of_ble_eq_true rfl) dX12_worthOf2_36 (fun r8 X9 => ?_)
        refine g_goto (tgt := 43) hC dX12_worthOf2_39 (by decide) ?_
        refine g_sub [0, 1, 2, 4] rfl ?_
        exact gB_X12_worthOf2_43 hC hR hL ih x1 x2 x5 r8 x3 X9
set_option maxRecDepth 20000 in
theorem k_X12_worthOf2 (l : Launch) (V : Ev) {L : List Kd} (hL : LKm L) (p1 : Int) (p2 : Int) (X : Mem)  : Kt l V L yX12_worthOf2 (.code yX12_worthOf2 cX12_worthOf2 6 (some .long)) 5 121 [vR V.1 120, vI p1, vI p2] rJ X (f_X12_worthOf2 p1 p2 X) := by
  refine kt_of (own := RX12) (lv0 := [(0, vR V.1 120), (1, vI p1), (2, vI p2)]) (by decide) rfl (Nat.le_of_ble_eq_true rfl) rfl (fun C hCl hC hR => ?_)
  subst hCl
  unfold f_X12_worthOf2
  refine g_lconst (v := vJ 0) hC dX12_worthOf2_0 rfl ?_
  refine g_lstore_n hC dX12_worthOf2_1 rfl (by decide) rfl ?_
  refine g_aload_n (q := 1) hC dX12_worthOf2_2 rfl rfl rfl ?_
  refine g_iload_n (q := 3) hC dX12_worthOf2_3 rfl rfl ?_
  refine g_callVI (As := [vI p2]) hC mv_X12_readFrom wml_RX12_398 (k_X12_readFrom _ V hL p2 X) cf_X12 (at_120 hL) (by decide) ⟨Nat.zero_le _, Nat.zero_le _⟩ rfl rfl ⟨Nat.le_of_ble_eq_true rfl, Nat.le_of_ble_eq_true rfl⟩ (Nat.le_of_ble_eq_true rfl) dX12_worthOf2_4 (fun r1 X2 => ?_)
  refine g_istore hC dX12_worthOf2_7 (by decide) rfl ?_
  refine g_sub [2, 3, 4, 1, 0] rfl ?_
  exact gL_X12_worthOf2_9 hC hR hL  KF p1 p2 0 r1 X2
def B_X12_worth2_37 (go5 : Int → Int → Int → Mem → Option (Int × Mem)) (x1 : Int) (x4 : Int) (s0 : Int) (s1 : Int) (X : Mem) : Option (Int × Mem) :=
  d2 s1 s0 <|
  bd (max s1 s0) fun v3 =>
  go5 x1 v3 (x4 + 1) X
def L_X12_worth2_5 : Nat → Int → Int → Int → Mem → Option (Int × Mem)
  | 0, _, _, _, _ => none
  | n + 1, x1, x2, x4, X =>
    ax 2200 2 <|
    c2 x4 (X 121 2) <| if (X 121 2) ≤ x4 then
      some (x2, X)
    else
      cl (f_X12_hasCell x4 X) fun r1 X2 =>
      c1 r1 <| if r1 = 0 then
        B_X12_worth2_37  (fun x1 x2 x4 X => L_X12_worth2_5   n x1 x2 x4 X) x1 x4 0 x2 X2
      else
        cl (f_X12_worthOf2 x1 x4 X2) fun r4 X5 =>
        B_X12_worth2_37  (fun x1 x2 x4 X => L_X12_worth2_5   n x1 x2 x4 X) x1 x4 r4 x2 X5
def f_X12_worth2 (p1 : Int) (X : Mem) : Option (Int × Mem) :=
  L_X12_worth2_5   KF p1 0 0 X
set_option maxRecDepth 20000 in
theorem gB_X12_worth2_37 {C : Cx} {V : Ev} {L : List Kd} (hC : Ok C V cX12_worth2 RX12 5 6 146) (hR : Rt C V L (some .long) rJ) (hL : LKm L) {go5 : Int → Int → Int → Mem → Option (Int × Mem)} (hgo5 : ∀ (x1 : Int) (x2 : Int) (x4 : Int) (X : Mem), G C V L 0 0 5 5 [(0, vR V.1 120), (1, vI x1), (2, vJ x2), (4, vI x4)] [] X (go5 x1 x2 x4 X)) (x1 : Int) (x4 : Int) (s0 : Int) (s1 : Int) (X : Mem)  : G C V L 0 0 5 37 [(0, vR V.1 120), (1, vI x1), (4, vI x4)] [vJ s0, vJ s1] X (B_X12_worth2_37  go5 x1 x4 s0 s1 X) := by
  unfold B_X12_worth2_37
  refine g_maxl hC wml_RX12_388 (Nat.le_of_ble_eq_true rfl) (Nat.le_of_ble_eq_true rfl) ⟨Nat.zero_le _, Nat.zero_le _⟩ dX12_worth2_37 ?_
  refine g_topJ (fun v3 => ?_)
  refine g_lstore_n hC dX12_worth2_40 rfl (by decide) rfl ?_
  refine g_iinc (q := 3) hC dX12_worth2_41 rfl (by decide) rfl ?_
  refine g_goto (tgt := 5) hC dX12_worth2_44 (by decide) ?_
  refine g_sub [2, 3, 1, 0] rfl ?_
  exact hgo5 x1 v3 (x4 + 1) X
set_option maxRecDepth 20000 in
theorem gL_X12_worth2_5 {C : Cx} {V : Ev} {L : List Kd} (hC : Ok C V cX12_worth2 RX12 5 6 146) (hR : Rt C V L (some .long) rJ) (hL : LKm L) : ∀ (n : Nat) (x1 : Int) (x2 : Int) (x4 : Int) (X : Mem), G C V L 0 0 5 5 [(0, vR V.1 120), (1, vI x1), (2, vJ x2), (4, vI x4)] [] X (L_X12_worth2_5   n x1 x2 x4 X) := by
  intro n
  induction n with
  | zero => intro x1 x2 x4 X; exact g_none
  | succ n ih =>
    intro x1 x2 x4 X
    rw [L_X12_worth2_5]
    refine g_iload (q := 3) hC dX12_worth2_5 rfl ?_
    refine g_aload_n (q := 0) hC dX12_worth2_7 rfl rfl rfl ?_
    refine g_getS (k := 0) hC cf_X12 (at_120 hL) (by decide) rfl (by decide) (by decide) wf_RX12_7 dX12_worth2_8 ?_
    refine g_iconst (v := vI 2) hC dX12_worth2_11 rfl ?_
    refine g_iald hC (at_121 hL) (by decide) dX12_worth2_12 ?_
    refine g_icmp_ge (tgt := 47) hC dX12_worth2_13 (by decide) ?_ ?_
    · refine g_lload_n (q := 2) hC dX12_worth2_47 rfl rfl ?_
      exact g_lret hC hR dX12_worth2_48
    · refine g_lload_n (q := 2) hC dX12_worth2_16 rfl rfl ?_
      refine g_aload_n (q := 0) hC dX12_worth2_17 rfl rfl rfl ?_
      refine g_iload (q := 3) hC dX12_worth2_18 rfl ?_
      refine g_callVI (As := [vI x4]) hC mv_X12_hasCell wml_RX12_392 (k_X12_hasCell _ V hL x4 X) cf_X12 (at_120 hL) (by decide) ⟨Nat.zero_le _, Nat.zero_le _⟩ rfl rfl ⟨Nat.le_of_ble_eq_true rfl, Nat.le_of_ble_eq_true rfl⟩ (Nat.le_of_ble_eq_true rfl) dX12_worth2_20 (fun r1 X2 => ?_)
      refine g_if_eq (tgt := 36) hC dX12_worth2_23 (by decide) ?_ ?_
      · refine g_lconst (v := vJ 0) hC dX12_worth2_36 rfl ?_
        refine g_sub [0, 1, 3] rfl ?_
        exact gB_X12_worth2_37 hC hR hL ih x1 x4 0 x2 X2
      · refine g_aload_n (q := 0) hC dX12_worth2_26 rfl rfl rfl ?_
        refine g_iload_n (q := 1) hC dX12_worth2_27 rfl rfl ?_
        refine g_iload (q := 3) hC dX12_worth2_28 rfl ?_
        refine g_callVJ (As := [vI x1, vI x4]) hC mv_X12_worthOf2 wml_RX12_410 (k_X12_worthOf2 _ V hL x1 x4 X2) cf_X12 (at_120 hL) (by decide) ⟨Nat.zero_le _, Nat.zero_le _⟩ rfl rfl ⟨Nat.le_of_ble_eq_true rfl, Nat.le_of_ble_eq_true rfl⟩ (Nat.le_of_ble_eq_true rfl) dX12_worth2_30 (fun r4 X5 => ?_)
        refine g_goto (tgt := 37) hC dX12_worth2_33 (by decide) ?_
        refine g_sub [0, 1, 3] rfl ?_
        exact gB_X12_worth2_37 hC hR hL ih x1 x4 r4 x2 X5
set_option maxRecDepth 20000 in
theorem k_X12_worth2 (l : Launch) (V : Ev) {L : List Kd} (hL : LKm L) (p1 : Int) (X : Mem)  : Kt l V L yX12_worth2 (.code yX12_worth2 cX12_worth2 5 (some .long)) 6 146 [vR V.1 120, vI p1] rJ X (f_X12_worth2 p1 X) := by
  refine kt_of (own := RX12) (lv0 := [(0, vR V.1 120), (1, vI p1)]) (by decide) rfl (Nat.le_of_ble_eq_true rfl) rfl (fun C hCl hC hR => ?_)
  subst hCl
  unfold f_X12_worth2
  refine g_lconst (v := vJ 0) hC dX12_worth2_0 rfl ?_
  refine g_lstore_n hC dX12_worth2_1 rfl (by decide) rfl ?_
  refine g_iconst (v := vI 0) hC dX12_worth2_2 rfl ?_
  refine g_istore hC dX12_worth2_3 (by decide) rfl ?_
  refine g_sub [2, 3, 1, 0] rfl ?_
  exact gL_X12_worth2_5 hC hR hL  KF p1 0 0 X
def B_X12_worthOf3_41 (go9 : Int → Int → Int → Mem → Option (Int × Mem)) (x1 : Int) (x4 : Int) (s0 : Int) (s1 : Int) (X : Mem) : Option (Int × Mem) :=
  bd (s1 + s0) fun v7 =>
  go9 x1 v7 (x4 + 1) X
def L_X12_worthOf3_9 : Nat → Int → Int → Int → Mem → Option (Int × Mem)
  | 0, _, _, _, _ => none
  | n + 1, x1, x2, x4, X =>
    cl (f_X12_readTo x1 X) fun r3 X4 =>
    c2 x4 r3 <| if r3 < x4 then
      some (x2, X4)
    else
      cl (f_X12_reads 0 x1 x4 X4) fun r5 X6 =>
      c1 r5 <| if r5 = 0 then
        B_X12_worthOf3_41  (fun x1 x2 x4 X => L_X12_worthOf3_9   n x1 x2 x4 X) x1 x4 0 x2 X6
      else
        cl (f_X12_worth2 32 X6) fun r8 X9 =>
        B_X12_worthOf3_41  (fun x1 x2 x4 X => L_X12_worthOf3_9   n x1 x2 x4 X) x1 x4 r8 x2 X9
def f_X12_worthOf3 (p1 : Int) (X : Mem) : Option (Int × Mem) :=
  cl (f_X12_readFrom p1 X) fun r1 X2 =>
  L_X12_worthOf3_9   KF p1 0 r1 X2
set_option maxRecDepth 20000 in
theorem gB_X12_worthOf3_41 {C : Cx} {V : Ev} {L : List Kd} (hC : Ok C V cX12_worthOf3 RX12 5 7 170) (hR : Rt C V L (some .long) rJ) (hL : LKm L) {go9 : Int → Int → Int → Mem → Option (Int × Mem)} (hgo9 : ∀ (x1 : Int) (x2 : Int) (x4 : Int) (X : Mem), G C V L 0 0 5 9 [(0, vR V.1 120), (1, vI x1), (2, vJ x2), (4, vI x4)] [] X (go9 x1 x2 x4 X)) (x1 : Int) (x4 : Int) (s0 : Int) (s1 : Int) (X : Mem)  : G C V L 0 0 5 41 [(0, vR V.1 120), (1, vI x1), (4, vI x4)] [vJ s0, vJ s1] X (B_X12_worthOf3_41  go9 x1 x4 s0 s1 X) := by
  unfold B_X12_worthOf3_41
  refine g_ladd hC dX12_worthOf3_41 ?_
  refine g_topJ (fun v7 => ?_)
  refine g_lstore_n hC dX12_worthOf3_42 rfl (by decide) rfl ?_
  refine g_iinc (q := 3) hC dX12_worthOf3_43 rfl (by decide) rfl ?_
  refine g_goto (tgt := 9) hC dX12_worthOf3_46 (by decide) ?_
  refine g_sub [2, 3, 1, 0] rfl ?_
  exact hgo9 x1 v7 (x4 + 1) X
set_option maxRecDepth 20000 in
theorem gL_X12_worthOf3_9 {C : Cx} {V : Ev} {L : List Kd} (hC : Ok C V cX12_worthOf3 RX12 5 7 170) (hR : Rt C V L (some .long) rJ) (hL : LKm L) : ∀ (n : Nat) (x1 : Int) (x2 : Int) (x4 : Int) (X : Mem), G C V L 0 0 5 9 [(0, vR V.1 120), (1, vI x1), (2, vJ x2), (4, vI x4)] [] X (L_X12_worthOf3_9   n x1 x2 x4 X) := by
  intro n
  induction n with
  | zero => intro x1 x2 x4 X; exact g_none
  | succ n ih =>
    intro x1 x2 x4 X
    rw [L_X12_worthOf3_9]
    refine g_iload (q := 3) hC dX12_worthOf3_9 rfl ?_
    refine g_aload_n (q := 0) hC dX12_worthOf3_11 rfl rfl rfl ?_
    refine g_iload_n (q := 1) hC dX12_worthOf3_12 rfl rfl ?_
    refine g_callVI (As := [vI x1]) hC mv_X12_readTo wml_RX12_401 (k_X12_readTo _ V hL x1 X) cf_X12 (at_120 hL) (by decide) ⟨Nat.zero_le _, Nat.zero_le _⟩ rfl rfl ⟨Nat.le_of_ble_eq_true rfl, Nat.le_of_ble_eq_true rfl⟩ (Nat.le_of_ble_eq_true rfl) dX12_worthOf3_13 (fun r3 X4 => ?_)
    refine g_icmp_gt (tgt := 49) hC dX12_worthOf3_16 (by decide) ?_ ?_
    · refine g_lload_n (q := 2) hC dX12_worthOf3_49 rfl rfl ?_
      exact g_lret hC hR dX12_worthOf3_50
    · refine g_lload_n (q := 2) hC dX12_worthOf3_19 rfl rfl ?_
      refine g_aload_n (q := 0) hC dX12_worthOf3_20 rfl rfl rfl ?_
      refine g_iconst (v := vI 0) hC dX12_worthOf3_21 rfl ?_
      refine g_iload_n (q := 1) hC dX12_worthOf3_22 rfl rfl ?_
      refine g_iload (q := 3) hC dX12_worthOf3_23 rfl ?_
      refine g_callVI (As := [vI 0, vI x1, vI x4]) hC mv_X12_reads wml_RX12_404 (k_X12_reads _ V hL 0 x1 x4 X4) cf_X12 (at_120 hL) (by decide) ⟨Nat.zero_le _, Nat.zero_le _⟩ rfl rfl ⟨Nat.le_of_ble_eq_true rfl, Nat.le_of_ble_eq_true rfl⟩ (Nat.le_of_ble_eq_true rfl) dX12_worthOf3_25 (fun r5 X6 => ?_)
      refine g_if_eq (tgt := 40) hC dX12_worthOf3_28 (by decide) ?_ ?_
      · refine g_lconst (v := vJ 0) hC dX12_worthOf3_40 rfl ?_
        refine g_sub [0, 1, 3] rfl ?_
        exact gB_X12_worthOf3_41 hC hR hL ih x1 x4 0 x2 X6
      · refine g_aload_n (q := 0) hC dX12_worthOf3_31 rfl rfl rfl ?_
        refine g_bipush (v := vI 32) hC dX12_worthOf3_32 rfl ?_
        refine g_callVJ (As := [vI 32]) hC mv_X12_worth2 wml_RX12_416 (k_X12_worth2 _ V hL 32 X6) cf_X12 (at_120 hL) (by decide) ⟨Nat.zero_le _, Nat.zero_le _⟩ rfl rfl ⟨Nat.le_of_ble_eq_true rfl, Nat.le_of_ble_eq_true rfl⟩ (Nat.le_of_ble_eq_true rfl) dX12_worthOf3_34 (fun r8 X9 => ?_)
        refine g_goto (tgt := 41) hC dX12_worthOf3_37 (by decide) ?_
        refine g_sub [0, 1, 3] rfl ?_
        exact gB_X12_worthOf3_41 hC hR hL ih x1 x4 r8 x2 X9
set_option maxRecDepth 20000 in
theorem k_X12_worthOf3 (l : Launch) (V : Ev) {L : List Kd} (hL : LKm L) (p1 : Int) (X : Mem)  : Kt l V L yX12_worthOf3 (.code yX12_worthOf3 cX12_worthOf3 5 (some .long)) 7 170 [vR V.1 120, vI p1] rJ X (f_X12_worthOf3 p1 X) := by
  refine kt_of (own := RX12) (lv0 := [(0, vR V.1 120), (1, vI p1)]) (by decide) rfl (Nat.le_of_ble_eq_true rfl) rfl (fun C hCl hC hR => ?_)
  subst hCl
  unfold f_X12_worthOf3
  refine g_lconst (v := vJ 0) hC dX12_worthOf3_0 rfl ?_
  refine g_lstore_n hC dX12_worthOf3_1 rfl (by decide) rfl ?_
  refine g_aload_n (q := 1) hC dX12_worthOf3_2 rfl rfl rfl ?_
  refine g_iload_n (q := 2) hC dX12_worthOf3_3 rfl rfl ?_
  refine g_callVI (As := [vI p1]) hC mv_X12_readFrom wml_RX12_398 (k_X12_readFrom _ V hL p1 X) cf_X12 (at_120 hL) (by decide) ⟨Nat.zero_le _, Nat.zero_le _⟩ rfl rfl ⟨Nat.le_of_ble_eq_true rfl, Nat.le_of_ble_eq_true rfl⟩ (Nat.le_of_ble_eq_true rfl) dX12_worthOf3_4 (fun r1 X2 => ?_)
  refine g_istore hC dX12_worthOf3_7 (by decide) rfl ?_
  refine g_sub [2, 3, 1, 0] rfl ?_
  exact gL_X12_worthOf3_9 hC hR hL  KF p1 0 r1 X2
def f_X12_worthOf (p1 : Int) (p2 : Int) (X : Mem) : Option (Int × Mem) :=
  c2 p2 1 <| if ¬ p2 = 1 then
    c2 p2 2 <| if ¬ p2 = 2 then
      cl (f_X12_worthOf3 p1 X) fun r1 X2 =>
      some (r1, X2)
    else
      cl (f_X12_worthOf2 0 p1 X) fun r3 X4 =>
      some (r3, X4)
  else
    cl (f_X12_worthOf1 0 p1 X) fun r5 X6 =>
    some (r5, X6)
set_option maxRecDepth 20000 in
theorem k_X12_worthOf (l : Launch) (V : Ev) {L : List Kd} (hL : LKm L) (p1 : Int) (p2 : Int) (X : Mem)  : Kt l V L yX12_worthOf (.code yX12_worthOf cX12_worthOf 3 (some .long)) 8 194 [vR V.1 120, vI p1, vI p2] rJ X (f_X12_worthOf p1 p2 X) := by
  refine kt_of (own := RX12) (lv0 := [(0, vR V.1 120), (1, vI p1), (2, vI p2)]) (by decide) rfl (Nat.le_of_ble_eq_true rfl) rfl (fun C hCl hC hR => ?_)
  subst hCl
  unfold f_X12_worthOf
  refine g_iload_n (q := 2) hC dX12_worthOf_0 rfl rfl ?_
  refine g_iconst (v := vI 1) hC dX12_worthOf_1 rfl ?_
  refine g_icmp_ne (tgt := 14) hC dX12_worthOf_2 (by decide) ?_ ?_
  · refine g_iload_n (q := 2) hC dX12_worthOf_14 rfl rfl ?_
    refine g_iconst (v := vI 2) hC dX12_worthOf_15 rfl ?_
    refine g_icmp_ne (tgt := 28) hC dX12_worthOf_16 (by decide) ?_ ?_
    · refine g_aload_n (q := 0) hC dX12_worthOf_28 rfl rfl rfl ?_
      refine g_iload_n (q := 1) hC dX12_worthOf_29 rfl rfl ?_
      refine g_callVJ (As := [vI p1]) hC mv_X12_worthOf3 wml_RX12_419 (k_X12_worthOf3 _ V hL p1 X) cf_X12 (at_120 hL) (by decide) ⟨Nat.zero_le _, Nat.zero_le _⟩ rfl rfl ⟨Nat.le_of_ble_eq_true rfl, Nat.le_of_ble_eq_true rfl⟩ (Nat.le_of_ble_eq_true rfl) dX12_worthOf_30 (fun r1 X2 => ?_)
      exact g_lret hC hR dX12_worthOf_33
    · refine g_aload_n (q := 0) hC dX12_worthOf_19 rfl rfl rfl ?_
      refine g_iconst (v := vI 0) hC dX12_worthOf_20 rfl ?_
      refine g_iload_n (q := 1) hC dX12_worthOf_21 rfl rfl ?_
      refine g_callVJ (As := [vI 0, vI p1]) hC mv_X12_worthOf2 wml_RX12_410 (k_X12_worthOf2 _ V hL 0 p1 X) cf_X12 (at_120 hL) (by decide) ⟨Nat.zero_le _, Nat.zero_le _⟩ rfl rfl ⟨Nat.le_of_ble_eq_true rfl, Nat.le_of_ble_eq_true rfl⟩ (Nat.le_of_ble_eq_true rfl) dX12_worthOf_22 (fun r3 X4 => ?_)
      refine g_goto (tgt := 33) hC dX12_worthOf_25 (by decide) ?_
      exact g_lret hC hR dX12_worthOf_33
  · refine g_aload_n (q := 0) hC dX12_worthOf_5 rfl rfl rfl ?_
    refine g_iconst (v := vI 0) hC dX12_worthOf_6 rfl ?_
    refine g_iload_n (q := 1) hC dX12_worthOf_7 rfl rfl ?_
    refine g_callVJ (As := [vI 0, vI p1]) hC mv_X12_worthOf1 wml_RX12_395 (k_X12_worthOf1 _ V hL 0 p1 X) cf_X12 (at_120 hL) (by decide) ⟨Nat.zero_le _, Nat.zero_le _⟩ rfl rfl ⟨Nat.le_of_ble_eq_true rfl, Nat.le_of_ble_eq_true rfl⟩ (Nat.le_of_ble_eq_true rfl) dX12_worthOf_8 (fun r5 X6 => ?_)
    refine g_goto (tgt := 33) hC dX12_worthOf_11 (by decide) ?_
    exact g_lret hC hR dX12_worthOf_33
def B_X12_bestBar_60 (go7 : Int → Int → Int → Int → Mem → Option (Int × Mem)) (x1 : Int) (x2 : Int) (x3 : Int) (x5 : Int) (X : Mem) : Option (Int × Mem) :=
  go7 x1 x2 x3 (x5 + 1) X
def B_X12_bestBar_54 (go7 : Int → Int → Int → Int → Mem → Option (Int × Mem)) (x1 : Int) (x5 : Int) (x6 : Int) (X : Mem) : Option (Int × Mem) :=
  B_X12_bestBar_60  go7 x1 x5 x6 x5 X
def L_X12_bestBar_7 : Nat → Int → Int → Int → Int → Mem → Option (Int × Mem)
  | 0, _, _, _, _, _ => none
  | n + 1, x1, x2, x3, x5, X =>
    ax 2200 2 <|
    c2 x5 (X 121 2) <| if (X 121 2) ≤ x5 then
      some (x2, X)
    else
      cl (f_X12_hasCell x5 X) fun r1 X2 =>
      c1 r1 <| if ¬ r1 = 0 then
        cl (f_X12_worthOf x5 x1 X2) fun r3 X4 =>
        c2 x2 ((-1)) <| if x2 = ((-1)) then
          B_X12_bestBar_54  (fun x1 x2 x3 x5 X => L_X12_bestBar_7   n x1 x2 x3 x5 X) x1 x5 r3 X4
        else
          d2 r3 x3 <| if x3 < r3 then
            B_X12_bestBar_54  (fun x1 x2 x3 x5 X => L_X12_bestBar_7   n x1 x2 x3 x5 X) x1 x5 r3 X4
          else
            B_X12_bestBar_60  (fun x1 x2 x3 x5 X => L_X12_bestBar_7   n x1 x2 x3 x5 X) x1 x2 x3 x5 X4
      else
        B_X12_bestBar_60  (fun x1 x2 x3 x5 X => L_X12_bestBar_7   n x1 x2 x3 x5 X) x1 x2 x3 x5 X2
def f_X12_bestBar (p1 : Int) (X : Mem) : Option (Int × Mem) :=
  L_X12_bestBar_7   KF p1 ((-1)) 0 0 X
set_option maxRecDepth 20000 in
theorem gB_X12_bestBar_60 {C : Cx} {V : Ev} {L : List Kd} (hC : Ok C V cX12_bestBar RX12 8 9 216) (hR : Rt C V L (some .int) rI) (hL : LKm L) {go7 : Int → Int → Int → Int → Mem → Option (Int × Mem)} (hgo7 : ∀ (x1 : Int) (x2 : Int) (x3 : Int) (x5 : Int) (X : Mem), G C V L 0 0 8 7 [(0, vR V.1 120), (1, vI x1), (2, vI x2), (3, vJ x3), (5, vI x5)] [] X (go7 x1 x2 x3 x5 X)) (x1 : Int) (x2 : Int) (x3 : Int) (x5 : Int) (X : Mem)  : G C V L 0 0 8 60 [(0, vR V.1 120), (1, vI x1), (2, vI x2), (3, vJ x3), (5, vI x5)] [] X (B_X12_bestBar_60  go7 x1 x2 x3 x5 X) := by
  unfold B_X12_bestBar_60
  refine g_iinc (q := 4) hC dX12_bestBar_60 rfl (by decide) rfl ?_
  refine g_goto (tgt := 7) hC dX12_bestBar_63 (by decide) ?_
  refine g_sub [1, 2, 3, 4, 0] rfl ?_
  exact hgo7 x1 x2 x3 (x5 + 1) X
set_option maxRecDepth 20000 in
theorem gB_X12_bestBar_54 {C : Cx} {V : Ev} {L : List Kd} (hC : Ok C V cX12_bestBar RX12 8 9 216) (hR : Rt C V L (some .int) rI) (hL : LKm L) {go7 : Int → Int → Int → Int → Mem → Option (Int × Mem)} (hgo7 : ∀ (x1 : Int) (x2 : Int) (x3 : Int) (x5 : Int) (X : Mem), G C V L 0 0 8 7 [(0, vR V.1 120), (1, vI x1), (2, vI x2), (3, vJ x3), (5, vI x5)] [] X (go7 x1 x2 x3 x5 X)) (x1 : Int) (x5 : Int) (x6 : Int) (X : Mem)  : G C V L 0 0 8 54 [(0, vR V.1 120), (1, vI x1), (5, vI x5), (6, vJ x6)] [] X (B_X12_bestBar_54  go7 x1 x5 x6 X) := by
  unfold B_X12_bestBar_54
  refine g_iload (q := 2) hC dX12_bestBar_54 rfl ?_
  refine g_istore_n hC dX12_bestBar_56 rfl (by decide) rfl ?_
  refine g_lload (q := 4) hC dX12_bestBar_57 rfl ?_
  refine g_lstore_n hC dX12_bestBar_59 rfl (by decide) rfl ?_
  refine g_sub [2, 3, 1, 0, 4] rfl ?_
  exact gB_X12_bestBar_60 hC hR hL hgo7 x1 x5 x6 x5 X
set_option maxRecDepth 20000 in
theorem gL_X12_bestBar_7 {C : Cx} {V : Ev} {L : List Kd} (hC : Ok C V cX12_bestBar RX12 8 9 216) (hR : Rt C V L (some .int) rI) (hL : LKm L) : ∀ (n : Nat) (x1 : Int) (x2 : Int) (x3 : Int) (x5 : Int) (X : Mem), G C V L 0 0 8 7 [(0, vR V.1 120), (1, vI x1), (2, vI x2), (3, vJ x3), (5, vI x5)] [] X (L_X12_bestBar_7   n x1 x2 x3 x5 X) := by
  intro n
  induction n with
  | zero => intro x1 x2 x3 x5 X; exact g_none
  | succ n ih =>
    intro x1 x2 x3 x5 X
    rw [L_X12_bestBar_7]
    refine g_iload (q := 4) hC dX12_bestBar_7 rfl ?_
    refine g_aload_n (q := 0) hC dX12_bestBar_9 rfl rfl rfl ?_
    refine g_getS (k := 0) hC cf_X12 (at_120 hL) (by decide) rfl (by decide) (by decide) wf_RX12_7 dX12_bestBar_10 ?_
    refine g_iconst (v := vI 2) hC dX12_bestBar_13 rfl ?_
    refine g_iald hC (at_121 hL) (by decide) dX12_bestBar_14 ?_
    refine g_icmp_ge (tgt := 66) hC dX12_bestBar_15 (by decide) ?_ ?_
    · refine g_iload_n (q := 2) hC dX12_bestBar_66 rfl rfl ?_
      exact g_iret hC hR dX12_bestBar_67
    · refine g_aload_n (q := 0) hC dX12_bestBar_18 rfl rfl rfl ?_
      refine g_iload (q := 4) hC dX12_bestBar_19 rfl ?_
      refine g_callVI (As := [vI x5]) hC mv_X12_hasCell wml_RX12_392 (k_X12_hasCell _ V hL x5 X) cf_X12 (at_120 hL) (by decide) ⟨Nat.zero_le _, Nat.zero_le _⟩ rfl rfl ⟨Nat.le_of_ble_eq_true rfl, Nat.le_of_ble_eq_true rfl⟩ (Nat.le_of_ble_eq_true rfl) dX12_bestBar_21 (fun r1 X2 => ?_)
      refine g_if_ne (tgt := 30) hC dX12_bestBar_24 (by decide) ?_ ?_
      · refine g_aload_n (q := 0) hC dX12_bestBar_30 rfl rfl rfl ?_
        refine g_iload (q := 4) hC dX12_bestBar_31 rfl ?_
        refine g_iload_n (q := 1) hC dX12_bestBar_33 rfl rfl ?_
        refine g_callVJ (As := [vI x5, vI x1]) hC mv_X12_worthOf wml_RX12_422 (k_X12_worthOf _ V hL x5 x1 X2) cf_X12 (at_120 hL) (by decide) ⟨Nat.zero_le _, Nat.zero_le _⟩ rfl rfl ⟨Nat.le_of_ble_eq_true rfl, Nat.le_of_ble_eq_true rfl⟩ (Nat.le_of_ble_eq_true rfl) dX12_bestBar_34 (fun r3 X4 => ?_)
        refine g_lstore hC dX12_bestBar_37 (by decide) rfl ?_
        refine g_iload_n (q := 3) hC dX12_bestBar_39 rfl rfl ?_
        refine g_iconst (v := vI (-1)) hC dX12_bestBar_40 rfl ?_
        refine g_icmp_eq (tgt := 54) hC dX12_bestBar_41 (by decide) ?_ ?_
        · refine g_sub [1, 2, 5, 0] rfl ?_
          exact gB_X12_bestBar_54 hC hR hL ih x1 x5 r3 X4
        · refine g_lload (q := 0) hC dX12_bestBar_44 rfl ?_
          refine g_lload_n (q := 4) hC dX12_bestBar_46 rfl rfl ?_
          refine g_lcmp_gt (tgt := 54) hC dX12_bestBar_47 rfl dX12_bestBar_48 (by decide) ?_ ?_
          · refine g_sub [1, 2, 5, 0] rfl ?_
            exact gB_X12_bestBar_54 hC hR hL ih x1 x5 r3 X4
          · refine g_goto (tgt := 60) hC dX12_bestBar_51 (by decide) ?_
            refine g_sub [1, 2, 3, 4, 5] rfl ?_
            exact gB_X12_bestBar_60 hC hR hL ih x1 x2 x3 x5 X4
      · refine g_goto (tgt := 60) hC dX12_bestBar_27 (by decide) ?_
        exact gB_X12_bestBar_60 hC hR hL ih x1 x2 x3 x5 X2
set_option maxRecDepth 20000 in
theorem k_X12_bestBar (l : Launch) (V : Ev) {L : List Kd} (hL : LKm L) (p1 : Int) (X : Mem)  : Kt l V L yX12_bestBar (.code yX12_bestBar cX12_bestBar 8 (some .int)) 9 216 [vR V.1 120, vI p1] rI X (f_X12_bestBar p1 X) := by
  refine kt_of (own := RX12) (lv0 := [(0, vR V.1 120), (1, vI p1)]) (by decide) rfl (Nat.le_of_ble_eq_true rfl) rfl (fun C hCl hC hR => ?_)
  subst hCl
  unfold f_X12_bestBar
  refine g_iconst (v := vI (-1)) hC dX12_bestBar_0 rfl ?_
  refine g_istore_n hC dX12_bestBar_1 rfl (by decide) rfl ?_
  refine g_lconst (v := vJ 0) hC dX12_bestBar_2 rfl ?_
  refine g_lstore_n hC dX12_bestBar_3 rfl (by decide) rfl ?_
  refine g_iconst (v := vI 0) hC dX12_bestBar_4 rfl ?_
  refine g_istore hC dX12_bestBar_5 (by decide) rfl ?_
  refine g_sub [3, 4, 2, 1, 0] rfl ?_
  exact gL_X12_bestBar_7 hC hR hL  KF p1 ((-1)) 0 0 X
def B_X12_worth_18  (X : Mem) : Option (Int × Mem) :=
  cl (f_X12_is 1 X) fun r3 X4 =>
  cz r3 (some (r3, X4))
def B_X12_worth_96 (x3 : Int) (x4 : Int) (x5 : Int) (X : Mem) : Option (Int × Mem) :=
  cl (f_X12_worthOf x4 x3 X) fun r11 X12 =>
  cl (f_X12_tellsBy r11 x5 X12) fun r13 X14 =>
  cz r13 (some (r13, X14))
def L_X12_worth_76 : Nat → Int → Int → Int → Int → Mem → Option (Int × Mem)
  | 0, _, _, _, _, _ => none
  | n + 1, x3, x4, x5, x7, X =>
    c2 x7 x3 <| if x3 ≤ x7 then
      B_X12_worth_96   x3 x4 x5 X
    else
      bd (x5 * 32) fun v15 =>
      L_X12_worth_76   n x3 x4 v15 (x7 + 1) X
def B_X12_worth_47 (x3 : Int) (s0 : Int) (X : Mem) : Option (Int × Mem) :=
  c2 s0 ((-1)) <| if ¬ s0 = ((-1)) then
    L_X12_worth_76   KF x3 s0 1000000 0 X
  else
    cl (f_X12_worth0 0 X) fun r16 X17 =>
    cl (f_X12_tellsBy r16 1000000 X17) fun r18 X19 =>
    cz r18 (some (r18, X19))
def f_X12_worth (p1 : Int) (p2 : Int) (p3 : Int) (X : Mem) : Option (Int × Mem) :=
  cl (f_X12_areCells p1 p2 X) fun r1 X2 =>
  c1 r1 <| if r1 = 0 then
    B_X12_worth_18   X2
  else
    c1 p3 <| if p3 < 0 then
      B_X12_worth_18   X2
    else
      c2 p3 3 <| if p3 ≤ 3 then
        cl (f_X12_readies p1 p2 X2) fun _ X6 =>
        cl (f_X12_thinks X6) fun _ X8 =>
        c1 p3 <| if ¬ p3 = 0 then
          cl (f_X12_bestBar p3 X8) fun r9 X10 =>
          B_X12_worth_47   p3 r9 X10
        else
          B_X12_worth_47   p3 ((-1)) X8
      else
        B_X12_worth_18   X2
set_option maxRecDepth 20000 in
theorem gB_X12_worth_18 {C : Cx} {V : Ev} {L : List Kd} (hC : Ok C V cX12_worth RX12 8 10 243) (hR : Rt C V L (some .boolean) rI) (hL : LKm L)  (X : Mem)  : G C V L 0 0 8 18 [(0, vR V.1 120)] [] X (B_X12_worth_18    X) := by
  unfold B_X12_worth_18
  refine g_aload_n (q := 0) hC dX12_worth_18 rfl rfl rfl ?_
  refine g_iconst (v := vI 1) hC dX12_worth_19 rfl ?_
  refine g_callVI (As := [vI 1]) hC mv_X12_is wml_RX12_98 (k_X12_is _ V hL 1 X) cf_X12 (at_120 hL) (by decide) ⟨Nat.zero_le _, Nat.zero_le _⟩ rfl rfl ⟨Nat.le_of_ble_eq_true rfl, Nat.le_of_ble_eq_true rfl⟩ (Nat.le_of_ble_eq_true rfl) dX12_worth_20 (fun r3 X4 => ?_)
  exact g_zret hC hR dX12_worth_23
set_option maxRecDepth 20000 in
theorem gB_X12_worth_96 {C : Cx} {V : Ev} {L : List Kd} (hC : Ok C V cX12_worth RX12 8 10 243) (hR : Rt C V L (some .boolean) rI) (hL : LKm L) (x3 : Int) (x4 : Int) (x5 : Int) (X : Mem)  : G C V L 0 0 8 96 [(0, vR V.1 120), (3, vI x3), (4, vI x4), (5, vJ x5)] [] X (B_X12_worth_96   x3 x4 x5 X) := by
  unfold B_X12_worth_96
  refine g_aload_n (q := 0) hC dX12_worth_96 rfl rfl rfl ?_
  refine g_aload_n (q := 0) hC dX12_worth_97 rfl rfl rfl ?_
  refine g_iload (q := 2) hC dX12_worth_98 rfl ?_
  refine g_iload_n (q := 1) hC dX12_worth_100 rfl rfl ?_
  refine g_callVJ (As := [vI x4, vI x3]) hC mv_X12_worthOf wml_RX12_422 (k_X12_worthOf _ V hL x4 x3 X) cf_X12 (at_120 hL) (by decide) ⟨Nat.zero_le _, Nat.zero_le _⟩ rfl rfl ⟨Nat.le_of_ble_eq_true rfl, Nat.le_of_ble_eq_true rfl⟩ (Nat.le_of_ble_eq_true rfl) dX12_worth_101 (fun r11 X12 => ?_)
  refine g_lload (q := 3) hC dX12_worth_104 rfl ?_
  refine g_callVI (As := [vJ r11, vJ x5]) hC mv_X12_tellsBy wml_RX12_312 (k_X12_tellsBy _ V hL r11 x5 X12) cf_X12 (at_120 hL) (by decide) ⟨Nat.zero_le _, Nat.zero_le _⟩ rfl rfl ⟨Nat.le_of_ble_eq_true rfl, Nat.le_of_ble_eq_true rfl⟩ (Nat.le_of_ble_eq_true rfl) dX12_worth_106 (fun r13 X14 => ?_)
  exact g_zret hC hR dX12_worth_109
set_option maxRecDepth 20000 in
theorem gL_X12_worth_76 {C : Cx} {V : Ev} {L : List Kd} (hC : Ok C V cX12_worth RX12 8 10 243) (hR : Rt C V L (some .boolean) rI) (hL : LKm L) : ∀ (n : Nat) (x3 : Int) (x4 : Int) (x5 : Int) (x7 : Int) (X : Mem), G C V L 0 0 8 76 [(0, vR V.1 120), (3, vI x3), (4, vI x4), (5, vJ x5), (7, vI x7)] [] X (L_X12_worth_76   n x3 x4 x5 x7 X) := by
  intro n
  induction n with
  | zero => intro x3 x4 x5 x7 X; exact g_none
  | succ n ih =>
    intro x3 x4 x5 x7 X
    rw [L_X12_worth_76]
    refine g_iload (q := 4) hC dX12_worth_76 rfl ?_
    refine g_iload_n (q := 1) hC dX12_worth_78 rfl rfl ?_
    refine g_icmp_ge (tgt := 96) hC dX12_worth_79 (by decide) ?_ ?_
    · refine g_sub [0, 1, 2, 3] rfl ?_
      exact gB_X12_worth_96 hC hR hL  x3 x4 x5 X
    · refine g_lload (q := 3) hC dX12_worth_82 rfl ?_
      refine g_ldc2 (n := 32) hC wk_RX12_431 rfl dX12_worth_84 ?_
      refine g_lmul hC dX12_worth_87 ?_
      refine g_topJ (fun v15 => ?_)
      refine g_lstore hC dX12_worth_88 (by decide) rfl ?_
      refine g_iinc (q := 4) hC dX12_worth_90 rfl (by decide) rfl ?_
      refine g_goto (tgt := 76) hC dX12_worth_93 (by decide) ?_
      refine g_sub [2, 3, 4, 1, 0] rfl ?_
      exact ih x3 x4 v15 (x7 + 1) X
set_option maxRecDepth 20000 in
theorem gB_X12_worth_47 {C : Cx} {V : Ev} {L : List Kd} (hC : Ok C V cX12_worth RX12 8 10 243) (hR : Rt C V L (some .boolean) rI) (hL : LKm L) (x3 : Int) (s0 : Int) (X : Mem)  : G C V L 0 0 8 47 [(0, vR V.1 120), (3, vI x3)] [vI s0] X (B_X12_worth_47   x3 s0 X) := by
  unfold B_X12_worth_47
  refine g_istore hC dX12_worth_47 (by decide) rfl ?_
  refine g_iload (q := 0) hC dX12_worth_49 rfl ?_
  refine g_iconst (v := vI (-1)) hC dX12_worth_51 rfl ?_
  refine g_icmp_ne (tgt := 68) hC dX12_worth_52 (by decide) ?_ ?_
  · refine g_ldc2 (n := 1000000) hC wk_RX12_300 rfl dX12_worth_68 ?_
    refine g_lstore hC dX12_worth_71 (by decide) rfl ?_
    refine g_iconst (v := vI 0) hC dX12_worth_73 rfl ?_
    refine g_istore hC dX12_worth_74 (by decide) rfl ?_
    refine g_sub [3, 4, 2, 1, 0] rfl ?_
    exact gL_X12_worth_76 hC hR hL  KF x3 s0 1000000 0 X
  · refine g_aload_n (q := 1) hC dX12_worth_55 rfl rfl rfl ?_
    refine g_aload_n (q := 1) hC dX12_worth_56 rfl rfl rfl ?_
    refine g_iconst (v := vI 0) hC dX12_worth_57 rfl ?_
    refine g_callVJ (As := [vI 0]) hC mv_X12_worth0 wml_RX12_407 (k_X12_worth0 _ V hL 0 X) cf_X12 (at_120 hL) (by decide) ⟨Nat.zero_le _, Nat.zero_le _⟩ rfl rfl ⟨Nat.le_of_ble_eq_true rfl, Nat.le_of_ble_eq_true rfl⟩ (Nat.le_of_ble_eq_true rfl) dX12_worth_58 (fun r16 X17 => ?_)
    refine g_ldc2 (n := 1000000) hC wk_RX12_300 rfl dX12_worth_61 ?_
    refine g_callVI (As := [vJ r16, vJ 1000000]) hC mv_X12_tellsBy wml_RX12_312 (k_X12_tellsBy _ V hL r16 1000000 X17) cf_X12 (at_120 hL) (by decide) ⟨Nat.zero_le _, Nat.zero_le _⟩ rfl rfl ⟨Nat.le_of_ble_eq_true rfl, Nat.le_of_ble_eq_true rfl⟩ (Nat.le_of_ble_eq_true rfl) dX12_worth_64 (fun r18 X19 => ?_)
    exact g_zret hC hR dX12_worth_67
set_option maxRecDepth 20000 in
theorem k_X12_worth (l : Launch) (V : Ev) {L : List Kd} (hL : LKm L) (p1 : Int) (p2 : Int) (p3 : Int) (X : Mem)  : Kt l V L yX12_worth (.code yX12_worth cX12_worth 8 (some .boolean)) 10 243 [vR V.1 120, vI p1, vI p2, vI p3] rI X (f_X12_worth p1 p2 p3 X) := by
  refine kt_of (own := RX12) (lv0 := [(0, vR V.1 120), (1, vI p1), (2, vI p2), (3, vI p3)]) (by decide) rfl (Nat.le_of_ble_eq_true rfl) rfl (fun C hCl hC hR => ?_)
  subst hCl
  unfold f_X12_worth
  refine g_aload_n (q := 0) hC dX12_worth_0 rfl rfl rfl ?_
  refine g_iload_n (q := 1) hC dX12_worth_1 rfl rfl ?_
  refine g_iload_n (q := 2) hC dX12_worth_2 rfl rfl ?_
  refine g_callVI (As := [vI p1, vI p2]) hC mv_X12_areCells wml_RX12_378 (k_X12_areCells _ V hL p1 p2 X) cf_X12 (at_120 hL) (by decide) ⟨Nat.zero_le _, Nat.zero_le _⟩ rfl rfl ⟨Nat.le_of_ble_eq_true rfl, Nat.le_of_ble_eq_true rfl⟩ (Nat.le_of_ble_eq_true rfl) dX12_worth_3 (fun r1 X2 => ?_)
  refine g_if_eq (tgt := 18) hC dX12_worth_6 (by decide) ?_ ?_
  · refine g_sub [0] rfl ?_
    exact gB_X12_worth_18 hC hR hL  X2
  · refine g_iload_n (q := 3) hC dX12_worth_9 rfl rfl ?_
    refine g_if_lt (tgt := 18) hC dX12_worth_10 (by decide) ?_ ?_
    · refine g_sub [0] rfl ?_
      exact gB_X12_worth_18 hC hR hL  X2
    · refine g_iload_n (q := 3) hC dX12_worth_13 rfl rfl ?_
      refine g_iconst (v := vI 3) hC dX12_worth_14 rfl ?_
      refine g_icmp_le (tgt := 24) hC dX12_worth_15 (by decide) ?_ ?_
      · refine g_aload_n (q := 0) hC dX12_worth_24 rfl rfl rfl ?_
        refine g_iload_n (q := 1) hC dX12_worth_25 rfl rfl ?_
        refine g_iload_n (q := 2) hC dX12_worth_26 rfl rfl ?_
        refine g_callVV (As := [vI p1, vI p2]) hC mv_X12_readies wml_RX12_371 (k_X12_readies _ V hL p1 p2 X2) cf_X12 (at_120 hL) (by decide) ⟨Nat.zero_le _, Nat.zero_le _⟩ rfl rfl ⟨Nat.le_of_ble_eq_true rfl, Nat.le_of_ble_eq_true rfl⟩ (Nat.le_of_ble_eq_true rfl) dX12_worth_27 (fun _ X6 => ?_)
        refine g_aload_n (q := 0) hC dX12_worth_30 rfl rfl rfl ?_
        refine g_callVV (As := []) hC mv_X12_thinks wml_RX12_425 (k_X12_thinks _ V hL X6) cf_X12 (at_120 hL) (by decide) ⟨Nat.zero_le _, Nat.zero_le _⟩ rfl rfl ⟨Nat.le_of_ble_eq_true rfl, Nat.le_of_ble_eq_true rfl⟩ (Nat.le_of_ble_eq_true rfl) dX12_worth_31 (fun _ X8 => ?_)
        refine g_iload_n (q := 3) hC dX12_worth_34 rfl rfl ?_
        refine g_if_ne (tgt := 42) hC dX12_worth_35 (by decide) ?_ ?_
        · refine g_aload_n (q := 0) hC dX12_worth_42 rfl rfl rfl ?_
          refine g_iload_n (q := 3) hC dX12_worth_43 rfl rfl ?_
          refine g_callVI (As := [vI p3]) hC mv_X12_bestBar wml_RX12_428 (k_X12_bestBar _ V hL p3 X8) cf_X12 (at_120 hL) (by decide) ⟨Nat.zero_le _, Nat.zero_le _⟩ rfl rfl ⟨Nat.le_of_ble_eq_true rfl, Nat.le_of_ble_eq_true rfl⟩ (Nat.le_of_ble_eq_true rfl) dX12_worth_44 (fun r9 X10 => ?_)
          refine g_sub [0, 3] rfl ?_
          exact gB_X12_worth_47 hC hR hL  p3 r9 X10
        · refine g_iconst (v := vI (-1)) hC dX12_worth_38 rfl ?_
          refine g_goto (tgt := 47) hC dX12_worth_39 (by decide) ?_
          refine g_sub [0, 3] rfl ?_
          exact gB_X12_worth_47 hC hR hL  p3 ((-1)) X8
      · refine g_sub [0] rfl ?_
        exact gB_X12_worth_18 hC hR hL  X2
def B_X12_next_19  (X : Mem) : Option (Int × Mem) :=
  cl (f_X12_refuse 1 X) fun r3 X4 =>
  some (r3, X4)
def f_X12_next (p1 : Int) (p2 : Int) (p3 : Int) (X : Mem) : Option (Int × Mem) :=
  cl (f_X12_areCells p1 p2 X) fun r1 X2 =>
  c1 r1 <| if r1 = 0 then
    B_X12_next_19   X2
  else
    c2 p3 1 <| if p3 < 1 then
      B_X12_next_19   X2
    else
      c2 p3 3 <| if p3 ≤ 3 then
        cl (f_X12_readies p1 p2 X2) fun _ X6 =>
        cl (f_X12_thinks X6) fun _ X8 =>
        cl (f_X12_bestBar p3 X8) fun r9 X10 =>
        c2 r9 ((-1)) <| if ¬ r9 = ((-1)) then
          cl (f_X12_gives r9 X10) fun r11 X12 =>
          some (r11, X12)
        else
          cl (f_X12_refuse 6 X10) fun r13 X14 =>
          some (r13, X14)
      else
        B_X12_next_19   X2
set_option maxRecDepth 20000 in
theorem gB_X12_next_19 {C : Cx} {V : Ev} {L : List Kd} (hC : Ok C V cX12_next RX12 5 10 243) (hR : Rt C V L (some .int) rI) (hL : LKm L)  (X : Mem)  : G C V L 0 0 5 19 [(0, vR V.1 120)] [] X (B_X12_next_19    X) := by
  unfold B_X12_next_19
  refine g_aload_n (q := 0) hC dX12_next_19 rfl rfl rfl ?_
  refine g_iconst (v := vI 1) hC dX12_next_20 rfl ?_
  refine g_callVI (As := [vI 1]) hC mv_X12_refuse wml_RX12_185 (k_X12_refuse _ V hL 1 X) cf_X12 (at_120 hL) (by decide) ⟨Nat.zero_le _, Nat.zero_le _⟩ rfl rfl ⟨Nat.le_of_ble_eq_true rfl, Nat.le_of_ble_eq_true rfl⟩ (Nat.le_of_ble_eq_true rfl) dX12_next_21 (fun r3 X4 => ?_)
  exact g_iret hC hR dX12_next_24
set_option maxRecDepth 20000 in
theorem k_X12_next (l : Launch) (V : Ev) {L : List Kd} (hL : LKm L) (p1 : Int) (p2 : Int) (p3 : Int) (X : Mem)  : Kt l V L yX12_next (.code yX12_next cX12_next 5 (some .int)) 10 243 [vR V.1 120, vI p1, vI p2, vI p3] rI X (f_X12_next p1 p2 p3 X) := by
  refine kt_of (own := RX12) (lv0 := [(0, vR V.1 120), (1, vI p1), (2, vI p2), (3, vI p3)]) (by decide) rfl (Nat.le_of_ble_eq_true rfl) rfl (fun C hCl hC hR => ?_)
  subst hCl
  unfold f_X12_next
  refine g_aload_n (q := 0) hC dX12_next_0 rfl rfl rfl ?_
  refine g_iload_n (q := 1) hC dX12_next_1 rfl rfl ?_
  refine g_iload_n (q := 2) hC dX12_next_2 rfl rfl ?_
  refine g_callVI (As := [vI p1, vI p2]) hC mv_X12_areCells wml_RX12_378 (k_X12_areCells _ V hL p1 p2 X) cf_X12 (at_120 hL) (by decide) ⟨Nat.zero_le _, Nat.zero_le _⟩ rfl rfl ⟨Nat.le_of_ble_eq_true rfl, Nat.le_of_ble_eq_true rfl⟩ (Nat.le_of_ble_eq_true rfl) dX12_next_3 (fun r1 X2 => ?_)
  refine g_if_eq (tgt := 19) hC dX12_next_6 (by decide) ?_ ?_
  · refine g_sub [0] rfl ?_
    exact gB_X12_next_19 hC hR hL  X2
  · refine g_iload_n (q := 3) hC dX12_next_9 rfl rfl ?_
    refine g_iconst (v := vI 1) hC dX12_next_10 rfl ?_
    refine g_icmp_lt (tgt := 19) hC dX12_next_11 (by decide) ?_ ?_
    · refine g_sub [0] rfl ?_
      exact gB_X12_next_19 hC hR hL  X2
    · refine g_iload_n (q := 3) hC dX12_next_14 rfl rfl ?_
      refine g_iconst (v := vI 3) hC dX12_next_15 rfl ?_
      refine g_icmp_le (tgt := 25) hC dX12_next_16 (by decide) ?_ ?_
      · refine g_aload_n (q := 0) hC dX12_next_25 rfl rfl rfl ?_
        refine g_iload_n (q := 1) hC dX12_next_26 rfl rfl ?_
        refine g_iload_n (q := 2) hC dX12_next_27 rfl rfl ?_
        refine g_callVV (As := [vI p1, vI p2]) hC mv_X12_readies wml_RX12_371 (k_X12_readies _ V hL p1 p2 X2) cf_X12 (at_120 hL) (by decide) ⟨Nat.zero_le _, Nat.zero_le _⟩ rfl rfl ⟨Nat.le_of_ble_eq_true rfl, Nat.le_of_ble_eq_true rfl⟩ (Nat.le_of_ble_eq_true rfl) dX12_next_28 (fun _ X6 => ?_)
        refine g_aload_n (q := 0) hC dX12_next_31 rfl rfl rfl ?_
        refine g_callVV (As := []) hC mv_X12_thinks wml_RX12_425 (k_X12_thinks _ V hL X6) cf_X12 (at_120 hL) (by decide) ⟨Nat.zero_le _, Nat.zero_le _⟩ rfl rfl ⟨Nat.le_of_ble_eq_true rfl, Nat.le_of_ble_eq_true rfl⟩ (Nat.le_of_ble_eq_true rfl) dX12_next_32 (fun _ X8 => ?_)
        refine g_aload_n (q := 0) hC dX12_next_35 rfl rfl rfl ?_
        refine g_iload_n (q := 3) hC dX12_next_36 rfl rfl ?_
        refine g_callVI (As := [vI p3]) hC mv_X12_bestBar wml_RX12_428 (k_X12_bestBar _ V hL p3 X8) cf_X12 (at_120 hL) (by decide) ⟨Nat.zero_le _, Nat.zero_le _⟩ rfl rfl ⟨Nat.le_of_ble_eq_true rfl, Nat.le_of_ble_eq_true rfl⟩ (Nat.le_of_ble_eq_true rfl) dX12_next_37 (fun r9 X10 => ?_)
        refine g_istore hC dX12_next_40 (by decide) rfl ?_
        refine g_iload (q := 0) hC dX12_next_42 rfl ?_
        refine g_iconst (v := vI (-1)) hC dX12_next_44 rfl ?_
        refine g_icmp_ne (tgt := 57) hC dX12_next_45 (by decide) ?_ ?_
        · refine g_aload_n (q := 1) hC dX12_next_57 rfl rfl rfl ?_
          refine g_iload (q := 0) hC dX12_next_58 rfl ?_
          refine g_callVI (As := [vI r9]) hC mv_X12_gives wml_RX12_188 (k_X12_gives _ V hL r9 X10) cf_X12 (at_120 hL) (by decide) ⟨Nat.zero_le _, Nat.zero_le _⟩ rfl rfl ⟨Nat.le_of_ble_eq_true rfl, Nat.le_of_ble_eq_true rfl⟩ (Nat.le_of_ble_eq_true rfl) dX12_next_60 (fun r11 X12 => ?_)
          exact g_iret hC hR dX12_next_63
        · refine g_aload_n (q := 1) hC dX12_next_48 rfl rfl rfl ?_
          refine g_bipush (v := vI 6) hC dX12_next_49 rfl ?_
          refine g_callVI (As := [vI 6]) hC mv_X12_refuse wml_RX12_185 (k_X12_refuse _ V hL 6 X10) cf_X12 (at_120 hL) (by decide) ⟨Nat.zero_le _, Nat.zero_le _⟩ rfl rfl ⟨Nat.le_of_ble_eq_true rfl, Nat.le_of_ble_eq_true rfl⟩ (Nat.le_of_ble_eq_true rfl) dX12_next_51 (fun r13 X14 => ?_)
          refine g_goto (tgt := 63) hC dX12_next_54 (by decide) ?_
          exact g_iret hC hR dX12_next_63
      · refine g_sub [0] rfl ?_
        exact gB_X12_next_19 hC hR hL  X2
def B_X12_keeps_30  (X : Mem) : Option (Int × Mem) :=
  ax 2200 3 <|
  bd (ms X 120 39 (X 121 3)) fun X1 =>
  ax 2200 4 <|
  bd (ms X1 120 40 (X1 121 4)) fun X2 =>
  some (0, X2)
def L_X12_keeps_2 : Nat → Int → Mem → Option (Int × Mem)
  | 0, _, _ => none
  | n + 1, x1, X =>
    c2 x1 32 <| if 32 ≤ x1 then
      B_X12_keeps_30   X
    else
      ax 2200 (168 + x1) <|
      ax 32 x1 <| bd (ms X 137 x1 (X 121 (168 + x1))) fun X3 =>
      L_X12_keeps_2   n (x1 + 1) X3
def f_X12_keeps  (X : Mem) : Option (Int × Mem) :=
  L_X12_keeps_2   KF 0 X
set_option maxRecDepth 20000 in
theorem gB_X12_keeps_30 {C : Cx} {V : Ev} {L : List Kd} (hC : Ok C V cX12_keeps RX12 2 0 0) (hR : Rt C V L none rV) (hL : LKm L)  (X : Mem)  : G C V L 0 0 2 30 [(0, vR V.1 120)] [] X (B_X12_keeps_30    X) := by
  unfold B_X12_keeps_30
  refine g_aload_n (q := 0) hC dX12_keeps_30 rfl rfl rfl ?_
  refine g_aload_n (q := 0) hC dX12_keeps_31 rfl rfl rfl ?_
  refine g_getS (k := 0) hC cf_X12 (at_120 hL) (by decide) rfl (by decide) (by decide) wf_RX12_7 dX12_keeps_32 ?_
  refine g_iconst (v := vI 3) hC dX12_keeps_35 rfl ?_
  refine g_iald hC (at_121 hL) (by decide) dX12_keeps_36 ?_
  refine g_putI (k := 39) (kz := 39) hC cf_X12 (at_120 hL) (by decide) rfl (by decide) rfl wf_RX12_433 rfl rfl dX12_keeps_37 (fun X1 => ?_)
  refine g_aload_n (q := 0) hC dX12_keeps_40 rfl rfl rfl ?_
  refine g_aload_n (q := 0) hC dX12_keeps_41 rfl rfl rfl ?_
  refine g_getS (k := 0) hC cf_X12 (at_120 hL) (by decide) rfl (by decide) (by decide) wf_RX12_7 dX12_keeps_42 ?_
  refine g_iconst (v := vI 4) hC dX12_keeps_45 rfl ?_
  refine g_iald hC (at_121 hL) (by decide) dX12_keeps_46 ?_
  refine g_putI (k := 40) (kz := 40) hC cf_X12 (at_120 hL) (by decide) rfl (by decide) rfl wf_RX12_436 rfl rfl dX12_keeps_47 (fun X2 => ?_)
  exact g_vret hC hR dX12_keeps_50
set_option maxRecDepth 20000 in
theorem gL_X12_keeps_2 {C : Cx} {V : Ev} {L : List Kd} (hC : Ok C V cX12_keeps RX12 2 0 0) (hR : Rt C V L none rV) (hL : LKm L) : ∀ (n : Nat) (x1 : Int) (X : Mem), G C V L 0 0 2 2 [(0, vR V.1 120), (1, vI x1)] [] X (L_X12_keeps_2   n x1 X) := by
  intro n
  induction n with
  | zero => intro x1 X; exact g_none
  | succ n ih =>
    intro x1 X
    rw [L_X12_keeps_2]
    refine g_iload_n (q := 1) hC dX12_keeps_2 rfl rfl ?_
    refine g_bipush (v := vI 32) hC dX12_keeps_3 rfl ?_
    refine g_icmp_ge (tgt := 30) hC dX12_keeps_5 (by decide) ?_ ?_
    · refine g_sub [0] rfl ?_
      exact gB_X12_keeps_30 hC hR hL  X
    · refine g_aload_n (q := 0) hC dX12_keeps_8 rfl rfl rfl ?_
      refine g_getS (k := 38) hC cf_X12 (at_120 hL) (by decide) rfl (by decide) (by decide) wf_RX12_75 dX12_keeps_9 ?_
      refine g_iload_n (q := 1) hC dX12_keeps_12 rfl rfl ?_
      refine g_aload_n (q := 0) hC dX12_keeps_13 rfl rfl rfl ?_
      refine g_getS (k := 0) hC cf_X12 (at_120 hL) (by decide) rfl (by decide) (by decide) wf_RX12_7 dX12_keeps_14 ?_
      refine g_sipush (v := vI 168) hC dX12_keeps_17 rfl ?_
      refine g_iload_n (q := 1) hC dX12_keeps_20 rfl rfl ?_
      refine g_iadd hC dX12_keeps_21 ?_
      refine g_iald hC (at_121 hL) (by decide) dX12_keeps_22 ?_
      refine g_iast hC (at_137 hL) (by decide) dX12_keeps_23 (fun X3 => ?_)
      refine g_iinc (q := 1) hC dX12_keeps_24 rfl (by decide) rfl ?_
      refine g_goto (tgt := 2) hC dX12_keeps_27 (by decide) ?_
      refine g_sub [1, 0] rfl ?_
      exact ih (x1 + 1) X3
set_option maxRecDepth 20000 in
theorem k_X12_keeps (l : Launch) (V : Ev) {L : List Kd} (hL : LKm L)  (X : Mem)  : Kt l V L yX12_keeps (.code yX12_keeps cX12_keeps 2 none) 0 0 [vR V.1 120] rV X (f_X12_keeps  X) := by
  refine kt_of (own := RX12) (lv0 := [(0, vR V.1 120)]) (by decide) rfl (Nat.le_of_ble_eq_true rfl) rfl (fun C hCl hC hR => ?_)
  subst hCl
  unfold f_X12_keeps
  refine g_iconst (v := vI 0) hC dX12_keeps_0 rfl ?_
  refine g_istore_n hC dX12_keeps_1 rfl (by decide) rfl ?_
  refine g_sub [1, 0] rfl ?_
  exact gL_X12_keeps_2 hC hR hL  KF 0 X
def B_X12_brings_30  (X : Mem) : Option (Int × Mem) :=
  ax 2200 3 <| bd (ms X 121 3 (X 120 39)) fun X1 =>
  ax 2200 4 <| bd (ms X1 121 4 (X1 120 40)) fun X2 =>
  some (0, X2)
def L_X12_brings_2 : Nat → Int → Mem → Option (Int × Mem)
  | 0, _, _ => none
  | n + 1, x1, X =>
    c2 x1 32 <| if 32 ≤ x1 then
      B_X12_brings_30   X
    else
      ax 32 x1 <|
      ax 2200 (168 + x1) <| bd (ms X 121 (168 + x1) (X 137 x1)) fun X3 =>
      L_X12_brings_2   n (x1 + 1) X3
def f_X12_brings  (X : Mem) : Option (Int × Mem) :=
  L_X12_brings_2   KF 0 X
set_option maxRecDepth 20000 in
theorem gB_X12_brings_30 {C : Cx} {V : Ev} {L : List Kd} (hC : Ok C V cX12_brings RX12 2 0 0) (hR : Rt C V L none rV) (hL : LKm L)  (X : Mem)  : G C V L 0 0 2 30 [(0, vR V.1 120)] [] X (B_X12_brings_30    X) := by
  unfold B_X12_brings_30
  refine g_aload_n (q := 0) hC dX12_brings_30 rfl rfl rfl ?_
  refine g_getS (k := 0) hC cf_X12 (at_120 hL) (by decide) rfl (by decide) (by decide) wf_RX12_7 dX12_brings_31 ?_
  refine g_iconst (v := vI 3) hC dX12_brings_34 rfl ?_
  refine g_aload_n (q := 0) hC dX12_brings_35 rfl rfl rfl ?_
  refine g_getI (k := 39) (kz := 39) hC cf_X12 (at_120 hL) (by decide) rfl (by decide) rfl wf_RX12_433 dX12_brings_36 ?_
  refine g_iast hC (at_121 hL) (by decide) dX12_brings_39 (fun X1 => ?_)
  refine g_aload_n (q := 0) hC dX12_brings_40 rfl rfl rfl ?_
  refine g_getS (k := 0) hC cf_X12 (at_120 hL) (by decide) rfl (by decide) (by decide) wf_RX12_7 dX12_brings_41 ?_
  refine g_iconst (v := vI 4) hC dX12_brings_44 rfl ?_
  refine g_aload_n (q := 0) hC dX12_brings_45 rfl rfl rfl ?_
  refine g_getI (k := 40) (kz := 40) hC cf_X12 (at_120 hL) (by decide) rfl (by decide) rfl wf_RX12_436 dX12_brings_46 ?_
  refine g_iast hC (at_121 hL) (by decide) dX12_brings_49 (fun X2 => ?_)
  exact g_vret hC hR dX12_brings_50
set_option maxRecDepth 20000 in
theorem gL_X12_brings_2 {C : Cx} {V : Ev} {L : List Kd} (hC : Ok C V cX12_brings RX12 2 0 0) (hR : Rt C V L none rV) (hL : LKm L) : ∀ (n : Nat) (x1 : Int) (X : Mem), G C V L 0 0 2 2 [(0, vR V.1 120), (1, vI x1)] [] X (L_X12_brings_2   n x1 X) := by
  intro n
  induction n with
  | zero => intro x1 X; exact g_none
  | succ n ih =>
    intro x1 X
    rw [L_X12_brings_2]
    refine g_iload_n (q := 1) hC dX12_brings_2 rfl rfl ?_
    refine g_bipush (v := vI 32) hC dX12_brings_3 rfl ?_
    refine g_icmp_ge (tgt := 30) hC dX12_brings_5 (by decide) ?_ ?_
    · refine g_sub [0] rfl ?_
      exact gB_X12_brings_30 hC hR hL  X
    · refine g_aload_n (q := 0) hC dX12_brings_8 rfl rfl rfl ?_
      refine g_getS (k := 0) hC cf_X12 (at_120 hL) (by decide) rfl (by decide) (by decide) wf_RX12_7 dX12_brings_9 ?_
      refine g_sipush (v := vI 168) hC dX12_brings_12 rfl ?_
      refine g_iload_n (q := 1) hC dX12_brings_15 rfl rfl ?_
      refine g_iadd hC dX12_brings_16 ?_
      refine g_aload_n (q := 0) hC dX12_brings_17 rfl rfl rfl ?_
      refine g_getS (k := 38) hC cf_X12 (at_120 hL) (by decide) rfl (by decide) (by decide) wf_RX12_75 dX12_brings_18 ?_
      refine g_iload_n (q := 1) hC dX12_brings_21 rfl rfl ?_
      refine g_iald hC (at_137 hL) (by decide) dX12_brings_22 ?_
      refine g_iast hC (at_121 hL) (by decide) dX12_brings_23 (fun X3 => ?_)
      refine g_iinc (q := 1) hC dX12_brings_24 rfl (by decide) rfl ?_
      refine g_goto (tgt := 2) hC dX12_brings_27 (by decide) ?_
      refine g_sub [1, 0] rfl ?_
      exact ih (x1 + 1) X3
set_option maxRecDepth 20000 in
theorem k_X12_brings (l : Launch) (V : Ev) {L : List Kd} (hL : LKm L)  (X : Mem)  : Kt l V L yX12_brings (.code yX12_brings cX12_brings 2 none) 0 0 [vR V.1 120] rV X (f_X12_brings  X) := by
  refine kt_of (own := RX12) (lv0 := [(0, vR V.1 120)]) (by decide) rfl (Nat.le_of_ble_eq_true rfl) rfl (fun C hCl hC hR => ?_)
  subst hCl
  unfold f_X12_brings
  refine g_iconst (v := vI 0) hC dX12_brings_0 rfl ?_
  refine g_istore_n hC dX12_brings_1 rfl (by decide) rfl ?_
  refine g_sub [1, 0] rfl ?_
  exact gL_X12_brings_2 hC hR hL  KF 0 X
def B_X12_lieTo_34  (X : Mem) : Option (Int × Mem) :=
  cl (f_X12_refuse 1 X) fun r3 X4 =>
  some (r3, X4)
def B_X12_lieTo_174 (x5 : Int) (x8 : Int) (X : Mem) : Option (Int × Mem) :=
  cl (f_X12_brings X) fun _ X12 =>
  c2 x5 ((-1)) <| if ¬ x5 = ((-1)) then
    cl (f_X12_tellsBy x8 1000000 X12) fun r13 X14 =>
    cl (f_X12_gives x5 X14) fun r15 X16 =>
    some (r15, X16)
  else
    cl (f_X12_refuse 6 X12) fun r17 X18 =>
    some (r17, X18)
def B_X12_lieTo_168 (go75 : Int → Int → Int → Int → Int → Int → Int → Int → Mem → Option (Int × Mem)) (x1 : Int) (x2 : Int) (x3 : Int) (x4 : Int) (x5 : Int) (x6 : Int) (x8 : Int) (x10 : Int) (X : Mem) : Option (Int × Mem) :=
  go75 x1 x2 x3 x4 x5 x6 x8 (x10 + 1) X
def B_X12_lieTo_156 (go75 : Int → Int → Int → Int → Int → Int → Int → Int → Mem → Option (Int × Mem)) (x1 : Int) (x2 : Int) (x3 : Int) (x4 : Int) (x5 : Int) (x6 : Int) (x8 : Int) (x10 : Int) (X : Mem) : Option (Int × Mem) :=
  c2 x10 x3 <| if x3 ≤ x10 then
    B_X12_lieTo_168  go75 x1 x2 x3 x4 x5 x6 x8 x10 X
  else
    cl (f_X12_passDay ((-1)) 0 X) fun _ X24 =>
    B_X12_lieTo_168  go75 x1 x2 x3 x4 x5 x6 x8 x10 X24
def B_X12_lieTo_136 (go75 : Int → Int → Int → Int → Int → Int → Int → Int → Mem → Option (Int × Mem)) (x1 : Int) (x2 : Int) (x3 : Int) (x4 : Int) (x10 : Int) (x12 : Int) (X : Mem) : Option (Int × Mem) :=
  c1 x10 <|
  c1 x4 <|
  bd (x12 - (x10 * x4)) fun v25 =>
  B_X12_lieTo_156  go75 x1 x2 x3 x4 x10 v25 x12 x10 X
def B_X12_lieTo_106 (go75 : Int → Int → Int → Int → Int → Int → Int → Int → Mem → Option (Int × Mem)) (x1 : Int) (x2 : Int) (x3 : Int) (x4 : Int) (x5 : Int) (x6 : Int) (x8 : Int) (x10 : Int) (x11 : Int) (s0 : Int) (X : Mem) : Option (Int × Mem) :=
  c2 x11 ((-1)) <| if x11 = ((-1)) then
    B_X12_lieTo_156  go75 x1 x2 x3 x4 x5 x6 x8 x10 X
  else
    c2 x5 ((-1)) <| if x5 = ((-1)) then
      B_X12_lieTo_136  go75 x1 x2 x3 x4 x10 s0 X
    else
      c1 x10 <|
      c1 x4 <|
      d2 (s0 - (x10 * x4)) x6 <| if (s0 - (x10 * x4)) ≤ x6 then
        B_X12_lieTo_156  go75 x1 x2 x3 x4 x5 x6 x8 x10 X
      else
        B_X12_lieTo_136  go75 x1 x2 x3 x4 x10 s0 X
def L_X12_lieTo_75 : Nat → Int → Int → Int → Int → Int → Int → Int → Int → Mem → Option (Int × Mem)
  | 0, _, _, _, _, _, _, _, _, _ => none
  | n + 1, x1, x2, x3, x4, x5, x6, x8, x10, X =>
    c2 x10 x3 <| if x3 < x10 then
      B_X12_lieTo_174   x5 x8 X
    else
      cl (f_X12_surestOf x1 x2 X) fun r19 X20 =>
      c2 r19 ((-1)) <| if ¬ r19 = ((-1)) then
        cl (f_X12_partsOf 0 r19 X20) fun r21 X22 =>
        B_X12_lieTo_106  (fun x1 x2 x3 x4 x5 x6 x8 x10 X => L_X12_lieTo_75   n x1 x2 x3 x4 x5 x6 x8 x10 X) x1 x2 x3 x4 x5 x6 x8 x10 r19 r21 X22
      else
        B_X12_lieTo_106  (fun x1 x2 x3 x4 x5 x6 x8 x10 X => L_X12_lieTo_75   n x1 x2 x3 x4 x5 x6 x8 x10 X) x1 x2 x3 x4 x5 x6 x8 x10 r19 0 X20
def f_X12_lieTo (p1 : Int) (p2 : Int) (p3 : Int) (p4 : Int) (X : Mem) : Option (Int × Mem) :=
  cl (f_X12_areCells p1 p2 X) fun r1 X2 =>
  c1 r1 <| if r1 = 0 then
    B_X12_lieTo_34   X2
  else
    c1 p3 <|
    cl (f_X12_isFrom p3 0 9 X2) fun r5 X6 =>
    c1 r5 <| if r5 = 0 then
      B_X12_lieTo_34   X6
    else
      c1 p4 <|
      cl (f_X12_isFrom p4 0 999999 X6) fun r7 X8 =>
      c1 r7 <| if ¬ r7 = 0 then
        ax 2200 3 <|
        c2 ((X8 121 3) + p3) 99 <| if ((X8 121 3) + p3) ≤ 99 then
          cl (f_X12_keeps X8) fun _ X10 =>
          L_X12_lieTo_75   KF p1 p2 p3 p4 ((-1)) 0 0 0 X10
        else
          cl (f_X12_refuse 4 X8) fun r26 X27 =>
          some (r26, X27)
      else
        B_X12_lieTo_34   X8
set_option maxRecDepth 20000 in
theorem gB_X12_lieTo_34 {C : Cx} {V : Ev} {L : List Kd} (hC : Ok C V cX12_lieTo RX12 14 7 163) (hR : Rt C V L (some .int) rI) (hL : LKm L)  (X : Mem)  : G C V L 0 0 14 34 [(0, vR V.1 120)] [] X (B_X12_lieTo_34    X) := by
  unfold B_X12_lieTo_34
  refine g_aload_n (q := 0) hC dX12_lieTo_34 rfl rfl rfl ?_
  refine g_iconst (v := vI 1) hC dX12_lieTo_35 rfl ?_
  refine g_callVI (As := [vI 1]) hC mv_X12_refuse wml_RX12_185 (k_X12_refuse _ V hL 1 X) cf_X12 (at_120 hL) (by decide) ⟨Nat.zero_le _, Nat.zero_le _⟩ rfl rfl ⟨Nat.le_of_ble_eq_true rfl, Nat.le_of_ble_eq_true rfl⟩ (Nat.le_of_ble_eq_true rfl) dX12_lieTo_36 (fun r3 X4 => ?_)
  exact g_iret hC hR dX12_lieTo_39
set_option maxRecDepth 20000 in
theorem gB_X12_lieTo_174 {C : Cx} {V : Ev} {L : List Kd} (hC : Ok C V cX12_lieTo RX12 14 7 163) (hR : Rt C V L (some .int) rI) (hL : LKm L) (x5 : Int) (x8 : Int) (X : Mem)  : G C V L 0 0 14 174 [(0, vR V.1 120), (5, vI x5), (8, vJ x8)] [] X (B_X12_lieTo_174   x5 x8 X) := by
  unfold B_X12_lieTo_174
  refine g_aload_n (q := 0) hC dX12_lieTo_174 rfl rfl rfl ?_
  refine g_callVV (As := []) hC mv_X12_brings wml_RX12_444 (k_X12_brings _ V hL X) cf_X12 (at_120 hL) (by decide) ⟨Nat.zero_le _, Nat.zero_le _⟩ rfl rfl ⟨Nat.le_of_ble_eq_true rfl, Nat.le_of_ble_eq_true rfl⟩ (Nat.le_of_ble_eq_true rfl) dX12_lieTo_175 (fun _ X12 => ?_)
  refine g_iload (q := 1) hC dX12_lieTo_178 rfl ?_
  refine g_iconst (v := vI (-1)) hC dX12_lieTo_180 rfl ?_
  refine g_icmp_ne (tgt := 191) hC dX12_lieTo_181 (by decide) ?_ ?_
  · refine g_aload_n (q := 0) hC dX12_lieTo_191 rfl rfl rfl ?_
    refine g_lload (q := 2) hC dX12_lieTo_192 rfl ?_
    refine g_ldc2 (n := 1000000) hC wk_RX12_300 rfl dX12_lieTo_194 ?_
    refine g_callVI (As := [vJ x8, vJ 1000000]) hC mv_X12_tellsBy wml_RX12_312 (k_X12_tellsBy _ V hL x8 1000000 X12) cf_X12 (at_120 hL) (by decide) ⟨Nat.zero_le _, Nat.zero_le _⟩ rfl rfl ⟨Nat.le_of_ble_eq_true rfl, Nat.le_of_ble_eq_true rfl⟩ (Nat.le_of_ble_eq_true rfl) dX12_lieTo_197 (fun r13 X14 => ?_)
    refine g_pop hC dX12_lieTo_200 rfl ?_
    refine g_aload_n (q := 0) hC dX12_lieTo_201 rfl rfl rfl ?_
    refine g_iload (q := 1) hC dX12_lieTo_202 rfl ?_
    refine g_callVI (As := [vI x5]) hC mv_X12_gives wml_RX12_188 (k_X12_gives _ V hL x5 X14) cf_X12 (at_120 hL) (by decide) ⟨Nat.zero_le _, Nat.zero_le _⟩ rfl rfl ⟨Nat.le_of_ble_eq_true rfl, Nat.le_of_ble_eq_true rfl⟩ (Nat.le_of_ble_eq_true rfl) dX12_lieTo_204 (fun r15 X16 => ?_)
    exact g_iret hC hR dX12_lieTo_207
  · refine g_aload_n (q := 0) hC dX12_lieTo_184 rfl rfl rfl ?_
    refine g_bipush (v := vI 6) hC dX12_lieTo_185 rfl ?_
    refine g_callVI (As := [vI 6]) hC mv_X12_refuse wml_RX12_185 (k_X12_refuse _ V hL 6 X12) cf_X12 (at_120 hL) (by decide) ⟨Nat.zero_le _, Nat.zero_le _⟩ rfl rfl ⟨Nat.le_of_ble_eq_true rfl, Nat.le_of_ble_eq_true rfl⟩ (Nat.le_of_ble_eq_true rfl) dX12_lieTo_187 (fun r17 X18 => ?_)
    exact g_iret hC hR dX12_lieTo_190
set_option maxRecDepth 20000 in
theorem gB_X12_lieTo_168 {C : Cx} {V : Ev} {L : List Kd} (hC : Ok C V cX12_lieTo RX12 14 7 163) (hR : Rt C V L (some .int) rI) (hL : LKm L) {go75 : Int → Int → Int → Int → Int → Int → Int → Int → Mem → Option (Int × Mem)} (hgo75 : ∀ (x1 : Int) (x2 : Int) (x3 : Int) (x4 : Int) (x5 : Int) (x6 : Int) (x8 : Int) (x10 : Int) (X : Mem), G C V L 0 0 14 75 [(0, vR V.1 120), (1, vI x1), (2, vI x2), (3, vI x3), (4, vI x4), (5, vI x5), (6, vJ x6), (8, vJ x8), (10, vI x10)] [] X (go75 x1 x2 x3 x4 x5 x6 x8 x10 X)) (x1 : Int) (x2 : Int) (x3 : Int) (x4 : Int) (x5 : Int) (x6 : Int) (x8 : Int) (x10 : Int) (X : Mem)  : G C V L 0 0 14 168 [(0, vR V.1 120), (1, vI x1), (2, vI x2), (3, vI x3), (4, vI x4), (5, vI x5), (6, vJ x6), (8, vJ x8), (10, vI x10)] [] X (B_X12_lieTo_168  go75 x1 x2 x3 x4 x5 x6 x8 x10 X) := by
  unfold B_X12_lieTo_168
  refine g_iinc (q := 8) hC dX12_lieTo_168 rfl (by decide) rfl ?_
  refine g_goto (tgt := 75) hC dX12_lieTo_171 (by decide) ?_
  refine g_sub [1, 2, 3, 4, 5, 6, 7, 8, 0] rfl ?_
  exact hgo75 x1 x2 x3 x4 x5 x6 x8 (x10 + 1) X
set_option maxRecDepth 20000 in
theorem gB_X12_lieTo_156 {C : Cx} {V : Ev} {L : List Kd} (hC : Ok C V cX12_lieTo RX12 14 7 163) (hR : Rt C V L (some .int) rI) (hL : LKm L) {go75 : Int → Int → Int → Int → Int → Int → Int → Int → Mem → Option (Int × Mem)} (hgo75 : ∀ (x1 : Int) (x2 : Int) (x3 : Int) (x4 : Int) (x5 : Int) (x6 : Int) (x8 : Int) (x10 : Int) (X : Mem), G C V L 0 0 14 75 [(0, vR V.1 120), (1, vI x1), (2, vI x2), (3, vI x3), (4, vI x4), (5, vI x5), (6, vJ x6), (8, vJ x8), (10, vI x10)] [] X (go75 x1 x2 x3 x4 x5 x6 x8 x10 X)) (x1 : Int) (x2 : Int) (x3 : Int) (x4 : Int) (x5 : Int) (x6 : Int) (x8 : Int) (x10 : Int) (X : Mem)  : G C V L 0 0 14 156 [(0, vR V.1 120), (1, vI x1), (2, vI x2), (3, vI x3), (4, vI x4), (5, vI x5), (6, vJ x6), (8, vJ x8), (10, vI x10)] [] X (B_X12_lieTo_156  go75 x1 x2 x3 x4 x5 x6 x8 x10 X) := by
  unfold B_X12_lieTo_156
  refine g_iload (q := 8) hC dX12_lieTo_156 rfl ?_
  refine g_iload_n (q := 3) hC dX12_lieTo_158 rfl rfl ?_
  refine g_icmp_ge (tgt := 168) hC dX12_lieTo_159 (by decide) ?_ ?_
  · exact gB_X12_lieTo_168 hC hR hL hgo75 x1 x2 x3 x4 x5 x6 x8 x10 X
  · refine g_aload_n (q := 0) hC dX12_lieTo_162 rfl rfl rfl ?_
    refine g_iconst (v := vI (-1)) hC dX12_lieTo_163 rfl ?_
    refine g_iconst (v := vI 0) hC dX12_lieTo_164 rfl ?_
    refine g_callVV (As := [vI ((-1)), vI 0]) hC mv_X12_passDay wml_RX12_318 (k_X12_passDay _ V hL ((-1)) 0 X) cf_X12 (at_120 hL) (by decide) ⟨Nat.zero_le _, Nat.zero_le _⟩ rfl rfl ⟨Nat.le_of_ble_eq_true rfl, Nat.le_of_ble_eq_true rfl⟩ (Nat.le_of_ble_eq_true rfl) dX12_lieTo_165 (fun _ X24 => ?_)
    exact gB_X12_lieTo_168 hC hR hL hgo75 x1 x2 x3 x4 x5 x6 x8 x10 X24
set_option maxRecDepth 20000 in
theorem gB_X12_lieTo_136 {C : Cx} {V : Ev} {L : List Kd} (hC : Ok C V cX12_lieTo RX12 14 7 163) (hR : Rt C V L (some .int) rI) (hL : LKm L) {go75 : Int → Int → Int → Int → Int → Int → Int → Int → Mem → Option (Int × Mem)} (hgo75 : ∀ (x1 : Int) (x2 : Int) (x3 : Int) (x4 : Int) (x5 : Int) (x6 : Int) (x8 : Int) (x10 : Int) (X : Mem), G C V L 0 0 14 75 [(0, vR V.1 120), (1, vI x1), (2, vI x2), (3, vI x3), (4, vI x4), (5, vI x5), (6, vJ x6), (8, vJ x8), (10, vI x10)] [] X (go75 x1 x2 x3 x4 x5 x6 x8 x10 X)) (x1 : Int) (x2 : Int) (x3 : Int) (x4 : Int) (x10 : Int) (x12 : Int) (X : Mem)  : G C V L 0 0 14 136 [(0, vR V.1 120), (1, vI x1), (2, vI x2), (3, vI x3), (4, vI x4), (10, vI x10), (12, vJ x12)] [] X (B_X12_lieTo_136  go75 x1 x2 x3 x4 x10 x12 X) := by
  unfold B_X12_lieTo_136
  refine g_iload (q := 5) hC dX12_lieTo_136 rfl ?_
  refine g_istore hC dX12_lieTo_138 (by decide) rfl ?_
  refine g_lload (q := 7) hC dX12_lieTo_140 rfl ?_
  refine g_iload (q := 6) hC dX12_lieTo_142 rfl ?_
  refine g_i2l hC dX12_lieTo_144 ?_
  refine g_iload (q := 5) hC dX12_lieTo_145 rfl ?_
  refine g_i2l hC dX12_lieTo_147 ?_
  refine g_lmul hC dX12_lieTo_148 ?_
  refine g_lsub hC dX12_lieTo_149 ?_
  refine g_topJ (fun v25 => ?_)
  refine g_lstore hC dX12_lieTo_150 (by decide) rfl ?_
  refine g_lload (q := 8) hC dX12_lieTo_152 rfl ?_
  refine g_lstore hC dX12_lieTo_154 (by decide) rfl ?_
  refine g_sub [3, 4, 5, 6, 7, 2, 1, 0, 8] rfl ?_
  exact gB_X12_lieTo_156 hC hR hL hgo75 x1 x2 x3 x4 x10 v25 x12 x10 X
set_option maxRecDepth 20000 in
theorem gB_X12_lieTo_106 {C : Cx} {V : Ev} {L : List Kd} (hC : Ok C V cX12_lieTo RX12 14 7 163) (hR : Rt C V L (some .int) rI) (hL : LKm L) {go75 : Int → Int → Int → Int → Int → Int → Int → Int → Mem → Option (Int × Mem)} (hgo75 : ∀ (x1 : Int) (x2 : Int) (x3 : Int) (x4 : Int) (x5 : Int) (x6 : Int) (x8 : Int) (x10 : Int) (X : Mem), G C V L 0 0 14 75 [(0, vR V.1 120), (1, vI x1), (2, vI x2), (3, vI x3), (4, vI x4), (5, vI x5), (6, vJ x6), (8, vJ x8), (10, vI x10)] [] X (go75 x1 x2 x3 x4 x5 x6 x8 x10 X)) (x1 : Int) (x2 : Int) (x3 : Int) (x4 : Int) (x5 : Int) (x6 : Int) (x8 : Int) (x10 : Int) (x11 : Int) (s0 : Int) (X : Mem)  : G C V L 0 0 14 106 [(0, vR V.1 120), (1, vI x1), (2, vI x2), (3, vI x3), (4, vI x4), (5, vI x5), (6, vJ x6), (8, vJ x8), (10, vI x10), (11, vI x11)] [vJ s0] X (B_X12_lieTo_106  go75 x1 x2 x3 x4 x5 x6 x8 x10 x11 s0 X) := by
  unfold B_X12_lieTo_106
  refine g_lstore hC dX12_lieTo_106 (by decide) rfl ?_
  refine g_iload (q := 10) hC dX12_lieTo_108 rfl ?_
  refine g_iconst (v := vI (-1)) hC dX12_lieTo_110 rfl ?_
  refine g_icmp_eq (tgt := 156) hC dX12_lieTo_111 (by decide) ?_ ?_
  · refine g_sub [1, 2, 3, 4, 5, 6, 7, 8, 9] rfl ?_
    exact gB_X12_lieTo_156 hC hR hL hgo75 x1 x2 x3 x4 x5 x6 x8 x10 X
  · refine g_iload (q := 6) hC dX12_lieTo_114 rfl ?_
    refine g_iconst (v := vI (-1)) hC dX12_lieTo_116 rfl ?_
    refine g_icmp_eq (tgt := 136) hC dX12_lieTo_117 (by decide) ?_ ?_
    · refine g_sub [1, 2, 3, 4, 5, 9, 0] rfl ?_
      exact gB_X12_lieTo_136 hC hR hL hgo75 x1 x2 x3 x4 x10 s0 X
    · refine g_lload (q := 0) hC dX12_lieTo_120 rfl ?_
      refine g_iload (q := 9) hC dX12_lieTo_122 rfl ?_
      refine g_i2l hC dX12_lieTo_124 ?_
      refine g_iload (q := 5) hC dX12_lieTo_125 rfl ?_
      refine g_i2l hC dX12_lieTo_127 ?_
      refine g_lmul hC dX12_lieTo_128 ?_
      refine g_lsub hC dX12_lieTo_129 ?_
      refine g_lload (q := 7) hC dX12_lieTo_130 rfl ?_
      refine g_lcmp_le (tgt := 156) hC dX12_lieTo_132 rfl dX12_lieTo_133 (by decide) ?_ ?_
      · refine g_sub [1, 2, 3, 4, 5, 6, 7, 8, 9] rfl ?_
        exact gB_X12_lieTo_156 hC hR hL hgo75 x1 x2 x3 x4 x5 x6 x8 x10 X
      · refine g_sub [1, 2, 3, 4, 5, 9, 0] rfl ?_
        exact gB_X12_lieTo_136 hC hR hL hgo75 x1 x2 x3 x4 x10 s0 X
set_option maxRecDepth 20000 in
theorem gL_X12_lieTo_75 {C : Cx} {V : Ev} {L : List Kd} (hC : Ok C V cX12_lieTo RX12 14 7 163) (hR : Rt C V L (some .int) rI) (hL : LKm L) : ∀ (n : Nat) (x1 : Int) (x2 : Int) (x3 : Int) (x4 : Int) (x5 : Int) (x6 : Int) (x8 : Int) (x10 : Int) (X : Mem), G C V L 0 0 14 75 [(0, vR V.1 120), (1, vI x1), (2, vI x2), (3, vI x3), (4, vI x4), (5, vI x5), (6, vJ x6), (8, vJ x8), (10, vI x10)] [] X (L_X12_lieTo_75   n x1 x2 x3 x4 x5 x6 x8 x10 X) := by
  intro n
  induction n with
  | zero => intro x1 x2 x3 x4 x5 x6 x8 x10 X; exact g_none
  | succ n ih =>
    intro x1 x2 x3 x4 x5 x6 x8 x10 X
    rw [L_X12_lieTo_75]
    refine g_iload (q := 8) hC dX12_lieTo_75 rfl ?_
    refine g_iload_n (q := 3) hC dX12_lieTo_77 rfl rfl ?_
    refine g_icmp_gt (tgt := 174) hC dX12_lieTo_78 (by decide) ?_ ?_
    · refine g_sub [0, 5, 7] rfl ?_
      exact gB_X12_lieTo_174 hC hR hL  x5 x8 X
    · refine g_aload_n (q := 0) hC dX12_lieTo_81 rfl rfl rfl ?_
      refine g_iload_n (q := 1) hC dX12_lieTo_82 rfl rfl ?_
      refine g_iload_n (q := 2) hC dX12_lieTo_83 rfl rfl ?_
      refine g_callVI (As := [vI x1, vI x2]) hC mv_X12_surestOf wml_RX12_381 (k_X12_surestOf _ V hL x1 x2 X) cf_X12 (at_120 hL) (by decide) ⟨Nat.zero_le _, Nat.zero_le _⟩ rfl rfl ⟨Nat.le_of_ble_eq_true rfl, Nat.le_of_ble_eq_true rfl⟩ (Nat.le_of_ble_eq_true rfl) dX12_lieTo_84 (fun r19 X20 => ?_)
      refine g_istore hC dX12_lieTo_87 (by decide) rfl ?_
      refine g_iload (q := 0) hC dX12_lieTo_89 rfl ?_
      refine g_iconst (v := vI (-1)) hC dX12_lieTo_91 rfl ?_
      refine g_icmp_ne (tgt := 99) hC dX12_lieTo_92 (by decide) ?_ ?_
      · refine g_aload_n (q := 1) hC dX12_lieTo_99 rfl rfl rfl ?_
        refine g_iconst (v := vI 0) hC dX12_lieTo_100 rfl ?_
        refine g_iload (q := 0) hC dX12_lieTo_101 rfl ?_
        refine g_callVJ (As := [vI 0, vI r19]) hC mv_X12_partsOf wml_RX12_308 (k_X12_partsOf _ V hL 0 r19 X20) cf_X12 (at_120 hL) (by decide) ⟨Nat.zero_le _, Nat.zero_le _⟩ rfl rfl ⟨Nat.le_of_ble_eq_true rfl, Nat.le_of_ble_eq_true rfl⟩ (Nat.le_of_ble_eq_true rfl) dX12_lieTo_103 (fun r21 X22 => ?_)
        refine g_sub [1, 2, 3, 4, 5, 6, 7, 8, 9, 0] rfl ?_
        exact gB_X12_lieTo_106 hC hR hL ih x1 x2 x3 x4 x5 x6 x8 x10 r19 r21 X22
      · refine g_lconst (v := vJ 0) hC dX12_lieTo_95 rfl ?_
        refine g_goto (tgt := 106) hC dX12_lieTo_96 (by decide) ?_
        refine g_sub [1, 2, 3, 4, 5, 6, 7, 8, 9, 0] rfl ?_
        exact gB_X12_lieTo_106 hC hR hL ih x1 x2 x3 x4 x5 x6 x8 x10 r19 0 X20
set_option maxRecDepth 20000 in
theorem k_X12_lieTo (l : Launch) (V : Ev) {L : List Kd} (hL : LKm L) (p1 : Int) (p2 : Int) (p3 : Int) (p4 : Int) (X : Mem)  : Kt l V L yX12_lieTo (.code yX12_lieTo cX12_lieTo 14 (some .int)) 7 163 [vR V.1 120, vI p1, vI p2, vI p3, vI p4] rI X (f_X12_lieTo p1 p2 p3 p4 X) := by
  refine kt_of (own := RX12) (lv0 := [(0, vR V.1 120), (1, vI p1), (2, vI p2), (3, vI p3), (4, vI p4)]) (by decide) rfl (Nat.le_of_ble_eq_true rfl) rfl (fun C hCl hC hR => ?_)
  subst hCl
  unfold f_X12_lieTo
  refine g_aload_n (q := 0) hC dX12_lieTo_0 rfl rfl rfl ?_
  refine g_iload_n (q := 1) hC dX12_lieTo_1 rfl rfl ?_
  refine g_iload_n (q := 2) hC dX12_lieTo_2 rfl rfl ?_
  refine g_callVI (As := [vI p1, vI p2]) hC mv_X12_areCells wml_RX12_378 (k_X12_areCells _ V hL p1 p2 X) cf_X12 (at_120 hL) (by decide) ⟨Nat.zero_le _, Nat.zero_le _⟩ rfl rfl ⟨Nat.le_of_ble_eq_true rfl, Nat.le_of_ble_eq_true rfl⟩ (Nat.le_of_ble_eq_true rfl) dX12_lieTo_3 (fun r1 X2 => ?_)
  refine g_if_eq (tgt := 34) hC dX12_lieTo_6 (by decide) ?_ ?_
  · refine g_sub [0] rfl ?_
    exact gB_X12_lieTo_34 hC hR hL  X2
  · refine g_iload_n (q := 3) hC dX12_lieTo_9 rfl rfl ?_
    refine g_i2l hC dX12_lieTo_10 ?_
    refine g_lconst (v := vJ 0) hC dX12_lieTo_11 rfl ?_
    refine g_ldc2 (n := 9) hC wk_RX12_316 rfl dX12_lieTo_12 ?_
    refine g_callSI (As := [vJ p3, vJ 0, vJ 9]) hC mt_X12_isFrom wml_RX12_281 (k_X12_isFrom _ V hL p3 0 9 X2) ⟨Nat.zero_le _, Nat.zero_le _⟩ rfl rfl ⟨Nat.le_of_ble_eq_true rfl, Nat.le_of_ble_eq_true rfl⟩ (Nat.le_of_ble_eq_true rfl) dX12_lieTo_15 (fun r5 X6 => ?_)
    refine g_if_eq (tgt := 34) hC dX12_lieTo_18 (by decide) ?_ ?_
    · refine g_sub [0] rfl ?_
      exact gB_X12_lieTo_34 hC hR hL  X6
    · refine g_iload (q := 4) hC dX12_lieTo_21 rfl ?_
      refine g_i2l hC dX12_lieTo_23 ?_
      refine g_lconst (v := vJ 0) hC dX12_lieTo_24 rfl ?_
      refine g_ldc2 (n := 999999) hC wk_RX12_439 rfl dX12_lieTo_25 ?_
      refine g_callSI (As := [vJ p4, vJ 0, vJ 999999]) hC mt_X12_isFrom wml_RX12_281 (k_X12_isFrom _ V hL p4 0 999999 X6) ⟨Nat.zero_le _, Nat.zero_le _⟩ rfl rfl ⟨Nat.le_of_ble_eq_true rfl, Nat.le_of_ble_eq_true rfl⟩ (Nat.le_of_ble_eq_true rfl) dX12_lieTo_28 (fun r7 X8 => ?_)
      refine g_if_ne (tgt := 40) hC dX12_lieTo_31 (by decide) ?_ ?_
      · refine g_aload_n (q := 0) hC dX12_lieTo_40 rfl rfl rfl ?_
        refine g_getS (k := 0) hC cf_X12 (at_120 hL) (by decide) rfl (by decide) (by decide) wf_RX12_7 dX12_lieTo_41 ?_
        refine g_iconst (v := vI 3) hC dX12_lieTo_44 rfl ?_
        refine g_iald hC (at_121 hL) (by decide) dX12_lieTo_45 ?_
        refine g_iload_n (q := 3) hC dX12_lieTo_46 rfl rfl ?_
        refine g_iadd hC dX12_lieTo_47 ?_
        refine g_bipush (v := vI 99) hC dX12_lieTo_48 rfl ?_
        refine g_icmp_le (tgt := 59) hC dX12_lieTo_50 (by decide) ?_ ?_
        · refine g_aload_n (q := 0) hC dX12_lieTo_59 rfl rfl rfl ?_
          refine g_callVV (As := []) hC mv_X12_keeps wml_RX12_441 (k_X12_keeps _ V hL X8) cf_X12 (at_120 hL) (by decide) ⟨Nat.zero_le _, Nat.zero_le _⟩ rfl rfl ⟨Nat.le_of_ble_eq_true rfl, Nat.le_of_ble_eq_true rfl⟩ (Nat.le_of_ble_eq_true rfl) dX12_lieTo_60 (fun _ X10 => ?_)
          refine g_iconst (v := vI (-1)) hC dX12_lieTo_63 rfl ?_
          refine g_istore hC dX12_lieTo_64 (by decide) rfl ?_
          refine g_lconst (v := vJ 0) hC dX12_lieTo_66 rfl ?_
          refine g_lstore hC dX12_lieTo_67 (by decide) rfl ?_
          refine g_lconst (v := vJ 0) hC dX12_lieTo_69 rfl ?_
          refine g_lstore hC dX12_lieTo_70 (by decide) rfl ?_
          refine g_iconst (v := vI 0) hC dX12_lieTo_72 rfl ?_
          refine g_istore hC dX12_lieTo_73 (by decide) rfl ?_
          refine g_sub [4, 5, 6, 7, 8, 3, 2, 1, 0] rfl ?_
          exact gL_X12_lieTo_75 hC hR hL  KF p1 p2 p3 p4 ((-1)) 0 0 0 X10
        · refine g_aload_n (q := 0) hC dX12_lieTo_53 rfl rfl rfl ?_
          refine g_iconst (v := vI 4) hC dX12_lieTo_54 rfl ?_
          refine g_callVI (As := [vI 4]) hC mv_X12_refuse wml_RX12_185 (k_X12_refuse _ V hL 4 X8) cf_X12 (at_120 hL) (by decide) ⟨Nat.zero_le _, Nat.zero_le _⟩ rfl rfl ⟨Nat.le_of_ble_eq_true rfl, Nat.le_of_ble_eq_true rfl⟩ (Nat.le_of_ble_eq_true rfl) dX12_lieTo_55 (fun r26 X27 => ?_)
          exact g_iret hC hR dX12_lieTo_58
      · refine g_sub [0] rfl ?_
        exact gB_X12_lieTo_34 hC hR hL  X8
def L_X12_bits_4 : Nat → Int → Int → Mem → Option (Int × Mem)
  | 0, _, _, _ => none
  | n + 1, x1, x2, X =>
    c1 x2 <| if x2 = 0 then
      some (x1, X)
    else
      bd (ia x2 (x2 - 1)) fun v1 =>
      L_X12_bits_4   n (x1 + 1) v1 X
def f_X12_bits (p1 : Int) (X : Mem) : Option (Int × Mem) :=
  L_X12_bits_4   KF 0 p1 X
set_option maxRecDepth 20000 in
theorem gL_X12_bits_4 {C : Cx} {V : Ev} {L : List Kd} (hC : Ok C V cX12_bits RX12 3 0 0) (hR : Rt C V L (some .int) rI) (hL : LKm L) : ∀ (n : Nat) (x1 : Int) (x2 : Int) (X : Mem), G C V L 0 0 3 4 [(1, vI x1), (2, vI x2)] [] X (L_X12_bits_4   n x1 x2 X) := by
  intro n
  induction n with
  | zero => intro x1 x2 X; exact g_none
  | succ n ih =>
    intro x1 x2 X
    rw [L_X12_bits_4]
    refine g_iload_n (q := 1) hC dX12_bits_4 rfl rfl ?_
    refine g_if_eq (tgt := 20) hC dX12_bits_5 (by decide) ?_ ?_
    · refine g_iload_n (q := 0) hC dX12_bits_20 rfl rfl ?_
      exact g_iret hC hR dX12_bits_21
    · refine g_iinc (q := 0) hC dX12_bits_8 rfl (by decide) rfl ?_
      refine g_iload_n (q := 1) hC dX12_bits_11 rfl rfl ?_
      refine g_iload_n (q := 1) hC dX12_bits_12 rfl rfl ?_
      refine g_iconst (v := vI 1) hC dX12_bits_13 rfl ?_
      refine g_isub hC dX12_bits_14 ?_
      refine g_iand hC dX12_bits_15 ?_
      refine g_topI (fun v1 => ?_)
      refine g_istore_n hC dX12_bits_16 rfl (by decide) rfl ?_
      refine g_goto (tgt := 4) hC dX12_bits_17 (by decide) ?_
      refine g_sub [1, 0] rfl ?_
      exact ih (x1 + 1) v1 X
set_option maxRecDepth 20000 in
theorem k_X12_bits (l : Launch) (V : Ev) {L : List Kd} (hL : LKm L) (p1 : Int) (X : Mem)  : Kt l V L yX12_bits (.code yX12_bits cX12_bits 3 (some .int)) 0 0 [vI p1] rI X (f_X12_bits p1 X) := by
  refine kt_of (own := RX12) (lv0 := [(0, vI p1)]) (by decide) rfl (Nat.le_of_ble_eq_true rfl) rfl (fun C hCl hC hR => ?_)
  subst hCl
  unfold f_X12_bits
  refine g_iconst (v := vI 0) hC dX12_bits_0 rfl ?_
  refine g_istore_n hC dX12_bits_1 rfl (by decide) rfl ?_
  refine g_iload_n (q := 1) hC dX12_bits_2 rfl rfl ?_
  refine g_istore_n hC dX12_bits_3 rfl (by decide) rfl ?_
  refine g_sub [1, 0] rfl ?_
  exact gL_X12_bits_4 hC hR hL  KF 0 p1 X
def B_X12_markedBy_85 (go5 : Int → Int → Int → Mem → Option (Int × Mem)) (x1 : Int) (x2 : Int) (x4 : Int) (X : Mem) : Option (Int × Mem) :=
  go5 x1 x2 (x4 + 1) X
def B_X12_markedBy_80 (go5 : Int → Int → Int → Mem → Option (Int × Mem)) (x1 : Int) (x2 : Int) (x4 : Int) (x5 : Int) (X : Mem) : Option (Int × Mem) :=
  bd (x2 + x5) fun v5 =>
  B_X12_markedBy_85  go5 x1 v5 x4 X
def B_X12_markedBy_74 (go5 : Int → Int → Int → Mem → Option (Int × Mem)) (go32 : Int → Int → Int → Int → Int → Mem → Option (Int × Mem)) (x1 : Int) (x2 : Int) (x4 : Int) (x5 : Int) (x7 : Int) (X : Mem) : Option (Int × Mem) :=
  go32 x1 x2 x4 x5 (x7 + 1) X
def L_X12_markedBy_32 (go5 : Int → Int → Int → Mem → Option (Int × Mem)) : Nat → Int → Int → Int → Int → Int → Mem → Option (Int × Mem)
  | 0, _, _, _, _, _, _ => none
  | n + 1, x1, x2, x4, x5, x7, X =>
    cl (f_X12_sets X) fun r3 X4 =>
    c2 x7 r3 <| if r3 ≤ x7 then
      B_X12_markedBy_80  go5 x1 x2 x4 x5 X4
    else
      ax 32 x7 <|
      c2 (X4 134 x7) ((-1)) <| if (X4 134 x7) = ((-1)) then
        B_X12_markedBy_74  go5 (fun x1 x2 x4 x5 x7 X => L_X12_markedBy_32  go5 n x1 x2 x4 x5 x7 X) x1 x2 x4 x5 x7 X4
      else
        cl (f_X12_partsOf x4 (io x7 (ia x1 (ix x4 ((-1))))) X4) fun r6 X7 =>
        d2 x5 r6 <|
        bd (max x5 r6) fun v8 =>
        B_X12_markedBy_74  go5 (fun x1 x2 x4 x5 x7 X => L_X12_markedBy_32  go5 n x1 x2 x4 x5 x7 X) x1 x2 x4 v8 x7 X7
def L_X12_markedBy_5 : Nat → Int → Int → Int → Mem → Option (Int × Mem)
  | 0, _, _, _, _ => none
  | n + 1, x1, x2, x4, X =>
    cl (f_X12_sets X) fun r1 X2 =>
    c2 x4 r1 <| if r1 ≤ x4 then
      some (x2, X2)
    else
      c1 (ia x4 (ix x1 ((-1)))) <| if (ia x4 (ix x1 ((-1)))) = 0 then
        L_X12_markedBy_32  (fun x1 x2 x4 X => L_X12_markedBy_5   n x1 x2 x4 X) KF x1 x2 x4 0 0 X2
      else
        B_X12_markedBy_85  (fun x1 x2 x4 X => L_X12_markedBy_5   n x1 x2 x4 X) x1 x2 x4 X2
def f_X12_markedBy (p1 : Int) (X : Mem) : Option (Int × Mem) :=
  L_X12_markedBy_5   KF p1 0 0 X
set_option maxRecDepth 20000 in
theorem gB_X12_markedBy_85 {C : Cx} {V : Ev} {L : List Kd} (hC : Ok C V cX12_markedBy RX12 8 2 45) (hR : Rt C V L (some .long) rJ) (hL : LKm L) {go5 : Int → Int → Int → Mem → Option (Int × Mem)} (hgo5 : ∀ (x1 : Int) (x2 : Int) (x4 : Int) (X : Mem), G C V L 0 0 8 5 [(0, vR V.1 120), (1, vI x1), (2, vJ x2), (4, vI x4)] [] X (go5 x1 x2 x4 X)) (x1 : Int) (x2 : Int) (x4 : Int) (X : Mem)  : G C V L 0 0 8 85 [(0, vR V.1 120), (1, vI x1), (2, vJ x2), (4, vI x4)] [] X (B_X12_markedBy_85  go5 x1 x2 x4 X) := by
  unfold B_X12_markedBy_85
  refine g_iinc (q := 3) hC dX12_markedBy_85 rfl (by decide) rfl ?_
  refine g_goto (tgt := 5) hC dX12_markedBy_88 (by decide) ?_
  refine g_sub [1, 2, 3, 0] rfl ?_
  exact hgo5 x1 x2 (x4 + 1) X
set_option maxRecDepth 20000 in
theorem gB_X12_markedBy_80 {C : Cx} {V : Ev} {L : List Kd} (hC : Ok C V cX12_markedBy RX12 8 2 45) (hR : Rt C V L (some .long) rJ) (hL : LKm L) {go5 : Int → Int → Int → Mem → Option (Int × Mem)} (hgo5 : ∀ (x1 : Int) (x2 : Int) (x4 : Int) (X : Mem), G C V L 0 0 8 5 [(0, vR V.1 120), (1, vI x1), (2, vJ x2), (4, vI x4)] [] X (go5 x1 x2 x4 X)) (x1 : Int) (x2 : Int) (x4 : Int) (x5 : Int) (X : Mem)  : G C V L 0 0 8 80 [(0, vR V.1 120), (1, vI x1), (2, vJ x2), (4, vI x4), (5, vJ x5)] [] X (B_X12_markedBy_80  go5 x1 x2 x4 x5 X) := by
  unfold B_X12_markedBy_80
  refine g_lload_n (q := 2) hC dX12_markedBy_80 rfl rfl ?_
  refine g_lload (q := 4) hC dX12_markedBy_81 rfl ?_
  refine g_ladd hC dX12_markedBy_83 ?_
  refine g_topJ (fun v5 => ?_)
  refine g_lstore_n hC dX12_markedBy_84 rfl (by decide) rfl ?_
  refine g_sub [1, 2, 0, 3] rfl ?_
  exact gB_X12_markedBy_85 hC hR hL hgo5 x1 v5 x4 X
set_option maxRecDepth 20000 in
theorem gB_X12_markedBy_74 {C : Cx} {V : Ev} {L : List Kd} (hC : Ok C V cX12_markedBy RX12 8 2 45) (hR : Rt C V L (some .long) rJ) (hL : LKm L) {go5 : Int → Int → Int → Mem → Option (Int × Mem)} {go32 : Int → Int → Int → Int → Int → Mem → Option (Int × Mem)} (hgo5 : ∀ (x1 : Int) (x2 : Int) (x4 : Int) (X : Mem), G C V L 0 0 8 5 [(0, vR V.1 120), (1, vI x1), (2, vJ x2), (4, vI x4)] [] X (go5 x1 x2 x4 X)) (hgo32 : ∀ (x1 : Int) (x2 : Int) (x4 : Int) (x5 : Int) (x7 : Int) (X : Mem), G C V L 0 0 8 32 [(0, vR V.1 120), (1, vI x1), (2, vJ x2), (4, vI x4), (5, vJ x5), (7, vI x7)] [] X (go32 x1 x2 x4 x5 x7 X)) (x1 : Int) (x2 : Int) (x4 : Int) (x5 : Int) (x7 : Int) (X : Mem)  : G C V L 0 0 8 74 [(0, vR V.1 120), (1, vI x1), (2, vJ x2), (4, vI x4), (5, vJ x5), (7, vI x7)] [] X (B_X12_markedBy_74  go5 go32 x1 x2 x4 x5 x7 X) := by
  unfold B_X12_markedBy_74
  refine g_iinc (q := 5) hC dX12_markedBy_74 rfl (by decide) rfl ?_
  refine g_goto (tgt := 32) hC dX12_markedBy_77 (by decide) ?_
  refine g_sub [1, 2, 3, 4, 5, 0] rfl ?_
  exact hgo32 x1 x2 x4 x5 (x7 + 1) X
set_option maxRecDepth 20000 in
theorem gL_X12_markedBy_32 {C : Cx} {V : Ev} {L : List Kd} (hC : Ok C V cX12_markedBy RX12 8 2 45) (hR : Rt C V L (some .long) rJ) (hL : LKm L) {go5 : Int → Int → Int → Mem → Option (Int × Mem)} (hgo5 : ∀ (x1 : Int) (x2 : Int) (x4 : Int) (X : Mem), G C V L 0 0 8 5 [(0, vR V.1 120), (1, vI x1), (2, vJ x2), (4, vI x4)] [] X (go5 x1 x2 x4 X)) : ∀ (n : Nat) (x1 : Int) (x2 : Int) (x4 : Int) (x5 : Int) (x7 : Int) (X : Mem), G C V L 0 0 8 32 [(0, vR V.1 120), (1, vI x1), (2, vJ x2), (4, vI x4), (5, vJ x5), (7, vI x7)] [] X (L_X12_markedBy_32  go5 n x1 x2 x4 x5 x7 X) := by
  intro n
  induction n with
  | zero => intro x1 x2 x4 x5 x7 X; exact g_none
  | succ n ih =>
    intro x1 x2 x4 x5 x7 X
    rw [L_X12_markedBy_32]
    refine g_iload (q := 5) hC dX12_markedBy_32 rfl ?_
    refine g_aload_n (q := 0) hC dX12_markedBy_34 rfl rfl rfl ?_
    refine g_callVI (As := []) hC mv_X12_sets wml_RX12_263 (k_X12_sets _ V hL X) cf_X12 (at_120 hL) (by decide) ⟨Nat.zero_le _, Nat.zero_le _⟩ rfl rfl ⟨Nat.le_of_ble_eq_true rfl, Nat.le_of_ble_eq_true rfl⟩ (Nat.le_of_ble_eq_true rfl) dX12_markedBy_35 (fun r3 X4 => ?_)
    refine g_icmp_ge (tgt := 80) hC dX12_markedBy_38 (by decide) ?_ ?_
    · refine g_sub [0, 1, 2, 3, 4] rfl ?_
      exact gB_X12_markedBy_80 hC hR hL hgo5 x1 x2 x4 x5 X4
    · refine g_aload_n (q := 0) hC dX12_markedBy_41 rfl rfl rfl ?_
      refine g_getS (k := 30) hC cf_X12 (at_120 hL) (by decide) rfl (by decide) (by decide) wf_RX12_63 dX12_markedBy_42 ?_
      refine g_iload (q := 5) hC dX12_markedBy_45 rfl ?_
      refine g_iald hC (at_134 hL) (by decide) dX12_markedBy_47 ?_
      refine g_iconst (v := vI (-1)) hC dX12_markedBy_48 rfl ?_
      refine g_icmp_eq (tgt := 74) hC dX12_markedBy_49 (by decide) ?_ ?_
      · exact gB_X12_markedBy_74 hC hR hL hgo5 ih x1 x2 x4 x5 x7 X4
      · refine g_lload (q := 4) hC dX12_markedBy_52 rfl ?_
        refine g_aload_n (q := 0) hC dX12_markedBy_54 rfl rfl rfl ?_
        refine g_iload (q := 3) hC dX12_markedBy_55 rfl ?_
        refine g_iload (q := 5) hC dX12_markedBy_57 rfl ?_
        refine g_iload_n (q := 1) hC dX12_markedBy_59 rfl rfl ?_
        refine g_iload (q := 3) hC dX12_markedBy_60 rfl ?_
        refine g_iconst (v := vI (-1)) hC dX12_markedBy_62 rfl ?_
        refine g_ixor hC dX12_markedBy_63 ?_
        refine g_iand hC dX12_markedBy_64 ?_
        refine g_ior hC dX12_markedBy_65 ?_
        refine g_callVJ (As := [vI x4, vI (io x7 (ia x1 (ix x4 ((-1)))))]) hC mv_X12_partsOf wml_RX12_308 (k_X12_partsOf _ V hL x4 (io x7 (ia x1 (ix x4 ((-1))))) X4) cf_X12 (at_120 hL) (by decide) ⟨Nat.zero_le _, Nat.zero_le _⟩ rfl rfl ⟨Nat.le_of_ble_eq_true rfl, Nat.le_of_ble_eq_true rfl⟩ (Nat.le_of_ble_eq_true rfl) dX12_markedBy_66 (fun r6 X7 => ?_)
        refine g_maxl hC wml_RX12_388 (Nat.le_of_ble_eq_true rfl) (Nat.le_of_ble_eq_true rfl) ⟨Nat.zero_le _, Nat.zero_le _⟩ dX12_markedBy_69 ?_
        refine g_topJ (fun v8 => ?_)
        refine g_lstore hC dX12_markedBy_72 (by decide) rfl ?_
        refine g_sub [1, 2, 3, 4, 0, 5] rfl ?_
        exact gB_X12_markedBy_74 hC hR hL hgo5 ih x1 x2 x4 v8 x7 X7
set_option maxRecDepth 20000 in
theorem gL_X12_markedBy_5 {C : Cx} {V : Ev} {L : List Kd} (hC : Ok C V cX12_markedBy RX12 8 2 45) (hR : Rt C V L (some .long) rJ) (hL : LKm L) : ∀ (n : Nat) (x1 : Int) (x2 : Int) (x4 : Int) (X : Mem), G C V L 0 0 8 5 [(0, vR V.1 120), (1, vI x1), (2, vJ x2), (4, vI x4)] [] X (L_X12_markedBy_5   n x1 x2 x4 X) := by
  intro n
  induction n with
  | zero => intro x1 x2 x4 X; exact g_none
  | succ n ih =>
    intro x1 x2 x4 X
    rw [L_X12_markedBy_5]
    refine g_iload (q := 3) hC dX12_markedBy_5 rfl ?_
    refine g_aload_n (q := 0) hC dX12_markedBy_7 rfl rfl rfl ?_
    refine g_callVI (As := []) hC mv_X12_sets wml_RX12_263 (k_X12_sets _ V hL X) cf_X12 (at_120 hL) (by decide) ⟨Nat.zero_le _, Nat.zero_le _⟩ rfl rfl ⟨Nat.le_of_ble_eq_true rfl, Nat.le_of_ble_eq_true rfl⟩ (Nat.le_of_ble_eq_true rfl) dX12_markedBy_8 (fun r1 X2 => ?_)
    refine g_icmp_ge (tgt := 91) hC dX12_markedBy_11 (by decide) ?_ ?_
    · refine g_lload_n (q := 2) hC dX12_markedBy_91 rfl rfl ?_
      exact g_lret hC hR dX12_markedBy_92
    · refine g_iload (q := 3) hC dX12_markedBy_14 rfl ?_
      refine g_iload_n (q := 1) hC dX12_markedBy_16 rfl rfl ?_
      refine g_iconst (v := vI (-1)) hC dX12_markedBy_17 rfl ?_
      refine g_ixor hC dX12_markedBy_18 ?_
      refine g_iand hC dX12_markedBy_19 ?_
      refine g_if_eq (tgt := 26) hC dX12_markedBy_20 (by decide) ?_ ?_
      · refine g_lconst (v := vJ 0) hC dX12_markedBy_26 rfl ?_
        refine g_lstore hC dX12_markedBy_27 (by decide) rfl ?_
        refine g_iconst (v := vI 0) hC dX12_markedBy_29 rfl ?_
        refine g_istore hC dX12_markedBy_30 (by decide) rfl ?_
        refine g_sub [2, 3, 4, 5, 1, 0] rfl ?_
        exact gL_X12_markedBy_32 hC hR hL ih KF x1 x2 x4 0 0 X2
      · refine g_goto (tgt := 85) hC dX12_markedBy_23 (by decide) ?_
        exact gB_X12_markedBy_85 hC hR hL ih x1 x2 x4 X2
set_option maxRecDepth 20000 in
theorem k_X12_markedBy (l : Launch) (V : Ev) {L : List Kd} (hL : LKm L) (p1 : Int) (X : Mem)  : Kt l V L yX12_markedBy (.code yX12_markedBy cX12_markedBy 8 (some .long)) 2 45 [vR V.1 120, vI p1] rJ X (f_X12_markedBy p1 X) := by
  refine kt_of (own := RX12) (lv0 := [(0, vR V.1 120), (1, vI p1)]) (by decide) rfl (Nat.le_of_ble_eq_true rfl) rfl (fun C hCl hC hR => ?_)
  subst hCl
  unfold f_X12_markedBy
  refine g_lconst (v := vJ 0) hC dX12_markedBy_0 rfl ?_
  refine g_lstore_n hC dX12_markedBy_1 rfl (by decide) rfl ?_
  refine g_iconst (v := vI 0) hC dX12_markedBy_2 rfl ?_
  refine g_istore hC dX12_markedBy_3 (by decide) rfl ?_
  refine g_sub [2, 3, 1, 0] rfl ?_
  exact gL_X12_markedBy_5 hC hR hL  KF p1 0 0 X
def B_X12_marked_23  (X : Mem) : Option (Int × Mem) :=
  cl (f_X12_refuse 1 X) fun r3 X4 =>
  some (r3, X4)
def B_X12_marked_115 (x4 : Int) (x5 : Int) (X : Mem) : Option (Int × Mem) :=
  cl (f_X12_tellsBy x5 1000000 X) fun r9 X10 =>
  cl (f_X12_gives x4 X10) fun r11 X12 =>
  some (r11, X12)
def B_X12_marked_109 (go55 : Int → Int → Int → Int → Mem → Option (Int × Mem)) (x3 : Int) (x4 : Int) (x5 : Int) (x7 : Int) (X : Mem) : Option (Int × Mem) :=
  go55 x3 x4 x5 (x7 + 1) X
def B_X12_marked_101 (go55 : Int → Int → Int → Int → Mem → Option (Int × Mem)) (x3 : Int) (x7 : Int) (x8 : Int) (X : Mem) : Option (Int × Mem) :=
  B_X12_marked_109  go55 x3 x7 x8 x7 X
def L_X12_marked_55 : Nat → Int → Int → Int → Int → Mem → Option (Int × Mem)
  | 0, _, _, _, _, _ => none
  | n + 1, x3, x4, x5, x7, X =>
    cl (f_X12_sets X) fun r7 X8 =>
    c2 x7 r7 <| if r7 ≤ x7 then
      B_X12_marked_115   x4 x5 X8
    else
      cl (f_X12_bits x7 X8) fun r13 X14 =>
      c2 r13 x3 <| if r13 = x3 then
        cl (f_X12_markedBy x7 X14) fun r15 X16 =>
        c2 x4 ((-1)) <| if x4 = ((-1)) then
          B_X12_marked_101  (fun x3 x4 x5 x7 X => L_X12_marked_55   n x3 x4 x5 x7 X) x3 x7 r15 X16
        else
          d2 r15 x5 <| if x5 < r15 then
            B_X12_marked_101  (fun x3 x4 x5 x7 X => L_X12_marked_55   n x3 x4 x5 x7 X) x3 x7 r15 X16
          else
            B_X12_marked_109  (fun x3 x4 x5 x7 X => L_X12_marked_55   n x3 x4 x5 x7 X) x3 x4 x5 x7 X16
      else
        B_X12_marked_109  (fun x3 x4 x5 x7 X => L_X12_marked_55   n x3 x4 x5 x7 X) x3 x4 x5 x7 X14
def f_X12_marked (p1 : Int) (p2 : Int) (p3 : Int) (X : Mem) : Option (Int × Mem) :=
  cl (f_X12_areCells p1 p2 X) fun r1 X2 =>
  c1 r1 <| if r1 = 0 then
    B_X12_marked_23   X2
  else
    c1 p3 <| if p3 < 0 then
      B_X12_marked_23   X2
    else
      ax 2200 2 <|
      c2 p3 (X2 121 2) <| if p3 ≤ (X2 121 2) then
        cl (f_X12_surestOf p1 p2 X2) fun r5 X6 =>
        c2 r5 ((-1)) <| if ¬ r5 = ((-1)) then
          L_X12_marked_55   KF p3 ((-1)) 0 0 X6
        else
          cl (f_X12_refuse 6 X6) fun r17 X18 =>
          some (r17, X18)
      else
        B_X12_marked_23   X2
set_option maxRecDepth 20000 in
theorem gB_X12_marked_23 {C : Cx} {V : Ev} {L : List Kd} (hC : Ok C V cX12_marked RX12 10 7 163) (hR : Rt C V L (some .int) rI) (hL : LKm L)  (X : Mem)  : G C V L 0 0 10 23 [(0, vR V.1 120)] [] X (B_X12_marked_23    X) := by
  unfold B_X12_marked_23
  refine g_aload_n (q := 0) hC dX12_marked_23 rfl rfl rfl ?_
  refine g_iconst (v := vI 1) hC dX12_marked_24 rfl ?_
  refine g_callVI (As := [vI 1]) hC mv_X12_refuse wml_RX12_185 (k_X12_refuse _ V hL 1 X) cf_X12 (at_120 hL) (by decide) ⟨Nat.zero_le _, Nat.zero_le _⟩ rfl rfl ⟨Nat.le_of_ble_eq_true rfl, Nat.le_of_ble_eq_true rfl⟩ (Nat.le_of_ble_eq_true rfl) dX12_marked_25 (fun r3 X4 => ?_)
  exact g_iret hC hR dX12_marked_28
set_option maxRecDepth 20000 in
theorem gB_X12_marked_115 {C : Cx} {V : Ev} {L : List Kd} (hC : Ok C V cX12_marked RX12 10 7 163) (hR : Rt C V L (some .int) rI) (hL : LKm L) (x4 : Int) (x5 : Int) (X : Mem)  : G C V L 0 0 10 115 [(0, vR V.1 120), (4, vI x4), (5, vJ x5)] [] X (B_X12_marked_115   x4 x5 X) := by
  unfold B_X12_marked_115
  refine g_aload_n (q := 0) hC dX12_marked_115 rfl rfl rfl ?_
  refine g_lload (q := 2) hC dX12_marked_116 rfl ?_
  refine g_ldc2 (n := 1000000) hC wk_RX12_300 rfl dX12_marked_118 ?_
  refine g_callVI (As := [vJ x5, vJ 1000000]) hC mv_X12_tellsBy wml_RX12_312 (k_X12_tellsBy _ V hL x5 1000000 X) cf_X12 (at_120 hL) (by decide) ⟨Nat.zero_le _, Nat.zero_le _⟩ rfl rfl ⟨Nat.le_of_ble_eq_true rfl, Nat.le_of_ble_eq_true rfl⟩ (Nat.le_of_ble_eq_true rfl) dX12_marked_121 (fun r9 X10 => ?_)
  refine g_pop hC dX12_marked_124 rfl ?_
  refine g_aload_n (q := 0) hC dX12_marked_125 rfl rfl rfl ?_
  refine g_iload (q := 1) hC dX12_marked_126 rfl ?_
  refine g_callVI (As := [vI x4]) hC mv_X12_gives wml_RX12_188 (k_X12_gives _ V hL x4 X10) cf_X12 (at_120 hL) (by decide) ⟨Nat.zero_le _, Nat.zero_le _⟩ rfl rfl ⟨Nat.le_of_ble_eq_true rfl, Nat.le_of_ble_eq_true rfl⟩ (Nat.le_of_ble_eq_true rfl) dX12_marked_128 (fun r11 X12 => ?_)
  exact g_iret hC hR dX12_marked_131
set_option maxRecDepth 20000 in
theorem gB_X12_marked_109 {C : Cx} {V : Ev} {L : List Kd} (hC : Ok C V cX12_marked RX12 10 7 163) (hR : Rt C V L (some .int) rI) (hL : LKm L) {go55 : Int → Int → Int → Int → Mem → Option (Int × Mem)} (hgo55 : ∀ (x3 : Int) (x4 : Int) (x5 : Int) (x7 : Int) (X : Mem), G C V L 0 0 10 55 [(0, vR V.1 120), (3, vI x3), (4, vI x4), (5, vJ x5), (7, vI x7)] [] X (go55 x3 x4 x5 x7 X)) (x3 : Int) (x4 : Int) (x5 : Int) (x7 : Int) (X : Mem)  : G C V L 0 0 10 109 [(0, vR V.1 120), (3, vI x3), (4, vI x4), (5, vJ x5), (7, vI x7)] [] X (B_X12_marked_109  go55 x3 x4 x5 x7 X) := by
  unfold B_X12_marked_109
  refine g_iinc (q := 4) hC dX12_marked_109 rfl (by decide) rfl ?_
  refine g_goto (tgt := 55) hC dX12_marked_112 (by decide) ?_
  refine g_sub [1, 2, 3, 4, 0] rfl ?_
  exact hgo55 x3 x4 x5 (x7 + 1) X
set_option maxRecDepth 20000 in
theorem gB_X12_marked_101 {C : Cx} {V : Ev} {L : List Kd} (hC : Ok C V cX12_marked RX12 10 7 163) (hR : Rt C V L (some .int) rI) (hL : LKm L) {go55 : Int → Int → Int → Int → Mem → Option (Int × Mem)} (hgo55 : ∀ (x3 : Int) (x4 : Int) (x5 : Int) (x7 : Int) (X : Mem), G C V L 0 0 10 55 [(0, vR V.1 120), (3, vI x3), (4, vI x4), (5, vJ x5), (7, vI x7)] [] X (go55 x3 x4 x5 x7 X)) (x3 : Int) (x7 : Int) (x8 : Int) (X : Mem)  : G C V L 0 0 10 101 [(0, vR V.1 120), (3, vI x3), (7, vI x7), (8, vJ x8)] [] X (B_X12_marked_101  go55 x3 x7 x8 X) := by
  unfold B_X12_marked_101
  refine g_iload (q := 2) hC dX12_marked_101 rfl ?_
  refine g_istore hC dX12_marked_103 (by decide) rfl ?_
  refine g_lload (q := 4) hC dX12_marked_105 rfl ?_
  refine g_lstore hC dX12_marked_107 (by decide) rfl ?_
  refine g_sub [2, 3, 1, 0, 4] rfl ?_
  exact gB_X12_marked_109 hC hR hL hgo55 x3 x7 x8 x7 X
set_option maxRecDepth 20000 in
theorem gL_X12_marked_55 {C : Cx} {V : Ev} {L : List Kd} (hC : Ok C V cX12_marked RX12 10 7 163) (hR : Rt C V L (some .int) rI) (hL : LKm L) : ∀ (n : Nat) (x3 : Int) (x4 : Int) (x5 : Int) (x7 : Int) (X : Mem), G C V L 0 0 10 55 [(0, vR V.1 120), (3, vI x3), (4, vI x4), (5, vJ x5), (7, vI x7)] [] X (L_X12_marked_55   n x3 x4 x5 x7 X) := by
  intro n
  induction n with
  | zero => intro x3 x4 x5 x7 X; exact g_none
  | succ n ih =>
    intro x3 x4 x5 x7 X
    rw [L_X12_marked_55]
    refine g_iload (q := 4) hC dX12_marked_55 rfl ?_
    refine g_aload_n (q := 0) hC dX12_marked_57 rfl rfl rfl ?_
    refine g_callVI (As := []) hC mv_X12_sets wml_RX12_263 (k_X12_sets _ V hL X) cf_X12 (at_120 hL) (by decide) ⟨Nat.zero_le _, Nat.zero_le _⟩ rfl rfl ⟨Nat.le_of_ble_eq_true rfl, Nat.le_of_ble_eq_true rfl⟩ (Nat.le_of_ble_eq_true rfl) dX12_marked_58 (fun r7 X8 => ?_)
    refine g_icmp_ge (tgt := 115) hC dX12_marked_61 (by decide) ?_ ?_
    · refine g_sub [0, 2, 3] rfl ?_
      exact gB_X12_marked_115 hC hR hL  x4 x5 X8
    · refine g_iload (q := 4) hC dX12_marked_64 rfl ?_
      refine g_callSI (As := [vI x7]) hC mt_X12_bits wml_RX12_447 (k_X12_bits _ V hL x7 X8) ⟨Nat.zero_le _, Nat.zero_le _⟩ rfl rfl ⟨Nat.le_of_ble_eq_true rfl, Nat.le_of_ble_eq_true rfl⟩ (Nat.le_of_ble_eq_true rfl) dX12_marked_66 (fun r13 X14 => ?_)
      refine g_iload_n (q := 1) hC dX12_marked_69 rfl rfl ?_
      refine g_icmp_eq (tgt := 76) hC dX12_marked_70 (by decide) ?_ ?_
      · refine g_aload_n (q := 0) hC dX12_marked_76 rfl rfl rfl ?_
        refine g_iload (q := 4) hC dX12_marked_77 rfl ?_
        refine g_callVJ (As := [vI x7]) hC mv_X12_markedBy wml_RX12_450 (k_X12_markedBy _ V hL x7 X14) cf_X12 (at_120 hL) (by decide) ⟨Nat.zero_le _, Nat.zero_le _⟩ rfl rfl ⟨Nat.le_of_ble_eq_true rfl, Nat.le_of_ble_eq_true rfl⟩ (Nat.le_of_ble_eq_true rfl) dX12_marked_79 (fun r15 X16 => ?_)
        refine g_lstore hC dX12_marked_82 (by decide) rfl ?_
        refine g_iload (q := 3) hC dX12_marked_84 rfl ?_
        refine g_iconst (v := vI (-1)) hC dX12_marked_86 rfl ?_
        refine g_icmp_eq (tgt := 101) hC dX12_marked_87 (by decide) ?_ ?_
        · refine g_sub [1, 2, 5, 0] rfl ?_
          exact gB_X12_marked_101 hC hR hL ih x3 x7 r15 X16
        · refine g_lload (q := 0) hC dX12_marked_90 rfl ?_
          refine g_lload (q := 4) hC dX12_marked_92 rfl ?_
          refine g_lcmp_gt (tgt := 101) hC dX12_marked_94 rfl dX12_marked_95 (by decide) ?_ ?_
          · refine g_sub [1, 2, 5, 0] rfl ?_
            exact gB_X12_marked_101 hC hR hL ih x3 x7 r15 X16
          · refine g_goto (tgt := 109) hC dX12_marked_98 (by decide) ?_
            refine g_sub [1, 2, 3, 4, 5] rfl ?_
            exact gB_X12_marked_109 hC hR hL ih x3 x4 x5 x7 X16
      · refine g_goto (tgt := 109) hC dX12_marked_73 (by decide) ?_
        exact gB_X12_marked_109 hC hR hL ih x3 x4 x5 x7 X14
set_option maxRecDepth 20000 in
theorem k_X12_marked (l : Launch) (V : Ev) {L : List Kd} (hL : LKm L) (p1 : Int) (p2 : Int) (p3 : Int) (X : Mem)  : Kt l V L yX12_marked (.code yX12_marked cX12_marked 10 (some .int)) 7 163 [vR V.1 120, vI p1, vI p2, vI p3] rI X (f_X12_marked p1 p2 p3 X) := by
  refine kt_of (own := RX12) (lv0 := [(0, vR V.1 120), (1, vI p1), (2, vI p2), (3, vI p3)]) (by decide) rfl (Nat.le_of_ble_eq_true rfl) rfl (fun C hCl hC hR => ?_)
  subst hCl
  unfold f_X12_marked
  refine g_aload_n (q := 0) hC dX12_marked_0 rfl rfl rfl ?_
  refine g_iload_n (q := 1) hC dX12_marked_1 rfl rfl ?_
  refine g_iload_n (q := 2) hC dX12_marked_2 rfl rfl ?_
  refine g_callVI (As := [vI p1, vI p2]) hC mv_X12_areCells wml_RX12_378 (k_X12_areCells _ V hL p1 p2 X) cf_X12 (at_120 hL) (by decide) ⟨Nat.zero_le _, Nat.zero_le _⟩ rfl rfl ⟨Nat.le_of_ble_eq_true rfl, Nat.le_of_ble_eq_true rfl⟩ (Nat.le_of_ble_eq_true rfl) dX12_marked_3 (fun r1 X2 => ?_)
  refine g_if_eq (tgt := 23) hC dX12_marked_6 (by decide) ?_ ?_
  · refine g_sub [0] rfl ?_
    exact gB_X12_marked_23 hC hR hL  X2
  · refine g_iload_n (q := 3) hC dX12_marked_9 rfl rfl ?_
    refine g_if_lt (tgt := 23) hC dX12_marked_10 (by decide) ?_ ?_
    · refine g_sub [0] rfl ?_
      exact gB_X12_marked_23 hC hR hL  X2
    · refine g_iload_n (q := 3) hC dX12_marked_13 rfl rfl ?_
      refine g_aload_n (q := 0) hC dX12_marked_14 rfl rfl rfl ?_
      refine g_getS (k := 0) hC cf_X12 (at_120 hL) (by decide) rfl (by decide) (by decide) wf_RX12_7 dX12_marked_15 ?_
      refine g_iconst (v := vI 2) hC dX12_marked_18 rfl ?_
      refine g_iald hC (at_121 hL) (by decide) dX12_marked_19 ?_
      refine g_icmp_le (tgt := 29) hC dX12_marked_20 (by decide) ?_ ?_
      · refine g_aload_n (q := 0) hC dX12_marked_29 rfl rfl rfl ?_
        refine g_iload_n (q := 1) hC dX12_marked_30 rfl rfl ?_
        refine g_iload_n (q := 2) hC dX12_marked_31 rfl rfl ?_
        refine g_callVI (As := [vI p1, vI p2]) hC mv_X12_surestOf wml_RX12_381 (k_X12_surestOf _ V hL p1 p2 X2) cf_X12 (at_120 hL) (by decide) ⟨Nat.zero_le _, Nat.zero_le _⟩ rfl rfl ⟨Nat.le_of_ble_eq_true rfl, Nat.le_of_ble_eq_true rfl⟩ (Nat.le_of_ble_eq_true rfl) dX12_marked_32 (fun r5 X6 => ?_)
        refine g_iconst (v := vI (-1)) hC dX12_marked_35 rfl ?_
        refine g_icmp_ne (tgt := 46) hC dX12_marked_36 (by decide) ?_ ?_
        · refine g_iconst (v := vI (-1)) hC dX12_marked_46 rfl ?_
          refine g_istore hC dX12_marked_47 (by decide) rfl ?_
          refine g_lconst (v := vJ 0) hC dX12_marked_49 rfl ?_
          refine g_lstore hC dX12_marked_50 (by decide) rfl ?_
          refine g_iconst (v := vI 0) hC dX12_marked_52 rfl ?_
          refine g_istore hC dX12_marked_53 (by decide) rfl ?_
          refine g_sub [3, 6, 2, 1, 0] rfl ?_
          exact gL_X12_marked_55 hC hR hL  KF p3 ((-1)) 0 0 X6
        · refine g_aload_n (q := 0) hC dX12_marked_39 rfl rfl rfl ?_
          refine g_bipush (v := vI 6) hC dX12_marked_40 rfl ?_
          refine g_callVI (As := [vI 6]) hC mv_X12_refuse wml_RX12_185 (k_X12_refuse _ V hL 6 X6) cf_X12 (at_120 hL) (by decide) ⟨Nat.zero_le _, Nat.zero_le _⟩ rfl rfl ⟨Nat.le_of_ble_eq_true rfl, Nat.le_of_ble_eq_true rfl⟩ (Nat.le_of_ble_eq_true rfl) dX12_marked_42 (fun r17 X18 => ?_)
          exact g_iret hC hR dX12_marked_45
      · refine g_sub [0] rfl ?_
        exact gB_X12_marked_23 hC hR hL  X2
def B_X12_tells_93 (x3 : Int) (x4 : Int) (X : Mem) : Option (Int × Mem) :=
  cl (f_X12_partsOf 0 x3 X) fun r7 X8 =>
  cl (f_X12_tellsBy (r7 + x4) 1000000 X8) fun r9 X10 =>
  cz r9 (some (r9, X10))
def B_X12_tells_87 (go40 : Int → Int → Int → Mem → Option (Int × Mem)) (x3 : Int) (x4 : Int) (x6 : Int) (X : Mem) : Option (Int × Mem) :=
  go40 x3 x4 (x6 + 1) X
def L_X12_tells_40 : Nat → Int → Int → Int → Mem → Option (Int × Mem)
  | 0, _, _, _, _ => none
  | n + 1, x3, x4, x6, X =>
    cl (f_X12_sets X) fun r5 X6 =>
    c2 x6 r5 <| if r5 ≤ x6 then
      B_X12_tells_93   x3 x4 X6
    else
      ax 32 x6 <|
      c2 (X6 134 x6) ((-1)) <| if ¬ (X6 134 x6) = ((-1)) then
        cl (f_X12_partsOf 0 x6 X6) fun r11 X12 =>
        cl (f_X12_partsOf 0 (io x6 x3) X12) fun r13 X14 =>
        d2 x4 (r11 - r13) <|
        bd (max x4 (r11 - r13)) fun v15 =>
        B_X12_tells_87  (fun x3 x4 x6 X => L_X12_tells_40   n x3 x4 x6 X) x3 v15 x6 X14
      else
        B_X12_tells_87  (fun x3 x4 x6 X => L_X12_tells_40   n x3 x4 x6 X) x3 x4 x6 X6
def f_X12_tells (p1 : Int) (p2 : Int) (X : Mem) : Option (Int × Mem) :=
  cl (f_X12_areCells p1 p2 X) fun r1 X2 =>
  c1 r1 <| if ¬ r1 = 0 then
    cl (f_X12_surestOf p1 p2 X2) fun r3 X4 =>
    c2 r3 ((-1)) <| if ¬ r3 = ((-1)) then
      L_X12_tells_40   KF r3 0 0 X4
    else
      cl (f_X12_is 6 X4) fun r16 X17 =>
      cz r16 (some (r16, X17))
  else
    cl (f_X12_is 1 X2) fun r18 X19 =>
    cz r18 (some (r18, X19))
set_option maxRecDepth 20000 in
theorem gB_X12_tells_93 {C : Cx} {V : Ev} {L : List Kd} (hC : Ok C V cX12_tells RX12 7 7 163) (hR : Rt C V L (some .boolean) rI) (hL : LKm L) (x3 : Int) (x4 : Int) (X : Mem)  : G C V L 0 0 7 93 [(0, vR V.1 120), (3, vI x3), (4, vJ x4)] [] X (B_X12_tells_93   x3 x4 X) := by
  unfold B_X12_tells_93
  refine g_aload_n (q := 0) hC dX12_tells_93 rfl rfl rfl ?_
  refine g_aload_n (q := 0) hC dX12_tells_94 rfl rfl rfl ?_
  refine g_iconst (v := vI 0) hC dX12_tells_95 rfl ?_
  refine g_iload_n (q := 1) hC dX12_tells_96 rfl rfl ?_
  refine g_callVJ (As := [vI 0, vI x3]) hC mv_X12_partsOf wml_RX12_308 (k_X12_partsOf _ V hL 0 x3 X) cf_X12 (at_120 hL) (by decide) ⟨Nat.zero_le _, Nat.zero_le _⟩ rfl rfl ⟨Nat.le_of_ble_eq_true rfl, Nat.le_of_ble_eq_true rfl⟩ (Nat.le_of_ble_eq_true rfl) dX12_tells_97 (fun r7 X8 => ?_)
  refine g_lload (q := 2) hC dX12_tells_100 rfl ?_
  refine g_ladd hC dX12_tells_102 ?_
  refine g_ldc2 (n := 1000000) hC wk_RX12_300 rfl dX12_tells_103 ?_
  refine g_callVI (As := [vJ (r7 + x4), vJ 1000000]) hC mv_X12_tellsBy wml_RX12_312 (k_X12_tellsBy _ V hL (r7 + x4) 1000000 X8) cf_X12 (at_120 hL) (by decide) ⟨Nat.zero_le _, Nat.zero_le _⟩ rfl rfl ⟨Nat.le_of_ble_eq_true rfl, Nat.le_of_ble_eq_true rfl⟩ (Nat.le_of_ble_eq_true rfl) dX12_tells_106 (fun r9 X10 => ?_)
  exact g_zret hC hR dX12_tells_109
set_option maxRecDepth 20000 in
theorem gB_X12_tells_87 {C : Cx} {V : Ev} {L : List Kd} (hC : Ok C V cX12_tells RX12 7 7 163) (hR : Rt C V L (some .boolean) rI) (hL : LKm L) {go40 : Int → Int → Int → Mem → Option (Int × Mem)} (hgo40 : ∀ (x3 : Int) (x4 : Int) (x6 : Int) (X : Mem), G C V L 0 0 7 40 [(0, vR V.1 120), (3, vI x3), (4, vJ x4), (6, vI x6)] [] X (go40 x3 x4 x6 X)) (x3 : Int) (x4 : Int) (x6 : Int) (X : Mem)  : G C V L 0 0 7 87 [(0, vR V.1 120), (3, vI x3), (4, vJ x4), (6, vI x6)] [] X (B_X12_tells_87  go40 x3 x4 x6 X) := by
  unfold B_X12_tells_87
  refine g_iinc (q := 3) hC dX12_tells_87 rfl (by decide) rfl ?_
  refine g_goto (tgt := 40) hC dX12_tells_90 (by decide) ?_
  refine g_sub [1, 2, 3, 0] rfl ?_
  exact hgo40 x3 x4 (x6 + 1) X
set_option maxRecDepth 20000 in
theorem gL_X12_tells_40 {C : Cx} {V : Ev} {L : List Kd} (hC : Ok C V cX12_tells RX12 7 7 163) (hR : Rt C V L (some .boolean) rI) (hL : LKm L) : ∀ (n : Nat) (x3 : Int) (x4 : Int) (x6 : Int) (X : Mem), G C V L 0 0 7 40 [(0, vR V.1 120), (3, vI x3), (4, vJ x4), (6, vI x6)] [] X (L_X12_tells_40   n x3 x4 x6 X) := by
  intro n
  induction n with
  | zero => intro x3 x4 x6 X; exact g_none
  | succ n ih =>
    intro x3 x4 x6 X
    rw [L_X12_tells_40]
    refine g_iload (q := 3) hC dX12_tells_40 rfl ?_
    refine g_aload_n (q := 0) hC dX12_tells_42 rfl rfl rfl ?_
    refine g_callVI (As := []) hC mv_X12_sets wml_RX12_263 (k_X12_sets _ V hL X) cf_X12 (at_120 hL) (by decide) ⟨Nat.zero_le _, Nat.zero_le _⟩ rfl rfl ⟨Nat.le_of_ble_eq_true rfl, Nat.le_of_ble_eq_true rfl⟩ (Nat.le_of_ble_eq_true rfl) dX12_tells_43 (fun r5 X6 => ?_)
    refine g_icmp_ge (tgt := 93) hC dX12_tells_46 (by decide) ?_ ?_
    · refine g_sub [0, 1, 2] rfl ?_
      exact gB_X12_tells_93 hC hR hL  x3 x4 X6
    · refine g_aload_n (q := 0) hC dX12_tells_49 rfl rfl rfl ?_
      refine g_getS (k := 30) hC cf_X12 (at_120 hL) (by decide) rfl (by decide) (by decide) wf_RX12_63 dX12_tells_50 ?_
      refine g_iload (q := 3) hC dX12_tells_53 rfl ?_
      refine g_iald hC (at_134 hL) (by decide) dX12_tells_55 ?_
      refine g_iconst (v := vI (-1)) hC dX12_tells_56 rfl ?_
      refine g_icmp_ne (tgt := 63) hC dX12_tells_57 (by decide) ?_ ?_
      · refine g_lload (q := 2) hC dX12_tells_63 rfl ?_
        refine g_aload_n (q := 0) hC dX12_tells_65 rfl rfl rfl ?_
        refine g_iconst (v := vI 0) hC dX12_tells_66 rfl ?_
        refine g_iload (q := 3) hC dX12_tells_67 rfl ?_
        refine g_callVJ (As := [vI 0, vI x6]) hC mv_X12_partsOf wml_RX12_308 (k_X12_partsOf _ V hL 0 x6 X6) cf_X12 (at_120 hL) (by decide) ⟨Nat.zero_le _, Nat.zero_le _⟩ rfl rfl ⟨Nat.le_of_ble_eq_true rfl, Nat.le_of_ble_eq_true rfl⟩ (Nat.le_of_ble_eq_true rfl) dX12_tells_69 (fun r11 X12 => ?_)
        refine g_aload_n (q := 0) hC dX12_tells_72 rfl rfl rfl ?_
        refine g_iconst (v := vI 0) hC dX12_tells_73 rfl ?_
        refine g_iload (q := 3) hC dX12_tells_74 rfl ?_
        refine g_iload_n (q := 1) hC dX12_tells_76 rfl rfl ?_
        refine g_ior hC dX12_tells_77 ?_
        refine g_callVJ (As := [vI 0, vI (io x6 x3)]) hC mv_X12_partsOf wml_RX12_308 (k_X12_partsOf _ V hL 0 (io x6 x3) X12) cf_X12 (at_120 hL) (by decide) ⟨Nat.zero_le _, Nat.zero_le _⟩ rfl rfl ⟨Nat.le_of_ble_eq_true rfl, Nat.le_of_ble_eq_true rfl⟩ (Nat.le_of_ble_eq_true rfl) dX12_tells_78 (fun r13 X14 => ?_)
        refine g_lsub hC dX12_tells_81 ?_
        refine g_maxl hC wml_RX12_388 (Nat.le_of_ble_eq_true rfl) (Nat.le_of_ble_eq_true rfl) ⟨Nat.zero_le _, Nat.zero_le _⟩ dX12_tells_82 ?_
        refine g_topJ (fun v15 => ?_)
        refine g_lstore hC dX12_tells_85 (by decide) rfl ?_
        refine g_sub [1, 2, 0, 3] rfl ?_
        exact gB_X12_tells_87 hC hR hL ih x3 v15 x6 X14
      · refine g_goto (tgt := 87) hC dX12_tells_60 (by decide) ?_
        exact gB_X12_tells_87 hC hR hL ih x3 x4 x6 X6
set_option maxRecDepth 20000 in
theorem k_X12_tells (l : Launch) (V : Ev) {L : List Kd} (hL : LKm L) (p1 : Int) (p2 : Int) (X : Mem)  : Kt l V L yX12_tells (.code yX12_tells cX12_tells 7 (some .boolean)) 7 163 [vR V.1 120, vI p1, vI p2] rI X (f_X12_tells p1 p2 X) := by
  refine kt_of (own := RX12) (lv0 := [(0, vR V.1 120), (1, vI p1), (2, vI p2)]) (by decide) rfl (Nat.le_of_ble_eq_true rfl) rfl (fun C hCl hC hR => ?_)
  subst hCl
  unfold f_X12_tells
  refine g_aload_n (q := 0) hC dX12_tells_0 rfl rfl rfl ?_
  refine g_iload_n (q := 1) hC dX12_tells_1 rfl rfl ?_
  refine g_iload_n (q := 2) hC dX12_tells_2 rfl rfl ?_
  refine g_callVI (As := [vI p1, vI p2]) hC mv_X12_areCells wml_RX12_378 (k_X12_areCells _ V hL p1 p2 X) cf_X12 (at_120 hL) (by decide) ⟨Nat.zero_le _, Nat.zero_le _⟩ rfl rfl ⟨Nat.le_of_ble_eq_true rfl, Nat.le_of_ble_eq_true rfl⟩ (Nat.le_of_ble_eq_true rfl) dX12_tells_3 (fun r1 X2 => ?_)
  refine g_if_ne (tgt := 15) hC dX12_tells_6 (by decide) ?_ ?_
  · refine g_aload_n (q := 0) hC dX12_tells_15 rfl rfl rfl ?_
    refine g_iload_n (q := 1) hC dX12_tells_16 rfl rfl ?_
    refine g_iload_n (q := 2) hC dX12_tells_17 rfl rfl ?_
    refine g_callVI (As := [vI p1, vI p2]) hC mv_X12_surestOf wml_RX12_381 (k_X12_surestOf _ V hL p1 p2 X2) cf_X12 (at_120 hL) (by decide) ⟨Nat.zero_le _, Nat.zero_le _⟩ rfl rfl ⟨Nat.le_of_ble_eq_true rfl, Nat.le_of_ble_eq_true rfl⟩ (Nat.le_of_ble_eq_true rfl) dX12_tells_18 (fun r3 X4 => ?_)
    refine g_istore_n hC dX12_tells_21 rfl (by decide) rfl ?_
    refine g_iload_n (q := 0) hC dX12_tells_22 rfl rfl ?_
    refine g_iconst (v := vI (-1)) hC dX12_tells_23 rfl ?_
    refine g_icmp_ne (tgt := 34) hC dX12_tells_24 (by decide) ?_ ?_
    · refine g_lconst (v := vJ 0) hC dX12_tells_34 rfl ?_
      refine g_lstore hC dX12_tells_35 (by decide) rfl ?_
      refine g_iconst (v := vI 0) hC dX12_tells_37 rfl ?_
      refine g_istore hC dX12_tells_38 (by decide) rfl ?_
      refine g_sub [3, 2, 1, 0] rfl ?_
      exact gL_X12_tells_40 hC hR hL  KF r3 0 0 X4
    · refine g_aload_n (q := 1) hC dX12_tells_27 rfl rfl rfl ?_
      refine g_bipush (v := vI 6) hC dX12_tells_28 rfl ?_
      refine g_callVI (As := [vI 6]) hC mv_X12_is wml_RX12_98 (k_X12_is _ V hL 6 X4) cf_X12 (at_120 hL) (by decide) ⟨Nat.zero_le _, Nat.zero_le _⟩ rfl rfl ⟨Nat.le_of_ble_eq_true rfl, Nat.le_of_ble_eq_true rfl⟩ (Nat.le_of_ble_eq_true rfl) dX12_tells_30 (fun r16 X17 => ?_)
      exact g_zret hC hR dX12_tells_33
  · refine g_aload_n (q := 0) hC dX12_tells_9 rfl rfl rfl ?_
    refine g_iconst (v := vI 1) hC dX12_tells_10 rfl ?_
    refine g_callVI (As := [vI 1]) hC mv_X12_is wml_RX12_98 (k_X12_is _ V hL 1 X2) cf_X12 (at_120 hL) (by decide) ⟨Nat.zero_le _, Nat.zero_le _⟩ rfl rfl ⟨Nat.le_of_ble_eq_true rfl, Nat.le_of_ble_eq_true rfl⟩ (Nat.le_of_ble_eq_true rfl) dX12_tells_11 (fun r18 X19 => ?_)
    exact g_zret hC hR dX12_tells_14
def B_X12_dredged_34  (X : Mem) : Option (Int × Mem) :=
  cl (f_X12_refuse 6 X) fun r3 X4 =>
  some (r3, X4)
def B_X12_dredged_142 (x3 : Int) (x4 : Int) (X : Mem) : Option (Int × Mem) :=
  cl (f_X12_tellsBy x4 1000000 X) fun r7 X8 =>
  cl (f_X12_gives x3 X8) fun r9 X10 =>
  some (r9, X10)
def B_X12_dredged_136 (go49 : Int → Int → Int → Mem → Option (Int × Mem)) (x3 : Int) (x4 : Int) (x6 : Int) (X : Mem) : Option (Int × Mem) :=
  go49 x3 x4 (x6 + 1) X
def B_X12_dredged_129 (go49 : Int → Int → Int → Mem → Option (Int × Mem)) (x6 : Int) (x7 : Int) (X : Mem) : Option (Int × Mem) :=
  B_X12_dredged_136  go49 x6 x7 x6 X
def B_X12_dredged_113 (go49 : Int → Int → Int → Mem → Option (Int × Mem)) (x3 : Int) (x4 : Int) (x6 : Int) (x7 : Int) (X : Mem) : Option (Int × Mem) :=
  c2 x3 ((-1)) <| if x3 = ((-1)) then
    B_X12_dredged_129  go49 x6 x7 X
  else
    d2 x7 x4 <| if x4 < x7 then
      B_X12_dredged_129  go49 x6 x7 X
    else
      B_X12_dredged_136  go49 x3 x4 x6 X
def B_X12_dredged_107 (go49 : Int → Int → Int → Mem → Option (Int × Mem)) (go66 : Int → Int → Int → Int → Int → Mem → Option (Int × Mem)) (x3 : Int) (x4 : Int) (x6 : Int) (x7 : Int) (x9 : Int) (X : Mem) : Option (Int × Mem) :=
  go66 x3 x4 x6 x7 (x9 + 1) X
def L_X12_dredged_66 (go49 : Int → Int → Int → Mem → Option (Int × Mem)) : Nat → Int → Int → Int → Int → Int → Mem → Option (Int × Mem)
  | 0, _, _, _, _, _, _ => none
  | n + 1, x3, x4, x6, x7, x9, X =>
    cl (f_X12_sets X) fun r11 X12 =>
    c2 x9 r11 <| if r11 ≤ x9 then
      B_X12_dredged_113  go49 x3 x4 x6 x7 X12
    else
      ax 32 x9 <|
      c2 (X12 134 x9) ((-1)) <| if (X12 134 x9) = ((-1)) then
        B_X12_dredged_107  go49 (fun x3 x4 x6 x7 x9 X => L_X12_dredged_66  go49 n x3 x4 x6 x7 x9 X) x3 x4 x6 x7 x9 X12
      else
        cl (f_X12_partsOf 0 (ia x9 (ix (ishl 1 x6) ((-1)))) X12) fun r13 X14 =>
        d2 x7 r13 <|
        bd (max x7 r13) fun v15 =>
        B_X12_dredged_107  go49 (fun x3 x4 x6 x7 x9 X => L_X12_dredged_66  go49 n x3 x4 x6 x7 x9 X) x3 x4 x6 v15 x9 X14
def L_X12_dredged_49 : Nat → Int → Int → Int → Mem → Option (Int × Mem)
  | 0, _, _, _, _ => none
  | n + 1, x3, x4, x6, X =>
    ax 2200 2 <|
    c2 x6 (X 121 2) <| if (X 121 2) ≤ x6 then
      B_X12_dredged_142   x3 x4 X
    else
      L_X12_dredged_66  (fun x3 x4 x6 X => L_X12_dredged_49   n x3 x4 x6 X) KF x3 x4 x6 0 0 X
def f_X12_dredged (p1 : Int) (p2 : Int) (X : Mem) : Option (Int × Mem) :=
  cl (f_X12_areCells p1 p2 X) fun r1 X2 =>
  c1 r1 <| if ¬ r1 = 0 then
    ax 2200 2 <|
    c1 (X2 121 2) <| if (X2 121 2) = 0 then
      B_X12_dredged_34   X2
    else
      cl (f_X12_surestOf p1 p2 X2) fun r5 X6 =>
      c2 r5 ((-1)) <| if ¬ r5 = ((-1)) then
        L_X12_dredged_49   KF ((-1)) 0 0 X6
      else
        B_X12_dredged_34   X6
  else
    cl (f_X12_refuse 1 X2) fun r16 X17 =>
    some (r16, X17)
set_option maxRecDepth 20000 in
theorem gB_X12_dredged_34 {C : Cx} {V : Ev} {L : List Kd} (hC : Ok C V cX12_dredged RX12 10 7 163) (hR : Rt C V L (some .int) rI) (hL : LKm L)  (X : Mem)  : G C V L 0 0 10 34 [(0, vR V.1 120)] [] X (B_X12_dredged_34    X) := by
  unfold B_X12_dredged_34
  refine g_aload_n (q := 0) hC dX12_dredged_34 rfl rfl rfl ?_
  refine g_bipush (v := vI 6) hC dX12_dredged_35 rfl ?_
  refine g_callVI (As := [vI 6]) hC mv_X12_refuse wml_RX12_185 (k_X12_refuse _ V hL 6 X) cf_X12 (at_120 hL) (by decide) ⟨Nat.zero_le _, Nat.zero_le _⟩ rfl rfl ⟨Nat.le_of_ble_eq_true rfl, Nat.le_of_ble_eq_true rfl⟩ (Nat.le_of_ble_eq_true rfl) dX12_dredged_37 (fun r3 X4 => ?_)
  exact g_iret hC hR dX12_dredged_40
set_option maxRecDepth 20000 in
theorem gB_X12_dredged_142 {C : Cx} {V : Ev} {L : List Kd} (hC : Ok C V cX12_dredged RX12 10 7 163) (hR : Rt C V L (some .int) rI) (hL : LKm L) (x3 : Int) (x4 : Int) (X : Mem)  : G C V L 0 0 10 142 [(0, vR V.1 120), (3, vI x3), (4, vJ x4)] [] X (B_X12_dredged_142   x3 x4 X) := by
  unfold B_X12_dredged_142
  refine g_aload_n (q := 0) hC dX12_dredged_142 rfl rfl rfl ?_
  refine g_lload (q := 2) hC dX12_dredged_143 rfl ?_
  refine g_ldc2 (n := 1000000) hC wk_RX12_300 rfl dX12_dredged_145 ?_
  refine g_callVI (As := [vJ x4, vJ 1000000]) hC mv_X12_tellsBy wml_RX12_312 (k_X12_tellsBy _ V hL x4 1000000 X) cf_X12 (at_120 hL) (by decide) ⟨Nat.zero_le _, Nat.zero_le _⟩ rfl rfl ⟨Nat.le_of_ble_eq_true rfl, Nat.le_of_ble_eq_true rfl⟩ (Nat.le_of_ble_eq_true rfl) dX12_dredged_148 (fun r7 X8 => ?_)
  refine g_pop hC dX12_dredged_151 rfl ?_
  refine g_aload_n (q := 0) hC dX12_dredged_152 rfl rfl rfl ?_
  refine g_iload_n (q := 1) hC dX12_dredged_153 rfl rfl ?_
  refine g_callVI (As := [vI x3]) hC mv_X12_gives wml_RX12_188 (k_X12_gives _ V hL x3 X8) cf_X12 (at_120 hL) (by decide) ⟨Nat.zero_le _, Nat.zero_le _⟩ rfl rfl ⟨Nat.le_of_ble_eq_true rfl, Nat.le_of_ble_eq_true rfl⟩ (Nat.le_of_ble_eq_true rfl) dX12_dredged_154 (fun r9 X10 => ?_)
  exact g_iret hC hR dX12_dredged_157
set_option maxRecDepth 20000 in
theorem gB_X12_dredged_136 {C : Cx} {V : Ev} {L : List Kd} (hC : Ok C V cX12_dredged RX12 10 7 163) (hR : Rt C V L (some .int) rI) (hL : LKm L) {go49 : Int → Int → Int → Mem → Option (Int × Mem)} (hgo49 : ∀ (x3 : Int) (x4 : Int) (x6 : Int) (X : Mem), G C V L 0 0 10 49 [(0, vR V.1 120), (3, vI x3), (4, vJ x4), (6, vI x6)] [] X (go49 x3 x4 x6 X)) (x3 : Int) (x4 : Int) (x6 : Int) (X : Mem)  : G C V L 0 0 10 136 [(0, vR V.1 120), (3, vI x3), (4, vJ x4), (6, vI x6)] [] X (B_X12_dredged_136  go49 x3 x4 x6 X) := by
  unfold B_X12_dredged_136
  refine g_iinc (q := 3) hC dX12_dredged_136 rfl (by decide) rfl ?_
  refine g_goto (tgt := 49) hC dX12_dredged_139 (by decide) ?_
  refine g_sub [1, 2, 3, 0] rfl ?_
  exact hgo49 x3 x4 (x6 + 1) X
set_option maxRecDepth 20000 in
theorem gB_X12_dredged_129 {C : Cx} {V : Ev} {L : List Kd} (hC : Ok C V cX12_dredged RX12 10 7 163) (hR : Rt C V L (some .int) rI) (hL : LKm L) {go49 : Int → Int → Int → Mem → Option (Int × Mem)} (hgo49 : ∀ (x3 : Int) (x4 : Int) (x6 : Int) (X : Mem), G C V L 0 0 10 49 [(0, vR V.1 120), (3, vI x3), (4, vJ x4), (6, vI x6)] [] X (go49 x3 x4 x6 X)) (x6 : Int) (x7 : Int) (X : Mem)  : G C V L 0 0 10 129 [(0, vR V.1 120), (6, vI x6), (7, vJ x7)] [] X (B_X12_dredged_129  go49 x6 x7 X) := by
  unfold B_X12_dredged_129
  refine g_iload (q := 1) hC dX12_dredged_129 rfl ?_
  refine g_istore_n hC dX12_dredged_131 rfl (by decide) rfl ?_
  refine g_lload (q := 3) hC dX12_dredged_132 rfl ?_
  refine g_lstore hC dX12_dredged_134 (by decide) rfl ?_
  refine g_sub [2, 1, 0, 3] rfl ?_
  exact gB_X12_dredged_136 hC hR hL hgo49 x6 x7 x6 X
set_option maxRecDepth 20000 in
theorem gB_X12_dredged_113 {C : Cx} {V : Ev} {L : List Kd} (hC : Ok C V cX12_dredged RX12 10 7 163) (hR : Rt C V L (some .int) rI) (hL : LKm L) {go49 : Int → Int → Int → Mem → Option (Int × Mem)} (hgo49 : ∀ (x3 : Int) (x4 : Int) (x6 : Int) (X : Mem), G C V L 0 0 10 49 [(0, vR V.1 120), (3, vI x3), (4, vJ x4), (6, vI x6)] [] X (go49 x3 x4 x6 X)) (x3 : Int) (x4 : Int) (x6 : Int) (x7 : Int) (X : Mem)  : G C V L 0 0 10 113 [(0, vR V.1 120), (3, vI x3), (4, vJ x4), (6, vI x6), (7, vJ x7)] [] X (B_X12_dredged_113  go49 x3 x4 x6 x7 X) := by
  unfold B_X12_dredged_113
  refine g_iload_n (q := 1) hC dX12_dredged_113 rfl rfl ?_
  refine g_iconst (v := vI (-1)) hC dX12_dredged_114 rfl ?_
  refine g_icmp_eq (tgt := 129) hC dX12_dredged_115 (by decide) ?_ ?_
  · refine g_sub [0, 3, 4] rfl ?_
    exact gB_X12_dredged_129 hC hR hL hgo49 x6 x7 X
  · refine g_lload (q := 4) hC dX12_dredged_118 rfl ?_
    refine g_lload (q := 2) hC dX12_dredged_120 rfl ?_
    refine g_lcmp_gt (tgt := 129) hC dX12_dredged_122 rfl dX12_dredged_123 (by decide) ?_ ?_
    · refine g_sub [0, 3, 4] rfl ?_
      exact gB_X12_dredged_129 hC hR hL hgo49 x6 x7 X
    · refine g_goto (tgt := 136) hC dX12_dredged_126 (by decide) ?_
      refine g_sub [0, 1, 2, 3] rfl ?_
      exact gB_X12_dredged_136 hC hR hL hgo49 x3 x4 x6 X
set_option maxRecDepth 20000 in
theorem gB_X12_dredged_107 {C : Cx} {V : Ev} {L : List Kd} (hC : Ok C V cX12_dredged RX12 10 7 163) (hR : Rt C V L (some .int) rI) (hL : LKm L) {go49 : Int → Int → Int → Mem → Option (Int × Mem)} {go66 : Int → Int → Int → Int → Int → Mem → Option (Int × Mem)} (hgo49 : ∀ (x3 : Int) (x4 : Int) (x6 : Int) (X : Mem), G C V L 0 0 10 49 [(0, vR V.1 120), (3, vI x3), (4, vJ x4), (6, vI x6)] [] X (go49 x3 x4 x6 X)) (hgo66 : ∀ (x3 : Int) (x4 : Int) (x6 : Int) (x7 : Int) (x9 : Int) (X : Mem), G C V L 0 0 10 66 [(0, vR V.1 120), (3, vI x3), (4, vJ x4), (6, vI x6), (7, vJ x7), (9, vI x9)] [] X (go66 x3 x4 x6 x7 x9 X)) (x3 : Int) (x4 : Int) (x6 : Int) (x7 : Int) (x9 : Int) (X : Mem)  : G C V L 0 0 10 107 [(0, vR V.1 120), (3, vI x3), (4, vJ x4), (6, vI x6), (7, vJ x7), (9, vI x9)] [] X (B_X12_dredged_107  go49 go66 x3 x4 x6 x7 x9 X) := by
  unfold B_X12_dredged_107
  refine g_iinc (q := 5) hC dX12_dredged_107 rfl (by decide) rfl ?_
  refine g_goto (tgt := 66) hC dX12_dredged_110 (by decide) ?_
  refine g_sub [1, 2, 3, 4, 5, 0] rfl ?_
  exact hgo66 x3 x4 x6 x7 (x9 + 1) X
set_option maxRecDepth 20000 in
theorem gL_X12_dredged_66 {C : Cx} {V : Ev} {L : List Kd} (hC : Ok C V cX12_dredged RX12 10 7 163) (hR : Rt C V L (some .int) rI) (hL : LKm L) {go49 : Int → Int → Int → Mem → Option (Int × Mem)} (hgo49 : ∀ (x3 : Int) (x4 : Int) (x6 : Int) (X : Mem), G C V L 0 0 10 49 [(0, vR V.1 120), (3, vI x3), (4, vJ x4), (6, vI x6)] [] X (go49 x3 x4 x6 X)) : ∀ (n : Nat) (x3 : Int) (x4 : Int) (x6 : Int) (x7 : Int) (x9 : Int) (X : Mem), G C V L 0 0 10 66 [(0, vR V.1 120), (3, vI x3), (4, vJ x4), (6, vI x6), (7, vJ x7), (9, vI x9)] [] X (L_X12_dredged_66  go49 n x3 x4 x6 x7 x9 X) := by
  intro n
  induction n with
  | zero => intro x3 x4 x6 x7 x9 X; exact g_none
  | succ n ih =>
    intro x3 x4 x6 x7 x9 X
    rw [L_X12_dredged_66]
    refine g_iload (q := 5) hC dX12_dredged_66 rfl ?_
    refine g_aload_n (q := 0) hC dX12_dredged_68 rfl rfl rfl ?_
    refine g_callVI (As := []) hC mv_X12_sets wml_RX12_263 (k_X12_sets _ V hL X) cf_X12 (at_120 hL) (by decide) ⟨Nat.zero_le _, Nat.zero_le _⟩ rfl rfl ⟨Nat.le_of_ble_eq_true rfl, Nat.le_of_ble_eq_true rfl⟩ (Nat.le_of_ble_eq_true rfl) dX12_dredged_69 (fun r11 X12 => ?_)
    refine g_icmp_ge (tgt := 113) hC dX12_dredged_72 (by decide) ?_ ?_
    · refine g_sub [0, 1, 2, 3, 4] rfl ?_
      exact gB_X12_dredged_113 hC hR hL hgo49 x3 x4 x6 x7 X12
    · refine g_aload_n (q := 0) hC dX12_dredged_75 rfl rfl rfl ?_
      refine g_getS (k := 30) hC cf_X12 (at_120 hL) (by decide) rfl (by decide) (by decide) wf_RX12_63 dX12_dredged_76 ?_
      refine g_iload (q := 5) hC dX12_dredged_79 rfl ?_
      refine g_iald hC (at_134 hL) (by decide) dX12_dredged_81 ?_
      refine g_iconst (v := vI (-1)) hC dX12_dredged_82 rfl ?_
      refine g_icmp_eq (tgt := 107) hC dX12_dredged_83 (by decide) ?_ ?_
      · exact gB_X12_dredged_107 hC hR hL hgo49 ih x3 x4 x6 x7 x9 X12
      · refine g_lload (q := 4) hC dX12_dredged_86 rfl ?_
        refine g_aload_n (q := 0) hC dX12_dredged_88 rfl rfl rfl ?_
        refine g_iconst (v := vI 0) hC dX12_dredged_89 rfl ?_
        refine g_iload (q := 5) hC dX12_dredged_90 rfl ?_
        refine g_iconst (v := vI 1) hC dX12_dredged_92 rfl ?_
        refine g_iload (q := 3) hC dX12_dredged_93 rfl ?_
        refine g_ishl hC dX12_dredged_95 ?_
        refine g_iconst (v := vI (-1)) hC dX12_dredged_96 rfl ?_
        refine g_ixor hC dX12_dredged_97 ?_
        refine g_iand hC dX12_dredged_98 ?_
        refine g_callVJ (As := [vI 0, vI (ia x9 (ix (ishl 1 x6) ((-1))))]) hC mv_X12_partsOf wml_RX12_308 (k_X12_partsOf _ V hL 0 (ia x9 (ix (ishl 1 x6) ((-1)))) X12) cf_X12 (at_120 hL) (by decide) ⟨Nat.zero_le _, Nat.zero_le _⟩ rfl rfl ⟨Nat.le_of_ble_eq_true rfl, Nat.le_of_ble_eq_true rfl⟩ (Nat.le_of_ble_eq_true rfl) dX12_dredged_99 (fun r13 X14 => ?_)
        refine g_maxl hC wml_RX12_388 (Nat.le_of_ble_eq_true rfl) (Nat.le_of_ble_eq_true rfl) ⟨Nat.zero_le _, Nat.zero_le _⟩ dX12_dredged_102 ?_
        refine g_topJ (fun v15 => ?_)
        refine g_lstore hC dX12_dredged_105 (by decide) rfl ?_
        refine g_sub [1, 2, 3, 4, 0, 5] rfl ?_
        exact gB_X12_dredged_107 hC hR hL hgo49 ih x3 x4 x6 v15 x9 X14
set_option maxRecDepth 20000 in
theorem gL_X12_dredged_49 {C : Cx} {V : Ev} {L : List Kd} (hC : Ok C V cX12_dredged RX12 10 7 163) (hR : Rt C V L (some .int) rI) (hL : LKm L) : ∀ (n : Nat) (x3 : Int) (x4 : Int) (x6 : Int) (X : Mem), G C V L 0 0 10 49 [(0, vR V.1 120), (3, vI x3), (4, vJ x4), (6, vI x6)] [] X (L_X12_dredged_49   n x3 x4 x6 X) := by
  intro n
  induction n with
  | zero => intro x3 x4 x6 X; exact g_none
  | succ n ih =>
    intro x3 x4 x6 X
    rw [L_X12_dredged_49]
    refine g_iload (q := 3) hC dX12_dredged_49 rfl ?_
    refine g_aload_n (q := 0) hC dX12_dredged_51 rfl rfl rfl ?_
    refine g_getS (k := 0) hC cf_X12 (at_120 hL) (by decide) rfl (by decide) (by decide) wf_RX12_7 dX12_dredged_52 ?_
    refine g_iconst (v := vI 2) hC dX12_dredged_55 rfl ?_
    refine g_iald hC (at_121 hL) (by decide) dX12_dredged_56 ?_
    refine g_icmp_ge (tgt := 142) hC dX12_dredged_57 (by decide) ?_ ?_
    · refine g_sub [0, 1, 2] rfl ?_
      exact gB_X12_dredged_142 hC hR hL  x3 x4 X
    · refine g_lconst (v := vJ 0) hC dX12_dredged_60 rfl ?_
      refine g_lstore hC dX12_dredged_61 (by decide) rfl ?_
      refine g_iconst (v := vI 0) hC dX12_dredged_63 rfl ?_
      refine g_istore hC dX12_dredged_64 (by decide) rfl ?_
      refine g_sub [2, 3, 4, 5, 1, 0] rfl ?_
      exact gL_X12_dredged_66 hC hR hL ih KF x3 x4 x6 0 0 X
set_option maxRecDepth 20000 in
theorem k_X12_dredged (l : Launch) (V : Ev) {L : List Kd} (hL : LKm L) (p1 : Int) (p2 : Int) (X : Mem)  : Kt l V L yX12_dredged (.code yX12_dredged cX12_dredged 10 (some .int)) 7 163 [vR V.1 120, vI p1, vI p2] rI X (f_X12_dredged p1 p2 X) := by
  refine kt_of (own := RX12) (lv0 := [(0, vR V.1 120), (1, vI p1), (2, vI p2)]) (by decide) rfl (Nat.le_of_ble_eq_true rfl) rfl (fun C hCl hC hR => ?_)
  subst hCl
  unfold f_X12_dredged
  refine g_aload_n (q := 0) hC dX12_dredged_0 rfl rfl rfl ?_
  refine g_iload_n (q := 1) hC dX12_dredged_1 rfl rfl ?_
  refine g_iload_n (q := 2) hC dX12_dredged_2 rfl rfl ?_
  refine g_callVI (As := [vI p1, vI p2]) hC mv_X12_areCells wml_RX12_378 (k_X12_areCells _ V hL p1 p2 X) cf_X12 (at_120 hL) (by decide) ⟨Nat.zero_le _, Nat.zero_le _⟩ rfl rfl ⟨Nat.le_of_ble_eq_true rfl, Nat.le_of_ble_eq_true rfl⟩ (Nat.le_of_ble_eq_true rfl) dX12_dredged_3 (fun r1 X2 => ?_)
  refine g_if_ne (tgt := 15) hC dX12_dredged_6 (by decide) ?_ ?_
  · refine g_aload_n (q := 0) hC dX12_dredged_15 rfl rfl rfl ?_
    refine g_getS (k := 0) hC cf_X12 (at_120 hL) (by decide) rfl (by decide) (by decide) wf_RX12_7 dX12_dredged_16 ?_
    refine g_iconst (v := vI 2) hC dX12_dredged_19 rfl ?_
    refine g_iald hC (at_121 hL) (by decide) dX12_dredged_20 ?_
    refine g_if_eq (tgt := 34) hC dX12_dredged_21 (by decide) ?_ ?_
    · refine g_sub [0] rfl ?_
      exact gB_X12_dredged_34 hC hR hL  X2
    · refine g_aload_n (q := 0) hC dX12_dredged_24 rfl rfl rfl ?_
      refine g_iload_n (q := 1) hC dX12_dredged_25 rfl rfl ?_
      refine g_iload_n (q := 2) hC dX12_dredged_26 rfl rfl ?_
      refine g_callVI (As := [vI p1, vI p2]) hC mv_X12_surestOf wml_RX12_381 (k_X12_surestOf _ V hL p1 p2 X2) cf_X12 (at_120 hL) (by decide) ⟨Nat.zero_le _, Nat.zero_le _⟩ rfl rfl ⟨Nat.le_of_ble_eq_true rfl, Nat.le_of_ble_eq_true rfl⟩ (Nat.le_of_ble_eq_true rfl) dX12_dredged_27 (fun r5 X6 => ?_)
      refine g_iconst (v := vI (-1)) hC dX12_dredged_30 rfl ?_
      refine g_icmp_ne (tgt := 41) hC dX12_dredged_31 (by decide) ?_ ?_
      · refine g_iconst (v := vI (-1)) hC dX12_dredged_41 rfl ?_
        refine g_istore_n hC dX12_dredged_42 rfl (by decide) rfl ?_
        refine g_lconst (v := vJ 0) hC dX12_dredged_43 rfl ?_
        refine g_lstore hC dX12_dredged_44 (by decide) rfl ?_
        refine g_iconst (v := vI 0) hC dX12_dredged_46 rfl ?_
        refine g_istore hC dX12_dredged_47 (by decide) rfl ?_
        refine g_sub [3, 2, 1, 0] rfl ?_
        exact gL_X12_dredged_49 hC hR hL  KF ((-1)) 0 0 X6
      · refine g_sub [0] rfl ?_
        exact gB_X12_dredged_34 hC hR hL  X6
  · refine g_aload_n (q := 0) hC dX12_dredged_9 rfl rfl rfl ?_
    refine g_iconst (v := vI 1) hC dX12_dredged_10 rfl ?_
    refine g_callVI (As := [vI 1]) hC mv_X12_refuse wml_RX12_185 (k_X12_refuse _ V hL 1 X2) cf_X12 (at_120 hL) (by decide) ⟨Nat.zero_le _, Nat.zero_le _⟩ rfl rfl ⟨Nat.le_of_ble_eq_true rfl, Nat.le_of_ble_eq_true rfl⟩ (Nat.le_of_ble_eq_true rfl) dX12_dredged_11 (fun r16 X17 => ?_)
    exact g_iret hC hR dX12_dredged_14
def B_X12_brush_43  (X : Mem) : Option (Int × Mem) :=
  cl (f_X12_is 1 X) fun r3 X4 =>
  cz r3 (some (r3, X4))
def B_X12_brush_121 (x6 : Int) (s0 : Int) (X : Mem) : Option (Int × Mem) :=
  cl (f_X12_brings X) fun _ X18 =>
  c2 x6 ((-1)) <| if ¬ x6 = ((-1)) then
    cl (f_X12_tellsBy s0 1000000 X18) fun r19 X20 =>
    cz r19 (some (r19, X20))
  else
    cl (f_X12_is 6 X18) fun r21 X22 =>
    cz r21 (some (r21, X22))
def B_X12_brush_96 (x1 : Int) (x2 : Int) (X : Mem) : Option (Int × Mem) :=
  cl (f_X12_surestOf x1 x2 X) fun r13 X14 =>
  c2 r13 ((-1)) <| if ¬ r13 = ((-1)) then
    cl (f_X12_partsOf 0 r13 X14) fun r15 X16 =>
    B_X12_brush_121   r13 r15 X16
  else
    B_X12_brush_121   r13 0 X14
def L_X12_brush_76 : Nat → Int → Int → Int → Int → Int → Int → Mem → Option (Int × Mem)
  | 0, _, _, _, _, _, _, _ => none
  | n + 1, x1, x2, x3, x4, x5, x6, X =>
    c2 x6 x5 <| if x5 ≤ x6 then
      B_X12_brush_96   x1 x2 X
    else
      cl (f_X12_passDay x3 x4 X) fun _ X24 =>
      L_X12_brush_76   n x1 x2 x3 x4 x5 (x6 + 1) X24
def f_X12_brush (p1 : Int) (p2 : Int) (p3 : Int) (p4 : Int) (p5 : Int) (X : Mem) : Option (Int × Mem) :=
  cl (f_X12_areCells p1 p2 X) fun r1 X2 =>
  c1 r1 <| if r1 = 0 then
    B_X12_brush_43   X2
  else
    cl (f_X12_isBar p3 X2) fun r5 X6 =>
    c1 r5 <| if r5 = 0 then
      B_X12_brush_43   X6
    else
      c1 p4 <|
      cl (f_X12_isFrom p4 0 16 X6) fun r7 X8 =>
      c1 r7 <| if r7 = 0 then
        B_X12_brush_43   X8
      else
        c1 p5 <|
        cl (f_X12_isFrom p5 1 9 X8) fun r9 X10 =>
        c1 r9 <| if ¬ r9 = 0 then
          ax 2200 3 <|
          c2 ((X10 121 3) + p5) 99 <| if ((X10 121 3) + p5) ≤ 99 then
            cl (f_X12_keeps X10) fun _ X12 =>
            L_X12_brush_76   KF p1 p2 p3 p4 p5 0 X12
          else
            cl (f_X12_is 4 X10) fun r25 X26 =>
            cz r25 (some (r25, X26))
        else
          B_X12_brush_43   X10
set_option maxRecDepth 20000 in
theorem gB_X12_brush_43 {C : Cx} {V : Ev} {L : List Kd} (hC : Ok C V cX12_brush RX12 9 7 163) (hR : Rt C V L (some .boolean) rI) (hL : LKm L)  (X : Mem)  : G C V L 0 0 9 43 [(0, vR V.1 120)] [] X (B_X12_brush_43    X) := by
  unfold B_X12_brush_43
  refine g_aload_n (q := 0) hC dX12_brush_43 rfl rfl rfl ?_
  refine g_iconst (v := vI 1) hC dX12_brush_44 rfl ?_
  refine g_callVI (As := [vI 1]) hC mv_X12_is wml_RX12_98 (k_X12_is _ V hL 1 X) cf_X12 (at_120 hL) (by decide) ⟨Nat.zero_le _, Nat.zero_le _⟩ rfl rfl ⟨Nat.le_of_ble_eq_true rfl, Nat.le_of_ble_eq_true rfl⟩ (Nat.le_of_ble_eq_true rfl) dX12_brush_45 (fun r3 X4 => ?_)
  exact g_zret hC hR dX12_brush_48
set_option maxRecDepth 20000 in
theorem gB_X12_brush_121 {C : Cx} {V : Ev} {L : List Kd} (hC : Ok C V cX12_brush RX12 9 7 163) (hR : Rt C V L (some .boolean) rI) (hL : LKm L) (x6 : Int) (s0 : Int) (X : Mem)  : G C V L 0 0 9 121 [(0, vR V.1 120), (6, vI x6)] [vJ s0] X (B_X12_brush_121   x6 s0 X) := by
  unfold B_X12_brush_121
  refine g_lstore hC dX12_brush_121 (by decide) rfl ?_
  refine g_aload_n (q := 1) hC dX12_brush_123 rfl rfl rfl ?_
  refine g_callVV (As := []) hC mv_X12_brings wml_RX12_444 (k_X12_brings _ V hL X) cf_X12 (at_120 hL) (by decide) ⟨Nat.zero_le _, Nat.zero_le _⟩ rfl rfl ⟨Nat.le_of_ble_eq_true rfl, Nat.le_of_ble_eq_true rfl⟩ (Nat.le_of_ble_eq_true rfl) dX12_brush_124 (fun _ X18 => ?_)
  refine g_iload (q := 2) hC dX12_brush_127 rfl ?_
  refine g_iconst (v := vI (-1)) hC dX12_brush_129 rfl ?_
  refine g_icmp_ne (tgt := 142) hC dX12_brush_130 (by decide) ?_ ?_
  · refine g_aload_n (q := 1) hC dX12_brush_142 rfl rfl rfl ?_
    refine g_lload (q := 0) hC dX12_brush_143 rfl ?_
    refine g_ldc2 (n := 1000000) hC wk_RX12_300 rfl dX12_brush_145 ?_
    refine g_callVI (As := [vJ s0, vJ 1000000]) hC mv_X12_tellsBy wml_RX12_312 (k_X12_tellsBy _ V hL s0 1000000 X18) cf_X12 (at_120 hL) (by decide) ⟨Nat.zero_le _, Nat.zero_le _⟩ rfl rfl ⟨Nat.le_of_ble_eq_true rfl, Nat.le_of_ble_eq_true rfl⟩ (Nat.le_of_ble_eq_true rfl) dX12_brush_148 (fun r19 X20 => ?_)
    exact g_zret hC hR dX12_brush_151
  · refine g_aload_n (q := 1) hC dX12_brush_133 rfl rfl rfl ?_
    refine g_bipush (v := vI 6) hC dX12_brush_134 rfl ?_
    refine g_callVI (As := [vI 6]) hC mv_X12_is wml_RX12_98 (k_X12_is _ V hL 6 X18) cf_X12 (at_120 hL) (by decide) ⟨Nat.zero_le _, Nat.zero_le _⟩ rfl rfl ⟨Nat.le_of_ble_eq_true rfl, Nat.le_of_ble_eq_true rfl⟩ (Nat.le_of_ble_eq_true rfl) dX12_brush_136 (fun r21 X22 => ?_)
    refine g_goto (tgt := 151) hC dX12_brush_139 (by decide) ?_
    exact g_zret hC hR dX12_brush_151
set_option maxRecDepth 20000 in
theorem gB_X12_brush_96 {C : Cx} {V : Ev} {L : List Kd} (hC : Ok C V cX12_brush RX12 9 7 163) (hR : Rt C V L (some .boolean) rI) (hL : LKm L) (x1 : Int) (x2 : Int) (X : Mem)  : G C V L 0 0 9 96 [(0, vR V.1 120), (1, vI x1), (2, vI x2)] [] X (B_X12_brush_96   x1 x2 X) := by
  unfold B_X12_brush_96
  refine g_aload_n (q := 0) hC dX12_brush_96 rfl rfl rfl ?_
  refine g_iload_n (q := 1) hC dX12_brush_97 rfl rfl ?_
  refine g_iload_n (q := 2) hC dX12_brush_98 rfl rfl ?_
  refine g_callVI (As := [vI x1, vI x2]) hC mv_X12_surestOf wml_RX12_381 (k_X12_surestOf _ V hL x1 x2 X) cf_X12 (at_120 hL) (by decide) ⟨Nat.zero_le _, Nat.zero_le _⟩ rfl rfl ⟨Nat.le_of_ble_eq_true rfl, Nat.le_of_ble_eq_true rfl⟩ (Nat.le_of_ble_eq_true rfl) dX12_brush_99 (fun r13 X14 => ?_)
  refine g_istore hC dX12_brush_102 (by decide) rfl ?_
  refine g_iload (q := 0) hC dX12_brush_104 rfl ?_
  refine g_iconst (v := vI (-1)) hC dX12_brush_106 rfl ?_
  refine g_icmp_ne (tgt := 114) hC dX12_brush_107 (by decide) ?_ ?_
  · refine g_aload_n (q := 1) hC dX12_brush_114 rfl rfl rfl ?_
    refine g_iconst (v := vI 0) hC dX12_brush_115 rfl ?_
    refine g_iload (q := 0) hC dX12_brush_116 rfl ?_
    refine g_callVJ (As := [vI 0, vI r13]) hC mv_X12_partsOf wml_RX12_308 (k_X12_partsOf _ V hL 0 r13 X14) cf_X12 (at_120 hL) (by decide) ⟨Nat.zero_le _, Nat.zero_le _⟩ rfl rfl ⟨Nat.le_of_ble_eq_true rfl, Nat.le_of_ble_eq_true rfl⟩ (Nat.le_of_ble_eq_true rfl) dX12_brush_118 (fun r15 X16 => ?_)
    refine g_sub [1, 0] rfl ?_
    exact gB_X12_brush_121 hC hR hL  r13 r15 X16
  · refine g_lconst (v := vJ 0) hC dX12_brush_110 rfl ?_
    refine g_goto (tgt := 121) hC dX12_brush_111 (by decide) ?_
    refine g_sub [1, 0] rfl ?_
    exact gB_X12_brush_121 hC hR hL  r13 0 X14
set_option maxRecDepth 20000 in
theorem gL_X12_brush_76 {C : Cx} {V : Ev} {L : List Kd} (hC : Ok C V cX12_brush RX12 9 7 163) (hR : Rt C V L (some .boolean) rI) (hL : LKm L) : ∀ (n : Nat) (x1 : Int) (x2 : Int) (x3 : Int) (x4 : Int) (x5 : Int) (x6 : Int) (X : Mem), G C V L 0 0 9 76 [(0, vR V.1 120), (1, vI x1), (2, vI x2), (3, vI x3), (4, vI x4), (5, vI x5), (6, vI x6)] [] X (L_X12_brush_76   n x1 x2 x3 x4 x5 x6 X) := by
  intro n
  induction n with
  | zero => intro x1 x2 x3 x4 x5 x6 X; exact g_none
  | succ n ih =>
    intro x1 x2 x3 x4 x5 x6 X
    rw [L_X12_brush_76]
    refine g_iload (q := 6) hC dX12_brush_76 rfl ?_
    refine g_iload (q := 5) hC dX12_brush_78 rfl ?_
    refine g_icmp_ge (tgt := 96) hC dX12_brush_80 (by decide) ?_ ?_
    · refine g_sub [0, 1, 2] rfl ?_
      exact gB_X12_brush_96 hC hR hL  x1 x2 X
    · refine g_aload_n (q := 0) hC dX12_brush_83 rfl rfl rfl ?_
      refine g_iload_n (q := 3) hC dX12_brush_84 rfl rfl ?_
      refine g_iload (q := 4) hC dX12_brush_85 rfl ?_
      refine g_callVV (As := [vI x3, vI x4]) hC mv_X12_passDay wml_RX12_318 (k_X12_passDay _ V hL x3 x4 X) cf_X12 (at_120 hL) (by decide) ⟨Nat.zero_le _, Nat.zero_le _⟩ rfl rfl ⟨Nat.le_of_ble_eq_true rfl, Nat.le_of_ble_eq_true rfl⟩ (Nat.le_of_ble_eq_true rfl) dX12_brush_87 (fun _ X24 => ?_)
      refine g_iinc (q := 6) hC dX12_brush_90 rfl (by decide) rfl ?_
      refine g_goto (tgt := 76) hC dX12_brush_93 (by decide) ?_
      refine g_sub [1, 2, 3, 4, 5, 6, 0] rfl ?_
      exact ih x1 x2 x3 x4 x5 (x6 + 1) X24
set_option maxRecDepth 20000 in
theorem k_X12_brush (l : Launch) (V : Ev) {L : List Kd} (hL : LKm L) (p1 : Int) (p2 : Int) (p3 : Int) (p4 : Int) (p5 : Int) (X : Mem)  : Kt l V L yX12_brush (.code yX12_brush cX12_brush 9 (some .boolean)) 7 163 [vR V.1 120, vI p1, vI p2, vI p3, vI p4, vI p5] rI X (f_X12_brush p1 p2 p3 p4 p5 X) := by
  refine kt_of (own := RX12) (lv0 := [(0, vR V.1 120), (1, vI p1), (2, vI p2), (3, vI p3), (4, vI p4), (5, vI p5)]) (by decide) rfl (Nat.le_of_ble_eq_true rfl) rfl (fun C hCl hC hR => ?_)
  subst hCl
  unfold f_X12_brush
  refine g_aload_n (q := 0) hC dX12_brush_0 rfl rfl rfl ?_
  refine g_iload_n (q := 1) hC dX12_brush_1 rfl rfl ?_
  refine g_iload_n (q := 2) hC dX12_brush_2 rfl rfl ?_
  refine g_callVI (As := [vI p1, vI p2]) hC mv_X12_areCells wml_RX12_378 (k_X12_areCells _ V hL p1 p2 X) cf_X12 (at_120 hL) (by decide) ⟨Nat.zero_le _, Nat.zero_le _⟩ rfl rfl ⟨Nat.le_of_ble_eq_true rfl, Nat.le_of_ble_eq_true rfl⟩ (Nat.le_of_ble_eq_true rfl) dX12_brush_3 (fun r1 X2 => ?_)
  refine g_if_eq (tgt := 43) hC dX12_brush_6 (by decide) ?_ ?_
  · refine g_sub [0] rfl ?_
    exact gB_X12_brush_43 hC hR hL  X2
  · refine g_aload_n (q := 0) hC dX12_brush_9 rfl rfl rfl ?_
    refine g_iload_n (q := 3) hC dX12_brush_10 rfl rfl ?_
    refine g_callVI (As := [vI p3]) hC mv_X12_isBar wml_RX12_266 (k_X12_isBar _ V hL p3 X2) cf_X12 (at_120 hL) (by decide) ⟨Nat.zero_le _, Nat.zero_le _⟩ rfl rfl ⟨Nat.le_of_ble_eq_true rfl, Nat.le_of_ble_eq_true rfl⟩ (Nat.le_of_ble_eq_true rfl) dX12_brush_11 (fun r5 X6 => ?_)
    refine g_if_eq (tgt := 43) hC dX12_brush_14 (by decide) ?_ ?_
    · refine g_sub [0] rfl ?_
      exact gB_X12_brush_43 hC hR hL  X6
    · refine g_iload (q := 4) hC dX12_brush_17 rfl ?_
      refine g_i2l hC dX12_brush_19 ?_
      refine g_lconst (v := vJ 0) hC dX12_brush_20 rfl ?_
      refine g_ldc2 (n := 16) hC wk_RX12_453 rfl dX12_brush_21 ?_
      refine g_callSI (As := [vJ p4, vJ 0, vJ 16]) hC mt_X12_isFrom wml_RX12_281 (k_X12_isFrom _ V hL p4 0 16 X6) ⟨Nat.zero_le _, Nat.zero_le _⟩ rfl rfl ⟨Nat.le_of_ble_eq_true rfl, Nat.le_of_ble_eq_true rfl⟩ (Nat.le_of_ble_eq_true rfl) dX12_brush_24 (fun r7 X8 => ?_)
      refine g_if_eq (tgt := 43) hC dX12_brush_27 (by decide) ?_ ?_
      · refine g_sub [0] rfl ?_
        exact gB_X12_brush_43 hC hR hL  X8
      · refine g_iload (q := 5) hC dX12_brush_30 rfl ?_
        refine g_i2l hC dX12_brush_32 ?_
        refine g_lconst (v := vJ 1) hC dX12_brush_33 rfl ?_
        refine g_ldc2 (n := 9) hC wk_RX12_316 rfl dX12_brush_34 ?_
        refine g_callSI (As := [vJ p5, vJ 1, vJ 9]) hC mt_X12_isFrom wml_RX12_281 (k_X12_isFrom _ V hL p5 1 9 X8) ⟨Nat.zero_le _, Nat.zero_le _⟩ rfl rfl ⟨Nat.le_of_ble_eq_true rfl, Nat.le_of_ble_eq_true rfl⟩ (Nat.le_of_ble_eq_true rfl) dX12_brush_37 (fun r9 X10 => ?_)
        refine g_if_ne (tgt := 49) hC dX12_brush_40 (by decide) ?_ ?_
        · refine g_aload_n (q := 0) hC dX12_brush_49 rfl rfl rfl ?_
          refine g_getS (k := 0) hC cf_X12 (at_120 hL) (by decide) rfl (by decide) (by decide) wf_RX12_7 dX12_brush_50 ?_
          refine g_iconst (v := vI 3) hC dX12_brush_53 rfl ?_
          refine g_iald hC (at_121 hL) (by decide) dX12_brush_54 ?_
          refine g_iload (q := 5) hC dX12_brush_55 rfl ?_
          refine g_iadd hC dX12_brush_57 ?_
          refine g_bipush (v := vI 99) hC dX12_brush_58 rfl ?_
          refine g_icmp_le (tgt := 69) hC dX12_brush_60 (by decide) ?_ ?_
          · refine g_aload_n (q := 0) hC dX12_brush_69 rfl rfl rfl ?_
            refine g_callVV (As := []) hC mv_X12_keeps wml_RX12_441 (k_X12_keeps _ V hL X10) cf_X12 (at_120 hL) (by decide) ⟨Nat.zero_le _, Nat.zero_le _⟩ rfl rfl ⟨Nat.le_of_ble_eq_true rfl, Nat.le_of_ble_eq_true rfl⟩ (Nat.le_of_ble_eq_true rfl) dX12_brush_70 (fun _ X12 => ?_)
            refine g_iconst (v := vI 0) hC dX12_brush_73 rfl ?_
            refine g_istore hC dX12_brush_74 (by decide) rfl ?_
            refine g_sub [1, 2, 3, 4, 5, 6, 0] rfl ?_
            exact gL_X12_brush_76 hC hR hL  KF p1 p2 p3 p4 p5 0 X12
          · refine g_aload_n (q := 0) hC dX12_brush_63 rfl rfl rfl ?_
            refine g_iconst (v := vI 4) hC dX12_brush_64 rfl ?_
            refine g_callVI (As := [vI 4]) hC mv_X12_is wml_RX12_98 (k_X12_is _ V hL 4 X10) cf_X12 (at_120 hL) (by decide) ⟨Nat.zero_le _, Nat.zero_le _⟩ rfl rfl ⟨Nat.le_of_ble_eq_true rfl, Nat.le_of_ble_eq_true rfl⟩ (Nat.le_of_ble_eq_true rfl) dX12_brush_65 (fun r25 X26 => ?_)
            exact g_zret hC hR dX12_brush_68
        · refine g_sub [0] rfl ?_
          exact gB_X12_brush_43 hC hR hL  X10
def B_X12_lighten_21  (X : Mem) : Option (Int × Mem) :=
  cl (f_X12_refuse 1 X) fun r3 X4 =>
  some (r3, X4)
def B_X12_lighten_112 (x4 : Int) (x5 : Int) (X : Mem) : Option (Int × Mem) :=
  ax 2200 4 <| bd (ms X 121 4 x4) fun X8 =>
  c2 x5 ((-1)) <| if ¬ x5 = ((-1)) then
    cl (f_X12_gives x5 X8) fun r9 X10 =>
    some (r9, X10)
  else
    cl (f_X12_refuse 6 X8) fun r11 X12 =>
    some (r11, X12)
def B_X12_lighten_106 (go41 : Int → Int → Int → Int → Int → Int → Mem → Option (Int × Mem)) (x1 : Int) (x2 : Int) (x3 : Int) (x4 : Int) (x5 : Int) (x6 : Int) (X : Mem) : Option (Int × Mem) :=
  go41 x1 x2 x3 x4 x5 (x6 + 1) X
def L_X12_lighten_41 : Nat → Int → Int → Int → Int → Int → Int → Mem → Option (Int × Mem)
  | 0, _, _, _, _, _, _, _ => none
  | n + 1, x1, x2, x3, x4, x5, x6, X =>
    ax 2200 6 <|
    c2 x6 (X 121 6) <| if (X 121 6) < x6 then
      B_X12_lighten_112   x4 x5 X
    else
      c2 x5 ((-1)) <| if ¬ x5 = ((-1)) then
        B_X12_lighten_112   x4 x5 X
      else
        ax 2200 4 <| bd (ms X 121 4 x6) fun X13 =>
        cl (f_X12_surestOf x1 x2 X13) fun r14 X15 =>
        c2 r14 ((-1)) <| if r14 = ((-1)) then
          B_X12_lighten_106  (fun x1 x2 x3 x4 x5 x6 X => L_X12_lighten_41   n x1 x2 x3 x4 x5 x6 X) x1 x2 x3 x4 x5 x6 X15
        else
          cl (f_X12_partsOf 0 r14 X15) fun r16 X17 =>
          c1 x3 <|
          d2 (16 * r16) (x3 * 1000000) <| if (16 * r16) < (x3 * 1000000) then
            B_X12_lighten_106  (fun x1 x2 x3 x4 x5 x6 X => L_X12_lighten_41   n x1 x2 x3 x4 x5 x6 X) x1 x2 x3 x4 x5 x6 X17
          else
            B_X12_lighten_106  (fun x1 x2 x3 x4 x5 x6 X => L_X12_lighten_41   n x1 x2 x3 x4 x5 x6 X) x1 x2 x3 x4 x6 x6 X17
def f_X12_lighten (p1 : Int) (p2 : Int) (p3 : Int) (X : Mem) : Option (Int × Mem) :=
  cl (f_X12_areCells p1 p2 X) fun r1 X2 =>
  c1 r1 <| if r1 = 0 then
    B_X12_lighten_21   X2
  else
    c1 p3 <|
    cl (f_X12_isFrom p3 1 16 X2) fun r5 X6 =>
    c1 r5 <| if ¬ r5 = 0 then
      ax 2200 4 <|
      bd (X6 121 4) fun v7 =>
      L_X12_lighten_41   KF p1 p2 p3 v7 ((-1)) 0 X6
    else
      B_X12_lighten_21   X6
set_option maxRecDepth 20000 in
theorem gB_X12_lighten_21 {C : Cx} {V : Ev} {L : List Kd} (hC : Ok C V cX12_lighten RX12 8 7 163) (hR : Rt C V L (some .int) rI) (hL : LKm L)  (X : Mem)  : G C V L 0 0 8 21 [(0, vR V.1 120)] [] X (B_X12_lighten_21    X) := by
  unfold B_X12_lighten_21
  refine g_aload_n (q := 0) hC dX12_lighten_21 rfl rfl rfl ?_
  refine g_iconst (v := vI 1) hC dX12_lighten_22 rfl ?_
  refine g_callVI (As := [vI 1]) hC mv_X12_refuse wml_RX12_185 (k_X12_refuse _ V hL 1 X) cf_X12 (at_120 hL) (by decide) ⟨Nat.zero_le _, Nat.zero_le _⟩ rfl rfl ⟨Nat.le_of_ble_eq_true rfl, Nat.le_of_ble_eq_true rfl⟩ (Nat.le_of_ble_eq_true rfl) dX12_lighten_23 (fun r3 X4 => ?_)
  exact g_iret hC hR dX12_lighten_26
set_option maxRecDepth 20000 in
theorem gB_X12_lighten_112 {C : Cx} {V : Ev} {L : List Kd} (hC : Ok C V cX12_lighten RX12 8 7 163) (hR : Rt C V L (some .int) rI) (hL : LKm L) (x4 : Int) (x5 : Int) (X : Mem)  : G C V L 0 0 8 112 [(0, vR V.1 120), (4, vI x4), (5, vI x5)] [] X (B_X12_lighten_112   x4 x5 X) := by
  unfold B_X12_lighten_112
  refine g_aload_n (q := 0) hC dX12_lighten_112 rfl rfl rfl ?_
  refine g_getS (k := 0) hC cf_X12 (at_120 hL) (by decide) rfl (by decide) (by decide) wf_RX12_7 dX12_lighten_113 ?_
  refine g_iconst (v := vI 4) hC dX12_lighten_116 rfl ?_
  refine g_iload (q := 1) hC dX12_lighten_117 rfl ?_
  refine g_iast hC (at_121 hL) (by decide) dX12_lighten_119 (fun X8 => ?_)
  refine g_iload (q := 2) hC dX12_lighten_120 rfl ?_
  refine g_iconst (v := vI (-1)) hC dX12_lighten_122 rfl ?_
  refine g_icmp_ne (tgt := 135) hC dX12_lighten_123 (by decide) ?_ ?_
  · refine g_aload_n (q := 0) hC dX12_lighten_135 rfl rfl rfl ?_
    refine g_iload (q := 2) hC dX12_lighten_136 rfl ?_
    refine g_callVI (As := [vI x5]) hC mv_X12_gives wml_RX12_188 (k_X12_gives _ V hL x5 X8) cf_X12 (at_120 hL) (by decide) ⟨Nat.zero_le _, Nat.zero_le _⟩ rfl rfl ⟨Nat.le_of_ble_eq_true rfl, Nat.le_of_ble_eq_true rfl⟩ (Nat.le_of_ble_eq_true rfl) dX12_lighten_138 (fun r9 X10 => ?_)
    exact g_iret hC hR dX12_lighten_141
  · refine g_aload_n (q := 0) hC dX12_lighten_126 rfl rfl rfl ?_
    refine g_bipush (v := vI 6) hC dX12_lighten_127 rfl ?_
    refine g_callVI (As := [vI 6]) hC mv_X12_refuse wml_RX12_185 (k_X12_refuse _ V hL 6 X8) cf_X12 (at_120 hL) (by decide) ⟨Nat.zero_le _, Nat.zero_le _⟩ rfl rfl ⟨Nat.le_of_ble_eq_true rfl, Nat.le_of_ble_eq_true rfl⟩ (Nat.le_of_ble_eq_true rfl) dX12_lighten_129 (fun r11 X12 => ?_)
    refine g_goto (tgt := 141) hC dX12_lighten_132 (by decide) ?_
    exact g_iret hC hR dX12_lighten_141
set_option maxRecDepth 20000 in
theorem gB_X12_lighten_106 {C : Cx} {V : Ev} {L : List Kd} (hC : Ok C V cX12_lighten RX12 8 7 163) (hR : Rt C V L (some .int) rI) (hL : LKm L) {go41 : Int → Int → Int → Int → Int → Int → Mem → Option (Int × Mem)} (hgo41 : ∀ (x1 : Int) (x2 : Int) (x3 : Int) (x4 : Int) (x5 : Int) (x6 : Int) (X : Mem), G C V L 0 0 8 41 [(0, vR V.1 120), (1, vI x1), (2, vI x2), (3, vI x3), (4, vI x4), (5, vI x5), (6, vI x6)] [] X (go41 x1 x2 x3 x4 x5 x6 X)) (x1 : Int) (x2 : Int) (x3 : Int) (x4 : Int) (x5 : Int) (x6 : Int) (X : Mem)  : G C V L 0 0 8 106 [(0, vR V.1 120), (1, vI x1), (2, vI x2), (3, vI x3), (4, vI x4), (5, vI x5), (6, vI x6)] [] X (B_X12_lighten_106  go41 x1 x2 x3 x4 x5 x6 X) := by
  unfold B_X12_lighten_106
  refine g_iinc (q := 6) hC dX12_lighten_106 rfl (by decide) rfl ?_
  refine g_goto (tgt := 41) hC dX12_lighten_109 (by decide) ?_
  refine g_sub [1, 2, 3, 4, 5, 6, 0] rfl ?_
  exact hgo41 x1 x2 x3 x4 x5 (x6 + 1) X
set_option maxRecDepth 20000 in
theorem gL_X12_lighten_41 {C : Cx} {V : Ev} {L : List Kd} (hC : Ok C V cX12_lighten RX12 8 7 163) (hR : Rt C V L (some .int) rI) (hL : LKm L) : ∀ (n : Nat) (x1 : Int) (x2 : Int) (x3 : Int) (x4 : Int) (x5 : Int) (x6 : Int) (X : Mem), G C V L 0 0 8 41 [(0, vR V.1 120), (1, vI x1), (2, vI x2), (3, vI x3), (4, vI x4), (5, vI x5), (6, vI x6)] [] X (L_X12_lighten_41   n x1 x2 x3 x4 x5 x6 X) := by
  intro n
  induction n with
  | zero => intro x1 x2 x3 x4 x5 x6 X; exact g_none
  | succ n ih =>
    intro x1 x2 x3 x4 x5 x6 X
    rw [L_X12_lighten_41]
    refine g_iload (q := 6) hC dX12_lighten_41 rfl ?_
    refine g_aload_n (q := 0) hC dX12_lighten_43 rfl rfl rfl ?_
    refine g_getS (k := 0) hC cf_X12 (at_120 hL) (by decide) rfl (by decide) (by decide) wf_RX12_7 dX12_lighten_44 ?_
    refine g_bipush (v := vI 6) hC dX12_lighten_47 rfl ?_
    refine g_iald hC (at_121 hL) (by decide) dX12_lighten_49 ?_
    refine g_icmp_gt (tgt := 112) hC dX12_lighten_50 (by decide) ?_ ?_
    · refine g_sub [0, 4, 5] rfl ?_
      exact gB_X12_lighten_112 hC hR hL  x4 x5 X
    · refine g_iload (q := 5) hC dX12_lighten_53 rfl ?_
      refine g_iconst (v := vI (-1)) hC dX12_lighten_55 rfl ?_
      refine g_icmp_ne (tgt := 112) hC dX12_lighten_56 (by decide) ?_ ?_
      · refine g_sub [0, 4, 5] rfl ?_
        exact gB_X12_lighten_112 hC hR hL  x4 x5 X
      · refine g_aload_n (q := 0) hC dX12_lighten_59 rfl rfl rfl ?_
        refine g_getS (k := 0) hC cf_X12 (at_120 hL) (by decide) rfl (by decide) (by decide) wf_RX12_7 dX12_lighten_60 ?_
        refine g_iconst (v := vI 4) hC dX12_lighten_63 rfl ?_
        refine g_iload (q := 6) hC dX12_lighten_64 rfl ?_
        refine g_iast hC (at_121 hL) (by decide) dX12_lighten_66 (fun X13 => ?_)
        refine g_aload_n (q := 0) hC dX12_lighten_67 rfl rfl rfl ?_
        refine g_iload_n (q := 1) hC dX12_lighten_68 rfl rfl ?_
        refine g_iload_n (q := 2) hC dX12_lighten_69 rfl rfl ?_
        refine g_callVI (As := [vI x1, vI x2]) hC mv_X12_surestOf wml_RX12_381 (k_X12_surestOf _ V hL x1 x2 X13) cf_X12 (at_120 hL) (by decide) ⟨Nat.zero_le _, Nat.zero_le _⟩ rfl rfl ⟨Nat.le_of_ble_eq_true rfl, Nat.le_of_ble_eq_true rfl⟩ (Nat.le_of_ble_eq_true rfl) dX12_lighten_70 (fun r14 X15 => ?_)
        refine g_istore hC dX12_lighten_73 (by decide) rfl ?_
        refine g_iload (q := 0) hC dX12_lighten_75 rfl ?_
        refine g_iconst (v := vI (-1)) hC dX12_lighten_77 rfl ?_
        refine g_icmp_eq (tgt := 106) hC dX12_lighten_78 (by decide) ?_ ?_
        · refine g_sub [1, 2, 3, 4, 5, 6, 7] rfl ?_
          exact gB_X12_lighten_106 hC hR hL ih x1 x2 x3 x4 x5 x6 X15
        · refine g_ldc2 (n := 16) hC wk_RX12_453 rfl dX12_lighten_81 ?_
          refine g_aload_n (q := 1) hC dX12_lighten_84 rfl rfl rfl ?_
          refine g_iconst (v := vI 0) hC dX12_lighten_85 rfl ?_
          refine g_iload (q := 0) hC dX12_lighten_86 rfl ?_
          refine g_callVJ (As := [vI 0, vI r14]) hC mv_X12_partsOf wml_RX12_308 (k_X12_partsOf _ V hL 0 r14 X15) cf_X12 (at_120 hL) (by decide) ⟨Nat.zero_le _, Nat.zero_le _⟩ rfl rfl ⟨Nat.le_of_ble_eq_true rfl, Nat.le_of_ble_eq_true rfl⟩ (Nat.le_of_ble_eq_true rfl) dX12_lighten_88 (fun r16 X17 => ?_)
          refine g_lmul hC dX12_lighten_91 ?_
          refine g_iload_n (q := 4) hC dX12_lighten_92 rfl rfl ?_
          refine g_i2l hC dX12_lighten_93 ?_
          refine g_ldc2 (n := 1000000) hC wk_RX12_300 rfl dX12_lighten_94 ?_
          refine g_lmul hC dX12_lighten_97 ?_
          refine g_lcmp_lt (tgt := 106) hC dX12_lighten_98 rfl dX12_lighten_99 (by decide) ?_ ?_
          · refine g_sub [1, 2, 3, 4, 5, 6, 7] rfl ?_
            exact gB_X12_lighten_106 hC hR hL ih x1 x2 x3 x4 x5 x6 X17
          · refine g_iload (q := 7) hC dX12_lighten_102 rfl ?_
            refine g_istore hC dX12_lighten_104 (by decide) rfl ?_
            refine g_sub [2, 3, 4, 5, 6, 0, 7] rfl ?_
            exact gB_X12_lighten_106 hC hR hL ih x1 x2 x3 x4 x6 x6 X17
set_option maxRecDepth 20000 in
theorem k_X12_lighten (l : Launch) (V : Ev) {L : List Kd} (hL : LKm L) (p1 : Int) (p2 : Int) (p3 : Int) (X : Mem)  : Kt l V L yX12_lighten (.code yX12_lighten cX12_lighten 8 (some .int)) 7 163 [vR V.1 120, vI p1, vI p2, vI p3] rI X (f_X12_lighten p1 p2 p3 X) := by
  refine kt_of (own := RX12) (lv0 := [(0, vR V.1 120), (1, vI p1), (2, vI p2), (3, vI p3)]) (by decide) rfl (Nat.le_of_ble_eq_true rfl) rfl (fun C hCl hC hR => ?_)
  subst hCl
  unfold f_X12_lighten
  refine g_aload_n (q := 0) hC dX12_lighten_0 rfl rfl rfl ?_
  refine g_iload_n (q := 1) hC dX12_lighten_1 rfl rfl ?_
  refine g_iload_n (q := 2) hC dX12_lighten_2 rfl rfl ?_
  refine g_callVI (As := [vI p1, vI p2]) hC mv_X12_areCells wml_RX12_378 (k_X12_areCells _ V hL p1 p2 X) cf_X12 (at_120 hL) (by decide) ⟨Nat.zero_le _, Nat.zero_le _⟩ rfl rfl ⟨Nat.le_of_ble_eq_true rfl, Nat.le_of_ble_eq_true rfl⟩ (Nat.le_of_ble_eq_true rfl) dX12_lighten_3 (fun r1 X2 => ?_)
  refine g_if_eq (tgt := 21) hC dX12_lighten_6 (by decide) ?_ ?_
  · refine g_sub [0] rfl ?_
    exact gB_X12_lighten_21 hC hR hL  X2
  · refine g_iload_n (q := 3) hC dX12_lighten_9 rfl rfl ?_
    refine g_i2l hC dX12_lighten_10 ?_
    refine g_lconst (v := vJ 1) hC dX12_lighten_11 rfl ?_
    refine g_ldc2 (n := 16) hC wk_RX12_453 rfl dX12_lighten_12 ?_
    refine g_callSI (As := [vJ p3, vJ 1, vJ 16]) hC mt_X12_isFrom wml_RX12_281 (k_X12_isFrom _ V hL p3 1 16 X2) ⟨Nat.zero_le _, Nat.zero_le _⟩ rfl rfl ⟨Nat.le_of_ble_eq_true rfl, Nat.le_of_ble_eq_true rfl⟩ (Nat.le_of_ble_eq_true rfl) dX12_lighten_15 (fun r5 X6 => ?_)
    refine g_if_ne (tgt := 27) hC dX12_lighten_18 (by decide) ?_ ?_
    · refine g_aload_n (q := 0) hC dX12_lighten_27 rfl rfl rfl ?_
      refine g_getS (k := 0) hC cf_X12 (at_120 hL) (by decide) rfl (by decide) (by decide) wf_RX12_7 dX12_lighten_28 ?_
      refine g_iconst (v := vI 4) hC dX12_lighten_31 rfl ?_
      refine g_iald hC (at_121 hL) (by decide) dX12_lighten_32 ?_
      refine g_topI (fun v7 => ?_)
      refine g_istore hC dX12_lighten_33 (by decide) rfl ?_
      refine g_iconst (v := vI (-1)) hC dX12_lighten_35 rfl ?_
      refine g_istore hC dX12_lighten_36 (by decide) rfl ?_
      refine g_iconst (v := vI 0) hC dX12_lighten_38 rfl ?_
      refine g_istore hC dX12_lighten_39 (by decide) rfl ?_
      refine g_sub [3, 4, 5, 6, 2, 1, 0] rfl ?_
      exact gL_X12_lighten_41 hC hR hL  KF p1 p2 p3 v7 ((-1)) 0 X6
    · refine g_sub [0] rfl ?_
      exact gB_X12_lighten_21 hC hR hL  X6
def f_X12_draw (p1 : Int) (X : Mem) : Option (Int × Mem) :=
  cd (((X 120 41) * 3541) + 8713) 65536 <|
  bd (ms X 120 41 ((((X 120 41) * 3541) + 8713) % 65536)) fun X1 =>
  cd (X1 120 41) 8 <|
  cd ((X1 120 41) / 8) p1 <|
  some (((X1 120 41) / 8) % p1, X1)
set_option maxRecDepth 20000 in
theorem k_X12_draw (l : Launch) (V : Ev) {L : List Kd} (hL : LKm L) (p1 : Int) (X : Mem)  : Kt l V L yX12_draw (.code yX12_draw cX12_draw 2 (some .int)) 0 0 [vR V.1 120, vI p1] rI X (f_X12_draw p1 X) := by
  refine kt_of (own := RX12) (lv0 := [(0, vR V.1 120), (1, vI p1)]) (by decide) rfl (Nat.le_of_ble_eq_true rfl) rfl (fun C hCl hC hR => ?_)
  subst hCl
  unfold f_X12_draw
  refine g_aload_n (q := 0) hC dX12_draw_0 rfl rfl rfl ?_
  refine g_aload_n (q := 0) hC dX12_draw_1 rfl rfl rfl ?_
  refine g_getI (k := 41) (kz := 41) hC cf_X12 (at_120 hL) (by decide) rfl (by decide) rfl wf_RX12_455 dX12_draw_2 ?_
  refine g_sipush (v := vI 3541) hC dX12_draw_5 rfl ?_
  refine g_imul hC dX12_draw_8 ?_
  refine g_sipush (v := vI 8713) hC dX12_draw_9 rfl ?_
  refine g_iadd hC dX12_draw_12 ?_
  refine g_ldcw (n := 65536) hC wk_RX12_458 rfl dX12_draw_13 ?_
  refine g_irem hC dX12_draw_16 ?_
  refine g_putI (k := 41) (kz := 41) hC cf_X12 (at_120 hL) (by decide) rfl (by decide) rfl wf_RX12_455 rfl rfl dX12_draw_17 (fun X1 => ?_)
  refine g_aload_n (q := 0) hC dX12_draw_20 rfl rfl rfl ?_
  refine g_getI (k := 41) (kz := 41) hC cf_X12 (at_120 hL) (by decide) rfl (by decide) rfl wf_RX12_455 dX12_draw_21 ?_
  refine g_bipush (v := vI 8) hC dX12_draw_24 rfl ?_
  refine g_idiv hC dX12_draw_26 ?_
  refine g_iload_n (q := 1) hC dX12_draw_27 rfl rfl ?_
  refine g_irem hC dX12_draw_28 ?_
  exact g_iret hC hR dX12_draw_29
def L_X12_drawTruth_18 : Nat → Int → Int → Int → Mem → Option (Int × Mem)
  | 0, _, _, _, _ => none
  | n + 1, x1, x2, x4, X =>
    cl (f_X12_sets X) fun r4 X5 =>
    c2 x4 r4 <| if r4 ≤ x4 then
      some (0, X5)
    else
      ax 2200 (168 + x4) <|
      c1 (X5 121 (168 + x4)) <|
      bd (x2 + (X5 121 (168 + x4))) fun v6 =>
      bd (ms X5 120 42 x4) fun X7 =>
      dd v6 1000 <|
      c1 x1 <|
      d2 (v6 / 1000) x1 <| if (v6 / 1000) ≤ x1 then
        L_X12_drawTruth_18   n x1 v6 (x4 + 1) X7
      else
        some (0, X7)
def f_X12_drawTruth  (X : Mem) : Option (Int × Mem) :=
  cl (f_X12_draw 1000 X) fun r1 X2 =>
  bd (ms X2 120 42 0) fun X3 =>
  L_X12_drawTruth_18   KF r1 0 0 X3
set_option maxRecDepth 20000 in
theorem gL_X12_drawTruth_18 {C : Cx} {V : Ev} {L : List Kd} (hC : Ok C V cX12_drawTruth RX12 5 1 21) (hR : Rt C V L none rV) (hL : LKm L) : ∀ (n : Nat) (x1 : Int) (x2 : Int) (x4 : Int) (X : Mem), G C V L 0 0 5 18 [(0, vR V.1 120), (1, vI x1), (2, vJ x2), (4, vI x4)] [] X (L_X12_drawTruth_18   n x1 x2 x4 X) := by
  intro n
  induction n with
  | zero => intro x1 x2 x4 X; exact g_none
  | succ n ih =>
    intro x1 x2 x4 X
    rw [L_X12_drawTruth_18]
    refine g_iload (q := 3) hC dX12_drawTruth_18 rfl ?_
    refine g_aload_n (q := 0) hC dX12_drawTruth_20 rfl rfl rfl ?_
    refine g_callVI (As := []) hC mv_X12_sets wml_RX12_263 (k_X12_sets _ V hL X) cf_X12 (at_120 hL) (by decide) ⟨Nat.zero_le _, Nat.zero_le _⟩ rfl rfl ⟨Nat.le_of_ble_eq_true rfl, Nat.le_of_ble_eq_true rfl⟩ (Nat.le_of_ble_eq_true rfl) dX12_drawTruth_21 (fun r4 X5 => ?_)
    refine g_icmp_ge (tgt := 66) hC dX12_drawTruth_24 (by decide) ?_ ?_
    · exact g_vret hC hR dX12_drawTruth_66
    · refine g_lload_n (q := 2) hC dX12_drawTruth_27 rfl rfl ?_
      refine g_aload_n (q := 0) hC dX12_drawTruth_28 rfl rfl rfl ?_
      refine g_getS (k := 0) hC cf_X12 (at_120 hL) (by decide) rfl (by decide) (by decide) wf_RX12_7 dX12_drawTruth_29 ?_
      refine g_sipush (v := vI 168) hC dX12_drawTruth_32 rfl ?_
      refine g_iload (q := 3) hC dX12_drawTruth_35 rfl ?_
      refine g_iadd hC dX12_drawTruth_37 ?_
      refine g_iald hC (at_121 hL) (by decide) dX12_drawTruth_38 ?_
      refine g_i2l hC dX12_drawTruth_39 ?_
      refine g_ladd hC dX12_drawTruth_40 ?_
      refine g_topJ (fun v6 => ?_)
      refine g_lstore_n hC dX12_drawTruth_41 rfl (by decide) rfl ?_
      refine g_aload_n (q := 1) hC dX12_drawTruth_42 rfl rfl rfl ?_
      refine g_iload (q := 3) hC dX12_drawTruth_43 rfl ?_
      refine g_putI (k := 42) (kz := 42) hC cf_X12 (at_120 hL) (by decide) rfl (by decide) rfl wf_RX12_462 rfl rfl dX12_drawTruth_45 (fun X7 => ?_)
      refine g_lload_n (q := 0) hC dX12_drawTruth_48 rfl rfl ?_
      refine g_ldc2 (n := 1000) hC wk_RX12_465 rfl dX12_drawTruth_49 ?_
      refine g_ldiv hC dX12_drawTruth_52 ?_
      refine g_iload_n (q := 2) hC dX12_drawTruth_53 rfl rfl ?_
      refine g_i2l hC dX12_drawTruth_54 ?_
      refine g_lcmp_le (tgt := 60) hC dX12_drawTruth_55 rfl dX12_drawTruth_56 (by decide) ?_ ?_
      · refine g_iinc (q := 3) hC dX12_drawTruth_60 rfl (by decide) rfl ?_
        refine g_goto (tgt := 18) hC dX12_drawTruth_63 (by decide) ?_
        refine g_sub [2, 3, 1, 0] rfl ?_
        exact ih x1 v6 (x4 + 1) X7
      · exact g_vret hC hR dX12_drawTruth_59
set_option maxRecDepth 20000 in
theorem k_X12_drawTruth (l : Launch) (V : Ev) {L : List Kd} (hL : LKm L)  (X : Mem)  : Kt l V L yX12_drawTruth (.code yX12_drawTruth cX12_drawTruth 5 none) 1 21 [vR V.1 120] rV X (f_X12_drawTruth  X) := by
  refine kt_of (own := RX12) (lv0 := [(0, vR V.1 120)]) (by decide) rfl (Nat.le_of_ble_eq_true rfl) rfl (fun C hCl hC hR => ?_)
  subst hCl
  unfold f_X12_drawTruth
  refine g_aload_n (q := 0) hC dX12_drawTruth_0 rfl rfl rfl ?_
  refine g_sipush (v := vI 1000) hC dX12_drawTruth_1 rfl ?_
  refine g_callVI (As := [vI 1000]) hC mv_X12_draw wml_RX12_459 (k_X12_draw _ V hL 1000 X) cf_X12 (at_120 hL) (by decide) ⟨Nat.zero_le _, Nat.zero_le _⟩ rfl rfl ⟨Nat.le_of_ble_eq_true rfl, Nat.le_of_ble_eq_true rfl⟩ (Nat.le_of_ble_eq_true rfl) dX12_drawTruth_4 (fun r1 X2 => ?_)
  refine g_istore_n hC dX12_drawTruth_7 rfl (by decide) rfl ?_
  refine g_lconst (v := vJ 0) hC dX12_drawTruth_8 rfl ?_
  refine g_lstore_n hC dX12_drawTruth_9 rfl (by decide) rfl ?_
  refine g_aload_n (q := 2) hC dX12_drawTruth_10 rfl rfl rfl ?_
  refine g_iconst (v := vI 0) hC dX12_drawTruth_11 rfl ?_
  refine g_putI (k := 42) (kz := 42) hC cf_X12 (at_120 hL) (by decide) rfl (by decide) rfl wf_RX12_462 rfl rfl dX12_drawTruth_12 (fun X3 => ?_)
  refine g_iconst (v := vI 0) hC dX12_drawTruth_15 rfl ?_
  refine g_istore hC dX12_drawTruth_16 (by decide) rfl ?_
  refine g_sub [3, 2, 1, 0] rfl ?_
  exact gL_X12_drawTruth_18 hC hR hL  KF r1 0 0 X3
def B_X12_soundsAt_80 (s0 : Int) (s1 : Int) (X : Mem) : Option (Int × Mem) :=
  cl (f_X12_sounds s1 s0 X) fun r7 X8 =>
  some (0, X8)
def f_X12_soundsAt (p1 : Int) (X : Mem) : Option (Int × Mem) :=
  bd (ms X 120 43 ((X 120 43) + 30)) fun X1 =>
  bd (ms X1 120 45 ((X1 120 45) + 1)) fun X2 =>
  cl (f_X12_draw 32 X2) fun r3 X4 =>
  cl (f_X12_depthOf p1 (X4 120 42) X4) fun r5 X6 =>
  ax 2200 11 <|
  c2 r3 (2 * (X6 121 11)) <| if (2 * (X6 121 11)) ≤ r3 then
    ax 2200 11 <|
    c2 r3 (16 + (X6 121 11)) <| if (16 + (X6 121 11)) ≤ r3 then
      B_X12_soundsAt_80   (r5 - 1) p1 X6
    else
      B_X12_soundsAt_80   (r5 + 1) p1 X6
  else
    B_X12_soundsAt_80   r5 p1 X6
set_option maxRecDepth 20000 in
theorem gB_X12_soundsAt_80 {C : Cx} {V : Ev} {L : List Kd} (hC : Ok C V cX12_soundsAt RX12 4 3 68) (hR : Rt C V L none rV) (hL : LKm L) (s0 : Int) (s1 : Int) (X : Mem)  : G C V L 0 0 4 80 [] [vI s0, vI s1, vR V.1 120] X (B_X12_soundsAt_80   s0 s1 X) := by
  unfold B_X12_soundsAt_80
  refine g_callVI (As := [vI s1, vI s0]) hC mv_X12_sounds wml_RX12_326 (k_X12_sounds _ V hL s1 s0 X) cf_X12 (at_120 hL) (by decide) ⟨Nat.zero_le _, Nat.zero_le _⟩ rfl rfl ⟨Nat.le_of_ble_eq_true rfl, Nat.le_of_ble_eq_true rfl⟩ (Nat.le_of_ble_eq_true rfl) dX12_soundsAt_80 (fun r7 X8 => ?_)
  refine g_pop hC dX12_soundsAt_83 rfl ?_
  exact g_vret hC hR dX12_soundsAt_84
set_option maxRecDepth 20000 in
theorem k_X12_soundsAt (l : Launch) (V : Ev) {L : List Kd} (hL : LKm L) (p1 : Int) (X : Mem)  : Kt l V L yX12_soundsAt (.code yX12_soundsAt cX12_soundsAt 4 none) 3 68 [vR V.1 120, vI p1] rV X (f_X12_soundsAt p1 X) := by
  refine kt_of (own := RX12) (lv0 := [(0, vR V.1 120), (1, vI p1)]) (by decide) rfl (Nat.le_of_ble_eq_true rfl) rfl (fun C hCl hC hR => ?_)
  subst hCl
  unfold f_X12_soundsAt
  refine g_aload_n (q := 0) hC dX12_soundsAt_0 rfl rfl rfl ?_
  refine g_dup hC dX12_soundsAt_1 rfl ?_
  refine g_getI (k := 43) (kz := 43) hC cf_X12 (at_120 hL) (by decide) rfl (by decide) rfl wf_RX12_467 dX12_soundsAt_2 ?_
  refine g_bipush (v := vI 30) hC dX12_soundsAt_5 rfl ?_
  refine g_iadd hC dX12_soundsAt_7 ?_
  refine g_putI (k := 43) (kz := 43) hC cf_X12 (at_120 hL) (by decide) rfl (by decide) rfl wf_RX12_467 rfl rfl dX12_soundsAt_8 (fun X1 => ?_)
  refine g_aload_n (q := 0) hC dX12_soundsAt_11 rfl rfl rfl ?_
  refine g_dup hC dX12_soundsAt_12 rfl ?_
  refine g_getI (k := 45) (kz := 45) hC cf_X12 (at_120 hL) (by decide) rfl (by decide) rfl wf_RX12_470 dX12_soundsAt_13 ?_
  refine g_iconst (v := vI 1) hC dX12_soundsAt_16 rfl ?_
  refine g_iadd hC dX12_soundsAt_17 ?_
  refine g_putI (k := 45) (kz := 45) hC cf_X12 (at_120 hL) (by decide) rfl (by decide) rfl wf_RX12_470 rfl rfl dX12_soundsAt_18 (fun X2 => ?_)
  refine g_aload_n (q := 0) hC dX12_soundsAt_21 rfl rfl rfl ?_
  refine g_bipush (v := vI 32) hC dX12_soundsAt_22 rfl ?_
  refine g_callVI (As := [vI 32]) hC mv_X12_draw wml_RX12_459 (k_X12_draw _ V hL 32 X2) cf_X12 (at_120 hL) (by decide) ⟨Nat.zero_le _, Nat.zero_le _⟩ rfl rfl ⟨Nat.le_of_ble_eq_true rfl, Nat.le_of_ble_eq_true rfl⟩ (Nat.le_of_ble_eq_true rfl) dX12_soundsAt_24 (fun r3 X4 => ?_)
  refine g_istore_n hC dX12_soundsAt_27 rfl (by decide) rfl ?_
  refine g_aload_n (q := 1) hC dX12_soundsAt_28 rfl rfl rfl ?_
  refine g_iload_n (q := 2) hC dX12_soundsAt_29 rfl rfl ?_
  refine g_aload_n (q := 1) hC dX12_soundsAt_30 rfl rfl rfl ?_
  refine g_getI (k := 42) (kz := 42) hC cf_X12 (at_120 hL) (by decide) rfl (by decide) rfl wf_RX12_462 dX12_soundsAt_31 ?_
  refine g_callVI (As := [vI p1, vI (X4 120 42)]) hC mv_X12_depthOf wml_RX12_291 (k_X12_depthOf _ V hL p1 (X4 120 42) X4) cf_X12 (at_120 hL) (by decide) ⟨Nat.zero_le _, Nat.zero_le _⟩ rfl rfl ⟨Nat.le_of_ble_eq_true rfl, Nat.le_of_ble_eq_true rfl⟩ (Nat.le_of_ble_eq_true rfl) dX12_soundsAt_34 (fun r5 X6 => ?_)
  refine g_istore_n hC dX12_soundsAt_37 rfl (by decide) rfl ?_
  refine g_aload_n (q := 2) hC dX12_soundsAt_38 rfl rfl rfl ?_
  refine g_iload_n (q := 3) hC dX12_soundsAt_39 rfl rfl ?_
  refine g_iload_n (q := 1) hC dX12_soundsAt_40 rfl rfl ?_
  refine g_iconst (v := vI 2) hC dX12_soundsAt_41 rfl ?_
  refine g_aload_n (q := 2) hC dX12_soundsAt_42 rfl rfl rfl ?_
  refine g_getS (k := 0) hC cf_X12 (at_120 hL) (by decide) rfl (by decide) (by decide) wf_RX12_7 dX12_soundsAt_43 ?_
  refine g_bipush (v := vI 11) hC dX12_soundsAt_46 rfl ?_
  refine g_iald hC (at_121 hL) (by decide) dX12_soundsAt_48 ?_
  refine g_imul hC dX12_soundsAt_49 ?_
  refine g_icmp_ge (tgt := 57) hC dX12_soundsAt_50 (by decide) ?_ ?_
  · refine g_iload_n (q := 1) hC dX12_soundsAt_57 rfl rfl ?_
    refine g_bipush (v := vI 16) hC dX12_soundsAt_58 rfl ?_
    refine g_aload_n (q := 2) hC dX12_soundsAt_60 rfl rfl rfl ?_
    refine g_getS (k := 0) hC cf_X12 (at_120 hL) (by decide) rfl (by decide) (by decide) wf_RX12_7 dX12_soundsAt_61 ?_
    refine g_bipush (v := vI 11) hC dX12_soundsAt_64 rfl ?_
    refine g_iald hC (at_121 hL) (by decide) dX12_soundsAt_66 ?_
    refine g_iadd hC dX12_soundsAt_67 ?_
    refine g_icmp_ge (tgt := 77) hC dX12_soundsAt_68 (by decide) ?_ ?_
    · refine g_iload_n (q := 0) hC dX12_soundsAt_77 rfl rfl ?_
      refine g_iconst (v := vI 1) hC dX12_soundsAt_78 rfl ?_
      refine g_isub hC dX12_soundsAt_79 ?_
      refine g_sub [] rfl ?_
      exact gB_X12_soundsAt_80 hC hR hL  (r5 - 1) p1 X6
    · refine g_iload_n (q := 0) hC dX12_soundsAt_71 rfl rfl ?_
      refine g_iconst (v := vI 1) hC dX12_soundsAt_72 rfl ?_
      refine g_iadd hC dX12_soundsAt_73 ?_
      refine g_goto (tgt := 80) hC dX12_soundsAt_74 (by decide) ?_
      refine g_sub [] rfl ?_
      exact gB_X12_soundsAt_80 hC hR hL  (r5 + 1) p1 X6
  · refine g_iload_n (q := 0) hC dX12_soundsAt_53 rfl rfl ?_
    refine g_goto (tgt := 80) hC dX12_soundsAt_54 (by decide) ?_
    refine g_sub [] rfl ?_
    exact gB_X12_soundsAt_80 hC hR hL  r5 p1 X6
def B_X12_coloursAt_59 (s0 : Int) (s1 : Int) (X : Mem) : Option (Int × Mem) :=
  cl (f_X12_colours s1 s0 X) fun r4 X5 =>
  some (0, X5)
def B_X12_coloursAt_27 (x1 : Int) (s0 : Int) (X : Mem) : Option (Int × Mem) :=
  cl (f_X12_draw 16 X) fun r2 X3 =>
  ax 2200 12 <|
  c2 r2 (X3 121 12) <| if (X3 121 12) ≤ r2 then
    c1 s0 <| if ¬ s0 = 0 then
      B_X12_coloursAt_59   0 x1 X3
    else
      B_X12_coloursAt_59   1 x1 X3
  else
    B_X12_coloursAt_59   s0 x1 X3
def f_X12_coloursAt (p1 : Int) (p2 : Int) (X : Mem) : Option (Int × Mem) :=
  bd (ms X 120 43 ((X 120 43) + 5)) fun X1 =>
  c2 (ia (ishr (X1 120 42) p2) 1) 1 <| if ¬ (ia (ishr (X1 120 42) p2) 1) = 1 then
    B_X12_coloursAt_27   p1 0 X1
  else
    B_X12_coloursAt_27   p1 1 X1
set_option maxRecDepth 20000 in
theorem gB_X12_coloursAt_59 {C : Cx} {V : Ev} {L : List Kd} (hC : Ok C V cX12_coloursAt RX12 4 3 70) (hR : Rt C V L none rV) (hL : LKm L) (s0 : Int) (s1 : Int) (X : Mem)  : G C V L 0 0 4 59 [] [vI s0, vI s1, vR V.1 120] X (B_X12_coloursAt_59   s0 s1 X) := by
  unfold B_X12_coloursAt_59
  refine g_callVI (As := [vI s1, vI s0]) hC mv_X12_colours wml_RX12_329 (k_X12_colours _ V hL s1 s0 X) cf_X12 (at_120 hL) (by decide) ⟨Nat.zero_le _, Nat.zero_le _⟩ rfl rfl ⟨Nat.le_of_ble_eq_true rfl, Nat.le_of_ble_eq_true rfl⟩ (Nat.le_of_ble_eq_true rfl) dX12_coloursAt_59 (fun r4 X5 => ?_)
  refine g_pop hC dX12_coloursAt_62 rfl ?_
  exact g_vret hC hR dX12_coloursAt_63
set_option maxRecDepth 20000 in
theorem gB_X12_coloursAt_27 {C : Cx} {V : Ev} {L : List Kd} (hC : Ok C V cX12_coloursAt RX12 4 3 70) (hR : Rt C V L none rV) (hL : LKm L) (x1 : Int) (s0 : Int) (X : Mem)  : G C V L 0 0 4 27 [(0, vR V.1 120), (1, vI x1)] [vI s0] X (B_X12_coloursAt_27   x1 s0 X) := by
  unfold B_X12_coloursAt_27
  refine g_istore_n hC dX12_coloursAt_27 rfl (by decide) rfl ?_
  refine g_aload_n (q := 1) hC dX12_coloursAt_28 rfl rfl rfl ?_
  refine g_iload_n (q := 2) hC dX12_coloursAt_29 rfl rfl ?_
  refine g_aload_n (q := 1) hC dX12_coloursAt_30 rfl rfl rfl ?_
  refine g_bipush (v := vI 16) hC dX12_coloursAt_31 rfl ?_
  refine g_callVI (As := [vI 16]) hC mv_X12_draw wml_RX12_459 (k_X12_draw _ V hL 16 X) cf_X12 (at_120 hL) (by decide) ⟨Nat.zero_le _, Nat.zero_le _⟩ rfl rfl ⟨Nat.le_of_ble_eq_true rfl, Nat.le_of_ble_eq_true rfl⟩ (Nat.le_of_ble_eq_true rfl) dX12_coloursAt_33 (fun r2 X3 => ?_)
  refine g_aload_n (q := 1) hC dX12_coloursAt_36 rfl rfl rfl ?_
  refine g_getS (k := 0) hC cf_X12 (at_120 hL) (by decide) rfl (by decide) (by decide) wf_RX12_7 dX12_coloursAt_37 ?_
  refine g_bipush (v := vI 12) hC dX12_coloursAt_40 rfl ?_
  refine g_iald hC (at_121 hL) (by decide) dX12_coloursAt_42 ?_
  refine g_icmp_ge (tgt := 50) hC dX12_coloursAt_43 (by decide) ?_ ?_
  · refine g_iload_n (q := 0) hC dX12_coloursAt_50 rfl rfl ?_
    refine g_if_ne (tgt := 58) hC dX12_coloursAt_51 (by decide) ?_ ?_
    · refine g_iconst (v := vI 0) hC dX12_coloursAt_58 rfl ?_
      refine g_sub [] rfl ?_
      exact gB_X12_coloursAt_59 hC hR hL  0 x1 X3
    · refine g_iconst (v := vI 1) hC dX12_coloursAt_54 rfl ?_
      refine g_goto (tgt := 59) hC dX12_coloursAt_55 (by decide) ?_
      refine g_sub [] rfl ?_
      exact gB_X12_coloursAt_59 hC hR hL  1 x1 X3
  · refine g_iload_n (q := 0) hC dX12_coloursAt_46 rfl rfl ?_
    refine g_goto (tgt := 59) hC dX12_coloursAt_47 (by decide) ?_
    refine g_sub [] rfl ?_
    exact gB_X12_coloursAt_59 hC hR hL  s0 x1 X3
set_option maxRecDepth 20000 in
theorem k_X12_coloursAt (l : Launch) (V : Ev) {L : List Kd} (hL : LKm L) (p1 : Int) (p2 : Int) (X : Mem)  : Kt l V L yX12_coloursAt (.code yX12_coloursAt cX12_coloursAt 4 none) 3 70 [vR V.1 120, vI p1, vI p2] rV X (f_X12_coloursAt p1 p2 X) := by
  refine kt_of (own := RX12) (lv0 := [(0, vR V.1 120), (1, vI p1), (2, vI p2)]) (by decide) rfl (Nat.le_of_ble_eq_true rfl) rfl (fun C hCl hC hR => ?_)
  subst hCl
  unfold f_X12_coloursAt
  refine g_aload_n (q := 0) hC dX12_coloursAt_0 rfl rfl rfl ?_
  refine g_dup hC dX12_coloursAt_1 rfl ?_
  refine g_getI (k := 43) (kz := 43) hC cf_X12 (at_120 hL) (by decide) rfl (by decide) rfl wf_RX12_467 dX12_coloursAt_2 ?_
  refine g_iconst (v := vI 5) hC dX12_coloursAt_5 rfl ?_
  refine g_iadd hC dX12_coloursAt_6 ?_
  refine g_putI (k := 43) (kz := 43) hC cf_X12 (at_120 hL) (by decide) rfl (by decide) rfl wf_RX12_467 rfl rfl dX12_coloursAt_7 (fun X1 => ?_)
  refine g_aload_n (q := 0) hC dX12_coloursAt_10 rfl rfl rfl ?_
  refine g_getI (k := 42) (kz := 42) hC cf_X12 (at_120 hL) (by decide) rfl (by decide) rfl wf_RX12_462 dX12_coloursAt_11 ?_
  refine g_iload_n (q := 2) hC dX12_coloursAt_14 rfl rfl ?_
  refine g_ishr hC dX12_coloursAt_15 ?_
  refine g_iconst (v := vI 1) hC dX12_coloursAt_16 rfl ?_
  refine g_iand hC dX12_coloursAt_17 ?_
  refine g_iconst (v := vI 1) hC dX12_coloursAt_18 rfl ?_
  refine g_icmp_ne (tgt := 26) hC dX12_coloursAt_19 (by decide) ?_ ?_
  · refine g_iconst (v := vI 0) hC dX12_coloursAt_26 rfl ?_
    refine g_sub [0, 1] rfl ?_
    exact gB_X12_coloursAt_27 hC hR hL  p1 0 X1
  · refine g_iconst (v := vI 1) hC dX12_coloursAt_22 rfl ?_
    refine g_goto (tgt := 27) hC dX12_coloursAt_23 (by decide) ?_
    refine g_sub [0, 1] rfl ?_
    exact gB_X12_coloursAt_27 hC hR hL  p1 1 X1
def B_X12_waits_93  (X : Mem) : Option (Int × Mem) :=
  cl (f_X12_passDay ((-1)) 0 X) fun _ X4 =>
  some (0, X4)
def B_X12_waits_87 (go24 : Int → Mem → Option (Int × Mem)) (x1 : Int) (X : Mem) : Option (Int × Mem) :=
  go24 (x1 + 1) X
def B_X12_waits_69 (go24 : Int → Mem → Option (Int × Mem)) (x1 : Int) (s0 : Int) (s1 : Int) (s3 : Int) (X : Mem) : Option (Int × Mem) :=
  cl (f_X12_ofBar s1 s0 X) fun r7 X8 =>
  c2 s3 r7 <| if r7 ≤ s3 then
    B_X12_waits_87  go24 x1 X8
  else
    bd (ms X8 120 42 (ix (X8 120 42) (ishl 1 x1))) fun X9 =>
    B_X12_waits_87  go24 x1 X9
def B_X12_waits_51 (go24 : Int → Mem → Option (Int × Mem)) (x1 : Int) (s0 : Int) (X : Mem) : Option (Int × Mem) :=
  cl (f_X12_draw 16 X) fun r5 X6 =>
  c1 s0 <| if s0 = 0 then
    B_X12_waits_69  go24 x1 3 x1 r5 X6
  else
    B_X12_waits_69  go24 x1 2 x1 r5 X6
def L_X12_waits_24 : Nat → Int → Mem → Option (Int × Mem)
  | 0, _, _ => none
  | n + 1, x1, X =>
    ax 2200 2 <|
    c2 x1 (X 121 2) <| if (X 121 2) ≤ x1 then
      B_X12_waits_93   X
    else
      c2 (ia (ishr (X 120 42) x1) 1) 1 <| if ¬ (ia (ishr (X 120 42) x1) 1) = 1 then
        B_X12_waits_51  (fun x1 X => L_X12_waits_24   n x1 X) x1 0 X
      else
        B_X12_waits_51  (fun x1 X => L_X12_waits_24   n x1 X) x1 1 X
def f_X12_waits  (X : Mem) : Option (Int × Mem) :=
  bd (ms X 120 43 ((X 120 43) + 1440)) fun X1 =>
  bd (ms X1 120 46 ((X1 120 46) + 1)) fun X2 =>
  L_X12_waits_24   KF 0 X2
set_option maxRecDepth 20000 in
theorem gB_X12_waits_93 {C : Cx} {V : Ev} {L : List Kd} (hC : Ok C V cX12_waits RX12 3 3 73) (hR : Rt C V L none rV) (hL : LKm L)  (X : Mem)  : G C V L 0 0 3 93 [(0, vR V.1 120)] [] X (B_X12_waits_93    X) := by
  unfold B_X12_waits_93
  refine g_aload_n (q := 0) hC dX12_waits_93 rfl rfl rfl ?_
  refine g_iconst (v := vI (-1)) hC dX12_waits_94 rfl ?_
  refine g_iconst (v := vI 0) hC dX12_waits_95 rfl ?_
  refine g_callVV (As := [vI ((-1)), vI 0]) hC mv_X12_passDay wml_RX12_318 (k_X12_passDay _ V hL ((-1)) 0 X) cf_X12 (at_120 hL) (by decide) ⟨Nat.zero_le _, Nat.zero_le _⟩ rfl rfl ⟨Nat.le_of_ble_eq_true rfl, Nat.le_of_ble_eq_true rfl⟩ (Nat.le_of_ble_eq_true rfl) dX12_waits_96 (fun _ X4 => ?_)
  exact g_vret hC hR dX12_waits_99
set_option maxRecDepth 20000 in
theorem gB_X12_waits_87 {C : Cx} {V : Ev} {L : List Kd} (hC : Ok C V cX12_waits RX12 3 3 73) (hR : Rt C V L none rV) (hL : LKm L) {go24 : Int → Mem → Option (Int × Mem)} (hgo24 : ∀ (x1 : Int) (X : Mem), G C V L 0 0 3 24 [(0, vR V.1 120), (1, vI x1)] [] X (go24 x1 X)) (x1 : Int) (X : Mem)  : G C V L 0 0 3 87 [(0, vR V.1 120), (1, vI x1)] [] X (B_X12_waits_87  go24 x1 X) := by
  unfold B_X12_waits_87
  refine g_iinc (q := 1) hC dX12_waits_87 rfl (by decide) rfl ?_
  refine g_goto (tgt := 24) hC dX12_waits_90 (by decide) ?_
  refine g_sub [1, 0] rfl ?_
  exact hgo24 (x1 + 1) X
set_option maxRecDepth 20000 in
theorem gB_X12_waits_69 {C : Cx} {V : Ev} {L : List Kd} (hC : Ok C V cX12_waits RX12 3 3 73) (hR : Rt C V L none rV) (hL : LKm L) {go24 : Int → Mem → Option (Int × Mem)} (hgo24 : ∀ (x1 : Int) (X : Mem), G C V L 0 0 3 24 [(0, vR V.1 120), (1, vI x1)] [] X (go24 x1 X)) (x1 : Int) (s0 : Int) (s1 : Int) (s3 : Int) (X : Mem)  : G C V L 0 0 3 69 [(0, vR V.1 120), (1, vI x1)] [vI s0, vI s1, vR V.1 120, vI s3] X (B_X12_waits_69  go24 x1 s0 s1 s3 X) := by
  unfold B_X12_waits_69
  refine g_callVI (As := [vI s1, vI s0]) hC mv_X12_ofBar wml_RX12_269 (k_X12_ofBar _ V hL s1 s0 X) cf_X12 (at_120 hL) (by decide) ⟨Nat.zero_le _, Nat.zero_le _⟩ rfl rfl ⟨Nat.le_of_ble_eq_true rfl, Nat.le_of_ble_eq_true rfl⟩ (Nat.le_of_ble_eq_true rfl) dX12_waits_69 (fun r7 X8 => ?_)
  refine g_icmp_ge (tgt := 87) hC dX12_waits_72 (by decide) ?_ ?_
  · exact gB_X12_waits_87 hC hR hL hgo24 x1 X8
  · refine g_aload_n (q := 0) hC dX12_waits_75 rfl rfl rfl ?_
    refine g_dup hC dX12_waits_76 rfl ?_
    refine g_getI (k := 42) (kz := 42) hC cf_X12 (at_120 hL) (by decide) rfl (by decide) rfl wf_RX12_462 dX12_waits_77 ?_
    refine g_iconst (v := vI 1) hC dX12_waits_80 rfl ?_
    refine g_iload_n (q := 1) hC dX12_waits_81 rfl rfl ?_
    refine g_ishl hC dX12_waits_82 ?_
    refine g_ixor hC dX12_waits_83 ?_
    refine g_putI (k := 42) (kz := 42) hC cf_X12 (at_120 hL) (by decide) rfl (by decide) rfl wf_RX12_462 rfl rfl dX12_waits_84 (fun X9 => ?_)
    exact gB_X12_waits_87 hC hR hL hgo24 x1 X9
set_option maxRecDepth 20000 in
theorem gB_X12_waits_51 {C : Cx} {V : Ev} {L : List Kd} (hC : Ok C V cX12_waits RX12 3 3 73) (hR : Rt C V L none rV) (hL : LKm L) {go24 : Int → Mem → Option (Int × Mem)} (hgo24 : ∀ (x1 : Int) (X : Mem), G C V L 0 0 3 24 [(0, vR V.1 120), (1, vI x1)] [] X (go24 x1 X)) (x1 : Int) (s0 : Int) (X : Mem)  : G C V L 0 0 3 51 [(0, vR V.1 120), (1, vI x1)] [vI s0] X (B_X12_waits_51  go24 x1 s0 X) := by
  unfold B_X12_waits_51
  refine g_istore_n hC dX12_waits_51 rfl (by decide) rfl ?_
  refine g_aload_n (q := 1) hC dX12_waits_52 rfl rfl rfl ?_
  refine g_bipush (v := vI 16) hC dX12_waits_53 rfl ?_
  refine g_callVI (As := [vI 16]) hC mv_X12_draw wml_RX12_459 (k_X12_draw _ V hL 16 X) cf_X12 (at_120 hL) (by decide) ⟨Nat.zero_le _, Nat.zero_le _⟩ rfl rfl ⟨Nat.le_of_ble_eq_true rfl, Nat.le_of_ble_eq_true rfl⟩ (Nat.le_of_ble_eq_true rfl) dX12_waits_55 (fun r5 X6 => ?_)
  refine g_aload_n (q := 1) hC dX12_waits_58 rfl rfl rfl ?_
  refine g_iload_n (q := 2) hC dX12_waits_59 rfl rfl ?_
  refine g_iload_n (q := 0) hC dX12_waits_60 rfl rfl ?_
  refine g_if_eq (tgt := 68) hC dX12_waits_61 (by decide) ?_ ?_
  · refine g_iconst (v := vI 3) hC dX12_waits_68 rfl ?_
    refine g_sub [1, 2] rfl ?_
    exact gB_X12_waits_69 hC hR hL hgo24 x1 3 x1 r5 X6
  · refine g_iconst (v := vI 2) hC dX12_waits_64 rfl ?_
    refine g_goto (tgt := 69) hC dX12_waits_65 (by decide) ?_
    refine g_sub [1, 2] rfl ?_
    exact gB_X12_waits_69 hC hR hL hgo24 x1 2 x1 r5 X6
set_option maxRecDepth 20000 in
theorem gL_X12_waits_24 {C : Cx} {V : Ev} {L : List Kd} (hC : Ok C V cX12_waits RX12 3 3 73) (hR : Rt C V L none rV) (hL : LKm L) : ∀ (n : Nat) (x1 : Int) (X : Mem), G C V L 0 0 3 24 [(0, vR V.1 120), (1, vI x1)] [] X (L_X12_waits_24   n x1 X) := by
  intro n
  induction n with
  | zero => intro x1 X; exact g_none
  | succ n ih =>
    intro x1 X
    rw [L_X12_waits_24]
    refine g_iload_n (q := 1) hC dX12_waits_24 rfl rfl ?_
    refine g_aload_n (q := 0) hC dX12_waits_25 rfl rfl rfl ?_
    refine g_getS (k := 0) hC cf_X12 (at_120 hL) (by decide) rfl (by decide) (by decide) wf_RX12_7 dX12_waits_26 ?_
    refine g_iconst (v := vI 2) hC dX12_waits_29 rfl ?_
    refine g_iald hC (at_121 hL) (by decide) dX12_waits_30 ?_
    refine g_icmp_ge (tgt := 93) hC dX12_waits_31 (by decide) ?_ ?_
    · refine g_sub [0] rfl ?_
      exact gB_X12_waits_93 hC hR hL  X
    · refine g_aload_n (q := 0) hC dX12_waits_34 rfl rfl rfl ?_
      refine g_getI (k := 42) (kz := 42) hC cf_X12 (at_120 hL) (by decide) rfl (by decide) rfl wf_RX12_462 dX12_waits_35 ?_
      refine g_iload_n (q := 1) hC dX12_waits_38 rfl rfl ?_
      refine g_ishr hC dX12_waits_39 ?_
      refine g_iconst (v := vI 1) hC dX12_waits_40 rfl ?_
      refine g_iand hC dX12_waits_41 ?_
      refine g_iconst (v := vI 1) hC dX12_waits_42 rfl ?_
      refine g_icmp_ne (tgt := 50) hC dX12_waits_43 (by decide) ?_ ?_
      · refine g_iconst (v := vI 0) hC dX12_waits_50 rfl ?_
        exact gB_X12_waits_51 hC hR hL ih x1 0 X
      · refine g_iconst (v := vI 1) hC dX12_waits_46 rfl ?_
        refine g_goto (tgt := 51) hC dX12_waits_47 (by decide) ?_
        exact gB_X12_waits_51 hC hR hL ih x1 1 X
set_option maxRecDepth 20000 in
theorem k_X12_waits (l : Launch) (V : Ev) {L : List Kd} (hL : LKm L)  (X : Mem)  : Kt l V L yX12_waits (.code yX12_waits cX12_waits 3 none) 3 73 [vR V.1 120] rV X (f_X12_waits  X) := by
  refine kt_of (own := RX12) (lv0 := [(0, vR V.1 120)]) (by decide) rfl (Nat.le_of_ble_eq_true rfl) rfl (fun C hCl hC hR => ?_)
  subst hCl
  unfold f_X12_waits
  refine g_aload_n (q := 0) hC dX12_waits_0 rfl rfl rfl ?_
  refine g_dup hC dX12_waits_1 rfl ?_
  refine g_getI (k := 43) (kz := 43) hC cf_X12 (at_120 hL) (by decide) rfl (by decide) rfl wf_RX12_467 dX12_waits_2 ?_
  refine g_sipush (v := vI 1440) hC dX12_waits_5 rfl ?_
  refine g_iadd hC dX12_waits_8 ?_
  refine g_putI (k := 43) (kz := 43) hC cf_X12 (at_120 hL) (by decide) rfl (by decide) rfl wf_RX12_467 rfl rfl dX12_waits_9 (fun X1 => ?_)
  refine g_aload_n (q := 0) hC dX12_waits_12 rfl rfl rfl ?_
  refine g_dup hC dX12_waits_13 rfl ?_
  refine g_getI (k := 46) (kz := 46) hC cf_X12 (at_120 hL) (by decide) rfl (by decide) rfl wf_RX12_473 dX12_waits_14 ?_
  refine g_iconst (v := vI 1) hC dX12_waits_17 rfl ?_
  refine g_iadd hC dX12_waits_18 ?_
  refine g_putI (k := 46) (kz := 46) hC cf_X12 (at_120 hL) (by decide) rfl (by decide) rfl wf_RX12_473 rfl rfl dX12_waits_19 (fun X2 => ?_)
  refine g_iconst (v := vI 0) hC dX12_waits_22 rfl ?_
  refine g_istore_n hC dX12_waits_23 rfl (by decide) rfl ?_
  refine g_sub [1, 0] rfl ?_
  exact gL_X12_waits_24 hC hR hL  KF 0 X2
def f_X12_holds (p1 : Int) (p2 : Int) (p3 : Int) (p4 : Int) (p5 : Int) (X : Mem) : Option (Int × Mem) :=
  c2 p1 11 <| if ¬ p1 = 11 then
    cl (f_X12_isBar p2 X) fun r1 X2 =>
    c1 r1 <| if ¬ r1 = 0 then
      cl (f_X12_partsOf (ishl 1 p2) 0 X2) fun r3 X4 =>
      bd (16 * r3) fun v5 =>
      c2 p1 9 <| if ¬ p1 = 9 then
        c1 p3 <|
        d2 v5 (p3 * 1000000) <| if (p3 * 1000000) < v5 then
          some (0, X4)
        else
          some (1, X4)
      else
        c1 p3 <|
        d2 v5 (p3 * 1000000) <| if v5 < (p3 * 1000000) then
          some (0, X4)
        else
          some (1, X4)
    else
      some (0, X2)
  else
    cl (f_X12_surestOf p4 p5 X) fun r6 X7 =>
    c2 r6 ((-1)) <| if r6 = ((-1)) then
      some (0, X7)
    else
      cl (f_X12_partsOf 0 r6 X7) fun r8 X9 =>
      c1 p3 <|
      d2 (16 * r8) (p3 * 1000000) <| if (16 * r8) < (p3 * 1000000) then
        some (0, X9)
      else
        some (1, X9)
set_option maxRecDepth 20000 in
theorem k_X12_holds (l : Launch) (V : Ev) {L : List Kd} (hL : LKm L) (p1 : Int) (p2 : Int) (p3 : Int) (p4 : Int) (p5 : Int) (X : Mem)  : Kt l V L yX12_holds (.code yX12_holds cX12_holds 8 (some .boolean)) 7 163 [vR V.1 120, vI p1, vI p2, vI p3, vI p4, vI p5] rI X (f_X12_holds p1 p2 p3 p4 p5 X) := by
  refine kt_of (own := RX12) (lv0 := [(0, vR V.1 120), (1, vI p1), (2, vI p2), (3, vI p3), (4, vI p4), (5, vI p5)]) (by decide) rfl (Nat.le_of_ble_eq_true rfl) rfl (fun C hCl hC hR => ?_)
  subst hCl
  unfold f_X12_holds
  refine g_iload_n (q := 1) hC dX12_holds_0 rfl rfl ?_
  refine g_bipush (v := vI 11) hC dX12_holds_1 rfl ?_
  refine g_icmp_ne (tgt := 49) hC dX12_holds_3 (by decide) ?_ ?_
  · refine g_aload_n (q := 0) hC dX12_holds_49 rfl rfl rfl ?_
    refine g_iload_n (q := 2) hC dX12_holds_50 rfl rfl ?_
    refine g_callVI (As := [vI p2]) hC mv_X12_isBar wml_RX12_266 (k_X12_isBar _ V hL p2 X) cf_X12 (at_120 hL) (by decide) ⟨Nat.zero_le _, Nat.zero_le _⟩ rfl rfl ⟨Nat.le_of_ble_eq_true rfl, Nat.le_of_ble_eq_true rfl⟩ (Nat.le_of_ble_eq_true rfl) dX12_holds_51 (fun r1 X2 => ?_)
    refine g_if_ne (tgt := 59) hC dX12_holds_54 (by decide) ?_ ?_
    · refine g_ldc2 (n := 16) hC wk_RX12_453 rfl dX12_holds_59 ?_
      refine g_aload_n (q := 0) hC dX12_holds_62 rfl rfl rfl ?_
      refine g_iconst (v := vI 1) hC dX12_holds_63 rfl ?_
      refine g_iload_n (q := 2) hC dX12_holds_64 rfl rfl ?_
      refine g_ishl hC dX12_holds_65 ?_
      refine g_iconst (v := vI 0) hC dX12_holds_66 rfl ?_
      refine g_callVJ (As := [vI (ishl 1 p2), vI 0]) hC mv_X12_partsOf wml_RX12_308 (k_X12_partsOf _ V hL (ishl 1 p2) 0 X2) cf_X12 (at_120 hL) (by decide) ⟨Nat.zero_le _, Nat.zero_le _⟩ rfl rfl ⟨Nat.le_of_ble_eq_true rfl, Nat.le_of_ble_eq_true rfl⟩ (Nat.le_of_ble_eq_true rfl) dX12_holds_67 (fun r3 X4 => ?_)
      refine g_lmul hC dX12_holds_70 ?_
      refine g_topJ (fun v5 => ?_)
      refine g_lstore hC dX12_holds_71 (by decide) rfl ?_
      refine g_iload_n (q := 2) hC dX12_holds_73 rfl rfl ?_
      refine g_bipush (v := vI 9) hC dX12_holds_74 rfl ?_
      refine g_icmp_ne (tgt := 99) hC dX12_holds_76 (by decide) ?_ ?_
      · refine g_lload (q := 0) hC dX12_holds_99 rfl ?_
        refine g_iload_n (q := 4) hC dX12_holds_101 rfl rfl ?_
        refine g_i2l hC dX12_holds_102 ?_
        refine g_ldc2 (n := 1000000) hC wk_RX12_300 rfl dX12_holds_103 ?_
        refine g_lmul hC dX12_holds_106 ?_
        refine g_lcmp_gt (tgt := 115) hC dX12_holds_107 rfl dX12_holds_108 (by decide) ?_ ?_
        · refine g_iconst (v := vI 0) hC dX12_holds_115 rfl ?_
          exact g_zret1 hC hR (by decide) dX12_holds_116
        · refine g_iconst (v := vI 1) hC dX12_holds_111 rfl ?_
          refine g_goto (tgt := 116) hC dX12_holds_112 (by decide) ?_
          exact g_zret1 hC hR (by decide) dX12_holds_116
      · refine g_lload (q := 0) hC dX12_holds_79 rfl ?_
        refine g_iload_n (q := 4) hC dX12_holds_81 rfl rfl ?_
        refine g_i2l hC dX12_holds_82 ?_
        refine g_ldc2 (n := 1000000) hC wk_RX12_300 rfl dX12_holds_83 ?_
        refine g_lmul hC dX12_holds_86 ?_
        refine g_lcmp_lt (tgt := 95) hC dX12_holds_87 rfl dX12_holds_88 (by decide) ?_ ?_
        · refine g_iconst (v := vI 0) hC dX12_holds_95 rfl ?_
          refine g_goto (tgt := 116) hC dX12_holds_96 (by decide) ?_
          exact g_zret1 hC hR (by decide) dX12_holds_116
        · refine g_iconst (v := vI 1) hC dX12_holds_91 rfl ?_
          refine g_goto (tgt := 116) hC dX12_holds_92 (by decide) ?_
          exact g_zret1 hC hR (by decide) dX12_holds_116
    · refine g_iconst (v := vI 0) hC dX12_holds_57 rfl ?_
      exact g_zret1 hC hR (by decide) dX12_holds_58
  · refine g_aload_n (q := 0) hC dX12_holds_6 rfl rfl rfl ?_
    refine g_iload (q := 4) hC dX12_holds_7 rfl ?_
    refine g_iload (q := 5) hC dX12_holds_9 rfl ?_
    refine g_callVI (As := [vI p4, vI p5]) hC mv_X12_surestOf wml_RX12_381 (k_X12_surestOf _ V hL p4 p5 X) cf_X12 (at_120 hL) (by decide) ⟨Nat.zero_le _, Nat.zero_le _⟩ rfl rfl ⟨Nat.le_of_ble_eq_true rfl, Nat.le_of_ble_eq_true rfl⟩ (Nat.le_of_ble_eq_true rfl) dX12_holds_11 (fun r6 X7 => ?_)
    refine g_istore hC dX12_holds_14 (by decide) rfl ?_
    refine g_iload (q := 0) hC dX12_holds_16 rfl ?_
    refine g_iconst (v := vI (-1)) hC dX12_holds_18 rfl ?_
    refine g_icmp_eq (tgt := 47) hC dX12_holds_19 (by decide) ?_ ?_
    · refine g_iconst (v := vI 0) hC dX12_holds_47 rfl ?_
      exact g_zret1 hC hR (by decide) dX12_holds_48
    · refine g_ldc2 (n := 16) hC wk_RX12_453 rfl dX12_holds_22 ?_
      refine g_aload_n (q := 1) hC dX12_holds_25 rfl rfl rfl ?_
      refine g_iconst (v := vI 0) hC dX12_holds_26 rfl ?_
      refine g_iload (q := 0) hC dX12_holds_27 rfl ?_
      refine g_callVJ (As := [vI 0, vI r6]) hC mv_X12_partsOf wml_RX12_308 (k_X12_partsOf _ V hL 0 r6 X7) cf_X12 (at_120 hL) (by decide) ⟨Nat.zero_le _, Nat.zero_le _⟩ rfl rfl ⟨Nat.le_of_ble_eq_true rfl, Nat.le_of_ble_eq_true rfl⟩ (Nat.le_of_ble_eq_true rfl) dX12_holds_29 (fun r8 X9 => ?_)
      refine g_lmul hC dX12_holds_32 ?_
      refine g_iload_n (q := 4) hC dX12_holds_33 rfl rfl ?_
      refine g_i2l hC dX12_holds_34 ?_
      refine g_ldc2 (n := 1000000) hC wk_RX12_300 rfl dX12_holds_35 ?_
      refine g_lmul hC dX12_holds_38 ?_
      refine g_lcmp_lt (tgt := 47) hC dX12_holds_39 rfl dX12_holds_40 (by decide) ?_ ?_
      · refine g_iconst (v := vI 0) hC dX12_holds_47 rfl ?_
        exact g_zret1 hC hR (by decide) dX12_holds_48
      · refine g_iconst (v := vI 1) hC dX12_holds_43 rfl ?_
        refine g_goto (tgt := 48) hC dX12_holds_44 (by decide) ?_
        exact g_zret1 hC hR (by decide) dX12_holds_48
def B_X12_goes_81 (s0 : Int) (X : Mem) : Option (Int × Mem) :=
  bd (ms X 120 49 s0) fun X8 =>
  some (0, X8)
def f_X12_goes (p1 : Int) (p2 : Int) (X : Mem) : Option (Int × Mem) :=
  cl (f_X12_surestOf p1 p2 X) fun r1 X2 =>
  bd (ms X2 120 47 r1) fun X3 =>
  bd (ms X3 120 49 2) fun X4 =>
  c2 (X4 120 47) ((-1)) <| if ¬ (X4 120 47) = ((-1)) then
    ax 32 (X4 120 47) <|
    ax 2200 10 <|
    cl (f_X12_bits (ia (X4 120 47) (X4 120 42)) X4) fun r5 X6 =>
    bd (ms X6 120 43 ((X4 120 43) + ((X4 134 (X4 120 47)) + ((X4 121 10) * r5)))) fun X7 =>
    c1 (ia (X7 120 47) (X7 120 42)) <| if ¬ (ia (X7 120 47) (X7 120 42)) = 0 then
      B_X12_goes_81   1 X7
    else
      B_X12_goes_81   0 X7
  else
    some (0, X4)
set_option maxRecDepth 20000 in
theorem gB_X12_goes_81 {C : Cx} {V : Ev} {L : List Kd} (hC : Ok C V cX12_goes RX12 3 7 163) (hR : Rt C V L none rV) (hL : LKm L) (s0 : Int) (X : Mem)  : G C V L 0 0 3 81 [] [vI s0, vR V.1 120] X (B_X12_goes_81   s0 X) := by
  unfold B_X12_goes_81
  refine g_putI (k := 49) (kz := 49) hC cf_X12 (at_120 hL) (by decide) rfl (by decide) rfl wf_RX12_78 rfl rfl dX12_goes_81 (fun X8 => ?_)
  exact g_vret hC hR dX12_goes_84
set_option maxRecDepth 20000 in
theorem k_X12_goes (l : Launch) (V : Ev) {L : List Kd} (hL : LKm L) (p1 : Int) (p2 : Int) (X : Mem)  : Kt l V L yX12_goes (.code yX12_goes cX12_goes 3 none) 7 163 [vR V.1 120, vI p1, vI p2] rV X (f_X12_goes p1 p2 X) := by
  refine kt_of (own := RX12) (lv0 := [(0, vR V.1 120), (1, vI p1), (2, vI p2)]) (by decide) rfl (Nat.le_of_ble_eq_true rfl) rfl (fun C hCl hC hR => ?_)
  subst hCl
  unfold f_X12_goes
  refine g_aload_n (q := 0) hC dX12_goes_0 rfl rfl rfl ?_
  refine g_aload_n (q := 0) hC dX12_goes_1 rfl rfl rfl ?_
  refine g_iload_n (q := 1) hC dX12_goes_2 rfl rfl ?_
  refine g_iload_n (q := 2) hC dX12_goes_3 rfl rfl ?_
  refine g_callVI (As := [vI p1, vI p2]) hC mv_X12_surestOf wml_RX12_381 (k_X12_surestOf _ V hL p1 p2 X) cf_X12 (at_120 hL) (by decide) ⟨Nat.zero_le _, Nat.zero_le _⟩ rfl rfl ⟨Nat.le_of_ble_eq_true rfl, Nat.le_of_ble_eq_true rfl⟩ (Nat.le_of_ble_eq_true rfl) dX12_goes_4 (fun r1 X2 => ?_)
  refine g_putI (k := 47) (kz := 47) hC cf_X12 (at_120 hL) (by decide) rfl (by decide) rfl wf_RX12_476 rfl rfl dX12_goes_7 (fun X3 => ?_)
  refine g_aload_n (q := 0) hC dX12_goes_10 rfl rfl rfl ?_
  refine g_iconst (v := vI 2) hC dX12_goes_11 rfl ?_
  refine g_putI (k := 49) (kz := 49) hC cf_X12 (at_120 hL) (by decide) rfl (by decide) rfl wf_RX12_78 rfl rfl dX12_goes_12 (fun X4 => ?_)
  refine g_aload_n (q := 0) hC dX12_goes_15 rfl rfl rfl ?_
  refine g_getI (k := 47) (kz := 47) hC cf_X12 (at_120 hL) (by decide) rfl (by decide) rfl wf_RX12_476 dX12_goes_16 ?_
  refine g_iconst (v := vI (-1)) hC dX12_goes_19 rfl ?_
  refine g_icmp_ne (tgt := 24) hC dX12_goes_20 (by decide) ?_ ?_
  · refine g_aload_n (q := 0) hC dX12_goes_24 rfl rfl rfl ?_
    refine g_dup hC dX12_goes_25 rfl ?_
    refine g_getI (k := 43) (kz := 43) hC cf_X12 (at_120 hL) (by decide) rfl (by decide) rfl wf_RX12_467 dX12_goes_26 ?_
    refine g_aload_n (q := 0) hC dX12_goes_29 rfl rfl rfl ?_
    refine g_getS (k := 30) hC cf_X12 (at_120 hL) (by decide) rfl (by decide) (by decide) wf_RX12_63 dX12_goes_30 ?_
    refine g_aload_n (q := 0) hC dX12_goes_33 rfl rfl rfl ?_
    refine g_getI (k := 47) (kz := 47) hC cf_X12 (at_120 hL) (by decide) rfl (by decide) rfl wf_RX12_476 dX12_goes_34 ?_
    refine g_iald hC (at_134 hL) (by decide) dX12_goes_37 ?_
    refine g_aload_n (q := 0) hC dX12_goes_38 rfl rfl rfl ?_
    refine g_getS (k := 0) hC cf_X12 (at_120 hL) (by decide) rfl (by decide) (by decide) wf_RX12_7 dX12_goes_39 ?_
    refine g_bipush (v := vI 10) hC dX12_goes_42 rfl ?_
    refine g_iald hC (at_121 hL) (by decide) dX12_goes_44 ?_
    refine g_aload_n (q := 0) hC dX12_goes_45 rfl rfl rfl ?_
    refine g_getI (k := 47) (kz := 47) hC cf_X12 (at_120 hL) (by decide) rfl (by decide) rfl wf_RX12_476 dX12_goes_46 ?_
    refine g_aload_n (q := 0) hC dX12_goes_49 rfl rfl rfl ?_
    refine g_getI (k := 42) (kz := 42) hC cf_X12 (at_120 hL) (by decide) rfl (by decide) rfl wf_RX12_462 dX12_goes_50 ?_
    refine g_iand hC dX12_goes_53 ?_
    refine g_callSI (As := [vI (ia (X4 120 47) (X4 120 42))]) hC mt_X12_bits wml_RX12_447 (k_X12_bits _ V hL (ia (X4 120 47) (X4 120 42)) X4) ⟨Nat.zero_le _, Nat.zero_le _⟩ rfl rfl ⟨Nat.le_of_ble_eq_true rfl, Nat.le_of_ble_eq_true rfl⟩ (Nat.le_of_ble_eq_true rfl) dX12_goes_54 (fun r5 X6 => ?_)
    refine g_imul hC dX12_goes_57 ?_
    refine g_iadd hC dX12_goes_58 ?_
    refine g_iadd hC dX12_goes_59 ?_
    refine g_putI (k := 43) (kz := 43) hC cf_X12 (at_120 hL) (by decide) rfl (by decide) rfl wf_RX12_467 rfl rfl dX12_goes_60 (fun X7 => ?_)
    refine g_aload_n (q := 0) hC dX12_goes_63 rfl rfl rfl ?_
    refine g_aload_n (q := 0) hC dX12_goes_64 rfl rfl rfl ?_
    refine g_getI (k := 47) (kz := 47) hC cf_X12 (at_120 hL) (by decide) rfl (by decide) rfl wf_RX12_476 dX12_goes_65 ?_
    refine g_aload_n (q := 0) hC dX12_goes_68 rfl rfl rfl ?_
    refine g_getI (k := 42) (kz := 42) hC cf_X12 (at_120 hL) (by decide) rfl (by decide) rfl wf_RX12_462 dX12_goes_69 ?_
    refine g_iand hC dX12_goes_72 ?_
    refine g_if_ne (tgt := 80) hC dX12_goes_73 (by decide) ?_ ?_
    · refine g_iconst (v := vI 1) hC dX12_goes_80 rfl ?_
      refine g_sub [] rfl ?_
      exact gB_X12_goes_81 hC hR hL  1 X7
    · refine g_iconst (v := vI 0) hC dX12_goes_76 rfl ?_
      refine g_goto (tgt := 81) hC dX12_goes_77 (by decide) ?_
      refine g_sub [] rfl ?_
      exact gB_X12_goes_81 hC hR hL  0 X7
  · exact g_vret hC hR dX12_goes_23
def B_X12_does_250 (x1 : Int) (x5 : Int) (X : Mem) : Option (Int × Mem) :=
  c2 x5 7 <| if x5 = 7 then
    some ((-1), X)
  else
    c2 x5 8 <| if ¬ x5 = 8 then
      some (x1 + 1, X)
    else
      some ((-1), X)
def B_X12_does_237 (x1 : Int) (x2 : Int) (x3 : Int) (x5 : Int) (X : Mem) : Option (Int × Mem) :=
  c2 x5 7 <| if ¬ x5 = 7 then
    B_X12_does_250   x1 x5 X
  else
    cl (f_X12_goes x2 x3 X) fun _ X8 =>
    B_X12_does_250   x1 x5 X8
def B_X12_does_221 (x1 : Int) (x2 : Int) (x3 : Int) (x5 : Int) (x7 : Int) (X : Mem) : Option (Int × Mem) :=
  c2 x5 5 <| if ¬ x5 = 5 then
    B_X12_does_237   x1 x2 x3 x5 X
  else
    ax 64 x1 <| bd (ms X 138 x1 (x7 - 1)) fun X9 =>
    B_X12_does_237   x1 x2 x3 x5 X9
def B_X12_does_184 (x1 : Int) (x2 : Int) (x3 : Int) (x4 : Int) (x5 : Int) (x6 : Int) (x7 : Int) (X : Mem) : Option (Int × Mem) :=
  c2 x5 40 <| if x5 < 40 then
    B_X12_does_221   x1 x2 x3 x5 x7 X
  else
    cl (f_X12_holds (x5 - 40) x6 x7 x2 x3 X) fun r10 X11 =>
    c1 r10 <| if ¬ r10 = 0 then
      B_X12_does_221   x1 x2 x3 x5 x7 X11
    else
      ax 2200 (x4 + 3) <|
      some ((X11 121 (x4 + 3)) + 1, X11)
def B_X12_does_124 (x1 : Int) (x2 : Int) (x3 : Int) (x4 : Int) (x5 : Int) (x6 : Int) (x7 : Int) (X : Mem) : Option (Int × Mem) :=
  c2 x5 3 <| if ¬ x5 = 3 then
    B_X12_does_184   x1 x2 x3 x4 x5 x6 x7 X
  else
    ax 2200 6 <|
    c2 x7 (X 121 6) <|
    ax 2200 4 <|
    bd ((min x7 (X 121 6)) - (X 121 4)) fun v12 =>
    ax 2200 4 <|
    c2 0 v12 <|
    ax 2200 4 <| bd (ms X 121 4 ((X 121 4) + (max 0 v12))) fun X13 =>
    c2 0 v12 <|
    bd (ms X13 120 43 ((X13 120 43) + (20 * (max 0 v12)))) fun X14 =>
    B_X12_does_184   x1 x2 x3 x4 x5 x6 x7 X14
def L_X12_does_107 : Nat → Int → Int → Int → Int → Int → Int → Int → Int → Mem → Option (Int × Mem)
  | 0, _, _, _, _, _, _, _, _, _ => none
  | n + 1, x1, x2, x3, x4, x5, x6, x7, x9, X =>
    c2 x9 x7 <| if x7 ≤ x9 then
      B_X12_does_124   x1 x2 x3 x4 x5 x6 x7 X
    else
      cl (f_X12_waits X) fun _ X16 =>
      L_X12_does_107   n x1 x2 x3 x4 x5 x6 x7 (x9 + 1) X16
def B_X12_does_98 (x1 : Int) (x2 : Int) (x3 : Int) (x4 : Int) (x5 : Int) (x6 : Int) (x7 : Int) (X : Mem) : Option (Int × Mem) :=
  c2 x5 2 <| if ¬ x5 = 2 then
    B_X12_does_124   x1 x2 x3 x4 x5 x6 x7 X
  else
    L_X12_does_107   KF x1 x2 x3 x4 x5 x6 x7 0 X
def B_X12_does_78 (x1 : Int) (x2 : Int) (x3 : Int) (x4 : Int) (x5 : Int) (x6 : Int) (x7 : Int) (x8 : Int) (X : Mem) : Option (Int × Mem) :=
  c2 x5 1 <| if ¬ x5 = 1 then
    B_X12_does_98   x1 x2 x3 x4 x5 x6 x7 X
  else
    c2 x8 ((-1)) <| if x8 = ((-1)) then
      B_X12_does_98   x1 x2 x3 x4 x5 x6 x7 X
    else
      cl (f_X12_coloursAt x8 x6 X) fun _ X18 =>
      B_X12_does_98   x1 x2 x3 x4 x5 x6 x7 X18
def B_X12_does_59 (x1 : Int) (x2 : Int) (x3 : Int) (x4 : Int) (x5 : Int) (x6 : Int) (x7 : Int) (s0 : Int) (X : Mem) : Option (Int × Mem) :=
  c1 x5 <| if ¬ x5 = 0 then
    B_X12_does_78   x1 x2 x3 x4 x5 x6 x7 s0 X
  else
    c2 s0 ((-1)) <| if s0 = ((-1)) then
      B_X12_does_78   x1 x2 x3 x4 x5 x6 x7 s0 X
    else
      cl (f_X12_soundsAt s0 X) fun _ X20 =>
      B_X12_does_78   x1 x2 x3 x4 x5 x6 x7 s0 X20
def f_X12_does (p1 : Int) (p2 : Int) (p3 : Int) (X : Mem) : Option (Int × Mem) :=
  bd (200 + (4 * p1)) fun v1 =>
  ax 2200 v1 <|
  bd (X 121 v1) fun v2 =>
  ax 2200 (v1 + 1) <|
  bd (X 121 (v1 + 1)) fun v3 =>
  ax 2200 (v1 + 2) <|
  bd (X 121 (v1 + 2)) fun v4 =>
  cl (f_X12_isBar v3 X) fun r5 X6 =>
  c1 r5 <| if r5 = 0 then
    B_X12_does_59   p1 p2 p3 v1 v2 v3 v4 ((-1)) X6
  else
    cl (f_X12_cellOf v3 X6) fun r21 X22 =>
    B_X12_does_59   p1 p2 p3 v1 v2 v3 v4 r21 X22
set_option maxRecDepth 20000 in
theorem gB_X12_does_250 {C : Cx} {V : Ev} {L : List Kd} (hC : Ok C V cX12_does RX12 10 8 190) (hR : Rt C V L (some .int) rI) (hL : LKm L) (x1 : Int) (x5 : Int) (X : Mem)  : G C V L 0 0 10 250 [(1, vI x1), (5, vI x5)] [] X (B_X12_does_250   x1 x5 X) := by
  unfold B_X12_does_250
  refine g_iload (q := 1) hC dX12_does_250 rfl ?_
  refine g_bipush (v := vI 7) hC dX12_does_252 rfl ?_
  refine g_icmp_eq (tgt := 264) hC dX12_does_254 (by decide) ?_ ?_
  · refine g_iconst (v := vI (-1)) hC dX12_does_264 rfl ?_
    refine g_goto (tgt := 271) hC dX12_does_265 (by decide) ?_
    exact g_iret hC hR dX12_does_271
  · refine g_iload (q := 1) hC dX12_does_257 rfl ?_
    refine g_bipush (v := vI 8) hC dX12_does_259 rfl ?_
    refine g_icmp_ne (tgt := 268) hC dX12_does_261 (by decide) ?_ ?_
    · refine g_iload_n (q := 0) hC dX12_does_268 rfl rfl ?_
      refine g_iconst (v := vI 1) hC dX12_does_269 rfl ?_
      refine g_iadd hC dX12_does_270 ?_
      exact g_iret hC hR dX12_does_271
    · refine g_iconst (v := vI (-1)) hC dX12_does_264 rfl ?_
      refine g_goto (tgt := 271) hC dX12_does_265 (by decide) ?_
      exact g_iret hC hR dX12_does_271
set_option maxRecDepth 20000 in
theorem gB_X12_does_237 {C : Cx} {V : Ev} {L : List Kd} (hC : Ok C V cX12_does RX12 10 8 190) (hR : Rt C V L (some .int) rI) (hL : LKm L) (x1 : Int) (x2 : Int) (x3 : Int) (x5 : Int) (X : Mem)  : G C V L 0 0 10 237 [(0, vR V.1 120), (1, vI x1), (2, vI x2), (3, vI x3), (5, vI x5)] [] X (B_X12_does_237   x1 x2 x3 x5 X) := by
  unfold B_X12_does_237
  refine g_iload (q := 4) hC dX12_does_237 rfl ?_
  refine g_bipush (v := vI 7) hC dX12_does_239 rfl ?_
  refine g_icmp_ne (tgt := 250) hC dX12_does_241 (by decide) ?_ ?_
  · refine g_sub [1, 4] rfl ?_
    exact gB_X12_does_250 hC hR hL  x1 x5 X
  · refine g_aload_n (q := 0) hC dX12_does_244 rfl rfl rfl ?_
    refine g_iload_n (q := 2) hC dX12_does_245 rfl rfl ?_
    refine g_iload_n (q := 3) hC dX12_does_246 rfl rfl ?_
    refine g_callVV (As := [vI x2, vI x3]) hC mv_X12_goes wml_RX12_494 (k_X12_goes _ V hL x2 x3 X) cf_X12 (at_120 hL) (by decide) ⟨Nat.zero_le _, Nat.zero_le _⟩ rfl rfl ⟨Nat.le_of_ble_eq_true rfl, Nat.le_of_ble_eq_true rfl⟩ (Nat.le_of_ble_eq_true rfl) dX12_does_247 (fun _ X8 => ?_)
    refine g_sub [1, 4] rfl ?_
    exact gB_X12_does_250 hC hR hL  x1 x5 X8
set_option maxRecDepth 20000 in
theorem gB_X12_does_221 {C : Cx} {V : Ev} {L : List Kd} (hC : Ok C V cX12_does RX12 10 8 190) (hR : Rt C V L (some .int) rI) (hL : LKm L) (x1 : Int) (x2 : Int) (x3 : Int) (x5 : Int) (x7 : Int) (X : Mem)  : G C V L 0 0 10 221 [(0, vR V.1 120), (1, vI x1), (2, vI x2), (3, vI x3), (5, vI x5), (7, vI x7)] [] X (B_X12_does_221   x1 x2 x3 x5 x7 X) := by
  unfold B_X12_does_221
  refine g_iload (q := 4) hC dX12_does_221 rfl ?_
  refine g_iconst (v := vI 5) hC dX12_does_223 rfl ?_
  refine g_icmp_ne (tgt := 237) hC dX12_does_224 (by decide) ?_ ?_
  · refine g_sub [0, 1, 2, 3, 4] rfl ?_
    exact gB_X12_does_237 hC hR hL  x1 x2 x3 x5 X
  · refine g_aload_n (q := 0) hC dX12_does_227 rfl rfl rfl ?_
    refine g_getS (k := 50) hC cf_X12 (at_120 hL) (by decide) rfl (by decide) (by decide) wf_RX12_81 dX12_does_228 ?_
    refine g_iload_n (q := 1) hC dX12_does_231 rfl rfl ?_
    refine g_iload (q := 5) hC dX12_does_232 rfl ?_
    refine g_iconst (v := vI 1) hC dX12_does_234 rfl ?_
    refine g_isub hC dX12_does_235 ?_
    refine g_iast hC (at_138 hL) (by decide) dX12_does_236 (fun X9 => ?_)
    refine g_sub [0, 1, 2, 3, 4] rfl ?_
    exact gB_X12_does_237 hC hR hL  x1 x2 x3 x5 X9
set_option maxRecDepth 20000 in
theorem gB_X12_does_184 {C : Cx} {V : Ev} {L : List Kd} (hC : Ok C V cX12_does RX12 10 8 190) (hR : Rt C V L (some .int) rI) (hL : LKm L) (x1 : Int) (x2 : Int) (x3 : Int) (x4 : Int) (x5 : Int) (x6 : Int) (x7 : Int) (X : Mem)  : G C V L 0 0 10 184 [(0, vR V.1 120), (1, vI x1), (2, vI x2), (3, vI x3), (4, vI x4), (5, vI x5), (6, vI x6), (7, vI x7)] [] X (B_X12_does_184   x1 x2 x3 x4 x5 x6 x7 X) := by
  unfold B_X12_does_184
  refine g_iload (q := 5) hC dX12_does_184 rfl ?_
  refine g_bipush (v := vI 40) hC dX12_does_186 rfl ?_
  refine g_icmp_lt (tgt := 221) hC dX12_does_188 (by decide) ?_ ?_
  · refine g_sub [0, 1, 2, 3, 5, 7] rfl ?_
    exact gB_X12_does_221 hC hR hL  x1 x2 x3 x5 x7 X
  · refine g_aload_n (q := 0) hC dX12_does_191 rfl rfl rfl ?_
    refine g_iload (q := 5) hC dX12_does_192 rfl ?_
    refine g_bipush (v := vI 40) hC dX12_does_194 rfl ?_
    refine g_isub hC dX12_does_196 ?_
    refine g_iload (q := 6) hC dX12_does_197 rfl ?_
    refine g_iload (q := 7) hC dX12_does_199 rfl ?_
    refine g_iload_n (q := 2) hC dX12_does_201 rfl rfl ?_
    refine g_iload_n (q := 3) hC dX12_does_202 rfl rfl ?_
    refine g_callVI (As := [vI (x5 - 40), vI x6, vI x7, vI x2, vI x3]) hC mv_X12_holds wml_RX12_490 (k_X12_holds _ V hL (x5 - 40) x6 x7 x2 x3 X) cf_X12 (at_120 hL) (by decide) ⟨Nat.zero_le _, Nat.zero_le _⟩ rfl rfl ⟨Nat.le_of_ble_eq_true rfl, Nat.le_of_ble_eq_true rfl⟩ (Nat.le_of_ble_eq_true rfl) dX12_does_203 (fun r10 X11 => ?_)
    refine g_if_ne (tgt := 221) hC dX12_does_206 (by decide) ?_ ?_
    · refine g_sub [0, 1, 2, 3, 5, 7] rfl ?_
      exact gB_X12_does_221 hC hR hL  x1 x2 x3 x5 x7 X11
    · refine g_aload_n (q := 0) hC dX12_does_209 rfl rfl rfl ?_
      refine g_getS (k := 0) hC cf_X12 (at_120 hL) (by decide) rfl (by decide) (by decide) wf_RX12_7 dX12_does_210 ?_
      refine g_iload (q := 4) hC dX12_does_213 rfl ?_
      refine g_iconst (v := vI 3) hC dX12_does_215 rfl ?_
      refine g_iadd hC dX12_does_216 ?_
      refine g_iald hC (at_121 hL) (by decide) dX12_does_217 ?_
      refine g_iconst (v := vI 1) hC dX12_does_218 rfl ?_
      refine g_iadd hC dX12_does_219 ?_
      exact g_iret hC hR dX12_does_220
set_option maxRecDepth 20000 in
theorem gB_X12_does_124 {C : Cx} {V : Ev} {L : List Kd} (hC : Ok C V cX12_does RX12 10 8 190) (hR : Rt C V L (some .int) rI) (hL : LKm L) (x1 : Int) (x2 : Int) (x3 : Int) (x4 : Int) (x5 : Int) (x6 : Int) (x7 : Int) (X : Mem)  : G C V L 0 0 10 124 [(0, vR V.1 120), (1, vI x1), (2, vI x2), (3, vI x3), (4, vI x4), (5, vI x5), (6, vI x6), (7, vI x7)] [] X (B_X12_does_124   x1 x2 x3 x4 x5 x6 x7 X) := by
  unfold B_X12_does_124
  refine g_iload (q := 5) hC dX12_does_124 rfl ?_
  refine g_iconst (v := vI 3) hC dX12_does_126 rfl ?_
  refine g_icmp_ne (tgt := 184) hC dX12_does_127 (by decide) ?_ ?_
  · exact gB_X12_does_184 hC hR hL  x1 x2 x3 x4 x5 x6 x7 X
  · refine g_iload (q := 7) hC dX12_does_130 rfl ?_
    refine g_aload_n (q := 0) hC dX12_does_132 rfl rfl rfl ?_
    refine g_getS (k := 0) hC cf_X12 (at_120 hL) (by decide) rfl (by decide) (by decide) wf_RX12_7 dX12_does_133 ?_
    refine g_bipush (v := vI 6) hC dX12_does_136 rfl ?_
    refine g_iald hC (at_121 hL) (by decide) dX12_does_138 ?_
    refine g_mmin hC wml_RX12_147 (Nat.le_of_ble_eq_true rfl) (Nat.le_of_ble_eq_true rfl) ⟨Nat.zero_le _, Nat.zero_le _⟩ dX12_does_139 ?_
    refine g_aload_n (q := 0) hC dX12_does_142 rfl rfl rfl ?_
    refine g_getS (k := 0) hC cf_X12 (at_120 hL) (by decide) rfl (by decide) (by decide) wf_RX12_7 dX12_does_143 ?_
    refine g_iconst (v := vI 4) hC dX12_does_146 rfl ?_
    refine g_iald hC (at_121 hL) (by decide) dX12_does_147 ?_
    refine g_isub hC dX12_does_148 ?_
    refine g_topI (fun v12 => ?_)
    refine g_istore hC dX12_does_149 (by decide) rfl ?_
    refine g_aload_n (q := 1) hC dX12_does_151 rfl rfl rfl ?_
    refine g_getS (k := 0) hC cf_X12 (at_120 hL) (by decide) rfl (by decide) (by decide) wf_RX12_7 dX12_does_152 ?_
    refine g_iconst (v := vI 4) hC dX12_does_155 rfl ?_
    refine g_dup2 hC dX12_does_156 rfl rfl ?_
    refine g_iald hC (at_121 hL) (by decide) dX12_does_157 ?_
    refine g_iconst (v := vI 0) hC dX12_does_158 rfl ?_
    refine g_iload (q := 0) hC dX12_does_159 rfl ?_
    refine g_mmax hC wml_RX12_488 (Nat.le_of_ble_eq_true rfl) (Nat.le_of_ble_eq_true rfl) ⟨Nat.zero_le _, Nat.zero_le _⟩ dX12_does_161 ?_
    refine g_iadd hC dX12_does_164 ?_
    refine g_iast hC (at_121 hL) (by decide) dX12_does_165 (fun X13 => ?_)
    refine g_aload_n (q := 1) hC dX12_does_166 rfl rfl rfl ?_
    refine g_dup hC dX12_does_167 rfl ?_
    refine g_getI (k := 43) (kz := 43) hC cf_X12 (at_120 hL) (by decide) rfl (by decide) rfl wf_RX12_467 dX12_does_168 ?_
    refine g_bipush (v := vI 20) hC dX12_does_171 rfl ?_
    refine g_iconst (v := vI 0) hC dX12_does_173 rfl ?_
    refine g_iload (q := 0) hC dX12_does_174 rfl ?_
    refine g_mmax hC wml_RX12_488 (Nat.le_of_ble_eq_true rfl) (Nat.le_of_ble_eq_true rfl) ⟨Nat.zero_le _, Nat.zero_le _⟩ dX12_does_176 ?_
    refine g_imul hC dX12_does_179 ?_
    refine g_iadd hC dX12_does_180 ?_
    refine g_putI (k := 43) (kz := 43) hC cf_X12 (at_120 hL) (by decide) rfl (by decide) rfl wf_RX12_467 rfl rfl dX12_does_181 (fun X14 => ?_)
    refine g_sub [1, 2, 3, 4, 5, 6, 7, 8] rfl ?_
    exact gB_X12_does_184 hC hR hL  x1 x2 x3 x4 x5 x6 x7 X14
set_option maxRecDepth 20000 in
theorem gL_X12_does_107 {C : Cx} {V : Ev} {L : List Kd} (hC : Ok C V cX12_does RX12 10 8 190) (hR : Rt C V L (some .int) rI) (hL : LKm L) : ∀ (n : Nat) (x1 : Int) (x2 : Int) (x3 : Int) (x4 : Int) (x5 : Int) (x6 : Int) (x7 : Int) (x9 : Int) (X : Mem), G C V L 0 0 10 107 [(0, vR V.1 120), (1, vI x1), (2, vI x2), (3, vI x3), (4, vI x4), (5, vI x5), (6, vI x6), (7, vI x7), (9, vI x9)] [] X (L_X12_does_107   n x1 x2 x3 x4 x5 x6 x7 x9 X) := by
  intro n
  induction n with
  | zero => intro x1 x2 x3 x4 x5 x6 x7 x9 X; exact g_none
  | succ n ih =>
    intro x1 x2 x3 x4 x5 x6 x7 x9 X
    rw [L_X12_does_107]
    refine g_iload (q := 8) hC dX12_does_107 rfl ?_
    refine g_iload (q := 7) hC dX12_does_109 rfl ?_
    refine g_icmp_ge (tgt := 124) hC dX12_does_111 (by decide) ?_ ?_
    · refine g_sub [0, 1, 2, 3, 4, 5, 6, 7] rfl ?_
      exact gB_X12_does_124 hC hR hL  x1 x2 x3 x4 x5 x6 x7 X
    · refine g_aload_n (q := 0) hC dX12_does_114 rfl rfl rfl ?_
      refine g_callVV (As := []) hC mv_X12_waits wml_RX12_485 (k_X12_waits _ V hL X) cf_X12 (at_120 hL) (by decide) ⟨Nat.zero_le _, Nat.zero_le _⟩ rfl rfl ⟨Nat.le_of_ble_eq_true rfl, Nat.le_of_ble_eq_true rfl⟩ (Nat.le_of_ble_eq_true rfl) dX12_does_115 (fun _ X16 => ?_)
      refine g_iinc (q := 8) hC dX12_does_118 rfl (by decide) rfl ?_
      refine g_goto (tgt := 107) hC dX12_does_121 (by decide) ?_
      refine g_sub [1, 2, 3, 4, 5, 6, 7, 8, 0] rfl ?_
      exact ih x1 x2 x3 x4 x5 x6 x7 (x9 + 1) X16
set_option maxRecDepth 20000 in
theorem gB_X12_does_98 {C : Cx} {V : Ev} {L : List Kd} (hC : Ok C V cX12_does RX12 10 8 190) (hR : Rt C V L (some .int) rI) (hL : LKm L) (x1 : Int) (x2 : Int) (x3 : Int) (x4 : Int) (x5 : Int) (x6 : Int) (x7 : Int) (X : Mem)  : G C V L 0 0 10 98 [(0, vR V.1 120), (1, vI x1), (2, vI x2), (3, vI x3), (4, vI x4), (5, vI x5), (6, vI x6), (7, vI x7)] [] X (B_X12_does_98   x1 x2 x3 x4 x5 x6 x7 X) := by
  unfold B_X12_does_98
  refine g_iload (q := 5) hC dX12_does_98 rfl ?_
  refine g_iconst (v := vI 2) hC dX12_does_100 rfl ?_
  refine g_icmp_ne (tgt := 124) hC dX12_does_101 (by decide) ?_ ?_
  · exact gB_X12_does_124 hC hR hL  x1 x2 x3 x4 x5 x6 x7 X
  · refine g_iconst (v := vI 0) hC dX12_does_104 rfl ?_
    refine g_istore hC dX12_does_105 (by decide) rfl ?_
    refine g_sub [1, 2, 3, 4, 5, 6, 7, 8, 0] rfl ?_
    exact gL_X12_does_107 hC hR hL  KF x1 x2 x3 x4 x5 x6 x7 0 X
set_option maxRecDepth 20000 in
theorem gB_X12_does_78 {C : Cx} {V : Ev} {L : List Kd} (hC : Ok C V cX12_does RX12 10 8 190) (hR : Rt C V L (some .int) rI) (hL : LKm L) (x1 : Int) (x2 : Int) (x3 : Int) (x4 : Int) (x5 : Int) (x6 : Int) (x7 : Int) (x8 : Int) (X : Mem)  : G C V L 0 0 10 78 [(0, vR V.1 120), (1, vI x1), (2, vI x2), (3, vI x3), (4, vI x4), (5, vI x5), (6, vI x6), (7, vI x7), (8, vI x8)] [] X (B_X12_does_78   x1 x2 x3 x4 x5 x6 x7 x8 X) := by
  unfold B_X12_does_78
  refine g_iload (q := 5) hC dX12_does_78 rfl ?_
  refine g_iconst (v := vI 1) hC dX12_does_80 rfl ?_
  refine g_icmp_ne (tgt := 98) hC dX12_does_81 (by decide) ?_ ?_
  · refine g_sub [0, 1, 2, 3, 4, 5, 6, 7] rfl ?_
    exact gB_X12_does_98 hC hR hL  x1 x2 x3 x4 x5 x6 x7 X
  · refine g_iload (q := 8) hC dX12_does_84 rfl ?_
    refine g_iconst (v := vI (-1)) hC dX12_does_86 rfl ?_
    refine g_icmp_eq (tgt := 98) hC dX12_does_87 (by decide) ?_ ?_
    · refine g_sub [0, 1, 2, 3, 4, 5, 6, 7] rfl ?_
      exact gB_X12_does_98 hC hR hL  x1 x2 x3 x4 x5 x6 x7 X
    · refine g_aload_n (q := 0) hC dX12_does_90 rfl rfl rfl ?_
      refine g_iload (q := 8) hC dX12_does_91 rfl ?_
      refine g_iload (q := 6) hC dX12_does_93 rfl ?_
      refine g_callVV (As := [vI x8, vI x6]) hC mv_X12_coloursAt wml_RX12_482 (k_X12_coloursAt _ V hL x8 x6 X) cf_X12 (at_120 hL) (by decide) ⟨Nat.zero_le _, Nat.zero_le _⟩ rfl rfl ⟨Nat.le_of_ble_eq_true rfl, Nat.le_of_ble_eq_true rfl⟩ (Nat.le_of_ble_eq_true rfl) dX12_does_95 (fun _ X18 => ?_)
      refine g_sub [0, 1, 2, 3, 4, 5, 6, 7] rfl ?_
      exact gB_X12_does_98 hC hR hL  x1 x2 x3 x4 x5 x6 x7 X18
set_option maxRecDepth 20000 in
theorem gB_X12_does_59 {C : Cx} {V : Ev} {L : List Kd} (hC : Ok C V cX12_does RX12 10 8 190) (hR : Rt C V L (some .int) rI) (hL : LKm L) (x1 : Int) (x2 : Int) (x3 : Int) (x4 : Int) (x5 : Int) (x6 : Int) (x7 : Int) (s0 : Int) (X : Mem)  : G C V L 0 0 10 59 [(0, vR V.1 120), (1, vI x1), (2, vI x2), (3, vI x3), (4, vI x4), (5, vI x5), (6, vI x6), (7, vI x7)] [vI s0] X (B_X12_does_59   x1 x2 x3 x4 x5 x6 x7 s0 X) := by
  unfold B_X12_does_59
  refine g_istore hC dX12_does_59 (by decide) rfl ?_
  refine g_iload (q := 6) hC dX12_does_61 rfl ?_
  refine g_if_ne (tgt := 78) hC dX12_does_63 (by decide) ?_ ?_
  · refine g_sub [1, 2, 3, 4, 5, 6, 7, 8, 0] rfl ?_
    exact gB_X12_does_78 hC hR hL  x1 x2 x3 x4 x5 x6 x7 s0 X
  · refine g_iload (q := 0) hC dX12_does_66 rfl ?_
    refine g_iconst (v := vI (-1)) hC dX12_does_68 rfl ?_
    refine g_icmp_eq (tgt := 78) hC dX12_does_69 (by decide) ?_ ?_
    · refine g_sub [1, 2, 3, 4, 5, 6, 7, 8, 0] rfl ?_
      exact gB_X12_does_78 hC hR hL  x1 x2 x3 x4 x5 x6 x7 s0 X
    · refine g_aload_n (q := 1) hC dX12_does_72 rfl rfl rfl ?_
      refine g_iload (q := 0) hC dX12_does_73 rfl ?_
      refine g_callVV (As := [vI s0]) hC mv_X12_soundsAt wml_RX12_479 (k_X12_soundsAt _ V hL s0 X) cf_X12 (at_120 hL) (by decide) ⟨Nat.zero_le _, Nat.zero_le _⟩ rfl rfl ⟨Nat.le_of_ble_eq_true rfl, Nat.le_of_ble_eq_true rfl⟩ (Nat.le_of_ble_eq_true rfl) dX12_does_75 (fun _ X20 => ?_)
      refine g_sub [1, 2, 3, 4, 5, 6, 7, 8, 0] rfl ?_
      exact gB_X12_does_78 hC hR hL  x1 x2 x3 x4 x5 x6 x7 s0 X20
set_option maxRecDepth 20000 in
theorem k_X12_does (l : Launch) (V : Ev) {L : List Kd} (hL : LKm L) (p1 : Int) (p2 : Int) (p3 : Int) (X : Mem)  : Kt l V L yX12_does (.code yX12_does cX12_does 10 (some .int)) 8 190 [vR V.1 120, vI p1, vI p2, vI p3] rI X (f_X12_does p1 p2 p3 X) := by
  refine kt_of (own := RX12) (lv0 := [(0, vR V.1 120), (1, vI p1), (2, vI p2), (3, vI p3)]) (by decide) rfl (Nat.le_of_ble_eq_true rfl) rfl (fun C hCl hC hR => ?_)
  subst hCl
  unfold f_X12_does
  refine g_sipush (v := vI 200) hC dX12_does_0 rfl ?_
  refine g_iconst (v := vI 4) hC dX12_does_3 rfl ?_
  refine g_iload_n (q := 1) hC dX12_does_4 rfl rfl ?_
  refine g_imul hC dX12_does_5 ?_
  refine g_iadd hC dX12_does_6 ?_
  refine g_topI (fun v1 => ?_)
  refine g_istore hC dX12_does_7 (by decide) rfl ?_
  refine g_aload_n (q := 1) hC dX12_does_9 rfl rfl rfl ?_
  refine g_getS (k := 0) hC cf_X12 (at_120 hL) (by decide) rfl (by decide) (by decide) wf_RX12_7 dX12_does_10 ?_
  refine g_iload (q := 0) hC dX12_does_13 rfl ?_
  refine g_iald hC (at_121 hL) (by decide) dX12_does_15 ?_
  refine g_topI (fun v2 => ?_)
  refine g_istore hC dX12_does_16 (by decide) rfl ?_
  refine g_aload_n (q := 2) hC dX12_does_18 rfl rfl rfl ?_
  refine g_getS (k := 0) hC cf_X12 (at_120 hL) (by decide) rfl (by decide) (by decide) wf_RX12_7 dX12_does_19 ?_
  refine g_iload (q := 1) hC dX12_does_22 rfl ?_
  refine g_iconst (v := vI 1) hC dX12_does_24 rfl ?_
  refine g_iadd hC dX12_does_25 ?_
  refine g_iald hC (at_121 hL) (by decide) dX12_does_26 ?_
  refine g_topI (fun v3 => ?_)
  refine g_istore hC dX12_does_27 (by decide) rfl ?_
  refine g_aload_n (q := 3) hC dX12_does_29 rfl rfl rfl ?_
  refine g_getS (k := 0) hC cf_X12 (at_120 hL) (by decide) rfl (by decide) (by decide) wf_RX12_7 dX12_does_30 ?_
  refine g_iload (q := 2) hC dX12_does_33 rfl ?_
  refine g_iconst (v := vI 2) hC dX12_does_35 rfl ?_
  refine g_iadd hC dX12_does_36 ?_
  refine g_iald hC (at_121 hL) (by decide) dX12_does_37 ?_
  refine g_topI (fun v4 => ?_)
  refine g_istore hC dX12_does_38 (by decide) rfl ?_
  refine g_aload_n (q := 4) hC dX12_does_40 rfl rfl rfl ?_
  refine g_iload (q := 1) hC dX12_does_41 rfl ?_
  refine g_callVI (As := [vI v3]) hC mv_X12_isBar wml_RX12_266 (k_X12_isBar _ V hL v3 X) cf_X12 (at_120 hL) (by decide) ⟨Nat.zero_le _, Nat.zero_le _⟩ rfl rfl ⟨Nat.le_of_ble_eq_true rfl, Nat.le_of_ble_eq_true rfl⟩ (Nat.le_of_ble_eq_true rfl) dX12_does_43 (fun r5 X6 => ?_)
  refine g_if_eq (tgt := 58) hC dX12_does_46 (by decide) ?_ ?_
  · refine g_iconst (v := vI (-1)) hC dX12_does_58 rfl ?_
    refine g_sub [4, 5, 6, 7, 3, 2, 1, 0] rfl ?_
    exact gB_X12_does_59 hC hR hL  p1 p2 p3 v1 v2 v3 v4 ((-1)) X6
  · refine g_aload_n (q := 4) hC dX12_does_49 rfl rfl rfl ?_
    refine g_iload (q := 1) hC dX12_does_50 rfl ?_
    refine g_callVI (As := [vI v3]) hC mv_X12_cellOf wml_RX12_272 (k_X12_cellOf _ V hL v3 X6) cf_X12 (at_120 hL) (by decide) ⟨Nat.zero_le _, Nat.zero_le _⟩ rfl rfl ⟨Nat.le_of_ble_eq_true rfl, Nat.le_of_ble_eq_true rfl⟩ (Nat.le_of_ble_eq_true rfl) dX12_does_52 (fun r21 X22 => ?_)
    refine g_goto (tgt := 59) hC dX12_does_55 (by decide) ?_
    refine g_sub [4, 5, 6, 7, 3, 2, 1, 0] rfl ?_
    exact gB_X12_does_59 hC hR hL  p1 p2 p3 v1 v2 v3 v4 r21 X22
def B_X12_behindEnds_110 (go2 : Int → Mem → Option (Int × Mem)) (s0 : Int) (X : Mem) : Option (Int × Mem) :=
  go2 s0 X
def B_X12_behindEnds_96 (go2 : Int → Mem → Option (Int × Mem)) (x2 : Int) (x3 : Int) (x4 : Int) (X : Mem) : Option (Int × Mem) :=
  c1 x4 <| if x4 = 0 then
    B_X12_behindEnds_110  go2 (x2 + 1) X
  else
    B_X12_behindEnds_110  go2 (x3 + 1) X
def B_X12_behindEnds_79 (go2 : Int → Mem → Option (Int × Mem)) (x2 : Int) (x3 : Int) (s0 : Int) (X : Mem) : Option (Int × Mem) :=
  c1 s0 <| if s0 = 0 then
    B_X12_behindEnds_96  go2 x2 x3 s0 X
  else
    ax 64 x3 <|
    ax 64 x3 <| bd (ms X 138 x3 ((X 138 x3) - 1)) fun X2 =>
    B_X12_behindEnds_96  go2 x2 x3 s0 X2
def B_X12_behindEnds_78 (go2 : Int → Mem → Option (Int × Mem)) (x2 : Int) (x3 : Int) (X : Mem) : Option (Int × Mem) :=
  B_X12_behindEnds_79  go2 x2 x3 0 X
def L_X12_behindEnds_2 : Nat → Int → Mem → Option (Int × Mem)
  | 0, _, _ => none
  | n + 1, x2, X =>
    c1 x2 <| if x2 < 0 then
      some (x2, X)
    else
      ax 2200 14 <|
      c2 x2 (X 121 14) <| if (X 121 14) ≤ x2 then
        some (x2, X)
      else
        ax 2200 (200 + (4 * x2)) <|
        c2 (X 121 (200 + (4 * x2))) 6 <| if ¬ (X 121 (200 + (4 * x2))) = 6 then
          some (x2, X)
        else
          ax 2200 ((200 + (4 * x2)) + 3) <|
          bd (X 121 ((200 + (4 * x2)) + 3)) fun v1 =>
          ax 2200 (200 + (4 * v1)) <|
          c2 (X 121 (200 + (4 * v1))) 5 <| if ¬ (X 121 (200 + (4 * v1))) = 5 then
            B_X12_behindEnds_78  (fun x2 X => L_X12_behindEnds_2   n x2 X) x2 v1 X
          else
            ax 64 v1 <|
            c1 (X 138 v1) <| if (X 138 v1) ≤ 0 then
              B_X12_behindEnds_78  (fun x2 X => L_X12_behindEnds_2   n x2 X) x2 v1 X
            else
              B_X12_behindEnds_79  (fun x2 X => L_X12_behindEnds_2   n x2 X) x2 v1 1 X
def f_X12_behindEnds (p1 : Int) (X : Mem) : Option (Int × Mem) :=
  L_X12_behindEnds_2   KF p1 X
set_option maxRecDepth 20000 in
theorem gB_X12_behindEnds_110 {C : Cx} {V : Ev} {L : List Kd} (hC : Ok C V cX12_behindEnds RX12 5 0 0) (hR : Rt C V L (some .int) rI) (hL : LKm L) {go2 : Int → Mem → Option (Int × Mem)} (hgo2 : ∀ (x2 : Int) (X : Mem), G C V L 0 0 5 2 [(0, vR V.1 120), (2, vI x2)] [] X (go2 x2 X)) (s0 : Int) (X : Mem)  : G C V L 0 0 5 110 [(0, vR V.1 120)] [vI s0] X (B_X12_behindEnds_110  go2 s0 X) := by
  unfold B_X12_behindEnds_110
  refine g_istore_n hC dX12_behindEnds_110 rfl (by decide) rfl ?_
  refine g_goto (tgt := 2) hC dX12_behindEnds_111 (by decide) ?_
  refine g_sub [1, 0] rfl ?_
  exact hgo2 s0 X
set_option maxRecDepth 20000 in
theorem gB_X12_behindEnds_96 {C : Cx} {V : Ev} {L : List Kd} (hC : Ok C V cX12_behindEnds RX12 5 0 0) (hR : Rt C V L (some .int) rI) (hL : LKm L) {go2 : Int → Mem → Option (Int × Mem)} (hgo2 : ∀ (x2 : Int) (X : Mem), G C V L 0 0 5 2 [(0, vR V.1 120), (2, vI x2)] [] X (go2 x2 X)) (x2 : Int) (x3 : Int) (x4 : Int) (X : Mem)  : G C V L 0 0 5 96 [(0, vR V.1 120), (2, vI x2), (3, vI x3), (4, vI x4)] [] X (B_X12_behindEnds_96  go2 x2 x3 x4 X) := by
  unfold B_X12_behindEnds_96
  refine g_iload (q := 3) hC dX12_behindEnds_96 rfl ?_
  refine g_if_eq (tgt := 107) hC dX12_behindEnds_98 (by decide) ?_ ?_
  · refine g_iload_n (q := 1) hC dX12_behindEnds_107 rfl rfl ?_
    refine g_iconst (v := vI 1) hC dX12_behindEnds_108 rfl ?_
    refine g_iadd hC dX12_behindEnds_109 ?_
    refine g_sub [0] rfl ?_
    exact gB_X12_behindEnds_110 hC hR hL hgo2 (x2 + 1) X
  · refine g_iload_n (q := 2) hC dX12_behindEnds_101 rfl rfl ?_
    refine g_iconst (v := vI 1) hC dX12_behindEnds_102 rfl ?_
    refine g_iadd hC dX12_behindEnds_103 ?_
    refine g_goto (tgt := 110) hC dX12_behindEnds_104 (by decide) ?_
    refine g_sub [0] rfl ?_
    exact gB_X12_behindEnds_110 hC hR hL hgo2 (x3 + 1) X
set_option maxRecDepth 20000 in
theorem gB_X12_behindEnds_79 {C : Cx} {V : Ev} {L : List Kd} (hC : Ok C V cX12_behindEnds RX12 5 0 0) (hR : Rt C V L (some .int) rI) (hL : LKm L) {go2 : Int → Mem → Option (Int × Mem)} (hgo2 : ∀ (x2 : Int) (X : Mem), G C V L 0 0 5 2 [(0, vR V.1 120), (2, vI x2)] [] X (go2 x2 X)) (x2 : Int) (x3 : Int) (s0 : Int) (X : Mem)  : G C V L 0 0 5 79 [(0, vR V.1 120), (2, vI x2), (3, vI x3)] [vI s0] X (B_X12_behindEnds_79  go2 x2 x3 s0 X) := by
  unfold B_X12_behindEnds_79
  refine g_istore hC dX12_behindEnds_79 (by decide) rfl ?_
  refine g_iload (q := 0) hC dX12_behindEnds_81 rfl ?_
  refine g_if_eq (tgt := 96) hC dX12_behindEnds_83 (by decide) ?_ ?_
  · refine g_sub [1, 2, 3, 0] rfl ?_
    exact gB_X12_behindEnds_96 hC hR hL hgo2 x2 x3 s0 X
  · refine g_aload_n (q := 1) hC dX12_behindEnds_86 rfl rfl rfl ?_
    refine g_getS (k := 50) hC cf_X12 (at_120 hL) (by decide) rfl (by decide) (by decide) wf_RX12_81 dX12_behindEnds_87 ?_
    refine g_iload_n (q := 3) hC dX12_behindEnds_90 rfl rfl ?_
    refine g_dup2 hC dX12_behindEnds_91 rfl rfl ?_
    refine g_iald hC (at_138 hL) (by decide) dX12_behindEnds_92 ?_
    refine g_iconst (v := vI 1) hC dX12_behindEnds_93 rfl ?_
    refine g_isub hC dX12_behindEnds_94 ?_
    refine g_iast hC (at_138 hL) (by decide) dX12_behindEnds_95 (fun X2 => ?_)
    refine g_sub [1, 2, 3, 0] rfl ?_
    exact gB_X12_behindEnds_96 hC hR hL hgo2 x2 x3 s0 X2
set_option maxRecDepth 20000 in
theorem gB_X12_behindEnds_78 {C : Cx} {V : Ev} {L : List Kd} (hC : Ok C V cX12_behindEnds RX12 5 0 0) (hR : Rt C V L (some .int) rI) (hL : LKm L) {go2 : Int → Mem → Option (Int × Mem)} (hgo2 : ∀ (x2 : Int) (X : Mem), G C V L 0 0 5 2 [(0, vR V.1 120), (2, vI x2)] [] X (go2 x2 X)) (x2 : Int) (x3 : Int) (X : Mem)  : G C V L 0 0 5 78 [(0, vR V.1 120), (2, vI x2), (3, vI x3)] [] X (B_X12_behindEnds_78  go2 x2 x3 X) := by
  unfold B_X12_behindEnds_78
  refine g_iconst (v := vI 0) hC dX12_behindEnds_78 rfl ?_
  exact gB_X12_behindEnds_79 hC hR hL hgo2 x2 x3 0 X
set_option maxRecDepth 20000 in
theorem gL_X12_behindEnds_2 {C : Cx} {V : Ev} {L : List Kd} (hC : Ok C V cX12_behindEnds RX12 5 0 0) (hR : Rt C V L (some .int) rI) (hL : LKm L) : ∀ (n : Nat) (x2 : Int) (X : Mem), G C V L 0 0 5 2 [(0, vR V.1 120), (2, vI x2)] [] X (L_X12_behindEnds_2   n x2 X) := by
  intro n
  induction n with
  | zero => intro x2 X; exact g_none
  | succ n ih =>
    intro x2 X
    rw [L_X12_behindEnds_2]
    refine g_iload_n (q := 1) hC dX12_behindEnds_2 rfl rfl ?_
    refine g_if_lt (tgt := 114) hC dX12_behindEnds_3 (by decide) ?_ ?_
    · refine g_iload_n (q := 1) hC dX12_behindEnds_114 rfl rfl ?_
      exact g_iret hC hR dX12_behindEnds_115
    · refine g_iload_n (q := 1) hC dX12_behindEnds_6 rfl rfl ?_
      refine g_aload_n (q := 0) hC dX12_behindEnds_7 rfl rfl rfl ?_
      refine g_getS (k := 0) hC cf_X12 (at_120 hL) (by decide) rfl (by decide) (by decide) wf_RX12_7 dX12_behindEnds_8 ?_
      refine g_bipush (v := vI 14) hC dX12_behindEnds_11 rfl ?_
      refine g_iald hC (at_121 hL) (by decide) dX12_behindEnds_13 ?_
      refine g_icmp_ge (tgt := 114) hC dX12_behindEnds_14 (by decide) ?_ ?_
      · refine g_iload_n (q := 1) hC dX12_behindEnds_114 rfl rfl ?_
        exact g_iret hC hR dX12_behindEnds_115
      · refine g_aload_n (q := 0) hC dX12_behindEnds_17 rfl rfl rfl ?_
        refine g_getS (k := 0) hC cf_X12 (at_120 hL) (by decide) rfl (by decide) (by decide) wf_RX12_7 dX12_behindEnds_18 ?_
        refine g_sipush (v := vI 200) hC dX12_behindEnds_21 rfl ?_
        refine g_iconst (v := vI 4) hC dX12_behindEnds_24 rfl ?_
        refine g_iload_n (q := 1) hC dX12_behindEnds_25 rfl rfl ?_
        refine g_imul hC dX12_behindEnds_26 ?_
        refine g_iadd hC dX12_behindEnds_27 ?_
        refine g_iald hC (at_121 hL) (by decide) dX12_behindEnds_28 ?_
        refine g_bipush (v := vI 6) hC dX12_behindEnds_29 rfl ?_
        refine g_icmp_ne (tgt := 114) hC dX12_behindEnds_31 (by decide) ?_ ?_
        · refine g_iload_n (q := 1) hC dX12_behindEnds_114 rfl rfl ?_
          exact g_iret hC hR dX12_behindEnds_115
        · refine g_aload_n (q := 0) hC dX12_behindEnds_34 rfl rfl rfl ?_
          refine g_getS (k := 0) hC cf_X12 (at_120 hL) (by decide) rfl (by decide) (by decide) wf_RX12_7 dX12_behindEnds_35 ?_
          refine g_sipush (v := vI 200) hC dX12_behindEnds_38 rfl ?_
          refine g_iconst (v := vI 4) hC dX12_behindEnds_41 rfl ?_
          refine g_iload_n (q := 1) hC dX12_behindEnds_42 rfl rfl ?_
          refine g_imul hC dX12_behindEnds_43 ?_
          refine g_iadd hC dX12_behindEnds_44 ?_
          refine g_iconst (v := vI 3) hC dX12_behindEnds_45 rfl ?_
          refine g_iadd hC dX12_behindEnds_46 ?_
          refine g_iald hC (at_121 hL) (by decide) dX12_behindEnds_47 ?_
          refine g_topI (fun v1 => ?_)
          refine g_istore_n hC dX12_behindEnds_48 rfl (by decide) rfl ?_
          refine g_aload_n (q := 1) hC dX12_behindEnds_49 rfl rfl rfl ?_
          refine g_getS (k := 0) hC cf_X12 (at_120 hL) (by decide) rfl (by decide) (by decide) wf_RX12_7 dX12_behindEnds_50 ?_
          refine g_sipush (v := vI 200) hC dX12_behindEnds_53 rfl ?_
          refine g_iconst (v := vI 4) hC dX12_behindEnds_56 rfl ?_
          refine g_iload_n (q := 0) hC dX12_behindEnds_57 rfl rfl ?_
          refine g_imul hC dX12_behindEnds_58 ?_
          refine g_iadd hC dX12_behindEnds_59 ?_
          refine g_iald hC (at_121 hL) (by decide) dX12_behindEnds_60 ?_
          refine g_iconst (v := vI 5) hC dX12_behindEnds_61 rfl ?_
          refine g_icmp_ne (tgt := 78) hC dX12_behindEnds_62 (by decide) ?_ ?_
          · refine g_sub [1, 2, 0] rfl ?_
            exact gB_X12_behindEnds_78 hC hR hL ih x2 v1 X
          · refine g_aload_n (q := 1) hC dX12_behindEnds_65 rfl rfl rfl ?_
            refine g_getS (k := 50) hC cf_X12 (at_120 hL) (by decide) rfl (by decide) (by decide) wf_RX12_81 dX12_behindEnds_66 ?_
            refine g_iload_n (q := 0) hC dX12_behindEnds_69 rfl rfl ?_
            refine g_iald hC (at_138 hL) (by decide) dX12_behindEnds_70 ?_
            refine g_if_le (tgt := 78) hC dX12_behindEnds_71 (by decide) ?_ ?_
            · refine g_sub [1, 2, 0] rfl ?_
              exact gB_X12_behindEnds_78 hC hR hL ih x2 v1 X
            · refine g_iconst (v := vI 1) hC dX12_behindEnds_74 rfl ?_
              refine g_goto (tgt := 79) hC dX12_behindEnds_75 (by decide) ?_
              refine g_sub [1, 2, 0] rfl ?_
              exact gB_X12_behindEnds_79 hC hR hL ih x2 v1 1 X
set_option maxRecDepth 20000 in
theorem k_X12_behindEnds (l : Launch) (V : Ev) {L : List Kd} (hL : LKm L) (p1 : Int) (X : Mem)  : Kt l V L yX12_behindEnds (.code yX12_behindEnds cX12_behindEnds 5 (some .int)) 0 0 [vR V.1 120, vI p1] rI X (f_X12_behindEnds p1 X) := by
  refine kt_of (own := RX12) (lv0 := [(0, vR V.1 120), (1, vI p1)]) (by decide) rfl (Nat.le_of_ble_eq_true rfl) rfl (fun C hCl hC hR => ?_)
  subst hCl
  unfold f_X12_behindEnds
  refine g_iload_n (q := 1) hC dX12_behindEnds_0 rfl rfl ?_
  refine g_istore_n hC dX12_behindEnds_1 rfl (by decide) rfl ?_
  refine g_sub [1, 0] rfl ?_
  exact gL_X12_behindEnds_2 hC hR hL  KF p1 X
def B_X12_plays_124 (s0 : Int) (X : Mem) : Option (Int × Mem) :=
  bd (ms X 120 48 s0) fun X12 =>
  cl (f_X12_brings X12) fun _ X14 =>
  some (0, X14)
def B_X12_plays_123  (X : Mem) : Option (Int × Mem) :=
  B_X12_plays_124   0 X
def B_X12_plays_100 (x4 : Int) (X : Mem) : Option (Int × Mem) :=
  c2 x4 ((-1)) <| if x4 = ((-1)) then
    B_X12_plays_123   X
  else
    ax 2200 14 <|
    c2 x4 (X 121 14) <| if (X 121 14) ≤ x4 then
      B_X12_plays_123   X
    else
      B_X12_plays_124   1 X
def L_X12_plays_46 : Nat → Int → Int → Int → Mem → Option (Int × Mem)
  | 0, _, _, _, _ => none
  | n + 1, x1, x2, x4, X =>
    c2 x4 ((-1)) <| if x4 = ((-1)) then
      B_X12_plays_100   x4 X
    else
      ax 2200 14 <|
      c2 x4 (X 121 14) <| if (X 121 14) ≤ x4 then
        B_X12_plays_100   x4 X
      else
        c2 (X 120 44) 100 <| if 100 ≤ (X 120 44) then
          B_X12_plays_100   x4 X
        else
          cl (f_X12_does x4 x1 x2 X) fun r15 X16 =>
          cl (f_X12_behindEnds r15 X16) fun r17 X18 =>
          bd (ms X18 120 44 ((X18 120 44) + 1)) fun X19 =>
          L_X12_plays_46   n x1 x2 r17 X19
def f_X12_plays (p1 : Int) (p2 : Int) (p3 : Int) (X : Mem) : Option (Int × Mem) :=
  cl (f_X12_keeps X) fun _ X2 =>
  bd (ms X2 120 41 p3) fun X3 =>
  bd (ms X3 120 43 0) fun X4 =>
  bd (ms X4 120 44 0) fun X5 =>
  bd (ms X5 120 45 0) fun X6 =>
  bd (ms X6 120 46 0) fun X7 =>
  bd (ms X7 120 47 ((-1))) fun X8 =>
  bd (ms X8 120 49 3) fun X9 =>
  cl (f_X12_drawTruth X9) fun _ X11 =>
  L_X12_plays_46   KF p1 p2 0 X11
set_option maxRecDepth 20000 in
theorem gB_X12_plays_124 {C : Cx} {V : Ev} {L : List Kd} (hC : Ok C V cX12_plays RX12 5 9 219) (hR : Rt C V L none rV) (hL : LKm L) (s0 : Int) (X : Mem)  : G C V L 0 0 5 124 [(0, vR V.1 120)] [vI s0, vR V.1 120] X (B_X12_plays_124   s0 X) := by
  unfold B_X12_plays_124
  refine g_putI (k := 48) (kz := 48) hC cf_X12 (at_120 hL) (by decide) rfl (by decide) rfl wf_RX12_509 rfl rfl dX12_plays_124 (fun X12 => ?_)
  refine g_aload_n (q := 0) hC dX12_plays_127 rfl rfl rfl ?_
  refine g_callVV (As := []) hC mv_X12_brings wml_RX12_444 (k_X12_brings _ V hL X12) cf_X12 (at_120 hL) (by decide) ⟨Nat.zero_le _, Nat.zero_le _⟩ rfl rfl ⟨Nat.le_of_ble_eq_true rfl, Nat.le_of_ble_eq_true rfl⟩ (Nat.le_of_ble_eq_true rfl) dX12_plays_128 (fun _ X14 => ?_)
  exact g_vret hC hR dX12_plays_131
set_option maxRecDepth 20000 in
theorem gB_X12_plays_123 {C : Cx} {V : Ev} {L : List Kd} (hC : Ok C V cX12_plays RX12 5 9 219) (hR : Rt C V L none rV) (hL : LKm L)  (X : Mem)  : G C V L 0 0 5 123 [(0, vR V.1 120)] [vR V.1 120] X (B_X12_plays_123    X) := by
  unfold B_X12_plays_123
  refine g_iconst (v := vI 0) hC dX12_plays_123 rfl ?_
  exact gB_X12_plays_124 hC hR hL  0 X
set_option maxRecDepth 20000 in
theorem gB_X12_plays_100 {C : Cx} {V : Ev} {L : List Kd} (hC : Ok C V cX12_plays RX12 5 9 219) (hR : Rt C V L none rV) (hL : LKm L) (x4 : Int) (X : Mem)  : G C V L 0 0 5 100 [(0, vR V.1 120), (4, vI x4)] [] X (B_X12_plays_100   x4 X) := by
  unfold B_X12_plays_100
  refine g_aload_n (q := 0) hC dX12_plays_100 rfl rfl rfl ?_
  refine g_iload (q := 1) hC dX12_plays_101 rfl ?_
  refine g_iconst (v := vI (-1)) hC dX12_plays_103 rfl ?_
  refine g_icmp_eq (tgt := 123) hC dX12_plays_104 (by decide) ?_ ?_
  · refine g_sub [0] rfl ?_
    exact gB_X12_plays_123 hC hR hL  X
  · refine g_iload (q := 1) hC dX12_plays_107 rfl ?_
    refine g_aload_n (q := 0) hC dX12_plays_109 rfl rfl rfl ?_
    refine g_getS (k := 0) hC cf_X12 (at_120 hL) (by decide) rfl (by decide) (by decide) wf_RX12_7 dX12_plays_110 ?_
    refine g_bipush (v := vI 14) hC dX12_plays_113 rfl ?_
    refine g_iald hC (at_121 hL) (by decide) dX12_plays_115 ?_
    refine g_icmp_ge (tgt := 123) hC dX12_plays_116 (by decide) ?_ ?_
    · refine g_sub [0] rfl ?_
      exact gB_X12_plays_123 hC hR hL  X
    · refine g_iconst (v := vI 1) hC dX12_plays_119 rfl ?_
      refine g_goto (tgt := 124) hC dX12_plays_120 (by decide) ?_
      refine g_sub [0] rfl ?_
      exact gB_X12_plays_124 hC hR hL  1 X
set_option maxRecDepth 20000 in
theorem gL_X12_plays_46 {C : Cx} {V : Ev} {L : List Kd} (hC : Ok C V cX12_plays RX12 5 9 219) (hR : Rt C V L none rV) (hL : LKm L) : ∀ (n : Nat) (x1 : Int) (x2 : Int) (x4 : Int) (X : Mem), G C V L 0 0 5 46 [(0, vR V.1 120), (1, vI x1), (2, vI x2), (4, vI x4)] [] X (L_X12_plays_46   n x1 x2 x4 X) := by
  intro n
  induction n with
  | zero => intro x1 x2 x4 X; exact g_none
  | succ n ih =>
    intro x1 x2 x4 X
    rw [L_X12_plays_46]
    refine g_iload (q := 3) hC dX12_plays_46 rfl ?_
    refine g_iconst (v := vI (-1)) hC dX12_plays_48 rfl ?_
    refine g_icmp_eq (tgt := 100) hC dX12_plays_49 (by decide) ?_ ?_
    · refine g_sub [0, 3] rfl ?_
      exact gB_X12_plays_100 hC hR hL  x4 X
    · refine g_iload (q := 3) hC dX12_plays_52 rfl ?_
      refine g_aload_n (q := 0) hC dX12_plays_54 rfl rfl rfl ?_
      refine g_getS (k := 0) hC cf_X12 (at_120 hL) (by decide) rfl (by decide) (by decide) wf_RX12_7 dX12_plays_55 ?_
      refine g_bipush (v := vI 14) hC dX12_plays_58 rfl ?_
      refine g_iald hC (at_121 hL) (by decide) dX12_plays_60 ?_
      refine g_icmp_ge (tgt := 100) hC dX12_plays_61 (by decide) ?_ ?_
      · refine g_sub [0, 3] rfl ?_
        exact gB_X12_plays_100 hC hR hL  x4 X
      · refine g_aload_n (q := 0) hC dX12_plays_64 rfl rfl rfl ?_
        refine g_getI (k := 44) (kz := 44) hC cf_X12 (at_120 hL) (by decide) rfl (by decide) rfl wf_RX12_497 dX12_plays_65 ?_
        refine g_bipush (v := vI 100) hC dX12_plays_68 rfl ?_
        refine g_icmp_ge (tgt := 100) hC dX12_plays_70 (by decide) ?_ ?_
        · refine g_sub [0, 3] rfl ?_
          exact gB_X12_plays_100 hC hR hL  x4 X
        · refine g_aload_n (q := 0) hC dX12_plays_73 rfl rfl rfl ?_
          refine g_aload_n (q := 0) hC dX12_plays_74 rfl rfl rfl ?_
          refine g_iload (q := 3) hC dX12_plays_75 rfl ?_
          refine g_iload_n (q := 1) hC dX12_plays_77 rfl rfl ?_
          refine g_iload_n (q := 2) hC dX12_plays_78 rfl rfl ?_
          refine g_callVI (As := [vI x4, vI x1, vI x2]) hC mv_X12_does wml_RX12_503 (k_X12_does _ V hL x4 x1 x2 X) cf_X12 (at_120 hL) (by decide) ⟨Nat.zero_le _, Nat.zero_le _⟩ rfl rfl ⟨Nat.le_of_ble_eq_true rfl, Nat.le_of_ble_eq_true rfl⟩ (Nat.le_of_ble_eq_true rfl) dX12_plays_79 (fun r15 X16 => ?_)
          refine g_callVI (As := [vI r15]) hC mv_X12_behindEnds wml_RX12_506 (k_X12_behindEnds _ V hL r15 X16) cf_X12 (at_120 hL) (by decide) ⟨Nat.zero_le _, Nat.zero_le _⟩ rfl rfl ⟨Nat.le_of_ble_eq_true rfl, Nat.le_of_ble_eq_true rfl⟩ (Nat.le_of_ble_eq_true rfl) dX12_plays_82 (fun r17 X18 => ?_)
          refine g_istore hC dX12_plays_85 (by decide) rfl ?_
          refine g_aload_n (q := 1) hC dX12_plays_87 rfl rfl rfl ?_
          refine g_dup hC dX12_plays_88 rfl ?_
          refine g_getI (k := 44) (kz := 44) hC cf_X12 (at_120 hL) (by decide) rfl (by decide) rfl wf_RX12_497 dX12_plays_89 ?_
          refine g_iconst (v := vI 1) hC dX12_plays_92 rfl ?_
          refine g_iadd hC dX12_plays_93 ?_
          refine g_putI (k := 44) (kz := 44) hC cf_X12 (at_120 hL) (by decide) rfl (by decide) rfl wf_RX12_497 rfl rfl dX12_plays_94 (fun X19 => ?_)
          refine g_goto (tgt := 46) hC dX12_plays_97 (by decide) ?_
          refine g_sub [1, 2, 3, 0] rfl ?_
          exact ih x1 x2 r17 X19
set_option maxRecDepth 20000 in
theorem k_X12_plays (l : Launch) (V : Ev) {L : List Kd} (hL : LKm L) (p1 : Int) (p2 : Int) (p3 : Int) (X : Mem)  : Kt l V L yX12_plays (.code yX12_plays cX12_plays 5 none) 9 219 [vR V.1 120, vI p1, vI p2, vI p3] rV X (f_X12_plays p1 p2 p3 X) := by
  refine kt_of (own := RX12) (lv0 := [(0, vR V.1 120), (1, vI p1), (2, vI p2), (3, vI p3)]) (by decide) rfl (Nat.le_of_ble_eq_true rfl) rfl (fun C hCl hC hR => ?_)
  subst hCl
  unfold f_X12_plays
  refine g_aload_n (q := 0) hC dX12_plays_0 rfl rfl rfl ?_
  refine g_callVV (As := []) hC mv_X12_keeps wml_RX12_441 (k_X12_keeps _ V hL X) cf_X12 (at_120 hL) (by decide) ⟨Nat.zero_le _, Nat.zero_le _⟩ rfl rfl ⟨Nat.le_of_ble_eq_true rfl, Nat.le_of_ble_eq_true rfl⟩ (Nat.le_of_ble_eq_true rfl) dX12_plays_1 (fun _ X2 => ?_)
  refine g_aload_n (q := 0) hC dX12_plays_4 rfl rfl rfl ?_
  refine g_iload_n (q := 3) hC dX12_plays_5 rfl rfl ?_
  refine g_putI (k := 41) (kz := 41) hC cf_X12 (at_120 hL) (by decide) rfl (by decide) rfl wf_RX12_455 rfl rfl dX12_plays_6 (fun X3 => ?_)
  refine g_aload_n (q := 0) hC dX12_plays_9 rfl rfl rfl ?_
  refine g_iconst (v := vI 0) hC dX12_plays_10 rfl ?_
  refine g_putI (k := 43) (kz := 43) hC cf_X12 (at_120 hL) (by decide) rfl (by decide) rfl wf_RX12_467 rfl rfl dX12_plays_11 (fun X4 => ?_)
  refine g_aload_n (q := 0) hC dX12_plays_14 rfl rfl rfl ?_
  refine g_iconst (v := vI 0) hC dX12_plays_15 rfl ?_
  refine g_putI (k := 44) (kz := 44) hC cf_X12 (at_120 hL) (by decide) rfl (by decide) rfl wf_RX12_497 rfl rfl dX12_plays_16 (fun X5 => ?_)
  refine g_aload_n (q := 0) hC dX12_plays_19 rfl rfl rfl ?_
  refine g_iconst (v := vI 0) hC dX12_plays_20 rfl ?_
  refine g_putI (k := 45) (kz := 45) hC cf_X12 (at_120 hL) (by decide) rfl (by decide) rfl wf_RX12_470 rfl rfl dX12_plays_21 (fun X6 => ?_)
  refine g_aload_n (q := 0) hC dX12_plays_24 rfl rfl rfl ?_
  refine g_iconst (v := vI 0) hC dX12_plays_25 rfl ?_
  refine g_putI (k := 46) (kz := 46) hC cf_X12 (at_120 hL) (by decide) rfl (by decide) rfl wf_RX12_473 rfl rfl dX12_plays_26 (fun X7 => ?_)
  refine g_aload_n (q := 0) hC dX12_plays_29 rfl rfl rfl ?_
  refine g_iconst (v := vI (-1)) hC dX12_plays_30 rfl ?_
  refine g_putI (k := 47) (kz := 47) hC cf_X12 (at_120 hL) (by decide) rfl (by decide) rfl wf_RX12_476 rfl rfl dX12_plays_31 (fun X8 => ?_)
  refine g_aload_n (q := 0) hC dX12_plays_34 rfl rfl rfl ?_
  refine g_iconst (v := vI 3) hC dX12_plays_35 rfl ?_
  refine g_putI (k := 49) (kz := 49) hC cf_X12 (at_120 hL) (by decide) rfl (by decide) rfl wf_RX12_78 rfl rfl dX12_plays_36 (fun X9 => ?_)
  refine g_aload_n (q := 0) hC dX12_plays_39 rfl rfl rfl ?_
  refine g_callVV (As := []) hC mv_X12_drawTruth wml_RX12_500 (k_X12_drawTruth _ V hL X9) cf_X12 (at_120 hL) (by decide) ⟨Nat.zero_le _, Nat.zero_le _⟩ rfl rfl ⟨Nat.le_of_ble_eq_true rfl, Nat.le_of_ble_eq_true rfl⟩ (Nat.le_of_ble_eq_true rfl) dX12_plays_40 (fun _ X11 => ?_)
  refine g_iconst (v := vI 0) hC dX12_plays_43 rfl ?_
  refine g_istore hC dX12_plays_44 (by decide) rfl ?_
  refine g_sub [1, 2, 3, 0] rfl ?_
  exact gL_X12_plays_46 hC hR hL  KF p1 p2 0 X11
def f_X12_tellsPlayed  (X : Mem) : Option (Int × Mem) :=
  ax 7 0 <| bd (ms X 139 0 (X 120 43)) fun X1 =>
  ax 7 1 <| bd (ms X1 139 1 (X1 120 44)) fun X2 =>
  ax 7 2 <| bd (ms X2 139 2 (X2 120 45)) fun X3 =>
  ax 7 3 <| bd (ms X3 139 3 (X3 120 46)) fun X4 =>
  ax 7 4 <| bd (ms X4 139 4 (X4 120 42)) fun X5 =>
  ax 7 5 <| bd (ms X5 139 5 (X5 120 47)) fun X6 =>
  ax 7 6 <| bd (ms X6 139 6 (X6 120 48)) fun X7 =>
  cz 1 <| bd (ms X7 120 52 1) fun X8 =>
  some (0, X8)
set_option maxRecDepth 20000 in
theorem k_X12_tellsPlayed (l : Launch) (V : Ev) {L : List Kd} (hL : LKm L)  (X : Mem)  : Kt l V L yX12_tellsPlayed (.code yX12_tellsPlayed cX12_tellsPlayed 1 none) 0 0 [vR V.1 120] rV X (f_X12_tellsPlayed  X) := by
  refine kt_of (own := RX12) (lv0 := [(0, vR V.1 120)]) (by decide) rfl (Nat.le_of_ble_eq_true rfl) rfl (fun C hCl hC hR => ?_)
  subst hCl
  unfold f_X12_tellsPlayed
  refine g_aload_n (q := 0) hC dX12_tellsPlayed_0 rfl rfl rfl ?_
  refine g_getS (k := 51) hC cf_X12 (at_120 hL) (by decide) rfl (by decide) (by decide) wf_RX12_84 dX12_tellsPlayed_1 ?_
  refine g_iconst (v := vI 0) hC dX12_tellsPlayed_4 rfl ?_
  refine g_aload_n (q := 0) hC dX12_tellsPlayed_5 rfl rfl rfl ?_
  refine g_getI (k := 43) (kz := 43) hC cf_X12 (at_120 hL) (by decide) rfl (by decide) rfl wf_RX12_467 dX12_tellsPlayed_6 ?_
  refine g_iast hC (at_139 hL) (by decide) dX12_tellsPlayed_9 (fun X1 => ?_)
  refine g_aload_n (q := 0) hC dX12_tellsPlayed_10 rfl rfl rfl ?_
  refine g_getS (k := 51) hC cf_X12 (at_120 hL) (by decide) rfl (by decide) (by decide) wf_RX12_84 dX12_tellsPlayed_11 ?_
  refine g_iconst (v := vI 1) hC dX12_tellsPlayed_14 rfl ?_
  refine g_aload_n (q := 0) hC dX12_tellsPlayed_15 rfl rfl rfl ?_
  refine g_getI (k := 44) (kz := 44) hC cf_X12 (at_120 hL) (by decide) rfl (by decide) rfl wf_RX12_497 dX12_tellsPlayed_16 ?_
  refine g_iast hC (at_139 hL) (by decide) dX12_tellsPlayed_19 (fun X2 => ?_)
  refine g_aload_n (q := 0) hC dX12_tellsPlayed_20 rfl rfl rfl ?_
  refine g_getS (k := 51) hC cf_X12 (at_120 hL) (by decide) rfl (by decide) (by decide) wf_RX12_84 dX12_tellsPlayed_21 ?_
  refine g_iconst (v := vI 2) hC dX12_tellsPlayed_24 rfl ?_
  refine g_aload_n (q := 0) hC dX12_tellsPlayed_25 rfl rfl rfl ?_
  refine g_getI (k := 45) (kz := 45) hC cf_X12 (at_120 hL) (by decide) rfl (by decide) rfl wf_RX12_470 dX12_tellsPlayed_26 ?_
  refine g_iast hC (at_139 hL) (by decide) dX12_tellsPlayed_29 (fun X3 => ?_)
  refine g_aload_n (q := 0) hC dX12_tellsPlayed_30 rfl rfl rfl ?_
  refine g_getS (k := 51) hC cf_X12 (at_120 hL) (by decide) rfl (by decide) (by decide) wf_RX12_84 dX12_tellsPlayed_31 ?_
  refine g_iconst (v := vI 3) hC dX12_tellsPlayed_34 rfl ?_
  refine g_aload_n (q := 0) hC dX12_tellsPlayed_35 rfl rfl rfl ?_
  refine g_getI (k := 46) (kz := 46) hC cf_X12 (at_120 hL) (by decide) rfl (by decide) rfl wf_RX12_473 dX12_tellsPlayed_36 ?_
  refine g_iast hC (at_139 hL) (by decide) dX12_tellsPlayed_39 (fun X4 => ?_)
  refine g_aload_n (q := 0) hC dX12_tellsPlayed_40 rfl rfl rfl ?_
  refine g_getS (k := 51) hC cf_X12 (at_120 hL) (by decide) rfl (by decide) (by decide) wf_RX12_84 dX12_tellsPlayed_41 ?_
  refine g_iconst (v := vI 4) hC dX12_tellsPlayed_44 rfl ?_
  refine g_aload_n (q := 0) hC dX12_tellsPlayed_45 rfl rfl rfl ?_
  refine g_getI (k := 42) (kz := 42) hC cf_X12 (at_120 hL) (by decide) rfl (by decide) rfl wf_RX12_462 dX12_tellsPlayed_46 ?_
  refine g_iast hC (at_139 hL) (by decide) dX12_tellsPlayed_49 (fun X5 => ?_)
  refine g_aload_n (q := 0) hC dX12_tellsPlayed_50 rfl rfl rfl ?_
  refine g_getS (k := 51) hC cf_X12 (at_120 hL) (by decide) rfl (by decide) (by decide) wf_RX12_84 dX12_tellsPlayed_51 ?_
  refine g_iconst (v := vI 5) hC dX12_tellsPlayed_54 rfl ?_
  refine g_aload_n (q := 0) hC dX12_tellsPlayed_55 rfl rfl rfl ?_
  refine g_getI (k := 47) (kz := 47) hC cf_X12 (at_120 hL) (by decide) rfl (by decide) rfl wf_RX12_476 dX12_tellsPlayed_56 ?_
  refine g_iast hC (at_139 hL) (by decide) dX12_tellsPlayed_59 (fun X6 => ?_)
  refine g_aload_n (q := 0) hC dX12_tellsPlayed_60 rfl rfl rfl ?_
  refine g_getS (k := 51) hC cf_X12 (at_120 hL) (by decide) rfl (by decide) (by decide) wf_RX12_84 dX12_tellsPlayed_61 ?_
  refine g_bipush (v := vI 6) hC dX12_tellsPlayed_64 rfl ?_
  refine g_aload_n (q := 0) hC dX12_tellsPlayed_66 rfl rfl rfl ?_
  refine g_getI (k := 48) (kz := 48) hC cf_X12 (at_120 hL) (by decide) rfl (by decide) rfl wf_RX12_509 dX12_tellsPlayed_67 ?_
  refine g_iast hC (at_139 hL) (by decide) dX12_tellsPlayed_70 (fun X7 => ?_)
  refine g_aload_n (q := 0) hC dX12_tellsPlayed_71 rfl rfl rfl ?_
  refine g_iconst (v := vI 1) hC dX12_tellsPlayed_72 rfl ?_
  refine g_putZ (k := 52) (kz := 52) hC cf_X12 (at_120 hL) (by decide) rfl (by decide) rfl wf_RX12_520 rfl rfl dX12_tellsPlayed_73 (fun X8 => ?_)
  exact g_vret hC hR dX12_tellsPlayed_76
def B_X12_play_21  (X : Mem) : Option (Int × Mem) :=
  cl (f_X12_refuse 1 X) fun r3 X4 =>
  some (r3, X4)
def f_X12_play (p1 : Int) (p2 : Int) (p3 : Int) (X : Mem) : Option (Int × Mem) :=
  cl (f_X12_areCells p1 p2 X) fun r1 X2 =>
  c1 r1 <| if r1 = 0 then
    B_X12_play_21   X2
  else
    c1 p3 <|
    cl (f_X12_isFrom p3 0 9999 X2) fun r5 X6 =>
    c1 r5 <| if ¬ r5 = 0 then
      cl (f_X12_plays p1 p2 p3 X6) fun _ X8 =>
      cl (f_X12_tellsPlayed X8) fun _ X10 =>
      cl (f_X12_gives (X10 120 49) X10) fun r11 X12 =>
      some (r11, X12)
    else
      B_X12_play_21   X6
set_option maxRecDepth 20000 in
theorem gB_X12_play_21 {C : Cx} {V : Ev} {L : List Kd} (hC : Ok C V cX12_play RX12 4 10 243) (hR : Rt C V L (some .int) rI) (hL : LKm L)  (X : Mem)  : G C V L 0 0 4 21 [(0, vR V.1 120)] [] X (B_X12_play_21    X) := by
  unfold B_X12_play_21
  refine g_aload_n (q := 0) hC dX12_play_21 rfl rfl rfl ?_
  refine g_iconst (v := vI 1) hC dX12_play_22 rfl ?_
  refine g_callVI (As := [vI 1]) hC mv_X12_refuse wml_RX12_185 (k_X12_refuse _ V hL 1 X) cf_X12 (at_120 hL) (by decide) ⟨Nat.zero_le _, Nat.zero_le _⟩ rfl rfl ⟨Nat.le_of_ble_eq_true rfl, Nat.le_of_ble_eq_true rfl⟩ (Nat.le_of_ble_eq_true rfl) dX12_play_23 (fun r3 X4 => ?_)
  exact g_iret hC hR dX12_play_26
set_option maxRecDepth 20000 in
theorem k_X12_play (l : Launch) (V : Ev) {L : List Kd} (hL : LKm L) (p1 : Int) (p2 : Int) (p3 : Int) (X : Mem)  : Kt l V L yX12_play (.code yX12_play cX12_play 4 (some .int)) 10 243 [vR V.1 120, vI p1, vI p2, vI p3] rI X (f_X12_play p1 p2 p3 X) := by
  refine kt_of (own := RX12) (lv0 := [(0, vR V.1 120), (1, vI p1), (2, vI p2), (3, vI p3)]) (by decide) rfl (Nat.le_of_ble_eq_true rfl) rfl (fun C hCl hC hR => ?_)
  subst hCl
  unfold f_X12_play
  refine g_aload_n (q := 0) hC dX12_play_0 rfl rfl rfl ?_
  refine g_iload_n (q := 1) hC dX12_play_1 rfl rfl ?_
  refine g_iload_n (q := 2) hC dX12_play_2 rfl rfl ?_
  refine g_callVI (As := [vI p1, vI p2]) hC mv_X12_areCells wml_RX12_378 (k_X12_areCells _ V hL p1 p2 X) cf_X12 (at_120 hL) (by decide) ⟨Nat.zero_le _, Nat.zero_le _⟩ rfl rfl ⟨Nat.le_of_ble_eq_true rfl, Nat.le_of_ble_eq_true rfl⟩ (Nat.le_of_ble_eq_true rfl) dX12_play_3 (fun r1 X2 => ?_)
  refine g_if_eq (tgt := 21) hC dX12_play_6 (by decide) ?_ ?_
  · refine g_sub [0] rfl ?_
    exact gB_X12_play_21 hC hR hL  X2
  · refine g_iload_n (q := 3) hC dX12_play_9 rfl rfl ?_
    refine g_i2l hC dX12_play_10 ?_
    refine g_lconst (v := vJ 0) hC dX12_play_11 rfl ?_
    refine g_ldc2 (n := 9999) hC wk_RX12_512 rfl dX12_play_12 ?_
    refine g_callSI (As := [vJ p3, vJ 0, vJ 9999]) hC mt_X12_isFrom wml_RX12_281 (k_X12_isFrom _ V hL p3 0 9999 X2) ⟨Nat.zero_le _, Nat.zero_le _⟩ rfl rfl ⟨Nat.le_of_ble_eq_true rfl, Nat.le_of_ble_eq_true rfl⟩ (Nat.le_of_ble_eq_true rfl) dX12_play_15 (fun r5 X6 => ?_)
    refine g_if_ne (tgt := 27) hC dX12_play_18 (by decide) ?_ ?_
    · refine g_aload_n (q := 0) hC dX12_play_27 rfl rfl rfl ?_
      refine g_iload_n (q := 1) hC dX12_play_28 rfl rfl ?_
      refine g_iload_n (q := 2) hC dX12_play_29 rfl rfl ?_
      refine g_iload_n (q := 3) hC dX12_play_30 rfl rfl ?_
      refine g_callVV (As := [vI p1, vI p2, vI p3]) hC mv_X12_plays wml_RX12_514 (k_X12_plays _ V hL p1 p2 p3 X6) cf_X12 (at_120 hL) (by decide) ⟨Nat.zero_le _, Nat.zero_le _⟩ rfl rfl ⟨Nat.le_of_ble_eq_true rfl, Nat.le_of_ble_eq_true rfl⟩ (Nat.le_of_ble_eq_true rfl) dX12_play_31 (fun _ X8 => ?_)
      refine g_aload_n (q := 0) hC dX12_play_34 rfl rfl rfl ?_
      refine g_callVV (As := []) hC mv_X12_tellsPlayed wml_RX12_517 (k_X12_tellsPlayed _ V hL X8) cf_X12 (at_120 hL) (by decide) ⟨Nat.zero_le _, Nat.zero_le _⟩ rfl rfl ⟨Nat.le_of_ble_eq_true rfl, Nat.le_of_ble_eq_true rfl⟩ (Nat.le_of_ble_eq_true rfl) dX12_play_35 (fun _ X10 => ?_)
      refine g_aload_n (q := 0) hC dX12_play_38 rfl rfl rfl ?_
      refine g_aload_n (q := 0) hC dX12_play_39 rfl rfl rfl ?_
      refine g_getI (k := 49) (kz := 49) hC cf_X12 (at_120 hL) (by decide) rfl (by decide) rfl wf_RX12_78 dX12_play_40 ?_
      refine g_callVI (As := [vI (X10 120 49)]) hC mv_X12_gives wml_RX12_188 (k_X12_gives _ V hL (X10 120 49) X10) cf_X12 (at_120 hL) (by decide) ⟨Nat.zero_le _, Nat.zero_le _⟩ rfl rfl ⟨Nat.le_of_ble_eq_true rfl, Nat.le_of_ble_eq_true rfl⟩ (Nat.le_of_ble_eq_true rfl) dX12_play_43 (fun r11 X12 => ?_)
      exact g_iret hC hR dX12_play_46
    · refine g_sub [0] rfl ?_
      exact gB_X12_play_21 hC hR hL  X6
def B_X12_played_10  (X : Mem) : Option (Int × Mem) :=
  cl (f_X12_refuse 1 X) fun r1 X2 =>
  some (r1, X2)
def f_X12_played (p1 : Int) (X : Mem) : Option (Int × Mem) :=
  c1 p1 <| if p1 < 0 then
    B_X12_played_10   X
  else
    c2 p1 6 <| if p1 ≤ 6 then
      c1 (X 120 52) <| if ¬ (X 120 52) = 0 then
        ax 7 p1 <|
        cl (f_X12_gives (X 139 p1) X) fun r3 X4 =>
        some (r3, X4)
      else
        cl (f_X12_refuse 6 X) fun r5 X6 =>
        some (r5, X6)
    else
      B_X12_played_10   X
set_option maxRecDepth 20000 in
theorem gB_X12_played_10 {C : Cx} {V : Ev} {L : List Kd} (hC : Ok C V cX12_played RX12 2 1 21) (hR : Rt C V L (some .int) rI) (hL : LKm L)  (X : Mem)  : G C V L 0 0 2 10 [(0, vR V.1 120)] [] X (B_X12_played_10    X) := by
  unfold B_X12_played_10
  refine g_aload_n (q := 0) hC dX12_played_10 rfl rfl rfl ?_
  refine g_iconst (v := vI 1) hC dX12_played_11 rfl ?_
  refine g_callVI (As := [vI 1]) hC mv_X12_refuse wml_RX12_185 (k_X12_refuse _ V hL 1 X) cf_X12 (at_120 hL) (by decide) ⟨Nat.zero_le _, Nat.zero_le _⟩ rfl rfl ⟨Nat.le_of_ble_eq_true rfl, Nat.le_of_ble_eq_true rfl⟩ (Nat.le_of_ble_eq_true rfl) dX12_played_12 (fun r1 X2 => ?_)
  refine g_goto (tgt := 44) hC dX12_played_15 (by decide) ?_
  exact g_iret hC hR dX12_played_44
set_option maxRecDepth 20000 in
theorem k_X12_played (l : Launch) (V : Ev) {L : List Kd} (hL : LKm L) (p1 : Int) (X : Mem)  : Kt l V L yX12_played (.code yX12_played cX12_played 2 (some .int)) 1 21 [vR V.1 120, vI p1] rI X (f_X12_played p1 X) := by
  refine kt_of (own := RX12) (lv0 := [(0, vR V.1 120), (1, vI p1)]) (by decide) rfl (Nat.le_of_ble_eq_true rfl) rfl (fun C hCl hC hR => ?_)
  subst hCl
  unfold f_X12_played
  refine g_iload_n (q := 1) hC dX12_played_0 rfl rfl ?_
  refine g_if_lt (tgt := 10) hC dX12_played_1 (by decide) ?_ ?_
  · refine g_sub [0] rfl ?_
    exact gB_X12_played_10 hC hR hL  X
  · refine g_iload_n (q := 1) hC dX12_played_4 rfl rfl ?_
    refine g_bipush (v := vI 6) hC dX12_played_5 rfl ?_
    refine g_icmp_le (tgt := 18) hC dX12_played_7 (by decide) ?_ ?_
    · refine g_aload_n (q := 0) hC dX12_played_18 rfl rfl rfl ?_
      refine g_getI (k := 52) (kz := 52) hC cf_X12 (at_120 hL) (by decide) rfl (by decide) rfl wf_RX12_520 dX12_played_19 ?_
      refine g_if_ne (tgt := 34) hC dX12_played_22 (by decide) ?_ ?_
      · refine g_aload_n (q := 0) hC dX12_played_34 rfl rfl rfl ?_
        refine g_aload_n (q := 0) hC dX12_played_35 rfl rfl rfl ?_
        refine g_getS (k := 51) hC cf_X12 (at_120 hL) (by decide) rfl (by decide) (by decide) wf_RX12_84 dX12_played_36 ?_
        refine g_iload_n (q := 1) hC dX12_played_39 rfl rfl ?_
        refine g_iald hC (at_139 hL) (by decide) dX12_played_40 ?_
        refine g_callVI (As := [vI (X 139 p1)]) hC mv_X12_gives wml_RX12_188 (k_X12_gives _ V hL (X 139 p1) X) cf_X12 (at_120 hL) (by decide) ⟨Nat.zero_le _, Nat.zero_le _⟩ rfl rfl ⟨Nat.le_of_ble_eq_true rfl, Nat.le_of_ble_eq_true rfl⟩ (Nat.le_of_ble_eq_true rfl) dX12_played_41 (fun r3 X4 => ?_)
        exact g_iret hC hR dX12_played_44
      · refine g_aload_n (q := 0) hC dX12_played_25 rfl rfl rfl ?_
        refine g_bipush (v := vI 6) hC dX12_played_26 rfl ?_
        refine g_callVI (As := [vI 6]) hC mv_X12_refuse wml_RX12_185 (k_X12_refuse _ V hL 6 X) cf_X12 (at_120 hL) (by decide) ⟨Nat.zero_le _, Nat.zero_le _⟩ rfl rfl ⟨Nat.le_of_ble_eq_true rfl, Nat.le_of_ble_eq_true rfl⟩ (Nat.le_of_ble_eq_true rfl) dX12_played_28 (fun r5 X6 => ?_)
        refine g_goto (tgt := 44) hC dX12_played_31 (by decide) ?_
        exact g_iret hC hR dX12_played_44
    · refine g_sub [0] rfl ?_
      exact gB_X12_played_10 hC hR hL  X
def B_X12_tally_57  (X : Mem) : Option (Int × Mem) :=
  cl (f_X12_refuse 1 X) fun r3 X4 =>
  some (r3, X4)
def B_X12_tally_111 (x6 : Int) (X : Mem) : Option (Int × Mem) :=
  cl (f_X12_gives x6 X) fun r9 X10 =>
  some (r9, X10)
def B_X12_tally_102 (go69 : Int → Int → Int → Int → Int → Int → Int → Mem → Option (Int × Mem)) (x1 : Int) (x2 : Int) (x3 : Int) (x4 : Int) (x5 : Int) (x7 : Int) (s0 : Int) (s1 : Int) (X : Mem) : Option (Int × Mem) :=
  bd (s1 + s0) fun v13 =>
  go69 x1 x2 x3 x4 x5 v13 (x7 + 1) X
def L_X12_tally_69 : Nat → Int → Int → Int → Int → Int → Int → Int → Mem → Option (Int × Mem)
  | 0, _, _, _, _, _, _, _, _ => none
  | n + 1, x1, x2, x3, x4, x5, x6, x7, X =>
    c2 x7 x4 <| if x4 ≤ x7 then
      B_X12_tally_111   x6 X
    else
      cl (f_X12_plays x1 x2 (x3 + x7) X) fun _ X12 =>
      c2 (X12 120 49) x5 <| if ¬ (X12 120 49) = x5 then
        B_X12_tally_102  (fun x1 x2 x3 x4 x5 x6 x7 X => L_X12_tally_69   n x1 x2 x3 x4 x5 x6 x7 X) x1 x2 x3 x4 x5 x7 0 x6 X12
      else
        B_X12_tally_102  (fun x1 x2 x3 x4 x5 x6 x7 X => L_X12_tally_69   n x1 x2 x3 x4 x5 x6 x7 X) x1 x2 x3 x4 x5 x7 1 x6 X12
def f_X12_tally (p1 : Int) (p2 : Int) (p3 : Int) (p4 : Int) (p5 : Int) (X : Mem) : Option (Int × Mem) :=
  cl (f_X12_areCells p1 p2 X) fun r1 X2 =>
  c1 r1 <| if r1 = 0 then
    B_X12_tally_57   X2
  else
    c1 p3 <|
    cl (f_X12_isFrom p3 0 9999 X2) fun r5 X6 =>
    c1 r5 <| if r5 = 0 then
      B_X12_tally_57   X6
    else
      c1 p4 <|
      cl (f_X12_isFrom p4 1 30 X6) fun r7 X8 =>
      c1 r7 <| if r7 = 0 then
        B_X12_tally_57   X8
      else
        c2 ((p3 + p4) - 1) 9999 <| if 9999 < ((p3 + p4) - 1) then
          B_X12_tally_57   X8
        else
          c1 p5 <| if p5 < 0 then
            B_X12_tally_57   X8
          else
            c2 p5 3 <| if p5 ≤ 3 then
              L_X12_tally_69   KF p1 p2 p3 p4 p5 0 0 X8
            else
              B_X12_tally_57   X8
set_option maxRecDepth 20000 in
theorem gB_X12_tally_57 {C : Cx} {V : Ev} {L : List Kd} (hC : Ok C V cX12_tally RX12 8 10 243) (hR : Rt C V L (some .int) rI) (hL : LKm L)  (X : Mem)  : G C V L 0 0 8 57 [(0, vR V.1 120)] [] X (B_X12_tally_57    X) := by
  unfold B_X12_tally_57
  refine g_aload_n (q := 0) hC dX12_tally_57 rfl rfl rfl ?_
  refine g_iconst (v := vI 1) hC dX12_tally_58 rfl ?_
  refine g_callVI (As := [vI 1]) hC mv_X12_refuse wml_RX12_185 (k_X12_refuse _ V hL 1 X) cf_X12 (at_120 hL) (by decide) ⟨Nat.zero_le _, Nat.zero_le _⟩ rfl rfl ⟨Nat.le_of_ble_eq_true rfl, Nat.le_of_ble_eq_true rfl⟩ (Nat.le_of_ble_eq_true rfl) dX12_tally_59 (fun r3 X4 => ?_)
  exact g_iret hC hR dX12_tally_62
set_option maxRecDepth 20000 in
theorem gB_X12_tally_111 {C : Cx} {V : Ev} {L : List Kd} (hC : Ok C V cX12_tally RX12 8 10 243) (hR : Rt C V L (some .int) rI) (hL : LKm L) (x6 : Int) (X : Mem)  : G C V L 0 0 8 111 [(0, vR V.1 120), (6, vI x6)] [] X (B_X12_tally_111   x6 X) := by
  unfold B_X12_tally_111
  refine g_aload_n (q := 0) hC dX12_tally_111 rfl rfl rfl ?_
  refine g_iload (q := 1) hC dX12_tally_112 rfl ?_
  refine g_callVI (As := [vI x6]) hC mv_X12_gives wml_RX12_188 (k_X12_gives _ V hL x6 X) cf_X12 (at_120 hL) (by decide) ⟨Nat.zero_le _, Nat.zero_le _⟩ rfl rfl ⟨Nat.le_of_ble_eq_true rfl, Nat.le_of_ble_eq_true rfl⟩ (Nat.le_of_ble_eq_true rfl) dX12_tally_114 (fun r9 X10 => ?_)
  exact g_iret hC hR dX12_tally_117
set_option maxRecDepth 20000 in
theorem gB_X12_tally_102 {C : Cx} {V : Ev} {L : List Kd} (hC : Ok C V cX12_tally RX12 8 10 243) (hR : Rt C V L (some .int) rI) (hL : LKm L) {go69 : Int → Int → Int → Int → Int → Int → Int → Mem → Option (Int × Mem)} (hgo69 : ∀ (x1 : Int) (x2 : Int) (x3 : Int) (x4 : Int) (x5 : Int) (x6 : Int) (x7 : Int) (X : Mem), G C V L 0 0 8 69 [(0, vR V.1 120), (1, vI x1), (2, vI x2), (3, vI x3), (4, vI x4), (5, vI x5), (6, vI x6), (7, vI x7)] [] X (go69 x1 x2 x3 x4 x5 x6 x7 X)) (x1 : Int) (x2 : Int) (x3 : Int) (x4 : Int) (x5 : Int) (x7 : Int) (s0 : Int) (s1 : Int) (X : Mem)  : G C V L 0 0 8 102 [(0, vR V.1 120), (1, vI x1), (2, vI x2), (3, vI x3), (4, vI x4), (5, vI x5), (7, vI x7)] [vI s0, vI s1] X (B_X12_tally_102  go69 x1 x2 x3 x4 x5 x7 s0 s1 X) := by
  unfold B_X12_tally_102
  refine g_iadd hC dX12_tally_102 ?_
  refine g_topI (fun v13 => ?_)
  refine g_istore hC dX12_tally_103 (by decide) rfl ?_
  refine g_iinc (q := 7) hC dX12_tally_105 rfl (by decide) rfl ?_
  refine g_goto (tgt := 69) hC dX12_tally_108 (by decide) ?_
  refine g_sub [2, 3, 4, 5, 6, 7, 1, 0] rfl ?_
  exact hgo69 x1 x2 x3 x4 x5 v13 (x7 + 1) X
set_option maxRecDepth 20000 in
theorem gL_X12_tally_69 {C : Cx} {V : Ev} {L : List Kd} (hC : Ok C V cX12_tally RX12 8 10 243) (hR : Rt C V L (some .int) rI) (hL : LKm L) : ∀ (n : Nat) (x1 : Int) (x2 : Int) (x3 : Int) (x4 : Int) (x5 : Int) (x6 : Int) (x7 : Int) (X : Mem), G C V L 0 0 8 69 [(0, vR V.1 120), (1, vI x1), (2, vI x2), (3, vI x3), (4, vI x4), (5, vI x5), (6, vI x6), (7, vI x7)] [] X (L_X12_tally_69   n x1 x2 x3 x4 x5 x6 x7 X) := by
  intro n
  induction n with
  | zero => intro x1 x2 x3 x4 x5 x6 x7 X; exact g_none
  | succ n ih =>
    intro x1 x2 x3 x4 x5 x6 x7 X
    rw [L_X12_tally_69]
    refine g_iload (q := 7) hC dX12_tally_69 rfl ?_
    refine g_iload (q := 4) hC dX12_tally_71 rfl ?_
    refine g_icmp_ge (tgt := 111) hC dX12_tally_73 (by decide) ?_ ?_
    · refine g_sub [0, 6] rfl ?_
      exact gB_X12_tally_111 hC hR hL  x6 X
    · refine g_aload_n (q := 0) hC dX12_tally_76 rfl rfl rfl ?_
      refine g_iload_n (q := 1) hC dX12_tally_77 rfl rfl ?_
      refine g_iload_n (q := 2) hC dX12_tally_78 rfl rfl ?_
      refine g_iload_n (q := 3) hC dX12_tally_79 rfl rfl ?_
      refine g_iload (q := 7) hC dX12_tally_80 rfl ?_
      refine g_iadd hC dX12_tally_82 ?_
      refine g_callVV (As := [vI x1, vI x2, vI (x3 + x7)]) hC mv_X12_plays wml_RX12_514 (k_X12_plays _ V hL x1 x2 (x3 + x7) X) cf_X12 (at_120 hL) (by decide) ⟨Nat.zero_le _, Nat.zero_le _⟩ rfl rfl ⟨Nat.le_of_ble_eq_true rfl, Nat.le_of_ble_eq_true rfl⟩ (Nat.le_of_ble_eq_true rfl) dX12_tally_83 (fun _ X12 => ?_)
      refine g_iload (q := 6) hC dX12_tally_86 rfl ?_
      refine g_aload_n (q := 0) hC dX12_tally_88 rfl rfl rfl ?_
      refine g_getI (k := 49) (kz := 49) hC cf_X12 (at_120 hL) (by decide) rfl (by decide) rfl wf_RX12_78 dX12_tally_89 ?_
      refine g_iload (q := 5) hC dX12_tally_92 rfl ?_
      refine g_icmp_ne (tgt := 101) hC dX12_tally_94 (by decide) ?_ ?_
      · refine g_iconst (v := vI 0) hC dX12_tally_101 rfl ?_
        refine g_sub [0, 1, 2, 3, 4, 5, 7] rfl ?_
        exact gB_X12_tally_102 hC hR hL ih x1 x2 x3 x4 x5 x7 0 x6 X12
      · refine g_iconst (v := vI 1) hC dX12_tally_97 rfl ?_
        refine g_goto (tgt := 102) hC dX12_tally_98 (by decide) ?_
        refine g_sub [0, 1, 2, 3, 4, 5, 7] rfl ?_
        exact gB_X12_tally_102 hC hR hL ih x1 x2 x3 x4 x5 x7 1 x6 X12
set_option maxRecDepth 20000 in
theorem k_X12_tally (l : Launch) (V : Ev) {L : List Kd} (hL : LKm L) (p1 : Int) (p2 : Int) (p3 : Int) (p4 : Int) (p5 : Int) (X : Mem)  : Kt l V L yX12_tally (.code yX12_tally cX12_tally 8 (some .int)) 10 243 [vR V.1 120, vI p1, vI p2, vI p3, vI p4, vI p5] rI X (f_X12_tally p1 p2 p3 p4 p5 X) := by
  refine kt_of (own := RX12) (lv0 := [(0, vR V.1 120), (1, vI p1), (2, vI p2), (3, vI p3), (4, vI p4), (5, vI p5)]) (by decide) rfl (Nat.le_of_ble_eq_true rfl) rfl (fun C hCl hC hR => ?_)
  subst hCl
  unfold f_X12_tally
  refine g_aload_n (q := 0) hC dX12_tally_0 rfl rfl rfl ?_
  refine g_iload_n (q := 1) hC dX12_tally_1 rfl rfl ?_
  refine g_iload_n (q := 2) hC dX12_tally_2 rfl rfl ?_
  refine g_callVI (As := [vI p1, vI p2]) hC mv_X12_areCells wml_RX12_378 (k_X12_areCells _ V hL p1 p2 X) cf_X12 (at_120 hL) (by decide) ⟨Nat.zero_le _, Nat.zero_le _⟩ rfl rfl ⟨Nat.le_of_ble_eq_true rfl, Nat.le_of_ble_eq_true rfl⟩ (Nat.le_of_ble_eq_true rfl) dX12_tally_3 (fun r1 X2 => ?_)
  refine g_if_eq (tgt := 57) hC dX12_tally_6 (by decide) ?_ ?_
  · refine g_sub [0] rfl ?_
    exact gB_X12_tally_57 hC hR hL  X2
  · refine g_iload_n (q := 3) hC dX12_tally_9 rfl rfl ?_
    refine g_i2l hC dX12_tally_10 ?_
    refine g_lconst (v := vJ 0) hC dX12_tally_11 rfl ?_
    refine g_ldc2 (n := 9999) hC wk_RX12_512 rfl dX12_tally_12 ?_
    refine g_callSI (As := [vJ p3, vJ 0, vJ 9999]) hC mt_X12_isFrom wml_RX12_281 (k_X12_isFrom _ V hL p3 0 9999 X2) ⟨Nat.zero_le _, Nat.zero_le _⟩ rfl rfl ⟨Nat.le_of_ble_eq_true rfl, Nat.le_of_ble_eq_true rfl⟩ (Nat.le_of_ble_eq_true rfl) dX12_tally_15 (fun r5 X6 => ?_)
    refine g_if_eq (tgt := 57) hC dX12_tally_18 (by decide) ?_ ?_
    · refine g_sub [0] rfl ?_
      exact gB_X12_tally_57 hC hR hL  X6
    · refine g_iload (q := 4) hC dX12_tally_21 rfl ?_
      refine g_i2l hC dX12_tally_23 ?_
      refine g_lconst (v := vJ 1) hC dX12_tally_24 rfl ?_
      refine g_ldc2 (n := 30) hC wk_RX12_324 rfl dX12_tally_25 ?_
      refine g_callSI (As := [vJ p4, vJ 1, vJ 30]) hC mt_X12_isFrom wml_RX12_281 (k_X12_isFrom _ V hL p4 1 30 X6) ⟨Nat.zero_le _, Nat.zero_le _⟩ rfl rfl ⟨Nat.le_of_ble_eq_true rfl, Nat.le_of_ble_eq_true rfl⟩ (Nat.le_of_ble_eq_true rfl) dX12_tally_28 (fun r7 X8 => ?_)
      refine g_if_eq (tgt := 57) hC dX12_tally_31 (by decide) ?_ ?_
      · refine g_sub [0] rfl ?_
        exact gB_X12_tally_57 hC hR hL  X8
      · refine g_iload_n (q := 3) hC dX12_tally_34 rfl rfl ?_
        refine g_iload (q := 4) hC dX12_tally_35 rfl ?_
        refine g_iadd hC dX12_tally_37 ?_
        refine g_iconst (v := vI 1) hC dX12_tally_38 rfl ?_
        refine g_isub hC dX12_tally_39 ?_
        refine g_sipush (v := vI 9999) hC dX12_tally_40 rfl ?_
        refine g_icmp_gt (tgt := 57) hC dX12_tally_43 (by decide) ?_ ?_
        · refine g_sub [0] rfl ?_
          exact gB_X12_tally_57 hC hR hL  X8
        · refine g_iload (q := 5) hC dX12_tally_46 rfl ?_
          refine g_if_lt (tgt := 57) hC dX12_tally_48 (by decide) ?_ ?_
          · refine g_sub [0] rfl ?_
            exact gB_X12_tally_57 hC hR hL  X8
          · refine g_iload (q := 5) hC dX12_tally_51 rfl ?_
            refine g_iconst (v := vI 3) hC dX12_tally_53 rfl ?_
            refine g_icmp_le (tgt := 63) hC dX12_tally_54 (by decide) ?_ ?_
            · refine g_iconst (v := vI 0) hC dX12_tally_63 rfl ?_
              refine g_istore hC dX12_tally_64 (by decide) rfl ?_
              refine g_iconst (v := vI 0) hC dX12_tally_66 rfl ?_
              refine g_istore hC dX12_tally_67 (by decide) rfl ?_
              refine g_sub [2, 3, 4, 5, 6, 7, 1, 0] rfl ?_
              exact gL_X12_tally_69 hC hR hL  KF p1 p2 p3 p4 p5 0 0 X8
            · refine g_sub [0] rfl ?_
              exact gB_X12_tally_57 hC hR hL  X8
def L_X12_copies_41 : Nat → Int → Int → Int → Mem → Option (Int × Mem)
  | 0, _, _, _, _ => none
  | n + 1, x1, x2, x3, X =>
    c2 x3 5 <| if 5 ≤ x3 then
      some (0, X)
    else
      ax 25 ((5 * x1) + x3) <|
      ax 25 ((5 * x2) + x3) <| bd (ms X 122 ((5 * x2) + x3) (X 122 ((5 * x1) + x3))) fun X1 =>
      L_X12_copies_41   n x1 x2 (x3 + 1) X1
def B_X12_copies_39 (x1 : Int) (x2 : Int) (X : Mem) : Option (Int × Mem) :=
  L_X12_copies_41   KF x1 x2 0 X
def L_X12_copies_2 : Nat → Int → Int → Int → Mem → Option (Int × Mem)
  | 0, _, _, _, _ => none
  | n + 1, x1, x2, x3, X =>
    c2 x3 440 <| if 440 ≤ x3 then
      B_X12_copies_39   x1 x2 X
    else
      ax 2200 ((440 * x1) + x3) <|
      ax 2200 ((440 * x2) + x3) <| bd (ms X 121 ((440 * x2) + x3) (X 121 ((440 * x1) + x3))) fun X2 =>
      L_X12_copies_2   n x1 x2 (x3 + 1) X2
def f_X12_copies (p1 : Int) (p2 : Int) (X : Mem) : Option (Int × Mem) :=
  L_X12_copies_2   KF p1 p2 0 X
set_option maxRecDepth 20000 in
theorem gL_X12_copies_41 {C : Cx} {V : Ev} {L : List Kd} (hC : Ok C V cX12_copies RX12 4 0 0) (hR : Rt C V L none rV) (hL : LKm L) : ∀ (n : Nat) (x1 : Int) (x2 : Int) (x3 : Int) (X : Mem), G C V L 0 0 4 41 [(0, vR V.1 120), (1, vI x1), (2, vI x2), (3, vI x3)] [] X (L_X12_copies_41   n x1 x2 x3 X) := by
  intro n
  induction n with
  | zero => intro x1 x2 x3 X; exact g_none
  | succ n ih =>
    intro x1 x2 x3 X
    rw [L_X12_copies_41]
    refine g_iload_n (q := 3) hC dX12_copies_41 rfl rfl ?_
    refine g_iconst (v := vI 5) hC dX12_copies_42 rfl ?_
    refine g_icmp_ge (tgt := 72) hC dX12_copies_43 (by decide) ?_ ?_
    · exact g_vret hC hR dX12_copies_72
    · refine g_aload_n (q := 0) hC dX12_copies_46 rfl rfl rfl ?_
      refine g_getS (k := 1) hC cf_X12 (at_120 hL) (by decide) rfl (by decide) (by decide) wf_RX12_13 dX12_copies_47 ?_
      refine g_iconst (v := vI 5) hC dX12_copies_50 rfl ?_
      refine g_iload_n (q := 2) hC dX12_copies_51 rfl rfl ?_
      refine g_imul hC dX12_copies_52 ?_
      refine g_iload_n (q := 3) hC dX12_copies_53 rfl rfl ?_
      refine g_iadd hC dX12_copies_54 ?_
      refine g_aload_n (q := 0) hC dX12_copies_55 rfl rfl rfl ?_
      refine g_getS (k := 1) hC cf_X12 (at_120 hL) (by decide) rfl (by decide) (by decide) wf_RX12_13 dX12_copies_56 ?_
      refine g_iconst (v := vI 5) hC dX12_copies_59 rfl ?_
      refine g_iload_n (q := 1) hC dX12_copies_60 rfl rfl ?_
      refine g_imul hC dX12_copies_61 ?_
      refine g_iload_n (q := 3) hC dX12_copies_62 rfl rfl ?_
      refine g_iadd hC dX12_copies_63 ?_
      refine g_lald hC (at_122 hL) (by decide) dX12_copies_64 ?_
      refine g_last hC (at_122 hL) (by decide) dX12_copies_65 (fun X1 => ?_)
      refine g_iinc (q := 3) hC dX12_copies_66 rfl (by decide) rfl ?_
      refine g_goto (tgt := 41) hC dX12_copies_69 (by decide) ?_
      refine g_sub [1, 2, 3, 0] rfl ?_
      exact ih x1 x2 (x3 + 1) X1
set_option maxRecDepth 20000 in
theorem gB_X12_copies_39 {C : Cx} {V : Ev} {L : List Kd} (hC : Ok C V cX12_copies RX12 4 0 0) (hR : Rt C V L none rV) (hL : LKm L) (x1 : Int) (x2 : Int) (X : Mem)  : G C V L 0 0 4 39 [(0, vR V.1 120), (1, vI x1), (2, vI x2)] [] X (B_X12_copies_39   x1 x2 X) := by
  unfold B_X12_copies_39
  refine g_iconst (v := vI 0) hC dX12_copies_39 rfl ?_
  refine g_istore_n hC dX12_copies_40 rfl (by decide) rfl ?_
  refine g_sub [1, 2, 3, 0] rfl ?_
  exact gL_X12_copies_41 hC hR hL  KF x1 x2 0 X
set_option maxRecDepth 20000 in
theorem gL_X12_copies_2 {C : Cx} {V : Ev} {L : List Kd} (hC : Ok C V cX12_copies RX12 4 0 0) (hR : Rt C V L none rV) (hL : LKm L) : ∀ (n : Nat) (x1 : Int) (x2 : Int) (x3 : Int) (X : Mem), G C V L 0 0 4 2 [(0, vR V.1 120), (1, vI x1), (2, vI x2), (3, vI x3)] [] X (L_X12_copies_2   n x1 x2 x3 X) := by
  intro n
  induction n with
  | zero => intro x1 x2 x3 X; exact g_none
  | succ n ih =>
    intro x1 x2 x3 X
    rw [L_X12_copies_2]
    refine g_iload_n (q := 3) hC dX12_copies_2 rfl rfl ?_
    refine g_sipush (v := vI 440) hC dX12_copies_3 rfl ?_
    refine g_icmp_ge (tgt := 39) hC dX12_copies_6 (by decide) ?_ ?_
    · refine g_sub [0, 1, 2] rfl ?_
      exact gB_X12_copies_39 hC hR hL  x1 x2 X
    · refine g_aload_n (q := 0) hC dX12_copies_9 rfl rfl rfl ?_
      refine g_getS (k := 0) hC cf_X12 (at_120 hL) (by decide) rfl (by decide) (by decide) wf_RX12_7 dX12_copies_10 ?_
      refine g_sipush (v := vI 440) hC dX12_copies_13 rfl ?_
      refine g_iload_n (q := 2) hC dX12_copies_16 rfl rfl ?_
      refine g_imul hC dX12_copies_17 ?_
      refine g_iload_n (q := 3) hC dX12_copies_18 rfl rfl ?_
      refine g_iadd hC dX12_copies_19 ?_
      refine g_aload_n (q := 0) hC dX12_copies_20 rfl rfl rfl ?_
      refine g_getS (k := 0) hC cf_X12 (at_120 hL) (by decide) rfl (by decide) (by decide) wf_RX12_7 dX12_copies_21 ?_
      refine g_sipush (v := vI 440) hC dX12_copies_24 rfl ?_
      refine g_iload_n (q := 1) hC dX12_copies_27 rfl rfl ?_
      refine g_imul hC dX12_copies_28 ?_
      refine g_iload_n (q := 3) hC dX12_copies_29 rfl rfl ?_
      refine g_iadd hC dX12_copies_30 ?_
      refine g_iald hC (at_121 hL) (by decide) dX12_copies_31 ?_
      refine g_iast hC (at_121 hL) (by decide) dX12_copies_32 (fun X2 => ?_)
      refine g_iinc (q := 3) hC dX12_copies_33 rfl (by decide) rfl ?_
      refine g_goto (tgt := 2) hC dX12_copies_36 (by decide) ?_
      refine g_sub [1, 2, 3, 0] rfl ?_
      exact ih x1 x2 (x3 + 1) X2
set_option maxRecDepth 20000 in
theorem k_X12_copies (l : Launch) (V : Ev) {L : List Kd} (hL : LKm L) (p1 : Int) (p2 : Int) (X : Mem)  : Kt l V L yX12_copies (.code yX12_copies cX12_copies 4 none) 0 0 [vR V.1 120, vI p1, vI p2] rV X (f_X12_copies p1 p2 X) := by
  refine kt_of (own := RX12) (lv0 := [(0, vR V.1 120), (1, vI p1), (2, vI p2)]) (by decide) rfl (Nat.le_of_ble_eq_true rfl) rfl (fun C hCl hC hR => ?_)
  subst hCl
  unfold f_X12_copies
  refine g_iconst (v := vI 0) hC dX12_copies_0 rfl ?_
  refine g_istore_n hC dX12_copies_1 rfl (by decide) rfl ?_
  refine g_sub [1, 2, 3, 0] rfl ?_
  exact gL_X12_copies_2 hC hR hL  KF p1 p2 0 X
def f_X12_mark  (X : Mem) : Option (Int × Mem) :=
  c2 (X 120 53) 3 <| if ¬ (X 120 53) = 3 then
    bd (ms X 120 53 ((X 120 53) + 1)) fun X1 =>
    cl (f_X12_copies 0 (X1 120 53) X1) fun _ X3 =>
    cl (f_X12_gives (X3 120 53) X3) fun r4 X5 =>
    some (r4, X5)
  else
    cl (f_X12_refuse 4 X) fun r6 X7 =>
    some (r6, X7)
set_option maxRecDepth 20000 in
theorem k_X12_mark (l : Launch) (V : Ev) {L : List Kd} (hL : LKm L)  (X : Mem)  : Kt l V L yX12_mark (.code yX12_mark cX12_mark 1 (some .int)) 1 23 [vR V.1 120] rI X (f_X12_mark  X) := by
  refine kt_of (own := RX12) (lv0 := [(0, vR V.1 120)]) (by decide) rfl (Nat.le_of_ble_eq_true rfl) rfl (fun C hCl hC hR => ?_)
  subst hCl
  unfold f_X12_mark
  refine g_aload_n (q := 0) hC dX12_mark_0 rfl rfl rfl ?_
  refine g_getI (k := 53) (kz := 53) hC cf_X12 (at_120 hL) (by decide) rfl (by decide) rfl wf_RX12_524 dX12_mark_1 ?_
  refine g_iconst (v := vI 3) hC dX12_mark_4 rfl ?_
  refine g_icmp_ne (tgt := 14) hC dX12_mark_5 (by decide) ?_ ?_
  · refine g_aload_n (q := 0) hC dX12_mark_14 rfl rfl rfl ?_
    refine g_dup hC dX12_mark_15 rfl ?_
    refine g_getI (k := 53) (kz := 53) hC cf_X12 (at_120 hL) (by decide) rfl (by decide) rfl wf_RX12_524 dX12_mark_16 ?_
    refine g_iconst (v := vI 1) hC dX12_mark_19 rfl ?_
    refine g_iadd hC dX12_mark_20 ?_
    refine g_putI (k := 53) (kz := 53) hC cf_X12 (at_120 hL) (by decide) rfl (by decide) rfl wf_RX12_524 rfl rfl dX12_mark_21 (fun X1 => ?_)
    refine g_aload_n (q := 0) hC dX12_mark_24 rfl rfl rfl ?_
    refine g_iconst (v := vI 0) hC dX12_mark_25 rfl ?_
    refine g_aload_n (q := 0) hC dX12_mark_26 rfl rfl rfl ?_
    refine g_getI (k := 53) (kz := 53) hC cf_X12 (at_120 hL) (by decide) rfl (by decide) rfl wf_RX12_524 dX12_mark_27 ?_
    refine g_callVV (As := [vI 0, vI (X1 120 53)]) hC mv_X12_copies wml_RX12_527 (k_X12_copies _ V hL 0 (X1 120 53) X1) cf_X12 (at_120 hL) (by decide) ⟨Nat.zero_le _, Nat.zero_le _⟩ rfl rfl ⟨Nat.le_of_ble_eq_true rfl, Nat.le_of_ble_eq_true rfl⟩ (Nat.le_of_ble_eq_true rfl) dX12_mark_30 (fun _ X3 => ?_)
    refine g_aload_n (q := 0) hC dX12_mark_33 rfl rfl rfl ?_
    refine g_aload_n (q := 0) hC dX12_mark_34 rfl rfl rfl ?_
    refine g_getI (k := 53) (kz := 53) hC cf_X12 (at_120 hL) (by decide) rfl (by decide) rfl wf_RX12_524 dX12_mark_35 ?_
    refine g_callVI (As := [vI (X3 120 53)]) hC mv_X12_gives wml_RX12_188 (k_X12_gives _ V hL (X3 120 53) X3) cf_X12 (at_120 hL) (by decide) ⟨Nat.zero_le _, Nat.zero_le _⟩ rfl rfl ⟨Nat.le_of_ble_eq_true rfl, Nat.le_of_ble_eq_true rfl⟩ (Nat.le_of_ble_eq_true rfl) dX12_mark_38 (fun r4 X5 => ?_)
    exact g_iret hC hR dX12_mark_41
  · refine g_aload_n (q := 0) hC dX12_mark_8 rfl rfl rfl ?_
    refine g_iconst (v := vI 4) hC dX12_mark_9 rfl ?_
    refine g_callVI (As := [vI 4]) hC mv_X12_refuse wml_RX12_185 (k_X12_refuse _ V hL 4 X) cf_X12 (at_120 hL) (by decide) ⟨Nat.zero_le _, Nat.zero_le _⟩ rfl rfl ⟨Nat.le_of_ble_eq_true rfl, Nat.le_of_ble_eq_true rfl⟩ (Nat.le_of_ble_eq_true rfl) dX12_mark_10 (fun r6 X7 => ?_)
    exact g_iret hC hR dX12_mark_13
def f_X12_back  (X : Mem) : Option (Int × Mem) :=
  c1 (X 120 53) <| if ¬ (X 120 53) = 0 then
    cl (f_X12_copies (X 120 53) 0 X) fun _ X2 =>
    bd (ms X2 120 53 ((X2 120 53) - 1)) fun X3 =>
    bd (ms X3 120 22 ((X3 120 22) + 1)) fun X4 =>
    cl (f_X12_gives (X4 120 53) X4) fun r5 X6 =>
    some (r5, X6)
  else
    cl (f_X12_refuse 6 X) fun r7 X8 =>
    some (r7, X8)
set_option maxRecDepth 20000 in
theorem k_X12_back (l : Launch) (V : Ev) {L : List Kd} (hL : LKm L)  (X : Mem)  : Kt l V L yX12_back (.code yX12_back cX12_back 1 (some .int)) 1 23 [vR V.1 120] rI X (f_X12_back  X) := by
  refine kt_of (own := RX12) (lv0 := [(0, vR V.1 120)]) (by decide) rfl (Nat.le_of_ble_eq_true rfl) rfl (fun C hCl hC hR => ?_)
  subst hCl
  unfold f_X12_back
  refine g_aload_n (q := 0) hC dX12_back_0 rfl rfl rfl ?_
  refine g_getI (k := 53) (kz := 53) hC cf_X12 (at_120 hL) (by decide) rfl (by decide) rfl wf_RX12_524 dX12_back_1 ?_
  refine g_if_ne (tgt := 14) hC dX12_back_4 (by decide) ?_ ?_
  · refine g_aload_n (q := 0) hC dX12_back_14 rfl rfl rfl ?_
    refine g_aload_n (q := 0) hC dX12_back_15 rfl rfl rfl ?_
    refine g_getI (k := 53) (kz := 53) hC cf_X12 (at_120 hL) (by decide) rfl (by decide) rfl wf_RX12_524 dX12_back_16 ?_
    refine g_iconst (v := vI 0) hC dX12_back_19 rfl ?_
    refine g_callVV (As := [vI (X 120 53), vI 0]) hC mv_X12_copies wml_RX12_527 (k_X12_copies _ V hL (X 120 53) 0 X) cf_X12 (at_120 hL) (by decide) ⟨Nat.zero_le _, Nat.zero_le _⟩ rfl rfl ⟨Nat.le_of_ble_eq_true rfl, Nat.le_of_ble_eq_true rfl⟩ (Nat.le_of_ble_eq_true rfl) dX12_back_20 (fun _ X2 => ?_)
    refine g_aload_n (q := 0) hC dX12_back_23 rfl rfl rfl ?_
    refine g_dup hC dX12_back_24 rfl ?_
    refine g_getI (k := 53) (kz := 53) hC cf_X12 (at_120 hL) (by decide) rfl (by decide) rfl wf_RX12_524 dX12_back_25 ?_
    refine g_iconst (v := vI 1) hC dX12_back_28 rfl ?_
    refine g_isub hC dX12_back_29 ?_
    refine g_putI (k := 53) (kz := 53) hC cf_X12 (at_120 hL) (by decide) rfl (by decide) rfl wf_RX12_524 rfl rfl dX12_back_30 (fun X3 => ?_)
    refine g_aload_n (q := 0) hC dX12_back_33 rfl rfl rfl ?_
    refine g_dup hC dX12_back_34 rfl ?_
    refine g_getI (k := 22) (kz := 22) hC cf_X12 (at_120 hL) (by decide) rfl (by decide) rfl wf_RX12_240 dX12_back_35 ?_
    refine g_iconst (v := vI 1) hC dX12_back_38 rfl ?_
    refine g_iadd hC dX12_back_39 ?_
    refine g_putI (k := 22) (kz := 22) hC cf_X12 (at_120 hL) (by decide) rfl (by decide) rfl wf_RX12_240 rfl rfl dX12_back_40 (fun X4 => ?_)
    refine g_aload_n (q := 0) hC dX12_back_43 rfl rfl rfl ?_
    refine g_aload_n (q := 0) hC dX12_back_44 rfl rfl rfl ?_
    refine g_getI (k := 53) (kz := 53) hC cf_X12 (at_120 hL) (by decide) rfl (by decide) rfl wf_RX12_524 dX12_back_45 ?_
    refine g_callVI (As := [vI (X4 120 53)]) hC mv_X12_gives wml_RX12_188 (k_X12_gives _ V hL (X4 120 53) X4) cf_X12 (at_120 hL) (by decide) ⟨Nat.zero_le _, Nat.zero_le _⟩ rfl rfl ⟨Nat.le_of_ble_eq_true rfl, Nat.le_of_ble_eq_true rfl⟩ (Nat.le_of_ble_eq_true rfl) dX12_back_48 (fun r5 X6 => ?_)
    exact g_iret hC hR dX12_back_51
  · refine g_aload_n (q := 0) hC dX12_back_7 rfl rfl rfl ?_
    refine g_bipush (v := vI 6) hC dX12_back_8 rfl ?_
    refine g_callVI (As := [vI 6]) hC mv_X12_refuse wml_RX12_185 (k_X12_refuse _ V hL 6 X) cf_X12 (at_120 hL) (by decide) ⟨Nat.zero_le _, Nat.zero_le _⟩ rfl rfl ⟨Nat.le_of_ble_eq_true rfl, Nat.le_of_ble_eq_true rfl⟩ (Nat.le_of_ble_eq_true rfl) dX12_back_10 (fun r7 X8 => ?_)
    exact g_iret hC hR dX12_back_13
end
