noncomputable section
def f_X3_takeSize  (X : Mem) : Option (Int × Mem) :=
  cl (f_X8_takePair 0 2 10 X) fun r1 X2 =>
  c1 r1 <| if ¬ r1 = 0 then
    cm RIV (X2 37 1) <|
    bd (ms X2 (X2 37 1) 0 (X2 35 8)) fun X4 =>
    cl (f_X8_takeNumber 2 6 X4) fun r5 X6 =>
    c1 r5 <| if ¬ r5 = 0 then
      cm RIV (X6 37 1) <|
      bd (ms X6 (X6 37 1) 1 (X6 35 8)) fun X8 =>
      cl (f_X8_takeSign X8) fun r9 X10 =>
      cz r9 (some (r9, X10))
    else
      some (0, X6)
  else
    some (0, X2)
set_option maxRecDepth 20000 in
theorem k_X3_takeSize (l : Launch) (V : Ev) {L : List Kd} (hL : LKc L)  (X : Mem)  : Kt l V L yX3_takeSize (.code yX3_takeSize cX3_takeSize 1 (some .boolean)) 8 227 [vR V.1 37] rI X (f_X3_takeSize  X) := by
  refine kt_of (own := RX3) (lv0 := [(0, vR V.1 37)]) (by decide) rfl (Nat.le_of_ble_eq_true rfl) rfl (fun C hCl hC hR => ?_)
  subst hCl
  unfold f_X3_takeSize
  refine g_aload_n (q := 0) hC dX3_takeSize_0 rfl rfl rfl ?_
  refine g_getS (k := 0) hC cf_X3 (at_37 hL) (by decide) rfl (by decide) (by decide) wf_RX3_28 dX3_takeSize_1 ?_
  refine g_ldcS (i := 0) hC (by decide) rfl dX3_takeSize_4 ?_
  refine g_iconst (v := vI 2) hC dX3_takeSize_6 rfl ?_
  refine g_bipush (v := vI 10) hC dX3_takeSize_7 rfl ?_
  refine g_callVI (As := [vS V 0, vI 2, vI 10]) hC mv_X8_takePair wml_RX3_59 (k_X8_takePair _ V hL 0 2 10 X (by decide)) cf_X8 (at_35 hL) (by decide) ⟨Nat.zero_le _, Nat.zero_le _⟩ rfl rfl ⟨Nat.le_of_ble_eq_true rfl, Nat.le_of_ble_eq_true rfl⟩ (Nat.le_of_ble_eq_true rfl) dX3_takeSize_9 (fun r1 X2 => ?_)
  refine g_if_ne (tgt := 17) hC dX3_takeSize_12 (by decide) ?_ ?_
  · refine g_aload_n (q := 0) hC dX3_takeSize_17 rfl rfl rfl ?_
    refine g_getD (k := 1) (kz := 1) hC cf_X3 (at_37 hL) (by decide) rfl (by decide) rfl wf_RX3_32 dX3_takeSize_18 (g_cm (l := RIV) fun m3 => ?_)
    refine g_aload_n (q := 0) hC dX3_takeSize_21 rfl rfl rfl ?_
    refine g_getS (k := 0) hC cf_X3 (at_37 hL) (by decide) rfl (by decide) (by decide) wf_RX3_28 dX3_takeSize_22 ?_
    refine g_getI (k := 8) (kz := 8) hC cf_X8 (at_35 hL) (by decide) rfl (by decide) rfl wf_RX3_63 dX3_takeSize_25 ?_
    refine g_putI (k := 0) (kz := 0) hC cf_X2 (rv_0 (riv_of hL m3)) (by decide) rfl (by decide) rfl wf_RX3_66 rfl rfl dX3_takeSize_28 (fun X4 => ?_)
    refine g_aload_n (q := 0) hC dX3_takeSize_31 rfl rfl rfl ?_
    refine g_getS (k := 0) hC cf_X3 (at_37 hL) (by decide) rfl (by decide) (by decide) wf_RX3_28 dX3_takeSize_32 ?_
    refine g_iconst (v := vI 2) hC dX3_takeSize_35 rfl ?_
    refine g_bipush (v := vI 6) hC dX3_takeSize_36 rfl ?_
    refine g_callVI (As := [vI 2, vI 6]) hC mv_X8_takeNumber wml_RX3_69 (k_X8_takeNumber _ V hL 2 6 X4) cf_X8 (at_35 hL) (by decide) ⟨Nat.zero_le _, Nat.zero_le _⟩ rfl rfl ⟨Nat.le_of_ble_eq_true rfl, Nat.le_of_ble_eq_true rfl⟩ (Nat.le_of_ble_eq_true rfl) dX3_takeSize_38 (fun r5 X6 => ?_)
    refine g_if_ne (tgt := 46) hC dX3_takeSize_41 (by decide) ?_ ?_
    · refine g_aload_n (q := 0) hC dX3_takeSize_46 rfl rfl rfl ?_
      refine g_getD (k := 1) (kz := 1) hC cf_X3 (at_37 hL) (by decide) rfl (by decide) rfl wf_RX3_32 dX3_takeSize_47 (g_cm (l := RIV) fun m7 => ?_)
      refine g_aload_n (q := 0) hC dX3_takeSize_50 rfl rfl rfl ?_
      refine g_getS (k := 0) hC cf_X3 (at_37 hL) (by decide) rfl (by decide) (by decide) wf_RX3_28 dX3_takeSize_51 ?_
      refine g_getI (k := 8) (kz := 8) hC cf_X8 (at_35 hL) (by decide) rfl (by decide) rfl wf_RX3_63 dX3_takeSize_54 ?_
      refine g_putI (k := 1) (kz := 1) hC cf_X2 (rv_0 (riv_of hL m7)) (by decide) rfl (by decide) rfl wf_RX3_73 rfl rfl dX3_takeSize_57 (fun X8 => ?_)
      refine g_aload_n (q := 0) hC dX3_takeSize_60 rfl rfl rfl ?_
      refine g_getS (k := 0) hC cf_X3 (at_37 hL) (by decide) rfl (by decide) (by decide) wf_RX3_28 dX3_takeSize_61 ?_
      refine g_callVI (As := []) hC mv_X8_takeSign wml_RX3_76 (k_X8_takeSign _ V hL X8) cf_X8 (at_35 hL) (by decide) ⟨Nat.zero_le _, Nat.zero_le _⟩ rfl rfl ⟨Nat.le_of_ble_eq_true rfl, Nat.le_of_ble_eq_true rfl⟩ (Nat.le_of_ble_eq_true rfl) dX3_takeSize_64 (fun r9 X10 => ?_)
      exact g_zret hC hR dX3_takeSize_67
    · refine g_iconst (v := vI 0) hC dX3_takeSize_44 rfl ?_
      exact g_zret1 hC hR (by decide) dX3_takeSize_45
  · refine g_iconst (v := vI 0) hC dX3_takeSize_15 rfl ?_
    exact g_zret1 hC hR (by decide) dX3_takeSize_16
def B_X3_takeRow_132 (x1 : Int) (X : Mem) : Option (Int × Mem) :=
  cm RIV (X 37 1) <|
  c2 x1 (X (X 37 1) 0) <| if (X (X 37 1) 0) ≤ x1 then
    bd (ms X 37 2 ((X 37 2) + 1)) fun X5 =>
    cl (f_X8_takeSign X5) fun r6 X7 =>
    cz r6 (some (r6, X7))
  else
    cl (f_X8_fail 7 X) fun r8 X9 =>
    cz r8 (some (r8, X9))
def B_X3_takeRow_80  (X : Mem) : Option (Int × Mem) :=
  cl (f_X8_fail 6 X) fun r18 X19 =>
  cz r18 (some (r18, X19))
def B_X3_takeRow_54 (go33 : Int → Mem → Option (Int × Mem)) (x1 : Int) (X : Mem) : Option (Int × Mem) :=
  cl (f_X8_isNumber 0 20 X) fun r10 X11 =>
  c1 r10 <| if ¬ r10 = 0 then
    cm RIV (X11 37 1) <|
    c2 x1 (X11 (X11 37 1) 0) <| if x1 < (X11 (X11 37 1) 0) then
      cm RIV (X11 37 1) <|
      cm RIV (X11 37 1) <|
      ax 60 (((X11 37 2) * (X11 (X11 37 1) 0)) + x1) <| bd (ms X11 ((X11 37 1) + 1) (((X11 37 2) * (X11 (X11 37 1) 0)) + x1) (X11 35 7)) fun X15 =>
      cl (f_X8_advance X15) fun _ X17 =>
      go33 (x1 + 1) X17
    else
      B_X3_takeRow_80   X11
  else
    some (0, X11)
def L_X3_takeRow_33 : Nat → Int → Mem → Option (Int × Mem)
  | 0, _, _ => none
  | n + 1, x1, X =>
    c2 x1 10 <| if 10 < x1 then
      B_X3_takeRow_132   x1 X
    else
      c1 x1 <| if x1 = 0 then
        B_X3_takeRow_54  (fun x1 X => L_X3_takeRow_33   n x1 X) x1 X
      else
        c2 (X 35 4) 3 <| if (X 35 4) = 3 then
          B_X3_takeRow_132   x1 X
        else
          B_X3_takeRow_54  (fun x1 X => L_X3_takeRow_33   n x1 X) x1 X
def f_X3_takeRow  (X : Mem) : Option (Int × Mem) :=
  cm RIV (X 37 1) <|
  c2 (X 37 2) (X (X 37 1) 1) <| if (X 37 2) < (X (X 37 1) 1) then
    cl (f_X8_advance X) fun _ X3 =>
    L_X3_takeRow_33   KF 0 X3
  else
    cl (f_X8_fail 6 X) fun r20 X21 =>
    cz r20 (some (r20, X21))
set_option maxRecDepth 20000 in
theorem gB_X3_takeRow_132 {C : Cx} {V : Ev} {L : List Kd} (hC : Ok C V cX3_takeRow RX3 2 3 61) (hR : Rt C V L (some .boolean) rI) (hL : LKc L) (x1 : Int) (X : Mem)  : G C V L 0 0 2 132 [(0, vR V.1 37), (1, vI x1)] [] X (B_X3_takeRow_132   x1 X) := by
  unfold B_X3_takeRow_132
  refine g_iload_n (q := 1) hC dX3_takeRow_132 rfl rfl ?_
  refine g_aload_n (q := 0) hC dX3_takeRow_133 rfl rfl rfl ?_
  refine g_getD (k := 1) (kz := 1) hC cf_X3 (at_37 hL) (by decide) rfl (by decide) rfl wf_RX3_32 dX3_takeRow_134 (g_cm (l := RIV) fun m4 => ?_)
  refine g_getI (k := 0) (kz := 0) hC cf_X2 (rv_0 (riv_of hL m4)) (by decide) rfl (by decide) rfl wf_RX3_66 dX3_takeRow_137 ?_
  refine g_icmp_ge (tgt := 153) hC dX3_takeRow_140 (by decide) ?_ ?_
  · refine g_aload_n (q := 0) hC dX3_takeRow_153 rfl rfl rfl ?_
    refine g_dup hC dX3_takeRow_154 rfl ?_
    refine g_getI (k := 2) (kz := 2) hC cf_X3 (at_37 hL) (by decide) rfl (by decide) rfl wf_RX3_9 dX3_takeRow_155 ?_
    refine g_iconst (v := vI 1) hC dX3_takeRow_158 rfl ?_
    refine g_iadd hC dX3_takeRow_159 ?_
    refine g_putI (k := 2) (kz := 2) hC cf_X3 (at_37 hL) (by decide) rfl (by decide) rfl wf_RX3_9 rfl rfl dX3_takeRow_160 (fun X5 => ?_)
    refine g_aload_n (q := 0) hC dX3_takeRow_163 rfl rfl rfl ?_
    refine g_getS (k := 0) hC cf_X3 (at_37 hL) (by decide) rfl (by decide) (by decide) wf_RX3_28 dX3_takeRow_164 ?_
    refine g_callVI (As := []) hC mv_X8_takeSign wml_RX3_76 (k_X8_takeSign _ V hL X5) cf_X8 (at_35 hL) (by decide) ⟨Nat.zero_le _, Nat.zero_le _⟩ rfl rfl ⟨Nat.le_of_ble_eq_true rfl, Nat.le_of_ble_eq_true rfl⟩ (Nat.le_of_ble_eq_true rfl) dX3_takeRow_167 (fun r6 X7 => ?_)
    exact g_zret hC hR dX3_takeRow_170
  · refine g_aload_n (q := 0) hC dX3_takeRow_143 rfl rfl rfl ?_
    refine g_getS (k := 0) hC cf_X3 (at_37 hL) (by decide) rfl (by decide) (by decide) wf_RX3_28 dX3_takeRow_144 ?_
    refine g_bipush (v := vI 7) hC dX3_takeRow_147 rfl ?_
    refine g_callVI (As := [vI 7]) hC mv_X8_fail wml_RX3_121 (k_X8_fail _ V hL 7 X) cf_X8 (at_35 hL) (by decide) ⟨Nat.zero_le _, Nat.zero_le _⟩ rfl rfl ⟨Nat.le_of_ble_eq_true rfl, Nat.le_of_ble_eq_true rfl⟩ (Nat.le_of_ble_eq_true rfl) dX3_takeRow_149 (fun r8 X9 => ?_)
    exact g_zret hC hR dX3_takeRow_152
set_option maxRecDepth 20000 in
theorem gB_X3_takeRow_80 {C : Cx} {V : Ev} {L : List Kd} (hC : Ok C V cX3_takeRow RX3 2 3 61) (hR : Rt C V L (some .boolean) rI) (hL : LKc L)  (X : Mem)  : G C V L 0 0 2 80 [(0, vR V.1 37)] [] X (B_X3_takeRow_80    X) := by
  unfold B_X3_takeRow_80
  refine g_aload_n (q := 0) hC dX3_takeRow_80 rfl rfl rfl ?_
  refine g_getS (k := 0) hC cf_X3 (at_37 hL) (by decide) rfl (by decide) (by decide) wf_RX3_28 dX3_takeRow_81 ?_
  refine g_bipush (v := vI 6) hC dX3_takeRow_84 rfl ?_
  refine g_callVI (As := [vI 6]) hC mv_X8_fail wml_RX3_121 (k_X8_fail _ V hL 6 X) cf_X8 (at_35 hL) (by decide) ⟨Nat.zero_le _, Nat.zero_le _⟩ rfl rfl ⟨Nat.le_of_ble_eq_true rfl, Nat.le_of_ble_eq_true rfl⟩ (Nat.le_of_ble_eq_true rfl) dX3_takeRow_86 (fun r18 X19 => ?_)
  exact g_zret hC hR dX3_takeRow_89
set_option maxRecDepth 20000 in
theorem gB_X3_takeRow_54 {C : Cx} {V : Ev} {L : List Kd} (hC : Ok C V cX3_takeRow RX3 2 3 61) (hR : Rt C V L (some .boolean) rI) (hL : LKc L) {go33 : Int → Mem → Option (Int × Mem)} (hgo33 : ∀ (x1 : Int) (X : Mem), G C V L 0 0 2 33 [(0, vR V.1 37), (1, vI x1)] [] X (go33 x1 X)) (x1 : Int) (X : Mem)  : G C V L 0 0 2 54 [(0, vR V.1 37), (1, vI x1)] [] X (B_X3_takeRow_54  go33 x1 X) := by
  unfold B_X3_takeRow_54
  refine g_aload_n (q := 0) hC dX3_takeRow_54 rfl rfl rfl ?_
  refine g_getS (k := 0) hC cf_X3 (at_37 hL) (by decide) rfl (by decide) (by decide) wf_RX3_28 dX3_takeRow_55 ?_
  refine g_iconst (v := vI 0) hC dX3_takeRow_58 rfl ?_
  refine g_bipush (v := vI 20) hC dX3_takeRow_59 rfl ?_
  refine g_callVI (As := [vI 0, vI 20]) hC mv_X8_isNumber wml_RX3_128 (k_X8_isNumber _ V hL 0 20 X) cf_X8 (at_35 hL) (by decide) ⟨Nat.zero_le _, Nat.zero_le _⟩ rfl rfl ⟨Nat.le_of_ble_eq_true rfl, Nat.le_of_ble_eq_true rfl⟩ (Nat.le_of_ble_eq_true rfl) dX3_takeRow_61 (fun r10 X11 => ?_)
  refine g_if_ne (tgt := 69) hC dX3_takeRow_64 (by decide) ?_ ?_
  · refine g_iload_n (q := 1) hC dX3_takeRow_69 rfl rfl ?_
    refine g_aload_n (q := 0) hC dX3_takeRow_70 rfl rfl rfl ?_
    refine g_getD (k := 1) (kz := 1) hC cf_X3 (at_37 hL) (by decide) rfl (by decide) rfl wf_RX3_32 dX3_takeRow_71 (g_cm (l := RIV) fun m12 => ?_)
    refine g_getI (k := 0) (kz := 0) hC cf_X2 (rv_0 (riv_of hL m12)) (by decide) rfl (by decide) rfl wf_RX3_66 dX3_takeRow_74 ?_
    refine g_icmp_lt (tgt := 90) hC dX3_takeRow_77 (by decide) ?_ ?_
    · refine g_aload_n (q := 0) hC dX3_takeRow_90 rfl rfl rfl ?_
      refine g_getD (k := 1) (kz := 1) hC cf_X3 (at_37 hL) (by decide) rfl (by decide) rfl wf_RX3_32 dX3_takeRow_91 (g_cm (l := RIV) fun m13 => ?_)
      refine g_getS (k := 11) hC cf_X2 (rv_0 (riv_of hL m13)) (by decide) rfl (add_nn (rv_0 (riv_of hL m13))) (by decide) wf_RX3_131 dX3_takeRow_94 ?_
      refine g_aload_n (q := 0) hC dX3_takeRow_97 rfl rfl rfl ?_
      refine g_getI (k := 2) (kz := 2) hC cf_X3 (at_37 hL) (by decide) rfl (by decide) rfl wf_RX3_9 dX3_takeRow_98 ?_
      refine g_aload_n (q := 0) hC dX3_takeRow_101 rfl rfl rfl ?_
      refine g_getD (k := 1) (kz := 1) hC cf_X3 (at_37 hL) (by decide) rfl (by decide) rfl wf_RX3_32 dX3_takeRow_102 (g_cm (l := RIV) fun m14 => ?_)
      refine g_getI (k := 0) (kz := 0) hC cf_X2 (rv_0 (riv_of hL m14)) (by decide) rfl (by decide) rfl wf_RX3_66 dX3_takeRow_105 ?_
      refine g_imul hC dX3_takeRow_108 ?_
      refine g_iload_n (q := 1) hC dX3_takeRow_109 rfl rfl ?_
      refine g_iadd hC dX3_takeRow_110 ?_
      refine g_aload_n (q := 0) hC dX3_takeRow_111 rfl rfl rfl ?_
      refine g_getS (k := 0) hC cf_X3 (at_37 hL) (by decide) rfl (by decide) (by decide) wf_RX3_28 dX3_takeRow_112 ?_
      refine g_getI (k := 7) (kz := 7) hC cf_X8 (at_35 hL) (by decide) rfl (by decide) rfl wf_RX3_135 dX3_takeRow_115 ?_
      refine g_iast hC (rv_1 (riv_of hL m13)) (by decide) dX3_takeRow_118 (fun X15 => ?_)
      refine g_iinc (q := 1) hC dX3_takeRow_119 rfl (by decide) rfl ?_
      refine g_aload_n (q := 1) hC dX3_takeRow_122 rfl rfl rfl ?_
      refine g_getS (k := 0) hC cf_X3 (at_37 hL) (by decide) rfl (by decide) (by decide) wf_RX3_28 dX3_takeRow_123 ?_
      refine g_callVV (As := []) hC mv_X8_advance wml_RX3_125 (k_X8_advance _ V hL X15) cf_X8 (at_35 hL) (by decide) ⟨Nat.zero_le _, Nat.zero_le _⟩ rfl rfl ⟨Nat.le_of_ble_eq_true rfl, Nat.le_of_ble_eq_true rfl⟩ (Nat.le_of_ble_eq_true rfl) dX3_takeRow_126 (fun _ X17 => ?_)
      refine g_goto (tgt := 33) hC dX3_takeRow_129 (by decide) ?_
      refine g_sub [1, 0] rfl ?_
      exact hgo33 (x1 + 1) X17
    · refine g_sub [0] rfl ?_
      exact gB_X3_takeRow_80 hC hR hL  X11
  · refine g_iconst (v := vI 0) hC dX3_takeRow_67 rfl ?_
    exact g_zret1 hC hR (by decide) dX3_takeRow_68
set_option maxRecDepth 20000 in
theorem gL_X3_takeRow_33 {C : Cx} {V : Ev} {L : List Kd} (hC : Ok C V cX3_takeRow RX3 2 3 61) (hR : Rt C V L (some .boolean) rI) (hL : LKc L) : ∀ (n : Nat) (x1 : Int) (X : Mem), G C V L 0 0 2 33 [(0, vR V.1 37), (1, vI x1)] [] X (L_X3_takeRow_33   n x1 X) := by
  intro n
  induction n with
  | zero => intro x1 X; exact g_none
  | succ n ih =>
    intro x1 X
    rw [L_X3_takeRow_33]
    refine g_iload_n (q := 1) hC dX3_takeRow_33 rfl rfl ?_
    refine g_bipush (v := vI 10) hC dX3_takeRow_34 rfl ?_
    refine g_icmp_gt (tgt := 132) hC dX3_takeRow_36 (by decide) ?_ ?_
    · exact gB_X3_takeRow_132 hC hR hL  x1 X
    · refine g_iload_n (q := 1) hC dX3_takeRow_39 rfl rfl ?_
      refine g_if_eq (tgt := 54) hC dX3_takeRow_40 (by decide) ?_ ?_
      · exact gB_X3_takeRow_54 hC hR hL ih x1 X
      · refine g_aload_n (q := 0) hC dX3_takeRow_43 rfl rfl rfl ?_
        refine g_getS (k := 0) hC cf_X3 (at_37 hL) (by decide) rfl (by decide) (by decide) wf_RX3_28 dX3_takeRow_44 ?_
        refine g_getI (k := 4) (kz := 4) hC cf_X8 (at_35 hL) (by decide) rfl (by decide) rfl wf_RX3_51 dX3_takeRow_47 ?_
        refine g_iconst (v := vI 3) hC dX3_takeRow_50 rfl ?_
        refine g_icmp_eq (tgt := 132) hC dX3_takeRow_51 (by decide) ?_ ?_
        · exact gB_X3_takeRow_132 hC hR hL  x1 X
        · exact gB_X3_takeRow_54 hC hR hL ih x1 X
set_option maxRecDepth 20000 in
theorem k_X3_takeRow (l : Launch) (V : Ev) {L : List Kd} (hL : LKc L)  (X : Mem)  : Kt l V L yX3_takeRow (.code yX3_takeRow cX3_takeRow 2 (some .boolean)) 3 61 [vR V.1 37] rI X (f_X3_takeRow  X) := by
  refine kt_of (own := RX3) (lv0 := [(0, vR V.1 37)]) (by decide) rfl (Nat.le_of_ble_eq_true rfl) rfl (fun C hCl hC hR => ?_)
  subst hCl
  unfold f_X3_takeRow
  refine g_aload_n (q := 0) hC dX3_takeRow_0 rfl rfl rfl ?_
  refine g_getI (k := 2) (kz := 2) hC cf_X3 (at_37 hL) (by decide) rfl (by decide) rfl wf_RX3_9 dX3_takeRow_1 ?_
  refine g_aload_n (q := 0) hC dX3_takeRow_4 rfl rfl rfl ?_
  refine g_getD (k := 1) (kz := 1) hC cf_X3 (at_37 hL) (by decide) rfl (by decide) rfl wf_RX3_32 dX3_takeRow_5 (g_cm (l := RIV) fun m1 => ?_)
  refine g_getI (k := 1) (kz := 1) hC cf_X2 (rv_0 (riv_of hL m1)) (by decide) rfl (by decide) rfl wf_RX3_73 dX3_takeRow_8 ?_
  refine g_icmp_lt (tgt := 24) hC dX3_takeRow_11 (by decide) ?_ ?_
  · refine g_aload_n (q := 0) hC dX3_takeRow_24 rfl rfl rfl ?_
    refine g_getS (k := 0) hC cf_X3 (at_37 hL) (by decide) rfl (by decide) (by decide) wf_RX3_28 dX3_takeRow_25 ?_
    refine g_callVV (As := []) hC mv_X8_advance wml_RX3_125 (k_X8_advance _ V hL X) cf_X8 (at_35 hL) (by decide) ⟨Nat.zero_le _, Nat.zero_le _⟩ rfl rfl ⟨Nat.le_of_ble_eq_true rfl, Nat.le_of_ble_eq_true rfl⟩ (Nat.le_of_ble_eq_true rfl) dX3_takeRow_28 (fun _ X3 => ?_)
    refine g_iconst (v := vI 0) hC dX3_takeRow_31 rfl ?_
    refine g_istore_n hC dX3_takeRow_32 rfl (by decide) rfl ?_
    refine g_sub [1, 0] rfl ?_
    exact gL_X3_takeRow_33 hC hR hL  KF 0 X3
  · refine g_aload_n (q := 0) hC dX3_takeRow_14 rfl rfl rfl ?_
    refine g_getS (k := 0) hC cf_X3 (at_37 hL) (by decide) rfl (by decide) (by decide) wf_RX3_28 dX3_takeRow_15 ?_
    refine g_bipush (v := vI 6) hC dX3_takeRow_18 rfl ?_
    refine g_callVI (As := [vI 6]) hC mv_X8_fail wml_RX3_121 (k_X8_fail _ V hL 6 X) cf_X8 (at_35 hL) (by decide) ⟨Nat.zero_le _, Nat.zero_le _⟩ rfl rfl ⟨Nat.le_of_ble_eq_true rfl, Nat.le_of_ble_eq_true rfl⟩ (Nat.le_of_ble_eq_true rfl) dX3_takeRow_20 (fun r20 X21 => ?_)
    exact g_zret hC hR dX3_takeRow_23
def f_X3_takeBar  (X : Mem) : Option (Int × Mem) :=
  cm RIV (X 37 1) <|
  bd (X (X 37 1) 2) fun v2 =>
  c2 v2 5 <| if v2 < 5 then
    cl (f_X8_advance X) fun _ X4 =>
    cl (f_X8_isName X4) fun r5 X6 =>
    c1 r5 <| if ¬ r5 = 0 then
      cm RIV (X6 37 1) <|
      cl (f_X2_barNamed (X6 37 1) (X6 35 6) X6) fun r8 X9 =>
      c2 r8 ((-1)) <| if r8 = ((-1)) then
        cm RIV (X9 37 1) <|
        ax 5 v2 <| bd (ms X9 ((X9 37 1) + 4) v2 (X9 35 6)) fun X11 =>
        cm RIV (X11 37 1) <|
        ax 5 v2 <| bd (ms X11 ((X11 37 1) + 9) v2 ((-1))) fun X13 =>
        cl (f_X8_advance X13) fun _ X15 =>
        cl (f_X8_takePair 4 1 9 X15) fun r16 X17 =>
        c1 r16 <| if ¬ r16 = 0 then
          cm RIV (X17 37 1) <|
          ax 5 v2 <| bd (ms X17 ((X17 37 1) + 5) v2 (X17 35 8)) fun X19 =>
          cl (f_X8_takePair 5 0 16 X19) fun r20 X21 =>
          c1 r20 <| if ¬ r20 = 0 then
            cm RIV (X21 37 1) <|
            ax 5 v2 <| bd (ms X21 ((X21 37 1) + 6) v2 (X21 35 8)) fun X23 =>
            cl (f_X8_takePair 6 0 16 X23) fun r24 X25 =>
            c1 r24 <| if ¬ r24 = 0 then
              cm RIV (X25 37 1) <|
              ax 5 v2 <| bd (ms X25 ((X25 37 1) + 7) v2 (X25 35 8)) fun X27 =>
              cl (f_X8_takePair 7 0 16 X27) fun r28 X29 =>
              c1 r28 <| if ¬ r28 = 0 then
                cm RIV (X29 37 1) <|
                ax 5 v2 <| bd (ms X29 ((X29 37 1) + 8) v2 (X29 35 8)) fun X31 =>
                cm RIV (X31 37 1) <|
                bd (ms X31 (X31 37 1) 2 ((X31 (X31 37 1) 2) + 1)) fun X33 =>
                cl (f_X8_takeSign X33) fun r34 X35 =>
                cz r34 (some (r34, X35))
              else
                some (0, X29)
            else
              some (0, X25)
          else
            some (0, X21)
        else
          some (0, X17)
      else
        cl (f_X8_fail 3 X9) fun r36 X37 =>
        cz r36 (some (r36, X37))
    else
      some (0, X6)
  else
    cl (f_X8_fail 6 X) fun r38 X39 =>
    cz r38 (some (r38, X39))
set_option maxRecDepth 20000 in
theorem k_X3_takeBar (l : Launch) (V : Ev) {L : List Kd} (hL : LKc L)  (X : Mem)  : Kt l V L yX3_takeBar (.code yX3_takeBar cX3_takeBar 2 (some .boolean)) 8 227 [vR V.1 37] rI X (f_X3_takeBar  X) := by
  refine kt_of (own := RX3) (lv0 := [(0, vR V.1 37)]) (by decide) rfl (Nat.le_of_ble_eq_true rfl) rfl (fun C hCl hC hR => ?_)
  subst hCl
  unfold f_X3_takeBar
  refine g_aload_n (q := 0) hC dX3_takeBar_0 rfl rfl rfl ?_
  refine g_getD (k := 1) (kz := 1) hC cf_X3 (at_37 hL) (by decide) rfl (by decide) rfl wf_RX3_32 dX3_takeBar_1 (g_cm (l := RIV) fun m1 => ?_)
  refine g_getI (k := 2) (kz := 2) hC cf_X2 (rv_0 (riv_of hL m1)) (by decide) rfl (by decide) rfl wf_RX3_138 dX3_takeBar_4 ?_
  refine g_topI (fun v2 => ?_)
  refine g_istore_n hC dX3_takeBar_7 rfl (by decide) rfl ?_
  refine g_iload_n (q := 0) hC dX3_takeBar_8 rfl rfl ?_
  refine g_iconst (v := vI 5) hC dX3_takeBar_9 rfl ?_
  refine g_icmp_lt (tgt := 23) hC dX3_takeBar_10 (by decide) ?_ ?_
  · refine g_aload_n (q := 1) hC dX3_takeBar_23 rfl rfl rfl ?_
    refine g_getS (k := 0) hC cf_X3 (at_37 hL) (by decide) rfl (by decide) (by decide) wf_RX3_28 dX3_takeBar_24 ?_
    refine g_callVV (As := []) hC mv_X8_advance wml_RX3_125 (k_X8_advance _ V hL X) cf_X8 (at_35 hL) (by decide) ⟨Nat.zero_le _, Nat.zero_le _⟩ rfl rfl ⟨Nat.le_of_ble_eq_true rfl, Nat.le_of_ble_eq_true rfl⟩ (Nat.le_of_ble_eq_true rfl) dX3_takeBar_27 (fun _ X4 => ?_)
    refine g_aload_n (q := 1) hC dX3_takeBar_30 rfl rfl rfl ?_
    refine g_getS (k := 0) hC cf_X3 (at_37 hL) (by decide) rfl (by decide) (by decide) wf_RX3_28 dX3_takeBar_31 ?_
    refine g_callVI (As := []) hC mv_X8_isName wml_RX3_141 (k_X8_isName _ V hL X4) cf_X8 (at_35 hL) (by decide) ⟨Nat.zero_le _, Nat.zero_le _⟩ rfl rfl ⟨Nat.le_of_ble_eq_true rfl, Nat.le_of_ble_eq_true rfl⟩ (Nat.le_of_ble_eq_true rfl) dX3_takeBar_34 (fun r5 X6 => ?_)
    refine g_if_ne (tgt := 42) hC dX3_takeBar_37 (by decide) ?_ ?_
    · refine g_aload_n (q := 1) hC dX3_takeBar_42 rfl rfl rfl ?_
      refine g_getD (k := 1) (kz := 1) hC cf_X3 (at_37 hL) (by decide) rfl (by decide) rfl wf_RX3_32 dX3_takeBar_43 (g_cm (l := RIV) fun m7 => ?_)
      refine g_aload_n (q := 1) hC dX3_takeBar_46 rfl rfl rfl ?_
      refine g_getS (k := 0) hC cf_X3 (at_37 hL) (by decide) rfl (by decide) (by decide) wf_RX3_28 dX3_takeBar_47 ?_
      refine g_getJ (k := 6) (kz := 6) hC cf_X8 (at_35 hL) (by decide) rfl (by decide) rfl wf_RX3_144 dX3_takeBar_50 ?_
      refine g_callVI (As := [vJ (X6 35 6)]) hC mv_X2_barNamed wml_RX3_148 (k_X2_barNamed _ V (X6 37 1) (X6 35 6) X6 (riv_of hL m7)) cf_X2 (rv_0 (riv_of hL m7)) (by decide) ⟨Nat.zero_le _, Nat.zero_le _⟩ rfl rfl ⟨Nat.le_of_ble_eq_true rfl, Nat.le_of_ble_eq_true rfl⟩ (Nat.le_of_ble_eq_true rfl) dX3_takeBar_53 (fun r8 X9 => ?_)
      refine g_iconst (v := vI (-1)) hC dX3_takeBar_56 rfl ?_
      refine g_icmp_eq (tgt := 69) hC dX3_takeBar_57 (by decide) ?_ ?_
      · refine g_aload_n (q := 1) hC dX3_takeBar_69 rfl rfl rfl ?_
        refine g_getD (k := 1) (kz := 1) hC cf_X3 (at_37 hL) (by decide) rfl (by decide) rfl wf_RX3_32 dX3_takeBar_70 (g_cm (l := RIV) fun m10 => ?_)
        refine g_getS (k := 14) hC cf_X2 (rv_0 (riv_of hL m10)) (by decide) rfl (add_nn (rv_0 (riv_of hL m10))) (by decide) wf_RX3_152 dX3_takeBar_73 ?_
        refine g_iload_n (q := 0) hC dX3_takeBar_76 rfl rfl ?_
        refine g_aload_n (q := 1) hC dX3_takeBar_77 rfl rfl rfl ?_
        refine g_getS (k := 0) hC cf_X3 (at_37 hL) (by decide) rfl (by decide) (by decide) wf_RX3_28 dX3_takeBar_78 ?_
        refine g_getJ (k := 6) (kz := 6) hC cf_X8 (at_35 hL) (by decide) rfl (by decide) rfl wf_RX3_144 dX3_takeBar_81 ?_
        refine g_last hC (rv_4 (riv_of hL m10)) (by decide) dX3_takeBar_84 (fun X11 => ?_)
        refine g_aload_n (q := 1) hC dX3_takeBar_85 rfl rfl rfl ?_
        refine g_getD (k := 1) (kz := 1) hC cf_X3 (at_37 hL) (by decide) rfl (by decide) rfl wf_RX3_32 dX3_takeBar_86 (g_cm (l := RIV) fun m12 => ?_)
        refine g_getS (k := 19) hC cf_X2 (rv_0 (riv_of hL m12)) (by decide) rfl (add_nn (rv_0 (riv_of hL m12))) (by decide) wf_RX3_156 dX3_takeBar_89 ?_
        refine g_iload_n (q := 0) hC dX3_takeBar_92 rfl rfl ?_
        refine g_iconst (v := vI (-1)) hC dX3_takeBar_93 rfl ?_
        refine g_iast hC (rv_9 (riv_of hL m12)) (by decide) dX3_takeBar_94 (fun X13 => ?_)
        refine g_aload_n (q := 1) hC dX3_takeBar_95 rfl rfl rfl ?_
        refine g_getS (k := 0) hC cf_X3 (at_37 hL) (by decide) rfl (by decide) (by decide) wf_RX3_28 dX3_takeBar_96 ?_
        refine g_callVV (As := []) hC mv_X8_advance wml_RX3_125 (k_X8_advance _ V hL X13) cf_X8 (at_35 hL) (by decide) ⟨Nat.zero_le _, Nat.zero_le _⟩ rfl rfl ⟨Nat.le_of_ble_eq_true rfl, Nat.le_of_ble_eq_true rfl⟩ (Nat.le_of_ble_eq_true rfl) dX3_takeBar_99 (fun _ X15 => ?_)
        refine g_aload_n (q := 1) hC dX3_takeBar_102 rfl rfl rfl ?_
        refine g_getS (k := 0) hC cf_X3 (at_37 hL) (by decide) rfl (by decide) (by decide) wf_RX3_28 dX3_takeBar_103 ?_
        refine g_ldcS (i := 4) hC (by decide) rfl dX3_takeBar_106 ?_
        refine g_iconst (v := vI 1) hC dX3_takeBar_108 rfl ?_
        refine g_bipush (v := vI 9) hC dX3_takeBar_109 rfl ?_
        refine g_callVI (As := [vS V 4, vI 1, vI 9]) hC mv_X8_takePair wml_RX3_59 (k_X8_takePair _ V hL 4 1 9 X15 (by decide)) cf_X8 (at_35 hL) (by decide) ⟨Nat.zero_le _, Nat.zero_le _⟩ rfl rfl ⟨Nat.le_of_ble_eq_true rfl, Nat.le_of_ble_eq_true rfl⟩ (Nat.le_of_ble_eq_true rfl) dX3_takeBar_111 (fun r16 X17 => ?_)
        refine g_if_ne (tgt := 119) hC dX3_takeBar_114 (by decide) ?_ ?_
        · refine g_aload_n (q := 1) hC dX3_takeBar_119 rfl rfl rfl ?_
          refine g_getD (k := 1) (kz := 1) hC cf_X3 (at_37 hL) (by decide) rfl (by decide) rfl wf_RX3_32 dX3_takeBar_120 (g_cm (l := RIV) fun m18 => ?_)
          refine g_getS (k := 15) hC cf_X2 (rv_0 (riv_of hL m18)) (by decide) rfl (add_nn (rv_0 (riv_of hL m18))) (by decide) wf_RX3_161 dX3_takeBar_123 ?_
          refine g_iload_n (q := 0) hC dX3_takeBar_126 rfl rfl ?_
          refine g_aload_n (q := 1) hC dX3_takeBar_127 rfl rfl rfl ?_
          refine g_getS (k := 0) hC cf_X3 (at_37 hL) (by decide) rfl (by decide) (by decide) wf_RX3_28 dX3_takeBar_128 ?_
          refine g_getI (k := 8) (kz := 8) hC cf_X8 (at_35 hL) (by decide) rfl (by decide) rfl wf_RX3_63 dX3_takeBar_131 ?_
          refine g_iast hC (rv_5 (riv_of hL m18)) (by decide) dX3_takeBar_134 (fun X19 => ?_)
          refine g_aload_n (q := 1) hC dX3_takeBar_135 rfl rfl rfl ?_
          refine g_getS (k := 0) hC cf_X3 (at_37 hL) (by decide) rfl (by decide) (by decide) wf_RX3_28 dX3_takeBar_136 ?_
          refine g_ldcS (i := 5) hC (by decide) rfl dX3_takeBar_139 ?_
          refine g_iconst (v := vI 0) hC dX3_takeBar_141 rfl ?_
          refine g_bipush (v := vI 16) hC dX3_takeBar_142 rfl ?_
          refine g_callVI (As := [vS V 5, vI 0, vI 16]) hC mv_X8_takePair wml_RX3_59 (k_X8_takePair _ V hL 5 0 16 X19 (by decide)) cf_X8 (at_35 hL) (by decide) ⟨Nat.zero_le _, Nat.zero_le _⟩ rfl rfl ⟨Nat.le_of_ble_eq_true rfl, Nat.le_of_ble_eq_true rfl⟩ (Nat.le_of_ble_eq_true rfl) dX3_takeBar_144 (fun r20 X21 => ?_)
          refine g_if_ne (tgt := 152) hC dX3_takeBar_147 (by decide) ?_ ?_
          · refine g_aload_n (q := 1) hC dX3_takeBar_152 rfl rfl rfl ?_
            refine g_getD (k := 1) (kz := 1) hC cf_X3 (at_37 hL) (by decide) rfl (by decide) rfl wf_RX3_32 dX3_takeBar_153 (g_cm (l := RIV) fun m22 => ?_)
            refine g_getS (k := 16) hC cf_X2 (rv_0 (riv_of hL m22)) (by decide) rfl (add_nn (rv_0 (riv_of hL m22))) (by decide) wf_RX3_165 dX3_takeBar_156 ?_
            refine g_iload_n (q := 0) hC dX3_takeBar_159 rfl rfl ?_
            refine g_aload_n (q := 1) hC dX3_takeBar_160 rfl rfl rfl ?_
            refine g_getS (k := 0) hC cf_X3 (at_37 hL) (by decide) rfl (by decide) (by decide) wf_RX3_28 dX3_takeBar_161 ?_
            refine g_getI (k := 8) (kz := 8) hC cf_X8 (at_35 hL) (by decide) rfl (by decide) rfl wf_RX3_63 dX3_takeBar_164 ?_
            refine g_iast hC (rv_6 (riv_of hL m22)) (by decide) dX3_takeBar_167 (fun X23 => ?_)
            refine g_aload_n (q := 1) hC dX3_takeBar_168 rfl rfl rfl ?_
            refine g_getS (k := 0) hC cf_X3 (at_37 hL) (by decide) rfl (by decide) (by decide) wf_RX3_28 dX3_takeBar_169 ?_
            refine g_ldcS (i := 6) hC (by decide) rfl dX3_takeBar_172 ?_
            refine g_iconst (v := vI 0) hC dX3_takeBar_174 rfl ?_
            refine g_bipush (v := vI 16) hC dX3_takeBar_175 rfl ?_
            refine g_callVI (As := [vS V 6, vI 0, vI 16]) hC mv_X8_takePair wml_RX3_59 (k_X8_takePair _ V hL 6 0 16 X23 (by decide)) cf_X8 (at_35 hL) (by decide) ⟨Nat.zero_le _, Nat.zero_le _⟩ rfl rfl ⟨Nat.le_of_ble_eq_true rfl, Nat.le_of_ble_eq_true rfl⟩ (Nat.le_of_ble_eq_true rfl) dX3_takeBar_177 (fun r24 X25 => ?_)
            refine g_if_ne (tgt := 185) hC dX3_takeBar_180 (by decide) ?_ ?_
            · refine g_aload_n (q := 1) hC dX3_takeBar_185 rfl rfl rfl ?_
              refine g_getD (k := 1) (kz := 1) hC cf_X3 (at_37 hL) (by decide) rfl (by decide) rfl wf_RX3_32 dX3_takeBar_186 (g_cm (l := RIV) fun m26 => ?_)
              refine g_getS (k := 17) hC cf_X2 (rv_0 (riv_of hL m26)) (by decide) rfl (add_nn (rv_0 (riv_of hL m26))) (by decide) wf_RX3_170 dX3_takeBar_189 ?_
              refine g_iload_n (q := 0) hC dX3_takeBar_192 rfl rfl ?_
              refine g_aload_n (q := 1) hC dX3_takeBar_193 rfl rfl rfl ?_
              refine g_getS (k := 0) hC cf_X3 (at_37 hL) (by decide) rfl (by decide) (by decide) wf_RX3_28 dX3_takeBar_194 ?_
              refine g_getI (k := 8) (kz := 8) hC cf_X8 (at_35 hL) (by decide) rfl (by decide) rfl wf_RX3_63 dX3_takeBar_197 ?_
              refine g_iast hC (rv_7 (riv_of hL m26)) (by decide) dX3_takeBar_200 (fun X27 => ?_)
              refine g_aload_n (q := 1) hC dX3_takeBar_201 rfl rfl rfl ?_
              refine g_getS (k := 0) hC cf_X3 (at_37 hL) (by decide) rfl (by decide) (by decide) wf_RX3_28 dX3_takeBar_202 ?_
              refine g_ldcS (i := 7) hC (by decide) rfl dX3_takeBar_205 ?_
              refine g_iconst (v := vI 0) hC dX3_takeBar_207 rfl ?_
              refine g_bipush (v := vI 16) hC dX3_takeBar_208 rfl ?_
              refine g_callVI (As := [vS V 7, vI 0, vI 16]) hC mv_X8_takePair wml_RX3_59 (k_X8_takePair _ V hL 7 0 16 X27 (by decide)) cf_X8 (at_35 hL) (by decide) ⟨Nat.zero_le _, Nat.zero_le _⟩ rfl rfl ⟨Nat.le_of_ble_eq_true rfl, Nat.le_of_ble_eq_true rfl⟩ (Nat.le_of_ble_eq_true rfl) dX3_takeBar_210 (fun r28 X29 => ?_)
              refine g_if_ne (tgt := 218) hC dX3_takeBar_213 (by decide) ?_ ?_
              · refine g_aload_n (q := 1) hC dX3_takeBar_218 rfl rfl rfl ?_
                refine g_getD (k := 1) (kz := 1) hC cf_X3 (at_37 hL) (by decide) rfl (by decide) rfl wf_RX3_32 dX3_takeBar_219 (g_cm (l := RIV) fun m30 => ?_)
                refine g_getS (k := 18) hC cf_X2 (rv_0 (riv_of hL m30)) (by decide) rfl (add_nn (rv_0 (riv_of hL m30))) (by decide) wf_RX3_174 dX3_takeBar_222 ?_
                refine g_iload_n (q := 0) hC dX3_takeBar_225 rfl rfl ?_
                refine g_aload_n (q := 1) hC dX3_takeBar_226 rfl rfl rfl ?_
                refine g_getS (k := 0) hC cf_X3 (at_37 hL) (by decide) rfl (by decide) (by decide) wf_RX3_28 dX3_takeBar_227 ?_
                refine g_getI (k := 8) (kz := 8) hC cf_X8 (at_35 hL) (by decide) rfl (by decide) rfl wf_RX3_63 dX3_takeBar_230 ?_
                refine g_iast hC (rv_8 (riv_of hL m30)) (by decide) dX3_takeBar_233 (fun X31 => ?_)
                refine g_aload_n (q := 1) hC dX3_takeBar_234 rfl rfl rfl ?_
                refine g_getD (k := 1) (kz := 1) hC cf_X3 (at_37 hL) (by decide) rfl (by decide) rfl wf_RX3_32 dX3_takeBar_235 (g_cm (l := RIV) fun m32 => ?_)
                refine g_dup hC dX3_takeBar_238 rfl ?_
                refine g_getI (k := 2) (kz := 2) hC cf_X2 (rv_0 (riv_of hL m32)) (by decide) rfl (by decide) rfl wf_RX3_138 dX3_takeBar_239 ?_
                refine g_iconst (v := vI 1) hC dX3_takeBar_242 rfl ?_
                refine g_iadd hC dX3_takeBar_243 ?_
                refine g_putI (k := 2) (kz := 2) hC cf_X2 (rv_0 (riv_of hL m32)) (by decide) rfl (by decide) rfl wf_RX3_138 rfl rfl dX3_takeBar_244 (fun X33 => ?_)
                refine g_aload_n (q := 1) hC dX3_takeBar_247 rfl rfl rfl ?_
                refine g_getS (k := 0) hC cf_X3 (at_37 hL) (by decide) rfl (by decide) (by decide) wf_RX3_28 dX3_takeBar_248 ?_
                refine g_callVI (As := []) hC mv_X8_takeSign wml_RX3_76 (k_X8_takeSign _ V hL X33) cf_X8 (at_35 hL) (by decide) ⟨Nat.zero_le _, Nat.zero_le _⟩ rfl rfl ⟨Nat.le_of_ble_eq_true rfl, Nat.le_of_ble_eq_true rfl⟩ (Nat.le_of_ble_eq_true rfl) dX3_takeBar_251 (fun r34 X35 => ?_)
                exact g_zret hC hR dX3_takeBar_254
              · refine g_iconst (v := vI 0) hC dX3_takeBar_216 rfl ?_
                exact g_zret1 hC hR (by decide) dX3_takeBar_217
            · refine g_iconst (v := vI 0) hC dX3_takeBar_183 rfl ?_
              exact g_zret1 hC hR (by decide) dX3_takeBar_184
          · refine g_iconst (v := vI 0) hC dX3_takeBar_150 rfl ?_
            exact g_zret1 hC hR (by decide) dX3_takeBar_151
        · refine g_iconst (v := vI 0) hC dX3_takeBar_117 rfl ?_
          exact g_zret1 hC hR (by decide) dX3_takeBar_118
      · refine g_aload_n (q := 1) hC dX3_takeBar_60 rfl rfl rfl ?_
        refine g_getS (k := 0) hC cf_X3 (at_37 hL) (by decide) rfl (by decide) (by decide) wf_RX3_28 dX3_takeBar_61 ?_
        refine g_iconst (v := vI 3) hC dX3_takeBar_64 rfl ?_
        refine g_callVI (As := [vI 3]) hC mv_X8_fail wml_RX3_121 (k_X8_fail _ V hL 3 X9) cf_X8 (at_35 hL) (by decide) ⟨Nat.zero_le _, Nat.zero_le _⟩ rfl rfl ⟨Nat.le_of_ble_eq_true rfl, Nat.le_of_ble_eq_true rfl⟩ (Nat.le_of_ble_eq_true rfl) dX3_takeBar_65 (fun r36 X37 => ?_)
        exact g_zret hC hR dX3_takeBar_68
    · refine g_iconst (v := vI 0) hC dX3_takeBar_40 rfl ?_
      exact g_zret1 hC hR (by decide) dX3_takeBar_41
  · refine g_aload_n (q := 1) hC dX3_takeBar_13 rfl rfl rfl ?_
    refine g_getS (k := 0) hC cf_X3 (at_37 hL) (by decide) rfl (by decide) (by decide) wf_RX3_28 dX3_takeBar_14 ?_
    refine g_bipush (v := vI 6) hC dX3_takeBar_17 rfl ?_
    refine g_callVI (As := [vI 6]) hC mv_X8_fail wml_RX3_121 (k_X8_fail _ V hL 6 X) cf_X8 (at_35 hL) (by decide) ⟨Nat.zero_le _, Nat.zero_le _⟩ rfl rfl ⟨Nat.le_of_ble_eq_true rfl, Nat.le_of_ble_eq_true rfl⟩ (Nat.le_of_ble_eq_true rfl) dX3_takeBar_19 (fun r38 X39 => ?_)
    exact g_zret hC hR dX3_takeBar_22
def B_X3_giveCells_106 (go3 : Int → Int → Int → Int → Int → Mem → Option (Int × Mem)) (x1 : Int) (x2 : Int) (x4 : Int) (x5 : Int) (x6 : Int) (X : Mem) : Option (Int × Mem) :=
  go3 x1 x2 x4 x5 (x6 + 1) X
def B_X3_giveCells_100 (go3 : Int → Int → Int → Int → Int → Mem → Option (Int × Mem)) (go13 : Int → Int → Int → Int → Int → Int → Mem → Option (Int × Mem)) (x1 : Int) (x2 : Int) (x4 : Int) (x5 : Int) (x6 : Int) (x7 : Int) (X : Mem) : Option (Int × Mem) :=
  go13 x1 x2 x4 x5 x6 (x7 + 1) X
def B_X3_giveCells_89 (go3 : Int → Int → Int → Int → Int → Mem → Option (Int × Mem)) (go13 : Int → Int → Int → Int → Int → Int → Mem → Option (Int × Mem)) (x1 : Int) (x2 : Int) (x4 : Int) (x5 : Int) (x6 : Int) (x7 : Int) (x8 : Int) (X : Mem) : Option (Int × Mem) :=
  cm RIV (X 37 1) <|
  ax 5 x1 <| bd (ms X ((X 37 1) + 9) x1 x8) fun X8 =>
  B_X3_giveCells_100  go3 go13 x1 x2 x4 x5 x6 x7 X8
def L_X3_giveCells_13 (go3 : Int → Int → Int → Int → Int → Mem → Option (Int × Mem)) : Nat → Int → Int → Int → Int → Int → Int → Mem → Option (Int × Mem)
  | 0, _, _, _, _, _, _, _ => none
  | n + 1, x1, x2, x4, x5, x6, x7, X =>
    c2 x7 x4 <| if x4 < x7 then
      B_X3_giveCells_106  go3 x1 x2 x4 x5 x6 X
    else
      cm RIV (X 37 1) <|
      bd ((x6 * (X (X 37 1) 0)) + x7) fun v2 =>
      cm RIV (X 37 1) <|
      ax 60 v2 <|
      c2 (X ((X 37 1) + 2) v2) ((-1)) <| if (X ((X 37 1) + 2) v2) = ((-1)) then
        cm RIV (X 37 1) <|
        ax 60 v2 <| bd (ms X ((X 37 1) + 2) v2 x1) fun X5 =>
        cm RIV (X5 37 1) <|
        ax 5 x1 <|
        c2 (X5 ((X5 37 1) + 9) x1) ((-1)) <| if (X5 ((X5 37 1) + 9) x1) = ((-1)) then
          B_X3_giveCells_89  go3 (fun x1 x2 x4 x5 x6 x7 X => L_X3_giveCells_13  go3 n x1 x2 x4 x5 x6 x7 X) x1 x2 x4 x5 x6 x7 v2 X5
        else
          cm RIV (X5 37 1) <|
          ax 5 x1 <|
          c2 v2 (X5 ((X5 37 1) + 9) x1) <| if (X5 ((X5 37 1) + 9) x1) ≤ v2 then
            B_X3_giveCells_100  go3 (fun x1 x2 x4 x5 x6 x7 X => L_X3_giveCells_13  go3 n x1 x2 x4 x5 x6 x7 X) x1 x2 x4 x5 x6 x7 X5
          else
            B_X3_giveCells_89  go3 (fun x1 x2 x4 x5 x6 x7 X => L_X3_giveCells_13  go3 n x1 x2 x4 x5 x6 x7 X) x1 x2 x4 x5 x6 x7 v2 X5
      else
        some (0, X)
def L_X3_giveCells_3 : Nat → Int → Int → Int → Int → Int → Mem → Option (Int × Mem)
  | 0, _, _, _, _, _, _ => none
  | n + 1, x1, x2, x4, x5, x6, X =>
    c2 x6 x5 <| if x5 < x6 then
      some (1, X)
    else
      L_X3_giveCells_13  (fun x1 x2 x4 x5 x6 X => L_X3_giveCells_3   n x1 x2 x4 x5 x6 X) KF x1 x2 x4 x5 x6 x2 X
def f_X3_giveCells (p1 : Int) (p2 : Int) (p3 : Int) (p4 : Int) (p5 : Int) (X : Mem) : Option (Int × Mem) :=
  L_X3_giveCells_3   KF p1 p2 p4 p5 p3 X
set_option maxRecDepth 20000 in
theorem gB_X3_giveCells_106 {C : Cx} {V : Ev} {L : List Kd} (hC : Ok C V cX3_giveCells RX3 9 0 0) (hR : Rt C V L (some .boolean) rI) (hL : LKc L) {go3 : Int → Int → Int → Int → Int → Mem → Option (Int × Mem)} (hgo3 : ∀ (x1 : Int) (x2 : Int) (x4 : Int) (x5 : Int) (x6 : Int) (X : Mem), G C V L 0 0 9 3 [(0, vR V.1 37), (1, vI x1), (2, vI x2), (4, vI x4), (5, vI x5), (6, vI x6)] [] X (go3 x1 x2 x4 x5 x6 X)) (x1 : Int) (x2 : Int) (x4 : Int) (x5 : Int) (x6 : Int) (X : Mem)  : G C V L 0 0 9 106 [(0, vR V.1 37), (1, vI x1), (2, vI x2), (4, vI x4), (5, vI x5), (6, vI x6)] [] X (B_X3_giveCells_106  go3 x1 x2 x4 x5 x6 X) := by
  unfold B_X3_giveCells_106
  refine g_iinc (q := 5) hC dX3_giveCells_106 rfl (by decide) rfl ?_
  refine g_goto (tgt := 3) hC dX3_giveCells_109 (by decide) ?_
  refine g_sub [1, 2, 3, 4, 5, 0] rfl ?_
  exact hgo3 x1 x2 x4 x5 (x6 + 1) X
set_option maxRecDepth 20000 in
theorem gB_X3_giveCells_100 {C : Cx} {V : Ev} {L : List Kd} (hC : Ok C V cX3_giveCells RX3 9 0 0) (hR : Rt C V L (some .boolean) rI) (hL : LKc L) {go3 : Int → Int → Int → Int → Int → Mem → Option (Int × Mem)} {go13 : Int → Int → Int → Int → Int → Int → Mem → Option (Int × Mem)} (hgo3 : ∀ (x1 : Int) (x2 : Int) (x4 : Int) (x5 : Int) (x6 : Int) (X : Mem), G C V L 0 0 9 3 [(0, vR V.1 37), (1, vI x1), (2, vI x2), (4, vI x4), (5, vI x5), (6, vI x6)] [] X (go3 x1 x2 x4 x5 x6 X)) (hgo13 : ∀ (x1 : Int) (x2 : Int) (x4 : Int) (x5 : Int) (x6 : Int) (x7 : Int) (X : Mem), G C V L 0 0 9 13 [(0, vR V.1 37), (1, vI x1), (2, vI x2), (4, vI x4), (5, vI x5), (6, vI x6), (7, vI x7)] [] X (go13 x1 x2 x4 x5 x6 x7 X)) (x1 : Int) (x2 : Int) (x4 : Int) (x5 : Int) (x6 : Int) (x7 : Int) (X : Mem)  : G C V L 0 0 9 100 [(0, vR V.1 37), (1, vI x1), (2, vI x2), (4, vI x4), (5, vI x5), (6, vI x6), (7, vI x7)] [] X (B_X3_giveCells_100  go3 go13 x1 x2 x4 x5 x6 x7 X) := by
  unfold B_X3_giveCells_100
  refine g_iinc (q := 6) hC dX3_giveCells_100 rfl (by decide) rfl ?_
  refine g_goto (tgt := 13) hC dX3_giveCells_103 (by decide) ?_
  refine g_sub [1, 2, 3, 4, 5, 6, 0] rfl ?_
  exact hgo13 x1 x2 x4 x5 x6 (x7 + 1) X
set_option maxRecDepth 20000 in
theorem gB_X3_giveCells_89 {C : Cx} {V : Ev} {L : List Kd} (hC : Ok C V cX3_giveCells RX3 9 0 0) (hR : Rt C V L (some .boolean) rI) (hL : LKc L) {go3 : Int → Int → Int → Int → Int → Mem → Option (Int × Mem)} {go13 : Int → Int → Int → Int → Int → Int → Mem → Option (Int × Mem)} (hgo3 : ∀ (x1 : Int) (x2 : Int) (x4 : Int) (x5 : Int) (x6 : Int) (X : Mem), G C V L 0 0 9 3 [(0, vR V.1 37), (1, vI x1), (2, vI x2), (4, vI x4), (5, vI x5), (6, vI x6)] [] X (go3 x1 x2 x4 x5 x6 X)) (hgo13 : ∀ (x1 : Int) (x2 : Int) (x4 : Int) (x5 : Int) (x6 : Int) (x7 : Int) (X : Mem), G C V L 0 0 9 13 [(0, vR V.1 37), (1, vI x1), (2, vI x2), (4, vI x4), (5, vI x5), (6, vI x6), (7, vI x7)] [] X (go13 x1 x2 x4 x5 x6 x7 X)) (x1 : Int) (x2 : Int) (x4 : Int) (x5 : Int) (x6 : Int) (x7 : Int) (x8 : Int) (X : Mem)  : G C V L 0 0 9 89 [(0, vR V.1 37), (1, vI x1), (2, vI x2), (4, vI x4), (5, vI x5), (6, vI x6), (7, vI x7), (8, vI x8)] [] X (B_X3_giveCells_89  go3 go13 x1 x2 x4 x5 x6 x7 x8 X) := by
  unfold B_X3_giveCells_89
  refine g_aload_n (q := 0) hC dX3_giveCells_89 rfl rfl rfl ?_
  refine g_getD (k := 1) (kz := 1) hC cf_X3 (at_37 hL) (by decide) rfl (by decide) rfl wf_RX3_32 dX3_giveCells_90 (g_cm (l := RIV) fun m7 => ?_)
  refine g_getS (k := 19) hC cf_X2 (rv_0 (riv_of hL m7)) (by decide) rfl (add_nn (rv_0 (riv_of hL m7))) (by decide) wf_RX3_156 dX3_giveCells_93 ?_
  refine g_iload_n (q := 1) hC dX3_giveCells_96 rfl rfl ?_
  refine g_iload (q := 7) hC dX3_giveCells_97 rfl ?_
  refine g_iast hC (rv_9 (riv_of hL m7)) (by decide) dX3_giveCells_99 (fun X8 => ?_)
  refine g_sub [0, 1, 2, 3, 4, 5, 6] rfl ?_
  exact gB_X3_giveCells_100 hC hR hL hgo3 hgo13 x1 x2 x4 x5 x6 x7 X8
set_option maxRecDepth 20000 in
theorem gL_X3_giveCells_13 {C : Cx} {V : Ev} {L : List Kd} (hC : Ok C V cX3_giveCells RX3 9 0 0) (hR : Rt C V L (some .boolean) rI) (hL : LKc L) {go3 : Int → Int → Int → Int → Int → Mem → Option (Int × Mem)} (hgo3 : ∀ (x1 : Int) (x2 : Int) (x4 : Int) (x5 : Int) (x6 : Int) (X : Mem), G C V L 0 0 9 3 [(0, vR V.1 37), (1, vI x1), (2, vI x2), (4, vI x4), (5, vI x5), (6, vI x6)] [] X (go3 x1 x2 x4 x5 x6 X)) : ∀ (n : Nat) (x1 : Int) (x2 : Int) (x4 : Int) (x5 : Int) (x6 : Int) (x7 : Int) (X : Mem), G C V L 0 0 9 13 [(0, vR V.1 37), (1, vI x1), (2, vI x2), (4, vI x4), (5, vI x5), (6, vI x6), (7, vI x7)] [] X (L_X3_giveCells_13  go3 n x1 x2 x4 x5 x6 x7 X) := by
  intro n
  induction n with
  | zero => intro x1 x2 x4 x5 x6 x7 X; exact g_none
  | succ n ih =>
    intro x1 x2 x4 x5 x6 x7 X
    rw [L_X3_giveCells_13]
    refine g_iload (q := 6) hC dX3_giveCells_13 rfl ?_
    refine g_iload (q := 3) hC dX3_giveCells_15 rfl ?_
    refine g_icmp_gt (tgt := 106) hC dX3_giveCells_17 (by decide) ?_ ?_
    · refine g_sub [0, 1, 2, 3, 4, 5] rfl ?_
      exact gB_X3_giveCells_106 hC hR hL hgo3 x1 x2 x4 x5 x6 X
    · refine g_iload (q := 5) hC dX3_giveCells_20 rfl ?_
      refine g_aload_n (q := 0) hC dX3_giveCells_22 rfl rfl rfl ?_
      refine g_getD (k := 1) (kz := 1) hC cf_X3 (at_37 hL) (by decide) rfl (by decide) rfl wf_RX3_32 dX3_giveCells_23 (g_cm (l := RIV) fun m1 => ?_)
      refine g_getI (k := 0) (kz := 0) hC cf_X2 (rv_0 (riv_of hL m1)) (by decide) rfl (by decide) rfl wf_RX3_66 dX3_giveCells_26 ?_
      refine g_imul hC dX3_giveCells_29 ?_
      refine g_iload (q := 6) hC dX3_giveCells_30 rfl ?_
      refine g_iadd hC dX3_giveCells_32 ?_
      refine g_topI (fun v2 => ?_)
      refine g_istore hC dX3_giveCells_33 (by decide) rfl ?_
      refine g_aload_n (q := 1) hC dX3_giveCells_35 rfl rfl rfl ?_
      refine g_getD (k := 1) (kz := 1) hC cf_X3 (at_37 hL) (by decide) rfl (by decide) rfl wf_RX3_32 dX3_giveCells_36 (g_cm (l := RIV) fun m3 => ?_)
      refine g_getS (k := 12) hC cf_X2 (rv_0 (riv_of hL m3)) (by decide) rfl (add_nn (rv_0 (riv_of hL m3))) (by decide) wf_RX3_182 dX3_giveCells_39 ?_
      refine g_iload (q := 0) hC dX3_giveCells_42 rfl ?_
      refine g_iald hC (rv_2 (riv_of hL m3)) (by decide) dX3_giveCells_44 ?_
      refine g_iconst (v := vI (-1)) hC dX3_giveCells_45 rfl ?_
      refine g_icmp_eq (tgt := 51) hC dX3_giveCells_46 (by decide) ?_ ?_
      · refine g_aload_n (q := 1) hC dX3_giveCells_51 rfl rfl rfl ?_
        refine g_getD (k := 1) (kz := 1) hC cf_X3 (at_37 hL) (by decide) rfl (by decide) rfl wf_RX3_32 dX3_giveCells_52 (g_cm (l := RIV) fun m4 => ?_)
        refine g_getS (k := 12) hC cf_X2 (rv_0 (riv_of hL m4)) (by decide) rfl (add_nn (rv_0 (riv_of hL m4))) (by decide) wf_RX3_182 dX3_giveCells_55 ?_
        refine g_iload (q := 0) hC dX3_giveCells_58 rfl ?_
        refine g_iload_n (q := 2) hC dX3_giveCells_60 rfl rfl ?_
        refine g_iast hC (rv_2 (riv_of hL m4)) (by decide) dX3_giveCells_61 (fun X5 => ?_)
        refine g_aload_n (q := 1) hC dX3_giveCells_62 rfl rfl rfl ?_
        refine g_getD (k := 1) (kz := 1) hC cf_X3 (at_37 hL) (by decide) rfl (by decide) rfl wf_RX3_32 dX3_giveCells_63 (g_cm (l := RIV) fun m6 => ?_)
        refine g_getS (k := 19) hC cf_X2 (rv_0 (riv_of hL m6)) (by decide) rfl (add_nn (rv_0 (riv_of hL m6))) (by decide) wf_RX3_156 dX3_giveCells_66 ?_
        refine g_iload_n (q := 2) hC dX3_giveCells_69 rfl rfl ?_
        refine g_iald hC (rv_9 (riv_of hL m6)) (by decide) dX3_giveCells_70 ?_
        refine g_iconst (v := vI (-1)) hC dX3_giveCells_71 rfl ?_
        refine g_icmp_eq (tgt := 89) hC dX3_giveCells_72 (by decide) ?_ ?_
        · refine g_sub [1, 2, 3, 4, 5, 6, 7, 0] rfl ?_
          exact gB_X3_giveCells_89 hC hR hL hgo3 ih x1 x2 x4 x5 x6 x7 v2 X5
        · refine g_iload (q := 0) hC dX3_giveCells_75 rfl ?_
          refine g_aload_n (q := 1) hC dX3_giveCells_77 rfl rfl rfl ?_
          refine g_getD (k := 1) (kz := 1) hC cf_X3 (at_37 hL) (by decide) rfl (by decide) rfl wf_RX3_32 dX3_giveCells_78 (g_cm (l := RIV) fun m9 => ?_)
          refine g_getS (k := 19) hC cf_X2 (rv_0 (riv_of hL m9)) (by decide) rfl (add_nn (rv_0 (riv_of hL m9))) (by decide) wf_RX3_156 dX3_giveCells_81 ?_
          refine g_iload_n (q := 2) hC dX3_giveCells_84 rfl rfl ?_
          refine g_iald hC (rv_9 (riv_of hL m9)) (by decide) dX3_giveCells_85 ?_
          refine g_icmp_ge (tgt := 100) hC dX3_giveCells_86 (by decide) ?_ ?_
          · refine g_sub [1, 2, 3, 4, 5, 6, 7] rfl ?_
            exact gB_X3_giveCells_100 hC hR hL hgo3 ih x1 x2 x4 x5 x6 x7 X5
          · refine g_sub [1, 2, 3, 4, 5, 6, 7, 0] rfl ?_
            exact gB_X3_giveCells_89 hC hR hL hgo3 ih x1 x2 x4 x5 x6 x7 v2 X5
      · refine g_iconst (v := vI 0) hC dX3_giveCells_49 rfl ?_
        exact g_zret1 hC hR (by decide) dX3_giveCells_50
set_option maxRecDepth 20000 in
theorem gL_X3_giveCells_3 {C : Cx} {V : Ev} {L : List Kd} (hC : Ok C V cX3_giveCells RX3 9 0 0) (hR : Rt C V L (some .boolean) rI) (hL : LKc L) : ∀ (n : Nat) (x1 : Int) (x2 : Int) (x4 : Int) (x5 : Int) (x6 : Int) (X : Mem), G C V L 0 0 9 3 [(0, vR V.1 37), (1, vI x1), (2, vI x2), (4, vI x4), (5, vI x5), (6, vI x6)] [] X (L_X3_giveCells_3   n x1 x2 x4 x5 x6 X) := by
  intro n
  induction n with
  | zero => intro x1 x2 x4 x5 x6 X; exact g_none
  | succ n ih =>
    intro x1 x2 x4 x5 x6 X
    rw [L_X3_giveCells_3]
    refine g_iload (q := 5) hC dX3_giveCells_3 rfl ?_
    refine g_iload (q := 4) hC dX3_giveCells_5 rfl ?_
    refine g_icmp_gt (tgt := 112) hC dX3_giveCells_7 (by decide) ?_ ?_
    · refine g_iconst (v := vI 1) hC dX3_giveCells_112 rfl ?_
      exact g_zret1 hC hR (by decide) dX3_giveCells_113
    · refine g_iload_n (q := 2) hC dX3_giveCells_10 rfl rfl ?_
      refine g_istore hC dX3_giveCells_11 (by decide) rfl ?_
      refine g_sub [1, 2, 3, 4, 5, 6, 0] rfl ?_
      exact gL_X3_giveCells_13 hC hR hL ih KF x1 x2 x4 x5 x6 x2 X
set_option maxRecDepth 20000 in
theorem k_X3_giveCells (l : Launch) (V : Ev) {L : List Kd} (hL : LKc L) (p1 : Int) (p2 : Int) (p3 : Int) (p4 : Int) (p5 : Int) (X : Mem)  : Kt l V L yX3_giveCells (.code yX3_giveCells cX3_giveCells 9 (some .boolean)) 0 0 [vR V.1 37, vI p1, vI p2, vI p3, vI p4, vI p5] rI X (f_X3_giveCells p1 p2 p3 p4 p5 X) := by
  refine kt_of (own := RX3) (lv0 := [(0, vR V.1 37), (1, vI p1), (2, vI p2), (3, vI p3), (4, vI p4), (5, vI p5)]) (by decide) rfl (Nat.le_of_ble_eq_true rfl) rfl (fun C hCl hC hR => ?_)
  subst hCl
  unfold f_X3_giveCells
  refine g_iload_n (q := 3) hC dX3_giveCells_0 rfl rfl ?_
  refine g_istore hC dX3_giveCells_1 (by decide) rfl ?_
  refine g_sub [1, 2, 3, 5, 6, 0] rfl ?_
  exact gL_X3_giveCells_3 hC hR hL  KF p1 p2 p4 p5 p3 X
def f_X3_takeAt  (X : Mem) : Option (Int × Mem) :=
  cl (f_X8_advance X) fun _ X2 =>
  cl (f_X8_isName X2) fun r3 X4 =>
  c1 r3 <| if ¬ r3 = 0 then
    cm RIV (X4 37 1) <|
    cl (f_X2_barNamed (X4 37 1) (X4 35 6) X4) fun r6 X7 =>
    c2 r6 ((-1)) <| if ¬ r6 = ((-1)) then
      cl (f_X8_advance X7) fun _ X9 =>
      cm RIV (X9 37 1) <|
      cl (f_X8_takeNumber 0 ((X9 (X9 37 1) 0) - 1) X9) fun r11 X12 =>
      c1 r11 <| if ¬ r11 = 0 then
        bd (X12 35 8) fun v13 =>
        cm RIV (X12 37 1) <|
        cl (f_X8_takeNumber 0 ((X12 (X12 37 1) 1) - 1) X12) fun r15 X16 =>
        c1 r15 <| if ¬ r15 = 0 then
          bd (X16 35 8) fun v17 =>
          cm RIV (X16 37 1) <|
          cl (f_X8_takePair 9 v13 ((X16 (X16 37 1) 0) - 1) X16) fun r19 X20 =>
          c1 r19 <| if ¬ r19 = 0 then
            bd (X20 35 8) fun v21 =>
            cm RIV (X20 37 1) <|
            cl (f_X8_isNumber v17 ((X20 (X20 37 1) 1) - 1) X20) fun r23 X24 =>
            c1 r23 <| if ¬ r23 = 0 then
              cl (f_X3_giveCells r6 v13 v17 v21 (X24 35 7) X24) fun r25 X26 =>
              c1 r25 <| if ¬ r25 = 0 then
                cl (f_X8_advance X26) fun _ X28 =>
                cl (f_X8_takeSign X28) fun r29 X30 =>
                cz r29 (some (r29, X30))
              else
                cl (f_X8_fail 5 X26) fun r31 X32 =>
                cz r31 (some (r31, X32))
            else
              some (0, X24)
          else
            some (0, X20)
        else
          some (0, X16)
      else
        some (0, X12)
    else
      cl (f_X8_fail 3 X7) fun r33 X34 =>
      cz r33 (some (r33, X34))
  else
    some (0, X4)
set_option maxRecDepth 20000 in
theorem k_X3_takeAt (l : Launch) (V : Ev) {L : List Kd} (hL : LKc L)  (X : Mem)  : Kt l V L yX3_takeAt (.code yX3_takeAt cX3_takeAt 5 (some .boolean)) 8 227 [vR V.1 37] rI X (f_X3_takeAt  X) := by
  refine kt_of (own := RX3) (lv0 := [(0, vR V.1 37)]) (by decide) rfl (Nat.le_of_ble_eq_true rfl) rfl (fun C hCl hC hR => ?_)
  subst hCl
  unfold f_X3_takeAt
  refine g_aload_n (q := 0) hC dX3_takeAt_0 rfl rfl rfl ?_
  refine g_getS (k := 0) hC cf_X3 (at_37 hL) (by decide) rfl (by decide) (by decide) wf_RX3_28 dX3_takeAt_1 ?_
  refine g_callVV (As := []) hC mv_X8_advance wml_RX3_125 (k_X8_advance _ V hL X) cf_X8 (at_35 hL) (by decide) ⟨Nat.zero_le _, Nat.zero_le _⟩ rfl rfl ⟨Nat.le_of_ble_eq_true rfl, Nat.le_of_ble_eq_true rfl⟩ (Nat.le_of_ble_eq_true rfl) dX3_takeAt_4 (fun _ X2 => ?_)
  refine g_aload_n (q := 0) hC dX3_takeAt_7 rfl rfl rfl ?_
  refine g_getS (k := 0) hC cf_X3 (at_37 hL) (by decide) rfl (by decide) (by decide) wf_RX3_28 dX3_takeAt_8 ?_
  refine g_callVI (As := []) hC mv_X8_isName wml_RX3_141 (k_X8_isName _ V hL X2) cf_X8 (at_35 hL) (by decide) ⟨Nat.zero_le _, Nat.zero_le _⟩ rfl rfl ⟨Nat.le_of_ble_eq_true rfl, Nat.le_of_ble_eq_true rfl⟩ (Nat.le_of_ble_eq_true rfl) dX3_takeAt_11 (fun r3 X4 => ?_)
  refine g_if_ne (tgt := 19) hC dX3_takeAt_14 (by decide) ?_ ?_
  · refine g_aload_n (q := 0) hC dX3_takeAt_19 rfl rfl rfl ?_
    refine g_getD (k := 1) (kz := 1) hC cf_X3 (at_37 hL) (by decide) rfl (by decide) rfl wf_RX3_32 dX3_takeAt_20 (g_cm (l := RIV) fun m5 => ?_)
    refine g_aload_n (q := 0) hC dX3_takeAt_23 rfl rfl rfl ?_
    refine g_getS (k := 0) hC cf_X3 (at_37 hL) (by decide) rfl (by decide) (by decide) wf_RX3_28 dX3_takeAt_24 ?_
    refine g_getJ (k := 6) (kz := 6) hC cf_X8 (at_35 hL) (by decide) rfl (by decide) rfl wf_RX3_144 dX3_takeAt_27 ?_
    refine g_callVI (As := [vJ (X4 35 6)]) hC mv_X2_barNamed wml_RX3_148 (k_X2_barNamed _ V (X4 37 1) (X4 35 6) X4 (riv_of hL m5)) cf_X2 (rv_0 (riv_of hL m5)) (by decide) ⟨Nat.zero_le _, Nat.zero_le _⟩ rfl rfl ⟨Nat.le_of_ble_eq_true rfl, Nat.le_of_ble_eq_true rfl⟩ (Nat.le_of_ble_eq_true rfl) dX3_takeAt_30 (fun r6 X7 => ?_)
    refine g_istore_n hC dX3_takeAt_33 rfl (by decide) rfl ?_
    refine g_iload_n (q := 0) hC dX3_takeAt_34 rfl rfl ?_
    refine g_iconst (v := vI (-1)) hC dX3_takeAt_35 rfl ?_
    refine g_icmp_ne (tgt := 48) hC dX3_takeAt_36 (by decide) ?_ ?_
    · refine g_aload_n (q := 1) hC dX3_takeAt_48 rfl rfl rfl ?_
      refine g_getS (k := 0) hC cf_X3 (at_37 hL) (by decide) rfl (by decide) (by decide) wf_RX3_28 dX3_takeAt_49 ?_
      refine g_callVV (As := []) hC mv_X8_advance wml_RX3_125 (k_X8_advance _ V hL X7) cf_X8 (at_35 hL) (by decide) ⟨Nat.zero_le _, Nat.zero_le _⟩ rfl rfl ⟨Nat.le_of_ble_eq_true rfl, Nat.le_of_ble_eq_true rfl⟩ (Nat.le_of_ble_eq_true rfl) dX3_takeAt_52 (fun _ X9 => ?_)
      refine g_aload_n (q := 1) hC dX3_takeAt_55 rfl rfl rfl ?_
      refine g_getS (k := 0) hC cf_X3 (at_37 hL) (by decide) rfl (by decide) (by decide) wf_RX3_28 dX3_takeAt_56 ?_
      refine g_iconst (v := vI 0) hC dX3_takeAt_59 rfl ?_
      refine g_aload_n (q := 1) hC dX3_takeAt_60 rfl rfl rfl ?_
      refine g_getD (k := 1) (kz := 1) hC cf_X3 (at_37 hL) (by decide) rfl (by decide) rfl wf_RX3_32 dX3_takeAt_61 (g_cm (l := RIV) fun m10 => ?_)
      refine g_getI (k := 0) (kz := 0) hC cf_X2 (rv_0 (riv_of hL m10)) (by decide) rfl (by decide) rfl wf_RX3_66 dX3_takeAt_64 ?_
      refine g_iconst (v := vI 1) hC dX3_takeAt_67 rfl ?_
      refine g_isub hC dX3_takeAt_68 ?_
      refine g_callVI (As := [vI 0, vI ((X9 (X9 37 1) 0) - 1)]) hC mv_X8_takeNumber wml_RX3_69 (k_X8_takeNumber _ V hL 0 ((X9 (X9 37 1) 0) - 1) X9) cf_X8 (at_35 hL) (by decide) ⟨Nat.zero_le _, Nat.zero_le _⟩ rfl rfl ⟨Nat.le_of_ble_eq_true rfl, Nat.le_of_ble_eq_true rfl⟩ (Nat.le_of_ble_eq_true rfl) dX3_takeAt_69 (fun r11 X12 => ?_)
      refine g_if_ne (tgt := 77) hC dX3_takeAt_72 (by decide) ?_ ?_
      · refine g_aload_n (q := 1) hC dX3_takeAt_77 rfl rfl rfl ?_
        refine g_getS (k := 0) hC cf_X3 (at_37 hL) (by decide) rfl (by decide) (by decide) wf_RX3_28 dX3_takeAt_78 ?_
        refine g_getI (k := 8) (kz := 8) hC cf_X8 (at_35 hL) (by decide) rfl (by decide) rfl wf_RX3_63 dX3_takeAt_81 ?_
        refine g_topI (fun v13 => ?_)
        refine g_istore_n hC dX3_takeAt_84 rfl (by decide) rfl ?_
        refine g_aload_n (q := 2) hC dX3_takeAt_85 rfl rfl rfl ?_
        refine g_getS (k := 0) hC cf_X3 (at_37 hL) (by decide) rfl (by decide) (by decide) wf_RX3_28 dX3_takeAt_86 ?_
        refine g_iconst (v := vI 0) hC dX3_takeAt_89 rfl ?_
        refine g_aload_n (q := 2) hC dX3_takeAt_90 rfl rfl rfl ?_
        refine g_getD (k := 1) (kz := 1) hC cf_X3 (at_37 hL) (by decide) rfl (by decide) rfl wf_RX3_32 dX3_takeAt_91 (g_cm (l := RIV) fun m14 => ?_)
        refine g_getI (k := 1) (kz := 1) hC cf_X2 (rv_0 (riv_of hL m14)) (by decide) rfl (by decide) rfl wf_RX3_73 dX3_takeAt_94 ?_
        refine g_iconst (v := vI 1) hC dX3_takeAt_97 rfl ?_
        refine g_isub hC dX3_takeAt_98 ?_
        refine g_callVI (As := [vI 0, vI ((X12 (X12 37 1) 1) - 1)]) hC mv_X8_takeNumber wml_RX3_69 (k_X8_takeNumber _ V hL 0 ((X12 (X12 37 1) 1) - 1) X12) cf_X8 (at_35 hL) (by decide) ⟨Nat.zero_le _, Nat.zero_le _⟩ rfl rfl ⟨Nat.le_of_ble_eq_true rfl, Nat.le_of_ble_eq_true rfl⟩ (Nat.le_of_ble_eq_true rfl) dX3_takeAt_99 (fun r15 X16 => ?_)
        refine g_if_ne (tgt := 107) hC dX3_takeAt_102 (by decide) ?_ ?_
        · refine g_aload_n (q := 2) hC dX3_takeAt_107 rfl rfl rfl ?_
          refine g_getS (k := 0) hC cf_X3 (at_37 hL) (by decide) rfl (by decide) (by decide) wf_RX3_28 dX3_takeAt_108 ?_
          refine g_getI (k := 8) (kz := 8) hC cf_X8 (at_35 hL) (by decide) rfl (by decide) rfl wf_RX3_63 dX3_takeAt_111 ?_
          refine g_topI (fun v17 => ?_)
          refine g_istore_n hC dX3_takeAt_114 rfl (by decide) rfl ?_
          refine g_aload_n (q := 3) hC dX3_takeAt_115 rfl rfl rfl ?_
          refine g_getS (k := 0) hC cf_X3 (at_37 hL) (by decide) rfl (by decide) (by decide) wf_RX3_28 dX3_takeAt_116 ?_
          refine g_ldcS (i := 9) hC (by decide) rfl dX3_takeAt_119 ?_
          refine g_iload_n (q := 1) hC dX3_takeAt_121 rfl rfl ?_
          refine g_aload_n (q := 3) hC dX3_takeAt_122 rfl rfl rfl ?_
          refine g_getD (k := 1) (kz := 1) hC cf_X3 (at_37 hL) (by decide) rfl (by decide) rfl wf_RX3_32 dX3_takeAt_123 (g_cm (l := RIV) fun m18 => ?_)
          refine g_getI (k := 0) (kz := 0) hC cf_X2 (rv_0 (riv_of hL m18)) (by decide) rfl (by decide) rfl wf_RX3_66 dX3_takeAt_126 ?_
          refine g_iconst (v := vI 1) hC dX3_takeAt_129 rfl ?_
          refine g_isub hC dX3_takeAt_130 ?_
          refine g_callVI (As := [vS V 9, vI v13, vI ((X16 (X16 37 1) 0) - 1)]) hC mv_X8_takePair wml_RX3_59 (k_X8_takePair _ V hL 9 v13 ((X16 (X16 37 1) 0) - 1) X16 (by decide)) cf_X8 (at_35 hL) (by decide) ⟨Nat.zero_le _, Nat.zero_le _⟩ rfl rfl ⟨Nat.le_of_ble_eq_true rfl, Nat.le_of_ble_eq_true rfl⟩ (Nat.le_of_ble_eq_true rfl) dX3_takeAt_131 (fun r19 X20 => ?_)
          refine g_if_ne (tgt := 139) hC dX3_takeAt_134 (by decide) ?_ ?_
          · refine g_aload_n (q := 3) hC dX3_takeAt_139 rfl rfl rfl ?_
            refine g_getS (k := 0) hC cf_X3 (at_37 hL) (by decide) rfl (by decide) (by decide) wf_RX3_28 dX3_takeAt_140 ?_
            refine g_getI (k := 8) (kz := 8) hC cf_X8 (at_35 hL) (by decide) rfl (by decide) rfl wf_RX3_63 dX3_takeAt_143 ?_
            refine g_topI (fun v21 => ?_)
            refine g_istore hC dX3_takeAt_146 (by decide) rfl ?_
            refine g_aload_n (q := 4) hC dX3_takeAt_148 rfl rfl rfl ?_
            refine g_getS (k := 0) hC cf_X3 (at_37 hL) (by decide) rfl (by decide) (by decide) wf_RX3_28 dX3_takeAt_149 ?_
            refine g_iload_n (q := 1) hC dX3_takeAt_152 rfl rfl ?_
            refine g_aload_n (q := 4) hC dX3_takeAt_153 rfl rfl rfl ?_
            refine g_getD (k := 1) (kz := 1) hC cf_X3 (at_37 hL) (by decide) rfl (by decide) rfl wf_RX3_32 dX3_takeAt_154 (g_cm (l := RIV) fun m22 => ?_)
            refine g_getI (k := 1) (kz := 1) hC cf_X2 (rv_0 (riv_of hL m22)) (by decide) rfl (by decide) rfl wf_RX3_73 dX3_takeAt_157 ?_
            refine g_iconst (v := vI 1) hC dX3_takeAt_160 rfl ?_
            refine g_isub hC dX3_takeAt_161 ?_
            refine g_callVI (As := [vI v17, vI ((X20 (X20 37 1) 1) - 1)]) hC mv_X8_isNumber wml_RX3_128 (k_X8_isNumber _ V hL v17 ((X20 (X20 37 1) 1) - 1) X20) cf_X8 (at_35 hL) (by decide) ⟨Nat.zero_le _, Nat.zero_le _⟩ rfl rfl ⟨Nat.le_of_ble_eq_true rfl, Nat.le_of_ble_eq_true rfl⟩ (Nat.le_of_ble_eq_true rfl) dX3_takeAt_162 (fun r23 X24 => ?_)
            refine g_if_ne (tgt := 170) hC dX3_takeAt_165 (by decide) ?_ ?_
            · refine g_aload_n (q := 4) hC dX3_takeAt_170 rfl rfl rfl ?_
              refine g_iload_n (q := 3) hC dX3_takeAt_171 rfl rfl ?_
              refine g_iload_n (q := 2) hC dX3_takeAt_172 rfl rfl ?_
              refine g_iload_n (q := 1) hC dX3_takeAt_173 rfl rfl ?_
              refine g_iload (q := 0) hC dX3_takeAt_174 rfl ?_
              refine g_aload_n (q := 4) hC dX3_takeAt_176 rfl rfl rfl ?_
              refine g_getS (k := 0) hC cf_X3 (at_37 hL) (by decide) rfl (by decide) (by decide) wf_RX3_28 dX3_takeAt_177 ?_
              refine g_getI (k := 7) (kz := 7) hC cf_X8 (at_35 hL) (by decide) rfl (by decide) rfl wf_RX3_135 dX3_takeAt_180 ?_
              refine g_callVI (As := [vI r6, vI v13, vI v17, vI v21, vI (X24 35 7)]) hC mv_X3_giveCells wml_RX3_178 (k_X3_giveCells _ V hL r6 v13 v17 v21 (X24 35 7) X24) cf_X3 (at_37 hL) (by decide) ⟨Nat.zero_le _, Nat.zero_le _⟩ rfl rfl ⟨Nat.le_of_ble_eq_true rfl, Nat.le_of_ble_eq_true rfl⟩ (Nat.le_of_ble_eq_true rfl) dX3_takeAt_183 (fun r25 X26 => ?_)
              refine g_if_ne (tgt := 198) hC dX3_takeAt_186 (by decide) ?_ ?_
              · refine g_aload_n (q := 4) hC dX3_takeAt_198 rfl rfl rfl ?_
                refine g_getS (k := 0) hC cf_X3 (at_37 hL) (by decide) rfl (by decide) (by decide) wf_RX3_28 dX3_takeAt_199 ?_
                refine g_callVV (As := []) hC mv_X8_advance wml_RX3_125 (k_X8_advance _ V hL X26) cf_X8 (at_35 hL) (by decide) ⟨Nat.zero_le _, Nat.zero_le _⟩ rfl rfl ⟨Nat.le_of_ble_eq_true rfl, Nat.le_of_ble_eq_true rfl⟩ (Nat.le_of_ble_eq_true rfl) dX3_takeAt_202 (fun _ X28 => ?_)
                refine g_aload_n (q := 4) hC dX3_takeAt_205 rfl rfl rfl ?_
                refine g_getS (k := 0) hC cf_X3 (at_37 hL) (by decide) rfl (by decide) (by decide) wf_RX3_28 dX3_takeAt_206 ?_
                refine g_callVI (As := []) hC mv_X8_takeSign wml_RX3_76 (k_X8_takeSign _ V hL X28) cf_X8 (at_35 hL) (by decide) ⟨Nat.zero_le _, Nat.zero_le _⟩ rfl rfl ⟨Nat.le_of_ble_eq_true rfl, Nat.le_of_ble_eq_true rfl⟩ (Nat.le_of_ble_eq_true rfl) dX3_takeAt_209 (fun r29 X30 => ?_)
                exact g_zret hC hR dX3_takeAt_212
              · refine g_aload_n (q := 4) hC dX3_takeAt_189 rfl rfl rfl ?_
                refine g_getS (k := 0) hC cf_X3 (at_37 hL) (by decide) rfl (by decide) (by decide) wf_RX3_28 dX3_takeAt_190 ?_
                refine g_iconst (v := vI 5) hC dX3_takeAt_193 rfl ?_
                refine g_callVI (As := [vI 5]) hC mv_X8_fail wml_RX3_121 (k_X8_fail _ V hL 5 X26) cf_X8 (at_35 hL) (by decide) ⟨Nat.zero_le _, Nat.zero_le _⟩ rfl rfl ⟨Nat.le_of_ble_eq_true rfl, Nat.le_of_ble_eq_true rfl⟩ (Nat.le_of_ble_eq_true rfl) dX3_takeAt_194 (fun r31 X32 => ?_)
                exact g_zret hC hR dX3_takeAt_197
            · refine g_iconst (v := vI 0) hC dX3_takeAt_168 rfl ?_
              exact g_zret1 hC hR (by decide) dX3_takeAt_169
          · refine g_iconst (v := vI 0) hC dX3_takeAt_137 rfl ?_
            exact g_zret1 hC hR (by decide) dX3_takeAt_138
        · refine g_iconst (v := vI 0) hC dX3_takeAt_105 rfl ?_
          exact g_zret1 hC hR (by decide) dX3_takeAt_106
      · refine g_iconst (v := vI 0) hC dX3_takeAt_75 rfl ?_
        exact g_zret1 hC hR (by decide) dX3_takeAt_76
    · refine g_aload_n (q := 1) hC dX3_takeAt_39 rfl rfl rfl ?_
      refine g_getS (k := 0) hC cf_X3 (at_37 hL) (by decide) rfl (by decide) (by decide) wf_RX3_28 dX3_takeAt_40 ?_
      refine g_iconst (v := vI 3) hC dX3_takeAt_43 rfl ?_
      refine g_callVI (As := [vI 3]) hC mv_X8_fail wml_RX3_121 (k_X8_fail _ V hL 3 X7) cf_X8 (at_35 hL) (by decide) ⟨Nat.zero_le _, Nat.zero_le _⟩ rfl rfl ⟨Nat.le_of_ble_eq_true rfl, Nat.le_of_ble_eq_true rfl⟩ (Nat.le_of_ble_eq_true rfl) dX3_takeAt_44 (fun r33 X34 => ?_)
      exact g_zret hC hR dX3_takeAt_47
  · refine g_iconst (v := vI 0) hC dX3_takeAt_17 rfl ?_
    exact g_zret1 hC hR (by decide) dX3_takeAt_18
def B_X3_takeStage_163  (X : Mem) : Option (Int × Mem) :=
  cl (f_X8_takeSign X) fun r4 X5 =>
  cz r4 (some (r4, X5))
def B_X3_takeStage_149 (go30 : Int → Mem → Option (Int × Mem)) (x1 : Int) (s0 : Int) (s1 : Int) (s2 : Int) (X : Mem) : Option (Int × Mem) :=
  ax 12 s1 <| bd (ms X s2 s1 s0) fun X11 =>
  cl (f_X8_advance X11) fun _ X13 =>
  go30 (x1 + 1) X13
def B_X3_takeStage_109  (X : Mem) : Option (Int × Mem) :=
  cl (f_X8_fail 6 X) fun r14 X15 =>
  cz r14 (some (r14, X15))
def B_X3_takeStage_88 (go30 : Int → Mem → Option (Int × Mem)) (x1 : Int) (x2 : Int) (X : Mem) : Option (Int × Mem) :=
  cl (f_X8_isNumber 0 9 X) fun r8 X9 =>
  c1 r8 <| if ¬ r8 = 0 then
    c2 x1 12 <| if x1 < 12 then
      cm RIV (X9 37 1) <|
      c1 x2 <| if x2 = 0 then
        B_X3_takeStage_149  go30 x1 (X9 35 7) x1 ((X9 37 1) + 3) X9
      else
        B_X3_takeStage_149  go30 x1 (-(X9 35 7)) x1 ((X9 37 1) + 3) X9
    else
      B_X3_takeStage_109   X9
  else
    some (0, X9)
def B_X3_takeStage_71  (X : Mem) : Option (Int × Mem) :=
  cl (f_X8_fail 6 X) fun r18 X19 =>
  cz r18 (some (r18, X19))
def B_X3_takeStage_51 (go30 : Int → Mem → Option (Int × Mem)) (x1 : Int) (X : Mem) : Option (Int × Mem) :=
  cl (f_X8_is 11 X) fun r6 X7 =>
  c1 r6 <| if r6 = 0 then
    B_X3_takeStage_88  go30 x1 r6 X7
  else
    c2 x1 12 <| if x1 < 12 then
      cl (f_X8_advance X7) fun _ X17 =>
      B_X3_takeStage_88  go30 x1 r6 X17
    else
      B_X3_takeStage_71   X7
def L_X3_takeStage_30 : Nat → Int → Mem → Option (Int × Mem)
  | 0, _, _ => none
  | n + 1, x1, X =>
    c2 x1 12 <| if 12 < x1 then
      B_X3_takeStage_163   X
    else
      c1 x1 <| if x1 = 0 then
        B_X3_takeStage_51  (fun x1 X => L_X3_takeStage_30   n x1 X) x1 X
      else
        c2 (X 35 4) 3 <| if (X 35 4) = 3 then
          B_X3_takeStage_163   X
        else
          B_X3_takeStage_51  (fun x1 X => L_X3_takeStage_30   n x1 X) x1 X
def f_X3_takeStage  (X : Mem) : Option (Int × Mem) :=
  c1 (X 37 3) <| if (X 37 3) = 0 then
    cz 1 <| bd (ms X 37 3 1) fun X1 =>
    cl (f_X8_advance X1) fun _ X3 =>
    L_X3_takeStage_30   KF 0 X3
  else
    cl (f_X8_fail 5 X) fun r20 X21 =>
    cz r20 (some (r20, X21))
set_option maxRecDepth 20000 in
theorem gB_X3_takeStage_163 {C : Cx} {V : Ev} {L : List Kd} (hC : Ok C V cX3_takeStage RX3 3 6 183) (hR : Rt C V L (some .boolean) rI) (hL : LKc L)  (X : Mem)  : G C V L 0 0 3 163 [(0, vR V.1 37)] [] X (B_X3_takeStage_163    X) := by
  unfold B_X3_takeStage_163
  refine g_aload_n (q := 0) hC dX3_takeStage_163 rfl rfl rfl ?_
  refine g_getS (k := 0) hC cf_X3 (at_37 hL) (by decide) rfl (by decide) (by decide) wf_RX3_28 dX3_takeStage_164 ?_
  refine g_callVI (As := []) hC mv_X8_takeSign wml_RX3_76 (k_X8_takeSign _ V hL X) cf_X8 (at_35 hL) (by decide) ⟨Nat.zero_le _, Nat.zero_le _⟩ rfl rfl ⟨Nat.le_of_ble_eq_true rfl, Nat.le_of_ble_eq_true rfl⟩ (Nat.le_of_ble_eq_true rfl) dX3_takeStage_167 (fun r4 X5 => ?_)
  exact g_zret hC hR dX3_takeStage_170
set_option maxRecDepth 20000 in
theorem gB_X3_takeStage_149 {C : Cx} {V : Ev} {L : List Kd} (hC : Ok C V cX3_takeStage RX3 3 6 183) (hR : Rt C V L (some .boolean) rI) (hL : LKc L) {go30 : Int → Mem → Option (Int × Mem)} (hgo30 : ∀ (x1 : Int) (X : Mem), G C V L 0 0 3 30 [(0, vR V.1 37), (1, vI x1)] [] X (go30 x1 X)) (x1 : Int) (s0 : Int) (s1 : Int) (s2 : Int) (X : Mem) (gs2 : At L s2 (100, [12])) : G C V L 0 0 3 149 [(0, vR V.1 37), (1, vI x1)] [vI s0, vI s1, vR V.1 s2] X (B_X3_takeStage_149  go30 x1 s0 s1 s2 X) := by
  unfold B_X3_takeStage_149
  refine g_iast hC gs2 (by decide) dX3_takeStage_149 (fun X11 => ?_)
  refine g_iinc (q := 1) hC dX3_takeStage_150 rfl (by decide) rfl ?_
  refine g_aload_n (q := 1) hC dX3_takeStage_153 rfl rfl rfl ?_
  refine g_getS (k := 0) hC cf_X3 (at_37 hL) (by decide) rfl (by decide) (by decide) wf_RX3_28 dX3_takeStage_154 ?_
  refine g_callVV (As := []) hC mv_X8_advance wml_RX3_125 (k_X8_advance _ V hL X11) cf_X8 (at_35 hL) (by decide) ⟨Nat.zero_le _, Nat.zero_le _⟩ rfl rfl ⟨Nat.le_of_ble_eq_true rfl, Nat.le_of_ble_eq_true rfl⟩ (Nat.le_of_ble_eq_true rfl) dX3_takeStage_157 (fun _ X13 => ?_)
  refine g_goto (tgt := 30) hC dX3_takeStage_160 (by decide) ?_
  refine g_sub [1, 0] rfl ?_
  exact hgo30 (x1 + 1) X13
set_option maxRecDepth 20000 in
theorem gB_X3_takeStage_109 {C : Cx} {V : Ev} {L : List Kd} (hC : Ok C V cX3_takeStage RX3 3 6 183) (hR : Rt C V L (some .boolean) rI) (hL : LKc L)  (X : Mem)  : G C V L 0 0 3 109 [(0, vR V.1 37)] [] X (B_X3_takeStage_109    X) := by
  unfold B_X3_takeStage_109
  refine g_aload_n (q := 0) hC dX3_takeStage_109 rfl rfl rfl ?_
  refine g_getS (k := 0) hC cf_X3 (at_37 hL) (by decide) rfl (by decide) (by decide) wf_RX3_28 dX3_takeStage_110 ?_
  refine g_bipush (v := vI 6) hC dX3_takeStage_113 rfl ?_
  refine g_callVI (As := [vI 6]) hC mv_X8_fail wml_RX3_121 (k_X8_fail _ V hL 6 X) cf_X8 (at_35 hL) (by decide) ⟨Nat.zero_le _, Nat.zero_le _⟩ rfl rfl ⟨Nat.le_of_ble_eq_true rfl, Nat.le_of_ble_eq_true rfl⟩ (Nat.le_of_ble_eq_true rfl) dX3_takeStage_115 (fun r14 X15 => ?_)
  exact g_zret hC hR dX3_takeStage_118
set_option maxRecDepth 20000 in
theorem gB_X3_takeStage_88 {C : Cx} {V : Ev} {L : List Kd} (hC : Ok C V cX3_takeStage RX3 3 6 183) (hR : Rt C V L (some .boolean) rI) (hL : LKc L) {go30 : Int → Mem → Option (Int × Mem)} (hgo30 : ∀ (x1 : Int) (X : Mem), G C V L 0 0 3 30 [(0, vR V.1 37), (1, vI x1)] [] X (go30 x1 X)) (x1 : Int) (x2 : Int) (X : Mem)  : G C V L 0 0 3 88 [(0, vR V.1 37), (1, vI x1), (2, vI x2)] [] X (B_X3_takeStage_88  go30 x1 x2 X) := by
  unfold B_X3_takeStage_88
  refine g_aload_n (q := 0) hC dX3_takeStage_88 rfl rfl rfl ?_
  refine g_getS (k := 0) hC cf_X3 (at_37 hL) (by decide) rfl (by decide) (by decide) wf_RX3_28 dX3_takeStage_89 ?_
  refine g_iconst (v := vI 0) hC dX3_takeStage_92 rfl ?_
  refine g_bipush (v := vI 9) hC dX3_takeStage_93 rfl ?_
  refine g_callVI (As := [vI 0, vI 9]) hC mv_X8_isNumber wml_RX3_128 (k_X8_isNumber _ V hL 0 9 X) cf_X8 (at_35 hL) (by decide) ⟨Nat.zero_le _, Nat.zero_le _⟩ rfl rfl ⟨Nat.le_of_ble_eq_true rfl, Nat.le_of_ble_eq_true rfl⟩ (Nat.le_of_ble_eq_true rfl) dX3_takeStage_95 (fun r8 X9 => ?_)
  refine g_if_ne (tgt := 103) hC dX3_takeStage_98 (by decide) ?_ ?_
  · refine g_iload_n (q := 1) hC dX3_takeStage_103 rfl rfl ?_
    refine g_bipush (v := vI 12) hC dX3_takeStage_104 rfl ?_
    refine g_icmp_lt (tgt := 119) hC dX3_takeStage_106 (by decide) ?_ ?_
    · refine g_aload_n (q := 0) hC dX3_takeStage_119 rfl rfl rfl ?_
      refine g_getD (k := 1) (kz := 1) hC cf_X3 (at_37 hL) (by decide) rfl (by decide) rfl wf_RX3_32 dX3_takeStage_120 (g_cm (l := RIV) fun m10 => ?_)
      refine g_getS (k := 13) hC cf_X2 (rv_0 (riv_of hL m10)) (by decide) rfl (add_nn (rv_0 (riv_of hL m10))) (by decide) wf_RX3_187 dX3_takeStage_123 ?_
      refine g_iload_n (q := 1) hC dX3_takeStage_126 rfl rfl ?_
      refine g_iload_n (q := 2) hC dX3_takeStage_127 rfl rfl ?_
      refine g_if_eq (tgt := 142) hC dX3_takeStage_128 (by decide) ?_ ?_
      · refine g_aload_n (q := 0) hC dX3_takeStage_142 rfl rfl rfl ?_
        refine g_getS (k := 0) hC cf_X3 (at_37 hL) (by decide) rfl (by decide) (by decide) wf_RX3_28 dX3_takeStage_143 ?_
        refine g_getI (k := 7) (kz := 7) hC cf_X8 (at_35 hL) (by decide) rfl (by decide) rfl wf_RX3_135 dX3_takeStage_146 ?_
        refine g_sub [0, 1] rfl ?_
        exact gB_X3_takeStage_149 hC hR hL hgo30 x1 (X9 35 7) x1 ((X9 37 1) + 3) X9 (rv_3 (riv_of hL m10))
      · refine g_aload_n (q := 0) hC dX3_takeStage_131 rfl rfl rfl ?_
        refine g_getS (k := 0) hC cf_X3 (at_37 hL) (by decide) rfl (by decide) (by decide) wf_RX3_28 dX3_takeStage_132 ?_
        refine g_getI (k := 7) (kz := 7) hC cf_X8 (at_35 hL) (by decide) rfl (by decide) rfl wf_RX3_135 dX3_takeStage_135 ?_
        refine g_ineg hC dX3_takeStage_138 ?_
        refine g_goto (tgt := 149) hC dX3_takeStage_139 (by decide) ?_
        refine g_sub [0, 1] rfl ?_
        exact gB_X3_takeStage_149 hC hR hL hgo30 x1 (-(X9 35 7)) x1 ((X9 37 1) + 3) X9 (rv_3 (riv_of hL m10))
    · refine g_sub [0] rfl ?_
      exact gB_X3_takeStage_109 hC hR hL  X9
  · refine g_iconst (v := vI 0) hC dX3_takeStage_101 rfl ?_
    exact g_zret1 hC hR (by decide) dX3_takeStage_102
set_option maxRecDepth 20000 in
theorem gB_X3_takeStage_71 {C : Cx} {V : Ev} {L : List Kd} (hC : Ok C V cX3_takeStage RX3 3 6 183) (hR : Rt C V L (some .boolean) rI) (hL : LKc L)  (X : Mem)  : G C V L 0 0 3 71 [(0, vR V.1 37)] [] X (B_X3_takeStage_71    X) := by
  unfold B_X3_takeStage_71
  refine g_aload_n (q := 0) hC dX3_takeStage_71 rfl rfl rfl ?_
  refine g_getS (k := 0) hC cf_X3 (at_37 hL) (by decide) rfl (by decide) (by decide) wf_RX3_28 dX3_takeStage_72 ?_
  refine g_bipush (v := vI 6) hC dX3_takeStage_75 rfl ?_
  refine g_callVI (As := [vI 6]) hC mv_X8_fail wml_RX3_121 (k_X8_fail _ V hL 6 X) cf_X8 (at_35 hL) (by decide) ⟨Nat.zero_le _, Nat.zero_le _⟩ rfl rfl ⟨Nat.le_of_ble_eq_true rfl, Nat.le_of_ble_eq_true rfl⟩ (Nat.le_of_ble_eq_true rfl) dX3_takeStage_77 (fun r18 X19 => ?_)
  exact g_zret hC hR dX3_takeStage_80
set_option maxRecDepth 20000 in
theorem gB_X3_takeStage_51 {C : Cx} {V : Ev} {L : List Kd} (hC : Ok C V cX3_takeStage RX3 3 6 183) (hR : Rt C V L (some .boolean) rI) (hL : LKc L) {go30 : Int → Mem → Option (Int × Mem)} (hgo30 : ∀ (x1 : Int) (X : Mem), G C V L 0 0 3 30 [(0, vR V.1 37), (1, vI x1)] [] X (go30 x1 X)) (x1 : Int) (X : Mem)  : G C V L 0 0 3 51 [(0, vR V.1 37), (1, vI x1)] [] X (B_X3_takeStage_51  go30 x1 X) := by
  unfold B_X3_takeStage_51
  refine g_aload_n (q := 0) hC dX3_takeStage_51 rfl rfl rfl ?_
  refine g_getS (k := 0) hC cf_X3 (at_37 hL) (by decide) rfl (by decide) (by decide) wf_RX3_28 dX3_takeStage_52 ?_
  refine g_ldcS (i := 11) hC (by decide) rfl dX3_takeStage_55 ?_
  refine g_callVI (As := [vS V 11]) hC mv_X8_is wml_RX3_81 (k_X8_is _ V hL 11 X (by decide)) cf_X8 (at_35 hL) (by decide) ⟨Nat.zero_le _, Nat.zero_le _⟩ rfl rfl ⟨Nat.le_of_ble_eq_true rfl, Nat.le_of_ble_eq_true rfl⟩ (Nat.le_of_ble_eq_true rfl) dX3_takeStage_57 (fun r6 X7 => ?_)
  refine g_istore_n hC dX3_takeStage_60 rfl (by decide) rfl ?_
  refine g_iload_n (q := 0) hC dX3_takeStage_61 rfl rfl ?_
  refine g_if_eq (tgt := 88) hC dX3_takeStage_62 (by decide) ?_ ?_
  · refine g_sub [1, 2, 0] rfl ?_
    exact gB_X3_takeStage_88 hC hR hL hgo30 x1 r6 X7
  · refine g_iload_n (q := 2) hC dX3_takeStage_65 rfl rfl ?_
    refine g_bipush (v := vI 12) hC dX3_takeStage_66 rfl ?_
    refine g_icmp_lt (tgt := 81) hC dX3_takeStage_68 (by decide) ?_ ?_
    · refine g_aload_n (q := 1) hC dX3_takeStage_81 rfl rfl rfl ?_
      refine g_getS (k := 0) hC cf_X3 (at_37 hL) (by decide) rfl (by decide) (by decide) wf_RX3_28 dX3_takeStage_82 ?_
      refine g_callVV (As := []) hC mv_X8_advance wml_RX3_125 (k_X8_advance _ V hL X7) cf_X8 (at_35 hL) (by decide) ⟨Nat.zero_le _, Nat.zero_le _⟩ rfl rfl ⟨Nat.le_of_ble_eq_true rfl, Nat.le_of_ble_eq_true rfl⟩ (Nat.le_of_ble_eq_true rfl) dX3_takeStage_85 (fun _ X17 => ?_)
      refine g_sub [1, 2, 0] rfl ?_
      exact gB_X3_takeStage_88 hC hR hL hgo30 x1 r6 X17
    · refine g_sub [1] rfl ?_
      exact gB_X3_takeStage_71 hC hR hL  X7
set_option maxRecDepth 20000 in
theorem gL_X3_takeStage_30 {C : Cx} {V : Ev} {L : List Kd} (hC : Ok C V cX3_takeStage RX3 3 6 183) (hR : Rt C V L (some .boolean) rI) (hL : LKc L) : ∀ (n : Nat) (x1 : Int) (X : Mem), G C V L 0 0 3 30 [(0, vR V.1 37), (1, vI x1)] [] X (L_X3_takeStage_30   n x1 X) := by
  intro n
  induction n with
  | zero => intro x1 X; exact g_none
  | succ n ih =>
    intro x1 X
    rw [L_X3_takeStage_30]
    refine g_iload_n (q := 1) hC dX3_takeStage_30 rfl rfl ?_
    refine g_bipush (v := vI 12) hC dX3_takeStage_31 rfl ?_
    refine g_icmp_gt (tgt := 163) hC dX3_takeStage_33 (by decide) ?_ ?_
    · refine g_sub [0] rfl ?_
      exact gB_X3_takeStage_163 hC hR hL  X
    · refine g_iload_n (q := 1) hC dX3_takeStage_36 rfl rfl ?_
      refine g_if_eq (tgt := 51) hC dX3_takeStage_37 (by decide) ?_ ?_
      · exact gB_X3_takeStage_51 hC hR hL ih x1 X
      · refine g_aload_n (q := 0) hC dX3_takeStage_40 rfl rfl rfl ?_
        refine g_getS (k := 0) hC cf_X3 (at_37 hL) (by decide) rfl (by decide) (by decide) wf_RX3_28 dX3_takeStage_41 ?_
        refine g_getI (k := 4) (kz := 4) hC cf_X8 (at_35 hL) (by decide) rfl (by decide) rfl wf_RX3_51 dX3_takeStage_44 ?_
        refine g_iconst (v := vI 3) hC dX3_takeStage_47 rfl ?_
        refine g_icmp_eq (tgt := 163) hC dX3_takeStage_48 (by decide) ?_ ?_
        · refine g_sub [0] rfl ?_
          exact gB_X3_takeStage_163 hC hR hL  X
        · exact gB_X3_takeStage_51 hC hR hL ih x1 X
set_option maxRecDepth 20000 in
theorem k_X3_takeStage (l : Launch) (V : Ev) {L : List Kd} (hL : LKc L)  (X : Mem)  : Kt l V L yX3_takeStage (.code yX3_takeStage cX3_takeStage 3 (some .boolean)) 6 183 [vR V.1 37] rI X (f_X3_takeStage  X) := by
  refine kt_of (own := RX3) (lv0 := [(0, vR V.1 37)]) (by decide) rfl (Nat.le_of_ble_eq_true rfl) rfl (fun C hCl hC hR => ?_)
  subst hCl
  unfold f_X3_takeStage
  refine g_aload_n (q := 0) hC dX3_takeStage_0 rfl rfl rfl ?_
  refine g_getI (k := 3) (kz := 3) hC cf_X3 (at_37 hL) (by decide) rfl (by decide) rfl wf_RX3_15 dX3_takeStage_1 ?_
  refine g_if_eq (tgt := 16) hC dX3_takeStage_4 (by decide) ?_ ?_
  · refine g_aload_n (q := 0) hC dX3_takeStage_16 rfl rfl rfl ?_
    refine g_iconst (v := vI 1) hC dX3_takeStage_17 rfl ?_
    refine g_putZ (k := 3) (kz := 3) hC cf_X3 (at_37 hL) (by decide) rfl (by decide) rfl wf_RX3_15 rfl rfl dX3_takeStage_18 (fun X1 => ?_)
    refine g_aload_n (q := 0) hC dX3_takeStage_21 rfl rfl rfl ?_
    refine g_getS (k := 0) hC cf_X3 (at_37 hL) (by decide) rfl (by decide) (by decide) wf_RX3_28 dX3_takeStage_22 ?_
    refine g_callVV (As := []) hC mv_X8_advance wml_RX3_125 (k_X8_advance _ V hL X1) cf_X8 (at_35 hL) (by decide) ⟨Nat.zero_le _, Nat.zero_le _⟩ rfl rfl ⟨Nat.le_of_ble_eq_true rfl, Nat.le_of_ble_eq_true rfl⟩ (Nat.le_of_ble_eq_true rfl) dX3_takeStage_25 (fun _ X3 => ?_)
    refine g_iconst (v := vI 0) hC dX3_takeStage_28 rfl ?_
    refine g_istore_n hC dX3_takeStage_29 rfl (by decide) rfl ?_
    refine g_sub [1, 0] rfl ?_
    exact gL_X3_takeStage_30 hC hR hL  KF 0 X3
  · refine g_aload_n (q := 0) hC dX3_takeStage_7 rfl rfl rfl ?_
    refine g_getS (k := 0) hC cf_X3 (at_37 hL) (by decide) rfl (by decide) (by decide) wf_RX3_28 dX3_takeStage_8 ?_
    refine g_iconst (v := vI 5) hC dX3_takeStage_11 rfl ?_
    refine g_callVI (As := [vI 5]) hC mv_X8_fail wml_RX3_121 (k_X8_fail _ V hL 5 X) cf_X8 (at_35 hL) (by decide) ⟨Nat.zero_le _, Nat.zero_le _⟩ rfl rfl ⟨Nat.le_of_ble_eq_true rfl, Nat.le_of_ble_eq_true rfl⟩ (Nat.le_of_ble_eq_true rfl) dX3_takeStage_12 (fun r20 X21 => ?_)
    exact g_zret hC hR dX3_takeStage_15
def f_X3_takeBoat  (X : Mem) : Option (Int × Mem) :=
  c1 (X 37 4) <| if (X 37 4) = 0 then
    cz 1 <| bd (ms X 37 4 1) fun X1 =>
    cl (f_X8_advance X1) fun _ X3 =>
    cl (f_X8_takePair 13 1 20 X3) fun r4 X5 =>
    c1 r4 <| if ¬ r4 = 0 then
      cm RIV (X5 37 1) <|
      bd (ms X5 (X5 37 1) 3 (X5 35 8)) fun X7 =>
      cm RIV (X7 37 1) <|
      c2 9 ((X7 (X7 37 1) 3) - 1) <|
      cl (f_X8_takePair 14 0 (min 9 ((X7 (X7 37 1) 3) - 1)) X7) fun r9 X10 =>
      c1 r9 <| if ¬ r9 = 0 then
        cm RIV (X10 37 1) <|
        bd (ms X10 (X10 37 1) 4 (X10 35 8)) fun X12 =>
        cl (f_X8_takePair 15 1 99 X12) fun r13 X14 =>
        c1 r13 <| if ¬ r13 = 0 then
          cm RIV (X14 37 1) <|
          bd (ms X14 (X14 37 1) 5 (X14 35 8)) fun X16 =>
          cl (f_X8_takePair 16 1 99 X16) fun r17 X18 =>
          c1 r17 <| if ¬ r17 = 0 then
            cm RIV (X18 37 1) <|
            bd (ms X18 (X18 37 1) 6 (X18 35 8)) fun X20 =>
            cl (f_X8_takePair 17 0 99 X20) fun r21 X22 =>
            c1 r21 <| if ¬ r21 = 0 then
              cm RIV (X22 37 1) <|
              bd (ms X22 (X22 37 1) 7 (X22 35 8)) fun X24 =>
              cl (f_X8_takePair 18 0 999 X24) fun r25 X26 =>
              c1 r25 <| if ¬ r25 = 0 then
                cm RIV (X26 37 1) <|
                bd (ms X26 (X26 37 1) 8 (X26 35 8)) fun X28 =>
                cl (f_X8_takeSign X28) fun r29 X30 =>
                cz r29 (some (r29, X30))
              else
                some (0, X26)
            else
              some (0, X22)
          else
            some (0, X18)
        else
          some (0, X14)
      else
        some (0, X10)
    else
      some (0, X5)
  else
    cl (f_X8_fail 5 X) fun r31 X32 =>
    cz r31 (some (r31, X32))
set_option maxRecDepth 20000 in
theorem k_X3_takeBoat (l : Launch) (V : Ev) {L : List Kd} (hL : LKc L)  (X : Mem)  : Kt l V L yX3_takeBoat (.code yX3_takeBoat cX3_takeBoat 1 (some .boolean)) 8 227 [vR V.1 37] rI X (f_X3_takeBoat  X) := by
  refine kt_of (own := RX3) (lv0 := [(0, vR V.1 37)]) (by decide) rfl (Nat.le_of_ble_eq_true rfl) rfl (fun C hCl hC hR => ?_)
  subst hCl
  unfold f_X3_takeBoat
  refine g_aload_n (q := 0) hC dX3_takeBoat_0 rfl rfl rfl ?_
  refine g_getI (k := 4) (kz := 4) hC cf_X3 (at_37 hL) (by decide) rfl (by decide) rfl wf_RX3_19 dX3_takeBoat_1 ?_
  refine g_if_eq (tgt := 16) hC dX3_takeBoat_4 (by decide) ?_ ?_
  · refine g_aload_n (q := 0) hC dX3_takeBoat_16 rfl rfl rfl ?_
    refine g_iconst (v := vI 1) hC dX3_takeBoat_17 rfl ?_
    refine g_putZ (k := 4) (kz := 4) hC cf_X3 (at_37 hL) (by decide) rfl (by decide) rfl wf_RX3_19 rfl rfl dX3_takeBoat_18 (fun X1 => ?_)
    refine g_aload_n (q := 0) hC dX3_takeBoat_21 rfl rfl rfl ?_
    refine g_getS (k := 0) hC cf_X3 (at_37 hL) (by decide) rfl (by decide) (by decide) wf_RX3_28 dX3_takeBoat_22 ?_
    refine g_callVV (As := []) hC mv_X8_advance wml_RX3_125 (k_X8_advance _ V hL X1) cf_X8 (at_35 hL) (by decide) ⟨Nat.zero_le _, Nat.zero_le _⟩ rfl rfl ⟨Nat.le_of_ble_eq_true rfl, Nat.le_of_ble_eq_true rfl⟩ (Nat.le_of_ble_eq_true rfl) dX3_takeBoat_25 (fun _ X3 => ?_)
    refine g_aload_n (q := 0) hC dX3_takeBoat_28 rfl rfl rfl ?_
    refine g_getS (k := 0) hC cf_X3 (at_37 hL) (by decide) rfl (by decide) (by decide) wf_RX3_28 dX3_takeBoat_29 ?_
    refine g_ldcS (i := 13) hC (by decide) rfl dX3_takeBoat_32 ?_
    refine g_iconst (v := vI 1) hC dX3_takeBoat_34 rfl ?_
    refine g_bipush (v := vI 20) hC dX3_takeBoat_35 rfl ?_
    refine g_callVI (As := [vS V 13, vI 1, vI 20]) hC mv_X8_takePair wml_RX3_59 (k_X8_takePair _ V hL 13 1 20 X3 (by decide)) cf_X8 (at_35 hL) (by decide) ⟨Nat.zero_le _, Nat.zero_le _⟩ rfl rfl ⟨Nat.le_of_ble_eq_true rfl, Nat.le_of_ble_eq_true rfl⟩ (Nat.le_of_ble_eq_true rfl) dX3_takeBoat_37 (fun r4 X5 => ?_)
    refine g_if_ne (tgt := 45) hC dX3_takeBoat_40 (by decide) ?_ ?_
    · refine g_aload_n (q := 0) hC dX3_takeBoat_45 rfl rfl rfl ?_
      refine g_getD (k := 1) (kz := 1) hC cf_X3 (at_37 hL) (by decide) rfl (by decide) rfl wf_RX3_32 dX3_takeBoat_46 (g_cm (l := RIV) fun m6 => ?_)
      refine g_aload_n (q := 0) hC dX3_takeBoat_49 rfl rfl rfl ?_
      refine g_getS (k := 0) hC cf_X3 (at_37 hL) (by decide) rfl (by decide) (by decide) wf_RX3_28 dX3_takeBoat_50 ?_
      refine g_getI (k := 8) (kz := 8) hC cf_X8 (at_35 hL) (by decide) rfl (by decide) rfl wf_RX3_63 dX3_takeBoat_53 ?_
      refine g_putI (k := 3) (kz := 3) hC cf_X2 (rv_0 (riv_of hL m6)) (by decide) rfl (by decide) rfl wf_RX3_192 rfl rfl dX3_takeBoat_56 (fun X7 => ?_)
      refine g_aload_n (q := 0) hC dX3_takeBoat_59 rfl rfl rfl ?_
      refine g_getS (k := 0) hC cf_X3 (at_37 hL) (by decide) rfl (by decide) (by decide) wf_RX3_28 dX3_takeBoat_60 ?_
      refine g_ldcS (i := 14) hC (by decide) rfl dX3_takeBoat_63 ?_
      refine g_iconst (v := vI 0) hC dX3_takeBoat_65 rfl ?_
      refine g_bipush (v := vI 9) hC dX3_takeBoat_66 rfl ?_
      refine g_aload_n (q := 0) hC dX3_takeBoat_68 rfl rfl rfl ?_
      refine g_getD (k := 1) (kz := 1) hC cf_X3 (at_37 hL) (by decide) rfl (by decide) rfl wf_RX3_32 dX3_takeBoat_69 (g_cm (l := RIV) fun m8 => ?_)
      refine g_getI (k := 3) (kz := 3) hC cf_X2 (rv_0 (riv_of hL m8)) (by decide) rfl (by decide) rfl wf_RX3_192 dX3_takeBoat_72 ?_
      refine g_iconst (v := vI 1) hC dX3_takeBoat_75 rfl ?_
      refine g_isub hC dX3_takeBoat_76 ?_
      refine g_mmin hC wml_RX3_196 (Nat.le_of_ble_eq_true rfl) (Nat.le_of_ble_eq_true rfl) ⟨Nat.zero_le _, Nat.zero_le _⟩ dX3_takeBoat_77 ?_
      refine g_callVI (As := [vS V 14, vI 0, vI (min 9 ((X7 (X7 37 1) 3) - 1))]) hC mv_X8_takePair wml_RX3_59 (k_X8_takePair _ V hL 14 0 (min 9 ((X7 (X7 37 1) 3) - 1)) X7 (by decide)) cf_X8 (at_35 hL) (by decide) ⟨Nat.zero_le _, Nat.zero_le _⟩ rfl rfl ⟨Nat.le_of_ble_eq_true rfl, Nat.le_of_ble_eq_true rfl⟩ (Nat.le_of_ble_eq_true rfl) dX3_takeBoat_80 (fun r9 X10 => ?_)
      refine g_if_ne (tgt := 88) hC dX3_takeBoat_83 (by decide) ?_ ?_
      · refine g_aload_n (q := 0) hC dX3_takeBoat_88 rfl rfl rfl ?_
        refine g_getD (k := 1) (kz := 1) hC cf_X3 (at_37 hL) (by decide) rfl (by decide) rfl wf_RX3_32 dX3_takeBoat_89 (g_cm (l := RIV) fun m11 => ?_)
        refine g_aload_n (q := 0) hC dX3_takeBoat_92 rfl rfl rfl ?_
        refine g_getS (k := 0) hC cf_X3 (at_37 hL) (by decide) rfl (by decide) (by decide) wf_RX3_28 dX3_takeBoat_93 ?_
        refine g_getI (k := 8) (kz := 8) hC cf_X8 (at_35 hL) (by decide) rfl (by decide) rfl wf_RX3_63 dX3_takeBoat_96 ?_
        refine g_putI (k := 4) (kz := 4) hC cf_X2 (rv_0 (riv_of hL m11)) (by decide) rfl (by decide) rfl wf_RX3_202 rfl rfl dX3_takeBoat_99 (fun X12 => ?_)
        refine g_aload_n (q := 0) hC dX3_takeBoat_102 rfl rfl rfl ?_
        refine g_getS (k := 0) hC cf_X3 (at_37 hL) (by decide) rfl (by decide) (by decide) wf_RX3_28 dX3_takeBoat_103 ?_
        refine g_ldcS (i := 15) hC (by decide) rfl dX3_takeBoat_106 ?_
        refine g_iconst (v := vI 1) hC dX3_takeBoat_108 rfl ?_
        refine g_bipush (v := vI 99) hC dX3_takeBoat_109 rfl ?_
        refine g_callVI (As := [vS V 15, vI 1, vI 99]) hC mv_X8_takePair wml_RX3_59 (k_X8_takePair _ V hL 15 1 99 X12 (by decide)) cf_X8 (at_35 hL) (by decide) ⟨Nat.zero_le _, Nat.zero_le _⟩ rfl rfl ⟨Nat.le_of_ble_eq_true rfl, Nat.le_of_ble_eq_true rfl⟩ (Nat.le_of_ble_eq_true rfl) dX3_takeBoat_111 (fun r13 X14 => ?_)
        refine g_if_ne (tgt := 119) hC dX3_takeBoat_114 (by decide) ?_ ?_
        · refine g_aload_n (q := 0) hC dX3_takeBoat_119 rfl rfl rfl ?_
          refine g_getD (k := 1) (kz := 1) hC cf_X3 (at_37 hL) (by decide) rfl (by decide) rfl wf_RX3_32 dX3_takeBoat_120 (g_cm (l := RIV) fun m15 => ?_)
          refine g_aload_n (q := 0) hC dX3_takeBoat_123 rfl rfl rfl ?_
          refine g_getS (k := 0) hC cf_X3 (at_37 hL) (by decide) rfl (by decide) (by decide) wf_RX3_28 dX3_takeBoat_124 ?_
          refine g_getI (k := 8) (kz := 8) hC cf_X8 (at_35 hL) (by decide) rfl (by decide) rfl wf_RX3_63 dX3_takeBoat_127 ?_
          refine g_putI (k := 5) (kz := 5) hC cf_X2 (rv_0 (riv_of hL m15)) (by decide) rfl (by decide) rfl wf_RX3_206 rfl rfl dX3_takeBoat_130 (fun X16 => ?_)
          refine g_aload_n (q := 0) hC dX3_takeBoat_133 rfl rfl rfl ?_
          refine g_getS (k := 0) hC cf_X3 (at_37 hL) (by decide) rfl (by decide) (by decide) wf_RX3_28 dX3_takeBoat_134 ?_
          refine g_ldcS (i := 16) hC (by decide) rfl dX3_takeBoat_137 ?_
          refine g_iconst (v := vI 1) hC dX3_takeBoat_139 rfl ?_
          refine g_bipush (v := vI 99) hC dX3_takeBoat_140 rfl ?_
          refine g_callVI (As := [vS V 16, vI 1, vI 99]) hC mv_X8_takePair wml_RX3_59 (k_X8_takePair _ V hL 16 1 99 X16 (by decide)) cf_X8 (at_35 hL) (by decide) ⟨Nat.zero_le _, Nat.zero_le _⟩ rfl rfl ⟨Nat.le_of_ble_eq_true rfl, Nat.le_of_ble_eq_true rfl⟩ (Nat.le_of_ble_eq_true rfl) dX3_takeBoat_142 (fun r17 X18 => ?_)
          refine g_if_ne (tgt := 150) hC dX3_takeBoat_145 (by decide) ?_ ?_
          · refine g_aload_n (q := 0) hC dX3_takeBoat_150 rfl rfl rfl ?_
            refine g_getD (k := 1) (kz := 1) hC cf_X3 (at_37 hL) (by decide) rfl (by decide) rfl wf_RX3_32 dX3_takeBoat_151 (g_cm (l := RIV) fun m19 => ?_)
            refine g_aload_n (q := 0) hC dX3_takeBoat_154 rfl rfl rfl ?_
            refine g_getS (k := 0) hC cf_X3 (at_37 hL) (by decide) rfl (by decide) (by decide) wf_RX3_28 dX3_takeBoat_155 ?_
            refine g_getI (k := 8) (kz := 8) hC cf_X8 (at_35 hL) (by decide) rfl (by decide) rfl wf_RX3_63 dX3_takeBoat_158 ?_
            refine g_putI (k := 6) (kz := 6) hC cf_X2 (rv_0 (riv_of hL m19)) (by decide) rfl (by decide) rfl wf_RX3_210 rfl rfl dX3_takeBoat_161 (fun X20 => ?_)
            refine g_aload_n (q := 0) hC dX3_takeBoat_164 rfl rfl rfl ?_
            refine g_getS (k := 0) hC cf_X3 (at_37 hL) (by decide) rfl (by decide) (by decide) wf_RX3_28 dX3_takeBoat_165 ?_
            refine g_ldcS (i := 17) hC (by decide) rfl dX3_takeBoat_168 ?_
            refine g_iconst (v := vI 0) hC dX3_takeBoat_170 rfl ?_
            refine g_bipush (v := vI 99) hC dX3_takeBoat_171 rfl ?_
            refine g_callVI (As := [vS V 17, vI 0, vI 99]) hC mv_X8_takePair wml_RX3_59 (k_X8_takePair _ V hL 17 0 99 X20 (by decide)) cf_X8 (at_35 hL) (by decide) ⟨Nat.zero_le _, Nat.zero_le _⟩ rfl rfl ⟨Nat.le_of_ble_eq_true rfl, Nat.le_of_ble_eq_true rfl⟩ (Nat.le_of_ble_eq_true rfl) dX3_takeBoat_173 (fun r21 X22 => ?_)
            refine g_if_ne (tgt := 181) hC dX3_takeBoat_176 (by decide) ?_ ?_
            · refine g_aload_n (q := 0) hC dX3_takeBoat_181 rfl rfl rfl ?_
              refine g_getD (k := 1) (kz := 1) hC cf_X3 (at_37 hL) (by decide) rfl (by decide) rfl wf_RX3_32 dX3_takeBoat_182 (g_cm (l := RIV) fun m23 => ?_)
              refine g_aload_n (q := 0) hC dX3_takeBoat_185 rfl rfl rfl ?_
              refine g_getS (k := 0) hC cf_X3 (at_37 hL) (by decide) rfl (by decide) (by decide) wf_RX3_28 dX3_takeBoat_186 ?_
              refine g_getI (k := 8) (kz := 8) hC cf_X8 (at_35 hL) (by decide) rfl (by decide) rfl wf_RX3_63 dX3_takeBoat_189 ?_
              refine g_putI (k := 7) (kz := 7) hC cf_X2 (rv_0 (riv_of hL m23)) (by decide) rfl (by decide) rfl wf_RX3_214 rfl rfl dX3_takeBoat_192 (fun X24 => ?_)
              refine g_aload_n (q := 0) hC dX3_takeBoat_195 rfl rfl rfl ?_
              refine g_getS (k := 0) hC cf_X3 (at_37 hL) (by decide) rfl (by decide) (by decide) wf_RX3_28 dX3_takeBoat_196 ?_
              refine g_ldcS (i := 18) hC (by decide) rfl dX3_takeBoat_199 ?_
              refine g_iconst (v := vI 0) hC dX3_takeBoat_201 rfl ?_
              refine g_sipush (v := vI 999) hC dX3_takeBoat_202 rfl ?_
              refine g_callVI (As := [vS V 18, vI 0, vI 999]) hC mv_X8_takePair wml_RX3_59 (k_X8_takePair _ V hL 18 0 999 X24 (by decide)) cf_X8 (at_35 hL) (by decide) ⟨Nat.zero_le _, Nat.zero_le _⟩ rfl rfl ⟨Nat.le_of_ble_eq_true rfl, Nat.le_of_ble_eq_true rfl⟩ (Nat.le_of_ble_eq_true rfl) dX3_takeBoat_205 (fun r25 X26 => ?_)
              refine g_if_ne (tgt := 213) hC dX3_takeBoat_208 (by decide) ?_ ?_
              · refine g_aload_n (q := 0) hC dX3_takeBoat_213 rfl rfl rfl ?_
                refine g_getD (k := 1) (kz := 1) hC cf_X3 (at_37 hL) (by decide) rfl (by decide) rfl wf_RX3_32 dX3_takeBoat_214 (g_cm (l := RIV) fun m27 => ?_)
                refine g_aload_n (q := 0) hC dX3_takeBoat_217 rfl rfl rfl ?_
                refine g_getS (k := 0) hC cf_X3 (at_37 hL) (by decide) rfl (by decide) (by decide) wf_RX3_28 dX3_takeBoat_218 ?_
                refine g_getI (k := 8) (kz := 8) hC cf_X8 (at_35 hL) (by decide) rfl (by decide) rfl wf_RX3_63 dX3_takeBoat_221 ?_
                refine g_putI (k := 8) (kz := 8) hC cf_X2 (rv_0 (riv_of hL m27)) (by decide) rfl (by decide) rfl wf_RX3_218 rfl rfl dX3_takeBoat_224 (fun X28 => ?_)
                refine g_aload_n (q := 0) hC dX3_takeBoat_227 rfl rfl rfl ?_
                refine g_getS (k := 0) hC cf_X3 (at_37 hL) (by decide) rfl (by decide) (by decide) wf_RX3_28 dX3_takeBoat_228 ?_
                refine g_callVI (As := []) hC mv_X8_takeSign wml_RX3_76 (k_X8_takeSign _ V hL X28) cf_X8 (at_35 hL) (by decide) ⟨Nat.zero_le _, Nat.zero_le _⟩ rfl rfl ⟨Nat.le_of_ble_eq_true rfl, Nat.le_of_ble_eq_true rfl⟩ (Nat.le_of_ble_eq_true rfl) dX3_takeBoat_231 (fun r29 X30 => ?_)
                exact g_zret hC hR dX3_takeBoat_234
              · refine g_iconst (v := vI 0) hC dX3_takeBoat_211 rfl ?_
                exact g_zret1 hC hR (by decide) dX3_takeBoat_212
            · refine g_iconst (v := vI 0) hC dX3_takeBoat_179 rfl ?_
              exact g_zret1 hC hR (by decide) dX3_takeBoat_180
          · refine g_iconst (v := vI 0) hC dX3_takeBoat_148 rfl ?_
            exact g_zret1 hC hR (by decide) dX3_takeBoat_149
        · refine g_iconst (v := vI 0) hC dX3_takeBoat_117 rfl ?_
          exact g_zret1 hC hR (by decide) dX3_takeBoat_118
      · refine g_iconst (v := vI 0) hC dX3_takeBoat_86 rfl ?_
        exact g_zret1 hC hR (by decide) dX3_takeBoat_87
    · refine g_iconst (v := vI 0) hC dX3_takeBoat_43 rfl ?_
      exact g_zret1 hC hR (by decide) dX3_takeBoat_44
  · refine g_aload_n (q := 0) hC dX3_takeBoat_7 rfl rfl rfl ?_
    refine g_getS (k := 0) hC cf_X3 (at_37 hL) (by decide) rfl (by decide) (by decide) wf_RX3_28 dX3_takeBoat_8 ?_
    refine g_iconst (v := vI 5) hC dX3_takeBoat_11 rfl ?_
    refine g_callVI (As := [vI 5]) hC mv_X8_fail wml_RX3_121 (k_X8_fail _ V hL 5 X) cf_X8 (at_35 hL) (by decide) ⟨Nat.zero_le _, Nat.zero_le _⟩ rfl rfl ⟨Nat.le_of_ble_eq_true rfl, Nat.le_of_ble_eq_true rfl⟩ (Nat.le_of_ble_eq_true rfl) dX3_takeBoat_12 (fun r31 X32 => ?_)
    exact g_zret hC hR dX3_takeBoat_15
def f_X3_takePole  (X : Mem) : Option (Int × Mem) :=
  c1 (X 37 5) <| if (X 37 5) = 0 then
    cz 1 <| bd (ms X 37 5 1) fun X1 =>
    cl (f_X8_takePair 19 0 16 X1) fun r2 X3 =>
    c1 r2 <| if ¬ r2 = 0 then
      cm RIV (X3 37 1) <|
      bd (ms X3 (X3 37 1) 9 (X3 35 8)) fun X5 =>
      cl (f_X8_takeSign X5) fun r6 X7 =>
      cz r6 (some (r6, X7))
    else
      some (0, X3)
  else
    cl (f_X8_fail 5 X) fun r8 X9 =>
    cz r8 (some (r8, X9))
set_option maxRecDepth 20000 in
theorem k_X3_takePole (l : Launch) (V : Ev) {L : List Kd} (hL : LKc L)  (X : Mem)  : Kt l V L yX3_takePole (.code yX3_takePole cX3_takePole 1 (some .boolean)) 8 227 [vR V.1 37] rI X (f_X3_takePole  X) := by
  refine kt_of (own := RX3) (lv0 := [(0, vR V.1 37)]) (by decide) rfl (Nat.le_of_ble_eq_true rfl) rfl (fun C hCl hC hR => ?_)
  subst hCl
  unfold f_X3_takePole
  refine g_aload_n (q := 0) hC dX3_takePole_0 rfl rfl rfl ?_
  refine g_getI (k := 5) (kz := 5) hC cf_X3 (at_37 hL) (by decide) rfl (by decide) rfl wf_RX3_22 dX3_takePole_1 ?_
  refine g_if_eq (tgt := 16) hC dX3_takePole_4 (by decide) ?_ ?_
  · refine g_aload_n (q := 0) hC dX3_takePole_16 rfl rfl rfl ?_
    refine g_iconst (v := vI 1) hC dX3_takePole_17 rfl ?_
    refine g_putZ (k := 5) (kz := 5) hC cf_X3 (at_37 hL) (by decide) rfl (by decide) rfl wf_RX3_22 rfl rfl dX3_takePole_18 (fun X1 => ?_)
    refine g_aload_n (q := 0) hC dX3_takePole_21 rfl rfl rfl ?_
    refine g_getS (k := 0) hC cf_X3 (at_37 hL) (by decide) rfl (by decide) (by decide) wf_RX3_28 dX3_takePole_22 ?_
    refine g_ldcS (i := 19) hC (by decide) rfl dX3_takePole_25 ?_
    refine g_iconst (v := vI 0) hC dX3_takePole_27 rfl ?_
    refine g_bipush (v := vI 16) hC dX3_takePole_28 rfl ?_
    refine g_callVI (As := [vS V 19, vI 0, vI 16]) hC mv_X8_takePair wml_RX3_59 (k_X8_takePair _ V hL 19 0 16 X1 (by decide)) cf_X8 (at_35 hL) (by decide) ⟨Nat.zero_le _, Nat.zero_le _⟩ rfl rfl ⟨Nat.le_of_ble_eq_true rfl, Nat.le_of_ble_eq_true rfl⟩ (Nat.le_of_ble_eq_true rfl) dX3_takePole_30 (fun r2 X3 => ?_)
    refine g_if_ne (tgt := 38) hC dX3_takePole_33 (by decide) ?_ ?_
    · refine g_aload_n (q := 0) hC dX3_takePole_38 rfl rfl rfl ?_
      refine g_getD (k := 1) (kz := 1) hC cf_X3 (at_37 hL) (by decide) rfl (by decide) rfl wf_RX3_32 dX3_takePole_39 (g_cm (l := RIV) fun m4 => ?_)
      refine g_aload_n (q := 0) hC dX3_takePole_42 rfl rfl rfl ?_
      refine g_getS (k := 0) hC cf_X3 (at_37 hL) (by decide) rfl (by decide) (by decide) wf_RX3_28 dX3_takePole_43 ?_
      refine g_getI (k := 8) (kz := 8) hC cf_X8 (at_35 hL) (by decide) rfl (by decide) rfl wf_RX3_63 dX3_takePole_46 ?_
      refine g_putI (k := 9) (kz := 9) hC cf_X2 (rv_0 (riv_of hL m4)) (by decide) rfl (by decide) rfl wf_RX3_220 rfl rfl dX3_takePole_49 (fun X5 => ?_)
      refine g_aload_n (q := 0) hC dX3_takePole_52 rfl rfl rfl ?_
      refine g_getS (k := 0) hC cf_X3 (at_37 hL) (by decide) rfl (by decide) (by decide) wf_RX3_28 dX3_takePole_53 ?_
      refine g_callVI (As := []) hC mv_X8_takeSign wml_RX3_76 (k_X8_takeSign _ V hL X5) cf_X8 (at_35 hL) (by decide) ⟨Nat.zero_le _, Nat.zero_le _⟩ rfl rfl ⟨Nat.le_of_ble_eq_true rfl, Nat.le_of_ble_eq_true rfl⟩ (Nat.le_of_ble_eq_true rfl) dX3_takePole_56 (fun r6 X7 => ?_)
      exact g_zret hC hR dX3_takePole_59
    · refine g_iconst (v := vI 0) hC dX3_takePole_36 rfl ?_
      exact g_zret1 hC hR (by decide) dX3_takePole_37
  · refine g_aload_n (q := 0) hC dX3_takePole_7 rfl rfl rfl ?_
    refine g_getS (k := 0) hC cf_X3 (at_37 hL) (by decide) rfl (by decide) (by decide) wf_RX3_28 dX3_takePole_8 ?_
    refine g_iconst (v := vI 5) hC dX3_takePole_11 rfl ?_
    refine g_callVI (As := [vI 5]) hC mv_X8_fail wml_RX3_121 (k_X8_fail _ V hL 5 X) cf_X8 (at_35 hL) (by decide) ⟨Nat.zero_le _, Nat.zero_le _⟩ rfl rfl ⟨Nat.le_of_ble_eq_true rfl, Nat.le_of_ble_eq_true rfl⟩ (Nat.le_of_ble_eq_true rfl) dX3_takePole_12 (fun r8 X9 => ?_)
    exact g_zret hC hR dX3_takePole_15
def f_X3_takeColour  (X : Mem) : Option (Int × Mem) :=
  c1 (X 37 6) <| if (X 37 6) = 0 then
    cz 1 <| bd (ms X 37 6 1) fun X1 =>
    cl (f_X8_takePair 20 0 16 X1) fun r2 X3 =>
    c1 r2 <| if ¬ r2 = 0 then
      cm RIV (X3 37 1) <|
      bd (ms X3 (X3 37 1) 10 (X3 35 8)) fun X5 =>
      cl (f_X8_takeSign X5) fun r6 X7 =>
      cz r6 (some (r6, X7))
    else
      some (0, X3)
  else
    cl (f_X8_fail 5 X) fun r8 X9 =>
    cz r8 (some (r8, X9))
set_option maxRecDepth 20000 in
theorem k_X3_takeColour (l : Launch) (V : Ev) {L : List Kd} (hL : LKc L)  (X : Mem)  : Kt l V L yX3_takeColour (.code yX3_takeColour cX3_takeColour 1 (some .boolean)) 8 227 [vR V.1 37] rI X (f_X3_takeColour  X) := by
  refine kt_of (own := RX3) (lv0 := [(0, vR V.1 37)]) (by decide) rfl (Nat.le_of_ble_eq_true rfl) rfl (fun C hCl hC hR => ?_)
  subst hCl
  unfold f_X3_takeColour
  refine g_aload_n (q := 0) hC dX3_takeColour_0 rfl rfl rfl ?_
  refine g_getI (k := 6) (kz := 6) hC cf_X3 (at_37 hL) (by decide) rfl (by decide) rfl wf_RX3_25 dX3_takeColour_1 ?_
  refine g_if_eq (tgt := 16) hC dX3_takeColour_4 (by decide) ?_ ?_
  · refine g_aload_n (q := 0) hC dX3_takeColour_16 rfl rfl rfl ?_
    refine g_iconst (v := vI 1) hC dX3_takeColour_17 rfl ?_
    refine g_putZ (k := 6) (kz := 6) hC cf_X3 (at_37 hL) (by decide) rfl (by decide) rfl wf_RX3_25 rfl rfl dX3_takeColour_18 (fun X1 => ?_)
    refine g_aload_n (q := 0) hC dX3_takeColour_21 rfl rfl rfl ?_
    refine g_getS (k := 0) hC cf_X3 (at_37 hL) (by decide) rfl (by decide) (by decide) wf_RX3_28 dX3_takeColour_22 ?_
    refine g_ldcS (i := 20) hC (by decide) rfl dX3_takeColour_25 ?_
    refine g_iconst (v := vI 0) hC dX3_takeColour_27 rfl ?_
    refine g_bipush (v := vI 16) hC dX3_takeColour_28 rfl ?_
    refine g_callVI (As := [vS V 20, vI 0, vI 16]) hC mv_X8_takePair wml_RX3_59 (k_X8_takePair _ V hL 20 0 16 X1 (by decide)) cf_X8 (at_35 hL) (by decide) ⟨Nat.zero_le _, Nat.zero_le _⟩ rfl rfl ⟨Nat.le_of_ble_eq_true rfl, Nat.le_of_ble_eq_true rfl⟩ (Nat.le_of_ble_eq_true rfl) dX3_takeColour_30 (fun r2 X3 => ?_)
    refine g_if_ne (tgt := 38) hC dX3_takeColour_33 (by decide) ?_ ?_
    · refine g_aload_n (q := 0) hC dX3_takeColour_38 rfl rfl rfl ?_
      refine g_getD (k := 1) (kz := 1) hC cf_X3 (at_37 hL) (by decide) rfl (by decide) rfl wf_RX3_32 dX3_takeColour_39 (g_cm (l := RIV) fun m4 => ?_)
      refine g_aload_n (q := 0) hC dX3_takeColour_42 rfl rfl rfl ?_
      refine g_getS (k := 0) hC cf_X3 (at_37 hL) (by decide) rfl (by decide) (by decide) wf_RX3_28 dX3_takeColour_43 ?_
      refine g_getI (k := 8) (kz := 8) hC cf_X8 (at_35 hL) (by decide) rfl (by decide) rfl wf_RX3_63 dX3_takeColour_46 ?_
      refine g_putI (k := 10) (kz := 10) hC cf_X2 (rv_0 (riv_of hL m4)) (by decide) rfl (by decide) rfl wf_RX3_222 rfl rfl dX3_takeColour_49 (fun X5 => ?_)
      refine g_aload_n (q := 0) hC dX3_takeColour_52 rfl rfl rfl ?_
      refine g_getS (k := 0) hC cf_X3 (at_37 hL) (by decide) rfl (by decide) (by decide) wf_RX3_28 dX3_takeColour_53 ?_
      refine g_callVI (As := []) hC mv_X8_takeSign wml_RX3_76 (k_X8_takeSign _ V hL X5) cf_X8 (at_35 hL) (by decide) ⟨Nat.zero_le _, Nat.zero_le _⟩ rfl rfl ⟨Nat.le_of_ble_eq_true rfl, Nat.le_of_ble_eq_true rfl⟩ (Nat.le_of_ble_eq_true rfl) dX3_takeColour_56 (fun r6 X7 => ?_)
      exact g_zret hC hR dX3_takeColour_59
    · refine g_iconst (v := vI 0) hC dX3_takeColour_36 rfl ?_
      exact g_zret1 hC hR (by decide) dX3_takeColour_37
  · refine g_aload_n (q := 0) hC dX3_takeColour_7 rfl rfl rfl ?_
    refine g_getS (k := 0) hC cf_X3 (at_37 hL) (by decide) rfl (by decide) (by decide) wf_RX3_28 dX3_takeColour_8 ?_
    refine g_iconst (v := vI 5) hC dX3_takeColour_11 rfl ?_
    refine g_callVI (As := [vI 5]) hC mv_X8_fail wml_RX3_121 (k_X8_fail _ V hL 5 X) cf_X8 (at_35 hL) (by decide) ⟨Nat.zero_le _, Nat.zero_le _⟩ rfl rfl ⟨Nat.le_of_ble_eq_true rfl, Nat.le_of_ble_eq_true rfl⟩ (Nat.le_of_ble_eq_true rfl) dX3_takeColour_12 (fun r8 X9 => ?_)
    exact g_zret hC hR dX3_takeColour_15
def f_X3_takePart  (X : Mem) : Option (Int × Mem) :=
  cl (f_X8_is 1 X) fun r1 X2 =>
  c1 r1 <| if r1 = 0 then
    cl (f_X8_is 2 X2) fun r3 X4 =>
    c1 r3 <| if r3 = 0 then
      cl (f_X8_is 8 X4) fun r5 X6 =>
      c1 r5 <| if r5 = 0 then
        cl (f_X8_is 10 X6) fun r7 X8 =>
        c1 r7 <| if r7 = 0 then
          cl (f_X8_is 12 X8) fun r9 X10 =>
          c1 r9 <| if r9 = 0 then
            cl (f_X8_is 19 X10) fun r11 X12 =>
            c1 r11 <| if r11 = 0 then
              cl (f_X8_is 20 X12) fun r13 X14 =>
              c1 r13 <| if r13 = 0 then
                cl (f_X8_failHere X14) fun r15 X16 =>
                cz r15 (some (r15, X16))
              else
                cl (f_X3_takeColour X14) fun r17 X18 =>
                cz r17 (some (r17, X18))
            else
              cl (f_X3_takePole X12) fun r19 X20 =>
              cz r19 (some (r19, X20))
          else
            cl (f_X3_takeBoat X10) fun r21 X22 =>
            cz r21 (some (r21, X22))
        else
          cl (f_X3_takeStage X8) fun r23 X24 =>
          cz r23 (some (r23, X24))
      else
        cl (f_X3_takeAt X6) fun r25 X26 =>
        cz r25 (some (r25, X26))
    else
      cl (f_X3_takeBar X4) fun r27 X28 =>
      cz r27 (some (r27, X28))
  else
    cl (f_X3_takeRow X2) fun r29 X30 =>
    cz r29 (some (r29, X30))
set_option maxRecDepth 20000 in
theorem k_X3_takePart (l : Launch) (V : Ev) {L : List Kd} (hL : LKc L)  (X : Mem)  : Kt l V L yX3_takePart (.code yX3_takePart cX3_takePart 1 (some .boolean)) 9 251 [vR V.1 37] rI X (f_X3_takePart  X) := by
  refine kt_of (own := RX3) (lv0 := [(0, vR V.1 37)]) (by decide) rfl (Nat.le_of_ble_eq_true rfl) rfl (fun C hCl hC hR => ?_)
  subst hCl
  unfold f_X3_takePart
  refine g_aload_n (q := 0) hC dX3_takePart_0 rfl rfl rfl ?_
  refine g_getS (k := 0) hC cf_X3 (at_37 hL) (by decide) rfl (by decide) (by decide) wf_RX3_28 dX3_takePart_1 ?_
  refine g_ldcS (i := 1) hC (by decide) rfl dX3_takePart_4 ?_
  refine g_callVI (As := [vS V 1]) hC mv_X8_is wml_RX3_81 (k_X8_is _ V hL 1 X (by decide)) cf_X8 (at_35 hL) (by decide) ⟨Nat.zero_le _, Nat.zero_le _⟩ rfl rfl ⟨Nat.le_of_ble_eq_true rfl, Nat.le_of_ble_eq_true rfl⟩ (Nat.le_of_ble_eq_true rfl) dX3_takePart_6 (fun r1 X2 => ?_)
  refine g_if_eq (tgt := 17) hC dX3_takePart_9 (by decide) ?_ ?_
  · refine g_aload_n (q := 0) hC dX3_takePart_17 rfl rfl rfl ?_
    refine g_getS (k := 0) hC cf_X3 (at_37 hL) (by decide) rfl (by decide) (by decide) wf_RX3_28 dX3_takePart_18 ?_
    refine g_ldcS (i := 2) hC (by decide) rfl dX3_takePart_21 ?_
    refine g_callVI (As := [vS V 2]) hC mv_X8_is wml_RX3_81 (k_X8_is _ V hL 2 X2 (by decide)) cf_X8 (at_35 hL) (by decide) ⟨Nat.zero_le _, Nat.zero_le _⟩ rfl rfl ⟨Nat.le_of_ble_eq_true rfl, Nat.le_of_ble_eq_true rfl⟩ (Nat.le_of_ble_eq_true rfl) dX3_takePart_23 (fun r3 X4 => ?_)
    refine g_if_eq (tgt := 34) hC dX3_takePart_26 (by decide) ?_ ?_
    · refine g_aload_n (q := 0) hC dX3_takePart_34 rfl rfl rfl ?_
      refine g_getS (k := 0) hC cf_X3 (at_37 hL) (by decide) rfl (by decide) (by decide) wf_RX3_28 dX3_takePart_35 ?_
      refine g_ldcS (i := 8) hC (by decide) rfl dX3_takePart_38 ?_
      refine g_callVI (As := [vS V 8]) hC mv_X8_is wml_RX3_81 (k_X8_is _ V hL 8 X4 (by decide)) cf_X8 (at_35 hL) (by decide) ⟨Nat.zero_le _, Nat.zero_le _⟩ rfl rfl ⟨Nat.le_of_ble_eq_true rfl, Nat.le_of_ble_eq_true rfl⟩ (Nat.le_of_ble_eq_true rfl) dX3_takePart_40 (fun r5 X6 => ?_)
      refine g_if_eq (tgt := 51) hC dX3_takePart_43 (by decide) ?_ ?_
      · refine g_aload_n (q := 0) hC dX3_takePart_51 rfl rfl rfl ?_
        refine g_getS (k := 0) hC cf_X3 (at_37 hL) (by decide) rfl (by decide) (by decide) wf_RX3_28 dX3_takePart_52 ?_
        refine g_ldcS (i := 10) hC (by decide) rfl dX3_takePart_55 ?_
        refine g_callVI (As := [vS V 10]) hC mv_X8_is wml_RX3_81 (k_X8_is _ V hL 10 X6 (by decide)) cf_X8 (at_35 hL) (by decide) ⟨Nat.zero_le _, Nat.zero_le _⟩ rfl rfl ⟨Nat.le_of_ble_eq_true rfl, Nat.le_of_ble_eq_true rfl⟩ (Nat.le_of_ble_eq_true rfl) dX3_takePart_57 (fun r7 X8 => ?_)
        refine g_if_eq (tgt := 68) hC dX3_takePart_60 (by decide) ?_ ?_
        · refine g_aload_n (q := 0) hC dX3_takePart_68 rfl rfl rfl ?_
          refine g_getS (k := 0) hC cf_X3 (at_37 hL) (by decide) rfl (by decide) (by decide) wf_RX3_28 dX3_takePart_69 ?_
          refine g_ldcS (i := 12) hC (by decide) rfl dX3_takePart_72 ?_
          refine g_callVI (As := [vS V 12]) hC mv_X8_is wml_RX3_81 (k_X8_is _ V hL 12 X8 (by decide)) cf_X8 (at_35 hL) (by decide) ⟨Nat.zero_le _, Nat.zero_le _⟩ rfl rfl ⟨Nat.le_of_ble_eq_true rfl, Nat.le_of_ble_eq_true rfl⟩ (Nat.le_of_ble_eq_true rfl) dX3_takePart_74 (fun r9 X10 => ?_)
          refine g_if_eq (tgt := 85) hC dX3_takePart_77 (by decide) ?_ ?_
          · refine g_aload_n (q := 0) hC dX3_takePart_85 rfl rfl rfl ?_
            refine g_getS (k := 0) hC cf_X3 (at_37 hL) (by decide) rfl (by decide) (by decide) wf_RX3_28 dX3_takePart_86 ?_
            refine g_ldcS (i := 19) hC (by decide) rfl dX3_takePart_89 ?_
            refine g_callVI (As := [vS V 19]) hC mv_X8_is wml_RX3_81 (k_X8_is _ V hL 19 X10 (by decide)) cf_X8 (at_35 hL) (by decide) ⟨Nat.zero_le _, Nat.zero_le _⟩ rfl rfl ⟨Nat.le_of_ble_eq_true rfl, Nat.le_of_ble_eq_true rfl⟩ (Nat.le_of_ble_eq_true rfl) dX3_takePart_91 (fun r11 X12 => ?_)
            refine g_if_eq (tgt := 102) hC dX3_takePart_94 (by decide) ?_ ?_
            · refine g_aload_n (q := 0) hC dX3_takePart_102 rfl rfl rfl ?_
              refine g_getS (k := 0) hC cf_X3 (at_37 hL) (by decide) rfl (by decide) (by decide) wf_RX3_28 dX3_takePart_103 ?_
              refine g_ldcS (i := 20) hC (by decide) rfl dX3_takePart_106 ?_
              refine g_callVI (As := [vS V 20]) hC mv_X8_is wml_RX3_81 (k_X8_is _ V hL 20 X12 (by decide)) cf_X8 (at_35 hL) (by decide) ⟨Nat.zero_le _, Nat.zero_le _⟩ rfl rfl ⟨Nat.le_of_ble_eq_true rfl, Nat.le_of_ble_eq_true rfl⟩ (Nat.le_of_ble_eq_true rfl) dX3_takePart_108 (fun r13 X14 => ?_)
              refine g_if_eq (tgt := 121) hC dX3_takePart_111 (by decide) ?_ ?_
              · refine g_aload_n (q := 0) hC dX3_takePart_121 rfl rfl rfl ?_
                refine g_getS (k := 0) hC cf_X3 (at_37 hL) (by decide) rfl (by decide) (by decide) wf_RX3_28 dX3_takePart_122 ?_
                refine g_callVI (As := []) hC mv_X8_failHere wml_RX3_118 (k_X8_failHere _ V hL X14) cf_X8 (at_35 hL) (by decide) ⟨Nat.zero_le _, Nat.zero_le _⟩ rfl rfl ⟨Nat.le_of_ble_eq_true rfl, Nat.le_of_ble_eq_true rfl⟩ (Nat.le_of_ble_eq_true rfl) dX3_takePart_125 (fun r15 X16 => ?_)
                exact g_zret hC hR dX3_takePart_128
              · refine g_aload_n (q := 0) hC dX3_takePart_114 rfl rfl rfl ?_
                refine g_callVI (As := []) hC mv_X3_takeColour wml_RX3_115 (k_X3_takeColour _ V hL X14) cf_X3 (at_37 hL) (by decide) ⟨Nat.zero_le _, Nat.zero_le _⟩ rfl rfl ⟨Nat.le_of_ble_eq_true rfl, Nat.le_of_ble_eq_true rfl⟩ (Nat.le_of_ble_eq_true rfl) dX3_takePart_115 (fun r17 X18 => ?_)
                refine g_goto (tgt := 128) hC dX3_takePart_118 (by decide) ?_
                exact g_zret hC hR dX3_takePart_128
            · refine g_aload_n (q := 0) hC dX3_takePart_97 rfl rfl rfl ?_
              refine g_callVI (As := []) hC mv_X3_takePole wml_RX3_110 (k_X3_takePole _ V hL X12) cf_X3 (at_37 hL) (by decide) ⟨Nat.zero_le _, Nat.zero_le _⟩ rfl rfl ⟨Nat.le_of_ble_eq_true rfl, Nat.le_of_ble_eq_true rfl⟩ (Nat.le_of_ble_eq_true rfl) dX3_takePart_98 (fun r19 X20 => ?_)
              exact g_zret hC hR dX3_takePart_101
          · refine g_aload_n (q := 0) hC dX3_takePart_80 rfl rfl rfl ?_
            refine g_callVI (As := []) hC mv_X3_takeBoat wml_RX3_105 (k_X3_takeBoat _ V hL X10) cf_X3 (at_37 hL) (by decide) ⟨Nat.zero_le _, Nat.zero_le _⟩ rfl rfl ⟨Nat.le_of_ble_eq_true rfl, Nat.le_of_ble_eq_true rfl⟩ (Nat.le_of_ble_eq_true rfl) dX3_takePart_81 (fun r21 X22 => ?_)
            exact g_zret hC hR dX3_takePart_84
        · refine g_aload_n (q := 0) hC dX3_takePart_63 rfl rfl rfl ?_
          refine g_callVI (As := []) hC mv_X3_takeStage wml_RX3_100 (k_X3_takeStage _ V hL X8) cf_X3 (at_37 hL) (by decide) ⟨Nat.zero_le _, Nat.zero_le _⟩ rfl rfl ⟨Nat.le_of_ble_eq_true rfl, Nat.le_of_ble_eq_true rfl⟩ (Nat.le_of_ble_eq_true rfl) dX3_takePart_64 (fun r23 X24 => ?_)
          exact g_zret hC hR dX3_takePart_67
      · refine g_aload_n (q := 0) hC dX3_takePart_46 rfl rfl rfl ?_
        refine g_callVI (As := []) hC mv_X3_takeAt wml_RX3_95 (k_X3_takeAt _ V hL X6) cf_X3 (at_37 hL) (by decide) ⟨Nat.zero_le _, Nat.zero_le _⟩ rfl rfl ⟨Nat.le_of_ble_eq_true rfl, Nat.le_of_ble_eq_true rfl⟩ (Nat.le_of_ble_eq_true rfl) dX3_takePart_47 (fun r25 X26 => ?_)
        exact g_zret hC hR dX3_takePart_50
    · refine g_aload_n (q := 0) hC dX3_takePart_29 rfl rfl rfl ?_
      refine g_callVI (As := []) hC mv_X3_takeBar wml_RX3_90 (k_X3_takeBar _ V hL X4) cf_X3 (at_37 hL) (by decide) ⟨Nat.zero_le _, Nat.zero_le _⟩ rfl rfl ⟨Nat.le_of_ble_eq_true rfl, Nat.le_of_ble_eq_true rfl⟩ (Nat.le_of_ble_eq_true rfl) dX3_takePart_30 (fun r27 X28 => ?_)
      exact g_zret hC hR dX3_takePart_33
  · refine g_aload_n (q := 0) hC dX3_takePart_12 rfl rfl rfl ?_
    refine g_callVI (As := []) hC mv_X3_takeRow wml_RX3_85 (k_X3_takeRow _ V hL X2) cf_X3 (at_37 hL) (by decide) ⟨Nat.zero_le _, Nat.zero_le _⟩ rfl rfl ⟨Nat.le_of_ble_eq_true rfl, Nat.le_of_ble_eq_true rfl⟩ (Nat.le_of_ble_eq_true rfl) dX3_takePart_13 (fun r29 X30 => ?_)
    exact g_zret hC hR dX3_takePart_16
def L_X3_parse_56 : Nat → Int → Mem → Option (Int × Mem)
  | 0, _, _ => none
  | n + 1, x3, X =>
    c2 x3 900 <| if 900 ≤ x3 then
      some (1, X)
    else
      c1 (X 35 4) <| if (X 35 4) = 0 then
        some (1, X)
      else
        cl (f_X3_takePart X) fun r14 X15 =>
        c1 r14 <| if ¬ r14 = 0 then
          L_X3_parse_56   n (x3 + 1) X15
        else
          some (0, X15)
def f_X3_parse (p1 : Int) (p2 : Int) (X : Mem) : Option (Int × Mem) :=
  bd (ms X 37 1 p2) fun X1 =>
  cm RIV (X1 37 1) <|
  cl (f_X2_clear (X1 37 1) X1) fun _ X4 =>
  bd (ms X4 37 2 0) fun X5 =>
  cz 0 <| bd (ms X5 37 3 0) fun X6 =>
  cz 0 <| bd (ms X6 37 4 0) fun X7 =>
  cz 0 <| bd (ms X7 37 5 0) fun X8 =>
  cz 0 <| bd (ms X8 37 6 0) fun X9 =>
  cl (f_X8_start p1 X9) fun _ X11 =>
  cl (f_X3_takeSize X11) fun r12 X13 =>
  c1 r12 <| if ¬ r12 = 0 then
    L_X3_parse_56   KF 0 X13
  else
    some (0, X13)
set_option maxRecDepth 20000 in
theorem gL_X3_parse_56 {C : Cx} {V : Ev} {L : List Kd} (hC : Ok C V cX3_parse RX3 4 10 271) (hR : Rt C V L (some .boolean) rI) (hL : LKc L) : ∀ (n : Nat) (x3 : Int) (X : Mem), G C V L 0 0 4 56 [(0, vR V.1 37), (3, vI x3)] [] X (L_X3_parse_56   n x3 X) := by
  intro n
  induction n with
  | zero => intro x3 X; exact g_none
  | succ n ih =>
    intro x3 X
    rw [L_X3_parse_56]
    refine g_iload_n (q := 1) hC dX3_parse_56 rfl rfl ?_
    refine g_sipush (v := vI 900) hC dX3_parse_57 rfl ?_
    refine g_icmp_ge (tgt := 88) hC dX3_parse_60 (by decide) ?_ ?_
    · refine g_iconst (v := vI 1) hC dX3_parse_88 rfl ?_
      exact g_zret1 hC hR (by decide) dX3_parse_89
    · refine g_aload_n (q := 0) hC dX3_parse_63 rfl rfl rfl ?_
      refine g_getS (k := 0) hC cf_X3 (at_37 hL) (by decide) rfl (by decide) (by decide) wf_RX3_28 dX3_parse_64 ?_
      refine g_getI (k := 4) (kz := 4) hC cf_X8 (at_35 hL) (by decide) rfl (by decide) rfl wf_RX3_51 dX3_parse_67 ?_
      refine g_if_eq (tgt := 88) hC dX3_parse_70 (by decide) ?_ ?_
      · refine g_iconst (v := vI 1) hC dX3_parse_88 rfl ?_
        exact g_zret1 hC hR (by decide) dX3_parse_89
      · refine g_aload_n (q := 0) hC dX3_parse_73 rfl rfl rfl ?_
        refine g_callVI (As := []) hC mv_X3_takePart wml_RX3_54 (k_X3_takePart _ V hL X) cf_X3 (at_37 hL) (by decide) ⟨Nat.zero_le _, Nat.zero_le _⟩ rfl rfl ⟨Nat.le_of_ble_eq_true rfl, Nat.le_of_ble_eq_true rfl⟩ (Nat.le_of_ble_eq_true rfl) dX3_parse_74 (fun r14 X15 => ?_)
        refine g_if_ne (tgt := 82) hC dX3_parse_77 (by decide) ?_ ?_
        · refine g_iinc (q := 1) hC dX3_parse_82 rfl (by decide) rfl ?_
          refine g_goto (tgt := 56) hC dX3_parse_85 (by decide) ?_
          refine g_sub [1, 0] rfl ?_
          exact ih (x3 + 1) X15
        · refine g_iconst (v := vI 0) hC dX3_parse_80 rfl ?_
          exact g_zret1 hC hR (by decide) dX3_parse_81
set_option maxRecDepth 20000 in
theorem k_X3_parse (l : Launch) (V : Ev) {L : List Kd} (hL : LKc L) (p1 : Int) (p2 : Int) (X : Mem) (h2 : isRiver L p2) : Kt l V L yX3_parse (.code yX3_parse cX3_parse 4 (some .boolean)) 10 271 [vR V.1 37, vI p1, vR V.1 p2] rI X (f_X3_parse p1 p2 X) := by
  refine kt_of (own := RX3) (lv0 := [(0, vR V.1 37), (1, vI p1), (2, vR V.1 p2)]) (by decide) rfl (Nat.le_of_ble_eq_true rfl) rfl (fun C hCl hC hR => ?_)
  subst hCl
  unfold f_X3_parse
  refine g_aload_n (q := 0) hC dX3_parse_0 rfl rfl rfl ?_
  refine g_aload_n (q := 2) hC dX3_parse_1 rfl rfl rfl ?_
  refine g_putD (k := 1) (kz := 1) hC cf_X3 (at_37 hL) (by decide) rfl (by decide) rfl wf_RX3_32 rfl rfl dX3_parse_2 (fun X1 => ?_)
  refine g_aload_n (q := 0) hC dX3_parse_5 rfl rfl rfl ?_
  refine g_getD (k := 1) (kz := 1) hC cf_X3 (at_37 hL) (by decide) rfl (by decide) rfl wf_RX3_32 dX3_parse_6 (g_cm (l := RIV) fun m2 => ?_)
  refine g_callVV (As := []) hC mv_X2_clear wml_RX3_36 (k_X2_clear _ V (X1 37 1) X1 (riv_of hL m2)) cf_X2 (rv_0 (riv_of hL m2)) (by decide) ⟨Nat.zero_le _, Nat.zero_le _⟩ rfl rfl ⟨Nat.le_of_ble_eq_true rfl, Nat.le_of_ble_eq_true rfl⟩ (Nat.le_of_ble_eq_true rfl) dX3_parse_9 (fun _ X4 => ?_)
  refine g_aload_n (q := 0) hC dX3_parse_12 rfl rfl rfl ?_
  refine g_iconst (v := vI 0) hC dX3_parse_13 rfl ?_
  refine g_putI (k := 2) (kz := 2) hC cf_X3 (at_37 hL) (by decide) rfl (by decide) rfl wf_RX3_9 rfl rfl dX3_parse_14 (fun X5 => ?_)
  refine g_aload_n (q := 0) hC dX3_parse_17 rfl rfl rfl ?_
  refine g_iconst (v := vI 0) hC dX3_parse_18 rfl ?_
  refine g_putZ (k := 3) (kz := 3) hC cf_X3 (at_37 hL) (by decide) rfl (by decide) rfl wf_RX3_15 rfl rfl dX3_parse_19 (fun X6 => ?_)
  refine g_aload_n (q := 0) hC dX3_parse_22 rfl rfl rfl ?_
  refine g_iconst (v := vI 0) hC dX3_parse_23 rfl ?_
  refine g_putZ (k := 4) (kz := 4) hC cf_X3 (at_37 hL) (by decide) rfl (by decide) rfl wf_RX3_19 rfl rfl dX3_parse_24 (fun X7 => ?_)
  refine g_aload_n (q := 0) hC dX3_parse_27 rfl rfl rfl ?_
  refine g_iconst (v := vI 0) hC dX3_parse_28 rfl ?_
  refine g_putZ (k := 5) (kz := 5) hC cf_X3 (at_37 hL) (by decide) rfl (by decide) rfl wf_RX3_22 rfl rfl dX3_parse_29 (fun X8 => ?_)
  refine g_aload_n (q := 0) hC dX3_parse_32 rfl rfl rfl ?_
  refine g_iconst (v := vI 0) hC dX3_parse_33 rfl ?_
  refine g_putZ (k := 6) (kz := 6) hC cf_X3 (at_37 hL) (by decide) rfl (by decide) rfl wf_RX3_25 rfl rfl dX3_parse_34 (fun X9 => ?_)
  refine g_aload_n (q := 0) hC dX3_parse_37 rfl rfl rfl ?_
  refine g_getS (k := 0) hC cf_X3 (at_37 hL) (by decide) rfl (by decide) (by decide) wf_RX3_28 dX3_parse_38 ?_
  refine g_iload_n (q := 1) hC dX3_parse_41 rfl rfl ?_
  refine g_callVV (As := [vI p1]) hC mv_X8_start wml_RX3_41 (k_X8_start _ V hL p1 X9) cf_X8 (at_35 hL) (by decide) ⟨Nat.zero_le _, Nat.zero_le _⟩ rfl rfl ⟨Nat.le_of_ble_eq_true rfl, Nat.le_of_ble_eq_true rfl⟩ (Nat.le_of_ble_eq_true rfl) dX3_parse_42 (fun _ X11 => ?_)
  refine g_aload_n (q := 0) hC dX3_parse_45 rfl rfl rfl ?_
  refine g_callVI (As := []) hC mv_X3_takeSize wml_RX3_47 (k_X3_takeSize _ V hL X11) cf_X3 (at_37 hL) (by decide) ⟨Nat.zero_le _, Nat.zero_le _⟩ rfl rfl ⟨Nat.le_of_ble_eq_true rfl, Nat.le_of_ble_eq_true rfl⟩ (Nat.le_of_ble_eq_true rfl) dX3_parse_46 (fun r12 X13 => ?_)
  refine g_if_ne (tgt := 54) hC dX3_parse_49 (by decide) ?_ ?_
  · refine g_iconst (v := vI 0) hC dX3_parse_54 rfl ?_
    refine g_istore_n hC dX3_parse_55 rfl (by decide) rfl ?_
    refine g_sub [1, 0] rfl ?_
    exact gL_X3_parse_56 hC hR hL  KF 0 X13
  · refine g_iconst (v := vI 0) hC dX3_parse_52 rfl ?_
    exact g_zret1 hC hR (by decide) dX3_parse_53
def B_X5_takeEnd_19 (s0 : Int) (X : Mem) : Option (Int × Mem) :=
  c2 s0 ((-1)) <| if ¬ s0 = ((-1)) then
    bd (ms X 38 4 ((X 38 4) - 1)) fun X4 =>
    ax 3 (X4 38 4) <|
    bd (X4 39 (X4 38 4)) fun v5 =>
    cm RUL (X4 38 2) <|
    ax 60 s0 <| bd (ms X4 ((X4 38 2) + 4) s0 v5) fun X7 =>
    cm RUL (X7 38 2) <|
    ax 60 v5 <| bd (ms X7 ((X7 38 2) + 4) v5 s0) fun X9 =>
    cl (f_X8_advance X9) fun _ X11 =>
    cl (f_X8_takeSign X11) fun r12 X13 =>
    cz r12 (some (r12, X13))
  else
    cl (f_X8_failHere X) fun r14 X15 =>
    cz r14 (some (r14, X15))
def f_X5_takeEnd  (X : Mem) : Option (Int × Mem) :=
  c1 (X 38 4) <| if ¬ (X 38 4) = 0 then
    cm RUL (X 38 2) <|
    cl (f_X4_add (X 38 2) 0 X) fun r2 X3 =>
    B_X5_takeEnd_19   r2 X3
  else
    B_X5_takeEnd_19   ((-1)) X
set_option maxRecDepth 20000 in
theorem gB_X5_takeEnd_19 {C : Cx} {V : Ev} {L : List Kd} (hC : Ok C V cX5_takeEnd RX5 3 3 61) (hR : Rt C V L (some .boolean) rI) (hL : LKc L) (s0 : Int) (X : Mem)  : G C V L 0 0 3 19 [(0, vR V.1 38)] [vI s0] X (B_X5_takeEnd_19   s0 X) := by
  unfold B_X5_takeEnd_19
  refine g_istore_n hC dX5_takeEnd_19 rfl (by decide) rfl ?_
  refine g_iload_n (q := 0) hC dX5_takeEnd_20 rfl rfl ?_
  refine g_iconst (v := vI (-1)) hC dX5_takeEnd_21 rfl ?_
  refine g_icmp_ne (tgt := 33) hC dX5_takeEnd_22 (by decide) ?_ ?_
  · refine g_aload_n (q := 1) hC dX5_takeEnd_33 rfl rfl rfl ?_
    refine g_dup hC dX5_takeEnd_34 rfl ?_
    refine g_getI (k := 4) (kz := 4) hC cf_X5 (at_38 hL) (by decide) rfl (by decide) rfl wf_RX5_15 dX5_takeEnd_35 ?_
    refine g_iconst (v := vI 1) hC dX5_takeEnd_38 rfl ?_
    refine g_isub hC dX5_takeEnd_39 ?_
    refine g_putI (k := 4) (kz := 4) hC cf_X5 (at_38 hL) (by decide) rfl (by decide) rfl wf_RX5_15 rfl rfl dX5_takeEnd_40 (fun X4 => ?_)
    refine g_aload_n (q := 1) hC dX5_takeEnd_43 rfl rfl rfl ?_
    refine g_getS (k := 1) hC cf_X5 (at_38 hL) (by decide) rfl (by decide) (by decide) wf_RX5_9 dX5_takeEnd_44 ?_
    refine g_aload_n (q := 1) hC dX5_takeEnd_47 rfl rfl rfl ?_
    refine g_getI (k := 4) (kz := 4) hC cf_X5 (at_38 hL) (by decide) rfl (by decide) rfl wf_RX5_15 dX5_takeEnd_48 ?_
    refine g_iald hC (at_39 hL) (by decide) dX5_takeEnd_51 ?_
    refine g_topI (fun v5 => ?_)
    refine g_istore_n hC dX5_takeEnd_52 rfl (by decide) rfl ?_
    refine g_aload_n (q := 2) hC dX5_takeEnd_53 rfl rfl rfl ?_
    refine g_getD (k := 2) (kz := 2) hC cf_X5 (at_38 hL) (by decide) rfl (by decide) rfl wf_RX5_23 dX5_takeEnd_54 (g_cm (l := RUL) fun m6 => ?_)
    refine g_getS (k := 5) hC cf_X4 (ru_0 (rul_of hL m6)) (by decide) rfl (add_nn (ru_0 (rul_of hL m6))) (by decide) wf_RX5_68 dX5_takeEnd_57 ?_
    refine g_iload_n (q := 1) hC dX5_takeEnd_60 rfl rfl ?_
    refine g_iload_n (q := 0) hC dX5_takeEnd_61 rfl rfl ?_
    refine g_iast hC (ru_4 (rul_of hL m6)) (by decide) dX5_takeEnd_62 (fun X7 => ?_)
    refine g_aload_n (q := 2) hC dX5_takeEnd_63 rfl rfl rfl ?_
    refine g_getD (k := 2) (kz := 2) hC cf_X5 (at_38 hL) (by decide) rfl (by decide) rfl wf_RX5_23 dX5_takeEnd_64 (g_cm (l := RUL) fun m8 => ?_)
    refine g_getS (k := 5) hC cf_X4 (ru_0 (rul_of hL m8)) (by decide) rfl (add_nn (ru_0 (rul_of hL m8))) (by decide) wf_RX5_68 dX5_takeEnd_67 ?_
    refine g_iload_n (q := 0) hC dX5_takeEnd_70 rfl rfl ?_
    refine g_iload_n (q := 1) hC dX5_takeEnd_71 rfl rfl ?_
    refine g_iast hC (ru_4 (rul_of hL m8)) (by decide) dX5_takeEnd_72 (fun X9 => ?_)
    refine g_aload_n (q := 2) hC dX5_takeEnd_73 rfl rfl rfl ?_
    refine g_getS (k := 0) hC cf_X5 (at_38 hL) (by decide) rfl (by decide) (by decide) wf_RX5_19 dX5_takeEnd_74 ?_
    refine g_callVV (As := []) hC mv_X8_advance wml_RX5_71 (k_X8_advance _ V hL X9) cf_X8 (at_35 hL) (by decide) ⟨Nat.zero_le _, Nat.zero_le _⟩ rfl rfl ⟨Nat.le_of_ble_eq_true rfl, Nat.le_of_ble_eq_true rfl⟩ (Nat.le_of_ble_eq_true rfl) dX5_takeEnd_77 (fun _ X11 => ?_)
    refine g_aload_n (q := 2) hC dX5_takeEnd_80 rfl rfl rfl ?_
    refine g_getS (k := 0) hC cf_X5 (at_38 hL) (by decide) rfl (by decide) (by decide) wf_RX5_19 dX5_takeEnd_81 ?_
    refine g_callVI (As := []) hC mv_X8_takeSign wml_RX5_74 (k_X8_takeSign _ V hL X11) cf_X8 (at_35 hL) (by decide) ⟨Nat.zero_le _, Nat.zero_le _⟩ rfl rfl ⟨Nat.le_of_ble_eq_true rfl, Nat.le_of_ble_eq_true rfl⟩ (Nat.le_of_ble_eq_true rfl) dX5_takeEnd_84 (fun r12 X13 => ?_)
    exact g_zret hC hR dX5_takeEnd_87
  · refine g_aload_n (q := 1) hC dX5_takeEnd_25 rfl rfl rfl ?_
    refine g_getS (k := 0) hC cf_X5 (at_38 hL) (by decide) rfl (by decide) (by decide) wf_RX5_19 dX5_takeEnd_26 ?_
    refine g_callVI (As := []) hC mv_X8_failHere wml_RX5_61 (k_X8_failHere _ V hL X) cf_X8 (at_35 hL) (by decide) ⟨Nat.zero_le _, Nat.zero_le _⟩ rfl rfl ⟨Nat.le_of_ble_eq_true rfl, Nat.le_of_ble_eq_true rfl⟩ (Nat.le_of_ble_eq_true rfl) dX5_takeEnd_29 (fun r14 X15 => ?_)
    exact g_zret hC hR dX5_takeEnd_32
set_option maxRecDepth 20000 in
theorem k_X5_takeEnd (l : Launch) (V : Ev) {L : List Kd} (hL : LKc L)  (X : Mem)  : Kt l V L yX5_takeEnd (.code yX5_takeEnd cX5_takeEnd 3 (some .boolean)) 3 61 [vR V.1 38] rI X (f_X5_takeEnd  X) := by
  refine kt_of (own := RX5) (lv0 := [(0, vR V.1 38)]) (by decide) rfl (Nat.le_of_ble_eq_true rfl) rfl (fun C hCl hC hR => ?_)
  subst hCl
  unfold f_X5_takeEnd
  refine g_aload_n (q := 0) hC dX5_takeEnd_0 rfl rfl rfl ?_
  refine g_getI (k := 4) (kz := 4) hC cf_X5 (at_38 hL) (by decide) rfl (by decide) rfl wf_RX5_15 dX5_takeEnd_1 ?_
  refine g_if_ne (tgt := 11) hC dX5_takeEnd_4 (by decide) ?_ ?_
  · refine g_aload_n (q := 0) hC dX5_takeEnd_11 rfl rfl rfl ?_
    refine g_getD (k := 2) (kz := 2) hC cf_X5 (at_38 hL) (by decide) rfl (by decide) rfl wf_RX5_23 dX5_takeEnd_12 (g_cm (l := RUL) fun m1 => ?_)
    refine g_iconst (v := vI 0) hC dX5_takeEnd_15 rfl ?_
    refine g_callVI (As := [vI 0]) hC mv_X4_add wml_RX5_64 (k_X4_add _ V (X 38 2) 0 X (rul_of hL m1)) cf_X4 (ru_0 (rul_of hL m1)) (by decide) ⟨Nat.zero_le _, Nat.zero_le _⟩ rfl rfl ⟨Nat.le_of_ble_eq_true rfl, Nat.le_of_ble_eq_true rfl⟩ (Nat.le_of_ble_eq_true rfl) dX5_takeEnd_16 (fun r2 X3 => ?_)
    exact gB_X5_takeEnd_19 hC hR hL  r2 X3
  · refine g_iconst (v := vI (-1)) hC dX5_takeEnd_7 rfl ?_
    refine g_goto (tgt := 19) hC dX5_takeEnd_8 (by decide) ?_
    exact gB_X5_takeEnd_19 hC hR hL  ((-1)) X
def f_X5_wordOfStep  (X : Mem) : Option (Int × Mem) :=
  cl (f_X8_is 22 X) fun r1 X2 =>
  c1 r1 <| if r1 = 0 then
    cl (f_X8_is 23 X2) fun r3 X4 =>
    c1 r3 <| if r3 = 0 then
      cl (f_X8_is 24 X4) fun r5 X6 =>
      c1 r5 <| if r5 = 0 then
        cl (f_X8_is 25 X6) fun r7 X8 =>
        c1 r7 <| if r7 = 0 then
          cl (f_X8_is 26 X8) fun r9 X10 =>
          c1 r9 <| if r9 = 0 then
            cl (f_X8_is 27 X10) fun r11 X12 =>
            c1 r11 <| if r11 = 0 then
              cl (f_X8_is 28 X12) fun r13 X14 =>
              c1 r13 <| if r13 = 0 then
                cl (f_X8_is 29 X14) fun r15 X16 =>
                c1 r15 <| if r15 = 0 then
                  some ((-1), X16)
                else
                  some (8, X16)
              else
                some (7, X14)
            else
              some (6, X12)
          else
            some (5, X10)
        else
          some (4, X8)
      else
        some (3, X6)
    else
      some (2, X4)
  else
    some (1, X2)
set_option maxRecDepth 20000 in
theorem k_X5_wordOfStep (l : Launch) (V : Ev) {L : List Kd} (hL : LKc L)  (X : Mem)  : Kt l V L yX5_wordOfStep (.code yX5_wordOfStep cX5_wordOfStep 1 (some .int)) 6 183 [vR V.1 38] rI X (f_X5_wordOfStep  X) := by
  refine kt_of (own := RX5) (lv0 := [(0, vR V.1 38)]) (by decide) rfl (Nat.le_of_ble_eq_true rfl) rfl (fun C hCl hC hR => ?_)
  subst hCl
  unfold f_X5_wordOfStep
  refine g_aload_n (q := 0) hC dX5_wordOfStep_0 rfl rfl rfl ?_
  refine g_getS (k := 0) hC cf_X5 (at_38 hL) (by decide) rfl (by decide) (by decide) wf_RX5_19 dX5_wordOfStep_1 ?_
  refine g_ldcS (i := 22) hC (by decide) rfl dX5_wordOfStep_4 ?_
  refine g_callVI (As := [vS V 22]) hC mv_X8_is wml_RX5_50 (k_X8_is _ V hL 22 X (by decide)) cf_X8 (at_35 hL) (by decide) ⟨Nat.zero_le _, Nat.zero_le _⟩ rfl rfl ⟨Nat.le_of_ble_eq_true rfl, Nat.le_of_ble_eq_true rfl⟩ (Nat.le_of_ble_eq_true rfl) dX5_wordOfStep_6 (fun r1 X2 => ?_)
  refine g_if_eq (tgt := 14) hC dX5_wordOfStep_9 (by decide) ?_ ?_
  · refine g_aload_n (q := 0) hC dX5_wordOfStep_14 rfl rfl rfl ?_
    refine g_getS (k := 0) hC cf_X5 (at_38 hL) (by decide) rfl (by decide) (by decide) wf_RX5_19 dX5_wordOfStep_15 ?_
    refine g_ldcS (i := 23) hC (by decide) rfl dX5_wordOfStep_18 ?_
    refine g_callVI (As := [vS V 23]) hC mv_X8_is wml_RX5_50 (k_X8_is _ V hL 23 X2 (by decide)) cf_X8 (at_35 hL) (by decide) ⟨Nat.zero_le _, Nat.zero_le _⟩ rfl rfl ⟨Nat.le_of_ble_eq_true rfl, Nat.le_of_ble_eq_true rfl⟩ (Nat.le_of_ble_eq_true rfl) dX5_wordOfStep_20 (fun r3 X4 => ?_)
    refine g_if_eq (tgt := 28) hC dX5_wordOfStep_23 (by decide) ?_ ?_
    · refine g_aload_n (q := 0) hC dX5_wordOfStep_28 rfl rfl rfl ?_
      refine g_getS (k := 0) hC cf_X5 (at_38 hL) (by decide) rfl (by decide) (by decide) wf_RX5_19 dX5_wordOfStep_29 ?_
      refine g_ldcS (i := 24) hC (by decide) rfl dX5_wordOfStep_32 ?_
      refine g_callVI (As := [vS V 24]) hC mv_X8_is wml_RX5_50 (k_X8_is _ V hL 24 X4 (by decide)) cf_X8 (at_35 hL) (by decide) ⟨Nat.zero_le _, Nat.zero_le _⟩ rfl rfl ⟨Nat.le_of_ble_eq_true rfl, Nat.le_of_ble_eq_true rfl⟩ (Nat.le_of_ble_eq_true rfl) dX5_wordOfStep_34 (fun r5 X6 => ?_)
      refine g_if_eq (tgt := 42) hC dX5_wordOfStep_37 (by decide) ?_ ?_
      · refine g_aload_n (q := 0) hC dX5_wordOfStep_42 rfl rfl rfl ?_
        refine g_getS (k := 0) hC cf_X5 (at_38 hL) (by decide) rfl (by decide) (by decide) wf_RX5_19 dX5_wordOfStep_43 ?_
        refine g_ldcS (i := 25) hC (by decide) rfl dX5_wordOfStep_46 ?_
        refine g_callVI (As := [vS V 25]) hC mv_X8_is wml_RX5_50 (k_X8_is _ V hL 25 X6 (by decide)) cf_X8 (at_35 hL) (by decide) ⟨Nat.zero_le _, Nat.zero_le _⟩ rfl rfl ⟨Nat.le_of_ble_eq_true rfl, Nat.le_of_ble_eq_true rfl⟩ (Nat.le_of_ble_eq_true rfl) dX5_wordOfStep_48 (fun r7 X8 => ?_)
        refine g_if_eq (tgt := 56) hC dX5_wordOfStep_51 (by decide) ?_ ?_
        · refine g_aload_n (q := 0) hC dX5_wordOfStep_56 rfl rfl rfl ?_
          refine g_getS (k := 0) hC cf_X5 (at_38 hL) (by decide) rfl (by decide) (by decide) wf_RX5_19 dX5_wordOfStep_57 ?_
          refine g_ldcS (i := 26) hC (by decide) rfl dX5_wordOfStep_60 ?_
          refine g_callVI (As := [vS V 26]) hC mv_X8_is wml_RX5_50 (k_X8_is _ V hL 26 X8 (by decide)) cf_X8 (at_35 hL) (by decide) ⟨Nat.zero_le _, Nat.zero_le _⟩ rfl rfl ⟨Nat.le_of_ble_eq_true rfl, Nat.le_of_ble_eq_true rfl⟩ (Nat.le_of_ble_eq_true rfl) dX5_wordOfStep_62 (fun r9 X10 => ?_)
          refine g_if_eq (tgt := 70) hC dX5_wordOfStep_65 (by decide) ?_ ?_
          · refine g_aload_n (q := 0) hC dX5_wordOfStep_70 rfl rfl rfl ?_
            refine g_getS (k := 0) hC cf_X5 (at_38 hL) (by decide) rfl (by decide) (by decide) wf_RX5_19 dX5_wordOfStep_71 ?_
            refine g_ldcS (i := 27) hC (by decide) rfl dX5_wordOfStep_74 ?_
            refine g_callVI (As := [vS V 27]) hC mv_X8_is wml_RX5_50 (k_X8_is _ V hL 27 X10 (by decide)) cf_X8 (at_35 hL) (by decide) ⟨Nat.zero_le _, Nat.zero_le _⟩ rfl rfl ⟨Nat.le_of_ble_eq_true rfl, Nat.le_of_ble_eq_true rfl⟩ (Nat.le_of_ble_eq_true rfl) dX5_wordOfStep_76 (fun r11 X12 => ?_)
            refine g_if_eq (tgt := 85) hC dX5_wordOfStep_79 (by decide) ?_ ?_
            · refine g_aload_n (q := 0) hC dX5_wordOfStep_85 rfl rfl rfl ?_
              refine g_getS (k := 0) hC cf_X5 (at_38 hL) (by decide) rfl (by decide) (by decide) wf_RX5_19 dX5_wordOfStep_86 ?_
              refine g_ldcS (i := 28) hC (by decide) rfl dX5_wordOfStep_89 ?_
              refine g_callVI (As := [vS V 28]) hC mv_X8_is wml_RX5_50 (k_X8_is _ V hL 28 X12 (by decide)) cf_X8 (at_35 hL) (by decide) ⟨Nat.zero_le _, Nat.zero_le _⟩ rfl rfl ⟨Nat.le_of_ble_eq_true rfl, Nat.le_of_ble_eq_true rfl⟩ (Nat.le_of_ble_eq_true rfl) dX5_wordOfStep_91 (fun r13 X14 => ?_)
              refine g_if_eq (tgt := 100) hC dX5_wordOfStep_94 (by decide) ?_ ?_
              · refine g_aload_n (q := 0) hC dX5_wordOfStep_100 rfl rfl rfl ?_
                refine g_getS (k := 0) hC cf_X5 (at_38 hL) (by decide) rfl (by decide) (by decide) wf_RX5_19 dX5_wordOfStep_101 ?_
                refine g_ldcS (i := 29) hC (by decide) rfl dX5_wordOfStep_104 ?_
                refine g_callVI (As := [vS V 29]) hC mv_X8_is wml_RX5_50 (k_X8_is _ V hL 29 X14 (by decide)) cf_X8 (at_35 hL) (by decide) ⟨Nat.zero_le _, Nat.zero_le _⟩ rfl rfl ⟨Nat.le_of_ble_eq_true rfl, Nat.le_of_ble_eq_true rfl⟩ (Nat.le_of_ble_eq_true rfl) dX5_wordOfStep_106 (fun r15 X16 => ?_)
                refine g_if_eq (tgt := 117) hC dX5_wordOfStep_109 (by decide) ?_ ?_
                · refine g_iconst (v := vI (-1)) hC dX5_wordOfStep_117 rfl ?_
                  exact g_iret hC hR dX5_wordOfStep_118
                · refine g_bipush (v := vI 8) hC dX5_wordOfStep_112 rfl ?_
                  refine g_goto (tgt := 118) hC dX5_wordOfStep_114 (by decide) ?_
                  exact g_iret hC hR dX5_wordOfStep_118
              · refine g_bipush (v := vI 7) hC dX5_wordOfStep_97 rfl ?_
                exact g_iret hC hR dX5_wordOfStep_99
            · refine g_bipush (v := vI 6) hC dX5_wordOfStep_82 rfl ?_
              exact g_iret hC hR dX5_wordOfStep_84
          · refine g_iconst (v := vI 5) hC dX5_wordOfStep_68 rfl ?_
            exact g_iret hC hR dX5_wordOfStep_69
        · refine g_iconst (v := vI 4) hC dX5_wordOfStep_54 rfl ?_
          exact g_iret hC hR dX5_wordOfStep_55
      · refine g_iconst (v := vI 3) hC dX5_wordOfStep_40 rfl ?_
        exact g_iret hC hR dX5_wordOfStep_41
    · refine g_iconst (v := vI 2) hC dX5_wordOfStep_26 rfl ?_
      exact g_iret hC hR dX5_wordOfStep_27
  · refine g_iconst (v := vI 1) hC dX5_wordOfStep_12 rfl ?_
    exact g_iret hC hR dX5_wordOfStep_13
def f_X5_takeBarName (p1 : Int) (X : Mem) : Option (Int × Mem) :=
  cl (f_X8_isName X) fun r1 X2 =>
  c1 r1 <| if ¬ r1 = 0 then
    cm RIV (X2 38 3) <|
    cl (f_X2_barNamed (X2 38 3) (X2 35 6) X2) fun r4 X5 =>
    c2 r4 ((-1)) <| if ¬ r4 = ((-1)) then
      cm RUL (X5 38 2) <|
      ax 60 p1 <| bd (ms X5 ((X5 38 2) + 2) p1 r4) fun X7 =>
      cl (f_X8_advance X7) fun _ X9 =>
      some (1, X9)
    else
      cl (f_X8_fail 3 X5) fun r10 X11 =>
      cz r10 (some (r10, X11))
  else
    some (0, X2)
set_option maxRecDepth 20000 in
theorem k_X5_takeBarName (l : Launch) (V : Ev) {L : List Kd} (hL : LKc L) (p1 : Int) (X : Mem)  : Kt l V L yX5_takeBarName (.code yX5_takeBarName cX5_takeBarName 3 (some .boolean)) 7 204 [vR V.1 38, vI p1] rI X (f_X5_takeBarName p1 X) := by
  refine kt_of (own := RX5) (lv0 := [(0, vR V.1 38), (1, vI p1)]) (by decide) rfl (Nat.le_of_ble_eq_true rfl) rfl (fun C hCl hC hR => ?_)
  subst hCl
  unfold f_X5_takeBarName
  refine g_aload_n (q := 0) hC dX5_takeBarName_0 rfl rfl rfl ?_
  refine g_getS (k := 0) hC cf_X5 (at_38 hL) (by decide) rfl (by decide) (by decide) wf_RX5_19 dX5_takeBarName_1 ?_
  refine g_callVI (As := []) hC mv_X8_isName wml_RX5_124 (k_X8_isName _ V hL X) cf_X8 (at_35 hL) (by decide) ⟨Nat.zero_le _, Nat.zero_le _⟩ rfl rfl ⟨Nat.le_of_ble_eq_true rfl, Nat.le_of_ble_eq_true rfl⟩ (Nat.le_of_ble_eq_true rfl) dX5_takeBarName_4 (fun r1 X2 => ?_)
  refine g_if_ne (tgt := 12) hC dX5_takeBarName_7 (by decide) ?_ ?_
  · refine g_aload_n (q := 0) hC dX5_takeBarName_12 rfl rfl rfl ?_
    refine g_getD (k := 3) (kz := 3) hC cf_X5 (at_38 hL) (by decide) rfl (by decide) rfl wf_RX5_27 dX5_takeBarName_13 (g_cm (l := RIV) fun m3 => ?_)
    refine g_aload_n (q := 0) hC dX5_takeBarName_16 rfl rfl rfl ?_
    refine g_getS (k := 0) hC cf_X5 (at_38 hL) (by decide) rfl (by decide) (by decide) wf_RX5_19 dX5_takeBarName_17 ?_
    refine g_getJ (k := 6) (kz := 6) hC cf_X8 (at_35 hL) (by decide) rfl (by decide) rfl wf_RX5_127 dX5_takeBarName_20 ?_
    refine g_callVI (As := [vJ (X2 35 6)]) hC mv_X2_barNamed wml_RX5_131 (k_X2_barNamed _ V (X2 38 3) (X2 35 6) X2 (riv_of hL m3)) cf_X2 (rv_0 (riv_of hL m3)) (by decide) ⟨Nat.zero_le _, Nat.zero_le _⟩ rfl rfl ⟨Nat.le_of_ble_eq_true rfl, Nat.le_of_ble_eq_true rfl⟩ (Nat.le_of_ble_eq_true rfl) dX5_takeBarName_23 (fun r4 X5 => ?_)
    refine g_istore_n hC dX5_takeBarName_26 rfl (by decide) rfl ?_
    refine g_iload_n (q := 0) hC dX5_takeBarName_27 rfl rfl ?_
    refine g_iconst (v := vI (-1)) hC dX5_takeBarName_28 rfl ?_
    refine g_icmp_ne (tgt := 41) hC dX5_takeBarName_29 (by decide) ?_ ?_
    · refine g_aload_n (q := 1) hC dX5_takeBarName_41 rfl rfl rfl ?_
      refine g_getD (k := 2) (kz := 2) hC cf_X5 (at_38 hL) (by decide) rfl (by decide) rfl wf_RX5_23 dX5_takeBarName_42 (g_cm (l := RUL) fun m6 => ?_)
      refine g_getS (k := 3) hC cf_X4 (ru_0 (rul_of hL m6)) (by decide) rfl (add_nn (ru_0 (rul_of hL m6))) (by decide) wf_RX5_137 dX5_takeBarName_45 ?_
      refine g_iload_n (q := 2) hC dX5_takeBarName_48 rfl rfl ?_
      refine g_iload_n (q := 0) hC dX5_takeBarName_49 rfl rfl ?_
      refine g_iast hC (ru_2 (rul_of hL m6)) (by decide) dX5_takeBarName_50 (fun X7 => ?_)
      refine g_aload_n (q := 1) hC dX5_takeBarName_51 rfl rfl rfl ?_
      refine g_getS (k := 0) hC cf_X5 (at_38 hL) (by decide) rfl (by decide) (by decide) wf_RX5_19 dX5_takeBarName_52 ?_
      refine g_callVV (As := []) hC mv_X8_advance wml_RX5_71 (k_X8_advance _ V hL X7) cf_X8 (at_35 hL) (by decide) ⟨Nat.zero_le _, Nat.zero_le _⟩ rfl rfl ⟨Nat.le_of_ble_eq_true rfl, Nat.le_of_ble_eq_true rfl⟩ (Nat.le_of_ble_eq_true rfl) dX5_takeBarName_55 (fun _ X9 => ?_)
      refine g_iconst (v := vI 1) hC dX5_takeBarName_58 rfl ?_
      exact g_zret1 hC hR (by decide) dX5_takeBarName_59
    · refine g_aload_n (q := 1) hC dX5_takeBarName_32 rfl rfl rfl ?_
      refine g_getS (k := 0) hC cf_X5 (at_38 hL) (by decide) rfl (by decide) (by decide) wf_RX5_19 dX5_takeBarName_33 ?_
      refine g_iconst (v := vI 3) hC dX5_takeBarName_36 rfl ?_
      refine g_callVI (As := [vI 3]) hC mv_X8_fail wml_RX5_81 (k_X8_fail _ V hL 3 X5) cf_X8 (at_35 hL) (by decide) ⟨Nat.zero_le _, Nat.zero_le _⟩ rfl rfl ⟨Nat.le_of_ble_eq_true rfl, Nat.le_of_ble_eq_true rfl⟩ (Nat.le_of_ble_eq_true rfl) dX5_takeBarName_37 (fun r10 X11 => ?_)
      exact g_zret hC hR dX5_takeBarName_40
  · refine g_iconst (v := vI 0) hC dX5_takeBarName_10 rfl ?_
    exact g_zret1 hC hR (by decide) dX5_takeBarName_11
def f_X5_takeCount (p1 : Int) (p2 : Int) (p3 : Int) (X : Mem) : Option (Int × Mem) :=
  cl (f_X8_takeNumber p2 p3 X) fun r1 X2 =>
  c1 r1 <| if ¬ r1 = 0 then
    cm RUL (X2 38 2) <|
    ax 60 p1 <| bd (ms X2 ((X2 38 2) + 3) p1 (X2 35 8)) fun X4 =>
    some (1, X4)
  else
    some (0, X2)
set_option maxRecDepth 20000 in
theorem k_X5_takeCount (l : Launch) (V : Ev) {L : List Kd} (hL : LKc L) (p1 : Int) (p2 : Int) (p3 : Int) (X : Mem)  : Kt l V L yX5_takeCount (.code yX5_takeCount cX5_takeCount 4 (some .boolean)) 3 65 [vR V.1 38, vI p1, vI p2, vI p3] rI X (f_X5_takeCount p1 p2 p3 X) := by
  refine kt_of (own := RX5) (lv0 := [(0, vR V.1 38), (1, vI p1), (2, vI p2), (3, vI p3)]) (by decide) rfl (Nat.le_of_ble_eq_true rfl) rfl (fun C hCl hC hR => ?_)
  subst hCl
  unfold f_X5_takeCount
  refine g_aload_n (q := 0) hC dX5_takeCount_0 rfl rfl rfl ?_
  refine g_getS (k := 0) hC cf_X5 (at_38 hL) (by decide) rfl (by decide) (by decide) wf_RX5_19 dX5_takeCount_1 ?_
  refine g_iload_n (q := 2) hC dX5_takeCount_4 rfl rfl ?_
  refine g_iload_n (q := 3) hC dX5_takeCount_5 rfl rfl ?_
  refine g_callVI (As := [vI p2, vI p3]) hC mv_X8_takeNumber wml_RX5_140 (k_X8_takeNumber _ V hL p2 p3 X) cf_X8 (at_35 hL) (by decide) ⟨Nat.zero_le _, Nat.zero_le _⟩ rfl rfl ⟨Nat.le_of_ble_eq_true rfl, Nat.le_of_ble_eq_true rfl⟩ (Nat.le_of_ble_eq_true rfl) dX5_takeCount_6 (fun r1 X2 => ?_)
  refine g_if_ne (tgt := 14) hC dX5_takeCount_9 (by decide) ?_ ?_
  · refine g_aload_n (q := 0) hC dX5_takeCount_14 rfl rfl rfl ?_
    refine g_getD (k := 2) (kz := 2) hC cf_X5 (at_38 hL) (by decide) rfl (by decide) rfl wf_RX5_23 dX5_takeCount_15 (g_cm (l := RUL) fun m3 => ?_)
    refine g_getS (k := 4) hC cf_X4 (ru_0 (rul_of hL m3)) (by decide) rfl (add_nn (ru_0 (rul_of hL m3))) (by decide) wf_RX5_143 dX5_takeCount_18 ?_
    refine g_iload_n (q := 1) hC dX5_takeCount_21 rfl rfl ?_
    refine g_aload_n (q := 0) hC dX5_takeCount_22 rfl rfl rfl ?_
    refine g_getS (k := 0) hC cf_X5 (at_38 hL) (by decide) rfl (by decide) (by decide) wf_RX5_19 dX5_takeCount_23 ?_
    refine g_getI (k := 8) (kz := 8) hC cf_X8 (at_35 hL) (by decide) rfl (by decide) rfl wf_RX5_146 dX5_takeCount_26 ?_
    refine g_iast hC (ru_3 (rul_of hL m3)) (by decide) dX5_takeCount_29 (fun X4 => ?_)
    refine g_iconst (v := vI 1) hC dX5_takeCount_30 rfl ?_
    exact g_zret1 hC hR (by decide) dX5_takeCount_31
  · refine g_iconst (v := vI 0) hC dX5_takeCount_12 rfl ?_
    exact g_zret1 hC hR (by decide) dX5_takeCount_13
def B_X5_takeWhat_92 (x1 : Int) (X : Mem) : Option (Int × Mem) :=
  cl (f_X8_advance X) fun _ X12 =>
  cl (f_X5_takeBarName x1 X12) fun r13 X14 =>
  cz r13 (some (r13, X14))
def f_X5_takeWhat (p1 : Int) (X : Mem) : Option (Int × Mem) :=
  cl (f_X8_is 30 X) fun r1 X2 =>
  c1 r1 <| if r1 = 0 then
    cl (f_X8_is 31 X2) fun r3 X4 =>
    c1 r3 <| if r3 = 0 then
      cl (f_X8_is 32 X4) fun r5 X6 =>
      c1 r5 <| if r5 = 0 then
        cl (f_X8_failHere X6) fun r7 X8 =>
        cz r7 (some (r7, X8))
      else
        cm RUL (X6 38 2) <|
        ax 60 p1 <| bd (ms X6 ((X6 38 2) + 1) p1 10) fun X10 =>
        B_X5_takeWhat_92   p1 X10
    else
      cm RUL (X4 38 2) <|
      ax 60 p1 <| bd (ms X4 ((X4 38 2) + 1) p1 9) fun X16 =>
      B_X5_takeWhat_92   p1 X16
  else
    cm RUL (X2 38 2) <|
    ax 60 p1 <| bd (ms X2 ((X2 38 2) + 1) p1 11) fun X18 =>
    cl (f_X8_advance X18) fun _ X20 =>
    some (1, X20)
set_option maxRecDepth 20000 in
theorem gB_X5_takeWhat_92 {C : Cx} {V : Ev} {L : List Kd} (hC : Ok C V cX5_takeWhat RX5 2 8 226) (hR : Rt C V L (some .boolean) rI) (hL : LKc L) (x1 : Int) (X : Mem)  : G C V L 0 0 2 92 [(0, vR V.1 38), (1, vI x1)] [] X (B_X5_takeWhat_92   x1 X) := by
  unfold B_X5_takeWhat_92
  refine g_aload_n (q := 0) hC dX5_takeWhat_92 rfl rfl rfl ?_
  refine g_getS (k := 0) hC cf_X5 (at_38 hL) (by decide) rfl (by decide) (by decide) wf_RX5_19 dX5_takeWhat_93 ?_
  refine g_callVV (As := []) hC mv_X8_advance wml_RX5_71 (k_X8_advance _ V hL X) cf_X8 (at_35 hL) (by decide) ⟨Nat.zero_le _, Nat.zero_le _⟩ rfl rfl ⟨Nat.le_of_ble_eq_true rfl, Nat.le_of_ble_eq_true rfl⟩ (Nat.le_of_ble_eq_true rfl) dX5_takeWhat_96 (fun _ X12 => ?_)
  refine g_aload_n (q := 0) hC dX5_takeWhat_99 rfl rfl rfl ?_
  refine g_iload_n (q := 1) hC dX5_takeWhat_100 rfl rfl ?_
  refine g_callVI (As := [vI x1]) hC mv_X5_takeBarName wml_RX5_105 (k_X5_takeBarName _ V hL x1 X12) cf_X5 (at_38 hL) (by decide) ⟨Nat.zero_le _, Nat.zero_le _⟩ rfl rfl ⟨Nat.le_of_ble_eq_true rfl, Nat.le_of_ble_eq_true rfl⟩ (Nat.le_of_ble_eq_true rfl) dX5_takeWhat_101 (fun r13 X14 => ?_)
  exact g_zret hC hR dX5_takeWhat_104
set_option maxRecDepth 20000 in
theorem k_X5_takeWhat (l : Launch) (V : Ev) {L : List Kd} (hL : LKc L) (p1 : Int) (X : Mem)  : Kt l V L yX5_takeWhat (.code yX5_takeWhat cX5_takeWhat 2 (some .boolean)) 8 226 [vR V.1 38, vI p1] rI X (f_X5_takeWhat p1 X) := by
  refine kt_of (own := RX5) (lv0 := [(0, vR V.1 38), (1, vI p1)]) (by decide) rfl (Nat.le_of_ble_eq_true rfl) rfl (fun C hCl hC hR => ?_)
  subst hCl
  unfold f_X5_takeWhat
  refine g_aload_n (q := 0) hC dX5_takeWhat_0 rfl rfl rfl ?_
  refine g_getS (k := 0) hC cf_X5 (at_38 hL) (by decide) rfl (by decide) (by decide) wf_RX5_19 dX5_takeWhat_1 ?_
  refine g_ldcS (i := 30) hC (by decide) rfl dX5_takeWhat_4 ?_
  refine g_callVI (As := [vS V 30]) hC mv_X8_is wml_RX5_50 (k_X8_is _ V hL 30 X (by decide)) cf_X8 (at_35 hL) (by decide) ⟨Nat.zero_le _, Nat.zero_le _⟩ rfl rfl ⟨Nat.le_of_ble_eq_true rfl, Nat.le_of_ble_eq_true rfl⟩ (Nat.le_of_ble_eq_true rfl) dX5_takeWhat_6 (fun r1 X2 => ?_)
  refine g_if_eq (tgt := 32) hC dX5_takeWhat_9 (by decide) ?_ ?_
  · refine g_aload_n (q := 0) hC dX5_takeWhat_32 rfl rfl rfl ?_
    refine g_getS (k := 0) hC cf_X5 (at_38 hL) (by decide) rfl (by decide) (by decide) wf_RX5_19 dX5_takeWhat_33 ?_
    refine g_ldcS (i := 31) hC (by decide) rfl dX5_takeWhat_36 ?_
    refine g_callVI (As := [vS V 31]) hC mv_X8_is wml_RX5_50 (k_X8_is _ V hL 31 X2 (by decide)) cf_X8 (at_35 hL) (by decide) ⟨Nat.zero_le _, Nat.zero_le _⟩ rfl rfl ⟨Nat.le_of_ble_eq_true rfl, Nat.le_of_ble_eq_true rfl⟩ (Nat.le_of_ble_eq_true rfl) dX5_takeWhat_38 (fun r3 X4 => ?_)
    refine g_if_eq (tgt := 58) hC dX5_takeWhat_41 (by decide) ?_ ?_
    · refine g_aload_n (q := 0) hC dX5_takeWhat_58 rfl rfl rfl ?_
      refine g_getS (k := 0) hC cf_X5 (at_38 hL) (by decide) rfl (by decide) (by decide) wf_RX5_19 dX5_takeWhat_59 ?_
      refine g_ldcS (i := 32) hC (by decide) rfl dX5_takeWhat_62 ?_
      refine g_callVI (As := [vS V 32]) hC mv_X8_is wml_RX5_50 (k_X8_is _ V hL 32 X4 (by decide)) cf_X8 (at_35 hL) (by decide) ⟨Nat.zero_le _, Nat.zero_le _⟩ rfl rfl ⟨Nat.le_of_ble_eq_true rfl, Nat.le_of_ble_eq_true rfl⟩ (Nat.le_of_ble_eq_true rfl) dX5_takeWhat_64 (fun r5 X6 => ?_)
      refine g_if_eq (tgt := 84) hC dX5_takeWhat_67 (by decide) ?_ ?_
      · refine g_aload_n (q := 0) hC dX5_takeWhat_84 rfl rfl rfl ?_
        refine g_getS (k := 0) hC cf_X5 (at_38 hL) (by decide) rfl (by decide) (by decide) wf_RX5_19 dX5_takeWhat_85 ?_
        refine g_callVI (As := []) hC mv_X8_failHere wml_RX5_61 (k_X8_failHere _ V hL X6) cf_X8 (at_35 hL) (by decide) ⟨Nat.zero_le _, Nat.zero_le _⟩ rfl rfl ⟨Nat.le_of_ble_eq_true rfl, Nat.le_of_ble_eq_true rfl⟩ (Nat.le_of_ble_eq_true rfl) dX5_takeWhat_88 (fun r7 X8 => ?_)
        exact g_zret hC hR dX5_takeWhat_91
      · refine g_aload_n (q := 0) hC dX5_takeWhat_70 rfl rfl rfl ?_
        refine g_getD (k := 2) (kz := 2) hC cf_X5 (at_38 hL) (by decide) rfl (by decide) rfl wf_RX5_23 dX5_takeWhat_71 (g_cm (l := RUL) fun m9 => ?_)
        refine g_getS (k := 2) hC cf_X4 (ru_0 (rul_of hL m9)) (by decide) rfl (add_nn (ru_0 (rul_of hL m9))) (by decide) wf_RX5_117 dX5_takeWhat_74 ?_
        refine g_iload_n (q := 1) hC dX5_takeWhat_77 rfl rfl ?_
        refine g_bipush (v := vI 10) hC dX5_takeWhat_78 rfl ?_
        refine g_iast hC (ru_1 (rul_of hL m9)) (by decide) dX5_takeWhat_80 (fun X10 => ?_)
        refine g_goto (tgt := 92) hC dX5_takeWhat_81 (by decide) ?_
        exact gB_X5_takeWhat_92 hC hR hL  p1 X10
    · refine g_aload_n (q := 0) hC dX5_takeWhat_44 rfl rfl rfl ?_
      refine g_getD (k := 2) (kz := 2) hC cf_X5 (at_38 hL) (by decide) rfl (by decide) rfl wf_RX5_23 dX5_takeWhat_45 (g_cm (l := RUL) fun m15 => ?_)
      refine g_getS (k := 2) hC cf_X4 (ru_0 (rul_of hL m15)) (by decide) rfl (add_nn (ru_0 (rul_of hL m15))) (by decide) wf_RX5_117 dX5_takeWhat_48 ?_
      refine g_iload_n (q := 1) hC dX5_takeWhat_51 rfl rfl ?_
      refine g_bipush (v := vI 9) hC dX5_takeWhat_52 rfl ?_
      refine g_iast hC (ru_1 (rul_of hL m15)) (by decide) dX5_takeWhat_54 (fun X16 => ?_)
      refine g_goto (tgt := 92) hC dX5_takeWhat_55 (by decide) ?_
      exact gB_X5_takeWhat_92 hC hR hL  p1 X16
  · refine g_aload_n (q := 0) hC dX5_takeWhat_12 rfl rfl rfl ?_
    refine g_getD (k := 2) (kz := 2) hC cf_X5 (at_38 hL) (by decide) rfl (by decide) rfl wf_RX5_23 dX5_takeWhat_13 (g_cm (l := RUL) fun m17 => ?_)
    refine g_getS (k := 2) hC cf_X4 (ru_0 (rul_of hL m17)) (by decide) rfl (add_nn (ru_0 (rul_of hL m17))) (by decide) wf_RX5_117 dX5_takeWhat_16 ?_
    refine g_iload_n (q := 1) hC dX5_takeWhat_19 rfl rfl ?_
    refine g_bipush (v := vI 11) hC dX5_takeWhat_20 rfl ?_
    refine g_iast hC (ru_1 (rul_of hL m17)) (by decide) dX5_takeWhat_22 (fun X18 => ?_)
    refine g_aload_n (q := 0) hC dX5_takeWhat_23 rfl rfl rfl ?_
    refine g_getS (k := 0) hC cf_X5 (at_38 hL) (by decide) rfl (by decide) (by decide) wf_RX5_19 dX5_takeWhat_24 ?_
    refine g_callVV (As := []) hC mv_X8_advance wml_RX5_71 (k_X8_advance _ V hL X18) cf_X8 (at_35 hL) (by decide) ⟨Nat.zero_le _, Nat.zero_le _⟩ rfl rfl ⟨Nat.le_of_ble_eq_true rfl, Nat.le_of_ble_eq_true rfl⟩ (Nat.le_of_ble_eq_true rfl) dX5_takeWhat_27 (fun _ X20 => ?_)
    refine g_iconst (v := vI 1) hC dX5_takeWhat_30 rfl ?_
    exact g_zret1 hC hR (by decide) dX5_takeWhat_31
def f_X5_takeRest (p1 : Int) (p2 : Int) (X : Mem) : Option (Int × Mem) :=
  c1 p2 <|
  if p2 = 1 then
    cl (f_X5_takeBarName p1 X) fun r13 X14 =>
    cz r13 (some (r13, X14))
  else
  if p2 = 2 then
    cl (f_X5_takeBarName p1 X) fun r11 X12 =>
    cz r11 (some (r11, X12))
  else
  if p2 = 3 then
    cl (f_X5_takeCount p1 1 9 X) fun r9 X10 =>
    cz r9 (some (r9, X10))
  else
  if p2 = 4 then
    cl (f_X5_takeCount p1 0 9 X) fun r7 X8 =>
    cz r7 (some (r7, X8))
  else
  if p2 = 5 then
    cl (f_X5_takeWhat p1 X) fun r3 X4 =>
    c1 r3 <| if r3 = 0 then
      some (0, X4)
    else
      cl (f_X5_takeCount p1 0 16 X4) fun r5 X6 =>
      c1 r5 <| if r5 = 0 then
        some (0, X6)
      else
        some (1, X6)
  else
  if p2 = 6 then
    cl (f_X5_takeCount p1 1 9 X) fun r1 X2 =>
    cz r1 (some (r1, X2))
  else
    some (1, X)
set_option maxRecDepth 20000 in
theorem k_X5_takeRest (l : Launch) (V : Ev) {L : List Kd} (hL : LKc L) (p1 : Int) (p2 : Int) (X : Mem)  : Kt l V L yX5_takeRest (.code yX5_takeRest cX5_takeRest 3 (some .boolean)) 9 247 [vR V.1 38, vI p1, vI p2] rI X (f_X5_takeRest p1 p2 X) := by
  refine kt_of (own := RX5) (lv0 := [(0, vR V.1 38), (1, vI p1), (2, vI p2)]) (by decide) rfl (Nat.le_of_ble_eq_true rfl) rfl (fun C hCl hC hR => ?_)
  subst hCl
  unfold f_X5_takeRest
  refine g_iload_n (q := 2) hC dX5_takeRest_0 rfl rfl ?_
  refine g_c1 (fun hz => ?_)
  refine g_ite (fun hq0 => ?_) (fun hq0 => ?_)
  · refine g_tabIn (j := 0) (tgt := 40) hC dX5_takeRest_1 (by omega) rfl (by decide) (by decide) ?_
    refine g_aload_n (q := 0) hC dX5_takeRest_40 rfl rfl rfl ?_
    refine g_iload_n (q := 1) hC dX5_takeRest_41 rfl rfl ?_
    refine g_callVI (As := [vI p1]) hC mv_X5_takeBarName wml_RX5_105 (k_X5_takeBarName _ V hL p1 X) cf_X5 (at_38 hL) (by decide) ⟨Nat.zero_le _, Nat.zero_le _⟩ rfl rfl ⟨Nat.le_of_ble_eq_true rfl, Nat.le_of_ble_eq_true rfl⟩ (Nat.le_of_ble_eq_true rfl) dX5_takeRest_42 (fun r13 X14 => ?_)
    exact g_zret hC hR dX5_takeRest_45
  · refine g_ite (fun hq1 => ?_) (fun hq1 => ?_)
    · refine g_tabIn (j := 1) (tgt := 40) hC dX5_takeRest_1 (by omega) rfl (by decide) (by decide) ?_
      refine g_aload_n (q := 0) hC dX5_takeRest_40 rfl rfl rfl ?_
      refine g_iload_n (q := 1) hC dX5_takeRest_41 rfl rfl ?_
      refine g_callVI (As := [vI p1]) hC mv_X5_takeBarName wml_RX5_105 (k_X5_takeBarName _ V hL p1 X) cf_X5 (at_38 hL) (by decide) ⟨Nat.zero_le _, Nat.zero_le _⟩ rfl rfl ⟨Nat.le_of_ble_eq_true rfl, Nat.le_of_ble_eq_true rfl⟩ (Nat.le_of_ble_eq_true rfl) dX5_takeRest_42 (fun r11 X12 => ?_)
      exact g_zret hC hR dX5_takeRest_45
    · refine g_ite (fun hq2 => ?_) (fun hq2 => ?_)
      · refine g_tabIn (j := 2) (tgt := 46) hC dX5_takeRest_1 (by omega) rfl (by decide) (by decide) ?_
        refine g_aload_n (q := 0) hC dX5_takeRest_46 rfl rfl rfl ?_
        refine g_iload_n (q := 1) hC dX5_takeRest_47 rfl rfl ?_
        refine g_iconst (v := vI 1) hC dX5_takeRest_48 rfl ?_
        refine g_bipush (v := vI 9) hC dX5_takeRest_49 rfl ?_
        refine g_callVI (As := [vI p1, vI 1, vI 9]) hC mv_X5_takeCount wml_RX5_108 (k_X5_takeCount _ V hL p1 1 9 X) cf_X5 (at_38 hL) (by decide) ⟨Nat.zero_le _, Nat.zero_le _⟩ rfl rfl ⟨Nat.le_of_ble_eq_true rfl, Nat.le_of_ble_eq_true rfl⟩ (Nat.le_of_ble_eq_true rfl) dX5_takeRest_51 (fun r9 X10 => ?_)
        exact g_zret hC hR dX5_takeRest_54
      · refine g_ite (fun hq3 => ?_) (fun hq3 => ?_)
        · refine g_tabIn (j := 3) (tgt := 55) hC dX5_takeRest_1 (by omega) rfl (by decide) (by decide) ?_
          refine g_aload_n (q := 0) hC dX5_takeRest_55 rfl rfl rfl ?_
          refine g_iload_n (q := 1) hC dX5_takeRest_56 rfl rfl ?_
          refine g_iconst (v := vI 0) hC dX5_takeRest_57 rfl ?_
          refine g_bipush (v := vI 9) hC dX5_takeRest_58 rfl ?_
          refine g_callVI (As := [vI p1, vI 0, vI 9]) hC mv_X5_takeCount wml_RX5_108 (k_X5_takeCount _ V hL p1 0 9 X) cf_X5 (at_38 hL) (by decide) ⟨Nat.zero_le _, Nat.zero_le _⟩ rfl rfl ⟨Nat.le_of_ble_eq_true rfl, Nat.le_of_ble_eq_true rfl⟩ (Nat.le_of_ble_eq_true rfl) dX5_takeRest_60 (fun r7 X8 => ?_)
          exact g_zret hC hR dX5_takeRest_63
        · refine g_ite (fun hq4 => ?_) (fun hq4 => ?_)
          · refine g_tabIn (j := 4) (tgt := 64) hC dX5_takeRest_1 (by omega) rfl (by decide) (by decide) ?_
            refine g_aload_n (q := 0) hC dX5_takeRest_64 rfl rfl rfl ?_
            refine g_iload_n (q := 1) hC dX5_takeRest_65 rfl rfl ?_
            refine g_callVI (As := [vI p1]) hC mv_X5_takeWhat wml_RX5_112 (k_X5_takeWhat _ V hL p1 X) cf_X5 (at_38 hL) (by decide) ⟨Nat.zero_le _, Nat.zero_le _⟩ rfl rfl ⟨Nat.le_of_ble_eq_true rfl, Nat.le_of_ble_eq_true rfl⟩ (Nat.le_of_ble_eq_true rfl) dX5_takeRest_66 (fun r3 X4 => ?_)
            refine g_if_eq (tgt := 87) hC dX5_takeRest_69 (by decide) ?_ ?_
            · refine g_iconst (v := vI 0) hC dX5_takeRest_87 rfl ?_
              exact g_zret1 hC hR (by decide) dX5_takeRest_88
            · refine g_aload_n (q := 0) hC dX5_takeRest_72 rfl rfl rfl ?_
              refine g_iload_n (q := 1) hC dX5_takeRest_73 rfl rfl ?_
              refine g_iconst (v := vI 0) hC dX5_takeRest_74 rfl ?_
              refine g_bipush (v := vI 16) hC dX5_takeRest_75 rfl ?_
              refine g_callVI (As := [vI p1, vI 0, vI 16]) hC mv_X5_takeCount wml_RX5_108 (k_X5_takeCount _ V hL p1 0 16 X4) cf_X5 (at_38 hL) (by decide) ⟨Nat.zero_le _, Nat.zero_le _⟩ rfl rfl ⟨Nat.le_of_ble_eq_true rfl, Nat.le_of_ble_eq_true rfl⟩ (Nat.le_of_ble_eq_true rfl) dX5_takeRest_77 (fun r5 X6 => ?_)
              refine g_if_eq (tgt := 87) hC dX5_takeRest_80 (by decide) ?_ ?_
              · refine g_iconst (v := vI 0) hC dX5_takeRest_87 rfl ?_
                exact g_zret1 hC hR (by decide) dX5_takeRest_88
              · refine g_iconst (v := vI 1) hC dX5_takeRest_83 rfl ?_
                refine g_goto (tgt := 88) hC dX5_takeRest_84 (by decide) ?_
                exact g_zret1 hC hR (by decide) dX5_takeRest_88
          · refine g_ite (fun hq5 => ?_) (fun hq5 => ?_)
            · refine g_tabIn (j := 5) (tgt := 46) hC dX5_takeRest_1 (by omega) rfl (by decide) (by decide) ?_
              refine g_aload_n (q := 0) hC dX5_takeRest_46 rfl rfl rfl ?_
              refine g_iload_n (q := 1) hC dX5_takeRest_47 rfl rfl ?_
              refine g_iconst (v := vI 1) hC dX5_takeRest_48 rfl ?_
              refine g_bipush (v := vI 9) hC dX5_takeRest_49 rfl ?_
              refine g_callVI (As := [vI p1, vI 1, vI 9]) hC mv_X5_takeCount wml_RX5_108 (k_X5_takeCount _ V hL p1 1 9 X) cf_X5 (at_38 hL) (by decide) ⟨Nat.zero_le _, Nat.zero_le _⟩ rfl rfl ⟨Nat.le_of_ble_eq_true rfl, Nat.le_of_ble_eq_true rfl⟩ (Nat.le_of_ble_eq_true rfl) dX5_takeRest_51 (fun r1 X2 => ?_)
              exact g_zret hC hR dX5_takeRest_54
            · refine g_tabOut (tgt := 89) hC dX5_takeRest_1 hz (by omega) (by decide) ?_
              refine g_iconst (v := vI 1) hC dX5_takeRest_89 rfl ?_
              exact g_zret1 hC hR (by decide) dX5_takeRest_90
def B_X5_takeStep_149  (X : Mem) : Option (Int × Mem) :=
  cm RUL (X 38 2) <|
  bd (ms X (X 38 2) 1 ((X (X 38 2) 1) + 1)) fun X14 =>
  some (1, X14)
def B_X5_takeStep_97 (x1 : Int) (x2 : Int) (x3 : Int) (X : Mem) : Option (Int × Mem) :=
  cl (f_X8_advance X) fun _ X8 =>
  cl (f_X5_takeRest x2 x1 X8) fun r9 X10 =>
  c1 r9 <| if r9 = 0 then
    some (0, X10)
  else
    cl (f_X8_takeSign X10) fun r11 X12 =>
    c1 r11 <| if ¬ r11 = 0 then
      c1 x3 <| if x3 = 0 then
        B_X5_takeStep_149   X12
      else
        ax 3 (X12 38 4) <| bd (ms X12 39 (X12 38 4) x2) fun X15 =>
        bd (ms X15 38 4 ((X15 38 4) + 1)) fun X16 =>
        B_X5_takeStep_149   X16
    else
      some (0, X12)
def B_X5_takeStep_74 (x1 : Int) (x2 : Int) (s0 : Int) (X : Mem) : Option (Int × Mem) :=
  c1 s0 <| if s0 = 0 then
    B_X5_takeStep_97   x1 x2 s0 X
  else
    c2 (X 38 4) 3 <| if (X 38 4) < 3 then
      B_X5_takeStep_97   x1 x2 s0 X
    else
      cl (f_X8_fail 7 X) fun r17 X18 =>
      cz r17 (some (r17, X18))
def B_X5_takeStep_69 (x1 : Int) (x2 : Int) (X : Mem) : Option (Int × Mem) :=
  B_X5_takeStep_74   x1 x2 1 X
def B_X5_takeStep_42 (x1 : Int) (s0 : Int) (X : Mem) : Option (Int × Mem) :=
  c2 s0 ((-1)) <| if ¬ s0 = ((-1)) then
    c2 x1 5 <| if x1 = 5 then
      B_X5_takeStep_69   x1 s0 X
    else
      c2 x1 6 <| if ¬ x1 = 6 then
        B_X5_takeStep_74   x1 s0 0 X
      else
        B_X5_takeStep_69   x1 s0 X
  else
    cl (f_X8_fail 6 X) fun r19 X20 =>
    cz r19 (some (r19, X20))
def f_X5_takeStep  (X : Mem) : Option (Int × Mem) :=
  cl (f_X5_wordOfStep X) fun r1 X2 =>
  c2 r1 ((-1)) <| if ¬ r1 = ((-1)) then
    cm RUL (X2 38 2) <|
    c2 (X2 (X2 38 2) 1) 30 <| if (X2 (X2 38 2) 1) < 30 then
      cm RUL (X2 38 2) <|
      cl (f_X4_add (X2 38 2) r1 X2) fun r5 X6 =>
      B_X5_takeStep_42   r1 r5 X6
    else
      B_X5_takeStep_42   r1 ((-1)) X2
  else
    cl (f_X8_failHere X2) fun r21 X22 =>
    cz r21 (some (r21, X22))
set_option maxRecDepth 20000 in
theorem gB_X5_takeStep_149 {C : Cx} {V : Ev} {L : List Kd} (hC : Ok C V cX5_takeStep RX5 4 10 269) (hR : Rt C V L (some .boolean) rI) (hL : LKc L)  (X : Mem)  : G C V L 0 0 4 149 [(0, vR V.1 38)] [] X (B_X5_takeStep_149    X) := by
  unfold B_X5_takeStep_149
  refine g_aload_n (q := 0) hC dX5_takeStep_149 rfl rfl rfl ?_
  refine g_getD (k := 2) (kz := 2) hC cf_X5 (at_38 hL) (by decide) rfl (by decide) rfl wf_RX5_23 dX5_takeStep_150 (g_cm (l := RUL) fun m13 => ?_)
  refine g_dup hC dX5_takeStep_153 rfl ?_
  refine g_getI (k := 1) (kz := 1) hC cf_X4 (ru_0 (rul_of hL m13)) (by decide) rfl (by decide) rfl wf_RX5_36 dX5_takeStep_154 ?_
  refine g_iconst (v := vI 1) hC dX5_takeStep_157 rfl ?_
  refine g_iadd hC dX5_takeStep_158 ?_
  refine g_putI (k := 1) (kz := 1) hC cf_X4 (ru_0 (rul_of hL m13)) (by decide) rfl (by decide) rfl wf_RX5_36 rfl rfl dX5_takeStep_159 (fun X14 => ?_)
  refine g_iconst (v := vI 1) hC dX5_takeStep_162 rfl ?_
  exact g_zret1 hC hR (by decide) dX5_takeStep_163
set_option maxRecDepth 20000 in
theorem gB_X5_takeStep_97 {C : Cx} {V : Ev} {L : List Kd} (hC : Ok C V cX5_takeStep RX5 4 10 269) (hR : Rt C V L (some .boolean) rI) (hL : LKc L) (x1 : Int) (x2 : Int) (x3 : Int) (X : Mem)  : G C V L 0 0 4 97 [(0, vR V.1 38), (1, vI x1), (2, vI x2), (3, vI x3)] [] X (B_X5_takeStep_97   x1 x2 x3 X) := by
  unfold B_X5_takeStep_97
  refine g_aload_n (q := 0) hC dX5_takeStep_97 rfl rfl rfl ?_
  refine g_getS (k := 0) hC cf_X5 (at_38 hL) (by decide) rfl (by decide) (by decide) wf_RX5_19 dX5_takeStep_98 ?_
  refine g_callVV (As := []) hC mv_X8_advance wml_RX5_71 (k_X8_advance _ V hL X) cf_X8 (at_35 hL) (by decide) ⟨Nat.zero_le _, Nat.zero_le _⟩ rfl rfl ⟨Nat.le_of_ble_eq_true rfl, Nat.le_of_ble_eq_true rfl⟩ (Nat.le_of_ble_eq_true rfl) dX5_takeStep_101 (fun _ X8 => ?_)
  refine g_aload_n (q := 0) hC dX5_takeStep_104 rfl rfl rfl ?_
  refine g_iload_n (q := 2) hC dX5_takeStep_105 rfl rfl ?_
  refine g_iload_n (q := 1) hC dX5_takeStep_106 rfl rfl ?_
  refine g_callVI (As := [vI x2, vI x1]) hC mv_X5_takeRest wml_RX5_85 (k_X5_takeRest _ V hL x2 x1 X8) cf_X5 (at_38 hL) (by decide) ⟨Nat.zero_le _, Nat.zero_le _⟩ rfl rfl ⟨Nat.le_of_ble_eq_true rfl, Nat.le_of_ble_eq_true rfl⟩ (Nat.le_of_ble_eq_true rfl) dX5_takeStep_107 (fun r9 X10 => ?_)
  refine g_if_eq (tgt := 123) hC dX5_takeStep_110 (by decide) ?_ ?_
  · refine g_iconst (v := vI 0) hC dX5_takeStep_123 rfl ?_
    exact g_zret1 hC hR (by decide) dX5_takeStep_124
  · refine g_aload_n (q := 0) hC dX5_takeStep_113 rfl rfl rfl ?_
    refine g_getS (k := 0) hC cf_X5 (at_38 hL) (by decide) rfl (by decide) (by decide) wf_RX5_19 dX5_takeStep_114 ?_
    refine g_callVI (As := []) hC mv_X8_takeSign wml_RX5_74 (k_X8_takeSign _ V hL X10) cf_X8 (at_35 hL) (by decide) ⟨Nat.zero_le _, Nat.zero_le _⟩ rfl rfl ⟨Nat.le_of_ble_eq_true rfl, Nat.le_of_ble_eq_true rfl⟩ (Nat.le_of_ble_eq_true rfl) dX5_takeStep_117 (fun r11 X12 => ?_)
    refine g_if_ne (tgt := 125) hC dX5_takeStep_120 (by decide) ?_ ?_
    · refine g_iload_n (q := 3) hC dX5_takeStep_125 rfl rfl ?_
      refine g_if_eq (tgt := 149) hC dX5_takeStep_126 (by decide) ?_ ?_
      · refine g_sub [0] rfl ?_
        exact gB_X5_takeStep_149 hC hR hL  X12
      · refine g_aload_n (q := 0) hC dX5_takeStep_129 rfl rfl rfl ?_
        refine g_getS (k := 1) hC cf_X5 (at_38 hL) (by decide) rfl (by decide) (by decide) wf_RX5_9 dX5_takeStep_130 ?_
        refine g_aload_n (q := 0) hC dX5_takeStep_133 rfl rfl rfl ?_
        refine g_getI (k := 4) (kz := 4) hC cf_X5 (at_38 hL) (by decide) rfl (by decide) rfl wf_RX5_15 dX5_takeStep_134 ?_
        refine g_iload_n (q := 2) hC dX5_takeStep_137 rfl rfl ?_
        refine g_iast hC (at_39 hL) (by decide) dX5_takeStep_138 (fun X15 => ?_)
        refine g_aload_n (q := 0) hC dX5_takeStep_139 rfl rfl rfl ?_
        refine g_dup hC dX5_takeStep_140 rfl ?_
        refine g_getI (k := 4) (kz := 4) hC cf_X5 (at_38 hL) (by decide) rfl (by decide) rfl wf_RX5_15 dX5_takeStep_141 ?_
        refine g_iconst (v := vI 1) hC dX5_takeStep_144 rfl ?_
        refine g_iadd hC dX5_takeStep_145 ?_
        refine g_putI (k := 4) (kz := 4) hC cf_X5 (at_38 hL) (by decide) rfl (by decide) rfl wf_RX5_15 rfl rfl dX5_takeStep_146 (fun X16 => ?_)
        refine g_sub [0] rfl ?_
        exact gB_X5_takeStep_149 hC hR hL  X16
    · refine g_iconst (v := vI 0) hC dX5_takeStep_123 rfl ?_
      exact g_zret1 hC hR (by decide) dX5_takeStep_124
set_option maxRecDepth 20000 in
theorem gB_X5_takeStep_74 {C : Cx} {V : Ev} {L : List Kd} (hC : Ok C V cX5_takeStep RX5 4 10 269) (hR : Rt C V L (some .boolean) rI) (hL : LKc L) (x1 : Int) (x2 : Int) (s0 : Int) (X : Mem)  : G C V L 0 0 4 74 [(0, vR V.1 38), (1, vI x1), (2, vI x2)] [vI s0] X (B_X5_takeStep_74   x1 x2 s0 X) := by
  unfold B_X5_takeStep_74
  refine g_istore_n hC dX5_takeStep_74 rfl (by decide) rfl ?_
  refine g_iload_n (q := 0) hC dX5_takeStep_75 rfl rfl ?_
  refine g_if_eq (tgt := 97) hC dX5_takeStep_76 (by decide) ?_ ?_
  · refine g_sub [1, 2, 3, 0] rfl ?_
    exact gB_X5_takeStep_97 hC hR hL  x1 x2 s0 X
  · refine g_aload_n (q := 1) hC dX5_takeStep_79 rfl rfl rfl ?_
    refine g_getI (k := 4) (kz := 4) hC cf_X5 (at_38 hL) (by decide) rfl (by decide) rfl wf_RX5_15 dX5_takeStep_80 ?_
    refine g_iconst (v := vI 3) hC dX5_takeStep_83 rfl ?_
    refine g_icmp_lt (tgt := 97) hC dX5_takeStep_84 (by decide) ?_ ?_
    · refine g_sub [1, 2, 3, 0] rfl ?_
      exact gB_X5_takeStep_97 hC hR hL  x1 x2 s0 X
    · refine g_aload_n (q := 1) hC dX5_takeStep_87 rfl rfl rfl ?_
      refine g_getS (k := 0) hC cf_X5 (at_38 hL) (by decide) rfl (by decide) (by decide) wf_RX5_19 dX5_takeStep_88 ?_
      refine g_bipush (v := vI 7) hC dX5_takeStep_91 rfl ?_
      refine g_callVI (As := [vI 7]) hC mv_X8_fail wml_RX5_81 (k_X8_fail _ V hL 7 X) cf_X8 (at_35 hL) (by decide) ⟨Nat.zero_le _, Nat.zero_le _⟩ rfl rfl ⟨Nat.le_of_ble_eq_true rfl, Nat.le_of_ble_eq_true rfl⟩ (Nat.le_of_ble_eq_true rfl) dX5_takeStep_93 (fun r17 X18 => ?_)
      exact g_zret hC hR dX5_takeStep_96
set_option maxRecDepth 20000 in
theorem gB_X5_takeStep_69 {C : Cx} {V : Ev} {L : List Kd} (hC : Ok C V cX5_takeStep RX5 4 10 269) (hR : Rt C V L (some .boolean) rI) (hL : LKc L) (x1 : Int) (x2 : Int) (X : Mem)  : G C V L 0 0 4 69 [(0, vR V.1 38), (1, vI x1), (2, vI x2)] [] X (B_X5_takeStep_69   x1 x2 X) := by
  unfold B_X5_takeStep_69
  refine g_iconst (v := vI 1) hC dX5_takeStep_69 rfl ?_
  refine g_goto (tgt := 74) hC dX5_takeStep_70 (by decide) ?_
  exact gB_X5_takeStep_74 hC hR hL  x1 x2 1 X
set_option maxRecDepth 20000 in
theorem gB_X5_takeStep_42 {C : Cx} {V : Ev} {L : List Kd} (hC : Ok C V cX5_takeStep RX5 4 10 269) (hR : Rt C V L (some .boolean) rI) (hL : LKc L) (x1 : Int) (s0 : Int) (X : Mem)  : G C V L 0 0 4 42 [(0, vR V.1 38), (1, vI x1)] [vI s0] X (B_X5_takeStep_42   x1 s0 X) := by
  unfold B_X5_takeStep_42
  refine g_istore_n hC dX5_takeStep_42 rfl (by decide) rfl ?_
  refine g_iload_n (q := 0) hC dX5_takeStep_43 rfl rfl ?_
  refine g_iconst (v := vI (-1)) hC dX5_takeStep_44 rfl ?_
  refine g_icmp_ne (tgt := 58) hC dX5_takeStep_45 (by decide) ?_ ?_
  · refine g_iload_n (q := 2) hC dX5_takeStep_58 rfl rfl ?_
    refine g_iconst (v := vI 5) hC dX5_takeStep_59 rfl ?_
    refine g_icmp_eq (tgt := 69) hC dX5_takeStep_60 (by decide) ?_ ?_
    · refine g_sub [1, 2, 0] rfl ?_
      exact gB_X5_takeStep_69 hC hR hL  x1 s0 X
    · refine g_iload_n (q := 2) hC dX5_takeStep_63 rfl rfl ?_
      refine g_bipush (v := vI 6) hC dX5_takeStep_64 rfl ?_
      refine g_icmp_ne (tgt := 73) hC dX5_takeStep_66 (by decide) ?_ ?_
      · refine g_iconst (v := vI 0) hC dX5_takeStep_73 rfl ?_
        refine g_sub [1, 2, 0] rfl ?_
        exact gB_X5_takeStep_74 hC hR hL  x1 s0 0 X
      · refine g_sub [1, 2, 0] rfl ?_
        exact gB_X5_takeStep_69 hC hR hL  x1 s0 X
  · refine g_aload_n (q := 1) hC dX5_takeStep_48 rfl rfl rfl ?_
    refine g_getS (k := 0) hC cf_X5 (at_38 hL) (by decide) rfl (by decide) (by decide) wf_RX5_19 dX5_takeStep_49 ?_
    refine g_bipush (v := vI 6) hC dX5_takeStep_52 rfl ?_
    refine g_callVI (As := [vI 6]) hC mv_X8_fail wml_RX5_81 (k_X8_fail _ V hL 6 X) cf_X8 (at_35 hL) (by decide) ⟨Nat.zero_le _, Nat.zero_le _⟩ rfl rfl ⟨Nat.le_of_ble_eq_true rfl, Nat.le_of_ble_eq_true rfl⟩ (Nat.le_of_ble_eq_true rfl) dX5_takeStep_54 (fun r19 X20 => ?_)
    exact g_zret hC hR dX5_takeStep_57
set_option maxRecDepth 20000 in
theorem k_X5_takeStep (l : Launch) (V : Ev) {L : List Kd} (hL : LKc L)  (X : Mem)  : Kt l V L yX5_takeStep (.code yX5_takeStep cX5_takeStep 4 (some .boolean)) 10 269 [vR V.1 38] rI X (f_X5_takeStep  X) := by
  refine kt_of (own := RX5) (lv0 := [(0, vR V.1 38)]) (by decide) rfl (Nat.le_of_ble_eq_true rfl) rfl (fun C hCl hC hR => ?_)
  subst hCl
  unfold f_X5_takeStep
  refine g_aload_n (q := 0) hC dX5_takeStep_0 rfl rfl rfl ?_
  refine g_callVI (As := []) hC mv_X5_wordOfStep wml_RX5_77 (k_X5_wordOfStep _ V hL X) cf_X5 (at_38 hL) (by decide) ⟨Nat.zero_le _, Nat.zero_le _⟩ rfl rfl ⟨Nat.le_of_ble_eq_true rfl, Nat.le_of_ble_eq_true rfl⟩ (Nat.le_of_ble_eq_true rfl) dX5_takeStep_1 (fun r1 X2 => ?_)
  refine g_istore_n hC dX5_takeStep_4 rfl (by decide) rfl ?_
  refine g_iload_n (q := 0) hC dX5_takeStep_5 rfl rfl ?_
  refine g_iconst (v := vI (-1)) hC dX5_takeStep_6 rfl ?_
  refine g_icmp_ne (tgt := 18) hC dX5_takeStep_7 (by decide) ?_ ?_
  · refine g_aload_n (q := 1) hC dX5_takeStep_18 rfl rfl rfl ?_
    refine g_getD (k := 2) (kz := 2) hC cf_X5 (at_38 hL) (by decide) rfl (by decide) rfl wf_RX5_23 dX5_takeStep_19 (g_cm (l := RUL) fun m3 => ?_)
    refine g_getI (k := 1) (kz := 1) hC cf_X4 (ru_0 (rul_of hL m3)) (by decide) rfl (by decide) rfl wf_RX5_36 dX5_takeStep_22 ?_
    refine g_bipush (v := vI 30) hC dX5_takeStep_25 rfl ?_
    refine g_icmp_lt (tgt := 34) hC dX5_takeStep_27 (by decide) ?_ ?_
    · refine g_aload_n (q := 1) hC dX5_takeStep_34 rfl rfl rfl ?_
      refine g_getD (k := 2) (kz := 2) hC cf_X5 (at_38 hL) (by decide) rfl (by decide) rfl wf_RX5_23 dX5_takeStep_35 (g_cm (l := RUL) fun m4 => ?_)
      refine g_iload_n (q := 0) hC dX5_takeStep_38 rfl rfl ?_
      refine g_callVI (As := [vI r1]) hC mv_X4_add wml_RX5_64 (k_X4_add _ V (X2 38 2) r1 X2 (rul_of hL m4)) cf_X4 (ru_0 (rul_of hL m4)) (by decide) ⟨Nat.zero_le _, Nat.zero_le _⟩ rfl rfl ⟨Nat.le_of_ble_eq_true rfl, Nat.le_of_ble_eq_true rfl⟩ (Nat.le_of_ble_eq_true rfl) dX5_takeStep_39 (fun r5 X6 => ?_)
      refine g_sub [1, 0] rfl ?_
      exact gB_X5_takeStep_42 hC hR hL  r1 r5 X6
    · refine g_iconst (v := vI (-1)) hC dX5_takeStep_30 rfl ?_
      refine g_goto (tgt := 42) hC dX5_takeStep_31 (by decide) ?_
      refine g_sub [1, 0] rfl ?_
      exact gB_X5_takeStep_42 hC hR hL  r1 ((-1)) X2
  · refine g_aload_n (q := 1) hC dX5_takeStep_10 rfl rfl rfl ?_
    refine g_getS (k := 0) hC cf_X5 (at_38 hL) (by decide) rfl (by decide) (by decide) wf_RX5_19 dX5_takeStep_11 ?_
    refine g_callVI (As := []) hC mv_X8_failHere wml_RX5_61 (k_X8_failHere _ V hL X2) cf_X8 (at_35 hL) (by decide) ⟨Nat.zero_le _, Nat.zero_le _⟩ rfl rfl ⟨Nat.le_of_ble_eq_true rfl, Nat.le_of_ble_eq_true rfl⟩ (Nat.le_of_ble_eq_true rfl) dX5_takeStep_14 (fun r21 X22 => ?_)
    exact g_zret hC hR dX5_takeStep_17
def B_X5_parse_97  (X : Mem) : Option (Int × Mem) :=
  c1 (X 38 4) <| if (X 38 4) = 0 then
    some (1, X)
  else
    cl (f_X8_failHere X) fun r10 X11 =>
    c1 r10 <| if r10 = 0 then
      some (0, X11)
    else
      some (1, X11)
def B_X5_parse_91 (go42 : Int → Mem → Option (Int × Mem)) (x4 : Int) (X : Mem) : Option (Int × Mem) :=
  go42 (x4 + 1) X
def L_X5_parse_42 : Nat → Int → Mem → Option (Int × Mem)
  | 0, _, _ => none
  | n + 1, x4, X =>
    c2 x4 300 <| if 300 ≤ x4 then
      B_X5_parse_97   X
    else
      c1 (X 35 4) <| if (X 35 4) = 0 then
        B_X5_parse_97   X
      else
        cl (f_X8_is 21 X) fun r12 X13 =>
        c1 r12 <| if r12 = 0 then
          cl (f_X5_takeStep X13) fun r14 X15 =>
          c1 r14 <| if ¬ r14 = 0 then
            B_X5_parse_91  (fun x4 X => L_X5_parse_42   n x4 X) x4 X15
          else
            some (0, X15)
        else
          cl (f_X5_takeEnd X13) fun r16 X17 =>
          c1 r16 <| if r16 = 0 then
            some (0, X17)
          else
            B_X5_parse_91  (fun x4 X => L_X5_parse_42   n x4 X) x4 X17
def f_X5_parse (p1 : Int) (p2 : Int) (p3 : Int) (X : Mem) : Option (Int × Mem) :=
  bd (ms X 38 2 p2) fun X1 =>
  bd (ms X1 38 3 p3) fun X2 =>
  bd (ms X2 38 4 0) fun X3 =>
  cm RUL (X3 38 2) <|
  bd (ms X3 (X3 38 2) 0 0) fun X5 =>
  cm RUL (X5 38 2) <|
  bd (ms X5 (X5 38 2) 1 0) fun X7 =>
  cl (f_X8_start p1 X7) fun _ X9 =>
  L_X5_parse_42   KF 0 X9
set_option maxRecDepth 20000 in
theorem gB_X5_parse_97 {C : Cx} {V : Ev} {L : List Kd} (hC : Ok C V cX5_parse RX5 5 11 292) (hR : Rt C V L (some .boolean) rI) (hL : LKc L)  (X : Mem)  : G C V L 0 0 5 97 [(0, vR V.1 38)] [] X (B_X5_parse_97    X) := by
  unfold B_X5_parse_97
  refine g_aload_n (q := 0) hC dX5_parse_97 rfl rfl rfl ?_
  refine g_getI (k := 4) (kz := 4) hC cf_X5 (at_38 hL) (by decide) rfl (by decide) rfl wf_RX5_15 dX5_parse_98 ?_
  refine g_if_eq (tgt := 114) hC dX5_parse_101 (by decide) ?_ ?_
  · refine g_iconst (v := vI 1) hC dX5_parse_114 rfl ?_
    refine g_goto (tgt := 119) hC dX5_parse_115 (by decide) ?_
    exact g_zret1 hC hR (by decide) dX5_parse_119
  · refine g_aload_n (q := 0) hC dX5_parse_104 rfl rfl rfl ?_
    refine g_getS (k := 0) hC cf_X5 (at_38 hL) (by decide) rfl (by decide) (by decide) wf_RX5_19 dX5_parse_105 ?_
    refine g_callVI (As := []) hC mv_X8_failHere wml_RX5_61 (k_X8_failHere _ V hL X) cf_X8 (at_35 hL) (by decide) ⟨Nat.zero_le _, Nat.zero_le _⟩ rfl rfl ⟨Nat.le_of_ble_eq_true rfl, Nat.le_of_ble_eq_true rfl⟩ (Nat.le_of_ble_eq_true rfl) dX5_parse_108 (fun r10 X11 => ?_)
    refine g_if_eq (tgt := 118) hC dX5_parse_111 (by decide) ?_ ?_
    · refine g_iconst (v := vI 0) hC dX5_parse_118 rfl ?_
      exact g_zret1 hC hR (by decide) dX5_parse_119
    · refine g_iconst (v := vI 1) hC dX5_parse_114 rfl ?_
      refine g_goto (tgt := 119) hC dX5_parse_115 (by decide) ?_
      exact g_zret1 hC hR (by decide) dX5_parse_119
set_option maxRecDepth 20000 in
theorem gB_X5_parse_91 {C : Cx} {V : Ev} {L : List Kd} (hC : Ok C V cX5_parse RX5 5 11 292) (hR : Rt C V L (some .boolean) rI) (hL : LKc L) {go42 : Int → Mem → Option (Int × Mem)} (hgo42 : ∀ (x4 : Int) (X : Mem), G C V L 0 0 5 42 [(0, vR V.1 38), (4, vI x4)] [] X (go42 x4 X)) (x4 : Int) (X : Mem)  : G C V L 0 0 5 91 [(0, vR V.1 38), (4, vI x4)] [] X (B_X5_parse_91  go42 x4 X) := by
  unfold B_X5_parse_91
  refine g_iinc (q := 1) hC dX5_parse_91 rfl (by decide) rfl ?_
  refine g_goto (tgt := 42) hC dX5_parse_94 (by decide) ?_
  refine g_sub [1, 0] rfl ?_
  exact hgo42 (x4 + 1) X
set_option maxRecDepth 20000 in
theorem gL_X5_parse_42 {C : Cx} {V : Ev} {L : List Kd} (hC : Ok C V cX5_parse RX5 5 11 292) (hR : Rt C V L (some .boolean) rI) (hL : LKc L) : ∀ (n : Nat) (x4 : Int) (X : Mem), G C V L 0 0 5 42 [(0, vR V.1 38), (4, vI x4)] [] X (L_X5_parse_42   n x4 X) := by
  intro n
  induction n with
  | zero => intro x4 X; exact g_none
  | succ n ih =>
    intro x4 X
    rw [L_X5_parse_42]
    refine g_iload (q := 1) hC dX5_parse_42 rfl ?_
    refine g_sipush (v := vI 300) hC dX5_parse_44 rfl ?_
    refine g_icmp_ge (tgt := 97) hC dX5_parse_47 (by decide) ?_ ?_
    · refine g_sub [0] rfl ?_
      exact gB_X5_parse_97 hC hR hL  X
    · refine g_aload_n (q := 0) hC dX5_parse_50 rfl rfl rfl ?_
      refine g_getS (k := 0) hC cf_X5 (at_38 hL) (by decide) rfl (by decide) (by decide) wf_RX5_19 dX5_parse_51 ?_
      refine g_getI (k := 4) (kz := 4) hC cf_X8 (at_35 hL) (by decide) rfl (by decide) rfl wf_RX5_45 dX5_parse_54 ?_
      refine g_if_eq (tgt := 97) hC dX5_parse_57 (by decide) ?_ ?_
      · refine g_sub [0] rfl ?_
        exact gB_X5_parse_97 hC hR hL  X
      · refine g_aload_n (q := 0) hC dX5_parse_60 rfl rfl rfl ?_
        refine g_getS (k := 0) hC cf_X5 (at_38 hL) (by decide) rfl (by decide) (by decide) wf_RX5_19 dX5_parse_61 ?_
        refine g_ldcS (i := 21) hC (by decide) rfl dX5_parse_64 ?_
        refine g_callVI (As := [vS V 21]) hC mv_X8_is wml_RX5_50 (k_X8_is _ V hL 21 X (by decide)) cf_X8 (at_35 hL) (by decide) ⟨Nat.zero_le _, Nat.zero_le _⟩ rfl rfl ⟨Nat.le_of_ble_eq_true rfl, Nat.le_of_ble_eq_true rfl⟩ (Nat.le_of_ble_eq_true rfl) dX5_parse_66 (fun r12 X13 => ?_)
        refine g_if_eq (tgt := 82) hC dX5_parse_69 (by decide) ?_ ?_
        · refine g_aload_n (q := 0) hC dX5_parse_82 rfl rfl rfl ?_
          refine g_callVI (As := []) hC mv_X5_takeStep wml_RX5_58 (k_X5_takeStep _ V hL X13) cf_X5 (at_38 hL) (by decide) ⟨Nat.zero_le _, Nat.zero_le _⟩ rfl rfl ⟨Nat.le_of_ble_eq_true rfl, Nat.le_of_ble_eq_true rfl⟩ (Nat.le_of_ble_eq_true rfl) dX5_parse_83 (fun r14 X15 => ?_)
          refine g_if_ne (tgt := 91) hC dX5_parse_86 (by decide) ?_ ?_
          · exact gB_X5_parse_91 hC hR hL ih x4 X15
          · refine g_iconst (v := vI 0) hC dX5_parse_89 rfl ?_
            exact g_zret1 hC hR (by decide) dX5_parse_90
        · refine g_aload_n (q := 0) hC dX5_parse_72 rfl rfl rfl ?_
          refine g_callVI (As := []) hC mv_X5_takeEnd wml_RX5_54 (k_X5_takeEnd _ V hL X13) cf_X5 (at_38 hL) (by decide) ⟨Nat.zero_le _, Nat.zero_le _⟩ rfl rfl ⟨Nat.le_of_ble_eq_true rfl, Nat.le_of_ble_eq_true rfl⟩ (Nat.le_of_ble_eq_true rfl) dX5_parse_73 (fun r16 X17 => ?_)
          refine g_if_eq (tgt := 89) hC dX5_parse_76 (by decide) ?_ ?_
          · refine g_iconst (v := vI 0) hC dX5_parse_89 rfl ?_
            exact g_zret1 hC hR (by decide) dX5_parse_90
          · refine g_goto (tgt := 91) hC dX5_parse_79 (by decide) ?_
            exact gB_X5_parse_91 hC hR hL ih x4 X17
set_option maxRecDepth 20000 in
theorem k_X5_parse (l : Launch) (V : Ev) {L : List Kd} (hL : LKc L) (p1 : Int) (p2 : Int) (p3 : Int) (X : Mem) (h2 : isRule L p2) (h3 : isRiver L p3) : Kt l V L yX5_parse (.code yX5_parse cX5_parse 5 (some .boolean)) 11 292 [vR V.1 38, vI p1, vR V.1 p2, vR V.1 p3] rI X (f_X5_parse p1 p2 p3 X) := by
  refine kt_of (own := RX5) (lv0 := [(0, vR V.1 38), (1, vI p1), (2, vR V.1 p2), (3, vR V.1 p3)]) (by decide) rfl (Nat.le_of_ble_eq_true rfl) rfl (fun C hCl hC hR => ?_)
  subst hCl
  unfold f_X5_parse
  refine g_aload_n (q := 0) hC dX5_parse_0 rfl rfl rfl ?_
  refine g_aload_n (q := 2) hC dX5_parse_1 rfl rfl rfl ?_
  refine g_putD (k := 2) (kz := 2) hC cf_X5 (at_38 hL) (by decide) rfl (by decide) rfl wf_RX5_23 rfl rfl dX5_parse_2 (fun X1 => ?_)
  refine g_aload_n (q := 0) hC dX5_parse_5 rfl rfl rfl ?_
  refine g_aload_n (q := 3) hC dX5_parse_6 rfl rfl rfl ?_
  refine g_putD (k := 3) (kz := 3) hC cf_X5 (at_38 hL) (by decide) rfl (by decide) rfl wf_RX5_27 rfl rfl dX5_parse_7 (fun X2 => ?_)
  refine g_aload_n (q := 0) hC dX5_parse_10 rfl rfl rfl ?_
  refine g_iconst (v := vI 0) hC dX5_parse_11 rfl ?_
  refine g_putI (k := 4) (kz := 4) hC cf_X5 (at_38 hL) (by decide) rfl (by decide) rfl wf_RX5_15 rfl rfl dX5_parse_12 (fun X3 => ?_)
  refine g_aload_n (q := 0) hC dX5_parse_15 rfl rfl rfl ?_
  refine g_getD (k := 2) (kz := 2) hC cf_X5 (at_38 hL) (by decide) rfl (by decide) rfl wf_RX5_23 dX5_parse_16 (g_cm (l := RUL) fun m4 => ?_)
  refine g_iconst (v := vI 0) hC dX5_parse_19 rfl ?_
  refine g_putI (k := 0) (kz := 0) hC cf_X4 (ru_0 (rul_of hL m4)) (by decide) rfl (by decide) rfl wf_RX5_31 rfl rfl dX5_parse_20 (fun X5 => ?_)
  refine g_aload_n (q := 0) hC dX5_parse_23 rfl rfl rfl ?_
  refine g_getD (k := 2) (kz := 2) hC cf_X5 (at_38 hL) (by decide) rfl (by decide) rfl wf_RX5_23 dX5_parse_24 (g_cm (l := RUL) fun m6 => ?_)
  refine g_iconst (v := vI 0) hC dX5_parse_27 rfl ?_
  refine g_putI (k := 1) (kz := 1) hC cf_X4 (ru_0 (rul_of hL m6)) (by decide) rfl (by decide) rfl wf_RX5_36 rfl rfl dX5_parse_28 (fun X7 => ?_)
  refine g_aload_n (q := 0) hC dX5_parse_31 rfl rfl rfl ?_
  refine g_getS (k := 0) hC cf_X5 (at_38 hL) (by decide) rfl (by decide) (by decide) wf_RX5_19 dX5_parse_32 ?_
  refine g_iload_n (q := 1) hC dX5_parse_35 rfl rfl ?_
  refine g_callVV (As := [vI p1]) hC mv_X8_start wml_RX5_39 (k_X8_start _ V hL p1 X7) cf_X8 (at_35 hL) (by decide) ⟨Nat.zero_le _, Nat.zero_le _⟩ rfl rfl ⟨Nat.le_of_ble_eq_true rfl, Nat.le_of_ble_eq_true rfl⟩ (Nat.le_of_ble_eq_true rfl) dX5_parse_36 (fun _ X9 => ?_)
  refine g_iconst (v := vI 0) hC dX5_parse_39 rfl ?_
  refine g_istore hC dX5_parse_40 (by decide) rfl ?_
  refine g_sub [1, 0] rfl ?_
  exact gL_X5_parse_42 hC hR hL  KF 0 X9
end
