noncomputable section
def B_X9_shareOut_108 (x1 : Int) (x4 : Int) (x5 : Int) (X : Mem) : Option (Int × Mem) :=
  ax 32 x4 <|
  ax 32 x4 <| bd (ms X x1 x4 ((X x1 x4) + x5)) fun X1 =>
  some (1, X1)
def L_X9_shareOut_69 : Nat → Int → Int → Int → Int → Int → Mem → Option (Int × Mem)
  | 0, _, _, _, _, _, _ => none
  | n + 1, x1, x2, x4, x5, x7, X =>
    c2 x7 32 <| if 32 ≤ x7 then
      B_X9_shareOut_108   x1 x4 x5 X
    else
      ax 32 x7 <|
      dd ((X 41 x7) * 1000000) x2 <|
      ax 32 x7 <| bd (ms X x1 x7 (((X 41 x7) * 1000000) / x2)) fun X2 =>
      ax 32 x7 <|
      bd (x5 - (X2 x1 x7)) fun v3 =>
      L_X9_shareOut_69   n x1 x2 x4 v3 (x7 + 1) X2
def B_X9_shareOut_53 (x1 : Int) (x2 : Int) (x4 : Int) (X : Mem) : Option (Int × Mem) :=
  d2 x2 0 <| if 0 < x2 then
    L_X9_shareOut_69   KF x1 x2 x4 1000000 0 X
  else
    some (0, X)
def B_X9_shareOut_47 (go8 : Int → Int → Int → Int → Mem → Option (Int × Mem)) (x1 : Int) (x2 : Int) (x4 : Int) (x5 : Int) (X : Mem) : Option (Int × Mem) :=
  go8 x1 x2 x4 (x5 + 1) X
def L_X9_shareOut_8 : Nat → Int → Int → Int → Int → Mem → Option (Int × Mem)
  | 0, _, _, _, _, _ => none
  | n + 1, x1, x2, x4, x5, X =>
    c2 x5 32 <| if 32 ≤ x5 then
      B_X9_shareOut_53   x1 x2 x4 X
    else
      ax 32 x5 <|
      bd (x2 + (X 41 x5)) fun v4 =>
      ax 32 x5 <|
      ax 32 x4 <|
      d2 (X 41 x5) (X 41 x4) <| if (X 41 x5) ≤ (X 41 x4) then
        B_X9_shareOut_47  (fun x1 x2 x4 x5 X => L_X9_shareOut_8   n x1 x2 x4 x5 X) x1 v4 x4 x5 X
      else
        B_X9_shareOut_47  (fun x1 x2 x4 x5 X => L_X9_shareOut_8   n x1 x2 x4 x5 X) x1 v4 x5 x5 X
def f_X9_shareOut (p1 : Int) (X : Mem) : Option (Int × Mem) :=
  L_X9_shareOut_8   KF p1 0 0 0 X
set_option maxRecDepth 20000 in
theorem gB_X9_shareOut_108 {C : Cx} {V : Ev} {L : List Kd} (hC : Ok C V cX9_shareOut RX9 8 0 0) (hR : Rt C V L (some .boolean) rI) (hL : LKc L) (x1 : Int) (x4 : Int) (x5 : Int) (X : Mem) (g1 : At L x1 (101, [32])) : G C V L 0 0 8 108 [(1, vR V.1 x1), (4, vI x4), (5, vJ x5)] [] X (B_X9_shareOut_108   x1 x4 x5 X) := by
  unfold B_X9_shareOut_108
  refine g_aload_n (q := 0) hC dX9_shareOut_108 rfl rfl rfl ?_
  refine g_iload (q := 1) hC dX9_shareOut_109 rfl ?_
  refine g_dup2 hC dX9_shareOut_111 rfl rfl ?_
  refine g_lald hC g1 (by decide) dX9_shareOut_112 ?_
  refine g_lload (q := 2) hC dX9_shareOut_113 rfl ?_
  refine g_ladd hC dX9_shareOut_115 ?_
  refine g_last hC g1 (by decide) dX9_shareOut_116 (fun X1 => ?_)
  refine g_iconst (v := vI 1) hC dX9_shareOut_117 rfl ?_
  exact g_zret1 hC hR (by decide) dX9_shareOut_118
set_option maxRecDepth 20000 in
theorem gL_X9_shareOut_69 {C : Cx} {V : Ev} {L : List Kd} (hC : Ok C V cX9_shareOut RX9 8 0 0) (hR : Rt C V L (some .boolean) rI) (hL : LKc L) : ∀ (n : Nat) (x1 : Int) (x2 : Int) (x4 : Int) (x5 : Int) (x7 : Int) (X : Mem) (g1 : At L x1 (101, [32])), G C V L 0 0 8 69 [(0, vR V.1 40), (1, vR V.1 x1), (2, vJ x2), (4, vI x4), (5, vJ x5), (7, vI x7)] [] X (L_X9_shareOut_69   n x1 x2 x4 x5 x7 X) := by
  intro n
  induction n with
  | zero => intro x1 x2 x4 x5 x7 X g1; exact g_none
  | succ n ih =>
    intro x1 x2 x4 x5 x7 X g1
    rw [L_X9_shareOut_69]
    refine g_iload (q := 5) hC dX9_shareOut_69 rfl ?_
    refine g_bipush (v := vI 32) hC dX9_shareOut_71 rfl ?_
    refine g_icmp_ge (tgt := 108) hC dX9_shareOut_73 (by decide) ?_ ?_
    · refine g_sub [1, 3, 4] rfl ?_
      exact gB_X9_shareOut_108 hC hR hL  x1 x4 x5 X g1
    · refine g_aload_n (q := 1) hC dX9_shareOut_76 rfl rfl rfl ?_
      refine g_iload (q := 5) hC dX9_shareOut_77 rfl ?_
      refine g_aload_n (q := 0) hC dX9_shareOut_79 rfl rfl rfl ?_
      refine g_getS (k := 0) hC cf_X9 (at_40 hL) (by decide) rfl (by decide) (by decide) wf_RX9_9 dX9_shareOut_80 ?_
      refine g_iload (q := 5) hC dX9_shareOut_83 rfl ?_
      refine g_lald hC (at_41 hL) (by decide) dX9_shareOut_85 ?_
      refine g_ldc2 (n := 1000000) hC wk_RX9_72 rfl dX9_shareOut_86 ?_
      refine g_lmul hC dX9_shareOut_89 ?_
      refine g_lload_n (q := 2) hC dX9_shareOut_90 rfl rfl ?_
      refine g_ldiv hC dX9_shareOut_91 ?_
      refine g_last hC g1 (by decide) dX9_shareOut_92 (fun X2 => ?_)
      refine g_lload (q := 4) hC dX9_shareOut_93 rfl ?_
      refine g_aload_n (q := 1) hC dX9_shareOut_95 rfl rfl rfl ?_
      refine g_iload (q := 5) hC dX9_shareOut_96 rfl ?_
      refine g_lald hC g1 (by decide) dX9_shareOut_98 ?_
      refine g_lsub hC dX9_shareOut_99 ?_
      refine g_topJ (fun v3 => ?_)
      refine g_lstore hC dX9_shareOut_100 (by decide) rfl ?_
      refine g_iinc (q := 5) hC dX9_shareOut_102 rfl (by decide) rfl ?_
      refine g_goto (tgt := 69) hC dX9_shareOut_105 (by decide) ?_
      refine g_sub [2, 3, 4, 5, 1, 0] rfl ?_
      exact ih x1 x2 x4 v3 (x7 + 1) X2 g1
set_option maxRecDepth 20000 in
theorem gB_X9_shareOut_53 {C : Cx} {V : Ev} {L : List Kd} (hC : Ok C V cX9_shareOut RX9 8 0 0) (hR : Rt C V L (some .boolean) rI) (hL : LKc L) (x1 : Int) (x2 : Int) (x4 : Int) (X : Mem) (g1 : At L x1 (101, [32])) : G C V L 0 0 8 53 [(0, vR V.1 40), (1, vR V.1 x1), (2, vJ x2), (4, vI x4)] [] X (B_X9_shareOut_53   x1 x2 x4 X) := by
  unfold B_X9_shareOut_53
  refine g_lload_n (q := 2) hC dX9_shareOut_53 rfl rfl ?_
  refine g_lconst (v := vJ 0) hC dX9_shareOut_54 rfl ?_
  refine g_lcmp_gt (tgt := 61) hC dX9_shareOut_55 rfl dX9_shareOut_56 (by decide) ?_ ?_
  · refine g_ldc2 (n := 1000000) hC wk_RX9_72 rfl dX9_shareOut_61 ?_
    refine g_lstore hC dX9_shareOut_64 (by decide) rfl ?_
    refine g_iconst (v := vI 0) hC dX9_shareOut_66 rfl ?_
    refine g_istore hC dX9_shareOut_67 (by decide) rfl ?_
    refine g_sub [2, 3, 4, 5, 1, 0] rfl ?_
    exact gL_X9_shareOut_69 hC hR hL  KF x1 x2 x4 1000000 0 X g1
  · refine g_iconst (v := vI 0) hC dX9_shareOut_59 rfl ?_
    exact g_zret1 hC hR (by decide) dX9_shareOut_60
set_option maxRecDepth 20000 in
theorem gB_X9_shareOut_47 {C : Cx} {V : Ev} {L : List Kd} (hC : Ok C V cX9_shareOut RX9 8 0 0) (hR : Rt C V L (some .boolean) rI) (hL : LKc L) {go8 : Int → Int → Int → Int → Mem → Option (Int × Mem)} (hgo8 : ∀ (x1 : Int) (x2 : Int) (x4 : Int) (x5 : Int) (X : Mem), At L x1 (101, [32]) → G C V L 0 0 8 8 [(0, vR V.1 40), (1, vR V.1 x1), (2, vJ x2), (4, vI x4), (5, vI x5)] [] X (go8 x1 x2 x4 x5 X)) (x1 : Int) (x2 : Int) (x4 : Int) (x5 : Int) (X : Mem) (g1 : At L x1 (101, [32])) : G C V L 0 0 8 47 [(0, vR V.1 40), (1, vR V.1 x1), (2, vJ x2), (4, vI x4), (5, vI x5)] [] X (B_X9_shareOut_47  go8 x1 x2 x4 x5 X) := by
  unfold B_X9_shareOut_47
  refine g_iinc (q := 4) hC dX9_shareOut_47 rfl (by decide) rfl ?_
  refine g_goto (tgt := 8) hC dX9_shareOut_50 (by decide) ?_
  refine g_sub [1, 2, 3, 4, 0] rfl ?_
  exact hgo8 x1 x2 x4 (x5 + 1) X g1
set_option maxRecDepth 20000 in
theorem gL_X9_shareOut_8 {C : Cx} {V : Ev} {L : List Kd} (hC : Ok C V cX9_shareOut RX9 8 0 0) (hR : Rt C V L (some .boolean) rI) (hL : LKc L) : ∀ (n : Nat) (x1 : Int) (x2 : Int) (x4 : Int) (x5 : Int) (X : Mem) (g1 : At L x1 (101, [32])), G C V L 0 0 8 8 [(0, vR V.1 40), (1, vR V.1 x1), (2, vJ x2), (4, vI x4), (5, vI x5)] [] X (L_X9_shareOut_8   n x1 x2 x4 x5 X) := by
  intro n
  induction n with
  | zero => intro x1 x2 x4 x5 X g1; exact g_none
  | succ n ih =>
    intro x1 x2 x4 x5 X g1
    rw [L_X9_shareOut_8]
    refine g_iload (q := 4) hC dX9_shareOut_8 rfl ?_
    refine g_bipush (v := vI 32) hC dX9_shareOut_10 rfl ?_
    refine g_icmp_ge (tgt := 53) hC dX9_shareOut_12 (by decide) ?_ ?_
    · refine g_sub [0, 1, 2, 3] rfl ?_
      exact gB_X9_shareOut_53 hC hR hL  x1 x2 x4 X g1
    · refine g_lload_n (q := 2) hC dX9_shareOut_15 rfl rfl ?_
      refine g_aload_n (q := 0) hC dX9_shareOut_16 rfl rfl rfl ?_
      refine g_getS (k := 0) hC cf_X9 (at_40 hL) (by decide) rfl (by decide) (by decide) wf_RX9_9 dX9_shareOut_17 ?_
      refine g_iload (q := 4) hC dX9_shareOut_20 rfl ?_
      refine g_lald hC (at_41 hL) (by decide) dX9_shareOut_22 ?_
      refine g_ladd hC dX9_shareOut_23 ?_
      refine g_topJ (fun v4 => ?_)
      refine g_lstore_n hC dX9_shareOut_24 rfl (by decide) rfl ?_
      refine g_aload_n (q := 1) hC dX9_shareOut_25 rfl rfl rfl ?_
      refine g_getS (k := 0) hC cf_X9 (at_40 hL) (by decide) rfl (by decide) (by decide) wf_RX9_9 dX9_shareOut_26 ?_
      refine g_iload (q := 4) hC dX9_shareOut_29 rfl ?_
      refine g_lald hC (at_41 hL) (by decide) dX9_shareOut_31 ?_
      refine g_aload_n (q := 1) hC dX9_shareOut_32 rfl rfl rfl ?_
      refine g_getS (k := 0) hC cf_X9 (at_40 hL) (by decide) rfl (by decide) (by decide) wf_RX9_9 dX9_shareOut_33 ?_
      refine g_iload (q := 3) hC dX9_shareOut_36 rfl ?_
      refine g_lald hC (at_41 hL) (by decide) dX9_shareOut_38 ?_
      refine g_lcmp_le (tgt := 47) hC dX9_shareOut_39 rfl dX9_shareOut_40 (by decide) ?_ ?_
      · refine g_sub [1, 2, 0, 3, 4] rfl ?_
        exact gB_X9_shareOut_47 hC hR hL ih x1 v4 x4 x5 X g1
      · refine g_iload (q := 4) hC dX9_shareOut_43 rfl ?_
        refine g_istore hC dX9_shareOut_45 (by decide) rfl ?_
        refine g_sub [2, 3, 1, 0, 4] rfl ?_
        exact gB_X9_shareOut_47 hC hR hL ih x1 v4 x5 x5 X g1
set_option maxRecDepth 20000 in
theorem k_X9_shareOut (l : Launch) (V : Ev) {L : List Kd} (hL : LKc L) (p1 : Int) (X : Mem) (h1 : At L p1 (101, [32])) : Kt l V L yX9_shareOut (.code yX9_shareOut cX9_shareOut 8 (some .boolean)) 0 0 [vR V.1 40, vR V.1 p1] rI X (f_X9_shareOut p1 X) := by
  refine kt_of (own := RX9) (lv0 := [(0, vR V.1 40), (1, vR V.1 p1)]) (by decide) rfl (Nat.le_of_ble_eq_true rfl) rfl (fun C hCl hC hR => ?_)
  subst hCl
  unfold f_X9_shareOut
  refine g_lconst (v := vJ 0) hC dX9_shareOut_0 rfl ?_
  refine g_lstore_n hC dX9_shareOut_1 rfl (by decide) rfl ?_
  refine g_iconst (v := vI 0) hC dX9_shareOut_2 rfl ?_
  refine g_istore hC dX9_shareOut_3 (by decide) rfl ?_
  refine g_iconst (v := vI 0) hC dX9_shareOut_5 rfl ?_
  refine g_istore hC dX9_shareOut_6 (by decide) rfl ?_
  refine g_sub [3, 4, 2, 1, 0] rfl ?_
  exact gL_X9_shareOut_8 hC hR hL  KF p1 0 0 0 X h1
def B_X9_think_102 (x2 : Int) (X : Mem) : Option (Int × Mem) :=
  cl (f_X9_shareOut x2 X) fun r5 X6 =>
  some (0, X6)
def B_X9_think_96 (go10 : Int → Int → Int → Mem → Option (Int × Mem)) (x1 : Int) (x2 : Int) (x3 : Int) (X : Mem) : Option (Int × Mem) :=
  go10 x1 x2 (x3 + 1) X
def B_X9_think_88 (go10 : Int → Int → Int → Mem → Option (Int × Mem)) (go28 : Int → Int → Int → Int → Mem → Option (Int × Mem)) (x1 : Int) (x2 : Int) (x3 : Int) (x4 : Int) (s0 : Int) (s1 : Int) (s2 : Int) (X : Mem) : Option (Int × Mem) :=
  ax 32 s2 <| bd (ms X 41 s2 (s1 * s0)) fun X8 =>
  go28 x1 x2 x3 (x4 + 1) X8
def B_X9_think_52 (go10 : Int → Int → Int → Mem → Option (Int × Mem)) (go28 : Int → Int → Int → Int → Mem → Option (Int × Mem)) (x1 : Int) (x2 : Int) (x3 : Int) (x4 : Int) (s0 : Int) (X : Mem) : Option (Int × Mem) :=
  ax 32 x3 <|
  c1 s0 <| if s0 = 0 then
    ax 5 x4 <|
    c1 (16 - (X (x1 + 6) x4)) <|
    B_X9_think_88  go10 go28 x1 x2 x3 x4 (16 - (X (x1 + 6) x4)) (X 41 x3) x3 X
  else
    ax 5 x4 <|
    c1 (X (x1 + 6) x4) <|
    B_X9_think_88  go10 go28 x1 x2 x3 x4 (X (x1 + 6) x4) (X 41 x3) x3 X
def L_X9_think_28 (go10 : Int → Int → Int → Mem → Option (Int × Mem)) : Nat → Int → Int → Int → Int → Mem → Option (Int × Mem)
  | 0, _, _, _, _, _ => none
  | n + 1, x1, x2, x3, x4, X =>
    c2 x4 (X x1 2) <| if (X x1 2) ≤ x4 then
      B_X9_think_96  go10 x1 x2 x3 X
    else
      c2 (ia (ishr x3 x4) 1) 1 <| if ¬ (ia (ishr x3 x4) 1) = 1 then
        B_X9_think_52  go10 (fun x1 x2 x3 x4 X => L_X9_think_28  go10 n x1 x2 x3 x4 X) x1 x2 x3 x4 0 X
      else
        B_X9_think_52  go10 (fun x1 x2 x3 x4 X => L_X9_think_28  go10 n x1 x2 x3 x4 X) x1 x2 x3 x4 1 X
def L_X9_think_10 : Nat → Int → Int → Int → Mem → Option (Int × Mem)
  | 0, _, _, _, _ => none
  | n + 1, x1, x2, x3, X =>
    cl (f_X2_setCount x1 X) fun r3 X4 =>
    c2 x3 r3 <| if r3 ≤ x3 then
      B_X9_think_102   x2 X4
    else
      ax 32 x3 <| bd (ms X4 41 x3 1) fun X7 =>
      L_X9_think_28  (fun x1 x2 x3 X => L_X9_think_10   n x1 x2 x3 X) KF x1 x2 x3 0 X7
def f_X9_think (p1 : Int) (p2 : Int) (X : Mem) : Option (Int × Mem) :=
  cl (f_J7_fill_d0a16 41 32 0 X) fun _ X2 =>
  L_X9_think_10   KF p1 p2 0 X2
set_option maxRecDepth 20000 in
theorem gB_X9_think_102 {C : Cx} {V : Ev} {L : List Kd} (hC : Ok C V cX9_think RX9 6 1 27) (hR : Rt C V L none rV) (hL : LKc L) (x2 : Int) (X : Mem) (g2 : At L x2 (101, [32])) : G C V L 0 0 6 102 [(0, vR V.1 40), (2, vR V.1 x2)] [] X (B_X9_think_102   x2 X) := by
  unfold B_X9_think_102
  refine g_aload_n (q := 0) hC dX9_think_102 rfl rfl rfl ?_
  refine g_aload_n (q := 1) hC dX9_think_103 rfl rfl rfl ?_
  refine g_callVI (As := [vR V.1 x2]) hC mv_X9_shareOut wml_RX9_35 (k_X9_shareOut _ V hL x2 X g2) cf_X9 (at_40 hL) (by decide) ⟨Nat.zero_le _, Nat.zero_le _⟩ rfl rfl ⟨Nat.le_of_ble_eq_true rfl, Nat.le_of_ble_eq_true rfl⟩ (Nat.le_of_ble_eq_true rfl) dX9_think_104 (fun r5 X6 => ?_)
  refine g_pop hC dX9_think_107 rfl ?_
  exact g_vret hC hR dX9_think_108
set_option maxRecDepth 20000 in
theorem gB_X9_think_96 {C : Cx} {V : Ev} {L : List Kd} (hC : Ok C V cX9_think RX9 6 1 27) (hR : Rt C V L none rV) (hL : LKc L) {go10 : Int → Int → Int → Mem → Option (Int × Mem)} (hgo10 : ∀ (x1 : Int) (x2 : Int) (x3 : Int) (X : Mem), isRiver L x1 → At L x2 (101, [32]) → G C V L 0 0 6 10 [(0, vR V.1 40), (1, vR V.1 x1), (2, vR V.1 x2), (3, vI x3)] [] X (go10 x1 x2 x3 X)) (x1 : Int) (x2 : Int) (x3 : Int) (X : Mem) (g1 : isRiver L x1) (g2 : At L x2 (101, [32])) : G C V L 0 0 6 96 [(0, vR V.1 40), (1, vR V.1 x1), (2, vR V.1 x2), (3, vI x3)] [] X (B_X9_think_96  go10 x1 x2 x3 X) := by
  unfold B_X9_think_96
  refine g_iinc (q := 3) hC dX9_think_96 rfl (by decide) rfl ?_
  refine g_goto (tgt := 10) hC dX9_think_99 (by decide) ?_
  refine g_sub [1, 2, 3, 0] rfl ?_
  exact hgo10 x1 x2 (x3 + 1) X g1 g2
set_option maxRecDepth 20000 in
theorem gB_X9_think_88 {C : Cx} {V : Ev} {L : List Kd} (hC : Ok C V cX9_think RX9 6 1 27) (hR : Rt C V L none rV) (hL : LKc L) {go10 : Int → Int → Int → Mem → Option (Int × Mem)} {go28 : Int → Int → Int → Int → Mem → Option (Int × Mem)} (hgo10 : ∀ (x1 : Int) (x2 : Int) (x3 : Int) (X : Mem), isRiver L x1 → At L x2 (101, [32]) → G C V L 0 0 6 10 [(0, vR V.1 40), (1, vR V.1 x1), (2, vR V.1 x2), (3, vI x3)] [] X (go10 x1 x2 x3 X)) (hgo28 : ∀ (x1 : Int) (x2 : Int) (x3 : Int) (x4 : Int) (X : Mem), isRiver L x1 → At L x2 (101, [32]) → G C V L 0 0 6 28 [(0, vR V.1 40), (1, vR V.1 x1), (2, vR V.1 x2), (3, vI x3), (4, vI x4)] [] X (go28 x1 x2 x3 x4 X)) (x1 : Int) (x2 : Int) (x3 : Int) (x4 : Int) (s0 : Int) (s1 : Int) (s2 : Int) (X : Mem) (g1 : isRiver L x1) (g2 : At L x2 (101, [32])) : G C V L 0 0 6 88 [(0, vR V.1 40), (1, vR V.1 x1), (2, vR V.1 x2), (3, vI x3), (4, vI x4)] [vJ s0, vJ s1, vI s2, vR V.1 41] X (B_X9_think_88  go10 go28 x1 x2 x3 x4 s0 s1 s2 X) := by
  unfold B_X9_think_88
  refine g_lmul hC dX9_think_88 ?_
  refine g_last hC (at_41 hL) (by decide) dX9_think_89 (fun X8 => ?_)
  refine g_iinc (q := 4) hC dX9_think_90 rfl (by decide) rfl ?_
  refine g_goto (tgt := 28) hC dX9_think_93 (by decide) ?_
  refine g_sub [1, 2, 3, 4, 0] rfl ?_
  exact hgo28 x1 x2 x3 (x4 + 1) X8 g1 g2
set_option maxRecDepth 20000 in
theorem gB_X9_think_52 {C : Cx} {V : Ev} {L : List Kd} (hC : Ok C V cX9_think RX9 6 1 27) (hR : Rt C V L none rV) (hL : LKc L) {go10 : Int → Int → Int → Mem → Option (Int × Mem)} {go28 : Int → Int → Int → Int → Mem → Option (Int × Mem)} (hgo10 : ∀ (x1 : Int) (x2 : Int) (x3 : Int) (X : Mem), isRiver L x1 → At L x2 (101, [32]) → G C V L 0 0 6 10 [(0, vR V.1 40), (1, vR V.1 x1), (2, vR V.1 x2), (3, vI x3)] [] X (go10 x1 x2 x3 X)) (hgo28 : ∀ (x1 : Int) (x2 : Int) (x3 : Int) (x4 : Int) (X : Mem), isRiver L x1 → At L x2 (101, [32]) → G C V L 0 0 6 28 [(0, vR V.1 40), (1, vR V.1 x1), (2, vR V.1 x2), (3, vI x3), (4, vI x4)] [] X (go28 x1 x2 x3 x4 X)) (x1 : Int) (x2 : Int) (x3 : Int) (x4 : Int) (s0 : Int) (X : Mem) (g1 : isRiver L x1) (g2 : At L x2 (101, [32])) : G C V L 0 0 6 52 [(0, vR V.1 40), (1, vR V.1 x1), (2, vR V.1 x2), (3, vI x3), (4, vI x4)] [vI s0] X (B_X9_think_52  go10 go28 x1 x2 x3 x4 s0 X) := by
  unfold B_X9_think_52
  refine g_istore hC dX9_think_52 (by decide) rfl ?_
  refine g_aload_n (q := 1) hC dX9_think_54 rfl rfl rfl ?_
  refine g_getS (k := 0) hC cf_X9 (at_40 hL) (by decide) rfl (by decide) (by decide) wf_RX9_9 dX9_think_55 ?_
  refine g_iload_n (q := 4) hC dX9_think_58 rfl rfl ?_
  refine g_dup2 hC dX9_think_59 rfl rfl ?_
  refine g_lald hC (at_41 hL) (by decide) dX9_think_60 ?_
  refine g_iload (q := 0) hC dX9_think_61 rfl ?_
  refine g_if_eq (tgt := 77) hC dX9_think_63 (by decide) ?_ ?_
  · refine g_bipush (v := vI 16) hC dX9_think_77 rfl ?_
    refine g_aload_n (q := 2) hC dX9_think_79 rfl rfl rfl ?_
    refine g_getS (k := 16) hC cf_X2 (rv_0 g1) (by decide) rfl (add_nn (rv_0 g1)) (by decide) wf_RX9_31 dX9_think_80 ?_
    refine g_iload (q := 5) hC dX9_think_83 rfl ?_
    refine g_iald hC (rv_6 g1) (by decide) dX9_think_85 ?_
    refine g_isub hC dX9_think_86 ?_
    refine g_i2l hC dX9_think_87 ?_
    refine g_sub [1, 2, 3, 4, 5] rfl ?_
    exact gB_X9_think_88 hC hR hL hgo10 hgo28 x1 x2 x3 x4 (16 - (X (x1 + 6) x4)) (X 41 x3) x3 X g1 g2
  · refine g_aload_n (q := 2) hC dX9_think_66 rfl rfl rfl ?_
    refine g_getS (k := 16) hC cf_X2 (rv_0 g1) (by decide) rfl (add_nn (rv_0 g1)) (by decide) wf_RX9_31 dX9_think_67 ?_
    refine g_iload (q := 5) hC dX9_think_70 rfl ?_
    refine g_iald hC (rv_6 g1) (by decide) dX9_think_72 ?_
    refine g_i2l hC dX9_think_73 ?_
    refine g_goto (tgt := 88) hC dX9_think_74 (by decide) ?_
    refine g_sub [1, 2, 3, 4, 5] rfl ?_
    exact gB_X9_think_88 hC hR hL hgo10 hgo28 x1 x2 x3 x4 (X (x1 + 6) x4) (X 41 x3) x3 X g1 g2
set_option maxRecDepth 20000 in
theorem gL_X9_think_28 {C : Cx} {V : Ev} {L : List Kd} (hC : Ok C V cX9_think RX9 6 1 27) (hR : Rt C V L none rV) (hL : LKc L) {go10 : Int → Int → Int → Mem → Option (Int × Mem)} (hgo10 : ∀ (x1 : Int) (x2 : Int) (x3 : Int) (X : Mem), isRiver L x1 → At L x2 (101, [32]) → G C V L 0 0 6 10 [(0, vR V.1 40), (1, vR V.1 x1), (2, vR V.1 x2), (3, vI x3)] [] X (go10 x1 x2 x3 X)) : ∀ (n : Nat) (x1 : Int) (x2 : Int) (x3 : Int) (x4 : Int) (X : Mem) (g1 : isRiver L x1) (g2 : At L x2 (101, [32])), G C V L 0 0 6 28 [(0, vR V.1 40), (1, vR V.1 x1), (2, vR V.1 x2), (3, vI x3), (4, vI x4)] [] X (L_X9_think_28  go10 n x1 x2 x3 x4 X) := by
  intro n
  induction n with
  | zero => intro x1 x2 x3 x4 X g1 g2; exact g_none
  | succ n ih =>
    intro x1 x2 x3 x4 X g1 g2
    rw [L_X9_think_28]
    refine g_iload (q := 4) hC dX9_think_28 rfl ?_
    refine g_aload_n (q := 1) hC dX9_think_30 rfl rfl rfl ?_
    refine g_getI (k := 2) (kz := 2) hC cf_X2 (rv_0 g1) (by decide) rfl (by decide) rfl wf_RX9_27 dX9_think_31 ?_
    refine g_icmp_ge (tgt := 96) hC dX9_think_34 (by decide) ?_ ?_
    · refine g_sub [0, 1, 2, 3] rfl ?_
      exact gB_X9_think_96 hC hR hL hgo10 x1 x2 x3 X g1 g2
    · refine g_iload_n (q := 3) hC dX9_think_37 rfl rfl ?_
      refine g_iload (q := 4) hC dX9_think_38 rfl ?_
      refine g_ishr hC dX9_think_40 ?_
      refine g_iconst (v := vI 1) hC dX9_think_41 rfl ?_
      refine g_iand hC dX9_think_42 ?_
      refine g_iconst (v := vI 1) hC dX9_think_43 rfl ?_
      refine g_icmp_ne (tgt := 51) hC dX9_think_44 (by decide) ?_ ?_
      · refine g_iconst (v := vI 0) hC dX9_think_51 rfl ?_
        exact gB_X9_think_52 hC hR hL hgo10 ih x1 x2 x3 x4 0 X g1 g2
      · refine g_iconst (v := vI 1) hC dX9_think_47 rfl ?_
        refine g_goto (tgt := 52) hC dX9_think_48 (by decide) ?_
        exact gB_X9_think_52 hC hR hL hgo10 ih x1 x2 x3 x4 1 X g1 g2
set_option maxRecDepth 20000 in
theorem gL_X9_think_10 {C : Cx} {V : Ev} {L : List Kd} (hC : Ok C V cX9_think RX9 6 1 27) (hR : Rt C V L none rV) (hL : LKc L) : ∀ (n : Nat) (x1 : Int) (x2 : Int) (x3 : Int) (X : Mem) (g1 : isRiver L x1) (g2 : At L x2 (101, [32])), G C V L 0 0 6 10 [(0, vR V.1 40), (1, vR V.1 x1), (2, vR V.1 x2), (3, vI x3)] [] X (L_X9_think_10   n x1 x2 x3 X) := by
  intro n
  induction n with
  | zero => intro x1 x2 x3 X g1 g2; exact g_none
  | succ n ih =>
    intro x1 x2 x3 X g1 g2
    rw [L_X9_think_10]
    refine g_iload_n (q := 3) hC dX9_think_10 rfl rfl ?_
    refine g_aload_n (q := 1) hC dX9_think_11 rfl rfl rfl ?_
    refine g_callVI (As := []) hC mv_X2_setCount wml_RX9_21 (k_X2_setCount _ V x1 X g1) cf_X2 (rv_0 g1) (by decide) ⟨Nat.zero_le _, Nat.zero_le _⟩ rfl rfl ⟨Nat.le_of_ble_eq_true rfl, Nat.le_of_ble_eq_true rfl⟩ (Nat.le_of_ble_eq_true rfl) dX9_think_12 (fun r3 X4 => ?_)
    refine g_icmp_ge (tgt := 102) hC dX9_think_15 (by decide) ?_ ?_
    · refine g_sub [0, 2] rfl ?_
      exact gB_X9_think_102 hC hR hL  x2 X4 g2
    · refine g_aload_n (q := 0) hC dX9_think_18 rfl rfl rfl ?_
      refine g_getS (k := 0) hC cf_X9 (at_40 hL) (by decide) rfl (by decide) (by decide) wf_RX9_9 dX9_think_19 ?_
      refine g_iload_n (q := 3) hC dX9_think_22 rfl rfl ?_
      refine g_lconst (v := vJ 1) hC dX9_think_23 rfl ?_
      refine g_last hC (at_41 hL) (by decide) dX9_think_24 (fun X7 => ?_)
      refine g_iconst (v := vI 0) hC dX9_think_25 rfl ?_
      refine g_istore hC dX9_think_26 (by decide) rfl ?_
      refine g_sub [1, 2, 3, 4, 0] rfl ?_
      exact gL_X9_think_28 hC hR hL ih KF x1 x2 x3 0 X7 g1 g2
set_option maxRecDepth 20000 in
theorem k_X9_think (l : Launch) (V : Ev) {L : List Kd} (hL : LKc L) (p1 : Int) (p2 : Int) (X : Mem) (h1 : isRiver L p1) (h2 : At L p2 (101, [32])) : Kt l V L yX9_think (.code yX9_think cX9_think 6 none) 1 27 [vR V.1 40, vR V.1 p1, vR V.1 p2] rV X (f_X9_think p1 p2 X) := by
  refine kt_of (own := RX9) (lv0 := [(0, vR V.1 40), (1, vR V.1 p1), (2, vR V.1 p2)]) (by decide) rfl (Nat.le_of_ble_eq_true rfl) rfl (fun C hCl hC hR => ?_)
  subst hCl
  unfold f_X9_think
  refine g_aload_n (q := 0) hC dX9_think_0 rfl rfl rfl ?_
  refine g_getS (k := 0) hC cf_X9 (at_40 hL) (by decide) rfl (by decide) (by decide) wf_RX9_9 dX9_think_1 ?_
  refine g_lconst (v := vJ 0) hC dX9_think_4 rfl ?_
  refine g_callSV (As := [vR V.1 41, vJ 0]) hC mt_J7_fill_d0a16 wml_RX9_15 (k_J7_fill_d0a16 _ V 41 32 0 X (by decide) (at_41 hL)) ⟨Nat.zero_le _, Nat.zero_le _⟩ rfl rfl ⟨Nat.le_of_ble_eq_true rfl, Nat.le_of_ble_eq_true rfl⟩ (Nat.le_of_ble_eq_true rfl) dX9_think_5 (fun _ X2 => ?_)
  refine g_iconst (v := vI 0) hC dX9_think_8 rfl ?_
  refine g_istore_n hC dX9_think_9 rfl (by decide) rfl ?_
  refine g_sub [1, 2, 3, 0] rfl ?_
  exact gL_X9_think_10 hC hR hL  KF p1 p2 0 X2 h1 h2
def f_X11_status  (X : Mem) : Option (Int × Mem) :=
  some (X 0 16, X)
set_option maxRecDepth 20000 in
theorem k_X11_status (l : Launch) (V : Ev) {L : List Kd} (hL : LKc L)  (X : Mem)  : Kt l V L yX11_status (.code yX11_status cX11_status 1 (some .int)) 0 0 [vR V.1 0] rI X (f_X11_status  X) := by
  refine kt_of (own := RX11) (lv0 := [(0, vR V.1 0)]) (by decide) rfl (Nat.le_of_ble_eq_true rfl) rfl (fun C hCl hC hR => ?_)
  subst hCl
  unfold f_X11_status
  refine g_aload_n (q := 0) hC dX11_status_0 rfl rfl rfl ?_
  refine g_getI (k := 16) (kz := 16) hC cf_X11 (at_0 hL) (by decide) rfl (by decide) rfl wf_RX11_118 dX11_status_1 ?_
  exact g_iret hC hR dX11_status_4
def f_X11_top  (X : Mem) : Option (Int × Mem) :=
  some (X 0 17, X)
set_option maxRecDepth 20000 in
theorem k_X11_top (l : Launch) (V : Ev) {L : List Kd} (hL : LKc L)  (X : Mem)  : Kt l V L yX11_top (.code yX11_top cX11_top 1 (some .long)) 0 0 [vR V.1 0] rJ X (f_X11_top  X) := by
  refine kt_of (own := RX11) (lv0 := [(0, vR V.1 0)]) (by decide) rfl (Nat.le_of_ble_eq_true rfl) rfl (fun C hCl hC hR => ?_)
  subst hCl
  unfold f_X11_top
  refine g_aload_n (q := 0) hC dX11_top_0 rfl rfl rfl ?_
  refine g_getJ (k := 17) (kz := 17) hC cf_X11 (at_0 hL) (by decide) rfl (by decide) rfl wf_RX11_121 dX11_top_1 ?_
  exact g_lret hC hR dX11_top_4
def f_X11_bottom  (X : Mem) : Option (Int × Mem) :=
  some (X 0 18, X)
set_option maxRecDepth 20000 in
theorem k_X11_bottom (l : Launch) (V : Ev) {L : List Kd} (hL : LKc L)  (X : Mem)  : Kt l V L yX11_bottom (.code yX11_bottom cX11_bottom 1 (some .long)) 0 0 [vR V.1 0] rJ X (f_X11_bottom  X) := by
  refine kt_of (own := RX11) (lv0 := [(0, vR V.1 0)]) (by decide) rfl (Nat.le_of_ble_eq_true rfl) rfl (fun C hCl hC hR => ?_)
  subst hCl
  unfold f_X11_bottom
  refine g_aload_n (q := 0) hC dX11_bottom_0 rfl rfl rfl ?_
  refine g_getJ (k := 18) (kz := 18) hC cf_X11 (at_0 hL) (by decide) rfl (by decide) rfl wf_RX11_125 dX11_bottom_1 ?_
  exact g_lret hC hR dX11_bottom_4
def f_X11_isTray (p1 : Int) (X : Mem) : Option (Int × Mem) :=
  c1 p1 <| if p1 < 0 then
    some (0, X)
  else
    c2 p1 4 <| if 4 ≤ p1 then
      some (0, X)
    else
      some (1, X)
set_option maxRecDepth 20000 in
theorem k_X11_isTray (l : Launch) (V : Ev) {L : List Kd} (hL : LKc L) (p1 : Int) (X : Mem)  : Kt l V L yX11_isTray (.code yX11_isTray cX11_isTray 1 (some .boolean)) 0 0 [vI p1] rI X (f_X11_isTray p1 X) := by
  refine kt_of (own := RX11) (lv0 := [(0, vI p1)]) (by decide) rfl (Nat.le_of_ble_eq_true rfl) rfl (fun C hCl hC hR => ?_)
  subst hCl
  unfold f_X11_isTray
  refine g_iload_n (q := 0) hC dX11_isTray_0 rfl rfl ?_
  refine g_if_lt (tgt := 13) hC dX11_isTray_1 (by decide) ?_ ?_
  · refine g_iconst (v := vI 0) hC dX11_isTray_13 rfl ?_
    exact g_zret1 hC hR (by decide) dX11_isTray_14
  · refine g_iload_n (q := 0) hC dX11_isTray_4 rfl rfl ?_
    refine g_iconst (v := vI 4) hC dX11_isTray_5 rfl ?_
    refine g_icmp_ge (tgt := 13) hC dX11_isTray_6 (by decide) ?_ ?_
    · refine g_iconst (v := vI 0) hC dX11_isTray_13 rfl ?_
      exact g_zret1 hC hR (by decide) dX11_isTray_14
    · refine g_iconst (v := vI 1) hC dX11_isTray_9 rfl ?_
      refine g_goto (tgt := 14) hC dX11_isTray_10 (by decide) ?_
      exact g_zret1 hC hR (by decide) dX11_isTray_14
def f_X11_refuse (p1 : Int) (X : Mem) : Option (Int × Mem) :=
  bd (ms X 0 16 p1) fun X1 =>
  some (0, X1)
set_option maxRecDepth 20000 in
theorem k_X11_refuse (l : Launch) (V : Ev) {L : List Kd} (hL : LKc L) (p1 : Int) (X : Mem)  : Kt l V L yX11_refuse (.code yX11_refuse cX11_refuse 2 (some .boolean)) 0 0 [vR V.1 0, vI p1] rI X (f_X11_refuse p1 X) := by
  refine kt_of (own := RX11) (lv0 := [(0, vR V.1 0), (1, vI p1)]) (by decide) rfl (Nat.le_of_ble_eq_true rfl) rfl (fun C hCl hC hR => ?_)
  subst hCl
  unfold f_X11_refuse
  refine g_aload_n (q := 0) hC dX11_refuse_0 rfl rfl rfl ?_
  refine g_iload_n (q := 1) hC dX11_refuse_1 rfl rfl ?_
  refine g_putI (k := 16) (kz := 16) hC cf_X11 (at_0 hL) (by decide) rfl (by decide) rfl wf_RX11_118 rfl rfl dX11_refuse_2 (fun X1 => ?_)
  refine g_iconst (v := vI 0) hC dX11_refuse_5 rfl ?_
  exact g_zret1 hC hR (by decide) dX11_refuse_6
def f_X11_agree  (X : Mem) : Option (Int × Mem) :=
  bd (ms X 0 16 0) fun X1 =>
  some (1, X1)
set_option maxRecDepth 20000 in
theorem k_X11_agree (l : Launch) (V : Ev) {L : List Kd} (hL : LKc L)  (X : Mem)  : Kt l V L yX11_agree (.code yX11_agree cX11_agree 1 (some .boolean)) 0 0 [vR V.1 0] rI X (f_X11_agree  X) := by
  refine kt_of (own := RX11) (lv0 := [(0, vR V.1 0)]) (by decide) rfl (Nat.le_of_ble_eq_true rfl) rfl (fun C hCl hC hR => ?_)
  subst hCl
  unfold f_X11_agree
  refine g_aload_n (q := 0) hC dX11_agree_0 rfl rfl rfl ?_
  refine g_iconst (v := vI 0) hC dX11_agree_1 rfl ?_
  refine g_putI (k := 16) (kz := 16) hC cf_X11 (at_0 hL) (by decide) rfl (by decide) rfl wf_RX11_118 rfl rfl dX11_agree_2 (fun X1 => ?_)
  refine g_iconst (v := vI 1) hC dX11_agree_5 rfl ?_
  exact g_zret1 hC hR (by decide) dX11_agree_6
def B_X11_tray_26  (X : Mem) : Option (Int × Mem) :=
  cl (f_X11_refuse 1 X) fun r3 X4 =>
  cz r3 (some (r3, X4))
def f_X11_tray (p1 : Int) (p2 : Int) (p3 : Int) (X : Mem) : Option (Int × Mem) :=
  cl (f_X11_isTray p1 X) fun r1 X2 =>
  c1 r1 <| if r1 = 0 then
    B_X11_tray_26   X2
  else
    c1 p2 <| if p2 < 0 then
      B_X11_tray_26   X2
    else
      c2 p2 3 <| if 3 < p2 then
        B_X11_tray_26   X2
      else
        c1 p3 <| if p3 < 0 then
          B_X11_tray_26   X2
        else
          c2 p3 60 <| if p3 ≤ 60 then
            ax TRA.length p1 <| cm TRA (tl TRA p1) <|
            cl (f_X10_lay (tl TRA p1) p2 p3 X2) fun _ X7 =>
            cl (f_X11_agree X7) fun r8 X9 =>
            cz r8 (some (r8, X9))
          else
            B_X11_tray_26   X2
set_option maxRecDepth 20000 in
theorem gB_X11_tray_26 {C : Cx} {V : Ev} {L : List Kd} (hC : Ok C V cX11_tray RX11 4 2 46) (hR : Rt C V L (some .boolean) rI) (hL : LKc L)  (X : Mem)  : G C V L 0 0 4 26 [(0, vR V.1 0)] [] X (B_X11_tray_26    X) := by
  unfold B_X11_tray_26
  refine g_aload_n (q := 0) hC dX11_tray_26 rfl rfl rfl ?_
  refine g_iconst (v := vI 1) hC dX11_tray_27 rfl ?_
  refine g_callVI (As := [vI 1]) hC mv_X11_refuse wml_RX11_140 (k_X11_refuse _ V hL 1 X) cf_X11 (at_0 hL) (by decide) ⟨Nat.zero_le _, Nat.zero_le _⟩ rfl rfl ⟨Nat.le_of_ble_eq_true rfl, Nat.le_of_ble_eq_true rfl⟩ (Nat.le_of_ble_eq_true rfl) dX11_tray_28 (fun r3 X4 => ?_)
  exact g_zret hC hR dX11_tray_31
set_option maxRecDepth 20000 in
theorem k_X11_tray (l : Launch) (V : Ev) {L : List Kd} (hL : LKc L) (p1 : Int) (p2 : Int) (p3 : Int) (X : Mem)  : Kt l V L yX11_tray (.code yX11_tray cX11_tray 4 (some .boolean)) 2 46 [vR V.1 0, vI p1, vI p2, vI p3] rI X (f_X11_tray p1 p2 p3 X) := by
  refine kt_of (own := RX11) (lv0 := [(0, vR V.1 0), (1, vI p1), (2, vI p2), (3, vI p3)]) (by decide) rfl (Nat.le_of_ble_eq_true rfl) rfl (fun C hCl hC hR => ?_)
  subst hCl
  unfold f_X11_tray
  refine g_iload_n (q := 1) hC dX11_tray_0 rfl rfl ?_
  refine g_callSI (As := [vI p1]) hC mt_X11_isTray wml_RX11_136 (k_X11_isTray _ V hL p1 X) ⟨Nat.zero_le _, Nat.zero_le _⟩ rfl rfl ⟨Nat.le_of_ble_eq_true rfl, Nat.le_of_ble_eq_true rfl⟩ (Nat.le_of_ble_eq_true rfl) dX11_tray_1 (fun r1 X2 => ?_)
  refine g_if_eq (tgt := 26) hC dX11_tray_4 (by decide) ?_ ?_
  · refine g_sub [0] rfl ?_
    exact gB_X11_tray_26 hC hR hL  X2
  · refine g_iload_n (q := 2) hC dX11_tray_7 rfl rfl ?_
    refine g_if_lt (tgt := 26) hC dX11_tray_8 (by decide) ?_ ?_
    · refine g_sub [0] rfl ?_
      exact gB_X11_tray_26 hC hR hL  X2
    · refine g_iload_n (q := 2) hC dX11_tray_11 rfl rfl ?_
      refine g_iconst (v := vI 3) hC dX11_tray_12 rfl ?_
      refine g_icmp_gt (tgt := 26) hC dX11_tray_13 (by decide) ?_ ?_
      · refine g_sub [0] rfl ?_
        exact gB_X11_tray_26 hC hR hL  X2
      · refine g_iload_n (q := 3) hC dX11_tray_16 rfl rfl ?_
        refine g_if_lt (tgt := 26) hC dX11_tray_17 (by decide) ?_ ?_
        · refine g_sub [0] rfl ?_
          exact gB_X11_tray_26 hC hR hL  X2
        · refine g_iload_n (q := 3) hC dX11_tray_20 rfl rfl ?_
          refine g_bipush (v := vI 60) hC dX11_tray_21 rfl ?_
          refine g_icmp_le (tgt := 32) hC dX11_tray_23 (by decide) ?_ ?_
          · refine g_aload_n (q := 0) hC dX11_tray_32 rfl rfl rfl ?_
            refine g_getS (k := 0) hC cf_X11 (at_0 hL) (by decide) rfl (by decide) (by decide) wf_RX11_11 dX11_tray_33 ?_
            refine g_iload_n (q := 1) hC dX11_tray_36 rfl rfl ?_
            refine g_aldS (t0 := 4) (ts := TRA) hC (at_1 hL) (by decide) rfl (by decide) (by decide) dX11_tray_37 (g_cm (l := TRA) fun m5 => ?_)
            refine g_iload_n (q := 2) hC dX11_tray_38 rfl rfl ?_
            refine g_iload_n (q := 3) hC dX11_tray_39 rfl rfl ?_
            refine g_callVV (As := [vI p2, vI p3]) hC mv_X10_lay wml_RX11_143 (k_X10_lay _ V (tl TRA p1) p2 p3 X2 (tra_of hL m5)) cf_X10 (ty_0 (tra_of hL m5)) (by decide) ⟨Nat.zero_le _, Nat.zero_le _⟩ rfl rfl ⟨Nat.le_of_ble_eq_true rfl, Nat.le_of_ble_eq_true rfl⟩ (Nat.le_of_ble_eq_true rfl) dX11_tray_40 (fun _ X7 => ?_)
            refine g_aload_n (q := 0) hC dX11_tray_43 rfl rfl rfl ?_
            refine g_callVI (As := []) hC mv_X11_agree wml_RX11_147 (k_X11_agree _ V hL X7) cf_X11 (at_0 hL) (by decide) ⟨Nat.zero_le _, Nat.zero_le _⟩ rfl rfl ⟨Nat.le_of_ble_eq_true rfl, Nat.le_of_ble_eq_true rfl⟩ (Nat.le_of_ble_eq_true rfl) dX11_tray_44 (fun r8 X9 => ?_)
            exact g_zret hC hR dX11_tray_47
          · refine g_sub [0] rfl ?_
            exact gB_X11_tray_26 hC hR hL  X2
def f_X11_placeStatus (p1 : Int) (p2 : Int) (X : Mem) : Option (Int × Mem) :=
  cl (f_X11_isTray p1 X) fun r1 X2 =>
  c1 r1 <| if ¬ r1 = 0 then
    ax TRA.length p1 <| cm TRA (tl TRA p1) <|
    cl (f_X10_isMissing (tl TRA p1) X2) fun r4 X5 =>
    c1 r4 <| if r4 = 0 then
      c1 p2 <| if p2 < 0 then
        some (3, X5)
      else
        ax TRA.length p1 <| cm TRA (tl TRA p1) <|
        c2 p2 (X5 (tl TRA p1) 2) <| if (X5 (tl TRA p1) 2) ≤ p2 then
          some (3, X5)
        else
          some (0, X5)
    else
      some (2, X5)
  else
    some (1, X2)
set_option maxRecDepth 20000 in
theorem k_X11_placeStatus (l : Launch) (V : Ev) {L : List Kd} (hL : LKc L) (p1 : Int) (p2 : Int) (X : Mem)  : Kt l V L yX11_placeStatus (.code yX11_placeStatus cX11_placeStatus 3 (some .int)) 1 20 [vR V.1 0, vI p1, vI p2] rI X (f_X11_placeStatus p1 p2 X) := by
  refine kt_of (own := RX11) (lv0 := [(0, vR V.1 0), (1, vI p1), (2, vI p2)]) (by decide) rfl (Nat.le_of_ble_eq_true rfl) rfl (fun C hCl hC hR => ?_)
  subst hCl
  unfold f_X11_placeStatus
  refine g_iload_n (q := 1) hC dX11_placeStatus_0 rfl rfl ?_
  refine g_callSI (As := [vI p1]) hC mt_X11_isTray wml_RX11_136 (k_X11_isTray _ V hL p1 X) ⟨Nat.zero_le _, Nat.zero_le _⟩ rfl rfl ⟨Nat.le_of_ble_eq_true rfl, Nat.le_of_ble_eq_true rfl⟩ (Nat.le_of_ble_eq_true rfl) dX11_placeStatus_1 (fun r1 X2 => ?_)
  refine g_if_ne (tgt := 9) hC dX11_placeStatus_4 (by decide) ?_ ?_
  · refine g_aload_n (q := 0) hC dX11_placeStatus_9 rfl rfl rfl ?_
    refine g_getS (k := 0) hC cf_X11 (at_0 hL) (by decide) rfl (by decide) (by decide) wf_RX11_11 dX11_placeStatus_10 ?_
    refine g_iload_n (q := 1) hC dX11_placeStatus_13 rfl rfl ?_
    refine g_aldS (t0 := 4) (ts := TRA) hC (at_1 hL) (by decide) rfl (by decide) (by decide) dX11_placeStatus_14 (g_cm (l := TRA) fun m3 => ?_)
    refine g_callVI (As := []) hC mv_X10_isMissing wml_RX11_166 (k_X10_isMissing _ V (tl TRA p1) X2 (tra_of hL m3)) cf_X10 (ty_0 (tra_of hL m3)) (by decide) ⟨Nat.zero_le _, Nat.zero_le _⟩ rfl rfl ⟨Nat.le_of_ble_eq_true rfl, Nat.le_of_ble_eq_true rfl⟩ (Nat.le_of_ble_eq_true rfl) dX11_placeStatus_15 (fun r4 X5 => ?_)
    refine g_if_eq (tgt := 23) hC dX11_placeStatus_18 (by decide) ?_ ?_
    · refine g_iload_n (q := 2) hC dX11_placeStatus_23 rfl rfl ?_
      refine g_if_lt (tgt := 44) hC dX11_placeStatus_24 (by decide) ?_ ?_
      · refine g_iconst (v := vI 3) hC dX11_placeStatus_44 rfl ?_
        exact g_iret hC hR dX11_placeStatus_45
      · refine g_iload_n (q := 2) hC dX11_placeStatus_27 rfl rfl ?_
        refine g_aload_n (q := 0) hC dX11_placeStatus_28 rfl rfl rfl ?_
        refine g_getS (k := 0) hC cf_X11 (at_0 hL) (by decide) rfl (by decide) (by decide) wf_RX11_11 dX11_placeStatus_29 ?_
        refine g_iload_n (q := 1) hC dX11_placeStatus_32 rfl rfl ?_
        refine g_aldS (t0 := 4) (ts := TRA) hC (at_1 hL) (by decide) rfl (by decide) (by decide) dX11_placeStatus_33 (g_cm (l := TRA) fun m6 => ?_)
        refine g_getI (k := 2) (kz := 2) hC cf_X10 (ty_0 (tra_of hL m6)) (by decide) rfl (by decide) rfl wf_RX11_425 dX11_placeStatus_34 ?_
        refine g_icmp_ge (tgt := 44) hC dX11_placeStatus_37 (by decide) ?_ ?_
        · refine g_iconst (v := vI 3) hC dX11_placeStatus_44 rfl ?_
          exact g_iret hC hR dX11_placeStatus_45
        · refine g_iconst (v := vI 0) hC dX11_placeStatus_40 rfl ?_
          refine g_goto (tgt := 45) hC dX11_placeStatus_41 (by decide) ?_
          exact g_iret hC hR dX11_placeStatus_45
    · refine g_iconst (v := vI 2) hC dX11_placeStatus_21 rfl ?_
      exact g_iret hC hR dX11_placeStatus_22
  · refine g_iconst (v := vI 1) hC dX11_placeStatus_7 rfl ?_
    exact g_iret hC hR dX11_placeStatus_8
def f_X11_write (p1 : Int) (p2 : Int) (p3 : Int) (X : Mem) : Option (Int × Mem) :=
  cl (f_X11_placeStatus p1 p2 X) fun r1 X2 =>
  c1 r1 <| if r1 = 0 then
    ax TRA.length p1 <| cm TRA (tl TRA p1) <|
    cl (f_X10_cut (tl TRA p1) p3 X2) fun r4 X5 =>
    ax 60 p2 <| bd (ms X5 ((tl TRA p1) + 1) p2 r4) fun X6 =>
    cl (f_X11_agree X6) fun r7 X8 =>
    cz r7 (some (r7, X8))
  else
    cl (f_X11_refuse r1 X2) fun r9 X10 =>
    cz r9 (some (r9, X10))
set_option maxRecDepth 20000 in
theorem k_X11_write (l : Launch) (V : Ev) {L : List Kd} (hL : LKc L) (p1 : Int) (p2 : Int) (p3 : Int) (X : Mem)  : Kt l V L yX11_write (.code yX11_write cX11_write 7 (some .boolean)) 2 42 [vR V.1 0, vI p1, vI p2, vJ p3] rI X (f_X11_write p1 p2 p3 X) := by
  refine kt_of (own := RX11) (lv0 := [(0, vR V.1 0), (1, vI p1), (2, vI p2), (3, vJ p3)]) (by decide) rfl (Nat.le_of_ble_eq_true rfl) rfl (fun C hCl hC hR => ?_)
  subst hCl
  unfold f_X11_write
  refine g_aload_n (q := 0) hC dX11_write_0 rfl rfl rfl ?_
  refine g_iload_n (q := 1) hC dX11_write_1 rfl rfl ?_
  refine g_iload_n (q := 2) hC dX11_write_2 rfl rfl ?_
  refine g_callVI (As := [vI p1, vI p2]) hC mv_X11_placeStatus wml_RX11_151 (k_X11_placeStatus _ V hL p1 p2 X) cf_X11 (at_0 hL) (by decide) ⟨Nat.zero_le _, Nat.zero_le _⟩ rfl rfl ⟨Nat.le_of_ble_eq_true rfl, Nat.le_of_ble_eq_true rfl⟩ (Nat.le_of_ble_eq_true rfl) dX11_write_3 (fun r1 X2 => ?_)
  refine g_istore hC dX11_write_6 (by decide) rfl ?_
  refine g_iload (q := 0) hC dX11_write_8 rfl ?_
  refine g_if_eq (tgt := 20) hC dX11_write_10 (by decide) ?_ ?_
  · refine g_aload_n (q := 1) hC dX11_write_20 rfl rfl rfl ?_
    refine g_getS (k := 0) hC cf_X11 (at_0 hL) (by decide) rfl (by decide) (by decide) wf_RX11_11 dX11_write_21 ?_
    refine g_iload_n (q := 2) hC dX11_write_24 rfl rfl ?_
    refine g_aldS (t0 := 4) (ts := TRA) hC (at_1 hL) (by decide) rfl (by decide) (by decide) dX11_write_25 (g_cm (l := TRA) fun m3 => ?_)
    refine g_astore hC dX11_write_26 (by decide) rfl rfl ?_
    refine g_aload (q := 0) hC dX11_write_28 rfl rfl ?_
    refine g_getS (k := 0) hC cf_X10 (ty_0 (tra_of hL m3)) (by decide) rfl (add_nn (ty_0 (tra_of hL m3))) (by decide) wf_RX11_155 dX11_write_30 ?_
    refine g_iload_n (q := 4) hC dX11_write_33 rfl rfl ?_
    refine g_aload (q := 0) hC dX11_write_34 rfl rfl ?_
    refine g_lload_n (q := 5) hC dX11_write_36 rfl rfl ?_
    refine g_callVJ (As := [vJ p3]) hC mv_X10_cut wml_RX11_158 (k_X10_cut _ V (tl TRA p1) p3 X2 (tra_of hL m3)) cf_X10 (ty_0 (tra_of hL m3)) (by decide) ⟨Nat.zero_le _, Nat.zero_le _⟩ rfl rfl ⟨Nat.le_of_ble_eq_true rfl, Nat.le_of_ble_eq_true rfl⟩ (Nat.le_of_ble_eq_true rfl) dX11_write_37 (fun r4 X5 => ?_)
    refine g_last hC (ty_1 (tra_of hL m3)) (by decide) dX11_write_40 (fun X6 => ?_)
    refine g_aload_n (q := 2) hC dX11_write_41 rfl rfl rfl ?_
    refine g_callVI (As := []) hC mv_X11_agree wml_RX11_147 (k_X11_agree _ V hL X6) cf_X11 (at_0 hL) (by decide) ⟨Nat.zero_le _, Nat.zero_le _⟩ rfl rfl ⟨Nat.le_of_ble_eq_true rfl, Nat.le_of_ble_eq_true rfl⟩ (Nat.le_of_ble_eq_true rfl) dX11_write_42 (fun r7 X8 => ?_)
    exact g_zret hC hR dX11_write_45
  · refine g_aload_n (q := 1) hC dX11_write_13 rfl rfl rfl ?_
    refine g_iload (q := 0) hC dX11_write_14 rfl ?_
    refine g_callVI (As := [vI r1]) hC mv_X11_refuse wml_RX11_140 (k_X11_refuse _ V hL r1 X2) cf_X11 (at_0 hL) (by decide) ⟨Nat.zero_le _, Nat.zero_le _⟩ rfl rfl ⟨Nat.le_of_ble_eq_true rfl, Nat.le_of_ble_eq_true rfl⟩ (Nat.le_of_ble_eq_true rfl) dX11_write_16 (fun r9 X10 => ?_)
    exact g_zret hC hR dX11_write_19
def f_X11_fail (p1 : Int) (X : Mem) : Option (Int × Mem) :=
  bd (ms X 0 16 p1) fun X1 =>
  some ((-1), X1)
set_option maxRecDepth 20000 in
theorem k_X11_fail (l : Launch) (V : Ev) {L : List Kd} (hL : LKc L) (p1 : Int) (X : Mem)  : Kt l V L yX11_fail (.code yX11_fail cX11_fail 2 (some .int)) 0 0 [vR V.1 0, vI p1] rI X (f_X11_fail p1 X) := by
  refine kt_of (own := RX11) (lv0 := [(0, vR V.1 0), (1, vI p1)]) (by decide) rfl (Nat.le_of_ble_eq_true rfl) rfl (fun C hCl hC hR => ?_)
  subst hCl
  unfold f_X11_fail
  refine g_aload_n (q := 0) hC dX11_fail_0 rfl rfl rfl ?_
  refine g_iload_n (q := 1) hC dX11_fail_1 rfl rfl ?_
  refine g_putI (k := 16) (kz := 16) hC cf_X11 (at_0 hL) (by decide) rfl (by decide) rfl wf_RX11_118 rfl rfl dX11_fail_2 (fun X1 => ?_)
  refine g_iconst (v := vI (-1)) hC dX11_fail_5 rfl ?_
  exact g_iret hC hR dX11_fail_6
def f_X11_read (p1 : Int) (p2 : Int) (X : Mem) : Option (Int × Mem) :=
  cl (f_X11_placeStatus p1 p2 X) fun r1 X2 =>
  c1 r1 <| if r1 = 0 then
    bd (ms X2 0 16 0) fun X3 =>
    ax TRA.length p1 <| cm TRA (tl TRA p1) <|
    ax 60 p2 <|
    some (X3 ((tl TRA p1) + 1) p2, X3)
  else
    cl (f_X11_fail r1 X2) fun r5 X6 =>
    c1 r5 <|
    some (r5, X6)
set_option maxRecDepth 20000 in
theorem k_X11_read (l : Launch) (V : Ev) {L : List Kd} (hL : LKc L) (p1 : Int) (p2 : Int) (X : Mem)  : Kt l V L yX11_read (.code yX11_read cX11_read 4 (some .long)) 2 42 [vR V.1 0, vI p1, vI p2] rJ X (f_X11_read p1 p2 X) := by
  refine kt_of (own := RX11) (lv0 := [(0, vR V.1 0), (1, vI p1), (2, vI p2)]) (by decide) rfl (Nat.le_of_ble_eq_true rfl) rfl (fun C hCl hC hR => ?_)
  subst hCl
  unfold f_X11_read
  refine g_aload_n (q := 0) hC dX11_read_0 rfl rfl rfl ?_
  refine g_iload_n (q := 1) hC dX11_read_1 rfl rfl ?_
  refine g_iload_n (q := 2) hC dX11_read_2 rfl rfl ?_
  refine g_callVI (As := [vI p1, vI p2]) hC mv_X11_placeStatus wml_RX11_151 (k_X11_placeStatus _ V hL p1 p2 X) cf_X11 (at_0 hL) (by decide) ⟨Nat.zero_le _, Nat.zero_le _⟩ rfl rfl ⟨Nat.le_of_ble_eq_true rfl, Nat.le_of_ble_eq_true rfl⟩ (Nat.le_of_ble_eq_true rfl) dX11_read_3 (fun r1 X2 => ?_)
  refine g_istore_n hC dX11_read_6 rfl (by decide) rfl ?_
  refine g_iload_n (q := 0) hC dX11_read_7 rfl rfl ?_
  refine g_if_eq (tgt := 18) hC dX11_read_8 (by decide) ?_ ?_
  · refine g_aload_n (q := 1) hC dX11_read_18 rfl rfl rfl ?_
    refine g_iconst (v := vI 0) hC dX11_read_19 rfl ?_
    refine g_putI (k := 16) (kz := 16) hC cf_X11 (at_0 hL) (by decide) rfl (by decide) rfl wf_RX11_118 rfl rfl dX11_read_20 (fun X3 => ?_)
    refine g_aload_n (q := 1) hC dX11_read_23 rfl rfl rfl ?_
    refine g_getS (k := 0) hC cf_X11 (at_0 hL) (by decide) rfl (by decide) (by decide) wf_RX11_11 dX11_read_24 ?_
    refine g_iload_n (q := 2) hC dX11_read_27 rfl rfl ?_
    refine g_aldS (t0 := 4) (ts := TRA) hC (at_1 hL) (by decide) rfl (by decide) (by decide) dX11_read_28 (g_cm (l := TRA) fun m4 => ?_)
    refine g_getS (k := 0) hC cf_X10 (ty_0 (tra_of hL m4)) (by decide) rfl (add_nn (ty_0 (tra_of hL m4))) (by decide) wf_RX11_155 dX11_read_29 ?_
    refine g_iload_n (q := 3) hC dX11_read_32 rfl rfl ?_
    refine g_lald hC (ty_1 (tra_of hL m4)) (by decide) dX11_read_33 ?_
    exact g_lret hC hR dX11_read_34
  · refine g_aload_n (q := 1) hC dX11_read_11 rfl rfl rfl ?_
    refine g_iload_n (q := 0) hC dX11_read_12 rfl rfl ?_
    refine g_callVI (As := [vI r1]) hC mv_X11_fail wml_RX11_162 (k_X11_fail _ V hL r1 X2) cf_X11 (at_0 hL) (by decide) ⟨Nat.zero_le _, Nat.zero_le _⟩ rfl rfl ⟨Nat.le_of_ble_eq_true rfl, Nat.le_of_ble_eq_true rfl⟩ (Nat.le_of_ble_eq_true rfl) dX11_read_13 (fun r5 X6 => ?_)
    refine g_i2l hC dX11_read_16 ?_
    exact g_lret hC hR dX11_read_17
def B_X11_pour_28  (X : Mem) : Option (Int × Mem) :=
  cl (f_X11_refuse 1 X) fun r3 X4 =>
  cz r3 (some (r3, X4))
def B_X11_pour_66  (X : Mem) : Option (Int × Mem) :=
  cl (f_X11_refuse 2 X) fun r11 X12 =>
  cz r11 (some (r11, X12))
def B_X11_pour_115  (X : Mem) : Option (Int × Mem) :=
  cl (f_X11_refuse 3 X) fun r17 X18 =>
  cz r17 (some (r17, X18))
def f_X11_pour (p1 : Int) (p2 : Int) (p3 : Int) (p4 : Int) (p5 : Int) (X : Mem) : Option (Int × Mem) :=
  cl (f_X11_isTray p1 X) fun r1 X2 =>
  c1 r1 <| if r1 = 0 then
    B_X11_pour_28   X2
  else
    cl (f_X11_isTray p3 X2) fun r5 X6 =>
    c1 r5 <| if r5 = 0 then
      B_X11_pour_28   X6
    else
      c1 p2 <| if p2 < 0 then
        B_X11_pour_28   X6
      else
        c1 p4 <| if p4 < 0 then
          B_X11_pour_28   X6
        else
          c1 p5 <| if 0 ≤ p5 then
            ax TRA.length p1 <| cm TRA (tl TRA p1) <|
            ax TRA.length p3 <| cm TRA (tl TRA p3) <|
            cl (f_X10_isMissing (tl TRA p1) X6) fun r9 X10 =>
            c1 r9 <| if ¬ r9 = 0 then
              B_X11_pour_66   X10
            else
              cl (f_X10_isMissing (tl TRA p3) X10) fun r13 X14 =>
              c1 r13 <| if r13 = 0 then
                c2 (X14 (tl TRA p1) 1) (X14 (tl TRA p3) 1) <| if (X14 (tl TRA p1) 1) = (X14 (tl TRA p3) 1) then
                  cl (f_X10_holds (tl TRA p1) p2 p5 X14) fun r15 X16 =>
                  c1 r15 <| if r15 = 0 then
                    B_X11_pour_115   X16
                  else
                    cl (f_X10_holds (tl TRA p3) p4 p5 X16) fun r19 X20 =>
                    c1 r19 <| if ¬ r19 = 0 then
                      cpk 60 60 p2 p4 p5 <| bd (mc X20 ((tl TRA p1) + 1) p2 ((tl TRA p3) + 1) p4 p5) fun X21 =>
                      cl (f_X11_agree X21) fun r22 X23 =>
                      cz r22 (some (r22, X23))
                    else
                      B_X11_pour_115   X20
                else
                  cl (f_X11_refuse 8 X14) fun r24 X25 =>
                  cz r24 (some (r24, X25))
              else
                B_X11_pour_66   X14
          else
            B_X11_pour_28   X6
set_option maxRecDepth 20000 in
theorem gB_X11_pour_28 {C : Cx} {V : Ev} {L : List Kd} (hC : Ok C V cX11_pour RX11 8 1 60) (hR : Rt C V L (some .boolean) rI) (hL : LKc L)  (X : Mem)  : G C V L 0 0 8 28 [(0, vR V.1 0)] [] X (B_X11_pour_28    X) := by
  unfold B_X11_pour_28
  refine g_aload_n (q := 0) hC dX11_pour_28 rfl rfl rfl ?_
  refine g_iconst (v := vI 1) hC dX11_pour_29 rfl ?_
  refine g_callVI (As := [vI 1]) hC mv_X11_refuse wml_RX11_140 (k_X11_refuse _ V hL 1 X) cf_X11 (at_0 hL) (by decide) ⟨Nat.zero_le _, Nat.zero_le _⟩ rfl rfl ⟨Nat.le_of_ble_eq_true rfl, Nat.le_of_ble_eq_true rfl⟩ (Nat.le_of_ble_eq_true rfl) dX11_pour_30 (fun r3 X4 => ?_)
  exact g_zret hC hR dX11_pour_33
set_option maxRecDepth 20000 in
theorem gB_X11_pour_66 {C : Cx} {V : Ev} {L : List Kd} (hC : Ok C V cX11_pour RX11 8 1 60) (hR : Rt C V L (some .boolean) rI) (hL : LKc L)  (X : Mem)  : G C V L 0 0 8 66 [(0, vR V.1 0)] [] X (B_X11_pour_66    X) := by
  unfold B_X11_pour_66
  refine g_aload_n (q := 0) hC dX11_pour_66 rfl rfl rfl ?_
  refine g_iconst (v := vI 2) hC dX11_pour_67 rfl ?_
  refine g_callVI (As := [vI 2]) hC mv_X11_refuse wml_RX11_140 (k_X11_refuse _ V hL 2 X) cf_X11 (at_0 hL) (by decide) ⟨Nat.zero_le _, Nat.zero_le _⟩ rfl rfl ⟨Nat.le_of_ble_eq_true rfl, Nat.le_of_ble_eq_true rfl⟩ (Nat.le_of_ble_eq_true rfl) dX11_pour_68 (fun r11 X12 => ?_)
  exact g_zret hC hR dX11_pour_71
set_option maxRecDepth 20000 in
theorem gB_X11_pour_115 {C : Cx} {V : Ev} {L : List Kd} (hC : Ok C V cX11_pour RX11 8 1 60) (hR : Rt C V L (some .boolean) rI) (hL : LKc L)  (X : Mem)  : G C V L 0 0 8 115 [(0, vR V.1 0)] [] X (B_X11_pour_115    X) := by
  unfold B_X11_pour_115
  refine g_aload_n (q := 0) hC dX11_pour_115 rfl rfl rfl ?_
  refine g_iconst (v := vI 3) hC dX11_pour_116 rfl ?_
  refine g_callVI (As := [vI 3]) hC mv_X11_refuse wml_RX11_140 (k_X11_refuse _ V hL 3 X) cf_X11 (at_0 hL) (by decide) ⟨Nat.zero_le _, Nat.zero_le _⟩ rfl rfl ⟨Nat.le_of_ble_eq_true rfl, Nat.le_of_ble_eq_true rfl⟩ (Nat.le_of_ble_eq_true rfl) dX11_pour_117 (fun r17 X18 => ?_)
  exact g_zret hC hR dX11_pour_120
set_option maxRecDepth 20000 in
theorem k_X11_pour (l : Launch) (V : Ev) {L : List Kd} (hL : LKc L) (p1 : Int) (p2 : Int) (p3 : Int) (p4 : Int) (p5 : Int) (X : Mem)  : Kt l V L yX11_pour (.code yX11_pour cX11_pour 8 (some .boolean)) 1 60 [vR V.1 0, vI p1, vI p2, vI p3, vI p4, vI p5] rI X (f_X11_pour p1 p2 p3 p4 p5 X) := by
  refine kt_of (own := RX11) (lv0 := [(0, vR V.1 0), (1, vI p1), (2, vI p2), (3, vI p3), (4, vI p4), (5, vI p5)]) (by decide) rfl (Nat.le_of_ble_eq_true rfl) rfl (fun C hCl hC hR => ?_)
  subst hCl
  unfold f_X11_pour
  refine g_iload_n (q := 1) hC dX11_pour_0 rfl rfl ?_
  refine g_callSI (As := [vI p1]) hC mt_X11_isTray wml_RX11_136 (k_X11_isTray _ V hL p1 X) ⟨Nat.zero_le _, Nat.zero_le _⟩ rfl rfl ⟨Nat.le_of_ble_eq_true rfl, Nat.le_of_ble_eq_true rfl⟩ (Nat.le_of_ble_eq_true rfl) dX11_pour_1 (fun r1 X2 => ?_)
  refine g_if_eq (tgt := 28) hC dX11_pour_4 (by decide) ?_ ?_
  · refine g_sub [0] rfl ?_
    exact gB_X11_pour_28 hC hR hL  X2
  · refine g_iload_n (q := 3) hC dX11_pour_7 rfl rfl ?_
    refine g_callSI (As := [vI p3]) hC mt_X11_isTray wml_RX11_136 (k_X11_isTray _ V hL p3 X2) ⟨Nat.zero_le _, Nat.zero_le _⟩ rfl rfl ⟨Nat.le_of_ble_eq_true rfl, Nat.le_of_ble_eq_true rfl⟩ (Nat.le_of_ble_eq_true rfl) dX11_pour_8 (fun r5 X6 => ?_)
    refine g_if_eq (tgt := 28) hC dX11_pour_11 (by decide) ?_ ?_
    · refine g_sub [0] rfl ?_
      exact gB_X11_pour_28 hC hR hL  X6
    · refine g_iload_n (q := 2) hC dX11_pour_14 rfl rfl ?_
      refine g_if_lt (tgt := 28) hC dX11_pour_15 (by decide) ?_ ?_
      · refine g_sub [0] rfl ?_
        exact gB_X11_pour_28 hC hR hL  X6
      · refine g_iload (q := 4) hC dX11_pour_18 rfl ?_
        refine g_if_lt (tgt := 28) hC dX11_pour_20 (by decide) ?_ ?_
        · refine g_sub [0] rfl ?_
          exact gB_X11_pour_28 hC hR hL  X6
        · refine g_iload (q := 5) hC dX11_pour_23 rfl ?_
          refine g_if_ge (tgt := 34) hC dX11_pour_25 (by decide) ?_ ?_
          · refine g_aload_n (q := 0) hC dX11_pour_34 rfl rfl rfl ?_
            refine g_getS (k := 0) hC cf_X11 (at_0 hL) (by decide) rfl (by decide) (by decide) wf_RX11_11 dX11_pour_35 ?_
            refine g_iload_n (q := 1) hC dX11_pour_38 rfl rfl ?_
            refine g_aldS (t0 := 4) (ts := TRA) hC (at_1 hL) (by decide) rfl (by decide) (by decide) dX11_pour_39 (g_cm (l := TRA) fun m7 => ?_)
            refine g_astore hC dX11_pour_40 (by decide) rfl rfl ?_
            refine g_aload_n (q := 1) hC dX11_pour_42 rfl rfl rfl ?_
            refine g_getS (k := 0) hC cf_X11 (at_0 hL) (by decide) rfl (by decide) (by decide) wf_RX11_11 dX11_pour_43 ?_
            refine g_iload_n (q := 4) hC dX11_pour_46 rfl rfl ?_
            refine g_aldS (t0 := 4) (ts := TRA) hC (at_1 hL) (by decide) rfl (by decide) (by decide) dX11_pour_47 (g_cm (l := TRA) fun m8 => ?_)
            refine g_astore hC dX11_pour_48 (by decide) rfl rfl ?_
            refine g_aload (q := 1) hC dX11_pour_50 rfl rfl ?_
            refine g_callVI (As := []) hC mv_X10_isMissing wml_RX11_166 (k_X10_isMissing _ V (tl TRA p1) X6 (tra_of hL m7)) cf_X10 (ty_0 (tra_of hL m7)) (by decide) ⟨Nat.zero_le _, Nat.zero_le _⟩ rfl rfl ⟨Nat.le_of_ble_eq_true rfl, Nat.le_of_ble_eq_true rfl⟩ (Nat.le_of_ble_eq_true rfl) dX11_pour_52 (fun r9 X10 => ?_)
            refine g_if_ne (tgt := 66) hC dX11_pour_55 (by decide) ?_ ?_
            · refine g_sub [2] rfl ?_
              exact gB_X11_pour_66 hC hR hL  X10
            · refine g_aload (q := 0) hC dX11_pour_58 rfl rfl ?_
              refine g_callVI (As := []) hC mv_X10_isMissing wml_RX11_166 (k_X10_isMissing _ V (tl TRA p3) X10 (tra_of hL m8)) cf_X10 (ty_0 (tra_of hL m8)) (by decide) ⟨Nat.zero_le _, Nat.zero_le _⟩ rfl rfl ⟨Nat.le_of_ble_eq_true rfl, Nat.le_of_ble_eq_true rfl⟩ (Nat.le_of_ble_eq_true rfl) dX11_pour_60 (fun r13 X14 => ?_)
              refine g_if_eq (tgt := 72) hC dX11_pour_63 (by decide) ?_ ?_
              · refine g_aload (q := 1) hC dX11_pour_72 rfl rfl ?_
                refine g_getI (k := 1) (kz := 1) hC cf_X10 (ty_0 (tra_of hL m7)) (by decide) rfl (by decide) rfl wf_RX11_169 dX11_pour_74 ?_
                refine g_aload (q := 0) hC dX11_pour_77 rfl rfl ?_
                refine g_getI (k := 1) (kz := 1) hC cf_X10 (ty_0 (tra_of hL m8)) (by decide) rfl (by decide) rfl wf_RX11_169 dX11_pour_79 ?_
                refine g_icmp_eq (tgt := 92) hC dX11_pour_82 (by decide) ?_ ?_
                · refine g_aload (q := 1) hC dX11_pour_92 rfl rfl ?_
                  refine g_iload_n (q := 4) hC dX11_pour_94 rfl rfl ?_
                  refine g_iload (q := 7) hC dX11_pour_95 rfl ?_
                  refine g_callVI (As := [vI p2, vI p5]) hC mv_X10_holds wml_RX11_172 (k_X10_holds _ V (tl TRA p1) p2 p5 X14 (tra_of hL m7)) cf_X10 (ty_0 (tra_of hL m7)) (by decide) ⟨Nat.zero_le _, Nat.zero_le _⟩ rfl rfl ⟨Nat.le_of_ble_eq_true rfl, Nat.le_of_ble_eq_true rfl⟩ (Nat.le_of_ble_eq_true rfl) dX11_pour_97 (fun r15 X16 => ?_)
                  refine g_if_eq (tgt := 115) hC dX11_pour_100 (by decide) ?_ ?_
                  · refine g_sub [2] rfl ?_
                    exact gB_X11_pour_115 hC hR hL  X16
                  · refine g_aload (q := 0) hC dX11_pour_103 rfl rfl ?_
                    refine g_iload (q := 6) hC dX11_pour_105 rfl ?_
                    refine g_iload (q := 7) hC dX11_pour_107 rfl ?_
                    refine g_callVI (As := [vI p4, vI p5]) hC mv_X10_holds wml_RX11_172 (k_X10_holds _ V (tl TRA p3) p4 p5 X16 (tra_of hL m8)) cf_X10 (ty_0 (tra_of hL m8)) (by decide) ⟨Nat.zero_le _, Nat.zero_le _⟩ rfl rfl ⟨Nat.le_of_ble_eq_true rfl, Nat.le_of_ble_eq_true rfl⟩ (Nat.le_of_ble_eq_true rfl) dX11_pour_109 (fun r19 X20 => ?_)
                    refine g_if_ne (tgt := 121) hC dX11_pour_112 (by decide) ?_ ?_
                    · refine g_aload (q := 1) hC dX11_pour_121 rfl rfl ?_
                      refine g_getS (k := 0) hC cf_X10 (ty_0 (tra_of hL m7)) (by decide) rfl (add_nn (ty_0 (tra_of hL m7))) (by decide) wf_RX11_155 dX11_pour_123 ?_
                      refine g_iload_n (q := 4) hC dX11_pour_126 rfl rfl ?_
                      refine g_aload (q := 0) hC dX11_pour_127 rfl rfl ?_
                      refine g_getS (k := 0) hC cf_X10 (ty_0 (tra_of hL m8)) (by decide) rfl (add_nn (ty_0 (tra_of hL m8))) (by decide) wf_RX11_155 dX11_pour_129 ?_
                      refine g_iload (q := 6) hC dX11_pour_132 rfl ?_
                      refine g_iload (q := 7) hC dX11_pour_134 rfl ?_
                      refine g_copyl hC wml_RX11_176 (ty_1 (tra_of hL m7)) (ty_1 (tra_of hL m8)) (by decide) (by decide) (Nat.le_of_ble_eq_true rfl) (Nat.le_of_ble_eq_true rfl) dX11_pour_136 (fun X21 => ?_)
                      refine g_aload_n (q := 2) hC dX11_pour_139 rfl rfl rfl ?_
                      refine g_callVI (As := []) hC mv_X11_agree wml_RX11_147 (k_X11_agree _ V hL X21) cf_X11 (at_0 hL) (by decide) ⟨Nat.zero_le _, Nat.zero_le _⟩ rfl rfl ⟨Nat.le_of_ble_eq_true rfl, Nat.le_of_ble_eq_true rfl⟩ (Nat.le_of_ble_eq_true rfl) dX11_pour_140 (fun r22 X23 => ?_)
                      exact g_zret hC hR dX11_pour_143
                    · refine g_sub [2] rfl ?_
                      exact gB_X11_pour_115 hC hR hL  X20
                · refine g_aload_n (q := 2) hC dX11_pour_85 rfl rfl rfl ?_
                  refine g_bipush (v := vI 8) hC dX11_pour_86 rfl ?_
                  refine g_callVI (As := [vI 8]) hC mv_X11_refuse wml_RX11_140 (k_X11_refuse _ V hL 8 X14) cf_X11 (at_0 hL) (by decide) ⟨Nat.zero_le _, Nat.zero_le _⟩ rfl rfl ⟨Nat.le_of_ble_eq_true rfl, Nat.le_of_ble_eq_true rfl⟩ (Nat.le_of_ble_eq_true rfl) dX11_pour_88 (fun r24 X25 => ?_)
                  exact g_zret hC hR dX11_pour_91
              · refine g_sub [2] rfl ?_
                exact gB_X11_pour_66 hC hR hL  X14
          · refine g_sub [0] rfl ?_
            exact gB_X11_pour_28 hC hR hL  X6
def f_X11_feed (p1 : Int) (p2 : Int) (p3 : Int) (p4 : Int) (p5 : Int) (X : Mem) : Option (Int × Mem) :=
  c2 ((X 35 1) + 20) 900 <| if ((X 35 1) + 20) ≤ 900 then
    cl (f_X8_append p1 X) fun _ X2 =>
    cl (f_X8_append p2 X2) fun _ X4 =>
    cl (f_X8_append p3 X4) fun _ X6 =>
    cl (f_X8_append p4 X6) fun _ X8 =>
    cl (f_X8_append p5 X8) fun _ X10 =>
    some (X10 35 1, X10)
  else
    some ((-1), X)
set_option maxRecDepth 20000 in
theorem k_X11_feed (l : Launch) (V : Ev) {L : List Kd} (hL : LKc L) (p1 : Int) (p2 : Int) (p3 : Int) (p4 : Int) (p5 : Int) (X : Mem)  : Kt l V L yX11_feed (.code yX11_feed cX11_feed 6 (some .int)) 1 22 [vR V.1 0, vI p1, vI p2, vI p3, vI p4, vI p5] rI X (f_X11_feed p1 p2 p3 p4 p5 X) := by
  refine kt_of (own := RX11) (lv0 := [(0, vR V.1 0), (1, vI p1), (2, vI p2), (3, vI p3), (4, vI p4), (5, vI p5)]) (by decide) rfl (Nat.le_of_ble_eq_true rfl) rfl (fun C hCl hC hR => ?_)
  subst hCl
  unfold f_X11_feed
  refine g_aload_n (q := 0) hC dX11_feed_0 rfl rfl rfl ?_
  refine g_getS (k := 5) hC cf_X11 (at_0 hL) (by decide) rfl (by decide) (by decide) wf_RX11_43 dX11_feed_1 ?_
  refine g_getI (k := 1) (kz := 1) hC cf_X8 (at_35 hL) (by decide) rfl (by decide) rfl wf_RX11_182 dX11_feed_4 ?_
  refine g_bipush (v := vI 20) hC dX11_feed_7 rfl ?_
  refine g_iadd hC dX11_feed_9 ?_
  refine g_sipush (v := vI 900) hC dX11_feed_10 rfl ?_
  refine g_icmp_le (tgt := 18) hC dX11_feed_13 (by decide) ?_ ?_
  · refine g_aload_n (q := 0) hC dX11_feed_18 rfl rfl rfl ?_
    refine g_getS (k := 5) hC cf_X11 (at_0 hL) (by decide) rfl (by decide) (by decide) wf_RX11_43 dX11_feed_19 ?_
    refine g_iload_n (q := 1) hC dX11_feed_22 rfl rfl ?_
    refine g_callVV (As := [vI p1]) hC mv_X8_append wml_RX11_185 (k_X8_append _ V hL p1 X) cf_X8 (at_35 hL) (by decide) ⟨Nat.zero_le _, Nat.zero_le _⟩ rfl rfl ⟨Nat.le_of_ble_eq_true rfl, Nat.le_of_ble_eq_true rfl⟩ (Nat.le_of_ble_eq_true rfl) dX11_feed_23 (fun _ X2 => ?_)
    refine g_aload_n (q := 0) hC dX11_feed_26 rfl rfl rfl ?_
    refine g_getS (k := 5) hC cf_X11 (at_0 hL) (by decide) rfl (by decide) (by decide) wf_RX11_43 dX11_feed_27 ?_
    refine g_iload_n (q := 2) hC dX11_feed_30 rfl rfl ?_
    refine g_callVV (As := [vI p2]) hC mv_X8_append wml_RX11_185 (k_X8_append _ V hL p2 X2) cf_X8 (at_35 hL) (by decide) ⟨Nat.zero_le _, Nat.zero_le _⟩ rfl rfl ⟨Nat.le_of_ble_eq_true rfl, Nat.le_of_ble_eq_true rfl⟩ (Nat.le_of_ble_eq_true rfl) dX11_feed_31 (fun _ X4 => ?_)
    refine g_aload_n (q := 0) hC dX11_feed_34 rfl rfl rfl ?_
    refine g_getS (k := 5) hC cf_X11 (at_0 hL) (by decide) rfl (by decide) (by decide) wf_RX11_43 dX11_feed_35 ?_
    refine g_iload_n (q := 3) hC dX11_feed_38 rfl rfl ?_
    refine g_callVV (As := [vI p3]) hC mv_X8_append wml_RX11_185 (k_X8_append _ V hL p3 X4) cf_X8 (at_35 hL) (by decide) ⟨Nat.zero_le _, Nat.zero_le _⟩ rfl rfl ⟨Nat.le_of_ble_eq_true rfl, Nat.le_of_ble_eq_true rfl⟩ (Nat.le_of_ble_eq_true rfl) dX11_feed_39 (fun _ X6 => ?_)
    refine g_aload_n (q := 0) hC dX11_feed_42 rfl rfl rfl ?_
    refine g_getS (k := 5) hC cf_X11 (at_0 hL) (by decide) rfl (by decide) (by decide) wf_RX11_43 dX11_feed_43 ?_
    refine g_iload (q := 4) hC dX11_feed_46 rfl ?_
    refine g_callVV (As := [vI p4]) hC mv_X8_append wml_RX11_185 (k_X8_append _ V hL p4 X6) cf_X8 (at_35 hL) (by decide) ⟨Nat.zero_le _, Nat.zero_le _⟩ rfl rfl ⟨Nat.le_of_ble_eq_true rfl, Nat.le_of_ble_eq_true rfl⟩ (Nat.le_of_ble_eq_true rfl) dX11_feed_48 (fun _ X8 => ?_)
    refine g_aload_n (q := 0) hC dX11_feed_51 rfl rfl rfl ?_
    refine g_getS (k := 5) hC cf_X11 (at_0 hL) (by decide) rfl (by decide) (by decide) wf_RX11_43 dX11_feed_52 ?_
    refine g_iload (q := 5) hC dX11_feed_55 rfl ?_
    refine g_callVV (As := [vI p5]) hC mv_X8_append wml_RX11_185 (k_X8_append _ V hL p5 X8) cf_X8 (at_35 hL) (by decide) ⟨Nat.zero_le _, Nat.zero_le _⟩ rfl rfl ⟨Nat.le_of_ble_eq_true rfl, Nat.le_of_ble_eq_true rfl⟩ (Nat.le_of_ble_eq_true rfl) dX11_feed_57 (fun _ X10 => ?_)
    refine g_aload_n (q := 0) hC dX11_feed_60 rfl rfl rfl ?_
    refine g_getS (k := 5) hC cf_X11 (at_0 hL) (by decide) rfl (by decide) (by decide) wf_RX11_43 dX11_feed_61 ?_
    refine g_getI (k := 1) (kz := 1) hC cf_X8 (at_35 hL) (by decide) rfl (by decide) rfl wf_RX11_182 dX11_feed_64 ?_
    exact g_iret hC hR dX11_feed_67
  · refine g_iconst (v := vI (-1)) hC dX11_feed_16 rfl ?_
    exact g_iret hC hR dX11_feed_17
def f_X11_startAfresh  (X : Mem) : Option (Int × Mem) :=
  bd (ms X 2 3 0) fun X1 =>
  bd (ms X1 2 4 0) fun X2 =>
  cm RIV (X2 2 0) <|
  cl (f_X9_think (X2 2 0) 18 X2) fun _ X5 =>
  some (0, X5)
set_option maxRecDepth 20000 in
theorem k_X11_startAfresh (l : Launch) (V : Ev) {L : List Kd} (hL : LKc L)  (X : Mem)  : Kt l V L yX11_startAfresh (.code yX11_startAfresh cX11_startAfresh 1 none) 2 52 [vR V.1 0] rV X (f_X11_startAfresh  X) := by
  refine kt_of (own := RX11) (lv0 := [(0, vR V.1 0)]) (by decide) rfl (Nat.le_of_ble_eq_true rfl) rfl (fun C hCl hC hR => ?_)
  subst hCl
  unfold f_X11_startAfresh
  refine g_aload_n (q := 0) hC dX11_startAfresh_0 rfl rfl rfl ?_
  refine g_getS (k := 1) hC cf_X11 (at_0 hL) (by decide) rfl (by decide) (by decide) wf_RX11_18 dX11_startAfresh_1 ?_
  refine g_iconst (v := vI 0) hC dX11_startAfresh_4 rfl ?_
  refine g_putI (k := 3) (kz := 3) hC cf_X7 (at_2 hL) (by decide) rfl (by decide) rfl wf_RX11_227 rfl rfl dX11_startAfresh_5 (fun X1 => ?_)
  refine g_aload_n (q := 0) hC dX11_startAfresh_8 rfl rfl rfl ?_
  refine g_getS (k := 1) hC cf_X11 (at_0 hL) (by decide) rfl (by decide) (by decide) wf_RX11_18 dX11_startAfresh_9 ?_
  refine g_iconst (v := vI 0) hC dX11_startAfresh_12 rfl ?_
  refine g_putI (k := 4) (kz := 4) hC cf_X7 (at_2 hL) (by decide) rfl (by decide) rfl wf_RX11_230 rfl rfl dX11_startAfresh_13 (fun X2 => ?_)
  refine g_aload_n (q := 0) hC dX11_startAfresh_16 rfl rfl rfl ?_
  refine g_getS (k := 8) hC cf_X11 (at_0 hL) (by decide) rfl (by decide) (by decide) wf_RX11_71 dX11_startAfresh_17 ?_
  refine g_aload_n (q := 0) hC dX11_startAfresh_20 rfl rfl rfl ?_
  refine g_getS (k := 1) hC cf_X11 (at_0 hL) (by decide) rfl (by decide) (by decide) wf_RX11_18 dX11_startAfresh_21 ?_
  refine g_getD (k := 0) (kz := 0) hC cf_X7 (at_2 hL) (by decide) rfl (by decide) rfl wf_RX11_58 dX11_startAfresh_24 (g_cm (l := RIV) fun m3 => ?_)
  refine g_aload_n (q := 0) hC dX11_startAfresh_27 rfl rfl rfl ?_
  refine g_getS (k := 1) hC cf_X11 (at_0 hL) (by decide) rfl (by decide) (by decide) wf_RX11_18 dX11_startAfresh_28 ?_
  refine g_getS (k := 2) hC cf_X7 (at_2 hL) (by decide) rfl (by decide) (by decide) wf_RX11_129 dX11_startAfresh_31 ?_
  refine g_callVV (As := [vR V.1 (X2 2 0), vR V.1 18]) hC mv_X9_think wml_RX11_132 (k_X9_think _ V hL (X2 2 0) 18 X2 (riv_of hL m3) (at_18 hL)) cf_X9 (at_40 hL) (by decide) ⟨Nat.zero_le _, Nat.zero_le _⟩ rfl rfl ⟨Nat.le_of_ble_eq_true rfl, Nat.le_of_ble_eq_true rfl⟩ (Nat.le_of_ble_eq_true rfl) dX11_startAfresh_34 (fun _ X5 => ?_)
  exact g_vret hC hR dX11_startAfresh_37
def f_X11_answer (p1 : Int) (X : Mem) : Option (Int × Mem) :=
  bd (ms X 0 16 0) fun X1 =>
  some (p1, X1)
set_option maxRecDepth 20000 in
theorem k_X11_answer (l : Launch) (V : Ev) {L : List Kd} (hL : LKc L) (p1 : Int) (X : Mem)  : Kt l V L yX11_answer (.code yX11_answer cX11_answer 2 (some .int)) 0 0 [vR V.1 0, vI p1] rI X (f_X11_answer p1 X) := by
  refine kt_of (own := RX11) (lv0 := [(0, vR V.1 0), (1, vI p1)]) (by decide) rfl (Nat.le_of_ble_eq_true rfl) rfl (fun C hCl hC hR => ?_)
  subst hCl
  unfold f_X11_answer
  refine g_aload_n (q := 0) hC dX11_answer_0 rfl rfl rfl ?_
  refine g_iconst (v := vI 0) hC dX11_answer_1 rfl ?_
  refine g_putI (k := 16) (kz := 16) hC cf_X11 (at_0 hL) (by decide) rfl (by decide) rfl wf_RX11_118 rfl rfl dX11_answer_2 (fun X1 => ?_)
  refine g_iload_n (q := 1) hC dX11_answer_5 rfl rfl ?_
  exact g_iret hC hR dX11_answer_6
def B_X11_river_15  (X : Mem) : Option (Int × Mem) :=
  cl (f_X11_fail 1 X) fun r1 X2 =>
  some (r1, X2)
def f_X11_river (p1 : Int) (X : Mem) : Option (Int × Mem) :=
  c1 p1 <| if p1 < 0 then
    B_X11_river_15   X
  else
    c2 p1 (X 35 1) <| if p1 ≤ (X 35 1) then
      cm RIV (X 0 3) <|
      cl (f_X3_parse p1 (X 0 3) X) fun r4 X5 =>
      bd (ms X5 35 1 0) fun X6 =>
      c1 r4 <| if ¬ r4 = 0 then
        cm RIV (X6 2 0) <|
        cm RIV (X6 0 3) <|
        bd (ms X6 2 0 (X6 0 3)) fun X9 =>
        bd (ms X9 0 3 (X6 2 0)) fun X10 =>
        cl (f_X11_startAfresh X10) fun _ X12 =>
        cm RIV (X12 2 0) <|
        cl (f_X2_cellCount (X12 2 0) X12) fun r14 X15 =>
        cl (f_X11_answer r14 X15) fun r16 X17 =>
        some (r16, X17)
      else
        cl (f_X11_fail 9 X6) fun r18 X19 =>
        some (r18, X19)
    else
      B_X11_river_15   X
set_option maxRecDepth 20000 in
theorem gB_X11_river_15 {C : Cx} {V : Ev} {L : List Kd} (hC : Ok C V cX11_river RX11 4 11 294) (hR : Rt C V L (some .int) rI) (hL : LKc L)  (X : Mem)  : G C V L 0 0 4 15 [(0, vR V.1 0)] [] X (B_X11_river_15    X) := by
  unfold B_X11_river_15
  refine g_aload_n (q := 0) hC dX11_river_15 rfl rfl rfl ?_
  refine g_iconst (v := vI 1) hC dX11_river_16 rfl ?_
  refine g_callVI (As := [vI 1]) hC mv_X11_fail wml_RX11_162 (k_X11_fail _ V hL 1 X) cf_X11 (at_0 hL) (by decide) ⟨Nat.zero_le _, Nat.zero_le _⟩ rfl rfl ⟨Nat.le_of_ble_eq_true rfl, Nat.le_of_ble_eq_true rfl⟩ (Nat.le_of_ble_eq_true rfl) dX11_river_17 (fun r1 X2 => ?_)
  exact g_iret hC hR dX11_river_20
set_option maxRecDepth 20000 in
theorem k_X11_river (l : Launch) (V : Ev) {L : List Kd} (hL : LKc L) (p1 : Int) (X : Mem)  : Kt l V L yX11_river (.code yX11_river cX11_river 4 (some .int)) 11 294 [vR V.1 0, vI p1] rI X (f_X11_river p1 X) := by
  refine kt_of (own := RX11) (lv0 := [(0, vR V.1 0), (1, vI p1)]) (by decide) rfl (Nat.le_of_ble_eq_true rfl) rfl (fun C hCl hC hR => ?_)
  subst hCl
  unfold f_X11_river
  refine g_iload_n (q := 1) hC dX11_river_0 rfl rfl ?_
  refine g_if_lt (tgt := 15) hC dX11_river_1 (by decide) ?_ ?_
  · refine g_sub [0] rfl ?_
    exact gB_X11_river_15 hC hR hL  X
  · refine g_iload_n (q := 1) hC dX11_river_4 rfl rfl ?_
    refine g_aload_n (q := 0) hC dX11_river_5 rfl rfl rfl ?_
    refine g_getS (k := 5) hC cf_X11 (at_0 hL) (by decide) rfl (by decide) (by decide) wf_RX11_43 dX11_river_6 ?_
    refine g_getI (k := 1) (kz := 1) hC cf_X8 (at_35 hL) (by decide) rfl (by decide) rfl wf_RX11_182 dX11_river_9 ?_
    refine g_icmp_le (tgt := 21) hC dX11_river_12 (by decide) ?_ ?_
    · refine g_aload_n (q := 0) hC dX11_river_21 rfl rfl rfl ?_
      refine g_getS (k := 6) hC cf_X11 (at_0 hL) (by decide) rfl (by decide) (by decide) wf_RX11_52 dX11_river_22 ?_
      refine g_iload_n (q := 1) hC dX11_river_25 rfl rfl ?_
      refine g_aload_n (q := 0) hC dX11_river_26 rfl rfl rfl ?_
      refine g_getD (k := 3) (kz := 3) hC cf_X11 (at_0 hL) (by decide) rfl (by decide) rfl wf_RX11_29 dX11_river_27 (g_cm (l := RIV) fun m3 => ?_)
      refine g_callVI (As := [vI p1, vR V.1 (X 0 3)]) hC mv_X3_parse wml_RX11_189 (k_X3_parse _ V hL p1 (X 0 3) X (riv_of hL m3)) cf_X3 (at_37 hL) (by decide) ⟨Nat.zero_le _, Nat.zero_le _⟩ rfl rfl ⟨Nat.le_of_ble_eq_true rfl, Nat.le_of_ble_eq_true rfl⟩ (Nat.le_of_ble_eq_true rfl) dX11_river_30 (fun r4 X5 => ?_)
      refine g_istore_n hC dX11_river_33 rfl (by decide) rfl ?_
      refine g_aload_n (q := 1) hC dX11_river_34 rfl rfl rfl ?_
      refine g_getS (k := 5) hC cf_X11 (at_0 hL) (by decide) rfl (by decide) (by decide) wf_RX11_43 dX11_river_35 ?_
      refine g_iconst (v := vI 0) hC dX11_river_38 rfl ?_
      refine g_putI (k := 1) (kz := 1) hC cf_X8 (at_35 hL) (by decide) rfl (by decide) rfl wf_RX11_182 rfl rfl dX11_river_39 (fun X6 => ?_)
      refine g_iload_n (q := 0) hC dX11_river_42 rfl rfl ?_
      refine g_if_ne (tgt := 53) hC dX11_river_43 (by decide) ?_ ?_
      · refine g_aload_n (q := 1) hC dX11_river_53 rfl rfl rfl ?_
        refine g_getS (k := 1) hC cf_X11 (at_0 hL) (by decide) rfl (by decide) (by decide) wf_RX11_18 dX11_river_54 ?_
        refine g_getD (k := 0) (kz := 0) hC cf_X7 (at_2 hL) (by decide) rfl (by decide) rfl wf_RX11_58 dX11_river_57 (g_cm (l := RIV) fun m7 => ?_)
        refine g_astore_n hC dX11_river_60 rfl (by decide) rfl rfl ?_
        refine g_aload_n (q := 2) hC dX11_river_61 rfl rfl rfl ?_
        refine g_getS (k := 1) hC cf_X11 (at_0 hL) (by decide) rfl (by decide) (by decide) wf_RX11_18 dX11_river_62 ?_
        refine g_aload_n (q := 2) hC dX11_river_65 rfl rfl rfl ?_
        refine g_getD (k := 3) (kz := 3) hC cf_X11 (at_0 hL) (by decide) rfl (by decide) rfl wf_RX11_29 dX11_river_66 (g_cm (l := RIV) fun m8 => ?_)
        refine g_putD (k := 0) (kz := 0) hC cf_X7 (at_2 hL) (by decide) rfl (by decide) rfl wf_RX11_58 rfl rfl dX11_river_69 (fun X9 => ?_)
        refine g_aload_n (q := 2) hC dX11_river_72 rfl rfl rfl ?_
        refine g_aload_n (q := 0) hC dX11_river_73 rfl rfl rfl ?_
        refine g_putD (k := 3) (kz := 3) hC cf_X11 (at_0 hL) (by decide) rfl (by decide) rfl wf_RX11_29 rfl rfl dX11_river_74 (fun X10 => ?_)
        refine g_aload_n (q := 2) hC dX11_river_77 rfl rfl rfl ?_
        refine g_callVV (As := []) hC mv_X11_startAfresh wml_RX11_193 (k_X11_startAfresh _ V hL X10) cf_X11 (at_0 hL) (by decide) ⟨Nat.zero_le _, Nat.zero_le _⟩ rfl rfl ⟨Nat.le_of_ble_eq_true rfl, Nat.le_of_ble_eq_true rfl⟩ (Nat.le_of_ble_eq_true rfl) dX11_river_78 (fun _ X12 => ?_)
        refine g_aload_n (q := 2) hC dX11_river_81 rfl rfl rfl ?_
        refine g_aload_n (q := 2) hC dX11_river_82 rfl rfl rfl ?_
        refine g_getS (k := 1) hC cf_X11 (at_0 hL) (by decide) rfl (by decide) (by decide) wf_RX11_18 dX11_river_83 ?_
        refine g_getD (k := 0) (kz := 0) hC cf_X7 (at_2 hL) (by decide) rfl (by decide) rfl wf_RX11_58 dX11_river_86 (g_cm (l := RIV) fun m13 => ?_)
        refine g_callVI (As := []) hC mv_X2_cellCount wml_RX11_196 (k_X2_cellCount _ V (X12 2 0) X12 (riv_of hL m13)) cf_X2 (rv_0 (riv_of hL m13)) (by decide) ⟨Nat.zero_le _, Nat.zero_le _⟩ rfl rfl ⟨Nat.le_of_ble_eq_true rfl, Nat.le_of_ble_eq_true rfl⟩ (Nat.le_of_ble_eq_true rfl) dX11_river_89 (fun r14 X15 => ?_)
        refine g_callVI (As := [vI r14]) hC mv_X11_answer wml_RX11_200 (k_X11_answer _ V hL r14 X15) cf_X11 (at_0 hL) (by decide) ⟨Nat.zero_le _, Nat.zero_le _⟩ rfl rfl ⟨Nat.le_of_ble_eq_true rfl, Nat.le_of_ble_eq_true rfl⟩ (Nat.le_of_ble_eq_true rfl) dX11_river_92 (fun r16 X17 => ?_)
        exact g_iret hC hR dX11_river_95
      · refine g_aload_n (q := 1) hC dX11_river_46 rfl rfl rfl ?_
        refine g_bipush (v := vI 9) hC dX11_river_47 rfl ?_
        refine g_callVI (As := [vI 9]) hC mv_X11_fail wml_RX11_162 (k_X11_fail _ V hL 9 X6) cf_X11 (at_0 hL) (by decide) ⟨Nat.zero_le _, Nat.zero_le _⟩ rfl rfl ⟨Nat.le_of_ble_eq_true rfl, Nat.le_of_ble_eq_true rfl⟩ (Nat.le_of_ble_eq_true rfl) dX11_river_49 (fun r18 X19 => ?_)
        exact g_iret hC hR dX11_river_52
    · refine g_sub [0] rfl ?_
      exact gB_X11_river_15 hC hR hL  X
def B_X11_rule_22  (X : Mem) : Option (Int × Mem) :=
  cl (f_X11_fail 1 X) fun r1 X2 =>
  some (r1, X2)
def f_X11_rule (p1 : Int) (X : Mem) : Option (Int × Mem) :=
  c1 p1 <| if p1 < 0 then
    B_X11_rule_22   X
  else
    c2 p1 (X 35 1) <| if (X 35 1) < p1 then
      B_X11_rule_22   X
    else
      c2 p1 300 <| if p1 ≤ 300 then
        cm RUL (X 0 4) <|
        cm RIV (X 2 0) <|
        cl (f_X5_parse p1 (X 0 4) (X 2 0) X) fun r5 X6 =>
        bd (ms X6 35 1 0) fun X7 =>
        c1 r5 <| if ¬ r5 = 0 then
          cm RUL (X7 2 1) <|
          cm RUL (X7 0 4) <|
          bd (ms X7 2 1 (X7 0 4)) fun X10 =>
          bd (ms X10 0 4 (X7 2 1)) fun X11 =>
          cm RUL (X11 2 1) <|
          cl (f_X11_answer (X11 (X11 2 1) 1) X11) fun r13 X14 =>
          some (r13, X14)
        else
          cl (f_X11_fail 9 X7) fun r15 X16 =>
          some (r15, X16)
      else
        B_X11_rule_22   X
set_option maxRecDepth 20000 in
theorem gB_X11_rule_22 {C : Cx} {V : Ev} {L : List Kd} (hC : Ok C V cX11_rule RX11 4 12 316) (hR : Rt C V L (some .int) rI) (hL : LKc L)  (X : Mem)  : G C V L 0 0 4 22 [(0, vR V.1 0)] [] X (B_X11_rule_22    X) := by
  unfold B_X11_rule_22
  refine g_aload_n (q := 0) hC dX11_rule_22 rfl rfl rfl ?_
  refine g_iconst (v := vI 1) hC dX11_rule_23 rfl ?_
  refine g_callVI (As := [vI 1]) hC mv_X11_fail wml_RX11_162 (k_X11_fail _ V hL 1 X) cf_X11 (at_0 hL) (by decide) ⟨Nat.zero_le _, Nat.zero_le _⟩ rfl rfl ⟨Nat.le_of_ble_eq_true rfl, Nat.le_of_ble_eq_true rfl⟩ (Nat.le_of_ble_eq_true rfl) dX11_rule_24 (fun r1 X2 => ?_)
  exact g_iret hC hR dX11_rule_27
set_option maxRecDepth 20000 in
theorem k_X11_rule (l : Launch) (V : Ev) {L : List Kd} (hL : LKc L) (p1 : Int) (X : Mem)  : Kt l V L yX11_rule (.code yX11_rule cX11_rule 4 (some .int)) 12 316 [vR V.1 0, vI p1] rI X (f_X11_rule p1 X) := by
  refine kt_of (own := RX11) (lv0 := [(0, vR V.1 0), (1, vI p1)]) (by decide) rfl (Nat.le_of_ble_eq_true rfl) rfl (fun C hCl hC hR => ?_)
  subst hCl
  unfold f_X11_rule
  refine g_iload_n (q := 1) hC dX11_rule_0 rfl rfl ?_
  refine g_if_lt (tgt := 22) hC dX11_rule_1 (by decide) ?_ ?_
  · refine g_sub [0] rfl ?_
    exact gB_X11_rule_22 hC hR hL  X
  · refine g_iload_n (q := 1) hC dX11_rule_4 rfl rfl ?_
    refine g_aload_n (q := 0) hC dX11_rule_5 rfl rfl rfl ?_
    refine g_getS (k := 5) hC cf_X11 (at_0 hL) (by decide) rfl (by decide) (by decide) wf_RX11_43 dX11_rule_6 ?_
    refine g_getI (k := 1) (kz := 1) hC cf_X8 (at_35 hL) (by decide) rfl (by decide) rfl wf_RX11_182 dX11_rule_9 ?_
    refine g_icmp_gt (tgt := 22) hC dX11_rule_12 (by decide) ?_ ?_
    · refine g_sub [0] rfl ?_
      exact gB_X11_rule_22 hC hR hL  X
    · refine g_iload_n (q := 1) hC dX11_rule_15 rfl rfl ?_
      refine g_sipush (v := vI 300) hC dX11_rule_16 rfl ?_
      refine g_icmp_le (tgt := 28) hC dX11_rule_19 (by decide) ?_ ?_
      · refine g_aload_n (q := 0) hC dX11_rule_28 rfl rfl rfl ?_
        refine g_getS (k := 7) hC cf_X11 (at_0 hL) (by decide) rfl (by decide) (by decide) wf_RX11_64 dX11_rule_29 ?_
        refine g_iload_n (q := 1) hC dX11_rule_32 rfl rfl ?_
        refine g_aload_n (q := 0) hC dX11_rule_33 rfl rfl rfl ?_
        refine g_getD (k := 4) (kz := 4) hC cf_X11 (at_0 hL) (by decide) rfl (by decide) rfl wf_RX11_36 dX11_rule_34 (g_cm (l := RUL) fun m3 => ?_)
        refine g_aload_n (q := 0) hC dX11_rule_37 rfl rfl rfl ?_
        refine g_getS (k := 1) hC cf_X11 (at_0 hL) (by decide) rfl (by decide) (by decide) wf_RX11_18 dX11_rule_38 ?_
        refine g_getD (k := 0) (kz := 0) hC cf_X7 (at_2 hL) (by decide) rfl (by decide) rfl wf_RX11_58 dX11_rule_41 (g_cm (l := RIV) fun m4 => ?_)
        refine g_callVI (As := [vI p1, vR V.1 (X 0 4), vR V.1 (X 2 0)]) hC mv_X5_parse wml_RX11_203 (k_X5_parse _ V hL p1 (X 0 4) (X 2 0) X (rul_of hL m3) (riv_of hL m4)) cf_X5 (at_38 hL) (by decide) ⟨Nat.zero_le _, Nat.zero_le _⟩ rfl rfl ⟨Nat.le_of_ble_eq_true rfl, Nat.le_of_ble_eq_true rfl⟩ (Nat.le_of_ble_eq_true rfl) dX11_rule_44 (fun r5 X6 => ?_)
        refine g_istore_n hC dX11_rule_47 rfl (by decide) rfl ?_
        refine g_aload_n (q := 1) hC dX11_rule_48 rfl rfl rfl ?_
        refine g_getS (k := 5) hC cf_X11 (at_0 hL) (by decide) rfl (by decide) (by decide) wf_RX11_43 dX11_rule_49 ?_
        refine g_iconst (v := vI 0) hC dX11_rule_52 rfl ?_
        refine g_putI (k := 1) (kz := 1) hC cf_X8 (at_35 hL) (by decide) rfl (by decide) rfl wf_RX11_182 rfl rfl dX11_rule_53 (fun X7 => ?_)
        refine g_iload_n (q := 0) hC dX11_rule_56 rfl rfl ?_
        refine g_if_ne (tgt := 67) hC dX11_rule_57 (by decide) ?_ ?_
        · refine g_aload_n (q := 1) hC dX11_rule_67 rfl rfl rfl ?_
          refine g_getS (k := 1) hC cf_X11 (at_0 hL) (by decide) rfl (by decide) (by decide) wf_RX11_18 dX11_rule_68 ?_
          refine g_getD (k := 1) (kz := 1) hC cf_X7 (at_2 hL) (by decide) rfl (by decide) rfl wf_RX11_206 dX11_rule_71 (g_cm (l := RUL) fun m8 => ?_)
          refine g_astore_n hC dX11_rule_74 rfl (by decide) rfl rfl ?_
          refine g_aload_n (q := 2) hC dX11_rule_75 rfl rfl rfl ?_
          refine g_getS (k := 1) hC cf_X11 (at_0 hL) (by decide) rfl (by decide) (by decide) wf_RX11_18 dX11_rule_76 ?_
          refine g_aload_n (q := 2) hC dX11_rule_79 rfl rfl rfl ?_
          refine g_getD (k := 4) (kz := 4) hC cf_X11 (at_0 hL) (by decide) rfl (by decide) rfl wf_RX11_36 dX11_rule_80 (g_cm (l := RUL) fun m9 => ?_)
          refine g_putD (k := 1) (kz := 1) hC cf_X7 (at_2 hL) (by decide) rfl (by decide) rfl wf_RX11_206 rfl rfl dX11_rule_83 (fun X10 => ?_)
          refine g_aload_n (q := 2) hC dX11_rule_86 rfl rfl rfl ?_
          refine g_aload_n (q := 0) hC dX11_rule_87 rfl rfl rfl ?_
          refine g_putD (k := 4) (kz := 4) hC cf_X11 (at_0 hL) (by decide) rfl (by decide) rfl wf_RX11_36 rfl rfl dX11_rule_88 (fun X11 => ?_)
          refine g_aload_n (q := 2) hC dX11_rule_91 rfl rfl rfl ?_
          refine g_aload_n (q := 2) hC dX11_rule_92 rfl rfl rfl ?_
          refine g_getS (k := 1) hC cf_X11 (at_0 hL) (by decide) rfl (by decide) (by decide) wf_RX11_18 dX11_rule_93 ?_
          refine g_getD (k := 1) (kz := 1) hC cf_X7 (at_2 hL) (by decide) rfl (by decide) rfl wf_RX11_206 dX11_rule_96 (g_cm (l := RUL) fun m12 => ?_)
          refine g_getI (k := 1) (kz := 1) hC cf_X4 (ru_0 (rul_of hL m12)) (by decide) rfl (by decide) rfl wf_RX11_209 dX11_rule_99 ?_
          refine g_callVI (As := [vI (X11 (X11 2 1) 1)]) hC mv_X11_answer wml_RX11_200 (k_X11_answer _ V hL (X11 (X11 2 1) 1) X11) cf_X11 (at_0 hL) (by decide) ⟨Nat.zero_le _, Nat.zero_le _⟩ rfl rfl ⟨Nat.le_of_ble_eq_true rfl, Nat.le_of_ble_eq_true rfl⟩ (Nat.le_of_ble_eq_true rfl) dX11_rule_102 (fun r13 X14 => ?_)
          exact g_iret hC hR dX11_rule_105
        · refine g_aload_n (q := 1) hC dX11_rule_60 rfl rfl rfl ?_
          refine g_bipush (v := vI 9) hC dX11_rule_61 rfl ?_
          refine g_callVI (As := [vI 9]) hC mv_X11_fail wml_RX11_162 (k_X11_fail _ V hL 9 X7) cf_X11 (at_0 hL) (by decide) ⟨Nat.zero_le _, Nat.zero_le _⟩ rfl rfl ⟨Nat.le_of_ble_eq_true rfl, Nat.le_of_ble_eq_true rfl⟩ (Nat.le_of_ble_eq_true rfl) dX11_rule_63 (fun r15 X16 => ?_)
          exact g_iret hC hR dX11_rule_66
      · refine g_sub [0] rfl ?_
        exact gB_X11_rule_22 hC hR hL  X
def f_X11_fault (p1 : Int) (X : Mem) : Option (Int × Mem) :=
  c1 p1 <| if ¬ p1 = 0 then
    c2 p1 1 <| if ¬ p1 = 1 then
      some ((-1), X)
    else
      some (X 35 10, X)
  else
    some (X 35 9, X)
set_option maxRecDepth 20000 in
theorem k_X11_fault (l : Launch) (V : Ev) {L : List Kd} (hL : LKc L) (p1 : Int) (X : Mem)  : Kt l V L yX11_fault (.code yX11_fault cX11_fault 2 (some .int)) 0 0 [vR V.1 0, vI p1] rI X (f_X11_fault p1 X) := by
  refine kt_of (own := RX11) (lv0 := [(0, vR V.1 0), (1, vI p1)]) (by decide) rfl (Nat.le_of_ble_eq_true rfl) rfl (fun C hCl hC hR => ?_)
  subst hCl
  unfold f_X11_fault
  refine g_iload_n (q := 1) hC dX11_fault_0 rfl rfl ?_
  refine g_if_ne (tgt := 12) hC dX11_fault_1 (by decide) ?_ ?_
  · refine g_iload_n (q := 1) hC dX11_fault_12 rfl rfl ?_
    refine g_iconst (v := vI 1) hC dX11_fault_13 rfl ?_
    refine g_icmp_ne (tgt := 27) hC dX11_fault_14 (by decide) ?_ ?_
    · refine g_iconst (v := vI (-1)) hC dX11_fault_27 rfl ?_
      exact g_iret hC hR dX11_fault_28
    · refine g_aload_n (q := 0) hC dX11_fault_17 rfl rfl rfl ?_
      refine g_getS (k := 5) hC cf_X11 (at_0 hL) (by decide) rfl (by decide) (by decide) wf_RX11_43 dX11_fault_18 ?_
      refine g_getI (k := 10) (kz := 10) hC cf_X8 (at_35 hL) (by decide) rfl (by decide) rfl wf_RX11_215 dX11_fault_21 ?_
      refine g_goto (tgt := 28) hC dX11_fault_24 (by decide) ?_
      exact g_iret hC hR dX11_fault_28
  · refine g_aload_n (q := 0) hC dX11_fault_4 rfl rfl rfl ?_
    refine g_getS (k := 5) hC cf_X11 (at_0 hL) (by decide) rfl (by decide) (by decide) wf_RX11_43 dX11_fault_5 ?_
    refine g_getI (k := 9) (kz := 9) hC cf_X8 (at_35 hL) (by decide) rfl (by decide) rfl wf_RX11_212 dX11_fault_8 ?_
    exact g_iret hC hR dX11_fault_11
def f_X11_told (p1 : Int) (X : Mem) : Option (Int × Mem) :=
  cm RIV (X 2 0) <|
  c1 p1 <|
  if p1 = 0 then
    cl (f_X11_answer (X (X 2 0) 0) X) fun r28 X29 =>
    some (r28, X29)
  else
  if p1 = 1 then
    cl (f_X11_answer (X (X 2 0) 1) X) fun r26 X27 =>
    some (r26, X27)
  else
  if p1 = 2 then
    cl (f_X11_answer (X (X 2 0) 2) X) fun r24 X25 =>
    some (r24, X25)
  else
  if p1 = 3 then
    cl (f_X11_answer (X 2 3) X) fun r22 X23 =>
    some (r22, X23)
  else
  if p1 = 4 then
    cl (f_X11_answer (X 2 4) X) fun r20 X21 =>
    some (r20, X21)
  else
  if p1 = 5 then
    cl (f_X11_answer (X (X 2 0) 3) X) fun r18 X19 =>
    some (r18, X19)
  else
  if p1 = 6 then
    cl (f_X11_answer (X (X 2 0) 4) X) fun r16 X17 =>
    some (r16, X17)
  else
  if p1 = 7 then
    cl (f_X11_answer (X (X 2 0) 5) X) fun r14 X15 =>
    some (r14, X15)
  else
  if p1 = 8 then
    cl (f_X11_answer (X (X 2 0) 6) X) fun r12 X13 =>
    some (r12, X13)
  else
  if p1 = 9 then
    cl (f_X11_answer (X (X 2 0) 7) X) fun r10 X11 =>
    some (r10, X11)
  else
  if p1 = 10 then
    cl (f_X11_answer (X (X 2 0) 8) X) fun r8 X9 =>
    some (r8, X9)
  else
  if p1 = 11 then
    cl (f_X11_answer (X (X 2 0) 9) X) fun r6 X7 =>
    some (r6, X7)
  else
  if p1 = 12 then
    cl (f_X11_answer (X (X 2 0) 10) X) fun r4 X5 =>
    some (r4, X5)
  else
    cl (f_X11_fail 1 X) fun r2 X3 =>
    some (r2, X3)
set_option maxRecDepth 20000 in
theorem k_X11_told (l : Launch) (V : Ev) {L : List Kd} (hL : LKc L) (p1 : Int) (X : Mem)  : Kt l V L yX11_told (.code yX11_told cX11_told 3 (some .int)) 1 21 [vR V.1 0, vI p1] rI X (f_X11_told p1 X) := by
  refine kt_of (own := RX11) (lv0 := [(0, vR V.1 0), (1, vI p1)]) (by decide) rfl (Nat.le_of_ble_eq_true rfl) rfl (fun C hCl hC hR => ?_)
  subst hCl
  unfold f_X11_told
  refine g_aload_n (q := 0) hC dX11_told_0 rfl rfl rfl ?_
  refine g_getS (k := 1) hC cf_X11 (at_0 hL) (by decide) rfl (by decide) (by decide) wf_RX11_18 dX11_told_1 ?_
  refine g_getD (k := 0) (kz := 0) hC cf_X7 (at_2 hL) (by decide) rfl (by decide) rfl wf_RX11_58 dX11_told_4 (g_cm (l := RIV) fun m1 => ?_)
  refine g_astore_n hC dX11_told_7 rfl (by decide) rfl rfl ?_
  refine g_iload_n (q := 2) hC dX11_told_8 rfl rfl ?_
  refine g_c1 (fun hz => ?_)
  refine g_ite (fun hq0 => ?_) (fun hq0 => ?_)
  · refine g_tabIn (j := 0) (tgt := 76) hC dX11_told_9 (by omega) rfl (by decide) (by decide) ?_
    refine g_aload_n (q := 1) hC dX11_told_76 rfl rfl rfl ?_
    refine g_aload_n (q := 0) hC dX11_told_77 rfl rfl rfl ?_
    refine g_getI (k := 0) (kz := 0) hC cf_X2 (rv_0 (riv_of hL m1)) (by decide) rfl (by decide) rfl wf_RX11_218 dX11_told_78 ?_
    refine g_callVI (As := [vI (X (X 2 0) 0)]) hC mv_X11_answer wml_RX11_200 (k_X11_answer _ V hL (X (X 2 0) 0) X) cf_X11 (at_0 hL) (by decide) ⟨Nat.zero_le _, Nat.zero_le _⟩ rfl rfl ⟨Nat.le_of_ble_eq_true rfl, Nat.le_of_ble_eq_true rfl⟩ (Nat.le_of_ble_eq_true rfl) dX11_told_81 (fun r28 X29 => ?_)
    exact g_iret hC hR dX11_told_84
  · refine g_ite (fun hq1 => ?_) (fun hq1 => ?_)
    · refine g_tabIn (j := 1) (tgt := 85) hC dX11_told_9 (by omega) rfl (by decide) (by decide) ?_
      refine g_aload_n (q := 1) hC dX11_told_85 rfl rfl rfl ?_
      refine g_aload_n (q := 0) hC dX11_told_86 rfl rfl rfl ?_
      refine g_getI (k := 1) (kz := 1) hC cf_X2 (rv_0 (riv_of hL m1)) (by decide) rfl (by decide) rfl wf_RX11_221 dX11_told_87 ?_
      refine g_callVI (As := [vI (X (X 2 0) 1)]) hC mv_X11_answer wml_RX11_200 (k_X11_answer _ V hL (X (X 2 0) 1) X) cf_X11 (at_0 hL) (by decide) ⟨Nat.zero_le _, Nat.zero_le _⟩ rfl rfl ⟨Nat.le_of_ble_eq_true rfl, Nat.le_of_ble_eq_true rfl⟩ (Nat.le_of_ble_eq_true rfl) dX11_told_90 (fun r26 X27 => ?_)
      exact g_iret hC hR dX11_told_93
    · refine g_ite (fun hq2 => ?_) (fun hq2 => ?_)
      · refine g_tabIn (j := 2) (tgt := 94) hC dX11_told_9 (by omega) rfl (by decide) (by decide) ?_
        refine g_aload_n (q := 1) hC dX11_told_94 rfl rfl rfl ?_
        refine g_aload_n (q := 0) hC dX11_told_95 rfl rfl rfl ?_
        refine g_getI (k := 2) (kz := 2) hC cf_X2 (rv_0 (riv_of hL m1)) (by decide) rfl (by decide) rfl wf_RX11_224 dX11_told_96 ?_
        refine g_callVI (As := [vI (X (X 2 0) 2)]) hC mv_X11_answer wml_RX11_200 (k_X11_answer _ V hL (X (X 2 0) 2) X) cf_X11 (at_0 hL) (by decide) ⟨Nat.zero_le _, Nat.zero_le _⟩ rfl rfl ⟨Nat.le_of_ble_eq_true rfl, Nat.le_of_ble_eq_true rfl⟩ (Nat.le_of_ble_eq_true rfl) dX11_told_99 (fun r24 X25 => ?_)
        exact g_iret hC hR dX11_told_102
      · refine g_ite (fun hq3 => ?_) (fun hq3 => ?_)
        · refine g_tabIn (j := 3) (tgt := 103) hC dX11_told_9 (by omega) rfl (by decide) (by decide) ?_
          refine g_aload_n (q := 1) hC dX11_told_103 rfl rfl rfl ?_
          refine g_aload_n (q := 1) hC dX11_told_104 rfl rfl rfl ?_
          refine g_getS (k := 1) hC cf_X11 (at_0 hL) (by decide) rfl (by decide) (by decide) wf_RX11_18 dX11_told_105 ?_
          refine g_getI (k := 3) (kz := 3) hC cf_X7 (at_2 hL) (by decide) rfl (by decide) rfl wf_RX11_227 dX11_told_108 ?_
          refine g_callVI (As := [vI (X 2 3)]) hC mv_X11_answer wml_RX11_200 (k_X11_answer _ V hL (X 2 3) X) cf_X11 (at_0 hL) (by decide) ⟨Nat.zero_le _, Nat.zero_le _⟩ rfl rfl ⟨Nat.le_of_ble_eq_true rfl, Nat.le_of_ble_eq_true rfl⟩ (Nat.le_of_ble_eq_true rfl) dX11_told_111 (fun r22 X23 => ?_)
          exact g_iret hC hR dX11_told_114
        · refine g_ite (fun hq4 => ?_) (fun hq4 => ?_)
          · refine g_tabIn (j := 4) (tgt := 115) hC dX11_told_9 (by omega) rfl (by decide) (by decide) ?_
            refine g_aload_n (q := 1) hC dX11_told_115 rfl rfl rfl ?_
            refine g_aload_n (q := 1) hC dX11_told_116 rfl rfl rfl ?_
            refine g_getS (k := 1) hC cf_X11 (at_0 hL) (by decide) rfl (by decide) (by decide) wf_RX11_18 dX11_told_117 ?_
            refine g_getI (k := 4) (kz := 4) hC cf_X7 (at_2 hL) (by decide) rfl (by decide) rfl wf_RX11_230 dX11_told_120 ?_
            refine g_callVI (As := [vI (X 2 4)]) hC mv_X11_answer wml_RX11_200 (k_X11_answer _ V hL (X 2 4) X) cf_X11 (at_0 hL) (by decide) ⟨Nat.zero_le _, Nat.zero_le _⟩ rfl rfl ⟨Nat.le_of_ble_eq_true rfl, Nat.le_of_ble_eq_true rfl⟩ (Nat.le_of_ble_eq_true rfl) dX11_told_123 (fun r20 X21 => ?_)
            exact g_iret hC hR dX11_told_126
          · refine g_ite (fun hq5 => ?_) (fun hq5 => ?_)
            · refine g_tabIn (j := 5) (tgt := 127) hC dX11_told_9 (by omega) rfl (by decide) (by decide) ?_
              refine g_aload_n (q := 1) hC dX11_told_127 rfl rfl rfl ?_
              refine g_aload_n (q := 0) hC dX11_told_128 rfl rfl rfl ?_
              refine g_getI (k := 3) (kz := 3) hC cf_X2 (rv_0 (riv_of hL m1)) (by decide) rfl (by decide) rfl wf_RX11_233 dX11_told_129 ?_
              refine g_callVI (As := [vI (X (X 2 0) 3)]) hC mv_X11_answer wml_RX11_200 (k_X11_answer _ V hL (X (X 2 0) 3) X) cf_X11 (at_0 hL) (by decide) ⟨Nat.zero_le _, Nat.zero_le _⟩ rfl rfl ⟨Nat.le_of_ble_eq_true rfl, Nat.le_of_ble_eq_true rfl⟩ (Nat.le_of_ble_eq_true rfl) dX11_told_132 (fun r18 X19 => ?_)
              exact g_iret hC hR dX11_told_135
            · refine g_ite (fun hq6 => ?_) (fun hq6 => ?_)
              · refine g_tabIn (j := 6) (tgt := 136) hC dX11_told_9 (by omega) rfl (by decide) (by decide) ?_
                refine g_aload_n (q := 1) hC dX11_told_136 rfl rfl rfl ?_
                refine g_aload_n (q := 0) hC dX11_told_137 rfl rfl rfl ?_
                refine g_getI (k := 4) (kz := 4) hC cf_X2 (rv_0 (riv_of hL m1)) (by decide) rfl (by decide) rfl wf_RX11_236 dX11_told_138 ?_
                refine g_callVI (As := [vI (X (X 2 0) 4)]) hC mv_X11_answer wml_RX11_200 (k_X11_answer _ V hL (X (X 2 0) 4) X) cf_X11 (at_0 hL) (by decide) ⟨Nat.zero_le _, Nat.zero_le _⟩ rfl rfl ⟨Nat.le_of_ble_eq_true rfl, Nat.le_of_ble_eq_true rfl⟩ (Nat.le_of_ble_eq_true rfl) dX11_told_141 (fun r16 X17 => ?_)
                exact g_iret hC hR dX11_told_144
              · refine g_ite (fun hq7 => ?_) (fun hq7 => ?_)
                · refine g_tabIn (j := 7) (tgt := 145) hC dX11_told_9 (by omega) rfl (by decide) (by decide) ?_
                  refine g_aload_n (q := 1) hC dX11_told_145 rfl rfl rfl ?_
                  refine g_aload_n (q := 0) hC dX11_told_146 rfl rfl rfl ?_
                  refine g_getI (k := 5) (kz := 5) hC cf_X2 (rv_0 (riv_of hL m1)) (by decide) rfl (by decide) rfl wf_RX11_239 dX11_told_147 ?_
                  refine g_callVI (As := [vI (X (X 2 0) 5)]) hC mv_X11_answer wml_RX11_200 (k_X11_answer _ V hL (X (X 2 0) 5) X) cf_X11 (at_0 hL) (by decide) ⟨Nat.zero_le _, Nat.zero_le _⟩ rfl rfl ⟨Nat.le_of_ble_eq_true rfl, Nat.le_of_ble_eq_true rfl⟩ (Nat.le_of_ble_eq_true rfl) dX11_told_150 (fun r14 X15 => ?_)
                  exact g_iret hC hR dX11_told_153
                · refine g_ite (fun hq8 => ?_) (fun hq8 => ?_)
                  · refine g_tabIn (j := 8) (tgt := 154) hC dX11_told_9 (by omega) rfl (by decide) (by decide) ?_
                    refine g_aload_n (q := 1) hC dX11_told_154 rfl rfl rfl ?_
                    refine g_aload_n (q := 0) hC dX11_told_155 rfl rfl rfl ?_
                    refine g_getI (k := 6) (kz := 6) hC cf_X2 (rv_0 (riv_of hL m1)) (by decide) rfl (by decide) rfl wf_RX11_242 dX11_told_156 ?_
                    refine g_callVI (As := [vI (X (X 2 0) 6)]) hC mv_X11_answer wml_RX11_200 (k_X11_answer _ V hL (X (X 2 0) 6) X) cf_X11 (at_0 hL) (by decide) ⟨Nat.zero_le _, Nat.zero_le _⟩ rfl rfl ⟨Nat.le_of_ble_eq_true rfl, Nat.le_of_ble_eq_true rfl⟩ (Nat.le_of_ble_eq_true rfl) dX11_told_159 (fun r12 X13 => ?_)
                    exact g_iret hC hR dX11_told_162
                  · refine g_ite (fun hq9 => ?_) (fun hq9 => ?_)
                    · refine g_tabIn (j := 9) (tgt := 163) hC dX11_told_9 (by omega) rfl (by decide) (by decide) ?_
                      refine g_aload_n (q := 1) hC dX11_told_163 rfl rfl rfl ?_
                      refine g_aload_n (q := 0) hC dX11_told_164 rfl rfl rfl ?_
                      refine g_getI (k := 7) (kz := 7) hC cf_X2 (rv_0 (riv_of hL m1)) (by decide) rfl (by decide) rfl wf_RX11_245 dX11_told_165 ?_
                      refine g_callVI (As := [vI (X (X 2 0) 7)]) hC mv_X11_answer wml_RX11_200 (k_X11_answer _ V hL (X (X 2 0) 7) X) cf_X11 (at_0 hL) (by decide) ⟨Nat.zero_le _, Nat.zero_le _⟩ rfl rfl ⟨Nat.le_of_ble_eq_true rfl, Nat.le_of_ble_eq_true rfl⟩ (Nat.le_of_ble_eq_true rfl) dX11_told_168 (fun r10 X11 => ?_)
                      exact g_iret hC hR dX11_told_171
                    · refine g_ite (fun hq10 => ?_) (fun hq10 => ?_)
                      · refine g_tabIn (j := 10) (tgt := 172) hC dX11_told_9 (by omega) rfl (by decide) (by decide) ?_
                        refine g_aload_n (q := 1) hC dX11_told_172 rfl rfl rfl ?_
                        refine g_aload_n (q := 0) hC dX11_told_173 rfl rfl rfl ?_
                        refine g_getI (k := 8) (kz := 8) hC cf_X2 (rv_0 (riv_of hL m1)) (by decide) rfl (by decide) rfl wf_RX11_248 dX11_told_174 ?_
                        refine g_callVI (As := [vI (X (X 2 0) 8)]) hC mv_X11_answer wml_RX11_200 (k_X11_answer _ V hL (X (X 2 0) 8) X) cf_X11 (at_0 hL) (by decide) ⟨Nat.zero_le _, Nat.zero_le _⟩ rfl rfl ⟨Nat.le_of_ble_eq_true rfl, Nat.le_of_ble_eq_true rfl⟩ (Nat.le_of_ble_eq_true rfl) dX11_told_177 (fun r8 X9 => ?_)
                        exact g_iret hC hR dX11_told_180
                      · refine g_ite (fun hq11 => ?_) (fun hq11 => ?_)
                        · refine g_tabIn (j := 11) (tgt := 181) hC dX11_told_9 (by omega) rfl (by decide) (by decide) ?_
                          refine g_aload_n (q := 1) hC dX11_told_181 rfl rfl rfl ?_
                          refine g_aload_n (q := 0) hC dX11_told_182 rfl rfl rfl ?_
                          refine g_getI (k := 9) (kz := 9) hC cf_X2 (rv_0 (riv_of hL m1)) (by decide) rfl (by decide) rfl wf_RX11_251 dX11_told_183 ?_
                          refine g_callVI (As := [vI (X (X 2 0) 9)]) hC mv_X11_answer wml_RX11_200 (k_X11_answer _ V hL (X (X 2 0) 9) X) cf_X11 (at_0 hL) (by decide) ⟨Nat.zero_le _, Nat.zero_le _⟩ rfl rfl ⟨Nat.le_of_ble_eq_true rfl, Nat.le_of_ble_eq_true rfl⟩ (Nat.le_of_ble_eq_true rfl) dX11_told_186 (fun r6 X7 => ?_)
                          exact g_iret hC hR dX11_told_189
                        · refine g_ite (fun hq12 => ?_) (fun hq12 => ?_)
                          · refine g_tabIn (j := 12) (tgt := 190) hC dX11_told_9 (by omega) rfl (by decide) (by decide) ?_
                            refine g_aload_n (q := 1) hC dX11_told_190 rfl rfl rfl ?_
                            refine g_aload_n (q := 0) hC dX11_told_191 rfl rfl rfl ?_
                            refine g_getI (k := 10) (kz := 10) hC cf_X2 (rv_0 (riv_of hL m1)) (by decide) rfl (by decide) rfl wf_RX11_254 dX11_told_192 ?_
                            refine g_callVI (As := [vI (X (X 2 0) 10)]) hC mv_X11_answer wml_RX11_200 (k_X11_answer _ V hL (X (X 2 0) 10) X) cf_X11 (at_0 hL) (by decide) ⟨Nat.zero_le _, Nat.zero_le _⟩ rfl rfl ⟨Nat.le_of_ble_eq_true rfl, Nat.le_of_ble_eq_true rfl⟩ (Nat.le_of_ble_eq_true rfl) dX11_told_195 (fun r4 X5 => ?_)
                            exact g_iret hC hR dX11_told_198
                          · refine g_tabOut (tgt := 199) hC dX11_told_9 hz (by omega) (by decide) ?_
                            refine g_aload_n (q := 1) hC dX11_told_199 rfl rfl rfl ?_
                            refine g_iconst (v := vI 1) hC dX11_told_200 rfl ?_
                            refine g_callVI (As := [vI 1]) hC mv_X11_fail wml_RX11_162 (k_X11_fail _ V hL 1 X) cf_X11 (at_0 hL) (by decide) ⟨Nat.zero_le _, Nat.zero_le _⟩ rfl rfl ⟨Nat.le_of_ble_eq_true rfl, Nat.le_of_ble_eq_true rfl⟩ (Nat.le_of_ble_eq_true rfl) dX11_told_201 (fun r2 X3 => ?_)
                            exact g_iret hC hR dX11_told_204
def f_X11_isBar (p1 : Int) (X : Mem) : Option (Int × Mem) :=
  c1 p1 <| if p1 < 0 then
    some (0, X)
  else
    cm RIV (X 2 0) <|
    c2 p1 (X (X 2 0) 2) <| if (X (X 2 0) 2) ≤ p1 then
      some (0, X)
    else
      some (1, X)
set_option maxRecDepth 20000 in
theorem k_X11_isBar (l : Launch) (V : Ev) {L : List Kd} (hL : LKc L) (p1 : Int) (X : Mem)  : Kt l V L yX11_isBar (.code yX11_isBar cX11_isBar 2 (some .boolean)) 0 0 [vR V.1 0, vI p1] rI X (f_X11_isBar p1 X) := by
  refine kt_of (own := RX11) (lv0 := [(0, vR V.1 0), (1, vI p1)]) (by decide) rfl (Nat.le_of_ble_eq_true rfl) rfl (fun C hCl hC hR => ?_)
  subst hCl
  unfold f_X11_isBar
  refine g_iload_n (q := 1) hC dX11_isBar_0 rfl rfl ?_
  refine g_if_lt (tgt := 22) hC dX11_isBar_1 (by decide) ?_ ?_
  · refine g_iconst (v := vI 0) hC dX11_isBar_22 rfl ?_
    exact g_zret1 hC hR (by decide) dX11_isBar_23
  · refine g_iload_n (q := 1) hC dX11_isBar_4 rfl rfl ?_
    refine g_aload_n (q := 0) hC dX11_isBar_5 rfl rfl rfl ?_
    refine g_getS (k := 1) hC cf_X11 (at_0 hL) (by decide) rfl (by decide) (by decide) wf_RX11_18 dX11_isBar_6 ?_
    refine g_getD (k := 0) (kz := 0) hC cf_X7 (at_2 hL) (by decide) rfl (by decide) rfl wf_RX11_58 dX11_isBar_9 (g_cm (l := RIV) fun m1 => ?_)
    refine g_getI (k := 2) (kz := 2) hC cf_X2 (rv_0 (riv_of hL m1)) (by decide) rfl (by decide) rfl wf_RX11_224 dX11_isBar_12 ?_
    refine g_icmp_ge (tgt := 22) hC dX11_isBar_15 (by decide) ?_ ?_
    · refine g_iconst (v := vI 0) hC dX11_isBar_22 rfl ?_
      exact g_zret1 hC hR (by decide) dX11_isBar_23
    · refine g_iconst (v := vI 1) hC dX11_isBar_18 rfl ?_
      refine g_goto (tgt := 23) hC dX11_isBar_19 (by decide) ?_
      exact g_zret1 hC hR (by decide) dX11_isBar_23
def B_X11_bar_17  (X : Mem) : Option (Int × Mem) :=
  cl (f_X11_fail 1 X) fun r3 X4 =>
  some (r3, X4)
def f_X11_bar (p1 : Int) (p2 : Int) (X : Mem) : Option (Int × Mem) :=
  cl (f_X11_isBar p1 X) fun r1 X2 =>
  c1 r1 <| if r1 = 0 then
    B_X11_bar_17   X2
  else
    c1 p2 <| if p2 < 0 then
      B_X11_bar_17   X2
    else
      c2 p2 5 <| if p2 ≤ 5 then
        cm RIV (X2 2 0) <|
        c1 p2 <|
        if p2 = 0 then
          ax 5 p1 <|
          cl (f_X11_answer (X2 ((X2 2 0) + 5) p1) X2) fun r20 X21 =>
          some (r20, X21)
        else
        if p2 = 1 then
          ax 5 p1 <|
          cl (f_X11_answer (X2 ((X2 2 0) + 6) p1) X2) fun r18 X19 =>
          some (r18, X19)
        else
        if p2 = 2 then
          ax 5 p1 <|
          cl (f_X11_answer (X2 ((X2 2 0) + 7) p1) X2) fun r16 X17 =>
          some (r16, X17)
        else
        if p2 = 3 then
          ax 5 p1 <|
          cl (f_X11_answer (X2 ((X2 2 0) + 8) p1) X2) fun r14 X15 =>
          some (r14, X15)
        else
        if p2 = 4 then
          cl (f_X2_cellsOf (X2 2 0) p1 X2) fun r10 X11 =>
          cl (f_X11_answer r10 X11) fun r12 X13 =>
          some (r12, X13)
        else
          ax 5 p1 <|
          c2 (X2 ((X2 2 0) + 9) p1) ((-1)) <| if ¬ (X2 ((X2 2 0) + 9) p1) = ((-1)) then
            ax 5 p1 <|
            cl (f_X11_answer (X2 ((X2 2 0) + 9) p1) X2) fun r6 X7 =>
            some (r6, X7)
          else
            cl (f_X11_fail 6 X2) fun r8 X9 =>
            some (r8, X9)
      else
        B_X11_bar_17   X2
set_option maxRecDepth 20000 in
theorem gB_X11_bar_17 {C : Cx} {V : Ev} {L : List Kd} (hC : Ok C V cX11_bar RX11 4 2 43) (hR : Rt C V L (some .int) rI) (hL : LKc L)  (X : Mem)  : G C V L 0 0 4 17 [(0, vR V.1 0)] [] X (B_X11_bar_17    X) := by
  unfold B_X11_bar_17
  refine g_aload_n (q := 0) hC dX11_bar_17 rfl rfl rfl ?_
  refine g_iconst (v := vI 1) hC dX11_bar_18 rfl ?_
  refine g_callVI (As := [vI 1]) hC mv_X11_fail wml_RX11_162 (k_X11_fail _ V hL 1 X) cf_X11 (at_0 hL) (by decide) ⟨Nat.zero_le _, Nat.zero_le _⟩ rfl rfl ⟨Nat.le_of_ble_eq_true rfl, Nat.le_of_ble_eq_true rfl⟩ (Nat.le_of_ble_eq_true rfl) dX11_bar_19 (fun r3 X4 => ?_)
  exact g_iret hC hR dX11_bar_22
set_option maxRecDepth 20000 in
theorem k_X11_bar (l : Launch) (V : Ev) {L : List Kd} (hL : LKc L) (p1 : Int) (p2 : Int) (X : Mem)  : Kt l V L yX11_bar (.code yX11_bar cX11_bar 4 (some .int)) 2 43 [vR V.1 0, vI p1, vI p2] rI X (f_X11_bar p1 p2 X) := by
  refine kt_of (own := RX11) (lv0 := [(0, vR V.1 0), (1, vI p1), (2, vI p2)]) (by decide) rfl (Nat.le_of_ble_eq_true rfl) rfl (fun C hCl hC hR => ?_)
  subst hCl
  unfold f_X11_bar
  refine g_aload_n (q := 0) hC dX11_bar_0 rfl rfl rfl ?_
  refine g_iload_n (q := 1) hC dX11_bar_1 rfl rfl ?_
  refine g_callVI (As := [vI p1]) hC mv_X11_isBar wml_RX11_257 (k_X11_isBar _ V hL p1 X) cf_X11 (at_0 hL) (by decide) ⟨Nat.zero_le _, Nat.zero_le _⟩ rfl rfl ⟨Nat.le_of_ble_eq_true rfl, Nat.le_of_ble_eq_true rfl⟩ (Nat.le_of_ble_eq_true rfl) dX11_bar_2 (fun r1 X2 => ?_)
  refine g_if_eq (tgt := 17) hC dX11_bar_5 (by decide) ?_ ?_
  · refine g_sub [0] rfl ?_
    exact gB_X11_bar_17 hC hR hL  X2
  · refine g_iload_n (q := 2) hC dX11_bar_8 rfl rfl ?_
    refine g_if_lt (tgt := 17) hC dX11_bar_9 (by decide) ?_ ?_
    · refine g_sub [0] rfl ?_
      exact gB_X11_bar_17 hC hR hL  X2
    · refine g_iload_n (q := 2) hC dX11_bar_12 rfl rfl ?_
      refine g_iconst (v := vI 5) hC dX11_bar_13 rfl ?_
      refine g_icmp_le (tgt := 23) hC dX11_bar_14 (by decide) ?_ ?_
      · refine g_aload_n (q := 0) hC dX11_bar_23 rfl rfl rfl ?_
        refine g_getS (k := 1) hC cf_X11 (at_0 hL) (by decide) rfl (by decide) (by decide) wf_RX11_18 dX11_bar_24 ?_
        refine g_getD (k := 0) (kz := 0) hC cf_X7 (at_2 hL) (by decide) rfl (by decide) rfl wf_RX11_58 dX11_bar_27 (g_cm (l := RIV) fun m5 => ?_)
        refine g_astore_n hC dX11_bar_30 rfl (by decide) rfl rfl ?_
        refine g_iload_n (q := 3) hC dX11_bar_31 rfl rfl ?_
        refine g_c1 (fun hz => ?_)
        refine g_ite (fun hq0 => ?_) (fun hq0 => ?_)
        · refine g_tabIn (j := 0) (tgt := 68) hC dX11_bar_32 (by omega) rfl (by decide) (by decide) ?_
          refine g_aload_n (q := 1) hC dX11_bar_68 rfl rfl rfl ?_
          refine g_aload_n (q := 0) hC dX11_bar_69 rfl rfl rfl ?_
          refine g_getS (k := 15) hC cf_X2 (rv_0 (riv_of hL m5)) (by decide) rfl (add_nn (rv_0 (riv_of hL m5))) (by decide) wf_RX11_260 dX11_bar_70 ?_
          refine g_iload_n (q := 2) hC dX11_bar_73 rfl rfl ?_
          refine g_iald hC (rv_5 (riv_of hL m5)) (by decide) dX11_bar_74 ?_
          refine g_callVI (As := [vI (X2 ((X2 2 0) + 5) p1)]) hC mv_X11_answer wml_RX11_200 (k_X11_answer _ V hL (X2 ((X2 2 0) + 5) p1) X2) cf_X11 (at_0 hL) (by decide) ⟨Nat.zero_le _, Nat.zero_le _⟩ rfl rfl ⟨Nat.le_of_ble_eq_true rfl, Nat.le_of_ble_eq_true rfl⟩ (Nat.le_of_ble_eq_true rfl) dX11_bar_75 (fun r20 X21 => ?_)
          exact g_iret hC hR dX11_bar_78
        · refine g_ite (fun hq1 => ?_) (fun hq1 => ?_)
          · refine g_tabIn (j := 1) (tgt := 79) hC dX11_bar_32 (by omega) rfl (by decide) (by decide) ?_
            refine g_aload_n (q := 1) hC dX11_bar_79 rfl rfl rfl ?_
            refine g_aload_n (q := 0) hC dX11_bar_80 rfl rfl rfl ?_
            refine g_getS (k := 16) hC cf_X2 (rv_0 (riv_of hL m5)) (by decide) rfl (add_nn (rv_0 (riv_of hL m5))) (by decide) wf_RX11_263 dX11_bar_81 ?_
            refine g_iload_n (q := 2) hC dX11_bar_84 rfl rfl ?_
            refine g_iald hC (rv_6 (riv_of hL m5)) (by decide) dX11_bar_85 ?_
            refine g_callVI (As := [vI (X2 ((X2 2 0) + 6) p1)]) hC mv_X11_answer wml_RX11_200 (k_X11_answer _ V hL (X2 ((X2 2 0) + 6) p1) X2) cf_X11 (at_0 hL) (by decide) ⟨Nat.zero_le _, Nat.zero_le _⟩ rfl rfl ⟨Nat.le_of_ble_eq_true rfl, Nat.le_of_ble_eq_true rfl⟩ (Nat.le_of_ble_eq_true rfl) dX11_bar_86 (fun r18 X19 => ?_)
            exact g_iret hC hR dX11_bar_89
          · refine g_ite (fun hq2 => ?_) (fun hq2 => ?_)
            · refine g_tabIn (j := 2) (tgt := 90) hC dX11_bar_32 (by omega) rfl (by decide) (by decide) ?_
              refine g_aload_n (q := 1) hC dX11_bar_90 rfl rfl rfl ?_
              refine g_aload_n (q := 0) hC dX11_bar_91 rfl rfl rfl ?_
              refine g_getS (k := 17) hC cf_X2 (rv_0 (riv_of hL m5)) (by decide) rfl (add_nn (rv_0 (riv_of hL m5))) (by decide) wf_RX11_266 dX11_bar_92 ?_
              refine g_iload_n (q := 2) hC dX11_bar_95 rfl rfl ?_
              refine g_iald hC (rv_7 (riv_of hL m5)) (by decide) dX11_bar_96 ?_
              refine g_callVI (As := [vI (X2 ((X2 2 0) + 7) p1)]) hC mv_X11_answer wml_RX11_200 (k_X11_answer _ V hL (X2 ((X2 2 0) + 7) p1) X2) cf_X11 (at_0 hL) (by decide) ⟨Nat.zero_le _, Nat.zero_le _⟩ rfl rfl ⟨Nat.le_of_ble_eq_true rfl, Nat.le_of_ble_eq_true rfl⟩ (Nat.le_of_ble_eq_true rfl) dX11_bar_97 (fun r16 X17 => ?_)
              exact g_iret hC hR dX11_bar_100
            · refine g_ite (fun hq3 => ?_) (fun hq3 => ?_)
              · refine g_tabIn (j := 3) (tgt := 101) hC dX11_bar_32 (by omega) rfl (by decide) (by decide) ?_
                refine g_aload_n (q := 1) hC dX11_bar_101 rfl rfl rfl ?_
                refine g_aload_n (q := 0) hC dX11_bar_102 rfl rfl rfl ?_
                refine g_getS (k := 18) hC cf_X2 (rv_0 (riv_of hL m5)) (by decide) rfl (add_nn (rv_0 (riv_of hL m5))) (by decide) wf_RX11_269 dX11_bar_103 ?_
                refine g_iload_n (q := 2) hC dX11_bar_106 rfl rfl ?_
                refine g_iald hC (rv_8 (riv_of hL m5)) (by decide) dX11_bar_107 ?_
                refine g_callVI (As := [vI (X2 ((X2 2 0) + 8) p1)]) hC mv_X11_answer wml_RX11_200 (k_X11_answer _ V hL (X2 ((X2 2 0) + 8) p1) X2) cf_X11 (at_0 hL) (by decide) ⟨Nat.zero_le _, Nat.zero_le _⟩ rfl rfl ⟨Nat.le_of_ble_eq_true rfl, Nat.le_of_ble_eq_true rfl⟩ (Nat.le_of_ble_eq_true rfl) dX11_bar_108 (fun r14 X15 => ?_)
                exact g_iret hC hR dX11_bar_111
              · refine g_ite (fun hq4 => ?_) (fun hq4 => ?_)
                · refine g_tabIn (j := 4) (tgt := 112) hC dX11_bar_32 (by omega) rfl (by decide) (by decide) ?_
                  refine g_aload_n (q := 1) hC dX11_bar_112 rfl rfl rfl ?_
                  refine g_aload_n (q := 0) hC dX11_bar_113 rfl rfl rfl ?_
                  refine g_iload_n (q := 2) hC dX11_bar_114 rfl rfl ?_
                  refine g_callVI (As := [vI p1]) hC mv_X2_cellsOf wml_RX11_272 (k_X2_cellsOf _ V (X2 2 0) p1 X2 (riv_of hL m5)) cf_X2 (rv_0 (riv_of hL m5)) (by decide) ⟨Nat.zero_le _, Nat.zero_le _⟩ rfl rfl ⟨Nat.le_of_ble_eq_true rfl, Nat.le_of_ble_eq_true rfl⟩ (Nat.le_of_ble_eq_true rfl) dX11_bar_115 (fun r10 X11 => ?_)
                  refine g_callVI (As := [vI r10]) hC mv_X11_answer wml_RX11_200 (k_X11_answer _ V hL r10 X11) cf_X11 (at_0 hL) (by decide) ⟨Nat.zero_le _, Nat.zero_le _⟩ rfl rfl ⟨Nat.le_of_ble_eq_true rfl, Nat.le_of_ble_eq_true rfl⟩ (Nat.le_of_ble_eq_true rfl) dX11_bar_118 (fun r12 X13 => ?_)
                  exact g_iret hC hR dX11_bar_121
                · refine g_tabOut (tgt := 122) hC dX11_bar_32 hz (by omega) (by decide) ?_
                  refine g_aload_n (q := 0) hC dX11_bar_122 rfl rfl rfl ?_
                  refine g_getS (k := 19) hC cf_X2 (rv_0 (riv_of hL m5)) (by decide) rfl (add_nn (rv_0 (riv_of hL m5))) (by decide) wf_RX11_275 dX11_bar_123 ?_
                  refine g_iload_n (q := 2) hC dX11_bar_126 rfl rfl ?_
                  refine g_iald hC (rv_9 (riv_of hL m5)) (by decide) dX11_bar_127 ?_
                  refine g_iconst (v := vI (-1)) hC dX11_bar_128 rfl ?_
                  refine g_icmp_ne (tgt := 141) hC dX11_bar_129 (by decide) ?_ ?_
                  · refine g_aload_n (q := 1) hC dX11_bar_141 rfl rfl rfl ?_
                    refine g_aload_n (q := 0) hC dX11_bar_142 rfl rfl rfl ?_
                    refine g_getS (k := 19) hC cf_X2 (rv_0 (riv_of hL m5)) (by decide) rfl (add_nn (rv_0 (riv_of hL m5))) (by decide) wf_RX11_275 dX11_bar_143 ?_
                    refine g_iload_n (q := 2) hC dX11_bar_146 rfl rfl ?_
                    refine g_iald hC (rv_9 (riv_of hL m5)) (by decide) dX11_bar_147 ?_
                    refine g_callVI (As := [vI (X2 ((X2 2 0) + 9) p1)]) hC mv_X11_answer wml_RX11_200 (k_X11_answer _ V hL (X2 ((X2 2 0) + 9) p1) X2) cf_X11 (at_0 hL) (by decide) ⟨Nat.zero_le _, Nat.zero_le _⟩ rfl rfl ⟨Nat.le_of_ble_eq_true rfl, Nat.le_of_ble_eq_true rfl⟩ (Nat.le_of_ble_eq_true rfl) dX11_bar_148 (fun r6 X7 => ?_)
                    exact g_iret hC hR dX11_bar_151
                  · refine g_aload_n (q := 1) hC dX11_bar_132 rfl rfl rfl ?_
                    refine g_bipush (v := vI 6) hC dX11_bar_133 rfl ?_
                    refine g_callVI (As := [vI 6]) hC mv_X11_fail wml_RX11_162 (k_X11_fail _ V hL 6 X2) cf_X11 (at_0 hL) (by decide) ⟨Nat.zero_le _, Nat.zero_le _⟩ rfl rfl ⟨Nat.le_of_ble_eq_true rfl, Nat.le_of_ble_eq_true rfl⟩ (Nat.le_of_ble_eq_true rfl) dX11_bar_135 (fun r8 X9 => ?_)
                    refine g_goto (tgt := 151) hC dX11_bar_138 (by decide) ?_
                    exact g_iret hC hR dX11_bar_151
      · refine g_sub [0] rfl ?_
        exact gB_X11_bar_17 hC hR hL  X2
def f_X11_isCell (p1 : Int) (X : Mem) : Option (Int × Mem) :=
  c1 p1 <| if p1 < 0 then
    some (0, X)
  else
    cm RIV (X 2 0) <|
    cl (f_X2_cellCount (X 2 0) X) fun r2 X3 =>
    c2 p1 r2 <| if r2 ≤ p1 then
      some (0, X3)
    else
      some (1, X3)
set_option maxRecDepth 20000 in
theorem k_X11_isCell (l : Launch) (V : Ev) {L : List Kd} (hL : LKc L) (p1 : Int) (X : Mem)  : Kt l V L yX11_isCell (.code yX11_isCell cX11_isCell 2 (some .boolean)) 1 20 [vR V.1 0, vI p1] rI X (f_X11_isCell p1 X) := by
  refine kt_of (own := RX11) (lv0 := [(0, vR V.1 0), (1, vI p1)]) (by decide) rfl (Nat.le_of_ble_eq_true rfl) rfl (fun C hCl hC hR => ?_)
  subst hCl
  unfold f_X11_isCell
  refine g_iload_n (q := 1) hC dX11_isCell_0 rfl rfl ?_
  refine g_if_lt (tgt := 22) hC dX11_isCell_1 (by decide) ?_ ?_
  · refine g_iconst (v := vI 0) hC dX11_isCell_22 rfl ?_
    exact g_zret1 hC hR (by decide) dX11_isCell_23
  · refine g_iload_n (q := 1) hC dX11_isCell_4 rfl rfl ?_
    refine g_aload_n (q := 0) hC dX11_isCell_5 rfl rfl rfl ?_
    refine g_getS (k := 1) hC cf_X11 (at_0 hL) (by decide) rfl (by decide) (by decide) wf_RX11_18 dX11_isCell_6 ?_
    refine g_getD (k := 0) (kz := 0) hC cf_X7 (at_2 hL) (by decide) rfl (by decide) rfl wf_RX11_58 dX11_isCell_9 (g_cm (l := RIV) fun m1 => ?_)
    refine g_callVI (As := []) hC mv_X2_cellCount wml_RX11_196 (k_X2_cellCount _ V (X 2 0) X (riv_of hL m1)) cf_X2 (rv_0 (riv_of hL m1)) (by decide) ⟨Nat.zero_le _, Nat.zero_le _⟩ rfl rfl ⟨Nat.le_of_ble_eq_true rfl, Nat.le_of_ble_eq_true rfl⟩ (Nat.le_of_ble_eq_true rfl) dX11_isCell_12 (fun r2 X3 => ?_)
    refine g_icmp_ge (tgt := 22) hC dX11_isCell_15 (by decide) ?_ ?_
    · refine g_iconst (v := vI 0) hC dX11_isCell_22 rfl ?_
      exact g_zret1 hC hR (by decide) dX11_isCell_23
    · refine g_iconst (v := vI 1) hC dX11_isCell_18 rfl ?_
      refine g_goto (tgt := 23) hC dX11_isCell_19 (by decide) ?_
      exact g_zret1 hC hR (by decide) dX11_isCell_23
def f_X11_barOf (p1 : Int) (X : Mem) : Option (Int × Mem) :=
  cl (f_X11_isCell p1 X) fun r1 X2 =>
  c1 r1 <| if ¬ r1 = 0 then
    cm RIV (X2 2 0) <|
    ax 60 p1 <|
    bd (X2 ((X2 2 0) + 2) p1) fun v4 =>
    c2 v4 ((-1)) <| if ¬ v4 = ((-1)) then
      cl (f_X11_answer v4 X2) fun r5 X6 =>
      some (r5, X6)
    else
      cl (f_X11_fail 6 X2) fun r7 X8 =>
      some (r7, X8)
  else
    cl (f_X11_fail 1 X2) fun r9 X10 =>
    some (r9, X10)
set_option maxRecDepth 20000 in
theorem k_X11_barOf (l : Launch) (V : Ev) {L : List Kd} (hL : LKc L) (p1 : Int) (X : Mem)  : Kt l V L yX11_barOf (.code yX11_barOf cX11_barOf 3 (some .int)) 2 41 [vR V.1 0, vI p1] rI X (f_X11_barOf p1 X) := by
  refine kt_of (own := RX11) (lv0 := [(0, vR V.1 0), (1, vI p1)]) (by decide) rfl (Nat.le_of_ble_eq_true rfl) rfl (fun C hCl hC hR => ?_)
  subst hCl
  unfold f_X11_barOf
  refine g_aload_n (q := 0) hC dX11_barOf_0 rfl rfl rfl ?_
  refine g_iload_n (q := 1) hC dX11_barOf_1 rfl rfl ?_
  refine g_callVI (As := [vI p1]) hC mv_X11_isCell wml_RX11_278 (k_X11_isCell _ V hL p1 X) cf_X11 (at_0 hL) (by decide) ⟨Nat.zero_le _, Nat.zero_le _⟩ rfl rfl ⟨Nat.le_of_ble_eq_true rfl, Nat.le_of_ble_eq_true rfl⟩ (Nat.le_of_ble_eq_true rfl) dX11_barOf_2 (fun r1 X2 => ?_)
  refine g_if_ne (tgt := 14) hC dX11_barOf_5 (by decide) ?_ ?_
  · refine g_aload_n (q := 0) hC dX11_barOf_14 rfl rfl rfl ?_
    refine g_getS (k := 1) hC cf_X11 (at_0 hL) (by decide) rfl (by decide) (by decide) wf_RX11_18 dX11_barOf_15 ?_
    refine g_getD (k := 0) (kz := 0) hC cf_X7 (at_2 hL) (by decide) rfl (by decide) rfl wf_RX11_58 dX11_barOf_18 (g_cm (l := RIV) fun m3 => ?_)
    refine g_getS (k := 12) hC cf_X2 (rv_0 (riv_of hL m3)) (by decide) rfl (add_nn (rv_0 (riv_of hL m3))) (by decide) wf_RX11_281 dX11_barOf_21 ?_
    refine g_iload_n (q := 1) hC dX11_barOf_24 rfl rfl ?_
    refine g_iald hC (rv_2 (riv_of hL m3)) (by decide) dX11_barOf_25 ?_
    refine g_topI (fun v4 => ?_)
    refine g_istore_n hC dX11_barOf_26 rfl (by decide) rfl ?_
    refine g_iload_n (q := 0) hC dX11_barOf_27 rfl rfl ?_
    refine g_iconst (v := vI (-1)) hC dX11_barOf_28 rfl ?_
    refine g_icmp_ne (tgt := 41) hC dX11_barOf_29 (by decide) ?_ ?_
    · refine g_aload_n (q := 1) hC dX11_barOf_41 rfl rfl rfl ?_
      refine g_iload_n (q := 0) hC dX11_barOf_42 rfl rfl ?_
      refine g_callVI (As := [vI v4]) hC mv_X11_answer wml_RX11_200 (k_X11_answer _ V hL v4 X2) cf_X11 (at_0 hL) (by decide) ⟨Nat.zero_le _, Nat.zero_le _⟩ rfl rfl ⟨Nat.le_of_ble_eq_true rfl, Nat.le_of_ble_eq_true rfl⟩ (Nat.le_of_ble_eq_true rfl) dX11_barOf_43 (fun r5 X6 => ?_)
      exact g_iret hC hR dX11_barOf_46
    · refine g_aload_n (q := 1) hC dX11_barOf_32 rfl rfl rfl ?_
      refine g_bipush (v := vI 6) hC dX11_barOf_33 rfl ?_
      refine g_callVI (As := [vI 6]) hC mv_X11_fail wml_RX11_162 (k_X11_fail _ V hL 6 X2) cf_X11 (at_0 hL) (by decide) ⟨Nat.zero_le _, Nat.zero_le _⟩ rfl rfl ⟨Nat.le_of_ble_eq_true rfl, Nat.le_of_ble_eq_true rfl⟩ (Nat.le_of_ble_eq_true rfl) dX11_barOf_35 (fun r7 X8 => ?_)
      refine g_goto (tgt := 46) hC dX11_barOf_38 (by decide) ?_
      exact g_iret hC hR dX11_barOf_46
  · refine g_aload_n (q := 0) hC dX11_barOf_8 rfl rfl rfl ?_
    refine g_iconst (v := vI 1) hC dX11_barOf_9 rfl ?_
    refine g_callVI (As := [vI 1]) hC mv_X11_fail wml_RX11_162 (k_X11_fail _ V hL 1 X2) cf_X11 (at_0 hL) (by decide) ⟨Nat.zero_le _, Nat.zero_le _⟩ rfl rfl ⟨Nat.le_of_ble_eq_true rfl, Nat.le_of_ble_eq_true rfl⟩ (Nat.le_of_ble_eq_true rfl) dX11_barOf_10 (fun r9 X10 => ?_)
    exact g_iret hC hR dX11_barOf_13
def B_X11_stage_10  (X : Mem) : Option (Int × Mem) :=
  cl (f_X11_fail 1 X) fun r1 X2 =>
  some (r1, X2)
def f_X11_stage (p1 : Int) (X : Mem) : Option (Int × Mem) :=
  c1 p1 <| if p1 < 0 then
    B_X11_stage_10   X
  else
    c2 p1 99 <| if p1 ≤ 99 then
      cm RIV (X 2 0) <|
      cl (f_X2_stageOn (X 2 0) p1 X) fun r4 X5 =>
      cl (f_X11_answer r4 X5) fun r6 X7 =>
      some (r6, X7)
    else
      B_X11_stage_10   X
set_option maxRecDepth 20000 in
theorem gB_X11_stage_10 {C : Cx} {V : Ev} {L : List Kd} (hC : Ok C V cX11_stage RX11 2 1 21) (hR : Rt C V L (some .int) rI) (hL : LKc L)  (X : Mem)  : G C V L 0 0 2 10 [(0, vR V.1 0)] [] X (B_X11_stage_10    X) := by
  unfold B_X11_stage_10
  refine g_aload_n (q := 0) hC dX11_stage_10 rfl rfl rfl ?_
  refine g_iconst (v := vI 1) hC dX11_stage_11 rfl ?_
  refine g_callVI (As := [vI 1]) hC mv_X11_fail wml_RX11_162 (k_X11_fail _ V hL 1 X) cf_X11 (at_0 hL) (by decide) ⟨Nat.zero_le _, Nat.zero_le _⟩ rfl rfl ⟨Nat.le_of_ble_eq_true rfl, Nat.le_of_ble_eq_true rfl⟩ (Nat.le_of_ble_eq_true rfl) dX11_stage_12 (fun r1 X2 => ?_)
  exact g_iret hC hR dX11_stage_15
set_option maxRecDepth 20000 in
theorem k_X11_stage (l : Launch) (V : Ev) {L : List Kd} (hL : LKc L) (p1 : Int) (X : Mem)  : Kt l V L yX11_stage (.code yX11_stage cX11_stage 2 (some .int)) 1 21 [vR V.1 0, vI p1] rI X (f_X11_stage p1 X) := by
  refine kt_of (own := RX11) (lv0 := [(0, vR V.1 0), (1, vI p1)]) (by decide) rfl (Nat.le_of_ble_eq_true rfl) rfl (fun C hCl hC hR => ?_)
  subst hCl
  unfold f_X11_stage
  refine g_iload_n (q := 1) hC dX11_stage_0 rfl rfl ?_
  refine g_if_lt (tgt := 10) hC dX11_stage_1 (by decide) ?_ ?_
  · refine g_sub [0] rfl ?_
    exact gB_X11_stage_10 hC hR hL  X
  · refine g_iload_n (q := 1) hC dX11_stage_4 rfl rfl ?_
    refine g_bipush (v := vI 99) hC dX11_stage_5 rfl ?_
    refine g_icmp_le (tgt := 16) hC dX11_stage_7 (by decide) ?_ ?_
    · refine g_aload_n (q := 0) hC dX11_stage_16 rfl rfl rfl ?_
      refine g_aload_n (q := 0) hC dX11_stage_17 rfl rfl rfl ?_
      refine g_getS (k := 1) hC cf_X11 (at_0 hL) (by decide) rfl (by decide) (by decide) wf_RX11_18 dX11_stage_18 ?_
      refine g_getD (k := 0) (kz := 0) hC cf_X7 (at_2 hL) (by decide) rfl (by decide) rfl wf_RX11_58 dX11_stage_21 (g_cm (l := RIV) fun m3 => ?_)
      refine g_iload_n (q := 1) hC dX11_stage_24 rfl rfl ?_
      refine g_callVI (As := [vI p1]) hC mv_X2_stageOn wml_RX11_284 (k_X2_stageOn _ V (X 2 0) p1 X (riv_of hL m3)) cf_X2 (rv_0 (riv_of hL m3)) (by decide) ⟨Nat.zero_le _, Nat.zero_le _⟩ rfl rfl ⟨Nat.le_of_ble_eq_true rfl, Nat.le_of_ble_eq_true rfl⟩ (Nat.le_of_ble_eq_true rfl) dX11_stage_25 (fun r4 X5 => ?_)
      refine g_callVI (As := [vI r4]) hC mv_X11_answer wml_RX11_200 (k_X11_answer _ V hL r4 X5) cf_X11 (at_0 hL) (by decide) ⟨Nat.zero_le _, Nat.zero_le _⟩ rfl rfl ⟨Nat.le_of_ble_eq_true rfl, Nat.le_of_ble_eq_true rfl⟩ (Nat.le_of_ble_eq_true rfl) dX11_stage_28 (fun r6 X7 => ?_)
      exact g_iret hC hR dX11_stage_31
    · refine g_sub [0] rfl ?_
      exact gB_X11_stage_10 hC hR hL  X
def f_X11_isSet (p1 : Int) (X : Mem) : Option (Int × Mem) :=
  c1 p1 <| if p1 < 0 then
    some (0, X)
  else
    cm RIV (X 2 0) <|
    cl (f_X2_setCount (X 2 0) X) fun r2 X3 =>
    c2 p1 r2 <| if r2 ≤ p1 then
      some (0, X3)
    else
      some (1, X3)
set_option maxRecDepth 20000 in
theorem k_X11_isSet (l : Launch) (V : Ev) {L : List Kd} (hL : LKc L) (p1 : Int) (X : Mem)  : Kt l V L yX11_isSet (.code yX11_isSet cX11_isSet 2 (some .boolean)) 1 20 [vR V.1 0, vI p1] rI X (f_X11_isSet p1 X) := by
  refine kt_of (own := RX11) (lv0 := [(0, vR V.1 0), (1, vI p1)]) (by decide) rfl (Nat.le_of_ble_eq_true rfl) rfl (fun C hCl hC hR => ?_)
  subst hCl
  unfold f_X11_isSet
  refine g_iload_n (q := 1) hC dX11_isSet_0 rfl rfl ?_
  refine g_if_lt (tgt := 22) hC dX11_isSet_1 (by decide) ?_ ?_
  · refine g_iconst (v := vI 0) hC dX11_isSet_22 rfl ?_
    exact g_zret1 hC hR (by decide) dX11_isSet_23
  · refine g_iload_n (q := 1) hC dX11_isSet_4 rfl rfl ?_
    refine g_aload_n (q := 0) hC dX11_isSet_5 rfl rfl rfl ?_
    refine g_getS (k := 1) hC cf_X11 (at_0 hL) (by decide) rfl (by decide) (by decide) wf_RX11_18 dX11_isSet_6 ?_
    refine g_getD (k := 0) (kz := 0) hC cf_X7 (at_2 hL) (by decide) rfl (by decide) rfl wf_RX11_58 dX11_isSet_9 (g_cm (l := RIV) fun m1 => ?_)
    refine g_callVI (As := []) hC mv_X2_setCount wml_RX11_337 (k_X2_setCount _ V (X 2 0) X (riv_of hL m1)) cf_X2 (rv_0 (riv_of hL m1)) (by decide) ⟨Nat.zero_le _, Nat.zero_le _⟩ rfl rfl ⟨Nat.le_of_ble_eq_true rfl, Nat.le_of_ble_eq_true rfl⟩ (Nat.le_of_ble_eq_true rfl) dX11_isSet_12 (fun r2 X3 => ?_)
    refine g_icmp_ge (tgt := 22) hC dX11_isSet_15 (by decide) ?_ ?_
    · refine g_iconst (v := vI 0) hC dX11_isSet_22 rfl ?_
      exact g_zret1 hC hR (by decide) dX11_isSet_23
    · refine g_iconst (v := vI 1) hC dX11_isSet_18 rfl ?_
      refine g_goto (tgt := 23) hC dX11_isSet_19 (by decide) ?_
      exact g_zret1 hC hR (by decide) dX11_isSet_23
def B_X11_depth_16  (X : Mem) : Option (Int × Mem) :=
  cl (f_X11_fail 1 X) fun r3 X4 =>
  some (r3, X4)
def f_X11_depth (p1 : Int) (p2 : Int) (X : Mem) : Option (Int × Mem) :=
  cl (f_X11_isCell p1 X) fun r1 X2 =>
  c1 r1 <| if r1 = 0 then
    B_X11_depth_16   X2
  else
    cl (f_X11_isSet p2 X2) fun r5 X6 =>
    c1 r5 <| if ¬ r5 = 0 then
      cm RIV (X6 2 0) <|
      cm RIV (X6 2 0) <|
      cl (f_X2_stageOn (X6 2 0) (X6 2 3) X6) fun r9 X10 =>
      cl (f_X2_depthAt (X6 2 0) r9 p1 p2 X10) fun r11 X12 =>
      cl (f_X11_answer r11 X12) fun r13 X14 =>
      some (r13, X14)
    else
      B_X11_depth_16   X6
set_option maxRecDepth 20000 in
theorem gB_X11_depth_16 {C : Cx} {V : Ev} {L : List Kd} (hC : Ok C V cX11_depth RX11 3 2 41) (hR : Rt C V L (some .int) rI) (hL : LKc L)  (X : Mem)  : G C V L 0 0 3 16 [(0, vR V.1 0)] [] X (B_X11_depth_16    X) := by
  unfold B_X11_depth_16
  refine g_aload_n (q := 0) hC dX11_depth_16 rfl rfl rfl ?_
  refine g_iconst (v := vI 1) hC dX11_depth_17 rfl ?_
  refine g_callVI (As := [vI 1]) hC mv_X11_fail wml_RX11_162 (k_X11_fail _ V hL 1 X) cf_X11 (at_0 hL) (by decide) ⟨Nat.zero_le _, Nat.zero_le _⟩ rfl rfl ⟨Nat.le_of_ble_eq_true rfl, Nat.le_of_ble_eq_true rfl⟩ (Nat.le_of_ble_eq_true rfl) dX11_depth_18 (fun r3 X4 => ?_)
  exact g_iret hC hR dX11_depth_21
set_option maxRecDepth 20000 in
theorem k_X11_depth (l : Launch) (V : Ev) {L : List Kd} (hL : LKc L) (p1 : Int) (p2 : Int) (X : Mem)  : Kt l V L yX11_depth (.code yX11_depth cX11_depth 3 (some .int)) 2 41 [vR V.1 0, vI p1, vI p2] rI X (f_X11_depth p1 p2 X) := by
  refine kt_of (own := RX11) (lv0 := [(0, vR V.1 0), (1, vI p1), (2, vI p2)]) (by decide) rfl (Nat.le_of_ble_eq_true rfl) rfl (fun C hCl hC hR => ?_)
  subst hCl
  unfold f_X11_depth
  refine g_aload_n (q := 0) hC dX11_depth_0 rfl rfl rfl ?_
  refine g_iload_n (q := 1) hC dX11_depth_1 rfl rfl ?_
  refine g_callVI (As := [vI p1]) hC mv_X11_isCell wml_RX11_278 (k_X11_isCell _ V hL p1 X) cf_X11 (at_0 hL) (by decide) ⟨Nat.zero_le _, Nat.zero_le _⟩ rfl rfl ⟨Nat.le_of_ble_eq_true rfl, Nat.le_of_ble_eq_true rfl⟩ (Nat.le_of_ble_eq_true rfl) dX11_depth_2 (fun r1 X2 => ?_)
  refine g_if_eq (tgt := 16) hC dX11_depth_5 (by decide) ?_ ?_
  · refine g_sub [0] rfl ?_
    exact gB_X11_depth_16 hC hR hL  X2
  · refine g_aload_n (q := 0) hC dX11_depth_8 rfl rfl rfl ?_
    refine g_iload_n (q := 2) hC dX11_depth_9 rfl rfl ?_
    refine g_callVI (As := [vI p2]) hC mv_X11_isSet wml_RX11_287 (k_X11_isSet _ V hL p2 X2) cf_X11 (at_0 hL) (by decide) ⟨Nat.zero_le _, Nat.zero_le _⟩ rfl rfl ⟨Nat.le_of_ble_eq_true rfl, Nat.le_of_ble_eq_true rfl⟩ (Nat.le_of_ble_eq_true rfl) dX11_depth_10 (fun r5 X6 => ?_)
    refine g_if_ne (tgt := 22) hC dX11_depth_13 (by decide) ?_ ?_
    · refine g_aload_n (q := 0) hC dX11_depth_22 rfl rfl rfl ?_
      refine g_aload_n (q := 0) hC dX11_depth_23 rfl rfl rfl ?_
      refine g_getS (k := 1) hC cf_X11 (at_0 hL) (by decide) rfl (by decide) (by decide) wf_RX11_18 dX11_depth_24 ?_
      refine g_getD (k := 0) (kz := 0) hC cf_X7 (at_2 hL) (by decide) rfl (by decide) rfl wf_RX11_58 dX11_depth_27 (g_cm (l := RIV) fun m7 => ?_)
      refine g_aload_n (q := 0) hC dX11_depth_30 rfl rfl rfl ?_
      refine g_getS (k := 1) hC cf_X11 (at_0 hL) (by decide) rfl (by decide) (by decide) wf_RX11_18 dX11_depth_31 ?_
      refine g_getD (k := 0) (kz := 0) hC cf_X7 (at_2 hL) (by decide) rfl (by decide) rfl wf_RX11_58 dX11_depth_34 (g_cm (l := RIV) fun m8 => ?_)
      refine g_aload_n (q := 0) hC dX11_depth_37 rfl rfl rfl ?_
      refine g_getS (k := 1) hC cf_X11 (at_0 hL) (by decide) rfl (by decide) (by decide) wf_RX11_18 dX11_depth_38 ?_
      refine g_getI (k := 3) (kz := 3) hC cf_X7 (at_2 hL) (by decide) rfl (by decide) rfl wf_RX11_227 dX11_depth_41 ?_
      refine g_callVI (As := [vI (X6 2 3)]) hC mv_X2_stageOn wml_RX11_284 (k_X2_stageOn _ V (X6 2 0) (X6 2 3) X6 (riv_of hL m8)) cf_X2 (rv_0 (riv_of hL m8)) (by decide) ⟨Nat.zero_le _, Nat.zero_le _⟩ rfl rfl ⟨Nat.le_of_ble_eq_true rfl, Nat.le_of_ble_eq_true rfl⟩ (Nat.le_of_ble_eq_true rfl) dX11_depth_44 (fun r9 X10 => ?_)
      refine g_iload_n (q := 1) hC dX11_depth_47 rfl rfl ?_
      refine g_iload_n (q := 2) hC dX11_depth_48 rfl rfl ?_
      refine g_callVI (As := [vI r9, vI p1, vI p2]) hC mv_X2_depthAt wml_RX11_290 (k_X2_depthAt _ V (X6 2 0) r9 p1 p2 X10 (riv_of hL m7)) cf_X2 (rv_0 (riv_of hL m7)) (by decide) ⟨Nat.zero_le _, Nat.zero_le _⟩ rfl rfl ⟨Nat.le_of_ble_eq_true rfl, Nat.le_of_ble_eq_true rfl⟩ (Nat.le_of_ble_eq_true rfl) dX11_depth_49 (fun r11 X12 => ?_)
      refine g_callVI (As := [vI r11]) hC mv_X11_answer wml_RX11_200 (k_X11_answer _ V hL r11 X12) cf_X11 (at_0 hL) (by decide) ⟨Nat.zero_le _, Nat.zero_le _⟩ rfl rfl ⟨Nat.le_of_ble_eq_true rfl, Nat.le_of_ble_eq_true rfl⟩ (Nat.le_of_ble_eq_true rfl) dX11_depth_52 (fun r13 X14 => ?_)
      exact g_iret hC hR dX11_depth_55
    · refine g_sub [0] rfl ?_
      exact gB_X11_depth_16 hC hR hL  X6
def f_X1_kindOf (p1 : Int) (X : Mem) : Option (Int × Mem) :=
  cm RIV (X 42 11) <|
  cl (f_X2_depthAt (X 42 11) (X 42 12) p1 31 X) fun r2 X3 =>
  c2 r2 (X3 42 13) <| if r2 < (X3 42 13) then
    cm RIV (X3 42 11) <|
    cl (f_X2_depthAt (X3 42 11) (X3 42 12) p1 0 X3) fun r5 X6 =>
    c2 r5 (X6 42 13) <| if r5 < (X6 42 13) then
      some (0, X6)
    else
      some (1, X6)
  else
    some (2, X3)
set_option maxRecDepth 20000 in
theorem k_X1_kindOf (l : Launch) (V : Ev) {L : List Kd} (hL : LKc L) (p1 : Int) (X : Mem)  : Kt l V L yX1_kindOf (.code yX1_kindOf cX1_kindOf 2 (some .int)) 1 25 [vR V.1 42, vI p1] rI X (f_X1_kindOf p1 X) := by
  refine kt_of (own := RX1) (lv0 := [(0, vR V.1 42), (1, vI p1)]) (by decide) rfl (Nat.le_of_ble_eq_true rfl) rfl (fun C hCl hC hR => ?_)
  subst hCl
  unfold f_X1_kindOf
  refine g_aload_n (q := 0) hC dX1_kindOf_0 rfl rfl rfl ?_
  refine g_getD (k := 11) (kz := 11) hC cf_X1 (at_42 hL) (by decide) rfl (by decide) rfl wf_RX1_70 dX1_kindOf_1 (g_cm (l := RIV) fun m1 => ?_)
  refine g_aload_n (q := 0) hC dX1_kindOf_4 rfl rfl rfl ?_
  refine g_getI (k := 12) (kz := 12) hC cf_X1 (at_42 hL) (by decide) rfl (by decide) rfl wf_RX1_49 dX1_kindOf_5 ?_
  refine g_iload_n (q := 1) hC dX1_kindOf_8 rfl rfl ?_
  refine g_bipush (v := vI 31) hC dX1_kindOf_9 rfl ?_
  refine g_callVI (As := [vI (X 42 12), vI p1, vI 31]) hC mv_X2_depthAt wml_RX1_105 (k_X2_depthAt _ V (X 42 11) (X 42 12) p1 31 X (riv_of hL m1)) cf_X2 (rv_0 (riv_of hL m1)) (by decide) ⟨Nat.zero_le _, Nat.zero_le _⟩ rfl rfl ⟨Nat.le_of_ble_eq_true rfl, Nat.le_of_ble_eq_true rfl⟩ (Nat.le_of_ble_eq_true rfl) dX1_kindOf_11 (fun r2 X3 => ?_)
  refine g_aload_n (q := 0) hC dX1_kindOf_14 rfl rfl rfl ?_
  refine g_getI (k := 13) (kz := 13) hC cf_X1 (at_42 hL) (by decide) rfl (by decide) rfl wf_RX1_52 dX1_kindOf_15 ?_
  refine g_icmp_lt (tgt := 23) hC dX1_kindOf_18 (by decide) ?_ ?_
  · refine g_aload_n (q := 0) hC dX1_kindOf_23 rfl rfl rfl ?_
    refine g_getD (k := 11) (kz := 11) hC cf_X1 (at_42 hL) (by decide) rfl (by decide) rfl wf_RX1_70 dX1_kindOf_24 (g_cm (l := RIV) fun m4 => ?_)
    refine g_aload_n (q := 0) hC dX1_kindOf_27 rfl rfl rfl ?_
    refine g_getI (k := 12) (kz := 12) hC cf_X1 (at_42 hL) (by decide) rfl (by decide) rfl wf_RX1_49 dX1_kindOf_28 ?_
    refine g_iload_n (q := 1) hC dX1_kindOf_31 rfl rfl ?_
    refine g_iconst (v := vI 0) hC dX1_kindOf_32 rfl ?_
    refine g_callVI (As := [vI (X3 42 12), vI p1, vI 0]) hC mv_X2_depthAt wml_RX1_105 (k_X2_depthAt _ V (X3 42 11) (X3 42 12) p1 0 X3 (riv_of hL m4)) cf_X2 (rv_0 (riv_of hL m4)) (by decide) ⟨Nat.zero_le _, Nat.zero_le _⟩ rfl rfl ⟨Nat.le_of_ble_eq_true rfl, Nat.le_of_ble_eq_true rfl⟩ (Nat.le_of_ble_eq_true rfl) dX1_kindOf_33 (fun r5 X6 => ?_)
    refine g_aload_n (q := 0) hC dX1_kindOf_36 rfl rfl rfl ?_
    refine g_getI (k := 13) (kz := 13) hC cf_X1 (at_42 hL) (by decide) rfl (by decide) rfl wf_RX1_52 dX1_kindOf_37 ?_
    refine g_icmp_lt (tgt := 47) hC dX1_kindOf_40 (by decide) ?_ ?_
    · refine g_iconst (v := vI 0) hC dX1_kindOf_47 rfl ?_
      exact g_iret hC hR dX1_kindOf_48
    · refine g_iconst (v := vI 1) hC dX1_kindOf_43 rfl ?_
      refine g_goto (tgt := 48) hC dX1_kindOf_44 (by decide) ?_
      exact g_iret hC hR dX1_kindOf_48
  · refine g_iconst (v := vI 2) hC dX1_kindOf_21 rfl ?_
    exact g_iret hC hR dX1_kindOf_22
def B_X1_look_179  (X : Mem) : Option (Int × Mem) :=
  cm RIV (X 42 11) <|
  bd (ms X 42 18 (lshl (X 42 17) ((X (X 42 11) 0) - 1))) fun X17 =>
  some (0, X17)
def L_X1_look_140 : Nat → Int → Mem → Option (Int × Mem)
  | 0, _, _ => none
  | n + 1, x4, X =>
    cm RIV (X 42 11) <|
    c2 x4 (X (X 42 11) 1) <| if (X (X 42 11) 1) ≤ x4 then
      B_X1_look_179   X
    else
      cm RIV (X 42 11) <|
      bd (ms X 42 17 (lo (X 42 17) (lshl 1 (x4 * (X (X 42 11) 0))))) fun X19 =>
      L_X1_look_140   n (x4 + 1) X19
def B_X1_look_137  (X : Mem) : Option (Int × Mem) :=
  L_X1_look_140   KF 0 X
def B_X1_look_131 (go51 : Int → Mem → Option (Int × Mem)) (x4 : Int) (X : Mem) : Option (Int × Mem) :=
  go51 (x4 + 1) X
def L_X1_look_51 : Nat → Int → Mem → Option (Int × Mem)
  | 0, _, _ => none
  | n + 1, x4, X =>
    cm RIV (X 42 11) <|
    cl (f_X2_cellCount (X 42 11) X) fun r13 X14 =>
    c2 x4 r13 <| if r13 ≤ x4 then
      B_X1_look_137   X14
    else
      cl (f_X1_kindOf x4 X14) fun r20 X21 =>
      cm RIV (X21 42 11) <|
      ax 60 x4 <|
      bd (X21 ((X21 42 11) + 2) x4) fun v23 =>
      c2 r20 2 <| if ¬ r20 = 2 then
        c2 r20 1 <| if ¬ r20 = 1 then
          B_X1_look_131  (fun x4 X => L_X1_look_51   n x4 X) x4 X21
        else
          c2 v23 ((-1)) <| if v23 = ((-1)) then
            B_X1_look_131  (fun x4 X => L_X1_look_51   n x4 X) x4 X21
          else
            ax 5 v23 <|
            ax 5 v23 <| bd (ms X21 46 v23 (lo (X21 46 v23) (lshl 1 x4))) fun X24 =>
            B_X1_look_131  (fun x4 X => L_X1_look_51   n x4 X) x4 X24
      else
        bd (ms X21 42 16 (lo (X21 42 16) (lshl 1 x4))) fun X25 =>
        B_X1_look_131  (fun x4 X => L_X1_look_51   n x4 X) x4 X25
def f_X1_look (p1 : Int) (p2 : Int) (p3 : Int) (X : Mem) : Option (Int × Mem) :=
  bd (ms X 42 11 p1) fun X1 =>
  cm RIV (X1 42 11) <|
  cl (f_X2_stageOn (X1 42 11) p2 X1) fun r3 X4 =>
  bd (ms X4 42 12 r3) fun X5 =>
  cm RIV (X5 42 11) <|
  bd (ms X5 42 13 ((X5 (X5 42 11) 3) - p3)) fun X7 =>
  bd (ms X7 42 16 0) fun X8 =>
  bd (ms X8 42 17 0) fun X9 =>
  cl (f_J7_fill_d0a16 46 5 0 X9) fun _ X11 =>
  L_X1_look_51   KF 0 X11
set_option maxRecDepth 20000 in
theorem gB_X1_look_179 {C : Cx} {V : Ev} {L : List Kd} (hC : Ok C V cX1_look RX1 7 2 46) (hR : Rt C V L none rV) (hL : LKc L)  (X : Mem)  : G C V L 0 0 7 179 [(0, vR V.1 42)] [] X (B_X1_look_179    X) := by
  unfold B_X1_look_179
  refine g_aload_n (q := 0) hC dX1_look_179 rfl rfl rfl ?_
  refine g_aload_n (q := 0) hC dX1_look_180 rfl rfl rfl ?_
  refine g_getJ (k := 17) (kz := 17) hC cf_X1 (at_42 hL) (by decide) rfl (by decide) rfl wf_RX1_64 dX1_look_181 ?_
  refine g_aload_n (q := 0) hC dX1_look_184 rfl rfl rfl ?_
  refine g_getD (k := 11) (kz := 11) hC cf_X1 (at_42 hL) (by decide) rfl (by decide) rfl wf_RX1_70 dX1_look_185 (g_cm (l := RIV) fun m16 => ?_)
  refine g_getI (k := 0) (kz := 0) hC cf_X2 (rv_0 (riv_of hL m16)) (by decide) rfl (by decide) rfl wf_RX1_102 dX1_look_188 ?_
  refine g_iconst (v := vI 1) hC dX1_look_191 rfl ?_
  refine g_isub hC dX1_look_192 ?_
  refine g_lshl hC dX1_look_193 ?_
  refine g_putJ (k := 18) (kz := 18) hC cf_X1 (at_42 hL) (by decide) rfl (by decide) rfl wf_RX1_67 rfl rfl dX1_look_194 (fun X17 => ?_)
  exact g_vret hC hR dX1_look_197
set_option maxRecDepth 20000 in
theorem gL_X1_look_140 {C : Cx} {V : Ev} {L : List Kd} (hC : Ok C V cX1_look RX1 7 2 46) (hR : Rt C V L none rV) (hL : LKc L) : ∀ (n : Nat) (x4 : Int) (X : Mem), G C V L 0 0 7 140 [(0, vR V.1 42), (4, vI x4)] [] X (L_X1_look_140   n x4 X) := by
  intro n
  induction n with
  | zero => intro x4 X; exact g_none
  | succ n ih =>
    intro x4 X
    rw [L_X1_look_140]
    refine g_iload (q := 1) hC dX1_look_140 rfl ?_
    refine g_aload_n (q := 0) hC dX1_look_142 rfl rfl rfl ?_
    refine g_getD (k := 11) (kz := 11) hC cf_X1 (at_42 hL) (by decide) rfl (by decide) rfl wf_RX1_70 dX1_look_143 (g_cm (l := RIV) fun m15 => ?_)
    refine g_getI (k := 1) (kz := 1) hC cf_X2 (rv_0 (riv_of hL m15)) (by decide) rfl (by decide) rfl wf_RX1_99 dX1_look_146 ?_
    refine g_icmp_ge (tgt := 179) hC dX1_look_149 (by decide) ?_ ?_
    · refine g_sub [0] rfl ?_
      exact gB_X1_look_179 hC hR hL  X
    · refine g_aload_n (q := 0) hC dX1_look_152 rfl rfl rfl ?_
      refine g_dup hC dX1_look_153 rfl ?_
      refine g_getJ (k := 17) (kz := 17) hC cf_X1 (at_42 hL) (by decide) rfl (by decide) rfl wf_RX1_64 dX1_look_154 ?_
      refine g_lconst (v := vJ 1) hC dX1_look_157 rfl ?_
      refine g_iload (q := 1) hC dX1_look_158 rfl ?_
      refine g_aload_n (q := 0) hC dX1_look_160 rfl rfl rfl ?_
      refine g_getD (k := 11) (kz := 11) hC cf_X1 (at_42 hL) (by decide) rfl (by decide) rfl wf_RX1_70 dX1_look_161 (g_cm (l := RIV) fun m18 => ?_)
      refine g_getI (k := 0) (kz := 0) hC cf_X2 (rv_0 (riv_of hL m18)) (by decide) rfl (by decide) rfl wf_RX1_102 dX1_look_164 ?_
      refine g_imul hC dX1_look_167 ?_
      refine g_lshl hC dX1_look_168 ?_
      refine g_lor hC dX1_look_169 ?_
      refine g_putJ (k := 17) (kz := 17) hC cf_X1 (at_42 hL) (by decide) rfl (by decide) rfl wf_RX1_64 rfl rfl dX1_look_170 (fun X19 => ?_)
      refine g_iinc (q := 1) hC dX1_look_173 rfl (by decide) rfl ?_
      refine g_goto (tgt := 140) hC dX1_look_176 (by decide) ?_
      refine g_sub [1, 0] rfl ?_
      exact ih (x4 + 1) X19
set_option maxRecDepth 20000 in
theorem gB_X1_look_137 {C : Cx} {V : Ev} {L : List Kd} (hC : Ok C V cX1_look RX1 7 2 46) (hR : Rt C V L none rV) (hL : LKc L)  (X : Mem)  : G C V L 0 0 7 137 [(0, vR V.1 42)] [] X (B_X1_look_137    X) := by
  unfold B_X1_look_137
  refine g_iconst (v := vI 0) hC dX1_look_137 rfl ?_
  refine g_istore hC dX1_look_138 (by decide) rfl ?_
  refine g_sub [1, 0] rfl ?_
  exact gL_X1_look_140 hC hR hL  KF 0 X
set_option maxRecDepth 20000 in
theorem gB_X1_look_131 {C : Cx} {V : Ev} {L : List Kd} (hC : Ok C V cX1_look RX1 7 2 46) (hR : Rt C V L none rV) (hL : LKc L) {go51 : Int → Mem → Option (Int × Mem)} (hgo51 : ∀ (x4 : Int) (X : Mem), G C V L 0 0 7 51 [(0, vR V.1 42), (4, vI x4)] [] X (go51 x4 X)) (x4 : Int) (X : Mem)  : G C V L 0 0 7 131 [(0, vR V.1 42), (4, vI x4)] [] X (B_X1_look_131  go51 x4 X) := by
  unfold B_X1_look_131
  refine g_iinc (q := 1) hC dX1_look_131 rfl (by decide) rfl ?_
  refine g_goto (tgt := 51) hC dX1_look_134 (by decide) ?_
  refine g_sub [1, 0] rfl ?_
  exact hgo51 (x4 + 1) X
set_option maxRecDepth 20000 in
theorem gL_X1_look_51 {C : Cx} {V : Ev} {L : List Kd} (hC : Ok C V cX1_look RX1 7 2 46) (hR : Rt C V L none rV) (hL : LKc L) : ∀ (n : Nat) (x4 : Int) (X : Mem), G C V L 0 0 7 51 [(0, vR V.1 42), (4, vI x4)] [] X (L_X1_look_51   n x4 X) := by
  intro n
  induction n with
  | zero => intro x4 X; exact g_none
  | succ n ih =>
    intro x4 X
    rw [L_X1_look_51]
    refine g_iload (q := 1) hC dX1_look_51 rfl ?_
    refine g_aload_n (q := 0) hC dX1_look_53 rfl rfl rfl ?_
    refine g_getD (k := 11) (kz := 11) hC cf_X1 (at_42 hL) (by decide) rfl (by decide) rfl wf_RX1_70 dX1_look_54 (g_cm (l := RIV) fun m12 => ?_)
    refine g_callVI (As := []) hC mv_X2_cellCount wml_RX1_89 (k_X2_cellCount _ V (X 42 11) X (riv_of hL m12)) cf_X2 (rv_0 (riv_of hL m12)) (by decide) ⟨Nat.zero_le _, Nat.zero_le _⟩ rfl rfl ⟨Nat.le_of_ble_eq_true rfl, Nat.le_of_ble_eq_true rfl⟩ (Nat.le_of_ble_eq_true rfl) dX1_look_57 (fun r13 X14 => ?_)
    refine g_icmp_ge (tgt := 137) hC dX1_look_60 (by decide) ?_ ?_
    · refine g_sub [0] rfl ?_
      exact gB_X1_look_137 hC hR hL  X14
    · refine g_aload_n (q := 0) hC dX1_look_63 rfl rfl rfl ?_
      refine g_iload (q := 1) hC dX1_look_64 rfl ?_
      refine g_callVI (As := [vI x4]) hC mv_X1_kindOf wml_RX1_93 (k_X1_kindOf _ V hL x4 X14) cf_X1 (at_42 hL) (by decide) ⟨Nat.zero_le _, Nat.zero_le _⟩ rfl rfl ⟨Nat.le_of_ble_eq_true rfl, Nat.le_of_ble_eq_true rfl⟩ (Nat.le_of_ble_eq_true rfl) dX1_look_66 (fun r20 X21 => ?_)
      refine g_istore hC dX1_look_69 (by decide) rfl ?_
      refine g_aload_n (q := 1) hC dX1_look_71 rfl rfl rfl ?_
      refine g_getD (k := 11) (kz := 11) hC cf_X1 (at_42 hL) (by decide) rfl (by decide) rfl wf_RX1_70 dX1_look_72 (g_cm (l := RIV) fun m22 => ?_)
      refine g_getS (k := 12) hC cf_X2 (rv_0 (riv_of hL m22)) (by decide) rfl (add_nn (rv_0 (riv_of hL m22))) (by decide) wf_RX1_96 dX1_look_75 ?_
      refine g_iload (q := 2) hC dX1_look_78 rfl ?_
      refine g_iald hC (rv_2 (riv_of hL m22)) (by decide) dX1_look_80 ?_
      refine g_topI (fun v23 => ?_)
      refine g_istore hC dX1_look_81 (by decide) rfl ?_
      refine g_iload (q := 1) hC dX1_look_83 rfl ?_
      refine g_iconst (v := vI 2) hC dX1_look_85 rfl ?_
      refine g_icmp_ne (tgt := 105) hC dX1_look_86 (by decide) ?_ ?_
      · refine g_iload (q := 1) hC dX1_look_105 rfl ?_
        refine g_iconst (v := vI 1) hC dX1_look_107 rfl ?_
        refine g_icmp_ne (tgt := 131) hC dX1_look_108 (by decide) ?_ ?_
        · refine g_sub [2, 3] rfl ?_
          exact gB_X1_look_131 hC hR hL ih x4 X21
        · refine g_iload (q := 0) hC dX1_look_111 rfl ?_
          refine g_iconst (v := vI (-1)) hC dX1_look_113 rfl ?_
          refine g_icmp_eq (tgt := 131) hC dX1_look_114 (by decide) ?_ ?_
          · refine g_sub [2, 3] rfl ?_
            exact gB_X1_look_131 hC hR hL ih x4 X21
          · refine g_aload_n (q := 2) hC dX1_look_117 rfl rfl rfl ?_
            refine g_getS (k := 4) hC cf_X1 (at_42 hL) (by decide) rfl (by decide) (by decide) wf_RX1_27 dX1_look_118 ?_
            refine g_iload (q := 0) hC dX1_look_121 rfl ?_
            refine g_dup2 hC dX1_look_123 rfl rfl ?_
            refine g_lald hC (at_46 hL) (by decide) dX1_look_124 ?_
            refine g_lconst (v := vJ 1) hC dX1_look_125 rfl ?_
            refine g_iload (q := 3) hC dX1_look_126 rfl ?_
            refine g_lshl hC dX1_look_128 ?_
            refine g_lor hC dX1_look_129 ?_
            refine g_last hC (at_46 hL) (by decide) dX1_look_130 (fun X24 => ?_)
            refine g_sub [2, 3] rfl ?_
            exact gB_X1_look_131 hC hR hL ih x4 X24
      · refine g_aload_n (q := 2) hC dX1_look_89 rfl rfl rfl ?_
        refine g_dup hC dX1_look_90 rfl ?_
        refine g_getJ (k := 16) (kz := 16) hC cf_X1 (at_42 hL) (by decide) rfl (by decide) rfl wf_RX1_61 dX1_look_91 ?_
        refine g_lconst (v := vJ 1) hC dX1_look_94 rfl ?_
        refine g_iload (q := 3) hC dX1_look_95 rfl ?_
        refine g_lshl hC dX1_look_97 ?_
        refine g_lor hC dX1_look_98 ?_
        refine g_putJ (k := 16) (kz := 16) hC cf_X1 (at_42 hL) (by decide) rfl (by decide) rfl wf_RX1_61 rfl rfl dX1_look_99 (fun X25 => ?_)
        refine g_goto (tgt := 131) hC dX1_look_102 (by decide) ?_
        refine g_sub [2, 3] rfl ?_
        exact gB_X1_look_131 hC hR hL ih x4 X25
set_option maxRecDepth 20000 in
theorem k_X1_look (l : Launch) (V : Ev) {L : List Kd} (hL : LKc L) (p1 : Int) (p2 : Int) (p3 : Int) (X : Mem) (h1 : isRiver L p1) : Kt l V L yX1_look (.code yX1_look cX1_look 7 none) 2 46 [vR V.1 42, vR V.1 p1, vI p2, vI p3] rV X (f_X1_look p1 p2 p3 X) := by
  refine kt_of (own := RX1) (lv0 := [(0, vR V.1 42), (1, vR V.1 p1), (2, vI p2), (3, vI p3)]) (by decide) rfl (Nat.le_of_ble_eq_true rfl) rfl (fun C hCl hC hR => ?_)
  subst hCl
  unfold f_X1_look
  refine g_aload_n (q := 0) hC dX1_look_0 rfl rfl rfl ?_
  refine g_aload_n (q := 1) hC dX1_look_1 rfl rfl rfl ?_
  refine g_putD (k := 11) (kz := 11) hC cf_X1 (at_42 hL) (by decide) rfl (by decide) rfl wf_RX1_70 rfl rfl dX1_look_2 (fun X1 => ?_)
  refine g_aload_n (q := 0) hC dX1_look_5 rfl rfl rfl ?_
  refine g_aload_n (q := 0) hC dX1_look_6 rfl rfl rfl ?_
  refine g_getD (k := 11) (kz := 11) hC cf_X1 (at_42 hL) (by decide) rfl (by decide) rfl wf_RX1_70 dX1_look_7 (g_cm (l := RIV) fun m2 => ?_)
  refine g_iload_n (q := 2) hC dX1_look_10 rfl rfl ?_
  refine g_callVI (As := [vI p2]) hC mv_X2_stageOn wml_RX1_74 (k_X2_stageOn _ V (X1 42 11) p2 X1 (riv_of hL m2)) cf_X2 (rv_0 (riv_of hL m2)) (by decide) ⟨Nat.zero_le _, Nat.zero_le _⟩ rfl rfl ⟨Nat.le_of_ble_eq_true rfl, Nat.le_of_ble_eq_true rfl⟩ (Nat.le_of_ble_eq_true rfl) dX1_look_11 (fun r3 X4 => ?_)
  refine g_putI (k := 12) (kz := 12) hC cf_X1 (at_42 hL) (by decide) rfl (by decide) rfl wf_RX1_49 rfl rfl dX1_look_14 (fun X5 => ?_)
  refine g_aload_n (q := 0) hC dX1_look_17 rfl rfl rfl ?_
  refine g_aload_n (q := 0) hC dX1_look_18 rfl rfl rfl ?_
  refine g_getD (k := 11) (kz := 11) hC cf_X1 (at_42 hL) (by decide) rfl (by decide) rfl wf_RX1_70 dX1_look_19 (g_cm (l := RIV) fun m6 => ?_)
  refine g_getI (k := 3) (kz := 3) hC cf_X2 (rv_0 (riv_of hL m6)) (by decide) rfl (by decide) rfl wf_RX1_80 dX1_look_22 ?_
  refine g_iload_n (q := 3) hC dX1_look_25 rfl rfl ?_
  refine g_isub hC dX1_look_26 ?_
  refine g_putI (k := 13) (kz := 13) hC cf_X1 (at_42 hL) (by decide) rfl (by decide) rfl wf_RX1_52 rfl rfl dX1_look_27 (fun X7 => ?_)
  refine g_aload_n (q := 0) hC dX1_look_30 rfl rfl rfl ?_
  refine g_lconst (v := vJ 0) hC dX1_look_31 rfl ?_
  refine g_putJ (k := 16) (kz := 16) hC cf_X1 (at_42 hL) (by decide) rfl (by decide) rfl wf_RX1_61 rfl rfl dX1_look_32 (fun X8 => ?_)
  refine g_aload_n (q := 0) hC dX1_look_35 rfl rfl rfl ?_
  refine g_lconst (v := vJ 0) hC dX1_look_36 rfl ?_
  refine g_putJ (k := 17) (kz := 17) hC cf_X1 (at_42 hL) (by decide) rfl (by decide) rfl wf_RX1_64 rfl rfl dX1_look_37 (fun X9 => ?_)
  refine g_aload_n (q := 0) hC dX1_look_40 rfl rfl rfl ?_
  refine g_getS (k := 4) hC cf_X1 (at_42 hL) (by decide) rfl (by decide) (by decide) wf_RX1_27 dX1_look_41 ?_
  refine g_lconst (v := vJ 0) hC dX1_look_44 rfl ?_
  refine g_callSV (As := [vR V.1 46, vJ 0]) hC mt_J7_fill_d0a16 wml_RX1_83 (k_J7_fill_d0a16 _ V 46 5 0 X9 (by decide) (at_46 hL)) ⟨Nat.zero_le _, Nat.zero_le _⟩ rfl rfl ⟨Nat.le_of_ble_eq_true rfl, Nat.le_of_ble_eq_true rfl⟩ (Nat.le_of_ble_eq_true rfl) dX1_look_45 (fun _ X11 => ?_)
  refine g_iconst (v := vI 0) hC dX1_look_48 rfl ?_
  refine g_istore hC dX1_look_49 (by decide) rfl ?_
  refine g_sub [1, 0] rfl ?_
  exact gL_X1_look_51 hC hR hL  KF 0 X11
def f_X11_open (p1 : Int) (X : Mem) : Option (Int × Mem) :=
  cl (f_X11_isCell p1 X) fun r1 X2 =>
  c1 r1 <| if ¬ r1 = 0 then
    cm RIV (X2 2 0) <|
    cl (f_X1_look (X2 2 0) (X2 2 3) (X2 2 4) X2) fun _ X5 =>
    cl (f_X1_kindOf p1 X5) fun r6 X7 =>
    cl (f_X11_answer r6 X7) fun r8 X9 =>
    some (r8, X9)
  else
    cl (f_X11_fail 1 X2) fun r10 X11 =>
    some (r10, X11)
set_option maxRecDepth 20000 in
theorem k_X11_open (l : Launch) (V : Ev) {L : List Kd} (hL : LKc L) (p1 : Int) (X : Mem)  : Kt l V L yX11_open (.code yX11_open cX11_open 2 (some .int)) 3 72 [vR V.1 0, vI p1] rI X (f_X11_open p1 X) := by
  refine kt_of (own := RX11) (lv0 := [(0, vR V.1 0), (1, vI p1)]) (by decide) rfl (Nat.le_of_ble_eq_true rfl) rfl (fun C hCl hC hR => ?_)
  subst hCl
  unfold f_X11_open
  refine g_aload_n (q := 0) hC dX11_open_0 rfl rfl rfl ?_
  refine g_iload_n (q := 1) hC dX11_open_1 rfl rfl ?_
  refine g_callVI (As := [vI p1]) hC mv_X11_isCell wml_RX11_278 (k_X11_isCell _ V hL p1 X) cf_X11 (at_0 hL) (by decide) ⟨Nat.zero_le _, Nat.zero_le _⟩ rfl rfl ⟨Nat.le_of_ble_eq_true rfl, Nat.le_of_ble_eq_true rfl⟩ (Nat.le_of_ble_eq_true rfl) dX11_open_2 (fun r1 X2 => ?_)
  refine g_if_ne (tgt := 14) hC dX11_open_5 (by decide) ?_ ?_
  · refine g_aload_n (q := 0) hC dX11_open_14 rfl rfl rfl ?_
    refine g_getS (k := 9) hC cf_X11 (at_0 hL) (by decide) rfl (by decide) (by decide) wf_RX11_80 dX11_open_15 ?_
    refine g_aload_n (q := 0) hC dX11_open_18 rfl rfl rfl ?_
    refine g_getS (k := 1) hC cf_X11 (at_0 hL) (by decide) rfl (by decide) (by decide) wf_RX11_18 dX11_open_19 ?_
    refine g_getD (k := 0) (kz := 0) hC cf_X7 (at_2 hL) (by decide) rfl (by decide) rfl wf_RX11_58 dX11_open_22 (g_cm (l := RIV) fun m3 => ?_)
    refine g_aload_n (q := 0) hC dX11_open_25 rfl rfl rfl ?_
    refine g_getS (k := 1) hC cf_X11 (at_0 hL) (by decide) rfl (by decide) (by decide) wf_RX11_18 dX11_open_26 ?_
    refine g_getI (k := 3) (kz := 3) hC cf_X7 (at_2 hL) (by decide) rfl (by decide) rfl wf_RX11_227 dX11_open_29 ?_
    refine g_aload_n (q := 0) hC dX11_open_32 rfl rfl rfl ?_
    refine g_getS (k := 1) hC cf_X11 (at_0 hL) (by decide) rfl (by decide) (by decide) wf_RX11_18 dX11_open_33 ?_
    refine g_getI (k := 4) (kz := 4) hC cf_X7 (at_2 hL) (by decide) rfl (by decide) rfl wf_RX11_230 dX11_open_36 ?_
    refine g_callVV (As := [vR V.1 (X2 2 0), vI (X2 2 3), vI (X2 2 4)]) hC mv_X1_look wml_RX11_294 (k_X1_look _ V hL (X2 2 0) (X2 2 3) (X2 2 4) X2 (riv_of hL m3)) cf_X1 (at_42 hL) (by decide) ⟨Nat.zero_le _, Nat.zero_le _⟩ rfl rfl ⟨Nat.le_of_ble_eq_true rfl, Nat.le_of_ble_eq_true rfl⟩ (Nat.le_of_ble_eq_true rfl) dX11_open_39 (fun _ X5 => ?_)
    refine g_aload_n (q := 0) hC dX11_open_42 rfl rfl rfl ?_
    refine g_aload_n (q := 0) hC dX11_open_43 rfl rfl rfl ?_
    refine g_getS (k := 9) hC cf_X11 (at_0 hL) (by decide) rfl (by decide) (by decide) wf_RX11_80 dX11_open_44 ?_
    refine g_iload_n (q := 1) hC dX11_open_47 rfl rfl ?_
    refine g_callVI (As := [vI p1]) hC mv_X1_kindOf wml_RX11_298 (k_X1_kindOf _ V hL p1 X5) cf_X1 (at_42 hL) (by decide) ⟨Nat.zero_le _, Nat.zero_le _⟩ rfl rfl ⟨Nat.le_of_ble_eq_true rfl, Nat.le_of_ble_eq_true rfl⟩ (Nat.le_of_ble_eq_true rfl) dX11_open_48 (fun r6 X7 => ?_)
    refine g_callVI (As := [vI r6]) hC mv_X11_answer wml_RX11_200 (k_X11_answer _ V hL r6 X7) cf_X11 (at_0 hL) (by decide) ⟨Nat.zero_le _, Nat.zero_le _⟩ rfl rfl ⟨Nat.le_of_ble_eq_true rfl, Nat.le_of_ble_eq_true rfl⟩ (Nat.le_of_ble_eq_true rfl) dX11_open_51 (fun r8 X9 => ?_)
    exact g_iret hC hR dX11_open_54
  · refine g_aload_n (q := 0) hC dX11_open_8 rfl rfl rfl ?_
    refine g_iconst (v := vI 1) hC dX11_open_9 rfl ?_
    refine g_callVI (As := [vI 1]) hC mv_X11_fail wml_RX11_162 (k_X11_fail _ V hL 1 X2) cf_X11 (at_0 hL) (by decide) ⟨Nat.zero_le _, Nat.zero_le _⟩ rfl rfl ⟨Nat.le_of_ble_eq_true rfl, Nat.le_of_ble_eq_true rfl⟩ (Nat.le_of_ble_eq_true rfl) dX11_open_10 (fun r10 X11 => ?_)
    exact g_iret hC hR dX11_open_13
def f_X11_part (p1 : Int) (X : Mem) : Option (Int × Mem) :=
  cl (f_X11_isSet p1 X) fun r1 X2 =>
  c1 r1 <| if ¬ r1 = 0 then
    ax 32 p1 <|
    cl (f_X11_answer (X2 18 p1) X2) fun r3 X4 =>
    some (r3, X4)
  else
    cl (f_X11_fail 1 X2) fun r5 X6 =>
    some (r5, X6)
set_option maxRecDepth 20000 in
theorem k_X11_part (l : Launch) (V : Ev) {L : List Kd} (hL : LKc L) (p1 : Int) (X : Mem)  : Kt l V L yX11_part (.code yX11_part cX11_part 2 (some .int)) 2 41 [vR V.1 0, vI p1] rI X (f_X11_part p1 X) := by
  refine kt_of (own := RX11) (lv0 := [(0, vR V.1 0), (1, vI p1)]) (by decide) rfl (Nat.le_of_ble_eq_true rfl) rfl (fun C hCl hC hR => ?_)
  subst hCl
  unfold f_X11_part
  refine g_aload_n (q := 0) hC dX11_part_0 rfl rfl rfl ?_
  refine g_iload_n (q := 1) hC dX11_part_1 rfl rfl ?_
  refine g_callVI (As := [vI p1]) hC mv_X11_isSet wml_RX11_287 (k_X11_isSet _ V hL p1 X) cf_X11 (at_0 hL) (by decide) ⟨Nat.zero_le _, Nat.zero_le _⟩ rfl rfl ⟨Nat.le_of_ble_eq_true rfl, Nat.le_of_ble_eq_true rfl⟩ (Nat.le_of_ble_eq_true rfl) dX11_part_2 (fun r1 X2 => ?_)
  refine g_if_ne (tgt := 14) hC dX11_part_5 (by decide) ?_ ?_
  · refine g_aload_n (q := 0) hC dX11_part_14 rfl rfl rfl ?_
    refine g_aload_n (q := 0) hC dX11_part_15 rfl rfl rfl ?_
    refine g_getS (k := 1) hC cf_X11 (at_0 hL) (by decide) rfl (by decide) (by decide) wf_RX11_18 dX11_part_16 ?_
    refine g_getS (k := 2) hC cf_X7 (at_2 hL) (by decide) rfl (by decide) (by decide) wf_RX11_129 dX11_part_19 ?_
    refine g_iload_n (q := 1) hC dX11_part_22 rfl rfl ?_
    refine g_lald hC (at_18 hL) (by decide) dX11_part_23 ?_
    refine g_l2i hC dX11_part_24 ?_
    refine g_callVI (As := [vI (X2 18 p1)]) hC mv_X11_answer wml_RX11_200 (k_X11_answer _ V hL (X2 18 p1) X2) cf_X11 (at_0 hL) (by decide) ⟨Nat.zero_le _, Nat.zero_le _⟩ rfl rfl ⟨Nat.le_of_ble_eq_true rfl, Nat.le_of_ble_eq_true rfl⟩ (Nat.le_of_ble_eq_true rfl) dX11_part_25 (fun r3 X4 => ?_)
    exact g_iret hC hR dX11_part_28
  · refine g_aload_n (q := 0) hC dX11_part_8 rfl rfl rfl ?_
    refine g_iconst (v := vI 1) hC dX11_part_9 rfl ?_
    refine g_callVI (As := [vI 1]) hC mv_X11_fail wml_RX11_162 (k_X11_fail _ V hL 1 X2) cf_X11 (at_0 hL) (by decide) ⟨Nat.zero_le _, Nat.zero_le _⟩ rfl rfl ⟨Nat.le_of_ble_eq_true rfl, Nat.le_of_ble_eq_true rfl⟩ (Nat.le_of_ble_eq_true rfl) dX11_part_10 (fun r5 X6 => ?_)
    exact g_iret hC hR dX11_part_13
def B_X9_partsWith_29 (go5 : Int → Int → Int → Int → Mem → Option (Int × Mem)) (x1 : Int) (x2 : Int) (x3 : Int) (x5 : Int) (X : Mem) : Option (Int × Mem) :=
  go5 x1 x2 x3 (x5 + 1) X
def L_X9_partsWith_5 : Nat → Int → Int → Int → Int → Mem → Option (Int × Mem)
  | 0, _, _, _, _, _ => none
  | n + 1, x1, x2, x3, x5, X =>
    c2 x5 32 <| if 32 ≤ x5 then
      some (x3, X)
    else
      c2 (ia (ishr x5 x2) 1) 1 <| if ¬ (ia (ishr x5 x2) 1) = 1 then
        B_X9_partsWith_29  (fun x1 x2 x3 x5 X => L_X9_partsWith_5   n x1 x2 x3 x5 X) x1 x2 x3 x5 X
      else
        ax 32 x5 <|
        bd (x3 + (X x1 x5)) fun v1 =>
        B_X9_partsWith_29  (fun x1 x2 x3 x5 X => L_X9_partsWith_5   n x1 x2 x3 x5 X) x1 x2 v1 x5 X
def f_X9_partsWith (p1 : Int) (p2 : Int) (X : Mem) : Option (Int × Mem) :=
  L_X9_partsWith_5   KF p1 p2 0 0 X
set_option maxRecDepth 20000 in
theorem gB_X9_partsWith_29 {C : Cx} {V : Ev} {L : List Kd} (hC : Ok C V cX9_partsWith RX9 6 0 0) (hR : Rt C V L (some .long) rJ) (hL : LKc L) {go5 : Int → Int → Int → Int → Mem → Option (Int × Mem)} (hgo5 : ∀ (x1 : Int) (x2 : Int) (x3 : Int) (x5 : Int) (X : Mem), At L x1 (101, [32]) → G C V L 0 0 6 5 [(1, vR V.1 x1), (2, vI x2), (3, vJ x3), (5, vI x5)] [] X (go5 x1 x2 x3 x5 X)) (x1 : Int) (x2 : Int) (x3 : Int) (x5 : Int) (X : Mem) (g1 : At L x1 (101, [32])) : G C V L 0 0 6 29 [(1, vR V.1 x1), (2, vI x2), (3, vJ x3), (5, vI x5)] [] X (B_X9_partsWith_29  go5 x1 x2 x3 x5 X) := by
  unfold B_X9_partsWith_29
  refine g_iinc (q := 3) hC dX9_partsWith_29 rfl (by decide) rfl ?_
  refine g_goto (tgt := 5) hC dX9_partsWith_32 (by decide) ?_
  refine g_sub [1, 2, 3, 0] rfl ?_
  exact hgo5 x1 x2 x3 (x5 + 1) X g1
set_option maxRecDepth 20000 in
theorem gL_X9_partsWith_5 {C : Cx} {V : Ev} {L : List Kd} (hC : Ok C V cX9_partsWith RX9 6 0 0) (hR : Rt C V L (some .long) rJ) (hL : LKc L) : ∀ (n : Nat) (x1 : Int) (x2 : Int) (x3 : Int) (x5 : Int) (X : Mem) (g1 : At L x1 (101, [32])), G C V L 0 0 6 5 [(1, vR V.1 x1), (2, vI x2), (3, vJ x3), (5, vI x5)] [] X (L_X9_partsWith_5   n x1 x2 x3 x5 X) := by
  intro n
  induction n with
  | zero => intro x1 x2 x3 x5 X g1; exact g_none
  | succ n ih =>
    intro x1 x2 x3 x5 X g1
    rw [L_X9_partsWith_5]
    refine g_iload (q := 3) hC dX9_partsWith_5 rfl ?_
    refine g_bipush (v := vI 32) hC dX9_partsWith_7 rfl ?_
    refine g_icmp_ge (tgt := 35) hC dX9_partsWith_9 (by decide) ?_ ?_
    · refine g_lload_n (q := 2) hC dX9_partsWith_35 rfl rfl ?_
      exact g_lret hC hR dX9_partsWith_36
    · refine g_iload (q := 3) hC dX9_partsWith_12 rfl ?_
      refine g_iload_n (q := 1) hC dX9_partsWith_14 rfl rfl ?_
      refine g_ishr hC dX9_partsWith_15 ?_
      refine g_iconst (v := vI 1) hC dX9_partsWith_16 rfl ?_
      refine g_iand hC dX9_partsWith_17 ?_
      refine g_iconst (v := vI 1) hC dX9_partsWith_18 rfl ?_
      refine g_icmp_ne (tgt := 29) hC dX9_partsWith_19 (by decide) ?_ ?_
      · exact gB_X9_partsWith_29 hC hR hL ih x1 x2 x3 x5 X g1
      · refine g_lload_n (q := 2) hC dX9_partsWith_22 rfl rfl ?_
        refine g_aload_n (q := 0) hC dX9_partsWith_23 rfl rfl rfl ?_
        refine g_iload (q := 3) hC dX9_partsWith_24 rfl ?_
        refine g_lald hC g1 (by decide) dX9_partsWith_26 ?_
        refine g_ladd hC dX9_partsWith_27 ?_
        refine g_topJ (fun v1 => ?_)
        refine g_lstore_n hC dX9_partsWith_28 rfl (by decide) rfl ?_
        refine g_sub [1, 2, 0, 3] rfl ?_
        exact gB_X9_partsWith_29 hC hR hL ih x1 x2 v1 x5 X g1
set_option maxRecDepth 20000 in
theorem k_X9_partsWith (l : Launch) (V : Ev) {L : List Kd} (hL : LKc L) (p1 : Int) (p2 : Int) (X : Mem) (h1 : At L p1 (101, [32])) : Kt l V L yX9_partsWith (.code yX9_partsWith cX9_partsWith 6 (some .long)) 0 0 [vR V.1 40, vR V.1 p1, vI p2] rJ X (f_X9_partsWith p1 p2 X) := by
  refine kt_of (own := RX9) (lv0 := [(0, vR V.1 40), (1, vR V.1 p1), (2, vI p2)]) (by decide) rfl (Nat.le_of_ble_eq_true rfl) rfl (fun C hCl hC hR => ?_)
  subst hCl
  unfold f_X9_partsWith
  refine g_lconst (v := vJ 0) hC dX9_partsWith_0 rfl ?_
  refine g_lstore_n hC dX9_partsWith_1 rfl (by decide) rfl ?_
  refine g_iconst (v := vI 0) hC dX9_partsWith_2 rfl ?_
  refine g_istore hC dX9_partsWith_3 (by decide) rfl ?_
  refine g_sub [3, 4, 1, 0] rfl ?_
  exact gL_X9_partsWith_5 hC hR hL  KF p1 p2 0 0 X h1
def L_X11_commonDivisor_9 : Nat → Int → Int → Int → Mem → Option (Int × Mem)
  | 0, _, _, _, _ => none
  | n + 1, x4, x6, x8, X =>
    c2 x8 100 <| if 100 ≤ x8 then
      some (x4, X)
    else
      d2 x6 0 <| if x6 = 0 then
        some (x4, X)
      else
        dd x4 x6 <|
        bd (x4 % x6) fun v1 =>
        L_X11_commonDivisor_9   n x6 v1 (x8 + 1) X
def f_X11_commonDivisor (p1 : Int) (p2 : Int) (X : Mem) : Option (Int × Mem) :=
  L_X11_commonDivisor_9   KF p1 p2 0 X
set_option maxRecDepth 20000 in
theorem gL_X11_commonDivisor_9 {C : Cx} {V : Ev} {L : List Kd} (hC : Ok C V cX11_commonDivisor RX11 11 0 0) (hR : Rt C V L (some .long) rJ) (hL : LKc L) : ∀ (n : Nat) (x4 : Int) (x6 : Int) (x8 : Int) (X : Mem), G C V L 0 0 11 9 [(4, vJ x4), (6, vJ x6), (8, vI x8)] [] X (L_X11_commonDivisor_9   n x4 x6 x8 X) := by
  intro n
  induction n with
  | zero => intro x4 x6 x8 X; exact g_none
  | succ n ih =>
    intro x4 x6 x8 X
    rw [L_X11_commonDivisor_9]
    refine g_iload (q := 2) hC dX11_commonDivisor_9 rfl ?_
    refine g_bipush (v := vI 100) hC dX11_commonDivisor_11 rfl ?_
    refine g_icmp_ge (tgt := 44) hC dX11_commonDivisor_13 (by decide) ?_ ?_
    · refine g_lload (q := 0) hC dX11_commonDivisor_44 rfl ?_
      exact g_lret hC hR dX11_commonDivisor_46
    · refine g_lload (q := 1) hC dX11_commonDivisor_16 rfl ?_
      refine g_lconst (v := vJ 0) hC dX11_commonDivisor_18 rfl ?_
      refine g_lcmp_eq (tgt := 44) hC dX11_commonDivisor_19 rfl dX11_commonDivisor_20 (by decide) ?_ ?_
      · refine g_lload (q := 0) hC dX11_commonDivisor_44 rfl ?_
        exact g_lret hC hR dX11_commonDivisor_46
      · refine g_lload (q := 0) hC dX11_commonDivisor_23 rfl ?_
        refine g_lload (q := 1) hC dX11_commonDivisor_25 rfl ?_
        refine g_lrem hC dX11_commonDivisor_27 ?_
        refine g_topJ (fun v1 => ?_)
        refine g_lstore hC dX11_commonDivisor_28 (by decide) rfl ?_
        refine g_lload (q := 2) hC dX11_commonDivisor_30 rfl ?_
        refine g_lstore hC dX11_commonDivisor_32 (by decide) rfl ?_
        refine g_lload (q := 1) hC dX11_commonDivisor_34 rfl ?_
        refine g_lstore hC dX11_commonDivisor_36 (by decide) rfl ?_
        refine g_iinc (q := 3) hC dX11_commonDivisor_38 rfl (by decide) rfl ?_
        refine g_goto (tgt := 9) hC dX11_commonDivisor_41 (by decide) ?_
        refine g_sub [2, 1, 0] rfl ?_
        exact ih x6 v1 (x8 + 1) X
set_option maxRecDepth 20000 in
theorem k_X11_commonDivisor (l : Launch) (V : Ev) {L : List Kd} (hL : LKc L) (p1 : Int) (p2 : Int) (X : Mem)  : Kt l V L yX11_commonDivisor (.code yX11_commonDivisor cX11_commonDivisor 11 (some .long)) 0 0 [vJ p1, vJ p2] rJ X (f_X11_commonDivisor p1 p2 X) := by
  refine kt_of (own := RX11) (lv0 := [(0, vJ p1), (2, vJ p2)]) (by decide) rfl (Nat.le_of_ble_eq_true rfl) rfl (fun C hCl hC hR => ?_)
  subst hCl
  unfold f_X11_commonDivisor
  refine g_lload_n (q := 0) hC dX11_commonDivisor_0 rfl rfl ?_
  refine g_lstore hC dX11_commonDivisor_1 (by decide) rfl ?_
  refine g_lload_n (q := 2) hC dX11_commonDivisor_3 rfl rfl ?_
  refine g_lstore hC dX11_commonDivisor_4 (by decide) rfl ?_
  refine g_iconst (v := vI 0) hC dX11_commonDivisor_6 rfl ?_
  refine g_istore hC dX11_commonDivisor_7 (by decide) rfl ?_
  refine g_sub [2, 1, 0] rfl ?_
  exact gL_X11_commonDivisor_9 hC hR hL  KF p1 p2 0 X
def B_X11_tellFraction_30  (X : Mem) : Option (Int × Mem) :=
  cl (f_X11_agree X) fun r3 X4 =>
  cz r3 (some (r3, X4))
def f_X11_tellFraction (p1 : Int) (p2 : Int) (X : Mem) : Option (Int × Mem) :=
  cl (f_X11_commonDivisor p1 p2 X) fun r1 X2 =>
  d2 r1 0 <| if r1 ≤ 0 then
    B_X11_tellFraction_30   X2
  else
    dd p1 r1 <|
    bd (ms X2 0 17 (p1 / r1)) fun X5 =>
    dd p2 r1 <|
    bd (ms X5 0 18 (p2 / r1)) fun X6 =>
    B_X11_tellFraction_30   X6
set_option maxRecDepth 20000 in
theorem gB_X11_tellFraction_30 {C : Cx} {V : Ev} {L : List Kd} (hC : Ok C V cX11_tellFraction RX11 7 1 30) (hR : Rt C V L (some .boolean) rI) (hL : LKc L)  (X : Mem)  : G C V L 0 0 7 30 [(0, vR V.1 0)] [] X (B_X11_tellFraction_30    X) := by
  unfold B_X11_tellFraction_30
  refine g_aload_n (q := 0) hC dX11_tellFraction_30 rfl rfl rfl ?_
  refine g_callVI (As := []) hC mv_X11_agree wml_RX11_147 (k_X11_agree _ V hL X) cf_X11 (at_0 hL) (by decide) ⟨Nat.zero_le _, Nat.zero_le _⟩ rfl rfl ⟨Nat.le_of_ble_eq_true rfl, Nat.le_of_ble_eq_true rfl⟩ (Nat.le_of_ble_eq_true rfl) dX11_tellFraction_31 (fun r3 X4 => ?_)
  exact g_zret hC hR dX11_tellFraction_34
set_option maxRecDepth 20000 in
theorem k_X11_tellFraction (l : Launch) (V : Ev) {L : List Kd} (hL : LKc L) (p1 : Int) (p2 : Int) (X : Mem)  : Kt l V L yX11_tellFraction (.code yX11_tellFraction cX11_tellFraction 7 (some .boolean)) 1 30 [vR V.1 0, vJ p1, vJ p2] rI X (f_X11_tellFraction p1 p2 X) := by
  refine kt_of (own := RX11) (lv0 := [(0, vR V.1 0), (1, vJ p1), (3, vJ p2)]) (by decide) rfl (Nat.le_of_ble_eq_true rfl) rfl (fun C hCl hC hR => ?_)
  subst hCl
  unfold f_X11_tellFraction
  refine g_lload_n (q := 1) hC dX11_tellFraction_0 rfl rfl ?_
  refine g_lload_n (q := 2) hC dX11_tellFraction_1 rfl rfl ?_
  refine g_callSJ (As := [vJ p1, vJ p2]) hC mt_X11_commonDivisor wml_RX11_421 (k_X11_commonDivisor _ V hL p1 p2 X) ⟨Nat.zero_le _, Nat.zero_le _⟩ rfl rfl ⟨Nat.le_of_ble_eq_true rfl, Nat.le_of_ble_eq_true rfl⟩ (Nat.le_of_ble_eq_true rfl) dX11_tellFraction_2 (fun r1 X2 => ?_)
  refine g_lstore hC dX11_tellFraction_5 (by decide) rfl ?_
  refine g_lload (q := 0) hC dX11_tellFraction_7 rfl ?_
  refine g_lconst (v := vJ 0) hC dX11_tellFraction_9 rfl ?_
  refine g_lcmp_le (tgt := 30) hC dX11_tellFraction_10 rfl dX11_tellFraction_11 (by decide) ?_ ?_
  · refine g_sub [1] rfl ?_
    exact gB_X11_tellFraction_30 hC hR hL  X2
  · refine g_aload_n (q := 1) hC dX11_tellFraction_14 rfl rfl rfl ?_
    refine g_lload_n (q := 2) hC dX11_tellFraction_15 rfl rfl ?_
    refine g_lload (q := 0) hC dX11_tellFraction_16 rfl ?_
    refine g_ldiv hC dX11_tellFraction_18 ?_
    refine g_putJ (k := 17) (kz := 17) hC cf_X11 (at_0 hL) (by decide) rfl (by decide) rfl wf_RX11_121 rfl rfl dX11_tellFraction_19 (fun X5 => ?_)
    refine g_aload_n (q := 1) hC dX11_tellFraction_22 rfl rfl rfl ?_
    refine g_lload_n (q := 3) hC dX11_tellFraction_23 rfl rfl ?_
    refine g_lload (q := 0) hC dX11_tellFraction_24 rfl ?_
    refine g_ldiv hC dX11_tellFraction_26 ?_
    refine g_putJ (k := 18) (kz := 18) hC cf_X11 (at_0 hL) (by decide) rfl (by decide) rfl wf_RX11_125 rfl rfl dX11_tellFraction_27 (fun X6 => ?_)
    refine g_sub [1] rfl ?_
    exact gB_X11_tellFraction_30 hC hR hL  X6
def f_X11_there (p1 : Int) (X : Mem) : Option (Int × Mem) :=
  cl (f_X11_isBar p1 X) fun r1 X2 =>
  c1 r1 <| if ¬ r1 = 0 then
    cl (f_X9_partsWith 18 p1 X2) fun r3 X4 =>
    cl (f_X11_tellFraction r3 1000000 X4) fun r5 X6 =>
    cz r5 (some (r5, X6))
  else
    cl (f_X11_refuse 1 X2) fun r7 X8 =>
    cz r7 (some (r7, X8))
set_option maxRecDepth 20000 in
theorem k_X11_there (l : Launch) (V : Ev) {L : List Kd} (hL : LKc L) (p1 : Int) (X : Mem)  : Kt l V L yX11_there (.code yX11_there cX11_there 2 (some .boolean)) 2 56 [vR V.1 0, vI p1] rI X (f_X11_there p1 X) := by
  refine kt_of (own := RX11) (lv0 := [(0, vR V.1 0), (1, vI p1)]) (by decide) rfl (Nat.le_of_ble_eq_true rfl) rfl (fun C hCl hC hR => ?_)
  subst hCl
  unfold f_X11_there
  refine g_aload_n (q := 0) hC dX11_there_0 rfl rfl rfl ?_
  refine g_iload_n (q := 1) hC dX11_there_1 rfl rfl ?_
  refine g_callVI (As := [vI p1]) hC mv_X11_isBar wml_RX11_257 (k_X11_isBar _ V hL p1 X) cf_X11 (at_0 hL) (by decide) ⟨Nat.zero_le _, Nat.zero_le _⟩ rfl rfl ⟨Nat.le_of_ble_eq_true rfl, Nat.le_of_ble_eq_true rfl⟩ (Nat.le_of_ble_eq_true rfl) dX11_there_2 (fun r1 X2 => ?_)
  refine g_if_ne (tgt := 14) hC dX11_there_5 (by decide) ?_ ?_
  · refine g_aload_n (q := 0) hC dX11_there_14 rfl rfl rfl ?_
    refine g_aload_n (q := 0) hC dX11_there_15 rfl rfl rfl ?_
    refine g_getS (k := 8) hC cf_X11 (at_0 hL) (by decide) rfl (by decide) (by decide) wf_RX11_71 dX11_there_16 ?_
    refine g_aload_n (q := 0) hC dX11_there_19 rfl rfl rfl ?_
    refine g_getS (k := 1) hC cf_X11 (at_0 hL) (by decide) rfl (by decide) (by decide) wf_RX11_18 dX11_there_20 ?_
    refine g_getS (k := 2) hC cf_X7 (at_2 hL) (by decide) rfl (by decide) (by decide) wf_RX11_129 dX11_there_23 ?_
    refine g_iload_n (q := 1) hC dX11_there_26 rfl rfl ?_
    refine g_callVJ (As := [vR V.1 18, vI p1]) hC mv_X9_partsWith wml_RX11_301 (k_X9_partsWith _ V hL 18 p1 X2 (at_18 hL)) cf_X9 (at_40 hL) (by decide) ⟨Nat.zero_le _, Nat.zero_le _⟩ rfl rfl ⟨Nat.le_of_ble_eq_true rfl, Nat.le_of_ble_eq_true rfl⟩ (Nat.le_of_ble_eq_true rfl) dX11_there_27 (fun r3 X4 => ?_)
    refine g_ldc2 (n := 1000000) hC wk_RX11_305 rfl dX11_there_30 ?_
    refine g_callVI (As := [vJ r3, vJ 1000000]) hC mv_X11_tellFraction wml_RX11_307 (k_X11_tellFraction _ V hL r3 1000000 X4) cf_X11 (at_0 hL) (by decide) ⟨Nat.zero_le _, Nat.zero_le _⟩ rfl rfl ⟨Nat.le_of_ble_eq_true rfl, Nat.le_of_ble_eq_true rfl⟩ (Nat.le_of_ble_eq_true rfl) dX11_there_33 (fun r5 X6 => ?_)
    exact g_zret hC hR dX11_there_36
  · refine g_aload_n (q := 0) hC dX11_there_8 rfl rfl rfl ?_
    refine g_iconst (v := vI 1) hC dX11_there_9 rfl ?_
    refine g_callVI (As := [vI 1]) hC mv_X11_refuse wml_RX11_140 (k_X11_refuse _ V hL 1 X2) cf_X11 (at_0 hL) (by decide) ⟨Nat.zero_le _, Nat.zero_le _⟩ rfl rfl ⟨Nat.le_of_ble_eq_true rfl, Nat.le_of_ble_eq_true rfl⟩ (Nat.le_of_ble_eq_true rfl) dX11_there_10 (fun r7 X8 => ?_)
    exact g_zret hC hR dX11_there_13
def B_X9_partsWithout_26 (go5 : Int → Int → Int → Int → Mem → Option (Int × Mem)) (x1 : Int) (x2 : Int) (x3 : Int) (x5 : Int) (X : Mem) : Option (Int × Mem) :=
  go5 x1 x2 x3 (x5 + 1) X
def L_X9_partsWithout_5 : Nat → Int → Int → Int → Int → Mem → Option (Int × Mem)
  | 0, _, _, _, _, _ => none
  | n + 1, x1, x2, x3, x5, X =>
    c2 x5 32 <| if 32 ≤ x5 then
      some (x3, X)
    else
      c1 (ia x5 x2) <| if ¬ (ia x5 x2) = 0 then
        B_X9_partsWithout_26  (fun x1 x2 x3 x5 X => L_X9_partsWithout_5   n x1 x2 x3 x5 X) x1 x2 x3 x5 X
      else
        ax 32 x5 <|
        bd (x3 + (X x1 x5)) fun v1 =>
        B_X9_partsWithout_26  (fun x1 x2 x3 x5 X => L_X9_partsWithout_5   n x1 x2 x3 x5 X) x1 x2 v1 x5 X
def f_X9_partsWithout (p1 : Int) (p2 : Int) (X : Mem) : Option (Int × Mem) :=
  L_X9_partsWithout_5   KF p1 p2 0 0 X
set_option maxRecDepth 20000 in
theorem gB_X9_partsWithout_26 {C : Cx} {V : Ev} {L : List Kd} (hC : Ok C V cX9_partsWithout RX9 6 0 0) (hR : Rt C V L (some .long) rJ) (hL : LKc L) {go5 : Int → Int → Int → Int → Mem → Option (Int × Mem)} (hgo5 : ∀ (x1 : Int) (x2 : Int) (x3 : Int) (x5 : Int) (X : Mem), At L x1 (101, [32]) → G C V L 0 0 6 5 [(1, vR V.1 x1), (2, vI x2), (3, vJ x3), (5, vI x5)] [] X (go5 x1 x2 x3 x5 X)) (x1 : Int) (x2 : Int) (x3 : Int) (x5 : Int) (X : Mem) (g1 : At L x1 (101, [32])) : G C V L 0 0 6 26 [(1, vR V.1 x1), (2, vI x2), (3, vJ x3), (5, vI x5)] [] X (B_X9_partsWithout_26  go5 x1 x2 x3 x5 X) := by
  unfold B_X9_partsWithout_26
  refine g_iinc (q := 3) hC dX9_partsWithout_26 rfl (by decide) rfl ?_
  refine g_goto (tgt := 5) hC dX9_partsWithout_29 (by decide) ?_
  refine g_sub [1, 2, 3, 0] rfl ?_
  exact hgo5 x1 x2 x3 (x5 + 1) X g1
set_option maxRecDepth 20000 in
theorem gL_X9_partsWithout_5 {C : Cx} {V : Ev} {L : List Kd} (hC : Ok C V cX9_partsWithout RX9 6 0 0) (hR : Rt C V L (some .long) rJ) (hL : LKc L) : ∀ (n : Nat) (x1 : Int) (x2 : Int) (x3 : Int) (x5 : Int) (X : Mem) (g1 : At L x1 (101, [32])), G C V L 0 0 6 5 [(1, vR V.1 x1), (2, vI x2), (3, vJ x3), (5, vI x5)] [] X (L_X9_partsWithout_5   n x1 x2 x3 x5 X) := by
  intro n
  induction n with
  | zero => intro x1 x2 x3 x5 X g1; exact g_none
  | succ n ih =>
    intro x1 x2 x3 x5 X g1
    rw [L_X9_partsWithout_5]
    refine g_iload (q := 3) hC dX9_partsWithout_5 rfl ?_
    refine g_bipush (v := vI 32) hC dX9_partsWithout_7 rfl ?_
    refine g_icmp_ge (tgt := 32) hC dX9_partsWithout_9 (by decide) ?_ ?_
    · refine g_lload_n (q := 2) hC dX9_partsWithout_32 rfl rfl ?_
      exact g_lret hC hR dX9_partsWithout_33
    · refine g_iload (q := 3) hC dX9_partsWithout_12 rfl ?_
      refine g_iload_n (q := 1) hC dX9_partsWithout_14 rfl rfl ?_
      refine g_iand hC dX9_partsWithout_15 ?_
      refine g_if_ne (tgt := 26) hC dX9_partsWithout_16 (by decide) ?_ ?_
      · exact gB_X9_partsWithout_26 hC hR hL ih x1 x2 x3 x5 X g1
      · refine g_lload_n (q := 2) hC dX9_partsWithout_19 rfl rfl ?_
        refine g_aload_n (q := 0) hC dX9_partsWithout_20 rfl rfl rfl ?_
        refine g_iload (q := 3) hC dX9_partsWithout_21 rfl ?_
        refine g_lald hC g1 (by decide) dX9_partsWithout_23 ?_
        refine g_ladd hC dX9_partsWithout_24 ?_
        refine g_topJ (fun v1 => ?_)
        refine g_lstore_n hC dX9_partsWithout_25 rfl (by decide) rfl ?_
        refine g_sub [1, 2, 0, 3] rfl ?_
        exact gB_X9_partsWithout_26 hC hR hL ih x1 x2 v1 x5 X g1
set_option maxRecDepth 20000 in
theorem k_X9_partsWithout (l : Launch) (V : Ev) {L : List Kd} (hL : LKc L) (p1 : Int) (p2 : Int) (X : Mem) (h1 : At L p1 (101, [32])) : Kt l V L yX9_partsWithout (.code yX9_partsWithout cX9_partsWithout 6 (some .long)) 0 0 [vR V.1 40, vR V.1 p1, vI p2] rJ X (f_X9_partsWithout p1 p2 X) := by
  refine kt_of (own := RX9) (lv0 := [(0, vR V.1 40), (1, vR V.1 p1), (2, vI p2)]) (by decide) rfl (Nat.le_of_ble_eq_true rfl) rfl (fun C hCl hC hR => ?_)
  subst hCl
  unfold f_X9_partsWithout
  refine g_lconst (v := vJ 0) hC dX9_partsWithout_0 rfl ?_
  refine g_lstore_n hC dX9_partsWithout_1 rfl (by decide) rfl ?_
  refine g_iconst (v := vI 0) hC dX9_partsWithout_2 rfl ?_
  refine g_istore hC dX9_partsWithout_3 (by decide) rfl ?_
  refine g_sub [3, 4, 1, 0] rfl ?_
  exact gL_X9_partsWithout_5 hC hR hL  KF p1 p2 0 0 X h1
def f_X11_chance (p1 : Int) (X : Mem) : Option (Int × Mem) :=
  cl (f_X11_isSet p1 X) fun r1 X2 =>
  c1 r1 <| if ¬ r1 = 0 then
    cl (f_X9_partsWithout 18 p1 X2) fun r3 X4 =>
    cl (f_X11_tellFraction r3 1000000 X4) fun r5 X6 =>
    cz r5 (some (r5, X6))
  else
    cl (f_X11_refuse 1 X2) fun r7 X8 =>
    cz r7 (some (r7, X8))
set_option maxRecDepth 20000 in
theorem k_X11_chance (l : Launch) (V : Ev) {L : List Kd} (hL : LKc L) (p1 : Int) (X : Mem)  : Kt l V L yX11_chance (.code yX11_chance cX11_chance 2 (some .boolean)) 2 56 [vR V.1 0, vI p1] rI X (f_X11_chance p1 X) := by
  refine kt_of (own := RX11) (lv0 := [(0, vR V.1 0), (1, vI p1)]) (by decide) rfl (Nat.le_of_ble_eq_true rfl) rfl (fun C hCl hC hR => ?_)
  subst hCl
  unfold f_X11_chance
  refine g_aload_n (q := 0) hC dX11_chance_0 rfl rfl rfl ?_
  refine g_iload_n (q := 1) hC dX11_chance_1 rfl rfl ?_
  refine g_callVI (As := [vI p1]) hC mv_X11_isSet wml_RX11_287 (k_X11_isSet _ V hL p1 X) cf_X11 (at_0 hL) (by decide) ⟨Nat.zero_le _, Nat.zero_le _⟩ rfl rfl ⟨Nat.le_of_ble_eq_true rfl, Nat.le_of_ble_eq_true rfl⟩ (Nat.le_of_ble_eq_true rfl) dX11_chance_2 (fun r1 X2 => ?_)
  refine g_if_ne (tgt := 14) hC dX11_chance_5 (by decide) ?_ ?_
  · refine g_aload_n (q := 0) hC dX11_chance_14 rfl rfl rfl ?_
    refine g_aload_n (q := 0) hC dX11_chance_15 rfl rfl rfl ?_
    refine g_getS (k := 8) hC cf_X11 (at_0 hL) (by decide) rfl (by decide) (by decide) wf_RX11_71 dX11_chance_16 ?_
    refine g_aload_n (q := 0) hC dX11_chance_19 rfl rfl rfl ?_
    refine g_getS (k := 1) hC cf_X11 (at_0 hL) (by decide) rfl (by decide) (by decide) wf_RX11_18 dX11_chance_20 ?_
    refine g_getS (k := 2) hC cf_X7 (at_2 hL) (by decide) rfl (by decide) (by decide) wf_RX11_129 dX11_chance_23 ?_
    refine g_iload_n (q := 1) hC dX11_chance_26 rfl rfl ?_
    refine g_callVJ (As := [vR V.1 18, vI p1]) hC mv_X9_partsWithout wml_RX11_311 (k_X9_partsWithout _ V hL 18 p1 X2 (at_18 hL)) cf_X9 (at_40 hL) (by decide) ⟨Nat.zero_le _, Nat.zero_le _⟩ rfl rfl ⟨Nat.le_of_ble_eq_true rfl, Nat.le_of_ble_eq_true rfl⟩ (Nat.le_of_ble_eq_true rfl) dX11_chance_27 (fun r3 X4 => ?_)
    refine g_ldc2 (n := 1000000) hC wk_RX11_305 rfl dX11_chance_30 ?_
    refine g_callVI (As := [vJ r3, vJ 1000000]) hC mv_X11_tellFraction wml_RX11_307 (k_X11_tellFraction _ V hL r3 1000000 X4) cf_X11 (at_0 hL) (by decide) ⟨Nat.zero_le _, Nat.zero_le _⟩ rfl rfl ⟨Nat.le_of_ble_eq_true rfl, Nat.le_of_ble_eq_true rfl⟩ (Nat.le_of_ble_eq_true rfl) dX11_chance_33 (fun r5 X6 => ?_)
    exact g_zret hC hR dX11_chance_36
  · refine g_aload_n (q := 0) hC dX11_chance_8 rfl rfl rfl ?_
    refine g_iconst (v := vI 1) hC dX11_chance_9 rfl ?_
    refine g_callVI (As := [vI 1]) hC mv_X11_refuse wml_RX11_140 (k_X11_refuse _ V hL 1 X2) cf_X11 (at_0 hL) (by decide) ⟨Nat.zero_le _, Nat.zero_le _⟩ rfl rfl ⟨Nat.le_of_ble_eq_true rfl, Nat.le_of_ble_eq_true rfl⟩ (Nat.le_of_ble_eq_true rfl) dX11_chance_10 (fun r7 X8 => ?_)
    exact g_zret hC hR dX11_chance_13
def f_X11_copyParts (p1 : Int) (p2 : Int) (X : Mem) : Option (Int × Mem) :=
  cpk 32 32 0 0 32 <| bd (mc X p1 0 p2 0 32) fun X1 =>
  some (0, X1)
set_option maxRecDepth 20000 in
theorem k_X11_copyParts (l : Launch) (V : Ev) {L : List Kd} (hL : LKc L) (p1 : Int) (p2 : Int) (X : Mem) (h1 : At L p1 (101, [32])) (h2 : At L p2 (101, [32])) : Kt l V L yX11_copyParts (.code yX11_copyParts cX11_copyParts 2 none) 1 60 [vR V.1 p1, vR V.1 p2] rV X (f_X11_copyParts p1 p2 X) := by
  refine kt_of (own := RX11) (lv0 := [(0, vR V.1 p1), (1, vR V.1 p2)]) (by decide) rfl (Nat.le_of_ble_eq_true rfl) rfl (fun C hCl hC hR => ?_)
  subst hCl
  unfold f_X11_copyParts
  refine g_aload_n (q := 0) hC dX11_copyParts_0 rfl rfl rfl ?_
  refine g_iconst (v := vI 0) hC dX11_copyParts_1 rfl ?_
  refine g_aload_n (q := 1) hC dX11_copyParts_2 rfl rfl rfl ?_
  refine g_iconst (v := vI 0) hC dX11_copyParts_3 rfl ?_
  refine g_bipush (v := vI 32) hC dX11_copyParts_4 rfl ?_
  refine g_copyl hC wml_RX11_176 h1 h2 (by decide) (by decide) (Nat.le_of_ble_eq_true rfl) (Nat.le_of_ble_eq_true rfl) dX11_copyParts_6 (fun X1 => ?_)
  exact g_vret hC hR dX11_copyParts_9
def B_X9_passDay_168 (x2 : Int) (X : Mem) : Option (Int × Mem) :=
  cl (f_X9_shareOut x2 X) fun r5 X6 =>
  some (0, X6)
def B_X9_passDay_162 (go17 : Int → Int → Int → Int → Int → Int → Mem → Option (Int × Mem)) (x1 : Int) (x2 : Int) (x3 : Int) (x4 : Int) (x5 : Int) (x6 : Int) (X : Mem) : Option (Int × Mem) :=
  go17 x1 x2 x3 x4 x5 (x6 + 1) X
def B_X9_passDay_156 (go17 : Int → Int → Int → Int → Int → Int → Mem → Option (Int × Mem)) (go71 : Int → Int → Int → Int → Int → Int → Int → Int → Int → Int → Mem → Option (Int × Mem)) (x1 : Int) (x2 : Int) (x3 : Int) (x4 : Int) (x5 : Int) (x6 : Int) (x7 : Int) (x8 : Int) (x9 : Int) (x10 : Int) (X : Mem) : Option (Int × Mem) :=
  go71 x1 x2 x3 x4 x5 x6 x7 x8 x9 (x10 + 1) X
def L_X9_passDay_71 (go17 : Int → Int → Int → Int → Int → Int → Mem → Option (Int × Mem)) : Nat → Int → Int → Int → Int → Int → Int → Int → Int → Int → Int → Mem → Option (Int × Mem)
  | 0, _, _, _, _, _, _, _, _, _, _, _ => none
  | n + 1, x1, x2, x3, x4, x5, x6, x7, x8, x9, x10, X =>
    c2 x10 x5 <| if x5 ≤ x10 then
      B_X9_passDay_162  go17 x1 x2 x3 x4 x5 x6 X
    else
      c1 (ia x10 x9) <| if ¬ (ia x10 x9) = 0 then
        B_X9_passDay_156  go17 (fun x1 x2 x3 x4 x5 x6 x7 x8 x9 x10 X => L_X9_passDay_71  go17 n x1 x2 x3 x4 x5 x6 x7 x8 x9 x10 X) x1 x2 x3 x4 x5 x6 x7 x8 x9 x10 X
      else
        ax 32 x10 <|
        bd (X 41 x10) fun v10 =>
        ax 32 (io x10 x9) <|
        bd (X 41 (io x10 x9)) fun v11 =>
        c1 (16 - x8) <|
        c1 x7 <|
        ax 32 x10 <| bd (ms X 41 x10 ((v10 * (16 - x8)) + (v11 * x7))) fun X12 =>
        c1 x8 <|
        c1 (16 - x7) <|
        ax 32 (io x10 x9) <| bd (ms X12 41 (io x10 x9) ((v10 * x8) + (v11 * (16 - x7)))) fun X13 =>
        B_X9_passDay_156  go17 (fun x1 x2 x3 x4 x5 x6 x7 x8 x9 x10 X => L_X9_passDay_71  go17 n x1 x2 x3 x4 x5 x6 x7 x8 x9 x10 X) x1 x2 x3 x4 x5 x6 x7 x8 x9 x10 X13
def B_X9_passDay_53 (go17 : Int → Int → Int → Int → Int → Int → Mem → Option (Int × Mem)) (x1 : Int) (x2 : Int) (x3 : Int) (x4 : Int) (x5 : Int) (x6 : Int) (x7 : Int) (X : Mem) : Option (Int × Mem) :=
  ax 5 x6 <|
  bd (X (x1 + 8) x6) fun v8 =>
  bd (ishl 1 x6) fun v9 =>
  L_X9_passDay_71  go17 KF x1 x2 x3 x4 x5 x6 x7 v8 v9 0 X
def L_X9_passDay_17 : Nat → Int → Int → Int → Int → Int → Int → Mem → Option (Int × Mem)
  | 0, _, _, _, _, _, _, _ => none
  | n + 1, x1, x2, x3, x4, x5, x6, X =>
    c2 x6 (X x1 2) <| if (X x1 2) ≤ x6 then
      B_X9_passDay_168   x2 X
    else
      ax 5 x6 <|
      bd (X (x1 + 7) x6) fun v7 =>
      c2 x6 x3 <| if ¬ x6 = x3 then
        B_X9_passDay_53  (fun x1 x2 x3 x4 x5 x6 X => L_X9_passDay_17   n x1 x2 x3 x4 x5 x6 X) x1 x2 x3 x4 x5 x6 v7 X
      else
        c2 16 (v7 + x4) <|
        bd (min 16 (v7 + x4)) fun v14 =>
        B_X9_passDay_53  (fun x1 x2 x3 x4 x5 x6 X => L_X9_passDay_17   n x1 x2 x3 x4 x5 x6 X) x1 x2 x3 x4 x5 x6 v14 X
def f_X9_passDay (p1 : Int) (p2 : Int) (p3 : Int) (p4 : Int) (X : Mem) : Option (Int × Mem) :=
  cl (f_X11_copyParts p2 41 X) fun _ X2 =>
  cl (f_X2_setCount p1 X2) fun r3 X4 =>
  L_X9_passDay_17   KF p1 p2 p3 p4 r3 0 X4
set_option maxRecDepth 20000 in
theorem gB_X9_passDay_168 {C : Cx} {V : Ev} {L : List Kd} (hC : Ok C V cX9_passDay RX9 15 2 81) (hR : Rt C V L none rV) (hL : LKc L) (x2 : Int) (X : Mem) (g2 : At L x2 (101, [32])) : G C V L 0 0 15 168 [(0, vR V.1 40), (2, vR V.1 x2)] [] X (B_X9_passDay_168   x2 X) := by
  unfold B_X9_passDay_168
  refine g_aload_n (q := 0) hC dX9_passDay_168 rfl rfl rfl ?_
  refine g_aload_n (q := 1) hC dX9_passDay_169 rfl rfl rfl ?_
  refine g_callVI (As := [vR V.1 x2]) hC mv_X9_shareOut wml_RX9_35 (k_X9_shareOut _ V hL x2 X g2) cf_X9 (at_40 hL) (by decide) ⟨Nat.zero_le _, Nat.zero_le _⟩ rfl rfl ⟨Nat.le_of_ble_eq_true rfl, Nat.le_of_ble_eq_true rfl⟩ (Nat.le_of_ble_eq_true rfl) dX9_passDay_170 (fun r5 X6 => ?_)
  refine g_pop hC dX9_passDay_173 rfl ?_
  exact g_vret hC hR dX9_passDay_174
set_option maxRecDepth 20000 in
theorem gB_X9_passDay_162 {C : Cx} {V : Ev} {L : List Kd} (hC : Ok C V cX9_passDay RX9 15 2 81) (hR : Rt C V L none rV) (hL : LKc L) {go17 : Int → Int → Int → Int → Int → Int → Mem → Option (Int × Mem)} (hgo17 : ∀ (x1 : Int) (x2 : Int) (x3 : Int) (x4 : Int) (x5 : Int) (x6 : Int) (X : Mem), isRiver L x1 → At L x2 (101, [32]) → G C V L 0 0 15 17 [(0, vR V.1 40), (1, vR V.1 x1), (2, vR V.1 x2), (3, vI x3), (4, vI x4), (5, vI x5), (6, vI x6)] [] X (go17 x1 x2 x3 x4 x5 x6 X)) (x1 : Int) (x2 : Int) (x3 : Int) (x4 : Int) (x5 : Int) (x6 : Int) (X : Mem) (g1 : isRiver L x1) (g2 : At L x2 (101, [32])) : G C V L 0 0 15 162 [(0, vR V.1 40), (1, vR V.1 x1), (2, vR V.1 x2), (3, vI x3), (4, vI x4), (5, vI x5), (6, vI x6)] [] X (B_X9_passDay_162  go17 x1 x2 x3 x4 x5 x6 X) := by
  unfold B_X9_passDay_162
  refine g_iinc (q := 6) hC dX9_passDay_162 rfl (by decide) rfl ?_
  refine g_goto (tgt := 17) hC dX9_passDay_165 (by decide) ?_
  refine g_sub [1, 2, 3, 4, 5, 6, 0] rfl ?_
  exact hgo17 x1 x2 x3 x4 x5 (x6 + 1) X g1 g2
set_option maxRecDepth 20000 in
theorem gB_X9_passDay_156 {C : Cx} {V : Ev} {L : List Kd} (hC : Ok C V cX9_passDay RX9 15 2 81) (hR : Rt C V L none rV) (hL : LKc L) {go17 : Int → Int → Int → Int → Int → Int → Mem → Option (Int × Mem)} {go71 : Int → Int → Int → Int → Int → Int → Int → Int → Int → Int → Mem → Option (Int × Mem)} (hgo17 : ∀ (x1 : Int) (x2 : Int) (x3 : Int) (x4 : Int) (x5 : Int) (x6 : Int) (X : Mem), isRiver L x1 → At L x2 (101, [32]) → G C V L 0 0 15 17 [(0, vR V.1 40), (1, vR V.1 x1), (2, vR V.1 x2), (3, vI x3), (4, vI x4), (5, vI x5), (6, vI x6)] [] X (go17 x1 x2 x3 x4 x5 x6 X)) (hgo71 : ∀ (x1 : Int) (x2 : Int) (x3 : Int) (x4 : Int) (x5 : Int) (x6 : Int) (x7 : Int) (x8 : Int) (x9 : Int) (x10 : Int) (X : Mem), isRiver L x1 → At L x2 (101, [32]) → G C V L 0 0 15 71 [(0, vR V.1 40), (1, vR V.1 x1), (2, vR V.1 x2), (3, vI x3), (4, vI x4), (5, vI x5), (6, vI x6), (7, vI x7), (8, vI x8), (9, vI x9), (10, vI x10)] [] X (go71 x1 x2 x3 x4 x5 x6 x7 x8 x9 x10 X)) (x1 : Int) (x2 : Int) (x3 : Int) (x4 : Int) (x5 : Int) (x6 : Int) (x7 : Int) (x8 : Int) (x9 : Int) (x10 : Int) (X : Mem) (g1 : isRiver L x1) (g2 : At L x2 (101, [32])) : G C V L 0 0 15 156 [(0, vR V.1 40), (1, vR V.1 x1), (2, vR V.1 x2), (3, vI x3), (4, vI x4), (5, vI x5), (6, vI x6), (7, vI x7), (8, vI x8), (9, vI x9), (10, vI x10)] [] X (B_X9_passDay_156  go17 go71 x1 x2 x3 x4 x5 x6 x7 x8 x9 x10 X) := by
  unfold B_X9_passDay_156
  refine g_iinc (q := 10) hC dX9_passDay_156 rfl (by decide) rfl ?_
  refine g_goto (tgt := 71) hC dX9_passDay_159 (by decide) ?_
  refine g_sub [1, 2, 3, 4, 5, 6, 7, 8, 9, 10, 0] rfl ?_
  exact hgo71 x1 x2 x3 x4 x5 x6 x7 x8 x9 (x10 + 1) X g1 g2
set_option maxRecDepth 20000 in
theorem gL_X9_passDay_71 {C : Cx} {V : Ev} {L : List Kd} (hC : Ok C V cX9_passDay RX9 15 2 81) (hR : Rt C V L none rV) (hL : LKc L) {go17 : Int → Int → Int → Int → Int → Int → Mem → Option (Int × Mem)} (hgo17 : ∀ (x1 : Int) (x2 : Int) (x3 : Int) (x4 : Int) (x5 : Int) (x6 : Int) (X : Mem), isRiver L x1 → At L x2 (101, [32]) → G C V L 0 0 15 17 [(0, vR V.1 40), (1, vR V.1 x1), (2, vR V.1 x2), (3, vI x3), (4, vI x4), (5, vI x5), (6, vI x6)] [] X (go17 x1 x2 x3 x4 x5 x6 X)) : ∀ (n : Nat) (x1 : Int) (x2 : Int) (x3 : Int) (x4 : Int) (x5 : Int) (x6 : Int) (x7 : Int) (x8 : Int) (x9 : Int) (x10 : Int) (X : Mem) (g1 : isRiver L x1) (g2 : At L x2 (101, [32])), G C V L 0 0 15 71 [(0, vR V.1 40), (1, vR V.1 x1), (2, vR V.1 x2), (3, vI x3), (4, vI x4), (5, vI x5), (6, vI x6), (7, vI x7), (8, vI x8), (9, vI x9), (10, vI x10)] [] X (L_X9_passDay_71  go17 n x1 x2 x3 x4 x5 x6 x7 x8 x9 x10 X) := by
  intro n
  induction n with
  | zero => intro x1 x2 x3 x4 x5 x6 x7 x8 x9 x10 X g1 g2; exact g_none
  | succ n ih =>
    intro x1 x2 x3 x4 x5 x6 x7 x8 x9 x10 X g1 g2
    rw [L_X9_passDay_71]
    refine g_iload (q := 10) hC dX9_passDay_71 rfl ?_
    refine g_iload (q := 5) hC dX9_passDay_73 rfl ?_
    refine g_icmp_ge (tgt := 162) hC dX9_passDay_75 (by decide) ?_ ?_
    · refine g_sub [0, 1, 2, 3, 4, 5, 6] rfl ?_
      exact gB_X9_passDay_162 hC hR hL hgo17 x1 x2 x3 x4 x5 x6 X g1 g2
    · refine g_iload (q := 10) hC dX9_passDay_78 rfl ?_
      refine g_iload (q := 9) hC dX9_passDay_80 rfl ?_
      refine g_iand hC dX9_passDay_82 ?_
      refine g_if_ne (tgt := 156) hC dX9_passDay_83 (by decide) ?_ ?_
      · exact gB_X9_passDay_156 hC hR hL hgo17 ih x1 x2 x3 x4 x5 x6 x7 x8 x9 x10 X g1 g2
      · refine g_aload_n (q := 0) hC dX9_passDay_86 rfl rfl rfl ?_
        refine g_getS (k := 0) hC cf_X9 (at_40 hL) (by decide) rfl (by decide) (by decide) wf_RX9_9 dX9_passDay_87 ?_
        refine g_iload (q := 10) hC dX9_passDay_90 rfl ?_
        refine g_lald hC (at_41 hL) (by decide) dX9_passDay_92 ?_
        refine g_topJ (fun v10 => ?_)
        refine g_lstore hC dX9_passDay_93 (by decide) rfl ?_
        refine g_aload_n (q := 1) hC dX9_passDay_95 rfl rfl rfl ?_
        refine g_getS (k := 0) hC cf_X9 (at_40 hL) (by decide) rfl (by decide) (by decide) wf_RX9_9 dX9_passDay_96 ?_
        refine g_iload (q := 11) hC dX9_passDay_99 rfl ?_
        refine g_iload (q := 10) hC dX9_passDay_101 rfl ?_
        refine g_ior hC dX9_passDay_103 ?_
        refine g_lald hC (at_41 hL) (by decide) dX9_passDay_104 ?_
        refine g_topJ (fun v11 => ?_)
        refine g_lstore hC dX9_passDay_105 (by decide) rfl ?_
        refine g_aload_n (q := 2) hC dX9_passDay_107 rfl rfl rfl ?_
        refine g_getS (k := 0) hC cf_X9 (at_40 hL) (by decide) rfl (by decide) (by decide) wf_RX9_9 dX9_passDay_108 ?_
        refine g_iload (q := 12) hC dX9_passDay_111 rfl ?_
        refine g_lload (q := 1) hC dX9_passDay_113 rfl ?_
        refine g_bipush (v := vI 16) hC dX9_passDay_115 rfl ?_
        refine g_iload (q := 10) hC dX9_passDay_117 rfl ?_
        refine g_isub hC dX9_passDay_119 ?_
        refine g_i2l hC dX9_passDay_120 ?_
        refine g_lmul hC dX9_passDay_121 ?_
        refine g_lload (q := 0) hC dX9_passDay_122 rfl ?_
        refine g_iload (q := 9) hC dX9_passDay_124 rfl ?_
        refine g_i2l hC dX9_passDay_126 ?_
        refine g_lmul hC dX9_passDay_127 ?_
        refine g_ladd hC dX9_passDay_128 ?_
        refine g_last hC (at_41 hL) (by decide) dX9_passDay_129 (fun X12 => ?_)
        refine g_aload_n (q := 2) hC dX9_passDay_130 rfl rfl rfl ?_
        refine g_getS (k := 0) hC cf_X9 (at_40 hL) (by decide) rfl (by decide) (by decide) wf_RX9_9 dX9_passDay_131 ?_
        refine g_iload (q := 12) hC dX9_passDay_134 rfl ?_
        refine g_iload (q := 11) hC dX9_passDay_136 rfl ?_
        refine g_ior hC dX9_passDay_138 ?_
        refine g_lload (q := 1) hC dX9_passDay_139 rfl ?_
        refine g_iload (q := 10) hC dX9_passDay_141 rfl ?_
        refine g_i2l hC dX9_passDay_143 ?_
        refine g_lmul hC dX9_passDay_144 ?_
        refine g_lload (q := 0) hC dX9_passDay_145 rfl ?_
        refine g_bipush (v := vI 16) hC dX9_passDay_147 rfl ?_
        refine g_iload (q := 9) hC dX9_passDay_149 rfl ?_
        refine g_isub hC dX9_passDay_151 ?_
        refine g_i2l hC dX9_passDay_152 ?_
        refine g_lmul hC dX9_passDay_153 ?_
        refine g_ladd hC dX9_passDay_154 ?_
        refine g_last hC (at_41 hL) (by decide) dX9_passDay_155 (fun X13 => ?_)
        refine g_sub [2, 3, 4, 5, 6, 7, 8, 9, 10, 11, 12] rfl ?_
        exact gB_X9_passDay_156 hC hR hL hgo17 ih x1 x2 x3 x4 x5 x6 x7 x8 x9 x10 X13 g1 g2
set_option maxRecDepth 20000 in
theorem gB_X9_passDay_53 {C : Cx} {V : Ev} {L : List Kd} (hC : Ok C V cX9_passDay RX9 15 2 81) (hR : Rt C V L none rV) (hL : LKc L) {go17 : Int → Int → Int → Int → Int → Int → Mem → Option (Int × Mem)} (hgo17 : ∀ (x1 : Int) (x2 : Int) (x3 : Int) (x4 : Int) (x5 : Int) (x6 : Int) (X : Mem), isRiver L x1 → At L x2 (101, [32]) → G C V L 0 0 15 17 [(0, vR V.1 40), (1, vR V.1 x1), (2, vR V.1 x2), (3, vI x3), (4, vI x4), (5, vI x5), (6, vI x6)] [] X (go17 x1 x2 x3 x4 x5 x6 X)) (x1 : Int) (x2 : Int) (x3 : Int) (x4 : Int) (x5 : Int) (x6 : Int) (x7 : Int) (X : Mem) (g1 : isRiver L x1) (g2 : At L x2 (101, [32])) : G C V L 0 0 15 53 [(0, vR V.1 40), (1, vR V.1 x1), (2, vR V.1 x2), (3, vI x3), (4, vI x4), (5, vI x5), (6, vI x6), (7, vI x7)] [] X (B_X9_passDay_53  go17 x1 x2 x3 x4 x5 x6 x7 X) := by
  unfold B_X9_passDay_53
  refine g_aload_n (q := 1) hC dX9_passDay_53 rfl rfl rfl ?_
  refine g_getS (k := 18) hC cf_X2 (rv_0 g1) (by decide) rfl (add_nn (rv_0 g1)) (by decide) wf_RX9_52 dX9_passDay_54 ?_
  refine g_iload (q := 6) hC dX9_passDay_57 rfl ?_
  refine g_iald hC (rv_8 g1) (by decide) dX9_passDay_59 ?_
  refine g_topI (fun v8 => ?_)
  refine g_istore hC dX9_passDay_60 (by decide) rfl ?_
  refine g_iconst (v := vI 1) hC dX9_passDay_62 rfl ?_
  refine g_iload (q := 7) hC dX9_passDay_63 rfl ?_
  refine g_ishl hC dX9_passDay_65 ?_
  refine g_topI (fun v9 => ?_)
  refine g_istore hC dX9_passDay_66 (by decide) rfl ?_
  refine g_iconst (v := vI 0) hC dX9_passDay_68 rfl ?_
  refine g_istore hC dX9_passDay_69 (by decide) rfl ?_
  refine g_sub [3, 4, 5, 6, 7, 8, 9, 10, 2, 1, 0] rfl ?_
  exact gL_X9_passDay_71 hC hR hL hgo17 KF x1 x2 x3 x4 x5 x6 x7 v8 v9 0 X g1 g2
set_option maxRecDepth 20000 in
theorem gL_X9_passDay_17 {C : Cx} {V : Ev} {L : List Kd} (hC : Ok C V cX9_passDay RX9 15 2 81) (hR : Rt C V L none rV) (hL : LKc L) : ∀ (n : Nat) (x1 : Int) (x2 : Int) (x3 : Int) (x4 : Int) (x5 : Int) (x6 : Int) (X : Mem) (g1 : isRiver L x1) (g2 : At L x2 (101, [32])), G C V L 0 0 15 17 [(0, vR V.1 40), (1, vR V.1 x1), (2, vR V.1 x2), (3, vI x3), (4, vI x4), (5, vI x5), (6, vI x6)] [] X (L_X9_passDay_17   n x1 x2 x3 x4 x5 x6 X) := by
  intro n
  induction n with
  | zero => intro x1 x2 x3 x4 x5 x6 X g1 g2; exact g_none
  | succ n ih =>
    intro x1 x2 x3 x4 x5 x6 X g1 g2
    rw [L_X9_passDay_17]
    refine g_iload (q := 6) hC dX9_passDay_17 rfl ?_
    refine g_aload_n (q := 1) hC dX9_passDay_19 rfl rfl rfl ?_
    refine g_getI (k := 2) (kz := 2) hC cf_X2 (rv_0 g1) (by decide) rfl (by decide) rfl wf_RX9_27 dX9_passDay_20 ?_
    refine g_icmp_ge (tgt := 168) hC dX9_passDay_23 (by decide) ?_ ?_
    · refine g_sub [0, 2] rfl ?_
      exact gB_X9_passDay_168 hC hR hL  x2 X g2
    · refine g_aload_n (q := 1) hC dX9_passDay_26 rfl rfl rfl ?_
      refine g_getS (k := 17) hC cf_X2 (rv_0 g1) (by decide) rfl (add_nn (rv_0 g1)) (by decide) wf_RX9_43 dX9_passDay_27 ?_
      refine g_iload (q := 6) hC dX9_passDay_30 rfl ?_
      refine g_iald hC (rv_7 g1) (by decide) dX9_passDay_32 ?_
      refine g_topI (fun v7 => ?_)
      refine g_istore hC dX9_passDay_33 (by decide) rfl ?_
      refine g_iload (q := 7) hC dX9_passDay_35 rfl ?_
      refine g_iload_n (q := 4) hC dX9_passDay_37 rfl rfl ?_
      refine g_icmp_ne (tgt := 53) hC dX9_passDay_38 (by decide) ?_ ?_
      · refine g_sub [1, 2, 3, 4, 5, 6, 7, 0] rfl ?_
        exact gB_X9_passDay_53 hC hR hL ih x1 x2 x3 x4 x5 x6 v7 X g1 g2
      · refine g_bipush (v := vI 16) hC dX9_passDay_41 rfl ?_
        refine g_iload (q := 0) hC dX9_passDay_43 rfl ?_
        refine g_iload (q := 5) hC dX9_passDay_45 rfl ?_
        refine g_iadd hC dX9_passDay_47 ?_
        refine g_mmin hC wml_RX9_46 (Nat.le_of_ble_eq_true rfl) (Nat.le_of_ble_eq_true rfl) ⟨Nat.zero_le _, Nat.zero_le _⟩ dX9_passDay_48 ?_
        refine g_topI (fun v14 => ?_)
        refine g_istore hC dX9_passDay_51 (by decide) rfl ?_
        refine g_sub [1, 2, 3, 4, 5, 6, 7, 0] rfl ?_
        exact gB_X9_passDay_53 hC hR hL ih x1 x2 x3 x4 x5 x6 v14 X g1 g2
set_option maxRecDepth 20000 in
theorem k_X9_passDay (l : Launch) (V : Ev) {L : List Kd} (hL : LKc L) (p1 : Int) (p2 : Int) (p3 : Int) (p4 : Int) (X : Mem) (h1 : isRiver L p1) (h2 : At L p2 (101, [32])) : Kt l V L yX9_passDay (.code yX9_passDay cX9_passDay 15 none) 2 81 [vR V.1 40, vR V.1 p1, vR V.1 p2, vI p3, vI p4] rV X (f_X9_passDay p1 p2 p3 p4 X) := by
  refine kt_of (own := RX9) (lv0 := [(0, vR V.1 40), (1, vR V.1 p1), (2, vR V.1 p2), (3, vI p3), (4, vI p4)]) (by decide) rfl (Nat.le_of_ble_eq_true rfl) rfl (fun C hCl hC hR => ?_)
  subst hCl
  unfold f_X9_passDay
  refine g_aload_n (q := 2) hC dX9_passDay_0 rfl rfl rfl ?_
  refine g_aload_n (q := 0) hC dX9_passDay_1 rfl rfl rfl ?_
  refine g_getS (k := 0) hC cf_X9 (at_40 hL) (by decide) rfl (by decide) (by decide) wf_RX9_9 dX9_passDay_2 ?_
  refine g_callSNV (As := [vR V.1 p2, vR V.1 41]) hC mt_X11_copyParts nl_6 (k_X11_copyParts _ V hL p2 41 X h2 (at_41 hL)) ⟨Nat.zero_le _, Nat.zero_le _⟩ rfl rfl ⟨Nat.le_of_ble_eq_true rfl, Nat.le_of_ble_eq_true rfl⟩ (Nat.le_of_ble_eq_true rfl) dX9_passDay_5 (fun _ X2 => ?_)
  refine g_aload_n (q := 1) hC dX9_passDay_8 rfl rfl rfl ?_
  refine g_callVI (As := []) hC mv_X2_setCount wml_RX9_21 (k_X2_setCount _ V p1 X2 h1) cf_X2 (rv_0 h1) (by decide) ⟨Nat.zero_le _, Nat.zero_le _⟩ rfl rfl ⟨Nat.le_of_ble_eq_true rfl, Nat.le_of_ble_eq_true rfl⟩ (Nat.le_of_ble_eq_true rfl) dX9_passDay_9 (fun r3 X4 => ?_)
  refine g_istore hC dX9_passDay_12 (by decide) rfl ?_
  refine g_iconst (v := vI 0) hC dX9_passDay_14 rfl ?_
  refine g_istore hC dX9_passDay_15 (by decide) rfl ?_
  refine g_sub [2, 3, 4, 5, 6, 1, 0] rfl ?_
  exact gL_X9_passDay_17 hC hR hL  KF p1 p2 p3 p4 r3 0 X4 h1 h2
def B_X11_pass_11  (X : Mem) : Option (Int × Mem) :=
  cl (f_X11_fail 1 X) fun r1 X2 =>
  some (r1, X2)
def B_X11_pass_73 (x1 : Int) (X : Mem) : Option (Int × Mem) :=
  bd (ms X 2 3 ((X 2 3) + x1)) fun X3 =>
  cl (f_X11_answer (X3 2 3) X3) fun r4 X5 =>
  some (r4, X5)
def L_X11_pass_39 : Nat → Int → Int → Mem → Option (Int × Mem)
  | 0, _, _, _ => none
  | n + 1, x1, x2, X =>
    c2 x2 x1 <| if x1 ≤ x2 then
      B_X11_pass_73   x1 X
    else
      cm RIV (X 2 0) <|
      cl (f_X9_passDay (X 2 0) 18 ((-1)) 0 X) fun _ X8 =>
      L_X11_pass_39   n x1 (x2 + 1) X8
def f_X11_pass (p1 : Int) (X : Mem) : Option (Int × Mem) :=
  c2 p1 1 <| if p1 < 1 then
    B_X11_pass_11   X
  else
    c2 p1 9 <| if p1 ≤ 9 then
      c2 ((X 2 3) + p1) 99 <| if ((X 2 3) + p1) ≤ 99 then
        L_X11_pass_39   KF p1 0 X
      else
        cl (f_X11_fail 4 X) fun r9 X10 =>
        some (r9, X10)
    else
      B_X11_pass_11   X
set_option maxRecDepth 20000 in
theorem gB_X11_pass_11 {C : Cx} {V : Ev} {L : List Kd} (hC : Ok C V cX11_pass RX11 3 3 115) (hR : Rt C V L (some .int) rI) (hL : LKc L)  (X : Mem)  : G C V L 0 0 3 11 [(0, vR V.1 0)] [] X (B_X11_pass_11    X) := by
  unfold B_X11_pass_11
  refine g_aload_n (q := 0) hC dX11_pass_11 rfl rfl rfl ?_
  refine g_iconst (v := vI 1) hC dX11_pass_12 rfl ?_
  refine g_callVI (As := [vI 1]) hC mv_X11_fail wml_RX11_162 (k_X11_fail _ V hL 1 X) cf_X11 (at_0 hL) (by decide) ⟨Nat.zero_le _, Nat.zero_le _⟩ rfl rfl ⟨Nat.le_of_ble_eq_true rfl, Nat.le_of_ble_eq_true rfl⟩ (Nat.le_of_ble_eq_true rfl) dX11_pass_13 (fun r1 X2 => ?_)
  exact g_iret hC hR dX11_pass_16
set_option maxRecDepth 20000 in
theorem gB_X11_pass_73 {C : Cx} {V : Ev} {L : List Kd} (hC : Ok C V cX11_pass RX11 3 3 115) (hR : Rt C V L (some .int) rI) (hL : LKc L) (x1 : Int) (X : Mem)  : G C V L 0 0 3 73 [(0, vR V.1 0), (1, vI x1)] [] X (B_X11_pass_73   x1 X) := by
  unfold B_X11_pass_73
  refine g_aload_n (q := 0) hC dX11_pass_73 rfl rfl rfl ?_
  refine g_getS (k := 1) hC cf_X11 (at_0 hL) (by decide) rfl (by decide) (by decide) wf_RX11_18 dX11_pass_74 ?_
  refine g_dup hC dX11_pass_77 rfl ?_
  refine g_getI (k := 3) (kz := 3) hC cf_X7 (at_2 hL) (by decide) rfl (by decide) rfl wf_RX11_227 dX11_pass_78 ?_
  refine g_iload_n (q := 1) hC dX11_pass_81 rfl rfl ?_
  refine g_iadd hC dX11_pass_82 ?_
  refine g_putI (k := 3) (kz := 3) hC cf_X7 (at_2 hL) (by decide) rfl (by decide) rfl wf_RX11_227 rfl rfl dX11_pass_83 (fun X3 => ?_)
  refine g_aload_n (q := 0) hC dX11_pass_86 rfl rfl rfl ?_
  refine g_aload_n (q := 0) hC dX11_pass_87 rfl rfl rfl ?_
  refine g_getS (k := 1) hC cf_X11 (at_0 hL) (by decide) rfl (by decide) (by decide) wf_RX11_18 dX11_pass_88 ?_
  refine g_getI (k := 3) (kz := 3) hC cf_X7 (at_2 hL) (by decide) rfl (by decide) rfl wf_RX11_227 dX11_pass_91 ?_
  refine g_callVI (As := [vI (X3 2 3)]) hC mv_X11_answer wml_RX11_200 (k_X11_answer _ V hL (X3 2 3) X3) cf_X11 (at_0 hL) (by decide) ⟨Nat.zero_le _, Nat.zero_le _⟩ rfl rfl ⟨Nat.le_of_ble_eq_true rfl, Nat.le_of_ble_eq_true rfl⟩ (Nat.le_of_ble_eq_true rfl) dX11_pass_94 (fun r4 X5 => ?_)
  exact g_iret hC hR dX11_pass_97
set_option maxRecDepth 20000 in
theorem gL_X11_pass_39 {C : Cx} {V : Ev} {L : List Kd} (hC : Ok C V cX11_pass RX11 3 3 115) (hR : Rt C V L (some .int) rI) (hL : LKc L) : ∀ (n : Nat) (x1 : Int) (x2 : Int) (X : Mem), G C V L 0 0 3 39 [(0, vR V.1 0), (1, vI x1), (2, vI x2)] [] X (L_X11_pass_39   n x1 x2 X) := by
  intro n
  induction n with
  | zero => intro x1 x2 X; exact g_none
  | succ n ih =>
    intro x1 x2 X
    rw [L_X11_pass_39]
    refine g_iload_n (q := 2) hC dX11_pass_39 rfl rfl ?_
    refine g_iload_n (q := 1) hC dX11_pass_40 rfl rfl ?_
    refine g_icmp_ge (tgt := 73) hC dX11_pass_41 (by decide) ?_ ?_
    · refine g_sub [0, 1] rfl ?_
      exact gB_X11_pass_73 hC hR hL  x1 X
    · refine g_aload_n (q := 0) hC dX11_pass_44 rfl rfl rfl ?_
      refine g_getS (k := 8) hC cf_X11 (at_0 hL) (by decide) rfl (by decide) (by decide) wf_RX11_71 dX11_pass_45 ?_
      refine g_aload_n (q := 0) hC dX11_pass_48 rfl rfl rfl ?_
      refine g_getS (k := 1) hC cf_X11 (at_0 hL) (by decide) rfl (by decide) (by decide) wf_RX11_18 dX11_pass_49 ?_
      refine g_getD (k := 0) (kz := 0) hC cf_X7 (at_2 hL) (by decide) rfl (by decide) rfl wf_RX11_58 dX11_pass_52 (g_cm (l := RIV) fun m6 => ?_)
      refine g_aload_n (q := 0) hC dX11_pass_55 rfl rfl rfl ?_
      refine g_getS (k := 1) hC cf_X11 (at_0 hL) (by decide) rfl (by decide) (by decide) wf_RX11_18 dX11_pass_56 ?_
      refine g_getS (k := 2) hC cf_X7 (at_2 hL) (by decide) rfl (by decide) (by decide) wf_RX11_129 dX11_pass_59 ?_
      refine g_iconst (v := vI (-1)) hC dX11_pass_62 rfl ?_
      refine g_iconst (v := vI 0) hC dX11_pass_63 rfl ?_
      refine g_callVV (As := [vR V.1 (X 2 0), vR V.1 18, vI ((-1)), vI 0]) hC mv_X9_passDay wml_RX11_314 (k_X9_passDay _ V hL (X 2 0) 18 ((-1)) 0 X (riv_of hL m6) (at_18 hL)) cf_X9 (at_40 hL) (by decide) ⟨Nat.zero_le _, Nat.zero_le _⟩ rfl rfl ⟨Nat.le_of_ble_eq_true rfl, Nat.le_of_ble_eq_true rfl⟩ (Nat.le_of_ble_eq_true rfl) dX11_pass_64 (fun _ X8 => ?_)
      refine g_iinc (q := 2) hC dX11_pass_67 rfl (by decide) rfl ?_
      refine g_goto (tgt := 39) hC dX11_pass_70 (by decide) ?_
      refine g_sub [1, 2, 0] rfl ?_
      exact ih x1 (x2 + 1) X8
set_option maxRecDepth 20000 in
theorem k_X11_pass (l : Launch) (V : Ev) {L : List Kd} (hL : LKc L) (p1 : Int) (X : Mem)  : Kt l V L yX11_pass (.code yX11_pass cX11_pass 3 (some .int)) 3 115 [vR V.1 0, vI p1] rI X (f_X11_pass p1 X) := by
  refine kt_of (own := RX11) (lv0 := [(0, vR V.1 0), (1, vI p1)]) (by decide) rfl (Nat.le_of_ble_eq_true rfl) rfl (fun C hCl hC hR => ?_)
  subst hCl
  unfold f_X11_pass
  refine g_iload_n (q := 1) hC dX11_pass_0 rfl rfl ?_
  refine g_iconst (v := vI 1) hC dX11_pass_1 rfl ?_
  refine g_icmp_lt (tgt := 11) hC dX11_pass_2 (by decide) ?_ ?_
  · refine g_sub [0] rfl ?_
    exact gB_X11_pass_11 hC hR hL  X
  · refine g_iload_n (q := 1) hC dX11_pass_5 rfl rfl ?_
    refine g_bipush (v := vI 9) hC dX11_pass_6 rfl ?_
    refine g_icmp_le (tgt := 17) hC dX11_pass_8 (by decide) ?_ ?_
    · refine g_aload_n (q := 0) hC dX11_pass_17 rfl rfl rfl ?_
      refine g_getS (k := 1) hC cf_X11 (at_0 hL) (by decide) rfl (by decide) (by decide) wf_RX11_18 dX11_pass_18 ?_
      refine g_getI (k := 3) (kz := 3) hC cf_X7 (at_2 hL) (by decide) rfl (by decide) rfl wf_RX11_227 dX11_pass_21 ?_
      refine g_iload_n (q := 1) hC dX11_pass_24 rfl rfl ?_
      refine g_iadd hC dX11_pass_25 ?_
      refine g_bipush (v := vI 99) hC dX11_pass_26 rfl ?_
      refine g_icmp_le (tgt := 37) hC dX11_pass_28 (by decide) ?_ ?_
      · refine g_iconst (v := vI 0) hC dX11_pass_37 rfl ?_
        refine g_istore_n hC dX11_pass_38 rfl (by decide) rfl ?_
        refine g_sub [1, 2, 0] rfl ?_
        exact gL_X11_pass_39 hC hR hL  KF p1 0 X
      · refine g_aload_n (q := 0) hC dX11_pass_31 rfl rfl rfl ?_
        refine g_iconst (v := vI 4) hC dX11_pass_32 rfl ?_
        refine g_callVI (As := [vI 4]) hC mv_X11_fail wml_RX11_162 (k_X11_fail _ V hL 4 X) cf_X11 (at_0 hL) (by decide) ⟨Nat.zero_le _, Nat.zero_le _⟩ rfl rfl ⟨Nat.le_of_ble_eq_true rfl, Nat.le_of_ble_eq_true rfl⟩ (Nat.le_of_ble_eq_true rfl) dX11_pass_33 (fun r9 X10 => ?_)
        exact g_iret hC hR dX11_pass_36
    · refine g_sub [0] rfl ?_
      exact gB_X11_pass_11 hC hR hL  X
def B_X9_hearPole_56 (x2 : Int) (X : Mem) : Option (Int × Mem) :=
  cl (f_X9_shareOut x2 X) fun r3 X4 =>
  cz r3 (some (r3, X4))
def L_X9_hearPole_10 : Nat → Int → Int → Int → Int → Int → Int → Mem → Option (Int × Mem)
  | 0, _, _, _, _, _, _, _ => none
  | n + 1, x1, x2, x4, x5, x6, x7, X =>
    c2 x7 32 <| if 32 ≤ x7 then
      B_X9_hearPole_56   x2 X
    else
      cl (f_X2_depthAt x1 x6 x4 x7 X) fun r5 X6 =>
      ax 32 x7 <|
      cl (f_X2_likelyRead x1 x5 r5 X6) fun r7 X8 =>
      c1 r7 <|
      ax 32 x7 <| bd (ms X8 41 x7 ((X6 x2 x7) * r7)) fun X9 =>
      L_X9_hearPole_10   n x1 x2 x4 x5 x6 (x7 + 1) X9
def f_X9_hearPole (p1 : Int) (p2 : Int) (p3 : Int) (p4 : Int) (p5 : Int) (X : Mem) : Option (Int × Mem) :=
  cl (f_X2_stageOn p1 p3 X) fun r1 X2 =>
  L_X9_hearPole_10   KF p1 p2 p4 p5 r1 0 X2
set_option maxRecDepth 20000 in
theorem gB_X9_hearPole_56 {C : Cx} {V : Ev} {L : List Kd} (hC : Ok C V cX9_hearPole RX9 9 1 27) (hR : Rt C V L (some .boolean) rI) (hL : LKc L) (x2 : Int) (X : Mem) (g2 : At L x2 (101, [32])) : G C V L 0 0 9 56 [(0, vR V.1 40), (2, vR V.1 x2)] [] X (B_X9_hearPole_56   x2 X) := by
  unfold B_X9_hearPole_56
  refine g_aload_n (q := 0) hC dX9_hearPole_56 rfl rfl rfl ?_
  refine g_aload_n (q := 1) hC dX9_hearPole_57 rfl rfl rfl ?_
  refine g_callVI (As := [vR V.1 x2]) hC mv_X9_shareOut wml_RX9_35 (k_X9_shareOut _ V hL x2 X g2) cf_X9 (at_40 hL) (by decide) ⟨Nat.zero_le _, Nat.zero_le _⟩ rfl rfl ⟨Nat.le_of_ble_eq_true rfl, Nat.le_of_ble_eq_true rfl⟩ (Nat.le_of_ble_eq_true rfl) dX9_hearPole_58 (fun r3 X4 => ?_)
  exact g_zret hC hR dX9_hearPole_61
set_option maxRecDepth 20000 in
theorem gL_X9_hearPole_10 {C : Cx} {V : Ev} {L : List Kd} (hC : Ok C V cX9_hearPole RX9 9 1 27) (hR : Rt C V L (some .boolean) rI) (hL : LKc L) : ∀ (n : Nat) (x1 : Int) (x2 : Int) (x4 : Int) (x5 : Int) (x6 : Int) (x7 : Int) (X : Mem) (g1 : isRiver L x1) (g2 : At L x2 (101, [32])), G C V L 0 0 9 10 [(0, vR V.1 40), (1, vR V.1 x1), (2, vR V.1 x2), (4, vI x4), (5, vI x5), (6, vI x6), (7, vI x7)] [] X (L_X9_hearPole_10   n x1 x2 x4 x5 x6 x7 X) := by
  intro n
  induction n with
  | zero => intro x1 x2 x4 x5 x6 x7 X g1 g2; exact g_none
  | succ n ih =>
    intro x1 x2 x4 x5 x6 x7 X g1 g2
    rw [L_X9_hearPole_10]
    refine g_iload (q := 6) hC dX9_hearPole_10 rfl ?_
    refine g_bipush (v := vI 32) hC dX9_hearPole_12 rfl ?_
    refine g_icmp_ge (tgt := 56) hC dX9_hearPole_14 (by decide) ?_ ?_
    · refine g_sub [0, 2] rfl ?_
      exact gB_X9_hearPole_56 hC hR hL  x2 X g2
    · refine g_aload_n (q := 1) hC dX9_hearPole_17 rfl rfl rfl ?_
      refine g_iload (q := 5) hC dX9_hearPole_18 rfl ?_
      refine g_iload (q := 3) hC dX9_hearPole_20 rfl ?_
      refine g_iload (q := 6) hC dX9_hearPole_22 rfl ?_
      refine g_callVI (As := [vI x6, vI x4, vI x7]) hC mv_X2_depthAt wml_RX9_59 (k_X2_depthAt _ V x1 x6 x4 x7 X g1) cf_X2 (rv_0 g1) (by decide) ⟨Nat.zero_le _, Nat.zero_le _⟩ rfl rfl ⟨Nat.le_of_ble_eq_true rfl, Nat.le_of_ble_eq_true rfl⟩ (Nat.le_of_ble_eq_true rfl) dX9_hearPole_24 (fun r5 X6 => ?_)
      refine g_istore hC dX9_hearPole_27 (by decide) rfl ?_
      refine g_aload_n (q := 1) hC dX9_hearPole_29 rfl rfl rfl ?_
      refine g_getS (k := 0) hC cf_X9 (at_40 hL) (by decide) rfl (by decide) (by decide) wf_RX9_9 dX9_hearPole_30 ?_
      refine g_iload (q := 7) hC dX9_hearPole_33 rfl ?_
      refine g_aload_n (q := 3) hC dX9_hearPole_35 rfl rfl rfl ?_
      refine g_iload (q := 7) hC dX9_hearPole_36 rfl ?_
      refine g_lald hC g2 (by decide) dX9_hearPole_38 ?_
      refine g_aload_n (q := 2) hC dX9_hearPole_39 rfl rfl rfl ?_
      refine g_iload (q := 5) hC dX9_hearPole_40 rfl ?_
      refine g_iload (q := 0) hC dX9_hearPole_42 rfl ?_
      refine g_callVI (As := [vI x5, vI r5]) hC mv_X2_likelyRead wml_RX9_63 (k_X2_likelyRead _ V x1 x5 r5 X6 g1) cf_X2 (rv_0 g1) (by decide) ⟨Nat.zero_le _, Nat.zero_le _⟩ rfl rfl ⟨Nat.le_of_ble_eq_true rfl, Nat.le_of_ble_eq_true rfl⟩ (Nat.le_of_ble_eq_true rfl) dX9_hearPole_44 (fun r7 X8 => ?_)
      refine g_i2l hC dX9_hearPole_47 ?_
      refine g_lmul hC dX9_hearPole_48 ?_
      refine g_last hC (at_41 hL) (by decide) dX9_hearPole_49 (fun X9 => ?_)
      refine g_iinc (q := 7) hC dX9_hearPole_50 rfl (by decide) rfl ?_
      refine g_goto (tgt := 10) hC dX9_hearPole_53 (by decide) ?_
      refine g_sub [2, 3, 4, 5, 6, 7, 0] rfl ?_
      exact ih x1 x2 x4 x5 x6 (x7 + 1) X9 g1 g2
set_option maxRecDepth 20000 in
theorem k_X9_hearPole (l : Launch) (V : Ev) {L : List Kd} (hL : LKc L) (p1 : Int) (p2 : Int) (p3 : Int) (p4 : Int) (p5 : Int) (X : Mem) (h1 : isRiver L p1) (h2 : At L p2 (101, [32])) : Kt l V L yX9_hearPole (.code yX9_hearPole cX9_hearPole 9 (some .boolean)) 1 27 [vR V.1 40, vR V.1 p1, vR V.1 p2, vI p3, vI p4, vI p5] rI X (f_X9_hearPole p1 p2 p3 p4 p5 X) := by
  refine kt_of (own := RX9) (lv0 := [(0, vR V.1 40), (1, vR V.1 p1), (2, vR V.1 p2), (3, vI p3), (4, vI p4), (5, vI p5)]) (by decide) rfl (Nat.le_of_ble_eq_true rfl) rfl (fun C hCl hC hR => ?_)
  subst hCl
  unfold f_X9_hearPole
  refine g_aload_n (q := 1) hC dX9_hearPole_0 rfl rfl rfl ?_
  refine g_iload_n (q := 3) hC dX9_hearPole_1 rfl rfl ?_
  refine g_callVI (As := [vI p3]) hC mv_X2_stageOn wml_RX9_55 (k_X2_stageOn _ V p1 p3 X h1) cf_X2 (rv_0 h1) (by decide) ⟨Nat.zero_le _, Nat.zero_le _⟩ rfl rfl ⟨Nat.le_of_ble_eq_true rfl, Nat.le_of_ble_eq_true rfl⟩ (Nat.le_of_ble_eq_true rfl) dX9_hearPole_2 (fun r1 X2 => ?_)
  refine g_istore hC dX9_hearPole_5 (by decide) rfl ?_
  refine g_iconst (v := vI 0) hC dX9_hearPole_7 rfl ?_
  refine g_istore hC dX9_hearPole_8 (by decide) rfl ?_
  refine g_sub [2, 3, 4, 6, 7, 1, 0] rfl ?_
  exact gL_X9_hearPole_10 hC hR hL  KF p1 p2 p4 p5 r1 0 X2 h1 h2
def B_X11_sound_20  (X : Mem) : Option (Int × Mem) :=
  cl (f_X11_refuse 1 X) fun r3 X4 =>
  cz r3 (some (r3, X4))
def f_X11_sound (p1 : Int) (p2 : Int) (X : Mem) : Option (Int × Mem) :=
  cl (f_X11_isCell p1 X) fun r1 X2 =>
  c1 r1 <| if r1 = 0 then
    B_X11_sound_20   X2
  else
    c2 p2 ((-9)) <| if p2 < ((-9)) then
      B_X11_sound_20   X2
    else
      c2 p2 30 <| if p2 ≤ 30 then
        cm RIV (X2 2 0) <|
        cl (f_X9_hearPole (X2 2 0) 18 (X2 2 3) p1 p2 X2) fun r6 X7 =>
        c1 r6 <| if r6 = 0 then
          cl (f_X11_refuse 7 X7) fun r8 X9 =>
          cz r8 (some (r8, X9))
        else
          cl (f_X11_agree X7) fun r10 X11 =>
          cz r10 (some (r10, X11))
      else
        B_X11_sound_20   X2
set_option maxRecDepth 20000 in
theorem gB_X11_sound_20 {C : Cx} {V : Ev} {L : List Kd} (hC : Ok C V cX11_sound RX11 4 2 55) (hR : Rt C V L (some .boolean) rI) (hL : LKc L)  (X : Mem)  : G C V L 0 0 4 20 [(0, vR V.1 0)] [] X (B_X11_sound_20    X) := by
  unfold B_X11_sound_20
  refine g_aload_n (q := 0) hC dX11_sound_20 rfl rfl rfl ?_
  refine g_iconst (v := vI 1) hC dX11_sound_21 rfl ?_
  refine g_callVI (As := [vI 1]) hC mv_X11_refuse wml_RX11_140 (k_X11_refuse _ V hL 1 X) cf_X11 (at_0 hL) (by decide) ⟨Nat.zero_le _, Nat.zero_le _⟩ rfl rfl ⟨Nat.le_of_ble_eq_true rfl, Nat.le_of_ble_eq_true rfl⟩ (Nat.le_of_ble_eq_true rfl) dX11_sound_22 (fun r3 X4 => ?_)
  exact g_zret hC hR dX11_sound_25
set_option maxRecDepth 20000 in
theorem k_X11_sound (l : Launch) (V : Ev) {L : List Kd} (hL : LKc L) (p1 : Int) (p2 : Int) (X : Mem)  : Kt l V L yX11_sound (.code yX11_sound cX11_sound 4 (some .boolean)) 2 55 [vR V.1 0, vI p1, vI p2] rI X (f_X11_sound p1 p2 X) := by
  refine kt_of (own := RX11) (lv0 := [(0, vR V.1 0), (1, vI p1), (2, vI p2)]) (by decide) rfl (Nat.le_of_ble_eq_true rfl) rfl (fun C hCl hC hR => ?_)
  subst hCl
  unfold f_X11_sound
  refine g_aload_n (q := 0) hC dX11_sound_0 rfl rfl rfl ?_
  refine g_iload_n (q := 1) hC dX11_sound_1 rfl rfl ?_
  refine g_callVI (As := [vI p1]) hC mv_X11_isCell wml_RX11_278 (k_X11_isCell _ V hL p1 X) cf_X11 (at_0 hL) (by decide) ⟨Nat.zero_le _, Nat.zero_le _⟩ rfl rfl ⟨Nat.le_of_ble_eq_true rfl, Nat.le_of_ble_eq_true rfl⟩ (Nat.le_of_ble_eq_true rfl) dX11_sound_2 (fun r1 X2 => ?_)
  refine g_if_eq (tgt := 20) hC dX11_sound_5 (by decide) ?_ ?_
  · refine g_sub [0] rfl ?_
    exact gB_X11_sound_20 hC hR hL  X2
  · refine g_iload_n (q := 2) hC dX11_sound_8 rfl rfl ?_
    refine g_bipush (v := vI (-9)) hC dX11_sound_9 rfl ?_
    refine g_icmp_lt (tgt := 20) hC dX11_sound_11 (by decide) ?_ ?_
    · refine g_sub [0] rfl ?_
      exact gB_X11_sound_20 hC hR hL  X2
    · refine g_iload_n (q := 2) hC dX11_sound_14 rfl rfl ?_
      refine g_bipush (v := vI 30) hC dX11_sound_15 rfl ?_
      refine g_icmp_le (tgt := 26) hC dX11_sound_17 (by decide) ?_ ?_
      · refine g_aload_n (q := 0) hC dX11_sound_26 rfl rfl rfl ?_
        refine g_getS (k := 8) hC cf_X11 (at_0 hL) (by decide) rfl (by decide) (by decide) wf_RX11_71 dX11_sound_27 ?_
        refine g_aload_n (q := 0) hC dX11_sound_30 rfl rfl rfl ?_
        refine g_getS (k := 1) hC cf_X11 (at_0 hL) (by decide) rfl (by decide) (by decide) wf_RX11_18 dX11_sound_31 ?_
        refine g_getD (k := 0) (kz := 0) hC cf_X7 (at_2 hL) (by decide) rfl (by decide) rfl wf_RX11_58 dX11_sound_34 (g_cm (l := RIV) fun m5 => ?_)
        refine g_aload_n (q := 0) hC dX11_sound_37 rfl rfl rfl ?_
        refine g_getS (k := 1) hC cf_X11 (at_0 hL) (by decide) rfl (by decide) (by decide) wf_RX11_18 dX11_sound_38 ?_
        refine g_getS (k := 2) hC cf_X7 (at_2 hL) (by decide) rfl (by decide) (by decide) wf_RX11_129 dX11_sound_41 ?_
        refine g_aload_n (q := 0) hC dX11_sound_44 rfl rfl rfl ?_
        refine g_getS (k := 1) hC cf_X11 (at_0 hL) (by decide) rfl (by decide) (by decide) wf_RX11_18 dX11_sound_45 ?_
        refine g_getI (k := 3) (kz := 3) hC cf_X7 (at_2 hL) (by decide) rfl (by decide) rfl wf_RX11_227 dX11_sound_48 ?_
        refine g_iload_n (q := 1) hC dX11_sound_51 rfl rfl ?_
        refine g_iload_n (q := 2) hC dX11_sound_52 rfl rfl ?_
        refine g_callVI (As := [vR V.1 (X2 2 0), vR V.1 18, vI (X2 2 3), vI p1, vI p2]) hC mv_X9_hearPole wml_RX11_318 (k_X9_hearPole _ V hL (X2 2 0) 18 (X2 2 3) p1 p2 X2 (riv_of hL m5) (at_18 hL)) cf_X9 (at_40 hL) (by decide) ⟨Nat.zero_le _, Nat.zero_le _⟩ rfl rfl ⟨Nat.le_of_ble_eq_true rfl, Nat.le_of_ble_eq_true rfl⟩ (Nat.le_of_ble_eq_true rfl) dX11_sound_53 (fun r6 X7 => ?_)
        refine g_istore_n hC dX11_sound_56 rfl (by decide) rfl ?_
        refine g_iload_n (q := 0) hC dX11_sound_57 rfl rfl ?_
        refine g_if_eq (tgt := 68) hC dX11_sound_58 (by decide) ?_ ?_
        · refine g_aload_n (q := 1) hC dX11_sound_68 rfl rfl rfl ?_
          refine g_bipush (v := vI 7) hC dX11_sound_69 rfl ?_
          refine g_callVI (As := [vI 7]) hC mv_X11_refuse wml_RX11_140 (k_X11_refuse _ V hL 7 X7) cf_X11 (at_0 hL) (by decide) ⟨Nat.zero_le _, Nat.zero_le _⟩ rfl rfl ⟨Nat.le_of_ble_eq_true rfl, Nat.le_of_ble_eq_true rfl⟩ (Nat.le_of_ble_eq_true rfl) dX11_sound_71 (fun r8 X9 => ?_)
          exact g_zret hC hR dX11_sound_74
        · refine g_aload_n (q := 1) hC dX11_sound_61 rfl rfl rfl ?_
          refine g_callVI (As := []) hC mv_X11_agree wml_RX11_147 (k_X11_agree _ V hL X7) cf_X11 (at_0 hL) (by decide) ⟨Nat.zero_le _, Nat.zero_le _⟩ rfl rfl ⟨Nat.le_of_ble_eq_true rfl, Nat.le_of_ble_eq_true rfl⟩ (Nat.le_of_ble_eq_true rfl) dX11_sound_62 (fun r10 X11 => ?_)
          refine g_goto (tgt := 74) hC dX11_sound_65 (by decide) ?_
          exact g_zret hC hR dX11_sound_74
      · refine g_sub [0] rfl ?_
        exact gB_X11_sound_20 hC hR hL  X2
def B_X9_seeWater_82 (x2 : Int) (X : Mem) : Option (Int × Mem) :=
  cl (f_X9_shareOut x2 X) fun r2 X3 =>
  cz r2 (some (r2, X3))
def B_X9_seeWater_73 (go11 : Int → Int → Int → Int → Int → Mem → Option (Int × Mem)) (x1 : Int) (x2 : Int) (x4 : Int) (x5 : Int) (x6 : Int) (s0 : Int) (s1 : Int) (s2 : Int) (X : Mem) : Option (Int × Mem) :=
  c1 s0 <|
  ax 32 s2 <| bd (ms X 41 s2 (s1 * s0)) fun X4 =>
  go11 x1 x2 x4 x5 (x6 + 1) X4
def B_X9_seeWater_40 (go11 : Int → Int → Int → Int → Int → Mem → Option (Int × Mem)) (x1 : Int) (x2 : Int) (x4 : Int) (x5 : Int) (x6 : Int) (s0 : Int) (X : Mem) : Option (Int × Mem) :=
  ax 32 x6 <|
  c2 s0 x4 <| if ¬ s0 = x4 then
    B_X9_seeWater_73  go11 x1 x2 x4 x5 x6 (16 - (X x1 10)) (X x2 x6) x6 X
  else
    B_X9_seeWater_73  go11 x1 x2 x4 x5 x6 (X x1 10) (X x2 x6) x6 X
def B_X9_seeWater_39 (go11 : Int → Int → Int → Int → Int → Mem → Option (Int × Mem)) (x1 : Int) (x2 : Int) (x4 : Int) (x5 : Int) (x6 : Int) (X : Mem) : Option (Int × Mem) :=
  B_X9_seeWater_40  go11 x1 x2 x4 x5 x6 0 X
def L_X9_seeWater_11 : Nat → Int → Int → Int → Int → Int → Mem → Option (Int × Mem)
  | 0, _, _, _, _, _, _ => none
  | n + 1, x1, x2, x4, x5, x6, X =>
    c2 x6 32 <| if 32 ≤ x6 then
      B_X9_seeWater_82   x2 X
    else
      c2 x5 ((-1)) <| if x5 = ((-1)) then
        B_X9_seeWater_39  (fun x1 x2 x4 x5 x6 X => L_X9_seeWater_11   n x1 x2 x4 x5 x6 X) x1 x2 x4 x5 x6 X
      else
        c2 (ia (ishr x6 x5) 1) 1 <| if ¬ (ia (ishr x6 x5) 1) = 1 then
          B_X9_seeWater_39  (fun x1 x2 x4 x5 x6 X => L_X9_seeWater_11   n x1 x2 x4 x5 x6 X) x1 x2 x4 x5 x6 X
        else
          B_X9_seeWater_40  (fun x1 x2 x4 x5 x6 X => L_X9_seeWater_11   n x1 x2 x4 x5 x6 X) x1 x2 x4 x5 x6 1 X
def f_X9_seeWater (p1 : Int) (p2 : Int) (p3 : Int) (p4 : Int) (X : Mem) : Option (Int × Mem) :=
  ax 60 p3 <|
  bd (X (p1 + 2) p3) fun v1 =>
  L_X9_seeWater_11   KF p1 p2 p4 v1 0 X
set_option maxRecDepth 20000 in
theorem gB_X9_seeWater_82 {C : Cx} {V : Ev} {L : List Kd} (hC : Ok C V cX9_seeWater RX9 8 1 27) (hR : Rt C V L (some .boolean) rI) (hL : LKc L) (x2 : Int) (X : Mem) (g2 : At L x2 (101, [32])) : G C V L 0 0 8 82 [(0, vR V.1 40), (2, vR V.1 x2)] [] X (B_X9_seeWater_82   x2 X) := by
  unfold B_X9_seeWater_82
  refine g_aload_n (q := 0) hC dX9_seeWater_82 rfl rfl rfl ?_
  refine g_aload_n (q := 1) hC dX9_seeWater_83 rfl rfl rfl ?_
  refine g_callVI (As := [vR V.1 x2]) hC mv_X9_shareOut wml_RX9_35 (k_X9_shareOut _ V hL x2 X g2) cf_X9 (at_40 hL) (by decide) ⟨Nat.zero_le _, Nat.zero_le _⟩ rfl rfl ⟨Nat.le_of_ble_eq_true rfl, Nat.le_of_ble_eq_true rfl⟩ (Nat.le_of_ble_eq_true rfl) dX9_seeWater_84 (fun r2 X3 => ?_)
  exact g_zret hC hR dX9_seeWater_87
set_option maxRecDepth 20000 in
theorem gB_X9_seeWater_73 {C : Cx} {V : Ev} {L : List Kd} (hC : Ok C V cX9_seeWater RX9 8 1 27) (hR : Rt C V L (some .boolean) rI) (hL : LKc L) {go11 : Int → Int → Int → Int → Int → Mem → Option (Int × Mem)} (hgo11 : ∀ (x1 : Int) (x2 : Int) (x4 : Int) (x5 : Int) (x6 : Int) (X : Mem), isRiver L x1 → At L x2 (101, [32]) → G C V L 0 0 8 11 [(0, vR V.1 40), (1, vR V.1 x1), (2, vR V.1 x2), (4, vI x4), (5, vI x5), (6, vI x6)] [] X (go11 x1 x2 x4 x5 x6 X)) (x1 : Int) (x2 : Int) (x4 : Int) (x5 : Int) (x6 : Int) (s0 : Int) (s1 : Int) (s2 : Int) (X : Mem) (g1 : isRiver L x1) (g2 : At L x2 (101, [32])) : G C V L 0 0 8 73 [(0, vR V.1 40), (1, vR V.1 x1), (2, vR V.1 x2), (4, vI x4), (5, vI x5), (6, vI x6)] [vI s0, vJ s1, vI s2, vR V.1 41] X (B_X9_seeWater_73  go11 x1 x2 x4 x5 x6 s0 s1 s2 X) := by
  unfold B_X9_seeWater_73
  refine g_i2l hC dX9_seeWater_73 ?_
  refine g_lmul hC dX9_seeWater_74 ?_
  refine g_last hC (at_41 hL) (by decide) dX9_seeWater_75 (fun X4 => ?_)
  refine g_iinc (q := 5) hC dX9_seeWater_76 rfl (by decide) rfl ?_
  refine g_goto (tgt := 11) hC dX9_seeWater_79 (by decide) ?_
  refine g_sub [1, 2, 3, 4, 5, 0] rfl ?_
  exact hgo11 x1 x2 x4 x5 (x6 + 1) X4 g1 g2
set_option maxRecDepth 20000 in
theorem gB_X9_seeWater_40 {C : Cx} {V : Ev} {L : List Kd} (hC : Ok C V cX9_seeWater RX9 8 1 27) (hR : Rt C V L (some .boolean) rI) (hL : LKc L) {go11 : Int → Int → Int → Int → Int → Mem → Option (Int × Mem)} (hgo11 : ∀ (x1 : Int) (x2 : Int) (x4 : Int) (x5 : Int) (x6 : Int) (X : Mem), isRiver L x1 → At L x2 (101, [32]) → G C V L 0 0 8 11 [(0, vR V.1 40), (1, vR V.1 x1), (2, vR V.1 x2), (4, vI x4), (5, vI x5), (6, vI x6)] [] X (go11 x1 x2 x4 x5 x6 X)) (x1 : Int) (x2 : Int) (x4 : Int) (x5 : Int) (x6 : Int) (s0 : Int) (X : Mem) (g1 : isRiver L x1) (g2 : At L x2 (101, [32])) : G C V L 0 0 8 40 [(0, vR V.1 40), (1, vR V.1 x1), (2, vR V.1 x2), (4, vI x4), (5, vI x5), (6, vI x6)] [vI s0] X (B_X9_seeWater_40  go11 x1 x2 x4 x5 x6 s0 X) := by
  unfold B_X9_seeWater_40
  refine g_istore hC dX9_seeWater_40 (by decide) rfl ?_
  refine g_aload_n (q := 1) hC dX9_seeWater_42 rfl rfl rfl ?_
  refine g_getS (k := 0) hC cf_X9 (at_40 hL) (by decide) rfl (by decide) (by decide) wf_RX9_9 dX9_seeWater_43 ?_
  refine g_iload (q := 6) hC dX9_seeWater_46 rfl ?_
  refine g_aload_n (q := 3) hC dX9_seeWater_48 rfl rfl rfl ?_
  refine g_iload (q := 6) hC dX9_seeWater_49 rfl ?_
  refine g_lald hC g2 (by decide) dX9_seeWater_51 ?_
  refine g_iload (q := 0) hC dX9_seeWater_52 rfl ?_
  refine g_iload (q := 4) hC dX9_seeWater_54 rfl ?_
  refine g_icmp_ne (tgt := 66) hC dX9_seeWater_56 (by decide) ?_ ?_
  · refine g_bipush (v := vI 16) hC dX9_seeWater_66 rfl ?_
    refine g_aload_n (q := 2) hC dX9_seeWater_68 rfl rfl rfl ?_
    refine g_getI (k := 10) (kz := 10) hC cf_X2 (rv_0 g1) (by decide) rfl (by decide) rfl wf_RX9_69 dX9_seeWater_69 ?_
    refine g_isub hC dX9_seeWater_72 ?_
    refine g_sub [1, 2, 3, 4, 5, 6] rfl ?_
    exact gB_X9_seeWater_73 hC hR hL hgo11 x1 x2 x4 x5 x6 (16 - (X x1 10)) (X x2 x6) x6 X g1 g2
  · refine g_aload_n (q := 2) hC dX9_seeWater_59 rfl rfl rfl ?_
    refine g_getI (k := 10) (kz := 10) hC cf_X2 (rv_0 g1) (by decide) rfl (by decide) rfl wf_RX9_69 dX9_seeWater_60 ?_
    refine g_goto (tgt := 73) hC dX9_seeWater_63 (by decide) ?_
    refine g_sub [1, 2, 3, 4, 5, 6] rfl ?_
    exact gB_X9_seeWater_73 hC hR hL hgo11 x1 x2 x4 x5 x6 (X x1 10) (X x2 x6) x6 X g1 g2
set_option maxRecDepth 20000 in
theorem gB_X9_seeWater_39 {C : Cx} {V : Ev} {L : List Kd} (hC : Ok C V cX9_seeWater RX9 8 1 27) (hR : Rt C V L (some .boolean) rI) (hL : LKc L) {go11 : Int → Int → Int → Int → Int → Mem → Option (Int × Mem)} (hgo11 : ∀ (x1 : Int) (x2 : Int) (x4 : Int) (x5 : Int) (x6 : Int) (X : Mem), isRiver L x1 → At L x2 (101, [32]) → G C V L 0 0 8 11 [(0, vR V.1 40), (1, vR V.1 x1), (2, vR V.1 x2), (4, vI x4), (5, vI x5), (6, vI x6)] [] X (go11 x1 x2 x4 x5 x6 X)) (x1 : Int) (x2 : Int) (x4 : Int) (x5 : Int) (x6 : Int) (X : Mem) (g1 : isRiver L x1) (g2 : At L x2 (101, [32])) : G C V L 0 0 8 39 [(0, vR V.1 40), (1, vR V.1 x1), (2, vR V.1 x2), (4, vI x4), (5, vI x5), (6, vI x6)] [] X (B_X9_seeWater_39  go11 x1 x2 x4 x5 x6 X) := by
  unfold B_X9_seeWater_39
  refine g_iconst (v := vI 0) hC dX9_seeWater_39 rfl ?_
  exact gB_X9_seeWater_40 hC hR hL hgo11 x1 x2 x4 x5 x6 0 X g1 g2
set_option maxRecDepth 20000 in
theorem gL_X9_seeWater_11 {C : Cx} {V : Ev} {L : List Kd} (hC : Ok C V cX9_seeWater RX9 8 1 27) (hR : Rt C V L (some .boolean) rI) (hL : LKc L) : ∀ (n : Nat) (x1 : Int) (x2 : Int) (x4 : Int) (x5 : Int) (x6 : Int) (X : Mem) (g1 : isRiver L x1) (g2 : At L x2 (101, [32])), G C V L 0 0 8 11 [(0, vR V.1 40), (1, vR V.1 x1), (2, vR V.1 x2), (4, vI x4), (5, vI x5), (6, vI x6)] [] X (L_X9_seeWater_11   n x1 x2 x4 x5 x6 X) := by
  intro n
  induction n with
  | zero => intro x1 x2 x4 x5 x6 X g1 g2; exact g_none
  | succ n ih =>
    intro x1 x2 x4 x5 x6 X g1 g2
    rw [L_X9_seeWater_11]
    refine g_iload (q := 5) hC dX9_seeWater_11 rfl ?_
    refine g_bipush (v := vI 32) hC dX9_seeWater_13 rfl ?_
    refine g_icmp_ge (tgt := 82) hC dX9_seeWater_15 (by decide) ?_ ?_
    · refine g_sub [0, 2] rfl ?_
      exact gB_X9_seeWater_82 hC hR hL  x2 X g2
    · refine g_iload (q := 4) hC dX9_seeWater_18 rfl ?_
      refine g_iconst (v := vI (-1)) hC dX9_seeWater_20 rfl ?_
      refine g_icmp_eq (tgt := 39) hC dX9_seeWater_21 (by decide) ?_ ?_
      · exact gB_X9_seeWater_39 hC hR hL ih x1 x2 x4 x5 x6 X g1 g2
      · refine g_iload (q := 5) hC dX9_seeWater_24 rfl ?_
        refine g_iload (q := 4) hC dX9_seeWater_26 rfl ?_
        refine g_ishr hC dX9_seeWater_28 ?_
        refine g_iconst (v := vI 1) hC dX9_seeWater_29 rfl ?_
        refine g_iand hC dX9_seeWater_30 ?_
        refine g_iconst (v := vI 1) hC dX9_seeWater_31 rfl ?_
        refine g_icmp_ne (tgt := 39) hC dX9_seeWater_32 (by decide) ?_ ?_
        · exact gB_X9_seeWater_39 hC hR hL ih x1 x2 x4 x5 x6 X g1 g2
        · refine g_iconst (v := vI 1) hC dX9_seeWater_35 rfl ?_
          refine g_goto (tgt := 40) hC dX9_seeWater_36 (by decide) ?_
          exact gB_X9_seeWater_40 hC hR hL ih x1 x2 x4 x5 x6 1 X g1 g2
set_option maxRecDepth 20000 in
theorem k_X9_seeWater (l : Launch) (V : Ev) {L : List Kd} (hL : LKc L) (p1 : Int) (p2 : Int) (p3 : Int) (p4 : Int) (X : Mem) (h1 : isRiver L p1) (h2 : At L p2 (101, [32])) : Kt l V L yX9_seeWater (.code yX9_seeWater cX9_seeWater 8 (some .boolean)) 1 27 [vR V.1 40, vR V.1 p1, vR V.1 p2, vI p3, vI p4] rI X (f_X9_seeWater p1 p2 p3 p4 X) := by
  refine kt_of (own := RX9) (lv0 := [(0, vR V.1 40), (1, vR V.1 p1), (2, vR V.1 p2), (3, vI p3), (4, vI p4)]) (by decide) rfl (Nat.le_of_ble_eq_true rfl) rfl (fun C hCl hC hR => ?_)
  subst hCl
  unfold f_X9_seeWater
  refine g_aload_n (q := 1) hC dX9_seeWater_0 rfl rfl rfl ?_
  refine g_getS (k := 12) hC cf_X2 (rv_0 h1) (by decide) rfl (add_nn (rv_0 h1)) (by decide) wf_RX9_66 dX9_seeWater_1 ?_
  refine g_iload_n (q := 3) hC dX9_seeWater_4 rfl rfl ?_
  refine g_iald hC (rv_2 h1) (by decide) dX9_seeWater_5 ?_
  refine g_topI (fun v1 => ?_)
  refine g_istore hC dX9_seeWater_6 (by decide) rfl ?_
  refine g_iconst (v := vI 0) hC dX9_seeWater_8 rfl ?_
  refine g_istore hC dX9_seeWater_9 (by decide) rfl ?_
  refine g_sub [2, 3, 4, 6, 1, 0] rfl ?_
  exact gL_X9_seeWater_11 hC hR hL  KF p1 p2 p4 v1 0 X h1 h2
def f_X11_colour (p1 : Int) (p2 : Int) (X : Mem) : Option (Int × Mem) :=
  cl (f_X11_isCell p1 X) fun r1 X2 =>
  c1 r1 <| if ¬ r1 = 0 then
    cm RIV (X2 2 0) <|
    cl (f_X9_seeWater (X2 2 0) 18 p1 p2 X2) fun r4 X5 =>
    c1 r4 <| if r4 = 0 then
      cl (f_X11_refuse 7 X5) fun r6 X7 =>
      cz r6 (some (r6, X7))
    else
      cl (f_X11_agree X5) fun r8 X9 =>
      cz r8 (some (r8, X9))
  else
    cl (f_X11_refuse 1 X2) fun r10 X11 =>
    cz r10 (some (r10, X11))
set_option maxRecDepth 20000 in
theorem k_X11_colour (l : Launch) (V : Ev) {L : List Kd} (hL : LKc L) (p1 : Int) (p2 : Int) (X : Mem)  : Kt l V L yX11_colour (.code yX11_colour cX11_colour 3 (some .boolean)) 2 54 [vR V.1 0, vI p1, vI p2] rI X (f_X11_colour p1 p2 X) := by
  refine kt_of (own := RX11) (lv0 := [(0, vR V.1 0), (1, vI p1), (2, vI p2)]) (by decide) rfl (Nat.le_of_ble_eq_true rfl) rfl (fun C hCl hC hR => ?_)
  subst hCl
  unfold f_X11_colour
  refine g_aload_n (q := 0) hC dX11_colour_0 rfl rfl rfl ?_
  refine g_iload_n (q := 1) hC dX11_colour_1 rfl rfl ?_
  refine g_callVI (As := [vI p1]) hC mv_X11_isCell wml_RX11_278 (k_X11_isCell _ V hL p1 X) cf_X11 (at_0 hL) (by decide) ⟨Nat.zero_le _, Nat.zero_le _⟩ rfl rfl ⟨Nat.le_of_ble_eq_true rfl, Nat.le_of_ble_eq_true rfl⟩ (Nat.le_of_ble_eq_true rfl) dX11_colour_2 (fun r1 X2 => ?_)
  refine g_if_ne (tgt := 14) hC dX11_colour_5 (by decide) ?_ ?_
  · refine g_aload_n (q := 0) hC dX11_colour_14 rfl rfl rfl ?_
    refine g_getS (k := 8) hC cf_X11 (at_0 hL) (by decide) rfl (by decide) (by decide) wf_RX11_71 dX11_colour_15 ?_
    refine g_aload_n (q := 0) hC dX11_colour_18 rfl rfl rfl ?_
    refine g_getS (k := 1) hC cf_X11 (at_0 hL) (by decide) rfl (by decide) (by decide) wf_RX11_18 dX11_colour_19 ?_
    refine g_getD (k := 0) (kz := 0) hC cf_X7 (at_2 hL) (by decide) rfl (by decide) rfl wf_RX11_58 dX11_colour_22 (g_cm (l := RIV) fun m3 => ?_)
    refine g_aload_n (q := 0) hC dX11_colour_25 rfl rfl rfl ?_
    refine g_getS (k := 1) hC cf_X11 (at_0 hL) (by decide) rfl (by decide) (by decide) wf_RX11_18 dX11_colour_26 ?_
    refine g_getS (k := 2) hC cf_X7 (at_2 hL) (by decide) rfl (by decide) (by decide) wf_RX11_129 dX11_colour_29 ?_
    refine g_iload_n (q := 1) hC dX11_colour_32 rfl rfl ?_
    refine g_iload_n (q := 2) hC dX11_colour_33 rfl rfl ?_
    refine g_callVI (As := [vR V.1 (X2 2 0), vR V.1 18, vI p1, vI p2]) hC mv_X9_seeWater wml_RX11_322 (k_X9_seeWater _ V hL (X2 2 0) 18 p1 p2 X2 (riv_of hL m3) (at_18 hL)) cf_X9 (at_40 hL) (by decide) ⟨Nat.zero_le _, Nat.zero_le _⟩ rfl rfl ⟨Nat.le_of_ble_eq_true rfl, Nat.le_of_ble_eq_true rfl⟩ (Nat.le_of_ble_eq_true rfl) dX11_colour_34 (fun r4 X5 => ?_)
    refine g_if_eq (tgt := 47) hC dX11_colour_37 (by decide) ?_ ?_
    · refine g_aload_n (q := 0) hC dX11_colour_47 rfl rfl rfl ?_
      refine g_bipush (v := vI 7) hC dX11_colour_48 rfl ?_
      refine g_callVI (As := [vI 7]) hC mv_X11_refuse wml_RX11_140 (k_X11_refuse _ V hL 7 X5) cf_X11 (at_0 hL) (by decide) ⟨Nat.zero_le _, Nat.zero_le _⟩ rfl rfl ⟨Nat.le_of_ble_eq_true rfl, Nat.le_of_ble_eq_true rfl⟩ (Nat.le_of_ble_eq_true rfl) dX11_colour_50 (fun r6 X7 => ?_)
      exact g_zret hC hR dX11_colour_53
    · refine g_aload_n (q := 0) hC dX11_colour_40 rfl rfl rfl ?_
      refine g_callVI (As := []) hC mv_X11_agree wml_RX11_147 (k_X11_agree _ V hL X5) cf_X11 (at_0 hL) (by decide) ⟨Nat.zero_le _, Nat.zero_le _⟩ rfl rfl ⟨Nat.le_of_ble_eq_true rfl, Nat.le_of_ble_eq_true rfl⟩ (Nat.le_of_ble_eq_true rfl) dX11_colour_41 (fun r8 X9 => ?_)
      refine g_goto (tgt := 53) hC dX11_colour_44 (by decide) ?_
      exact g_zret hC hR dX11_colour_53
  · refine g_aload_n (q := 0) hC dX11_colour_8 rfl rfl rfl ?_
    refine g_iconst (v := vI 1) hC dX11_colour_9 rfl ?_
    refine g_callVI (As := [vI 1]) hC mv_X11_refuse wml_RX11_140 (k_X11_refuse _ V hL 1 X2) cf_X11 (at_0 hL) (by decide) ⟨Nat.zero_le _, Nat.zero_le _⟩ rfl rfl ⟨Nat.le_of_ble_eq_true rfl, Nat.le_of_ble_eq_true rfl⟩ (Nat.le_of_ble_eq_true rfl) dX11_colour_10 (fun r10 X11 => ?_)
    exact g_zret hC hR dX11_colour_13
def B_X11_off_18  (X : Mem) : Option (Int × Mem) :=
  cl (f_X11_refuse 1 X) fun r1 X2 =>
  cz r1 (some (r1, X2))
def f_X11_off (p1 : Int) (X : Mem) : Option (Int × Mem) :=
  c1 p1 <| if p1 < 0 then
    B_X11_off_18   X
  else
    cm RIV (X 2 0) <|
    c2 p1 (X (X 2 0) 4) <| if p1 ≤ (X (X 2 0) 4) then
      bd (ms X 2 4 p1) fun X4 =>
      cl (f_X11_agree X4) fun r5 X6 =>
      cz r5 (some (r5, X6))
    else
      B_X11_off_18   X
set_option maxRecDepth 20000 in
theorem gB_X11_off_18 {C : Cx} {V : Ev} {L : List Kd} (hC : Ok C V cX11_off RX11 2 1 21) (hR : Rt C V L (some .boolean) rI) (hL : LKc L)  (X : Mem)  : G C V L 0 0 2 18 [(0, vR V.1 0)] [] X (B_X11_off_18    X) := by
  unfold B_X11_off_18
  refine g_aload_n (q := 0) hC dX11_off_18 rfl rfl rfl ?_
  refine g_iconst (v := vI 1) hC dX11_off_19 rfl ?_
  refine g_callVI (As := [vI 1]) hC mv_X11_refuse wml_RX11_140 (k_X11_refuse _ V hL 1 X) cf_X11 (at_0 hL) (by decide) ⟨Nat.zero_le _, Nat.zero_le _⟩ rfl rfl ⟨Nat.le_of_ble_eq_true rfl, Nat.le_of_ble_eq_true rfl⟩ (Nat.le_of_ble_eq_true rfl) dX11_off_20 (fun r1 X2 => ?_)
  exact g_zret hC hR dX11_off_23
set_option maxRecDepth 20000 in
theorem k_X11_off (l : Launch) (V : Ev) {L : List Kd} (hL : LKc L) (p1 : Int) (X : Mem)  : Kt l V L yX11_off (.code yX11_off cX11_off 2 (some .boolean)) 1 21 [vR V.1 0, vI p1] rI X (f_X11_off p1 X) := by
  refine kt_of (own := RX11) (lv0 := [(0, vR V.1 0), (1, vI p1)]) (by decide) rfl (Nat.le_of_ble_eq_true rfl) rfl (fun C hCl hC hR => ?_)
  subst hCl
  unfold f_X11_off
  refine g_iload_n (q := 1) hC dX11_off_0 rfl rfl ?_
  refine g_if_lt (tgt := 18) hC dX11_off_1 (by decide) ?_ ?_
  · refine g_sub [0] rfl ?_
    exact gB_X11_off_18 hC hR hL  X
  · refine g_iload_n (q := 1) hC dX11_off_4 rfl rfl ?_
    refine g_aload_n (q := 0) hC dX11_off_5 rfl rfl rfl ?_
    refine g_getS (k := 1) hC cf_X11 (at_0 hL) (by decide) rfl (by decide) (by decide) wf_RX11_18 dX11_off_6 ?_
    refine g_getD (k := 0) (kz := 0) hC cf_X7 (at_2 hL) (by decide) rfl (by decide) rfl wf_RX11_58 dX11_off_9 (g_cm (l := RIV) fun m3 => ?_)
    refine g_getI (k := 4) (kz := 4) hC cf_X2 (rv_0 (riv_of hL m3)) (by decide) rfl (by decide) rfl wf_RX11_236 dX11_off_12 ?_
    refine g_icmp_le (tgt := 24) hC dX11_off_15 (by decide) ?_ ?_
    · refine g_aload_n (q := 0) hC dX11_off_24 rfl rfl rfl ?_
      refine g_getS (k := 1) hC cf_X11 (at_0 hL) (by decide) rfl (by decide) (by decide) wf_RX11_18 dX11_off_25 ?_
      refine g_iload_n (q := 1) hC dX11_off_28 rfl rfl ?_
      refine g_putI (k := 4) (kz := 4) hC cf_X7 (at_2 hL) (by decide) rfl (by decide) rfl wf_RX11_230 rfl rfl dX11_off_29 (fun X4 => ?_)
      refine g_aload_n (q := 0) hC dX11_off_32 rfl rfl rfl ?_
      refine g_callVI (As := []) hC mv_X11_agree wml_RX11_147 (k_X11_agree _ V hL X4) cf_X11 (at_0 hL) (by decide) ⟨Nat.zero_le _, Nat.zero_le _⟩ rfl rfl ⟨Nat.le_of_ble_eq_true rfl, Nat.le_of_ble_eq_true rfl⟩ (Nat.le_of_ble_eq_true rfl) dX11_off_33 (fun r5 X6 => ?_)
      exact g_zret hC hR dX11_off_36
    · refine g_sub [0] rfl ?_
      exact gB_X11_off_18 hC hR hL  X
def f_X11_forget  (X : Mem) : Option (Int × Mem) :=
  cl (f_X11_startAfresh X) fun _ X2 =>
  cl (f_X11_agree X2) fun r3 X4 =>
  cz r3 (some (r3, X4))
set_option maxRecDepth 20000 in
theorem k_X11_forget (l : Launch) (V : Ev) {L : List Kd} (hL : LKc L)  (X : Mem)  : Kt l V L yX11_forget (.code yX11_forget cX11_forget 1 (some .boolean)) 3 72 [vR V.1 0] rI X (f_X11_forget  X) := by
  refine kt_of (own := RX11) (lv0 := [(0, vR V.1 0)]) (by decide) rfl (Nat.le_of_ble_eq_true rfl) rfl (fun C hCl hC hR => ?_)
  subst hCl
  unfold f_X11_forget
  refine g_aload_n (q := 0) hC dX11_forget_0 rfl rfl rfl ?_
  refine g_callVV (As := []) hC mv_X11_startAfresh wml_RX11_193 (k_X11_startAfresh _ V hL X) cf_X11 (at_0 hL) (by decide) ⟨Nat.zero_le _, Nat.zero_le _⟩ rfl rfl ⟨Nat.le_of_ble_eq_true rfl, Nat.le_of_ble_eq_true rfl⟩ (Nat.le_of_ble_eq_true rfl) dX11_forget_1 (fun _ X2 => ?_)
  refine g_aload_n (q := 0) hC dX11_forget_4 rfl rfl rfl ?_
  refine g_callVI (As := []) hC mv_X11_agree wml_RX11_147 (k_X11_agree _ V hL X2) cf_X11 (at_0 hL) (by decide) ⟨Nat.zero_le _, Nat.zero_le _⟩ rfl rfl ⟨Nat.le_of_ble_eq_true rfl, Nat.le_of_ble_eq_true rfl⟩ (Nat.le_of_ble_eq_true rfl) dX11_forget_5 (fun r3 X4 => ?_)
  exact g_zret hC hR dX11_forget_8
def f_X11_wayStatus (p1 : Int) (p2 : Int) (p3 : Int) (X : Mem) : Option (Int × Mem) :=
  cl (f_X11_isTray p1 X) fun r1 X2 =>
  c1 r1 <| if r1 = 0 then
    some (1, X2)
  else
    c2 p2 1 <| if p2 < 1 then
      some (1, X2)
    else
      c2 p2 40 <| if 40 < p2 then
        some (1, X2)
      else
        cl (f_X11_isSet p3 X2) fun r3 X4 =>
        c1 r3 <| if ¬ r3 = 0 then
          ax TRA.length p1 <| cm TRA (tl TRA p1) <|
          cl (f_X10_isMissing (tl TRA p1) X4) fun r6 X7 =>
          c1 r6 <| if r6 = 0 then
            ax TRA.length p1 <| cm TRA (tl TRA p1) <|
            cl (f_X10_holds (tl TRA p1) 0 p2 X7) fun r9 X10 =>
            c1 r9 <| if ¬ r9 = 0 then
              cm RIV (X10 2 0) <|
              ax TRA.length p1 <| cm TRA (tl TRA p1) <|
              cl (f_X2_isWay (X10 2 0) ((tl TRA p1) + 1) p2 X10) fun r13 X14 =>
              c1 r13 <| if r13 = 0 then
                some (5, X14)
              else
                some (0, X14)
            else
              some (3, X10)
          else
            some (2, X7)
        else
          some (1, X4)
set_option maxRecDepth 20000 in
theorem k_X11_wayStatus (l : Launch) (V : Ev) {L : List Kd} (hL : LKc L) (p1 : Int) (p2 : Int) (p3 : Int) (X : Mem)  : Kt l V L yX11_wayStatus (.code yX11_wayStatus cX11_wayStatus 4 (some .int)) 3 72 [vR V.1 0, vI p1, vI p2, vI p3] rI X (f_X11_wayStatus p1 p2 p3 X) := by
  refine kt_of (own := RX11) (lv0 := [(0, vR V.1 0), (1, vI p1), (2, vI p2), (3, vI p3)]) (by decide) rfl (Nat.le_of_ble_eq_true rfl) rfl (fun C hCl hC hR => ?_)
  subst hCl
  unfold f_X11_wayStatus
  refine g_iload_n (q := 1) hC dX11_wayStatus_0 rfl rfl ?_
  refine g_callSI (As := [vI p1]) hC mt_X11_isTray wml_RX11_136 (k_X11_isTray _ V hL p1 X) ⟨Nat.zero_le _, Nat.zero_le _⟩ rfl rfl ⟨Nat.le_of_ble_eq_true rfl, Nat.le_of_ble_eq_true rfl⟩ (Nat.le_of_ble_eq_true rfl) dX11_wayStatus_1 (fun r1 X2 => ?_)
  refine g_if_eq (tgt := 26) hC dX11_wayStatus_4 (by decide) ?_ ?_
  · refine g_iconst (v := vI 1) hC dX11_wayStatus_26 rfl ?_
    exact g_iret hC hR dX11_wayStatus_27
  · refine g_iload_n (q := 2) hC dX11_wayStatus_7 rfl rfl ?_
    refine g_iconst (v := vI 1) hC dX11_wayStatus_8 rfl ?_
    refine g_icmp_lt (tgt := 26) hC dX11_wayStatus_9 (by decide) ?_ ?_
    · refine g_iconst (v := vI 1) hC dX11_wayStatus_26 rfl ?_
      exact g_iret hC hR dX11_wayStatus_27
    · refine g_iload_n (q := 2) hC dX11_wayStatus_12 rfl rfl ?_
      refine g_bipush (v := vI 40) hC dX11_wayStatus_13 rfl ?_
      refine g_icmp_gt (tgt := 26) hC dX11_wayStatus_15 (by decide) ?_ ?_
      · refine g_iconst (v := vI 1) hC dX11_wayStatus_26 rfl ?_
        exact g_iret hC hR dX11_wayStatus_27
      · refine g_aload_n (q := 0) hC dX11_wayStatus_18 rfl rfl rfl ?_
        refine g_iload_n (q := 3) hC dX11_wayStatus_19 rfl rfl ?_
        refine g_callVI (As := [vI p3]) hC mv_X11_isSet wml_RX11_287 (k_X11_isSet _ V hL p3 X2) cf_X11 (at_0 hL) (by decide) ⟨Nat.zero_le _, Nat.zero_le _⟩ rfl rfl ⟨Nat.le_of_ble_eq_true rfl, Nat.le_of_ble_eq_true rfl⟩ (Nat.le_of_ble_eq_true rfl) dX11_wayStatus_20 (fun r3 X4 => ?_)
        refine g_if_ne (tgt := 28) hC dX11_wayStatus_23 (by decide) ?_ ?_
        · refine g_aload_n (q := 0) hC dX11_wayStatus_28 rfl rfl rfl ?_
          refine g_getS (k := 0) hC cf_X11 (at_0 hL) (by decide) rfl (by decide) (by decide) wf_RX11_11 dX11_wayStatus_29 ?_
          refine g_iload_n (q := 1) hC dX11_wayStatus_32 rfl rfl ?_
          refine g_aldS (t0 := 4) (ts := TRA) hC (at_1 hL) (by decide) rfl (by decide) (by decide) dX11_wayStatus_33 (g_cm (l := TRA) fun m5 => ?_)
          refine g_callVI (As := []) hC mv_X10_isMissing wml_RX11_166 (k_X10_isMissing _ V (tl TRA p1) X4 (tra_of hL m5)) cf_X10 (ty_0 (tra_of hL m5)) (by decide) ⟨Nat.zero_le _, Nat.zero_le _⟩ rfl rfl ⟨Nat.le_of_ble_eq_true rfl, Nat.le_of_ble_eq_true rfl⟩ (Nat.le_of_ble_eq_true rfl) dX11_wayStatus_34 (fun r6 X7 => ?_)
          refine g_if_eq (tgt := 42) hC dX11_wayStatus_37 (by decide) ?_ ?_
          · refine g_aload_n (q := 0) hC dX11_wayStatus_42 rfl rfl rfl ?_
            refine g_getS (k := 0) hC cf_X11 (at_0 hL) (by decide) rfl (by decide) (by decide) wf_RX11_11 dX11_wayStatus_43 ?_
            refine g_iload_n (q := 1) hC dX11_wayStatus_46 rfl rfl ?_
            refine g_aldS (t0 := 4) (ts := TRA) hC (at_1 hL) (by decide) rfl (by decide) (by decide) dX11_wayStatus_47 (g_cm (l := TRA) fun m8 => ?_)
            refine g_iconst (v := vI 0) hC dX11_wayStatus_48 rfl ?_
            refine g_iload_n (q := 2) hC dX11_wayStatus_49 rfl rfl ?_
            refine g_callVI (As := [vI 0, vI p2]) hC mv_X10_holds wml_RX11_172 (k_X10_holds _ V (tl TRA p1) 0 p2 X7 (tra_of hL m8)) cf_X10 (ty_0 (tra_of hL m8)) (by decide) ⟨Nat.zero_le _, Nat.zero_le _⟩ rfl rfl ⟨Nat.le_of_ble_eq_true rfl, Nat.le_of_ble_eq_true rfl⟩ (Nat.le_of_ble_eq_true rfl) dX11_wayStatus_50 (fun r9 X10 => ?_)
            refine g_if_ne (tgt := 58) hC dX11_wayStatus_53 (by decide) ?_ ?_
            · refine g_aload_n (q := 0) hC dX11_wayStatus_58 rfl rfl rfl ?_
              refine g_getS (k := 1) hC cf_X11 (at_0 hL) (by decide) rfl (by decide) (by decide) wf_RX11_18 dX11_wayStatus_59 ?_
              refine g_getD (k := 0) (kz := 0) hC cf_X7 (at_2 hL) (by decide) rfl (by decide) rfl wf_RX11_58 dX11_wayStatus_62 (g_cm (l := RIV) fun m11 => ?_)
              refine g_aload_n (q := 0) hC dX11_wayStatus_65 rfl rfl rfl ?_
              refine g_getS (k := 0) hC cf_X11 (at_0 hL) (by decide) rfl (by decide) (by decide) wf_RX11_11 dX11_wayStatus_66 ?_
              refine g_iload_n (q := 1) hC dX11_wayStatus_69 rfl rfl ?_
              refine g_aldS (t0 := 4) (ts := TRA) hC (at_1 hL) (by decide) rfl (by decide) (by decide) dX11_wayStatus_70 (g_cm (l := TRA) fun m12 => ?_)
              refine g_getS (k := 0) hC cf_X10 (ty_0 (tra_of hL m12)) (by decide) rfl (add_nn (ty_0 (tra_of hL m12))) (by decide) wf_RX11_155 dX11_wayStatus_71 ?_
              refine g_iload_n (q := 2) hC dX11_wayStatus_74 rfl rfl ?_
              refine g_callVI (As := [vR V.1 ((tl TRA p1) + 1), vI p2]) hC mv_X2_isWay wml_RX11_426 (k_X2_isWay _ V (X10 2 0) ((tl TRA p1) + 1) p2 X10 (riv_of hL m11) (ty_1 (tra_of hL m12))) cf_X2 (rv_0 (riv_of hL m11)) (by decide) ⟨Nat.zero_le _, Nat.zero_le _⟩ rfl rfl ⟨Nat.le_of_ble_eq_true rfl, Nat.le_of_ble_eq_true rfl⟩ (Nat.le_of_ble_eq_true rfl) dX11_wayStatus_75 (fun r13 X14 => ?_)
              refine g_if_eq (tgt := 85) hC dX11_wayStatus_78 (by decide) ?_ ?_
              · refine g_iconst (v := vI 5) hC dX11_wayStatus_85 rfl ?_
                exact g_iret hC hR dX11_wayStatus_86
              · refine g_iconst (v := vI 0) hC dX11_wayStatus_81 rfl ?_
                refine g_goto (tgt := 86) hC dX11_wayStatus_82 (by decide) ?_
                exact g_iret hC hR dX11_wayStatus_86
            · refine g_iconst (v := vI 3) hC dX11_wayStatus_56 rfl ?_
              exact g_iret hC hR dX11_wayStatus_57
          · refine g_iconst (v := vI 2) hC dX11_wayStatus_40 rfl ?_
            exact g_iret hC hR dX11_wayStatus_41
        · refine g_iconst (v := vI 1) hC dX11_wayStatus_26 rfl ?_
          exact g_iret hC hR dX11_wayStatus_27
def f_X11_minutes (p1 : Int) (p2 : Int) (X : Mem) : Option (Int × Mem) :=
  cl (f_X11_wayStatus p1 p2 0 X) fun r1 X2 =>
  c1 r1 <| if r1 = 0 then
    cm RIV (X2 2 0) <|
    ax TRA.length p1 <| cm TRA (tl TRA p1) <|
    cl (f_X2_minutesAlong (X2 2 0) ((tl TRA p1) + 1) p2 X2) fun r5 X6 =>
    cl (f_X11_answer r5 X6) fun r7 X8 =>
    some (r7, X8)
  else
    cl (f_X11_fail r1 X2) fun r9 X10 =>
    some (r9, X10)
set_option maxRecDepth 20000 in
theorem k_X11_minutes (l : Launch) (V : Ev) {L : List Kd} (hL : LKc L) (p1 : Int) (p2 : Int) (X : Mem)  : Kt l V L yX11_minutes (.code yX11_minutes cX11_minutes 4 (some .int)) 4 95 [vR V.1 0, vI p1, vI p2] rI X (f_X11_minutes p1 p2 X) := by
  refine kt_of (own := RX11) (lv0 := [(0, vR V.1 0), (1, vI p1), (2, vI p2)]) (by decide) rfl (Nat.le_of_ble_eq_true rfl) rfl (fun C hCl hC hR => ?_)
  subst hCl
  unfold f_X11_minutes
  refine g_aload_n (q := 0) hC dX11_minutes_0 rfl rfl rfl ?_
  refine g_iload_n (q := 1) hC dX11_minutes_1 rfl rfl ?_
  refine g_iload_n (q := 2) hC dX11_minutes_2 rfl rfl ?_
  refine g_iconst (v := vI 0) hC dX11_minutes_3 rfl ?_
  refine g_callVI (As := [vI p1, vI p2, vI 0]) hC mv_X11_wayStatus wml_RX11_326 (k_X11_wayStatus _ V hL p1 p2 0 X) cf_X11 (at_0 hL) (by decide) ⟨Nat.zero_le _, Nat.zero_le _⟩ rfl rfl ⟨Nat.le_of_ble_eq_true rfl, Nat.le_of_ble_eq_true rfl⟩ (Nat.le_of_ble_eq_true rfl) dX11_minutes_4 (fun r1 X2 => ?_)
  refine g_istore_n hC dX11_minutes_7 rfl (by decide) rfl ?_
  refine g_iload_n (q := 0) hC dX11_minutes_8 rfl rfl ?_
  refine g_if_eq (tgt := 18) hC dX11_minutes_9 (by decide) ?_ ?_
  · refine g_aload_n (q := 1) hC dX11_minutes_18 rfl rfl rfl ?_
    refine g_aload_n (q := 1) hC dX11_minutes_19 rfl rfl rfl ?_
    refine g_getS (k := 1) hC cf_X11 (at_0 hL) (by decide) rfl (by decide) (by decide) wf_RX11_18 dX11_minutes_20 ?_
    refine g_getD (k := 0) (kz := 0) hC cf_X7 (at_2 hL) (by decide) rfl (by decide) rfl wf_RX11_58 dX11_minutes_23 (g_cm (l := RIV) fun m3 => ?_)
    refine g_aload_n (q := 1) hC dX11_minutes_26 rfl rfl rfl ?_
    refine g_getS (k := 0) hC cf_X11 (at_0 hL) (by decide) rfl (by decide) (by decide) wf_RX11_11 dX11_minutes_27 ?_
    refine g_iload_n (q := 2) hC dX11_minutes_30 rfl rfl ?_
    refine g_aldS (t0 := 4) (ts := TRA) hC (at_1 hL) (by decide) rfl (by decide) (by decide) dX11_minutes_31 (g_cm (l := TRA) fun m4 => ?_)
    refine g_getS (k := 0) hC cf_X10 (ty_0 (tra_of hL m4)) (by decide) rfl (add_nn (ty_0 (tra_of hL m4))) (by decide) wf_RX11_155 dX11_minutes_32 ?_
    refine g_iload_n (q := 3) hC dX11_minutes_35 rfl rfl ?_
    refine g_callVI (As := [vR V.1 ((tl TRA p1) + 1), vI p2]) hC mv_X2_minutesAlong wml_RX11_329 (k_X2_minutesAlong _ V (X2 2 0) ((tl TRA p1) + 1) p2 X2 (riv_of hL m3) (ty_1 (tra_of hL m4))) cf_X2 (rv_0 (riv_of hL m3)) (by decide) ⟨Nat.zero_le _, Nat.zero_le _⟩ rfl rfl ⟨Nat.le_of_ble_eq_true rfl, Nat.le_of_ble_eq_true rfl⟩ (Nat.le_of_ble_eq_true rfl) dX11_minutes_36 (fun r5 X6 => ?_)
    refine g_callVI (As := [vI r5]) hC mv_X11_answer wml_RX11_200 (k_X11_answer _ V hL r5 X6) cf_X11 (at_0 hL) (by decide) ⟨Nat.zero_le _, Nat.zero_le _⟩ rfl rfl ⟨Nat.le_of_ble_eq_true rfl, Nat.le_of_ble_eq_true rfl⟩ (Nat.le_of_ble_eq_true rfl) dX11_minutes_39 (fun r7 X8 => ?_)
    exact g_iret hC hR dX11_minutes_42
  · refine g_aload_n (q := 1) hC dX11_minutes_12 rfl rfl rfl ?_
    refine g_iload_n (q := 0) hC dX11_minutes_13 rfl rfl ?_
    refine g_callVI (As := [vI r1]) hC mv_X11_fail wml_RX11_162 (k_X11_fail _ V hL r1 X2) cf_X11 (at_0 hL) (by decide) ⟨Nat.zero_le _, Nat.zero_le _⟩ rfl rfl ⟨Nat.le_of_ble_eq_true rfl, Nat.le_of_ble_eq_true rfl⟩ (Nat.le_of_ble_eq_true rfl) dX11_minutes_14 (fun r9 X10 => ?_)
    exact g_iret hC hR dX11_minutes_17
def L_X1_firstStruck_3 : Nat → Int → Int → Int → Int → Mem → Option (Int × Mem)
  | 0, _, _, _, _, _ => none
  | n + 1, x1, x2, x3, x4, X =>
    c2 x4 x2 <| if x2 ≤ x4 then
      some ((-1), X)
    else
      cm RIV (X 42 11) <|
      ax 60 x4 <|
      cl (f_X2_depthAt (X 42 11) (X 42 12) (X x1 x4) x3 X) fun r2 X3 =>
      c2 r2 (X3 42 13) <| if (X3 42 13) ≤ r2 then
        L_X1_firstStruck_3   n x1 x2 x3 (x4 + 1) X3
      else
        some (x4, X3)
def f_X1_firstStruck (p1 : Int) (p2 : Int) (p3 : Int) (X : Mem) : Option (Int × Mem) :=
  L_X1_firstStruck_3   KF p1 p2 p3 0 X
set_option maxRecDepth 20000 in
theorem gL_X1_firstStruck_3 {C : Cx} {V : Ev} {L : List Kd} (hC : Ok C V cX1_firstStruck RX1 5 1 25) (hR : Rt C V L (some .int) rI) (hL : LKc L) : ∀ (n : Nat) (x1 : Int) (x2 : Int) (x3 : Int) (x4 : Int) (X : Mem) (g1 : At L x1 (101, [60])), G C V L 0 0 5 3 [(0, vR V.1 42), (1, vR V.1 x1), (2, vI x2), (3, vI x3), (4, vI x4)] [] X (L_X1_firstStruck_3   n x1 x2 x3 x4 X) := by
  intro n
  induction n with
  | zero => intro x1 x2 x3 x4 X g1; exact g_none
  | succ n ih =>
    intro x1 x2 x3 x4 X g1
    rw [L_X1_firstStruck_3]
    refine g_iload (q := 4) hC dX1_firstStruck_3 rfl ?_
    refine g_iload_n (q := 2) hC dX1_firstStruck_5 rfl rfl ?_
    refine g_icmp_ge (tgt := 42) hC dX1_firstStruck_6 (by decide) ?_ ?_
    · refine g_iconst (v := vI (-1)) hC dX1_firstStruck_42 rfl ?_
      exact g_iret hC hR dX1_firstStruck_43
    · refine g_aload_n (q := 0) hC dX1_firstStruck_9 rfl rfl rfl ?_
      refine g_getD (k := 11) (kz := 11) hC cf_X1 (at_42 hL) (by decide) rfl (by decide) rfl wf_RX1_70 dX1_firstStruck_10 (g_cm (l := RIV) fun m1 => ?_)
      refine g_aload_n (q := 0) hC dX1_firstStruck_13 rfl rfl rfl ?_
      refine g_getI (k := 12) (kz := 12) hC cf_X1 (at_42 hL) (by decide) rfl (by decide) rfl wf_RX1_49 dX1_firstStruck_14 ?_
      refine g_aload_n (q := 1) hC dX1_firstStruck_17 rfl rfl rfl ?_
      refine g_iload (q := 4) hC dX1_firstStruck_18 rfl ?_
      refine g_lald hC g1 (by decide) dX1_firstStruck_20 ?_
      refine g_l2i hC dX1_firstStruck_21 ?_
      refine g_iload_n (q := 3) hC dX1_firstStruck_22 rfl rfl ?_
      refine g_callVI (As := [vI (X 42 12), vI (X x1 x4), vI x3]) hC mv_X2_depthAt wml_RX1_105 (k_X2_depthAt _ V (X 42 11) (X 42 12) (X x1 x4) x3 X (riv_of hL m1)) cf_X2 (rv_0 (riv_of hL m1)) (by decide) ⟨Nat.zero_le _, Nat.zero_le _⟩ rfl rfl ⟨Nat.le_of_ble_eq_true rfl, Nat.le_of_ble_eq_true rfl⟩ (Nat.le_of_ble_eq_true rfl) dX1_firstStruck_23 (fun r2 X3 => ?_)
      refine g_aload_n (q := 0) hC dX1_firstStruck_26 rfl rfl rfl ?_
      refine g_getI (k := 13) (kz := 13) hC cf_X1 (at_42 hL) (by decide) rfl (by decide) rfl wf_RX1_52 dX1_firstStruck_27 ?_
      refine g_icmp_ge (tgt := 36) hC dX1_firstStruck_30 (by decide) ?_ ?_
      · refine g_iinc (q := 4) hC dX1_firstStruck_36 rfl (by decide) rfl ?_
        refine g_goto (tgt := 3) hC dX1_firstStruck_39 (by decide) ?_
        refine g_sub [1, 2, 3, 4, 0] rfl ?_
        exact ih x1 x2 x3 (x4 + 1) X3 g1
      · refine g_iload (q := 4) hC dX1_firstStruck_33 rfl ?_
        exact g_iret hC hR dX1_firstStruck_35
set_option maxRecDepth 20000 in
theorem k_X1_firstStruck (l : Launch) (V : Ev) {L : List Kd} (hL : LKc L) (p1 : Int) (p2 : Int) (p3 : Int) (X : Mem) (h1 : At L p1 (101, [60])) : Kt l V L yX1_firstStruck (.code yX1_firstStruck cX1_firstStruck 5 (some .int)) 1 25 [vR V.1 42, vR V.1 p1, vI p2, vI p3] rI X (f_X1_firstStruck p1 p2 p3 X) := by
  refine kt_of (own := RX1) (lv0 := [(0, vR V.1 42), (1, vR V.1 p1), (2, vI p2), (3, vI p3)]) (by decide) rfl (Nat.le_of_ble_eq_true rfl) rfl (fun C hCl hC hR => ?_)
  subst hCl
  unfold f_X1_firstStruck
  refine g_iconst (v := vI 0) hC dX1_firstStruck_0 rfl ?_
  refine g_istore hC dX1_firstStruck_1 (by decide) rfl ?_
  refine g_sub [1, 2, 3, 4, 0] rfl ?_
  exact gL_X1_firstStruck_3 hC hR hL  KF p1 p2 p3 0 X h1
def f_X11_struck (p1 : Int) (p2 : Int) (p3 : Int) (X : Mem) : Option (Int × Mem) :=
  cl (f_X11_wayStatus p1 p2 p3 X) fun r1 X2 =>
  c1 r1 <| if r1 = 0 then
    cm RIV (X2 2 0) <|
    cl (f_X1_look (X2 2 0) (X2 2 3) (X2 2 4) X2) fun _ X5 =>
    ax TRA.length p1 <| cm TRA (tl TRA p1) <|
    cl (f_X1_firstStruck ((tl TRA p1) + 1) p2 p3 X5) fun r7 X8 =>
    c2 r7 ((-1)) <| if ¬ r7 = ((-1)) then
      cl (f_X11_answer r7 X8) fun r9 X10 =>
      some (r9, X10)
    else
      cl (f_X11_fail 6 X8) fun r11 X12 =>
      some (r11, X12)
  else
    cl (f_X11_fail r1 X2) fun r13 X14 =>
    some (r13, X14)
set_option maxRecDepth 20000 in
theorem k_X11_struck (l : Launch) (V : Ev) {L : List Kd} (hL : LKc L) (p1 : Int) (p2 : Int) (p3 : Int) (X : Mem)  : Kt l V L yX11_struck (.code yX11_struck cX11_struck 6 (some .int)) 4 95 [vR V.1 0, vI p1, vI p2, vI p3] rI X (f_X11_struck p1 p2 p3 X) := by
  refine kt_of (own := RX11) (lv0 := [(0, vR V.1 0), (1, vI p1), (2, vI p2), (3, vI p3)]) (by decide) rfl (Nat.le_of_ble_eq_true rfl) rfl (fun C hCl hC hR => ?_)
  subst hCl
  unfold f_X11_struck
  refine g_aload_n (q := 0) hC dX11_struck_0 rfl rfl rfl ?_
  refine g_iload_n (q := 1) hC dX11_struck_1 rfl rfl ?_
  refine g_iload_n (q := 2) hC dX11_struck_2 rfl rfl ?_
  refine g_iload_n (q := 3) hC dX11_struck_3 rfl rfl ?_
  refine g_callVI (As := [vI p1, vI p2, vI p3]) hC mv_X11_wayStatus wml_RX11_326 (k_X11_wayStatus _ V hL p1 p2 p3 X) cf_X11 (at_0 hL) (by decide) ⟨Nat.zero_le _, Nat.zero_le _⟩ rfl rfl ⟨Nat.le_of_ble_eq_true rfl, Nat.le_of_ble_eq_true rfl⟩ (Nat.le_of_ble_eq_true rfl) dX11_struck_4 (fun r1 X2 => ?_)
  refine g_istore hC dX11_struck_7 (by decide) rfl ?_
  refine g_iload (q := 0) hC dX11_struck_9 rfl ?_
  refine g_if_eq (tgt := 21) hC dX11_struck_11 (by decide) ?_ ?_
  · refine g_aload_n (q := 1) hC dX11_struck_21 rfl rfl rfl ?_
    refine g_getS (k := 9) hC cf_X11 (at_0 hL) (by decide) rfl (by decide) (by decide) wf_RX11_80 dX11_struck_22 ?_
    refine g_aload_n (q := 1) hC dX11_struck_25 rfl rfl rfl ?_
    refine g_getS (k := 1) hC cf_X11 (at_0 hL) (by decide) rfl (by decide) (by decide) wf_RX11_18 dX11_struck_26 ?_
    refine g_getD (k := 0) (kz := 0) hC cf_X7 (at_2 hL) (by decide) rfl (by decide) rfl wf_RX11_58 dX11_struck_29 (g_cm (l := RIV) fun m3 => ?_)
    refine g_aload_n (q := 1) hC dX11_struck_32 rfl rfl rfl ?_
    refine g_getS (k := 1) hC cf_X11 (at_0 hL) (by decide) rfl (by decide) (by decide) wf_RX11_18 dX11_struck_33 ?_
    refine g_getI (k := 3) (kz := 3) hC cf_X7 (at_2 hL) (by decide) rfl (by decide) rfl wf_RX11_227 dX11_struck_36 ?_
    refine g_aload_n (q := 1) hC dX11_struck_39 rfl rfl rfl ?_
    refine g_getS (k := 1) hC cf_X11 (at_0 hL) (by decide) rfl (by decide) (by decide) wf_RX11_18 dX11_struck_40 ?_
    refine g_getI (k := 4) (kz := 4) hC cf_X7 (at_2 hL) (by decide) rfl (by decide) rfl wf_RX11_230 dX11_struck_43 ?_
    refine g_callVV (As := [vR V.1 (X2 2 0), vI (X2 2 3), vI (X2 2 4)]) hC mv_X1_look wml_RX11_294 (k_X1_look _ V hL (X2 2 0) (X2 2 3) (X2 2 4) X2 (riv_of hL m3)) cf_X1 (at_42 hL) (by decide) ⟨Nat.zero_le _, Nat.zero_le _⟩ rfl rfl ⟨Nat.le_of_ble_eq_true rfl, Nat.le_of_ble_eq_true rfl⟩ (Nat.le_of_ble_eq_true rfl) dX11_struck_46 (fun _ X5 => ?_)
    refine g_aload_n (q := 1) hC dX11_struck_49 rfl rfl rfl ?_
    refine g_getS (k := 9) hC cf_X11 (at_0 hL) (by decide) rfl (by decide) (by decide) wf_RX11_80 dX11_struck_50 ?_
    refine g_aload_n (q := 1) hC dX11_struck_53 rfl rfl rfl ?_
    refine g_getS (k := 0) hC cf_X11 (at_0 hL) (by decide) rfl (by decide) (by decide) wf_RX11_11 dX11_struck_54 ?_
    refine g_iload_n (q := 2) hC dX11_struck_57 rfl rfl ?_
    refine g_aldS (t0 := 4) (ts := TRA) hC (at_1 hL) (by decide) rfl (by decide) (by decide) dX11_struck_58 (g_cm (l := TRA) fun m6 => ?_)
    refine g_getS (k := 0) hC cf_X10 (ty_0 (tra_of hL m6)) (by decide) rfl (add_nn (ty_0 (tra_of hL m6))) (by decide) wf_RX11_155 dX11_struck_59 ?_
    refine g_iload_n (q := 3) hC dX11_struck_62 rfl rfl ?_
    refine g_iload_n (q := 4) hC dX11_struck_63 rfl rfl ?_
    refine g_callVI (As := [vR V.1 ((tl TRA p1) + 1), vI p2, vI p3]) hC mv_X1_firstStruck wml_RX11_333 (k_X1_firstStruck _ V hL ((tl TRA p1) + 1) p2 p3 X5 (ty_1 (tra_of hL m6))) cf_X1 (at_42 hL) (by decide) ⟨Nat.zero_le _, Nat.zero_le _⟩ rfl rfl ⟨Nat.le_of_ble_eq_true rfl, Nat.le_of_ble_eq_true rfl⟩ (Nat.le_of_ble_eq_true rfl) dX11_struck_64 (fun r7 X8 => ?_)
    refine g_istore hC dX11_struck_67 (by decide) rfl ?_
    refine g_iload (q := 0) hC dX11_struck_69 rfl ?_
    refine g_iconst (v := vI (-1)) hC dX11_struck_71 rfl ?_
    refine g_icmp_ne (tgt := 84) hC dX11_struck_72 (by decide) ?_ ?_
    · refine g_aload_n (q := 2) hC dX11_struck_84 rfl rfl rfl ?_
      refine g_iload (q := 0) hC dX11_struck_85 rfl ?_
      refine g_callVI (As := [vI r7]) hC mv_X11_answer wml_RX11_200 (k_X11_answer _ V hL r7 X8) cf_X11 (at_0 hL) (by decide) ⟨Nat.zero_le _, Nat.zero_le _⟩ rfl rfl ⟨Nat.le_of_ble_eq_true rfl, Nat.le_of_ble_eq_true rfl⟩ (Nat.le_of_ble_eq_true rfl) dX11_struck_87 (fun r9 X10 => ?_)
      exact g_iret hC hR dX11_struck_90
    · refine g_aload_n (q := 2) hC dX11_struck_75 rfl rfl rfl ?_
      refine g_bipush (v := vI 6) hC dX11_struck_76 rfl ?_
      refine g_callVI (As := [vI 6]) hC mv_X11_fail wml_RX11_162 (k_X11_fail _ V hL 6 X8) cf_X11 (at_0 hL) (by decide) ⟨Nat.zero_le _, Nat.zero_le _⟩ rfl rfl ⟨Nat.le_of_ble_eq_true rfl, Nat.le_of_ble_eq_true rfl⟩ (Nat.le_of_ble_eq_true rfl) dX11_struck_78 (fun r11 X12 => ?_)
      refine g_goto (tgt := 90) hC dX11_struck_81 (by decide) ?_
      exact g_iret hC hR dX11_struck_90
  · refine g_aload_n (q := 1) hC dX11_struck_14 rfl rfl rfl ?_
    refine g_iload (q := 0) hC dX11_struck_15 rfl ?_
    refine g_callVI (As := [vI r1]) hC mv_X11_fail wml_RX11_162 (k_X11_fail _ V hL r1 X2) cf_X11 (at_0 hL) (by decide) ⟨Nat.zero_le _, Nat.zero_le _⟩ rfl rfl ⟨Nat.le_of_ble_eq_true rfl, Nat.le_of_ble_eq_true rfl⟩ (Nat.le_of_ble_eq_true rfl) dX11_struck_17 (fun r13 X14 => ?_)
    exact g_iret hC hR dX11_struck_20
def B_X11_sure_111 (x4 : Int) (X : Mem) : Option (Int × Mem) :=
  cl (f_X11_tellFraction x4 1000000 X) fun r9 X10 =>
  cz r9 (some (r9, X10))
def B_X11_sure_105 (go52 : Int → Int → Int → Int → Mem → Option (Int × Mem)) (x1 : Int) (x2 : Int) (x4 : Int) (x6 : Int) (X : Mem) : Option (Int × Mem) :=
  go52 x1 x2 x4 (x6 + 1) X
def L_X11_sure_52 : Nat → Int → Int → Int → Int → Mem → Option (Int × Mem)
  | 0, _, _, _, _, _ => none
  | n + 1, x1, x2, x4, x6, X =>
    cm RIV (X 2 0) <|
    cl (f_X2_setCount (X 2 0) X) fun r7 X8 =>
    c2 x6 r7 <| if r7 ≤ x6 then
      B_X11_sure_111   x4 X8
    else
      ax TRA.length x1 <| cm TRA (tl TRA x1) <|
      cl (f_X1_firstStruck ((tl TRA x1) + 1) x2 x6 X8) fun r12 X13 =>
      c2 r12 ((-1)) <| if ¬ r12 = ((-1)) then
        B_X11_sure_105  (fun x1 x2 x4 x6 X => L_X11_sure_52   n x1 x2 x4 x6 X) x1 x2 x4 x6 X13
      else
        ax 32 x6 <|
        bd (x4 + (X13 18 x6)) fun v14 =>
        B_X11_sure_105  (fun x1 x2 x4 x6 X => L_X11_sure_52   n x1 x2 x4 x6 X) x1 x2 v14 x6 X13
def f_X11_sure (p1 : Int) (p2 : Int) (X : Mem) : Option (Int × Mem) :=
  cl (f_X11_wayStatus p1 p2 0 X) fun r1 X2 =>
  c1 r1 <| if r1 = 0 then
    cm RIV (X2 2 0) <|
    cl (f_X1_look (X2 2 0) (X2 2 3) (X2 2 4) X2) fun _ X5 =>
    L_X11_sure_52   KF p1 p2 0 0 X5
  else
    cl (f_X11_refuse r1 X2) fun r15 X16 =>
    cz r15 (some (r15, X16))
set_option maxRecDepth 20000 in
theorem gB_X11_sure_111 {C : Cx} {V : Ev} {L : List Kd} (hC : Ok C V cX11_sure RX11 7 4 95) (hR : Rt C V L (some .boolean) rI) (hL : LKc L) (x4 : Int) (X : Mem)  : G C V L 0 0 7 111 [(0, vR V.1 0), (4, vJ x4)] [] X (B_X11_sure_111   x4 X) := by
  unfold B_X11_sure_111
  refine g_aload_n (q := 0) hC dX11_sure_111 rfl rfl rfl ?_
  refine g_lload (q := 1) hC dX11_sure_112 rfl ?_
  refine g_ldc2 (n := 1000000) hC wk_RX11_305 rfl dX11_sure_114 ?_
  refine g_callVI (As := [vJ x4, vJ 1000000]) hC mv_X11_tellFraction wml_RX11_307 (k_X11_tellFraction _ V hL x4 1000000 X) cf_X11 (at_0 hL) (by decide) ⟨Nat.zero_le _, Nat.zero_le _⟩ rfl rfl ⟨Nat.le_of_ble_eq_true rfl, Nat.le_of_ble_eq_true rfl⟩ (Nat.le_of_ble_eq_true rfl) dX11_sure_117 (fun r9 X10 => ?_)
  exact g_zret hC hR dX11_sure_120
set_option maxRecDepth 20000 in
theorem gB_X11_sure_105 {C : Cx} {V : Ev} {L : List Kd} (hC : Ok C V cX11_sure RX11 7 4 95) (hR : Rt C V L (some .boolean) rI) (hL : LKc L) {go52 : Int → Int → Int → Int → Mem → Option (Int × Mem)} (hgo52 : ∀ (x1 : Int) (x2 : Int) (x4 : Int) (x6 : Int) (X : Mem), G C V L 0 0 7 52 [(0, vR V.1 0), (1, vI x1), (2, vI x2), (4, vJ x4), (6, vI x6)] [] X (go52 x1 x2 x4 x6 X)) (x1 : Int) (x2 : Int) (x4 : Int) (x6 : Int) (X : Mem)  : G C V L 0 0 7 105 [(0, vR V.1 0), (1, vI x1), (2, vI x2), (4, vJ x4), (6, vI x6)] [] X (B_X11_sure_105  go52 x1 x2 x4 x6 X) := by
  unfold B_X11_sure_105
  refine g_iinc (q := 4) hC dX11_sure_105 rfl (by decide) rfl ?_
  refine g_goto (tgt := 52) hC dX11_sure_108 (by decide) ?_
  refine g_sub [1, 2, 3, 4, 0] rfl ?_
  exact hgo52 x1 x2 x4 (x6 + 1) X
set_option maxRecDepth 20000 in
theorem gL_X11_sure_52 {C : Cx} {V : Ev} {L : List Kd} (hC : Ok C V cX11_sure RX11 7 4 95) (hR : Rt C V L (some .boolean) rI) (hL : LKc L) : ∀ (n : Nat) (x1 : Int) (x2 : Int) (x4 : Int) (x6 : Int) (X : Mem), G C V L 0 0 7 52 [(0, vR V.1 0), (1, vI x1), (2, vI x2), (4, vJ x4), (6, vI x6)] [] X (L_X11_sure_52   n x1 x2 x4 x6 X) := by
  intro n
  induction n with
  | zero => intro x1 x2 x4 x6 X; exact g_none
  | succ n ih =>
    intro x1 x2 x4 x6 X
    rw [L_X11_sure_52]
    refine g_iload (q := 4) hC dX11_sure_52 rfl ?_
    refine g_aload_n (q := 0) hC dX11_sure_54 rfl rfl rfl ?_
    refine g_getS (k := 1) hC cf_X11 (at_0 hL) (by decide) rfl (by decide) (by decide) wf_RX11_18 dX11_sure_55 ?_
    refine g_getD (k := 0) (kz := 0) hC cf_X7 (at_2 hL) (by decide) rfl (by decide) rfl wf_RX11_58 dX11_sure_58 (g_cm (l := RIV) fun m6 => ?_)
    refine g_callVI (As := []) hC mv_X2_setCount wml_RX11_337 (k_X2_setCount _ V (X 2 0) X (riv_of hL m6)) cf_X2 (rv_0 (riv_of hL m6)) (by decide) ⟨Nat.zero_le _, Nat.zero_le _⟩ rfl rfl ⟨Nat.le_of_ble_eq_true rfl, Nat.le_of_ble_eq_true rfl⟩ (Nat.le_of_ble_eq_true rfl) dX11_sure_61 (fun r7 X8 => ?_)
    refine g_icmp_ge (tgt := 111) hC dX11_sure_64 (by decide) ?_ ?_
    · refine g_sub [0, 3] rfl ?_
      exact gB_X11_sure_111 hC hR hL  x4 X8
    · refine g_aload_n (q := 0) hC dX11_sure_67 rfl rfl rfl ?_
      refine g_getS (k := 9) hC cf_X11 (at_0 hL) (by decide) rfl (by decide) (by decide) wf_RX11_80 dX11_sure_68 ?_
      refine g_aload_n (q := 0) hC dX11_sure_71 rfl rfl rfl ?_
      refine g_getS (k := 0) hC cf_X11 (at_0 hL) (by decide) rfl (by decide) (by decide) wf_RX11_11 dX11_sure_72 ?_
      refine g_iload_n (q := 1) hC dX11_sure_75 rfl rfl ?_
      refine g_aldS (t0 := 4) (ts := TRA) hC (at_1 hL) (by decide) rfl (by decide) (by decide) dX11_sure_76 (g_cm (l := TRA) fun m11 => ?_)
      refine g_getS (k := 0) hC cf_X10 (ty_0 (tra_of hL m11)) (by decide) rfl (add_nn (ty_0 (tra_of hL m11))) (by decide) wf_RX11_155 dX11_sure_77 ?_
      refine g_iload_n (q := 2) hC dX11_sure_80 rfl rfl ?_
      refine g_iload (q := 4) hC dX11_sure_81 rfl ?_
      refine g_callVI (As := [vR V.1 ((tl TRA x1) + 1), vI x2, vI x6]) hC mv_X1_firstStruck wml_RX11_333 (k_X1_firstStruck _ V hL ((tl TRA x1) + 1) x2 x6 X8 (ty_1 (tra_of hL m11))) cf_X1 (at_42 hL) (by decide) ⟨Nat.zero_le _, Nat.zero_le _⟩ rfl rfl ⟨Nat.le_of_ble_eq_true rfl, Nat.le_of_ble_eq_true rfl⟩ (Nat.le_of_ble_eq_true rfl) dX11_sure_83 (fun r12 X13 => ?_)
      refine g_iconst (v := vI (-1)) hC dX11_sure_86 rfl ?_
      refine g_icmp_ne (tgt := 105) hC dX11_sure_87 (by decide) ?_ ?_
      · exact gB_X11_sure_105 hC hR hL ih x1 x2 x4 x6 X13
      · refine g_lload (q := 3) hC dX11_sure_90 rfl ?_
        refine g_aload_n (q := 0) hC dX11_sure_92 rfl rfl rfl ?_
        refine g_getS (k := 1) hC cf_X11 (at_0 hL) (by decide) rfl (by decide) (by decide) wf_RX11_18 dX11_sure_93 ?_
        refine g_getS (k := 2) hC cf_X7 (at_2 hL) (by decide) rfl (by decide) (by decide) wf_RX11_129 dX11_sure_96 ?_
        refine g_iload (q := 4) hC dX11_sure_99 rfl ?_
        refine g_lald hC (at_18 hL) (by decide) dX11_sure_101 ?_
        refine g_ladd hC dX11_sure_102 ?_
        refine g_topJ (fun v14 => ?_)
        refine g_lstore hC dX11_sure_103 (by decide) rfl ?_
        refine g_sub [1, 2, 3, 0, 4] rfl ?_
        exact gB_X11_sure_105 hC hR hL ih x1 x2 v14 x6 X13
set_option maxRecDepth 20000 in
theorem k_X11_sure (l : Launch) (V : Ev) {L : List Kd} (hL : LKc L) (p1 : Int) (p2 : Int) (X : Mem)  : Kt l V L yX11_sure (.code yX11_sure cX11_sure 7 (some .boolean)) 4 95 [vR V.1 0, vI p1, vI p2] rI X (f_X11_sure p1 p2 X) := by
  refine kt_of (own := RX11) (lv0 := [(0, vR V.1 0), (1, vI p1), (2, vI p2)]) (by decide) rfl (Nat.le_of_ble_eq_true rfl) rfl (fun C hCl hC hR => ?_)
  subst hCl
  unfold f_X11_sure
  refine g_aload_n (q := 0) hC dX11_sure_0 rfl rfl rfl ?_
  refine g_iload_n (q := 1) hC dX11_sure_1 rfl rfl ?_
  refine g_iload_n (q := 2) hC dX11_sure_2 rfl rfl ?_
  refine g_iconst (v := vI 0) hC dX11_sure_3 rfl ?_
  refine g_callVI (As := [vI p1, vI p2, vI 0]) hC mv_X11_wayStatus wml_RX11_326 (k_X11_wayStatus _ V hL p1 p2 0 X) cf_X11 (at_0 hL) (by decide) ⟨Nat.zero_le _, Nat.zero_le _⟩ rfl rfl ⟨Nat.le_of_ble_eq_true rfl, Nat.le_of_ble_eq_true rfl⟩ (Nat.le_of_ble_eq_true rfl) dX11_sure_4 (fun r1 X2 => ?_)
  refine g_istore_n hC dX11_sure_7 rfl (by decide) rfl ?_
  refine g_iload_n (q := 0) hC dX11_sure_8 rfl rfl ?_
  refine g_if_eq (tgt := 18) hC dX11_sure_9 (by decide) ?_ ?_
  · refine g_aload_n (q := 1) hC dX11_sure_18 rfl rfl rfl ?_
    refine g_getS (k := 9) hC cf_X11 (at_0 hL) (by decide) rfl (by decide) (by decide) wf_RX11_80 dX11_sure_19 ?_
    refine g_aload_n (q := 1) hC dX11_sure_22 rfl rfl rfl ?_
    refine g_getS (k := 1) hC cf_X11 (at_0 hL) (by decide) rfl (by decide) (by decide) wf_RX11_18 dX11_sure_23 ?_
    refine g_getD (k := 0) (kz := 0) hC cf_X7 (at_2 hL) (by decide) rfl (by decide) rfl wf_RX11_58 dX11_sure_26 (g_cm (l := RIV) fun m3 => ?_)
    refine g_aload_n (q := 1) hC dX11_sure_29 rfl rfl rfl ?_
    refine g_getS (k := 1) hC cf_X11 (at_0 hL) (by decide) rfl (by decide) (by decide) wf_RX11_18 dX11_sure_30 ?_
    refine g_getI (k := 3) (kz := 3) hC cf_X7 (at_2 hL) (by decide) rfl (by decide) rfl wf_RX11_227 dX11_sure_33 ?_
    refine g_aload_n (q := 1) hC dX11_sure_36 rfl rfl rfl ?_
    refine g_getS (k := 1) hC cf_X11 (at_0 hL) (by decide) rfl (by decide) (by decide) wf_RX11_18 dX11_sure_37 ?_
    refine g_getI (k := 4) (kz := 4) hC cf_X7 (at_2 hL) (by decide) rfl (by decide) rfl wf_RX11_230 dX11_sure_40 ?_
    refine g_callVV (As := [vR V.1 (X2 2 0), vI (X2 2 3), vI (X2 2 4)]) hC mv_X1_look wml_RX11_294 (k_X1_look _ V hL (X2 2 0) (X2 2 3) (X2 2 4) X2 (riv_of hL m3)) cf_X1 (at_42 hL) (by decide) ⟨Nat.zero_le _, Nat.zero_le _⟩ rfl rfl ⟨Nat.le_of_ble_eq_true rfl, Nat.le_of_ble_eq_true rfl⟩ (Nat.le_of_ble_eq_true rfl) dX11_sure_43 (fun _ X5 => ?_)
    refine g_lconst (v := vJ 0) hC dX11_sure_46 rfl ?_
    refine g_lstore hC dX11_sure_47 (by decide) rfl ?_
    refine g_iconst (v := vI 0) hC dX11_sure_49 rfl ?_
    refine g_istore hC dX11_sure_50 (by decide) rfl ?_
    refine g_sub [3, 4, 5, 1, 0] rfl ?_
    exact gL_X11_sure_52 hC hR hL  KF p1 p2 0 0 X5
  · refine g_aload_n (q := 1) hC dX11_sure_12 rfl rfl rfl ?_
    refine g_iload_n (q := 0) hC dX11_sure_13 rfl rfl ?_
    refine g_callVI (As := [vI r1]) hC mv_X11_refuse wml_RX11_140 (k_X11_refuse _ V hL r1 X2) cf_X11 (at_0 hL) (by decide) ⟨Nat.zero_le _, Nat.zero_le _⟩ rfl rfl ⟨Nat.le_of_ble_eq_true rfl, Nat.le_of_ble_eq_true rfl⟩ (Nat.le_of_ble_eq_true rfl) dX11_sure_14 (fun r15 X16 => ?_)
    exact g_zret hC hR dX11_sure_17
def B_X1_hasWayByLess_37 (go2 : Int → Int → Mem → Option (Int × Mem)) (x1 : Int) (x2 : Int) (X : Mem) : Option (Int × Mem) :=
  go2 x1 (x2 + 1) X
def L_X1_hasWayByLess_2 : Nat → Int → Int → Mem → Option (Int × Mem)
  | 0, _, _, _ => none
  | n + 1, x1, x2, X =>
    cm RIV (X 42 11) <|
    c2 x2 (X (X 42 11) 2) <| if (X (X 42 11) 2) ≤ x2 then
      some (0, X)
    else
      c2 (ia (ishr x1 x2) 1) 1 <| if ¬ (ia (ishr x1 x2) 1) = 1 then
        B_X1_hasWayByLess_37  (fun x1 x2 X => L_X1_hasWayByLess_2   n x1 x2 X) x1 x2 X
      else
        ax 32 (ix x1 (ishl 1 x2)) <|
        c1 (X 43 (ix x1 (ishl 1 x2))) <| if (X 43 (ix x1 (ishl 1 x2))) = 0 then
          B_X1_hasWayByLess_37  (fun x1 x2 X => L_X1_hasWayByLess_2   n x1 x2 X) x1 x2 X
        else
          some (1, X)
def f_X1_hasWayByLess (p1 : Int) (X : Mem) : Option (Int × Mem) :=
  L_X1_hasWayByLess_2   KF p1 0 X
set_option maxRecDepth 20000 in
theorem gB_X1_hasWayByLess_37 {C : Cx} {V : Ev} {L : List Kd} (hC : Ok C V cX1_hasWayByLess RX1 3 0 0) (hR : Rt C V L (some .boolean) rI) (hL : LKc L) {go2 : Int → Int → Mem → Option (Int × Mem)} (hgo2 : ∀ (x1 : Int) (x2 : Int) (X : Mem), G C V L 0 0 3 2 [(0, vR V.1 42), (1, vI x1), (2, vI x2)] [] X (go2 x1 x2 X)) (x1 : Int) (x2 : Int) (X : Mem)  : G C V L 0 0 3 37 [(0, vR V.1 42), (1, vI x1), (2, vI x2)] [] X (B_X1_hasWayByLess_37  go2 x1 x2 X) := by
  unfold B_X1_hasWayByLess_37
  refine g_iinc (q := 2) hC dX1_hasWayByLess_37 rfl (by decide) rfl ?_
  refine g_goto (tgt := 2) hC dX1_hasWayByLess_40 (by decide) ?_
  refine g_sub [1, 2, 0] rfl ?_
  exact hgo2 x1 (x2 + 1) X
set_option maxRecDepth 20000 in
theorem gL_X1_hasWayByLess_2 {C : Cx} {V : Ev} {L : List Kd} (hC : Ok C V cX1_hasWayByLess RX1 3 0 0) (hR : Rt C V L (some .boolean) rI) (hL : LKc L) : ∀ (n : Nat) (x1 : Int) (x2 : Int) (X : Mem), G C V L 0 0 3 2 [(0, vR V.1 42), (1, vI x1), (2, vI x2)] [] X (L_X1_hasWayByLess_2   n x1 x2 X) := by
  intro n
  induction n with
  | zero => intro x1 x2 X; exact g_none
  | succ n ih =>
    intro x1 x2 X
    rw [L_X1_hasWayByLess_2]
    refine g_iload_n (q := 2) hC dX1_hasWayByLess_2 rfl rfl ?_
    refine g_aload_n (q := 0) hC dX1_hasWayByLess_3 rfl rfl rfl ?_
    refine g_getD (k := 11) (kz := 11) hC cf_X1 (at_42 hL) (by decide) rfl (by decide) rfl wf_RX1_70 dX1_hasWayByLess_4 (g_cm (l := RIV) fun m1 => ?_)
    refine g_getI (k := 2) (kz := 2) hC cf_X2 (rv_0 (riv_of hL m1)) (by decide) rfl (by decide) rfl wf_RX1_124 dX1_hasWayByLess_7 ?_
    refine g_icmp_ge (tgt := 43) hC dX1_hasWayByLess_10 (by decide) ?_ ?_
    · refine g_iconst (v := vI 0) hC dX1_hasWayByLess_43 rfl ?_
      exact g_zret1 hC hR (by decide) dX1_hasWayByLess_44
    · refine g_iload_n (q := 1) hC dX1_hasWayByLess_13 rfl rfl ?_
      refine g_iload_n (q := 2) hC dX1_hasWayByLess_14 rfl rfl ?_
      refine g_ishr hC dX1_hasWayByLess_15 ?_
      refine g_iconst (v := vI 1) hC dX1_hasWayByLess_16 rfl ?_
      refine g_iand hC dX1_hasWayByLess_17 ?_
      refine g_iconst (v := vI 1) hC dX1_hasWayByLess_18 rfl ?_
      refine g_icmp_ne (tgt := 37) hC dX1_hasWayByLess_19 (by decide) ?_ ?_
      · exact gB_X1_hasWayByLess_37 hC hR hL ih x1 x2 X
      · refine g_aload_n (q := 0) hC dX1_hasWayByLess_22 rfl rfl rfl ?_
        refine g_getS (k := 0) hC cf_X1 (at_42 hL) (by decide) rfl (by decide) (by decide) wf_RX1_9 dX1_hasWayByLess_23 ?_
        refine g_iload_n (q := 1) hC dX1_hasWayByLess_26 rfl rfl ?_
        refine g_iconst (v := vI 1) hC dX1_hasWayByLess_27 rfl ?_
        refine g_iload_n (q := 2) hC dX1_hasWayByLess_28 rfl rfl ?_
        refine g_ishl hC dX1_hasWayByLess_29 ?_
        refine g_ixor hC dX1_hasWayByLess_30 ?_
        refine g_zald hC (at_43 hL) (by decide) dX1_hasWayByLess_31 ?_
        refine g_if_eq (tgt := 37) hC dX1_hasWayByLess_32 (by decide) ?_ ?_
        · exact gB_X1_hasWayByLess_37 hC hR hL ih x1 x2 X
        · refine g_iconst (v := vI 1) hC dX1_hasWayByLess_35 rfl ?_
          exact g_zret1 hC hR (by decide) dX1_hasWayByLess_36
set_option maxRecDepth 20000 in
theorem k_X1_hasWayByLess (l : Launch) (V : Ev) {L : List Kd} (hL : LKc L) (p1 : Int) (X : Mem)  : Kt l V L yX1_hasWayByLess (.code yX1_hasWayByLess cX1_hasWayByLess 3 (some .boolean)) 0 0 [vR V.1 42, vI p1] rI X (f_X1_hasWayByLess p1 X) := by
  refine kt_of (own := RX1) (lv0 := [(0, vR V.1 42), (1, vI p1)]) (by decide) rfl (Nat.le_of_ble_eq_true rfl) rfl (fun C hCl hC hR => ?_)
  subst hCl
  unfold f_X1_hasWayByLess
  refine g_iconst (v := vI 0) hC dX1_hasWayByLess_0 rfl ?_
  refine g_istore_n hC dX1_hasWayByLess_1 rfl (by decide) rfl ?_
  refine g_sub [1, 2, 0] rfl ?_
  exact gL_X1_hasWayByLess_2 hC hR hL  KF p1 0 X
def B_X1_cellsBy_40 (go8 : Int → Int → Int → Mem → Option (Int × Mem)) (x1 : Int) (x2 : Int) (x4 : Int) (X : Mem) : Option (Int × Mem) :=
  go8 x1 x2 (x4 + 1) X
def L_X1_cellsBy_8 : Nat → Int → Int → Int → Mem → Option (Int × Mem)
  | 0, _, _, _, _ => none
  | n + 1, x1, x2, x4, X =>
    cm RIV (X 42 11) <|
    c2 x4 (X (X 42 11) 2) <| if (X (X 42 11) 2) ≤ x4 then
      some (x2, X)
    else
      c2 (ia (ishr x1 x4) 1) 1 <| if ¬ (ia (ishr x1 x4) 1) = 1 then
        B_X1_cellsBy_40  (fun x1 x2 x4 X => L_X1_cellsBy_8   n x1 x2 x4 X) x1 x2 x4 X
      else
        ax 5 x4 <|
        bd (lo x2 (X 46 x4)) fun v3 =>
        B_X1_cellsBy_40  (fun x1 x2 x4 X => L_X1_cellsBy_8   n x1 x2 x4 X) x1 v3 x4 X
def f_X1_cellsBy (p1 : Int) (X : Mem) : Option (Int × Mem) :=
  bd (X 42 16) fun v1 =>
  L_X1_cellsBy_8   KF p1 v1 0 X
set_option maxRecDepth 20000 in
theorem gB_X1_cellsBy_40 {C : Cx} {V : Ev} {L : List Kd} (hC : Ok C V cX1_cellsBy RX1 5 0 0) (hR : Rt C V L (some .long) rJ) (hL : LKc L) {go8 : Int → Int → Int → Mem → Option (Int × Mem)} (hgo8 : ∀ (x1 : Int) (x2 : Int) (x4 : Int) (X : Mem), G C V L 0 0 5 8 [(0, vR V.1 42), (1, vI x1), (2, vJ x2), (4, vI x4)] [] X (go8 x1 x2 x4 X)) (x1 : Int) (x2 : Int) (x4 : Int) (X : Mem)  : G C V L 0 0 5 40 [(0, vR V.1 42), (1, vI x1), (2, vJ x2), (4, vI x4)] [] X (B_X1_cellsBy_40  go8 x1 x2 x4 X) := by
  unfold B_X1_cellsBy_40
  refine g_iinc (q := 3) hC dX1_cellsBy_40 rfl (by decide) rfl ?_
  refine g_goto (tgt := 8) hC dX1_cellsBy_43 (by decide) ?_
  refine g_sub [1, 2, 3, 0] rfl ?_
  exact hgo8 x1 x2 (x4 + 1) X
set_option maxRecDepth 20000 in
theorem gL_X1_cellsBy_8 {C : Cx} {V : Ev} {L : List Kd} (hC : Ok C V cX1_cellsBy RX1 5 0 0) (hR : Rt C V L (some .long) rJ) (hL : LKc L) : ∀ (n : Nat) (x1 : Int) (x2 : Int) (x4 : Int) (X : Mem), G C V L 0 0 5 8 [(0, vR V.1 42), (1, vI x1), (2, vJ x2), (4, vI x4)] [] X (L_X1_cellsBy_8   n x1 x2 x4 X) := by
  intro n
  induction n with
  | zero => intro x1 x2 x4 X; exact g_none
  | succ n ih =>
    intro x1 x2 x4 X
    rw [L_X1_cellsBy_8]
    refine g_iload (q := 3) hC dX1_cellsBy_8 rfl ?_
    refine g_aload_n (q := 0) hC dX1_cellsBy_10 rfl rfl rfl ?_
    refine g_getD (k := 11) (kz := 11) hC cf_X1 (at_42 hL) (by decide) rfl (by decide) rfl wf_RX1_70 dX1_cellsBy_11 (g_cm (l := RIV) fun m2 => ?_)
    refine g_getI (k := 2) (kz := 2) hC cf_X2 (rv_0 (riv_of hL m2)) (by decide) rfl (by decide) rfl wf_RX1_124 dX1_cellsBy_14 ?_
    refine g_icmp_ge (tgt := 46) hC dX1_cellsBy_17 (by decide) ?_ ?_
    · refine g_lload_n (q := 2) hC dX1_cellsBy_46 rfl rfl ?_
      exact g_lret hC hR dX1_cellsBy_47
    · refine g_iload_n (q := 1) hC dX1_cellsBy_20 rfl rfl ?_
      refine g_iload (q := 3) hC dX1_cellsBy_21 rfl ?_
      refine g_ishr hC dX1_cellsBy_23 ?_
      refine g_iconst (v := vI 1) hC dX1_cellsBy_24 rfl ?_
      refine g_iand hC dX1_cellsBy_25 ?_
      refine g_iconst (v := vI 1) hC dX1_cellsBy_26 rfl ?_
      refine g_icmp_ne (tgt := 40) hC dX1_cellsBy_27 (by decide) ?_ ?_
      · exact gB_X1_cellsBy_40 hC hR hL ih x1 x2 x4 X
      · refine g_lload_n (q := 2) hC dX1_cellsBy_30 rfl rfl ?_
        refine g_aload_n (q := 0) hC dX1_cellsBy_31 rfl rfl rfl ?_
        refine g_getS (k := 4) hC cf_X1 (at_42 hL) (by decide) rfl (by decide) (by decide) wf_RX1_27 dX1_cellsBy_32 ?_
        refine g_iload (q := 3) hC dX1_cellsBy_35 rfl ?_
        refine g_lald hC (at_46 hL) (by decide) dX1_cellsBy_37 ?_
        refine g_lor hC dX1_cellsBy_38 ?_
        refine g_topJ (fun v3 => ?_)
        refine g_lstore_n hC dX1_cellsBy_39 rfl (by decide) rfl ?_
        refine g_sub [1, 2, 0, 3] rfl ?_
        exact gB_X1_cellsBy_40 hC hR hL ih x1 v3 x4 X
set_option maxRecDepth 20000 in
theorem k_X1_cellsBy (l : Launch) (V : Ev) {L : List Kd} (hL : LKc L) (p1 : Int) (X : Mem)  : Kt l V L yX1_cellsBy (.code yX1_cellsBy cX1_cellsBy 5 (some .long)) 0 0 [vR V.1 42, vI p1] rJ X (f_X1_cellsBy p1 X) := by
  refine kt_of (own := RX1) (lv0 := [(0, vR V.1 42), (1, vI p1)]) (by decide) rfl (Nat.le_of_ble_eq_true rfl) rfl (fun C hCl hC hR => ?_)
  subst hCl
  unfold f_X1_cellsBy
  refine g_aload_n (q := 0) hC dX1_cellsBy_0 rfl rfl rfl ?_
  refine g_getJ (k := 16) (kz := 16) hC cf_X1 (at_42 hL) (by decide) rfl (by decide) rfl wf_RX1_61 dX1_cellsBy_1 ?_
  refine g_topJ (fun v1 => ?_)
  refine g_lstore_n hC dX1_cellsBy_4 rfl (by decide) rfl ?_
  refine g_iconst (v := vI 0) hC dX1_cellsBy_5 rfl ?_
  refine g_istore hC dX1_cellsBy_6 (by decide) rfl ?_
  refine g_sub [2, 3, 1, 0] rfl ?_
  exact gL_X1_cellsBy_8 hC hR hL  KF p1 v1 0 X
def f_X1_spread (p1 : Int) (X : Mem) : Option (Int × Mem) :=
  bd (lo (lo p1 (lushr (la p1 (lx (X 42 17) ((-1)))) 1)) (lshl (la p1 (lx (X 42 18) ((-1)))) 1)) fun v1 =>
  cm RIV (X 42 11) <|
  cm RIV (X 42 11) <|
  some (lo (lo v1 (lushr v1 (X (X 42 11) 0))) (lshl v1 (X (X 42 11) 0)), X)
set_option maxRecDepth 20000 in
theorem k_X1_spread (l : Launch) (V : Ev) {L : List Kd} (hL : LKc L) (p1 : Int) (X : Mem)  : Kt l V L yX1_spread (.code yX1_spread cX1_spread 5 (some .long)) 0 0 [vR V.1 42, vJ p1] rJ X (f_X1_spread p1 X) := by
  refine kt_of (own := RX1) (lv0 := [(0, vR V.1 42), (1, vJ p1)]) (by decide) rfl (Nat.le_of_ble_eq_true rfl) rfl (fun C hCl hC hR => ?_)
  subst hCl
  unfold f_X1_spread
  refine g_lload_n (q := 1) hC dX1_spread_0 rfl rfl ?_
  refine g_lload_n (q := 1) hC dX1_spread_1 rfl rfl ?_
  refine g_aload_n (q := 0) hC dX1_spread_2 rfl rfl rfl ?_
  refine g_getJ (k := 17) (kz := 17) hC cf_X1 (at_42 hL) (by decide) rfl (by decide) rfl wf_RX1_64 dX1_spread_3 ?_
  refine g_ldc2 (n := (-1)) hC wk_RX1_131 rfl dX1_spread_6 ?_
  refine g_lxor hC dX1_spread_9 ?_
  refine g_land hC dX1_spread_10 ?_
  refine g_iconst (v := vI 1) hC dX1_spread_11 rfl ?_
  refine g_lushr hC dX1_spread_12 ?_
  refine g_lor hC dX1_spread_13 ?_
  refine g_lload_n (q := 1) hC dX1_spread_14 rfl rfl ?_
  refine g_aload_n (q := 0) hC dX1_spread_15 rfl rfl rfl ?_
  refine g_getJ (k := 18) (kz := 18) hC cf_X1 (at_42 hL) (by decide) rfl (by decide) rfl wf_RX1_67 dX1_spread_16 ?_
  refine g_ldc2 (n := (-1)) hC wk_RX1_131 rfl dX1_spread_19 ?_
  refine g_lxor hC dX1_spread_22 ?_
  refine g_land hC dX1_spread_23 ?_
  refine g_iconst (v := vI 1) hC dX1_spread_24 rfl ?_
  refine g_lshl hC dX1_spread_25 ?_
  refine g_lor hC dX1_spread_26 ?_
  refine g_topJ (fun v1 => ?_)
  refine g_lstore_n hC dX1_spread_27 rfl (by decide) rfl ?_
  refine g_lload_n (q := 0) hC dX1_spread_28 rfl rfl ?_
  refine g_lload_n (q := 0) hC dX1_spread_29 rfl rfl ?_
  refine g_aload_n (q := 1) hC dX1_spread_30 rfl rfl rfl ?_
  refine g_getD (k := 11) (kz := 11) hC cf_X1 (at_42 hL) (by decide) rfl (by decide) rfl wf_RX1_70 dX1_spread_31 (g_cm (l := RIV) fun m2 => ?_)
  refine g_getI (k := 0) (kz := 0) hC cf_X2 (rv_0 (riv_of hL m2)) (by decide) rfl (by decide) rfl wf_RX1_102 dX1_spread_34 ?_
  refine g_lushr hC dX1_spread_37 ?_
  refine g_lor hC dX1_spread_38 ?_
  refine g_lload_n (q := 0) hC dX1_spread_39 rfl rfl ?_
  refine g_aload_n (q := 1) hC dX1_spread_40 rfl rfl rfl ?_
  refine g_getD (k := 11) (kz := 11) hC cf_X1 (at_42 hL) (by decide) rfl (by decide) rfl wf_RX1_70 dX1_spread_41 (g_cm (l := RIV) fun m3 => ?_)
  refine g_getI (k := 0) (kz := 0) hC cf_X2 (rv_0 (riv_of hL m3)) (by decide) rfl (by decide) rfl wf_RX1_102 dX1_spread_44 ?_
  refine g_lshl hC dX1_spread_47 ?_
  refine g_lor hC dX1_spread_48 ?_
  exact g_lret hC hR dX1_spread_49
def B_X1_reaches_58 (x3 : Int) (x5 : Int) (X : Mem) : Option (Int × Mem) :=
  d2 (la x5 x3) 0 <| if (la x5 x3) = 0 then
    some (0, X)
  else
    some (1, X)
def B_X1_reaches_45 (x3 : Int) (x5 : Int) (X : Mem) : Option (Int × Mem) :=
  B_X1_reaches_58   x3 x5 X
def L_X1_reaches_20 : Nat → Int → Int → Int → Int → Mem → Option (Int × Mem)
  | 0, _, _, _, _, _ => none
  | n + 1, x1, x3, x5, x7, X =>
    c2 x7 60 <| if 60 ≤ x7 then
      B_X1_reaches_58   x3 x5 X
    else
      cl (f_X1_spread x5 X) fun r3 X4 =>
      bd (la r3 x1) fun v5 =>
      d2 v5 x5 <| if ¬ v5 = x5 then
        L_X1_reaches_20   n x1 x3 v5 (x7 + 1) X4
      else
        B_X1_reaches_45   x3 x5 X4
def f_X1_reaches (p1 : Int) (X : Mem) : Option (Int × Mem) :=
  bd (lshl 1 (X 42 15)) fun v1 =>
  bd (la (lshl 1 (X 42 14)) p1) fun v2 =>
  L_X1_reaches_20   KF p1 v1 v2 0 X
set_option maxRecDepth 20000 in
theorem gB_X1_reaches_58 {C : Cx} {V : Ev} {L : List Kd} (hC : Ok C V cX1_reaches RX1 10 1 24) (hR : Rt C V L (some .boolean) rI) (hL : LKc L) (x3 : Int) (x5 : Int) (X : Mem)  : G C V L 0 0 10 58 [(3, vJ x3), (5, vJ x5)] [] X (B_X1_reaches_58   x3 x5 X) := by
  unfold B_X1_reaches_58
  refine g_lload (q := 1) hC dX1_reaches_58 rfl ?_
  refine g_lload_n (q := 0) hC dX1_reaches_60 rfl rfl ?_
  refine g_land hC dX1_reaches_61 ?_
  refine g_lconst (v := vJ 0) hC dX1_reaches_62 rfl ?_
  refine g_lcmp_eq (tgt := 71) hC dX1_reaches_63 rfl dX1_reaches_64 (by decide) ?_ ?_
  · refine g_iconst (v := vI 0) hC dX1_reaches_71 rfl ?_
    exact g_zret1 hC hR (by decide) dX1_reaches_72
  · refine g_iconst (v := vI 1) hC dX1_reaches_67 rfl ?_
    refine g_goto (tgt := 72) hC dX1_reaches_68 (by decide) ?_
    exact g_zret1 hC hR (by decide) dX1_reaches_72
set_option maxRecDepth 20000 in
theorem gB_X1_reaches_45 {C : Cx} {V : Ev} {L : List Kd} (hC : Ok C V cX1_reaches RX1 10 1 24) (hR : Rt C V L (some .boolean) rI) (hL : LKc L) (x3 : Int) (x5 : Int) (X : Mem)  : G C V L 0 0 10 45 [(3, vJ x3), (5, vJ x5)] [] X (B_X1_reaches_45   x3 x5 X) := by
  unfold B_X1_reaches_45
  refine g_goto (tgt := 58) hC dX1_reaches_45 (by decide) ?_
  exact gB_X1_reaches_58 hC hR hL  x3 x5 X
set_option maxRecDepth 20000 in
theorem gL_X1_reaches_20 {C : Cx} {V : Ev} {L : List Kd} (hC : Ok C V cX1_reaches RX1 10 1 24) (hR : Rt C V L (some .boolean) rI) (hL : LKc L) : ∀ (n : Nat) (x1 : Int) (x3 : Int) (x5 : Int) (x7 : Int) (X : Mem), G C V L 0 0 10 20 [(0, vR V.1 42), (1, vJ x1), (3, vJ x3), (5, vJ x5), (7, vI x7)] [] X (L_X1_reaches_20   n x1 x3 x5 x7 X) := by
  intro n
  induction n with
  | zero => intro x1 x3 x5 x7 X; exact g_none
  | succ n ih =>
    intro x1 x3 x5 x7 X
    rw [L_X1_reaches_20]
    refine g_iload (q := 4) hC dX1_reaches_20 rfl ?_
    refine g_bipush (v := vI 60) hC dX1_reaches_22 rfl ?_
    refine g_icmp_ge (tgt := 58) hC dX1_reaches_24 (by decide) ?_ ?_
    · refine g_sub [2, 3] rfl ?_
      exact gB_X1_reaches_58 hC hR hL  x3 x5 X
    · refine g_aload_n (q := 0) hC dX1_reaches_27 rfl rfl rfl ?_
      refine g_lload (q := 3) hC dX1_reaches_28 rfl ?_
      refine g_callVJ (As := [vJ x5]) hC mv_X1_spread wml_RX1_127 (k_X1_spread _ V hL x5 X) cf_X1 (at_42 hL) (by decide) ⟨Nat.zero_le _, Nat.zero_le _⟩ rfl rfl ⟨Nat.le_of_ble_eq_true rfl, Nat.le_of_ble_eq_true rfl⟩ (Nat.le_of_ble_eq_true rfl) dX1_reaches_30 (fun r3 X4 => ?_)
      refine g_lload_n (q := 1) hC dX1_reaches_33 rfl rfl ?_
      refine g_land hC dX1_reaches_34 ?_
      refine g_topJ (fun v5 => ?_)
      refine g_lstore hC dX1_reaches_35 (by decide) rfl ?_
      refine g_lload (q := 0) hC dX1_reaches_37 rfl ?_
      refine g_lload (q := 4) hC dX1_reaches_39 rfl ?_
      refine g_lcmp_ne (tgt := 48) hC dX1_reaches_41 rfl dX1_reaches_42 (by decide) ?_ ?_
      · refine g_lload (q := 0) hC dX1_reaches_48 rfl ?_
        refine g_lstore hC dX1_reaches_50 (by decide) rfl ?_
        refine g_iinc (q := 5) hC dX1_reaches_52 rfl (by decide) rfl ?_
        refine g_goto (tgt := 20) hC dX1_reaches_55 (by decide) ?_
        refine g_sub [3, 4, 5, 1, 0] rfl ?_
        exact ih x1 x3 v5 (x7 + 1) X4
      · refine g_sub [3, 4] rfl ?_
        exact gB_X1_reaches_45 hC hR hL  x3 x5 X4
set_option maxRecDepth 20000 in
theorem k_X1_reaches (l : Launch) (V : Ev) {L : List Kd} (hL : LKc L) (p1 : Int) (X : Mem)  : Kt l V L yX1_reaches (.code yX1_reaches cX1_reaches 10 (some .boolean)) 1 24 [vR V.1 42, vJ p1] rI X (f_X1_reaches p1 X) := by
  refine kt_of (own := RX1) (lv0 := [(0, vR V.1 42), (1, vJ p1)]) (by decide) rfl (Nat.le_of_ble_eq_true rfl) rfl (fun C hCl hC hR => ?_)
  subst hCl
  unfold f_X1_reaches
  refine g_lconst (v := vJ 1) hC dX1_reaches_0 rfl ?_
  refine g_aload_n (q := 0) hC dX1_reaches_1 rfl rfl rfl ?_
  refine g_getI (k := 15) (kz := 15) hC cf_X1 (at_42 hL) (by decide) rfl (by decide) rfl wf_RX1_58 dX1_reaches_2 ?_
  refine g_lshl hC dX1_reaches_5 ?_
  refine g_topJ (fun v1 => ?_)
  refine g_lstore_n hC dX1_reaches_6 rfl (by decide) rfl ?_
  refine g_lconst (v := vJ 1) hC dX1_reaches_7 rfl ?_
  refine g_aload_n (q := 1) hC dX1_reaches_8 rfl rfl rfl ?_
  refine g_getI (k := 14) (kz := 14) hC cf_X1 (at_42 hL) (by decide) rfl (by decide) rfl wf_RX1_55 dX1_reaches_9 ?_
  refine g_lshl hC dX1_reaches_12 ?_
  refine g_lload_n (q := 2) hC dX1_reaches_13 rfl rfl ?_
  refine g_land hC dX1_reaches_14 ?_
  refine g_topJ (fun v2 => ?_)
  refine g_lstore hC dX1_reaches_15 (by decide) rfl ?_
  refine g_iconst (v := vI 0) hC dX1_reaches_17 rfl ?_
  refine g_istore hC dX1_reaches_18 (by decide) rfl ?_
  refine g_sub [3, 4, 2, 1, 0] rfl ?_
  exact gL_X1_reaches_20 hC hR hL  KF p1 v1 v2 0 X
def B_X1_search_93  (X : Mem) : Option (Int × Mem) :=
  cm RIV (X 42 11) <|
  cl (f_X2_setCount (X 42 11) X) fun r8 X9 =>
  ax 32 (r8 - 1) <|
  cz (X9 43 (r8 - 1)) (some (X9 43 (r8 - 1), X9))
def B_X1_search_87 (go17 : Int → Mem → Option (Int × Mem)) (x3 : Int) (X : Mem) : Option (Int × Mem) :=
  go17 (x3 + 1) X
def L_X1_search_17 : Nat → Int → Mem → Option (Int × Mem)
  | 0, _, _ => none
  | n + 1, x3, X =>
    cm RIV (X 42 11) <|
    cl (f_X2_setCount (X 42 11) X) fun r5 X6 =>
    c2 x3 r5 <| if r5 ≤ x3 then
      B_X1_search_93   X6
    else
      cl (f_X1_hasWayByLess x3 X6) fun r10 X11 =>
      ax 32 x3 <| bd (ms X11 43 x3 (ia r10 1)) fun X12 =>
      ax 32 x3 <|
      c1 (X12 43 x3) <| if ¬ (X12 43 x3) = 0 then
        B_X1_search_87  (fun x3 X => L_X1_search_17   n x3 X) x3 X12
      else
        cl (f_X1_cellsBy x3 X12) fun r13 X14 =>
        cl (f_X1_reaches r13 X14) fun r15 X16 =>
        c1 r15 <| if r15 = 0 then
          B_X1_search_87  (fun x3 X => L_X1_search_17   n x3 X) x3 X16
        else
          ax 32 x3 <| bd (ms X16 43 x3 (ia 1 1)) fun X17 =>
          ax 32 (X17 42 2) <| bd (ms X17 44 (X17 42 2) x3) fun X18 =>
          bd (ms X18 42 2 ((X18 42 2) + 1)) fun X19 =>
          B_X1_search_87  (fun x3 X => L_X1_search_17   n x3 X) x3 X19
def f_X1_search (p1 : Int) (p2 : Int) (X : Mem) : Option (Int × Mem) :=
  bd (ms X 42 14 p1) fun X1 =>
  bd (ms X1 42 15 p2) fun X2 =>
  bd (ms X2 42 2 0) fun X3 =>
  L_X1_search_17   KF 0 X3
set_option maxRecDepth 20000 in
theorem gB_X1_search_93 {C : Cx} {V : Ev} {L : List Kd} (hC : Ok C V cX1_search RX1 4 2 53) (hR : Rt C V L (some .boolean) rI) (hL : LKc L)  (X : Mem)  : G C V L 0 0 4 93 [(0, vR V.1 42)] [] X (B_X1_search_93    X) := by
  unfold B_X1_search_93
  refine g_aload_n (q := 0) hC dX1_search_93 rfl rfl rfl ?_
  refine g_getS (k := 0) hC cf_X1 (at_42 hL) (by decide) rfl (by decide) (by decide) wf_RX1_9 dX1_search_94 ?_
  refine g_aload_n (q := 0) hC dX1_search_97 rfl rfl rfl ?_
  refine g_getD (k := 11) (kz := 11) hC cf_X1 (at_42 hL) (by decide) rfl (by decide) rfl wf_RX1_70 dX1_search_98 (g_cm (l := RIV) fun m7 => ?_)
  refine g_callVI (As := []) hC mv_X2_setCount wml_RX1_109 (k_X2_setCount _ V (X 42 11) X (riv_of hL m7)) cf_X2 (rv_0 (riv_of hL m7)) (by decide) ⟨Nat.zero_le _, Nat.zero_le _⟩ rfl rfl ⟨Nat.le_of_ble_eq_true rfl, Nat.le_of_ble_eq_true rfl⟩ (Nat.le_of_ble_eq_true rfl) dX1_search_101 (fun r8 X9 => ?_)
  refine g_iconst (v := vI 1) hC dX1_search_104 rfl ?_
  refine g_isub hC dX1_search_105 ?_
  refine g_zald hC (at_43 hL) (by decide) dX1_search_106 ?_
  exact g_zret hC hR dX1_search_107
set_option maxRecDepth 20000 in
theorem gB_X1_search_87 {C : Cx} {V : Ev} {L : List Kd} (hC : Ok C V cX1_search RX1 4 2 53) (hR : Rt C V L (some .boolean) rI) (hL : LKc L) {go17 : Int → Mem → Option (Int × Mem)} (hgo17 : ∀ (x3 : Int) (X : Mem), G C V L 0 0 4 17 [(0, vR V.1 42), (3, vI x3)] [] X (go17 x3 X)) (x3 : Int) (X : Mem)  : G C V L 0 0 4 87 [(0, vR V.1 42), (3, vI x3)] [] X (B_X1_search_87  go17 x3 X) := by
  unfold B_X1_search_87
  refine g_iinc (q := 1) hC dX1_search_87 rfl (by decide) rfl ?_
  refine g_goto (tgt := 17) hC dX1_search_90 (by decide) ?_
  refine g_sub [1, 0] rfl ?_
  exact hgo17 (x3 + 1) X
set_option maxRecDepth 20000 in
theorem gL_X1_search_17 {C : Cx} {V : Ev} {L : List Kd} (hC : Ok C V cX1_search RX1 4 2 53) (hR : Rt C V L (some .boolean) rI) (hL : LKc L) : ∀ (n : Nat) (x3 : Int) (X : Mem), G C V L 0 0 4 17 [(0, vR V.1 42), (3, vI x3)] [] X (L_X1_search_17   n x3 X) := by
  intro n
  induction n with
  | zero => intro x3 X; exact g_none
  | succ n ih =>
    intro x3 X
    rw [L_X1_search_17]
    refine g_iload_n (q := 1) hC dX1_search_17 rfl rfl ?_
    refine g_aload_n (q := 0) hC dX1_search_18 rfl rfl rfl ?_
    refine g_getD (k := 11) (kz := 11) hC cf_X1 (at_42 hL) (by decide) rfl (by decide) rfl wf_RX1_70 dX1_search_19 (g_cm (l := RIV) fun m4 => ?_)
    refine g_callVI (As := []) hC mv_X2_setCount wml_RX1_109 (k_X2_setCount _ V (X 42 11) X (riv_of hL m4)) cf_X2 (rv_0 (riv_of hL m4)) (by decide) ⟨Nat.zero_le _, Nat.zero_le _⟩ rfl rfl ⟨Nat.le_of_ble_eq_true rfl, Nat.le_of_ble_eq_true rfl⟩ (Nat.le_of_ble_eq_true rfl) dX1_search_22 (fun r5 X6 => ?_)
    refine g_icmp_ge (tgt := 93) hC dX1_search_25 (by decide) ?_ ?_
    · refine g_sub [0] rfl ?_
      exact gB_X1_search_93 hC hR hL  X6
    · refine g_aload_n (q := 0) hC dX1_search_28 rfl rfl rfl ?_
      refine g_getS (k := 0) hC cf_X1 (at_42 hL) (by decide) rfl (by decide) (by decide) wf_RX1_9 dX1_search_29 ?_
      refine g_iload_n (q := 1) hC dX1_search_32 rfl rfl ?_
      refine g_aload_n (q := 0) hC dX1_search_33 rfl rfl rfl ?_
      refine g_iload_n (q := 1) hC dX1_search_34 rfl rfl ?_
      refine g_callVI (As := [vI x3]) hC mv_X1_hasWayByLess wml_RX1_112 (k_X1_hasWayByLess _ V hL x3 X6) cf_X1 (at_42 hL) (by decide) ⟨Nat.zero_le _, Nat.zero_le _⟩ rfl rfl ⟨Nat.le_of_ble_eq_true rfl, Nat.le_of_ble_eq_true rfl⟩ (Nat.le_of_ble_eq_true rfl) dX1_search_35 (fun r10 X11 => ?_)
      refine g_zast hC (at_43 hL) (by decide) dX1_search_38 (fun X12 => ?_)
      refine g_aload_n (q := 0) hC dX1_search_39 rfl rfl rfl ?_
      refine g_getS (k := 0) hC cf_X1 (at_42 hL) (by decide) rfl (by decide) (by decide) wf_RX1_9 dX1_search_40 ?_
      refine g_iload_n (q := 1) hC dX1_search_43 rfl rfl ?_
      refine g_zald hC (at_43 hL) (by decide) dX1_search_44 ?_
      refine g_if_ne (tgt := 87) hC dX1_search_45 (by decide) ?_ ?_
      · exact gB_X1_search_87 hC hR hL ih x3 X12
      · refine g_aload_n (q := 0) hC dX1_search_48 rfl rfl rfl ?_
        refine g_aload_n (q := 0) hC dX1_search_49 rfl rfl rfl ?_
        refine g_iload_n (q := 1) hC dX1_search_50 rfl rfl ?_
        refine g_callVJ (As := [vI x3]) hC mv_X1_cellsBy wml_RX1_116 (k_X1_cellsBy _ V hL x3 X12) cf_X1 (at_42 hL) (by decide) ⟨Nat.zero_le _, Nat.zero_le _⟩ rfl rfl ⟨Nat.le_of_ble_eq_true rfl, Nat.le_of_ble_eq_true rfl⟩ (Nat.le_of_ble_eq_true rfl) dX1_search_51 (fun r13 X14 => ?_)
        refine g_callVI (As := [vJ r13]) hC mv_X1_reaches wml_RX1_120 (k_X1_reaches _ V hL r13 X14) cf_X1 (at_42 hL) (by decide) ⟨Nat.zero_le _, Nat.zero_le _⟩ rfl rfl ⟨Nat.le_of_ble_eq_true rfl, Nat.le_of_ble_eq_true rfl⟩ (Nat.le_of_ble_eq_true rfl) dX1_search_54 (fun r15 X16 => ?_)
        refine g_if_eq (tgt := 87) hC dX1_search_57 (by decide) ?_ ?_
        · exact gB_X1_search_87 hC hR hL ih x3 X16
        · refine g_aload_n (q := 0) hC dX1_search_60 rfl rfl rfl ?_
          refine g_getS (k := 0) hC cf_X1 (at_42 hL) (by decide) rfl (by decide) (by decide) wf_RX1_9 dX1_search_61 ?_
          refine g_iload_n (q := 1) hC dX1_search_64 rfl rfl ?_
          refine g_iconst (v := vI 1) hC dX1_search_65 rfl ?_
          refine g_zast hC (at_43 hL) (by decide) dX1_search_66 (fun X17 => ?_)
          refine g_aload_n (q := 0) hC dX1_search_67 rfl rfl rfl ?_
          refine g_getS (k := 1) hC cf_X1 (at_42 hL) (by decide) rfl (by decide) (by decide) wf_RX1_15 dX1_search_68 ?_
          refine g_aload_n (q := 0) hC dX1_search_71 rfl rfl rfl ?_
          refine g_getI (k := 2) (kz := 2) hC cf_X1 (at_42 hL) (by decide) rfl (by decide) rfl wf_RX1_19 dX1_search_72 ?_
          refine g_iload_n (q := 1) hC dX1_search_75 rfl rfl ?_
          refine g_iast hC (at_44 hL) (by decide) dX1_search_76 (fun X18 => ?_)
          refine g_aload_n (q := 0) hC dX1_search_77 rfl rfl rfl ?_
          refine g_dup hC dX1_search_78 rfl ?_
          refine g_getI (k := 2) (kz := 2) hC cf_X1 (at_42 hL) (by decide) rfl (by decide) rfl wf_RX1_19 dX1_search_79 ?_
          refine g_iconst (v := vI 1) hC dX1_search_82 rfl ?_
          refine g_iadd hC dX1_search_83 ?_
          refine g_putI (k := 2) (kz := 2) hC cf_X1 (at_42 hL) (by decide) rfl (by decide) rfl wf_RX1_19 rfl rfl dX1_search_84 (fun X19 => ?_)
          exact gB_X1_search_87 hC hR hL ih x3 X19
set_option maxRecDepth 20000 in
theorem k_X1_search (l : Launch) (V : Ev) {L : List Kd} (hL : LKc L) (p1 : Int) (p2 : Int) (X : Mem)  : Kt l V L yX1_search (.code yX1_search cX1_search 4 (some .boolean)) 2 53 [vR V.1 42, vI p1, vI p2] rI X (f_X1_search p1 p2 X) := by
  refine kt_of (own := RX1) (lv0 := [(0, vR V.1 42), (1, vI p1), (2, vI p2)]) (by decide) rfl (Nat.le_of_ble_eq_true rfl) rfl (fun C hCl hC hR => ?_)
  subst hCl
  unfold f_X1_search
  refine g_aload_n (q := 0) hC dX1_search_0 rfl rfl rfl ?_
  refine g_iload_n (q := 1) hC dX1_search_1 rfl rfl ?_
  refine g_putI (k := 14) (kz := 14) hC cf_X1 (at_42 hL) (by decide) rfl (by decide) rfl wf_RX1_55 rfl rfl dX1_search_2 (fun X1 => ?_)
  refine g_aload_n (q := 0) hC dX1_search_5 rfl rfl rfl ?_
  refine g_iload_n (q := 2) hC dX1_search_6 rfl rfl ?_
  refine g_putI (k := 15) (kz := 15) hC cf_X1 (at_42 hL) (by decide) rfl (by decide) rfl wf_RX1_58 rfl rfl dX1_search_7 (fun X2 => ?_)
  refine g_aload_n (q := 0) hC dX1_search_10 rfl rfl rfl ?_
  refine g_iconst (v := vI 0) hC dX1_search_11 rfl ?_
  refine g_putI (k := 2) (kz := 2) hC cf_X1 (at_42 hL) (by decide) rfl (by decide) rfl wf_RX1_19 rfl rfl dX1_search_12 (fun X3 => ?_)
  refine g_iconst (v := vI 0) hC dX1_search_15 rfl ?_
  refine g_istore_n hC dX1_search_16 rfl (by decide) rfl ?_
  refine g_sub [1, 0] rfl ?_
  exact gL_X1_search_17 hC hR hL  KF 0 X3
def B_X1_minutesBy_31  (X : Mem) : Option (Int × Mem) :=
  some (1000000000, X)
def f_X1_minutesBy (p1 : Int) (p2 : Int) (X : Mem) : Option (Int × Mem) :=
  cm RIV (X 42 11) <|
  cl (f_X2_beside (X 42 11) p1 p2 X) fun r2 X3 =>
  c2 r2 ((-1)) <| if r2 = ((-1)) then
    B_X1_minutesBy_31   X3
  else
    ax 480 ((r2 * 8) + p2) <|
    c2 (X3 47 ((r2 * 8) + p2)) 1000000000 <| if (X3 47 ((r2 * 8) + p2)) < 1000000000 then
      ax 480 ((r2 * 8) + p2) <|
      cm RIV (X3 42 11) <|
      cl (f_X2_stepMinutes (X3 42 11) p2 X3) fun r5 X6 =>
      some ((X3 47 ((r2 * 8) + p2)) + r5, X6)
    else
      B_X1_minutesBy_31   X3
set_option maxRecDepth 20000 in
theorem gB_X1_minutesBy_31 {C : Cx} {V : Ev} {L : List Kd} (hC : Ok C V cX1_minutesBy RX1 4 1 24) (hR : Rt C V L (some .int) rI) (hL : LKc L)  (X : Mem)  : G C V L 0 0 4 31 [] [] X (B_X1_minutesBy_31    X) := by
  unfold B_X1_minutesBy_31
  refine g_ldc (n := 1000000000) hC wk_RX1_154 rfl dX1_minutesBy_31 ?_
  exact g_iret hC hR dX1_minutesBy_33
set_option maxRecDepth 20000 in
theorem k_X1_minutesBy (l : Launch) (V : Ev) {L : List Kd} (hL : LKc L) (p1 : Int) (p2 : Int) (X : Mem)  : Kt l V L yX1_minutesBy (.code yX1_minutesBy cX1_minutesBy 4 (some .int)) 1 24 [vR V.1 42, vI p1, vI p2] rI X (f_X1_minutesBy p1 p2 X) := by
  refine kt_of (own := RX1) (lv0 := [(0, vR V.1 42), (1, vI p1), (2, vI p2)]) (by decide) rfl (Nat.le_of_ble_eq_true rfl) rfl (fun C hCl hC hR => ?_)
  subst hCl
  unfold f_X1_minutesBy
  refine g_aload_n (q := 0) hC dX1_minutesBy_0 rfl rfl rfl ?_
  refine g_getD (k := 11) (kz := 11) hC cf_X1 (at_42 hL) (by decide) rfl (by decide) rfl wf_RX1_70 dX1_minutesBy_1 (g_cm (l := RIV) fun m1 => ?_)
  refine g_iload_n (q := 1) hC dX1_minutesBy_4 rfl rfl ?_
  refine g_iload_n (q := 2) hC dX1_minutesBy_5 rfl rfl ?_
  refine g_callVI (As := [vI p1, vI p2]) hC mv_X2_beside wml_RX1_182 (k_X2_beside _ V (X 42 11) p1 p2 X (riv_of hL m1)) cf_X2 (rv_0 (riv_of hL m1)) (by decide) ⟨Nat.zero_le _, Nat.zero_le _⟩ rfl rfl ⟨Nat.le_of_ble_eq_true rfl, Nat.le_of_ble_eq_true rfl⟩ (Nat.le_of_ble_eq_true rfl) dX1_minutesBy_6 (fun r2 X3 => ?_)
  refine g_istore_n hC dX1_minutesBy_9 rfl (by decide) rfl ?_
  refine g_iload_n (q := 0) hC dX1_minutesBy_10 rfl rfl ?_
  refine g_iconst (v := vI (-1)) hC dX1_minutesBy_11 rfl ?_
  refine g_icmp_eq (tgt := 31) hC dX1_minutesBy_12 (by decide) ?_ ?_
  · refine g_sub [] rfl ?_
    exact gB_X1_minutesBy_31 hC hR hL  X3
  · refine g_aload_n (q := 1) hC dX1_minutesBy_15 rfl rfl rfl ?_
    refine g_getS (k := 5) hC cf_X1 (at_42 hL) (by decide) rfl (by decide) (by decide) wf_RX1_30 dX1_minutesBy_16 ?_
    refine g_iload_n (q := 0) hC dX1_minutesBy_19 rfl rfl ?_
    refine g_bipush (v := vI 8) hC dX1_minutesBy_20 rfl ?_
    refine g_imul hC dX1_minutesBy_22 ?_
    refine g_iload_n (q := 3) hC dX1_minutesBy_23 rfl rfl ?_
    refine g_iadd hC dX1_minutesBy_24 ?_
    refine g_iald hC (at_47 hL) (by decide) dX1_minutesBy_25 ?_
    refine g_ldc (n := 1000000000) hC wk_RX1_154 rfl dX1_minutesBy_26 ?_
    refine g_icmp_lt (tgt := 34) hC dX1_minutesBy_28 (by decide) ?_ ?_
    · refine g_aload_n (q := 1) hC dX1_minutesBy_34 rfl rfl rfl ?_
      refine g_getS (k := 5) hC cf_X1 (at_42 hL) (by decide) rfl (by decide) (by decide) wf_RX1_30 dX1_minutesBy_35 ?_
      refine g_iload_n (q := 0) hC dX1_minutesBy_38 rfl rfl ?_
      refine g_bipush (v := vI 8) hC dX1_minutesBy_39 rfl ?_
      refine g_imul hC dX1_minutesBy_41 ?_
      refine g_iload_n (q := 3) hC dX1_minutesBy_42 rfl rfl ?_
      refine g_iadd hC dX1_minutesBy_43 ?_
      refine g_iald hC (at_47 hL) (by decide) dX1_minutesBy_44 ?_
      refine g_aload_n (q := 1) hC dX1_minutesBy_45 rfl rfl rfl ?_
      refine g_getD (k := 11) (kz := 11) hC cf_X1 (at_42 hL) (by decide) rfl (by decide) rfl wf_RX1_70 dX1_minutesBy_46 (g_cm (l := RIV) fun m4 => ?_)
      refine g_iload_n (q := 3) hC dX1_minutesBy_49 rfl rfl ?_
      refine g_callVI (As := [vI p2]) hC mv_X2_stepMinutes wml_RX1_185 (k_X2_stepMinutes _ V (X3 42 11) p2 X3 (riv_of hL m4)) cf_X2 (rv_0 (riv_of hL m4)) (by decide) ⟨Nat.zero_le _, Nat.zero_le _⟩ rfl rfl ⟨Nat.le_of_ble_eq_true rfl, Nat.le_of_ble_eq_true rfl⟩ (Nat.le_of_ble_eq_true rfl) dX1_minutesBy_50 (fun r5 X6 => ?_)
      refine g_iadd hC dX1_minutesBy_53 ?_
      exact g_iret hC hR dX1_minutesBy_54
    · refine g_sub [] rfl ?_
      exact gB_X1_minutesBy_31 hC hR hL  X3
def B_X1_settle_89 (go4 : Int → Int → Int → Mem → Option (Int × Mem)) (x1 : Int) (x2 : Int) (x3 : Int) (X : Mem) : Option (Int × Mem) :=
  go4 x1 x2 (x3 + 1) X
def B_X1_settle_83 (go4 : Int → Int → Int → Mem → Option (Int × Mem)) (go28 : Int → Int → Int → Int → Int → Mem → Option (Int × Mem)) (x1 : Int) (x2 : Int) (x3 : Int) (x4 : Int) (x5 : Int) (X : Mem) : Option (Int × Mem) :=
  go28 x1 x2 x3 x4 (x5 + 1) X
def L_X1_settle_28 (go4 : Int → Int → Int → Mem → Option (Int × Mem)) : Nat → Int → Int → Int → Int → Int → Mem → Option (Int × Mem)
  | 0, _, _, _, _, _, _ => none
  | n + 1, x1, x2, x3, x4, x5, X =>
    c2 x5 8 <| if 8 ≤ x5 then
      B_X1_settle_89  go4 x1 x2 x3 X
    else
      cm RIV (X 42 11) <|
      cl (f_X2_turnMinutes (X 42 11) x5 x3 X) fun r4 X5 =>
      bd (x4 + r4) fun v6 =>
      ax 480 ((x1 * 8) + x5) <|
      c2 v6 (X5 47 ((x1 * 8) + x5)) <| if (X5 47 ((x1 * 8) + x5)) ≤ v6 then
        B_X1_settle_83  go4 (fun x1 x2 x3 x4 x5 X => L_X1_settle_28  go4 n x1 x2 x3 x4 x5 X) x1 x2 x3 x4 x5 X5
      else
        ax 480 ((x1 * 8) + x5) <| bd (ms X5 47 ((x1 * 8) + x5) v6) fun X7 =>
        B_X1_settle_83  go4 (fun x1 x2 x3 x4 x5 X => L_X1_settle_28  go4 n x1 x2 x3 x4 x5 X) x1 1 x3 x4 x5 X7
def L_X1_settle_4 : Nat → Int → Int → Int → Mem → Option (Int × Mem)
  | 0, _, _, _, _ => none
  | n + 1, x1, x2, x3, X =>
    c2 x3 8 <| if 8 ≤ x3 then
      cz x2 (some (x2, X))
    else
      cl (f_X1_minutesBy x1 x3 X) fun r1 X2 =>
      c2 r1 1000000000 <| if 1000000000 ≤ r1 then
        B_X1_settle_89  (fun x1 x2 x3 X => L_X1_settle_4   n x1 x2 x3 X) x1 x2 x3 X2
      else
        L_X1_settle_28  (fun x1 x2 x3 X => L_X1_settle_4   n x1 x2 x3 X) KF x1 x2 x3 r1 0 X2
def f_X1_settle (p1 : Int) (X : Mem) : Option (Int × Mem) :=
  L_X1_settle_4   KF p1 0 0 X
set_option maxRecDepth 20000 in
theorem gB_X1_settle_89 {C : Cx} {V : Ev} {L : List Kd} (hC : Ok C V cX1_settle RX1 7 2 47) (hR : Rt C V L (some .boolean) rI) (hL : LKc L) {go4 : Int → Int → Int → Mem → Option (Int × Mem)} (hgo4 : ∀ (x1 : Int) (x2 : Int) (x3 : Int) (X : Mem), G C V L 0 0 7 4 [(0, vR V.1 42), (1, vI x1), (2, vI x2), (3, vI x3)] [] X (go4 x1 x2 x3 X)) (x1 : Int) (x2 : Int) (x3 : Int) (X : Mem)  : G C V L 0 0 7 89 [(0, vR V.1 42), (1, vI x1), (2, vI x2), (3, vI x3)] [] X (B_X1_settle_89  go4 x1 x2 x3 X) := by
  unfold B_X1_settle_89
  refine g_iinc (q := 3) hC dX1_settle_89 rfl (by decide) rfl ?_
  refine g_goto (tgt := 4) hC dX1_settle_92 (by decide) ?_
  refine g_sub [1, 2, 3, 0] rfl ?_
  exact hgo4 x1 x2 (x3 + 1) X
set_option maxRecDepth 20000 in
theorem gB_X1_settle_83 {C : Cx} {V : Ev} {L : List Kd} (hC : Ok C V cX1_settle RX1 7 2 47) (hR : Rt C V L (some .boolean) rI) (hL : LKc L) {go4 : Int → Int → Int → Mem → Option (Int × Mem)} {go28 : Int → Int → Int → Int → Int → Mem → Option (Int × Mem)} (hgo4 : ∀ (x1 : Int) (x2 : Int) (x3 : Int) (X : Mem), G C V L 0 0 7 4 [(0, vR V.1 42), (1, vI x1), (2, vI x2), (3, vI x3)] [] X (go4 x1 x2 x3 X)) (hgo28 : ∀ (x1 : Int) (x2 : Int) (x3 : Int) (x4 : Int) (x5 : Int) (X : Mem), G C V L 0 0 7 28 [(0, vR V.1 42), (1, vI x1), (2, vI x2), (3, vI x3), (4, vI x4), (5, vI x5)] [] X (go28 x1 x2 x3 x4 x5 X)) (x1 : Int) (x2 : Int) (x3 : Int) (x4 : Int) (x5 : Int) (X : Mem)  : G C V L 0 0 7 83 [(0, vR V.1 42), (1, vI x1), (2, vI x2), (3, vI x3), (4, vI x4), (5, vI x5)] [] X (B_X1_settle_83  go4 go28 x1 x2 x3 x4 x5 X) := by
  unfold B_X1_settle_83
  refine g_iinc (q := 5) hC dX1_settle_83 rfl (by decide) rfl ?_
  refine g_goto (tgt := 28) hC dX1_settle_86 (by decide) ?_
  refine g_sub [1, 2, 3, 4, 5, 0] rfl ?_
  exact hgo28 x1 x2 x3 x4 (x5 + 1) X
set_option maxRecDepth 20000 in
theorem gL_X1_settle_28 {C : Cx} {V : Ev} {L : List Kd} (hC : Ok C V cX1_settle RX1 7 2 47) (hR : Rt C V L (some .boolean) rI) (hL : LKc L) {go4 : Int → Int → Int → Mem → Option (Int × Mem)} (hgo4 : ∀ (x1 : Int) (x2 : Int) (x3 : Int) (X : Mem), G C V L 0 0 7 4 [(0, vR V.1 42), (1, vI x1), (2, vI x2), (3, vI x3)] [] X (go4 x1 x2 x3 X)) : ∀ (n : Nat) (x1 : Int) (x2 : Int) (x3 : Int) (x4 : Int) (x5 : Int) (X : Mem), G C V L 0 0 7 28 [(0, vR V.1 42), (1, vI x1), (2, vI x2), (3, vI x3), (4, vI x4), (5, vI x5)] [] X (L_X1_settle_28  go4 n x1 x2 x3 x4 x5 X) := by
  intro n
  induction n with
  | zero => intro x1 x2 x3 x4 x5 X; exact g_none
  | succ n ih =>
    intro x1 x2 x3 x4 x5 X
    rw [L_X1_settle_28]
    refine g_iload (q := 5) hC dX1_settle_28 rfl ?_
    refine g_bipush (v := vI 8) hC dX1_settle_30 rfl ?_
    refine g_icmp_ge (tgt := 89) hC dX1_settle_32 (by decide) ?_ ?_
    · refine g_sub [0, 1, 2, 3] rfl ?_
      exact gB_X1_settle_89 hC hR hL hgo4 x1 x2 x3 X
    · refine g_iload (q := 4) hC dX1_settle_35 rfl ?_
      refine g_aload_n (q := 0) hC dX1_settle_37 rfl rfl rfl ?_
      refine g_getD (k := 11) (kz := 11) hC cf_X1 (at_42 hL) (by decide) rfl (by decide) rfl wf_RX1_70 dX1_settle_38 (g_cm (l := RIV) fun m3 => ?_)
      refine g_iload (q := 5) hC dX1_settle_41 rfl ?_
      refine g_iload_n (q := 3) hC dX1_settle_43 rfl rfl ?_
      refine g_callVI (As := [vI x5, vI x3]) hC mv_X2_turnMinutes wml_RX1_179 (k_X2_turnMinutes _ V (X 42 11) x5 x3 X (riv_of hL m3)) cf_X2 (rv_0 (riv_of hL m3)) (by decide) ⟨Nat.zero_le _, Nat.zero_le _⟩ rfl rfl ⟨Nat.le_of_ble_eq_true rfl, Nat.le_of_ble_eq_true rfl⟩ (Nat.le_of_ble_eq_true rfl) dX1_settle_44 (fun r4 X5 => ?_)
      refine g_iadd hC dX1_settle_47 ?_
      refine g_topI (fun v6 => ?_)
      refine g_istore hC dX1_settle_48 (by decide) rfl ?_
      refine g_iload (q := 0) hC dX1_settle_50 rfl ?_
      refine g_aload_n (q := 1) hC dX1_settle_52 rfl rfl rfl ?_
      refine g_getS (k := 5) hC cf_X1 (at_42 hL) (by decide) rfl (by decide) (by decide) wf_RX1_30 dX1_settle_53 ?_
      refine g_iload_n (q := 2) hC dX1_settle_56 rfl rfl ?_
      refine g_bipush (v := vI 8) hC dX1_settle_57 rfl ?_
      refine g_imul hC dX1_settle_59 ?_
      refine g_iload (q := 6) hC dX1_settle_60 rfl ?_
      refine g_iadd hC dX1_settle_62 ?_
      refine g_iald hC (at_47 hL) (by decide) dX1_settle_63 ?_
      refine g_icmp_ge (tgt := 83) hC dX1_settle_64 (by decide) ?_ ?_
      · refine g_sub [1, 2, 3, 4, 5, 6] rfl ?_
        exact gB_X1_settle_83 hC hR hL hgo4 ih x1 x2 x3 x4 x5 X5
      · refine g_aload_n (q := 1) hC dX1_settle_67 rfl rfl rfl ?_
        refine g_getS (k := 5) hC cf_X1 (at_42 hL) (by decide) rfl (by decide) (by decide) wf_RX1_30 dX1_settle_68 ?_
        refine g_iload_n (q := 2) hC dX1_settle_71 rfl rfl ?_
        refine g_bipush (v := vI 8) hC dX1_settle_72 rfl ?_
        refine g_imul hC dX1_settle_74 ?_
        refine g_iload (q := 6) hC dX1_settle_75 rfl ?_
        refine g_iadd hC dX1_settle_77 ?_
        refine g_iload (q := 0) hC dX1_settle_78 rfl ?_
        refine g_iast hC (at_47 hL) (by decide) dX1_settle_80 (fun X7 => ?_)
        refine g_iconst (v := vI 1) hC dX1_settle_81 rfl ?_
        refine g_istore_n hC dX1_settle_82 rfl (by decide) rfl ?_
        refine g_sub [2, 3, 0, 4, 5, 6] rfl ?_
        exact gB_X1_settle_83 hC hR hL hgo4 ih x1 1 x3 x4 x5 X7
set_option maxRecDepth 20000 in
theorem gL_X1_settle_4 {C : Cx} {V : Ev} {L : List Kd} (hC : Ok C V cX1_settle RX1 7 2 47) (hR : Rt C V L (some .boolean) rI) (hL : LKc L) : ∀ (n : Nat) (x1 : Int) (x2 : Int) (x3 : Int) (X : Mem), G C V L 0 0 7 4 [(0, vR V.1 42), (1, vI x1), (2, vI x2), (3, vI x3)] [] X (L_X1_settle_4   n x1 x2 x3 X) := by
  intro n
  induction n with
  | zero => intro x1 x2 x3 X; exact g_none
  | succ n ih =>
    intro x1 x2 x3 X
    rw [L_X1_settle_4]
    refine g_iload_n (q := 3) hC dX1_settle_4 rfl rfl ?_
    refine g_bipush (v := vI 8) hC dX1_settle_5 rfl ?_
    refine g_icmp_ge (tgt := 95) hC dX1_settle_7 (by decide) ?_ ?_
    · refine g_iload_n (q := 2) hC dX1_settle_95 rfl rfl ?_
      exact g_zret hC hR dX1_settle_96
    · refine g_aload_n (q := 0) hC dX1_settle_10 rfl rfl rfl ?_
      refine g_iload_n (q := 1) hC dX1_settle_11 rfl rfl ?_
      refine g_iload_n (q := 3) hC dX1_settle_12 rfl rfl ?_
      refine g_callVI (As := [vI x1, vI x3]) hC mv_X1_minutesBy wml_RX1_176 (k_X1_minutesBy _ V hL x1 x3 X) cf_X1 (at_42 hL) (by decide) ⟨Nat.zero_le _, Nat.zero_le _⟩ rfl rfl ⟨Nat.le_of_ble_eq_true rfl, Nat.le_of_ble_eq_true rfl⟩ (Nat.le_of_ble_eq_true rfl) dX1_settle_13 (fun r1 X2 => ?_)
      refine g_istore hC dX1_settle_16 (by decide) rfl ?_
      refine g_iload (q := 0) hC dX1_settle_18 rfl ?_
      refine g_ldc (n := 1000000000) hC wk_RX1_154 rfl dX1_settle_20 ?_
      refine g_icmp_ge (tgt := 89) hC dX1_settle_22 (by decide) ?_ ?_
      · refine g_sub [1, 2, 3, 4] rfl ?_
        exact gB_X1_settle_89 hC hR hL ih x1 x2 x3 X2
      · refine g_iconst (v := vI 0) hC dX1_settle_25 rfl ?_
        refine g_istore hC dX1_settle_26 (by decide) rfl ?_
        refine g_sub [2, 3, 4, 5, 1, 0] rfl ?_
        exact gL_X1_settle_28 hC hR hL ih KF x1 x2 x3 r1 0 X2
set_option maxRecDepth 20000 in
theorem k_X1_settle (l : Launch) (V : Ev) {L : List Kd} (hL : LKc L) (p1 : Int) (X : Mem)  : Kt l V L yX1_settle (.code yX1_settle cX1_settle 7 (some .boolean)) 2 47 [vR V.1 42, vI p1] rI X (f_X1_settle p1 X) := by
  refine kt_of (own := RX1) (lv0 := [(0, vR V.1 42), (1, vI p1)]) (by decide) rfl (Nat.le_of_ble_eq_true rfl) rfl (fun C hCl hC hR => ?_)
  subst hCl
  unfold f_X1_settle
  refine g_iconst (v := vI 0) hC dX1_settle_0 rfl ?_
  refine g_istore_n hC dX1_settle_1 rfl (by decide) rfl ?_
  refine g_iconst (v := vI 0) hC dX1_settle_2 rfl ?_
  refine g_istore_n hC dX1_settle_3 rfl (by decide) rfl ?_
  refine g_sub [2, 3, 1, 0] rfl ?_
  exact gL_X1_settle_4 hC hR hL  KF p1 0 0 X
def B_X1_soonestHeading_71 (go23 : Int → Int → Int → Int → Int → Int → Mem → Option (Int × Mem)) (x1 : Int) (x2 : Int) (x3 : Int) (x4 : Int) (x6 : Int) (x7 : Int) (X : Mem) : Option (Int × Mem) :=
  go23 x1 x2 x3 x4 x6 (x7 + 1) X
def L_X1_soonestHeading_23 : Nat → Int → Int → Int → Int → Int → Int → Mem → Option (Int × Mem)
  | 0, _, _, _, _, _, _, _ => none
  | n + 1, x1, x2, x3, x4, x6, x7, X =>
    c2 x7 x6 <| if x6 ≤ x7 then
      some (x3, X)
    else
      ax 8 x7 <|
      bd (tl (tRow.getD 2 []) x7) fun v2 =>
      cl (f_X1_minutesBy x1 v2 X) fun r3 X4 =>
      cm RIV (X4 42 11) <|
      cl (f_X2_turnMinutes (X4 42 11) x2 v2 X4) fun r6 X7 =>
      bd (r3 + r6) fun v8 =>
      c2 v8 x4 <| if x4 ≤ v8 then
        B_X1_soonestHeading_71  (fun x1 x2 x3 x4 x6 x7 X => L_X1_soonestHeading_23   n x1 x2 x3 x4 x6 x7 X) x1 x2 x3 x4 x6 x7 X7
      else
        B_X1_soonestHeading_71  (fun x1 x2 x3 x4 x6 x7 X => L_X1_soonestHeading_23   n x1 x2 x3 x4 x6 x7 X) x1 x2 v2 v8 x6 x7 X7
def f_X1_soonestHeading (p1 : Int) (p2 : Int) (X : Mem) : Option (Int × Mem) :=
  ax 8 0 <|
  bd (tl (tRow.getD 2 []) 0) fun v1 =>
  L_X1_soonestHeading_23   KF p1 p2 v1 1000000000 8 0 X
set_option maxRecDepth 20000 in
theorem gB_X1_soonestHeading_71 {C : Cx} {V : Ev} {L : List Kd} (hC : Ok C V cX1_soonestHeading RX1 10 2 47) (hR : Rt C V L (some .int) rI) (hL : LKc L) {go23 : Int → Int → Int → Int → Int → Int → Mem → Option (Int × Mem)} (hgo23 : ∀ (x1 : Int) (x2 : Int) (x3 : Int) (x4 : Int) (x6 : Int) (x7 : Int) (X : Mem), G C V L 0 0 10 23 [(0, vR V.1 42), (1, vI x1), (2, vI x2), (3, vI x3), (4, vI x4), (5, vT V 2), (6, vI x6), (7, vI x7)] [] X (go23 x1 x2 x3 x4 x6 x7 X)) (x1 : Int) (x2 : Int) (x3 : Int) (x4 : Int) (x6 : Int) (x7 : Int) (X : Mem)  : G C V L 0 0 10 71 [(0, vR V.1 42), (1, vI x1), (2, vI x2), (3, vI x3), (4, vI x4), (5, vT V 2), (6, vI x6), (7, vI x7)] [] X (B_X1_soonestHeading_71  go23 x1 x2 x3 x4 x6 x7 X) := by
  unfold B_X1_soonestHeading_71
  refine g_iinc (q := 7) hC dX1_soonestHeading_71 rfl (by decide) rfl ?_
  refine g_goto (tgt := 23) hC dX1_soonestHeading_74 (by decide) ?_
  refine g_sub [1, 2, 3, 4, 5, 6, 7, 0] rfl ?_
  exact hgo23 x1 x2 x3 x4 x6 (x7 + 1) X
set_option maxRecDepth 20000 in
theorem gL_X1_soonestHeading_23 {C : Cx} {V : Ev} {L : List Kd} (hC : Ok C V cX1_soonestHeading RX1 10 2 47) (hR : Rt C V L (some .int) rI) (hL : LKc L) : ∀ (n : Nat) (x1 : Int) (x2 : Int) (x3 : Int) (x4 : Int) (x6 : Int) (x7 : Int) (X : Mem), G C V L 0 0 10 23 [(0, vR V.1 42), (1, vI x1), (2, vI x2), (3, vI x3), (4, vI x4), (5, vT V 2), (6, vI x6), (7, vI x7)] [] X (L_X1_soonestHeading_23   n x1 x2 x3 x4 x6 x7 X) := by
  intro n
  induction n with
  | zero => intro x1 x2 x3 x4 x6 x7 X; exact g_none
  | succ n ih =>
    intro x1 x2 x3 x4 x6 x7 X
    rw [L_X1_soonestHeading_23]
    refine g_iload (q := 7) hC dX1_soonestHeading_23 rfl ?_
    refine g_iload (q := 6) hC dX1_soonestHeading_25 rfl ?_
    refine g_icmp_ge (tgt := 77) hC dX1_soonestHeading_27 (by decide) ?_ ?_
    · refine g_iload_n (q := 3) hC dX1_soonestHeading_77 rfl rfl ?_
      exact g_iret hC hR dX1_soonestHeading_78
    · refine g_aload (q := 5) hC dX1_soonestHeading_30 rfl rfl ?_
      refine g_iload (q := 7) hC dX1_soonestHeading_32 rfl ?_
      refine g_tald hC (by decide) dX1_soonestHeading_34 ?_
      refine g_topI (fun v2 => ?_)
      refine g_istore hC dX1_soonestHeading_35 (by decide) rfl ?_
      refine g_aload_n (q := 1) hC dX1_soonestHeading_37 rfl rfl rfl ?_
      refine g_iload_n (q := 2) hC dX1_soonestHeading_38 rfl rfl ?_
      refine g_iload (q := 0) hC dX1_soonestHeading_39 rfl ?_
      refine g_callVI (As := [vI x1, vI v2]) hC mv_X1_minutesBy wml_RX1_176 (k_X1_minutesBy _ V hL x1 v2 X) cf_X1 (at_42 hL) (by decide) ⟨Nat.zero_le _, Nat.zero_le _⟩ rfl rfl ⟨Nat.le_of_ble_eq_true rfl, Nat.le_of_ble_eq_true rfl⟩ (Nat.le_of_ble_eq_true rfl) dX1_soonestHeading_41 (fun r3 X4 => ?_)
      refine g_aload_n (q := 1) hC dX1_soonestHeading_44 rfl rfl rfl ?_
      refine g_getD (k := 11) (kz := 11) hC cf_X1 (at_42 hL) (by decide) rfl (by decide) rfl wf_RX1_70 dX1_soonestHeading_45 (g_cm (l := RIV) fun m5 => ?_)
      refine g_iload_n (q := 3) hC dX1_soonestHeading_48 rfl rfl ?_
      refine g_iload (q := 0) hC dX1_soonestHeading_49 rfl ?_
      refine g_callVI (As := [vI x2, vI v2]) hC mv_X2_turnMinutes wml_RX1_179 (k_X2_turnMinutes _ V (X4 42 11) x2 v2 X4 (riv_of hL m5)) cf_X2 (rv_0 (riv_of hL m5)) (by decide) ⟨Nat.zero_le _, Nat.zero_le _⟩ rfl rfl ⟨Nat.le_of_ble_eq_true rfl, Nat.le_of_ble_eq_true rfl⟩ (Nat.le_of_ble_eq_true rfl) dX1_soonestHeading_51 (fun r6 X7 => ?_)
      refine g_iadd hC dX1_soonestHeading_54 ?_
      refine g_topI (fun v8 => ?_)
      refine g_istore hC dX1_soonestHeading_55 (by decide) rfl ?_
      refine g_iload (q := 0) hC dX1_soonestHeading_57 rfl ?_
      refine g_iload (q := 6) hC dX1_soonestHeading_59 rfl ?_
      refine g_icmp_ge (tgt := 71) hC dX1_soonestHeading_61 (by decide) ?_ ?_
      · refine g_sub [2, 3, 4, 5, 6, 7, 8, 9] rfl ?_
        exact gB_X1_soonestHeading_71 hC hR hL ih x1 x2 x3 x4 x6 x7 X7
      · refine g_iload (q := 1) hC dX1_soonestHeading_64 rfl ?_
        refine g_istore_n hC dX1_soonestHeading_66 rfl (by decide) rfl ?_
        refine g_iload (q := 1) hC dX1_soonestHeading_67 rfl ?_
        refine g_istore hC dX1_soonestHeading_69 (by decide) rfl ?_
        refine g_sub [4, 5, 6, 1, 0, 7, 8, 9] rfl ?_
        exact gB_X1_soonestHeading_71 hC hR hL ih x1 x2 v2 v8 x6 x7 X7
set_option maxRecDepth 20000 in
theorem k_X1_soonestHeading (l : Launch) (V : Ev) {L : List Kd} (hL : LKc L) (p1 : Int) (p2 : Int) (X : Mem)  : Kt l V L yX1_soonestHeading (.code yX1_soonestHeading cX1_soonestHeading 10 (some .int)) 2 47 [vR V.1 42, vI p1, vI p2] rI X (f_X1_soonestHeading p1 p2 X) := by
  refine kt_of (own := RX1) (lv0 := [(0, vR V.1 42), (1, vI p1), (2, vI p2)]) (by decide) rfl (Nat.le_of_ble_eq_true rfl) rfl (fun C hCl hC hR => ?_)
  subst hCl
  unfold f_X1_soonestHeading
  refine g_getT (t := 2) hC (by decide) rfl wf_RX1_188 dX1_soonestHeading_0 ?_
  refine g_iconst (v := vI 0) hC dX1_soonestHeading_3 rfl ?_
  refine g_tald hC (by decide) dX1_soonestHeading_4 ?_
  refine g_topI (fun v1 => ?_)
  refine g_istore_n hC dX1_soonestHeading_5 rfl (by decide) rfl ?_
  refine g_ldc (n := 1000000000) hC wk_RX1_154 rfl dX1_soonestHeading_6 ?_
  refine g_istore hC dX1_soonestHeading_8 (by decide) rfl ?_
  refine g_getT (t := 2) hC (by decide) rfl wf_RX1_188 dX1_soonestHeading_10 ?_
  refine g_astore hC dX1_soonestHeading_13 (by decide) rfl rfl ?_
  refine g_aload (q := 0) hC dX1_soonestHeading_15 rfl rfl ?_
  refine g_tlen hC (by decide) dX1_soonestHeading_17 ?_
  refine g_istore hC dX1_soonestHeading_18 (by decide) rfl ?_
  refine g_iconst (v := vI 0) hC dX1_soonestHeading_20 rfl ?_
  refine g_istore hC dX1_soonestHeading_21 (by decide) rfl ?_
  refine g_sub [5, 6, 7, 4, 3, 2, 1, 0] rfl ?_
  exact gL_X1_soonestHeading_23 hC hR hL  KF p1 p2 v1 1000000000 8 0 X
def B_X1_soonestBy_166  (X : Mem) : Option (Int × Mem) :=
  c2 (X 42 14) (X 42 15) <| if ¬ (X 42 14) = (X 42 15) then
    cl (f_X1_soonestHeading (X 42 14) ((-1)) X) fun r9 X10 =>
    cl (f_X1_minutesBy (X 42 14) r9 X10) fun r11 X12 =>
    some (r11, X12)
  else
    some (0, X)
def B_X1_soonestBy_143 (go75 : Int → Int → Int → Int → Mem → Option (Int × Mem)) (x2 : Int) (x4 : Int) (x8 : Int) (x9 : Int) (X : Mem) : Option (Int × Mem) :=
  cl (f_X1_spread x9 X) fun r16 X17 =>
  bd (la (la r16 x2) (lx x4 ((-1)))) fun v18 =>
  go75 x2 x4 v18 (x8 + 1) X17
def B_X1_soonestBy_137 (go75 : Int → Int → Int → Int → Mem → Option (Int × Mem)) (go95 : Int → Int → Int → Int → Int → Int → Mem → Option (Int × Mem)) (x2 : Int) (x4 : Int) (x6 : Int) (x8 : Int) (x9 : Int) (x11 : Int) (X : Mem) : Option (Int × Mem) :=
  go95 x2 x4 x6 x8 x9 (x11 + 1) X
def L_X1_soonestBy_95 (go75 : Int → Int → Int → Int → Mem → Option (Int × Mem)) : Nat → Int → Int → Int → Int → Int → Int → Mem → Option (Int × Mem)
  | 0, _, _, _, _, _, _, _ => none
  | n + 1, x2, x4, x6, x8, x9, x11, X =>
    cm RIV (X 42 11) <|
    cl (f_X2_cellCount (X 42 11) X) fun r14 X15 =>
    c2 x11 r14 <| if r14 ≤ x11 then
      B_X1_soonestBy_143  go75 x2 x4 x8 x9 X15
    else
      d2 (la (lushr x6 x11) 1) 1 <| if ¬ (la (lushr x6 x11) 1) = 1 then
        B_X1_soonestBy_137  go75 (fun x2 x4 x6 x8 x9 x11 X => L_X1_soonestBy_95  go75 n x2 x4 x6 x8 x9 x11 X) x2 x4 x6 x8 x9 x11 X15
      else
        cl (f_X1_settle x11 X15) fun r19 X20 =>
        c1 r19 <| if r19 = 0 then
          B_X1_soonestBy_137  go75 (fun x2 x4 x6 x8 x9 x11 X => L_X1_soonestBy_95  go75 n x2 x4 x6 x8 x9 x11 X) x2 x4 x6 x8 x9 x11 X20
        else
          bd (lo x9 (lshl 1 x11)) fun v21 =>
          B_X1_soonestBy_137  go75 (fun x2 x4 x6 x8 x9 x11 X => L_X1_soonestBy_95  go75 n x2 x4 x6 x8 x9 x11 X) x2 x4 x6 x8 v21 x11 X20
def L_X1_soonestBy_75 : Nat → Int → Int → Int → Int → Mem → Option (Int × Mem)
  | 0, _, _, _, _, _ => none
  | n + 1, x2, x4, x6, x8, X =>
    c2 x8 60 <| if 60 ≤ x8 then
      B_X1_soonestBy_166   X
    else
      d2 x6 0 <| if x6 = 0 then
        B_X1_soonestBy_166   X
      else
        L_X1_soonestBy_95  (fun x2 x4 x6 x8 X => L_X1_soonestBy_75   n x2 x4 x6 x8 X) KF x2 x4 x6 x8 0 0 X
def B_X1_soonestBy_55 (x2 : Int) (x4 : Int) (X : Mem) : Option (Int × Mem) :=
  cl (f_X1_spread x4 X) fun r6 X7 =>
  bd (la (la r6 x2) (lx x4 ((-1)))) fun v8 =>
  L_X1_soonestBy_75   KF x2 x4 v8 0 X7
def L_X1_soonestBy_26 : Nat → Int → Int → Int → Mem → Option (Int × Mem)
  | 0, _, _, _, _ => none
  | n + 1, x2, x4, x6, X =>
    c2 x6 8 <| if 8 ≤ x6 then
      B_X1_soonestBy_55   x2 x4 X
    else
      ax 480 (((X 42 15) * 8) + x6) <| bd (ms X 47 (((X 42 15) * 8) + x6) 0) fun X22 =>
      L_X1_soonestBy_26   n x2 x4 (x6 + 1) X22
def f_X1_soonestBy (p1 : Int) (X : Mem) : Option (Int × Mem) :=
  cl (f_X1_cellsBy p1 X) fun r1 X2 =>
  bd (lshl 1 (X2 42 15)) fun v3 =>
  cl (f_J7_fill_53178 47 480 1000000000 X2) fun _ X5 =>
  L_X1_soonestBy_26   KF r1 v3 0 X5
set_option maxRecDepth 20000 in
theorem gB_X1_soonestBy_166 {C : Cx} {V : Ev} {L : List Kd} (hC : Ok C V cX1_soonestBy RX1 12 3 76) (hR : Rt C V L (some .int) rI) (hL : LKc L)  (X : Mem)  : G C V L 0 0 12 166 [(0, vR V.1 42)] [] X (B_X1_soonestBy_166    X) := by
  unfold B_X1_soonestBy_166
  refine g_aload_n (q := 0) hC dX1_soonestBy_166 rfl rfl rfl ?_
  refine g_getI (k := 14) (kz := 14) hC cf_X1 (at_42 hL) (by decide) rfl (by decide) rfl wf_RX1_55 dX1_soonestBy_167 ?_
  refine g_aload_n (q := 0) hC dX1_soonestBy_170 rfl rfl rfl ?_
  refine g_getI (k := 15) (kz := 15) hC cf_X1 (at_42 hL) (by decide) rfl (by decide) rfl wf_RX1_58 dX1_soonestBy_171 ?_
  refine g_icmp_ne (tgt := 181) hC dX1_soonestBy_174 (by decide) ?_ ?_
  · refine g_aload_n (q := 0) hC dX1_soonestBy_181 rfl rfl rfl ?_
    refine g_aload_n (q := 0) hC dX1_soonestBy_182 rfl rfl rfl ?_
    refine g_getI (k := 14) (kz := 14) hC cf_X1 (at_42 hL) (by decide) rfl (by decide) rfl wf_RX1_55 dX1_soonestBy_183 ?_
    refine g_aload_n (q := 0) hC dX1_soonestBy_186 rfl rfl rfl ?_
    refine g_aload_n (q := 0) hC dX1_soonestBy_187 rfl rfl rfl ?_
    refine g_getI (k := 14) (kz := 14) hC cf_X1 (at_42 hL) (by decide) rfl (by decide) rfl wf_RX1_55 dX1_soonestBy_188 ?_
    refine g_iconst (v := vI (-1)) hC dX1_soonestBy_191 rfl ?_
    refine g_callVI (As := [vI (X 42 14), vI ((-1))]) hC mv_X1_soonestHeading wml_RX1_172 (k_X1_soonestHeading _ V hL (X 42 14) ((-1)) X) cf_X1 (at_42 hL) (by decide) ⟨Nat.zero_le _, Nat.zero_le _⟩ rfl rfl ⟨Nat.le_of_ble_eq_true rfl, Nat.le_of_ble_eq_true rfl⟩ (Nat.le_of_ble_eq_true rfl) dX1_soonestBy_192 (fun r9 X10 => ?_)
    refine g_callVI (As := [vI (X 42 14), vI r9]) hC mv_X1_minutesBy wml_RX1_176 (k_X1_minutesBy _ V hL (X 42 14) r9 X10) cf_X1 (at_42 hL) (by decide) ⟨Nat.zero_le _, Nat.zero_le _⟩ rfl rfl ⟨Nat.le_of_ble_eq_true rfl, Nat.le_of_ble_eq_true rfl⟩ (Nat.le_of_ble_eq_true rfl) dX1_soonestBy_195 (fun r11 X12 => ?_)
    exact g_iret hC hR dX1_soonestBy_198
  · refine g_iconst (v := vI 0) hC dX1_soonestBy_177 rfl ?_
    refine g_goto (tgt := 198) hC dX1_soonestBy_178 (by decide) ?_
    exact g_iret hC hR dX1_soonestBy_198
set_option maxRecDepth 20000 in
theorem gB_X1_soonestBy_143 {C : Cx} {V : Ev} {L : List Kd} (hC : Ok C V cX1_soonestBy RX1 12 3 76) (hR : Rt C V L (some .int) rI) (hL : LKc L) {go75 : Int → Int → Int → Int → Mem → Option (Int × Mem)} (hgo75 : ∀ (x2 : Int) (x4 : Int) (x6 : Int) (x8 : Int) (X : Mem), G C V L 0 0 12 75 [(0, vR V.1 42), (2, vJ x2), (4, vJ x4), (6, vJ x6), (8, vI x8)] [] X (go75 x2 x4 x6 x8 X)) (x2 : Int) (x4 : Int) (x8 : Int) (x9 : Int) (X : Mem)  : G C V L 0 0 12 143 [(0, vR V.1 42), (2, vJ x2), (4, vJ x4), (8, vI x8), (9, vJ x9)] [] X (B_X1_soonestBy_143  go75 x2 x4 x8 x9 X) := by
  unfold B_X1_soonestBy_143
  refine g_aload_n (q := 0) hC dX1_soonestBy_143 rfl rfl rfl ?_
  refine g_lload (q := 4) hC dX1_soonestBy_144 rfl ?_
  refine g_callVJ (As := [vJ x9]) hC mv_X1_spread wml_RX1_127 (k_X1_spread _ V hL x9 X) cf_X1 (at_42 hL) (by decide) ⟨Nat.zero_le _, Nat.zero_le _⟩ rfl rfl ⟨Nat.le_of_ble_eq_true rfl, Nat.le_of_ble_eq_true rfl⟩ (Nat.le_of_ble_eq_true rfl) dX1_soonestBy_146 (fun r16 X17 => ?_)
  refine g_lload_n (q := 1) hC dX1_soonestBy_149 rfl rfl ?_
  refine g_land hC dX1_soonestBy_150 ?_
  refine g_lload (q := 2) hC dX1_soonestBy_151 rfl ?_
  refine g_ldc2 (n := (-1)) hC wk_RX1_131 rfl dX1_soonestBy_153 ?_
  refine g_lxor hC dX1_soonestBy_156 ?_
  refine g_land hC dX1_soonestBy_157 ?_
  refine g_topJ (fun v18 => ?_)
  refine g_lstore hC dX1_soonestBy_158 (by decide) rfl ?_
  refine g_iinc (q := 4) hC dX1_soonestBy_160 rfl (by decide) rfl ?_
  refine g_goto (tgt := 75) hC dX1_soonestBy_163 (by decide) ?_
  refine g_sub [2, 3, 4, 1, 0] rfl ?_
  exact hgo75 x2 x4 v18 (x8 + 1) X17
set_option maxRecDepth 20000 in
theorem gB_X1_soonestBy_137 {C : Cx} {V : Ev} {L : List Kd} (hC : Ok C V cX1_soonestBy RX1 12 3 76) (hR : Rt C V L (some .int) rI) (hL : LKc L) {go75 : Int → Int → Int → Int → Mem → Option (Int × Mem)} {go95 : Int → Int → Int → Int → Int → Int → Mem → Option (Int × Mem)} (hgo75 : ∀ (x2 : Int) (x4 : Int) (x6 : Int) (x8 : Int) (X : Mem), G C V L 0 0 12 75 [(0, vR V.1 42), (2, vJ x2), (4, vJ x4), (6, vJ x6), (8, vI x8)] [] X (go75 x2 x4 x6 x8 X)) (hgo95 : ∀ (x2 : Int) (x4 : Int) (x6 : Int) (x8 : Int) (x9 : Int) (x11 : Int) (X : Mem), G C V L 0 0 12 95 [(0, vR V.1 42), (2, vJ x2), (4, vJ x4), (6, vJ x6), (8, vI x8), (9, vJ x9), (11, vI x11)] [] X (go95 x2 x4 x6 x8 x9 x11 X)) (x2 : Int) (x4 : Int) (x6 : Int) (x8 : Int) (x9 : Int) (x11 : Int) (X : Mem)  : G C V L 0 0 12 137 [(0, vR V.1 42), (2, vJ x2), (4, vJ x4), (6, vJ x6), (8, vI x8), (9, vJ x9), (11, vI x11)] [] X (B_X1_soonestBy_137  go75 go95 x2 x4 x6 x8 x9 x11 X) := by
  unfold B_X1_soonestBy_137
  refine g_iinc (q := 6) hC dX1_soonestBy_137 rfl (by decide) rfl ?_
  refine g_goto (tgt := 95) hC dX1_soonestBy_140 (by decide) ?_
  refine g_sub [1, 2, 3, 4, 5, 6, 0] rfl ?_
  exact hgo95 x2 x4 x6 x8 x9 (x11 + 1) X
set_option maxRecDepth 20000 in
theorem gL_X1_soonestBy_95 {C : Cx} {V : Ev} {L : List Kd} (hC : Ok C V cX1_soonestBy RX1 12 3 76) (hR : Rt C V L (some .int) rI) (hL : LKc L) {go75 : Int → Int → Int → Int → Mem → Option (Int × Mem)} (hgo75 : ∀ (x2 : Int) (x4 : Int) (x6 : Int) (x8 : Int) (X : Mem), G C V L 0 0 12 75 [(0, vR V.1 42), (2, vJ x2), (4, vJ x4), (6, vJ x6), (8, vI x8)] [] X (go75 x2 x4 x6 x8 X)) : ∀ (n : Nat) (x2 : Int) (x4 : Int) (x6 : Int) (x8 : Int) (x9 : Int) (x11 : Int) (X : Mem), G C V L 0 0 12 95 [(0, vR V.1 42), (2, vJ x2), (4, vJ x4), (6, vJ x6), (8, vI x8), (9, vJ x9), (11, vI x11)] [] X (L_X1_soonestBy_95  go75 n x2 x4 x6 x8 x9 x11 X) := by
  intro n
  induction n with
  | zero => intro x2 x4 x6 x8 x9 x11 X; exact g_none
  | succ n ih =>
    intro x2 x4 x6 x8 x9 x11 X
    rw [L_X1_soonestBy_95]
    refine g_iload (q := 6) hC dX1_soonestBy_95 rfl ?_
    refine g_aload_n (q := 0) hC dX1_soonestBy_97 rfl rfl rfl ?_
    refine g_getD (k := 11) (kz := 11) hC cf_X1 (at_42 hL) (by decide) rfl (by decide) rfl wf_RX1_70 dX1_soonestBy_98 (g_cm (l := RIV) fun m13 => ?_)
    refine g_callVI (As := []) hC mv_X2_cellCount wml_RX1_89 (k_X2_cellCount _ V (X 42 11) X (riv_of hL m13)) cf_X2 (rv_0 (riv_of hL m13)) (by decide) ⟨Nat.zero_le _, Nat.zero_le _⟩ rfl rfl ⟨Nat.le_of_ble_eq_true rfl, Nat.le_of_ble_eq_true rfl⟩ (Nat.le_of_ble_eq_true rfl) dX1_soonestBy_101 (fun r14 X15 => ?_)
    refine g_icmp_ge (tgt := 143) hC dX1_soonestBy_104 (by decide) ?_ ?_
    · refine g_sub [0, 1, 2, 4, 5] rfl ?_
      exact gB_X1_soonestBy_143 hC hR hL hgo75 x2 x4 x8 x9 X15
    · refine g_lload (q := 3) hC dX1_soonestBy_107 rfl ?_
      refine g_iload (q := 6) hC dX1_soonestBy_109 rfl ?_
      refine g_lushr hC dX1_soonestBy_111 ?_
      refine g_lconst (v := vJ 1) hC dX1_soonestBy_112 rfl ?_
      refine g_land hC dX1_soonestBy_113 ?_
      refine g_lconst (v := vJ 1) hC dX1_soonestBy_114 rfl ?_
      refine g_lcmp_ne (tgt := 137) hC dX1_soonestBy_115 rfl dX1_soonestBy_116 (by decide) ?_ ?_
      · exact gB_X1_soonestBy_137 hC hR hL hgo75 ih x2 x4 x6 x8 x9 x11 X15
      · refine g_aload_n (q := 0) hC dX1_soonestBy_119 rfl rfl rfl ?_
        refine g_iload (q := 6) hC dX1_soonestBy_120 rfl ?_
        refine g_callVI (As := [vI x11]) hC mv_X1_settle wml_RX1_169 (k_X1_settle _ V hL x11 X15) cf_X1 (at_42 hL) (by decide) ⟨Nat.zero_le _, Nat.zero_le _⟩ rfl rfl ⟨Nat.le_of_ble_eq_true rfl, Nat.le_of_ble_eq_true rfl⟩ (Nat.le_of_ble_eq_true rfl) dX1_soonestBy_122 (fun r19 X20 => ?_)
        refine g_if_eq (tgt := 137) hC dX1_soonestBy_125 (by decide) ?_ ?_
        · exact gB_X1_soonestBy_137 hC hR hL hgo75 ih x2 x4 x6 x8 x9 x11 X20
        · refine g_lload (q := 5) hC dX1_soonestBy_128 rfl ?_
          refine g_lconst (v := vJ 1) hC dX1_soonestBy_130 rfl ?_
          refine g_iload (q := 6) hC dX1_soonestBy_131 rfl ?_
          refine g_lshl hC dX1_soonestBy_133 ?_
          refine g_lor hC dX1_soonestBy_134 ?_
          refine g_topJ (fun v21 => ?_)
          refine g_lstore hC dX1_soonestBy_135 (by decide) rfl ?_
          refine g_sub [1, 2, 3, 4, 5, 0, 6] rfl ?_
          exact gB_X1_soonestBy_137 hC hR hL hgo75 ih x2 x4 x6 x8 v21 x11 X20
set_option maxRecDepth 20000 in
theorem gL_X1_soonestBy_75 {C : Cx} {V : Ev} {L : List Kd} (hC : Ok C V cX1_soonestBy RX1 12 3 76) (hR : Rt C V L (some .int) rI) (hL : LKc L) : ∀ (n : Nat) (x2 : Int) (x4 : Int) (x6 : Int) (x8 : Int) (X : Mem), G C V L 0 0 12 75 [(0, vR V.1 42), (2, vJ x2), (4, vJ x4), (6, vJ x6), (8, vI x8)] [] X (L_X1_soonestBy_75   n x2 x4 x6 x8 X) := by
  intro n
  induction n with
  | zero => intro x2 x4 x6 x8 X; exact g_none
  | succ n ih =>
    intro x2 x4 x6 x8 X
    rw [L_X1_soonestBy_75]
    refine g_iload (q := 4) hC dX1_soonestBy_75 rfl ?_
    refine g_bipush (v := vI 60) hC dX1_soonestBy_77 rfl ?_
    refine g_icmp_ge (tgt := 166) hC dX1_soonestBy_79 (by decide) ?_ ?_
    · refine g_sub [0] rfl ?_
      exact gB_X1_soonestBy_166 hC hR hL  X
    · refine g_lload (q := 3) hC dX1_soonestBy_82 rfl ?_
      refine g_lconst (v := vJ 0) hC dX1_soonestBy_84 rfl ?_
      refine g_lcmp_eq (tgt := 166) hC dX1_soonestBy_85 rfl dX1_soonestBy_86 (by decide) ?_ ?_
      · refine g_sub [0] rfl ?_
        exact gB_X1_soonestBy_166 hC hR hL  X
      · refine g_lconst (v := vJ 0) hC dX1_soonestBy_89 rfl ?_
        refine g_lstore hC dX1_soonestBy_90 (by decide) rfl ?_
        refine g_iconst (v := vI 0) hC dX1_soonestBy_92 rfl ?_
        refine g_istore hC dX1_soonestBy_93 (by decide) rfl ?_
        refine g_sub [2, 3, 4, 5, 6, 1, 0] rfl ?_
        exact gL_X1_soonestBy_95 hC hR hL ih KF x2 x4 x6 x8 0 0 X
set_option maxRecDepth 20000 in
theorem gB_X1_soonestBy_55 {C : Cx} {V : Ev} {L : List Kd} (hC : Ok C V cX1_soonestBy RX1 12 3 76) (hR : Rt C V L (some .int) rI) (hL : LKc L) (x2 : Int) (x4 : Int) (X : Mem)  : G C V L 0 0 12 55 [(0, vR V.1 42), (2, vJ x2), (4, vJ x4)] [] X (B_X1_soonestBy_55   x2 x4 X) := by
  unfold B_X1_soonestBy_55
  refine g_aload_n (q := 0) hC dX1_soonestBy_55 rfl rfl rfl ?_
  refine g_lload (q := 2) hC dX1_soonestBy_56 rfl ?_
  refine g_callVJ (As := [vJ x4]) hC mv_X1_spread wml_RX1_127 (k_X1_spread _ V hL x4 X) cf_X1 (at_42 hL) (by decide) ⟨Nat.zero_le _, Nat.zero_le _⟩ rfl rfl ⟨Nat.le_of_ble_eq_true rfl, Nat.le_of_ble_eq_true rfl⟩ (Nat.le_of_ble_eq_true rfl) dX1_soonestBy_58 (fun r6 X7 => ?_)
  refine g_lload_n (q := 1) hC dX1_soonestBy_61 rfl rfl ?_
  refine g_land hC dX1_soonestBy_62 ?_
  refine g_lload (q := 2) hC dX1_soonestBy_63 rfl ?_
  refine g_ldc2 (n := (-1)) hC wk_RX1_131 rfl dX1_soonestBy_65 ?_
  refine g_lxor hC dX1_soonestBy_68 ?_
  refine g_land hC dX1_soonestBy_69 ?_
  refine g_topJ (fun v8 => ?_)
  refine g_lstore hC dX1_soonestBy_70 (by decide) rfl ?_
  refine g_iconst (v := vI 0) hC dX1_soonestBy_72 rfl ?_
  refine g_istore hC dX1_soonestBy_73 (by decide) rfl ?_
  refine g_sub [2, 3, 4, 1, 0] rfl ?_
  exact gL_X1_soonestBy_75 hC hR hL  KF x2 x4 v8 0 X7
set_option maxRecDepth 20000 in
theorem gL_X1_soonestBy_26 {C : Cx} {V : Ev} {L : List Kd} (hC : Ok C V cX1_soonestBy RX1 12 3 76) (hR : Rt C V L (some .int) rI) (hL : LKc L) : ∀ (n : Nat) (x2 : Int) (x4 : Int) (x6 : Int) (X : Mem), G C V L 0 0 12 26 [(0, vR V.1 42), (2, vJ x2), (4, vJ x4), (6, vI x6)] [] X (L_X1_soonestBy_26   n x2 x4 x6 X) := by
  intro n
  induction n with
  | zero => intro x2 x4 x6 X; exact g_none
  | succ n ih =>
    intro x2 x4 x6 X
    rw [L_X1_soonestBy_26]
    refine g_iload (q := 3) hC dX1_soonestBy_26 rfl ?_
    refine g_bipush (v := vI 8) hC dX1_soonestBy_28 rfl ?_
    refine g_icmp_ge (tgt := 55) hC dX1_soonestBy_30 (by decide) ?_ ?_
    · refine g_sub [0, 1, 2] rfl ?_
      exact gB_X1_soonestBy_55 hC hR hL  x2 x4 X
    · refine g_aload_n (q := 0) hC dX1_soonestBy_33 rfl rfl rfl ?_
      refine g_getS (k := 5) hC cf_X1 (at_42 hL) (by decide) rfl (by decide) (by decide) wf_RX1_30 dX1_soonestBy_34 ?_
      refine g_aload_n (q := 0) hC dX1_soonestBy_37 rfl rfl rfl ?_
      refine g_getI (k := 15) (kz := 15) hC cf_X1 (at_42 hL) (by decide) rfl (by decide) rfl wf_RX1_58 dX1_soonestBy_38 ?_
      refine g_bipush (v := vI 8) hC dX1_soonestBy_41 rfl ?_
      refine g_imul hC dX1_soonestBy_43 ?_
      refine g_iload (q := 3) hC dX1_soonestBy_44 rfl ?_
      refine g_iadd hC dX1_soonestBy_46 ?_
      refine g_iconst (v := vI 0) hC dX1_soonestBy_47 rfl ?_
      refine g_iast hC (at_47 hL) (by decide) dX1_soonestBy_48 (fun X22 => ?_)
      refine g_iinc (q := 3) hC dX1_soonestBy_49 rfl (by decide) rfl ?_
      refine g_goto (tgt := 26) hC dX1_soonestBy_52 (by decide) ?_
      refine g_sub [1, 2, 3, 0] rfl ?_
      exact ih x2 x4 (x6 + 1) X22
set_option maxRecDepth 20000 in
theorem k_X1_soonestBy (l : Launch) (V : Ev) {L : List Kd} (hL : LKc L) (p1 : Int) (X : Mem)  : Kt l V L yX1_soonestBy (.code yX1_soonestBy cX1_soonestBy 12 (some .int)) 3 76 [vR V.1 42, vI p1] rI X (f_X1_soonestBy p1 X) := by
  refine kt_of (own := RX1) (lv0 := [(0, vR V.1 42), (1, vI p1)]) (by decide) rfl (Nat.le_of_ble_eq_true rfl) rfl (fun C hCl hC hR => ?_)
  subst hCl
  unfold f_X1_soonestBy
  refine g_aload_n (q := 0) hC dX1_soonestBy_0 rfl rfl rfl ?_
  refine g_iload_n (q := 1) hC dX1_soonestBy_1 rfl rfl ?_
  refine g_callVJ (As := [vI p1]) hC mv_X1_cellsBy wml_RX1_116 (k_X1_cellsBy _ V hL p1 X) cf_X1 (at_42 hL) (by decide) ⟨Nat.zero_le _, Nat.zero_le _⟩ rfl rfl ⟨Nat.le_of_ble_eq_true rfl, Nat.le_of_ble_eq_true rfl⟩ (Nat.le_of_ble_eq_true rfl) dX1_soonestBy_2 (fun r1 X2 => ?_)
  refine g_lstore_n hC dX1_soonestBy_5 rfl (by decide) rfl ?_
  refine g_lconst (v := vJ 1) hC dX1_soonestBy_6 rfl ?_
  refine g_aload_n (q := 1) hC dX1_soonestBy_7 rfl rfl rfl ?_
  refine g_getI (k := 15) (kz := 15) hC cf_X1 (at_42 hL) (by decide) rfl (by decide) rfl wf_RX1_58 dX1_soonestBy_8 ?_
  refine g_lshl hC dX1_soonestBy_11 ?_
  refine g_topJ (fun v3 => ?_)
  refine g_lstore hC dX1_soonestBy_12 (by decide) rfl ?_
  refine g_aload_n (q := 2) hC dX1_soonestBy_14 rfl rfl rfl ?_
  refine g_getS (k := 5) hC cf_X1 (at_42 hL) (by decide) rfl (by decide) (by decide) wf_RX1_30 dX1_soonestBy_15 ?_
  refine g_ldc (n := 1000000000) hC wk_RX1_154 rfl dX1_soonestBy_18 ?_
  refine g_callSV (As := [vR V.1 47, vI 1000000000]) hC mt_J7_fill_53178 wml_RX1_166 (k_J7_fill_53178 _ V 47 480 1000000000 X2 (by decide) (at_47 hL)) ⟨Nat.zero_le _, Nat.zero_le _⟩ rfl rfl ⟨Nat.le_of_ble_eq_true rfl, Nat.le_of_ble_eq_true rfl⟩ (Nat.le_of_ble_eq_true rfl) dX1_soonestBy_20 (fun _ X5 => ?_)
  refine g_iconst (v := vI 0) hC dX1_soonestBy_23 rfl ?_
  refine g_istore hC dX1_soonestBy_24 (by decide) rfl ?_
  refine g_sub [3, 2, 1, 0] rfl ?_
  exact gL_X1_soonestBy_26 hC hR hL  KF r1 v3 0 X5
def L_X1_keepWay_29 : Nat → Int → Int → Int → Mem → Option (Int × Mem)
  | 0, _, _, _, _ => none
  | n + 1, x2, x3, x4, X =>
    c2 x3 (X 42 15) <| if x3 = (X 42 15) then
      some (x2, X)
    else
      c2 (X 42 7) 60 <| if 60 ≤ (X 42 7) then
        some (x2, X)
      else
        cl (f_X1_soonestHeading x3 x4 X) fun r6 X7 =>
        cm RIV (X7 42 11) <|
        cl (f_X2_beside (X7 42 11) x3 r6 X7) fun r9 X10 =>
        c2 r9 ((-1)) <| if ¬ r9 = ((-1)) then
          ax 60 (X10 42 7) <| bd (ms X10 48 (X10 42 7) r9) fun X11 =>
          bd (ms X11 42 7 ((X11 42 7) + 1)) fun X12 =>
          L_X1_keepWay_29   n x2 r9 r6 X12
        else
          some (x2, X10)
def f_X1_keepWay (p1 : Int) (X : Mem) : Option (Int × Mem) :=
  cl (f_X1_soonestBy p1 X) fun r1 X2 =>
  bd (X2 42 14) fun v3 =>
  bd (ms X2 42 7 1) fun X4 =>
  ax 60 0 <| bd (ms X4 48 0 (X4 42 14)) fun X5 =>
  L_X1_keepWay_29   KF r1 v3 ((-1)) X5
set_option maxRecDepth 20000 in
theorem gL_X1_keepWay_29 {C : Cx} {V : Ev} {L : List Kd} (hC : Ok C V cX1_keepWay RX1 6 4 107) (hR : Rt C V L (some .int) rI) (hL : LKc L) : ∀ (n : Nat) (x2 : Int) (x3 : Int) (x4 : Int) (X : Mem), G C V L 0 0 6 29 [(0, vR V.1 42), (2, vI x2), (3, vI x3), (4, vI x4)] [] X (L_X1_keepWay_29   n x2 x3 x4 X) := by
  intro n
  induction n with
  | zero => intro x2 x3 x4 X; exact g_none
  | succ n ih =>
    intro x2 x3 x4 X
    rw [L_X1_keepWay_29]
    refine g_iload_n (q := 2) hC dX1_keepWay_29 rfl rfl ?_
    refine g_aload_n (q := 0) hC dX1_keepWay_30 rfl rfl rfl ?_
    refine g_getI (k := 15) (kz := 15) hC cf_X1 (at_42 hL) (by decide) rfl (by decide) rfl wf_RX1_58 dX1_keepWay_31 ?_
    refine g_icmp_eq (tgt := 102) hC dX1_keepWay_34 (by decide) ?_ ?_
    · refine g_iload_n (q := 1) hC dX1_keepWay_102 rfl rfl ?_
      exact g_iret hC hR dX1_keepWay_103
    · refine g_aload_n (q := 0) hC dX1_keepWay_37 rfl rfl rfl ?_
      refine g_getI (k := 7) (kz := 7) hC cf_X1 (at_42 hL) (by decide) rfl (by decide) rfl wf_RX1_36 dX1_keepWay_38 ?_
      refine g_bipush (v := vI 60) hC dX1_keepWay_41 rfl ?_
      refine g_icmp_ge (tgt := 102) hC dX1_keepWay_43 (by decide) ?_ ?_
      · refine g_iload_n (q := 1) hC dX1_keepWay_102 rfl rfl ?_
        exact g_iret hC hR dX1_keepWay_103
      · refine g_aload_n (q := 0) hC dX1_keepWay_46 rfl rfl rfl ?_
        refine g_iload_n (q := 2) hC dX1_keepWay_47 rfl rfl ?_
        refine g_iload (q := 3) hC dX1_keepWay_48 rfl ?_
        refine g_callVI (As := [vI x3, vI x4]) hC mv_X1_soonestHeading wml_RX1_172 (k_X1_soonestHeading _ V hL x3 x4 X) cf_X1 (at_42 hL) (by decide) ⟨Nat.zero_le _, Nat.zero_le _⟩ rfl rfl ⟨Nat.le_of_ble_eq_true rfl, Nat.le_of_ble_eq_true rfl⟩ (Nat.le_of_ble_eq_true rfl) dX1_keepWay_50 (fun r6 X7 => ?_)
        refine g_istore hC dX1_keepWay_53 (by decide) rfl ?_
        refine g_aload_n (q := 1) hC dX1_keepWay_55 rfl rfl rfl ?_
        refine g_getD (k := 11) (kz := 11) hC cf_X1 (at_42 hL) (by decide) rfl (by decide) rfl wf_RX1_70 dX1_keepWay_56 (g_cm (l := RIV) fun m8 => ?_)
        refine g_iload_n (q := 3) hC dX1_keepWay_59 rfl rfl ?_
        refine g_iload (q := 0) hC dX1_keepWay_60 rfl ?_
        refine g_callVI (As := [vI x3, vI r6]) hC mv_X2_beside wml_RX1_182 (k_X2_beside _ V (X7 42 11) x3 r6 X7 (riv_of hL m8)) cf_X2 (rv_0 (riv_of hL m8)) (by decide) ⟨Nat.zero_le _, Nat.zero_le _⟩ rfl rfl ⟨Nat.le_of_ble_eq_true rfl, Nat.le_of_ble_eq_true rfl⟩ (Nat.le_of_ble_eq_true rfl) dX1_keepWay_62 (fun r9 X10 => ?_)
        refine g_istore hC dX1_keepWay_65 (by decide) rfl ?_
        refine g_iload (q := 0) hC dX1_keepWay_67 rfl ?_
        refine g_iconst (v := vI (-1)) hC dX1_keepWay_69 rfl ?_
        refine g_icmp_ne (tgt := 76) hC dX1_keepWay_70 (by decide) ?_ ?_
        · refine g_iload (q := 0) hC dX1_keepWay_76 rfl ?_
          refine g_istore_n hC dX1_keepWay_78 rfl (by decide) rfl ?_
          refine g_aload_n (q := 3) hC dX1_keepWay_79 rfl rfl rfl ?_
          refine g_getS (k := 6) hC cf_X1 (at_42 hL) (by decide) rfl (by decide) (by decide) wf_RX1_33 dX1_keepWay_80 ?_
          refine g_aload_n (q := 3) hC dX1_keepWay_83 rfl rfl rfl ?_
          refine g_getI (k := 7) (kz := 7) hC cf_X1 (at_42 hL) (by decide) rfl (by decide) rfl wf_RX1_36 dX1_keepWay_84 ?_
          refine g_iload_n (q := 0) hC dX1_keepWay_87 rfl rfl ?_
          refine g_iast hC (at_48 hL) (by decide) dX1_keepWay_88 (fun X11 => ?_)
          refine g_aload_n (q := 3) hC dX1_keepWay_89 rfl rfl rfl ?_
          refine g_dup hC dX1_keepWay_90 rfl ?_
          refine g_getI (k := 7) (kz := 7) hC cf_X1 (at_42 hL) (by decide) rfl (by decide) rfl wf_RX1_36 dX1_keepWay_91 ?_
          refine g_iconst (v := vI 1) hC dX1_keepWay_94 rfl ?_
          refine g_iadd hC dX1_keepWay_95 ?_
          refine g_putI (k := 7) (kz := 7) hC cf_X1 (at_42 hL) (by decide) rfl (by decide) rfl wf_RX1_36 rfl rfl dX1_keepWay_96 (fun X12 => ?_)
          refine g_goto (tgt := 29) hC dX1_keepWay_99 (by decide) ?_
          refine g_sub [3, 4, 0, 2] rfl ?_
          exact ih x2 r9 r6 X12
        · refine g_goto (tgt := 102) hC dX1_keepWay_73 (by decide) ?_
          refine g_iload_n (q := 3) hC dX1_keepWay_102 rfl rfl ?_
          exact g_iret hC hR dX1_keepWay_103
set_option maxRecDepth 20000 in
theorem k_X1_keepWay (l : Launch) (V : Ev) {L : List Kd} (hL : LKc L) (p1 : Int) (X : Mem)  : Kt l V L yX1_keepWay (.code yX1_keepWay cX1_keepWay 6 (some .int)) 4 107 [vR V.1 42, vI p1] rI X (f_X1_keepWay p1 X) := by
  refine kt_of (own := RX1) (lv0 := [(0, vR V.1 42), (1, vI p1)]) (by decide) rfl (Nat.le_of_ble_eq_true rfl) rfl (fun C hCl hC hR => ?_)
  subst hCl
  unfold f_X1_keepWay
  refine g_aload_n (q := 0) hC dX1_keepWay_0 rfl rfl rfl ?_
  refine g_iload_n (q := 1) hC dX1_keepWay_1 rfl rfl ?_
  refine g_callVI (As := [vI p1]) hC mv_X1_soonestBy wml_RX1_155 (k_X1_soonestBy _ V hL p1 X) cf_X1 (at_42 hL) (by decide) ⟨Nat.zero_le _, Nat.zero_le _⟩ rfl rfl ⟨Nat.le_of_ble_eq_true rfl, Nat.le_of_ble_eq_true rfl⟩ (Nat.le_of_ble_eq_true rfl) dX1_keepWay_2 (fun r1 X2 => ?_)
  refine g_istore_n hC dX1_keepWay_5 rfl (by decide) rfl ?_
  refine g_aload_n (q := 1) hC dX1_keepWay_6 rfl rfl rfl ?_
  refine g_getI (k := 14) (kz := 14) hC cf_X1 (at_42 hL) (by decide) rfl (by decide) rfl wf_RX1_55 dX1_keepWay_7 ?_
  refine g_topI (fun v3 => ?_)
  refine g_istore_n hC dX1_keepWay_10 rfl (by decide) rfl ?_
  refine g_iconst (v := vI (-1)) hC dX1_keepWay_11 rfl ?_
  refine g_istore hC dX1_keepWay_12 (by decide) rfl ?_
  refine g_aload_n (q := 3) hC dX1_keepWay_14 rfl rfl rfl ?_
  refine g_iconst (v := vI 1) hC dX1_keepWay_15 rfl ?_
  refine g_putI (k := 7) (kz := 7) hC cf_X1 (at_42 hL) (by decide) rfl (by decide) rfl wf_RX1_36 rfl rfl dX1_keepWay_16 (fun X4 => ?_)
  refine g_aload_n (q := 3) hC dX1_keepWay_19 rfl rfl rfl ?_
  refine g_getS (k := 6) hC cf_X1 (at_42 hL) (by decide) rfl (by decide) (by decide) wf_RX1_33 dX1_keepWay_20 ?_
  refine g_iconst (v := vI 0) hC dX1_keepWay_23 rfl ?_
  refine g_aload_n (q := 3) hC dX1_keepWay_24 rfl rfl rfl ?_
  refine g_getI (k := 14) (kz := 14) hC cf_X1 (at_42 hL) (by decide) rfl (by decide) rfl wf_RX1_55 dX1_keepWay_25 ?_
  refine g_iast hC (at_48 hL) (by decide) dX1_keepWay_28 (fun X5 => ?_)
  refine g_sub [3, 2, 1, 0] rfl ?_
  exact gL_X1_keepWay_29 hC hR hL  KF r1 v3 ((-1)) X5
def B_X11_soonest_24  (X : Mem) : Option (Int × Mem) :=
  cl (f_X11_fail 1 X) fun r3 X4 =>
  some (r3, X4)
def f_X11_soonest (p1 : Int) (p2 : Int) (p3 : Int) (X : Mem) : Option (Int × Mem) :=
  cl (f_X11_isCell p1 X) fun r1 X2 =>
  c1 r1 <| if r1 = 0 then
    B_X11_soonest_24   X2
  else
    cl (f_X11_isCell p2 X2) fun r5 X6 =>
    c1 r5 <| if r5 = 0 then
      B_X11_soonest_24   X6
    else
      cl (f_X11_isSet p3 X6) fun r7 X8 =>
      c1 r7 <| if ¬ r7 = 0 then
        cm RIV (X8 2 0) <|
        cl (f_X1_look (X8 2 0) (X8 2 3) (X8 2 4) X8) fun _ X11 =>
        cl (f_X1_search p1 p2 X11) fun r12 X13 =>
        ax 32 p3 <|
        c1 (X13 43 p3) <| if ¬ (X13 43 p3) = 0 then
          cl (f_X1_keepWay p3 X13) fun r14 X15 =>
          cl (f_X11_answer r14 X15) fun r16 X17 =>
          some (r16, X17)
        else
          cl (f_X11_fail 6 X13) fun r18 X19 =>
          some (r18, X19)
      else
        B_X11_soonest_24   X8
set_option maxRecDepth 20000 in
theorem gB_X11_soonest_24 {C : Cx} {V : Ev} {L : List Kd} (hC : Ok C V cX11_soonest RX11 4 5 132) (hR : Rt C V L (some .int) rI) (hL : LKc L)  (X : Mem)  : G C V L 0 0 4 24 [(0, vR V.1 0)] [] X (B_X11_soonest_24    X) := by
  unfold B_X11_soonest_24
  refine g_aload_n (q := 0) hC dX11_soonest_24 rfl rfl rfl ?_
  refine g_iconst (v := vI 1) hC dX11_soonest_25 rfl ?_
  refine g_callVI (As := [vI 1]) hC mv_X11_fail wml_RX11_162 (k_X11_fail _ V hL 1 X) cf_X11 (at_0 hL) (by decide) ⟨Nat.zero_le _, Nat.zero_le _⟩ rfl rfl ⟨Nat.le_of_ble_eq_true rfl, Nat.le_of_ble_eq_true rfl⟩ (Nat.le_of_ble_eq_true rfl) dX11_soonest_26 (fun r3 X4 => ?_)
  exact g_iret hC hR dX11_soonest_29
set_option maxRecDepth 20000 in
theorem k_X11_soonest (l : Launch) (V : Ev) {L : List Kd} (hL : LKc L) (p1 : Int) (p2 : Int) (p3 : Int) (X : Mem)  : Kt l V L yX11_soonest (.code yX11_soonest cX11_soonest 4 (some .int)) 5 132 [vR V.1 0, vI p1, vI p2, vI p3] rI X (f_X11_soonest p1 p2 p3 X) := by
  refine kt_of (own := RX11) (lv0 := [(0, vR V.1 0), (1, vI p1), (2, vI p2), (3, vI p3)]) (by decide) rfl (Nat.le_of_ble_eq_true rfl) rfl (fun C hCl hC hR => ?_)
  subst hCl
  unfold f_X11_soonest
  refine g_aload_n (q := 0) hC dX11_soonest_0 rfl rfl rfl ?_
  refine g_iload_n (q := 1) hC dX11_soonest_1 rfl rfl ?_
  refine g_callVI (As := [vI p1]) hC mv_X11_isCell wml_RX11_278 (k_X11_isCell _ V hL p1 X) cf_X11 (at_0 hL) (by decide) ⟨Nat.zero_le _, Nat.zero_le _⟩ rfl rfl ⟨Nat.le_of_ble_eq_true rfl, Nat.le_of_ble_eq_true rfl⟩ (Nat.le_of_ble_eq_true rfl) dX11_soonest_2 (fun r1 X2 => ?_)
  refine g_if_eq (tgt := 24) hC dX11_soonest_5 (by decide) ?_ ?_
  · refine g_sub [0] rfl ?_
    exact gB_X11_soonest_24 hC hR hL  X2
  · refine g_aload_n (q := 0) hC dX11_soonest_8 rfl rfl rfl ?_
    refine g_iload_n (q := 2) hC dX11_soonest_9 rfl rfl ?_
    refine g_callVI (As := [vI p2]) hC mv_X11_isCell wml_RX11_278 (k_X11_isCell _ V hL p2 X2) cf_X11 (at_0 hL) (by decide) ⟨Nat.zero_le _, Nat.zero_le _⟩ rfl rfl ⟨Nat.le_of_ble_eq_true rfl, Nat.le_of_ble_eq_true rfl⟩ (Nat.le_of_ble_eq_true rfl) dX11_soonest_10 (fun r5 X6 => ?_)
    refine g_if_eq (tgt := 24) hC dX11_soonest_13 (by decide) ?_ ?_
    · refine g_sub [0] rfl ?_
      exact gB_X11_soonest_24 hC hR hL  X6
    · refine g_aload_n (q := 0) hC dX11_soonest_16 rfl rfl rfl ?_
      refine g_iload_n (q := 3) hC dX11_soonest_17 rfl rfl ?_
      refine g_callVI (As := [vI p3]) hC mv_X11_isSet wml_RX11_287 (k_X11_isSet _ V hL p3 X6) cf_X11 (at_0 hL) (by decide) ⟨Nat.zero_le _, Nat.zero_le _⟩ rfl rfl ⟨Nat.le_of_ble_eq_true rfl, Nat.le_of_ble_eq_true rfl⟩ (Nat.le_of_ble_eq_true rfl) dX11_soonest_18 (fun r7 X8 => ?_)
      refine g_if_ne (tgt := 30) hC dX11_soonest_21 (by decide) ?_ ?_
      · refine g_aload_n (q := 0) hC dX11_soonest_30 rfl rfl rfl ?_
        refine g_getS (k := 9) hC cf_X11 (at_0 hL) (by decide) rfl (by decide) (by decide) wf_RX11_80 dX11_soonest_31 ?_
        refine g_aload_n (q := 0) hC dX11_soonest_34 rfl rfl rfl ?_
        refine g_getS (k := 1) hC cf_X11 (at_0 hL) (by decide) rfl (by decide) (by decide) wf_RX11_18 dX11_soonest_35 ?_
        refine g_getD (k := 0) (kz := 0) hC cf_X7 (at_2 hL) (by decide) rfl (by decide) rfl wf_RX11_58 dX11_soonest_38 (g_cm (l := RIV) fun m9 => ?_)
        refine g_aload_n (q := 0) hC dX11_soonest_41 rfl rfl rfl ?_
        refine g_getS (k := 1) hC cf_X11 (at_0 hL) (by decide) rfl (by decide) (by decide) wf_RX11_18 dX11_soonest_42 ?_
        refine g_getI (k := 3) (kz := 3) hC cf_X7 (at_2 hL) (by decide) rfl (by decide) rfl wf_RX11_227 dX11_soonest_45 ?_
        refine g_aload_n (q := 0) hC dX11_soonest_48 rfl rfl rfl ?_
        refine g_getS (k := 1) hC cf_X11 (at_0 hL) (by decide) rfl (by decide) (by decide) wf_RX11_18 dX11_soonest_49 ?_
        refine g_getI (k := 4) (kz := 4) hC cf_X7 (at_2 hL) (by decide) rfl (by decide) rfl wf_RX11_230 dX11_soonest_52 ?_
        refine g_callVV (As := [vR V.1 (X8 2 0), vI (X8 2 3), vI (X8 2 4)]) hC mv_X1_look wml_RX11_294 (k_X1_look _ V hL (X8 2 0) (X8 2 3) (X8 2 4) X8 (riv_of hL m9)) cf_X1 (at_42 hL) (by decide) ⟨Nat.zero_le _, Nat.zero_le _⟩ rfl rfl ⟨Nat.le_of_ble_eq_true rfl, Nat.le_of_ble_eq_true rfl⟩ (Nat.le_of_ble_eq_true rfl) dX11_soonest_55 (fun _ X11 => ?_)
        refine g_aload_n (q := 0) hC dX11_soonest_58 rfl rfl rfl ?_
        refine g_getS (k := 9) hC cf_X11 (at_0 hL) (by decide) rfl (by decide) (by decide) wf_RX11_80 dX11_soonest_59 ?_
        refine g_iload_n (q := 1) hC dX11_soonest_62 rfl rfl ?_
        refine g_iload_n (q := 2) hC dX11_soonest_63 rfl rfl ?_
        refine g_callVI (As := [vI p1, vI p2]) hC mv_X1_search wml_RX11_340 (k_X1_search _ V hL p1 p2 X11) cf_X1 (at_42 hL) (by decide) ⟨Nat.zero_le _, Nat.zero_le _⟩ rfl rfl ⟨Nat.le_of_ble_eq_true rfl, Nat.le_of_ble_eq_true rfl⟩ (Nat.le_of_ble_eq_true rfl) dX11_soonest_64 (fun r12 X13 => ?_)
        refine g_pop hC dX11_soonest_67 rfl ?_
        refine g_aload_n (q := 0) hC dX11_soonest_68 rfl rfl rfl ?_
        refine g_getS (k := 9) hC cf_X11 (at_0 hL) (by decide) rfl (by decide) (by decide) wf_RX11_80 dX11_soonest_69 ?_
        refine g_getS (k := 0) hC cf_X1 (at_42 hL) (by decide) rfl (by decide) (by decide) wf_RX11_343 dX11_soonest_72 ?_
        refine g_iload_n (q := 3) hC dX11_soonest_75 rfl rfl ?_
        refine g_zald hC (at_43 hL) (by decide) dX11_soonest_76 ?_
        refine g_if_ne (tgt := 87) hC dX11_soonest_77 (by decide) ?_ ?_
        · refine g_aload_n (q := 0) hC dX11_soonest_87 rfl rfl rfl ?_
          refine g_aload_n (q := 0) hC dX11_soonest_88 rfl rfl rfl ?_
          refine g_getS (k := 9) hC cf_X11 (at_0 hL) (by decide) rfl (by decide) (by decide) wf_RX11_80 dX11_soonest_89 ?_
          refine g_iload_n (q := 3) hC dX11_soonest_92 rfl rfl ?_
          refine g_callVI (As := [vI p3]) hC mv_X1_keepWay wml_RX11_347 (k_X1_keepWay _ V hL p3 X13) cf_X1 (at_42 hL) (by decide) ⟨Nat.zero_le _, Nat.zero_le _⟩ rfl rfl ⟨Nat.le_of_ble_eq_true rfl, Nat.le_of_ble_eq_true rfl⟩ (Nat.le_of_ble_eq_true rfl) dX11_soonest_93 (fun r14 X15 => ?_)
          refine g_callVI (As := [vI r14]) hC mv_X11_answer wml_RX11_200 (k_X11_answer _ V hL r14 X15) cf_X11 (at_0 hL) (by decide) ⟨Nat.zero_le _, Nat.zero_le _⟩ rfl rfl ⟨Nat.le_of_ble_eq_true rfl, Nat.le_of_ble_eq_true rfl⟩ (Nat.le_of_ble_eq_true rfl) dX11_soonest_96 (fun r16 X17 => ?_)
          exact g_iret hC hR dX11_soonest_99
        · refine g_aload_n (q := 0) hC dX11_soonest_80 rfl rfl rfl ?_
          refine g_bipush (v := vI 6) hC dX11_soonest_81 rfl ?_
          refine g_callVI (As := [vI 6]) hC mv_X11_fail wml_RX11_162 (k_X11_fail _ V hL 6 X13) cf_X11 (at_0 hL) (by decide) ⟨Nat.zero_le _, Nat.zero_le _⟩ rfl rfl ⟨Nat.le_of_ble_eq_true rfl, Nat.le_of_ble_eq_true rfl⟩ (Nat.le_of_ble_eq_true rfl) dX11_soonest_83 (fun r18 X19 => ?_)
          exact g_iret hC hR dX11_soonest_86
      · refine g_sub [0] rfl ?_
        exact gB_X11_soonest_24 hC hR hL  X8
def f_X11_choiceStatus (p1 : Int) (p2 : Int) (X : Mem) : Option (Int × Mem) :=
  cl (f_X11_isCell p1 X) fun r1 X2 =>
  c1 r1 <| if r1 = 0 then
    some (1, X2)
  else
    cl (f_X11_isCell p2 X2) fun r3 X4 =>
    c1 r3 <| if ¬ r3 = 0 then
      cm RIV (X4 2 0) <|
      cl (f_X1_look (X4 2 0) (X4 2 3) (X4 2 4) X4) fun _ X7 =>
      cl (f_X1_search p1 p2 X7) fun r8 X9 =>
      c1 r8 <| if r8 = 0 then
        some (6, X9)
      else
        some (0, X9)
    else
      some (1, X4)
set_option maxRecDepth 20000 in
theorem k_X11_choiceStatus (l : Launch) (V : Ev) {L : List Kd} (hL : LKc L) (p1 : Int) (p2 : Int) (X : Mem)  : Kt l V L yX11_choiceStatus (.code yX11_choiceStatus cX11_choiceStatus 3 (some .int)) 3 76 [vR V.1 0, vI p1, vI p2] rI X (f_X11_choiceStatus p1 p2 X) := by
  refine kt_of (own := RX11) (lv0 := [(0, vR V.1 0), (1, vI p1), (2, vI p2)]) (by decide) rfl (Nat.le_of_ble_eq_true rfl) rfl (fun C hCl hC hR => ?_)
  subst hCl
  unfold f_X11_choiceStatus
  refine g_aload_n (q := 0) hC dX11_choiceStatus_0 rfl rfl rfl ?_
  refine g_iload_n (q := 1) hC dX11_choiceStatus_1 rfl rfl ?_
  refine g_callVI (As := [vI p1]) hC mv_X11_isCell wml_RX11_278 (k_X11_isCell _ V hL p1 X) cf_X11 (at_0 hL) (by decide) ⟨Nat.zero_le _, Nat.zero_le _⟩ rfl rfl ⟨Nat.le_of_ble_eq_true rfl, Nat.le_of_ble_eq_true rfl⟩ (Nat.le_of_ble_eq_true rfl) dX11_choiceStatus_2 (fun r1 X2 => ?_)
  refine g_if_eq (tgt := 16) hC dX11_choiceStatus_5 (by decide) ?_ ?_
  · refine g_iconst (v := vI 1) hC dX11_choiceStatus_16 rfl ?_
    exact g_iret hC hR dX11_choiceStatus_17
  · refine g_aload_n (q := 0) hC dX11_choiceStatus_8 rfl rfl rfl ?_
    refine g_iload_n (q := 2) hC dX11_choiceStatus_9 rfl rfl ?_
    refine g_callVI (As := [vI p2]) hC mv_X11_isCell wml_RX11_278 (k_X11_isCell _ V hL p2 X2) cf_X11 (at_0 hL) (by decide) ⟨Nat.zero_le _, Nat.zero_le _⟩ rfl rfl ⟨Nat.le_of_ble_eq_true rfl, Nat.le_of_ble_eq_true rfl⟩ (Nat.le_of_ble_eq_true rfl) dX11_choiceStatus_10 (fun r3 X4 => ?_)
    refine g_if_ne (tgt := 18) hC dX11_choiceStatus_13 (by decide) ?_ ?_
    · refine g_aload_n (q := 0) hC dX11_choiceStatus_18 rfl rfl rfl ?_
      refine g_getS (k := 9) hC cf_X11 (at_0 hL) (by decide) rfl (by decide) (by decide) wf_RX11_80 dX11_choiceStatus_19 ?_
      refine g_aload_n (q := 0) hC dX11_choiceStatus_22 rfl rfl rfl ?_
      refine g_getS (k := 1) hC cf_X11 (at_0 hL) (by decide) rfl (by decide) (by decide) wf_RX11_18 dX11_choiceStatus_23 ?_
      refine g_getD (k := 0) (kz := 0) hC cf_X7 (at_2 hL) (by decide) rfl (by decide) rfl wf_RX11_58 dX11_choiceStatus_26 (g_cm (l := RIV) fun m5 => ?_)
      refine g_aload_n (q := 0) hC dX11_choiceStatus_29 rfl rfl rfl ?_
      refine g_getS (k := 1) hC cf_X11 (at_0 hL) (by decide) rfl (by decide) (by decide) wf_RX11_18 dX11_choiceStatus_30 ?_
      refine g_getI (k := 3) (kz := 3) hC cf_X7 (at_2 hL) (by decide) rfl (by decide) rfl wf_RX11_227 dX11_choiceStatus_33 ?_
      refine g_aload_n (q := 0) hC dX11_choiceStatus_36 rfl rfl rfl ?_
      refine g_getS (k := 1) hC cf_X11 (at_0 hL) (by decide) rfl (by decide) (by decide) wf_RX11_18 dX11_choiceStatus_37 ?_
      refine g_getI (k := 4) (kz := 4) hC cf_X7 (at_2 hL) (by decide) rfl (by decide) rfl wf_RX11_230 dX11_choiceStatus_40 ?_
      refine g_callVV (As := [vR V.1 (X4 2 0), vI (X4 2 3), vI (X4 2 4)]) hC mv_X1_look wml_RX11_294 (k_X1_look _ V hL (X4 2 0) (X4 2 3) (X4 2 4) X4 (riv_of hL m5)) cf_X1 (at_42 hL) (by decide) ⟨Nat.zero_le _, Nat.zero_le _⟩ rfl rfl ⟨Nat.le_of_ble_eq_true rfl, Nat.le_of_ble_eq_true rfl⟩ (Nat.le_of_ble_eq_true rfl) dX11_choiceStatus_43 (fun _ X7 => ?_)
      refine g_aload_n (q := 0) hC dX11_choiceStatus_46 rfl rfl rfl ?_
      refine g_getS (k := 9) hC cf_X11 (at_0 hL) (by decide) rfl (by decide) (by decide) wf_RX11_80 dX11_choiceStatus_47 ?_
      refine g_iload_n (q := 1) hC dX11_choiceStatus_50 rfl rfl ?_
      refine g_iload_n (q := 2) hC dX11_choiceStatus_51 rfl rfl ?_
      refine g_callVI (As := [vI p1, vI p2]) hC mv_X1_search wml_RX11_340 (k_X1_search _ V hL p1 p2 X7) cf_X1 (at_42 hL) (by decide) ⟨Nat.zero_le _, Nat.zero_le _⟩ rfl rfl ⟨Nat.le_of_ble_eq_true rfl, Nat.le_of_ble_eq_true rfl⟩ (Nat.le_of_ble_eq_true rfl) dX11_choiceStatus_52 (fun r8 X9 => ?_)
      refine g_if_eq (tgt := 62) hC dX11_choiceStatus_55 (by decide) ?_ ?_
      · refine g_bipush (v := vI 6) hC dX11_choiceStatus_62 rfl ?_
        exact g_iret hC hR dX11_choiceStatus_64
      · refine g_iconst (v := vI 0) hC dX11_choiceStatus_58 rfl ?_
        refine g_goto (tgt := 64) hC dX11_choiceStatus_59 (by decide) ?_
        exact g_iret hC hR dX11_choiceStatus_64
    · refine g_iconst (v := vI 1) hC dX11_choiceStatus_16 rfl ?_
      exact g_iret hC hR dX11_choiceStatus_17
def B_X1_sumUp_64 (go18 : Int → Int → Mem → Option (Int × Mem)) (x2 : Int) (x3 : Int) (X : Mem) : Option (Int × Mem) :=
  bd (ishl x3 1) fun v6 =>
  go18 x2 v6 X
def B_X1_sumUp_58 (go18 : Int → Int → Mem → Option (Int × Mem)) (go26 : Int → Int → Int → Mem → Option (Int × Mem)) (x2 : Int) (x3 : Int) (x4 : Int) (X : Mem) : Option (Int × Mem) :=
  go26 x2 x3 (x4 + 1) X
def L_X1_sumUp_26 (go18 : Int → Int → Mem → Option (Int × Mem)) : Nat → Int → Int → Int → Mem → Option (Int × Mem)
  | 0, _, _, _, _ => none
  | n + 1, x2, x3, x4, X =>
    c2 x4 x2 <| if x2 ≤ x4 then
      B_X1_sumUp_64  go18 x2 x3 X
    else
      c1 (ia x4 x3) <| if (ia x4 x3) = 0 then
        B_X1_sumUp_58  go18 (fun x2 x3 x4 X => L_X1_sumUp_26  go18 n x2 x3 x4 X) x2 x3 x4 X
      else
        ax 32 x4 <|
        ax 32 (ix x4 x3) <|
        ax 32 x4 <| bd (ms X 45 x4 ((X 45 x4) + (X 45 (ix x4 x3)))) fun X7 =>
        B_X1_sumUp_58  go18 (fun x2 x3 x4 X => L_X1_sumUp_26  go18 n x2 x3 x4 X) x2 x3 x4 X7
def L_X1_sumUp_18 : Nat → Int → Int → Mem → Option (Int × Mem)
  | 0, _, _, _ => none
  | n + 1, x2, x3, X =>
    c2 x3 x2 <| if x2 ≤ x3 then
      some (0, X)
    else
      L_X1_sumUp_26  (fun x2 x3 X => L_X1_sumUp_18   n x2 x3 X) KF x2 x3 0 X
def f_X1_sumUp (p1 : Int) (X : Mem) : Option (Int × Mem) :=
  cl (f_X11_copyParts p1 45 X) fun _ X2 =>
  cm RIV (X2 42 11) <|
  cl (f_X2_setCount (X2 42 11) X2) fun r4 X5 =>
  L_X1_sumUp_18   KF r4 1 X5
set_option maxRecDepth 20000 in
theorem gB_X1_sumUp_64 {C : Cx} {V : Ev} {L : List Kd} (hC : Ok C V cX1_sumUp RX1 5 2 81) (hR : Rt C V L none rV) (hL : LKc L) {go18 : Int → Int → Mem → Option (Int × Mem)} (hgo18 : ∀ (x2 : Int) (x3 : Int) (X : Mem), G C V L 0 0 5 18 [(0, vR V.1 42), (2, vI x2), (3, vI x3)] [] X (go18 x2 x3 X)) (x2 : Int) (x3 : Int) (X : Mem)  : G C V L 0 0 5 64 [(0, vR V.1 42), (2, vI x2), (3, vI x3)] [] X (B_X1_sumUp_64  go18 x2 x3 X) := by
  unfold B_X1_sumUp_64
  refine g_iload_n (q := 2) hC dX1_sumUp_64 rfl rfl ?_
  refine g_iconst (v := vI 1) hC dX1_sumUp_65 rfl ?_
  refine g_ishl hC dX1_sumUp_66 ?_
  refine g_topI (fun v6 => ?_)
  refine g_istore_n hC dX1_sumUp_67 rfl (by decide) rfl ?_
  refine g_goto (tgt := 18) hC dX1_sumUp_68 (by decide) ?_
  refine g_sub [1, 2, 0] rfl ?_
  exact hgo18 x2 v6 X
set_option maxRecDepth 20000 in
theorem gB_X1_sumUp_58 {C : Cx} {V : Ev} {L : List Kd} (hC : Ok C V cX1_sumUp RX1 5 2 81) (hR : Rt C V L none rV) (hL : LKc L) {go18 : Int → Int → Mem → Option (Int × Mem)} {go26 : Int → Int → Int → Mem → Option (Int × Mem)} (hgo18 : ∀ (x2 : Int) (x3 : Int) (X : Mem), G C V L 0 0 5 18 [(0, vR V.1 42), (2, vI x2), (3, vI x3)] [] X (go18 x2 x3 X)) (hgo26 : ∀ (x2 : Int) (x3 : Int) (x4 : Int) (X : Mem), G C V L 0 0 5 26 [(0, vR V.1 42), (2, vI x2), (3, vI x3), (4, vI x4)] [] X (go26 x2 x3 x4 X)) (x2 : Int) (x3 : Int) (x4 : Int) (X : Mem)  : G C V L 0 0 5 58 [(0, vR V.1 42), (2, vI x2), (3, vI x3), (4, vI x4)] [] X (B_X1_sumUp_58  go18 go26 x2 x3 x4 X) := by
  unfold B_X1_sumUp_58
  refine g_iinc (q := 3) hC dX1_sumUp_58 rfl (by decide) rfl ?_
  refine g_goto (tgt := 26) hC dX1_sumUp_61 (by decide) ?_
  refine g_sub [1, 2, 3, 0] rfl ?_
  exact hgo26 x2 x3 (x4 + 1) X
set_option maxRecDepth 20000 in
theorem gL_X1_sumUp_26 {C : Cx} {V : Ev} {L : List Kd} (hC : Ok C V cX1_sumUp RX1 5 2 81) (hR : Rt C V L none rV) (hL : LKc L) {go18 : Int → Int → Mem → Option (Int × Mem)} (hgo18 : ∀ (x2 : Int) (x3 : Int) (X : Mem), G C V L 0 0 5 18 [(0, vR V.1 42), (2, vI x2), (3, vI x3)] [] X (go18 x2 x3 X)) : ∀ (n : Nat) (x2 : Int) (x3 : Int) (x4 : Int) (X : Mem), G C V L 0 0 5 26 [(0, vR V.1 42), (2, vI x2), (3, vI x3), (4, vI x4)] [] X (L_X1_sumUp_26  go18 n x2 x3 x4 X) := by
  intro n
  induction n with
  | zero => intro x2 x3 x4 X; exact g_none
  | succ n ih =>
    intro x2 x3 x4 X
    rw [L_X1_sumUp_26]
    refine g_iload (q := 3) hC dX1_sumUp_26 rfl ?_
    refine g_iload_n (q := 1) hC dX1_sumUp_28 rfl rfl ?_
    refine g_icmp_ge (tgt := 64) hC dX1_sumUp_29 (by decide) ?_ ?_
    · refine g_sub [0, 1, 2] rfl ?_
      exact gB_X1_sumUp_64 hC hR hL hgo18 x2 x3 X
    · refine g_iload (q := 3) hC dX1_sumUp_32 rfl ?_
      refine g_iload_n (q := 2) hC dX1_sumUp_34 rfl rfl ?_
      refine g_iand hC dX1_sumUp_35 ?_
      refine g_if_eq (tgt := 58) hC dX1_sumUp_36 (by decide) ?_ ?_
      · exact gB_X1_sumUp_58 hC hR hL hgo18 ih x2 x3 x4 X
      · refine g_aload_n (q := 0) hC dX1_sumUp_39 rfl rfl rfl ?_
        refine g_getS (k := 3) hC cf_X1 (at_42 hL) (by decide) rfl (by decide) (by decide) wf_RX1_23 dX1_sumUp_40 ?_
        refine g_iload (q := 3) hC dX1_sumUp_43 rfl ?_
        refine g_dup2 hC dX1_sumUp_45 rfl rfl ?_
        refine g_lald hC (at_45 hL) (by decide) dX1_sumUp_46 ?_
        refine g_aload_n (q := 0) hC dX1_sumUp_47 rfl rfl rfl ?_
        refine g_getS (k := 3) hC cf_X1 (at_42 hL) (by decide) rfl (by decide) (by decide) wf_RX1_23 dX1_sumUp_48 ?_
        refine g_iload (q := 3) hC dX1_sumUp_51 rfl ?_
        refine g_iload_n (q := 2) hC dX1_sumUp_53 rfl rfl ?_
        refine g_ixor hC dX1_sumUp_54 ?_
        refine g_lald hC (at_45 hL) (by decide) dX1_sumUp_55 ?_
        refine g_ladd hC dX1_sumUp_56 ?_
        refine g_last hC (at_45 hL) (by decide) dX1_sumUp_57 (fun X7 => ?_)
        exact gB_X1_sumUp_58 hC hR hL hgo18 ih x2 x3 x4 X7
set_option maxRecDepth 20000 in
theorem gL_X1_sumUp_18 {C : Cx} {V : Ev} {L : List Kd} (hC : Ok C V cX1_sumUp RX1 5 2 81) (hR : Rt C V L none rV) (hL : LKc L) : ∀ (n : Nat) (x2 : Int) (x3 : Int) (X : Mem), G C V L 0 0 5 18 [(0, vR V.1 42), (2, vI x2), (3, vI x3)] [] X (L_X1_sumUp_18   n x2 x3 X) := by
  intro n
  induction n with
  | zero => intro x2 x3 X; exact g_none
  | succ n ih =>
    intro x2 x3 X
    rw [L_X1_sumUp_18]
    refine g_iload_n (q := 2) hC dX1_sumUp_18 rfl rfl ?_
    refine g_iload_n (q := 1) hC dX1_sumUp_19 rfl rfl ?_
    refine g_icmp_ge (tgt := 71) hC dX1_sumUp_20 (by decide) ?_ ?_
    · exact g_vret hC hR dX1_sumUp_71
    · refine g_iconst (v := vI 0) hC dX1_sumUp_23 rfl ?_
      refine g_istore hC dX1_sumUp_24 (by decide) rfl ?_
      refine g_sub [1, 2, 3, 0] rfl ?_
      exact gL_X1_sumUp_26 hC hR hL ih KF x2 x3 0 X
set_option maxRecDepth 20000 in
theorem k_X1_sumUp (l : Launch) (V : Ev) {L : List Kd} (hL : LKc L) (p1 : Int) (X : Mem) (h1 : At L p1 (101, [32])) : Kt l V L yX1_sumUp (.code yX1_sumUp cX1_sumUp 5 none) 2 81 [vR V.1 42, vR V.1 p1] rV X (f_X1_sumUp p1 X) := by
  refine kt_of (own := RX1) (lv0 := [(0, vR V.1 42), (1, vR V.1 p1)]) (by decide) rfl (Nat.le_of_ble_eq_true rfl) rfl (fun C hCl hC hR => ?_)
  subst hCl
  unfold f_X1_sumUp
  refine g_aload_n (q := 1) hC dX1_sumUp_0 rfl rfl rfl ?_
  refine g_aload_n (q := 0) hC dX1_sumUp_1 rfl rfl rfl ?_
  refine g_getS (k := 3) hC cf_X1 (at_42 hL) (by decide) rfl (by decide) (by decide) wf_RX1_23 dX1_sumUp_2 ?_
  refine g_callSNV (As := [vR V.1 p1, vR V.1 45]) hC mt_X11_copyParts nl_7 (k_X11_copyParts _ V hL p1 45 X h1 (at_45 hL)) ⟨Nat.zero_le _, Nat.zero_le _⟩ rfl rfl ⟨Nat.le_of_ble_eq_true rfl, Nat.le_of_ble_eq_true rfl⟩ (Nat.le_of_ble_eq_true rfl) dX1_sumUp_5 (fun _ X2 => ?_)
  refine g_aload_n (q := 0) hC dX1_sumUp_8 rfl rfl rfl ?_
  refine g_getD (k := 11) (kz := 11) hC cf_X1 (at_42 hL) (by decide) rfl (by decide) rfl wf_RX1_70 dX1_sumUp_9 (g_cm (l := RIV) fun m3 => ?_)
  refine g_callVI (As := []) hC mv_X2_setCount wml_RX1_109 (k_X2_setCount _ V (X2 42 11) X2 (riv_of hL m3)) cf_X2 (rv_0 (riv_of hL m3)) (by decide) ⟨Nat.zero_le _, Nat.zero_le _⟩ rfl rfl ⟨Nat.le_of_ble_eq_true rfl, Nat.le_of_ble_eq_true rfl⟩ (Nat.le_of_ble_eq_true rfl) dX1_sumUp_12 (fun r4 X5 => ?_)
  refine g_istore_n hC dX1_sumUp_15 rfl (by decide) rfl ?_
  refine g_iconst (v := vI 1) hC dX1_sumUp_16 rfl ?_
  refine g_istore_n hC dX1_sumUp_17 rfl (by decide) rfl ?_
  refine g_sub [2, 1, 0] rfl ?_
  exact gL_X1_sumUp_18 hC hR hL  KF r4 1 X5
def f_X1_sumWithout (p1 : Int) (X : Mem) : Option (Int × Mem) :=
  cm RIV (X 42 11) <|
  cl (f_X2_setCount (X 42 11) X) fun r2 X3 =>
  ax 32 (ia (r2 - 1) (ix p1 ((-1)))) <|
  some (X3 45 (ia (r2 - 1) (ix p1 ((-1)))), X3)
set_option maxRecDepth 20000 in
theorem k_X1_sumWithout (l : Launch) (V : Ev) {L : List Kd} (hL : LKc L) (p1 : Int) (X : Mem)  : Kt l V L yX1_sumWithout (.code yX1_sumWithout cX1_sumWithout 2 (some .long)) 1 20 [vR V.1 42, vI p1] rJ X (f_X1_sumWithout p1 X) := by
  refine kt_of (own := RX1) (lv0 := [(0, vR V.1 42), (1, vI p1)]) (by decide) rfl (Nat.le_of_ble_eq_true rfl) rfl (fun C hCl hC hR => ?_)
  subst hCl
  unfold f_X1_sumWithout
  refine g_aload_n (q := 0) hC dX1_sumWithout_0 rfl rfl rfl ?_
  refine g_getS (k := 3) hC cf_X1 (at_42 hL) (by decide) rfl (by decide) (by decide) wf_RX1_23 dX1_sumWithout_1 ?_
  refine g_aload_n (q := 0) hC dX1_sumWithout_4 rfl rfl rfl ?_
  refine g_getD (k := 11) (kz := 11) hC cf_X1 (at_42 hL) (by decide) rfl (by decide) rfl wf_RX1_70 dX1_sumWithout_5 (g_cm (l := RIV) fun m1 => ?_)
  refine g_callVI (As := []) hC mv_X2_setCount wml_RX1_109 (k_X2_setCount _ V (X 42 11) X (riv_of hL m1)) cf_X2 (rv_0 (riv_of hL m1)) (by decide) ⟨Nat.zero_le _, Nat.zero_le _⟩ rfl rfl ⟨Nat.le_of_ble_eq_true rfl, Nat.le_of_ble_eq_true rfl⟩ (Nat.le_of_ble_eq_true rfl) dX1_sumWithout_8 (fun r2 X3 => ?_)
  refine g_iconst (v := vI 1) hC dX1_sumWithout_11 rfl ?_
  refine g_isub hC dX1_sumWithout_12 ?_
  refine g_iload_n (q := 1) hC dX1_sumWithout_13 rfl rfl ?_
  refine g_iconst (v := vI (-1)) hC dX1_sumWithout_14 rfl ?_
  refine g_ixor hC dX1_sumWithout_15 ?_
  refine g_iand hC dX1_sumWithout_16 ?_
  refine g_lald hC (at_45 hL) (by decide) dX1_sumWithout_17 ?_
  exact g_lret hC hR dX1_sumWithout_18
def L_X1_bestOf_10 : Nat → Int → Int → Mem → Option (Int × Mem)
  | 0, _, _, _ => none
  | n + 1, x2, x4, X =>
    c2 x4 (X 42 2) <| if (X 42 2) ≤ x4 then
      some (x2, X)
    else
      ax 32 x4 <|
      cl (f_X1_sumWithout (X 44 x4) X) fun r3 X4 =>
      d2 x2 r3 <|
      bd (max x2 r3) fun v5 =>
      L_X1_bestOf_10   n v5 (x4 + 1) X4
def f_X1_bestOf (p1 : Int) (X : Mem) : Option (Int × Mem) :=
  cl (f_X1_sumUp p1 X) fun _ X2 =>
  L_X1_bestOf_10   KF 0 0 X2
set_option maxRecDepth 20000 in
theorem gL_X1_bestOf_10 {C : Cx} {V : Ev} {L : List Kd} (hC : Ok C V cX1_bestOf RX1 5 3 105) (hR : Rt C V L (some .long) rJ) (hL : LKc L) : ∀ (n : Nat) (x2 : Int) (x4 : Int) (X : Mem), G C V L 0 0 5 10 [(0, vR V.1 42), (2, vJ x2), (4, vI x4)] [] X (L_X1_bestOf_10   n x2 x4 X) := by
  intro n
  induction n with
  | zero => intro x2 x4 X; exact g_none
  | succ n ih =>
    intro x2 x4 X
    rw [L_X1_bestOf_10]
    refine g_iload (q := 2) hC dX1_bestOf_10 rfl ?_
    refine g_aload_n (q := 0) hC dX1_bestOf_12 rfl rfl rfl ?_
    refine g_getI (k := 2) (kz := 2) hC cf_X1 (at_42 hL) (by decide) rfl (by decide) rfl wf_RX1_19 dX1_bestOf_13 ?_
    refine g_icmp_ge (tgt := 41) hC dX1_bestOf_16 (by decide) ?_ ?_
    · refine g_lload_n (q := 1) hC dX1_bestOf_41 rfl rfl ?_
      exact g_lret hC hR dX1_bestOf_42
    · refine g_lload_n (q := 1) hC dX1_bestOf_19 rfl rfl ?_
      refine g_aload_n (q := 0) hC dX1_bestOf_20 rfl rfl rfl ?_
      refine g_aload_n (q := 0) hC dX1_bestOf_21 rfl rfl rfl ?_
      refine g_getS (k := 1) hC cf_X1 (at_42 hL) (by decide) rfl (by decide) (by decide) wf_RX1_15 dX1_bestOf_22 ?_
      refine g_iload (q := 2) hC dX1_bestOf_25 rfl ?_
      refine g_iald hC (at_44 hL) (by decide) dX1_bestOf_27 ?_
      refine g_callVJ (As := [vI (X 44 x4)]) hC mv_X1_sumWithout wml_RX1_137 (k_X1_sumWithout _ V hL (X 44 x4) X) cf_X1 (at_42 hL) (by decide) ⟨Nat.zero_le _, Nat.zero_le _⟩ rfl rfl ⟨Nat.le_of_ble_eq_true rfl, Nat.le_of_ble_eq_true rfl⟩ (Nat.le_of_ble_eq_true rfl) dX1_bestOf_28 (fun r3 X4 => ?_)
      refine g_maxl hC wml_RX1_140 (Nat.le_of_ble_eq_true rfl) (Nat.le_of_ble_eq_true rfl) ⟨Nat.zero_le _, Nat.zero_le _⟩ dX1_bestOf_31 ?_
      refine g_topJ (fun v5 => ?_)
      refine g_lstore_n hC dX1_bestOf_34 rfl (by decide) rfl ?_
      refine g_iinc (q := 2) hC dX1_bestOf_35 rfl (by decide) rfl ?_
      refine g_goto (tgt := 10) hC dX1_bestOf_38 (by decide) ?_
      refine g_sub [2, 1, 0] rfl ?_
      exact ih v5 (x4 + 1) X4
set_option maxRecDepth 20000 in
theorem k_X1_bestOf (l : Launch) (V : Ev) {L : List Kd} (hL : LKc L) (p1 : Int) (X : Mem) (h1 : At L p1 (101, [32])) : Kt l V L yX1_bestOf (.code yX1_bestOf cX1_bestOf 5 (some .long)) 3 105 [vR V.1 42, vR V.1 p1] rJ X (f_X1_bestOf p1 X) := by
  refine kt_of (own := RX1) (lv0 := [(0, vR V.1 42), (1, vR V.1 p1)]) (by decide) rfl (Nat.le_of_ble_eq_true rfl) rfl (fun C hCl hC hR => ?_)
  subst hCl
  unfold f_X1_bestOf
  refine g_aload_n (q := 0) hC dX1_bestOf_0 rfl rfl rfl ?_
  refine g_aload_n (q := 1) hC dX1_bestOf_1 rfl rfl rfl ?_
  refine g_callVV (As := [vR V.1 p1]) hC mv_X1_sumUp wml_RX1_133 (k_X1_sumUp _ V hL p1 X h1) cf_X1 (at_42 hL) (by decide) ⟨Nat.zero_le _, Nat.zero_le _⟩ rfl rfl ⟨Nat.le_of_ble_eq_true rfl, Nat.le_of_ble_eq_true rfl⟩ (Nat.le_of_ble_eq_true rfl) dX1_bestOf_2 (fun _ X2 => ?_)
  refine g_lconst (v := vJ 0) hC dX1_bestOf_5 rfl ?_
  refine g_lstore_n hC dX1_bestOf_6 rfl (by decide) rfl ?_
  refine g_iconst (v := vI 0) hC dX1_bestOf_7 rfl ?_
  refine g_istore hC dX1_bestOf_8 (by decide) rfl ?_
  refine g_sub [2, 1, 0] rfl ?_
  exact gL_X1_bestOf_10 hC hR hL  KF 0 0 X2
def B_X1_chooseSurest_79 (go22 : Int → Mem → Option (Int × Mem)) (x2 : Int) (X : Mem) : Option (Int × Mem) :=
  go22 (x2 + 1) X
def L_X1_chooseSurest_22 : Nat → Int → Mem → Option (Int × Mem)
  | 0, _, _ => none
  | n + 1, x2, X =>
    cm RIV (X 42 11) <|
    cl (f_X2_setCount (X 42 11) X) fun r7 X8 =>
    c2 x2 r7 <| if r7 ≤ x2 then
      some (0, X8)
    else
      ax 32 x2 <|
      c1 (X8 43 x2) <| if (X8 43 x2) = 0 then
        B_X1_chooseSurest_79  (fun x2 X => L_X1_chooseSurest_22   n x2 X) x2 X8
      else
        cl (f_X1_sumWithout x2 X8) fun r9 X10 =>
        d2 r9 (X10 42 10) <| if ¬ r9 = (X10 42 10) then
          B_X1_chooseSurest_79  (fun x2 X => L_X1_chooseSurest_22   n x2 X) x2 X10
        else
          cl (f_X1_soonestBy x2 X10) fun r11 X12 =>
          c2 r11 (X12 42 9) <| if (X12 42 9) ≤ r11 then
            B_X1_chooseSurest_79  (fun x2 X => L_X1_chooseSurest_22   n x2 X) x2 X12
          else
            bd (ms X12 42 8 x2) fun X13 =>
            bd (ms X13 42 9 r11) fun X14 =>
            B_X1_chooseSurest_79  (fun x2 X => L_X1_chooseSurest_22   n x2 X) x2 X14
def f_X1_chooseSurest (p1 : Int) (X : Mem) : Option (Int × Mem) :=
  cl (f_X1_bestOf p1 X) fun r1 X2 =>
  bd (ms X2 42 10 r1) fun X3 =>
  bd (ms X3 42 8 ((-1))) fun X4 =>
  bd (ms X4 42 9 1000000000) fun X5 =>
  L_X1_chooseSurest_22   KF 0 X5
set_option maxRecDepth 20000 in
theorem gB_X1_chooseSurest_79 {C : Cx} {V : Ev} {L : List Kd} (hC : Ok C V cX1_chooseSurest RX1 4 4 129) (hR : Rt C V L none rV) (hL : LKc L) {go22 : Int → Mem → Option (Int × Mem)} (hgo22 : ∀ (x2 : Int) (X : Mem), G C V L 0 0 4 22 [(0, vR V.1 42), (2, vI x2)] [] X (go22 x2 X)) (x2 : Int) (X : Mem)  : G C V L 0 0 4 79 [(0, vR V.1 42), (2, vI x2)] [] X (B_X1_chooseSurest_79  go22 x2 X) := by
  unfold B_X1_chooseSurest_79
  refine g_iinc (q := 1) hC dX1_chooseSurest_79 rfl (by decide) rfl ?_
  refine g_goto (tgt := 22) hC dX1_chooseSurest_82 (by decide) ?_
  refine g_sub [1, 0] rfl ?_
  exact hgo22 (x2 + 1) X
set_option maxRecDepth 20000 in
theorem gL_X1_chooseSurest_22 {C : Cx} {V : Ev} {L : List Kd} (hC : Ok C V cX1_chooseSurest RX1 4 4 129) (hR : Rt C V L none rV) (hL : LKc L) : ∀ (n : Nat) (x2 : Int) (X : Mem), G C V L 0 0 4 22 [(0, vR V.1 42), (2, vI x2)] [] X (L_X1_chooseSurest_22   n x2 X) := by
  intro n
  induction n with
  | zero => intro x2 X; exact g_none
  | succ n ih =>
    intro x2 X
    rw [L_X1_chooseSurest_22]
    refine g_iload_n (q := 1) hC dX1_chooseSurest_22 rfl rfl ?_
    refine g_aload_n (q := 0) hC dX1_chooseSurest_23 rfl rfl rfl ?_
    refine g_getD (k := 11) (kz := 11) hC cf_X1 (at_42 hL) (by decide) rfl (by decide) rfl wf_RX1_70 dX1_chooseSurest_24 (g_cm (l := RIV) fun m6 => ?_)
    refine g_callVI (As := []) hC mv_X2_setCount wml_RX1_109 (k_X2_setCount _ V (X 42 11) X (riv_of hL m6)) cf_X2 (rv_0 (riv_of hL m6)) (by decide) ⟨Nat.zero_le _, Nat.zero_le _⟩ rfl rfl ⟨Nat.le_of_ble_eq_true rfl, Nat.le_of_ble_eq_true rfl⟩ (Nat.le_of_ble_eq_true rfl) dX1_chooseSurest_27 (fun r7 X8 => ?_)
    refine g_icmp_ge (tgt := 85) hC dX1_chooseSurest_30 (by decide) ?_ ?_
    · exact g_vret hC hR dX1_chooseSurest_85
    · refine g_aload_n (q := 0) hC dX1_chooseSurest_33 rfl rfl rfl ?_
      refine g_getS (k := 0) hC cf_X1 (at_42 hL) (by decide) rfl (by decide) (by decide) wf_RX1_9 dX1_chooseSurest_34 ?_
      refine g_iload_n (q := 1) hC dX1_chooseSurest_37 rfl rfl ?_
      refine g_zald hC (at_43 hL) (by decide) dX1_chooseSurest_38 ?_
      refine g_if_eq (tgt := 79) hC dX1_chooseSurest_39 (by decide) ?_ ?_
      · exact gB_X1_chooseSurest_79 hC hR hL ih x2 X8
      · refine g_aload_n (q := 0) hC dX1_chooseSurest_42 rfl rfl rfl ?_
        refine g_iload_n (q := 1) hC dX1_chooseSurest_43 rfl rfl ?_
        refine g_callVJ (As := [vI x2]) hC mv_X1_sumWithout wml_RX1_137 (k_X1_sumWithout _ V hL x2 X8) cf_X1 (at_42 hL) (by decide) ⟨Nat.zero_le _, Nat.zero_le _⟩ rfl rfl ⟨Nat.le_of_ble_eq_true rfl, Nat.le_of_ble_eq_true rfl⟩ (Nat.le_of_ble_eq_true rfl) dX1_chooseSurest_44 (fun r9 X10 => ?_)
        refine g_aload_n (q := 0) hC dX1_chooseSurest_47 rfl rfl rfl ?_
        refine g_getJ (k := 10) (kz := 10) hC cf_X1 (at_42 hL) (by decide) rfl (by decide) rfl wf_RX1_45 dX1_chooseSurest_48 ?_
        refine g_lcmp_ne (tgt := 79) hC dX1_chooseSurest_51 rfl dX1_chooseSurest_52 (by decide) ?_ ?_
        · exact gB_X1_chooseSurest_79 hC hR hL ih x2 X10
        · refine g_aload_n (q := 0) hC dX1_chooseSurest_55 rfl rfl rfl ?_
          refine g_iload_n (q := 1) hC dX1_chooseSurest_56 rfl rfl ?_
          refine g_callVI (As := [vI x2]) hC mv_X1_soonestBy wml_RX1_155 (k_X1_soonestBy _ V hL x2 X10) cf_X1 (at_42 hL) (by decide) ⟨Nat.zero_le _, Nat.zero_le _⟩ rfl rfl ⟨Nat.le_of_ble_eq_true rfl, Nat.le_of_ble_eq_true rfl⟩ (Nat.le_of_ble_eq_true rfl) dX1_chooseSurest_57 (fun r11 X12 => ?_)
          refine g_istore_n hC dX1_chooseSurest_60 rfl (by decide) rfl ?_
          refine g_iload_n (q := 0) hC dX1_chooseSurest_61 rfl rfl ?_
          refine g_aload_n (q := 1) hC dX1_chooseSurest_62 rfl rfl rfl ?_
          refine g_getI (k := 9) (kz := 9) hC cf_X1 (at_42 hL) (by decide) rfl (by decide) rfl wf_RX1_42 dX1_chooseSurest_63 ?_
          refine g_icmp_ge (tgt := 79) hC dX1_chooseSurest_66 (by decide) ?_ ?_
          · refine g_sub [1, 2] rfl ?_
            exact gB_X1_chooseSurest_79 hC hR hL ih x2 X12
          · refine g_aload_n (q := 1) hC dX1_chooseSurest_69 rfl rfl rfl ?_
            refine g_iload_n (q := 2) hC dX1_chooseSurest_70 rfl rfl ?_
            refine g_putI (k := 8) (kz := 8) hC cf_X1 (at_42 hL) (by decide) rfl (by decide) rfl wf_RX1_39 rfl rfl dX1_chooseSurest_71 (fun X13 => ?_)
            refine g_aload_n (q := 1) hC dX1_chooseSurest_74 rfl rfl rfl ?_
            refine g_iload_n (q := 0) hC dX1_chooseSurest_75 rfl rfl ?_
            refine g_putI (k := 9) (kz := 9) hC cf_X1 (at_42 hL) (by decide) rfl (by decide) rfl wf_RX1_42 rfl rfl dX1_chooseSurest_76 (fun X14 => ?_)
            refine g_sub [1, 2] rfl ?_
            exact gB_X1_chooseSurest_79 hC hR hL ih x2 X14
set_option maxRecDepth 20000 in
theorem k_X1_chooseSurest (l : Launch) (V : Ev) {L : List Kd} (hL : LKc L) (p1 : Int) (X : Mem) (h1 : At L p1 (101, [32])) : Kt l V L yX1_chooseSurest (.code yX1_chooseSurest cX1_chooseSurest 4 none) 4 129 [vR V.1 42, vR V.1 p1] rV X (f_X1_chooseSurest p1 X) := by
  refine kt_of (own := RX1) (lv0 := [(0, vR V.1 42), (1, vR V.1 p1)]) (by decide) rfl (Nat.le_of_ble_eq_true rfl) rfl (fun C hCl hC hR => ?_)
  subst hCl
  unfold f_X1_chooseSurest
  refine g_aload_n (q := 0) hC dX1_chooseSurest_0 rfl rfl rfl ?_
  refine g_aload_n (q := 0) hC dX1_chooseSurest_1 rfl rfl rfl ?_
  refine g_aload_n (q := 1) hC dX1_chooseSurest_2 rfl rfl rfl ?_
  refine g_callVJ (As := [vR V.1 p1]) hC mv_X1_bestOf wml_RX1_150 (k_X1_bestOf _ V hL p1 X h1) cf_X1 (at_42 hL) (by decide) ⟨Nat.zero_le _, Nat.zero_le _⟩ rfl rfl ⟨Nat.le_of_ble_eq_true rfl, Nat.le_of_ble_eq_true rfl⟩ (Nat.le_of_ble_eq_true rfl) dX1_chooseSurest_3 (fun r1 X2 => ?_)
  refine g_putJ (k := 10) (kz := 10) hC cf_X1 (at_42 hL) (by decide) rfl (by decide) rfl wf_RX1_45 rfl rfl dX1_chooseSurest_6 (fun X3 => ?_)
  refine g_aload_n (q := 0) hC dX1_chooseSurest_9 rfl rfl rfl ?_
  refine g_iconst (v := vI (-1)) hC dX1_chooseSurest_10 rfl ?_
  refine g_putI (k := 8) (kz := 8) hC cf_X1 (at_42 hL) (by decide) rfl (by decide) rfl wf_RX1_39 rfl rfl dX1_chooseSurest_11 (fun X4 => ?_)
  refine g_aload_n (q := 0) hC dX1_chooseSurest_14 rfl rfl rfl ?_
  refine g_ldc (n := 1000000000) hC wk_RX1_154 rfl dX1_chooseSurest_15 ?_
  refine g_putI (k := 9) (kz := 9) hC cf_X1 (at_42 hL) (by decide) rfl (by decide) rfl wf_RX1_42 rfl rfl dX1_chooseSurest_17 (fun X5 => ?_)
  refine g_iconst (v := vI 0) hC dX1_chooseSurest_20 rfl ?_
  refine g_istore_n hC dX1_chooseSurest_21 rfl (by decide) rfl ?_
  refine g_sub [1, 0] rfl ?_
  exact gL_X1_chooseSurest_22 hC hR hL  KF 0 X5
def f_X11_surest (p1 : Int) (p2 : Int) (X : Mem) : Option (Int × Mem) :=
  cl (f_X11_choiceStatus p1 p2 X) fun r1 X2 =>
  c1 r1 <| if r1 = 0 then
    cl (f_X1_chooseSurest 18 X2) fun _ X4 =>
    cl (f_X1_keepWay (X4 42 8) X4) fun r5 X6 =>
    cl (f_X11_tellFraction (X6 42 10) 1000000 X6) fun r7 X8 =>
    cl (f_X11_answer (X8 42 8) X8) fun r9 X10 =>
    some (r9, X10)
  else
    cl (f_X11_fail r1 X2) fun r11 X12 =>
    some (r11, X12)
set_option maxRecDepth 20000 in
theorem k_X11_surest (l : Launch) (V : Ev) {L : List Kd} (hL : LKc L) (p1 : Int) (p2 : Int) (X : Mem)  : Kt l V L yX11_surest (.code yX11_surest cX11_surest 4 (some .int)) 5 152 [vR V.1 0, vI p1, vI p2] rI X (f_X11_surest p1 p2 X) := by
  refine kt_of (own := RX11) (lv0 := [(0, vR V.1 0), (1, vI p1), (2, vI p2)]) (by decide) rfl (Nat.le_of_ble_eq_true rfl) rfl (fun C hCl hC hR => ?_)
  subst hCl
  unfold f_X11_surest
  refine g_aload_n (q := 0) hC dX11_surest_0 rfl rfl rfl ?_
  refine g_iload_n (q := 1) hC dX11_surest_1 rfl rfl ?_
  refine g_iload_n (q := 2) hC dX11_surest_2 rfl rfl ?_
  refine g_callVI (As := [vI p1, vI p2]) hC mv_X11_choiceStatus wml_RX11_350 (k_X11_choiceStatus _ V hL p1 p2 X) cf_X11 (at_0 hL) (by decide) ⟨Nat.zero_le _, Nat.zero_le _⟩ rfl rfl ⟨Nat.le_of_ble_eq_true rfl, Nat.le_of_ble_eq_true rfl⟩ (Nat.le_of_ble_eq_true rfl) dX11_surest_3 (fun r1 X2 => ?_)
  refine g_istore_n hC dX11_surest_6 rfl (by decide) rfl ?_
  refine g_iload_n (q := 0) hC dX11_surest_7 rfl rfl ?_
  refine g_if_eq (tgt := 17) hC dX11_surest_8 (by decide) ?_ ?_
  · refine g_aload_n (q := 1) hC dX11_surest_17 rfl rfl rfl ?_
    refine g_getS (k := 9) hC cf_X11 (at_0 hL) (by decide) rfl (by decide) (by decide) wf_RX11_80 dX11_surest_18 ?_
    refine g_aload_n (q := 1) hC dX11_surest_21 rfl rfl rfl ?_
    refine g_getS (k := 1) hC cf_X11 (at_0 hL) (by decide) rfl (by decide) (by decide) wf_RX11_18 dX11_surest_22 ?_
    refine g_getS (k := 2) hC cf_X7 (at_2 hL) (by decide) rfl (by decide) (by decide) wf_RX11_129 dX11_surest_25 ?_
    refine g_callVV (As := [vR V.1 18]) hC mv_X1_chooseSurest wml_RX11_353 (k_X1_chooseSurest _ V hL 18 X2 (at_18 hL)) cf_X1 (at_42 hL) (by decide) ⟨Nat.zero_le _, Nat.zero_le _⟩ rfl rfl ⟨Nat.le_of_ble_eq_true rfl, Nat.le_of_ble_eq_true rfl⟩ (Nat.le_of_ble_eq_true rfl) dX11_surest_28 (fun _ X4 => ?_)
    refine g_aload_n (q := 1) hC dX11_surest_31 rfl rfl rfl ?_
    refine g_getS (k := 9) hC cf_X11 (at_0 hL) (by decide) rfl (by decide) (by decide) wf_RX11_80 dX11_surest_32 ?_
    refine g_aload_n (q := 1) hC dX11_surest_35 rfl rfl rfl ?_
    refine g_getS (k := 9) hC cf_X11 (at_0 hL) (by decide) rfl (by decide) (by decide) wf_RX11_80 dX11_surest_36 ?_
    refine g_getI (k := 8) (kz := 8) hC cf_X1 (at_42 hL) (by decide) rfl (by decide) rfl wf_RX11_357 dX11_surest_39 ?_
    refine g_callVI (As := [vI (X4 42 8)]) hC mv_X1_keepWay wml_RX11_347 (k_X1_keepWay _ V hL (X4 42 8) X4) cf_X1 (at_42 hL) (by decide) ⟨Nat.zero_le _, Nat.zero_le _⟩ rfl rfl ⟨Nat.le_of_ble_eq_true rfl, Nat.le_of_ble_eq_true rfl⟩ (Nat.le_of_ble_eq_true rfl) dX11_surest_42 (fun r5 X6 => ?_)
    refine g_pop hC dX11_surest_45 rfl ?_
    refine g_aload_n (q := 1) hC dX11_surest_46 rfl rfl rfl ?_
    refine g_aload_n (q := 1) hC dX11_surest_47 rfl rfl rfl ?_
    refine g_getS (k := 9) hC cf_X11 (at_0 hL) (by decide) rfl (by decide) (by decide) wf_RX11_80 dX11_surest_48 ?_
    refine g_getJ (k := 10) (kz := 10) hC cf_X1 (at_42 hL) (by decide) rfl (by decide) rfl wf_RX11_360 dX11_surest_51 ?_
    refine g_ldc2 (n := 1000000) hC wk_RX11_305 rfl dX11_surest_54 ?_
    refine g_callVI (As := [vJ (X6 42 10), vJ 1000000]) hC mv_X11_tellFraction wml_RX11_307 (k_X11_tellFraction _ V hL (X6 42 10) 1000000 X6) cf_X11 (at_0 hL) (by decide) ⟨Nat.zero_le _, Nat.zero_le _⟩ rfl rfl ⟨Nat.le_of_ble_eq_true rfl, Nat.le_of_ble_eq_true rfl⟩ (Nat.le_of_ble_eq_true rfl) dX11_surest_57 (fun r7 X8 => ?_)
    refine g_pop hC dX11_surest_60 rfl ?_
    refine g_aload_n (q := 1) hC dX11_surest_61 rfl rfl rfl ?_
    refine g_aload_n (q := 1) hC dX11_surest_62 rfl rfl rfl ?_
    refine g_getS (k := 9) hC cf_X11 (at_0 hL) (by decide) rfl (by decide) (by decide) wf_RX11_80 dX11_surest_63 ?_
    refine g_getI (k := 8) (kz := 8) hC cf_X1 (at_42 hL) (by decide) rfl (by decide) rfl wf_RX11_357 dX11_surest_66 ?_
    refine g_callVI (As := [vI (X8 42 8)]) hC mv_X11_answer wml_RX11_200 (k_X11_answer _ V hL (X8 42 8) X8) cf_X11 (at_0 hL) (by decide) ⟨Nat.zero_le _, Nat.zero_le _⟩ rfl rfl ⟨Nat.le_of_ble_eq_true rfl, Nat.le_of_ble_eq_true rfl⟩ (Nat.le_of_ble_eq_true rfl) dX11_surest_69 (fun r9 X10 => ?_)
    exact g_iret hC hR dX11_surest_72
  · refine g_aload_n (q := 1) hC dX11_surest_11 rfl rfl rfl ?_
    refine g_iload_n (q := 0) hC dX11_surest_12 rfl rfl ?_
    refine g_callVI (As := [vI r1]) hC mv_X11_fail wml_RX11_162 (k_X11_fail _ V hL r1 X2) cf_X11 (at_0 hL) (by decide) ⟨Nat.zero_le _, Nat.zero_le _⟩ rfl rfl ⟨Nat.le_of_ble_eq_true rfl, Nat.le_of_ble_eq_true rfl⟩ (Nat.le_of_ble_eq_true rfl) dX11_surest_13 (fun r11 X12 => ?_)
    exact g_iret hC hR dX11_surest_16
def B_X1_likelyThere_42 (go5 : Int → Int → Int → Mem → Option (Int × Mem)) (x1 : Int) (x2 : Int) (x4 : Int) (X : Mem) : Option (Int × Mem) :=
  go5 x1 x2 (x4 + 1) X
def L_X1_likelyThere_5 : Nat → Int → Int → Int → Mem → Option (Int × Mem)
  | 0, _, _, _, _ => none
  | n + 1, x1, x2, x4, X =>
    cm RIV (X 42 11) <|
    c2 x4 (X (X 42 11) 2) <| if (X (X 42 11) 2) ≤ x4 then
      some (x2, X)
    else
      c2 (ia (ishr x1 x4) 1) 1 <| if ¬ (ia (ishr x1 x4) 1) = 1 then
        B_X1_likelyThere_42  (fun x1 x2 x4 X => L_X1_likelyThere_5   n x1 x2 x4 X) x1 x2 x4 X
      else
        cl (f_X1_sumWithout (ishl 1 x4) X) fun r2 X3 =>
        bd (x2 + (1000000 - r2)) fun v4 =>
        B_X1_likelyThere_42  (fun x1 x2 x4 X => L_X1_likelyThere_5   n x1 x2 x4 X) x1 v4 x4 X3
def f_X1_likelyThere (p1 : Int) (X : Mem) : Option (Int × Mem) :=
  L_X1_likelyThere_5   KF p1 0 0 X
set_option maxRecDepth 20000 in
theorem gB_X1_likelyThere_42 {C : Cx} {V : Ev} {L : List Kd} (hC : Ok C V cX1_likelyThere RX1 5 2 41) (hR : Rt C V L (some .long) rJ) (hL : LKc L) {go5 : Int → Int → Int → Mem → Option (Int × Mem)} (hgo5 : ∀ (x1 : Int) (x2 : Int) (x4 : Int) (X : Mem), G C V L 0 0 5 5 [(0, vR V.1 42), (1, vI x1), (2, vJ x2), (4, vI x4)] [] X (go5 x1 x2 x4 X)) (x1 : Int) (x2 : Int) (x4 : Int) (X : Mem)  : G C V L 0 0 5 42 [(0, vR V.1 42), (1, vI x1), (2, vJ x2), (4, vI x4)] [] X (B_X1_likelyThere_42  go5 x1 x2 x4 X) := by
  unfold B_X1_likelyThere_42
  refine g_iinc (q := 3) hC dX1_likelyThere_42 rfl (by decide) rfl ?_
  refine g_goto (tgt := 5) hC dX1_likelyThere_45 (by decide) ?_
  refine g_sub [1, 2, 3, 0] rfl ?_
  exact hgo5 x1 x2 (x4 + 1) X
set_option maxRecDepth 20000 in
theorem gL_X1_likelyThere_5 {C : Cx} {V : Ev} {L : List Kd} (hC : Ok C V cX1_likelyThere RX1 5 2 41) (hR : Rt C V L (some .long) rJ) (hL : LKc L) : ∀ (n : Nat) (x1 : Int) (x2 : Int) (x4 : Int) (X : Mem), G C V L 0 0 5 5 [(0, vR V.1 42), (1, vI x1), (2, vJ x2), (4, vI x4)] [] X (L_X1_likelyThere_5   n x1 x2 x4 X) := by
  intro n
  induction n with
  | zero => intro x1 x2 x4 X; exact g_none
  | succ n ih =>
    intro x1 x2 x4 X
    rw [L_X1_likelyThere_5]
    refine g_iload (q := 3) hC dX1_likelyThere_5 rfl ?_
    refine g_aload_n (q := 0) hC dX1_likelyThere_7 rfl rfl rfl ?_
    refine g_getD (k := 11) (kz := 11) hC cf_X1 (at_42 hL) (by decide) rfl (by decide) rfl wf_RX1_70 dX1_likelyThere_8 (g_cm (l := RIV) fun m1 => ?_)
    refine g_getI (k := 2) (kz := 2) hC cf_X2 (rv_0 (riv_of hL m1)) (by decide) rfl (by decide) rfl wf_RX1_124 dX1_likelyThere_11 ?_
    refine g_icmp_ge (tgt := 48) hC dX1_likelyThere_14 (by decide) ?_ ?_
    · refine g_lload_n (q := 2) hC dX1_likelyThere_48 rfl rfl ?_
      exact g_lret hC hR dX1_likelyThere_49
    · refine g_iload_n (q := 1) hC dX1_likelyThere_17 rfl rfl ?_
      refine g_iload (q := 3) hC dX1_likelyThere_18 rfl ?_
      refine g_ishr hC dX1_likelyThere_20 ?_
      refine g_iconst (v := vI 1) hC dX1_likelyThere_21 rfl ?_
      refine g_iand hC dX1_likelyThere_22 ?_
      refine g_iconst (v := vI 1) hC dX1_likelyThere_23 rfl ?_
      refine g_icmp_ne (tgt := 42) hC dX1_likelyThere_24 (by decide) ?_ ?_
      · exact gB_X1_likelyThere_42 hC hR hL ih x1 x2 x4 X
      · refine g_lload_n (q := 2) hC dX1_likelyThere_27 rfl rfl ?_
        refine g_ldc2 (n := 1000000) hC wk_RX1_158 rfl dX1_likelyThere_28 ?_
        refine g_aload_n (q := 0) hC dX1_likelyThere_31 rfl rfl rfl ?_
        refine g_iconst (v := vI 1) hC dX1_likelyThere_32 rfl ?_
        refine g_iload (q := 3) hC dX1_likelyThere_33 rfl ?_
        refine g_ishl hC dX1_likelyThere_35 ?_
        refine g_callVJ (As := [vI (ishl 1 x4)]) hC mv_X1_sumWithout wml_RX1_137 (k_X1_sumWithout _ V hL (ishl 1 x4) X) cf_X1 (at_42 hL) (by decide) ⟨Nat.zero_le _, Nat.zero_le _⟩ rfl rfl ⟨Nat.le_of_ble_eq_true rfl, Nat.le_of_ble_eq_true rfl⟩ (Nat.le_of_ble_eq_true rfl) dX1_likelyThere_36 (fun r2 X3 => ?_)
        refine g_lsub hC dX1_likelyThere_39 ?_
        refine g_ladd hC dX1_likelyThere_40 ?_
        refine g_topJ (fun v4 => ?_)
        refine g_lstore_n hC dX1_likelyThere_41 rfl (by decide) rfl ?_
        refine g_sub [1, 2, 0, 3] rfl ?_
        exact gB_X1_likelyThere_42 hC hR hL ih x1 v4 x4 X3
set_option maxRecDepth 20000 in
theorem k_X1_likelyThere (l : Launch) (V : Ev) {L : List Kd} (hL : LKc L) (p1 : Int) (X : Mem)  : Kt l V L yX1_likelyThere (.code yX1_likelyThere cX1_likelyThere 5 (some .long)) 2 41 [vR V.1 42, vI p1] rJ X (f_X1_likelyThere p1 X) := by
  refine kt_of (own := RX1) (lv0 := [(0, vR V.1 42), (1, vI p1)]) (by decide) rfl (Nat.le_of_ble_eq_true rfl) rfl (fun C hCl hC hR => ?_)
  subst hCl
  unfold f_X1_likelyThere
  refine g_lconst (v := vJ 0) hC dX1_likelyThere_0 rfl ?_
  refine g_lstore_n hC dX1_likelyThere_1 rfl (by decide) rfl ?_
  refine g_iconst (v := vI 0) hC dX1_likelyThere_2 rfl ?_
  refine g_istore hC dX1_likelyThere_3 (by decide) rfl ?_
  refine g_sub [2, 3, 1, 0] rfl ?_
  exact gL_X1_likelyThere_5 hC hR hL  KF p1 0 0 X
def B_X1_chooseMean_90 (go15 : Int → Int → Mem → Option (Int × Mem)) (x2 : Int) (x4 : Int) (X : Mem) : Option (Int × Mem) :=
  go15 x2 (x4 + 1) X
def B_X1_chooseMean_81 (go15 : Int → Int → Mem → Option (Int × Mem)) (x4 : Int) (x5 : Int) (X : Mem) : Option (Int × Mem) :=
  bd (ms X 42 8 x4) fun X13 =>
  B_X1_chooseMean_90  go15 x5 x4 X13
def L_X1_chooseMean_15 : Nat → Int → Int → Mem → Option (Int × Mem)
  | 0, _, _, _ => none
  | n + 1, x2, x4, X =>
    cm RIV (X 42 11) <|
    cl (f_X2_setCount (X 42 11) X) fun r5 X6 =>
    c2 x4 r5 <| if r5 ≤ x4 then
      some (x2, X6)
    else
      ax 32 x4 <|
      c1 (X6 43 x4) <| if (X6 43 x4) = 0 then
        B_X1_chooseMean_90  (fun x2 x4 X => L_X1_chooseMean_15   n x2 x4 X) x2 x4 X6
      else
        cl (f_X1_soonestBy x4 X6) fun r7 X8 =>
        c1 r7 <|
        cm RIV (X8 42 11) <|
        c1 (X8 (X8 42 11) 8) <|
        cl (f_X1_likelyThere x4 X8) fun r10 X11 =>
        bd ((r7 * 1000000) + ((X8 (X8 42 11) 8) * r10)) fun v12 =>
        c2 (X11 42 8) ((-1)) <| if (X11 42 8) = ((-1)) then
          B_X1_chooseMean_81  (fun x2 x4 X => L_X1_chooseMean_15   n x2 x4 X) x4 v12 X11
        else
          d2 v12 x2 <| if x2 ≤ v12 then
            B_X1_chooseMean_90  (fun x2 x4 X => L_X1_chooseMean_15   n x2 x4 X) x2 x4 X11
          else
            B_X1_chooseMean_81  (fun x2 x4 X => L_X1_chooseMean_15   n x2 x4 X) x4 v12 X11
def f_X1_chooseMean (p1 : Int) (X : Mem) : Option (Int × Mem) :=
  cl (f_X1_sumUp p1 X) fun _ X2 =>
  bd (ms X2 42 8 ((-1))) fun X3 =>
  L_X1_chooseMean_15   KF 0 0 X3
set_option maxRecDepth 20000 in
theorem gB_X1_chooseMean_90 {C : Cx} {V : Ev} {L : List Kd} (hC : Ok C V cX1_chooseMean RX1 7 4 107) (hR : Rt C V L (some .long) rJ) (hL : LKc L) {go15 : Int → Int → Mem → Option (Int × Mem)} (hgo15 : ∀ (x2 : Int) (x4 : Int) (X : Mem), G C V L 0 0 7 15 [(0, vR V.1 42), (2, vJ x2), (4, vI x4)] [] X (go15 x2 x4 X)) (x2 : Int) (x4 : Int) (X : Mem)  : G C V L 0 0 7 90 [(0, vR V.1 42), (2, vJ x2), (4, vI x4)] [] X (B_X1_chooseMean_90  go15 x2 x4 X) := by
  unfold B_X1_chooseMean_90
  refine g_iinc (q := 2) hC dX1_chooseMean_90 rfl (by decide) rfl ?_
  refine g_goto (tgt := 15) hC dX1_chooseMean_93 (by decide) ?_
  refine g_sub [1, 2, 0] rfl ?_
  exact hgo15 x2 (x4 + 1) X
set_option maxRecDepth 20000 in
theorem gB_X1_chooseMean_81 {C : Cx} {V : Ev} {L : List Kd} (hC : Ok C V cX1_chooseMean RX1 7 4 107) (hR : Rt C V L (some .long) rJ) (hL : LKc L) {go15 : Int → Int → Mem → Option (Int × Mem)} (hgo15 : ∀ (x2 : Int) (x4 : Int) (X : Mem), G C V L 0 0 7 15 [(0, vR V.1 42), (2, vJ x2), (4, vI x4)] [] X (go15 x2 x4 X)) (x4 : Int) (x5 : Int) (X : Mem)  : G C V L 0 0 7 81 [(0, vR V.1 42), (4, vI x4), (5, vJ x5)] [] X (B_X1_chooseMean_81  go15 x4 x5 X) := by
  unfold B_X1_chooseMean_81
  refine g_aload_n (q := 0) hC dX1_chooseMean_81 rfl rfl rfl ?_
  refine g_iload (q := 1) hC dX1_chooseMean_82 rfl ?_
  refine g_putI (k := 8) (kz := 8) hC cf_X1 (at_42 hL) (by decide) rfl (by decide) rfl wf_RX1_39 rfl rfl dX1_chooseMean_84 (fun X13 => ?_)
  refine g_lload (q := 2) hC dX1_chooseMean_87 rfl ?_
  refine g_lstore_n hC dX1_chooseMean_89 rfl (by decide) rfl ?_
  refine g_sub [1, 0, 2] rfl ?_
  exact gB_X1_chooseMean_90 hC hR hL hgo15 x5 x4 X13
set_option maxRecDepth 20000 in
theorem gL_X1_chooseMean_15 {C : Cx} {V : Ev} {L : List Kd} (hC : Ok C V cX1_chooseMean RX1 7 4 107) (hR : Rt C V L (some .long) rJ) (hL : LKc L) : ∀ (n : Nat) (x2 : Int) (x4 : Int) (X : Mem), G C V L 0 0 7 15 [(0, vR V.1 42), (2, vJ x2), (4, vI x4)] [] X (L_X1_chooseMean_15   n x2 x4 X) := by
  intro n
  induction n with
  | zero => intro x2 x4 X; exact g_none
  | succ n ih =>
    intro x2 x4 X
    rw [L_X1_chooseMean_15]
    refine g_iload (q := 2) hC dX1_chooseMean_15 rfl ?_
    refine g_aload_n (q := 0) hC dX1_chooseMean_17 rfl rfl rfl ?_
    refine g_getD (k := 11) (kz := 11) hC cf_X1 (at_42 hL) (by decide) rfl (by decide) rfl wf_RX1_70 dX1_chooseMean_18 (g_cm (l := RIV) fun m4 => ?_)
    refine g_callVI (As := []) hC mv_X2_setCount wml_RX1_109 (k_X2_setCount _ V (X 42 11) X (riv_of hL m4)) cf_X2 (rv_0 (riv_of hL m4)) (by decide) ⟨Nat.zero_le _, Nat.zero_le _⟩ rfl rfl ⟨Nat.le_of_ble_eq_true rfl, Nat.le_of_ble_eq_true rfl⟩ (Nat.le_of_ble_eq_true rfl) dX1_chooseMean_21 (fun r5 X6 => ?_)
    refine g_icmp_ge (tgt := 96) hC dX1_chooseMean_24 (by decide) ?_ ?_
    · refine g_lload_n (q := 1) hC dX1_chooseMean_96 rfl rfl ?_
      exact g_lret hC hR dX1_chooseMean_97
    · refine g_aload_n (q := 0) hC dX1_chooseMean_27 rfl rfl rfl ?_
      refine g_getS (k := 0) hC cf_X1 (at_42 hL) (by decide) rfl (by decide) (by decide) wf_RX1_9 dX1_chooseMean_28 ?_
      refine g_iload (q := 2) hC dX1_chooseMean_31 rfl ?_
      refine g_zald hC (at_43 hL) (by decide) dX1_chooseMean_33 ?_
      refine g_if_eq (tgt := 90) hC dX1_chooseMean_34 (by decide) ?_ ?_
      · exact gB_X1_chooseMean_90 hC hR hL ih x2 x4 X6
      · refine g_aload_n (q := 0) hC dX1_chooseMean_37 rfl rfl rfl ?_
        refine g_iload (q := 2) hC dX1_chooseMean_38 rfl ?_
        refine g_callVI (As := [vI x4]) hC mv_X1_soonestBy wml_RX1_155 (k_X1_soonestBy _ V hL x4 X6) cf_X1 (at_42 hL) (by decide) ⟨Nat.zero_le _, Nat.zero_le _⟩ rfl rfl ⟨Nat.le_of_ble_eq_true rfl, Nat.le_of_ble_eq_true rfl⟩ (Nat.le_of_ble_eq_true rfl) dX1_chooseMean_40 (fun r7 X8 => ?_)
        refine g_i2l hC dX1_chooseMean_43 ?_
        refine g_ldc2 (n := 1000000) hC wk_RX1_158 rfl dX1_chooseMean_44 ?_
        refine g_lmul hC dX1_chooseMean_47 ?_
        refine g_aload_n (q := 0) hC dX1_chooseMean_48 rfl rfl rfl ?_
        refine g_getD (k := 11) (kz := 11) hC cf_X1 (at_42 hL) (by decide) rfl (by decide) rfl wf_RX1_70 dX1_chooseMean_49 (g_cm (l := RIV) fun m9 => ?_)
        refine g_getI (k := 8) (kz := 8) hC cf_X2 (rv_0 (riv_of hL m9)) (by decide) rfl (by decide) rfl wf_RX1_160 dX1_chooseMean_52 ?_
        refine g_i2l hC dX1_chooseMean_55 ?_
        refine g_aload_n (q := 0) hC dX1_chooseMean_56 rfl rfl rfl ?_
        refine g_iload (q := 2) hC dX1_chooseMean_57 rfl ?_
        refine g_callVJ (As := [vI x4]) hC mv_X1_likelyThere wml_RX1_163 (k_X1_likelyThere _ V hL x4 X8) cf_X1 (at_42 hL) (by decide) ⟨Nat.zero_le _, Nat.zero_le _⟩ rfl rfl ⟨Nat.le_of_ble_eq_true rfl, Nat.le_of_ble_eq_true rfl⟩ (Nat.le_of_ble_eq_true rfl) dX1_chooseMean_59 (fun r10 X11 => ?_)
        refine g_lmul hC dX1_chooseMean_62 ?_
        refine g_ladd hC dX1_chooseMean_63 ?_
        refine g_topJ (fun v12 => ?_)
        refine g_lstore hC dX1_chooseMean_64 (by decide) rfl ?_
        refine g_aload_n (q := 1) hC dX1_chooseMean_66 rfl rfl rfl ?_
        refine g_getI (k := 8) (kz := 8) hC cf_X1 (at_42 hL) (by decide) rfl (by decide) rfl wf_RX1_39 dX1_chooseMean_67 ?_
        refine g_iconst (v := vI (-1)) hC dX1_chooseMean_70 rfl ?_
        refine g_icmp_eq (tgt := 81) hC dX1_chooseMean_71 (by decide) ?_ ?_
        · refine g_sub [1, 3, 0] rfl ?_
          exact gB_X1_chooseMean_81 hC hR hL ih x4 v12 X11
        · refine g_lload (q := 0) hC dX1_chooseMean_74 rfl ?_
          refine g_lload_n (q := 2) hC dX1_chooseMean_76 rfl rfl ?_
          refine g_lcmp_ge (tgt := 90) hC dX1_chooseMean_77 rfl dX1_chooseMean_78 (by decide) ?_ ?_
          · refine g_sub [1, 2, 3] rfl ?_
            exact gB_X1_chooseMean_90 hC hR hL ih x2 x4 X11
          · refine g_sub [1, 3, 0] rfl ?_
            exact gB_X1_chooseMean_81 hC hR hL ih x4 v12 X11
set_option maxRecDepth 20000 in
theorem k_X1_chooseMean (l : Launch) (V : Ev) {L : List Kd} (hL : LKc L) (p1 : Int) (X : Mem) (h1 : At L p1 (101, [32])) : Kt l V L yX1_chooseMean (.code yX1_chooseMean cX1_chooseMean 7 (some .long)) 4 107 [vR V.1 42, vR V.1 p1] rJ X (f_X1_chooseMean p1 X) := by
  refine kt_of (own := RX1) (lv0 := [(0, vR V.1 42), (1, vR V.1 p1)]) (by decide) rfl (Nat.le_of_ble_eq_true rfl) rfl (fun C hCl hC hR => ?_)
  subst hCl
  unfold f_X1_chooseMean
  refine g_aload_n (q := 0) hC dX1_chooseMean_0 rfl rfl rfl ?_
  refine g_aload_n (q := 1) hC dX1_chooseMean_1 rfl rfl rfl ?_
  refine g_callVV (As := [vR V.1 p1]) hC mv_X1_sumUp wml_RX1_133 (k_X1_sumUp _ V hL p1 X h1) cf_X1 (at_42 hL) (by decide) ⟨Nat.zero_le _, Nat.zero_le _⟩ rfl rfl ⟨Nat.le_of_ble_eq_true rfl, Nat.le_of_ble_eq_true rfl⟩ (Nat.le_of_ble_eq_true rfl) dX1_chooseMean_2 (fun _ X2 => ?_)
  refine g_aload_n (q := 0) hC dX1_chooseMean_5 rfl rfl rfl ?_
  refine g_iconst (v := vI (-1)) hC dX1_chooseMean_6 rfl ?_
  refine g_putI (k := 8) (kz := 8) hC cf_X1 (at_42 hL) (by decide) rfl (by decide) rfl wf_RX1_39 rfl rfl dX1_chooseMean_7 (fun X3 => ?_)
  refine g_lconst (v := vJ 0) hC dX1_chooseMean_10 rfl ?_
  refine g_lstore_n hC dX1_chooseMean_11 rfl (by decide) rfl ?_
  refine g_iconst (v := vI 0) hC dX1_chooseMean_12 rfl ?_
  refine g_istore hC dX1_chooseMean_13 (by decide) rfl ?_
  refine g_sub [2, 1, 0] rfl ?_
  exact gL_X1_chooseMean_15 hC hR hL  KF 0 0 X3
def f_X11_mean (p1 : Int) (p2 : Int) (X : Mem) : Option (Int × Mem) :=
  cl (f_X11_choiceStatus p1 p2 X) fun r1 X2 =>
  c1 r1 <| if r1 = 0 then
    cl (f_X1_chooseMean 18 X2) fun r3 X4 =>
    cl (f_X1_keepWay (X4 42 8) X4) fun r5 X6 =>
    cl (f_X11_tellFraction r3 1000000 X6) fun r7 X8 =>
    cl (f_X11_answer (X8 42 8) X8) fun r9 X10 =>
    some (r9, X10)
  else
    cl (f_X11_fail r1 X2) fun r11 X12 =>
    some (r11, X12)
set_option maxRecDepth 20000 in
theorem k_X11_mean (l : Launch) (V : Ev) {L : List Kd} (hL : LKc L) (p1 : Int) (p2 : Int) (X : Mem)  : Kt l V L yX11_mean (.code yX11_mean cX11_mean 6 (some .int)) 5 133 [vR V.1 0, vI p1, vI p2] rI X (f_X11_mean p1 p2 X) := by
  refine kt_of (own := RX11) (lv0 := [(0, vR V.1 0), (1, vI p1), (2, vI p2)]) (by decide) rfl (Nat.le_of_ble_eq_true rfl) rfl (fun C hCl hC hR => ?_)
  subst hCl
  unfold f_X11_mean
  refine g_aload_n (q := 0) hC dX11_mean_0 rfl rfl rfl ?_
  refine g_iload_n (q := 1) hC dX11_mean_1 rfl rfl ?_
  refine g_iload_n (q := 2) hC dX11_mean_2 rfl rfl ?_
  refine g_callVI (As := [vI p1, vI p2]) hC mv_X11_choiceStatus wml_RX11_350 (k_X11_choiceStatus _ V hL p1 p2 X) cf_X11 (at_0 hL) (by decide) ⟨Nat.zero_le _, Nat.zero_le _⟩ rfl rfl ⟨Nat.le_of_ble_eq_true rfl, Nat.le_of_ble_eq_true rfl⟩ (Nat.le_of_ble_eq_true rfl) dX11_mean_3 (fun r1 X2 => ?_)
  refine g_istore_n hC dX11_mean_6 rfl (by decide) rfl ?_
  refine g_iload_n (q := 0) hC dX11_mean_7 rfl rfl ?_
  refine g_if_eq (tgt := 17) hC dX11_mean_8 (by decide) ?_ ?_
  · refine g_aload_n (q := 1) hC dX11_mean_17 rfl rfl rfl ?_
    refine g_getS (k := 9) hC cf_X11 (at_0 hL) (by decide) rfl (by decide) (by decide) wf_RX11_80 dX11_mean_18 ?_
    refine g_aload_n (q := 1) hC dX11_mean_21 rfl rfl rfl ?_
    refine g_getS (k := 1) hC cf_X11 (at_0 hL) (by decide) rfl (by decide) (by decide) wf_RX11_18 dX11_mean_22 ?_
    refine g_getS (k := 2) hC cf_X7 (at_2 hL) (by decide) rfl (by decide) (by decide) wf_RX11_129 dX11_mean_25 ?_
    refine g_callVJ (As := [vR V.1 18]) hC mv_X1_chooseMean wml_RX11_363 (k_X1_chooseMean _ V hL 18 X2 (at_18 hL)) cf_X1 (at_42 hL) (by decide) ⟨Nat.zero_le _, Nat.zero_le _⟩ rfl rfl ⟨Nat.le_of_ble_eq_true rfl, Nat.le_of_ble_eq_true rfl⟩ (Nat.le_of_ble_eq_true rfl) dX11_mean_28 (fun r3 X4 => ?_)
    refine g_lstore hC dX11_mean_31 (by decide) rfl ?_
    refine g_aload_n (q := 2) hC dX11_mean_33 rfl rfl rfl ?_
    refine g_getS (k := 9) hC cf_X11 (at_0 hL) (by decide) rfl (by decide) (by decide) wf_RX11_80 dX11_mean_34 ?_
    refine g_aload_n (q := 2) hC dX11_mean_37 rfl rfl rfl ?_
    refine g_getS (k := 9) hC cf_X11 (at_0 hL) (by decide) rfl (by decide) (by decide) wf_RX11_80 dX11_mean_38 ?_
    refine g_getI (k := 8) (kz := 8) hC cf_X1 (at_42 hL) (by decide) rfl (by decide) rfl wf_RX11_357 dX11_mean_41 ?_
    refine g_callVI (As := [vI (X4 42 8)]) hC mv_X1_keepWay wml_RX11_347 (k_X1_keepWay _ V hL (X4 42 8) X4) cf_X1 (at_42 hL) (by decide) ⟨Nat.zero_le _, Nat.zero_le _⟩ rfl rfl ⟨Nat.le_of_ble_eq_true rfl, Nat.le_of_ble_eq_true rfl⟩ (Nat.le_of_ble_eq_true rfl) dX11_mean_44 (fun r5 X6 => ?_)
    refine g_pop hC dX11_mean_47 rfl ?_
    refine g_aload_n (q := 2) hC dX11_mean_48 rfl rfl rfl ?_
    refine g_lload (q := 0) hC dX11_mean_49 rfl ?_
    refine g_ldc2 (n := 1000000) hC wk_RX11_305 rfl dX11_mean_51 ?_
    refine g_callVI (As := [vJ r3, vJ 1000000]) hC mv_X11_tellFraction wml_RX11_307 (k_X11_tellFraction _ V hL r3 1000000 X6) cf_X11 (at_0 hL) (by decide) ⟨Nat.zero_le _, Nat.zero_le _⟩ rfl rfl ⟨Nat.le_of_ble_eq_true rfl, Nat.le_of_ble_eq_true rfl⟩ (Nat.le_of_ble_eq_true rfl) dX11_mean_54 (fun r7 X8 => ?_)
    refine g_pop hC dX11_mean_57 rfl ?_
    refine g_aload_n (q := 2) hC dX11_mean_58 rfl rfl rfl ?_
    refine g_aload_n (q := 2) hC dX11_mean_59 rfl rfl rfl ?_
    refine g_getS (k := 9) hC cf_X11 (at_0 hL) (by decide) rfl (by decide) (by decide) wf_RX11_80 dX11_mean_60 ?_
    refine g_getI (k := 8) (kz := 8) hC cf_X1 (at_42 hL) (by decide) rfl (by decide) rfl wf_RX11_357 dX11_mean_63 ?_
    refine g_callVI (As := [vI (X8 42 8)]) hC mv_X11_answer wml_RX11_200 (k_X11_answer _ V hL (X8 42 8) X8) cf_X11 (at_0 hL) (by decide) ⟨Nat.zero_le _, Nat.zero_le _⟩ rfl rfl ⟨Nat.le_of_ble_eq_true rfl, Nat.le_of_ble_eq_true rfl⟩ (Nat.le_of_ble_eq_true rfl) dX11_mean_66 (fun r9 X10 => ?_)
    exact g_iret hC hR dX11_mean_69
  · refine g_aload_n (q := 1) hC dX11_mean_11 rfl rfl rfl ?_
    refine g_iload_n (q := 0) hC dX11_mean_12 rfl rfl ?_
    refine g_callVI (As := [vI r1]) hC mv_X11_fail wml_RX11_162 (k_X11_fail _ V hL r1 X2) cf_X11 (at_0 hL) (by decide) ⟨Nat.zero_le _, Nat.zero_le _⟩ rfl rfl ⟨Nat.le_of_ble_eq_true rfl, Nat.le_of_ble_eq_true rfl⟩ (Nat.le_of_ble_eq_true rfl) dX11_mean_13 (fun r11 X12 => ?_)
    exact g_iret hC hR dX11_mean_16
def f_X11_length  (X : Mem) : Option (Int × Mem) :=
  c1 (X 42 7) <| if ¬ (X 42 7) = 0 then
    cl (f_X11_answer (X 42 7) X) fun r1 X2 =>
    some (r1, X2)
  else
    cl (f_X11_fail 6 X) fun r3 X4 =>
    some (r3, X4)
set_option maxRecDepth 20000 in
theorem k_X11_length (l : Launch) (V : Ev) {L : List Kd} (hL : LKc L)  (X : Mem)  : Kt l V L yX11_length (.code yX11_length cX11_length 1 (some .int)) 1 21 [vR V.1 0] rI X (f_X11_length  X) := by
  refine kt_of (own := RX11) (lv0 := [(0, vR V.1 0)]) (by decide) rfl (Nat.le_of_ble_eq_true rfl) rfl (fun C hCl hC hR => ?_)
  subst hCl
  unfold f_X11_length
  refine g_aload_n (q := 0) hC dX11_length_0 rfl rfl rfl ?_
  refine g_getS (k := 9) hC cf_X11 (at_0 hL) (by decide) rfl (by decide) (by decide) wf_RX11_80 dX11_length_1 ?_
  refine g_getI (k := 7) (kz := 7) hC cf_X1 (at_42 hL) (by decide) rfl (by decide) rfl wf_RX11_367 dX11_length_4 ?_
  refine g_if_ne (tgt := 19) hC dX11_length_7 (by decide) ?_ ?_
  · refine g_aload_n (q := 0) hC dX11_length_19 rfl rfl rfl ?_
    refine g_aload_n (q := 0) hC dX11_length_20 rfl rfl rfl ?_
    refine g_getS (k := 9) hC cf_X11 (at_0 hL) (by decide) rfl (by decide) (by decide) wf_RX11_80 dX11_length_21 ?_
    refine g_getI (k := 7) (kz := 7) hC cf_X1 (at_42 hL) (by decide) rfl (by decide) rfl wf_RX11_367 dX11_length_24 ?_
    refine g_callVI (As := [vI (X 42 7)]) hC mv_X11_answer wml_RX11_200 (k_X11_answer _ V hL (X 42 7) X) cf_X11 (at_0 hL) (by decide) ⟨Nat.zero_le _, Nat.zero_le _⟩ rfl rfl ⟨Nat.le_of_ble_eq_true rfl, Nat.le_of_ble_eq_true rfl⟩ (Nat.le_of_ble_eq_true rfl) dX11_length_27 (fun r1 X2 => ?_)
    exact g_iret hC hR dX11_length_30
  · refine g_aload_n (q := 0) hC dX11_length_10 rfl rfl rfl ?_
    refine g_bipush (v := vI 6) hC dX11_length_11 rfl ?_
    refine g_callVI (As := [vI 6]) hC mv_X11_fail wml_RX11_162 (k_X11_fail _ V hL 6 X) cf_X11 (at_0 hL) (by decide) ⟨Nat.zero_le _, Nat.zero_le _⟩ rfl rfl ⟨Nat.le_of_ble_eq_true rfl, Nat.le_of_ble_eq_true rfl⟩ (Nat.le_of_ble_eq_true rfl) dX11_length_13 (fun r3 X4 => ?_)
    refine g_goto (tgt := 30) hC dX11_length_16 (by decide) ?_
    exact g_iret hC hR dX11_length_30
def B_X11_way_15  (X : Mem) : Option (Int × Mem) :=
  cl (f_X11_fail 6 X) fun r1 X2 =>
  some (r1, X2)
def f_X11_way (p1 : Int) (X : Mem) : Option (Int × Mem) :=
  c1 p1 <| if p1 < 0 then
    B_X11_way_15   X
  else
    c2 p1 (X 42 7) <| if p1 < (X 42 7) then
      ax 60 p1 <|
      cl (f_X11_answer (X 48 p1) X) fun r3 X4 =>
      some (r3, X4)
    else
      B_X11_way_15   X
set_option maxRecDepth 20000 in
theorem gB_X11_way_15 {C : Cx} {V : Ev} {L : List Kd} (hC : Ok C V cX11_way RX11 2 1 21) (hR : Rt C V L (some .int) rI) (hL : LKc L)  (X : Mem)  : G C V L 0 0 2 15 [(0, vR V.1 0)] [] X (B_X11_way_15    X) := by
  unfold B_X11_way_15
  refine g_aload_n (q := 0) hC dX11_way_15 rfl rfl rfl ?_
  refine g_bipush (v := vI 6) hC dX11_way_16 rfl ?_
  refine g_callVI (As := [vI 6]) hC mv_X11_fail wml_RX11_162 (k_X11_fail _ V hL 6 X) cf_X11 (at_0 hL) (by decide) ⟨Nat.zero_le _, Nat.zero_le _⟩ rfl rfl ⟨Nat.le_of_ble_eq_true rfl, Nat.le_of_ble_eq_true rfl⟩ (Nat.le_of_ble_eq_true rfl) dX11_way_18 (fun r1 X2 => ?_)
  exact g_iret hC hR dX11_way_21
set_option maxRecDepth 20000 in
theorem k_X11_way (l : Launch) (V : Ev) {L : List Kd} (hL : LKc L) (p1 : Int) (X : Mem)  : Kt l V L yX11_way (.code yX11_way cX11_way 2 (some .int)) 1 21 [vR V.1 0, vI p1] rI X (f_X11_way p1 X) := by
  refine kt_of (own := RX11) (lv0 := [(0, vR V.1 0), (1, vI p1)]) (by decide) rfl (Nat.le_of_ble_eq_true rfl) rfl (fun C hCl hC hR => ?_)
  subst hCl
  unfold f_X11_way
  refine g_iload_n (q := 1) hC dX11_way_0 rfl rfl ?_
  refine g_if_lt (tgt := 15) hC dX11_way_1 (by decide) ?_ ?_
  · refine g_sub [0] rfl ?_
    exact gB_X11_way_15 hC hR hL  X
  · refine g_iload_n (q := 1) hC dX11_way_4 rfl rfl ?_
    refine g_aload_n (q := 0) hC dX11_way_5 rfl rfl rfl ?_
    refine g_getS (k := 9) hC cf_X11 (at_0 hL) (by decide) rfl (by decide) (by decide) wf_RX11_80 dX11_way_6 ?_
    refine g_getI (k := 7) (kz := 7) hC cf_X1 (at_42 hL) (by decide) rfl (by decide) rfl wf_RX11_367 dX11_way_9 ?_
    refine g_icmp_lt (tgt := 22) hC dX11_way_12 (by decide) ?_ ?_
    · refine g_aload_n (q := 0) hC dX11_way_22 rfl rfl rfl ?_
      refine g_aload_n (q := 0) hC dX11_way_23 rfl rfl rfl ?_
      refine g_getS (k := 9) hC cf_X11 (at_0 hL) (by decide) rfl (by decide) (by decide) wf_RX11_80 dX11_way_24 ?_
      refine g_getS (k := 6) hC cf_X1 (at_42 hL) (by decide) rfl (by decide) (by decide) wf_RX11_370 dX11_way_27 ?_
      refine g_iload_n (q := 1) hC dX11_way_30 rfl rfl ?_
      refine g_iald hC (at_48 hL) (by decide) dX11_way_31 ?_
      refine g_callVI (As := [vI (X 48 p1)]) hC mv_X11_answer wml_RX11_200 (k_X11_answer _ V hL (X 48 p1) X) cf_X11 (at_0 hL) (by decide) ⟨Nat.zero_le _, Nat.zero_le _⟩ rfl rfl ⟨Nat.le_of_ble_eq_true rfl, Nat.le_of_ble_eq_true rfl⟩ (Nat.le_of_ble_eq_true rfl) dX11_way_32 (fun r3 X4 => ?_)
      exact g_iret hC hR dX11_way_35
    · refine g_sub [0] rfl ?_
      exact gB_X11_way_15 hC hR hL  X
def B_X6_begin_77 (go43 : Int → Mem → Option (Int × Mem)) (x3 : Int) (s0 : Int) (s1 : Int) (X : Mem) : Option (Int × Mem) :=
  cz (io s1 s0) <| bd (ms X 49 4 (io s1 s0)) fun X13 =>
  go43 (x3 + 1) X13
def L_X6_begin_43 : Nat → Int → Mem → Option (Int × Mem)
  | 0, _, _ => none
  | n + 1, x3, X =>
    cm RIV (X 49 2) <|
    c2 x3 (X (X 49 2) 2) <| if (X (X 49 2) 2) ≤ x3 then
      some (0, X)
    else
      cm RIV (X 49 2) <|
      ax 5 x3 <|
      c2 (X ((X 49 2) + 9) x3) ((-1)) <| if (X ((X 49 2) + 9) x3) = ((-1)) then
        B_X6_begin_77  (fun x3 X => L_X6_begin_43   n x3 X) x3 0 (X 49 4) X
      else
        B_X6_begin_77  (fun x3 X => L_X6_begin_43   n x3 X) x3 1 (X 49 4) X
def f_X6_begin (p1 : Int) (p2 : Int) (X : Mem) : Option (Int × Mem) :=
  cm RIV (X p1 0) <|
  bd (ms X 49 2 (X p1 0)) fun X2 =>
  cm RIV (X2 49 2) <|
  cl (f_X2_stageOn (X2 49 2) (X2 p1 3) X2) fun r4 X5 =>
  bd (ms X5 49 3 r4) fun X6 =>
  ax WTS.length p2 <| cm WTS (tl WTS p2) <|
  cl (f_X11_copyParts (p1 + 16) (tl WTS p2) X6) fun _ X9 =>
  cz 0 <| bd (ms X9 49 4 0) fun X10 =>
  L_X6_begin_43   KF 0 X10
set_option maxRecDepth 20000 in
theorem gB_X6_begin_77 {C : Cx} {V : Ev} {L : List Kd} (hC : Ok C V cX6_begin RX6 4 2 81) (hR : Rt C V L none rV) (hL : LKc L) {go43 : Int → Mem → Option (Int × Mem)} (hgo43 : ∀ (x3 : Int) (X : Mem), G C V L 0 0 4 43 [(0, vR V.1 49), (3, vI x3)] [] X (go43 x3 X)) (x3 : Int) (s0 : Int) (s1 : Int) (X : Mem)  : G C V L 0 0 4 77 [(0, vR V.1 49), (3, vI x3)] [vI s0, vI s1, vR V.1 49] X (B_X6_begin_77  go43 x3 s0 s1 X) := by
  unfold B_X6_begin_77
  refine g_ior hC dX6_begin_77 ?_
  refine g_putZ (k := 4) (kz := 4) hC cf_X6 (at_49 hL) (by decide) rfl (by decide) rfl wf_RX6_20 rfl rfl dX6_begin_78 (fun X13 => ?_)
  refine g_iinc (q := 1) hC dX6_begin_81 rfl (by decide) rfl ?_
  refine g_goto (tgt := 43) hC dX6_begin_84 (by decide) ?_
  refine g_sub [1, 0] rfl ?_
  exact hgo43 (x3 + 1) X13
set_option maxRecDepth 20000 in
theorem gL_X6_begin_43 {C : Cx} {V : Ev} {L : List Kd} (hC : Ok C V cX6_begin RX6 4 2 81) (hR : Rt C V L none rV) (hL : LKc L) : ∀ (n : Nat) (x3 : Int) (X : Mem), G C V L 0 0 4 43 [(0, vR V.1 49), (3, vI x3)] [] X (L_X6_begin_43   n x3 X) := by
  intro n
  induction n with
  | zero => intro x3 X; exact g_none
  | succ n ih =>
    intro x3 X
    rw [L_X6_begin_43]
    refine g_iload_n (q := 1) hC dX6_begin_43 rfl rfl ?_
    refine g_aload_n (q := 0) hC dX6_begin_44 rfl rfl rfl ?_
    refine g_getD (k := 2) (kz := 2) hC cf_X6 (at_49 hL) (by decide) rfl (by decide) rfl wf_RX6_28 dX6_begin_45 (g_cm (l := RIV) fun m11 => ?_)
    refine g_getI (k := 2) (kz := 2) hC cf_X2 (rv_0 (riv_of hL m11)) (by decide) rfl (by decide) rfl wf_RX6_52 dX6_begin_48 ?_
    refine g_icmp_ge (tgt := 87) hC dX6_begin_51 (by decide) ?_ ?_
    · exact g_vret hC hR dX6_begin_87
    · refine g_aload_n (q := 0) hC dX6_begin_54 rfl rfl rfl ?_
      refine g_dup hC dX6_begin_55 rfl ?_
      refine g_getI (k := 4) (kz := 4) hC cf_X6 (at_49 hL) (by decide) rfl (by decide) rfl wf_RX6_20 dX6_begin_56 ?_
      refine g_aload_n (q := 0) hC dX6_begin_59 rfl rfl rfl ?_
      refine g_getD (k := 2) (kz := 2) hC cf_X6 (at_49 hL) (by decide) rfl (by decide) rfl wf_RX6_28 dX6_begin_60 (g_cm (l := RIV) fun m12 => ?_)
      refine g_getS (k := 19) hC cf_X2 (rv_0 (riv_of hL m12)) (by decide) rfl (add_nn (rv_0 (riv_of hL m12))) (by decide) wf_RX6_55 dX6_begin_63 ?_
      refine g_iload_n (q := 1) hC dX6_begin_66 rfl rfl ?_
      refine g_iald hC (rv_9 (riv_of hL m12)) (by decide) dX6_begin_67 ?_
      refine g_iconst (v := vI (-1)) hC dX6_begin_68 rfl ?_
      refine g_icmp_eq (tgt := 76) hC dX6_begin_69 (by decide) ?_ ?_
      · refine g_iconst (v := vI 0) hC dX6_begin_76 rfl ?_
        exact gB_X6_begin_77 hC hR hL ih x3 0 (X 49 4) X
      · refine g_iconst (v := vI 1) hC dX6_begin_72 rfl ?_
        refine g_goto (tgt := 77) hC dX6_begin_73 (by decide) ?_
        exact gB_X6_begin_77 hC hR hL ih x3 1 (X 49 4) X
set_option maxRecDepth 20000 in
theorem k_X6_begin (l : Launch) (V : Ev) {L : List Kd} (hL : LKc L) (p1 : Int) (p2 : Int) (X : Mem) (h1 : isState L p1) : Kt l V L yX6_begin (.code yX6_begin cX6_begin 4 none) 2 81 [vR V.1 49, vR V.1 p1, vI p2] rV X (f_X6_begin p1 p2 X) := by
  refine kt_of (own := RX6) (lv0 := [(0, vR V.1 49), (1, vR V.1 p1), (2, vI p2)]) (by decide) rfl (Nat.le_of_ble_eq_true rfl) rfl (fun C hCl hC hR => ?_)
  subst hCl
  unfold f_X6_begin
  refine g_aload_n (q := 0) hC dX6_begin_0 rfl rfl rfl ?_
  refine g_aload_n (q := 1) hC dX6_begin_1 rfl rfl rfl ?_
  refine g_getD (k := 0) (kz := 0) hC cf_X7 (sa_0 h1) (by decide) rfl (by decide) rfl wf_RX6_32 dX6_begin_2 (g_cm (l := RIV) fun m1 => ?_)
  refine g_putD (k := 2) (kz := 2) hC cf_X6 (at_49 hL) (by decide) rfl (by decide) rfl wf_RX6_28 rfl rfl dX6_begin_5 (fun X2 => ?_)
  refine g_aload_n (q := 0) hC dX6_begin_8 rfl rfl rfl ?_
  refine g_aload_n (q := 0) hC dX6_begin_9 rfl rfl rfl ?_
  refine g_getD (k := 2) (kz := 2) hC cf_X6 (at_49 hL) (by decide) rfl (by decide) rfl wf_RX6_28 dX6_begin_10 (g_cm (l := RIV) fun m3 => ?_)
  refine g_aload_n (q := 1) hC dX6_begin_13 rfl rfl rfl ?_
  refine g_getI (k := 3) (kz := 3) hC cf_X7 (sa_0 h1) (by decide) rfl (by decide) rfl wf_RX6_35 dX6_begin_14 ?_
  refine g_callVI (As := [vI (X2 p1 3)]) hC mv_X2_stageOn wml_RX6_38 (k_X2_stageOn _ V (X2 49 2) (X2 p1 3) X2 (riv_of hL m3)) cf_X2 (rv_0 (riv_of hL m3)) (by decide) ⟨Nat.zero_le _, Nat.zero_le _⟩ rfl rfl ⟨Nat.le_of_ble_eq_true rfl, Nat.le_of_ble_eq_true rfl⟩ (Nat.le_of_ble_eq_true rfl) dX6_begin_17 (fun r4 X5 => ?_)
  refine g_putI (k := 3) (kz := 3) hC cf_X6 (at_49 hL) (by decide) rfl (by decide) rfl wf_RX6_16 rfl rfl dX6_begin_20 (fun X6 => ?_)
  refine g_aload_n (q := 1) hC dX6_begin_23 rfl rfl rfl ?_
  refine g_getS (k := 2) hC cf_X7 (sa_0 h1) (by decide) rfl (add_nn (sa_0 h1)) (by decide) wf_RX6_44 dX6_begin_24 ?_
  refine g_aload_n (q := 0) hC dX6_begin_27 rfl rfl rfl ?_
  refine g_getS (k := 1) hC cf_X6 (at_49 hL) (by decide) rfl (by decide) (by decide) wf_RX6_11 dX6_begin_28 ?_
  refine g_iload_n (q := 2) hC dX6_begin_31 rfl rfl ?_
  refine g_ald2 (ts := WTS) hC (at_50 hL) (by decide) (by decide) dX6_begin_32 (g_cm (l := WTS) fun m7 => ?_)
  refine g_callSNV (As := [vR V.1 (p1 + 16), vR V.1 (tl WTS p2)]) hC mt_X11_copyParts nl_8 (k_X11_copyParts _ V hL (p1 + 16) (tl WTS p2) X6 (sa_16 h1) (wts_of hL m7)) ⟨Nat.zero_le _, Nat.zero_le _⟩ rfl rfl ⟨Nat.le_of_ble_eq_true rfl, Nat.le_of_ble_eq_true rfl⟩ (Nat.le_of_ble_eq_true rfl) dX6_begin_33 (fun _ X9 => ?_)
  refine g_aload_n (q := 0) hC dX6_begin_36 rfl rfl rfl ?_
  refine g_iconst (v := vI 0) hC dX6_begin_37 rfl ?_
  refine g_putZ (k := 4) (kz := 4) hC cf_X6 (at_49 hL) (by decide) rfl (by decide) rfl wf_RX6_20 rfl rfl dX6_begin_38 (fun X10 => ?_)
  refine g_iconst (v := vI 0) hC dX6_begin_41 rfl ?_
  refine g_istore_n hC dX6_begin_42 rfl (by decide) rfl ?_
  refine g_sub [1, 0] rfl ?_
  exact gL_X6_begin_43 hC hR hL  KF 0 X10
def B_X6_worthBehind_58 (wo : Int → Mem → Option (Int × Mem)) (x2 : Int) (X : Mem) : Option (Int × Mem) :=
  cl (wo (x2 - 1) X) fun r1 X2 =>
  some (r1, X2)
def B_X6_worthBehind_26 (wo : Int → Mem → Option (Int × Mem)) (go3 : Int → Int → Int → Int → Int → Mem → Option (Int × Mem)) (x1 : Int) (x2 : Int) (x3 : Int) (x4 : Int) (x5 : Int) (s0 : Int) (X : Mem) : Option (Int × Mem) :=
  ax WTS.length (x2 - 1) <| cm WTS (tl WTS (x2 - 1)) <|
  ax WTS.length x2 <| cm WTS (tl WTS x2) <|
  ax 32 x5 <|
  c1 s0 <|
  ax 32 x5 <| bd (ms X (tl WTS (x2 - 1)) x5 ((X (tl WTS x2) x5) * s0)) fun X5 =>
  go3 x1 x2 x3 x4 (x5 + 1) X5
def L_X6_worthBehind_3 (wo : Int → Mem → Option (Int × Mem)) : Nat → Int → Int → Int → Int → Int → Mem → Option (Int × Mem)
  | 0, _, _, _, _, _, _ => none
  | n + 1, x1, x2, x3, x4, x5, X =>
    c2 x5 32 <| if 32 ≤ x5 then
      B_X6_worthBehind_58 wo  x2 X
    else
      c2 (ia (ishr x5 x1) 1) 1 <| if ¬ (ia (ishr x5 x1) 1) = 1 then
        B_X6_worthBehind_26 wo (fun x1 x2 x3 x4 x5 X => L_X6_worthBehind_3 wo  n x1 x2 x3 x4 x5 X) x1 x2 x3 x4 x5 x4 X
      else
        B_X6_worthBehind_26 wo (fun x1 x2 x3 x4 x5 X => L_X6_worthBehind_3 wo  n x1 x2 x3 x4 x5 X) x1 x2 x3 x4 x5 x3 X
def f_X6_worthBehind (wo : Int → Mem → Option (Int × Mem)) (p1 : Int) (p2 : Int) (p3 : Int) (p4 : Int) (X : Mem) : Option (Int × Mem) :=
  L_X6_worthBehind_3 wo  KF p1 p2 p3 p4 0 X
set_option maxRecDepth 20000 in
theorem gB_X6_worthBehind_58 {C : Cx} {V : Ev} {L : List Kd} {fr1 lo1 : Nat} {wo : Int → Mem → Option (Int × Mem)} (hC : Ok C V cX6_worthBehind RX6 7 (fr1 + 1) (lo1 + 60)) (hR : Rt C V L (some .long) rJ) (hL : LKc L) (hwo : ∀ (k : Int) (X : Mem), Kt C.2.1 V L yX6_worthOf (.code yX6_worthOf cX6_worthOf 5 (some .long)) fr1 lo1 [vR V.1 49, vI k] rJ X (wo k X)) (x2 : Int) (X : Mem)  : G C V L 0 0 7 58 [(0, vR V.1 49), (2, vI x2)] [] X (B_X6_worthBehind_58 wo  x2 X) := by
  unfold B_X6_worthBehind_58
  refine g_aload_n (q := 0) hC dX6_worthBehind_58 rfl rfl rfl ?_
  refine g_iload_n (q := 1) hC dX6_worthBehind_59 rfl rfl ?_
  refine g_iconst (v := vI 1) hC dX6_worthBehind_60 rfl ?_
  refine g_isub hC dX6_worthBehind_61 ?_
  refine g_callVJ (As := [vI (x2 - 1)]) hC mv_X6_worthOf wml_RX6_94 (hwo (x2 - 1) X) cf_X6 (at_49 hL) (by decide) ⟨Nat.zero_le _, Nat.zero_le _⟩ rfl rfl ⟨by omega, by omega⟩ (Nat.le_of_ble_eq_true rfl) dX6_worthBehind_62 (fun r1 X2 => ?_)
  exact g_lret hC hR dX6_worthBehind_65
set_option maxRecDepth 20000 in
theorem gB_X6_worthBehind_26 {C : Cx} {V : Ev} {L : List Kd} {fr1 lo1 : Nat} {wo : Int → Mem → Option (Int × Mem)} (hC : Ok C V cX6_worthBehind RX6 7 (fr1 + 1) (lo1 + 60)) (hR : Rt C V L (some .long) rJ) (hL : LKc L) (hwo : ∀ (k : Int) (X : Mem), Kt C.2.1 V L yX6_worthOf (.code yX6_worthOf cX6_worthOf 5 (some .long)) fr1 lo1 [vR V.1 49, vI k] rJ X (wo k X)) {go3 : Int → Int → Int → Int → Int → Mem → Option (Int × Mem)} (hgo3 : ∀ (x1 : Int) (x2 : Int) (x3 : Int) (x4 : Int) (x5 : Int) (X : Mem), G C V L 0 0 7 3 [(0, vR V.1 49), (1, vI x1), (2, vI x2), (3, vI x3), (4, vI x4), (5, vI x5)] [] X (go3 x1 x2 x3 x4 x5 X)) (x1 : Int) (x2 : Int) (x3 : Int) (x4 : Int) (x5 : Int) (s0 : Int) (X : Mem)  : G C V L 0 0 7 26 [(0, vR V.1 49), (1, vI x1), (2, vI x2), (3, vI x3), (4, vI x4), (5, vI x5)] [vI s0] X (B_X6_worthBehind_26 wo go3 x1 x2 x3 x4 x5 s0 X) := by
  unfold B_X6_worthBehind_26
  refine g_istore hC dX6_worthBehind_26 (by decide) rfl ?_
  refine g_aload_n (q := 1) hC dX6_worthBehind_28 rfl rfl rfl ?_
  refine g_getS (k := 1) hC cf_X6 (at_49 hL) (by decide) rfl (by decide) (by decide) wf_RX6_11 dX6_worthBehind_29 ?_
  refine g_iload_n (q := 3) hC dX6_worthBehind_32 rfl rfl ?_
  refine g_iconst (v := vI 1) hC dX6_worthBehind_33 rfl ?_
  refine g_isub hC dX6_worthBehind_34 ?_
  refine g_ald2 (ts := WTS) hC (at_50 hL) (by decide) (by decide) dX6_worthBehind_35 (g_cm (l := WTS) fun m3 => ?_)
  refine g_iload (q := 6) hC dX6_worthBehind_36 rfl ?_
  refine g_aload_n (q := 1) hC dX6_worthBehind_38 rfl rfl rfl ?_
  refine g_getS (k := 1) hC cf_X6 (at_49 hL) (by decide) rfl (by decide) (by decide) wf_RX6_11 dX6_worthBehind_39 ?_
  refine g_iload_n (q := 3) hC dX6_worthBehind_42 rfl rfl ?_
  refine g_ald2 (ts := WTS) hC (at_50 hL) (by decide) (by decide) dX6_worthBehind_43 (g_cm (l := WTS) fun m4 => ?_)
  refine g_iload (q := 6) hC dX6_worthBehind_44 rfl ?_
  refine g_lald hC (wts_of hL m4) (by decide) dX6_worthBehind_46 ?_
  refine g_iload (q := 0) hC dX6_worthBehind_47 rfl ?_
  refine g_i2l hC dX6_worthBehind_49 ?_
  refine g_lmul hC dX6_worthBehind_50 ?_
  refine g_last hC (wts_of hL m3) (by decide) dX6_worthBehind_51 (fun X5 => ?_)
  refine g_iinc (q := 6) hC dX6_worthBehind_52 rfl (by decide) rfl ?_
  refine g_goto (tgt := 3) hC dX6_worthBehind_55 (by decide) ?_
  refine g_sub [2, 3, 4, 5, 6, 0] rfl ?_
  exact hgo3 x1 x2 x3 x4 (x5 + 1) X5
set_option maxRecDepth 20000 in
theorem gL_X6_worthBehind_3 {C : Cx} {V : Ev} {L : List Kd} {fr1 lo1 : Nat} {wo : Int → Mem → Option (Int × Mem)} (hC : Ok C V cX6_worthBehind RX6 7 (fr1 + 1) (lo1 + 60)) (hR : Rt C V L (some .long) rJ) (hL : LKc L) (hwo : ∀ (k : Int) (X : Mem), Kt C.2.1 V L yX6_worthOf (.code yX6_worthOf cX6_worthOf 5 (some .long)) fr1 lo1 [vR V.1 49, vI k] rJ X (wo k X)) : ∀ (n : Nat) (x1 : Int) (x2 : Int) (x3 : Int) (x4 : Int) (x5 : Int) (X : Mem), G C V L 0 0 7 3 [(0, vR V.1 49), (1, vI x1), (2, vI x2), (3, vI x3), (4, vI x4), (5, vI x5)] [] X (L_X6_worthBehind_3 wo  n x1 x2 x3 x4 x5 X) := by
  intro n
  induction n with
  | zero => intro x1 x2 x3 x4 x5 X; exact g_none
  | succ n ih =>
    intro x1 x2 x3 x4 x5 X
    rw [L_X6_worthBehind_3]
    refine g_iload (q := 5) hC dX6_worthBehind_3 rfl ?_
    refine g_bipush (v := vI 32) hC dX6_worthBehind_5 rfl ?_
    refine g_icmp_ge (tgt := 58) hC dX6_worthBehind_7 (by decide) ?_ ?_
    · refine g_sub [0, 2] rfl ?_
      exact gB_X6_worthBehind_58 hC hR hL hwo  x2 X
    · refine g_iload (q := 5) hC dX6_worthBehind_10 rfl ?_
      refine g_iload_n (q := 1) hC dX6_worthBehind_12 rfl rfl ?_
      refine g_ishr hC dX6_worthBehind_13 ?_
      refine g_iconst (v := vI 1) hC dX6_worthBehind_14 rfl ?_
      refine g_iand hC dX6_worthBehind_15 ?_
      refine g_iconst (v := vI 1) hC dX6_worthBehind_16 rfl ?_
      refine g_icmp_ne (tgt := 24) hC dX6_worthBehind_17 (by decide) ?_ ?_
      · refine g_iload (q := 4) hC dX6_worthBehind_24 rfl ?_
        exact gB_X6_worthBehind_26 hC hR hL hwo ih x1 x2 x3 x4 x5 x4 X
      · refine g_iload_n (q := 3) hC dX6_worthBehind_20 rfl rfl ?_
        refine g_goto (tgt := 26) hC dX6_worthBehind_21 (by decide) ?_
        exact gB_X6_worthBehind_26 hC hR hL hwo ih x1 x2 x3 x4 x5 x3 X
set_option maxRecDepth 20000 in
theorem k_X6_worthBehind (l : Launch) (V : Ev) {L : List Kd} (hL : LKc L) {fr1 lo1 : Nat} (wo : Int → Mem → Option (Int × Mem)) (hwo : ∀ (k : Int) (X : Mem), Kt l V L yX6_worthOf (.code yX6_worthOf cX6_worthOf 5 (some .long)) fr1 lo1 [vR V.1 49, vI k] rJ X (wo k X)) (p1 : Int) (p2 : Int) (p3 : Int) (p4 : Int) (X : Mem)  : Kt l V L yX6_worthBehind (.code yX6_worthBehind cX6_worthBehind 7 (some .long)) (fr1 + 1) (lo1 + 60) [vR V.1 49, vI p1, vI p2, vI p3, vI p4] rJ X (f_X6_worthBehind wo p1 p2 p3 p4 X) := by
  refine kt_of (own := RX6) (lv0 := [(0, vR V.1 49), (1, vI p1), (2, vI p2), (3, vI p3), (4, vI p4)]) (by decide) rfl (Nat.le_of_ble_eq_true rfl) rfl (fun C hCl hC hR => ?_)
  subst hCl
  unfold f_X6_worthBehind
  refine g_iconst (v := vI 0) hC dX6_worthBehind_0 rfl ?_
  refine g_istore hC dX6_worthBehind_1 (by decide) rfl ?_
  refine g_sub [1, 2, 3, 4, 5, 0] rfl ?_
  exact gL_X6_worthBehind_3 hC hR hL hwo  KF p1 p2 p3 p4 0 X
def B_X6_worthAt_153 (wo : Int → Mem → Option (Int × Mem)) (x1 : Int) (x2 : Int) (x6 : Int) (x7 : Int) (X : Mem) : Option (Int × Mem) :=
  c1 x6 <| if x6 ≤ 0 then
    some (x7, X)
  else
    cl (f_X6_worthBehind wo x1 x2 0 x6 X) fun r8 X9 =>
    bd (x7 + r8) fun v10 =>
    some (v10, X9)
def B_X6_worthAt_134 (wo : Int → Mem → Option (Int × Mem)) (x1 : Int) (x2 : Int) (x5 : Int) (x6 : Int) (x7 : Int) (X : Mem) : Option (Int × Mem) :=
  c1 x5 <| if x5 ≤ 0 then
    B_X6_worthAt_153 wo  x1 x2 x6 x7 X
  else
    cl (f_X6_worthBehind wo x1 x2 x5 0 X) fun r11 X12 =>
    bd (x7 + r11) fun v13 =>
    B_X6_worthAt_153 wo  x1 x2 x6 v13 X12
def B_X6_worthAt_128 (wo : Int → Mem → Option (Int × Mem)) (go50 : Int → Int → Int → Int → Int → Int → Int → Int → Mem → Option (Int × Mem)) (x1 : Int) (x2 : Int) (x3 : Int) (x4 : Int) (x5 : Int) (x6 : Int) (x7 : Int) (x9 : Int) (X : Mem) : Option (Int × Mem) :=
  go50 x1 x2 x3 x4 x5 x6 x7 (x9 + 1) X
def L_X6_worthAt_50 (wo : Int → Mem → Option (Int × Mem)) : Nat → Int → Int → Int → Int → Int → Int → Int → Int → Mem → Option (Int × Mem)
  | 0, _, _, _, _, _, _, _, _, _ => none
  | n + 1, x1, x2, x3, x4, x5, x6, x7, x9, X =>
    c2 x9 (x3 + 1) <| if (x3 + 1) < x9 then
      B_X6_worthAt_134 wo  x1 x2 x5 x6 x7 X
    else
      cm RIV (X 49 2) <|
      cl (f_X2_likelyRead (X 49 2) x9 x4 X) fun r15 X16 =>
      cm RIV (X16 49 2) <|
      cl (f_X2_likelyRead (X16 49 2) x9 x3 X16) fun r18 X19 =>
      c1 r18 <| if ¬ r18 = 0 then
        c1 r15 <| if ¬ r15 = 0 then
          cl (f_X6_worthBehind wo x1 x2 r15 r18 X19) fun r20 X21 =>
          bd (x7 + r20) fun v22 =>
          B_X6_worthAt_128 wo (fun x1 x2 x3 x4 x5 x6 x7 x9 X => L_X6_worthAt_50 wo  n x1 x2 x3 x4 x5 x6 x7 x9 X) x1 x2 x3 x4 x5 x6 v22 x9 X21
        else
          bd (x6 + r18) fun v23 =>
          B_X6_worthAt_128 wo (fun x1 x2 x3 x4 x5 x6 x7 x9 X => L_X6_worthAt_50 wo  n x1 x2 x3 x4 x5 x6 x7 x9 X) x1 x2 x3 x4 x5 v23 x7 x9 X19
      else
        bd (x5 + r15) fun v24 =>
        B_X6_worthAt_128 wo (fun x1 x2 x3 x4 x5 x6 x7 x9 X => L_X6_worthAt_50 wo  n x1 x2 x3 x4 x5 x6 x7 x9 X) x1 x2 x3 x4 v24 x6 x7 x9 X19
def f_X6_worthAt (wo : Int → Mem → Option (Int × Mem)) (p1 : Int) (p2 : Int) (X : Mem) : Option (Int × Mem) :=
  cm RIV (X 49 2) <|
  cm RIV (X 49 2) <|
  ax 5 p1 <|
  cl (f_X2_depthAt (X 49 2) (X 49 3) (X ((X 49 2) + 9) p1) 0 X) fun r3 X4 =>
  cm RIV (X4 49 2) <|
  ax 5 p1 <|
  bd (r3 - (X4 ((X4 49 2) + 5) p1)) fun v6 =>
  bd (v6 - 1) fun v7 =>
  L_X6_worthAt_50 wo  KF p1 p2 r3 v6 0 0 0 v7 X4
set_option maxRecDepth 20000 in
theorem gB_X6_worthAt_153 {C : Cx} {V : Ev} {L : List Kd} {fr1 lo1 : Nat} {wo : Int → Mem → Option (Int × Mem)} (hC : Ok C V cX6_worthAt RX6 12 (fr1 + 2) (lo1 + 150)) (hR : Rt C V L (some .long) rJ) (hL : LKc L) (hwo : ∀ (k : Int) (X : Mem), Kt C.2.1 V L yX6_worthOf (.code yX6_worthOf cX6_worthOf 5 (some .long)) fr1 lo1 [vR V.1 49, vI k] rJ X (wo k X)) (x1 : Int) (x2 : Int) (x6 : Int) (x7 : Int) (X : Mem)  : G C V L 0 0 12 153 [(0, vR V.1 49), (1, vI x1), (2, vI x2), (6, vI x6), (7, vJ x7)] [] X (B_X6_worthAt_153 wo  x1 x2 x6 x7 X) := by
  unfold B_X6_worthAt_153
  refine g_iload (q := 3) hC dX6_worthAt_153 rfl ?_
  refine g_if_le (tgt := 172) hC dX6_worthAt_155 (by decide) ?_ ?_
  · refine g_lload (q := 4) hC dX6_worthAt_172 rfl ?_
    exact g_lret hC hR dX6_worthAt_174
  · refine g_lload (q := 4) hC dX6_worthAt_158 rfl ?_
    refine g_aload_n (q := 0) hC dX6_worthAt_160 rfl rfl rfl ?_
    refine g_iload_n (q := 1) hC dX6_worthAt_161 rfl rfl ?_
    refine g_iload_n (q := 2) hC dX6_worthAt_162 rfl rfl ?_
    refine g_iconst (v := vI 0) hC dX6_worthAt_163 rfl ?_
    refine g_iload (q := 3) hC dX6_worthAt_164 rfl ?_
    refine g_callVJ (As := [vI x1, vI x2, vI 0, vI x6]) hC mv_X6_worthBehind wml_RX6_90 (k_X6_worthBehind _ V hL wo hwo x1 x2 0 x6 X) cf_X6 (at_49 hL) (by decide) ⟨Nat.zero_le _, Nat.zero_le _⟩ rfl rfl ⟨by omega, by omega⟩ (Nat.le_of_ble_eq_true rfl) dX6_worthAt_166 (fun r8 X9 => ?_)
    refine g_ladd hC dX6_worthAt_169 ?_
    refine g_topJ (fun v10 => ?_)
    refine g_lstore hC dX6_worthAt_170 (by decide) rfl ?_
    refine g_lload (q := 0) hC dX6_worthAt_172 rfl ?_
    exact g_lret hC hR dX6_worthAt_174
set_option maxRecDepth 20000 in
theorem gB_X6_worthAt_134 {C : Cx} {V : Ev} {L : List Kd} {fr1 lo1 : Nat} {wo : Int → Mem → Option (Int × Mem)} (hC : Ok C V cX6_worthAt RX6 12 (fr1 + 2) (lo1 + 150)) (hR : Rt C V L (some .long) rJ) (hL : LKc L) (hwo : ∀ (k : Int) (X : Mem), Kt C.2.1 V L yX6_worthOf (.code yX6_worthOf cX6_worthOf 5 (some .long)) fr1 lo1 [vR V.1 49, vI k] rJ X (wo k X)) (x1 : Int) (x2 : Int) (x5 : Int) (x6 : Int) (x7 : Int) (X : Mem)  : G C V L 0 0 12 134 [(0, vR V.1 49), (1, vI x1), (2, vI x2), (5, vI x5), (6, vI x6), (7, vJ x7)] [] X (B_X6_worthAt_134 wo  x1 x2 x5 x6 x7 X) := by
  unfold B_X6_worthAt_134
  refine g_iload (q := 3) hC dX6_worthAt_134 rfl ?_
  refine g_if_le (tgt := 153) hC dX6_worthAt_136 (by decide) ?_ ?_
  · refine g_sub [0, 1, 2, 4, 5] rfl ?_
    exact gB_X6_worthAt_153 hC hR hL hwo  x1 x2 x6 x7 X
  · refine g_lload (q := 5) hC dX6_worthAt_139 rfl ?_
    refine g_aload_n (q := 0) hC dX6_worthAt_141 rfl rfl rfl ?_
    refine g_iload_n (q := 1) hC dX6_worthAt_142 rfl rfl ?_
    refine g_iload_n (q := 2) hC dX6_worthAt_143 rfl rfl ?_
    refine g_iload (q := 3) hC dX6_worthAt_144 rfl ?_
    refine g_iconst (v := vI 0) hC dX6_worthAt_146 rfl ?_
    refine g_callVJ (As := [vI x1, vI x2, vI x5, vI 0]) hC mv_X6_worthBehind wml_RX6_90 (k_X6_worthBehind _ V hL wo hwo x1 x2 x5 0 X) cf_X6 (at_49 hL) (by decide) ⟨Nat.zero_le _, Nat.zero_le _⟩ rfl rfl ⟨by omega, by omega⟩ (Nat.le_of_ble_eq_true rfl) dX6_worthAt_147 (fun r11 X12 => ?_)
    refine g_ladd hC dX6_worthAt_150 ?_
    refine g_topJ (fun v13 => ?_)
    refine g_lstore hC dX6_worthAt_151 (by decide) rfl ?_
    refine g_sub [1, 2, 3, 5, 0] rfl ?_
    exact gB_X6_worthAt_153 hC hR hL hwo  x1 x2 x6 v13 X12
set_option maxRecDepth 20000 in
theorem gB_X6_worthAt_128 {C : Cx} {V : Ev} {L : List Kd} {fr1 lo1 : Nat} {wo : Int → Mem → Option (Int × Mem)} (hC : Ok C V cX6_worthAt RX6 12 (fr1 + 2) (lo1 + 150)) (hR : Rt C V L (some .long) rJ) (hL : LKc L) (hwo : ∀ (k : Int) (X : Mem), Kt C.2.1 V L yX6_worthOf (.code yX6_worthOf cX6_worthOf 5 (some .long)) fr1 lo1 [vR V.1 49, vI k] rJ X (wo k X)) {go50 : Int → Int → Int → Int → Int → Int → Int → Int → Mem → Option (Int × Mem)} (hgo50 : ∀ (x1 : Int) (x2 : Int) (x3 : Int) (x4 : Int) (x5 : Int) (x6 : Int) (x7 : Int) (x9 : Int) (X : Mem), G C V L 0 0 12 50 [(0, vR V.1 49), (1, vI x1), (2, vI x2), (3, vI x3), (4, vI x4), (5, vI x5), (6, vI x6), (7, vJ x7), (9, vI x9)] [] X (go50 x1 x2 x3 x4 x5 x6 x7 x9 X)) (x1 : Int) (x2 : Int) (x3 : Int) (x4 : Int) (x5 : Int) (x6 : Int) (x7 : Int) (x9 : Int) (X : Mem)  : G C V L 0 0 12 128 [(0, vR V.1 49), (1, vI x1), (2, vI x2), (3, vI x3), (4, vI x4), (5, vI x5), (6, vI x6), (7, vJ x7), (9, vI x9)] [] X (B_X6_worthAt_128 wo go50 x1 x2 x3 x4 x5 x6 x7 x9 X) := by
  unfold B_X6_worthAt_128
  refine g_iinc (q := 8) hC dX6_worthAt_128 rfl (by decide) rfl ?_
  refine g_goto (tgt := 50) hC dX6_worthAt_131 (by decide) ?_
  refine g_sub [1, 2, 3, 4, 5, 6, 7, 8, 0] rfl ?_
  exact hgo50 x1 x2 x3 x4 x5 x6 x7 (x9 + 1) X
set_option maxRecDepth 20000 in
theorem gL_X6_worthAt_50 {C : Cx} {V : Ev} {L : List Kd} {fr1 lo1 : Nat} {wo : Int → Mem → Option (Int × Mem)} (hC : Ok C V cX6_worthAt RX6 12 (fr1 + 2) (lo1 + 150)) (hR : Rt C V L (some .long) rJ) (hL : LKc L) (hwo : ∀ (k : Int) (X : Mem), Kt C.2.1 V L yX6_worthOf (.code yX6_worthOf cX6_worthOf 5 (some .long)) fr1 lo1 [vR V.1 49, vI k] rJ X (wo k X)) : ∀ (n : Nat) (x1 : Int) (x2 : Int) (x3 : Int) (x4 : Int) (x5 : Int) (x6 : Int) (x7 : Int) (x9 : Int) (X : Mem), G C V L 0 0 12 50 [(0, vR V.1 49), (1, vI x1), (2, vI x2), (3, vI x3), (4, vI x4), (5, vI x5), (6, vI x6), (7, vJ x7), (9, vI x9)] [] X (L_X6_worthAt_50 wo  n x1 x2 x3 x4 x5 x6 x7 x9 X) := by
  intro n
  induction n with
  | zero => intro x1 x2 x3 x4 x5 x6 x7 x9 X; exact g_none
  | succ n ih =>
    intro x1 x2 x3 x4 x5 x6 x7 x9 X
    rw [L_X6_worthAt_50]
    refine g_iload (q := 8) hC dX6_worthAt_50 rfl ?_
    refine g_iload_n (q := 3) hC dX6_worthAt_52 rfl rfl ?_
    refine g_iconst (v := vI 1) hC dX6_worthAt_53 rfl ?_
    refine g_iadd hC dX6_worthAt_54 ?_
    refine g_icmp_gt (tgt := 134) hC dX6_worthAt_55 (by decide) ?_ ?_
    · refine g_sub [0, 1, 2, 5, 6, 7] rfl ?_
      exact gB_X6_worthAt_134 hC hR hL hwo  x1 x2 x5 x6 x7 X
    · refine g_aload_n (q := 0) hC dX6_worthAt_58 rfl rfl rfl ?_
      refine g_getD (k := 2) (kz := 2) hC cf_X6 (at_49 hL) (by decide) rfl (by decide) rfl wf_RX6_28 dX6_worthAt_59 (g_cm (l := RIV) fun m14 => ?_)
      refine g_iload (q := 8) hC dX6_worthAt_62 rfl ?_
      refine g_iload (q := 4) hC dX6_worthAt_64 rfl ?_
      refine g_callVI (As := [vI x9, vI x4]) hC mv_X2_likelyRead wml_RX6_87 (k_X2_likelyRead _ V (X 49 2) x9 x4 X (riv_of hL m14)) cf_X2 (rv_0 (riv_of hL m14)) (by decide) ⟨Nat.zero_le _, Nat.zero_le _⟩ rfl rfl ⟨by omega, by omega⟩ (Nat.le_of_ble_eq_true rfl) dX6_worthAt_66 (fun r15 X16 => ?_)
      refine g_istore hC dX6_worthAt_69 (by decide) rfl ?_
      refine g_aload_n (q := 1) hC dX6_worthAt_71 rfl rfl rfl ?_
      refine g_getD (k := 2) (kz := 2) hC cf_X6 (at_49 hL) (by decide) rfl (by decide) rfl wf_RX6_28 dX6_worthAt_72 (g_cm (l := RIV) fun m17 => ?_)
      refine g_iload (q := 9) hC dX6_worthAt_75 rfl ?_
      refine g_iload_n (q := 4) hC dX6_worthAt_77 rfl rfl ?_
      refine g_callVI (As := [vI x9, vI x3]) hC mv_X2_likelyRead wml_RX6_87 (k_X2_likelyRead _ V (X16 49 2) x9 x3 X16 (riv_of hL m17)) cf_X2 (rv_0 (riv_of hL m17)) (by decide) ⟨Nat.zero_le _, Nat.zero_le _⟩ rfl rfl ⟨by omega, by omega⟩ (Nat.le_of_ble_eq_true rfl) dX6_worthAt_78 (fun r18 X19 => ?_)
      refine g_istore hC dX6_worthAt_81 (by decide) rfl ?_
      refine g_iload (q := 0) hC dX6_worthAt_83 rfl ?_
      refine g_if_ne (tgt := 98) hC dX6_worthAt_85 (by decide) ?_ ?_
      · refine g_iload (q := 1) hC dX6_worthAt_98 rfl ?_
        refine g_if_ne (tgt := 113) hC dX6_worthAt_100 (by decide) ?_ ?_
        · refine g_lload (q := 9) hC dX6_worthAt_113 rfl ?_
          refine g_aload_n (q := 2) hC dX6_worthAt_115 rfl rfl rfl ?_
          refine g_iload_n (q := 3) hC dX6_worthAt_116 rfl rfl ?_
          refine g_iload_n (q := 4) hC dX6_worthAt_117 rfl rfl ?_
          refine g_iload (q := 1) hC dX6_worthAt_118 rfl ?_
          refine g_iload (q := 0) hC dX6_worthAt_120 rfl ?_
          refine g_callVJ (As := [vI x1, vI x2, vI r15, vI r18]) hC mv_X6_worthBehind wml_RX6_90 (k_X6_worthBehind _ V hL wo hwo x1 x2 r15 r18 X19) cf_X6 (at_49 hL) (by decide) ⟨Nat.zero_le _, Nat.zero_le _⟩ rfl rfl ⟨by omega, by omega⟩ (Nat.le_of_ble_eq_true rfl) dX6_worthAt_122 (fun r20 X21 => ?_)
          refine g_ladd hC dX6_worthAt_125 ?_
          refine g_topJ (fun v22 => ?_)
          refine g_lstore hC dX6_worthAt_126 (by decide) rfl ?_
          refine g_sub [3, 4, 5, 6, 7, 8, 9, 0, 10] rfl ?_
          exact gB_X6_worthAt_128 hC hR hL hwo ih x1 x2 x3 x4 x5 x6 v22 x9 X21
        · refine g_iload (q := 8) hC dX6_worthAt_103 rfl ?_
          refine g_iload (q := 0) hC dX6_worthAt_105 rfl ?_
          refine g_iadd hC dX6_worthAt_107 ?_
          refine g_topI (fun v23 => ?_)
          refine g_istore hC dX6_worthAt_108 (by decide) rfl ?_
          refine g_goto (tgt := 128) hC dX6_worthAt_110 (by decide) ?_
          refine g_sub [3, 4, 5, 6, 7, 8, 0, 9, 10] rfl ?_
          exact gB_X6_worthAt_128 hC hR hL hwo ih x1 x2 x3 x4 x5 v23 x7 x9 X19
      · refine g_iload (q := 7) hC dX6_worthAt_88 rfl ?_
        refine g_iload (q := 1) hC dX6_worthAt_90 rfl ?_
        refine g_iadd hC dX6_worthAt_92 ?_
        refine g_topI (fun v24 => ?_)
        refine g_istore hC dX6_worthAt_93 (by decide) rfl ?_
        refine g_goto (tgt := 128) hC dX6_worthAt_95 (by decide) ?_
        refine g_sub [3, 4, 5, 6, 7, 0, 8, 9, 10] rfl ?_
        exact gB_X6_worthAt_128 hC hR hL hwo ih x1 x2 x3 x4 v24 x6 x7 x9 X19
set_option maxRecDepth 20000 in
theorem k_X6_worthAt (l : Launch) (V : Ev) {L : List Kd} (hL : LKc L) {fr1 lo1 : Nat} (wo : Int → Mem → Option (Int × Mem)) (hwo : ∀ (k : Int) (X : Mem), Kt l V L yX6_worthOf (.code yX6_worthOf cX6_worthOf 5 (some .long)) fr1 lo1 [vR V.1 49, vI k] rJ X (wo k X)) (p1 : Int) (p2 : Int) (X : Mem)  : Kt l V L yX6_worthAt (.code yX6_worthAt cX6_worthAt 12 (some .long)) (fr1 + 2) (lo1 + 150) [vR V.1 49, vI p1, vI p2] rJ X (f_X6_worthAt wo p1 p2 X) := by
  refine kt_of (own := RX6) (lv0 := [(0, vR V.1 49), (1, vI p1), (2, vI p2)]) (by decide) rfl (Nat.le_of_ble_eq_true rfl) rfl (fun C hCl hC hR => ?_)
  subst hCl
  unfold f_X6_worthAt
  refine g_aload_n (q := 0) hC dX6_worthAt_0 rfl rfl rfl ?_
  refine g_getD (k := 2) (kz := 2) hC cf_X6 (at_49 hL) (by decide) rfl (by decide) rfl wf_RX6_28 dX6_worthAt_1 (g_cm (l := RIV) fun m1 => ?_)
  refine g_aload_n (q := 0) hC dX6_worthAt_4 rfl rfl rfl ?_
  refine g_getI (k := 3) (kz := 3) hC cf_X6 (at_49 hL) (by decide) rfl (by decide) rfl wf_RX6_16 dX6_worthAt_5 ?_
  refine g_aload_n (q := 0) hC dX6_worthAt_8 rfl rfl rfl ?_
  refine g_getD (k := 2) (kz := 2) hC cf_X6 (at_49 hL) (by decide) rfl (by decide) rfl wf_RX6_28 dX6_worthAt_9 (g_cm (l := RIV) fun m2 => ?_)
  refine g_getS (k := 19) hC cf_X2 (rv_0 (riv_of hL m2)) (by decide) rfl (add_nn (rv_0 (riv_of hL m2))) (by decide) wf_RX6_55 dX6_worthAt_12 ?_
  refine g_iload_n (q := 1) hC dX6_worthAt_15 rfl rfl ?_
  refine g_iald hC (rv_9 (riv_of hL m2)) (by decide) dX6_worthAt_16 ?_
  refine g_iconst (v := vI 0) hC dX6_worthAt_17 rfl ?_
  refine g_callVI (As := [vI (X 49 3), vI (X ((X 49 2) + 9) p1), vI 0]) hC mv_X2_depthAt wml_RX6_80 (k_X2_depthAt _ V (X 49 2) (X 49 3) (X ((X 49 2) + 9) p1) 0 X (riv_of hL m1)) cf_X2 (rv_0 (riv_of hL m1)) (by decide) ⟨Nat.zero_le _, Nat.zero_le _⟩ rfl rfl ⟨by omega, by omega⟩ (Nat.le_of_ble_eq_true rfl) dX6_worthAt_18 (fun r3 X4 => ?_)
  refine g_istore_n hC dX6_worthAt_21 rfl (by decide) rfl ?_
  refine g_iload_n (q := 0) hC dX6_worthAt_22 rfl rfl ?_
  refine g_aload_n (q := 1) hC dX6_worthAt_23 rfl rfl rfl ?_
  refine g_getD (k := 2) (kz := 2) hC cf_X6 (at_49 hL) (by decide) rfl (by decide) rfl wf_RX6_28 dX6_worthAt_24 (g_cm (l := RIV) fun m5 => ?_)
  refine g_getS (k := 15) hC cf_X2 (rv_0 (riv_of hL m5)) (by decide) rfl (add_nn (rv_0 (riv_of hL m5))) (by decide) wf_RX6_84 dX6_worthAt_27 ?_
  refine g_iload_n (q := 2) hC dX6_worthAt_30 rfl rfl ?_
  refine g_iald hC (rv_5 (riv_of hL m5)) (by decide) dX6_worthAt_31 ?_
  refine g_isub hC dX6_worthAt_32 ?_
  refine g_topI (fun v6 => ?_)
  refine g_istore hC dX6_worthAt_33 (by decide) rfl ?_
  refine g_iconst (v := vI 0) hC dX6_worthAt_35 rfl ?_
  refine g_istore hC dX6_worthAt_36 (by decide) rfl ?_
  refine g_iconst (v := vI 0) hC dX6_worthAt_38 rfl ?_
  refine g_istore hC dX6_worthAt_39 (by decide) rfl ?_
  refine g_lconst (v := vJ 0) hC dX6_worthAt_41 rfl ?_
  refine g_lstore hC dX6_worthAt_42 (by decide) rfl ?_
  refine g_iload (q := 3) hC dX6_worthAt_44 rfl ?_
  refine g_iconst (v := vI 1) hC dX6_worthAt_46 rfl ?_
  refine g_isub hC dX6_worthAt_47 ?_
  refine g_topI (fun v7 => ?_)
  refine g_istore hC dX6_worthAt_48 (by decide) rfl ?_
  refine g_sub [6, 7, 8, 5, 4, 3, 2, 1, 0] rfl ?_
  exact gL_X6_worthAt_50 hC hR hL hwo  KF p1 p2 r3 v6 0 0 0 v7 X4
def B_X6_worthOf_11 (wo : Int → Mem → Option (Int × Mem)) (x1 : Int) (X : Mem) : Option (Int × Mem) :=
  c2 0 x1 <|
  ax WTS.length (max 0 x1) <| cm WTS (tl WTS (max 0 x1)) <|
  cl (f_X1_bestOf (tl WTS (max 0 x1)) X) fun r2 X3 =>
  some (r2, X3)
def B_X6_worthOf_72 (wo : Int → Mem → Option (Int × Mem)) (go34 : Int → Int → Int → Mem → Option (Int × Mem)) (x1 : Int) (x2 : Int) (x4 : Int) (X : Mem) : Option (Int × Mem) :=
  go34 x1 x2 (x4 + 1) X
def L_X6_worthOf_34 (wo : Int → Mem → Option (Int × Mem)) : Nat → Int → Int → Int → Mem → Option (Int × Mem)
  | 0, _, _, _, _ => none
  | n + 1, x1, x2, x4, X =>
    cm RIV (X 49 2) <|
    c2 x4 (X (X 49 2) 2) <| if (X (X 49 2) 2) ≤ x4 then
      some (x2, X)
    else
      cm RIV (X 49 2) <|
      ax 5 x4 <|
      c2 (X ((X 49 2) + 9) x4) ((-1)) <| if (X ((X 49 2) + 9) x4) = ((-1)) then
        B_X6_worthOf_72 wo (fun x1 x2 x4 X => L_X6_worthOf_34 wo  n x1 x2 x4 X) x1 x2 x4 X
      else
        cl (f_X6_worthAt wo x4 x1 X) fun r6 X7 =>
        d2 x2 r6 <|
        bd (max x2 r6) fun v8 =>
        B_X6_worthOf_72 wo (fun x1 x2 x4 X => L_X6_worthOf_34 wo  n x1 x2 x4 X) x1 v8 x4 X7
def f_X6_worthOf (wo : Int → Mem → Option (Int × Mem)) (p1 : Int) (X : Mem) : Option (Int × Mem) :=
  c1 p1 <| if p1 ≤ 0 then
    B_X6_worthOf_11 wo  p1 X
  else
    c1 (X 49 4) <| if ¬ (X 49 4) = 0 then
      L_X6_worthOf_34 wo  KF p1 0 0 X
    else
      B_X6_worthOf_11 wo  p1 X
set_option maxRecDepth 20000 in
theorem gB_X6_worthOf_11 {C : Cx} {V : Ev} {L : List Kd} {fr1 lo1 : Nat} {wo : Int → Mem → Option (Int × Mem)} (hC : Ok C V cX6_worthOf RX6 5 (fr1 + 8) (lo1 + 400)) (hR : Rt C V L (some .long) rJ) (hL : LKc L) (hwo : ∀ (k : Int) (X : Mem), Kt C.2.1 V L yX6_worthOf (.code yX6_worthOf cX6_worthOf 5 (some .long)) fr1 lo1 [vR V.1 49, vI k] rJ X (wo k X)) (x1 : Int) (X : Mem)  : G C V L 0 0 5 11 [(0, vR V.1 49), (1, vI x1)] [] X (B_X6_worthOf_11 wo  x1 X) := by
  unfold B_X6_worthOf_11
  refine g_aload_n (q := 0) hC dX6_worthOf_11 rfl rfl rfl ?_
  refine g_getS (k := 0) hC cf_X6 (at_49 hL) (by decide) rfl (by decide) (by decide) wf_RX6_24 dX6_worthOf_12 ?_
  refine g_aload_n (q := 0) hC dX6_worthOf_15 rfl rfl rfl ?_
  refine g_getS (k := 1) hC cf_X6 (at_49 hL) (by decide) rfl (by decide) (by decide) wf_RX6_11 dX6_worthOf_16 ?_
  refine g_iconst (v := vI 0) hC dX6_worthOf_19 rfl ?_
  refine g_iload_n (q := 1) hC dX6_worthOf_20 rfl rfl ?_
  refine g_mmax hC wml_RX6_61 (by first | omega | exact Nat.le_trans (Nat.le_of_ble_eq_true rfl) (Nat.le_add_left _ _)) (by first | omega | exact Nat.le_trans (Nat.le_of_ble_eq_true rfl) (Nat.le_add_left _ _)) ⟨Nat.zero_le _, Nat.zero_le _⟩ dX6_worthOf_21 ?_
  refine g_ald2 (ts := WTS) hC (at_50 hL) (by decide) (by decide) dX6_worthOf_24 (g_cm (l := WTS) fun m1 => ?_)
  refine g_callVJ (As := [vR V.1 (tl WTS (max 0 x1))]) hC mv_X1_bestOf wml_RX6_67 (k_X1_bestOf _ V hL (tl WTS (max 0 x1)) X (wts_of hL m1)) cf_X1 (at_42 hL) (by decide) ⟨Nat.zero_le _, Nat.zero_le _⟩ rfl rfl ⟨by omega, by omega⟩ (Nat.le_of_ble_eq_true rfl) dX6_worthOf_25 (fun r2 X3 => ?_)
  exact g_lret hC hR dX6_worthOf_28
set_option maxRecDepth 20000 in
theorem gB_X6_worthOf_72 {C : Cx} {V : Ev} {L : List Kd} {fr1 lo1 : Nat} {wo : Int → Mem → Option (Int × Mem)} (hC : Ok C V cX6_worthOf RX6 5 (fr1 + 8) (lo1 + 400)) (hR : Rt C V L (some .long) rJ) (hL : LKc L) (hwo : ∀ (k : Int) (X : Mem), Kt C.2.1 V L yX6_worthOf (.code yX6_worthOf cX6_worthOf 5 (some .long)) fr1 lo1 [vR V.1 49, vI k] rJ X (wo k X)) {go34 : Int → Int → Int → Mem → Option (Int × Mem)} (hgo34 : ∀ (x1 : Int) (x2 : Int) (x4 : Int) (X : Mem), G C V L 0 0 5 34 [(0, vR V.1 49), (1, vI x1), (2, vJ x2), (4, vI x4)] [] X (go34 x1 x2 x4 X)) (x1 : Int) (x2 : Int) (x4 : Int) (X : Mem)  : G C V L 0 0 5 72 [(0, vR V.1 49), (1, vI x1), (2, vJ x2), (4, vI x4)] [] X (B_X6_worthOf_72 wo go34 x1 x2 x4 X) := by
  unfold B_X6_worthOf_72
  refine g_iinc (q := 3) hC dX6_worthOf_72 rfl (by decide) rfl ?_
  refine g_goto (tgt := 34) hC dX6_worthOf_75 (by decide) ?_
  refine g_sub [1, 2, 3, 0] rfl ?_
  exact hgo34 x1 x2 (x4 + 1) X
set_option maxRecDepth 20000 in
theorem gL_X6_worthOf_34 {C : Cx} {V : Ev} {L : List Kd} {fr1 lo1 : Nat} {wo : Int → Mem → Option (Int × Mem)} (hC : Ok C V cX6_worthOf RX6 5 (fr1 + 8) (lo1 + 400)) (hR : Rt C V L (some .long) rJ) (hL : LKc L) (hwo : ∀ (k : Int) (X : Mem), Kt C.2.1 V L yX6_worthOf (.code yX6_worthOf cX6_worthOf 5 (some .long)) fr1 lo1 [vR V.1 49, vI k] rJ X (wo k X)) : ∀ (n : Nat) (x1 : Int) (x2 : Int) (x4 : Int) (X : Mem), G C V L 0 0 5 34 [(0, vR V.1 49), (1, vI x1), (2, vJ x2), (4, vI x4)] [] X (L_X6_worthOf_34 wo  n x1 x2 x4 X) := by
  intro n
  induction n with
  | zero => intro x1 x2 x4 X; exact g_none
  | succ n ih =>
    intro x1 x2 x4 X
    rw [L_X6_worthOf_34]
    refine g_iload (q := 3) hC dX6_worthOf_34 rfl ?_
    refine g_aload_n (q := 0) hC dX6_worthOf_36 rfl rfl rfl ?_
    refine g_getD (k := 2) (kz := 2) hC cf_X6 (at_49 hL) (by decide) rfl (by decide) rfl wf_RX6_28 dX6_worthOf_37 (g_cm (l := RIV) fun m4 => ?_)
    refine g_getI (k := 2) (kz := 2) hC cf_X2 (rv_0 (riv_of hL m4)) (by decide) rfl (by decide) rfl wf_RX6_52 dX6_worthOf_40 ?_
    refine g_icmp_ge (tgt := 78) hC dX6_worthOf_43 (by decide) ?_ ?_
    · refine g_lload_n (q := 2) hC dX6_worthOf_78 rfl rfl ?_
      exact g_lret hC hR dX6_worthOf_79
    · refine g_aload_n (q := 0) hC dX6_worthOf_46 rfl rfl rfl ?_
      refine g_getD (k := 2) (kz := 2) hC cf_X6 (at_49 hL) (by decide) rfl (by decide) rfl wf_RX6_28 dX6_worthOf_47 (g_cm (l := RIV) fun m5 => ?_)
      refine g_getS (k := 19) hC cf_X2 (rv_0 (riv_of hL m5)) (by decide) rfl (add_nn (rv_0 (riv_of hL m5))) (by decide) wf_RX6_55 dX6_worthOf_50 ?_
      refine g_iload (q := 3) hC dX6_worthOf_53 rfl ?_
      refine g_iald hC (rv_9 (riv_of hL m5)) (by decide) dX6_worthOf_55 ?_
      refine g_iconst (v := vI (-1)) hC dX6_worthOf_56 rfl ?_
      refine g_icmp_eq (tgt := 72) hC dX6_worthOf_57 (by decide) ?_ ?_
      · exact gB_X6_worthOf_72 hC hR hL hwo ih x1 x2 x4 X
      · refine g_lload_n (q := 2) hC dX6_worthOf_60 rfl rfl ?_
        refine g_aload_n (q := 0) hC dX6_worthOf_61 rfl rfl rfl ?_
        refine g_iload (q := 3) hC dX6_worthOf_62 rfl ?_
        refine g_iload_n (q := 1) hC dX6_worthOf_64 rfl rfl ?_
        refine g_callVJ (As := [vI x4, vI x1]) hC mv_X6_worthAt wml_RX6_73 (k_X6_worthAt _ V hL wo hwo x4 x1 X) cf_X6 (at_49 hL) (by decide) ⟨Nat.zero_le _, Nat.zero_le _⟩ rfl rfl ⟨by omega, by omega⟩ (Nat.le_of_ble_eq_true rfl) dX6_worthOf_65 (fun r6 X7 => ?_)
        refine g_maxl hC wml_RX6_77 (by first | omega | exact Nat.le_trans (Nat.le_of_ble_eq_true rfl) (Nat.le_add_left _ _)) (by first | omega | exact Nat.le_trans (Nat.le_of_ble_eq_true rfl) (Nat.le_add_left _ _)) ⟨Nat.zero_le _, Nat.zero_le _⟩ dX6_worthOf_68 ?_
        refine g_topJ (fun v8 => ?_)
        refine g_lstore_n hC dX6_worthOf_71 rfl (by decide) rfl ?_
        refine g_sub [1, 2, 0, 3] rfl ?_
        exact gB_X6_worthOf_72 hC hR hL hwo ih x1 v8 x4 X7
set_option maxRecDepth 20000 in
theorem k_X6_worthOf (l : Launch) (V : Ev) {L : List Kd} (hL : LKc L) {fr1 lo1 : Nat} (wo : Int → Mem → Option (Int × Mem)) (hwo : ∀ (k : Int) (X : Mem), Kt l V L yX6_worthOf (.code yX6_worthOf cX6_worthOf 5 (some .long)) fr1 lo1 [vR V.1 49, vI k] rJ X (wo k X)) (p1 : Int) (X : Mem)  : Kt l V L yX6_worthOf (.code yX6_worthOf cX6_worthOf 5 (some .long)) (fr1 + 8) (lo1 + 400) [vR V.1 49, vI p1] rJ X (f_X6_worthOf wo p1 X) := by
  refine kt_of (own := RX6) (lv0 := [(0, vR V.1 49), (1, vI p1)]) (by decide) rfl (Nat.le_of_ble_eq_true rfl) rfl (fun C hCl hC hR => ?_)
  subst hCl
  unfold f_X6_worthOf
  refine g_iload_n (q := 1) hC dX6_worthOf_0 rfl rfl ?_
  refine g_if_le (tgt := 11) hC dX6_worthOf_1 (by decide) ?_ ?_
  · exact gB_X6_worthOf_11 hC hR hL hwo  p1 X
  · refine g_aload_n (q := 0) hC dX6_worthOf_4 rfl rfl rfl ?_
    refine g_getI (k := 4) (kz := 4) hC cf_X6 (at_49 hL) (by decide) rfl (by decide) rfl wf_RX6_20 dX6_worthOf_5 ?_
    refine g_if_ne (tgt := 29) hC dX6_worthOf_8 (by decide) ?_ ?_
    · refine g_lconst (v := vJ 0) hC dX6_worthOf_29 rfl ?_
      refine g_lstore_n hC dX6_worthOf_30 rfl (by decide) rfl ?_
      refine g_iconst (v := vI 0) hC dX6_worthOf_31 rfl ?_
      refine g_istore hC dX6_worthOf_32 (by decide) rfl ?_
      refine g_sub [2, 3, 1, 0] rfl ?_
      exact gL_X6_worthOf_34 hC hR hL hwo  KF p1 0 0 X
    · exact gB_X6_worthOf_11 hC hR hL hwo  p1 X
def f_X6_worthOf_d : Nat → Int → Mem → Option (Int × Mem)
  | 0, _, _ => none
  | d + 1, k, X => f_X6_worthOf (f_X6_worthOf_d d) k X
theorem k_X6_worthOf_d (l : Launch) (V : Ev) {L : List Kd} (hL : LKc L) : ∀ (d : Nat) (k : Int) (X : Mem), Kt l V L yX6_worthOf (.code yX6_worthOf cX6_worthOf 5 (some .long)) (8 * d) (400 * d) [vR V.1 49, vI k] rJ X (f_X6_worthOf_d d k X)
  | 0, _, _ => fun _ _ h => nomatch h
  | d + 1, k, X => k_X6_worthOf l V hL (f_X6_worthOf_d d) (k_X6_worthOf_d l V hL d) k X
def f_X6_wholeOf (p1 : Int) (X : Mem) : Option (Int × Mem) :=
  c1 (X 49 4) <| if (X 49 4) = 0 then
    some (1000000, X)
  else
    some (lshl 1000000 (5 * p1), X)
set_option maxRecDepth 20000 in
theorem k_X6_wholeOf (l : Launch) (V : Ev) {L : List Kd} (hL : LKc L) (p1 : Int) (X : Mem)  : Kt l V L yX6_wholeOf (.code yX6_wholeOf cX6_wholeOf 2 (some .long)) 0 0 [vR V.1 49, vI p1] rJ X (f_X6_wholeOf p1 X) := by
  refine kt_of (own := RX6) (lv0 := [(0, vR V.1 49), (1, vI p1)]) (by decide) rfl (Nat.le_of_ble_eq_true rfl) rfl (fun C hCl hC hR => ?_)
  subst hCl
  unfold f_X6_wholeOf
  refine g_aload_n (q := 0) hC dX6_wholeOf_0 rfl rfl rfl ?_
  refine g_getI (k := 4) (kz := 4) hC cf_X6 (at_49 hL) (by decide) rfl (by decide) rfl wf_RX6_20 dX6_wholeOf_1 ?_
  refine g_if_eq (tgt := 17) hC dX6_wholeOf_4 (by decide) ?_ ?_
  · refine g_ldc2 (n := 1000000) hC wk_RX6_59 rfl dX6_wholeOf_17 ?_
    exact g_lret hC hR dX6_wholeOf_20
  · refine g_ldc2 (n := 1000000) hC wk_RX6_59 rfl dX6_wholeOf_7 ?_
    refine g_iconst (v := vI 5) hC dX6_wholeOf_10 rfl ?_
    refine g_iload_n (q := 1) hC dX6_wholeOf_11 rfl rfl ?_
    refine g_imul hC dX6_wholeOf_12 ?_
    refine g_lshl hC dX6_wholeOf_13 ?_
    refine g_goto (tgt := 20) hC dX6_wholeOf_14 (by decide) ?_
    exact g_lret hC hR dX6_wholeOf_20
def B_X11_worth_25  (X : Mem) : Option (Int × Mem) :=
  cl (f_X11_refuse 1 X) fun r3 X4 =>
  cz r3 (some (r3, X4))
def f_X11_worth (p1 : Int) (p2 : Int) (p3 : Int) (X : Mem) : Option (Int × Mem) :=
  cl (f_X11_isCell p1 X) fun r1 X2 =>
  c1 r1 <| if r1 = 0 then
    B_X11_worth_25   X2
  else
    cl (f_X11_isCell p2 X2) fun r5 X6 =>
    c1 r5 <| if r5 = 0 then
      B_X11_worth_25   X6
    else
      c1 p3 <| if p3 < 0 then
        B_X11_worth_25   X6
      else
        c2 p3 3 <| if p3 ≤ 3 then
          cm RIV (X6 2 0) <|
          cl (f_X1_look (X6 2 0) (X6 2 3) (X6 2 4) X6) fun _ X9 =>
          cl (f_X1_search p1 p2 X9) fun r10 X11 =>
          cl (f_X6_begin 2 p3 X11) fun _ X13 =>
          cl (f_X6_worthOf_d 5 p3 X13) fun r14 X15 =>
          cl (f_X6_wholeOf p3 X15) fun r16 X17 =>
          cl (f_X11_tellFraction r14 r16 X17) fun r18 X19 =>
          cz r18 (some (r18, X19))
        else
          B_X11_worth_25   X6
set_option maxRecDepth 20000 in
theorem gB_X11_worth_25 {C : Cx} {V : Ev} {L : List Kd} (hC : Ok C V cX11_worth RX11 4 41 2024) (hR : Rt C V L (some .boolean) rI) (hL : LKc L)  (X : Mem)  : G C V L 0 0 4 25 [(0, vR V.1 0)] [] X (B_X11_worth_25    X) := by
  unfold B_X11_worth_25
  refine g_aload_n (q := 0) hC dX11_worth_25 rfl rfl rfl ?_
  refine g_iconst (v := vI 1) hC dX11_worth_26 rfl ?_
  refine g_callVI (As := [vI 1]) hC mv_X11_refuse wml_RX11_140 (k_X11_refuse _ V hL 1 X) cf_X11 (at_0 hL) (by decide) ⟨Nat.zero_le _, Nat.zero_le _⟩ rfl rfl ⟨Nat.le_of_ble_eq_true rfl, Nat.le_of_ble_eq_true rfl⟩ (Nat.le_of_ble_eq_true rfl) dX11_worth_27 (fun r3 X4 => ?_)
  exact g_zret hC hR dX11_worth_30
set_option maxRecDepth 20000 in
theorem k_X11_worth (l : Launch) (V : Ev) {L : List Kd} (hL : LKc L) (p1 : Int) (p2 : Int) (p3 : Int) (X : Mem)  : Kt l V L yX11_worth (.code yX11_worth cX11_worth 4 (some .boolean)) 41 2024 [vR V.1 0, vI p1, vI p2, vI p3] rI X (f_X11_worth p1 p2 p3 X) := by
  refine kt_of (own := RX11) (lv0 := [(0, vR V.1 0), (1, vI p1), (2, vI p2), (3, vI p3)]) (by decide) rfl (Nat.le_of_ble_eq_true rfl) rfl (fun C hCl hC hR => ?_)
  subst hCl
  unfold f_X11_worth
  refine g_aload_n (q := 0) hC dX11_worth_0 rfl rfl rfl ?_
  refine g_iload_n (q := 1) hC dX11_worth_1 rfl rfl ?_
  refine g_callVI (As := [vI p1]) hC mv_X11_isCell wml_RX11_278 (k_X11_isCell _ V hL p1 X) cf_X11 (at_0 hL) (by decide) ⟨Nat.zero_le _, Nat.zero_le _⟩ rfl rfl ⟨Nat.le_of_ble_eq_true rfl, Nat.le_of_ble_eq_true rfl⟩ (Nat.le_of_ble_eq_true rfl) dX11_worth_2 (fun r1 X2 => ?_)
  refine g_if_eq (tgt := 25) hC dX11_worth_5 (by decide) ?_ ?_
  · refine g_sub [0] rfl ?_
    exact gB_X11_worth_25 hC hR hL  X2
  · refine g_aload_n (q := 0) hC dX11_worth_8 rfl rfl rfl ?_
    refine g_iload_n (q := 2) hC dX11_worth_9 rfl rfl ?_
    refine g_callVI (As := [vI p2]) hC mv_X11_isCell wml_RX11_278 (k_X11_isCell _ V hL p2 X2) cf_X11 (at_0 hL) (by decide) ⟨Nat.zero_le _, Nat.zero_le _⟩ rfl rfl ⟨Nat.le_of_ble_eq_true rfl, Nat.le_of_ble_eq_true rfl⟩ (Nat.le_of_ble_eq_true rfl) dX11_worth_10 (fun r5 X6 => ?_)
    refine g_if_eq (tgt := 25) hC dX11_worth_13 (by decide) ?_ ?_
    · refine g_sub [0] rfl ?_
      exact gB_X11_worth_25 hC hR hL  X6
    · refine g_iload_n (q := 3) hC dX11_worth_16 rfl rfl ?_
      refine g_if_lt (tgt := 25) hC dX11_worth_17 (by decide) ?_ ?_
      · refine g_sub [0] rfl ?_
        exact gB_X11_worth_25 hC hR hL  X6
      · refine g_iload_n (q := 3) hC dX11_worth_20 rfl rfl ?_
        refine g_iconst (v := vI 3) hC dX11_worth_21 rfl ?_
        refine g_icmp_le (tgt := 31) hC dX11_worth_22 (by decide) ?_ ?_
        · refine g_aload_n (q := 0) hC dX11_worth_31 rfl rfl rfl ?_
          refine g_getS (k := 9) hC cf_X11 (at_0 hL) (by decide) rfl (by decide) (by decide) wf_RX11_80 dX11_worth_32 ?_
          refine g_aload_n (q := 0) hC dX11_worth_35 rfl rfl rfl ?_
          refine g_getS (k := 1) hC cf_X11 (at_0 hL) (by decide) rfl (by decide) (by decide) wf_RX11_18 dX11_worth_36 ?_
          refine g_getD (k := 0) (kz := 0) hC cf_X7 (at_2 hL) (by decide) rfl (by decide) rfl wf_RX11_58 dX11_worth_39 (g_cm (l := RIV) fun m7 => ?_)
          refine g_aload_n (q := 0) hC dX11_worth_42 rfl rfl rfl ?_
          refine g_getS (k := 1) hC cf_X11 (at_0 hL) (by decide) rfl (by decide) (by decide) wf_RX11_18 dX11_worth_43 ?_
          refine g_getI (k := 3) (kz := 3) hC cf_X7 (at_2 hL) (by decide) rfl (by decide) rfl wf_RX11_227 dX11_worth_46 ?_
          refine g_aload_n (q := 0) hC dX11_worth_49 rfl rfl rfl ?_
          refine g_getS (k := 1) hC cf_X11 (at_0 hL) (by decide) rfl (by decide) (by decide) wf_RX11_18 dX11_worth_50 ?_
          refine g_getI (k := 4) (kz := 4) hC cf_X7 (at_2 hL) (by decide) rfl (by decide) rfl wf_RX11_230 dX11_worth_53 ?_
          refine g_callVV (As := [vR V.1 (X6 2 0), vI (X6 2 3), vI (X6 2 4)]) hC mv_X1_look wml_RX11_294 (k_X1_look _ V hL (X6 2 0) (X6 2 3) (X6 2 4) X6 (riv_of hL m7)) cf_X1 (at_42 hL) (by decide) ⟨Nat.zero_le _, Nat.zero_le _⟩ rfl rfl ⟨Nat.le_of_ble_eq_true rfl, Nat.le_of_ble_eq_true rfl⟩ (Nat.le_of_ble_eq_true rfl) dX11_worth_56 (fun _ X9 => ?_)
          refine g_aload_n (q := 0) hC dX11_worth_59 rfl rfl rfl ?_
          refine g_getS (k := 9) hC cf_X11 (at_0 hL) (by decide) rfl (by decide) (by decide) wf_RX11_80 dX11_worth_60 ?_
          refine g_iload_n (q := 1) hC dX11_worth_63 rfl rfl ?_
          refine g_iload_n (q := 2) hC dX11_worth_64 rfl rfl ?_
          refine g_callVI (As := [vI p1, vI p2]) hC mv_X1_search wml_RX11_340 (k_X1_search _ V hL p1 p2 X9) cf_X1 (at_42 hL) (by decide) ⟨Nat.zero_le _, Nat.zero_le _⟩ rfl rfl ⟨Nat.le_of_ble_eq_true rfl, Nat.le_of_ble_eq_true rfl⟩ (Nat.le_of_ble_eq_true rfl) dX11_worth_65 (fun r10 X11 => ?_)
          refine g_pop hC dX11_worth_68 rfl ?_
          refine g_aload_n (q := 0) hC dX11_worth_69 rfl rfl rfl ?_
          refine g_getS (k := 10) hC cf_X11 (at_0 hL) (by decide) rfl (by decide) (by decide) wf_RX11_89 dX11_worth_70 ?_
          refine g_aload_n (q := 0) hC dX11_worth_73 rfl rfl rfl ?_
          refine g_getS (k := 1) hC cf_X11 (at_0 hL) (by decide) rfl (by decide) (by decide) wf_RX11_18 dX11_worth_74 ?_
          refine g_iload_n (q := 3) hC dX11_worth_77 rfl rfl ?_
          refine g_callVV (As := [vR V.1 2, vI p3]) hC mv_X6_begin wml_RX11_373 (k_X6_begin _ V hL 2 p3 X11 (sta_of hL (by decide))) cf_X6 (at_49 hL) (by decide) ⟨Nat.zero_le _, Nat.zero_le _⟩ rfl rfl ⟨Nat.le_of_ble_eq_true rfl, Nat.le_of_ble_eq_true rfl⟩ (Nat.le_of_ble_eq_true rfl) dX11_worth_78 (fun _ X13 => ?_)
          refine g_aload_n (q := 0) hC dX11_worth_81 rfl rfl rfl ?_
          refine g_aload_n (q := 0) hC dX11_worth_82 rfl rfl rfl ?_
          refine g_getS (k := 10) hC cf_X11 (at_0 hL) (by decide) rfl (by decide) (by decide) wf_RX11_89 dX11_worth_83 ?_
          refine g_iload_n (q := 3) hC dX11_worth_86 rfl rfl ?_
          refine g_callNJ (As := [vI p3]) hC mv_X6_worthOf nl_9 (k_X6_worthOf_d _ V hL 5 p3 X13) cf_X6 (at_49 hL) (by decide) ⟨Nat.zero_le _, Nat.zero_le _⟩ rfl rfl ⟨Nat.le_of_ble_eq_true rfl, Nat.le_of_ble_eq_true rfl⟩ (Nat.le_of_ble_eq_true rfl) dX11_worth_87 (fun r14 X15 => ?_)
          refine g_aload_n (q := 0) hC dX11_worth_90 rfl rfl rfl ?_
          refine g_getS (k := 10) hC cf_X11 (at_0 hL) (by decide) rfl (by decide) (by decide) wf_RX11_89 dX11_worth_91 ?_
          refine g_iload_n (q := 3) hC dX11_worth_94 rfl rfl ?_
          refine g_callVJ (As := [vI p3]) hC mv_X6_wholeOf wml_RX11_381 (k_X6_wholeOf _ V hL p3 X15) cf_X6 (at_49 hL) (by decide) ⟨Nat.zero_le _, Nat.zero_le _⟩ rfl rfl ⟨Nat.le_of_ble_eq_true rfl, Nat.le_of_ble_eq_true rfl⟩ (Nat.le_of_ble_eq_true rfl) dX11_worth_95 (fun r16 X17 => ?_)
          refine g_callVI (As := [vJ r14, vJ r16]) hC mv_X11_tellFraction wml_RX11_307 (k_X11_tellFraction _ V hL r14 r16 X17) cf_X11 (at_0 hL) (by decide) ⟨Nat.zero_le _, Nat.zero_le _⟩ rfl rfl ⟨Nat.le_of_ble_eq_true rfl, Nat.le_of_ble_eq_true rfl⟩ (Nat.le_of_ble_eq_true rfl) dX11_worth_98 (fun r18 X19 => ?_)
          exact g_zret hC hR dX11_worth_101
        · refine g_sub [0] rfl ?_
          exact gB_X11_worth_25 hC hR hL  X6
def B_X6_firstBest_60 (go7 : Int → Int → Int → Int → Mem → Option (Int × Mem)) (x1 : Int) (x2 : Int) (x3 : Int) (x5 : Int) (X : Mem) : Option (Int × Mem) :=
  go7 x1 x2 x3 (x5 + 1) X
def B_X6_firstBest_54 (go7 : Int → Int → Int → Int → Mem → Option (Int × Mem)) (x1 : Int) (x5 : Int) (x6 : Int) (X : Mem) : Option (Int × Mem) :=
  B_X6_firstBest_60  go7 x1 x5 x6 x5 X
def L_X6_firstBest_7 : Nat → Int → Int → Int → Int → Mem → Option (Int × Mem)
  | 0, _, _, _, _, _ => none
  | n + 1, x1, x2, x3, x5, X =>
    cm RIV (X 49 2) <|
    c2 x5 (X (X 49 2) 2) <| if (X (X 49 2) 2) ≤ x5 then
      some (x2, X)
    else
      cm RIV (X 49 2) <|
      ax 5 x5 <|
      c2 (X ((X 49 2) + 9) x5) ((-1)) <| if (X ((X 49 2) + 9) x5) = ((-1)) then
        B_X6_firstBest_60  (fun x1 x2 x3 x5 X => L_X6_firstBest_7   n x1 x2 x3 x5 X) x1 x2 x3 x5 X
      else
        cl (f_X6_worthAt (f_X6_worthOf_d 4) x5 x1 X) fun r3 X4 =>
        c2 x2 ((-1)) <| if x2 = ((-1)) then
          B_X6_firstBest_54  (fun x1 x2 x3 x5 X => L_X6_firstBest_7   n x1 x2 x3 x5 X) x1 x5 r3 X4
        else
          d2 r3 x3 <| if r3 ≤ x3 then
            B_X6_firstBest_60  (fun x1 x2 x3 x5 X => L_X6_firstBest_7   n x1 x2 x3 x5 X) x1 x2 x3 x5 X4
          else
            B_X6_firstBest_54  (fun x1 x2 x3 x5 X => L_X6_firstBest_7   n x1 x2 x3 x5 X) x1 x5 r3 X4
def f_X6_firstBest (p1 : Int) (X : Mem) : Option (Int × Mem) :=
  L_X6_firstBest_7   KF p1 ((-1)) 0 0 X
set_option maxRecDepth 20000 in
theorem gB_X6_firstBest_60 {C : Cx} {V : Ev} {L : List Kd} (hC : Ok C V cX6_firstBest RX6 8 35 1781) (hR : Rt C V L (some .int) rI) (hL : LKc L) {go7 : Int → Int → Int → Int → Mem → Option (Int × Mem)} (hgo7 : ∀ (x1 : Int) (x2 : Int) (x3 : Int) (x5 : Int) (X : Mem), G C V L 0 0 8 7 [(0, vR V.1 49), (1, vI x1), (2, vI x2), (3, vJ x3), (5, vI x5)] [] X (go7 x1 x2 x3 x5 X)) (x1 : Int) (x2 : Int) (x3 : Int) (x5 : Int) (X : Mem)  : G C V L 0 0 8 60 [(0, vR V.1 49), (1, vI x1), (2, vI x2), (3, vJ x3), (5, vI x5)] [] X (B_X6_firstBest_60  go7 x1 x2 x3 x5 X) := by
  unfold B_X6_firstBest_60
  refine g_iinc (q := 4) hC dX6_firstBest_60 rfl (by decide) rfl ?_
  refine g_goto (tgt := 7) hC dX6_firstBest_63 (by decide) ?_
  refine g_sub [1, 2, 3, 4, 0] rfl ?_
  exact hgo7 x1 x2 x3 (x5 + 1) X
set_option maxRecDepth 20000 in
theorem gB_X6_firstBest_54 {C : Cx} {V : Ev} {L : List Kd} (hC : Ok C V cX6_firstBest RX6 8 35 1781) (hR : Rt C V L (some .int) rI) (hL : LKc L) {go7 : Int → Int → Int → Int → Mem → Option (Int × Mem)} (hgo7 : ∀ (x1 : Int) (x2 : Int) (x3 : Int) (x5 : Int) (X : Mem), G C V L 0 0 8 7 [(0, vR V.1 49), (1, vI x1), (2, vI x2), (3, vJ x3), (5, vI x5)] [] X (go7 x1 x2 x3 x5 X)) (x1 : Int) (x5 : Int) (x6 : Int) (X : Mem)  : G C V L 0 0 8 54 [(0, vR V.1 49), (1, vI x1), (5, vI x5), (6, vJ x6)] [] X (B_X6_firstBest_54  go7 x1 x5 x6 X) := by
  unfold B_X6_firstBest_54
  refine g_iload (q := 2) hC dX6_firstBest_54 rfl ?_
  refine g_istore_n hC dX6_firstBest_56 rfl (by decide) rfl ?_
  refine g_lload (q := 4) hC dX6_firstBest_57 rfl ?_
  refine g_lstore_n hC dX6_firstBest_59 rfl (by decide) rfl ?_
  refine g_sub [2, 3, 1, 0, 4] rfl ?_
  exact gB_X6_firstBest_60 hC hR hL hgo7 x1 x5 x6 x5 X
set_option maxRecDepth 20000 in
theorem gL_X6_firstBest_7 {C : Cx} {V : Ev} {L : List Kd} (hC : Ok C V cX6_firstBest RX6 8 35 1781) (hR : Rt C V L (some .int) rI) (hL : LKc L) : ∀ (n : Nat) (x1 : Int) (x2 : Int) (x3 : Int) (x5 : Int) (X : Mem), G C V L 0 0 8 7 [(0, vR V.1 49), (1, vI x1), (2, vI x2), (3, vJ x3), (5, vI x5)] [] X (L_X6_firstBest_7   n x1 x2 x3 x5 X) := by
  intro n
  induction n with
  | zero => intro x1 x2 x3 x5 X; exact g_none
  | succ n ih =>
    intro x1 x2 x3 x5 X
    rw [L_X6_firstBest_7]
    refine g_iload (q := 4) hC dX6_firstBest_7 rfl ?_
    refine g_aload_n (q := 0) hC dX6_firstBest_9 rfl rfl rfl ?_
    refine g_getD (k := 2) (kz := 2) hC cf_X6 (at_49 hL) (by decide) rfl (by decide) rfl wf_RX6_28 dX6_firstBest_10 (g_cm (l := RIV) fun m1 => ?_)
    refine g_getI (k := 2) (kz := 2) hC cf_X2 (rv_0 (riv_of hL m1)) (by decide) rfl (by decide) rfl wf_RX6_52 dX6_firstBest_13 ?_
    refine g_icmp_ge (tgt := 66) hC dX6_firstBest_16 (by decide) ?_ ?_
    · refine g_iload_n (q := 2) hC dX6_firstBest_66 rfl rfl ?_
      exact g_iret hC hR dX6_firstBest_67
    · refine g_aload_n (q := 0) hC dX6_firstBest_19 rfl rfl rfl ?_
      refine g_getD (k := 2) (kz := 2) hC cf_X6 (at_49 hL) (by decide) rfl (by decide) rfl wf_RX6_28 dX6_firstBest_20 (g_cm (l := RIV) fun m2 => ?_)
      refine g_getS (k := 19) hC cf_X2 (rv_0 (riv_of hL m2)) (by decide) rfl (add_nn (rv_0 (riv_of hL m2))) (by decide) wf_RX6_55 dX6_firstBest_23 ?_
      refine g_iload (q := 4) hC dX6_firstBest_26 rfl ?_
      refine g_iald hC (rv_9 (riv_of hL m2)) (by decide) dX6_firstBest_28 ?_
      refine g_iconst (v := vI (-1)) hC dX6_firstBest_29 rfl ?_
      refine g_icmp_eq (tgt := 60) hC dX6_firstBest_30 (by decide) ?_ ?_
      · exact gB_X6_firstBest_60 hC hR hL ih x1 x2 x3 x5 X
      · refine g_aload_n (q := 0) hC dX6_firstBest_33 rfl rfl rfl ?_
        refine g_iload (q := 4) hC dX6_firstBest_34 rfl ?_
        refine g_iload_n (q := 1) hC dX6_firstBest_36 rfl rfl ?_
        refine g_callVJ (As := [vI x5, vI x1]) hC mv_X6_worthAt wml_RX6_73 (k_X6_worthAt _ V hL (f_X6_worthOf_d 4) (k_X6_worthOf_d _ V hL 4) x5 x1 X) cf_X6 (at_49 hL) (by decide) ⟨Nat.zero_le _, Nat.zero_le _⟩ rfl rfl ⟨Nat.le_of_ble_eq_true rfl, Nat.le_of_ble_eq_true rfl⟩ (Nat.le_of_ble_eq_true rfl) dX6_firstBest_37 (fun r3 X4 => ?_)
        refine g_lstore hC dX6_firstBest_40 (by decide) rfl ?_
        refine g_iload_n (q := 3) hC dX6_firstBest_42 rfl rfl ?_
        refine g_iconst (v := vI (-1)) hC dX6_firstBest_43 rfl ?_
        refine g_icmp_eq (tgt := 54) hC dX6_firstBest_44 (by decide) ?_ ?_
        · refine g_sub [1, 2, 5, 0] rfl ?_
          exact gB_X6_firstBest_54 hC hR hL ih x1 x5 r3 X4
        · refine g_lload (q := 0) hC dX6_firstBest_47 rfl ?_
          refine g_lload_n (q := 4) hC dX6_firstBest_49 rfl rfl ?_
          refine g_lcmp_le (tgt := 60) hC dX6_firstBest_50 rfl dX6_firstBest_51 (by decide) ?_ ?_
          · refine g_sub [1, 2, 3, 4, 5] rfl ?_
            exact gB_X6_firstBest_60 hC hR hL ih x1 x2 x3 x5 X4
          · refine g_sub [1, 2, 5, 0] rfl ?_
            exact gB_X6_firstBest_54 hC hR hL ih x1 x5 r3 X4
set_option maxRecDepth 20000 in
theorem k_X6_firstBest (l : Launch) (V : Ev) {L : List Kd} (hL : LKc L) (p1 : Int) (X : Mem)  : Kt l V L yX6_firstBest (.code yX6_firstBest cX6_firstBest 8 (some .int)) 35 1781 [vR V.1 49, vI p1] rI X (f_X6_firstBest p1 X) := by
  refine kt_of (own := RX6) (lv0 := [(0, vR V.1 49), (1, vI p1)]) (by decide) rfl (Nat.le_of_ble_eq_true rfl) rfl (fun C hCl hC hR => ?_)
  subst hCl
  unfold f_X6_firstBest
  refine g_iconst (v := vI (-1)) hC dX6_firstBest_0 rfl ?_
  refine g_istore_n hC dX6_firstBest_1 rfl (by decide) rfl ?_
  refine g_lconst (v := vJ 0) hC dX6_firstBest_2 rfl ?_
  refine g_lstore_n hC dX6_firstBest_3 rfl (by decide) rfl ?_
  refine g_iconst (v := vI 0) hC dX6_firstBest_4 rfl ?_
  refine g_istore hC dX6_firstBest_5 (by decide) rfl ?_
  refine g_sub [3, 4, 2, 1, 0] rfl ?_
  exact gL_X6_firstBest_7 hC hR hL  KF p1 ((-1)) 0 0 X
def B_X11_next_26  (X : Mem) : Option (Int × Mem) :=
  cl (f_X11_fail 1 X) fun r3 X4 =>
  some (r3, X4)
def f_X11_next (p1 : Int) (p2 : Int) (p3 : Int) (X : Mem) : Option (Int × Mem) :=
  cl (f_X11_isCell p1 X) fun r1 X2 =>
  c1 r1 <| if r1 = 0 then
    B_X11_next_26   X2
  else
    cl (f_X11_isCell p2 X2) fun r5 X6 =>
    c1 r5 <| if r5 = 0 then
      B_X11_next_26   X6
    else
      c2 p3 1 <| if p3 < 1 then
        B_X11_next_26   X6
      else
        c2 p3 3 <| if p3 ≤ 3 then
          cm RIV (X6 2 0) <|
          cl (f_X1_look (X6 2 0) (X6 2 3) (X6 2 4) X6) fun _ X9 =>
          cl (f_X1_search p1 p2 X9) fun r10 X11 =>
          cl (f_X6_begin 2 p3 X11) fun _ X13 =>
          cl (f_X6_firstBest p3 X13) fun r14 X15 =>
          c2 r14 ((-1)) <| if ¬ r14 = ((-1)) then
            cl (f_X11_answer r14 X15) fun r16 X17 =>
            some (r16, X17)
          else
            cl (f_X11_fail 6 X15) fun r18 X19 =>
            some (r18, X19)
        else
          B_X11_next_26   X6
set_option maxRecDepth 20000 in
theorem gB_X11_next_26 {C : Cx} {V : Ev} {L : List Kd} (hC : Ok C V cX11_next RX11 5 36 1808) (hR : Rt C V L (some .int) rI) (hL : LKc L)  (X : Mem)  : G C V L 0 0 5 26 [(0, vR V.1 0)] [] X (B_X11_next_26    X) := by
  unfold B_X11_next_26
  refine g_aload_n (q := 0) hC dX11_next_26 rfl rfl rfl ?_
  refine g_iconst (v := vI 1) hC dX11_next_27 rfl ?_
  refine g_callVI (As := [vI 1]) hC mv_X11_fail wml_RX11_162 (k_X11_fail _ V hL 1 X) cf_X11 (at_0 hL) (by decide) ⟨Nat.zero_le _, Nat.zero_le _⟩ rfl rfl ⟨Nat.le_of_ble_eq_true rfl, Nat.le_of_ble_eq_true rfl⟩ (Nat.le_of_ble_eq_true rfl) dX11_next_28 (fun r3 X4 => ?_)
  exact g_iret hC hR dX11_next_31
set_option maxRecDepth 20000 in
theorem k_X11_next (l : Launch) (V : Ev) {L : List Kd} (hL : LKc L) (p1 : Int) (p2 : Int) (p3 : Int) (X : Mem)  : Kt l V L yX11_next (.code yX11_next cX11_next 5 (some .int)) 36 1808 [vR V.1 0, vI p1, vI p2, vI p3] rI X (f_X11_next p1 p2 p3 X) := by
  refine kt_of (own := RX11) (lv0 := [(0, vR V.1 0), (1, vI p1), (2, vI p2), (3, vI p3)]) (by decide) rfl (Nat.le_of_ble_eq_true rfl) rfl (fun C hCl hC hR => ?_)
  subst hCl
  unfold f_X11_next
  refine g_aload_n (q := 0) hC dX11_next_0 rfl rfl rfl ?_
  refine g_iload_n (q := 1) hC dX11_next_1 rfl rfl ?_
  refine g_callVI (As := [vI p1]) hC mv_X11_isCell wml_RX11_278 (k_X11_isCell _ V hL p1 X) cf_X11 (at_0 hL) (by decide) ⟨Nat.zero_le _, Nat.zero_le _⟩ rfl rfl ⟨Nat.le_of_ble_eq_true rfl, Nat.le_of_ble_eq_true rfl⟩ (Nat.le_of_ble_eq_true rfl) dX11_next_2 (fun r1 X2 => ?_)
  refine g_if_eq (tgt := 26) hC dX11_next_5 (by decide) ?_ ?_
  · refine g_sub [0] rfl ?_
    exact gB_X11_next_26 hC hR hL  X2
  · refine g_aload_n (q := 0) hC dX11_next_8 rfl rfl rfl ?_
    refine g_iload_n (q := 2) hC dX11_next_9 rfl rfl ?_
    refine g_callVI (As := [vI p2]) hC mv_X11_isCell wml_RX11_278 (k_X11_isCell _ V hL p2 X2) cf_X11 (at_0 hL) (by decide) ⟨Nat.zero_le _, Nat.zero_le _⟩ rfl rfl ⟨Nat.le_of_ble_eq_true rfl, Nat.le_of_ble_eq_true rfl⟩ (Nat.le_of_ble_eq_true rfl) dX11_next_10 (fun r5 X6 => ?_)
    refine g_if_eq (tgt := 26) hC dX11_next_13 (by decide) ?_ ?_
    · refine g_sub [0] rfl ?_
      exact gB_X11_next_26 hC hR hL  X6
    · refine g_iload_n (q := 3) hC dX11_next_16 rfl rfl ?_
      refine g_iconst (v := vI 1) hC dX11_next_17 rfl ?_
      refine g_icmp_lt (tgt := 26) hC dX11_next_18 (by decide) ?_ ?_
      · refine g_sub [0] rfl ?_
        exact gB_X11_next_26 hC hR hL  X6
      · refine g_iload_n (q := 3) hC dX11_next_21 rfl rfl ?_
        refine g_iconst (v := vI 3) hC dX11_next_22 rfl ?_
        refine g_icmp_le (tgt := 32) hC dX11_next_23 (by decide) ?_ ?_
        · refine g_aload_n (q := 0) hC dX11_next_32 rfl rfl rfl ?_
          refine g_getS (k := 9) hC cf_X11 (at_0 hL) (by decide) rfl (by decide) (by decide) wf_RX11_80 dX11_next_33 ?_
          refine g_aload_n (q := 0) hC dX11_next_36 rfl rfl rfl ?_
          refine g_getS (k := 1) hC cf_X11 (at_0 hL) (by decide) rfl (by decide) (by decide) wf_RX11_18 dX11_next_37 ?_
          refine g_getD (k := 0) (kz := 0) hC cf_X7 (at_2 hL) (by decide) rfl (by decide) rfl wf_RX11_58 dX11_next_40 (g_cm (l := RIV) fun m7 => ?_)
          refine g_aload_n (q := 0) hC dX11_next_43 rfl rfl rfl ?_
          refine g_getS (k := 1) hC cf_X11 (at_0 hL) (by decide) rfl (by decide) (by decide) wf_RX11_18 dX11_next_44 ?_
          refine g_getI (k := 3) (kz := 3) hC cf_X7 (at_2 hL) (by decide) rfl (by decide) rfl wf_RX11_227 dX11_next_47 ?_
          refine g_aload_n (q := 0) hC dX11_next_50 rfl rfl rfl ?_
          refine g_getS (k := 1) hC cf_X11 (at_0 hL) (by decide) rfl (by decide) (by decide) wf_RX11_18 dX11_next_51 ?_
          refine g_getI (k := 4) (kz := 4) hC cf_X7 (at_2 hL) (by decide) rfl (by decide) rfl wf_RX11_230 dX11_next_54 ?_
          refine g_callVV (As := [vR V.1 (X6 2 0), vI (X6 2 3), vI (X6 2 4)]) hC mv_X1_look wml_RX11_294 (k_X1_look _ V hL (X6 2 0) (X6 2 3) (X6 2 4) X6 (riv_of hL m7)) cf_X1 (at_42 hL) (by decide) ⟨Nat.zero_le _, Nat.zero_le _⟩ rfl rfl ⟨Nat.le_of_ble_eq_true rfl, Nat.le_of_ble_eq_true rfl⟩ (Nat.le_of_ble_eq_true rfl) dX11_next_57 (fun _ X9 => ?_)
          refine g_aload_n (q := 0) hC dX11_next_60 rfl rfl rfl ?_
          refine g_getS (k := 9) hC cf_X11 (at_0 hL) (by decide) rfl (by decide) (by decide) wf_RX11_80 dX11_next_61 ?_
          refine g_iload_n (q := 1) hC dX11_next_64 rfl rfl ?_
          refine g_iload_n (q := 2) hC dX11_next_65 rfl rfl ?_
          refine g_callVI (As := [vI p1, vI p2]) hC mv_X1_search wml_RX11_340 (k_X1_search _ V hL p1 p2 X9) cf_X1 (at_42 hL) (by decide) ⟨Nat.zero_le _, Nat.zero_le _⟩ rfl rfl ⟨Nat.le_of_ble_eq_true rfl, Nat.le_of_ble_eq_true rfl⟩ (Nat.le_of_ble_eq_true rfl) dX11_next_66 (fun r10 X11 => ?_)
          refine g_pop hC dX11_next_69 rfl ?_
          refine g_aload_n (q := 0) hC dX11_next_70 rfl rfl rfl ?_
          refine g_getS (k := 10) hC cf_X11 (at_0 hL) (by decide) rfl (by decide) (by decide) wf_RX11_89 dX11_next_71 ?_
          refine g_aload_n (q := 0) hC dX11_next_74 rfl rfl rfl ?_
          refine g_getS (k := 1) hC cf_X11 (at_0 hL) (by decide) rfl (by decide) (by decide) wf_RX11_18 dX11_next_75 ?_
          refine g_iload_n (q := 3) hC dX11_next_78 rfl rfl ?_
          refine g_callVV (As := [vR V.1 2, vI p3]) hC mv_X6_begin wml_RX11_373 (k_X6_begin _ V hL 2 p3 X11 (sta_of hL (by decide))) cf_X6 (at_49 hL) (by decide) ⟨Nat.zero_le _, Nat.zero_le _⟩ rfl rfl ⟨Nat.le_of_ble_eq_true rfl, Nat.le_of_ble_eq_true rfl⟩ (Nat.le_of_ble_eq_true rfl) dX11_next_79 (fun _ X13 => ?_)
          refine g_aload_n (q := 0) hC dX11_next_82 rfl rfl rfl ?_
          refine g_getS (k := 10) hC cf_X11 (at_0 hL) (by decide) rfl (by decide) (by decide) wf_RX11_89 dX11_next_83 ?_
          refine g_iload_n (q := 3) hC dX11_next_86 rfl rfl ?_
          refine g_callVI (As := [vI p3]) hC mv_X6_firstBest wml_RX11_384 (k_X6_firstBest _ V hL p3 X13) cf_X6 (at_49 hL) (by decide) ⟨Nat.zero_le _, Nat.zero_le _⟩ rfl rfl ⟨Nat.le_of_ble_eq_true rfl, Nat.le_of_ble_eq_true rfl⟩ (Nat.le_of_ble_eq_true rfl) dX11_next_87 (fun r14 X15 => ?_)
          refine g_istore hC dX11_next_90 (by decide) rfl ?_
          refine g_iload (q := 0) hC dX11_next_92 rfl ?_
          refine g_iconst (v := vI (-1)) hC dX11_next_94 rfl ?_
          refine g_icmp_ne (tgt := 107) hC dX11_next_95 (by decide) ?_ ?_
          · refine g_aload_n (q := 1) hC dX11_next_107 rfl rfl rfl ?_
            refine g_iload (q := 0) hC dX11_next_108 rfl ?_
            refine g_callVI (As := [vI r14]) hC mv_X11_answer wml_RX11_200 (k_X11_answer _ V hL r14 X15) cf_X11 (at_0 hL) (by decide) ⟨Nat.zero_le _, Nat.zero_le _⟩ rfl rfl ⟨Nat.le_of_ble_eq_true rfl, Nat.le_of_ble_eq_true rfl⟩ (Nat.le_of_ble_eq_true rfl) dX11_next_110 (fun r16 X17 => ?_)
            exact g_iret hC hR dX11_next_113
          · refine g_aload_n (q := 1) hC dX11_next_98 rfl rfl rfl ?_
            refine g_bipush (v := vI 6) hC dX11_next_99 rfl ?_
            refine g_callVI (As := [vI 6]) hC mv_X11_fail wml_RX11_162 (k_X11_fail _ V hL 6 X15) cf_X11 (at_0 hL) (by decide) ⟨Nat.zero_le _, Nat.zero_le _⟩ rfl rfl ⟨Nat.le_of_ble_eq_true rfl, Nat.le_of_ble_eq_true rfl⟩ (Nat.le_of_ble_eq_true rfl) dX11_next_101 (fun r18 X19 => ?_)
            refine g_goto (tgt := 113) hC dX11_next_104 (by decide) ?_
            exact g_iret hC hR dX11_next_113
        · refine g_sub [0] rfl ?_
          exact gB_X11_next_26 hC hR hL  X6
def B_X11_lieTo_39  (X : Mem) : Option (Int × Mem) :=
  cl (f_X11_fail 1 X) fun r3 X4 =>
  some (r3, X4)
def B_X11_lieTo_222 (x5 : Int) (x6 : Int) (X : Mem) : Option (Int × Mem) :=
  c2 x5 ((-1)) <| if ¬ x5 = ((-1)) then
    cl (f_X11_tellFraction x6 1000000 X) fun r9 X10 =>
    cl (f_X11_answer x5 X10) fun r11 X12 =>
    some (r11, X12)
  else
    cl (f_X11_fail 6 X) fun r13 X14 =>
    some (r13, X14)
def B_X11_lieTo_216 (go91 : Int → Int → Int → Int → Int → Int → Int → Int → Mem → Option (Int × Mem)) (x1 : Int) (x2 : Int) (x3 : Int) (x4 : Int) (x5 : Int) (x6 : Int) (x8 : Int) (x10 : Int) (X : Mem) : Option (Int × Mem) :=
  go91 x1 x2 x3 x4 x5 x6 x8 (x10 + 1) X
def B_X11_lieTo_204 (go91 : Int → Int → Int → Int → Int → Int → Int → Int → Mem → Option (Int × Mem)) (x1 : Int) (x2 : Int) (x3 : Int) (x4 : Int) (x10 : Int) (x11 : Int) (x13 : Int) (X : Mem) : Option (Int × Mem) :=
  B_X11_lieTo_216  go91 x1 x2 x3 x4 x10 x11 x13 x10 X
def B_X11_lieTo_122 (go91 : Int → Int → Int → Int → Int → Int → Int → Int → Mem → Option (Int × Mem)) (x1 : Int) (x2 : Int) (x3 : Int) (x4 : Int) (x5 : Int) (x6 : Int) (x8 : Int) (x10 : Int) (X : Mem) : Option (Int × Mem) :=
  cm RIV (X 2 0) <|
  cl (f_X1_look (X 2 0) ((X 2 3) + x10) (X 2 4) X) fun _ X17 =>
  cl (f_X1_search x1 x2 X17) fun r18 X19 =>
  c1 r18 <| if r18 = 0 then
    B_X11_lieTo_216  go91 x1 x2 x3 x4 x5 x6 x8 x10 X19
  else
    cl (f_X1_bestOf 59 X19) fun r20 X21 =>
    c1 x10 <|
    c1 x4 <|
    bd (r20 - (x10 * x4)) fun v22 =>
    c2 x5 ((-1)) <| if x5 = ((-1)) then
      B_X11_lieTo_204  go91 x1 x2 x3 x4 x10 r20 v22 X21
    else
      d2 v22 x8 <| if v22 ≤ x8 then
        B_X11_lieTo_216  go91 x1 x2 x3 x4 x5 x6 x8 x10 X21
      else
        B_X11_lieTo_204  go91 x1 x2 x3 x4 x10 r20 v22 X21
def L_X11_lieTo_91 : Nat → Int → Int → Int → Int → Int → Int → Int → Int → Mem → Option (Int × Mem)
  | 0, _, _, _, _, _, _, _, _, _ => none
  | n + 1, x1, x2, x3, x4, x5, x6, x8, x10, X =>
    c2 x10 x3 <| if x3 < x10 then
      B_X11_lieTo_222   x5 x6 X
    else
      c1 x10 <| if x10 ≤ 0 then
        B_X11_lieTo_122  (fun x1 x2 x3 x4 x5 x6 x8 x10 X => L_X11_lieTo_91   n x1 x2 x3 x4 x5 x6 x8 x10 X) x1 x2 x3 x4 x5 x6 x8 x10 X
      else
        cm RIV (X 2 0) <|
        cl (f_X9_passDay (X 2 0) 59 ((-1)) 0 X) fun _ X25 =>
        B_X11_lieTo_122  (fun x1 x2 x3 x4 x5 x6 x8 x10 X => L_X11_lieTo_91   n x1 x2 x3 x4 x5 x6 x8 x10 X) x1 x2 x3 x4 x5 x6 x8 x10 X25
def f_X11_lieTo (p1 : Int) (p2 : Int) (p3 : Int) (p4 : Int) (X : Mem) : Option (Int × Mem) :=
  cl (f_X11_isCell p1 X) fun r1 X2 =>
  c1 r1 <| if r1 = 0 then
    B_X11_lieTo_39   X2
  else
    cl (f_X11_isCell p2 X2) fun r5 X6 =>
    c1 r5 <| if r5 = 0 then
      B_X11_lieTo_39   X6
    else
      c1 p3 <| if p3 < 0 then
        B_X11_lieTo_39   X6
      else
        c2 p3 9 <| if 9 < p3 then
          B_X11_lieTo_39   X6
        else
          c1 p4 <| if p4 < 0 then
            B_X11_lieTo_39   X6
          else
            c2 p4 999999 <| if p4 ≤ 999999 then
              c2 ((X6 2 3) + p3) 99 <| if ((X6 2 3) + p3) ≤ 99 then
                cl (f_X11_copyParts 18 59 X6) fun _ X8 =>
                L_X11_lieTo_91   KF p1 p2 p3 p4 ((-1)) 0 0 0 X8
              else
                cl (f_X11_fail 4 X6) fun r26 X27 =>
                some (r26, X27)
            else
              B_X11_lieTo_39   X6
set_option maxRecDepth 20000 in
theorem gB_X11_lieTo_39 {C : Cx} {V : Ev} {L : List Kd} (hC : Ok C V cX11_lieTo RX11 15 4 129) (hR : Rt C V L (some .int) rI) (hL : LKc L)  (X : Mem)  : G C V L 0 0 15 39 [(0, vR V.1 0)] [] X (B_X11_lieTo_39    X) := by
  unfold B_X11_lieTo_39
  refine g_aload_n (q := 0) hC dX11_lieTo_39 rfl rfl rfl ?_
  refine g_iconst (v := vI 1) hC dX11_lieTo_40 rfl ?_
  refine g_callVI (As := [vI 1]) hC mv_X11_fail wml_RX11_162 (k_X11_fail _ V hL 1 X) cf_X11 (at_0 hL) (by decide) ⟨Nat.zero_le _, Nat.zero_le _⟩ rfl rfl ⟨Nat.le_of_ble_eq_true rfl, Nat.le_of_ble_eq_true rfl⟩ (Nat.le_of_ble_eq_true rfl) dX11_lieTo_41 (fun r3 X4 => ?_)
  exact g_iret hC hR dX11_lieTo_44
set_option maxRecDepth 20000 in
theorem gB_X11_lieTo_222 {C : Cx} {V : Ev} {L : List Kd} (hC : Ok C V cX11_lieTo RX11 15 4 129) (hR : Rt C V L (some .int) rI) (hL : LKc L) (x5 : Int) (x6 : Int) (X : Mem)  : G C V L 0 0 15 222 [(0, vR V.1 0), (5, vI x5), (6, vJ x6)] [] X (B_X11_lieTo_222   x5 x6 X) := by
  unfold B_X11_lieTo_222
  refine g_iload (q := 1) hC dX11_lieTo_222 rfl ?_
  refine g_iconst (v := vI (-1)) hC dX11_lieTo_224 rfl ?_
  refine g_icmp_ne (tgt := 235) hC dX11_lieTo_225 (by decide) ?_ ?_
  · refine g_aload_n (q := 0) hC dX11_lieTo_235 rfl rfl rfl ?_
    refine g_lload (q := 2) hC dX11_lieTo_236 rfl ?_
    refine g_ldc2 (n := 1000000) hC wk_RX11_305 rfl dX11_lieTo_238 ?_
    refine g_callVI (As := [vJ x6, vJ 1000000]) hC mv_X11_tellFraction wml_RX11_307 (k_X11_tellFraction _ V hL x6 1000000 X) cf_X11 (at_0 hL) (by decide) ⟨Nat.zero_le _, Nat.zero_le _⟩ rfl rfl ⟨Nat.le_of_ble_eq_true rfl, Nat.le_of_ble_eq_true rfl⟩ (Nat.le_of_ble_eq_true rfl) dX11_lieTo_241 (fun r9 X10 => ?_)
    refine g_pop hC dX11_lieTo_244 rfl ?_
    refine g_aload_n (q := 0) hC dX11_lieTo_245 rfl rfl rfl ?_
    refine g_iload (q := 1) hC dX11_lieTo_246 rfl ?_
    refine g_callVI (As := [vI x5]) hC mv_X11_answer wml_RX11_200 (k_X11_answer _ V hL x5 X10) cf_X11 (at_0 hL) (by decide) ⟨Nat.zero_le _, Nat.zero_le _⟩ rfl rfl ⟨Nat.le_of_ble_eq_true rfl, Nat.le_of_ble_eq_true rfl⟩ (Nat.le_of_ble_eq_true rfl) dX11_lieTo_248 (fun r11 X12 => ?_)
    exact g_iret hC hR dX11_lieTo_251
  · refine g_aload_n (q := 0) hC dX11_lieTo_228 rfl rfl rfl ?_
    refine g_bipush (v := vI 6) hC dX11_lieTo_229 rfl ?_
    refine g_callVI (As := [vI 6]) hC mv_X11_fail wml_RX11_162 (k_X11_fail _ V hL 6 X) cf_X11 (at_0 hL) (by decide) ⟨Nat.zero_le _, Nat.zero_le _⟩ rfl rfl ⟨Nat.le_of_ble_eq_true rfl, Nat.le_of_ble_eq_true rfl⟩ (Nat.le_of_ble_eq_true rfl) dX11_lieTo_231 (fun r13 X14 => ?_)
    exact g_iret hC hR dX11_lieTo_234
set_option maxRecDepth 20000 in
theorem gB_X11_lieTo_216 {C : Cx} {V : Ev} {L : List Kd} (hC : Ok C V cX11_lieTo RX11 15 4 129) (hR : Rt C V L (some .int) rI) (hL : LKc L) {go91 : Int → Int → Int → Int → Int → Int → Int → Int → Mem → Option (Int × Mem)} (hgo91 : ∀ (x1 : Int) (x2 : Int) (x3 : Int) (x4 : Int) (x5 : Int) (x6 : Int) (x8 : Int) (x10 : Int) (X : Mem), G C V L 0 0 15 91 [(0, vR V.1 0), (1, vI x1), (2, vI x2), (3, vI x3), (4, vI x4), (5, vI x5), (6, vJ x6), (8, vJ x8), (10, vI x10)] [] X (go91 x1 x2 x3 x4 x5 x6 x8 x10 X)) (x1 : Int) (x2 : Int) (x3 : Int) (x4 : Int) (x5 : Int) (x6 : Int) (x8 : Int) (x10 : Int) (X : Mem)  : G C V L 0 0 15 216 [(0, vR V.1 0), (1, vI x1), (2, vI x2), (3, vI x3), (4, vI x4), (5, vI x5), (6, vJ x6), (8, vJ x8), (10, vI x10)] [] X (B_X11_lieTo_216  go91 x1 x2 x3 x4 x5 x6 x8 x10 X) := by
  unfold B_X11_lieTo_216
  refine g_iinc (q := 8) hC dX11_lieTo_216 rfl (by decide) rfl ?_
  refine g_goto (tgt := 91) hC dX11_lieTo_219 (by decide) ?_
  refine g_sub [1, 2, 3, 4, 5, 6, 7, 8, 0] rfl ?_
  exact hgo91 x1 x2 x3 x4 x5 x6 x8 (x10 + 1) X
set_option maxRecDepth 20000 in
theorem gB_X11_lieTo_204 {C : Cx} {V : Ev} {L : List Kd} (hC : Ok C V cX11_lieTo RX11 15 4 129) (hR : Rt C V L (some .int) rI) (hL : LKc L) {go91 : Int → Int → Int → Int → Int → Int → Int → Int → Mem → Option (Int × Mem)} (hgo91 : ∀ (x1 : Int) (x2 : Int) (x3 : Int) (x4 : Int) (x5 : Int) (x6 : Int) (x8 : Int) (x10 : Int) (X : Mem), G C V L 0 0 15 91 [(0, vR V.1 0), (1, vI x1), (2, vI x2), (3, vI x3), (4, vI x4), (5, vI x5), (6, vJ x6), (8, vJ x8), (10, vI x10)] [] X (go91 x1 x2 x3 x4 x5 x6 x8 x10 X)) (x1 : Int) (x2 : Int) (x3 : Int) (x4 : Int) (x10 : Int) (x11 : Int) (x13 : Int) (X : Mem)  : G C V L 0 0 15 204 [(0, vR V.1 0), (1, vI x1), (2, vI x2), (3, vI x3), (4, vI x4), (10, vI x10), (11, vJ x11), (13, vJ x13)] [] X (B_X11_lieTo_204  go91 x1 x2 x3 x4 x10 x11 x13 X) := by
  unfold B_X11_lieTo_204
  refine g_iload (q := 5) hC dX11_lieTo_204 rfl ?_
  refine g_istore hC dX11_lieTo_206 (by decide) rfl ?_
  refine g_lload (q := 7) hC dX11_lieTo_208 rfl ?_
  refine g_lstore hC dX11_lieTo_210 (by decide) rfl ?_
  refine g_lload (q := 9) hC dX11_lieTo_212 rfl ?_
  refine g_lstore hC dX11_lieTo_214 (by decide) rfl ?_
  refine g_sub [3, 4, 5, 6, 7, 2, 1, 0, 8] rfl ?_
  exact gB_X11_lieTo_216 hC hR hL hgo91 x1 x2 x3 x4 x10 x11 x13 x10 X
set_option maxRecDepth 20000 in
theorem gB_X11_lieTo_122 {C : Cx} {V : Ev} {L : List Kd} (hC : Ok C V cX11_lieTo RX11 15 4 129) (hR : Rt C V L (some .int) rI) (hL : LKc L) {go91 : Int → Int → Int → Int → Int → Int → Int → Int → Mem → Option (Int × Mem)} (hgo91 : ∀ (x1 : Int) (x2 : Int) (x3 : Int) (x4 : Int) (x5 : Int) (x6 : Int) (x8 : Int) (x10 : Int) (X : Mem), G C V L 0 0 15 91 [(0, vR V.1 0), (1, vI x1), (2, vI x2), (3, vI x3), (4, vI x4), (5, vI x5), (6, vJ x6), (8, vJ x8), (10, vI x10)] [] X (go91 x1 x2 x3 x4 x5 x6 x8 x10 X)) (x1 : Int) (x2 : Int) (x3 : Int) (x4 : Int) (x5 : Int) (x6 : Int) (x8 : Int) (x10 : Int) (X : Mem)  : G C V L 0 0 15 122 [(0, vR V.1 0), (1, vI x1), (2, vI x2), (3, vI x3), (4, vI x4), (5, vI x5), (6, vJ x6), (8, vJ x8), (10, vI x10)] [] X (B_X11_lieTo_122  go91 x1 x2 x3 x4 x5 x6 x8 x10 X) := by
  unfold B_X11_lieTo_122
  refine g_aload_n (q := 0) hC dX11_lieTo_122 rfl rfl rfl ?_
  refine g_getS (k := 9) hC cf_X11 (at_0 hL) (by decide) rfl (by decide) (by decide) wf_RX11_80 dX11_lieTo_123 ?_
  refine g_aload_n (q := 0) hC dX11_lieTo_126 rfl rfl rfl ?_
  refine g_getS (k := 1) hC cf_X11 (at_0 hL) (by decide) rfl (by decide) (by decide) wf_RX11_18 dX11_lieTo_127 ?_
  refine g_getD (k := 0) (kz := 0) hC cf_X7 (at_2 hL) (by decide) rfl (by decide) rfl wf_RX11_58 dX11_lieTo_130 (g_cm (l := RIV) fun m15 => ?_)
  refine g_aload_n (q := 0) hC dX11_lieTo_133 rfl rfl rfl ?_
  refine g_getS (k := 1) hC cf_X11 (at_0 hL) (by decide) rfl (by decide) (by decide) wf_RX11_18 dX11_lieTo_134 ?_
  refine g_getI (k := 3) (kz := 3) hC cf_X7 (at_2 hL) (by decide) rfl (by decide) rfl wf_RX11_227 dX11_lieTo_137 ?_
  refine g_iload (q := 8) hC dX11_lieTo_140 rfl ?_
  refine g_iadd hC dX11_lieTo_142 ?_
  refine g_aload_n (q := 0) hC dX11_lieTo_143 rfl rfl rfl ?_
  refine g_getS (k := 1) hC cf_X11 (at_0 hL) (by decide) rfl (by decide) (by decide) wf_RX11_18 dX11_lieTo_144 ?_
  refine g_getI (k := 4) (kz := 4) hC cf_X7 (at_2 hL) (by decide) rfl (by decide) rfl wf_RX11_230 dX11_lieTo_147 ?_
  refine g_callVV (As := [vR V.1 (X 2 0), vI ((X 2 3) + x10), vI (X 2 4)]) hC mv_X1_look wml_RX11_294 (k_X1_look _ V hL (X 2 0) ((X 2 3) + x10) (X 2 4) X (riv_of hL m15)) cf_X1 (at_42 hL) (by decide) ⟨Nat.zero_le _, Nat.zero_le _⟩ rfl rfl ⟨Nat.le_of_ble_eq_true rfl, Nat.le_of_ble_eq_true rfl⟩ (Nat.le_of_ble_eq_true rfl) dX11_lieTo_150 (fun _ X17 => ?_)
  refine g_aload_n (q := 0) hC dX11_lieTo_153 rfl rfl rfl ?_
  refine g_getS (k := 9) hC cf_X11 (at_0 hL) (by decide) rfl (by decide) (by decide) wf_RX11_80 dX11_lieTo_154 ?_
  refine g_iload_n (q := 1) hC dX11_lieTo_157 rfl rfl ?_
  refine g_iload_n (q := 2) hC dX11_lieTo_158 rfl rfl ?_
  refine g_callVI (As := [vI x1, vI x2]) hC mv_X1_search wml_RX11_340 (k_X1_search _ V hL x1 x2 X17) cf_X1 (at_42 hL) (by decide) ⟨Nat.zero_le _, Nat.zero_le _⟩ rfl rfl ⟨Nat.le_of_ble_eq_true rfl, Nat.le_of_ble_eq_true rfl⟩ (Nat.le_of_ble_eq_true rfl) dX11_lieTo_159 (fun r18 X19 => ?_)
  refine g_if_eq (tgt := 216) hC dX11_lieTo_162 (by decide) ?_ ?_
  · exact gB_X11_lieTo_216 hC hR hL hgo91 x1 x2 x3 x4 x5 x6 x8 x10 X19
  · refine g_aload_n (q := 0) hC dX11_lieTo_165 rfl rfl rfl ?_
    refine g_getS (k := 9) hC cf_X11 (at_0 hL) (by decide) rfl (by decide) (by decide) wf_RX11_80 dX11_lieTo_166 ?_
    refine g_aload_n (q := 0) hC dX11_lieTo_169 rfl rfl rfl ?_
    refine g_getS (k := 12) hC cf_X11 (at_0 hL) (by decide) rfl (by decide) (by decide) wf_RX11_102 dX11_lieTo_170 ?_
    refine g_callVJ (As := [vR V.1 59]) hC mv_X1_bestOf wml_RX11_392 (k_X1_bestOf _ V hL 59 X19 (at_59 hL)) cf_X1 (at_42 hL) (by decide) ⟨Nat.zero_le _, Nat.zero_le _⟩ rfl rfl ⟨Nat.le_of_ble_eq_true rfl, Nat.le_of_ble_eq_true rfl⟩ (Nat.le_of_ble_eq_true rfl) dX11_lieTo_173 (fun r20 X21 => ?_)
    refine g_lstore hC dX11_lieTo_176 (by decide) rfl ?_
    refine g_lload (q := 0) hC dX11_lieTo_178 rfl ?_
    refine g_iload (q := 9) hC dX11_lieTo_180 rfl ?_
    refine g_i2l hC dX11_lieTo_182 ?_
    refine g_iload (q := 5) hC dX11_lieTo_183 rfl ?_
    refine g_i2l hC dX11_lieTo_185 ?_
    refine g_lmul hC dX11_lieTo_186 ?_
    refine g_lsub hC dX11_lieTo_187 ?_
    refine g_topJ (fun v22 => ?_)
    refine g_lstore hC dX11_lieTo_188 (by decide) rfl ?_
    refine g_iload (q := 7) hC dX11_lieTo_190 rfl ?_
    refine g_iconst (v := vI (-1)) hC dX11_lieTo_192 rfl ?_
    refine g_icmp_eq (tgt := 204) hC dX11_lieTo_193 (by decide) ?_ ?_
    · refine g_sub [2, 3, 4, 5, 6, 10, 1, 0] rfl ?_
      exact gB_X11_lieTo_204 hC hR hL hgo91 x1 x2 x3 x4 x10 r20 v22 X21
    · refine g_lload (q := 0) hC dX11_lieTo_196 rfl ?_
      refine g_lload (q := 9) hC dX11_lieTo_198 rfl ?_
      refine g_lcmp_le (tgt := 216) hC dX11_lieTo_200 rfl dX11_lieTo_201 (by decide) ?_ ?_
      · refine g_sub [2, 3, 4, 5, 6, 7, 8, 9, 10] rfl ?_
        exact gB_X11_lieTo_216 hC hR hL hgo91 x1 x2 x3 x4 x5 x6 x8 x10 X21
      · refine g_sub [2, 3, 4, 5, 6, 10, 1, 0] rfl ?_
        exact gB_X11_lieTo_204 hC hR hL hgo91 x1 x2 x3 x4 x10 r20 v22 X21
set_option maxRecDepth 20000 in
theorem gL_X11_lieTo_91 {C : Cx} {V : Ev} {L : List Kd} (hC : Ok C V cX11_lieTo RX11 15 4 129) (hR : Rt C V L (some .int) rI) (hL : LKc L) : ∀ (n : Nat) (x1 : Int) (x2 : Int) (x3 : Int) (x4 : Int) (x5 : Int) (x6 : Int) (x8 : Int) (x10 : Int) (X : Mem), G C V L 0 0 15 91 [(0, vR V.1 0), (1, vI x1), (2, vI x2), (3, vI x3), (4, vI x4), (5, vI x5), (6, vJ x6), (8, vJ x8), (10, vI x10)] [] X (L_X11_lieTo_91   n x1 x2 x3 x4 x5 x6 x8 x10 X) := by
  intro n
  induction n with
  | zero => intro x1 x2 x3 x4 x5 x6 x8 x10 X; exact g_none
  | succ n ih =>
    intro x1 x2 x3 x4 x5 x6 x8 x10 X
    rw [L_X11_lieTo_91]
    refine g_iload (q := 8) hC dX11_lieTo_91 rfl ?_
    refine g_iload_n (q := 3) hC dX11_lieTo_93 rfl rfl ?_
    refine g_icmp_gt (tgt := 222) hC dX11_lieTo_94 (by decide) ?_ ?_
    · refine g_sub [0, 5, 6] rfl ?_
      exact gB_X11_lieTo_222 hC hR hL  x5 x6 X
    · refine g_iload (q := 8) hC dX11_lieTo_97 rfl ?_
      refine g_if_le (tgt := 122) hC dX11_lieTo_99 (by decide) ?_ ?_
      · exact gB_X11_lieTo_122 hC hR hL ih x1 x2 x3 x4 x5 x6 x8 x10 X
      · refine g_aload_n (q := 0) hC dX11_lieTo_102 rfl rfl rfl ?_
        refine g_getS (k := 8) hC cf_X11 (at_0 hL) (by decide) rfl (by decide) (by decide) wf_RX11_71 dX11_lieTo_103 ?_
        refine g_aload_n (q := 0) hC dX11_lieTo_106 rfl rfl rfl ?_
        refine g_getS (k := 1) hC cf_X11 (at_0 hL) (by decide) rfl (by decide) (by decide) wf_RX11_18 dX11_lieTo_107 ?_
        refine g_getD (k := 0) (kz := 0) hC cf_X7 (at_2 hL) (by decide) rfl (by decide) rfl wf_RX11_58 dX11_lieTo_110 (g_cm (l := RIV) fun m23 => ?_)
        refine g_aload_n (q := 0) hC dX11_lieTo_113 rfl rfl rfl ?_
        refine g_getS (k := 12) hC cf_X11 (at_0 hL) (by decide) rfl (by decide) (by decide) wf_RX11_102 dX11_lieTo_114 ?_
        refine g_iconst (v := vI (-1)) hC dX11_lieTo_117 rfl ?_
        refine g_iconst (v := vI 0) hC dX11_lieTo_118 rfl ?_
        refine g_callVV (As := [vR V.1 (X 2 0), vR V.1 59, vI ((-1)), vI 0]) hC mv_X9_passDay wml_RX11_314 (k_X9_passDay _ V hL (X 2 0) 59 ((-1)) 0 X (riv_of hL m23) (at_59 hL)) cf_X9 (at_40 hL) (by decide) ⟨Nat.zero_le _, Nat.zero_le _⟩ rfl rfl ⟨Nat.le_of_ble_eq_true rfl, Nat.le_of_ble_eq_true rfl⟩ (Nat.le_of_ble_eq_true rfl) dX11_lieTo_119 (fun _ X25 => ?_)
        exact gB_X11_lieTo_122 hC hR hL ih x1 x2 x3 x4 x5 x6 x8 x10 X25
set_option maxRecDepth 20000 in
theorem k_X11_lieTo (l : Launch) (V : Ev) {L : List Kd} (hL : LKc L) (p1 : Int) (p2 : Int) (p3 : Int) (p4 : Int) (X : Mem)  : Kt l V L yX11_lieTo (.code yX11_lieTo cX11_lieTo 15 (some .int)) 4 129 [vR V.1 0, vI p1, vI p2, vI p3, vI p4] rI X (f_X11_lieTo p1 p2 p3 p4 X) := by
  refine kt_of (own := RX11) (lv0 := [(0, vR V.1 0), (1, vI p1), (2, vI p2), (3, vI p3), (4, vI p4)]) (by decide) rfl (Nat.le_of_ble_eq_true rfl) rfl (fun C hCl hC hR => ?_)
  subst hCl
  unfold f_X11_lieTo
  refine g_aload_n (q := 0) hC dX11_lieTo_0 rfl rfl rfl ?_
  refine g_iload_n (q := 1) hC dX11_lieTo_1 rfl rfl ?_
  refine g_callVI (As := [vI p1]) hC mv_X11_isCell wml_RX11_278 (k_X11_isCell _ V hL p1 X) cf_X11 (at_0 hL) (by decide) ⟨Nat.zero_le _, Nat.zero_le _⟩ rfl rfl ⟨Nat.le_of_ble_eq_true rfl, Nat.le_of_ble_eq_true rfl⟩ (Nat.le_of_ble_eq_true rfl) dX11_lieTo_2 (fun r1 X2 => ?_)
  refine g_if_eq (tgt := 39) hC dX11_lieTo_5 (by decide) ?_ ?_
  · refine g_sub [0] rfl ?_
    exact gB_X11_lieTo_39 hC hR hL  X2
  · refine g_aload_n (q := 0) hC dX11_lieTo_8 rfl rfl rfl ?_
    refine g_iload_n (q := 2) hC dX11_lieTo_9 rfl rfl ?_
    refine g_callVI (As := [vI p2]) hC mv_X11_isCell wml_RX11_278 (k_X11_isCell _ V hL p2 X2) cf_X11 (at_0 hL) (by decide) ⟨Nat.zero_le _, Nat.zero_le _⟩ rfl rfl ⟨Nat.le_of_ble_eq_true rfl, Nat.le_of_ble_eq_true rfl⟩ (Nat.le_of_ble_eq_true rfl) dX11_lieTo_10 (fun r5 X6 => ?_)
    refine g_if_eq (tgt := 39) hC dX11_lieTo_13 (by decide) ?_ ?_
    · refine g_sub [0] rfl ?_
      exact gB_X11_lieTo_39 hC hR hL  X6
    · refine g_iload_n (q := 3) hC dX11_lieTo_16 rfl rfl ?_
      refine g_if_lt (tgt := 39) hC dX11_lieTo_17 (by decide) ?_ ?_
      · refine g_sub [0] rfl ?_
        exact gB_X11_lieTo_39 hC hR hL  X6
      · refine g_iload_n (q := 3) hC dX11_lieTo_20 rfl rfl ?_
        refine g_bipush (v := vI 9) hC dX11_lieTo_21 rfl ?_
        refine g_icmp_gt (tgt := 39) hC dX11_lieTo_23 (by decide) ?_ ?_
        · refine g_sub [0] rfl ?_
          exact gB_X11_lieTo_39 hC hR hL  X6
        · refine g_iload (q := 4) hC dX11_lieTo_26 rfl ?_
          refine g_if_lt (tgt := 39) hC dX11_lieTo_28 (by decide) ?_ ?_
          · refine g_sub [0] rfl ?_
            exact gB_X11_lieTo_39 hC hR hL  X6
          · refine g_iload (q := 4) hC dX11_lieTo_31 rfl ?_
            refine g_ldcw (n := 999999) hC wk_RX11_387 rfl dX11_lieTo_33 ?_
            refine g_icmp_le (tgt := 45) hC dX11_lieTo_36 (by decide) ?_ ?_
            · refine g_aload_n (q := 0) hC dX11_lieTo_45 rfl rfl rfl ?_
              refine g_getS (k := 1) hC cf_X11 (at_0 hL) (by decide) rfl (by decide) (by decide) wf_RX11_18 dX11_lieTo_46 ?_
              refine g_getI (k := 3) (kz := 3) hC cf_X7 (at_2 hL) (by decide) rfl (by decide) rfl wf_RX11_227 dX11_lieTo_49 ?_
              refine g_iload_n (q := 3) hC dX11_lieTo_52 rfl rfl ?_
              refine g_iadd hC dX11_lieTo_53 ?_
              refine g_bipush (v := vI 99) hC dX11_lieTo_54 rfl ?_
              refine g_icmp_le (tgt := 65) hC dX11_lieTo_56 (by decide) ?_ ?_
              · refine g_aload_n (q := 0) hC dX11_lieTo_65 rfl rfl rfl ?_
                refine g_getS (k := 1) hC cf_X11 (at_0 hL) (by decide) rfl (by decide) (by decide) wf_RX11_18 dX11_lieTo_66 ?_
                refine g_getS (k := 2) hC cf_X7 (at_2 hL) (by decide) rfl (by decide) (by decide) wf_RX11_129 dX11_lieTo_69 ?_
                refine g_aload_n (q := 0) hC dX11_lieTo_72 rfl rfl rfl ?_
                refine g_getS (k := 12) hC cf_X11 (at_0 hL) (by decide) rfl (by decide) (by decide) wf_RX11_102 dX11_lieTo_73 ?_
                refine g_callSV (As := [vR V.1 18, vR V.1 59]) hC mt_X11_copyParts wml_RX11_388 (k_X11_copyParts _ V hL 18 59 X6 (at_18 hL) (at_59 hL)) ⟨Nat.zero_le _, Nat.zero_le _⟩ rfl rfl ⟨Nat.le_of_ble_eq_true rfl, Nat.le_of_ble_eq_true rfl⟩ (Nat.le_of_ble_eq_true rfl) dX11_lieTo_76 (fun _ X8 => ?_)
                refine g_iconst (v := vI (-1)) hC dX11_lieTo_79 rfl ?_
                refine g_istore hC dX11_lieTo_80 (by decide) rfl ?_
                refine g_lconst (v := vJ 0) hC dX11_lieTo_82 rfl ?_
                refine g_lstore hC dX11_lieTo_83 (by decide) rfl ?_
                refine g_lconst (v := vJ 0) hC dX11_lieTo_85 rfl ?_
                refine g_lstore hC dX11_lieTo_86 (by decide) rfl ?_
                refine g_iconst (v := vI 0) hC dX11_lieTo_88 rfl ?_
                refine g_istore hC dX11_lieTo_89 (by decide) rfl ?_
                refine g_sub [4, 5, 6, 7, 8, 3, 2, 1, 0] rfl ?_
                exact gL_X11_lieTo_91 hC hR hL  KF p1 p2 p3 p4 ((-1)) 0 0 0 X8
              · refine g_aload_n (q := 0) hC dX11_lieTo_59 rfl rfl rfl ?_
                refine g_iconst (v := vI 4) hC dX11_lieTo_60 rfl ?_
                refine g_callVI (As := [vI 4]) hC mv_X11_fail wml_RX11_162 (k_X11_fail _ V hL 4 X6) cf_X11 (at_0 hL) (by decide) ⟨Nat.zero_le _, Nat.zero_le _⟩ rfl rfl ⟨Nat.le_of_ble_eq_true rfl, Nat.le_of_ble_eq_true rfl⟩ (Nat.le_of_ble_eq_true rfl) dX11_lieTo_61 (fun r26 X27 => ?_)
                exact g_iret hC hR dX11_lieTo_64
            · refine g_sub [0] rfl ?_
              exact gB_X11_lieTo_39 hC hR hL  X6
def B_X11_partsMarked_80 (go5 : Int → Int → Int → Mem → Option (Int × Mem)) (x1 : Int) (x2 : Int) (x4 : Int) (X : Mem) : Option (Int × Mem) :=
  go5 x1 x2 (x4 + 1) X
def B_X11_partsMarked_66 (go5 : Int → Int → Int → Mem → Option (Int × Mem)) (x1 : Int) (x2 : Int) (x4 : Int) (X : Mem) : Option (Int × Mem) :=
  cl (f_X1_bestOf 59 X) fun r1 X2 =>
  bd (x2 + r1) fun v3 =>
  B_X11_partsMarked_80  go5 x1 v3 x4 X2
def B_X11_partsMarked_59 (go5 : Int → Int → Int → Mem → Option (Int × Mem)) (go23 : Int → Int → Int → Int → Mem → Option (Int × Mem)) (x1 : Int) (x2 : Int) (x4 : Int) (x5 : Int) (s0 : Int) (s1 : Int) (X : Mem) : Option (Int × Mem) :=
  ax 32 s1 <| bd (ms X 59 s1 s0) fun X4 =>
  go23 x1 x2 x4 (x5 + 1) X4
def L_X11_partsMarked_23 (go5 : Int → Int → Int → Mem → Option (Int × Mem)) : Nat → Int → Int → Int → Int → Mem → Option (Int × Mem)
  | 0, _, _, _, _, _ => none
  | n + 1, x1, x2, x4, x5, X =>
    c2 x5 32 <| if 32 ≤ x5 then
      B_X11_partsMarked_66  go5 x1 x2 x4 X
    else
      c2 (ia x5 x1) x4 <| if ¬ (ia x5 x1) = x4 then
        B_X11_partsMarked_59  go5 (fun x1 x2 x4 x5 X => L_X11_partsMarked_23  go5 n x1 x2 x4 x5 X) x1 x2 x4 x5 0 x5 X
      else
        ax 32 x5 <|
        B_X11_partsMarked_59  go5 (fun x1 x2 x4 x5 X => L_X11_partsMarked_23  go5 n x1 x2 x4 x5 X) x1 x2 x4 x5 (X 18 x5) x5 X
def L_X11_partsMarked_5 : Nat → Int → Int → Int → Mem → Option (Int × Mem)
  | 0, _, _, _, _ => none
  | n + 1, x1, x2, x4, X =>
    c2 x4 x1 <| if x1 < x4 then
      some (x2, X)
    else
      c1 (ia x4 (ix x1 ((-1)))) <| if ¬ (ia x4 (ix x1 ((-1)))) = 0 then
        B_X11_partsMarked_80  (fun x1 x2 x4 X => L_X11_partsMarked_5   n x1 x2 x4 X) x1 x2 x4 X
      else
        L_X11_partsMarked_23  (fun x1 x2 x4 X => L_X11_partsMarked_5   n x1 x2 x4 X) KF x1 x2 x4 0 X
def f_X11_partsMarked (p1 : Int) (X : Mem) : Option (Int × Mem) :=
  L_X11_partsMarked_5   KF p1 0 0 X
set_option maxRecDepth 20000 in
theorem gB_X11_partsMarked_80 {C : Cx} {V : Ev} {L : List Kd} (hC : Ok C V cX11_partsMarked RX11 6 4 129) (hR : Rt C V L (some .long) rJ) (hL : LKc L) {go5 : Int → Int → Int → Mem → Option (Int × Mem)} (hgo5 : ∀ (x1 : Int) (x2 : Int) (x4 : Int) (X : Mem), G C V L 0 0 6 5 [(0, vR V.1 0), (1, vI x1), (2, vJ x2), (4, vI x4)] [] X (go5 x1 x2 x4 X)) (x1 : Int) (x2 : Int) (x4 : Int) (X : Mem)  : G C V L 0 0 6 80 [(0, vR V.1 0), (1, vI x1), (2, vJ x2), (4, vI x4)] [] X (B_X11_partsMarked_80  go5 x1 x2 x4 X) := by
  unfold B_X11_partsMarked_80
  refine g_iinc (q := 3) hC dX11_partsMarked_80 rfl (by decide) rfl ?_
  refine g_goto (tgt := 5) hC dX11_partsMarked_83 (by decide) ?_
  refine g_sub [1, 2, 3, 0] rfl ?_
  exact hgo5 x1 x2 (x4 + 1) X
set_option maxRecDepth 20000 in
theorem gB_X11_partsMarked_66 {C : Cx} {V : Ev} {L : List Kd} (hC : Ok C V cX11_partsMarked RX11 6 4 129) (hR : Rt C V L (some .long) rJ) (hL : LKc L) {go5 : Int → Int → Int → Mem → Option (Int × Mem)} (hgo5 : ∀ (x1 : Int) (x2 : Int) (x4 : Int) (X : Mem), G C V L 0 0 6 5 [(0, vR V.1 0), (1, vI x1), (2, vJ x2), (4, vI x4)] [] X (go5 x1 x2 x4 X)) (x1 : Int) (x2 : Int) (x4 : Int) (X : Mem)  : G C V L 0 0 6 66 [(0, vR V.1 0), (1, vI x1), (2, vJ x2), (4, vI x4)] [] X (B_X11_partsMarked_66  go5 x1 x2 x4 X) := by
  unfold B_X11_partsMarked_66
  refine g_lload_n (q := 2) hC dX11_partsMarked_66 rfl rfl ?_
  refine g_aload_n (q := 0) hC dX11_partsMarked_67 rfl rfl rfl ?_
  refine g_getS (k := 9) hC cf_X11 (at_0 hL) (by decide) rfl (by decide) (by decide) wf_RX11_80 dX11_partsMarked_68 ?_
  refine g_aload_n (q := 0) hC dX11_partsMarked_71 rfl rfl rfl ?_
  refine g_getS (k := 12) hC cf_X11 (at_0 hL) (by decide) rfl (by decide) (by decide) wf_RX11_102 dX11_partsMarked_72 ?_
  refine g_callVJ (As := [vR V.1 59]) hC mv_X1_bestOf wml_RX11_392 (k_X1_bestOf _ V hL 59 X (at_59 hL)) cf_X1 (at_42 hL) (by decide) ⟨Nat.zero_le _, Nat.zero_le _⟩ rfl rfl ⟨Nat.le_of_ble_eq_true rfl, Nat.le_of_ble_eq_true rfl⟩ (Nat.le_of_ble_eq_true rfl) dX11_partsMarked_75 (fun r1 X2 => ?_)
  refine g_ladd hC dX11_partsMarked_78 ?_
  refine g_topJ (fun v3 => ?_)
  refine g_lstore_n hC dX11_partsMarked_79 rfl (by decide) rfl ?_
  refine g_sub [1, 2, 0, 3] rfl ?_
  exact gB_X11_partsMarked_80 hC hR hL hgo5 x1 v3 x4 X2
set_option maxRecDepth 20000 in
theorem gB_X11_partsMarked_59 {C : Cx} {V : Ev} {L : List Kd} (hC : Ok C V cX11_partsMarked RX11 6 4 129) (hR : Rt C V L (some .long) rJ) (hL : LKc L) {go5 : Int → Int → Int → Mem → Option (Int × Mem)} {go23 : Int → Int → Int → Int → Mem → Option (Int × Mem)} (hgo5 : ∀ (x1 : Int) (x2 : Int) (x4 : Int) (X : Mem), G C V L 0 0 6 5 [(0, vR V.1 0), (1, vI x1), (2, vJ x2), (4, vI x4)] [] X (go5 x1 x2 x4 X)) (hgo23 : ∀ (x1 : Int) (x2 : Int) (x4 : Int) (x5 : Int) (X : Mem), G C V L 0 0 6 23 [(0, vR V.1 0), (1, vI x1), (2, vJ x2), (4, vI x4), (5, vI x5)] [] X (go23 x1 x2 x4 x5 X)) (x1 : Int) (x2 : Int) (x4 : Int) (x5 : Int) (s0 : Int) (s1 : Int) (X : Mem)  : G C V L 0 0 6 59 [(0, vR V.1 0), (1, vI x1), (2, vJ x2), (4, vI x4), (5, vI x5)] [vJ s0, vI s1, vR V.1 59] X (B_X11_partsMarked_59  go5 go23 x1 x2 x4 x5 s0 s1 X) := by
  unfold B_X11_partsMarked_59
  refine g_last hC (at_59 hL) (by decide) dX11_partsMarked_59 (fun X4 => ?_)
  refine g_iinc (q := 4) hC dX11_partsMarked_60 rfl (by decide) rfl ?_
  refine g_goto (tgt := 23) hC dX11_partsMarked_63 (by decide) ?_
  refine g_sub [1, 2, 3, 4, 0] rfl ?_
  exact hgo23 x1 x2 x4 (x5 + 1) X4
set_option maxRecDepth 20000 in
theorem gL_X11_partsMarked_23 {C : Cx} {V : Ev} {L : List Kd} (hC : Ok C V cX11_partsMarked RX11 6 4 129) (hR : Rt C V L (some .long) rJ) (hL : LKc L) {go5 : Int → Int → Int → Mem → Option (Int × Mem)} (hgo5 : ∀ (x1 : Int) (x2 : Int) (x4 : Int) (X : Mem), G C V L 0 0 6 5 [(0, vR V.1 0), (1, vI x1), (2, vJ x2), (4, vI x4)] [] X (go5 x1 x2 x4 X)) : ∀ (n : Nat) (x1 : Int) (x2 : Int) (x4 : Int) (x5 : Int) (X : Mem), G C V L 0 0 6 23 [(0, vR V.1 0), (1, vI x1), (2, vJ x2), (4, vI x4), (5, vI x5)] [] X (L_X11_partsMarked_23  go5 n x1 x2 x4 x5 X) := by
  intro n
  induction n with
  | zero => intro x1 x2 x4 x5 X; exact g_none
  | succ n ih =>
    intro x1 x2 x4 x5 X
    rw [L_X11_partsMarked_23]
    refine g_iload (q := 4) hC dX11_partsMarked_23 rfl ?_
    refine g_bipush (v := vI 32) hC dX11_partsMarked_25 rfl ?_
    refine g_icmp_ge (tgt := 66) hC dX11_partsMarked_27 (by decide) ?_ ?_
    · refine g_sub [0, 1, 2, 3] rfl ?_
      exact gB_X11_partsMarked_66 hC hR hL hgo5 x1 x2 x4 X
    · refine g_aload_n (q := 0) hC dX11_partsMarked_30 rfl rfl rfl ?_
      refine g_getS (k := 12) hC cf_X11 (at_0 hL) (by decide) rfl (by decide) (by decide) wf_RX11_102 dX11_partsMarked_31 ?_
      refine g_iload (q := 4) hC dX11_partsMarked_34 rfl ?_
      refine g_iload (q := 4) hC dX11_partsMarked_36 rfl ?_
      refine g_iload_n (q := 1) hC dX11_partsMarked_38 rfl rfl ?_
      refine g_iand hC dX11_partsMarked_39 ?_
      refine g_iload (q := 3) hC dX11_partsMarked_40 rfl ?_
      refine g_icmp_ne (tgt := 58) hC dX11_partsMarked_42 (by decide) ?_ ?_
      · refine g_lconst (v := vJ 0) hC dX11_partsMarked_58 rfl ?_
        exact gB_X11_partsMarked_59 hC hR hL hgo5 ih x1 x2 x4 x5 0 x5 X
      · refine g_aload_n (q := 0) hC dX11_partsMarked_45 rfl rfl rfl ?_
        refine g_getS (k := 1) hC cf_X11 (at_0 hL) (by decide) rfl (by decide) (by decide) wf_RX11_18 dX11_partsMarked_46 ?_
        refine g_getS (k := 2) hC cf_X7 (at_2 hL) (by decide) rfl (by decide) (by decide) wf_RX11_129 dX11_partsMarked_49 ?_
        refine g_iload (q := 4) hC dX11_partsMarked_52 rfl ?_
        refine g_lald hC (at_18 hL) (by decide) dX11_partsMarked_54 ?_
        refine g_goto (tgt := 59) hC dX11_partsMarked_55 (by decide) ?_
        exact gB_X11_partsMarked_59 hC hR hL hgo5 ih x1 x2 x4 x5 (X 18 x5) x5 X
set_option maxRecDepth 20000 in
theorem gL_X11_partsMarked_5 {C : Cx} {V : Ev} {L : List Kd} (hC : Ok C V cX11_partsMarked RX11 6 4 129) (hR : Rt C V L (some .long) rJ) (hL : LKc L) : ∀ (n : Nat) (x1 : Int) (x2 : Int) (x4 : Int) (X : Mem), G C V L 0 0 6 5 [(0, vR V.1 0), (1, vI x1), (2, vJ x2), (4, vI x4)] [] X (L_X11_partsMarked_5   n x1 x2 x4 X) := by
  intro n
  induction n with
  | zero => intro x1 x2 x4 X; exact g_none
  | succ n ih =>
    intro x1 x2 x4 X
    rw [L_X11_partsMarked_5]
    refine g_iload (q := 3) hC dX11_partsMarked_5 rfl ?_
    refine g_iload_n (q := 1) hC dX11_partsMarked_7 rfl rfl ?_
    refine g_icmp_gt (tgt := 86) hC dX11_partsMarked_8 (by decide) ?_ ?_
    · refine g_lload_n (q := 2) hC dX11_partsMarked_86 rfl rfl ?_
      exact g_lret hC hR dX11_partsMarked_87
    · refine g_iload (q := 3) hC dX11_partsMarked_11 rfl ?_
      refine g_iload_n (q := 1) hC dX11_partsMarked_13 rfl rfl ?_
      refine g_iconst (v := vI (-1)) hC dX11_partsMarked_14 rfl ?_
      refine g_ixor hC dX11_partsMarked_15 ?_
      refine g_iand hC dX11_partsMarked_16 ?_
      refine g_if_ne (tgt := 80) hC dX11_partsMarked_17 (by decide) ?_ ?_
      · exact gB_X11_partsMarked_80 hC hR hL ih x1 x2 x4 X
      · refine g_iconst (v := vI 0) hC dX11_partsMarked_20 rfl ?_
        refine g_istore hC dX11_partsMarked_21 (by decide) rfl ?_
        refine g_sub [1, 2, 3, 4, 0] rfl ?_
        exact gL_X11_partsMarked_23 hC hR hL ih KF x1 x2 x4 0 X
set_option maxRecDepth 20000 in
theorem k_X11_partsMarked (l : Launch) (V : Ev) {L : List Kd} (hL : LKc L) (p1 : Int) (X : Mem)  : Kt l V L yX11_partsMarked (.code yX11_partsMarked cX11_partsMarked 6 (some .long)) 4 129 [vR V.1 0, vI p1] rJ X (f_X11_partsMarked p1 X) := by
  refine kt_of (own := RX11) (lv0 := [(0, vR V.1 0), (1, vI p1)]) (by decide) rfl (Nat.le_of_ble_eq_true rfl) rfl (fun C hCl hC hR => ?_)
  subst hCl
  unfold f_X11_partsMarked
  refine g_lconst (v := vJ 0) hC dX11_partsMarked_0 rfl ?_
  refine g_lstore_n hC dX11_partsMarked_1 rfl (by decide) rfl ?_
  refine g_iconst (v := vI 0) hC dX11_partsMarked_2 rfl ?_
  refine g_istore hC dX11_partsMarked_3 (by decide) rfl ?_
  refine g_sub [2, 3, 1, 0] rfl ?_
  exact gL_X11_partsMarked_5 hC hR hL  KF p1 0 0 X
def B_X11_marked_18  (X : Mem) : Option (Int × Mem) :=
  cl (f_X11_fail 1 X) fun r1 X2 =>
  some (r1, X2)
def B_X11_marked_113 (x5 : Int) (x6 : Int) (X : Mem) : Option (Int × Mem) :=
  c2 x5 ((-1)) <| if ¬ x5 = ((-1)) then
    cl (f_X11_tellFraction x6 1000000 X) fun r9 X10 =>
    cl (f_X11_answer x5 X10) fun r11 X12 =>
    some (r11, X12)
  else
    cl (f_X11_fail 6 X) fun r13 X14 =>
    some (r13, X14)
def B_X11_marked_107 (go53 : Int → Int → Int → Int → Mem → Option (Int × Mem)) (x3 : Int) (x5 : Int) (x6 : Int) (x8 : Int) (X : Mem) : Option (Int × Mem) :=
  go53 x3 x5 x6 (x8 + 1) X
def B_X11_marked_99 (go53 : Int → Int → Int → Int → Mem → Option (Int × Mem)) (x3 : Int) (x8 : Int) (x9 : Int) (X : Mem) : Option (Int × Mem) :=
  B_X11_marked_107  go53 x3 x8 x9 x8 X
def L_X11_marked_53 : Nat → Int → Int → Int → Int → Mem → Option (Int × Mem)
  | 0, _, _, _, _, _ => none
  | n + 1, x3, x5, x6, x8, X =>
    cm RIV (X 2 0) <|
    cl (f_X2_setCount (X 2 0) X) fun r7 X8 =>
    c2 x8 r7 <| if r7 ≤ x8 then
      B_X11_marked_113   x5 x6 X8
    else
      cl (f_J6_bitCount_0f7a4 x8 X8) fun r15 X16 =>
      c2 r15 x3 <| if ¬ r15 = x3 then
        B_X11_marked_107  (fun x3 x5 x6 x8 X => L_X11_marked_53   n x3 x5 x6 x8 X) x3 x5 x6 x8 X16
      else
        cl (f_X11_partsMarked x8 X16) fun r17 X18 =>
        c2 x5 ((-1)) <| if x5 = ((-1)) then
          B_X11_marked_99  (fun x3 x5 x6 x8 X => L_X11_marked_53   n x3 x5 x6 x8 X) x3 x8 r17 X18
        else
          d2 r17 x6 <| if r17 ≤ x6 then
            B_X11_marked_107  (fun x3 x5 x6 x8 X => L_X11_marked_53   n x3 x5 x6 x8 X) x3 x5 x6 x8 X18
          else
            B_X11_marked_99  (fun x3 x5 x6 x8 X => L_X11_marked_53   n x3 x5 x6 x8 X) x3 x8 r17 X18
def f_X11_marked (p1 : Int) (p2 : Int) (p3 : Int) (X : Mem) : Option (Int × Mem) :=
  c1 p3 <| if p3 < 0 then
    B_X11_marked_18   X
  else
    cm RIV (X 2 0) <|
    c2 p3 (X (X 2 0) 2) <| if p3 ≤ (X (X 2 0) 2) then
      cl (f_X11_choiceStatus p1 p2 X) fun r4 X5 =>
      c1 r4 <| if r4 = 0 then
        L_X11_marked_53   KF p3 ((-1)) 0 0 X5
      else
        cl (f_X11_fail r4 X5) fun r19 X20 =>
        some (r19, X20)
    else
      B_X11_marked_18   X
set_option maxRecDepth 20000 in
theorem gB_X11_marked_18 {C : Cx} {V : Ev} {L : List Kd} (hC : Ok C V cX11_marked RX11 11 5 154) (hR : Rt C V L (some .int) rI) (hL : LKc L)  (X : Mem)  : G C V L 0 0 11 18 [(0, vR V.1 0)] [] X (B_X11_marked_18    X) := by
  unfold B_X11_marked_18
  refine g_aload_n (q := 0) hC dX11_marked_18 rfl rfl rfl ?_
  refine g_iconst (v := vI 1) hC dX11_marked_19 rfl ?_
  refine g_callVI (As := [vI 1]) hC mv_X11_fail wml_RX11_162 (k_X11_fail _ V hL 1 X) cf_X11 (at_0 hL) (by decide) ⟨Nat.zero_le _, Nat.zero_le _⟩ rfl rfl ⟨Nat.le_of_ble_eq_true rfl, Nat.le_of_ble_eq_true rfl⟩ (Nat.le_of_ble_eq_true rfl) dX11_marked_20 (fun r1 X2 => ?_)
  exact g_iret hC hR dX11_marked_23
set_option maxRecDepth 20000 in
theorem gB_X11_marked_113 {C : Cx} {V : Ev} {L : List Kd} (hC : Ok C V cX11_marked RX11 11 5 154) (hR : Rt C V L (some .int) rI) (hL : LKc L) (x5 : Int) (x6 : Int) (X : Mem)  : G C V L 0 0 11 113 [(0, vR V.1 0), (5, vI x5), (6, vJ x6)] [] X (B_X11_marked_113   x5 x6 X) := by
  unfold B_X11_marked_113
  refine g_iload (q := 1) hC dX11_marked_113 rfl ?_
  refine g_iconst (v := vI (-1)) hC dX11_marked_115 rfl ?_
  refine g_icmp_ne (tgt := 126) hC dX11_marked_116 (by decide) ?_ ?_
  · refine g_aload_n (q := 0) hC dX11_marked_126 rfl rfl rfl ?_
    refine g_lload (q := 2) hC dX11_marked_127 rfl ?_
    refine g_ldc2 (n := 1000000) hC wk_RX11_305 rfl dX11_marked_129 ?_
    refine g_callVI (As := [vJ x6, vJ 1000000]) hC mv_X11_tellFraction wml_RX11_307 (k_X11_tellFraction _ V hL x6 1000000 X) cf_X11 (at_0 hL) (by decide) ⟨Nat.zero_le _, Nat.zero_le _⟩ rfl rfl ⟨Nat.le_of_ble_eq_true rfl, Nat.le_of_ble_eq_true rfl⟩ (Nat.le_of_ble_eq_true rfl) dX11_marked_132 (fun r9 X10 => ?_)
    refine g_pop hC dX11_marked_135 rfl ?_
    refine g_aload_n (q := 0) hC dX11_marked_136 rfl rfl rfl ?_
    refine g_iload (q := 1) hC dX11_marked_137 rfl ?_
    refine g_callVI (As := [vI x5]) hC mv_X11_answer wml_RX11_200 (k_X11_answer _ V hL x5 X10) cf_X11 (at_0 hL) (by decide) ⟨Nat.zero_le _, Nat.zero_le _⟩ rfl rfl ⟨Nat.le_of_ble_eq_true rfl, Nat.le_of_ble_eq_true rfl⟩ (Nat.le_of_ble_eq_true rfl) dX11_marked_139 (fun r11 X12 => ?_)
    exact g_iret hC hR dX11_marked_142
  · refine g_aload_n (q := 0) hC dX11_marked_119 rfl rfl rfl ?_
    refine g_bipush (v := vI 6) hC dX11_marked_120 rfl ?_
    refine g_callVI (As := [vI 6]) hC mv_X11_fail wml_RX11_162 (k_X11_fail _ V hL 6 X) cf_X11 (at_0 hL) (by decide) ⟨Nat.zero_le _, Nat.zero_le _⟩ rfl rfl ⟨Nat.le_of_ble_eq_true rfl, Nat.le_of_ble_eq_true rfl⟩ (Nat.le_of_ble_eq_true rfl) dX11_marked_122 (fun r13 X14 => ?_)
    exact g_iret hC hR dX11_marked_125
set_option maxRecDepth 20000 in
theorem gB_X11_marked_107 {C : Cx} {V : Ev} {L : List Kd} (hC : Ok C V cX11_marked RX11 11 5 154) (hR : Rt C V L (some .int) rI) (hL : LKc L) {go53 : Int → Int → Int → Int → Mem → Option (Int × Mem)} (hgo53 : ∀ (x3 : Int) (x5 : Int) (x6 : Int) (x8 : Int) (X : Mem), G C V L 0 0 11 53 [(0, vR V.1 0), (3, vI x3), (5, vI x5), (6, vJ x6), (8, vI x8)] [] X (go53 x3 x5 x6 x8 X)) (x3 : Int) (x5 : Int) (x6 : Int) (x8 : Int) (X : Mem)  : G C V L 0 0 11 107 [(0, vR V.1 0), (3, vI x3), (5, vI x5), (6, vJ x6), (8, vI x8)] [] X (B_X11_marked_107  go53 x3 x5 x6 x8 X) := by
  unfold B_X11_marked_107
  refine g_iinc (q := 4) hC dX11_marked_107 rfl (by decide) rfl ?_
  refine g_goto (tgt := 53) hC dX11_marked_110 (by decide) ?_
  refine g_sub [1, 2, 3, 4, 0] rfl ?_
  exact hgo53 x3 x5 x6 (x8 + 1) X
set_option maxRecDepth 20000 in
theorem gB_X11_marked_99 {C : Cx} {V : Ev} {L : List Kd} (hC : Ok C V cX11_marked RX11 11 5 154) (hR : Rt C V L (some .int) rI) (hL : LKc L) {go53 : Int → Int → Int → Int → Mem → Option (Int × Mem)} (hgo53 : ∀ (x3 : Int) (x5 : Int) (x6 : Int) (x8 : Int) (X : Mem), G C V L 0 0 11 53 [(0, vR V.1 0), (3, vI x3), (5, vI x5), (6, vJ x6), (8, vI x8)] [] X (go53 x3 x5 x6 x8 X)) (x3 : Int) (x8 : Int) (x9 : Int) (X : Mem)  : G C V L 0 0 11 99 [(0, vR V.1 0), (3, vI x3), (8, vI x8), (9, vJ x9)] [] X (B_X11_marked_99  go53 x3 x8 x9 X) := by
  unfold B_X11_marked_99
  refine g_iload (q := 2) hC dX11_marked_99 rfl ?_
  refine g_istore hC dX11_marked_101 (by decide) rfl ?_
  refine g_lload (q := 4) hC dX11_marked_103 rfl ?_
  refine g_lstore hC dX11_marked_105 (by decide) rfl ?_
  refine g_sub [2, 3, 1, 0, 4] rfl ?_
  exact gB_X11_marked_107 hC hR hL hgo53 x3 x8 x9 x8 X
set_option maxRecDepth 20000 in
theorem gL_X11_marked_53 {C : Cx} {V : Ev} {L : List Kd} (hC : Ok C V cX11_marked RX11 11 5 154) (hR : Rt C V L (some .int) rI) (hL : LKc L) : ∀ (n : Nat) (x3 : Int) (x5 : Int) (x6 : Int) (x8 : Int) (X : Mem), G C V L 0 0 11 53 [(0, vR V.1 0), (3, vI x3), (5, vI x5), (6, vJ x6), (8, vI x8)] [] X (L_X11_marked_53   n x3 x5 x6 x8 X) := by
  intro n
  induction n with
  | zero => intro x3 x5 x6 x8 X; exact g_none
  | succ n ih =>
    intro x3 x5 x6 x8 X
    rw [L_X11_marked_53]
    refine g_iload (q := 4) hC dX11_marked_53 rfl ?_
    refine g_aload_n (q := 0) hC dX11_marked_55 rfl rfl rfl ?_
    refine g_getS (k := 1) hC cf_X11 (at_0 hL) (by decide) rfl (by decide) (by decide) wf_RX11_18 dX11_marked_56 ?_
    refine g_getD (k := 0) (kz := 0) hC cf_X7 (at_2 hL) (by decide) rfl (by decide) rfl wf_RX11_58 dX11_marked_59 (g_cm (l := RIV) fun m6 => ?_)
    refine g_callVI (As := []) hC mv_X2_setCount wml_RX11_337 (k_X2_setCount _ V (X 2 0) X (riv_of hL m6)) cf_X2 (rv_0 (riv_of hL m6)) (by decide) ⟨Nat.zero_le _, Nat.zero_le _⟩ rfl rfl ⟨Nat.le_of_ble_eq_true rfl, Nat.le_of_ble_eq_true rfl⟩ (Nat.le_of_ble_eq_true rfl) dX11_marked_62 (fun r7 X8 => ?_)
    refine g_icmp_ge (tgt := 113) hC dX11_marked_65 (by decide) ?_ ?_
    · refine g_sub [0, 2, 3] rfl ?_
      exact gB_X11_marked_113 hC hR hL  x5 x6 X8
    · refine g_iload (q := 4) hC dX11_marked_68 rfl ?_
      refine g_callSI (As := [vI x8]) hC mt_J6_bitCount_0f7a4 wml_RX11_395 (k_J6_bitCount_0f7a4 _ V x8 X8) ⟨Nat.zero_le _, Nat.zero_le _⟩ rfl rfl ⟨Nat.le_of_ble_eq_true rfl, Nat.le_of_ble_eq_true rfl⟩ (Nat.le_of_ble_eq_true rfl) dX11_marked_70 (fun r15 X16 => ?_)
      refine g_iload_n (q := 1) hC dX11_marked_73 rfl rfl ?_
      refine g_icmp_ne (tgt := 107) hC dX11_marked_74 (by decide) ?_ ?_
      · exact gB_X11_marked_107 hC hR hL ih x3 x5 x6 x8 X16
      · refine g_aload_n (q := 0) hC dX11_marked_77 rfl rfl rfl ?_
        refine g_iload (q := 4) hC dX11_marked_78 rfl ?_
        refine g_callVJ (As := [vI x8]) hC mv_X11_partsMarked wml_RX11_400 (k_X11_partsMarked _ V hL x8 X16) cf_X11 (at_0 hL) (by decide) ⟨Nat.zero_le _, Nat.zero_le _⟩ rfl rfl ⟨Nat.le_of_ble_eq_true rfl, Nat.le_of_ble_eq_true rfl⟩ (Nat.le_of_ble_eq_true rfl) dX11_marked_80 (fun r17 X18 => ?_)
        refine g_lstore hC dX11_marked_83 (by decide) rfl ?_
        refine g_iload (q := 3) hC dX11_marked_85 rfl ?_
        refine g_iconst (v := vI (-1)) hC dX11_marked_87 rfl ?_
        refine g_icmp_eq (tgt := 99) hC dX11_marked_88 (by decide) ?_ ?_
        · refine g_sub [1, 2, 5, 0] rfl ?_
          exact gB_X11_marked_99 hC hR hL ih x3 x8 r17 X18
        · refine g_lload (q := 0) hC dX11_marked_91 rfl ?_
          refine g_lload (q := 4) hC dX11_marked_93 rfl ?_
          refine g_lcmp_le (tgt := 107) hC dX11_marked_95 rfl dX11_marked_96 (by decide) ?_ ?_
          · refine g_sub [1, 2, 3, 4, 5] rfl ?_
            exact gB_X11_marked_107 hC hR hL ih x3 x5 x6 x8 X18
          · refine g_sub [1, 2, 5, 0] rfl ?_
            exact gB_X11_marked_99 hC hR hL ih x3 x8 r17 X18
set_option maxRecDepth 20000 in
theorem k_X11_marked (l : Launch) (V : Ev) {L : List Kd} (hL : LKc L) (p1 : Int) (p2 : Int) (p3 : Int) (X : Mem)  : Kt l V L yX11_marked (.code yX11_marked cX11_marked 11 (some .int)) 5 154 [vR V.1 0, vI p1, vI p2, vI p3] rI X (f_X11_marked p1 p2 p3 X) := by
  refine kt_of (own := RX11) (lv0 := [(0, vR V.1 0), (1, vI p1), (2, vI p2), (3, vI p3)]) (by decide) rfl (Nat.le_of_ble_eq_true rfl) rfl (fun C hCl hC hR => ?_)
  subst hCl
  unfold f_X11_marked
  refine g_iload_n (q := 3) hC dX11_marked_0 rfl rfl ?_
  refine g_if_lt (tgt := 18) hC dX11_marked_1 (by decide) ?_ ?_
  · refine g_sub [0] rfl ?_
    exact gB_X11_marked_18 hC hR hL  X
  · refine g_iload_n (q := 3) hC dX11_marked_4 rfl rfl ?_
    refine g_aload_n (q := 0) hC dX11_marked_5 rfl rfl rfl ?_
    refine g_getS (k := 1) hC cf_X11 (at_0 hL) (by decide) rfl (by decide) (by decide) wf_RX11_18 dX11_marked_6 ?_
    refine g_getD (k := 0) (kz := 0) hC cf_X7 (at_2 hL) (by decide) rfl (by decide) rfl wf_RX11_58 dX11_marked_9 (g_cm (l := RIV) fun m3 => ?_)
    refine g_getI (k := 2) (kz := 2) hC cf_X2 (rv_0 (riv_of hL m3)) (by decide) rfl (by decide) rfl wf_RX11_224 dX11_marked_12 ?_
    refine g_icmp_le (tgt := 24) hC dX11_marked_15 (by decide) ?_ ?_
    · refine g_aload_n (q := 0) hC dX11_marked_24 rfl rfl rfl ?_
      refine g_iload_n (q := 1) hC dX11_marked_25 rfl rfl ?_
      refine g_iload_n (q := 2) hC dX11_marked_26 rfl rfl ?_
      refine g_callVI (As := [vI p1, vI p2]) hC mv_X11_choiceStatus wml_RX11_350 (k_X11_choiceStatus _ V hL p1 p2 X) cf_X11 (at_0 hL) (by decide) ⟨Nat.zero_le _, Nat.zero_le _⟩ rfl rfl ⟨Nat.le_of_ble_eq_true rfl, Nat.le_of_ble_eq_true rfl⟩ (Nat.le_of_ble_eq_true rfl) dX11_marked_27 (fun r4 X5 => ?_)
      refine g_istore hC dX11_marked_30 (by decide) rfl ?_
      refine g_iload (q := 0) hC dX11_marked_32 rfl ?_
      refine g_if_eq (tgt := 44) hC dX11_marked_34 (by decide) ?_ ?_
      · refine g_iconst (v := vI (-1)) hC dX11_marked_44 rfl ?_
        refine g_istore hC dX11_marked_45 (by decide) rfl ?_
        refine g_lconst (v := vJ 0) hC dX11_marked_47 rfl ?_
        refine g_lstore hC dX11_marked_48 (by decide) rfl ?_
        refine g_iconst (v := vI 0) hC dX11_marked_50 rfl ?_
        refine g_istore hC dX11_marked_51 (by decide) rfl ?_
        refine g_sub [4, 7, 2, 1, 0] rfl ?_
        exact gL_X11_marked_53 hC hR hL  KF p3 ((-1)) 0 0 X5
      · refine g_aload_n (q := 1) hC dX11_marked_37 rfl rfl rfl ?_
        refine g_iload (q := 0) hC dX11_marked_38 rfl ?_
        refine g_callVI (As := [vI r4]) hC mv_X11_fail wml_RX11_162 (k_X11_fail _ V hL r4 X5) cf_X11 (at_0 hL) (by decide) ⟨Nat.zero_le _, Nat.zero_le _⟩ rfl rfl ⟨Nat.le_of_ble_eq_true rfl, Nat.le_of_ble_eq_true rfl⟩ (Nat.le_of_ble_eq_true rfl) dX11_marked_40 (fun r19 X20 => ?_)
        exact g_iret hC hR dX11_marked_43
    · refine g_sub [0] rfl ?_
      exact gB_X11_marked_18 hC hR hL  X
def B_X11_tells_81  (X : Mem) : Option (Int × Mem) :=
  cl (f_X1_bestOf 59 X) fun r5 X6 =>
  cl (f_X11_tellFraction ((X 42 10) + r5) 1000000 X6) fun r7 X8 =>
  cz r7 (some (r7, X8))
def B_X11_tells_74 (go34 : Int → Mem → Option (Int × Mem)) (x4 : Int) (s0 : Int) (s1 : Int) (X : Mem) : Option (Int × Mem) :=
  ax 32 s1 <| bd (ms X 59 s1 s0) fun X9 =>
  go34 (x4 + 1) X9
def L_X11_tells_34 : Nat → Int → Mem → Option (Int × Mem)
  | 0, _, _ => none
  | n + 1, x4, X =>
    c2 x4 32 <| if 32 ≤ x4 then
      B_X11_tells_81   X
    else
      c1 (ia x4 (X 42 8)) <| if ¬ (ia x4 (X 42 8)) = 0 then
        ax 32 x4 <|
        B_X11_tells_74  (fun x4 X => L_X11_tells_34   n x4 X) x4 (X 18 x4) x4 X
      else
        B_X11_tells_74  (fun x4 X => L_X11_tells_34   n x4 X) x4 0 x4 X
def f_X11_tells (p1 : Int) (p2 : Int) (X : Mem) : Option (Int × Mem) :=
  cl (f_X11_choiceStatus p1 p2 X) fun r1 X2 =>
  c1 r1 <| if r1 = 0 then
    cl (f_X1_chooseSurest 18 X2) fun _ X4 =>
    L_X11_tells_34   KF 0 X4
  else
    cl (f_X11_refuse r1 X2) fun r10 X11 =>
    cz r10 (some (r10, X11))
set_option maxRecDepth 20000 in
theorem gB_X11_tells_81 {C : Cx} {V : Ev} {L : List Kd} (hC : Ok C V cX11_tells RX11 5 5 152) (hR : Rt C V L (some .boolean) rI) (hL : LKc L)  (X : Mem)  : G C V L 0 0 5 81 [(0, vR V.1 0)] [] X (B_X11_tells_81    X) := by
  unfold B_X11_tells_81
  refine g_aload_n (q := 0) hC dX11_tells_81 rfl rfl rfl ?_
  refine g_aload_n (q := 0) hC dX11_tells_82 rfl rfl rfl ?_
  refine g_getS (k := 9) hC cf_X11 (at_0 hL) (by decide) rfl (by decide) (by decide) wf_RX11_80 dX11_tells_83 ?_
  refine g_getJ (k := 10) (kz := 10) hC cf_X1 (at_42 hL) (by decide) rfl (by decide) rfl wf_RX11_360 dX11_tells_86 ?_
  refine g_aload_n (q := 0) hC dX11_tells_89 rfl rfl rfl ?_
  refine g_getS (k := 9) hC cf_X11 (at_0 hL) (by decide) rfl (by decide) (by decide) wf_RX11_80 dX11_tells_90 ?_
  refine g_aload_n (q := 0) hC dX11_tells_93 rfl rfl rfl ?_
  refine g_getS (k := 12) hC cf_X11 (at_0 hL) (by decide) rfl (by decide) (by decide) wf_RX11_102 dX11_tells_94 ?_
  refine g_callVJ (As := [vR V.1 59]) hC mv_X1_bestOf wml_RX11_392 (k_X1_bestOf _ V hL 59 X (at_59 hL)) cf_X1 (at_42 hL) (by decide) ⟨Nat.zero_le _, Nat.zero_le _⟩ rfl rfl ⟨Nat.le_of_ble_eq_true rfl, Nat.le_of_ble_eq_true rfl⟩ (Nat.le_of_ble_eq_true rfl) dX11_tells_97 (fun r5 X6 => ?_)
  refine g_ladd hC dX11_tells_100 ?_
  refine g_ldc2 (n := 1000000) hC wk_RX11_305 rfl dX11_tells_101 ?_
  refine g_callVI (As := [vJ ((X 42 10) + r5), vJ 1000000]) hC mv_X11_tellFraction wml_RX11_307 (k_X11_tellFraction _ V hL ((X 42 10) + r5) 1000000 X6) cf_X11 (at_0 hL) (by decide) ⟨Nat.zero_le _, Nat.zero_le _⟩ rfl rfl ⟨Nat.le_of_ble_eq_true rfl, Nat.le_of_ble_eq_true rfl⟩ (Nat.le_of_ble_eq_true rfl) dX11_tells_104 (fun r7 X8 => ?_)
  exact g_zret hC hR dX11_tells_107
set_option maxRecDepth 20000 in
theorem gB_X11_tells_74 {C : Cx} {V : Ev} {L : List Kd} (hC : Ok C V cX11_tells RX11 5 5 152) (hR : Rt C V L (some .boolean) rI) (hL : LKc L) {go34 : Int → Mem → Option (Int × Mem)} (hgo34 : ∀ (x4 : Int) (X : Mem), G C V L 0 0 5 34 [(0, vR V.1 0), (4, vI x4)] [] X (go34 x4 X)) (x4 : Int) (s0 : Int) (s1 : Int) (X : Mem)  : G C V L 0 0 5 74 [(0, vR V.1 0), (4, vI x4)] [vJ s0, vI s1, vR V.1 59] X (B_X11_tells_74  go34 x4 s0 s1 X) := by
  unfold B_X11_tells_74
  refine g_last hC (at_59 hL) (by decide) dX11_tells_74 (fun X9 => ?_)
  refine g_iinc (q := 1) hC dX11_tells_75 rfl (by decide) rfl ?_
  refine g_goto (tgt := 34) hC dX11_tells_78 (by decide) ?_
  refine g_sub [1, 0] rfl ?_
  exact hgo34 (x4 + 1) X9
set_option maxRecDepth 20000 in
theorem gL_X11_tells_34 {C : Cx} {V : Ev} {L : List Kd} (hC : Ok C V cX11_tells RX11 5 5 152) (hR : Rt C V L (some .boolean) rI) (hL : LKc L) : ∀ (n : Nat) (x4 : Int) (X : Mem), G C V L 0 0 5 34 [(0, vR V.1 0), (4, vI x4)] [] X (L_X11_tells_34   n x4 X) := by
  intro n
  induction n with
  | zero => intro x4 X; exact g_none
  | succ n ih =>
    intro x4 X
    rw [L_X11_tells_34]
    refine g_iload (q := 1) hC dX11_tells_34 rfl ?_
    refine g_bipush (v := vI 32) hC dX11_tells_36 rfl ?_
    refine g_icmp_ge (tgt := 81) hC dX11_tells_38 (by decide) ?_ ?_
    · refine g_sub [0] rfl ?_
      exact gB_X11_tells_81 hC hR hL  X
    · refine g_aload_n (q := 0) hC dX11_tells_41 rfl rfl rfl ?_
      refine g_getS (k := 12) hC cf_X11 (at_0 hL) (by decide) rfl (by decide) (by decide) wf_RX11_102 dX11_tells_42 ?_
      refine g_iload (q := 1) hC dX11_tells_45 rfl ?_
      refine g_iload (q := 1) hC dX11_tells_47 rfl ?_
      refine g_aload_n (q := 0) hC dX11_tells_49 rfl rfl rfl ?_
      refine g_getS (k := 9) hC cf_X11 (at_0 hL) (by decide) rfl (by decide) (by decide) wf_RX11_80 dX11_tells_50 ?_
      refine g_getI (k := 8) (kz := 8) hC cf_X1 (at_42 hL) (by decide) rfl (by decide) rfl wf_RX11_357 dX11_tells_53 ?_
      refine g_iand hC dX11_tells_56 ?_
      refine g_if_ne (tgt := 64) hC dX11_tells_57 (by decide) ?_ ?_
      · refine g_aload_n (q := 0) hC dX11_tells_64 rfl rfl rfl ?_
        refine g_getS (k := 1) hC cf_X11 (at_0 hL) (by decide) rfl (by decide) (by decide) wf_RX11_18 dX11_tells_65 ?_
        refine g_getS (k := 2) hC cf_X7 (at_2 hL) (by decide) rfl (by decide) (by decide) wf_RX11_129 dX11_tells_68 ?_
        refine g_iload (q := 1) hC dX11_tells_71 rfl ?_
        refine g_lald hC (at_18 hL) (by decide) dX11_tells_73 ?_
        exact gB_X11_tells_74 hC hR hL ih x4 (X 18 x4) x4 X
      · refine g_lconst (v := vJ 0) hC dX11_tells_60 rfl ?_
        refine g_goto (tgt := 74) hC dX11_tells_61 (by decide) ?_
        exact gB_X11_tells_74 hC hR hL ih x4 0 x4 X
set_option maxRecDepth 20000 in
theorem k_X11_tells (l : Launch) (V : Ev) {L : List Kd} (hL : LKc L) (p1 : Int) (p2 : Int) (X : Mem)  : Kt l V L yX11_tells (.code yX11_tells cX11_tells 5 (some .boolean)) 5 152 [vR V.1 0, vI p1, vI p2] rI X (f_X11_tells p1 p2 X) := by
  refine kt_of (own := RX11) (lv0 := [(0, vR V.1 0), (1, vI p1), (2, vI p2)]) (by decide) rfl (Nat.le_of_ble_eq_true rfl) rfl (fun C hCl hC hR => ?_)
  subst hCl
  unfold f_X11_tells
  refine g_aload_n (q := 0) hC dX11_tells_0 rfl rfl rfl ?_
  refine g_iload_n (q := 1) hC dX11_tells_1 rfl rfl ?_
  refine g_iload_n (q := 2) hC dX11_tells_2 rfl rfl ?_
  refine g_callVI (As := [vI p1, vI p2]) hC mv_X11_choiceStatus wml_RX11_350 (k_X11_choiceStatus _ V hL p1 p2 X) cf_X11 (at_0 hL) (by decide) ⟨Nat.zero_le _, Nat.zero_le _⟩ rfl rfl ⟨Nat.le_of_ble_eq_true rfl, Nat.le_of_ble_eq_true rfl⟩ (Nat.le_of_ble_eq_true rfl) dX11_tells_3 (fun r1 X2 => ?_)
  refine g_istore_n hC dX11_tells_6 rfl (by decide) rfl ?_
  refine g_iload_n (q := 0) hC dX11_tells_7 rfl rfl ?_
  refine g_if_eq (tgt := 17) hC dX11_tells_8 (by decide) ?_ ?_
  · refine g_aload_n (q := 1) hC dX11_tells_17 rfl rfl rfl ?_
    refine g_getS (k := 9) hC cf_X11 (at_0 hL) (by decide) rfl (by decide) (by decide) wf_RX11_80 dX11_tells_18 ?_
    refine g_aload_n (q := 1) hC dX11_tells_21 rfl rfl rfl ?_
    refine g_getS (k := 1) hC cf_X11 (at_0 hL) (by decide) rfl (by decide) (by decide) wf_RX11_18 dX11_tells_22 ?_
    refine g_getS (k := 2) hC cf_X7 (at_2 hL) (by decide) rfl (by decide) (by decide) wf_RX11_129 dX11_tells_25 ?_
    refine g_callVV (As := [vR V.1 18]) hC mv_X1_chooseSurest wml_RX11_353 (k_X1_chooseSurest _ V hL 18 X2 (at_18 hL)) cf_X1 (at_42 hL) (by decide) ⟨Nat.zero_le _, Nat.zero_le _⟩ rfl rfl ⟨Nat.le_of_ble_eq_true rfl, Nat.le_of_ble_eq_true rfl⟩ (Nat.le_of_ble_eq_true rfl) dX11_tells_28 (fun _ X4 => ?_)
    refine g_iconst (v := vI 0) hC dX11_tells_31 rfl ?_
    refine g_istore hC dX11_tells_32 (by decide) rfl ?_
    refine g_sub [2, 0] rfl ?_
    exact gL_X11_tells_34 hC hR hL  KF 0 X4
  · refine g_aload_n (q := 1) hC dX11_tells_11 rfl rfl rfl ?_
    refine g_iload_n (q := 0) hC dX11_tells_12 rfl rfl ?_
    refine g_callVI (As := [vI r1]) hC mv_X11_refuse wml_RX11_140 (k_X11_refuse _ V hL r1 X2) cf_X11 (at_0 hL) (by decide) ⟨Nat.zero_le _, Nat.zero_le _⟩ rfl rfl ⟨Nat.le_of_ble_eq_true rfl, Nat.le_of_ble_eq_true rfl⟩ (Nat.le_of_ble_eq_true rfl) dX11_tells_13 (fun r10 X11 => ?_)
    exact g_zret hC hR dX11_tells_16
def B_X11_partsDredged_55  (X : Mem) : Option (Int × Mem) :=
  cl (f_X1_bestOf 59 X) fun r2 X3 =>
  some (r2, X3)
def B_X11_partsDredged_48 (go6 : Int → Int → Mem → Option (Int × Mem)) (x2 : Int) (x3 : Int) (s0 : Int) (s1 : Int) (X : Mem) : Option (Int × Mem) :=
  ax 32 s1 <| bd (ms X 59 s1 s0) fun X4 =>
  go6 x2 (x3 + 1) X4
def L_X11_partsDredged_6 : Nat → Int → Int → Mem → Option (Int × Mem)
  | 0, _, _, _ => none
  | n + 1, x2, x3, X =>
    c2 x3 32 <| if 32 ≤ x3 then
      B_X11_partsDredged_55   X
    else
      c1 (ia x3 x2) <| if ¬ (ia x3 x2) = 0 then
        B_X11_partsDredged_48  (fun x2 x3 X => L_X11_partsDredged_6   n x2 x3 X) x2 x3 0 x3 X
      else
        ax 32 x3 <|
        ax 32 (io x3 x2) <|
        B_X11_partsDredged_48  (fun x2 x3 X => L_X11_partsDredged_6   n x2 x3 X) x2 x3 ((X 18 x3) + (X 18 (io x3 x2))) x3 X
def f_X11_partsDredged (p1 : Int) (X : Mem) : Option (Int × Mem) :=
  bd (ishl 1 p1) fun v1 =>
  L_X11_partsDredged_6   KF v1 0 X
set_option maxRecDepth 20000 in
theorem gB_X11_partsDredged_55 {C : Cx} {V : Ev} {L : List Kd} (hC : Ok C V cX11_partsDredged RX11 4 4 129) (hR : Rt C V L (some .long) rJ) (hL : LKc L)  (X : Mem)  : G C V L 0 0 4 55 [(0, vR V.1 0)] [] X (B_X11_partsDredged_55    X) := by
  unfold B_X11_partsDredged_55
  refine g_aload_n (q := 0) hC dX11_partsDredged_55 rfl rfl rfl ?_
  refine g_getS (k := 9) hC cf_X11 (at_0 hL) (by decide) rfl (by decide) (by decide) wf_RX11_80 dX11_partsDredged_56 ?_
  refine g_aload_n (q := 0) hC dX11_partsDredged_59 rfl rfl rfl ?_
  refine g_getS (k := 12) hC cf_X11 (at_0 hL) (by decide) rfl (by decide) (by decide) wf_RX11_102 dX11_partsDredged_60 ?_
  refine g_callVJ (As := [vR V.1 59]) hC mv_X1_bestOf wml_RX11_392 (k_X1_bestOf _ V hL 59 X (at_59 hL)) cf_X1 (at_42 hL) (by decide) ⟨Nat.zero_le _, Nat.zero_le _⟩ rfl rfl ⟨Nat.le_of_ble_eq_true rfl, Nat.le_of_ble_eq_true rfl⟩ (Nat.le_of_ble_eq_true rfl) dX11_partsDredged_63 (fun r2 X3 => ?_)
  exact g_lret hC hR dX11_partsDredged_66
set_option maxRecDepth 20000 in
theorem gB_X11_partsDredged_48 {C : Cx} {V : Ev} {L : List Kd} (hC : Ok C V cX11_partsDredged RX11 4 4 129) (hR : Rt C V L (some .long) rJ) (hL : LKc L) {go6 : Int → Int → Mem → Option (Int × Mem)} (hgo6 : ∀ (x2 : Int) (x3 : Int) (X : Mem), G C V L 0 0 4 6 [(0, vR V.1 0), (2, vI x2), (3, vI x3)] [] X (go6 x2 x3 X)) (x2 : Int) (x3 : Int) (s0 : Int) (s1 : Int) (X : Mem)  : G C V L 0 0 4 48 [(0, vR V.1 0), (2, vI x2), (3, vI x3)] [vJ s0, vI s1, vR V.1 59] X (B_X11_partsDredged_48  go6 x2 x3 s0 s1 X) := by
  unfold B_X11_partsDredged_48
  refine g_last hC (at_59 hL) (by decide) dX11_partsDredged_48 (fun X4 => ?_)
  refine g_iinc (q := 2) hC dX11_partsDredged_49 rfl (by decide) rfl ?_
  refine g_goto (tgt := 6) hC dX11_partsDredged_52 (by decide) ?_
  refine g_sub [1, 2, 0] rfl ?_
  exact hgo6 x2 (x3 + 1) X4
set_option maxRecDepth 20000 in
theorem gL_X11_partsDredged_6 {C : Cx} {V : Ev} {L : List Kd} (hC : Ok C V cX11_partsDredged RX11 4 4 129) (hR : Rt C V L (some .long) rJ) (hL : LKc L) : ∀ (n : Nat) (x2 : Int) (x3 : Int) (X : Mem), G C V L 0 0 4 6 [(0, vR V.1 0), (2, vI x2), (3, vI x3)] [] X (L_X11_partsDredged_6   n x2 x3 X) := by
  intro n
  induction n with
  | zero => intro x2 x3 X; exact g_none
  | succ n ih =>
    intro x2 x3 X
    rw [L_X11_partsDredged_6]
    refine g_iload_n (q := 2) hC dX11_partsDredged_6 rfl rfl ?_
    refine g_bipush (v := vI 32) hC dX11_partsDredged_7 rfl ?_
    refine g_icmp_ge (tgt := 55) hC dX11_partsDredged_9 (by decide) ?_ ?_
    · refine g_sub [0] rfl ?_
      exact gB_X11_partsDredged_55 hC hR hL  X
    · refine g_aload_n (q := 0) hC dX11_partsDredged_12 rfl rfl rfl ?_
      refine g_getS (k := 12) hC cf_X11 (at_0 hL) (by decide) rfl (by decide) (by decide) wf_RX11_102 dX11_partsDredged_13 ?_
      refine g_iload_n (q := 2) hC dX11_partsDredged_16 rfl rfl ?_
      refine g_iload_n (q := 2) hC dX11_partsDredged_17 rfl rfl ?_
      refine g_iload_n (q := 1) hC dX11_partsDredged_18 rfl rfl ?_
      refine g_iand hC dX11_partsDredged_19 ?_
      refine g_if_ne (tgt := 47) hC dX11_partsDredged_20 (by decide) ?_ ?_
      · refine g_lconst (v := vJ 0) hC dX11_partsDredged_47 rfl ?_
        exact gB_X11_partsDredged_48 hC hR hL ih x2 x3 0 x3 X
      · refine g_aload_n (q := 0) hC dX11_partsDredged_23 rfl rfl rfl ?_
        refine g_getS (k := 1) hC cf_X11 (at_0 hL) (by decide) rfl (by decide) (by decide) wf_RX11_18 dX11_partsDredged_24 ?_
        refine g_getS (k := 2) hC cf_X7 (at_2 hL) (by decide) rfl (by decide) (by decide) wf_RX11_129 dX11_partsDredged_27 ?_
        refine g_iload_n (q := 2) hC dX11_partsDredged_30 rfl rfl ?_
        refine g_lald hC (at_18 hL) (by decide) dX11_partsDredged_31 ?_
        refine g_aload_n (q := 0) hC dX11_partsDredged_32 rfl rfl rfl ?_
        refine g_getS (k := 1) hC cf_X11 (at_0 hL) (by decide) rfl (by decide) (by decide) wf_RX11_18 dX11_partsDredged_33 ?_
        refine g_getS (k := 2) hC cf_X7 (at_2 hL) (by decide) rfl (by decide) (by decide) wf_RX11_129 dX11_partsDredged_36 ?_
        refine g_iload_n (q := 2) hC dX11_partsDredged_39 rfl rfl ?_
        refine g_iload_n (q := 1) hC dX11_partsDredged_40 rfl rfl ?_
        refine g_ior hC dX11_partsDredged_41 ?_
        refine g_lald hC (at_18 hL) (by decide) dX11_partsDredged_42 ?_
        refine g_ladd hC dX11_partsDredged_43 ?_
        refine g_goto (tgt := 48) hC dX11_partsDredged_44 (by decide) ?_
        exact gB_X11_partsDredged_48 hC hR hL ih x2 x3 ((X 18 x3) + (X 18 (io x3 x2))) x3 X
set_option maxRecDepth 20000 in
theorem k_X11_partsDredged (l : Launch) (V : Ev) {L : List Kd} (hL : LKc L) (p1 : Int) (X : Mem)  : Kt l V L yX11_partsDredged (.code yX11_partsDredged cX11_partsDredged 4 (some .long)) 4 129 [vR V.1 0, vI p1] rJ X (f_X11_partsDredged p1 X) := by
  refine kt_of (own := RX11) (lv0 := [(0, vR V.1 0), (1, vI p1)]) (by decide) rfl (Nat.le_of_ble_eq_true rfl) rfl (fun C hCl hC hR => ?_)
  subst hCl
  unfold f_X11_partsDredged
  refine g_iconst (v := vI 1) hC dX11_partsDredged_0 rfl ?_
  refine g_iload_n (q := 1) hC dX11_partsDredged_1 rfl rfl ?_
  refine g_ishl hC dX11_partsDredged_2 ?_
  refine g_topI (fun v1 => ?_)
  refine g_istore_n hC dX11_partsDredged_3 rfl (by decide) rfl ?_
  refine g_iconst (v := vI 0) hC dX11_partsDredged_4 rfl ?_
  refine g_istore_n hC dX11_partsDredged_5 rfl (by decide) rfl ?_
  refine g_sub [2, 1, 0] rfl ?_
  exact gL_X11_partsDredged_6 hC hR hL  KF v1 0 X
def B_X11_dredged_77 (x4 : Int) (x5 : Int) (X : Mem) : Option (Int × Mem) :=
  c2 x4 ((-1)) <| if ¬ x4 = ((-1)) then
    cl (f_X11_tellFraction x5 1000000 X) fun r4 X5 =>
    cl (f_X11_answer x4 X5) fun r6 X7 =>
    some (r6, X7)
  else
    cl (f_X11_fail 6 X) fun r8 X9 =>
    some (r8, X9)
def B_X11_dredged_71 (go26 : Int → Int → Int → Mem → Option (Int × Mem)) (x4 : Int) (x5 : Int) (x7 : Int) (X : Mem) : Option (Int × Mem) :=
  go26 x4 x5 (x7 + 1) X
def B_X11_dredged_63 (go26 : Int → Int → Int → Mem → Option (Int × Mem)) (x7 : Int) (x8 : Int) (X : Mem) : Option (Int × Mem) :=
  B_X11_dredged_71  go26 x7 x8 x7 X
def L_X11_dredged_26 : Nat → Int → Int → Int → Mem → Option (Int × Mem)
  | 0, _, _, _, _ => none
  | n + 1, x4, x5, x7, X =>
    cm RIV (X 2 0) <|
    c2 x7 (X (X 2 0) 2) <| if (X (X 2 0) 2) ≤ x7 then
      B_X11_dredged_77   x4 x5 X
    else
      cl (f_X11_partsDredged x7 X) fun r10 X11 =>
      c2 x4 ((-1)) <| if x4 = ((-1)) then
        B_X11_dredged_63  (fun x4 x5 x7 X => L_X11_dredged_26   n x4 x5 x7 X) x7 r10 X11
      else
        d2 r10 x5 <| if r10 ≤ x5 then
          B_X11_dredged_71  (fun x4 x5 x7 X => L_X11_dredged_26   n x4 x5 x7 X) x4 x5 x7 X11
        else
          B_X11_dredged_63  (fun x4 x5 x7 X => L_X11_dredged_26   n x4 x5 x7 X) x7 r10 X11
def f_X11_dredged (p1 : Int) (p2 : Int) (X : Mem) : Option (Int × Mem) :=
  cl (f_X11_choiceStatus p1 p2 X) fun r1 X2 =>
  c1 r1 <| if r1 = 0 then
    L_X11_dredged_26   KF ((-1)) 0 0 X2
  else
    cl (f_X11_fail r1 X2) fun r12 X13 =>
    some (r12, X13)
set_option maxRecDepth 20000 in
theorem gB_X11_dredged_77 {C : Cx} {V : Ev} {L : List Kd} (hC : Ok C V cX11_dredged RX11 10 5 152) (hR : Rt C V L (some .int) rI) (hL : LKc L) (x4 : Int) (x5 : Int) (X : Mem)  : G C V L 0 0 10 77 [(0, vR V.1 0), (4, vI x4), (5, vJ x5)] [] X (B_X11_dredged_77   x4 x5 X) := by
  unfold B_X11_dredged_77
  refine g_iload (q := 1) hC dX11_dredged_77 rfl ?_
  refine g_iconst (v := vI (-1)) hC dX11_dredged_79 rfl ?_
  refine g_icmp_ne (tgt := 90) hC dX11_dredged_80 (by decide) ?_ ?_
  · refine g_aload_n (q := 0) hC dX11_dredged_90 rfl rfl rfl ?_
    refine g_lload (q := 2) hC dX11_dredged_91 rfl ?_
    refine g_ldc2 (n := 1000000) hC wk_RX11_305 rfl dX11_dredged_93 ?_
    refine g_callVI (As := [vJ x5, vJ 1000000]) hC mv_X11_tellFraction wml_RX11_307 (k_X11_tellFraction _ V hL x5 1000000 X) cf_X11 (at_0 hL) (by decide) ⟨Nat.zero_le _, Nat.zero_le _⟩ rfl rfl ⟨Nat.le_of_ble_eq_true rfl, Nat.le_of_ble_eq_true rfl⟩ (Nat.le_of_ble_eq_true rfl) dX11_dredged_96 (fun r4 X5 => ?_)
    refine g_pop hC dX11_dredged_99 rfl ?_
    refine g_aload_n (q := 0) hC dX11_dredged_100 rfl rfl rfl ?_
    refine g_iload (q := 1) hC dX11_dredged_101 rfl ?_
    refine g_callVI (As := [vI x4]) hC mv_X11_answer wml_RX11_200 (k_X11_answer _ V hL x4 X5) cf_X11 (at_0 hL) (by decide) ⟨Nat.zero_le _, Nat.zero_le _⟩ rfl rfl ⟨Nat.le_of_ble_eq_true rfl, Nat.le_of_ble_eq_true rfl⟩ (Nat.le_of_ble_eq_true rfl) dX11_dredged_103 (fun r6 X7 => ?_)
    exact g_iret hC hR dX11_dredged_106
  · refine g_aload_n (q := 0) hC dX11_dredged_83 rfl rfl rfl ?_
    refine g_bipush (v := vI 6) hC dX11_dredged_84 rfl ?_
    refine g_callVI (As := [vI 6]) hC mv_X11_fail wml_RX11_162 (k_X11_fail _ V hL 6 X) cf_X11 (at_0 hL) (by decide) ⟨Nat.zero_le _, Nat.zero_le _⟩ rfl rfl ⟨Nat.le_of_ble_eq_true rfl, Nat.le_of_ble_eq_true rfl⟩ (Nat.le_of_ble_eq_true rfl) dX11_dredged_86 (fun r8 X9 => ?_)
    exact g_iret hC hR dX11_dredged_89
set_option maxRecDepth 20000 in
theorem gB_X11_dredged_71 {C : Cx} {V : Ev} {L : List Kd} (hC : Ok C V cX11_dredged RX11 10 5 152) (hR : Rt C V L (some .int) rI) (hL : LKc L) {go26 : Int → Int → Int → Mem → Option (Int × Mem)} (hgo26 : ∀ (x4 : Int) (x5 : Int) (x7 : Int) (X : Mem), G C V L 0 0 10 26 [(0, vR V.1 0), (4, vI x4), (5, vJ x5), (7, vI x7)] [] X (go26 x4 x5 x7 X)) (x4 : Int) (x5 : Int) (x7 : Int) (X : Mem)  : G C V L 0 0 10 71 [(0, vR V.1 0), (4, vI x4), (5, vJ x5), (7, vI x7)] [] X (B_X11_dredged_71  go26 x4 x5 x7 X) := by
  unfold B_X11_dredged_71
  refine g_iinc (q := 3) hC dX11_dredged_71 rfl (by decide) rfl ?_
  refine g_goto (tgt := 26) hC dX11_dredged_74 (by decide) ?_
  refine g_sub [1, 2, 3, 0] rfl ?_
  exact hgo26 x4 x5 (x7 + 1) X
set_option maxRecDepth 20000 in
theorem gB_X11_dredged_63 {C : Cx} {V : Ev} {L : List Kd} (hC : Ok C V cX11_dredged RX11 10 5 152) (hR : Rt C V L (some .int) rI) (hL : LKc L) {go26 : Int → Int → Int → Mem → Option (Int × Mem)} (hgo26 : ∀ (x4 : Int) (x5 : Int) (x7 : Int) (X : Mem), G C V L 0 0 10 26 [(0, vR V.1 0), (4, vI x4), (5, vJ x5), (7, vI x7)] [] X (go26 x4 x5 x7 X)) (x7 : Int) (x8 : Int) (X : Mem)  : G C V L 0 0 10 63 [(0, vR V.1 0), (7, vI x7), (8, vJ x8)] [] X (B_X11_dredged_63  go26 x7 x8 X) := by
  unfold B_X11_dredged_63
  refine g_iload (q := 1) hC dX11_dredged_63 rfl ?_
  refine g_istore hC dX11_dredged_65 (by decide) rfl ?_
  refine g_lload (q := 3) hC dX11_dredged_67 rfl ?_
  refine g_lstore hC dX11_dredged_69 (by decide) rfl ?_
  refine g_sub [2, 1, 0, 3] rfl ?_
  exact gB_X11_dredged_71 hC hR hL hgo26 x7 x8 x7 X
set_option maxRecDepth 20000 in
theorem gL_X11_dredged_26 {C : Cx} {V : Ev} {L : List Kd} (hC : Ok C V cX11_dredged RX11 10 5 152) (hR : Rt C V L (some .int) rI) (hL : LKc L) : ∀ (n : Nat) (x4 : Int) (x5 : Int) (x7 : Int) (X : Mem), G C V L 0 0 10 26 [(0, vR V.1 0), (4, vI x4), (5, vJ x5), (7, vI x7)] [] X (L_X11_dredged_26   n x4 x5 x7 X) := by
  intro n
  induction n with
  | zero => intro x4 x5 x7 X; exact g_none
  | succ n ih =>
    intro x4 x5 x7 X
    rw [L_X11_dredged_26]
    refine g_iload (q := 3) hC dX11_dredged_26 rfl ?_
    refine g_aload_n (q := 0) hC dX11_dredged_28 rfl rfl rfl ?_
    refine g_getS (k := 1) hC cf_X11 (at_0 hL) (by decide) rfl (by decide) (by decide) wf_RX11_18 dX11_dredged_29 ?_
    refine g_getD (k := 0) (kz := 0) hC cf_X7 (at_2 hL) (by decide) rfl (by decide) rfl wf_RX11_58 dX11_dredged_32 (g_cm (l := RIV) fun m3 => ?_)
    refine g_getI (k := 2) (kz := 2) hC cf_X2 (rv_0 (riv_of hL m3)) (by decide) rfl (by decide) rfl wf_RX11_224 dX11_dredged_35 ?_
    refine g_icmp_ge (tgt := 77) hC dX11_dredged_38 (by decide) ?_ ?_
    · refine g_sub [0, 1, 2] rfl ?_
      exact gB_X11_dredged_77 hC hR hL  x4 x5 X
    · refine g_aload_n (q := 0) hC dX11_dredged_41 rfl rfl rfl ?_
      refine g_iload (q := 3) hC dX11_dredged_42 rfl ?_
      refine g_callVJ (As := [vI x7]) hC mv_X11_partsDredged wml_RX11_403 (k_X11_partsDredged _ V hL x7 X) cf_X11 (at_0 hL) (by decide) ⟨Nat.zero_le _, Nat.zero_le _⟩ rfl rfl ⟨Nat.le_of_ble_eq_true rfl, Nat.le_of_ble_eq_true rfl⟩ (Nat.le_of_ble_eq_true rfl) dX11_dredged_44 (fun r10 X11 => ?_)
      refine g_lstore hC dX11_dredged_47 (by decide) rfl ?_
      refine g_iload (q := 2) hC dX11_dredged_49 rfl ?_
      refine g_iconst (v := vI (-1)) hC dX11_dredged_51 rfl ?_
      refine g_icmp_eq (tgt := 63) hC dX11_dredged_52 (by decide) ?_ ?_
      · refine g_sub [1, 4, 0] rfl ?_
        exact gB_X11_dredged_63 hC hR hL ih x7 r10 X11
      · refine g_lload (q := 0) hC dX11_dredged_55 rfl ?_
        refine g_lload (q := 3) hC dX11_dredged_57 rfl ?_
        refine g_lcmp_le (tgt := 71) hC dX11_dredged_59 rfl dX11_dredged_60 (by decide) ?_ ?_
        · refine g_sub [1, 2, 3, 4] rfl ?_
          exact gB_X11_dredged_71 hC hR hL ih x4 x5 x7 X11
        · refine g_sub [1, 4, 0] rfl ?_
          exact gB_X11_dredged_63 hC hR hL ih x7 r10 X11
set_option maxRecDepth 20000 in
theorem k_X11_dredged (l : Launch) (V : Ev) {L : List Kd} (hL : LKc L) (p1 : Int) (p2 : Int) (X : Mem)  : Kt l V L yX11_dredged (.code yX11_dredged cX11_dredged 10 (some .int)) 5 152 [vR V.1 0, vI p1, vI p2] rI X (f_X11_dredged p1 p2 X) := by
  refine kt_of (own := RX11) (lv0 := [(0, vR V.1 0), (1, vI p1), (2, vI p2)]) (by decide) rfl (Nat.le_of_ble_eq_true rfl) rfl (fun C hCl hC hR => ?_)
  subst hCl
  unfold f_X11_dredged
  refine g_aload_n (q := 0) hC dX11_dredged_0 rfl rfl rfl ?_
  refine g_iload_n (q := 1) hC dX11_dredged_1 rfl rfl ?_
  refine g_iload_n (q := 2) hC dX11_dredged_2 rfl rfl ?_
  refine g_callVI (As := [vI p1, vI p2]) hC mv_X11_choiceStatus wml_RX11_350 (k_X11_choiceStatus _ V hL p1 p2 X) cf_X11 (at_0 hL) (by decide) ⟨Nat.zero_le _, Nat.zero_le _⟩ rfl rfl ⟨Nat.le_of_ble_eq_true rfl, Nat.le_of_ble_eq_true rfl⟩ (Nat.le_of_ble_eq_true rfl) dX11_dredged_3 (fun r1 X2 => ?_)
  refine g_istore_n hC dX11_dredged_6 rfl (by decide) rfl ?_
  refine g_iload_n (q := 0) hC dX11_dredged_7 rfl rfl ?_
  refine g_if_eq (tgt := 17) hC dX11_dredged_8 (by decide) ?_ ?_
  · refine g_iconst (v := vI (-1)) hC dX11_dredged_17 rfl ?_
    refine g_istore hC dX11_dredged_18 (by decide) rfl ?_
    refine g_lconst (v := vJ 0) hC dX11_dredged_20 rfl ?_
    refine g_lstore hC dX11_dredged_21 (by decide) rfl ?_
    refine g_iconst (v := vI 0) hC dX11_dredged_23 rfl ?_
    refine g_istore hC dX11_dredged_24 (by decide) rfl ?_
    refine g_sub [4, 2, 1, 0] rfl ?_
    exact gL_X11_dredged_26 hC hR hL  KF ((-1)) 0 0 X2
  · refine g_aload_n (q := 1) hC dX11_dredged_11 rfl rfl rfl ?_
    refine g_iload_n (q := 0) hC dX11_dredged_12 rfl rfl ?_
    refine g_callVI (As := [vI r1]) hC mv_X11_fail wml_RX11_162 (k_X11_fail _ V hL r1 X2) cf_X11 (at_0 hL) (by decide) ⟨Nat.zero_le _, Nat.zero_le _⟩ rfl rfl ⟨Nat.le_of_ble_eq_true rfl, Nat.le_of_ble_eq_true rfl⟩ (Nat.le_of_ble_eq_true rfl) dX11_dredged_13 (fun r12 X13 => ?_)
    exact g_iret hC hR dX11_dredged_16
def B_X11_brush_49  (X : Mem) : Option (Int × Mem) :=
  cl (f_X11_refuse 1 X) fun r3 X4 =>
  cz r3 (some (r3, X4))
def B_X11_brush_177  (X : Mem) : Option (Int × Mem) :=
  cl (f_X1_bestOf 59 X) fun r16 X17 =>
  cl (f_X11_tellFraction r16 1000000 X17) fun r18 X19 =>
  cz r18 (some (r18, X19))
def L_X11_brush_143 : Nat → Int → Int → Int → Int → Mem → Option (Int × Mem)
  | 0, _, _, _, _, _ => none
  | n + 1, x3, x4, x5, x6, X =>
    c2 x6 x5 <| if x5 ≤ x6 then
      B_X11_brush_177   X
    else
      cm RIV (X 2 0) <|
      cl (f_X9_passDay (X 2 0) 59 x3 x4 X) fun _ X22 =>
      L_X11_brush_143   n x3 x4 x5 (x6 + 1) X22
def f_X11_brush (p1 : Int) (p2 : Int) (p3 : Int) (p4 : Int) (p5 : Int) (X : Mem) : Option (Int × Mem) :=
  cl (f_X11_isCell p1 X) fun r1 X2 =>
  c1 r1 <| if r1 = 0 then
    B_X11_brush_49   X2
  else
    cl (f_X11_isCell p2 X2) fun r5 X6 =>
    c1 r5 <| if r5 = 0 then
      B_X11_brush_49   X6
    else
      cl (f_X11_isBar p3 X6) fun r7 X8 =>
      c1 r7 <| if r7 = 0 then
        B_X11_brush_49   X8
      else
        c1 p4 <| if p4 < 0 then
          B_X11_brush_49   X8
        else
          c2 p4 16 <| if 16 < p4 then
            B_X11_brush_49   X8
          else
            c2 p5 1 <| if p5 < 1 then
              B_X11_brush_49   X8
            else
              c2 p5 9 <| if p5 ≤ 9 then
                c2 ((X8 2 3) + p5) 99 <| if ((X8 2 3) + p5) ≤ 99 then
                  cm RIV (X8 2 0) <|
                  cl (f_X1_look (X8 2 0) ((X8 2 3) + p5) (X8 2 4) X8) fun _ X11 =>
                  cl (f_X1_search p1 p2 X11) fun r12 X13 =>
                  c1 r12 <| if ¬ r12 = 0 then
                    cl (f_X11_copyParts 18 59 X13) fun _ X15 =>
                    L_X11_brush_143   KF p3 p4 p5 0 X15
                  else
                    cl (f_X11_refuse 6 X13) fun r23 X24 =>
                    cz r23 (some (r23, X24))
                else
                  cl (f_X11_refuse 4 X8) fun r25 X26 =>
                  cz r25 (some (r25, X26))
              else
                B_X11_brush_49   X8
set_option maxRecDepth 20000 in
theorem gB_X11_brush_49 {C : Cx} {V : Ev} {L : List Kd} (hC : Ok C V cX11_brush RX11 7 4 129) (hR : Rt C V L (some .boolean) rI) (hL : LKc L)  (X : Mem)  : G C V L 0 0 7 49 [(0, vR V.1 0)] [] X (B_X11_brush_49    X) := by
  unfold B_X11_brush_49
  refine g_aload_n (q := 0) hC dX11_brush_49 rfl rfl rfl ?_
  refine g_iconst (v := vI 1) hC dX11_brush_50 rfl ?_
  refine g_callVI (As := [vI 1]) hC mv_X11_refuse wml_RX11_140 (k_X11_refuse _ V hL 1 X) cf_X11 (at_0 hL) (by decide) ⟨Nat.zero_le _, Nat.zero_le _⟩ rfl rfl ⟨Nat.le_of_ble_eq_true rfl, Nat.le_of_ble_eq_true rfl⟩ (Nat.le_of_ble_eq_true rfl) dX11_brush_51 (fun r3 X4 => ?_)
  exact g_zret hC hR dX11_brush_54
set_option maxRecDepth 20000 in
theorem gB_X11_brush_177 {C : Cx} {V : Ev} {L : List Kd} (hC : Ok C V cX11_brush RX11 7 4 129) (hR : Rt C V L (some .boolean) rI) (hL : LKc L)  (X : Mem)  : G C V L 0 0 7 177 [(0, vR V.1 0)] [] X (B_X11_brush_177    X) := by
  unfold B_X11_brush_177
  refine g_aload_n (q := 0) hC dX11_brush_177 rfl rfl rfl ?_
  refine g_aload_n (q := 0) hC dX11_brush_178 rfl rfl rfl ?_
  refine g_getS (k := 9) hC cf_X11 (at_0 hL) (by decide) rfl (by decide) (by decide) wf_RX11_80 dX11_brush_179 ?_
  refine g_aload_n (q := 0) hC dX11_brush_182 rfl rfl rfl ?_
  refine g_getS (k := 12) hC cf_X11 (at_0 hL) (by decide) rfl (by decide) (by decide) wf_RX11_102 dX11_brush_183 ?_
  refine g_callVJ (As := [vR V.1 59]) hC mv_X1_bestOf wml_RX11_392 (k_X1_bestOf _ V hL 59 X (at_59 hL)) cf_X1 (at_42 hL) (by decide) ⟨Nat.zero_le _, Nat.zero_le _⟩ rfl rfl ⟨Nat.le_of_ble_eq_true rfl, Nat.le_of_ble_eq_true rfl⟩ (Nat.le_of_ble_eq_true rfl) dX11_brush_186 (fun r16 X17 => ?_)
  refine g_ldc2 (n := 1000000) hC wk_RX11_305 rfl dX11_brush_189 ?_
  refine g_callVI (As := [vJ r16, vJ 1000000]) hC mv_X11_tellFraction wml_RX11_307 (k_X11_tellFraction _ V hL r16 1000000 X17) cf_X11 (at_0 hL) (by decide) ⟨Nat.zero_le _, Nat.zero_le _⟩ rfl rfl ⟨Nat.le_of_ble_eq_true rfl, Nat.le_of_ble_eq_true rfl⟩ (Nat.le_of_ble_eq_true rfl) dX11_brush_192 (fun r18 X19 => ?_)
  exact g_zret hC hR dX11_brush_195
set_option maxRecDepth 20000 in
theorem gL_X11_brush_143 {C : Cx} {V : Ev} {L : List Kd} (hC : Ok C V cX11_brush RX11 7 4 129) (hR : Rt C V L (some .boolean) rI) (hL : LKc L) : ∀ (n : Nat) (x3 : Int) (x4 : Int) (x5 : Int) (x6 : Int) (X : Mem), G C V L 0 0 7 143 [(0, vR V.1 0), (3, vI x3), (4, vI x4), (5, vI x5), (6, vI x6)] [] X (L_X11_brush_143   n x3 x4 x5 x6 X) := by
  intro n
  induction n with
  | zero => intro x3 x4 x5 x6 X; exact g_none
  | succ n ih =>
    intro x3 x4 x5 x6 X
    rw [L_X11_brush_143]
    refine g_iload (q := 4) hC dX11_brush_143 rfl ?_
    refine g_iload (q := 3) hC dX11_brush_145 rfl ?_
    refine g_icmp_ge (tgt := 177) hC dX11_brush_147 (by decide) ?_ ?_
    · refine g_sub [0] rfl ?_
      exact gB_X11_brush_177 hC hR hL  X
    · refine g_aload_n (q := 0) hC dX11_brush_150 rfl rfl rfl ?_
      refine g_getS (k := 8) hC cf_X11 (at_0 hL) (by decide) rfl (by decide) (by decide) wf_RX11_71 dX11_brush_151 ?_
      refine g_aload_n (q := 0) hC dX11_brush_154 rfl rfl rfl ?_
      refine g_getS (k := 1) hC cf_X11 (at_0 hL) (by decide) rfl (by decide) (by decide) wf_RX11_18 dX11_brush_155 ?_
      refine g_getD (k := 0) (kz := 0) hC cf_X7 (at_2 hL) (by decide) rfl (by decide) rfl wf_RX11_58 dX11_brush_158 (g_cm (l := RIV) fun m20 => ?_)
      refine g_aload_n (q := 0) hC dX11_brush_161 rfl rfl rfl ?_
      refine g_getS (k := 12) hC cf_X11 (at_0 hL) (by decide) rfl (by decide) (by decide) wf_RX11_102 dX11_brush_162 ?_
      refine g_iload_n (q := 1) hC dX11_brush_165 rfl rfl ?_
      refine g_iload (q := 2) hC dX11_brush_166 rfl ?_
      refine g_callVV (As := [vR V.1 (X 2 0), vR V.1 59, vI x3, vI x4]) hC mv_X9_passDay wml_RX11_314 (k_X9_passDay _ V hL (X 2 0) 59 x3 x4 X (riv_of hL m20) (at_59 hL)) cf_X9 (at_40 hL) (by decide) ⟨Nat.zero_le _, Nat.zero_le _⟩ rfl rfl ⟨Nat.le_of_ble_eq_true rfl, Nat.le_of_ble_eq_true rfl⟩ (Nat.le_of_ble_eq_true rfl) dX11_brush_168 (fun _ X22 => ?_)
      refine g_iinc (q := 4) hC dX11_brush_171 rfl (by decide) rfl ?_
      refine g_goto (tgt := 143) hC dX11_brush_174 (by decide) ?_
      refine g_sub [1, 2, 3, 4, 0] rfl ?_
      exact ih x3 x4 x5 (x6 + 1) X22
set_option maxRecDepth 20000 in
theorem k_X11_brush (l : Launch) (V : Ev) {L : List Kd} (hL : LKc L) (p1 : Int) (p2 : Int) (p3 : Int) (p4 : Int) (p5 : Int) (X : Mem)  : Kt l V L yX11_brush (.code yX11_brush cX11_brush 7 (some .boolean)) 4 129 [vR V.1 0, vI p1, vI p2, vI p3, vI p4, vI p5] rI X (f_X11_brush p1 p2 p3 p4 p5 X) := by
  refine kt_of (own := RX11) (lv0 := [(0, vR V.1 0), (1, vI p1), (2, vI p2), (3, vI p3), (4, vI p4), (5, vI p5)]) (by decide) rfl (Nat.le_of_ble_eq_true rfl) rfl (fun C hCl hC hR => ?_)
  subst hCl
  unfold f_X11_brush
  refine g_aload_n (q := 0) hC dX11_brush_0 rfl rfl rfl ?_
  refine g_iload_n (q := 1) hC dX11_brush_1 rfl rfl ?_
  refine g_callVI (As := [vI p1]) hC mv_X11_isCell wml_RX11_278 (k_X11_isCell _ V hL p1 X) cf_X11 (at_0 hL) (by decide) ⟨Nat.zero_le _, Nat.zero_le _⟩ rfl rfl ⟨Nat.le_of_ble_eq_true rfl, Nat.le_of_ble_eq_true rfl⟩ (Nat.le_of_ble_eq_true rfl) dX11_brush_2 (fun r1 X2 => ?_)
  refine g_if_eq (tgt := 49) hC dX11_brush_5 (by decide) ?_ ?_
  · refine g_sub [0] rfl ?_
    exact gB_X11_brush_49 hC hR hL  X2
  · refine g_aload_n (q := 0) hC dX11_brush_8 rfl rfl rfl ?_
    refine g_iload_n (q := 2) hC dX11_brush_9 rfl rfl ?_
    refine g_callVI (As := [vI p2]) hC mv_X11_isCell wml_RX11_278 (k_X11_isCell _ V hL p2 X2) cf_X11 (at_0 hL) (by decide) ⟨Nat.zero_le _, Nat.zero_le _⟩ rfl rfl ⟨Nat.le_of_ble_eq_true rfl, Nat.le_of_ble_eq_true rfl⟩ (Nat.le_of_ble_eq_true rfl) dX11_brush_10 (fun r5 X6 => ?_)
    refine g_if_eq (tgt := 49) hC dX11_brush_13 (by decide) ?_ ?_
    · refine g_sub [0] rfl ?_
      exact gB_X11_brush_49 hC hR hL  X6
    · refine g_aload_n (q := 0) hC dX11_brush_16 rfl rfl rfl ?_
      refine g_iload_n (q := 3) hC dX11_brush_17 rfl rfl ?_
      refine g_callVI (As := [vI p3]) hC mv_X11_isBar wml_RX11_257 (k_X11_isBar _ V hL p3 X6) cf_X11 (at_0 hL) (by decide) ⟨Nat.zero_le _, Nat.zero_le _⟩ rfl rfl ⟨Nat.le_of_ble_eq_true rfl, Nat.le_of_ble_eq_true rfl⟩ (Nat.le_of_ble_eq_true rfl) dX11_brush_18 (fun r7 X8 => ?_)
      refine g_if_eq (tgt := 49) hC dX11_brush_21 (by decide) ?_ ?_
      · refine g_sub [0] rfl ?_
        exact gB_X11_brush_49 hC hR hL  X8
      · refine g_iload (q := 4) hC dX11_brush_24 rfl ?_
        refine g_if_lt (tgt := 49) hC dX11_brush_26 (by decide) ?_ ?_
        · refine g_sub [0] rfl ?_
          exact gB_X11_brush_49 hC hR hL  X8
        · refine g_iload (q := 4) hC dX11_brush_29 rfl ?_
          refine g_bipush (v := vI 16) hC dX11_brush_31 rfl ?_
          refine g_icmp_gt (tgt := 49) hC dX11_brush_33 (by decide) ?_ ?_
          · refine g_sub [0] rfl ?_
            exact gB_X11_brush_49 hC hR hL  X8
          · refine g_iload (q := 5) hC dX11_brush_36 rfl ?_
            refine g_iconst (v := vI 1) hC dX11_brush_38 rfl ?_
            refine g_icmp_lt (tgt := 49) hC dX11_brush_39 (by decide) ?_ ?_
            · refine g_sub [0] rfl ?_
              exact gB_X11_brush_49 hC hR hL  X8
            · refine g_iload (q := 5) hC dX11_brush_42 rfl ?_
              refine g_bipush (v := vI 9) hC dX11_brush_44 rfl ?_
              refine g_icmp_le (tgt := 55) hC dX11_brush_46 (by decide) ?_ ?_
              · refine g_aload_n (q := 0) hC dX11_brush_55 rfl rfl rfl ?_
                refine g_getS (k := 1) hC cf_X11 (at_0 hL) (by decide) rfl (by decide) (by decide) wf_RX11_18 dX11_brush_56 ?_
                refine g_getI (k := 3) (kz := 3) hC cf_X7 (at_2 hL) (by decide) rfl (by decide) rfl wf_RX11_227 dX11_brush_59 ?_
                refine g_iload (q := 5) hC dX11_brush_62 rfl ?_
                refine g_iadd hC dX11_brush_64 ?_
                refine g_bipush (v := vI 99) hC dX11_brush_65 rfl ?_
                refine g_icmp_le (tgt := 76) hC dX11_brush_67 (by decide) ?_ ?_
                · refine g_aload_n (q := 0) hC dX11_brush_76 rfl rfl rfl ?_
                  refine g_getS (k := 9) hC cf_X11 (at_0 hL) (by decide) rfl (by decide) (by decide) wf_RX11_80 dX11_brush_77 ?_
                  refine g_aload_n (q := 0) hC dX11_brush_80 rfl rfl rfl ?_
                  refine g_getS (k := 1) hC cf_X11 (at_0 hL) (by decide) rfl (by decide) (by decide) wf_RX11_18 dX11_brush_81 ?_
                  refine g_getD (k := 0) (kz := 0) hC cf_X7 (at_2 hL) (by decide) rfl (by decide) rfl wf_RX11_58 dX11_brush_84 (g_cm (l := RIV) fun m9 => ?_)
                  refine g_aload_n (q := 0) hC dX11_brush_87 rfl rfl rfl ?_
                  refine g_getS (k := 1) hC cf_X11 (at_0 hL) (by decide) rfl (by decide) (by decide) wf_RX11_18 dX11_brush_88 ?_
                  refine g_getI (k := 3) (kz := 3) hC cf_X7 (at_2 hL) (by decide) rfl (by decide) rfl wf_RX11_227 dX11_brush_91 ?_
                  refine g_iload (q := 5) hC dX11_brush_94 rfl ?_
                  refine g_iadd hC dX11_brush_96 ?_
                  refine g_aload_n (q := 0) hC dX11_brush_97 rfl rfl rfl ?_
                  refine g_getS (k := 1) hC cf_X11 (at_0 hL) (by decide) rfl (by decide) (by decide) wf_RX11_18 dX11_brush_98 ?_
                  refine g_getI (k := 4) (kz := 4) hC cf_X7 (at_2 hL) (by decide) rfl (by decide) rfl wf_RX11_230 dX11_brush_101 ?_
                  refine g_callVV (As := [vR V.1 (X8 2 0), vI ((X8 2 3) + p5), vI (X8 2 4)]) hC mv_X1_look wml_RX11_294 (k_X1_look _ V hL (X8 2 0) ((X8 2 3) + p5) (X8 2 4) X8 (riv_of hL m9)) cf_X1 (at_42 hL) (by decide) ⟨Nat.zero_le _, Nat.zero_le _⟩ rfl rfl ⟨Nat.le_of_ble_eq_true rfl, Nat.le_of_ble_eq_true rfl⟩ (Nat.le_of_ble_eq_true rfl) dX11_brush_104 (fun _ X11 => ?_)
                  refine g_aload_n (q := 0) hC dX11_brush_107 rfl rfl rfl ?_
                  refine g_getS (k := 9) hC cf_X11 (at_0 hL) (by decide) rfl (by decide) (by decide) wf_RX11_80 dX11_brush_108 ?_
                  refine g_iload_n (q := 1) hC dX11_brush_111 rfl rfl ?_
                  refine g_iload_n (q := 2) hC dX11_brush_112 rfl rfl ?_
                  refine g_callVI (As := [vI p1, vI p2]) hC mv_X1_search wml_RX11_340 (k_X1_search _ V hL p1 p2 X11) cf_X1 (at_42 hL) (by decide) ⟨Nat.zero_le _, Nat.zero_le _⟩ rfl rfl ⟨Nat.le_of_ble_eq_true rfl, Nat.le_of_ble_eq_true rfl⟩ (Nat.le_of_ble_eq_true rfl) dX11_brush_113 (fun r12 X13 => ?_)
                  refine g_if_ne (tgt := 126) hC dX11_brush_116 (by decide) ?_ ?_
                  · refine g_aload_n (q := 0) hC dX11_brush_126 rfl rfl rfl ?_
                    refine g_getS (k := 1) hC cf_X11 (at_0 hL) (by decide) rfl (by decide) (by decide) wf_RX11_18 dX11_brush_127 ?_
                    refine g_getS (k := 2) hC cf_X7 (at_2 hL) (by decide) rfl (by decide) (by decide) wf_RX11_129 dX11_brush_130 ?_
                    refine g_aload_n (q := 0) hC dX11_brush_133 rfl rfl rfl ?_
                    refine g_getS (k := 12) hC cf_X11 (at_0 hL) (by decide) rfl (by decide) (by decide) wf_RX11_102 dX11_brush_134 ?_
                    refine g_callSV (As := [vR V.1 18, vR V.1 59]) hC mt_X11_copyParts wml_RX11_388 (k_X11_copyParts _ V hL 18 59 X13 (at_18 hL) (at_59 hL)) ⟨Nat.zero_le _, Nat.zero_le _⟩ rfl rfl ⟨Nat.le_of_ble_eq_true rfl, Nat.le_of_ble_eq_true rfl⟩ (Nat.le_of_ble_eq_true rfl) dX11_brush_137 (fun _ X15 => ?_)
                    refine g_iconst (v := vI 0) hC dX11_brush_140 rfl ?_
                    refine g_istore hC dX11_brush_141 (by decide) rfl ?_
                    refine g_sub [1, 4, 5, 6, 0] rfl ?_
                    exact gL_X11_brush_143 hC hR hL  KF p3 p4 p5 0 X15
                  · refine g_aload_n (q := 0) hC dX11_brush_119 rfl rfl rfl ?_
                    refine g_bipush (v := vI 6) hC dX11_brush_120 rfl ?_
                    refine g_callVI (As := [vI 6]) hC mv_X11_refuse wml_RX11_140 (k_X11_refuse _ V hL 6 X13) cf_X11 (at_0 hL) (by decide) ⟨Nat.zero_le _, Nat.zero_le _⟩ rfl rfl ⟨Nat.le_of_ble_eq_true rfl, Nat.le_of_ble_eq_true rfl⟩ (Nat.le_of_ble_eq_true rfl) dX11_brush_122 (fun r23 X24 => ?_)
                    exact g_zret hC hR dX11_brush_125
                · refine g_aload_n (q := 0) hC dX11_brush_70 rfl rfl rfl ?_
                  refine g_iconst (v := vI 4) hC dX11_brush_71 rfl ?_
                  refine g_callVI (As := [vI 4]) hC mv_X11_refuse wml_RX11_140 (k_X11_refuse _ V hL 4 X8) cf_X11 (at_0 hL) (by decide) ⟨Nat.zero_le _, Nat.zero_le _⟩ rfl rfl ⟨Nat.le_of_ble_eq_true rfl, Nat.le_of_ble_eq_true rfl⟩ (Nat.le_of_ble_eq_true rfl) dX11_brush_72 (fun r25 X26 => ?_)
                  exact g_zret hC hR dX11_brush_75
              · refine g_sub [0] rfl ?_
                exact gB_X11_brush_49 hC hR hL  X8
def B_X11_lighten_27  (X : Mem) : Option (Int × Mem) :=
  cl (f_X11_fail 1 X) fun r3 X4 =>
  some (r3, X4)
def B_X11_lighten_127  (X : Mem) : Option (Int × Mem) :=
  cl (f_X11_fail 6 X) fun r8 X9 =>
  some (r8, X9)
def B_X11_lighten_121 (go36 : Int → Int → Int → Int → Mem → Option (Int × Mem)) (x1 : Int) (x2 : Int) (x3 : Int) (x4 : Int) (X : Mem) : Option (Int × Mem) :=
  go36 x1 x2 x3 (x4 + 1) X
def B_X11_lighten_114 (x4 : Int) (X : Mem) : Option (Int × Mem) :=
  cl (f_X11_answer x4 X) fun r17 X18 =>
  some (r17, X18)
def L_X11_lighten_36 : Nat → Int → Int → Int → Int → Mem → Option (Int × Mem)
  | 0, _, _, _, _, _ => none
  | n + 1, x1, x2, x3, x4, X =>
    cm RIV (X 2 0) <|
    c2 x4 (X (X 2 0) 4) <| if (X (X 2 0) 4) < x4 then
      B_X11_lighten_127   X
    else
      cm RIV (X 2 0) <|
      cl (f_X1_look (X 2 0) (X 2 3) x4 X) fun _ X12 =>
      cl (f_X1_search x1 x2 X12) fun r13 X14 =>
      c1 r13 <| if r13 = 0 then
        B_X11_lighten_121  (fun x1 x2 x3 x4 X => L_X11_lighten_36   n x1 x2 x3 x4 X) x1 x2 x3 x4 X14
      else
        cl (f_X1_bestOf 18 X14) fun r15 X16 =>
        c1 x3 <|
        d2 (r15 * 16) (x3 * 1000000) <| if (r15 * 16) < (x3 * 1000000) then
          B_X11_lighten_121  (fun x1 x2 x3 x4 X => L_X11_lighten_36   n x1 x2 x3 x4 X) x1 x2 x3 x4 X16
        else
          B_X11_lighten_114   x4 X16
def f_X11_lighten (p1 : Int) (p2 : Int) (p3 : Int) (X : Mem) : Option (Int × Mem) :=
  cl (f_X11_isCell p1 X) fun r1 X2 =>
  c1 r1 <| if r1 = 0 then
    B_X11_lighten_27   X2
  else
    cl (f_X11_isCell p2 X2) fun r5 X6 =>
    c1 r5 <| if r5 = 0 then
      B_X11_lighten_27   X6
    else
      c2 p3 1 <| if p3 < 1 then
        B_X11_lighten_27   X6
      else
        c2 p3 16 <| if p3 ≤ 16 then
          L_X11_lighten_36   KF p1 p2 p3 0 X6
        else
          B_X11_lighten_27   X6
set_option maxRecDepth 20000 in
theorem gB_X11_lighten_27 {C : Cx} {V : Ev} {L : List Kd} (hC : Ok C V cX11_lighten RX11 5 4 129) (hR : Rt C V L (some .int) rI) (hL : LKc L)  (X : Mem)  : G C V L 0 0 5 27 [(0, vR V.1 0)] [] X (B_X11_lighten_27    X) := by
  unfold B_X11_lighten_27
  refine g_aload_n (q := 0) hC dX11_lighten_27 rfl rfl rfl ?_
  refine g_iconst (v := vI 1) hC dX11_lighten_28 rfl ?_
  refine g_callVI (As := [vI 1]) hC mv_X11_fail wml_RX11_162 (k_X11_fail _ V hL 1 X) cf_X11 (at_0 hL) (by decide) ⟨Nat.zero_le _, Nat.zero_le _⟩ rfl rfl ⟨Nat.le_of_ble_eq_true rfl, Nat.le_of_ble_eq_true rfl⟩ (Nat.le_of_ble_eq_true rfl) dX11_lighten_29 (fun r3 X4 => ?_)
  exact g_iret hC hR dX11_lighten_32
set_option maxRecDepth 20000 in
theorem gB_X11_lighten_127 {C : Cx} {V : Ev} {L : List Kd} (hC : Ok C V cX11_lighten RX11 5 4 129) (hR : Rt C V L (some .int) rI) (hL : LKc L)  (X : Mem)  : G C V L 0 0 5 127 [(0, vR V.1 0)] [] X (B_X11_lighten_127    X) := by
  unfold B_X11_lighten_127
  refine g_aload_n (q := 0) hC dX11_lighten_127 rfl rfl rfl ?_
  refine g_bipush (v := vI 6) hC dX11_lighten_128 rfl ?_
  refine g_callVI (As := [vI 6]) hC mv_X11_fail wml_RX11_162 (k_X11_fail _ V hL 6 X) cf_X11 (at_0 hL) (by decide) ⟨Nat.zero_le _, Nat.zero_le _⟩ rfl rfl ⟨Nat.le_of_ble_eq_true rfl, Nat.le_of_ble_eq_true rfl⟩ (Nat.le_of_ble_eq_true rfl) dX11_lighten_130 (fun r8 X9 => ?_)
  exact g_iret hC hR dX11_lighten_133
set_option maxRecDepth 20000 in
theorem gB_X11_lighten_121 {C : Cx} {V : Ev} {L : List Kd} (hC : Ok C V cX11_lighten RX11 5 4 129) (hR : Rt C V L (some .int) rI) (hL : LKc L) {go36 : Int → Int → Int → Int → Mem → Option (Int × Mem)} (hgo36 : ∀ (x1 : Int) (x2 : Int) (x3 : Int) (x4 : Int) (X : Mem), G C V L 0 0 5 36 [(0, vR V.1 0), (1, vI x1), (2, vI x2), (3, vI x3), (4, vI x4)] [] X (go36 x1 x2 x3 x4 X)) (x1 : Int) (x2 : Int) (x3 : Int) (x4 : Int) (X : Mem)  : G C V L 0 0 5 121 [(0, vR V.1 0), (1, vI x1), (2, vI x2), (3, vI x3), (4, vI x4)] [] X (B_X11_lighten_121  go36 x1 x2 x3 x4 X) := by
  unfold B_X11_lighten_121
  refine g_iinc (q := 4) hC dX11_lighten_121 rfl (by decide) rfl ?_
  refine g_goto (tgt := 36) hC dX11_lighten_124 (by decide) ?_
  refine g_sub [1, 2, 3, 4, 0] rfl ?_
  exact hgo36 x1 x2 x3 (x4 + 1) X
set_option maxRecDepth 20000 in
theorem gB_X11_lighten_114 {C : Cx} {V : Ev} {L : List Kd} (hC : Ok C V cX11_lighten RX11 5 4 129) (hR : Rt C V L (some .int) rI) (hL : LKc L) (x4 : Int) (X : Mem)  : G C V L 0 0 5 114 [(0, vR V.1 0), (4, vI x4)] [] X (B_X11_lighten_114   x4 X) := by
  unfold B_X11_lighten_114
  refine g_aload_n (q := 0) hC dX11_lighten_114 rfl rfl rfl ?_
  refine g_iload (q := 1) hC dX11_lighten_115 rfl ?_
  refine g_callVI (As := [vI x4]) hC mv_X11_answer wml_RX11_200 (k_X11_answer _ V hL x4 X) cf_X11 (at_0 hL) (by decide) ⟨Nat.zero_le _, Nat.zero_le _⟩ rfl rfl ⟨Nat.le_of_ble_eq_true rfl, Nat.le_of_ble_eq_true rfl⟩ (Nat.le_of_ble_eq_true rfl) dX11_lighten_117 (fun r17 X18 => ?_)
  exact g_iret hC hR dX11_lighten_120
set_option maxRecDepth 20000 in
theorem gL_X11_lighten_36 {C : Cx} {V : Ev} {L : List Kd} (hC : Ok C V cX11_lighten RX11 5 4 129) (hR : Rt C V L (some .int) rI) (hL : LKc L) : ∀ (n : Nat) (x1 : Int) (x2 : Int) (x3 : Int) (x4 : Int) (X : Mem), G C V L 0 0 5 36 [(0, vR V.1 0), (1, vI x1), (2, vI x2), (3, vI x3), (4, vI x4)] [] X (L_X11_lighten_36   n x1 x2 x3 x4 X) := by
  intro n
  induction n with
  | zero => intro x1 x2 x3 x4 X; exact g_none
  | succ n ih =>
    intro x1 x2 x3 x4 X
    rw [L_X11_lighten_36]
    refine g_iload (q := 4) hC dX11_lighten_36 rfl ?_
    refine g_aload_n (q := 0) hC dX11_lighten_38 rfl rfl rfl ?_
    refine g_getS (k := 1) hC cf_X11 (at_0 hL) (by decide) rfl (by decide) (by decide) wf_RX11_18 dX11_lighten_39 ?_
    refine g_getD (k := 0) (kz := 0) hC cf_X7 (at_2 hL) (by decide) rfl (by decide) rfl wf_RX11_58 dX11_lighten_42 (g_cm (l := RIV) fun m7 => ?_)
    refine g_getI (k := 4) (kz := 4) hC cf_X2 (rv_0 (riv_of hL m7)) (by decide) rfl (by decide) rfl wf_RX11_236 dX11_lighten_45 ?_
    refine g_icmp_gt (tgt := 127) hC dX11_lighten_48 (by decide) ?_ ?_
    · refine g_sub [0] rfl ?_
      exact gB_X11_lighten_127 hC hR hL  X
    · refine g_aload_n (q := 0) hC dX11_lighten_51 rfl rfl rfl ?_
      refine g_getS (k := 9) hC cf_X11 (at_0 hL) (by decide) rfl (by decide) (by decide) wf_RX11_80 dX11_lighten_52 ?_
      refine g_aload_n (q := 0) hC dX11_lighten_55 rfl rfl rfl ?_
      refine g_getS (k := 1) hC cf_X11 (at_0 hL) (by decide) rfl (by decide) (by decide) wf_RX11_18 dX11_lighten_56 ?_
      refine g_getD (k := 0) (kz := 0) hC cf_X7 (at_2 hL) (by decide) rfl (by decide) rfl wf_RX11_58 dX11_lighten_59 (g_cm (l := RIV) fun m10 => ?_)
      refine g_aload_n (q := 0) hC dX11_lighten_62 rfl rfl rfl ?_
      refine g_getS (k := 1) hC cf_X11 (at_0 hL) (by decide) rfl (by decide) (by decide) wf_RX11_18 dX11_lighten_63 ?_
      refine g_getI (k := 3) (kz := 3) hC cf_X7 (at_2 hL) (by decide) rfl (by decide) rfl wf_RX11_227 dX11_lighten_66 ?_
      refine g_iload (q := 4) hC dX11_lighten_69 rfl ?_
      refine g_callVV (As := [vR V.1 (X 2 0), vI (X 2 3), vI x4]) hC mv_X1_look wml_RX11_294 (k_X1_look _ V hL (X 2 0) (X 2 3) x4 X (riv_of hL m10)) cf_X1 (at_42 hL) (by decide) ⟨Nat.zero_le _, Nat.zero_le _⟩ rfl rfl ⟨Nat.le_of_ble_eq_true rfl, Nat.le_of_ble_eq_true rfl⟩ (Nat.le_of_ble_eq_true rfl) dX11_lighten_71 (fun _ X12 => ?_)
      refine g_aload_n (q := 0) hC dX11_lighten_74 rfl rfl rfl ?_
      refine g_getS (k := 9) hC cf_X11 (at_0 hL) (by decide) rfl (by decide) (by decide) wf_RX11_80 dX11_lighten_75 ?_
      refine g_iload_n (q := 1) hC dX11_lighten_78 rfl rfl ?_
      refine g_iload_n (q := 2) hC dX11_lighten_79 rfl rfl ?_
      refine g_callVI (As := [vI x1, vI x2]) hC mv_X1_search wml_RX11_340 (k_X1_search _ V hL x1 x2 X12) cf_X1 (at_42 hL) (by decide) ⟨Nat.zero_le _, Nat.zero_le _⟩ rfl rfl ⟨Nat.le_of_ble_eq_true rfl, Nat.le_of_ble_eq_true rfl⟩ (Nat.le_of_ble_eq_true rfl) dX11_lighten_80 (fun r13 X14 => ?_)
      refine g_if_eq (tgt := 121) hC dX11_lighten_83 (by decide) ?_ ?_
      · exact gB_X11_lighten_121 hC hR hL ih x1 x2 x3 x4 X14
      · refine g_aload_n (q := 0) hC dX11_lighten_86 rfl rfl rfl ?_
        refine g_getS (k := 9) hC cf_X11 (at_0 hL) (by decide) rfl (by decide) (by decide) wf_RX11_80 dX11_lighten_87 ?_
        refine g_aload_n (q := 0) hC dX11_lighten_90 rfl rfl rfl ?_
        refine g_getS (k := 1) hC cf_X11 (at_0 hL) (by decide) rfl (by decide) (by decide) wf_RX11_18 dX11_lighten_91 ?_
        refine g_getS (k := 2) hC cf_X7 (at_2 hL) (by decide) rfl (by decide) (by decide) wf_RX11_129 dX11_lighten_94 ?_
        refine g_callVJ (As := [vR V.1 18]) hC mv_X1_bestOf wml_RX11_392 (k_X1_bestOf _ V hL 18 X14 (at_18 hL)) cf_X1 (at_42 hL) (by decide) ⟨Nat.zero_le _, Nat.zero_le _⟩ rfl rfl ⟨Nat.le_of_ble_eq_true rfl, Nat.le_of_ble_eq_true rfl⟩ (Nat.le_of_ble_eq_true rfl) dX11_lighten_97 (fun r15 X16 => ?_)
        refine g_ldc2 (n := 16) hC wk_RX11_406 rfl dX11_lighten_100 ?_
        refine g_lmul hC dX11_lighten_103 ?_
        refine g_iload_n (q := 3) hC dX11_lighten_104 rfl rfl ?_
        refine g_i2l hC dX11_lighten_105 ?_
        refine g_ldc2 (n := 1000000) hC wk_RX11_305 rfl dX11_lighten_106 ?_
        refine g_lmul hC dX11_lighten_109 ?_
        refine g_lcmp_lt (tgt := 121) hC dX11_lighten_110 rfl dX11_lighten_111 (by decide) ?_ ?_
        · exact gB_X11_lighten_121 hC hR hL ih x1 x2 x3 x4 X16
        · refine g_sub [0, 4] rfl ?_
          exact gB_X11_lighten_114 hC hR hL  x4 X16
set_option maxRecDepth 20000 in
theorem k_X11_lighten (l : Launch) (V : Ev) {L : List Kd} (hL : LKc L) (p1 : Int) (p2 : Int) (p3 : Int) (X : Mem)  : Kt l V L yX11_lighten (.code yX11_lighten cX11_lighten 5 (some .int)) 4 129 [vR V.1 0, vI p1, vI p2, vI p3] rI X (f_X11_lighten p1 p2 p3 X) := by
  refine kt_of (own := RX11) (lv0 := [(0, vR V.1 0), (1, vI p1), (2, vI p2), (3, vI p3)]) (by decide) rfl (Nat.le_of_ble_eq_true rfl) rfl (fun C hCl hC hR => ?_)
  subst hCl
  unfold f_X11_lighten
  refine g_aload_n (q := 0) hC dX11_lighten_0 rfl rfl rfl ?_
  refine g_iload_n (q := 1) hC dX11_lighten_1 rfl rfl ?_
  refine g_callVI (As := [vI p1]) hC mv_X11_isCell wml_RX11_278 (k_X11_isCell _ V hL p1 X) cf_X11 (at_0 hL) (by decide) ⟨Nat.zero_le _, Nat.zero_le _⟩ rfl rfl ⟨Nat.le_of_ble_eq_true rfl, Nat.le_of_ble_eq_true rfl⟩ (Nat.le_of_ble_eq_true rfl) dX11_lighten_2 (fun r1 X2 => ?_)
  refine g_if_eq (tgt := 27) hC dX11_lighten_5 (by decide) ?_ ?_
  · refine g_sub [0] rfl ?_
    exact gB_X11_lighten_27 hC hR hL  X2
  · refine g_aload_n (q := 0) hC dX11_lighten_8 rfl rfl rfl ?_
    refine g_iload_n (q := 2) hC dX11_lighten_9 rfl rfl ?_
    refine g_callVI (As := [vI p2]) hC mv_X11_isCell wml_RX11_278 (k_X11_isCell _ V hL p2 X2) cf_X11 (at_0 hL) (by decide) ⟨Nat.zero_le _, Nat.zero_le _⟩ rfl rfl ⟨Nat.le_of_ble_eq_true rfl, Nat.le_of_ble_eq_true rfl⟩ (Nat.le_of_ble_eq_true rfl) dX11_lighten_10 (fun r5 X6 => ?_)
    refine g_if_eq (tgt := 27) hC dX11_lighten_13 (by decide) ?_ ?_
    · refine g_sub [0] rfl ?_
      exact gB_X11_lighten_27 hC hR hL  X6
    · refine g_iload_n (q := 3) hC dX11_lighten_16 rfl rfl ?_
      refine g_iconst (v := vI 1) hC dX11_lighten_17 rfl ?_
      refine g_icmp_lt (tgt := 27) hC dX11_lighten_18 (by decide) ?_ ?_
      · refine g_sub [0] rfl ?_
        exact gB_X11_lighten_27 hC hR hL  X6
      · refine g_iload_n (q := 3) hC dX11_lighten_21 rfl rfl ?_
        refine g_bipush (v := vI 16) hC dX11_lighten_22 rfl ?_
        refine g_icmp_le (tgt := 33) hC dX11_lighten_24 (by decide) ?_ ?_
        · refine g_iconst (v := vI 0) hC dX11_lighten_33 rfl ?_
          refine g_istore hC dX11_lighten_34 (by decide) rfl ?_
          refine g_sub [1, 2, 3, 4, 0] rfl ?_
          exact gL_X11_lighten_36 hC hR hL  KF p1 p2 p3 0 X6
        · refine g_sub [0] rfl ?_
          exact gB_X11_lighten_27 hC hR hL  X6
def f_X0_draw (p1 : Int) (X : Mem) : Option (Int × Mem) :=
  cd (((X 55 11) * 3541) + 8713) 65536 <|
  bd (ms X 55 11 ((((X 55 11) * 3541) + 8713) % 65536)) fun X1 =>
  cd (X1 55 11) 8 <|
  c2 1 p1 <|
  cd ((X1 55 11) / 8) (max 1 p1) <|
  some (((X1 55 11) / 8) % (max 1 p1), X1)
set_option maxRecDepth 20000 in
theorem k_X0_draw (l : Launch) (V : Ev) {L : List Kd} (hL : LKc L) (p1 : Int) (X : Mem)  : Kt l V L yX0_draw (.code yX0_draw cX0_draw 2 (some .int)) 1 21 [vR V.1 55, vI p1] rI X (f_X0_draw p1 X) := by
  refine kt_of (own := RX0) (lv0 := [(0, vR V.1 55), (1, vI p1)]) (by decide) rfl (Nat.le_of_ble_eq_true rfl) rfl (fun C hCl hC hR => ?_)
  subst hCl
  unfold f_X0_draw
  refine g_aload_n (q := 0) hC dX0_draw_0 rfl rfl rfl ?_
  refine g_aload_n (q := 0) hC dX0_draw_1 rfl rfl rfl ?_
  refine g_getI (k := 11) (kz := 11) hC cf_X0 (at_55 hL) (by decide) rfl (by decide) rfl wf_RX0_35 dX0_draw_2 ?_
  refine g_sipush (v := vI 3541) hC dX0_draw_5 rfl ?_
  refine g_imul hC dX0_draw_8 ?_
  refine g_sipush (v := vI 8713) hC dX0_draw_9 rfl ?_
  refine g_iadd hC dX0_draw_12 ?_
  refine g_ldc (n := 65536) hC wk_RX0_75 rfl dX0_draw_13 ?_
  refine g_irem hC dX0_draw_15 ?_
  refine g_putI (k := 11) (kz := 11) hC cf_X0 (at_55 hL) (by decide) rfl (by decide) rfl wf_RX0_35 rfl rfl dX0_draw_16 (fun X1 => ?_)
  refine g_aload_n (q := 0) hC dX0_draw_19 rfl rfl rfl ?_
  refine g_getI (k := 11) (kz := 11) hC cf_X0 (at_55 hL) (by decide) rfl (by decide) rfl wf_RX0_35 dX0_draw_20 ?_
  refine g_bipush (v := vI 8) hC dX0_draw_23 rfl ?_
  refine g_idiv hC dX0_draw_25 ?_
  refine g_iconst (v := vI 1) hC dX0_draw_26 rfl ?_
  refine g_iload_n (q := 1) hC dX0_draw_27 rfl rfl ?_
  refine g_mmax hC wml_RX0_76 (Nat.le_of_ble_eq_true rfl) (Nat.le_of_ble_eq_true rfl) ⟨Nat.zero_le _, Nat.zero_le _⟩ dX0_draw_28 ?_
  refine g_irem hC dX0_draw_31 ?_
  exact g_iret hC hR dX0_draw_32
def L_X0_drawTruth_24 : Nat → Int → Int → Int → Int → Mem → Option (Int × Mem)
  | 0, _, _, _, _, _ => none
  | n + 1, x1, x2, x4, x5, X =>
    c2 x5 x4 <| if x4 ≤ x5 then
      some (x4, X)
    else
      ax 32 x5 <|
      bd (x2 + (X 57 x5)) fun v7 =>
      dd v7 1000 <|
      c1 x1 <|
      d2 (v7 / 1000) x1 <| if (v7 / 1000) ≤ x1 then
        L_X0_drawTruth_24   n x1 v7 x4 (x5 + 1) X
      else
        some (x5, X)
def f_X0_drawTruth  (X : Mem) : Option (Int × Mem) :=
  cl (f_X0_draw 1000 X) fun r1 X2 =>
  cm RIV (X2 55 5) <|
  cl (f_X2_setCount (X2 55 5) X2) fun r4 X5 =>
  bd (r4 - 1) fun v6 =>
  L_X0_drawTruth_24   KF r1 0 v6 0 X5
set_option maxRecDepth 20000 in
theorem gL_X0_drawTruth_24 {C : Cx} {V : Ev} {L : List Kd} (hC : Ok C V cX0_drawTruth RX0 6 2 42) (hR : Rt C V L (some .int) rI) (hL : LKc L) : ∀ (n : Nat) (x1 : Int) (x2 : Int) (x4 : Int) (x5 : Int) (X : Mem), G C V L 0 0 6 24 [(0, vR V.1 55), (1, vI x1), (2, vJ x2), (4, vI x4), (5, vI x5)] [] X (L_X0_drawTruth_24   n x1 x2 x4 x5 X) := by
  intro n
  induction n with
  | zero => intro x1 x2 x4 x5 X; exact g_none
  | succ n ih =>
    intro x1 x2 x4 x5 X
    rw [L_X0_drawTruth_24]
    refine g_iload (q := 4) hC dX0_drawTruth_24 rfl ?_
    refine g_iload (q := 3) hC dX0_drawTruth_26 rfl ?_
    refine g_icmp_ge (tgt := 61) hC dX0_drawTruth_28 (by decide) ?_ ?_
    · refine g_iload (q := 3) hC dX0_drawTruth_61 rfl ?_
      exact g_iret hC hR dX0_drawTruth_63
    · refine g_lload_n (q := 2) hC dX0_drawTruth_31 rfl rfl ?_
      refine g_aload_n (q := 0) hC dX0_drawTruth_32 rfl rfl rfl ?_
      refine g_getS (k := 3) hC cf_X0 (at_55 hL) (by decide) rfl (by decide) (by decide) wf_RX0_15 dX0_drawTruth_33 ?_
      refine g_iload (q := 4) hC dX0_drawTruth_36 rfl ?_
      refine g_lald hC (at_57 hL) (by decide) dX0_drawTruth_38 ?_
      refine g_ladd hC dX0_drawTruth_39 ?_
      refine g_topJ (fun v7 => ?_)
      refine g_lstore_n hC dX0_drawTruth_40 rfl (by decide) rfl ?_
      refine g_lload_n (q := 0) hC dX0_drawTruth_41 rfl rfl ?_
      refine g_ldc2 (n := 1000) hC wk_RX0_91 rfl dX0_drawTruth_42 ?_
      refine g_ldiv hC dX0_drawTruth_45 ?_
      refine g_iload_n (q := 2) hC dX0_drawTruth_46 rfl rfl ?_
      refine g_i2l hC dX0_drawTruth_47 ?_
      refine g_lcmp_le (tgt := 55) hC dX0_drawTruth_48 rfl dX0_drawTruth_49 (by decide) ?_ ?_
      · refine g_iinc (q := 4) hC dX0_drawTruth_55 rfl (by decide) rfl ?_
        refine g_goto (tgt := 24) hC dX0_drawTruth_58 (by decide) ?_
        refine g_sub [2, 3, 1, 4, 0] rfl ?_
        exact ih x1 v7 x4 (x5 + 1) X
      · refine g_iload (q := 4) hC dX0_drawTruth_52 rfl ?_
        exact g_iret hC hR dX0_drawTruth_54
set_option maxRecDepth 20000 in
theorem k_X0_drawTruth (l : Launch) (V : Ev) {L : List Kd} (hL : LKc L)  (X : Mem)  : Kt l V L yX0_drawTruth (.code yX0_drawTruth cX0_drawTruth 6 (some .int)) 2 42 [vR V.1 55] rI X (f_X0_drawTruth  X) := by
  refine kt_of (own := RX0) (lv0 := [(0, vR V.1 55)]) (by decide) rfl (Nat.le_of_ble_eq_true rfl) rfl (fun C hCl hC hR => ?_)
  subst hCl
  unfold f_X0_drawTruth
  refine g_aload_n (q := 0) hC dX0_drawTruth_0 rfl rfl rfl ?_
  refine g_sipush (v := vI 1000) hC dX0_drawTruth_1 rfl ?_
  refine g_callVI (As := [vI 1000]) hC mv_X0_draw wml_RX0_82 (k_X0_draw _ V hL 1000 X) cf_X0 (at_55 hL) (by decide) ⟨Nat.zero_le _, Nat.zero_le _⟩ rfl rfl ⟨Nat.le_of_ble_eq_true rfl, Nat.le_of_ble_eq_true rfl⟩ (Nat.le_of_ble_eq_true rfl) dX0_drawTruth_4 (fun r1 X2 => ?_)
  refine g_istore_n hC dX0_drawTruth_7 rfl (by decide) rfl ?_
  refine g_lconst (v := vJ 0) hC dX0_drawTruth_8 rfl ?_
  refine g_lstore_n hC dX0_drawTruth_9 rfl (by decide) rfl ?_
  refine g_aload_n (q := 2) hC dX0_drawTruth_10 rfl rfl rfl ?_
  refine g_getD (k := 5) (kz := 5) hC cf_X0 (at_55 hL) (by decide) rfl (by decide) rfl wf_RX0_52 dX0_drawTruth_11 (g_cm (l := RIV) fun m3 => ?_)
  refine g_callVI (As := []) hC mv_X2_setCount wml_RX0_86 (k_X2_setCount _ V (X2 55 5) X2 (riv_of hL m3)) cf_X2 (rv_0 (riv_of hL m3)) (by decide) ⟨Nat.zero_le _, Nat.zero_le _⟩ rfl rfl ⟨Nat.le_of_ble_eq_true rfl, Nat.le_of_ble_eq_true rfl⟩ (Nat.le_of_ble_eq_true rfl) dX0_drawTruth_14 (fun r4 X5 => ?_)
  refine g_iconst (v := vI 1) hC dX0_drawTruth_17 rfl ?_
  refine g_isub hC dX0_drawTruth_18 ?_
  refine g_topI (fun v6 => ?_)
  refine g_istore hC dX0_drawTruth_19 (by decide) rfl ?_
  refine g_iconst (v := vI 0) hC dX0_drawTruth_21 rfl ?_
  refine g_istore hC dX0_drawTruth_22 (by decide) rfl ?_
  refine g_sub [4, 3, 2, 1, 0] rfl ?_
  exact gL_X0_drawTruth_24 hC hR hL  KF r1 0 v6 0 X5
def f_X0_begin (p1 : Int) (p2 : Int) (p3 : Int) (p4 : Int) (X : Mem) : Option (Int × Mem) :=
  cm RIV (X p1 0) <|
  bd (ms X 55 5 (X p1 0)) fun X2 =>
  cm RUL (X2 p1 1) <|
  bd (ms X2 55 6 (X2 p1 1)) fun X4 =>
  bd (ms X4 55 7 p2) fun X5 =>
  bd (ms X5 55 8 p3) fun X6 =>
  bd (ms X6 55 9 (X6 p1 3)) fun X7 =>
  bd (ms X7 55 10 (X7 p1 4)) fun X8 =>
  bd (ms X8 55 11 p4) fun X9 =>
  cl (f_X11_copyParts (p1 + 16) 57 X9) fun _ X11 =>
  cl (f_J7_fill_53178 56 7 0 X11) fun _ X13 =>
  ax 7 5 <| bd (ms X13 56 5 ((-1))) fun X14 =>
  cl (f_X0_drawTruth X14) fun r15 X16 =>
  ax 7 4 <| bd (ms X16 56 4 r15) fun X17 =>
  some (0, X17)
set_option maxRecDepth 20000 in
theorem k_X0_begin (l : Launch) (V : Ev) {L : List Kd} (hL : LKc L) (p1 : Int) (p2 : Int) (p3 : Int) (p4 : Int) (X : Mem) (h1 : isState L p1) : Kt l V L yX0_begin (.code yX0_begin cX0_begin 5 none) 3 81 [vR V.1 55, vR V.1 p1, vI p2, vI p3, vI p4] rV X (f_X0_begin p1 p2 p3 p4 X) := by
  refine kt_of (own := RX0) (lv0 := [(0, vR V.1 55), (1, vR V.1 p1), (2, vI p2), (3, vI p3), (4, vI p4)]) (by decide) rfl (Nat.le_of_ble_eq_true rfl) rfl (fun C hCl hC hR => ?_)
  subst hCl
  unfold f_X0_begin
  refine g_aload_n (q := 0) hC dX0_begin_0 rfl rfl rfl ?_
  refine g_aload_n (q := 1) hC dX0_begin_1 rfl rfl rfl ?_
  refine g_getD (k := 0) (kz := 0) hC cf_X7 (sa_0 h1) (by decide) rfl (by decide) rfl wf_RX0_46 dX0_begin_2 (g_cm (l := RIV) fun m1 => ?_)
  refine g_putD (k := 5) (kz := 5) hC cf_X0 (at_55 hL) (by decide) rfl (by decide) rfl wf_RX0_52 rfl rfl dX0_begin_5 (fun X2 => ?_)
  refine g_aload_n (q := 0) hC dX0_begin_8 rfl rfl rfl ?_
  refine g_aload_n (q := 1) hC dX0_begin_9 rfl rfl rfl ?_
  refine g_getD (k := 1) (kz := 1) hC cf_X7 (sa_0 h1) (by decide) rfl (by decide) rfl wf_RX0_53 dX0_begin_10 (g_cm (l := RUL) fun m3 => ?_)
  refine g_putD (k := 6) (kz := 6) hC cf_X0 (at_55 hL) (by decide) rfl (by decide) rfl wf_RX0_57 rfl rfl dX0_begin_13 (fun X4 => ?_)
  refine g_aload_n (q := 0) hC dX0_begin_16 rfl rfl rfl ?_
  refine g_iload_n (q := 2) hC dX0_begin_17 rfl rfl ?_
  refine g_putI (k := 7) (kz := 7) hC cf_X0 (at_55 hL) (by decide) rfl (by decide) rfl wf_RX0_22 rfl rfl dX0_begin_18 (fun X5 => ?_)
  refine g_aload_n (q := 0) hC dX0_begin_21 rfl rfl rfl ?_
  refine g_iload_n (q := 3) hC dX0_begin_22 rfl rfl ?_
  refine g_putI (k := 8) (kz := 8) hC cf_X0 (at_55 hL) (by decide) rfl (by decide) rfl wf_RX0_26 rfl rfl dX0_begin_23 (fun X6 => ?_)
  refine g_aload_n (q := 0) hC dX0_begin_26 rfl rfl rfl ?_
  refine g_aload_n (q := 1) hC dX0_begin_27 rfl rfl rfl ?_
  refine g_getI (k := 3) (kz := 3) hC cf_X7 (sa_0 h1) (by decide) rfl (by decide) rfl wf_RX0_58 dX0_begin_28 ?_
  refine g_putI (k := 9) (kz := 9) hC cf_X0 (at_55 hL) (by decide) rfl (by decide) rfl wf_RX0_29 rfl rfl dX0_begin_31 (fun X7 => ?_)
  refine g_aload_n (q := 0) hC dX0_begin_34 rfl rfl rfl ?_
  refine g_aload_n (q := 1) hC dX0_begin_35 rfl rfl rfl ?_
  refine g_getI (k := 4) (kz := 4) hC cf_X7 (sa_0 h1) (by decide) rfl (by decide) rfl wf_RX0_59 dX0_begin_36 ?_
  refine g_putI (k := 10) (kz := 10) hC cf_X0 (at_55 hL) (by decide) rfl (by decide) rfl wf_RX0_32 rfl rfl dX0_begin_39 (fun X8 => ?_)
  refine g_aload_n (q := 0) hC dX0_begin_42 rfl rfl rfl ?_
  refine g_iload (q := 4) hC dX0_begin_43 rfl ?_
  refine g_putI (k := 11) (kz := 11) hC cf_X0 (at_55 hL) (by decide) rfl (by decide) rfl wf_RX0_35 rfl rfl dX0_begin_45 (fun X9 => ?_)
  refine g_aload_n (q := 1) hC dX0_begin_48 rfl rfl rfl ?_
  refine g_getS (k := 2) hC cf_X7 (sa_0 h1) (by decide) rfl (add_nn (sa_0 h1)) (by decide) wf_RX0_60 dX0_begin_49 ?_
  refine g_aload_n (q := 0) hC dX0_begin_52 rfl rfl rfl ?_
  refine g_getS (k := 3) hC cf_X0 (at_55 hL) (by decide) rfl (by decide) (by decide) wf_RX0_15 dX0_begin_53 ?_
  refine g_callSNV (As := [vR V.1 (p1 + 16), vR V.1 57]) hC mt_X11_copyParts nl_10 (k_X11_copyParts _ V hL (p1 + 16) 57 X9 (sa_16 h1) (at_57 hL)) ⟨Nat.zero_le _, Nat.zero_le _⟩ rfl rfl ⟨Nat.le_of_ble_eq_true rfl, Nat.le_of_ble_eq_true rfl⟩ (Nat.le_of_ble_eq_true rfl) dX0_begin_56 (fun _ X11 => ?_)
  refine g_aload_n (q := 0) hC dX0_begin_59 rfl rfl rfl ?_
  refine g_getS (k := 2) hC cf_X0 (at_55 hL) (by decide) rfl (by decide) (by decide) wf_RX0_11 dX0_begin_60 ?_
  refine g_iconst (v := vI 0) hC dX0_begin_63 rfl ?_
  refine g_callSV (As := [vR V.1 56, vI 0]) hC mt_J7_fill_53178 wml_RX0_65 (k_J7_fill_53178 _ V 56 7 0 X11 (by decide) (at_56 hL)) ⟨Nat.zero_le _, Nat.zero_le _⟩ rfl rfl ⟨Nat.le_of_ble_eq_true rfl, Nat.le_of_ble_eq_true rfl⟩ (Nat.le_of_ble_eq_true rfl) dX0_begin_64 (fun _ X13 => ?_)
  refine g_aload_n (q := 0) hC dX0_begin_67 rfl rfl rfl ?_
  refine g_getS (k := 2) hC cf_X0 (at_55 hL) (by decide) rfl (by decide) (by decide) wf_RX0_11 dX0_begin_68 ?_
  refine g_iconst (v := vI 5) hC dX0_begin_71 rfl ?_
  refine g_iconst (v := vI (-1)) hC dX0_begin_72 rfl ?_
  refine g_iast hC (at_56 hL) (by decide) dX0_begin_73 (fun X14 => ?_)
  refine g_aload_n (q := 0) hC dX0_begin_74 rfl rfl rfl ?_
  refine g_getS (k := 2) hC cf_X0 (at_55 hL) (by decide) rfl (by decide) (by decide) wf_RX0_11 dX0_begin_75 ?_
  refine g_iconst (v := vI 4) hC dX0_begin_78 rfl ?_
  refine g_aload_n (q := 0) hC dX0_begin_79 rfl rfl rfl ?_
  refine g_callVI (As := []) hC mv_X0_drawTruth wml_RX0_71 (k_X0_drawTruth _ V hL X14) cf_X0 (at_55 hL) (by decide) ⟨Nat.zero_le _, Nat.zero_le _⟩ rfl rfl ⟨Nat.le_of_ble_eq_true rfl, Nat.le_of_ble_eq_true rfl⟩ (Nat.le_of_ble_eq_true rfl) dX0_begin_80 (fun r15 X16 => ?_)
  refine g_iast hC (at_56 hL) (by decide) dX0_begin_83 (fun X17 => ?_)
  exact g_vret hC hR dX0_begin_84
def B_X0_lineBehindEnd_56 (x1 : Int) (X : Mem) : Option (Int × Mem) :=
  some (x1 + 1, X)
def f_X0_lineBehindEnd (p1 : Int) (X : Mem) : Option (Int × Mem) :=
  cm RUL (X 55 6) <|
  ax 60 p1 <|
  bd (X ((X 55 6) + 4) p1) fun v2 =>
  c1 v2 <| if v2 < 0 then
    B_X0_lineBehindEnd_56   p1 X
  else
    c2 v2 p1 <| if p1 ≤ v2 then
      B_X0_lineBehindEnd_56   p1 X
    else
      cm RUL (X 55 6) <|
      ax 60 v2 <|
      c2 (X ((X 55 6) + 1) v2) 6 <| if ¬ (X ((X 55 6) + 1) v2) = 6 then
        B_X0_lineBehindEnd_56   p1 X
      else
        ax 60 v2 <|
        ax 60 v2 <| bd (ms X 58 v2 ((X 58 v2) - 1)) fun X4 =>
        ax 60 v2 <|
        c1 (X4 58 v2) <| if (X4 58 v2) ≤ 0 then
          B_X0_lineBehindEnd_56   p1 X4
        else
          some (v2 + 1, X4)
set_option maxRecDepth 20000 in
theorem gB_X0_lineBehindEnd_56 {C : Cx} {V : Ev} {L : List Kd} (hC : Ok C V cX0_lineBehindEnd RX0 3 0 0) (hR : Rt C V L (some .int) rI) (hL : LKc L) (x1 : Int) (X : Mem)  : G C V L 0 0 3 56 [(1, vI x1)] [] X (B_X0_lineBehindEnd_56   x1 X) := by
  unfold B_X0_lineBehindEnd_56
  refine g_iload_n (q := 0) hC dX0_lineBehindEnd_56 rfl rfl ?_
  refine g_iconst (v := vI 1) hC dX0_lineBehindEnd_57 rfl ?_
  refine g_iadd hC dX0_lineBehindEnd_58 ?_
  exact g_iret hC hR dX0_lineBehindEnd_59
set_option maxRecDepth 20000 in
theorem k_X0_lineBehindEnd (l : Launch) (V : Ev) {L : List Kd} (hL : LKc L) (p1 : Int) (X : Mem)  : Kt l V L yX0_lineBehindEnd (.code yX0_lineBehindEnd cX0_lineBehindEnd 3 (some .int)) 0 0 [vR V.1 55, vI p1] rI X (f_X0_lineBehindEnd p1 X) := by
  refine kt_of (own := RX0) (lv0 := [(0, vR V.1 55), (1, vI p1)]) (by decide) rfl (Nat.le_of_ble_eq_true rfl) rfl (fun C hCl hC hR => ?_)
  subst hCl
  unfold f_X0_lineBehindEnd
  refine g_aload_n (q := 0) hC dX0_lineBehindEnd_0 rfl rfl rfl ?_
  refine g_getD (k := 6) (kz := 6) hC cf_X0 (at_55 hL) (by decide) rfl (by decide) rfl wf_RX0_57 dX0_lineBehindEnd_1 (g_cm (l := RUL) fun m1 => ?_)
  refine g_getS (k := 5) hC cf_X4 (ru_0 (rul_of hL m1)) (by decide) rfl (add_nn (ru_0 (rul_of hL m1))) (by decide) wf_RX0_111 dX0_lineBehindEnd_4 ?_
  refine g_iload_n (q := 1) hC dX0_lineBehindEnd_7 rfl rfl ?_
  refine g_iald hC (ru_4 (rul_of hL m1)) (by decide) dX0_lineBehindEnd_8 ?_
  refine g_topI (fun v2 => ?_)
  refine g_istore_n hC dX0_lineBehindEnd_9 rfl (by decide) rfl ?_
  refine g_iload_n (q := 0) hC dX0_lineBehindEnd_10 rfl rfl ?_
  refine g_if_lt (tgt := 56) hC dX0_lineBehindEnd_11 (by decide) ?_ ?_
  · refine g_sub [2] rfl ?_
    exact gB_X0_lineBehindEnd_56 hC hR hL  p1 X
  · refine g_iload_n (q := 0) hC dX0_lineBehindEnd_14 rfl rfl ?_
    refine g_iload_n (q := 2) hC dX0_lineBehindEnd_15 rfl rfl ?_
    refine g_icmp_ge (tgt := 56) hC dX0_lineBehindEnd_16 (by decide) ?_ ?_
    · refine g_sub [2] rfl ?_
      exact gB_X0_lineBehindEnd_56 hC hR hL  p1 X
    · refine g_aload_n (q := 1) hC dX0_lineBehindEnd_19 rfl rfl rfl ?_
      refine g_getD (k := 6) (kz := 6) hC cf_X0 (at_55 hL) (by decide) rfl (by decide) rfl wf_RX0_57 dX0_lineBehindEnd_20 (g_cm (l := RUL) fun m3 => ?_)
      refine g_getS (k := 2) hC cf_X4 (ru_0 (rul_of hL m3)) (by decide) rfl (add_nn (ru_0 (rul_of hL m3))) (by decide) wf_RX0_99 dX0_lineBehindEnd_23 ?_
      refine g_iload_n (q := 0) hC dX0_lineBehindEnd_26 rfl rfl ?_
      refine g_iald hC (ru_1 (rul_of hL m3)) (by decide) dX0_lineBehindEnd_27 ?_
      refine g_bipush (v := vI 6) hC dX0_lineBehindEnd_28 rfl ?_
      refine g_icmp_ne (tgt := 56) hC dX0_lineBehindEnd_30 (by decide) ?_ ?_
      · refine g_sub [2] rfl ?_
        exact gB_X0_lineBehindEnd_56 hC hR hL  p1 X
      · refine g_aload_n (q := 1) hC dX0_lineBehindEnd_33 rfl rfl rfl ?_
        refine g_getS (k := 4) hC cf_X0 (at_55 hL) (by decide) rfl (by decide) (by decide) wf_RX0_19 dX0_lineBehindEnd_34 ?_
        refine g_iload_n (q := 0) hC dX0_lineBehindEnd_37 rfl rfl ?_
        refine g_dup2 hC dX0_lineBehindEnd_38 rfl rfl ?_
        refine g_iald hC (at_58 hL) (by decide) dX0_lineBehindEnd_39 ?_
        refine g_iconst (v := vI 1) hC dX0_lineBehindEnd_40 rfl ?_
        refine g_isub hC dX0_lineBehindEnd_41 ?_
        refine g_iast hC (at_58 hL) (by decide) dX0_lineBehindEnd_42 (fun X4 => ?_)
        refine g_aload_n (q := 1) hC dX0_lineBehindEnd_43 rfl rfl rfl ?_
        refine g_getS (k := 4) hC cf_X0 (at_55 hL) (by decide) rfl (by decide) (by decide) wf_RX0_19 dX0_lineBehindEnd_44 ?_
        refine g_iload_n (q := 0) hC dX0_lineBehindEnd_47 rfl rfl ?_
        refine g_iald hC (at_58 hL) (by decide) dX0_lineBehindEnd_48 ?_
        refine g_if_le (tgt := 56) hC dX0_lineBehindEnd_49 (by decide) ?_ ?_
        · refine g_sub [2] rfl ?_
          exact gB_X0_lineBehindEnd_56 hC hR hL  p1 X4
        · refine g_iload_n (q := 0) hC dX0_lineBehindEnd_52 rfl rfl ?_
          refine g_iconst (v := vI 1) hC dX0_lineBehindEnd_53 rfl ?_
          refine g_iadd hC dX0_lineBehindEnd_54 ?_
          exact g_iret hC hR dX0_lineBehindEnd_55
def f_X0_goThrough  (X : Mem) : Option (Int × Mem) :=
  cm RIV (X 55 5) <|
  cl (f_X1_look (X 55 5) (X 55 9) (X 55 10) X) fun _ X3 =>
  cl (f_X1_search (X3 55 7) (X3 55 8) X3) fun r4 X5 =>
  c1 r4 <| if ¬ r4 = 0 then
    cl (f_X1_chooseSurest 57 X5) fun _ X7 =>
    ax 7 4 <|
    bd (ia (X7 42 8) (X7 56 4)) fun v8 =>
    ax 7 5 <| bd (ms X7 56 5 (X7 42 8)) fun X9 =>
    ax 7 0 <|
    cm RIV (X9 55 5) <|
    cl (f_J6_bitCount_0f7a4 v8 X9) fun r11 X12 =>
    ax 7 0 <| bd (ms X12 56 0 ((X9 56 0) + ((X9 42 9) + ((X9 (X9 55 5) 8) * r11)))) fun X13 =>
    c1 v8 <| if ¬ v8 = 0 then
      some (1, X13)
    else
      some (0, X13)
  else
    some (2, X5)
set_option maxRecDepth 20000 in
theorem k_X0_goThrough (l : Launch) (V : Ev) {L : List Kd} (hL : LKc L)  (X : Mem)  : Kt l V L yX0_goThrough (.code yX0_goThrough cX0_goThrough 2 (some .int)) 5 152 [vR V.1 55] rI X (f_X0_goThrough  X) := by
  refine kt_of (own := RX0) (lv0 := [(0, vR V.1 55)]) (by decide) rfl (Nat.le_of_ble_eq_true rfl) rfl (fun C hCl hC hR => ?_)
  subst hCl
  unfold f_X0_goThrough
  refine g_aload_n (q := 0) hC dX0_goThrough_0 rfl rfl rfl ?_
  refine g_getS (k := 1) hC cf_X0 (at_55 hL) (by decide) rfl (by decide) (by decide) wf_RX0_42 dX0_goThrough_1 ?_
  refine g_aload_n (q := 0) hC dX0_goThrough_4 rfl rfl rfl ?_
  refine g_getD (k := 5) (kz := 5) hC cf_X0 (at_55 hL) (by decide) rfl (by decide) rfl wf_RX0_52 dX0_goThrough_5 (g_cm (l := RIV) fun m1 => ?_)
  refine g_aload_n (q := 0) hC dX0_goThrough_8 rfl rfl rfl ?_
  refine g_getI (k := 9) (kz := 9) hC cf_X0 (at_55 hL) (by decide) rfl (by decide) rfl wf_RX0_29 dX0_goThrough_9 ?_
  refine g_aload_n (q := 0) hC dX0_goThrough_12 rfl rfl rfl ?_
  refine g_getI (k := 10) (kz := 10) hC cf_X0 (at_55 hL) (by decide) rfl (by decide) rfl wf_RX0_32 dX0_goThrough_13 ?_
  refine g_callVV (As := [vR V.1 (X 55 5), vI (X 55 9), vI (X 55 10)]) hC mv_X1_look wml_RX0_184 (k_X1_look _ V hL (X 55 5) (X 55 9) (X 55 10) X (riv_of hL m1)) cf_X1 (at_42 hL) (by decide) ⟨Nat.zero_le _, Nat.zero_le _⟩ rfl rfl ⟨Nat.le_of_ble_eq_true rfl, Nat.le_of_ble_eq_true rfl⟩ (Nat.le_of_ble_eq_true rfl) dX0_goThrough_16 (fun _ X3 => ?_)
  refine g_aload_n (q := 0) hC dX0_goThrough_19 rfl rfl rfl ?_
  refine g_getS (k := 1) hC cf_X0 (at_55 hL) (by decide) rfl (by decide) (by decide) wf_RX0_42 dX0_goThrough_20 ?_
  refine g_aload_n (q := 0) hC dX0_goThrough_23 rfl rfl rfl ?_
  refine g_getI (k := 7) (kz := 7) hC cf_X0 (at_55 hL) (by decide) rfl (by decide) rfl wf_RX0_22 dX0_goThrough_24 ?_
  refine g_aload_n (q := 0) hC dX0_goThrough_27 rfl rfl rfl ?_
  refine g_getI (k := 8) (kz := 8) hC cf_X0 (at_55 hL) (by decide) rfl (by decide) rfl wf_RX0_26 dX0_goThrough_28 ?_
  refine g_callVI (As := [vI (X3 55 7), vI (X3 55 8)]) hC mv_X1_search wml_RX0_190 (k_X1_search _ V hL (X3 55 7) (X3 55 8) X3) cf_X1 (at_42 hL) (by decide) ⟨Nat.zero_le _, Nat.zero_le _⟩ rfl rfl ⟨Nat.le_of_ble_eq_true rfl, Nat.le_of_ble_eq_true rfl⟩ (Nat.le_of_ble_eq_true rfl) dX0_goThrough_31 (fun r4 X5 => ?_)
  refine g_if_ne (tgt := 39) hC dX0_goThrough_34 (by decide) ?_ ?_
  · refine g_aload_n (q := 0) hC dX0_goThrough_39 rfl rfl rfl ?_
    refine g_getS (k := 1) hC cf_X0 (at_55 hL) (by decide) rfl (by decide) (by decide) wf_RX0_42 dX0_goThrough_40 ?_
    refine g_aload_n (q := 0) hC dX0_goThrough_43 rfl rfl rfl ?_
    refine g_getS (k := 3) hC cf_X0 (at_55 hL) (by decide) rfl (by decide) (by decide) wf_RX0_15 dX0_goThrough_44 ?_
    refine g_callVV (As := [vR V.1 57]) hC mv_X1_chooseSurest wml_RX0_206 (k_X1_chooseSurest _ V hL 57 X5 (at_57 hL)) cf_X1 (at_42 hL) (by decide) ⟨Nat.zero_le _, Nat.zero_le _⟩ rfl rfl ⟨Nat.le_of_ble_eq_true rfl, Nat.le_of_ble_eq_true rfl⟩ (Nat.le_of_ble_eq_true rfl) dX0_goThrough_47 (fun _ X7 => ?_)
    refine g_aload_n (q := 0) hC dX0_goThrough_50 rfl rfl rfl ?_
    refine g_getS (k := 1) hC cf_X0 (at_55 hL) (by decide) rfl (by decide) (by decide) wf_RX0_42 dX0_goThrough_51 ?_
    refine g_getI (k := 8) (kz := 8) hC cf_X1 (at_42 hL) (by decide) rfl (by decide) rfl wf_RX0_210 dX0_goThrough_54 ?_
    refine g_aload_n (q := 0) hC dX0_goThrough_57 rfl rfl rfl ?_
    refine g_getS (k := 2) hC cf_X0 (at_55 hL) (by decide) rfl (by decide) (by decide) wf_RX0_11 dX0_goThrough_58 ?_
    refine g_iconst (v := vI 4) hC dX0_goThrough_61 rfl ?_
    refine g_iald hC (at_56 hL) (by decide) dX0_goThrough_62 ?_
    refine g_iand hC dX0_goThrough_63 ?_
    refine g_topI (fun v8 => ?_)
    refine g_istore_n hC dX0_goThrough_64 rfl (by decide) rfl ?_
    refine g_aload_n (q := 1) hC dX0_goThrough_65 rfl rfl rfl ?_
    refine g_getS (k := 2) hC cf_X0 (at_55 hL) (by decide) rfl (by decide) (by decide) wf_RX0_11 dX0_goThrough_66 ?_
    refine g_iconst (v := vI 5) hC dX0_goThrough_69 rfl ?_
    refine g_aload_n (q := 1) hC dX0_goThrough_70 rfl rfl rfl ?_
    refine g_getS (k := 1) hC cf_X0 (at_55 hL) (by decide) rfl (by decide) (by decide) wf_RX0_42 dX0_goThrough_71 ?_
    refine g_getI (k := 8) (kz := 8) hC cf_X1 (at_42 hL) (by decide) rfl (by decide) rfl wf_RX0_210 dX0_goThrough_74 ?_
    refine g_iast hC (at_56 hL) (by decide) dX0_goThrough_77 (fun X9 => ?_)
    refine g_aload_n (q := 1) hC dX0_goThrough_78 rfl rfl rfl ?_
    refine g_getS (k := 2) hC cf_X0 (at_55 hL) (by decide) rfl (by decide) (by decide) wf_RX0_11 dX0_goThrough_79 ?_
    refine g_iconst (v := vI 0) hC dX0_goThrough_82 rfl ?_
    refine g_dup2 hC dX0_goThrough_83 rfl rfl ?_
    refine g_iald hC (at_56 hL) (by decide) dX0_goThrough_84 ?_
    refine g_aload_n (q := 1) hC dX0_goThrough_85 rfl rfl rfl ?_
    refine g_getS (k := 1) hC cf_X0 (at_55 hL) (by decide) rfl (by decide) (by decide) wf_RX0_42 dX0_goThrough_86 ?_
    refine g_getI (k := 9) (kz := 9) hC cf_X1 (at_42 hL) (by decide) rfl (by decide) rfl wf_RX0_213 dX0_goThrough_89 ?_
    refine g_aload_n (q := 1) hC dX0_goThrough_92 rfl rfl rfl ?_
    refine g_getD (k := 5) (kz := 5) hC cf_X0 (at_55 hL) (by decide) rfl (by decide) rfl wf_RX0_52 dX0_goThrough_93 (g_cm (l := RIV) fun m10 => ?_)
    refine g_getI (k := 8) (kz := 8) hC cf_X2 (rv_0 (riv_of hL m10)) (by decide) rfl (by decide) rfl wf_RX0_216 dX0_goThrough_96 ?_
    refine g_iload_n (q := 0) hC dX0_goThrough_99 rfl rfl ?_
    refine g_callSI (As := [vI v8]) hC mt_J6_bitCount_0f7a4 wml_RX0_219 (k_J6_bitCount_0f7a4 _ V v8 X9) ⟨Nat.zero_le _, Nat.zero_le _⟩ rfl rfl ⟨Nat.le_of_ble_eq_true rfl, Nat.le_of_ble_eq_true rfl⟩ (Nat.le_of_ble_eq_true rfl) dX0_goThrough_100 (fun r11 X12 => ?_)
    refine g_imul hC dX0_goThrough_103 ?_
    refine g_iadd hC dX0_goThrough_104 ?_
    refine g_iadd hC dX0_goThrough_105 ?_
    refine g_iast hC (at_56 hL) (by decide) dX0_goThrough_106 (fun X13 => ?_)
    refine g_iload_n (q := 0) hC dX0_goThrough_107 rfl rfl ?_
    refine g_if_ne (tgt := 115) hC dX0_goThrough_108 (by decide) ?_ ?_
    · refine g_iconst (v := vI 1) hC dX0_goThrough_115 rfl ?_
      exact g_iret hC hR dX0_goThrough_116
    · refine g_iconst (v := vI 0) hC dX0_goThrough_111 rfl ?_
      refine g_goto (tgt := 116) hC dX0_goThrough_112 (by decide) ?_
      exact g_iret hC hR dX0_goThrough_116
  · refine g_iconst (v := vI 2) hC dX0_goThrough_37 rfl ?_
    exact g_iret hC hR dX0_goThrough_38
def f_X0_cellOf (p1 : Int) (X : Mem) : Option (Int × Mem) :=
  c1 p1 <| if p1 < 0 then
    some ((-1), X)
  else
    cm RIV (X 55 5) <|
    c2 p1 (X (X 55 5) 2) <| if (X (X 55 5) 2) ≤ p1 then
      some ((-1), X)
    else
      cm RIV (X 55 5) <|
      ax 5 p1 <|
      some (X ((X 55 5) + 9) p1, X)
set_option maxRecDepth 20000 in
theorem k_X0_cellOf (l : Launch) (V : Ev) {L : List Kd} (hL : LKc L) (p1 : Int) (X : Mem)  : Kt l V L yX0_cellOf (.code yX0_cellOf cX0_cellOf 2 (some .int)) 0 0 [vR V.1 55, vI p1] rI X (f_X0_cellOf p1 X) := by
  refine kt_of (own := RX0) (lv0 := [(0, vR V.1 55), (1, vI p1)]) (by decide) rfl (Nat.le_of_ble_eq_true rfl) rfl (fun C hCl hC hR => ?_)
  subst hCl
  unfold f_X0_cellOf
  refine g_iload_n (q := 1) hC dX0_cellOf_0 rfl rfl ?_
  refine g_if_lt (tgt := 27) hC dX0_cellOf_1 (by decide) ?_ ?_
  · refine g_iconst (v := vI (-1)) hC dX0_cellOf_27 rfl ?_
    exact g_iret hC hR dX0_cellOf_28
  · refine g_iload_n (q := 1) hC dX0_cellOf_4 rfl rfl ?_
    refine g_aload_n (q := 0) hC dX0_cellOf_5 rfl rfl rfl ?_
    refine g_getD (k := 5) (kz := 5) hC cf_X0 (at_55 hL) (by decide) rfl (by decide) rfl wf_RX0_52 dX0_cellOf_6 (g_cm (l := RIV) fun m1 => ?_)
    refine g_getI (k := 2) (kz := 2) hC cf_X2 (rv_0 (riv_of hL m1)) (by decide) rfl (by decide) rfl wf_RX0_143 dX0_cellOf_9 ?_
    refine g_icmp_ge (tgt := 27) hC dX0_cellOf_12 (by decide) ?_ ?_
    · refine g_iconst (v := vI (-1)) hC dX0_cellOf_27 rfl ?_
      exact g_iret hC hR dX0_cellOf_28
    · refine g_aload_n (q := 0) hC dX0_cellOf_15 rfl rfl rfl ?_
      refine g_getD (k := 5) (kz := 5) hC cf_X0 (at_55 hL) (by decide) rfl (by decide) rfl wf_RX0_52 dX0_cellOf_16 (g_cm (l := RIV) fun m2 => ?_)
      refine g_getS (k := 19) hC cf_X2 (rv_0 (riv_of hL m2)) (by decide) rfl (add_nn (rv_0 (riv_of hL m2))) (by decide) wf_RX0_145 dX0_cellOf_19 ?_
      refine g_iload_n (q := 1) hC dX0_cellOf_22 rfl rfl ?_
      refine g_iald hC (rv_9 (riv_of hL m2)) (by decide) dX0_cellOf_23 ?_
      refine g_goto (tgt := 28) hC dX0_cellOf_24 (by decide) ?_
      exact g_iret hC hR dX0_cellOf_28
def B_X0_takeSounding_104 (x2 : Int) (x3 : Int) (X : Mem) : Option (Int × Mem) :=
  cm RIV (X 55 5) <|
  cl (f_X9_hearPole (X 55 5) 57 (X 55 9) x2 x3 X) fun r15 X16 =>
  some (0, X16)
def B_X0_takeSounding_102 (x2 : Int) (s0 : Int) (s1 : Int) (X : Mem) : Option (Int × Mem) :=
  bd (s1 + s0) fun v18 =>
  B_X0_takeSounding_104   x2 v18 X
def f_X0_takeSounding (p1 : Int) (X : Mem) : Option (Int × Mem) :=
  cl (f_X0_cellOf p1 X) fun r1 X2 =>
  c2 r1 ((-1)) <| if ¬ r1 = ((-1)) then
    ax 7 0 <|
    ax 7 0 <| bd (ms X2 56 0 ((X2 56 0) + 30)) fun X3 =>
    ax 7 2 <|
    ax 7 2 <| bd (ms X3 56 2 ((X3 56 2) + 1)) fun X4 =>
    cm RIV (X4 55 5) <|
    cm RIV (X4 55 5) <|
    cl (f_X2_stageOn (X4 55 5) (X4 55 9) X4) fun r7 X8 =>
    ax 7 4 <|
    cl (f_X2_depthAt (X4 55 5) r7 r1 (X8 56 4) X8) fun r9 X10 =>
    cl (f_X0_draw 32 X10) fun r11 X12 =>
    cm RIV (X12 55 5) <|
    c2 r11 (2 * (X12 (X12 55 5) 9)) <| if r11 < (2 * (X12 (X12 55 5) 9)) then
      B_X0_takeSounding_104   r1 r9 X12
    else
      cm RIV (X12 55 5) <|
      c2 r11 (16 + (X12 (X12 55 5) 9)) <| if (16 + (X12 (X12 55 5) 9)) ≤ r11 then
        B_X0_takeSounding_102   r1 ((-1)) r9 X12
      else
        B_X0_takeSounding_102   r1 1 r9 X12
  else
    some (0, X2)
set_option maxRecDepth 20000 in
theorem gB_X0_takeSounding_104 {C : Cx} {V : Ev} {L : List Kd} (hC : Ok C V cX0_takeSounding RX0 5 2 55) (hR : Rt C V L none rV) (hL : LKc L) (x2 : Int) (x3 : Int) (X : Mem)  : G C V L 0 0 5 104 [(0, vR V.1 55), (2, vI x2), (3, vI x3)] [] X (B_X0_takeSounding_104   x2 x3 X) := by
  unfold B_X0_takeSounding_104
  refine g_aload_n (q := 0) hC dX0_takeSounding_104 rfl rfl rfl ?_
  refine g_getS (k := 0) hC cf_X0 (at_55 hL) (by decide) rfl (by decide) (by decide) wf_RX0_38 dX0_takeSounding_105 ?_
  refine g_aload_n (q := 0) hC dX0_takeSounding_108 rfl rfl rfl ?_
  refine g_getD (k := 5) (kz := 5) hC cf_X0 (at_55 hL) (by decide) rfl (by decide) rfl wf_RX0_52 dX0_takeSounding_109 (g_cm (l := RIV) fun m14 => ?_)
  refine g_aload_n (q := 0) hC dX0_takeSounding_112 rfl rfl rfl ?_
  refine g_getS (k := 3) hC cf_X0 (at_55 hL) (by decide) rfl (by decide) (by decide) wf_RX0_15 dX0_takeSounding_113 ?_
  refine g_aload_n (q := 0) hC dX0_takeSounding_116 rfl rfl rfl ?_
  refine g_getI (k := 9) (kz := 9) hC cf_X0 (at_55 hL) (by decide) rfl (by decide) rfl wf_RX0_29 dX0_takeSounding_117 ?_
  refine g_iload_n (q := 1) hC dX0_takeSounding_120 rfl rfl ?_
  refine g_iload_n (q := 2) hC dX0_takeSounding_121 rfl rfl ?_
  refine g_callVI (As := [vR V.1 (X 55 5), vR V.1 57, vI (X 55 9), vI x2, vI x3]) hC mv_X9_hearPole wml_RX0_161 (k_X9_hearPole _ V hL (X 55 5) 57 (X 55 9) x2 x3 X (riv_of hL m14) (at_57 hL)) cf_X9 (at_40 hL) (by decide) ⟨Nat.zero_le _, Nat.zero_le _⟩ rfl rfl ⟨Nat.le_of_ble_eq_true rfl, Nat.le_of_ble_eq_true rfl⟩ (Nat.le_of_ble_eq_true rfl) dX0_takeSounding_122 (fun r15 X16 => ?_)
  refine g_pop hC dX0_takeSounding_125 rfl ?_
  exact g_vret hC hR dX0_takeSounding_126
set_option maxRecDepth 20000 in
theorem gB_X0_takeSounding_102 {C : Cx} {V : Ev} {L : List Kd} (hC : Ok C V cX0_takeSounding RX0 5 2 55) (hR : Rt C V L none rV) (hL : LKc L) (x2 : Int) (s0 : Int) (s1 : Int) (X : Mem)  : G C V L 0 0 5 102 [(0, vR V.1 55), (2, vI x2)] [vI s0, vI s1] X (B_X0_takeSounding_102   x2 s0 s1 X) := by
  unfold B_X0_takeSounding_102
  refine g_iadd hC dX0_takeSounding_102 ?_
  refine g_topI (fun v18 => ?_)
  refine g_istore_n hC dX0_takeSounding_103 rfl (by decide) rfl ?_
  refine g_sub [1, 2, 0] rfl ?_
  exact gB_X0_takeSounding_104 hC hR hL  x2 v18 X
set_option maxRecDepth 20000 in
theorem k_X0_takeSounding (l : Launch) (V : Ev) {L : List Kd} (hL : LKc L) (p1 : Int) (X : Mem)  : Kt l V L yX0_takeSounding (.code yX0_takeSounding cX0_takeSounding 5 none) 2 55 [vR V.1 55, vI p1] rV X (f_X0_takeSounding p1 X) := by
  refine kt_of (own := RX0) (lv0 := [(0, vR V.1 55), (1, vI p1)]) (by decide) rfl (Nat.le_of_ble_eq_true rfl) rfl (fun C hCl hC hR => ?_)
  subst hCl
  unfold f_X0_takeSounding
  refine g_aload_n (q := 0) hC dX0_takeSounding_0 rfl rfl rfl ?_
  refine g_iload_n (q := 1) hC dX0_takeSounding_1 rfl rfl ?_
  refine g_callVI (As := [vI p1]) hC mv_X0_cellOf wml_RX0_148 (k_X0_cellOf _ V hL p1 X) cf_X0 (at_55 hL) (by decide) ⟨Nat.zero_le _, Nat.zero_le _⟩ rfl rfl ⟨Nat.le_of_ble_eq_true rfl, Nat.le_of_ble_eq_true rfl⟩ (Nat.le_of_ble_eq_true rfl) dX0_takeSounding_2 (fun r1 X2 => ?_)
  refine g_istore_n hC dX0_takeSounding_5 rfl (by decide) rfl ?_
  refine g_iload_n (q := 0) hC dX0_takeSounding_6 rfl rfl ?_
  refine g_iconst (v := vI (-1)) hC dX0_takeSounding_7 rfl ?_
  refine g_icmp_ne (tgt := 12) hC dX0_takeSounding_8 (by decide) ?_ ?_
  · refine g_aload_n (q := 1) hC dX0_takeSounding_12 rfl rfl rfl ?_
    refine g_getS (k := 2) hC cf_X0 (at_55 hL) (by decide) rfl (by decide) (by decide) wf_RX0_11 dX0_takeSounding_13 ?_
    refine g_iconst (v := vI 0) hC dX0_takeSounding_16 rfl ?_
    refine g_dup2 hC dX0_takeSounding_17 rfl rfl ?_
    refine g_iald hC (at_56 hL) (by decide) dX0_takeSounding_18 ?_
    refine g_bipush (v := vI 30) hC dX0_takeSounding_19 rfl ?_
    refine g_iadd hC dX0_takeSounding_21 ?_
    refine g_iast hC (at_56 hL) (by decide) dX0_takeSounding_22 (fun X3 => ?_)
    refine g_aload_n (q := 1) hC dX0_takeSounding_23 rfl rfl rfl ?_
    refine g_getS (k := 2) hC cf_X0 (at_55 hL) (by decide) rfl (by decide) (by decide) wf_RX0_11 dX0_takeSounding_24 ?_
    refine g_iconst (v := vI 2) hC dX0_takeSounding_27 rfl ?_
    refine g_dup2 hC dX0_takeSounding_28 rfl rfl ?_
    refine g_iald hC (at_56 hL) (by decide) dX0_takeSounding_29 ?_
    refine g_iconst (v := vI 1) hC dX0_takeSounding_30 rfl ?_
    refine g_iadd hC dX0_takeSounding_31 ?_
    refine g_iast hC (at_56 hL) (by decide) dX0_takeSounding_32 (fun X4 => ?_)
    refine g_aload_n (q := 1) hC dX0_takeSounding_33 rfl rfl rfl ?_
    refine g_getD (k := 5) (kz := 5) hC cf_X0 (at_55 hL) (by decide) rfl (by decide) rfl wf_RX0_52 dX0_takeSounding_34 (g_cm (l := RIV) fun m5 => ?_)
    refine g_aload_n (q := 1) hC dX0_takeSounding_37 rfl rfl rfl ?_
    refine g_getD (k := 5) (kz := 5) hC cf_X0 (at_55 hL) (by decide) rfl (by decide) rfl wf_RX0_52 dX0_takeSounding_38 (g_cm (l := RIV) fun m6 => ?_)
    refine g_aload_n (q := 1) hC dX0_takeSounding_41 rfl rfl rfl ?_
    refine g_getI (k := 9) (kz := 9) hC cf_X0 (at_55 hL) (by decide) rfl (by decide) rfl wf_RX0_29 dX0_takeSounding_42 ?_
    refine g_callVI (As := [vI (X4 55 9)]) hC mv_X2_stageOn wml_RX0_151 (k_X2_stageOn _ V (X4 55 5) (X4 55 9) X4 (riv_of hL m6)) cf_X2 (rv_0 (riv_of hL m6)) (by decide) ⟨Nat.zero_le _, Nat.zero_le _⟩ rfl rfl ⟨Nat.le_of_ble_eq_true rfl, Nat.le_of_ble_eq_true rfl⟩ (Nat.le_of_ble_eq_true rfl) dX0_takeSounding_45 (fun r7 X8 => ?_)
    refine g_iload_n (q := 0) hC dX0_takeSounding_48 rfl rfl ?_
    refine g_aload_n (q := 1) hC dX0_takeSounding_49 rfl rfl rfl ?_
    refine g_getS (k := 2) hC cf_X0 (at_55 hL) (by decide) rfl (by decide) (by decide) wf_RX0_11 dX0_takeSounding_50 ?_
    refine g_iconst (v := vI 4) hC dX0_takeSounding_53 rfl ?_
    refine g_iald hC (at_56 hL) (by decide) dX0_takeSounding_54 ?_
    refine g_callVI (As := [vI r7, vI r1, vI (X8 56 4)]) hC mv_X2_depthAt wml_RX0_154 (k_X2_depthAt _ V (X4 55 5) r7 r1 (X8 56 4) X8 (riv_of hL m5)) cf_X2 (rv_0 (riv_of hL m5)) (by decide) ⟨Nat.zero_le _, Nat.zero_le _⟩ rfl rfl ⟨Nat.le_of_ble_eq_true rfl, Nat.le_of_ble_eq_true rfl⟩ (Nat.le_of_ble_eq_true rfl) dX0_takeSounding_55 (fun r9 X10 => ?_)
    refine g_istore_n hC dX0_takeSounding_58 rfl (by decide) rfl ?_
    refine g_aload_n (q := 2) hC dX0_takeSounding_59 rfl rfl rfl ?_
    refine g_bipush (v := vI 32) hC dX0_takeSounding_60 rfl ?_
    refine g_callVI (As := [vI 32]) hC mv_X0_draw wml_RX0_82 (k_X0_draw _ V hL 32 X10) cf_X0 (at_55 hL) (by decide) ⟨Nat.zero_le _, Nat.zero_le _⟩ rfl rfl ⟨Nat.le_of_ble_eq_true rfl, Nat.le_of_ble_eq_true rfl⟩ (Nat.le_of_ble_eq_true rfl) dX0_takeSounding_62 (fun r11 X12 => ?_)
    refine g_istore hC dX0_takeSounding_65 (by decide) rfl ?_
    refine g_iload (q := 0) hC dX0_takeSounding_67 rfl ?_
    refine g_iconst (v := vI 2) hC dX0_takeSounding_69 rfl ?_
    refine g_aload_n (q := 3) hC dX0_takeSounding_70 rfl rfl rfl ?_
    refine g_getD (k := 5) (kz := 5) hC cf_X0 (at_55 hL) (by decide) rfl (by decide) rfl wf_RX0_52 dX0_takeSounding_71 (g_cm (l := RIV) fun m13 => ?_)
    refine g_getI (k := 9) (kz := 9) hC cf_X2 (rv_0 (riv_of hL m13)) (by decide) rfl (by decide) rfl wf_RX0_158 dX0_takeSounding_74 ?_
    refine g_imul hC dX0_takeSounding_77 ?_
    refine g_icmp_lt (tgt := 104) hC dX0_takeSounding_78 (by decide) ?_ ?_
    · refine g_sub [3, 2, 1] rfl ?_
      exact gB_X0_takeSounding_104 hC hR hL  r1 r9 X12
    · refine g_iload_n (q := 1) hC dX0_takeSounding_81 rfl rfl ?_
      refine g_iload (q := 0) hC dX0_takeSounding_82 rfl ?_
      refine g_bipush (v := vI 16) hC dX0_takeSounding_84 rfl ?_
      refine g_aload_n (q := 3) hC dX0_takeSounding_86 rfl rfl rfl ?_
      refine g_getD (k := 5) (kz := 5) hC cf_X0 (at_55 hL) (by decide) rfl (by decide) rfl wf_RX0_52 dX0_takeSounding_87 (g_cm (l := RIV) fun m17 => ?_)
      refine g_getI (k := 9) (kz := 9) hC cf_X2 (rv_0 (riv_of hL m17)) (by decide) rfl (by decide) rfl wf_RX0_158 dX0_takeSounding_90 ?_
      refine g_iadd hC dX0_takeSounding_93 ?_
      refine g_icmp_ge (tgt := 101) hC dX0_takeSounding_94 (by decide) ?_ ?_
      · refine g_iconst (v := vI (-1)) hC dX0_takeSounding_101 rfl ?_
        refine g_sub [3, 2] rfl ?_
        exact gB_X0_takeSounding_102 hC hR hL  r1 ((-1)) r9 X12
      · refine g_iconst (v := vI 1) hC dX0_takeSounding_97 rfl ?_
        refine g_goto (tgt := 102) hC dX0_takeSounding_98 (by decide) ?_
        refine g_sub [3, 2] rfl ?_
        exact gB_X0_takeSounding_102 hC hR hL  r1 1 r9 X12
  · exact g_vret hC hR dX0_takeSounding_11
def B_X0_takeColour_89 (s0 : Int) (s1 : Int) (s3 : Int) (X : Mem) : Option (Int × Mem) :=
  cl (f_X9_seeWater s3 57 s1 s0 X) fun r8 X9 =>
  some (0, X9)
def B_X0_takeColour_63 (x2 : Int) (x3 : Int) (s0 : Int) (X : Mem) : Option (Int × Mem) :=
  cm RIV (X 55 5) <|
  c2 x3 s0 <| if ¬ x3 = s0 then
    B_X0_takeColour_89   0 x2 (X 55 5) X
  else
    B_X0_takeColour_89   1 x2 (X 55 5) X
def B_X0_takeColour_41 (x2 : Int) (s0 : Int) (X : Mem) : Option (Int × Mem) :=
  cl (f_X0_draw 16 X) fun r4 X5 =>
  cm RIV (X5 55 5) <|
  c2 r4 (X5 (X5 55 5) 10) <| if (X5 (X5 55 5) 10) ≤ r4 then
    B_X0_takeColour_63   x2 s0 0 X5
  else
    B_X0_takeColour_63   x2 s0 1 X5
def f_X0_takeColour (p1 : Int) (X : Mem) : Option (Int × Mem) :=
  cl (f_X0_cellOf p1 X) fun r1 X2 =>
  c2 r1 ((-1)) <| if ¬ r1 = ((-1)) then
    ax 7 0 <|
    ax 7 0 <| bd (ms X2 56 0 ((X2 56 0) + 5)) fun X3 =>
    ax 7 4 <|
    c2 (ia (ishr (X3 56 4) p1) 1) 1 <| if ¬ (ia (ishr (X3 56 4) p1) 1) = 1 then
      B_X0_takeColour_41   r1 0 X3
    else
      B_X0_takeColour_41   r1 1 X3
  else
    some (0, X2)
set_option maxRecDepth 20000 in
theorem gB_X0_takeColour_89 {C : Cx} {V : Ev} {L : List Kd} (hC : Ok C V cX0_takeColour RX0 5 2 54) (hR : Rt C V L none rV) (hL : LKc L) (s0 : Int) (s1 : Int) (s3 : Int) (X : Mem) (gs3 : isRiver L s3) : G C V L 0 0 5 89 [] [vI s0, vI s1, vR V.1 57, vR V.1 s3, vR V.1 40] X (B_X0_takeColour_89   s0 s1 s3 X) := by
  unfold B_X0_takeColour_89
  refine g_callVI (As := [vR V.1 s3, vR V.1 57, vI s1, vI s0]) hC mv_X9_seeWater wml_RX0_170 (k_X9_seeWater _ V hL s3 57 s1 s0 X gs3 (at_57 hL)) cf_X9 (at_40 hL) (by decide) ⟨Nat.zero_le _, Nat.zero_le _⟩ rfl rfl ⟨Nat.le_of_ble_eq_true rfl, Nat.le_of_ble_eq_true rfl⟩ (Nat.le_of_ble_eq_true rfl) dX0_takeColour_89 (fun r8 X9 => ?_)
  refine g_pop hC dX0_takeColour_92 rfl ?_
  exact g_vret hC hR dX0_takeColour_93
set_option maxRecDepth 20000 in
theorem gB_X0_takeColour_63 {C : Cx} {V : Ev} {L : List Kd} (hC : Ok C V cX0_takeColour RX0 5 2 54) (hR : Rt C V L none rV) (hL : LKc L) (x2 : Int) (x3 : Int) (s0 : Int) (X : Mem)  : G C V L 0 0 5 63 [(0, vR V.1 55), (2, vI x2), (3, vI x3)] [vI s0] X (B_X0_takeColour_63   x2 x3 s0 X) := by
  unfold B_X0_takeColour_63
  refine g_istore hC dX0_takeColour_63 (by decide) rfl ?_
  refine g_aload_n (q := 1) hC dX0_takeColour_65 rfl rfl rfl ?_
  refine g_getS (k := 0) hC cf_X0 (at_55 hL) (by decide) rfl (by decide) (by decide) wf_RX0_38 dX0_takeColour_66 ?_
  refine g_aload_n (q := 1) hC dX0_takeColour_69 rfl rfl rfl ?_
  refine g_getD (k := 5) (kz := 5) hC cf_X0 (at_55 hL) (by decide) rfl (by decide) rfl wf_RX0_52 dX0_takeColour_70 (g_cm (l := RIV) fun m7 => ?_)
  refine g_aload_n (q := 1) hC dX0_takeColour_73 rfl rfl rfl ?_
  refine g_getS (k := 3) hC cf_X0 (at_55 hL) (by decide) rfl (by decide) (by decide) wf_RX0_15 dX0_takeColour_74 ?_
  refine g_iload_n (q := 2) hC dX0_takeColour_77 rfl rfl ?_
  refine g_iload_n (q := 3) hC dX0_takeColour_78 rfl rfl ?_
  refine g_iload (q := 0) hC dX0_takeColour_79 rfl ?_
  refine g_icmp_ne (tgt := 88) hC dX0_takeColour_81 (by decide) ?_ ?_
  · refine g_iconst (v := vI 0) hC dX0_takeColour_88 rfl ?_
    refine g_sub [] rfl ?_
    exact gB_X0_takeColour_89 hC hR hL  0 x2 (X 55 5) X (riv_of hL m7)
  · refine g_iconst (v := vI 1) hC dX0_takeColour_84 rfl ?_
    refine g_goto (tgt := 89) hC dX0_takeColour_85 (by decide) ?_
    refine g_sub [] rfl ?_
    exact gB_X0_takeColour_89 hC hR hL  1 x2 (X 55 5) X (riv_of hL m7)
set_option maxRecDepth 20000 in
theorem gB_X0_takeColour_41 {C : Cx} {V : Ev} {L : List Kd} (hC : Ok C V cX0_takeColour RX0 5 2 54) (hR : Rt C V L none rV) (hL : LKc L) (x2 : Int) (s0 : Int) (X : Mem)  : G C V L 0 0 5 41 [(0, vR V.1 55), (2, vI x2)] [vI s0] X (B_X0_takeColour_41   x2 s0 X) := by
  unfold B_X0_takeColour_41
  refine g_istore_n hC dX0_takeColour_41 rfl (by decide) rfl ?_
  refine g_aload_n (q := 1) hC dX0_takeColour_42 rfl rfl rfl ?_
  refine g_bipush (v := vI 16) hC dX0_takeColour_43 rfl ?_
  refine g_callVI (As := [vI 16]) hC mv_X0_draw wml_RX0_82 (k_X0_draw _ V hL 16 X) cf_X0 (at_55 hL) (by decide) ⟨Nat.zero_le _, Nat.zero_le _⟩ rfl rfl ⟨Nat.le_of_ble_eq_true rfl, Nat.le_of_ble_eq_true rfl⟩ (Nat.le_of_ble_eq_true rfl) dX0_takeColour_45 (fun r4 X5 => ?_)
  refine g_aload_n (q := 1) hC dX0_takeColour_48 rfl rfl rfl ?_
  refine g_getD (k := 5) (kz := 5) hC cf_X0 (at_55 hL) (by decide) rfl (by decide) rfl wf_RX0_52 dX0_takeColour_49 (g_cm (l := RIV) fun m6 => ?_)
  refine g_getI (k := 10) (kz := 10) hC cf_X2 (rv_0 (riv_of hL m6)) (by decide) rfl (by decide) rfl wf_RX0_167 dX0_takeColour_52 ?_
  refine g_icmp_ge (tgt := 62) hC dX0_takeColour_55 (by decide) ?_ ?_
  · refine g_iconst (v := vI 0) hC dX0_takeColour_62 rfl ?_
    refine g_sub [1, 2, 0] rfl ?_
    exact gB_X0_takeColour_63 hC hR hL  x2 s0 0 X5
  · refine g_iconst (v := vI 1) hC dX0_takeColour_58 rfl ?_
    refine g_goto (tgt := 63) hC dX0_takeColour_59 (by decide) ?_
    refine g_sub [1, 2, 0] rfl ?_
    exact gB_X0_takeColour_63 hC hR hL  x2 s0 1 X5
set_option maxRecDepth 20000 in
theorem k_X0_takeColour (l : Launch) (V : Ev) {L : List Kd} (hL : LKc L) (p1 : Int) (X : Mem)  : Kt l V L yX0_takeColour (.code yX0_takeColour cX0_takeColour 5 none) 2 54 [vR V.1 55, vI p1] rV X (f_X0_takeColour p1 X) := by
  refine kt_of (own := RX0) (lv0 := [(0, vR V.1 55), (1, vI p1)]) (by decide) rfl (Nat.le_of_ble_eq_true rfl) rfl (fun C hCl hC hR => ?_)
  subst hCl
  unfold f_X0_takeColour
  refine g_aload_n (q := 0) hC dX0_takeColour_0 rfl rfl rfl ?_
  refine g_iload_n (q := 1) hC dX0_takeColour_1 rfl rfl ?_
  refine g_callVI (As := [vI p1]) hC mv_X0_cellOf wml_RX0_148 (k_X0_cellOf _ V hL p1 X) cf_X0 (at_55 hL) (by decide) ⟨Nat.zero_le _, Nat.zero_le _⟩ rfl rfl ⟨Nat.le_of_ble_eq_true rfl, Nat.le_of_ble_eq_true rfl⟩ (Nat.le_of_ble_eq_true rfl) dX0_takeColour_2 (fun r1 X2 => ?_)
  refine g_istore_n hC dX0_takeColour_5 rfl (by decide) rfl ?_
  refine g_iload_n (q := 0) hC dX0_takeColour_6 rfl rfl ?_
  refine g_iconst (v := vI (-1)) hC dX0_takeColour_7 rfl ?_
  refine g_icmp_ne (tgt := 12) hC dX0_takeColour_8 (by decide) ?_ ?_
  · refine g_aload_n (q := 1) hC dX0_takeColour_12 rfl rfl rfl ?_
    refine g_getS (k := 2) hC cf_X0 (at_55 hL) (by decide) rfl (by decide) (by decide) wf_RX0_11 dX0_takeColour_13 ?_
    refine g_iconst (v := vI 0) hC dX0_takeColour_16 rfl ?_
    refine g_dup2 hC dX0_takeColour_17 rfl rfl ?_
    refine g_iald hC (at_56 hL) (by decide) dX0_takeColour_18 ?_
    refine g_iconst (v := vI 5) hC dX0_takeColour_19 rfl ?_
    refine g_iadd hC dX0_takeColour_20 ?_
    refine g_iast hC (at_56 hL) (by decide) dX0_takeColour_21 (fun X3 => ?_)
    refine g_aload_n (q := 1) hC dX0_takeColour_22 rfl rfl rfl ?_
    refine g_getS (k := 2) hC cf_X0 (at_55 hL) (by decide) rfl (by decide) (by decide) wf_RX0_11 dX0_takeColour_23 ?_
    refine g_iconst (v := vI 4) hC dX0_takeColour_26 rfl ?_
    refine g_iald hC (at_56 hL) (by decide) dX0_takeColour_27 ?_
    refine g_iload_n (q := 2) hC dX0_takeColour_28 rfl rfl ?_
    refine g_ishr hC dX0_takeColour_29 ?_
    refine g_iconst (v := vI 1) hC dX0_takeColour_30 rfl ?_
    refine g_iand hC dX0_takeColour_31 ?_
    refine g_iconst (v := vI 1) hC dX0_takeColour_32 rfl ?_
    refine g_icmp_ne (tgt := 40) hC dX0_takeColour_33 (by decide) ?_ ?_
    · refine g_iconst (v := vI 0) hC dX0_takeColour_40 rfl ?_
      refine g_sub [1, 0] rfl ?_
      exact gB_X0_takeColour_41 hC hR hL  r1 0 X3
    · refine g_iconst (v := vI 1) hC dX0_takeColour_36 rfl ?_
      refine g_goto (tgt := 41) hC dX0_takeColour_37 (by decide) ?_
      refine g_sub [1, 0] rfl ?_
      exact gB_X0_takeColour_41 hC hR hL  r1 1 X3
  · exact g_vret hC hR dX0_takeColour_11
def B_X0_waitDay_117  (X : Mem) : Option (Int × Mem) :=
  cm RIV (X 55 5) <|
  cl (f_X9_passDay (X 55 5) 57 ((-1)) 0 X) fun _ X7 =>
  some (0, X7)
def B_X0_waitDay_111 (go34 : Int → Mem → Option (Int × Mem)) (x1 : Int) (X : Mem) : Option (Int × Mem) :=
  go34 (x1 + 1) X
def B_X0_waitDay_96 (go34 : Int → Mem → Option (Int × Mem)) (x1 : Int) (s0 : Int) (s1 : Int) (X : Mem) : Option (Int × Mem) :=
  c2 s1 s0 <| if s0 ≤ s1 then
    B_X0_waitDay_111  go34 x1 X
  else
    ax 7 4 <|
    ax 7 4 <| bd (ms X 56 4 (ix (X 56 4) (ishl 1 x1))) fun X11 =>
    B_X0_waitDay_111  go34 x1 X11
def B_X0_waitDay_64 (go34 : Int → Mem → Option (Int × Mem)) (x1 : Int) (s0 : Int) (X : Mem) : Option (Int × Mem) :=
  cl (f_X0_draw 16 X) fun r8 X9 =>
  c1 s0 <| if s0 = 0 then
    cm RIV (X9 55 5) <|
    ax 5 x1 <|
    B_X0_waitDay_96  go34 x1 (X9 ((X9 55 5) + 8) x1) r8 X9
  else
    cm RIV (X9 55 5) <|
    ax 5 x1 <|
    B_X0_waitDay_96  go34 x1 (X9 ((X9 55 5) + 7) x1) r8 X9
def L_X0_waitDay_34 : Nat → Int → Mem → Option (Int × Mem)
  | 0, _, _ => none
  | n + 1, x1, X =>
    cm RIV (X 55 5) <|
    c2 x1 (X (X 55 5) 2) <| if (X (X 55 5) 2) ≤ x1 then
      B_X0_waitDay_117   X
    else
      ax 7 4 <|
      c2 (ia (ishr (X 56 4) x1) 1) 1 <| if ¬ (ia (ishr (X 56 4) x1) 1) = 1 then
        B_X0_waitDay_64  (fun x1 X => L_X0_waitDay_34   n x1 X) x1 0 X
      else
        B_X0_waitDay_64  (fun x1 X => L_X0_waitDay_34   n x1 X) x1 1 X
def f_X0_waitDay  (X : Mem) : Option (Int × Mem) :=
  ax 7 0 <|
  ax 7 0 <| bd (ms X 56 0 ((X 56 0) + 1440)) fun X1 =>
  ax 7 3 <|
  ax 7 3 <| bd (ms X1 56 3 ((X1 56 3) + 1)) fun X2 =>
  bd (ms X2 55 9 ((X2 55 9) + 1)) fun X3 =>
  L_X0_waitDay_34   KF 0 X3
set_option maxRecDepth 20000 in
theorem gB_X0_waitDay_117 {C : Cx} {V : Ev} {L : List Kd} (hC : Ok C V cX0_waitDay RX0 3 3 115) (hR : Rt C V L none rV) (hL : LKc L)  (X : Mem)  : G C V L 0 0 3 117 [(0, vR V.1 55)] [] X (B_X0_waitDay_117    X) := by
  unfold B_X0_waitDay_117
  refine g_aload_n (q := 0) hC dX0_waitDay_117 rfl rfl rfl ?_
  refine g_getS (k := 0) hC cf_X0 (at_55 hL) (by decide) rfl (by decide) (by decide) wf_RX0_38 dX0_waitDay_118 ?_
  refine g_aload_n (q := 0) hC dX0_waitDay_121 rfl rfl rfl ?_
  refine g_getD (k := 5) (kz := 5) hC cf_X0 (at_55 hL) (by decide) rfl (by decide) rfl wf_RX0_52 dX0_waitDay_122 (g_cm (l := RIV) fun m5 => ?_)
  refine g_aload_n (q := 0) hC dX0_waitDay_125 rfl rfl rfl ?_
  refine g_getS (k := 3) hC cf_X0 (at_55 hL) (by decide) rfl (by decide) (by decide) wf_RX0_15 dX0_waitDay_126 ?_
  refine g_iconst (v := vI (-1)) hC dX0_waitDay_129 rfl ?_
  refine g_iconst (v := vI 0) hC dX0_waitDay_130 rfl ?_
  refine g_callVV (As := [vR V.1 (X 55 5), vR V.1 57, vI ((-1)), vI 0]) hC mv_X9_passDay wml_RX0_180 (k_X9_passDay _ V hL (X 55 5) 57 ((-1)) 0 X (riv_of hL m5) (at_57 hL)) cf_X9 (at_40 hL) (by decide) ⟨Nat.zero_le _, Nat.zero_le _⟩ rfl rfl ⟨Nat.le_of_ble_eq_true rfl, Nat.le_of_ble_eq_true rfl⟩ (Nat.le_of_ble_eq_true rfl) dX0_waitDay_131 (fun _ X7 => ?_)
  exact g_vret hC hR dX0_waitDay_134
set_option maxRecDepth 20000 in
theorem gB_X0_waitDay_111 {C : Cx} {V : Ev} {L : List Kd} (hC : Ok C V cX0_waitDay RX0 3 3 115) (hR : Rt C V L none rV) (hL : LKc L) {go34 : Int → Mem → Option (Int × Mem)} (hgo34 : ∀ (x1 : Int) (X : Mem), G C V L 0 0 3 34 [(0, vR V.1 55), (1, vI x1)] [] X (go34 x1 X)) (x1 : Int) (X : Mem)  : G C V L 0 0 3 111 [(0, vR V.1 55), (1, vI x1)] [] X (B_X0_waitDay_111  go34 x1 X) := by
  unfold B_X0_waitDay_111
  refine g_iinc (q := 1) hC dX0_waitDay_111 rfl (by decide) rfl ?_
  refine g_goto (tgt := 34) hC dX0_waitDay_114 (by decide) ?_
  refine g_sub [1, 0] rfl ?_
  exact hgo34 (x1 + 1) X
set_option maxRecDepth 20000 in
theorem gB_X0_waitDay_96 {C : Cx} {V : Ev} {L : List Kd} (hC : Ok C V cX0_waitDay RX0 3 3 115) (hR : Rt C V L none rV) (hL : LKc L) {go34 : Int → Mem → Option (Int × Mem)} (hgo34 : ∀ (x1 : Int) (X : Mem), G C V L 0 0 3 34 [(0, vR V.1 55), (1, vI x1)] [] X (go34 x1 X)) (x1 : Int) (s0 : Int) (s1 : Int) (X : Mem)  : G C V L 0 0 3 96 [(0, vR V.1 55), (1, vI x1)] [vI s0, vI s1] X (B_X0_waitDay_96  go34 x1 s0 s1 X) := by
  unfold B_X0_waitDay_96
  refine g_icmp_ge (tgt := 111) hC dX0_waitDay_96 (by decide) ?_ ?_
  · exact gB_X0_waitDay_111 hC hR hL hgo34 x1 X
  · refine g_aload_n (q := 0) hC dX0_waitDay_99 rfl rfl rfl ?_
    refine g_getS (k := 2) hC cf_X0 (at_55 hL) (by decide) rfl (by decide) (by decide) wf_RX0_11 dX0_waitDay_100 ?_
    refine g_iconst (v := vI 4) hC dX0_waitDay_103 rfl ?_
    refine g_dup2 hC dX0_waitDay_104 rfl rfl ?_
    refine g_iald hC (at_56 hL) (by decide) dX0_waitDay_105 ?_
    refine g_iconst (v := vI 1) hC dX0_waitDay_106 rfl ?_
    refine g_iload_n (q := 1) hC dX0_waitDay_107 rfl rfl ?_
    refine g_ishl hC dX0_waitDay_108 ?_
    refine g_ixor hC dX0_waitDay_109 ?_
    refine g_iast hC (at_56 hL) (by decide) dX0_waitDay_110 (fun X11 => ?_)
    exact gB_X0_waitDay_111 hC hR hL hgo34 x1 X11
set_option maxRecDepth 20000 in
theorem gB_X0_waitDay_64 {C : Cx} {V : Ev} {L : List Kd} (hC : Ok C V cX0_waitDay RX0 3 3 115) (hR : Rt C V L none rV) (hL : LKc L) {go34 : Int → Mem → Option (Int × Mem)} (hgo34 : ∀ (x1 : Int) (X : Mem), G C V L 0 0 3 34 [(0, vR V.1 55), (1, vI x1)] [] X (go34 x1 X)) (x1 : Int) (s0 : Int) (X : Mem)  : G C V L 0 0 3 64 [(0, vR V.1 55), (1, vI x1)] [vI s0] X (B_X0_waitDay_64  go34 x1 s0 X) := by
  unfold B_X0_waitDay_64
  refine g_istore_n hC dX0_waitDay_64 rfl (by decide) rfl ?_
  refine g_aload_n (q := 1) hC dX0_waitDay_65 rfl rfl rfl ?_
  refine g_bipush (v := vI 16) hC dX0_waitDay_66 rfl ?_
  refine g_callVI (As := [vI 16]) hC mv_X0_draw wml_RX0_82 (k_X0_draw _ V hL 16 X) cf_X0 (at_55 hL) (by decide) ⟨Nat.zero_le _, Nat.zero_le _⟩ rfl rfl ⟨Nat.le_of_ble_eq_true rfl, Nat.le_of_ble_eq_true rfl⟩ (Nat.le_of_ble_eq_true rfl) dX0_waitDay_68 (fun r8 X9 => ?_)
  refine g_iload_n (q := 0) hC dX0_waitDay_71 rfl rfl ?_
  refine g_if_eq (tgt := 87) hC dX0_waitDay_72 (by decide) ?_ ?_
  · refine g_aload_n (q := 1) hC dX0_waitDay_87 rfl rfl rfl ?_
    refine g_getD (k := 5) (kz := 5) hC cf_X0 (at_55 hL) (by decide) rfl (by decide) rfl wf_RX0_52 dX0_waitDay_88 (g_cm (l := RIV) fun m10 => ?_)
    refine g_getS (k := 18) hC cf_X2 (rv_0 (riv_of hL m10)) (by decide) rfl (add_nn (rv_0 (riv_of hL m10))) (by decide) wf_RX0_177 dX0_waitDay_91 ?_
    refine g_iload_n (q := 2) hC dX0_waitDay_94 rfl rfl ?_
    refine g_iald hC (rv_8 (riv_of hL m10)) (by decide) dX0_waitDay_95 ?_
    refine g_sub [1, 2] rfl ?_
    exact gB_X0_waitDay_96 hC hR hL hgo34 x1 (X9 ((X9 55 5) + 8) x1) r8 X9
  · refine g_aload_n (q := 1) hC dX0_waitDay_75 rfl rfl rfl ?_
    refine g_getD (k := 5) (kz := 5) hC cf_X0 (at_55 hL) (by decide) rfl (by decide) rfl wf_RX0_52 dX0_waitDay_76 (g_cm (l := RIV) fun m12 => ?_)
    refine g_getS (k := 17) hC cf_X2 (rv_0 (riv_of hL m12)) (by decide) rfl (add_nn (rv_0 (riv_of hL m12))) (by decide) wf_RX0_174 dX0_waitDay_79 ?_
    refine g_iload_n (q := 2) hC dX0_waitDay_82 rfl rfl ?_
    refine g_iald hC (rv_7 (riv_of hL m12)) (by decide) dX0_waitDay_83 ?_
    refine g_goto (tgt := 96) hC dX0_waitDay_84 (by decide) ?_
    refine g_sub [1, 2] rfl ?_
    exact gB_X0_waitDay_96 hC hR hL hgo34 x1 (X9 ((X9 55 5) + 7) x1) r8 X9
set_option maxRecDepth 20000 in
theorem gL_X0_waitDay_34 {C : Cx} {V : Ev} {L : List Kd} (hC : Ok C V cX0_waitDay RX0 3 3 115) (hR : Rt C V L none rV) (hL : LKc L) : ∀ (n : Nat) (x1 : Int) (X : Mem), G C V L 0 0 3 34 [(0, vR V.1 55), (1, vI x1)] [] X (L_X0_waitDay_34   n x1 X) := by
  intro n
  induction n with
  | zero => intro x1 X; exact g_none
  | succ n ih =>
    intro x1 X
    rw [L_X0_waitDay_34]
    refine g_iload_n (q := 1) hC dX0_waitDay_34 rfl rfl ?_
    refine g_aload_n (q := 0) hC dX0_waitDay_35 rfl rfl rfl ?_
    refine g_getD (k := 5) (kz := 5) hC cf_X0 (at_55 hL) (by decide) rfl (by decide) rfl wf_RX0_52 dX0_waitDay_36 (g_cm (l := RIV) fun m4 => ?_)
    refine g_getI (k := 2) (kz := 2) hC cf_X2 (rv_0 (riv_of hL m4)) (by decide) rfl (by decide) rfl wf_RX0_143 dX0_waitDay_39 ?_
    refine g_icmp_ge (tgt := 117) hC dX0_waitDay_42 (by decide) ?_ ?_
    · refine g_sub [0] rfl ?_
      exact gB_X0_waitDay_117 hC hR hL  X
    · refine g_aload_n (q := 0) hC dX0_waitDay_45 rfl rfl rfl ?_
      refine g_getS (k := 2) hC cf_X0 (at_55 hL) (by decide) rfl (by decide) (by decide) wf_RX0_11 dX0_waitDay_46 ?_
      refine g_iconst (v := vI 4) hC dX0_waitDay_49 rfl ?_
      refine g_iald hC (at_56 hL) (by decide) dX0_waitDay_50 ?_
      refine g_iload_n (q := 1) hC dX0_waitDay_51 rfl rfl ?_
      refine g_ishr hC dX0_waitDay_52 ?_
      refine g_iconst (v := vI 1) hC dX0_waitDay_53 rfl ?_
      refine g_iand hC dX0_waitDay_54 ?_
      refine g_iconst (v := vI 1) hC dX0_waitDay_55 rfl ?_
      refine g_icmp_ne (tgt := 63) hC dX0_waitDay_56 (by decide) ?_ ?_
      · refine g_iconst (v := vI 0) hC dX0_waitDay_63 rfl ?_
        exact gB_X0_waitDay_64 hC hR hL ih x1 0 X
      · refine g_iconst (v := vI 1) hC dX0_waitDay_59 rfl ?_
        refine g_goto (tgt := 64) hC dX0_waitDay_60 (by decide) ?_
        exact gB_X0_waitDay_64 hC hR hL ih x1 1 X
set_option maxRecDepth 20000 in
theorem k_X0_waitDay (l : Launch) (V : Ev) {L : List Kd} (hL : LKc L)  (X : Mem)  : Kt l V L yX0_waitDay (.code yX0_waitDay cX0_waitDay 3 none) 3 115 [vR V.1 55] rV X (f_X0_waitDay  X) := by
  refine kt_of (own := RX0) (lv0 := [(0, vR V.1 55)]) (by decide) rfl (Nat.le_of_ble_eq_true rfl) rfl (fun C hCl hC hR => ?_)
  subst hCl
  unfold f_X0_waitDay
  refine g_aload_n (q := 0) hC dX0_waitDay_0 rfl rfl rfl ?_
  refine g_getS (k := 2) hC cf_X0 (at_55 hL) (by decide) rfl (by decide) (by decide) wf_RX0_11 dX0_waitDay_1 ?_
  refine g_iconst (v := vI 0) hC dX0_waitDay_4 rfl ?_
  refine g_dup2 hC dX0_waitDay_5 rfl rfl ?_
  refine g_iald hC (at_56 hL) (by decide) dX0_waitDay_6 ?_
  refine g_sipush (v := vI 1440) hC dX0_waitDay_7 rfl ?_
  refine g_iadd hC dX0_waitDay_10 ?_
  refine g_iast hC (at_56 hL) (by decide) dX0_waitDay_11 (fun X1 => ?_)
  refine g_aload_n (q := 0) hC dX0_waitDay_12 rfl rfl rfl ?_
  refine g_getS (k := 2) hC cf_X0 (at_55 hL) (by decide) rfl (by decide) (by decide) wf_RX0_11 dX0_waitDay_13 ?_
  refine g_iconst (v := vI 3) hC dX0_waitDay_16 rfl ?_
  refine g_dup2 hC dX0_waitDay_17 rfl rfl ?_
  refine g_iald hC (at_56 hL) (by decide) dX0_waitDay_18 ?_
  refine g_iconst (v := vI 1) hC dX0_waitDay_19 rfl ?_
  refine g_iadd hC dX0_waitDay_20 ?_
  refine g_iast hC (at_56 hL) (by decide) dX0_waitDay_21 (fun X2 => ?_)
  refine g_aload_n (q := 0) hC dX0_waitDay_22 rfl rfl rfl ?_
  refine g_dup hC dX0_waitDay_23 rfl ?_
  refine g_getI (k := 9) (kz := 9) hC cf_X0 (at_55 hL) (by decide) rfl (by decide) rfl wf_RX0_29 dX0_waitDay_24 ?_
  refine g_iconst (v := vI 1) hC dX0_waitDay_27 rfl ?_
  refine g_iadd hC dX0_waitDay_28 ?_
  refine g_putI (k := 9) (kz := 9) hC cf_X0 (at_55 hL) (by decide) rfl (by decide) rfl wf_RX0_29 rfl rfl dX0_waitDay_29 (fun X3 => ?_)
  refine g_iconst (v := vI 0) hC dX0_waitDay_32 rfl ?_
  refine g_istore_n hC dX0_waitDay_33 rfl (by decide) rfl ?_
  refine g_sub [1, 0] rfl ?_
  exact gL_X0_waitDay_34 hC hR hL  KF 0 X3
def f_X0_putOff (p1 : Int) (X : Mem) : Option (Int × Mem) :=
  c2 p1 (X 55 10) <| if p1 ≤ (X 55 10) then
    some (0, X)
  else
    ax 7 0 <|
    ax 7 0 <| bd (ms X 56 0 ((X 56 0) + (20 * (p1 - (X 55 10))))) fun X1 =>
    bd (ms X1 55 10 p1) fun X2 =>
    some (0, X2)
set_option maxRecDepth 20000 in
theorem k_X0_putOff (l : Launch) (V : Ev) {L : List Kd} (hL : LKc L) (p1 : Int) (X : Mem)  : Kt l V L yX0_putOff (.code yX0_putOff cX0_putOff 2 none) 0 0 [vR V.1 55, vI p1] rV X (f_X0_putOff p1 X) := by
  refine kt_of (own := RX0) (lv0 := [(0, vR V.1 55), (1, vI p1)]) (by decide) rfl (Nat.le_of_ble_eq_true rfl) rfl (fun C hCl hC hR => ?_)
  subst hCl
  unfold f_X0_putOff
  refine g_iload_n (q := 1) hC dX0_putOff_0 rfl rfl ?_
  refine g_aload_n (q := 0) hC dX0_putOff_1 rfl rfl rfl ?_
  refine g_getI (k := 10) (kz := 10) hC cf_X0 (at_55 hL) (by decide) rfl (by decide) rfl wf_RX0_32 dX0_putOff_2 ?_
  refine g_icmp_le (tgt := 31) hC dX0_putOff_5 (by decide) ?_ ?_
  · exact g_vret hC hR dX0_putOff_31
  · refine g_aload_n (q := 0) hC dX0_putOff_8 rfl rfl rfl ?_
    refine g_getS (k := 2) hC cf_X0 (at_55 hL) (by decide) rfl (by decide) (by decide) wf_RX0_11 dX0_putOff_9 ?_
    refine g_iconst (v := vI 0) hC dX0_putOff_12 rfl ?_
    refine g_dup2 hC dX0_putOff_13 rfl rfl ?_
    refine g_iald hC (at_56 hL) (by decide) dX0_putOff_14 ?_
    refine g_bipush (v := vI 20) hC dX0_putOff_15 rfl ?_
    refine g_iload_n (q := 1) hC dX0_putOff_17 rfl rfl ?_
    refine g_aload_n (q := 0) hC dX0_putOff_18 rfl rfl rfl ?_
    refine g_getI (k := 10) (kz := 10) hC cf_X0 (at_55 hL) (by decide) rfl (by decide) rfl wf_RX0_32 dX0_putOff_19 ?_
    refine g_isub hC dX0_putOff_22 ?_
    refine g_imul hC dX0_putOff_23 ?_
    refine g_iadd hC dX0_putOff_24 ?_
    refine g_iast hC (at_56 hL) (by decide) dX0_putOff_25 (fun X1 => ?_)
    refine g_aload_n (q := 0) hC dX0_putOff_26 rfl rfl rfl ?_
    refine g_iload_n (q := 1) hC dX0_putOff_27 rfl rfl ?_
    refine g_putI (k := 10) (kz := 10) hC cf_X0 (at_55 hL) (by decide) rfl (by decide) rfl wf_RX0_32 rfl rfl dX0_putOff_28 (fun X2 => ?_)
    exact g_vret hC hR dX0_putOff_31
def f_X0_isSo (p1 : Int) (p2 : Int) (p3 : Int) (X : Mem) : Option (Int × Mem) :=
  c2 p1 11 <| if ¬ p1 = 11 then
    c1 p2 <| if p2 < 0 then
      some (0, X)
    else
      cm RIV (X 55 5) <|
      c2 p2 (X (X 55 5) 2) <| if p2 < (X (X 55 5) 2) then
        cl (f_X9_partsWith 57 p2 X) fun r2 X3 =>
        bd (r2 * 16) fun v4 =>
        c2 p1 9 <| if ¬ p1 = 9 then
          c1 p3 <|
          d2 v4 (p3 * 1000000) <| if (p3 * 1000000) < v4 then
            some (0, X3)
          else
            some (1, X3)
        else
          c1 p3 <|
          d2 v4 (p3 * 1000000) <| if v4 < (p3 * 1000000) then
            some (0, X3)
          else
            some (1, X3)
      else
        some (0, X)
  else
    cm RIV (X 55 5) <|
    cl (f_X1_look (X 55 5) (X 55 9) (X 55 10) X) fun _ X7 =>
    cl (f_X1_search (X7 55 7) (X7 55 8) X7) fun r8 X9 =>
    c1 r8 <| if r8 = 0 then
      some (0, X9)
    else
      cl (f_X1_bestOf 57 X9) fun r10 X11 =>
      c1 p3 <|
      d2 (r10 * 16) (p3 * 1000000) <| if (r10 * 16) < (p3 * 1000000) then
        some (0, X11)
      else
        some (1, X11)
set_option maxRecDepth 20000 in
theorem k_X0_isSo (l : Launch) (V : Ev) {L : List Kd} (hL : LKc L) (p1 : Int) (p2 : Int) (p3 : Int) (X : Mem)  : Kt l V L yX0_isSo (.code yX0_isSo cX0_isSo 6 (some .boolean)) 4 129 [vR V.1 55, vI p1, vI p2, vI p3] rI X (f_X0_isSo p1 p2 p3 X) := by
  refine kt_of (own := RX0) (lv0 := [(0, vR V.1 55), (1, vI p1), (2, vI p2), (3, vI p3)]) (by decide) rfl (Nat.le_of_ble_eq_true rfl) rfl (fun C hCl hC hR => ?_)
  subst hCl
  unfold f_X0_isSo
  refine g_iload_n (q := 1) hC dX0_isSo_0 rfl rfl ?_
  refine g_bipush (v := vI 11) hC dX0_isSo_1 rfl ?_
  refine g_icmp_ne (tgt := 74) hC dX0_isSo_3 (by decide) ?_ ?_
  · refine g_iload_n (q := 2) hC dX0_isSo_74 rfl rfl ?_
    refine g_if_lt (tgt := 89) hC dX0_isSo_75 (by decide) ?_ ?_
    · refine g_iconst (v := vI 0) hC dX0_isSo_89 rfl ?_
      exact g_zret1 hC hR (by decide) dX0_isSo_90
    · refine g_iload_n (q := 2) hC dX0_isSo_78 rfl rfl ?_
      refine g_aload_n (q := 0) hC dX0_isSo_79 rfl rfl rfl ?_
      refine g_getD (k := 5) (kz := 5) hC cf_X0 (at_55 hL) (by decide) rfl (by decide) rfl wf_RX0_52 dX0_isSo_80 (g_cm (l := RIV) fun m1 => ?_)
      refine g_getI (k := 2) (kz := 2) hC cf_X2 (rv_0 (riv_of hL m1)) (by decide) rfl (by decide) rfl wf_RX0_143 dX0_isSo_83 ?_
      refine g_icmp_lt (tgt := 91) hC dX0_isSo_86 (by decide) ?_ ?_
      · refine g_aload_n (q := 0) hC dX0_isSo_91 rfl rfl rfl ?_
        refine g_getS (k := 0) hC cf_X0 (at_55 hL) (by decide) rfl (by decide) (by decide) wf_RX0_38 dX0_isSo_92 ?_
        refine g_aload_n (q := 0) hC dX0_isSo_95 rfl rfl rfl ?_
        refine g_getS (k := 3) hC cf_X0 (at_55 hL) (by decide) rfl (by decide) (by decide) wf_RX0_15 dX0_isSo_96 ?_
        refine g_iload_n (q := 2) hC dX0_isSo_99 rfl rfl ?_
        refine g_callVJ (As := [vR V.1 57, vI p2]) hC mv_X9_partsWith wml_RX0_202 (k_X9_partsWith _ V hL 57 p2 X (at_57 hL)) cf_X9 (at_40 hL) (by decide) ⟨Nat.zero_le _, Nat.zero_le _⟩ rfl rfl ⟨Nat.le_of_ble_eq_true rfl, Nat.le_of_ble_eq_true rfl⟩ (Nat.le_of_ble_eq_true rfl) dX0_isSo_100 (fun r2 X3 => ?_)
        refine g_ldc2 (n := 16) hC wk_RX0_198 rfl dX0_isSo_103 ?_
        refine g_lmul hC dX0_isSo_106 ?_
        refine g_topJ (fun v4 => ?_)
        refine g_lstore hC dX0_isSo_107 (by decide) rfl ?_
        refine g_iload_n (q := 2) hC dX0_isSo_109 rfl rfl ?_
        refine g_bipush (v := vI 9) hC dX0_isSo_110 rfl ?_
        refine g_icmp_ne (tgt := 135) hC dX0_isSo_112 (by decide) ?_ ?_
        · refine g_lload (q := 0) hC dX0_isSo_135 rfl ?_
          refine g_iload_n (q := 4) hC dX0_isSo_137 rfl rfl ?_
          refine g_i2l hC dX0_isSo_138 ?_
          refine g_ldc2 (n := 1000000) hC wk_RX0_200 rfl dX0_isSo_139 ?_
          refine g_lmul hC dX0_isSo_142 ?_
          refine g_lcmp_gt (tgt := 151) hC dX0_isSo_143 rfl dX0_isSo_144 (by decide) ?_ ?_
          · refine g_iconst (v := vI 0) hC dX0_isSo_151 rfl ?_
            exact g_zret1 hC hR (by decide) dX0_isSo_152
          · refine g_iconst (v := vI 1) hC dX0_isSo_147 rfl ?_
            refine g_goto (tgt := 152) hC dX0_isSo_148 (by decide) ?_
            exact g_zret1 hC hR (by decide) dX0_isSo_152
        · refine g_lload (q := 0) hC dX0_isSo_115 rfl ?_
          refine g_iload_n (q := 4) hC dX0_isSo_117 rfl rfl ?_
          refine g_i2l hC dX0_isSo_118 ?_
          refine g_ldc2 (n := 1000000) hC wk_RX0_200 rfl dX0_isSo_119 ?_
          refine g_lmul hC dX0_isSo_122 ?_
          refine g_lcmp_lt (tgt := 131) hC dX0_isSo_123 rfl dX0_isSo_124 (by decide) ?_ ?_
          · refine g_iconst (v := vI 0) hC dX0_isSo_131 rfl ?_
            refine g_goto (tgt := 152) hC dX0_isSo_132 (by decide) ?_
            exact g_zret1 hC hR (by decide) dX0_isSo_152
          · refine g_iconst (v := vI 1) hC dX0_isSo_127 rfl ?_
            refine g_goto (tgt := 152) hC dX0_isSo_128 (by decide) ?_
            exact g_zret1 hC hR (by decide) dX0_isSo_152
      · refine g_iconst (v := vI 0) hC dX0_isSo_89 rfl ?_
        exact g_zret1 hC hR (by decide) dX0_isSo_90
  · refine g_aload_n (q := 0) hC dX0_isSo_6 rfl rfl rfl ?_
    refine g_getS (k := 1) hC cf_X0 (at_55 hL) (by decide) rfl (by decide) (by decide) wf_RX0_42 dX0_isSo_7 ?_
    refine g_aload_n (q := 0) hC dX0_isSo_10 rfl rfl rfl ?_
    refine g_getD (k := 5) (kz := 5) hC cf_X0 (at_55 hL) (by decide) rfl (by decide) rfl wf_RX0_52 dX0_isSo_11 (g_cm (l := RIV) fun m5 => ?_)
    refine g_aload_n (q := 0) hC dX0_isSo_14 rfl rfl rfl ?_
    refine g_getI (k := 9) (kz := 9) hC cf_X0 (at_55 hL) (by decide) rfl (by decide) rfl wf_RX0_29 dX0_isSo_15 ?_
    refine g_aload_n (q := 0) hC dX0_isSo_18 rfl rfl rfl ?_
    refine g_getI (k := 10) (kz := 10) hC cf_X0 (at_55 hL) (by decide) rfl (by decide) rfl wf_RX0_32 dX0_isSo_19 ?_
    refine g_callVV (As := [vR V.1 (X 55 5), vI (X 55 9), vI (X 55 10)]) hC mv_X1_look wml_RX0_184 (k_X1_look _ V hL (X 55 5) (X 55 9) (X 55 10) X (riv_of hL m5)) cf_X1 (at_42 hL) (by decide) ⟨Nat.zero_le _, Nat.zero_le _⟩ rfl rfl ⟨Nat.le_of_ble_eq_true rfl, Nat.le_of_ble_eq_true rfl⟩ (Nat.le_of_ble_eq_true rfl) dX0_isSo_22 (fun _ X7 => ?_)
    refine g_aload_n (q := 0) hC dX0_isSo_25 rfl rfl rfl ?_
    refine g_getS (k := 1) hC cf_X0 (at_55 hL) (by decide) rfl (by decide) (by decide) wf_RX0_42 dX0_isSo_26 ?_
    refine g_aload_n (q := 0) hC dX0_isSo_29 rfl rfl rfl ?_
    refine g_getI (k := 7) (kz := 7) hC cf_X0 (at_55 hL) (by decide) rfl (by decide) rfl wf_RX0_22 dX0_isSo_30 ?_
    refine g_aload_n (q := 0) hC dX0_isSo_33 rfl rfl rfl ?_
    refine g_getI (k := 8) (kz := 8) hC cf_X0 (at_55 hL) (by decide) rfl (by decide) rfl wf_RX0_26 dX0_isSo_34 ?_
    refine g_callVI (As := [vI (X7 55 7), vI (X7 55 8)]) hC mv_X1_search wml_RX0_190 (k_X1_search _ V hL (X7 55 7) (X7 55 8) X7) cf_X1 (at_42 hL) (by decide) ⟨Nat.zero_le _, Nat.zero_le _⟩ rfl rfl ⟨Nat.le_of_ble_eq_true rfl, Nat.le_of_ble_eq_true rfl⟩ (Nat.le_of_ble_eq_true rfl) dX0_isSo_37 (fun r8 X9 => ?_)
    refine g_if_eq (tgt := 72) hC dX0_isSo_40 (by decide) ?_ ?_
    · refine g_iconst (v := vI 0) hC dX0_isSo_72 rfl ?_
      exact g_zret1 hC hR (by decide) dX0_isSo_73
    · refine g_aload_n (q := 0) hC dX0_isSo_43 rfl rfl rfl ?_
      refine g_getS (k := 1) hC cf_X0 (at_55 hL) (by decide) rfl (by decide) (by decide) wf_RX0_42 dX0_isSo_44 ?_
      refine g_aload_n (q := 0) hC dX0_isSo_47 rfl rfl rfl ?_
      refine g_getS (k := 3) hC cf_X0 (at_55 hL) (by decide) rfl (by decide) (by decide) wf_RX0_15 dX0_isSo_48 ?_
      refine g_callVJ (As := [vR V.1 57]) hC mv_X1_bestOf wml_RX0_194 (k_X1_bestOf _ V hL 57 X9 (at_57 hL)) cf_X1 (at_42 hL) (by decide) ⟨Nat.zero_le _, Nat.zero_le _⟩ rfl rfl ⟨Nat.le_of_ble_eq_true rfl, Nat.le_of_ble_eq_true rfl⟩ (Nat.le_of_ble_eq_true rfl) dX0_isSo_51 (fun r10 X11 => ?_)
      refine g_ldc2 (n := 16) hC wk_RX0_198 rfl dX0_isSo_54 ?_
      refine g_lmul hC dX0_isSo_57 ?_
      refine g_iload_n (q := 3) hC dX0_isSo_58 rfl rfl ?_
      refine g_i2l hC dX0_isSo_59 ?_
      refine g_ldc2 (n := 1000000) hC wk_RX0_200 rfl dX0_isSo_60 ?_
      refine g_lmul hC dX0_isSo_63 ?_
      refine g_lcmp_lt (tgt := 72) hC dX0_isSo_64 rfl dX0_isSo_65 (by decide) ?_ ?_
      · refine g_iconst (v := vI 0) hC dX0_isSo_72 rfl ?_
        exact g_zret1 hC hR (by decide) dX0_isSo_73
      · refine g_iconst (v := vI 1) hC dX0_isSo_68 rfl ?_
        refine g_goto (tgt := 73) hC dX0_isSo_69 (by decide) ?_
        exact g_zret1 hC hR (by decide) dX0_isSo_73
def B_X0_doStep_170 (x1 : Int) (X : Mem) : Option (Int × Mem) :=
  some (x1 + 1, X)
def B_X0_doStep_103 (x1 : Int) (X : Mem) : Option (Int × Mem) :=
  B_X0_doStep_170   x1 X
def L_X0_doStep_87 : Nat → Int → Int → Int → Mem → Option (Int × Mem)
  | 0, _, _, _, _ => none
  | n + 1, x1, x3, x4, X =>
    c2 x4 x3 <| if x3 ≤ x4 then
      B_X0_doStep_103   x1 X
    else
      cl (f_X0_waitDay X) fun _ X19 =>
      L_X0_doStep_87   n x1 x3 (x4 + 1) X19
def f_X0_doStep (p1 : Int) (X : Mem) : Option (Int × Mem) :=
  cm RUL (X 55 6) <|
  ax 60 p1 <|
  bd (X ((X 55 6) + 2) p1) fun v2 =>
  cm RUL (X 55 6) <|
  ax 60 p1 <|
  bd (X ((X 55 6) + 3) p1) fun v4 =>
  cm RUL (X 55 6) <|
  ax 60 p1 <|
  c1 (X ((X 55 6) + 1) p1) <|
  if (X ((X 55 6) + 1) p1) = 1 then
    cl (f_X0_takeSounding v2 X) fun _ X23 =>
    B_X0_doStep_170   p1 X23
  else
  if (X ((X 55 6) + 1) p1) = 2 then
    cl (f_X0_takeColour v2 X) fun _ X21 =>
    B_X0_doStep_170   p1 X21
  else
  if (X ((X 55 6) + 1) p1) = 3 then
    L_X0_doStep_87   KF p1 v4 0 X
  else
  if (X ((X 55 6) + 1) p1) = 4 then
    cm RIV (X 55 5) <|
    c2 v4 (X (X 55 5) 4) <|
    cl (f_X0_putOff (min v4 (X (X 55 5) 4)) X) fun _ X17 =>
    B_X0_doStep_170   p1 X17
  else
  if (X ((X 55 6) + 1) p1) = 5 then
    cm RUL (X 55 6) <|
    ax 60 p1 <|
    cl (f_X0_isSo (X ((X 55 6) + 1) p1) v2 v4 X) fun r12 X13 =>
    c1 r12 <| if r12 = 0 then
      cm RUL (X13 55 6) <|
      ax 60 p1 <|
      some ((X13 ((X13 55 6) + 4) p1) + 1, X13)
    else
      some (p1 + 1, X13)
  else
  if (X ((X 55 6) + 1) p1) = 6 then
    ax 60 p1 <| bd (ms X 58 p1 v4) fun X10 =>
    B_X0_doStep_170   p1 X10
  else
    cm RUL (X 55 6) <|
    ax 60 p1 <|
    cl (f_X0_isSo (X ((X 55 6) + 1) p1) v2 v4 X) fun r7 X8 =>
    c1 r7 <| if r7 = 0 then
      cm RUL (X8 55 6) <|
      ax 60 p1 <|
      some ((X8 ((X8 55 6) + 4) p1) + 1, X8)
    else
      some (p1 + 1, X8)
set_option maxRecDepth 20000 in
theorem gB_X0_doStep_170 {C : Cx} {V : Ev} {L : List Kd} (hC : Ok C V cX0_doStep RX0 5 5 154) (hR : Rt C V L (some .int) rI) (hL : LKc L) (x1 : Int) (X : Mem)  : G C V L 0 0 5 170 [(1, vI x1)] [] X (B_X0_doStep_170   x1 X) := by
  unfold B_X0_doStep_170
  refine g_iload_n (q := 0) hC dX0_doStep_170 rfl rfl ?_
  refine g_iconst (v := vI 1) hC dX0_doStep_171 rfl ?_
  refine g_iadd hC dX0_doStep_172 ?_
  exact g_iret hC hR dX0_doStep_173
set_option maxRecDepth 20000 in
theorem gB_X0_doStep_103 {C : Cx} {V : Ev} {L : List Kd} (hC : Ok C V cX0_doStep RX0 5 5 154) (hR : Rt C V L (some .int) rI) (hL : LKc L) (x1 : Int) (X : Mem)  : G C V L 0 0 5 103 [(1, vI x1)] [] X (B_X0_doStep_103   x1 X) := by
  unfold B_X0_doStep_103
  refine g_goto (tgt := 170) hC dX0_doStep_103 (by decide) ?_
  exact gB_X0_doStep_170 hC hR hL  x1 X
set_option maxRecDepth 20000 in
theorem gL_X0_doStep_87 {C : Cx} {V : Ev} {L : List Kd} (hC : Ok C V cX0_doStep RX0 5 5 154) (hR : Rt C V L (some .int) rI) (hL : LKc L) : ∀ (n : Nat) (x1 : Int) (x3 : Int) (x4 : Int) (X : Mem), G C V L 0 0 5 87 [(0, vR V.1 55), (1, vI x1), (3, vI x3), (4, vI x4)] [] X (L_X0_doStep_87   n x1 x3 x4 X) := by
  intro n
  induction n with
  | zero => intro x1 x3 x4 X; exact g_none
  | succ n ih =>
    intro x1 x3 x4 X
    rw [L_X0_doStep_87]
    refine g_iload (q := 3) hC dX0_doStep_87 rfl ?_
    refine g_iload_n (q := 2) hC dX0_doStep_89 rfl rfl ?_
    refine g_icmp_ge (tgt := 103) hC dX0_doStep_90 (by decide) ?_ ?_
    · refine g_sub [1] rfl ?_
      exact gB_X0_doStep_103 hC hR hL  x1 X
    · refine g_aload_n (q := 0) hC dX0_doStep_93 rfl rfl rfl ?_
      refine g_callVV (As := []) hC mv_X0_waitDay wml_RX0_127 (k_X0_waitDay _ V hL X) cf_X0 (at_55 hL) (by decide) ⟨Nat.zero_le _, Nat.zero_le _⟩ rfl rfl ⟨Nat.le_of_ble_eq_true rfl, Nat.le_of_ble_eq_true rfl⟩ (Nat.le_of_ble_eq_true rfl) dX0_doStep_94 (fun _ X19 => ?_)
      refine g_iinc (q := 3) hC dX0_doStep_97 rfl (by decide) rfl ?_
      refine g_goto (tgt := 87) hC dX0_doStep_100 (by decide) ?_
      refine g_sub [1, 2, 3, 0] rfl ?_
      exact ih x1 x3 (x4 + 1) X19
set_option maxRecDepth 20000 in
theorem k_X0_doStep (l : Launch) (V : Ev) {L : List Kd} (hL : LKc L) (p1 : Int) (X : Mem)  : Kt l V L yX0_doStep (.code yX0_doStep cX0_doStep 5 (some .int)) 5 154 [vR V.1 55, vI p1] rI X (f_X0_doStep p1 X) := by
  refine kt_of (own := RX0) (lv0 := [(0, vR V.1 55), (1, vI p1)]) (by decide) rfl (Nat.le_of_ble_eq_true rfl) rfl (fun C hCl hC hR => ?_)
  subst hCl
  unfold f_X0_doStep
  refine g_aload_n (q := 0) hC dX0_doStep_0 rfl rfl rfl ?_
  refine g_getD (k := 6) (kz := 6) hC cf_X0 (at_55 hL) (by decide) rfl (by decide) rfl wf_RX0_57 dX0_doStep_1 (g_cm (l := RUL) fun m1 => ?_)
  refine g_getS (k := 3) hC cf_X4 (ru_0 (rul_of hL m1)) (by decide) rfl (add_nn (ru_0 (rul_of hL m1))) (by decide) wf_RX0_114 dX0_doStep_4 ?_
  refine g_iload_n (q := 1) hC dX0_doStep_7 rfl rfl ?_
  refine g_iald hC (ru_2 (rul_of hL m1)) (by decide) dX0_doStep_8 ?_
  refine g_topI (fun v2 => ?_)
  refine g_istore_n hC dX0_doStep_9 rfl (by decide) rfl ?_
  refine g_aload_n (q := 1) hC dX0_doStep_10 rfl rfl rfl ?_
  refine g_getD (k := 6) (kz := 6) hC cf_X0 (at_55 hL) (by decide) rfl (by decide) rfl wf_RX0_57 dX0_doStep_11 (g_cm (l := RUL) fun m3 => ?_)
  refine g_getS (k := 4) hC cf_X4 (ru_0 (rul_of hL m3)) (by decide) rfl (add_nn (ru_0 (rul_of hL m3))) (by decide) wf_RX0_117 dX0_doStep_14 ?_
  refine g_iload_n (q := 2) hC dX0_doStep_17 rfl rfl ?_
  refine g_iald hC (ru_3 (rul_of hL m3)) (by decide) dX0_doStep_18 ?_
  refine g_topI (fun v4 => ?_)
  refine g_istore_n hC dX0_doStep_19 rfl (by decide) rfl ?_
  refine g_aload_n (q := 2) hC dX0_doStep_20 rfl rfl rfl ?_
  refine g_getD (k := 6) (kz := 6) hC cf_X0 (at_55 hL) (by decide) rfl (by decide) rfl wf_RX0_57 dX0_doStep_21 (g_cm (l := RUL) fun m5 => ?_)
  refine g_getS (k := 2) hC cf_X4 (ru_0 (rul_of hL m5)) (by decide) rfl (add_nn (ru_0 (rul_of hL m5))) (by decide) wf_RX0_99 dX0_doStep_24 ?_
  refine g_iload_n (q := 3) hC dX0_doStep_27 rfl rfl ?_
  refine g_iald hC (ru_1 (rul_of hL m5)) (by decide) dX0_doStep_28 ?_
  refine g_c1 (fun hz => ?_)
  refine g_ite (fun hq0 => ?_) (fun hq0 => ?_)
  · refine g_tabIn (j := 0) (tgt := 68) hC dX0_doStep_29 (by omega) rfl (by decide) (by decide) ?_
    refine g_aload_n (q := 2) hC dX0_doStep_68 rfl rfl rfl ?_
    refine g_iload_n (q := 1) hC dX0_doStep_69 rfl rfl ?_
    refine g_callVV (As := [vI v2]) hC mv_X0_takeSounding wml_RX0_120 (k_X0_takeSounding _ V hL v2 X) cf_X0 (at_55 hL) (by decide) ⟨Nat.zero_le _, Nat.zero_le _⟩ rfl rfl ⟨Nat.le_of_ble_eq_true rfl, Nat.le_of_ble_eq_true rfl⟩ (Nat.le_of_ble_eq_true rfl) dX0_doStep_70 (fun _ X23 => ?_)
    refine g_goto (tgt := 170) hC dX0_doStep_73 (by decide) ?_
    refine g_sub [3] rfl ?_
    exact gB_X0_doStep_170 hC hR hL  p1 X23
  · refine g_ite (fun hq1 => ?_) (fun hq1 => ?_)
    · refine g_tabIn (j := 1) (tgt := 76) hC dX0_doStep_29 (by omega) rfl (by decide) (by decide) ?_
      refine g_aload_n (q := 2) hC dX0_doStep_76 rfl rfl rfl ?_
      refine g_iload_n (q := 1) hC dX0_doStep_77 rfl rfl ?_
      refine g_callVV (As := [vI v2]) hC mv_X0_takeColour wml_RX0_124 (k_X0_takeColour _ V hL v2 X) cf_X0 (at_55 hL) (by decide) ⟨Nat.zero_le _, Nat.zero_le _⟩ rfl rfl ⟨Nat.le_of_ble_eq_true rfl, Nat.le_of_ble_eq_true rfl⟩ (Nat.le_of_ble_eq_true rfl) dX0_doStep_78 (fun _ X21 => ?_)
      refine g_goto (tgt := 170) hC dX0_doStep_81 (by decide) ?_
      refine g_sub [3] rfl ?_
      exact gB_X0_doStep_170 hC hR hL  p1 X21
    · refine g_ite (fun hq2 => ?_) (fun hq2 => ?_)
      · refine g_tabIn (j := 2) (tgt := 84) hC dX0_doStep_29 (by omega) rfl (by decide) (by decide) ?_
        refine g_iconst (v := vI 0) hC dX0_doStep_84 rfl ?_
        refine g_istore hC dX0_doStep_85 (by decide) rfl ?_
        refine g_sub [3, 4, 1, 0] rfl ?_
        exact gL_X0_doStep_87 hC hR hL  KF p1 v4 0 X
      · refine g_ite (fun hq3 => ?_) (fun hq3 => ?_)
        · refine g_tabIn (j := 3) (tgt := 106) hC dX0_doStep_29 (by omega) rfl (by decide) (by decide) ?_
          refine g_aload_n (q := 2) hC dX0_doStep_106 rfl rfl rfl ?_
          refine g_iload_n (q := 0) hC dX0_doStep_107 rfl rfl ?_
          refine g_aload_n (q := 2) hC dX0_doStep_108 rfl rfl rfl ?_
          refine g_getD (k := 5) (kz := 5) hC cf_X0 (at_55 hL) (by decide) rfl (by decide) rfl wf_RX0_52 dX0_doStep_109 (g_cm (l := RIV) fun m15 => ?_)
          refine g_getI (k := 4) (kz := 4) hC cf_X2 (rv_0 (riv_of hL m15)) (by decide) rfl (by decide) rfl wf_RX0_130 dX0_doStep_112 ?_
          refine g_mmin hC wml_RX0_133 (Nat.le_of_ble_eq_true rfl) (Nat.le_of_ble_eq_true rfl) ⟨Nat.zero_le _, Nat.zero_le _⟩ dX0_doStep_115 ?_
          refine g_callVV (As := [vI (min v4 (X (X 55 5) 4))]) hC mv_X0_putOff wml_RX0_136 (k_X0_putOff _ V hL (min v4 (X (X 55 5) 4)) X) cf_X0 (at_55 hL) (by decide) ⟨Nat.zero_le _, Nat.zero_le _⟩ rfl rfl ⟨Nat.le_of_ble_eq_true rfl, Nat.le_of_ble_eq_true rfl⟩ (Nat.le_of_ble_eq_true rfl) dX0_doStep_118 (fun _ X17 => ?_)
          refine g_goto (tgt := 170) hC dX0_doStep_121 (by decide) ?_
          refine g_sub [3] rfl ?_
          exact gB_X0_doStep_170 hC hR hL  p1 X17
        · refine g_ite (fun hq4 => ?_) (fun hq4 => ?_)
          · refine g_tabIn (j := 4) (tgt := 134) hC dX0_doStep_29 (by omega) rfl (by decide) (by decide) ?_
            refine g_aload_n (q := 2) hC dX0_doStep_134 rfl rfl rfl ?_
            refine g_aload_n (q := 2) hC dX0_doStep_135 rfl rfl rfl ?_
            refine g_getD (k := 6) (kz := 6) hC cf_X0 (at_55 hL) (by decide) rfl (by decide) rfl wf_RX0_57 dX0_doStep_136 (g_cm (l := RUL) fun m11 => ?_)
            refine g_getS (k := 2) hC cf_X4 (ru_0 (rul_of hL m11)) (by decide) rfl (add_nn (ru_0 (rul_of hL m11))) (by decide) wf_RX0_99 dX0_doStep_139 ?_
            refine g_iload_n (q := 3) hC dX0_doStep_142 rfl rfl ?_
            refine g_iald hC (ru_1 (rul_of hL m11)) (by decide) dX0_doStep_143 ?_
            refine g_iload_n (q := 1) hC dX0_doStep_144 rfl rfl ?_
            refine g_iload_n (q := 0) hC dX0_doStep_145 rfl rfl ?_
            refine g_callVI (As := [vI (X ((X 55 6) + 1) p1), vI v2, vI v4]) hC mv_X0_isSo wml_RX0_139 (k_X0_isSo _ V hL (X ((X 55 6) + 1) p1) v2 v4 X) cf_X0 (at_55 hL) (by decide) ⟨Nat.zero_le _, Nat.zero_le _⟩ rfl rfl ⟨Nat.le_of_ble_eq_true rfl, Nat.le_of_ble_eq_true rfl⟩ (Nat.le_of_ble_eq_true rfl) dX0_doStep_146 (fun r12 X13 => ?_)
            refine g_if_eq (tgt := 158) hC dX0_doStep_149 (by decide) ?_ ?_
            · refine g_aload_n (q := 2) hC dX0_doStep_158 rfl rfl rfl ?_
              refine g_getD (k := 6) (kz := 6) hC cf_X0 (at_55 hL) (by decide) rfl (by decide) rfl wf_RX0_57 dX0_doStep_159 (g_cm (l := RUL) fun m14 => ?_)
              refine g_getS (k := 5) hC cf_X4 (ru_0 (rul_of hL m14)) (by decide) rfl (add_nn (ru_0 (rul_of hL m14))) (by decide) wf_RX0_111 dX0_doStep_162 ?_
              refine g_iload_n (q := 3) hC dX0_doStep_165 rfl rfl ?_
              refine g_iald hC (ru_4 (rul_of hL m14)) (by decide) dX0_doStep_166 ?_
              refine g_iconst (v := vI 1) hC dX0_doStep_167 rfl ?_
              refine g_iadd hC dX0_doStep_168 ?_
              exact g_iret hC hR dX0_doStep_169
            · refine g_iload_n (q := 3) hC dX0_doStep_152 rfl rfl ?_
              refine g_iconst (v := vI 1) hC dX0_doStep_153 rfl ?_
              refine g_iadd hC dX0_doStep_154 ?_
              refine g_goto (tgt := 169) hC dX0_doStep_155 (by decide) ?_
              exact g_iret hC hR dX0_doStep_169
          · refine g_ite (fun hq5 => ?_) (fun hq5 => ?_)
            · refine g_tabIn (j := 5) (tgt := 124) hC dX0_doStep_29 (by omega) rfl (by decide) (by decide) ?_
              refine g_aload_n (q := 2) hC dX0_doStep_124 rfl rfl rfl ?_
              refine g_getS (k := 4) hC cf_X0 (at_55 hL) (by decide) rfl (by decide) (by decide) wf_RX0_19 dX0_doStep_125 ?_
              refine g_iload_n (q := 3) hC dX0_doStep_128 rfl rfl ?_
              refine g_iload_n (q := 0) hC dX0_doStep_129 rfl rfl ?_
              refine g_iast hC (at_58 hL) (by decide) dX0_doStep_130 (fun X10 => ?_)
              refine g_goto (tgt := 170) hC dX0_doStep_131 (by decide) ?_
              refine g_sub [3] rfl ?_
              exact gB_X0_doStep_170 hC hR hL  p1 X10
            · refine g_tabOut (tgt := 134) hC dX0_doStep_29 hz (by omega) (by decide) ?_
              refine g_aload_n (q := 2) hC dX0_doStep_134 rfl rfl rfl ?_
              refine g_aload_n (q := 2) hC dX0_doStep_135 rfl rfl rfl ?_
              refine g_getD (k := 6) (kz := 6) hC cf_X0 (at_55 hL) (by decide) rfl (by decide) rfl wf_RX0_57 dX0_doStep_136 (g_cm (l := RUL) fun m6 => ?_)
              refine g_getS (k := 2) hC cf_X4 (ru_0 (rul_of hL m6)) (by decide) rfl (add_nn (ru_0 (rul_of hL m6))) (by decide) wf_RX0_99 dX0_doStep_139 ?_
              refine g_iload_n (q := 3) hC dX0_doStep_142 rfl rfl ?_
              refine g_iald hC (ru_1 (rul_of hL m6)) (by decide) dX0_doStep_143 ?_
              refine g_iload_n (q := 1) hC dX0_doStep_144 rfl rfl ?_
              refine g_iload_n (q := 0) hC dX0_doStep_145 rfl rfl ?_
              refine g_callVI (As := [vI (X ((X 55 6) + 1) p1), vI v2, vI v4]) hC mv_X0_isSo wml_RX0_139 (k_X0_isSo _ V hL (X ((X 55 6) + 1) p1) v2 v4 X) cf_X0 (at_55 hL) (by decide) ⟨Nat.zero_le _, Nat.zero_le _⟩ rfl rfl ⟨Nat.le_of_ble_eq_true rfl, Nat.le_of_ble_eq_true rfl⟩ (Nat.le_of_ble_eq_true rfl) dX0_doStep_146 (fun r7 X8 => ?_)
              refine g_if_eq (tgt := 158) hC dX0_doStep_149 (by decide) ?_ ?_
              · refine g_aload_n (q := 2) hC dX0_doStep_158 rfl rfl rfl ?_
                refine g_getD (k := 6) (kz := 6) hC cf_X0 (at_55 hL) (by decide) rfl (by decide) rfl wf_RX0_57 dX0_doStep_159 (g_cm (l := RUL) fun m9 => ?_)
                refine g_getS (k := 5) hC cf_X4 (ru_0 (rul_of hL m9)) (by decide) rfl (add_nn (ru_0 (rul_of hL m9))) (by decide) wf_RX0_111 dX0_doStep_162 ?_
                refine g_iload_n (q := 3) hC dX0_doStep_165 rfl rfl ?_
                refine g_iald hC (ru_4 (rul_of hL m9)) (by decide) dX0_doStep_166 ?_
                refine g_iconst (v := vI 1) hC dX0_doStep_167 rfl ?_
                refine g_iadd hC dX0_doStep_168 ?_
                exact g_iret hC hR dX0_doStep_169
              · refine g_iload_n (q := 3) hC dX0_doStep_152 rfl rfl ?_
                refine g_iconst (v := vI 1) hC dX0_doStep_153 rfl ?_
                refine g_iadd hC dX0_doStep_154 ?_
                refine g_goto (tgt := 169) hC dX0_doStep_155 (by decide) ?_
                exact g_iret hC hR dX0_doStep_169
def B_X0_follow_106 (go4 : Int → Int → Mem → Option (Int × Mem)) (x1 : Int) (x2 : Int) (X : Mem) : Option (Int × Mem) :=
  go4 x1 (x2 + 1) X
def B_X0_follow_87  (X : Mem) : Option (Int × Mem) :=
  cl (f_X0_goThrough X) fun r7 X8 =>
  some (r7, X8)
def B_X0_follow_61  (X : Mem) : Option (Int × Mem) :=
  ax 7 6 <| bd (ms X 56 6 1) fun X9 =>
  some (3, X9)
def L_X0_follow_4 : Nat → Int → Int → Mem → Option (Int × Mem)
  | 0, _, _, _ => none
  | n + 1, x1, x2, X =>
    c2 x2 1000000 <| if 1000000 ≤ x2 then
      some (3, X)
    else
      c1 x1 <| if x1 < 0 then
        some (3, X)
      else
        cm RUL (X 55 6) <|
        c2 x1 (X (X 55 6) 0) <| if x1 < (X (X 55 6) 0) then
          cm RUL (X 55 6) <|
          ax 60 x1 <|
          bd (X ((X 55 6) + 1) x1) fun v3 =>
          c1 v3 <| if ¬ v3 = 0 then
            ax 7 1 <|
            c2 (X 56 1) 100 <| if (X 56 1) < 100 then
              ax 7 1 <|
              ax 7 1 <| bd (ms X 56 1 ((X 56 1) + 1)) fun X4 =>
              c2 v3 7 <| if ¬ v3 = 7 then
                c2 v3 8 <| if ¬ v3 = 8 then
                  cl (f_X0_doStep x1 X4) fun r5 X6 =>
                  B_X0_follow_106  (fun x1 x2 X => L_X0_follow_4   n x1 x2 X) r5 x2 X6
                else
                  some (3, X4)
              else
                B_X0_follow_87   X4
            else
              B_X0_follow_61   X
          else
            cl (f_X0_lineBehindEnd x1 X) fun r10 X11 =>
            B_X0_follow_106  (fun x1 x2 X => L_X0_follow_4   n x1 x2 X) r10 x2 X11
        else
          some (3, X)
def f_X0_follow  (X : Mem) : Option (Int × Mem) :=
  L_X0_follow_4   KF 0 0 X
set_option maxRecDepth 20000 in
theorem gB_X0_follow_106 {C : Cx} {V : Ev} {L : List Kd} (hC : Ok C V cX0_follow RX0 4 6 178) (hR : Rt C V L (some .int) rI) (hL : LKc L) {go4 : Int → Int → Mem → Option (Int × Mem)} (hgo4 : ∀ (x1 : Int) (x2 : Int) (X : Mem), G C V L 0 0 4 4 [(0, vR V.1 55), (1, vI x1), (2, vI x2)] [] X (go4 x1 x2 X)) (x1 : Int) (x2 : Int) (X : Mem)  : G C V L 0 0 4 106 [(0, vR V.1 55), (1, vI x1), (2, vI x2)] [] X (B_X0_follow_106  go4 x1 x2 X) := by
  unfold B_X0_follow_106
  refine g_iinc (q := 2) hC dX0_follow_106 rfl (by decide) rfl ?_
  refine g_goto (tgt := 4) hC dX0_follow_109 (by decide) ?_
  refine g_sub [1, 2, 0] rfl ?_
  exact hgo4 x1 (x2 + 1) X
set_option maxRecDepth 20000 in
theorem gB_X0_follow_87 {C : Cx} {V : Ev} {L : List Kd} (hC : Ok C V cX0_follow RX0 4 6 178) (hR : Rt C V L (some .int) rI) (hL : LKc L)  (X : Mem)  : G C V L 0 0 4 87 [(0, vR V.1 55)] [] X (B_X0_follow_87    X) := by
  unfold B_X0_follow_87
  refine g_aload_n (q := 0) hC dX0_follow_87 rfl rfl rfl ?_
  refine g_callVI (As := []) hC mv_X0_goThrough wml_RX0_105 (k_X0_goThrough _ V hL X) cf_X0 (at_55 hL) (by decide) ⟨Nat.zero_le _, Nat.zero_le _⟩ rfl rfl ⟨Nat.le_of_ble_eq_true rfl, Nat.le_of_ble_eq_true rfl⟩ (Nat.le_of_ble_eq_true rfl) dX0_follow_88 (fun r7 X8 => ?_)
  exact g_iret hC hR dX0_follow_91
set_option maxRecDepth 20000 in
theorem gB_X0_follow_61 {C : Cx} {V : Ev} {L : List Kd} (hC : Ok C V cX0_follow RX0 4 6 178) (hR : Rt C V L (some .int) rI) (hL : LKc L)  (X : Mem)  : G C V L 0 0 4 61 [(0, vR V.1 55)] [] X (B_X0_follow_61    X) := by
  unfold B_X0_follow_61
  refine g_aload_n (q := 0) hC dX0_follow_61 rfl rfl rfl ?_
  refine g_getS (k := 2) hC cf_X0 (at_55 hL) (by decide) rfl (by decide) (by decide) wf_RX0_11 dX0_follow_62 ?_
  refine g_bipush (v := vI 6) hC dX0_follow_65 rfl ?_
  refine g_iconst (v := vI 1) hC dX0_follow_67 rfl ?_
  refine g_iast hC (at_56 hL) (by decide) dX0_follow_68 (fun X9 => ?_)
  refine g_iconst (v := vI 3) hC dX0_follow_69 rfl ?_
  exact g_iret hC hR dX0_follow_70
set_option maxRecDepth 20000 in
theorem gL_X0_follow_4 {C : Cx} {V : Ev} {L : List Kd} (hC : Ok C V cX0_follow RX0 4 6 178) (hR : Rt C V L (some .int) rI) (hL : LKc L) : ∀ (n : Nat) (x1 : Int) (x2 : Int) (X : Mem), G C V L 0 0 4 4 [(0, vR V.1 55), (1, vI x1), (2, vI x2)] [] X (L_X0_follow_4   n x1 x2 X) := by
  intro n
  induction n with
  | zero => intro x1 x2 X; exact g_none
  | succ n ih =>
    intro x1 x2 X
    rw [L_X0_follow_4]
    refine g_iload_n (q := 2) hC dX0_follow_4 rfl rfl ?_
    refine g_ldc (n := 1000000) hC wk_RX0_93 rfl dX0_follow_5 ?_
    refine g_icmp_ge (tgt := 112) hC dX0_follow_7 (by decide) ?_ ?_
    · refine g_iconst (v := vI 3) hC dX0_follow_112 rfl ?_
      exact g_iret hC hR dX0_follow_113
    · refine g_iload_n (q := 1) hC dX0_follow_10 rfl rfl ?_
      refine g_if_lt (tgt := 25) hC dX0_follow_11 (by decide) ?_ ?_
      · refine g_iconst (v := vI 3) hC dX0_follow_25 rfl ?_
        exact g_iret hC hR dX0_follow_26
      · refine g_iload_n (q := 1) hC dX0_follow_14 rfl rfl ?_
        refine g_aload_n (q := 0) hC dX0_follow_15 rfl rfl rfl ?_
        refine g_getD (k := 6) (kz := 6) hC cf_X0 (at_55 hL) (by decide) rfl (by decide) rfl wf_RX0_57 dX0_follow_16 (g_cm (l := RUL) fun m1 => ?_)
        refine g_getI (k := 0) (kz := 0) hC cf_X4 (ru_0 (rul_of hL m1)) (by decide) rfl (by decide) rfl wf_RX0_94 dX0_follow_19 ?_
        refine g_icmp_lt (tgt := 27) hC dX0_follow_22 (by decide) ?_ ?_
        · refine g_aload_n (q := 0) hC dX0_follow_27 rfl rfl rfl ?_
          refine g_getD (k := 6) (kz := 6) hC cf_X0 (at_55 hL) (by decide) rfl (by decide) rfl wf_RX0_57 dX0_follow_28 (g_cm (l := RUL) fun m2 => ?_)
          refine g_getS (k := 2) hC cf_X4 (ru_0 (rul_of hL m2)) (by decide) rfl (add_nn (ru_0 (rul_of hL m2))) (by decide) wf_RX0_99 dX0_follow_31 ?_
          refine g_iload_n (q := 1) hC dX0_follow_34 rfl rfl ?_
          refine g_iald hC (ru_1 (rul_of hL m2)) (by decide) dX0_follow_35 ?_
          refine g_topI (fun v3 => ?_)
          refine g_istore_n hC dX0_follow_36 rfl (by decide) rfl ?_
          refine g_iload_n (q := 0) hC dX0_follow_37 rfl rfl ?_
          refine g_if_ne (tgt := 50) hC dX0_follow_38 (by decide) ?_ ?_
          · refine g_aload_n (q := 1) hC dX0_follow_50 rfl rfl rfl ?_
            refine g_getS (k := 2) hC cf_X0 (at_55 hL) (by decide) rfl (by decide) (by decide) wf_RX0_11 dX0_follow_51 ?_
            refine g_iconst (v := vI 1) hC dX0_follow_54 rfl ?_
            refine g_iald hC (at_56 hL) (by decide) dX0_follow_55 ?_
            refine g_bipush (v := vI 100) hC dX0_follow_56 rfl ?_
            refine g_icmp_lt (tgt := 71) hC dX0_follow_58 (by decide) ?_ ?_
            · refine g_aload_n (q := 1) hC dX0_follow_71 rfl rfl rfl ?_
              refine g_getS (k := 2) hC cf_X0 (at_55 hL) (by decide) rfl (by decide) (by decide) wf_RX0_11 dX0_follow_72 ?_
              refine g_iconst (v := vI 1) hC dX0_follow_75 rfl ?_
              refine g_dup2 hC dX0_follow_76 rfl rfl ?_
              refine g_iald hC (at_56 hL) (by decide) dX0_follow_77 ?_
              refine g_iconst (v := vI 1) hC dX0_follow_78 rfl ?_
              refine g_iadd hC dX0_follow_79 ?_
              refine g_iast hC (at_56 hL) (by decide) dX0_follow_80 (fun X4 => ?_)
              refine g_iload_n (q := 0) hC dX0_follow_81 rfl rfl ?_
              refine g_bipush (v := vI 7) hC dX0_follow_82 rfl ?_
              refine g_icmp_ne (tgt := 92) hC dX0_follow_84 (by decide) ?_ ?_
              · refine g_iload_n (q := 0) hC dX0_follow_92 rfl rfl ?_
                refine g_bipush (v := vI 8) hC dX0_follow_93 rfl ?_
                refine g_icmp_ne (tgt := 100) hC dX0_follow_95 (by decide) ?_ ?_
                · refine g_aload_n (q := 1) hC dX0_follow_100 rfl rfl rfl ?_
                  refine g_iload_n (q := 2) hC dX0_follow_101 rfl rfl ?_
                  refine g_callVI (As := [vI x1]) hC mv_X0_doStep wml_RX0_108 (k_X0_doStep _ V hL x1 X4) cf_X0 (at_55 hL) (by decide) ⟨Nat.zero_le _, Nat.zero_le _⟩ rfl rfl ⟨Nat.le_of_ble_eq_true rfl, Nat.le_of_ble_eq_true rfl⟩ (Nat.le_of_ble_eq_true rfl) dX0_follow_102 (fun r5 X6 => ?_)
                  refine g_istore_n hC dX0_follow_105 rfl (by decide) rfl ?_
                  refine g_sub [2, 0, 3] rfl ?_
                  exact gB_X0_follow_106 hC hR hL ih r5 x2 X6
                · refine g_iconst (v := vI 3) hC dX0_follow_98 rfl ?_
                  exact g_iret hC hR dX0_follow_99
              · refine g_sub [1] rfl ?_
                exact gB_X0_follow_87 hC hR hL  X4
            · refine g_sub [1] rfl ?_
              exact gB_X0_follow_61 hC hR hL  X
          · refine g_aload_n (q := 1) hC dX0_follow_41 rfl rfl rfl ?_
            refine g_iload_n (q := 2) hC dX0_follow_42 rfl rfl ?_
            refine g_callVI (As := [vI x1]) hC mv_X0_lineBehindEnd wml_RX0_102 (k_X0_lineBehindEnd _ V hL x1 X) cf_X0 (at_55 hL) (by decide) ⟨Nat.zero_le _, Nat.zero_le _⟩ rfl rfl ⟨Nat.le_of_ble_eq_true rfl, Nat.le_of_ble_eq_true rfl⟩ (Nat.le_of_ble_eq_true rfl) dX0_follow_43 (fun r10 X11 => ?_)
            refine g_istore_n hC dX0_follow_46 rfl (by decide) rfl ?_
            refine g_goto (tgt := 106) hC dX0_follow_47 (by decide) ?_
            refine g_sub [2, 0, 3] rfl ?_
            exact gB_X0_follow_106 hC hR hL ih r10 x2 X11
        · refine g_iconst (v := vI 3) hC dX0_follow_25 rfl ?_
          exact g_iret hC hR dX0_follow_26
set_option maxRecDepth 20000 in
theorem k_X0_follow (l : Launch) (V : Ev) {L : List Kd} (hL : LKc L)  (X : Mem)  : Kt l V L yX0_follow (.code yX0_follow cX0_follow 4 (some .int)) 6 178 [vR V.1 55] rI X (f_X0_follow  X) := by
  refine kt_of (own := RX0) (lv0 := [(0, vR V.1 55)]) (by decide) rfl (Nat.le_of_ble_eq_true rfl) rfl (fun C hCl hC hR => ?_)
  subst hCl
  unfold f_X0_follow
  refine g_iconst (v := vI 0) hC dX0_follow_0 rfl ?_
  refine g_istore_n hC dX0_follow_1 rfl (by decide) rfl ?_
  refine g_iconst (v := vI 0) hC dX0_follow_2 rfl ?_
  refine g_istore_n hC dX0_follow_3 rfl (by decide) rfl ?_
  refine g_sub [2, 1, 0] rfl ?_
  exact gL_X0_follow_4 hC hR hL  KF 0 0 X
def B_X11_play_27  (X : Mem) : Option (Int × Mem) :=
  cl (f_X11_fail 1 X) fun r3 X4 =>
  some (r3, X4)
def f_X11_play (p1 : Int) (p2 : Int) (p3 : Int) (X : Mem) : Option (Int × Mem) :=
  cl (f_X11_isCell p1 X) fun r1 X2 =>
  c1 r1 <| if r1 = 0 then
    B_X11_play_27   X2
  else
    cl (f_X11_isCell p2 X2) fun r5 X6 =>
    c1 r5 <| if r5 = 0 then
      B_X11_play_27   X6
    else
      c1 p3 <| if p3 < 0 then
        B_X11_play_27   X6
      else
        c2 p3 9999 <| if p3 ≤ 9999 then
          cl (f_X0_begin 2 p1 p2 p3 X6) fun _ X8 =>
          cl (f_X0_follow X8) fun r9 X10 =>
          cpk 7 7 0 0 7 <| bd (mc X10 56 0 60 0 7) fun X11 =>
          cz 1 <| bd (ms X11 0 14 1) fun X12 =>
          cl (f_X11_answer r9 X12) fun r13 X14 =>
          some (r13, X14)
        else
          B_X11_play_27   X6
set_option maxRecDepth 20000 in
theorem gB_X11_play_27 {C : Cx} {V : Ev} {L : List Kd} (hC : Ok C V cX11_play RX11 5 7 201) (hR : Rt C V L (some .int) rI) (hL : LKc L)  (X : Mem)  : G C V L 0 0 5 27 [(0, vR V.1 0)] [] X (B_X11_play_27    X) := by
  unfold B_X11_play_27
  refine g_aload_n (q := 0) hC dX11_play_27 rfl rfl rfl ?_
  refine g_iconst (v := vI 1) hC dX11_play_28 rfl ?_
  refine g_callVI (As := [vI 1]) hC mv_X11_fail wml_RX11_162 (k_X11_fail _ V hL 1 X) cf_X11 (at_0 hL) (by decide) ⟨Nat.zero_le _, Nat.zero_le _⟩ rfl rfl ⟨Nat.le_of_ble_eq_true rfl, Nat.le_of_ble_eq_true rfl⟩ (Nat.le_of_ble_eq_true rfl) dX11_play_29 (fun r3 X4 => ?_)
  exact g_iret hC hR dX11_play_32
set_option maxRecDepth 20000 in
theorem k_X11_play (l : Launch) (V : Ev) {L : List Kd} (hL : LKc L) (p1 : Int) (p2 : Int) (p3 : Int) (X : Mem)  : Kt l V L yX11_play (.code yX11_play cX11_play 5 (some .int)) 7 201 [vR V.1 0, vI p1, vI p2, vI p3] rI X (f_X11_play p1 p2 p3 X) := by
  refine kt_of (own := RX11) (lv0 := [(0, vR V.1 0), (1, vI p1), (2, vI p2), (3, vI p3)]) (by decide) rfl (Nat.le_of_ble_eq_true rfl) rfl (fun C hCl hC hR => ?_)
  subst hCl
  unfold f_X11_play
  refine g_aload_n (q := 0) hC dX11_play_0 rfl rfl rfl ?_
  refine g_iload_n (q := 1) hC dX11_play_1 rfl rfl ?_
  refine g_callVI (As := [vI p1]) hC mv_X11_isCell wml_RX11_278 (k_X11_isCell _ V hL p1 X) cf_X11 (at_0 hL) (by decide) ⟨Nat.zero_le _, Nat.zero_le _⟩ rfl rfl ⟨Nat.le_of_ble_eq_true rfl, Nat.le_of_ble_eq_true rfl⟩ (Nat.le_of_ble_eq_true rfl) dX11_play_2 (fun r1 X2 => ?_)
  refine g_if_eq (tgt := 27) hC dX11_play_5 (by decide) ?_ ?_
  · refine g_sub [0] rfl ?_
    exact gB_X11_play_27 hC hR hL  X2
  · refine g_aload_n (q := 0) hC dX11_play_8 rfl rfl rfl ?_
    refine g_iload_n (q := 2) hC dX11_play_9 rfl rfl ?_
    refine g_callVI (As := [vI p2]) hC mv_X11_isCell wml_RX11_278 (k_X11_isCell _ V hL p2 X2) cf_X11 (at_0 hL) (by decide) ⟨Nat.zero_le _, Nat.zero_le _⟩ rfl rfl ⟨Nat.le_of_ble_eq_true rfl, Nat.le_of_ble_eq_true rfl⟩ (Nat.le_of_ble_eq_true rfl) dX11_play_10 (fun r5 X6 => ?_)
    refine g_if_eq (tgt := 27) hC dX11_play_13 (by decide) ?_ ?_
    · refine g_sub [0] rfl ?_
      exact gB_X11_play_27 hC hR hL  X6
    · refine g_iload_n (q := 3) hC dX11_play_16 rfl rfl ?_
      refine g_if_lt (tgt := 27) hC dX11_play_17 (by decide) ?_ ?_
      · refine g_sub [0] rfl ?_
        exact gB_X11_play_27 hC hR hL  X6
      · refine g_iload_n (q := 3) hC dX11_play_20 rfl rfl ?_
        refine g_sipush (v := vI 9999) hC dX11_play_21 rfl ?_
        refine g_icmp_le (tgt := 33) hC dX11_play_24 (by decide) ?_ ?_
        · refine g_aload_n (q := 0) hC dX11_play_33 rfl rfl rfl ?_
          refine g_getS (k := 11) hC cf_X11 (at_0 hL) (by decide) rfl (by decide) (by decide) wf_RX11_98 dX11_play_34 ?_
          refine g_aload_n (q := 0) hC dX11_play_37 rfl rfl rfl ?_
          refine g_getS (k := 1) hC cf_X11 (at_0 hL) (by decide) rfl (by decide) (by decide) wf_RX11_18 dX11_play_38 ?_
          refine g_iload_n (q := 1) hC dX11_play_41 rfl rfl ?_
          refine g_iload_n (q := 2) hC dX11_play_42 rfl rfl ?_
          refine g_iload_n (q := 3) hC dX11_play_43 rfl rfl ?_
          refine g_callVV (As := [vR V.1 2, vI p1, vI p2, vI p3]) hC mv_X0_begin wml_RX11_408 (k_X0_begin _ V hL 2 p1 p2 p3 X6 (sta_of hL (by decide))) cf_X0 (at_55 hL) (by decide) ⟨Nat.zero_le _, Nat.zero_le _⟩ rfl rfl ⟨Nat.le_of_ble_eq_true rfl, Nat.le_of_ble_eq_true rfl⟩ (Nat.le_of_ble_eq_true rfl) dX11_play_44 (fun _ X8 => ?_)
          refine g_aload_n (q := 0) hC dX11_play_47 rfl rfl rfl ?_
          refine g_getS (k := 11) hC cf_X11 (at_0 hL) (by decide) rfl (by decide) (by decide) wf_RX11_98 dX11_play_48 ?_
          refine g_callVI (As := []) hC mv_X0_follow wml_RX11_411 (k_X0_follow _ V hL X8) cf_X0 (at_55 hL) (by decide) ⟨Nat.zero_le _, Nat.zero_le _⟩ rfl rfl ⟨Nat.le_of_ble_eq_true rfl, Nat.le_of_ble_eq_true rfl⟩ (Nat.le_of_ble_eq_true rfl) dX11_play_51 (fun r9 X10 => ?_)
          refine g_istore hC dX11_play_54 (by decide) rfl ?_
          refine g_aload_n (q := 1) hC dX11_play_56 rfl rfl rfl ?_
          refine g_getS (k := 11) hC cf_X11 (at_0 hL) (by decide) rfl (by decide) (by decide) wf_RX11_98 dX11_play_57 ?_
          refine g_getS (k := 2) hC cf_X0 (at_55 hL) (by decide) rfl (by decide) (by decide) wf_RX11_414 dX11_play_60 ?_
          refine g_iconst (v := vI 0) hC dX11_play_63 rfl ?_
          refine g_aload_n (q := 1) hC dX11_play_64 rfl rfl rfl ?_
          refine g_getS (k := 13) hC cf_X11 (at_0 hL) (by decide) rfl (by decide) (by decide) wf_RX11_106 dX11_play_65 ?_
          refine g_iconst (v := vI 0) hC dX11_play_68 rfl ?_
          refine g_bipush (v := vI 7) hC dX11_play_69 rfl ?_
          refine g_copyi hC wml_RX11_176 (at_56 hL) (at_60 hL) (by decide) (by decide) (Nat.le_of_ble_eq_true rfl) (Nat.le_of_ble_eq_true rfl) dX11_play_71 (fun X11 => ?_)
          refine g_aload_n (q := 1) hC dX11_play_74 rfl rfl rfl ?_
          refine g_iconst (v := vI 1) hC dX11_play_75 rfl ?_
          refine g_putZ (k := 14) (kz := 14) hC cf_X11 (at_0 hL) (by decide) rfl (by decide) rfl wf_RX11_110 rfl rfl dX11_play_76 (fun X12 => ?_)
          refine g_aload_n (q := 1) hC dX11_play_79 rfl rfl rfl ?_
          refine g_iload (q := 0) hC dX11_play_80 rfl ?_
          refine g_callVI (As := [vI r9]) hC mv_X11_answer wml_RX11_200 (k_X11_answer _ V hL r9 X12) cf_X11 (at_0 hL) (by decide) ⟨Nat.zero_le _, Nat.zero_le _⟩ rfl rfl ⟨Nat.le_of_ble_eq_true rfl, Nat.le_of_ble_eq_true rfl⟩ (Nat.le_of_ble_eq_true rfl) dX11_play_82 (fun r13 X14 => ?_)
          exact g_iret hC hR dX11_play_85
        · refine g_sub [0] rfl ?_
          exact gB_X11_play_27 hC hR hL  X6
def B_X11_played_10  (X : Mem) : Option (Int × Mem) :=
  cl (f_X11_fail 1 X) fun r1 X2 =>
  some (r1, X2)
def f_X11_played (p1 : Int) (X : Mem) : Option (Int × Mem) :=
  c1 p1 <| if p1 < 0 then
    B_X11_played_10   X
  else
    c2 p1 7 <| if p1 < 7 then
      c1 (X 0 14) <| if (X 0 14) = 0 then
        cl (f_X11_fail 6 X) fun r3 X4 =>
        some (r3, X4)
      else
        ax 7 p1 <|
        cl (f_X11_answer (X 60 p1) X) fun r5 X6 =>
        some (r5, X6)
    else
      B_X11_played_10   X
set_option maxRecDepth 20000 in
theorem gB_X11_played_10 {C : Cx} {V : Ev} {L : List Kd} (hC : Ok C V cX11_played RX11 2 1 21) (hR : Rt C V L (some .int) rI) (hL : LKc L)  (X : Mem)  : G C V L 0 0 2 10 [(0, vR V.1 0)] [] X (B_X11_played_10    X) := by
  unfold B_X11_played_10
  refine g_aload_n (q := 0) hC dX11_played_10 rfl rfl rfl ?_
  refine g_iconst (v := vI 1) hC dX11_played_11 rfl ?_
  refine g_callVI (As := [vI 1]) hC mv_X11_fail wml_RX11_162 (k_X11_fail _ V hL 1 X) cf_X11 (at_0 hL) (by decide) ⟨Nat.zero_le _, Nat.zero_le _⟩ rfl rfl ⟨Nat.le_of_ble_eq_true rfl, Nat.le_of_ble_eq_true rfl⟩ (Nat.le_of_ble_eq_true rfl) dX11_played_12 (fun r1 X2 => ?_)
  exact g_iret hC hR dX11_played_15
set_option maxRecDepth 20000 in
theorem k_X11_played (l : Launch) (V : Ev) {L : List Kd} (hL : LKc L) (p1 : Int) (X : Mem)  : Kt l V L yX11_played (.code yX11_played cX11_played 2 (some .int)) 1 21 [vR V.1 0, vI p1] rI X (f_X11_played p1 X) := by
  refine kt_of (own := RX11) (lv0 := [(0, vR V.1 0), (1, vI p1)]) (by decide) rfl (Nat.le_of_ble_eq_true rfl) rfl (fun C hCl hC hR => ?_)
  subst hCl
  unfold f_X11_played
  refine g_iload_n (q := 1) hC dX11_played_0 rfl rfl ?_
  refine g_if_lt (tgt := 10) hC dX11_played_1 (by decide) ?_ ?_
  · refine g_sub [0] rfl ?_
    exact gB_X11_played_10 hC hR hL  X
  · refine g_iload_n (q := 1) hC dX11_played_4 rfl rfl ?_
    refine g_bipush (v := vI 7) hC dX11_played_5 rfl ?_
    refine g_icmp_lt (tgt := 16) hC dX11_played_7 (by decide) ?_ ?_
    · refine g_aload_n (q := 0) hC dX11_played_16 rfl rfl rfl ?_
      refine g_getI (k := 14) (kz := 14) hC cf_X11 (at_0 hL) (by decide) rfl (by decide) rfl wf_RX11_110 dX11_played_17 ?_
      refine g_if_eq (tgt := 36) hC dX11_played_20 (by decide) ?_ ?_
      · refine g_aload_n (q := 0) hC dX11_played_36 rfl rfl rfl ?_
        refine g_bipush (v := vI 6) hC dX11_played_37 rfl ?_
        refine g_callVI (As := [vI 6]) hC mv_X11_fail wml_RX11_162 (k_X11_fail _ V hL 6 X) cf_X11 (at_0 hL) (by decide) ⟨Nat.zero_le _, Nat.zero_le _⟩ rfl rfl ⟨Nat.le_of_ble_eq_true rfl, Nat.le_of_ble_eq_true rfl⟩ (Nat.le_of_ble_eq_true rfl) dX11_played_39 (fun r3 X4 => ?_)
        exact g_iret hC hR dX11_played_42
      · refine g_aload_n (q := 0) hC dX11_played_23 rfl rfl rfl ?_
        refine g_aload_n (q := 0) hC dX11_played_24 rfl rfl rfl ?_
        refine g_getS (k := 13) hC cf_X11 (at_0 hL) (by decide) rfl (by decide) (by decide) wf_RX11_106 dX11_played_25 ?_
        refine g_iload_n (q := 1) hC dX11_played_28 rfl rfl ?_
        refine g_iald hC (at_60 hL) (by decide) dX11_played_29 ?_
        refine g_callVI (As := [vI (X 60 p1)]) hC mv_X11_answer wml_RX11_200 (k_X11_answer _ V hL (X 60 p1) X) cf_X11 (at_0 hL) (by decide) ⟨Nat.zero_le _, Nat.zero_le _⟩ rfl rfl ⟨Nat.le_of_ble_eq_true rfl, Nat.le_of_ble_eq_true rfl⟩ (Nat.le_of_ble_eq_true rfl) dX11_played_30 (fun r5 X6 => ?_)
        refine g_goto (tgt := 42) hC dX11_played_33 (by decide) ?_
        exact g_iret hC hR dX11_played_42
    · refine g_sub [0] rfl ?_
      exact gB_X11_played_10 hC hR hL  X
def B_X11_tally_63  (X : Mem) : Option (Int × Mem) :=
  cl (f_X11_fail 1 X) fun r3 X4 =>
  some (r3, X4)
def B_X11_tally_120 (x6 : Int) (X : Mem) : Option (Int × Mem) :=
  cl (f_X11_answer x6 X) fun r7 X8 =>
  some (r7, X8)
def B_X11_tally_114 (go75 : Int → Int → Int → Int → Int → Int → Int → Mem → Option (Int × Mem)) (x1 : Int) (x2 : Int) (x3 : Int) (x4 : Int) (x5 : Int) (x6 : Int) (x7 : Int) (X : Mem) : Option (Int × Mem) :=
  go75 x1 x2 x3 x4 x5 x6 (x7 + 1) X
def L_X11_tally_75 : Nat → Int → Int → Int → Int → Int → Int → Int → Mem → Option (Int × Mem)
  | 0, _, _, _, _, _, _, _, _ => none
  | n + 1, x1, x2, x3, x4, x5, x6, x7, X =>
    c2 x7 x4 <| if x4 ≤ x7 then
      B_X11_tally_120   x6 X
    else
      cl (f_X0_begin 2 x1 x2 (x3 + x7) X) fun _ X10 =>
      cl (f_X0_follow X10) fun r11 X12 =>
      c2 r11 x5 <| if ¬ r11 = x5 then
        B_X11_tally_114  (fun x1 x2 x3 x4 x5 x6 x7 X => L_X11_tally_75   n x1 x2 x3 x4 x5 x6 x7 X) x1 x2 x3 x4 x5 x6 x7 X12
      else
        B_X11_tally_114  (fun x1 x2 x3 x4 x5 x6 x7 X => L_X11_tally_75   n x1 x2 x3 x4 x5 x6 x7 X) x1 x2 x3 x4 x5 (x6 + 1) x7 X12
def f_X11_tally (p1 : Int) (p2 : Int) (p3 : Int) (p4 : Int) (p5 : Int) (X : Mem) : Option (Int × Mem) :=
  cl (f_X11_isCell p1 X) fun r1 X2 =>
  c1 r1 <| if r1 = 0 then
    B_X11_tally_63   X2
  else
    cl (f_X11_isCell p2 X2) fun r5 X6 =>
    c1 r5 <| if r5 = 0 then
      B_X11_tally_63   X6
    else
      c1 p3 <| if p3 < 0 then
        B_X11_tally_63   X6
      else
        c2 p3 9999 <| if 9999 < p3 then
          B_X11_tally_63   X6
        else
          c2 p4 1 <| if p4 < 1 then
            B_X11_tally_63   X6
          else
            c2 p4 30 <| if 30 < p4 then
              B_X11_tally_63   X6
            else
              c1 p5 <| if p5 < 0 then
                B_X11_tally_63   X6
              else
                c2 p5 3 <| if 3 < p5 then
                  B_X11_tally_63   X6
                else
                  c2 ((p3 + p4) - 1) 9999 <| if ((p3 + p4) - 1) ≤ 9999 then
                    L_X11_tally_75   KF p1 p2 p3 p4 p5 0 0 X6
                  else
                    B_X11_tally_63   X6
set_option maxRecDepth 20000 in
theorem gB_X11_tally_63 {C : Cx} {V : Ev} {L : List Kd} (hC : Ok C V cX11_tally RX11 8 7 201) (hR : Rt C V L (some .int) rI) (hL : LKc L)  (X : Mem)  : G C V L 0 0 8 63 [(0, vR V.1 0)] [] X (B_X11_tally_63    X) := by
  unfold B_X11_tally_63
  refine g_aload_n (q := 0) hC dX11_tally_63 rfl rfl rfl ?_
  refine g_iconst (v := vI 1) hC dX11_tally_64 rfl ?_
  refine g_callVI (As := [vI 1]) hC mv_X11_fail wml_RX11_162 (k_X11_fail _ V hL 1 X) cf_X11 (at_0 hL) (by decide) ⟨Nat.zero_le _, Nat.zero_le _⟩ rfl rfl ⟨Nat.le_of_ble_eq_true rfl, Nat.le_of_ble_eq_true rfl⟩ (Nat.le_of_ble_eq_true rfl) dX11_tally_65 (fun r3 X4 => ?_)
  exact g_iret hC hR dX11_tally_68
set_option maxRecDepth 20000 in
theorem gB_X11_tally_120 {C : Cx} {V : Ev} {L : List Kd} (hC : Ok C V cX11_tally RX11 8 7 201) (hR : Rt C V L (some .int) rI) (hL : LKc L) (x6 : Int) (X : Mem)  : G C V L 0 0 8 120 [(0, vR V.1 0), (6, vI x6)] [] X (B_X11_tally_120   x6 X) := by
  unfold B_X11_tally_120
  refine g_aload_n (q := 0) hC dX11_tally_120 rfl rfl rfl ?_
  refine g_iload (q := 1) hC dX11_tally_121 rfl ?_
  refine g_callVI (As := [vI x6]) hC mv_X11_answer wml_RX11_200 (k_X11_answer _ V hL x6 X) cf_X11 (at_0 hL) (by decide) ⟨Nat.zero_le _, Nat.zero_le _⟩ rfl rfl ⟨Nat.le_of_ble_eq_true rfl, Nat.le_of_ble_eq_true rfl⟩ (Nat.le_of_ble_eq_true rfl) dX11_tally_123 (fun r7 X8 => ?_)
  exact g_iret hC hR dX11_tally_126
set_option maxRecDepth 20000 in
theorem gB_X11_tally_114 {C : Cx} {V : Ev} {L : List Kd} (hC : Ok C V cX11_tally RX11 8 7 201) (hR : Rt C V L (some .int) rI) (hL : LKc L) {go75 : Int → Int → Int → Int → Int → Int → Int → Mem → Option (Int × Mem)} (hgo75 : ∀ (x1 : Int) (x2 : Int) (x3 : Int) (x4 : Int) (x5 : Int) (x6 : Int) (x7 : Int) (X : Mem), G C V L 0 0 8 75 [(0, vR V.1 0), (1, vI x1), (2, vI x2), (3, vI x3), (4, vI x4), (5, vI x5), (6, vI x6), (7, vI x7)] [] X (go75 x1 x2 x3 x4 x5 x6 x7 X)) (x1 : Int) (x2 : Int) (x3 : Int) (x4 : Int) (x5 : Int) (x6 : Int) (x7 : Int) (X : Mem)  : G C V L 0 0 8 114 [(0, vR V.1 0), (1, vI x1), (2, vI x2), (3, vI x3), (4, vI x4), (5, vI x5), (6, vI x6), (7, vI x7)] [] X (B_X11_tally_114  go75 x1 x2 x3 x4 x5 x6 x7 X) := by
  unfold B_X11_tally_114
  refine g_iinc (q := 7) hC dX11_tally_114 rfl (by decide) rfl ?_
  refine g_goto (tgt := 75) hC dX11_tally_117 (by decide) ?_
  refine g_sub [1, 2, 3, 4, 5, 6, 7, 0] rfl ?_
  exact hgo75 x1 x2 x3 x4 x5 x6 (x7 + 1) X
set_option maxRecDepth 20000 in
theorem gL_X11_tally_75 {C : Cx} {V : Ev} {L : List Kd} (hC : Ok C V cX11_tally RX11 8 7 201) (hR : Rt C V L (some .int) rI) (hL : LKc L) : ∀ (n : Nat) (x1 : Int) (x2 : Int) (x3 : Int) (x4 : Int) (x5 : Int) (x6 : Int) (x7 : Int) (X : Mem), G C V L 0 0 8 75 [(0, vR V.1 0), (1, vI x1), (2, vI x2), (3, vI x3), (4, vI x4), (5, vI x5), (6, vI x6), (7, vI x7)] [] X (L_X11_tally_75   n x1 x2 x3 x4 x5 x6 x7 X) := by
  intro n
  induction n with
  | zero => intro x1 x2 x3 x4 x5 x6 x7 X; exact g_none
  | succ n ih =>
    intro x1 x2 x3 x4 x5 x6 x7 X
    rw [L_X11_tally_75]
    refine g_iload (q := 7) hC dX11_tally_75 rfl ?_
    refine g_iload (q := 4) hC dX11_tally_77 rfl ?_
    refine g_icmp_ge (tgt := 120) hC dX11_tally_79 (by decide) ?_ ?_
    · refine g_sub [0, 6] rfl ?_
      exact gB_X11_tally_120 hC hR hL  x6 X
    · refine g_aload_n (q := 0) hC dX11_tally_82 rfl rfl rfl ?_
      refine g_getS (k := 11) hC cf_X11 (at_0 hL) (by decide) rfl (by decide) (by decide) wf_RX11_98 dX11_tally_83 ?_
      refine g_aload_n (q := 0) hC dX11_tally_86 rfl rfl rfl ?_
      refine g_getS (k := 1) hC cf_X11 (at_0 hL) (by decide) rfl (by decide) (by decide) wf_RX11_18 dX11_tally_87 ?_
      refine g_iload_n (q := 1) hC dX11_tally_90 rfl rfl ?_
      refine g_iload_n (q := 2) hC dX11_tally_91 rfl rfl ?_
      refine g_iload_n (q := 3) hC dX11_tally_92 rfl rfl ?_
      refine g_iload (q := 7) hC dX11_tally_93 rfl ?_
      refine g_iadd hC dX11_tally_95 ?_
      refine g_callVV (As := [vR V.1 2, vI x1, vI x2, vI (x3 + x7)]) hC mv_X0_begin wml_RX11_408 (k_X0_begin _ V hL 2 x1 x2 (x3 + x7) X (sta_of hL (by decide))) cf_X0 (at_55 hL) (by decide) ⟨Nat.zero_le _, Nat.zero_le _⟩ rfl rfl ⟨Nat.le_of_ble_eq_true rfl, Nat.le_of_ble_eq_true rfl⟩ (Nat.le_of_ble_eq_true rfl) dX11_tally_96 (fun _ X10 => ?_)
      refine g_aload_n (q := 0) hC dX11_tally_99 rfl rfl rfl ?_
      refine g_getS (k := 11) hC cf_X11 (at_0 hL) (by decide) rfl (by decide) (by decide) wf_RX11_98 dX11_tally_100 ?_
      refine g_callVI (As := []) hC mv_X0_follow wml_RX11_411 (k_X0_follow _ V hL X10) cf_X0 (at_55 hL) (by decide) ⟨Nat.zero_le _, Nat.zero_le _⟩ rfl rfl ⟨Nat.le_of_ble_eq_true rfl, Nat.le_of_ble_eq_true rfl⟩ (Nat.le_of_ble_eq_true rfl) dX11_tally_103 (fun r11 X12 => ?_)
      refine g_iload (q := 5) hC dX11_tally_106 rfl ?_
      refine g_icmp_ne (tgt := 114) hC dX11_tally_108 (by decide) ?_ ?_
      · exact gB_X11_tally_114 hC hR hL ih x1 x2 x3 x4 x5 x6 x7 X12
      · refine g_iinc (q := 6) hC dX11_tally_111 rfl (by decide) rfl ?_
        refine g_sub [1, 2, 3, 4, 5, 6, 0, 7] rfl ?_
        exact gB_X11_tally_114 hC hR hL ih x1 x2 x3 x4 x5 (x6 + 1) x7 X12
set_option maxRecDepth 20000 in
theorem k_X11_tally (l : Launch) (V : Ev) {L : List Kd} (hL : LKc L) (p1 : Int) (p2 : Int) (p3 : Int) (p4 : Int) (p5 : Int) (X : Mem)  : Kt l V L yX11_tally (.code yX11_tally cX11_tally 8 (some .int)) 7 201 [vR V.1 0, vI p1, vI p2, vI p3, vI p4, vI p5] rI X (f_X11_tally p1 p2 p3 p4 p5 X) := by
  refine kt_of (own := RX11) (lv0 := [(0, vR V.1 0), (1, vI p1), (2, vI p2), (3, vI p3), (4, vI p4), (5, vI p5)]) (by decide) rfl (Nat.le_of_ble_eq_true rfl) rfl (fun C hCl hC hR => ?_)
  subst hCl
  unfold f_X11_tally
  refine g_aload_n (q := 0) hC dX11_tally_0 rfl rfl rfl ?_
  refine g_iload_n (q := 1) hC dX11_tally_1 rfl rfl ?_
  refine g_callVI (As := [vI p1]) hC mv_X11_isCell wml_RX11_278 (k_X11_isCell _ V hL p1 X) cf_X11 (at_0 hL) (by decide) ⟨Nat.zero_le _, Nat.zero_le _⟩ rfl rfl ⟨Nat.le_of_ble_eq_true rfl, Nat.le_of_ble_eq_true rfl⟩ (Nat.le_of_ble_eq_true rfl) dX11_tally_2 (fun r1 X2 => ?_)
  refine g_if_eq (tgt := 63) hC dX11_tally_5 (by decide) ?_ ?_
  · refine g_sub [0] rfl ?_
    exact gB_X11_tally_63 hC hR hL  X2
  · refine g_aload_n (q := 0) hC dX11_tally_8 rfl rfl rfl ?_
    refine g_iload_n (q := 2) hC dX11_tally_9 rfl rfl ?_
    refine g_callVI (As := [vI p2]) hC mv_X11_isCell wml_RX11_278 (k_X11_isCell _ V hL p2 X2) cf_X11 (at_0 hL) (by decide) ⟨Nat.zero_le _, Nat.zero_le _⟩ rfl rfl ⟨Nat.le_of_ble_eq_true rfl, Nat.le_of_ble_eq_true rfl⟩ (Nat.le_of_ble_eq_true rfl) dX11_tally_10 (fun r5 X6 => ?_)
    refine g_if_eq (tgt := 63) hC dX11_tally_13 (by decide) ?_ ?_
    · refine g_sub [0] rfl ?_
      exact gB_X11_tally_63 hC hR hL  X6
    · refine g_iload_n (q := 3) hC dX11_tally_16 rfl rfl ?_
      refine g_if_lt (tgt := 63) hC dX11_tally_17 (by decide) ?_ ?_
      · refine g_sub [0] rfl ?_
        exact gB_X11_tally_63 hC hR hL  X6
      · refine g_iload_n (q := 3) hC dX11_tally_20 rfl rfl ?_
        refine g_sipush (v := vI 9999) hC dX11_tally_21 rfl ?_
        refine g_icmp_gt (tgt := 63) hC dX11_tally_24 (by decide) ?_ ?_
        · refine g_sub [0] rfl ?_
          exact gB_X11_tally_63 hC hR hL  X6
        · refine g_iload (q := 4) hC dX11_tally_27 rfl ?_
          refine g_iconst (v := vI 1) hC dX11_tally_29 rfl ?_
          refine g_icmp_lt (tgt := 63) hC dX11_tally_30 (by decide) ?_ ?_
          · refine g_sub [0] rfl ?_
            exact gB_X11_tally_63 hC hR hL  X6
          · refine g_iload (q := 4) hC dX11_tally_33 rfl ?_
            refine g_bipush (v := vI 30) hC dX11_tally_35 rfl ?_
            refine g_icmp_gt (tgt := 63) hC dX11_tally_37 (by decide) ?_ ?_
            · refine g_sub [0] rfl ?_
              exact gB_X11_tally_63 hC hR hL  X6
            · refine g_iload (q := 5) hC dX11_tally_40 rfl ?_
              refine g_if_lt (tgt := 63) hC dX11_tally_42 (by decide) ?_ ?_
              · refine g_sub [0] rfl ?_
                exact gB_X11_tally_63 hC hR hL  X6
              · refine g_iload (q := 5) hC dX11_tally_45 rfl ?_
                refine g_iconst (v := vI 3) hC dX11_tally_47 rfl ?_
                refine g_icmp_gt (tgt := 63) hC dX11_tally_48 (by decide) ?_ ?_
                · refine g_sub [0] rfl ?_
                  exact gB_X11_tally_63 hC hR hL  X6
                · refine g_iload_n (q := 3) hC dX11_tally_51 rfl rfl ?_
                  refine g_iload (q := 4) hC dX11_tally_52 rfl ?_
                  refine g_iadd hC dX11_tally_54 ?_
                  refine g_iconst (v := vI 1) hC dX11_tally_55 rfl ?_
                  refine g_isub hC dX11_tally_56 ?_
                  refine g_sipush (v := vI 9999) hC dX11_tally_57 rfl ?_
                  refine g_icmp_le (tgt := 69) hC dX11_tally_60 (by decide) ?_ ?_
                  · refine g_iconst (v := vI 0) hC dX11_tally_69 rfl ?_
                    refine g_istore hC dX11_tally_70 (by decide) rfl ?_
                    refine g_iconst (v := vI 0) hC dX11_tally_72 rfl ?_
                    refine g_istore hC dX11_tally_73 (by decide) rfl ?_
                    refine g_sub [2, 3, 4, 5, 6, 7, 1, 0] rfl ?_
                    exact gL_X11_tally_75 hC hR hL  KF p1 p2 p3 p4 p5 0 0 X6
                  · refine g_sub [0] rfl ?_
                    exact gB_X11_tally_63 hC hR hL  X6
def f_X7_copyFrom (r0 : Int) (p1 : Int) (X : Mem) : Option (Int × Mem) :=
  cm RIV (X r0 0) <|
  cm RIV (X p1 0) <|
  cl (f_X2_copyFrom (X r0 0) (X p1 0) X) fun _ X4 =>
  cm RUL (X4 r0 1) <|
  cm RUL (X4 p1 1) <|
  cl (f_X4_copyFrom (X4 r0 1) (X4 p1 1) X4) fun _ X8 =>
  cl (f_X11_copyParts (p1 + 16) (r0 + 16) X8) fun _ X10 =>
  bd (ms X10 r0 3 (X10 p1 3)) fun X11 =>
  bd (ms X11 r0 4 (X11 p1 4)) fun X12 =>
  some (0, X12)
set_option maxRecDepth 20000 in
theorem k_X7_copyFrom (l : Launch) (V : Ev) {L : List Kd} (hL : LKc L) (r0 : Int) (p1 : Int) (X : Mem) (h0 : isState L r0) (h1 : isState L p1) : Kt l V L yX7_copyFrom (.code yX7_copyFrom cX7_copyFrom 2 none) 2 81 [vR V.1 r0, vR V.1 p1] rV X (f_X7_copyFrom r0 p1 X) := by
  refine kt_of (own := RX7) (lv0 := [(0, vR V.1 r0), (1, vR V.1 p1)]) (by decide) rfl (Nat.le_of_ble_eq_true rfl) rfl (fun C hCl hC hR => ?_)
  subst hCl
  unfold f_X7_copyFrom
  refine g_aload_n (q := 0) hC dX7_copyFrom_0 rfl rfl rfl ?_
  refine g_getD (k := 0) (kz := 0) hC cf_X7 (sa_0 h0) (by decide) rfl (by decide) rfl wf_RX7_12 dX7_copyFrom_1 (g_cm (l := RIV) fun m1 => ?_)
  refine g_aload_n (q := 1) hC dX7_copyFrom_4 rfl rfl rfl ?_
  refine g_getD (k := 0) (kz := 0) hC cf_X7 (sa_0 h1) (by decide) rfl (by decide) rfl wf_RX7_12 dX7_copyFrom_5 (g_cm (l := RIV) fun m2 => ?_)
  refine g_callVV (As := [vR V.1 (X p1 0)]) hC mv_X2_copyFrom wml_RX7_36 (k_X2_copyFrom _ V (X r0 0) (X p1 0) X (riv_of hL m1) (riv_of hL m2)) cf_X2 (rv_0 (riv_of hL m1)) (by decide) ⟨Nat.zero_le _, Nat.zero_le _⟩ rfl rfl ⟨Nat.le_of_ble_eq_true rfl, Nat.le_of_ble_eq_true rfl⟩ (Nat.le_of_ble_eq_true rfl) dX7_copyFrom_8 (fun _ X4 => ?_)
  refine g_aload_n (q := 0) hC dX7_copyFrom_11 rfl rfl rfl ?_
  refine g_getD (k := 1) (kz := 1) hC cf_X7 (sa_0 h0) (by decide) rfl (by decide) rfl wf_RX7_21 dX7_copyFrom_12 (g_cm (l := RUL) fun m5 => ?_)
  refine g_aload_n (q := 1) hC dX7_copyFrom_15 rfl rfl rfl ?_
  refine g_getD (k := 1) (kz := 1) hC cf_X7 (sa_0 h1) (by decide) rfl (by decide) rfl wf_RX7_21 dX7_copyFrom_16 (g_cm (l := RUL) fun m6 => ?_)
  refine g_callVV (As := [vR V.1 (X4 p1 1)]) hC mv_X4_copyFrom wml_RX7_40 (k_X4_copyFrom _ V (X4 r0 1) (X4 p1 1) X4 (rul_of hL m5) (rul_of hL m6)) cf_X4 (ru_0 (rul_of hL m5)) (by decide) ⟨Nat.zero_le _, Nat.zero_le _⟩ rfl rfl ⟨Nat.le_of_ble_eq_true rfl, Nat.le_of_ble_eq_true rfl⟩ (Nat.le_of_ble_eq_true rfl) dX7_copyFrom_19 (fun _ X8 => ?_)
  refine g_aload_n (q := 1) hC dX7_copyFrom_22 rfl rfl rfl ?_
  refine g_getS (k := 2) hC cf_X7 (sa_0 h1) (by decide) rfl (add_nn (sa_0 h1)) (by decide) wf_RX7_25 dX7_copyFrom_23 ?_
  refine g_aload_n (q := 0) hC dX7_copyFrom_26 rfl rfl rfl ?_
  refine g_getS (k := 2) hC cf_X7 (sa_0 h0) (by decide) rfl (add_nn (sa_0 h0)) (by decide) wf_RX7_25 dX7_copyFrom_27 ?_
  refine g_callSNV (As := [vR V.1 (p1 + 16), vR V.1 (r0 + 16)]) hC mt_X11_copyParts nl_11 (k_X11_copyParts _ V hL (p1 + 16) (r0 + 16) X8 (sa_16 h1) (sa_16 h0)) ⟨Nat.zero_le _, Nat.zero_le _⟩ rfl rfl ⟨Nat.le_of_ble_eq_true rfl, Nat.le_of_ble_eq_true rfl⟩ (Nat.le_of_ble_eq_true rfl) dX7_copyFrom_30 (fun _ X10 => ?_)
  refine g_aload_n (q := 0) hC dX7_copyFrom_33 rfl rfl rfl ?_
  refine g_aload_n (q := 1) hC dX7_copyFrom_34 rfl rfl rfl ?_
  refine g_getI (k := 3) (kz := 3) hC cf_X7 (sa_0 h1) (by decide) rfl (by decide) rfl wf_RX7_29 dX7_copyFrom_35 ?_
  refine g_putI (k := 3) (kz := 3) hC cf_X7 (sa_0 h0) (by decide) rfl (by decide) rfl wf_RX7_29 rfl rfl dX7_copyFrom_38 (fun X11 => ?_)
  refine g_aload_n (q := 0) hC dX7_copyFrom_41 rfl rfl rfl ?_
  refine g_aload_n (q := 1) hC dX7_copyFrom_42 rfl rfl rfl ?_
  refine g_getI (k := 4) (kz := 4) hC cf_X7 (sa_0 h1) (by decide) rfl (by decide) rfl wf_RX7_33 dX7_copyFrom_43 ?_
  refine g_putI (k := 4) (kz := 4) hC cf_X7 (sa_0 h0) (by decide) rfl (by decide) rfl wf_RX7_33 rfl rfl dX7_copyFrom_46 (fun X12 => ?_)
  exact g_vret hC hR dX7_copyFrom_49
def f_X11_mark  (X : Mem) : Option (Int × Mem) :=
  c2 (X 0 15) 3 <| if (X 0 15) < 3 then
    ax MST.length (X 0 15) <| cm MST (tl MST (X 0 15)) <|
    cl (f_X7_copyFrom (tl MST (X 0 15)) 2 X) fun _ X3 =>
    bd (ms X3 0 15 ((X3 0 15) + 1)) fun X4 =>
    cl (f_X11_answer (X4 0 15) X4) fun r5 X6 =>
    some (r5, X6)
  else
    cl (f_X11_fail 4 X) fun r7 X8 =>
    some (r7, X8)
set_option maxRecDepth 20000 in
theorem k_X11_mark (l : Launch) (V : Ev) {L : List Kd} (hL : LKc L)  (X : Mem)  : Kt l V L yX11_mark (.code yX11_mark cX11_mark 1 (some .int)) 3 102 [vR V.1 0] rI X (f_X11_mark  X) := by
  refine kt_of (own := RX11) (lv0 := [(0, vR V.1 0)]) (by decide) rfl (Nat.le_of_ble_eq_true rfl) rfl (fun C hCl hC hR => ?_)
  subst hCl
  unfold f_X11_mark
  refine g_aload_n (q := 0) hC dX11_mark_0 rfl rfl rfl ?_
  refine g_getI (k := 15) (kz := 15) hC cf_X11 (at_0 hL) (by decide) rfl (by decide) rfl wf_RX11_114 dX11_mark_1 ?_
  refine g_iconst (v := vI 3) hC dX11_mark_4 rfl ?_
  refine g_icmp_lt (tgt := 14) hC dX11_mark_5 (by decide) ?_ ?_
  · refine g_aload_n (q := 0) hC dX11_mark_14 rfl rfl rfl ?_
    refine g_getS (k := 2) hC cf_X11 (at_0 hL) (by decide) rfl (by decide) (by decide) wf_RX11_22 dX11_mark_15 ?_
    refine g_aload_n (q := 0) hC dX11_mark_18 rfl rfl rfl ?_
    refine g_getI (k := 15) (kz := 15) hC cf_X11 (at_0 hL) (by decide) rfl (by decide) rfl wf_RX11_114 dX11_mark_19 ?_
    refine g_aldS (t0 := 5) (ts := MST) hC (at_19 hL) (by decide) rfl (by decide) (by decide) dX11_mark_22 (g_cm (l := MST) fun m1 => ?_)
    refine g_aload_n (q := 0) hC dX11_mark_23 rfl rfl rfl ?_
    refine g_getS (k := 1) hC cf_X11 (at_0 hL) (by decide) rfl (by decide) (by decide) wf_RX11_18 dX11_mark_24 ?_
    refine g_callVV (As := [vR V.1 2]) hC mv_X7_copyFrom wml_RX11_417 (k_X7_copyFrom _ V hL (tl MST (X 0 15)) 2 X (mst_of hL m1) (sta_of hL (by decide))) cf_X7 (sa_0 (mst_of hL m1)) (by decide) ⟨Nat.zero_le _, Nat.zero_le _⟩ rfl rfl ⟨Nat.le_of_ble_eq_true rfl, Nat.le_of_ble_eq_true rfl⟩ (Nat.le_of_ble_eq_true rfl) dX11_mark_27 (fun _ X3 => ?_)
    refine g_aload_n (q := 0) hC dX11_mark_30 rfl rfl rfl ?_
    refine g_dup hC dX11_mark_31 rfl ?_
    refine g_getI (k := 15) (kz := 15) hC cf_X11 (at_0 hL) (by decide) rfl (by decide) rfl wf_RX11_114 dX11_mark_32 ?_
    refine g_iconst (v := vI 1) hC dX11_mark_35 rfl ?_
    refine g_iadd hC dX11_mark_36 ?_
    refine g_putI (k := 15) (kz := 15) hC cf_X11 (at_0 hL) (by decide) rfl (by decide) rfl wf_RX11_114 rfl rfl dX11_mark_37 (fun X4 => ?_)
    refine g_aload_n (q := 0) hC dX11_mark_40 rfl rfl rfl ?_
    refine g_aload_n (q := 0) hC dX11_mark_41 rfl rfl rfl ?_
    refine g_getI (k := 15) (kz := 15) hC cf_X11 (at_0 hL) (by decide) rfl (by decide) rfl wf_RX11_114 dX11_mark_42 ?_
    refine g_callVI (As := [vI (X4 0 15)]) hC mv_X11_answer wml_RX11_200 (k_X11_answer _ V hL (X4 0 15) X4) cf_X11 (at_0 hL) (by decide) ⟨Nat.zero_le _, Nat.zero_le _⟩ rfl rfl ⟨Nat.le_of_ble_eq_true rfl, Nat.le_of_ble_eq_true rfl⟩ (Nat.le_of_ble_eq_true rfl) dX11_mark_45 (fun r5 X6 => ?_)
    exact g_iret hC hR dX11_mark_48
  · refine g_aload_n (q := 0) hC dX11_mark_8 rfl rfl rfl ?_
    refine g_iconst (v := vI 4) hC dX11_mark_9 rfl ?_
    refine g_callVI (As := [vI 4]) hC mv_X11_fail wml_RX11_162 (k_X11_fail _ V hL 4 X) cf_X11 (at_0 hL) (by decide) ⟨Nat.zero_le _, Nat.zero_le _⟩ rfl rfl ⟨Nat.le_of_ble_eq_true rfl, Nat.le_of_ble_eq_true rfl⟩ (Nat.le_of_ble_eq_true rfl) dX11_mark_10 (fun r7 X8 => ?_)
    exact g_iret hC hR dX11_mark_13
def f_X11_back  (X : Mem) : Option (Int × Mem) :=
  c1 (X 0 15) <| if 0 < (X 0 15) then
    bd (ms X 0 15 ((X 0 15) - 1)) fun X1 =>
    ax MST.length (X1 0 15) <| cm MST (tl MST (X1 0 15)) <|
    cl (f_X7_copyFrom 2 (tl MST (X1 0 15)) X1) fun _ X4 =>
    cl (f_X11_answer (X4 0 15) X4) fun r5 X6 =>
    some (r5, X6)
  else
    cl (f_X11_fail 6 X) fun r7 X8 =>
    some (r7, X8)
set_option maxRecDepth 20000 in
theorem k_X11_back (l : Launch) (V : Ev) {L : List Kd} (hL : LKc L)  (X : Mem)  : Kt l V L yX11_back (.code yX11_back cX11_back 1 (some .int)) 3 102 [vR V.1 0] rI X (f_X11_back  X) := by
  refine kt_of (own := RX11) (lv0 := [(0, vR V.1 0)]) (by decide) rfl (Nat.le_of_ble_eq_true rfl) rfl (fun C hCl hC hR => ?_)
  subst hCl
  unfold f_X11_back
  refine g_aload_n (q := 0) hC dX11_back_0 rfl rfl rfl ?_
  refine g_getI (k := 15) (kz := 15) hC cf_X11 (at_0 hL) (by decide) rfl (by decide) rfl wf_RX11_114 dX11_back_1 ?_
  refine g_if_gt (tgt := 14) hC dX11_back_4 (by decide) ?_ ?_
  · refine g_aload_n (q := 0) hC dX11_back_14 rfl rfl rfl ?_
    refine g_dup hC dX11_back_15 rfl ?_
    refine g_getI (k := 15) (kz := 15) hC cf_X11 (at_0 hL) (by decide) rfl (by decide) rfl wf_RX11_114 dX11_back_16 ?_
    refine g_iconst (v := vI 1) hC dX11_back_19 rfl ?_
    refine g_isub hC dX11_back_20 ?_
    refine g_putI (k := 15) (kz := 15) hC cf_X11 (at_0 hL) (by decide) rfl (by decide) rfl wf_RX11_114 rfl rfl dX11_back_21 (fun X1 => ?_)
    refine g_aload_n (q := 0) hC dX11_back_24 rfl rfl rfl ?_
    refine g_getS (k := 1) hC cf_X11 (at_0 hL) (by decide) rfl (by decide) (by decide) wf_RX11_18 dX11_back_25 ?_
    refine g_aload_n (q := 0) hC dX11_back_28 rfl rfl rfl ?_
    refine g_getS (k := 2) hC cf_X11 (at_0 hL) (by decide) rfl (by decide) (by decide) wf_RX11_22 dX11_back_29 ?_
    refine g_aload_n (q := 0) hC dX11_back_32 rfl rfl rfl ?_
    refine g_getI (k := 15) (kz := 15) hC cf_X11 (at_0 hL) (by decide) rfl (by decide) rfl wf_RX11_114 dX11_back_33 ?_
    refine g_aldS (t0 := 5) (ts := MST) hC (at_19 hL) (by decide) rfl (by decide) (by decide) dX11_back_36 (g_cm (l := MST) fun m2 => ?_)
    refine g_callVV (As := [vR V.1 (tl MST (X1 0 15))]) hC mv_X7_copyFrom wml_RX11_417 (k_X7_copyFrom _ V hL 2 (tl MST (X1 0 15)) X1 (sta_of hL (by decide)) (mst_of hL m2)) cf_X7 (at_2 hL) (by decide) ⟨Nat.zero_le _, Nat.zero_le _⟩ rfl rfl ⟨Nat.le_of_ble_eq_true rfl, Nat.le_of_ble_eq_true rfl⟩ (Nat.le_of_ble_eq_true rfl) dX11_back_37 (fun _ X4 => ?_)
    refine g_aload_n (q := 0) hC dX11_back_40 rfl rfl rfl ?_
    refine g_aload_n (q := 0) hC dX11_back_41 rfl rfl rfl ?_
    refine g_getI (k := 15) (kz := 15) hC cf_X11 (at_0 hL) (by decide) rfl (by decide) rfl wf_RX11_114 dX11_back_42 ?_
    refine g_callVI (As := [vI (X4 0 15)]) hC mv_X11_answer wml_RX11_200 (k_X11_answer _ V hL (X4 0 15) X4) cf_X11 (at_0 hL) (by decide) ⟨Nat.zero_le _, Nat.zero_le _⟩ rfl rfl ⟨Nat.le_of_ble_eq_true rfl, Nat.le_of_ble_eq_true rfl⟩ (Nat.le_of_ble_eq_true rfl) dX11_back_45 (fun r5 X6 => ?_)
    exact g_iret hC hR dX11_back_48
  · refine g_aload_n (q := 0) hC dX11_back_7 rfl rfl rfl ?_
    refine g_bipush (v := vI 6) hC dX11_back_8 rfl ?_
    refine g_callVI (As := [vI 6]) hC mv_X11_fail wml_RX11_162 (k_X11_fail _ V hL 6 X) cf_X11 (at_0 hL) (by decide) ⟨Nat.zero_le _, Nat.zero_le _⟩ rfl rfl ⟨Nat.le_of_ble_eq_true rfl, Nat.le_of_ble_eq_true rfl⟩ (Nat.le_of_ble_eq_true rfl) dX11_back_10 (fun r7 X8 => ?_)
    exact g_iret hC hR dX11_back_13
end
