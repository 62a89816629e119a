/-! rules: steps -/
noncomputable def t34 (T : Int → Int) (t : Tok) : Int := tw T t.b t.e t.k WS34
abbrev W34 (a q : Nat) : Prop := a < 35 ∧ q < 12 ∧ WS34.getD q [] = sB a
theorem w34_all : W34 22 0 ∧ W34 23 1 ∧ W34 24 2 ∧ W34 25 3 ∧ W34 26 4 ∧ W34 27 5 ∧ W34 21 6 ∧ W34 28 7 ∧ W34 29 8 ∧ W34 31 9 ∧ W34 32 10 ∧ W34 30 11 := ⟨⟨by decide, by decide, rfl⟩, ⟨by decide, by decide, rfl⟩, ⟨by decide, by decide, rfl⟩, ⟨by decide, by decide, rfl⟩, ⟨by decide, by decide, rfl⟩, ⟨by decide, by decide, rfl⟩, ⟨by decide, by decide, rfl⟩, ⟨by decide, by decide, rfl⟩, ⟨by decide, by decide, rfl⟩, ⟨by decide, by decide, rfl⟩, ⟨by decide, by decide, rfl⟩, ⟨by decide, by decide, rfl⟩⟩
theorem is34 {X : Mem} {T : Int → Int} {n : Int} {t : Tok} {a q : Nat} (hw : W34 a q) (hT : TXT T n) (hK : TKt T n t) (hC : CSt X T n t) : f_X8_is a X = some (if t34 T t = q then 1 else 0, X) := by
  rw [is8_eq hT hK hC hw.1]
  have h := tw_is (T := T) (b := t.b) (e := t.e) (k := t.k) nd34 (q := q) (show q < WS34.length from hw.2.1) hw.2.2
  unfold t34
  by_cases g : tw T t.b t.e t.k WS34 = q
  · rw [if_pos g, if_pos (h.mpr g)]
  · rw [if_neg g, if_neg (fun e => g (h.mp e))]
theorem in34 {Z : Mem} {T : Int → Int} {n : Int} {t : Tok} (hT : TXT T n) (hK : TKt T n t) (hM : MSt Z T n t) : f_X12_inWords 34 Z = some (t34 T t, Z) := inWords_eq (ws := WS34) hT hK hM (p := 34) (len_sB 34) pw34 (by decide)
theorem t34_r {T : Int → Int} {t : Tok} : -1 ≤ t34 T t ∧ t34 T t < 12 := by
  have h := tw_r (T := T) (b := t.b) (e := t.e) (k := t.k) (ws := WS34)
  have hl : (WS34.length : Int) = 12 := rfl
  unfold t34
  omega
theorem t34_k {T : Int → Int} {t : Tok} (h : t34 T t ≠ -1) : t.k = 1 := by
  unfold t34 tw at h
  by_cases g : t.k = 1
  · exact g
  · rw [if_neg g] at h
    exact absurd rfl h
theorem hereF_w {t : Tok} {f : Int} (h : t.k = 1) : (if t.k = 4 then 1 else f) = f := by
  rw [h]
  rfl
theorem PCL.bar {u r m0 : Int} {N0 : Int → Int} {S : Rul} {cd bb nn v : Int} {X : Mem} (hu : u ∈ RUL) (hr : r ∈ RIV) (hur : u + 4 < r ∨ r + 9 < u) (h : PCL u r m0 N0 S cd bb nn X) : PCL u r m0 N0 S cd v nn (ms X (u + 2) (S.A 14) v) := by
  refine ⟨h.1.ln hu hr hur (by decide) (by decide), by rw [ms_ne (by omega)]; exact h.2.1, by rw [ms_at, if_pos ⟨rfl, rfl⟩], by rw [ms_ne (by omega)]; exact h.2.2.2⟩
theorem PCL.num {u r m0 : Int} {N0 : Int → Int} {S : Rul} {cd bb nn v : Int} {X : Mem} (hu : u ∈ RUL) (hr : r ∈ RIV) (hur : u + 4 < r ∨ r + 9 < u) (h : PCL u r m0 N0 S cd bb nn X) : PCL u r m0 N0 S cd bb v (ms X (u + 3) (S.A 14) v) := by
  refine ⟨h.1.ln hu hr hur (by decide) (by decide), by rw [ms_ne (by omega)]; exact h.2.1, by rw [ms_ne (by omega)]; exact h.2.2.1, by rw [ms_at, if_pos ⟨rfl, rfl⟩]⟩
theorem PCL.code {u r m0 : Int} {N0 : Int → Int} {S : Rul} {cd bb nn v : Int} {X : Mem} (hu : u ∈ RUL) (hr : r ∈ RIV) (hur : u + 4 < r ∨ r + 9 < u) (h : PCL u r m0 N0 S cd bb nn X) : PCL u r m0 N0 S v bb nn (ms X (u + 1) (S.A 14) v) := by
  refine ⟨h.1.ln hu hr hur (by decide) (by decide), by rw [ms_at, if_pos ⟨rfl, rfl⟩], by rw [ms_ne (by omega)]; exact h.2.2.1, by rw [ms_ne (by omega)]; exact h.2.2.2⟩
theorem PML.bar {m0 : Int} {N0 : Int → Int} {S : Rul} {cm' bb nn v : Int} {Z : Mem} (g0 : 0 ≤ S.A 14) (h : PML m0 N0 S cm' bb nn Z) : PML m0 N0 S cm' v nn (ms Z 121 (1960 + 4 * S.A 14 + 1) v) := ⟨h.1.ln g0 (by omega), by rw [ms_at, if_neg (by omega)]; exact h.2.1, by rw [ms_at, if_pos ⟨rfl, rfl⟩], by rw [ms_at, if_neg (by omega)]; exact h.2.2.2.1, by rw [ms_at, if_neg (by omega)]; exact h.2.2.2.2⟩
theorem PML.num {m0 : Int} {N0 : Int → Int} {S : Rul} {cm' bb nn v : Int} {Z : Mem} (g0 : 0 ≤ S.A 14) (h : PML m0 N0 S cm' bb nn Z) : PML m0 N0 S cm' bb v (ms Z 121 (1960 + 4 * S.A 14 + 2) v) := ⟨h.1.ln g0 (by omega), by rw [ms_at, if_neg (by omega)]; exact h.2.1, by rw [ms_at, if_neg (by omega)]; exact h.2.2.1, by rw [ms_at, if_pos ⟨rfl, rfl⟩], by rw [ms_at, if_neg (by omega)]; exact h.2.2.2.2⟩
theorem PML.code {m0 : Int} {N0 : Int → Int} {S : Rul} {cm' bb nn v : Int} {Z : Mem} (g0 : 0 ≤ S.A 14) (h : PML m0 N0 S cm' bb nn Z) : PML m0 N0 S v bb nn (ms Z 121 (1960 + 4 * S.A 14) v) := ⟨h.1.ln g0 (by omega), by rw [ms_at, if_pos ⟨rfl, rfl⟩], by rw [ms_at, if_neg (by omega)]; exact h.2.2.1, by rw [ms_at, if_neg (by omega)]; exact h.2.2.2.1, by rw [ms_at, if_neg (by omega)]; exact h.2.2.2.2⟩
theorem u35 {u : Int} (hu : u ∈ RUL) (j : Int) (j0 : 0 ≤ j) (j1 : j ≤ 4) : u + j ≠ 35 ∧ u + j ≠ 36 ∧ WU u (u + j) := by
  have := RUL_c hu
  refine ⟨by omega, by omega, Or.inr (Or.inr ⟨by omega, by omega⟩)⟩
theorem PRU.name {T : Int → Int} {n p u r m0 : Int} {N0 : Int → Int} {t : Tok} {S : Rul} {cd bb nn cm' bb' nn' : Int} {gX gZ kX kZ : Mem → Option (Int × Mem)} (hu : u ∈ RUL) (hr : r ∈ RIV) (hur : u + 4 < r ∨ r + 9 < u) (hn : n ≤ 900) (hT : TXT T n) (hK : TKt T n t) (hm : 0 ≤ m0 ∧ m0 ≤ 5) (hN : ∀ b : Int, 0 ≤ b → b < m0 → ∃ a : Int, NM a (N0 b)) (g0 : 0 ≤ S.A 14) (g60 : S.A 14 < 60)
    (h : ∀ bar : Int, 0 ≤ bar → bar < m0 → TKt T n (nx T n t.e) → t.e ≤ (nx T n t.e).b → PRU T n p u r m0 N0 (nx T n t.e) (PCL u r m0 N0 S cd bar nn) (PML m0 N0 S cm' bar nn') kX kZ)
    (hX : ∀ (X Y : Mem) (r0 : Int), r0 = 0 ∨ r0 = 1 → f_X5_takeBarName (S.A 14) X = some (r0, Y) → gX X = if r0 = 0 then some (0, Y) else kX Y)
    (hZ : ∀ (Z Y : Mem) (r0 : Int), r0 = 0 ∨ r0 = 1 → f_X12_ruleName (1960 + 4 * S.A 14 + 1) Z = some (r0, Y) → gZ Z = if r0 = 0 then some (0, Y) else kZ Y) : PRU T n p u r m0 N0 t (PCL u r m0 N0 S cd bb nn) (PML m0 N0 S cm' bb' nn') gX gZ := by
  by_cases gn : isNm T t.b t.e t.k
  · have hfr := fnd_r (Nm := N0) (c := c8 (LT T t.b (t.e - t.b).toNat)) (m0 - 0).toNat 0
    have hNr : ∀ b : Int, 0 ≤ b → b < m0 → 0 ≤ N0 b ∧ N0 b ≤ 9223372036854775807 := fun b b0 b1 => by
      obtain ⟨c, hc⟩ := hN b b0 b1
      exact (NM_r hc).2
    generalize hbar : fnd N0 (c8 (LT T t.b (t.e - t.b).toNat)) (m0 - 0).toNat 0 = bar at *
    have eX : ∀ X : Mem, CSt X T n t → PCL u r m0 N0 S cd bb nn X → f_X5_takeBarName (S.A 14) X = c2 bar (-1) (if ¬ bar = -1 then (cl (f_X8_advance (ms X (u + 2) (S.A 14) bar)) fun _ X9 => some (1, X9)) else cl (f_X8_fail 3 X) fun r10 X11 => cz r10 (some (r10, X11))) := fun X hC hJ => by
      obtain ⟨w1, w2, w3⟩ := name_w hK hC gn
      have eb : f_X2_barNamed r (X 35 6) X = some (bar, X) := by
        rw [w1, ← hbar]
        exact barNamed_eq (A := fun _ => m0) hJ.1.2.2.1.1 hm hJ.1.2.2.1.2 w2 w3.2 KF 0 (by decide) hm.1 (by rw [KF_eq]; omega)
      unfold f_X5_takeBarName
      rw [isName8_eq hK hC, if_pos gn, cl_some, c1_1, n10, hJ.1.1.2.1, cm_ok hr, eb, cl_some, hJ.1.1.1, cm_ok hu, ax_ok g0 g60, bd_eq]
    have eZ : ∀ Z : Mem, MSt Z T n t → PML m0 N0 S cm' bb' nn' Z → Z 120 18 = 0 → f_X12_ruleName (1960 + 4 * S.A 14 + 1) Z = c2 bar (-1) (if ¬ bar = -1 then (cl (f_X12_ahead (ms Z 121 (1960 + 4 * S.A 14 + 1) bar)) fun _ X7 => some (1, X7)) else cl (f_X12_fails 3 Z) fun r8 X9 => cz r8 (some (r8, X9))) := fun Z hM hJ h18 => by
      have ef : f_X12_findHere 0 m0 Z = some (bar, Z) := by
        rw [← hbar]
        exact findHere_eq hT hK hM gn.1 gn.2.1 hm (by decide) (fun b b0 b1 => by rw [Int.zero_add]; exact hJ.1.2.2.1.2 b b0 b1) hNr KF 0 (by decide) hm.1 (by rw [KF_eq]; omega)
      unfold f_X12_ruleName
      rw [isNamem_eq hT hK hM, if_pos gn, cl_some, c1_1, n10, ax_ok (by decide) (by decide), hJ.1.2.2.1.1, ef, cl_some, ax_ok (by omega) (by omega), bd_eq]
    by_cases gf : bar = -1
    · refine PARU.bad 3 (by decide) hn hK (fun _ _ => trivial) TrC (fun X hC hJ => ?_) (fun Z hM h18 hJ => ?_)
      · refine (hX X (flC X 3 t.b) 0 (Or.inl rfl) ?_).trans i00
        rw [eX X hC hJ, gf, c2_ok (by decide) (by decide) (by decide) (by decide), if_neg (by decide), fail8_eq hC, cl_some, cz_0]
      · refine (hZ Z (flM Z 3 t.b) 0 (Or.inl rfl) ?_).trans i00
        rw [eZ Z hM hJ h18, gf, c2_ok (by decide) (by decide) (by decide) (by decide), if_neg (by decide), fails_eq hK hM h18, cl_some, cz_0, hereF_w gn.1]
    · have hb : 0 ≤ bar ∧ bar < m0 := by omega
      obtain ⟨k1, k2⟩ := nx_t hT hK
      have hu2 := u35 hu 2 (by decide) (by decide)
      refine (h bar hb.1 hb.2 k1 k2).go (fun X hC hJ => ?_) (fun Z hM h18 hJ => ?_)
      · obtain ⟨R, r1, r2, r3⟩ := adv8 hT hK (ms_cst (i := u + 2) (k := S.A 14) (v := bar) hC hu2.1 hu2.2.1)
        refine ⟨_, (hX X _ 1 (Or.inr rfl) ?_).trans i10, r2, PCL.st hu hr _ _ (hJ.bar hu hr hur), (ms_frU hu2.2.2 hu2.1).trans (FrC.a r3)⟩
        rw [eX X hC hJ, c2_ok (by omega) (by omega) (by decide) (by decide), if_pos gf, r1, cl_some]
      · obtain ⟨R, r1, r2, r3⟩ := adv12 hT hK (ms_mst (i := 121) (k := 1960 + 4 * S.A 14 + 1) (v := bar) hM (by decide) (by omega))
        refine ⟨_, (hZ Z _ 1 (Or.inr rfl) ?_).trans i10, r2, by rw [ma_same, r3 18 (by decide), ms_ne (by decide)]; exact h18, PML.st _ _ (fun q a _ _ => r3 q a) (hJ.bar g0), (FrW.q (by omega)).trans (FrW.a r3)⟩
        rw [eZ Z hM hJ h18, c2_ok (by omega) (by omega) (by decide) (by decide), if_pos gf, r1, cl_some]
  · refine PARU.bad (hereF t 2) hereF_r hn hK (fun _ _ => trivial) TrC (fun X hC hJ => ?_) (fun Z hM h18 hJ => ?_)
    · refine (hX X (flC X (hereF t 2) t.b) 0 (Or.inl rfl) ?_).trans i00
      unfold f_X5_takeBarName
      rw [isName8_eq hK hC, if_neg gn, cl_some, c1_0, n00]
      rfl
    · refine (hZ Z (flM Z (hereF t 2) t.b) 0 (Or.inl rfl) ?_).trans i00
      unfold f_X12_ruleName
      rw [isNamem_eq hT hK hM, if_neg gn, cl_some, c1_0, n00, fails_eq hK hM h18, cl_some, cz_0]
      rfl
theorem PRU.count {T : Int → Int} {n p u r m0 : Int} {N0 : Int → Int} {t : Tok} {S : Rul} {cd bb nn cm' bb' nn' lo hi : Int} {gX gZ kX kZ : Mem → Option (Int × Mem)} (hu : u ∈ RUL) (hr : r ∈ RIV) (hur : u + 4 < r ∨ r + 9 < u) (hn : n ≤ 900) (hT : TXT T n) (hK : TKt T n t) (hlo : inI lo) (hhi : inI hi) (g0 : 0 ≤ S.A 14) (g60 : S.A 14 < 60)
    (h : ∀ v : Int, lo ≤ v → v ≤ hi → TKt T n (nx T n t.e) → t.e ≤ (nx T n t.e).b → PRU T n p u r m0 N0 (nx T n t.e) (PCL u r m0 N0 S cd bb v) (PML m0 N0 S cm' bb' v) kX kZ)
    (hX : ∀ (X Y : Mem) (r0 : Int), r0 = 0 ∨ r0 = 1 → f_X5_takeCount (S.A 14) lo hi X = some (r0, Y) → gX X = if r0 = 0 then some (0, Y) else kX Y)
    (hZ : ∀ (Z Y : Mem) (r0 : Int), r0 = 0 ∨ r0 = 1 → f_X12_number (1960 + 4 * S.A 14 + 2) lo hi Z = some (r0, Y) → gZ Z = if r0 = 0 then some (0, Y) else kZ Y) : PRU T n p u r m0 N0 t (PCL u r m0 N0 S cd bb nn) (PML m0 N0 S cm' bb' nn') gX gZ := by
  by_cases g : t.k = 2 ∧ lo ≤ t.v ∧ t.v ≤ hi
  · obtain ⟨k1, k2⟩ := nx_t hT hK
    have hu3 := u35 hu 3 (by decide) (by decide)
    refine (h t.v g.2.1 g.2.2 k1 k2).go (fun X hC hJ => ?_) (fun Z hM h18 hJ => ?_)
    · obtain ⟨R, r1, r2, r3, r4⟩ := tn8_y hT hK hC hlo hhi g
      have hJ' := PCL.st hu hr _ R hJ
      refine ⟨ms (ma X 35 R) (u + 3) (S.A 14) t.v, (hX X _ 1 (Or.inr rfl) ?_).trans i10, ms_cst r2 hu3.1 hu3.2.1, hJ'.num hu hr hur, FrC.trans (s := 8) (Y := ma X 35 R) ⟨fun i a _ => ma_ne a, fun q a => by rw [ma_same]; exact r4 q (by omega)⟩ (ms_frU hu3.2.2 hu3.1)⟩
      unfold f_X5_takeCount
      rw [r1, cl_some, c1_1, n10, hJ'.1.1.1, cm_ok hu, ax_ok g0 g60, ma_same, r3, bd_eq]
    · obtain ⟨R, r1, r2, r3⟩ := nm_y (sl := 1960 + 4 * S.A 14 + 2) hT hK hM hlo hhi (by omega) (by omega) g
      refine ⟨_, (hZ Z _ 1 (Or.inr rfl) r1).trans i10, r2, by rw [ma_same, r3 18 (by decide)]; exact h18, PML.st _ _ (fun q a _ _ => by rw [r3 q a, ms_ne (by decide)]) (hJ.num g0), (FrW.q (by omega)).trans (FrW.a (fun q hq => by rw [r3 q hq, ms_ne (by decide)]))⟩
  · refine PARU.bad (numF t lo hi) (numF_r g) hn hK (fun _ _ => trivial) TrC (fun X hC hJ => ?_) (fun Z hM h18 hJ => ?_)
    · refine (hX X (flC X (numF t lo hi) t.b) 0 (Or.inl rfl) ?_).trans i00
      unfold f_X5_takeCount
      rw [(tn8_n hK hC hlo hhi g).1, cl_some, c1_0, n00]
    · exact (hZ Z (flM Z (numF t lo hi) t.b) 0 (Or.inl rfl) (nm_n hK hM h18 hlo hhi g)).trans i00
/-- the sign, and the line is done -/
noncomputable def cF (x2 v5 : Int) (X17 : Mem) : Option (Int × Mem) := cl (f_X8_takeSign X17) fun r18 X19 => c1 r18 <| if ¬ r18 = 0 then c1 x2 <| if x2 = 0 then B_X5_takeStep_149 X19 else ax 3 (X19 38 4) <| bd (ms X19 39 (X19 38 4) v5) fun X24 => bd (ms X24 38 4 ((X24 38 4) + 1)) fun X25 => B_X5_takeStep_149 X25 else some (0, X19)
theorem PRU.fin {T : Int → Int} {n p u r m0 : Int} {N0 : Int → Int} {t : Tok} {S : Rul} {op cd bb nn cm' bb' x1 : Int} (hu : u ∈ RUL) (hr : r ∈ RIV) (hur : u + 4 < r ∨ r + 9 < u) (hn : n ≤ 900) (hT : TXT T n) (hK : TKt T n t) (hp : p ≤ t.e) (hs : GdU m0 S) (h30 : S.steps < 30) (hop : op = 1 → S.deep < 3) (hk : okL op cd cm' bb bb' nn) (hx : x1 ≠ 6 ∧ 0 ≤ x1 ∧ x1 ≤ 20) :
    PRU T n p u r m0 N0 t (PCL u r m0 N0 S cd bb nn) (PML m0 N0 S cm' bb' nn) (cF op (S.A 14)) (B_X12_step_331 x1 (S.A 14) (1960 + 4 * S.A 14) op 1) := by
  have g0 : 0 ≤ S.A 14 := hs.1.2.2.1.1
  have gd := hs.1.1
  have hst := hs.1.2.1
  have g60 : S.A 14 ≤ 60 := by
    have := hs.1.2.2.1.2
    omega
  have ho : op = 0 ∨ op = 1 := hk.2.2.2.2.2.2.1
  have hu0 := u35 hu 0 (by decide) (by decide)
  rw [Int.add_zero] at hu0
  have hG := addL_G hs hk h30 hop
  have u38 : u ≠ 38 ∧ u ≠ 39 := by
    have := (sepU hu) 0 (by decide) (by decide)
    rw [Int.add_zero] at this
    exact ⟨this.1, this.2.1⟩
  -- the reference's openings ahead of the sign
  have zpre : ∀ Z : Mem, PML m0 N0 S cm' bb' nn Z → ∃ Y : Mem, B_X12_step_331 x1 (S.A 14) (1960 + 4 * S.A 14) op 1 Z = B_X12_step_419 Y ∧ PMU m0 N0 (addL S op cm' bb' nn) Y ∧ (∀ q : Int, q ≠ 24 → Y 120 q = Z 120 q) ∧ (∀ i : Int, i ≠ 120 → i ≠ 129 → Y i = Z i) := fun Z hJ => by
    have e24 : Z 120 24 = S.deep := hJ.1.1.2.1
    have e363 : ∀ Y : Mem, B_X12_step_363 x1 (S.A 14) (1960 + 4 * S.A 14) Y = B_X12_step_419 Y := fun Y => by
      rw [B_X12_step_363, c2_ok (by omega) (by omega) (by decide) (by decide), if_pos hx.1]
    rcases ho with rfl | rfl
    · refine ⟨Z, by rw [B_X12_step_331, c1_1, n10, c1_0, i00, e363], hJ.fin hs (Or.inl rfl) Z (fun _ _ _ => rfl) ⟨by rw [e24, Int.add_zero], hJ.1.1.2.2⟩ (fun i i0 i1 => by rw [if_neg (by omega)]; exact hJ.1.2.1 i i0 (by omega)), fun _ _ => rfl, fun _ _ _ => rfl⟩
    · have hd3 := hop rfl
      have e24' : ms Z 129 S.deep (S.A 14) 120 24 = S.deep := by rw [ms_ne (by decide)]; exact e24
      refine ⟨ms (ms Z 129 S.deep (S.A 14)) 120 24 (S.deep + 1), by rw [B_X12_step_331, c1_1, n10, c1_1, i10, e24, ax_ok (by omega) (by omega), bd_eq, e24', bd_eq, e363], hJ.fin hs (Or.inr rfl) _ (fun i a b => by rw [ms_ne a, ms_ne b]) ⟨by rw [ms_at, if_pos ⟨rfl, rfl⟩], by rw [ms_at, if_neg (by decide), ms_ne (by decide)]; exact hJ.1.1.2.2⟩ (fun i i0 i1 => ?_), fun q hq => by rw [ms_at, if_neg (fun h => hq h.2), ms_ne (by decide)], fun i a b => by rw [ms_ne a, ms_ne b]⟩
      rw [ms_ne (by decide), ms_at]
      by_cases gi : i = S.deep
      · rw [if_pos ⟨rfl, gi⟩, if_pos gi]
      · rw [if_neg (fun h => gi h.2), if_neg gi]
        exact hJ.1.2.1 i i0 (by omega)
  refine PARU.mapZ (gZ' := B_X12_step_419) (JZ' := PMU m0 N0 (addL S op cm' bb' nn)) ?_ (fun Z hM h18 hJ => ?_)
  · by_cases g3 : t.k = 3
    · obtain ⟨k1, k2⟩ := nx_t hT hK
      have hret : PRU T n p u r m0 N0 (nx T n t.e) (PCU u r m0 N0 (addL S op cm' bb' nn)) (PMU m0 N0 (addL S op cm' bb' nn)) (fun X => some (1, X)) (fun Z => some (1, Z)) := PARU.ret (addL S op cm' bb' nn) (by omega) k1 hG (fun X h => ⟨rfl, h⟩) (fun Z h => ⟨rfl, h⟩)
      refine PARU.go (t1 := nx T n t.e) (JX1 := PCL u r m0 N0 S cd bb nn) (JZ1 := PMU m0 N0 (addL S op cm' bb' nn)) (kX := fun X19 => c1 op <| if op = 0 then B_X5_takeStep_149 X19 else ax 3 (X19 38 4) <| bd (ms X19 39 (X19 38 4) (S.A 14)) fun X24 => bd (ms X24 38 4 ((X24 38 4) + 1)) fun X25 => B_X5_takeStep_149 X25) (kZ := fun Z => some (1, Z)) ?_ (fun X hC hJ => ?_) (fun Z hM h18 hJ => ?_)
      · refine PARU.mapX hret (fun X hC hJ => ?_)
        have h38 := hJ.1.1
        have post : ∀ V : Mem, (∀ i : Int, i ≠ 38 → i ≠ 39 → V i = X i) → (V 38 2 = u ∧ V 38 3 = r ∧ V 38 4 = S.deep + op) → (∀ i : Int, 0 ≤ i → i < S.deep + op → V 39 i = if i = S.deep then S.A 14 else S.O i) → ∃ Y : Mem, B_X5_takeStep_149 V = some (1, Y) ∧ PCU u r m0 N0 (addL S op cm' bb' nn) Y ∧ ∀ i : Int, i ≠ u → i ≠ 38 → i ≠ 39 → Y i = X i := fun V hV v38 v39 => by
          have ev : V u = X u := hV u u38.1 u38.2
          have e1 : V u 1 = S.steps := by rw [ev]; exact h38.2.2.2.2
          have e0 : V u 0 = S.A 14 + 1 := by rw [ev]; exact h38.2.2.2.1
          refine ⟨ms V u 1 (S.steps + 1), ?_, hJ.fin hu hr hur g0 gd.1 hk _ (fun i a b c => by rw [ms_ne a, hV i b c]) (by rw [ms_ne (Ne.symm u38.1)]; exact v38) ⟨by rw [ms_at, if_neg (fun h => absurd h.2 (by decide))]; exact e0, by rw [ms_at, if_pos ⟨rfl, rfl⟩]⟩ (fun i i0 i1 => by rw [ms_ne (Ne.symm u38.2)]; exact v39 i i0 i1), fun i a b c => by rw [ms_ne a, hV i b c]⟩
          rw [B_X5_takeStep_149, v38.1, cm_ok hu, e1, bd_eq]
        rcases ho with rfl | rfl
        · obtain ⟨Y, y1, y2, y3⟩ := post X (fun _ _ _ => rfl) ⟨h38.1, h38.2.1, by rw [Int.add_zero]; exact h38.2.2.1⟩ (fun i i0 i1 => by rw [if_neg (by omega)]; exact hJ.1.2.1 i i0 (by omega))
          exact ⟨Y, by show c1 0 (if (0 : Int) = 0 then _ else _) = _; rw [c1_0, i00, y1], hC.fr (y3 36 (Ne.symm hu0.2.1) (by decide) (by decide)) (fun q _ _ => by rw [y3 35 (Ne.symm hu0.1) (by decide) (by decide)]), y2, ⟨fun i _ b => y3 i (fun e => b (e ▸ hu0.2.2)) (fun e => b (Or.inl e)) (fun e => b (Or.inr (Or.inl e))), fun q _ => by rw [y3 35 (Ne.symm hu0.1) (by decide) (by decide)]⟩⟩
        · have hd3 := hop rfl
          have e4 : ms X 39 S.deep (S.A 14) 38 = X 38 := ms_ne (by decide)
          obtain ⟨Y, y1, y2, y3⟩ := post (ms (ms X 39 S.deep (S.A 14)) 38 4 (S.deep + 1)) (fun i a b => by rw [ms_ne a, ms_ne b]) ⟨by rw [ms_at, if_neg (by decide), e4]; exact h38.1, by rw [ms_at, if_neg (by decide), e4]; exact h38.2.1, by rw [ms_at, if_pos ⟨rfl, rfl⟩]⟩ (fun i i0 i1 => by
            rw [ms_ne (by decide), ms_at]
            by_cases gi : i = S.deep
            · rw [if_pos ⟨rfl, gi⟩, if_pos gi]
            · rw [if_neg (fun h => gi h.2), if_neg gi]
              exact hJ.1.2.1 i i0 (by omega))
          refine ⟨Y, ?_, hC.fr (y3 36 (Ne.symm hu0.2.1) (by decide) (by decide)) (fun q _ _ => by rw [y3 35 (Ne.symm hu0.1) (by decide) (by decide)]), y2, ⟨fun i _ b => y3 i (fun e => b (e ▸ hu0.2.2)) (fun e => b (Or.inl e)) (fun e => b (Or.inr (Or.inl e))), fun q _ => by rw [y3 35 (Ne.symm hu0.1) (by decide) (by decide)]⟩⟩
          show c1 1 (if (1 : Int) = 0 then _ else _) = _
          rw [c1_1, i10, h38.2.2.1, ax_ok (by omega) (by omega), bd_eq, e4, h38.2.2.1, bd_eq, y1]
      · obtain ⟨R, r1, r2, r3⟩ := (sg8 hT hK hC).1 g3
        refine ⟨_, ?_, r2, PCL.st hu hr _ _ hJ, FrC.a r3⟩
        rw [cF, r1, cl_some, c1_1, n10]
      · obtain ⟨R, r1, r2, r3⟩ := (wsg hT hK hM h18).1 g3
        refine ⟨_, ?_, r2, by rw [ma_same, r3 18 (by decide)]; exact h18, PMV.st _ _ (fun q a _ _ => r3 q a) hJ, FrW.a r3⟩
        rw [B_X12_step_419, r1, cl_some, cz_1]
    · refine PARU.bad (hereF t 2) hereF_r hn hK (fun _ _ => trivial) TrC (fun X hC hJ => ?_) (fun Z hM h18 hJ => ?_)
      · rw [cF, (sg8 hT hK hC).2 g3, cl_some, c1_0, n00]
      · rw [B_X12_step_419, (wsg hT hK hM h18).2 g3, cl_some, cz_0]
  · obtain ⟨Y, y1, y2, y3, y4⟩ := zpre Z hJ
    refine ⟨Y, y1, hM.fr (y4 127 (by decide) (by decide)) (fun q a b => y3 q (by omega)), by rw [y3 18 (by decide)]; exact h18, y2, ⟨fun i a b c d e => y4 i a e, fun q hq => y3 q (by omega), fun q _ => by rw [y4 121 (by decide) (by decide)], fun q _ => by rw [y4 122 (by decide) (by decide)]⟩⟩
