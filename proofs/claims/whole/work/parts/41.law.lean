/-! the law -/
def Sc (C : Cx) (V : Ev) (b : Nat) (n : Int) (sx : Int → Int) : Prop := ∃ xs : Nat → Int32, va_X b n.toNat xs C.2.2.2.2.1 C.2.2.2.2.1.heap ∧ b < C.2.2.2.2.1.heap.size ∧ b < V.1 ∧ (0 ≤ n ∧ n ≤ 3072) ∧ ∀ j : Nat, sx j = (xs j).toInt
section GL
variable {C : Cx} {V : Ev} {L : List Kd} {ca sl nL pc fr lc : Nat} {cc : ByteArray} {own : String} {lv : List (Nat × Value)} {st : List Value} {X : Mem} {f : Option (Int × Mem)} {b : Nat} {n : Int} {sx : Int → Int}
theorem g_sld {j : Int} (hC : Ok C V cc own nL fr lc) (hX : Sc C V b n sx) (hdg : decode cc pc = .ok (.iaload, 1)) (h : G C V L ca sl nL (pc + 1) lv (vI (sx j) :: st) X f) : G C V L ca sl nL pc lv (vI j :: .ref b :: st) X (ax n j f) := by
  obtain ⟨xs, hx, hb, hbV, hn, hs⟩ := hX
  refine g_ax fun hj hk H locs ls hP hS hl => ?_
  have hcl := i32_clamp (a := j) ⟨hj.1, by omega⟩
  refine va_sld (A := vA V) hC.1 hC.2.1 hx hb (Nat.not_le.mpr hbV) hS (i := Int32.ofInt j) ?_ hdg ?_
  · rintro (q | q)
    · exact absurd ((i32_lt (b := 0) ⟨by omega, by omega⟩ (by decide)).mp q) (by omega)
    · rw [hcl] at q
      omega
  · have e : vI (sx j) = .int (xs j.toNat) := by
      have h1 := hs j.toNat
      rw [Int.toNat_of_nonneg hj.1] at h1
      rw [h1]
      show Value.int (Int32.ofInt (xs j.toNat).toInt) = _
      rw [Int32.ofInt_toInt]
    rw [hcl, ← e]
    exact h hk H locs ls hP hS hl
theorem g_scl (hC : Ok C V cc own nL fr lc) (hX : Sc C V b n sx) (hdg : decode cc pc = .ok (.arraylength, 1)) (h : G C V L ca sl nL (pc + 1) lv (vI n :: st) X f) : G C V L ca sl nL pc lv (.ref b :: st) X f := by
  obtain ⟨xs, hx, hb, hbV, hn, hs⟩ := hX
  intro hk H locs ls hP hS hl
  refine va_slen (A := vA V) hC.1 hC.2.1 hx hb (Nat.not_le.mpr hbV) hS hdg ?_
  have e : vI n = .int (Int32.ofNat n.toNat) := by
    show Value.int (Int32.ofInt n) = _
    congr 1
    conv => lhs; rw [← Int.toNat_of_nonneg hn.1]
    rfl
  rw [← e]
  exact h hk H locs ls hP hS hl
end GL
theorem gJ_law {C : Cx} {V : Ev} {L : List Kd} {ca sl : Nat} {b : Nat} {n : Int} {sx : Int → Int} (hC : Ok C V cL_law RL 4 2048 84000) (hm : LKm L) (hX : Sc C V b n sx) (hr : ca ≤ C.2.2.2.1.cells ∧ sl ≤ C.2.2.2.1.slots) {go : Int → Mem → Option (Int × Mem)} (hgo : ∀ (i : Int) (X : Mem), G C V L ca sl 4 18 [(3, vI i), (2, vR V.1 120), (1, vR V.1 0), (0, .ref b)] [] X (go i X)) (i : Int) (X : Mem) : G C V L ca sl 4 1749 [(3, vI i), (2, vR V.1 120), (1, vR V.1 0), (0, .ref b)] [] X (go (i + 6) X) := by
  refine g_iinc (q := 0) (lv' := [(3, vI (i + 6)), (2, vR V.1 120), (1, vR V.1 0), (0, .ref b)]) hC dL_law_1749 rfl (by decide) rfl ?_
  refine g_goto (tgt := 18) hC dL_law_1752 (by decide) ?_
  exact hgo (i + 6) X
noncomputable def W_law_0 (n : Int) (sx : Int → Int) (go : Int → Mem → Option (Int × Mem)) (i : Int) (X : Mem) : Option (Int × Mem) :=
  cl (f_X11_status X) fun r1 X2 =>
  cl (f_X12_status X2) fun r3 X4 =>
  c2 r1 r3 (if r1 = r3 then go (i + 6) X4 else none)
set_option maxRecDepth 20000 in
theorem gW_law_0 {C : Cx} {V : Ev} {L : List Kd} {ca sl : Nat} {b : Nat} {n : Int} {sx : Int → Int} (hC : Ok C V cL_law RL 4 2048 84000) (hm : LKm L) (hX : Sc C V b n sx) (hr : ca ≤ C.2.2.2.1.cells ∧ sl ≤ C.2.2.2.1.slots) {go : Int → Mem → Option (Int × Mem)} (hgo : ∀ (i : Int) (X : Mem), G C V L ca sl 4 18 [(3, vI i), (2, vR V.1 120), (1, vR V.1 0), (0, .ref b)] [] X (go i X)) (i : Int) (X : Mem) : G C V L ca sl 4 232 [(3, vI i), (2, vR V.1 120), (1, vR V.1 0), (0, .ref b)] [] X (W_law_0 n sx go i X) := by
  have hJ := gJ_law hC hm hX hr hgo i
  unfold W_law_0
  refine g_aload_n (q := 2) hC dL_law_232 rfl rfl rfl ?_
  refine g_callVI (As := []) hC mv_X11_status wml_RL_13 (k_X11_status _ V hm.c X) cf_X11 (at_0 hm.c) (by decide) hr rfl rfl ⟨Nat.le_of_ble_eq_true rfl, Nat.le_of_ble_eq_true rfl⟩ (Nat.le_of_ble_eq_true rfl) dL_law_233 (fun r1 X2 => ?_)
  refine g_aload_n (q := 1) hC dL_law_236 rfl rfl rfl ?_
  refine g_callVI (As := []) hC mv_X12_status wml_RL_17 (k_X12_status _ V hm X2) cf_X12 (at_120 hm) (by decide) hr rfl rfl ⟨Nat.le_of_ble_eq_true rfl, Nat.le_of_ble_eq_true rfl⟩ (Nat.le_of_ble_eq_true rfl) dL_law_237 (fun r3 X4 => ?_)
  refine g_icmp_eq (tgt := 1749) hC dL_law_240 (by decide) ?_ g_none
  exact hJ X4
noncomputable def W_law_1 (n : Int) (sx : Int → Int) (go : Int → Mem → Option (Int × Mem)) (i : Int) (X : Mem) : Option (Int × Mem) :=
  cl (f_X11_top X) fun r1 X2 =>
  cl (f_X12_top X2) fun r3 X4 =>
  d2 r1 r3 (if r1 = r3 then go (i + 6) X4 else none)
set_option maxRecDepth 20000 in
theorem gW_law_1 {C : Cx} {V : Ev} {L : List Kd} {ca sl : Nat} {b : Nat} {n : Int} {sx : Int → Int} (hC : Ok C V cL_law RL 4 2048 84000) (hm : LKm L) (hX : Sc C V b n sx) (hr : ca ≤ C.2.2.2.1.cells ∧ sl ≤ C.2.2.2.1.slots) {go : Int → Mem → Option (Int × Mem)} (hgo : ∀ (i : Int) (X : Mem), G C V L ca sl 4 18 [(3, vI i), (2, vR V.1 120), (1, vR V.1 0), (0, .ref b)] [] X (go i X)) (i : Int) (X : Mem) : G C V L ca sl 4 245 [(3, vI i), (2, vR V.1 120), (1, vR V.1 0), (0, .ref b)] [] X (W_law_1 n sx go i X) := by
  have hJ := gJ_law hC hm hX hr hgo i
  unfold W_law_1
  refine g_aload_n (q := 2) hC dL_law_245 rfl rfl rfl ?_
  refine g_callVJ (As := []) hC mv_X11_top wml_RL_18 (k_X11_top _ V hm.c X) cf_X11 (at_0 hm.c) (by decide) hr rfl rfl ⟨Nat.le_of_ble_eq_true rfl, Nat.le_of_ble_eq_true rfl⟩ (Nat.le_of_ble_eq_true rfl) dL_law_246 (fun r1 X2 => ?_)
  refine g_aload_n (q := 1) hC dL_law_249 rfl rfl rfl ?_
  refine g_callVJ (As := []) hC mv_X12_top wml_RL_22 (k_X12_top _ V hm X2) cf_X12 (at_120 hm) (by decide) hr rfl rfl ⟨Nat.le_of_ble_eq_true rfl, Nat.le_of_ble_eq_true rfl⟩ (Nat.le_of_ble_eq_true rfl) dL_law_250 (fun r3 X4 => ?_)
  refine g_lcmp_eq (tgt := 1749) hC dL_law_253 rfl dL_law_254 (by decide) ?_ g_none
  exact hJ X4
noncomputable def W_law_2 (n : Int) (sx : Int → Int) (go : Int → Mem → Option (Int × Mem)) (i : Int) (X : Mem) : Option (Int × Mem) :=
  cl (f_X11_bottom X) fun r1 X2 =>
  cl (f_X12_bottom X2) fun r3 X4 =>
  d2 r1 r3 (if r1 = r3 then go (i + 6) X4 else none)
set_option maxRecDepth 20000 in
theorem gW_law_2 {C : Cx} {V : Ev} {L : List Kd} {ca sl : Nat} {b : Nat} {n : Int} {sx : Int → Int} (hC : Ok C V cL_law RL 4 2048 84000) (hm : LKm L) (hX : Sc C V b n sx) (hr : ca ≤ C.2.2.2.1.cells ∧ sl ≤ C.2.2.2.1.slots) {go : Int → Mem → Option (Int × Mem)} (hgo : ∀ (i : Int) (X : Mem), G C V L ca sl 4 18 [(3, vI i), (2, vR V.1 120), (1, vR V.1 0), (0, .ref b)] [] X (go i X)) (i : Int) (X : Mem) : G C V L ca sl 4 259 [(3, vI i), (2, vR V.1 120), (1, vR V.1 0), (0, .ref b)] [] X (W_law_2 n sx go i X) := by
  have hJ := gJ_law hC hm hX hr hgo i
  unfold W_law_2
  refine g_aload_n (q := 2) hC dL_law_259 rfl rfl rfl ?_
  refine g_callVJ (As := []) hC mv_X11_bottom wml_RL_23 (k_X11_bottom _ V hm.c X) cf_X11 (at_0 hm.c) (by decide) hr rfl rfl ⟨Nat.le_of_ble_eq_true rfl, Nat.le_of_ble_eq_true rfl⟩ (Nat.le_of_ble_eq_true rfl) dL_law_260 (fun r1 X2 => ?_)
  refine g_aload_n (q := 1) hC dL_law_263 rfl rfl rfl ?_
  refine g_callVJ (As := []) hC mv_X12_bottom wml_RL_26 (k_X12_bottom _ V hm X2) cf_X12 (at_120 hm) (by decide) hr rfl rfl ⟨Nat.le_of_ble_eq_true rfl, Nat.le_of_ble_eq_true rfl⟩ (Nat.le_of_ble_eq_true rfl) dL_law_264 (fun r3 X4 => ?_)
  refine g_lcmp_eq (tgt := 1749) hC dL_law_267 rfl dL_law_268 (by decide) ?_ g_none
  exact hJ X4
noncomputable def W_law_3 (n : Int) (sx : Int → Int) (go : Int → Mem → Option (Int × Mem)) (i : Int) (X : Mem) : Option (Int × Mem) :=
  ax n (i + 1) <|
  ax n (i + 2) <|
  ax n (i + 3) <|
  cl (f_X11_tray (sx (i + 1)) (sx (i + 2)) (sx (i + 3)) X) fun r1 X2 =>
  ax n (i + 1) <|
  ax n (i + 2) <|
  ax n (i + 3) <|
  cl (f_X12_tray (sx (i + 1)) (sx (i + 2)) (sx (i + 3)) X2) fun r3 X4 =>
  c2 r1 r3 (if r1 = r3 then go (i + 6) X4 else none)
set_option maxRecDepth 20000 in
theorem gW_law_3 {C : Cx} {V : Ev} {L : List Kd} {ca sl : Nat} {b : Nat} {n : Int} {sx : Int → Int} (hC : Ok C V cL_law RL 4 2048 84000) (hm : LKm L) (hX : Sc C V b n sx) (hr : ca ≤ C.2.2.2.1.cells ∧ sl ≤ C.2.2.2.1.slots) {go : Int → Mem → Option (Int × Mem)} (hgo : ∀ (i : Int) (X : Mem), G C V L ca sl 4 18 [(3, vI i), (2, vR V.1 120), (1, vR V.1 0), (0, .ref b)] [] X (go i X)) (i : Int) (X : Mem) : G C V L ca sl 4 273 [(3, vI i), (2, vR V.1 120), (1, vR V.1 0), (0, .ref b)] [] X (W_law_3 n sx go i X) := by
  have hJ := gJ_law hC hm hX hr hgo i
  unfold W_law_3
  refine g_aload_n (q := 2) hC dL_law_273 rfl rfl rfl ?_
  refine g_aload_n (q := 3) hC dL_law_274 rfl rfl rfl ?_
  refine g_iload_n (q := 0) hC dL_law_275 rfl rfl ?_
  refine g_iconst (v := vI 1) hC dL_law_276 rfl ?_
  refine g_iadd hC dL_law_277 ?_
  refine g_sld hC hX dL_law_278 ?_
  refine g_aload_n (q := 3) hC dL_law_279 rfl rfl rfl ?_
  refine g_iload_n (q := 0) hC dL_law_280 rfl rfl ?_
  refine g_iconst (v := vI 2) hC dL_law_281 rfl ?_
  refine g_iadd hC dL_law_282 ?_
  refine g_sld hC hX dL_law_283 ?_
  refine g_aload_n (q := 3) hC dL_law_284 rfl rfl rfl ?_
  refine g_iload_n (q := 0) hC dL_law_285 rfl rfl ?_
  refine g_iconst (v := vI 3) hC dL_law_286 rfl ?_
  refine g_iadd hC dL_law_287 ?_
  refine g_sld hC hX dL_law_288 ?_
  refine g_callVI (As := [vI (sx (i + 1)), vI (sx (i + 2)), vI (sx (i + 3))]) hC mv_X11_tray wml_RL_27 (k_X11_tray _ V hm.c (sx (i + 1)) (sx (i + 2)) (sx (i + 3)) X) cf_X11 (at_0 hm.c) (by decide) hr rfl rfl ⟨Nat.le_of_ble_eq_true rfl, Nat.le_of_ble_eq_true rfl⟩ (Nat.le_of_ble_eq_true rfl) dL_law_289 (fun r1 X2 => ?_)
  refine g_aload_n (q := 1) hC dL_law_292 rfl rfl rfl ?_
  refine g_aload_n (q := 3) hC dL_law_293 rfl rfl rfl ?_
  refine g_iload_n (q := 0) hC dL_law_294 rfl rfl ?_
  refine g_iconst (v := vI 1) hC dL_law_295 rfl ?_
  refine g_iadd hC dL_law_296 ?_
  refine g_sld hC hX dL_law_297 ?_
  refine g_aload_n (q := 3) hC dL_law_298 rfl rfl rfl ?_
  refine g_iload_n (q := 0) hC dL_law_299 rfl rfl ?_
  refine g_iconst (v := vI 2) hC dL_law_300 rfl ?_
  refine g_iadd hC dL_law_301 ?_
  refine g_sld hC hX dL_law_302 ?_
  refine g_aload_n (q := 3) hC dL_law_303 rfl rfl rfl ?_
  refine g_iload_n (q := 0) hC dL_law_304 rfl rfl ?_
  refine g_iconst (v := vI 3) hC dL_law_305 rfl ?_
  refine g_iadd hC dL_law_306 ?_
  refine g_sld hC hX dL_law_307 ?_
  refine g_callVI (As := [vI (sx (i + 1)), vI (sx (i + 2)), vI (sx (i + 3))]) hC mv_X12_tray wml_RL_31 (k_X12_tray _ V hm (sx (i + 1)) (sx (i + 2)) (sx (i + 3)) X2) cf_X12 (at_120 hm) (by decide) hr rfl rfl ⟨Nat.le_of_ble_eq_true rfl, Nat.le_of_ble_eq_true rfl⟩ (Nat.le_of_ble_eq_true rfl) dL_law_308 (fun r3 X4 => ?_)
  refine g_icmp_eq (tgt := 1749) hC dL_law_311 (by decide) ?_ g_none
  exact hJ X4
noncomputable def W_law_4 (n : Int) (sx : Int → Int) (go : Int → Mem → Option (Int × Mem)) (i : Int) (X : Mem) : Option (Int × Mem) :=
  ax n (i + 1) <|
  ax n (i + 2) <|
  ax n (i + 3) <|
  c1 (sx (i + 3)) <|
  ax n (i + 4) <|
  c1 (sx (i + 4)) <|
  cl (f_X11_write (sx (i + 1)) (sx (i + 2)) (lo (lshl (sx (i + 3)) 32) (la (sx (i + 4)) 4294967295)) X) fun r1 X2 =>
  ax n (i + 1) <|
  ax n (i + 2) <|
  ax n (i + 3) <|
  c1 (sx (i + 3)) <|
  ax n (i + 4) <|
  c1 (sx (i + 4)) <|
  cl (f_X12_write (sx (i + 1)) (sx (i + 2)) (lo (lshl (sx (i + 3)) 32) (la (sx (i + 4)) 4294967295)) X2) fun r3 X4 =>
  c2 r1 r3 (if r1 = r3 then go (i + 6) X4 else none)
set_option maxRecDepth 20000 in
theorem gW_law_4 {C : Cx} {V : Ev} {L : List Kd} {ca sl : Nat} {b : Nat} {n : Int} {sx : Int → Int} (hC : Ok C V cL_law RL 4 2048 84000) (hm : LKm L) (hX : Sc C V b n sx) (hr : ca ≤ C.2.2.2.1.cells ∧ sl ≤ C.2.2.2.1.slots) {go : Int → Mem → Option (Int × Mem)} (hgo : ∀ (i : Int) (X : Mem), G C V L ca sl 4 18 [(3, vI i), (2, vR V.1 120), (1, vR V.1 0), (0, .ref b)] [] X (go i X)) (i : Int) (X : Mem) : G C V L ca sl 4 316 [(3, vI i), (2, vR V.1 120), (1, vR V.1 0), (0, .ref b)] [] X (W_law_4 n sx go i X) := by
  have hJ := gJ_law hC hm hX hr hgo i
  unfold W_law_4
  refine g_aload_n (q := 2) hC dL_law_316 rfl rfl rfl ?_
  refine g_aload_n (q := 3) hC dL_law_317 rfl rfl rfl ?_
  refine g_iload_n (q := 0) hC dL_law_318 rfl rfl ?_
  refine g_iconst (v := vI 1) hC dL_law_319 rfl ?_
  refine g_iadd hC dL_law_320 ?_
  refine g_sld hC hX dL_law_321 ?_
  refine g_aload_n (q := 3) hC dL_law_322 rfl rfl rfl ?_
  refine g_iload_n (q := 0) hC dL_law_323 rfl rfl ?_
  refine g_iconst (v := vI 2) hC dL_law_324 rfl ?_
  refine g_iadd hC dL_law_325 ?_
  refine g_sld hC hX dL_law_326 ?_
  refine g_aload_n (q := 3) hC dL_law_327 rfl rfl rfl ?_
  refine g_iload_n (q := 0) hC dL_law_328 rfl rfl ?_
  refine g_iconst (v := vI 3) hC dL_law_329 rfl ?_
  refine g_iadd hC dL_law_330 ?_
  refine g_sld hC hX dL_law_331 ?_
  refine g_i2l hC dL_law_332 ?_
  refine g_bipush (v := vI 32) hC dL_law_333 rfl ?_
  refine g_lshl hC dL_law_335 ?_
  refine g_aload_n (q := 3) hC dL_law_336 rfl rfl rfl ?_
  refine g_iload_n (q := 0) hC dL_law_337 rfl rfl ?_
  refine g_iconst (v := vI 4) hC dL_law_338 rfl ?_
  refine g_iadd hC dL_law_339 ?_
  refine g_sld hC hX dL_law_340 ?_
  refine g_i2l hC dL_law_341 ?_
  refine g_ldc2 (n := 4294967295) hC wk_RL_32 rfl dL_law_342 ?_
  refine g_land hC dL_law_345 ?_
  refine g_lor hC dL_law_346 ?_
  refine g_callVI (As := [vI (sx (i + 1)), vI (sx (i + 2)), vJ (lo (lshl (sx (i + 3)) 32) (la (sx (i + 4)) 4294967295))]) hC mv_X11_write wml_RL_34 (k_X11_write _ V hm.c (sx (i + 1)) (sx (i + 2)) (lo (lshl (sx (i + 3)) 32) (la (sx (i + 4)) 4294967295)) X) cf_X11 (at_0 hm.c) (by decide) hr rfl rfl ⟨Nat.le_of_ble_eq_true rfl, Nat.le_of_ble_eq_true rfl⟩ (Nat.le_of_ble_eq_true rfl) dL_law_347 (fun r1 X2 => ?_)
  refine g_aload_n (q := 1) hC dL_law_350 rfl rfl rfl ?_
  refine g_aload_n (q := 3) hC dL_law_351 rfl rfl rfl ?_
  refine g_iload_n (q := 0) hC dL_law_352 rfl rfl ?_
  refine g_iconst (v := vI 1) hC dL_law_353 rfl ?_
  refine g_iadd hC dL_law_354 ?_
  refine g_sld hC hX dL_law_355 ?_
  refine g_aload_n (q := 3) hC dL_law_356 rfl rfl rfl ?_
  refine g_iload_n (q := 0) hC dL_law_357 rfl rfl ?_
  refine g_iconst (v := vI 2) hC dL_law_358 rfl ?_
  refine g_iadd hC dL_law_359 ?_
  refine g_sld hC hX dL_law_360 ?_
  refine g_aload_n (q := 3) hC dL_law_361 rfl rfl rfl ?_
  refine g_iload_n (q := 0) hC dL_law_362 rfl rfl ?_
  refine g_iconst (v := vI 3) hC dL_law_363 rfl ?_
  refine g_iadd hC dL_law_364 ?_
  refine g_sld hC hX dL_law_365 ?_
  refine g_i2l hC dL_law_366 ?_
  refine g_bipush (v := vI 32) hC dL_law_367 rfl ?_
  refine g_lshl hC dL_law_369 ?_
  refine g_aload_n (q := 3) hC dL_law_370 rfl rfl rfl ?_
  refine g_iload_n (q := 0) hC dL_law_371 rfl rfl ?_
  refine g_iconst (v := vI 4) hC dL_law_372 rfl ?_
  refine g_iadd hC dL_law_373 ?_
  refine g_sld hC hX dL_law_374 ?_
  refine g_i2l hC dL_law_375 ?_
  refine g_ldc2 (n := 4294967295) hC wk_RL_32 rfl dL_law_376 ?_
  refine g_land hC dL_law_379 ?_
  refine g_lor hC dL_law_380 ?_
  refine g_callVI (As := [vI (sx (i + 1)), vI (sx (i + 2)), vJ (lo (lshl (sx (i + 3)) 32) (la (sx (i + 4)) 4294967295))]) hC mv_X12_write wml_RL_38 (k_X12_write _ V hm (sx (i + 1)) (sx (i + 2)) (lo (lshl (sx (i + 3)) 32) (la (sx (i + 4)) 4294967295)) X2) cf_X12 (at_120 hm) (by decide) hr rfl rfl ⟨Nat.le_of_ble_eq_true rfl, Nat.le_of_ble_eq_true rfl⟩ (Nat.le_of_ble_eq_true rfl) dL_law_381 (fun r3 X4 => ?_)
  refine g_icmp_eq (tgt := 1749) hC dL_law_384 (by decide) ?_ g_none
  exact hJ X4
noncomputable def W_law_5 (n : Int) (sx : Int → Int) (go : Int → Mem → Option (Int × Mem)) (i : Int) (X : Mem) : Option (Int × Mem) :=
  ax n (i + 1) <|
  ax n (i + 2) <|
  cl (f_X11_read (sx (i + 1)) (sx (i + 2)) X) fun r1 X2 =>
  ax n (i + 1) <|
  ax n (i + 2) <|
  cl (f_X12_read (sx (i + 1)) (sx (i + 2)) X2) fun r3 X4 =>
  d2 r1 r3 (if r1 = r3 then go (i + 6) X4 else none)
set_option maxRecDepth 20000 in
theorem gW_law_5 {C : Cx} {V : Ev} {L : List Kd} {ca sl : Nat} {b : Nat} {n : Int} {sx : Int → Int} (hC : Ok C V cL_law RL 4 2048 84000) (hm : LKm L) (hX : Sc C V b n sx) (hr : ca ≤ C.2.2.2.1.cells ∧ sl ≤ C.2.2.2.1.slots) {go : Int → Mem → Option (Int × Mem)} (hgo : ∀ (i : Int) (X : Mem), G C V L ca sl 4 18 [(3, vI i), (2, vR V.1 120), (1, vR V.1 0), (0, .ref b)] [] X (go i X)) (i : Int) (X : Mem) : G C V L ca sl 4 389 [(3, vI i), (2, vR V.1 120), (1, vR V.1 0), (0, .ref b)] [] X (W_law_5 n sx go i X) := by
  have hJ := gJ_law hC hm hX hr hgo i
  unfold W_law_5
  refine g_aload_n (q := 2) hC dL_law_389 rfl rfl rfl ?_
  refine g_aload_n (q := 3) hC dL_law_390 rfl rfl rfl ?_
  refine g_iload_n (q := 0) hC dL_law_391 rfl rfl ?_
  refine g_iconst (v := vI 1) hC dL_law_392 rfl ?_
  refine g_iadd hC dL_law_393 ?_
  refine g_sld hC hX dL_law_394 ?_
  refine g_aload_n (q := 3) hC dL_law_395 rfl rfl rfl ?_
  refine g_iload_n (q := 0) hC dL_law_396 rfl rfl ?_
  refine g_iconst (v := vI 2) hC dL_law_397 rfl ?_
  refine g_iadd hC dL_law_398 ?_
  refine g_sld hC hX dL_law_399 ?_
  refine g_callVJ (As := [vI (sx (i + 1)), vI (sx (i + 2))]) hC mv_X11_read wml_RL_39 (k_X11_read _ V hm.c (sx (i + 1)) (sx (i + 2)) X) cf_X11 (at_0 hm.c) (by decide) hr rfl rfl ⟨Nat.le_of_ble_eq_true rfl, Nat.le_of_ble_eq_true rfl⟩ (Nat.le_of_ble_eq_true rfl) dL_law_400 (fun r1 X2 => ?_)
  refine g_aload_n (q := 1) hC dL_law_403 rfl rfl rfl ?_
  refine g_aload_n (q := 3) hC dL_law_404 rfl rfl rfl ?_
  refine g_iload_n (q := 0) hC dL_law_405 rfl rfl ?_
  refine g_iconst (v := vI 1) hC dL_law_406 rfl ?_
  refine g_iadd hC dL_law_407 ?_
  refine g_sld hC hX dL_law_408 ?_
  refine g_aload_n (q := 3) hC dL_law_409 rfl rfl rfl ?_
  refine g_iload_n (q := 0) hC dL_law_410 rfl rfl ?_
  refine g_iconst (v := vI 2) hC dL_law_411 rfl ?_
  refine g_iadd hC dL_law_412 ?_
  refine g_sld hC hX dL_law_413 ?_
  refine g_callVJ (As := [vI (sx (i + 1)), vI (sx (i + 2))]) hC mv_X12_read wml_RL_43 (k_X12_read _ V hm (sx (i + 1)) (sx (i + 2)) X2) cf_X12 (at_120 hm) (by decide) hr rfl rfl ⟨Nat.le_of_ble_eq_true rfl, Nat.le_of_ble_eq_true rfl⟩ (Nat.le_of_ble_eq_true rfl) dL_law_414 (fun r3 X4 => ?_)
  refine g_lcmp_eq (tgt := 1749) hC dL_law_417 rfl dL_law_418 (by decide) ?_ g_none
  exact hJ X4
noncomputable def W_law_6 (n : Int) (sx : Int → Int) (go : Int → Mem → Option (Int × Mem)) (i : Int) (X : Mem) : Option (Int × Mem) :=
  ax n (i + 1) <|
  ax n (i + 2) <|
  ax n (i + 3) <|
  ax n (i + 4) <|
  ax n (i + 5) <|
  cl (f_X11_pour (sx (i + 1)) (sx (i + 2)) (sx (i + 3)) (sx (i + 4)) (sx (i + 5)) X) fun r1 X2 =>
  ax n (i + 1) <|
  ax n (i + 2) <|
  ax n (i + 3) <|
  ax n (i + 4) <|
  ax n (i + 5) <|
  cl (f_X12_pour (sx (i + 1)) (sx (i + 2)) (sx (i + 3)) (sx (i + 4)) (sx (i + 5)) X2) fun r3 X4 =>
  c2 r1 r3 (if r1 = r3 then go (i + 6) X4 else none)
set_option maxRecDepth 20000 in
theorem gW_law_6 {C : Cx} {V : Ev} {L : List Kd} {ca sl : Nat} {b : Nat} {n : Int} {sx : Int → Int} (hC : Ok C V cL_law RL 4 2048 84000) (hm : LKm L) (hX : Sc C V b n sx) (hr : ca ≤ C.2.2.2.1.cells ∧ sl ≤ C.2.2.2.1.slots) {go : Int → Mem → Option (Int × Mem)} (hgo : ∀ (i : Int) (X : Mem), G C V L ca sl 4 18 [(3, vI i), (2, vR V.1 120), (1, vR V.1 0), (0, .ref b)] [] X (go i X)) (i : Int) (X : Mem) : G C V L ca sl 4 423 [(3, vI i), (2, vR V.1 120), (1, vR V.1 0), (0, .ref b)] [] X (W_law_6 n sx go i X) := by
  have hJ := gJ_law hC hm hX hr hgo i
  unfold W_law_6
  refine g_aload_n (q := 2) hC dL_law_423 rfl rfl rfl ?_
  refine g_aload_n (q := 3) hC dL_law_424 rfl rfl rfl ?_
  refine g_iload_n (q := 0) hC dL_law_425 rfl rfl ?_
  refine g_iconst (v := vI 1) hC dL_law_426 rfl ?_
  refine g_iadd hC dL_law_427 ?_
  refine g_sld hC hX dL_law_428 ?_
  refine g_aload_n (q := 3) hC dL_law_429 rfl rfl rfl ?_
  refine g_iload_n (q := 0) hC dL_law_430 rfl rfl ?_
  refine g_iconst (v := vI 2) hC dL_law_431 rfl ?_
  refine g_iadd hC dL_law_432 ?_
  refine g_sld hC hX dL_law_433 ?_
  refine g_aload_n (q := 3) hC dL_law_434 rfl rfl rfl ?_
  refine g_iload_n (q := 0) hC dL_law_435 rfl rfl ?_
  refine g_iconst (v := vI 3) hC dL_law_436 rfl ?_
  refine g_iadd hC dL_law_437 ?_
  refine g_sld hC hX dL_law_438 ?_
  refine g_aload_n (q := 3) hC dL_law_439 rfl rfl rfl ?_
  refine g_iload_n (q := 0) hC dL_law_440 rfl rfl ?_
  refine g_iconst (v := vI 4) hC dL_law_441 rfl ?_
  refine g_iadd hC dL_law_442 ?_
  refine g_sld hC hX dL_law_443 ?_
  refine g_aload_n (q := 3) hC dL_law_444 rfl rfl rfl ?_
  refine g_iload_n (q := 0) hC dL_law_445 rfl rfl ?_
  refine g_iconst (v := vI 5) hC dL_law_446 rfl ?_
  refine g_iadd hC dL_law_447 ?_
  refine g_sld hC hX dL_law_448 ?_
  refine g_callVI (As := [vI (sx (i + 1)), vI (sx (i + 2)), vI (sx (i + 3)), vI (sx (i + 4)), vI (sx (i + 5))]) hC mv_X11_pour wml_RL_44 (k_X11_pour _ V hm.c (sx (i + 1)) (sx (i + 2)) (sx (i + 3)) (sx (i + 4)) (sx (i + 5)) X) cf_X11 (at_0 hm.c) (by decide) hr rfl rfl ⟨Nat.le_of_ble_eq_true rfl, Nat.le_of_ble_eq_true rfl⟩ (Nat.le_of_ble_eq_true rfl) dL_law_449 (fun r1 X2 => ?_)
  refine g_aload_n (q := 1) hC dL_law_452 rfl rfl rfl ?_
  refine g_aload_n (q := 3) hC dL_law_453 rfl rfl rfl ?_
  refine g_iload_n (q := 0) hC dL_law_454 rfl rfl ?_
  refine g_iconst (v := vI 1) hC dL_law_455 rfl ?_
  refine g_iadd hC dL_law_456 ?_
  refine g_sld hC hX dL_law_457 ?_
  refine g_aload_n (q := 3) hC dL_law_458 rfl rfl rfl ?_
  refine g_iload_n (q := 0) hC dL_law_459 rfl rfl ?_
  refine g_iconst (v := vI 2) hC dL_law_460 rfl ?_
  refine g_iadd hC dL_law_461 ?_
  refine g_sld hC hX dL_law_462 ?_
  refine g_aload_n (q := 3) hC dL_law_463 rfl rfl rfl ?_
  refine g_iload_n (q := 0) hC dL_law_464 rfl rfl ?_
  refine g_iconst (v := vI 3) hC dL_law_465 rfl ?_
  refine g_iadd hC dL_law_466 ?_
  refine g_sld hC hX dL_law_467 ?_
  refine g_aload_n (q := 3) hC dL_law_468 rfl rfl rfl ?_
  refine g_iload_n (q := 0) hC dL_law_469 rfl rfl ?_
  refine g_iconst (v := vI 4) hC dL_law_470 rfl ?_
  refine g_iadd hC dL_law_471 ?_
  refine g_sld hC hX dL_law_472 ?_
  refine g_aload_n (q := 3) hC dL_law_473 rfl rfl rfl ?_
  refine g_iload_n (q := 0) hC dL_law_474 rfl rfl ?_
  refine g_iconst (v := vI 5) hC dL_law_475 rfl ?_
  refine g_iadd hC dL_law_476 ?_
  refine g_sld hC hX dL_law_477 ?_
  refine g_callVI (As := [vI (sx (i + 1)), vI (sx (i + 2)), vI (sx (i + 3)), vI (sx (i + 4)), vI (sx (i + 5))]) hC mv_X12_pour wml_RL_48 (k_X12_pour _ V hm (sx (i + 1)) (sx (i + 2)) (sx (i + 3)) (sx (i + 4)) (sx (i + 5)) X2) cf_X12 (at_120 hm) (by decide) hr rfl rfl ⟨Nat.le_of_ble_eq_true rfl, Nat.le_of_ble_eq_true rfl⟩ (Nat.le_of_ble_eq_true rfl) dL_law_478 (fun r3 X4 => ?_)
  refine g_icmp_eq (tgt := 1749) hC dL_law_481 (by decide) ?_ g_none
  exact hJ X4
noncomputable def W_law_7 (n : Int) (sx : Int → Int) (go : Int → Mem → Option (Int × Mem)) (i : Int) (X : Mem) : Option (Int × Mem) :=
  ax n (i + 1) <|
  ax n (i + 2) <|
  ax n (i + 3) <|
  ax n (i + 4) <|
  ax n (i + 5) <|
  cl (f_X11_feed (sx (i + 1)) (sx (i + 2)) (sx (i + 3)) (sx (i + 4)) (sx (i + 5)) X) fun r1 X2 =>
  ax n (i + 1) <|
  ax n (i + 2) <|
  ax n (i + 3) <|
  ax n (i + 4) <|
  ax n (i + 5) <|
  cl (f_X12_feed (sx (i + 1)) (sx (i + 2)) (sx (i + 3)) (sx (i + 4)) (sx (i + 5)) X2) fun r3 X4 =>
  c2 r1 r3 (if r1 = r3 then go (i + 6) X4 else none)
set_option maxRecDepth 20000 in
theorem gW_law_7 {C : Cx} {V : Ev} {L : List Kd} {ca sl : Nat} {b : Nat} {n : Int} {sx : Int → Int} (hC : Ok C V cL_law RL 4 2048 84000) (hm : LKm L) (hX : Sc C V b n sx) (hr : ca ≤ C.2.2.2.1.cells ∧ sl ≤ C.2.2.2.1.slots) {go : Int → Mem → Option (Int × Mem)} (hgo : ∀ (i : Int) (X : Mem), G C V L ca sl 4 18 [(3, vI i), (2, vR V.1 120), (1, vR V.1 0), (0, .ref b)] [] X (go i X)) (i : Int) (X : Mem) : G C V L ca sl 4 486 [(3, vI i), (2, vR V.1 120), (1, vR V.1 0), (0, .ref b)] [] X (W_law_7 n sx go i X) := by
  have hJ := gJ_law hC hm hX hr hgo i
  unfold W_law_7
  refine g_aload_n (q := 2) hC dL_law_486 rfl rfl rfl ?_
  refine g_aload_n (q := 3) hC dL_law_487 rfl rfl rfl ?_
  refine g_iload_n (q := 0) hC dL_law_488 rfl rfl ?_
  refine g_iconst (v := vI 1) hC dL_law_489 rfl ?_
  refine g_iadd hC dL_law_490 ?_
  refine g_sld hC hX dL_law_491 ?_
  refine g_aload_n (q := 3) hC dL_law_492 rfl rfl rfl ?_
  refine g_iload_n (q := 0) hC dL_law_493 rfl rfl ?_
  refine g_iconst (v := vI 2) hC dL_law_494 rfl ?_
  refine g_iadd hC dL_law_495 ?_
  refine g_sld hC hX dL_law_496 ?_
  refine g_aload_n (q := 3) hC dL_law_497 rfl rfl rfl ?_
  refine g_iload_n (q := 0) hC dL_law_498 rfl rfl ?_
  refine g_iconst (v := vI 3) hC dL_law_499 rfl ?_
  refine g_iadd hC dL_law_500 ?_
  refine g_sld hC hX dL_law_501 ?_
  refine g_aload_n (q := 3) hC dL_law_502 rfl rfl rfl ?_
  refine g_iload_n (q := 0) hC dL_law_503 rfl rfl ?_
  refine g_iconst (v := vI 4) hC dL_law_504 rfl ?_
  refine g_iadd hC dL_law_505 ?_
  refine g_sld hC hX dL_law_506 ?_
  refine g_aload_n (q := 3) hC dL_law_507 rfl rfl rfl ?_
  refine g_iload_n (q := 0) hC dL_law_508 rfl rfl ?_
  refine g_iconst (v := vI 5) hC dL_law_509 rfl ?_
  refine g_iadd hC dL_law_510 ?_
  refine g_sld hC hX dL_law_511 ?_
  refine g_callVI (As := [vI (sx (i + 1)), vI (sx (i + 2)), vI (sx (i + 3)), vI (sx (i + 4)), vI (sx (i + 5))]) hC mv_X11_feed wml_RL_49 (k_X11_feed _ V hm.c (sx (i + 1)) (sx (i + 2)) (sx (i + 3)) (sx (i + 4)) (sx (i + 5)) X) cf_X11 (at_0 hm.c) (by decide) hr rfl rfl ⟨Nat.le_of_ble_eq_true rfl, Nat.le_of_ble_eq_true rfl⟩ (Nat.le_of_ble_eq_true rfl) dL_law_512 (fun r1 X2 => ?_)
  refine g_aload_n (q := 1) hC dL_law_515 rfl rfl rfl ?_
  refine g_aload_n (q := 3) hC dL_law_516 rfl rfl rfl ?_
  refine g_iload_n (q := 0) hC dL_law_517 rfl rfl ?_
  refine g_iconst (v := vI 1) hC dL_law_518 rfl ?_
  refine g_iadd hC dL_law_519 ?_
  refine g_sld hC hX dL_law_520 ?_
  refine g_aload_n (q := 3) hC dL_law_521 rfl rfl rfl ?_
  refine g_iload_n (q := 0) hC dL_law_522 rfl rfl ?_
  refine g_iconst (v := vI 2) hC dL_law_523 rfl ?_
  refine g_iadd hC dL_law_524 ?_
  refine g_sld hC hX dL_law_525 ?_
  refine g_aload_n (q := 3) hC dL_law_526 rfl rfl rfl ?_
  refine g_iload_n (q := 0) hC dL_law_527 rfl rfl ?_
  refine g_iconst (v := vI 3) hC dL_law_528 rfl ?_
  refine g_iadd hC dL_law_529 ?_
  refine g_sld hC hX dL_law_530 ?_
  refine g_aload_n (q := 3) hC dL_law_531 rfl rfl rfl ?_
  refine g_iload_n (q := 0) hC dL_law_532 rfl rfl ?_
  refine g_iconst (v := vI 4) hC dL_law_533 rfl ?_
  refine g_iadd hC dL_law_534 ?_
  refine g_sld hC hX dL_law_535 ?_
  refine g_aload_n (q := 3) hC dL_law_536 rfl rfl rfl ?_
  refine g_iload_n (q := 0) hC dL_law_537 rfl rfl ?_
  refine g_iconst (v := vI 5) hC dL_law_538 rfl ?_
  refine g_iadd hC dL_law_539 ?_
  refine g_sld hC hX dL_law_540 ?_
  refine g_callVI (As := [vI (sx (i + 1)), vI (sx (i + 2)), vI (sx (i + 3)), vI (sx (i + 4)), vI (sx (i + 5))]) hC mv_X12_feed wml_RL_53 (k_X12_feed _ V hm (sx (i + 1)) (sx (i + 2)) (sx (i + 3)) (sx (i + 4)) (sx (i + 5)) X2) cf_X12 (at_120 hm) (by decide) hr rfl rfl ⟨Nat.le_of_ble_eq_true rfl, Nat.le_of_ble_eq_true rfl⟩ (Nat.le_of_ble_eq_true rfl) dL_law_541 (fun r3 X4 => ?_)
  refine g_icmp_eq (tgt := 1749) hC dL_law_544 (by decide) ?_ g_none
  exact hJ X4
noncomputable def W_law_8 (n : Int) (sx : Int → Int) (go : Int → Mem → Option (Int × Mem)) (i : Int) (X : Mem) : Option (Int × Mem) :=
  ax n (i + 1) <|
  cl (f_X11_river (sx (i + 1)) X) fun r1 X2 =>
  ax n (i + 1) <|
  cl (f_X12_river (sx (i + 1)) X2) fun r3 X4 =>
  c2 r1 r3 (if r1 = r3 then go (i + 6) X4 else none)
set_option maxRecDepth 20000 in
theorem gW_law_8 {C : Cx} {V : Ev} {L : List Kd} {ca sl : Nat} {b : Nat} {n : Int} {sx : Int → Int} (hC : Ok C V cL_law RL 4 2048 84000) (hm : LKm L) (hX : Sc C V b n sx) (hr : ca ≤ C.2.2.2.1.cells ∧ sl ≤ C.2.2.2.1.slots) {go : Int → Mem → Option (Int × Mem)} (hgo : ∀ (i : Int) (X : Mem), G C V L ca sl 4 18 [(3, vI i), (2, vR V.1 120), (1, vR V.1 0), (0, .ref b)] [] X (go i X)) (i : Int) (X : Mem) : G C V L ca sl 4 549 [(3, vI i), (2, vR V.1 120), (1, vR V.1 0), (0, .ref b)] [] X (W_law_8 n sx go i X) := by
  have hJ := gJ_law hC hm hX hr hgo i
  unfold W_law_8
  refine g_aload_n (q := 2) hC dL_law_549 rfl rfl rfl ?_
  refine g_aload_n (q := 3) hC dL_law_550 rfl rfl rfl ?_
  refine g_iload_n (q := 0) hC dL_law_551 rfl rfl ?_
  refine g_iconst (v := vI 1) hC dL_law_552 rfl ?_
  refine g_iadd hC dL_law_553 ?_
  refine g_sld hC hX dL_law_554 ?_
  refine g_callVI (As := [vI (sx (i + 1))]) hC mv_X11_river wml_RL_54 (k_X11_river _ V hm.c (sx (i + 1)) X) cf_X11 (at_0 hm.c) (by decide) hr rfl rfl ⟨Nat.le_of_ble_eq_true rfl, Nat.le_of_ble_eq_true rfl⟩ (Nat.le_of_ble_eq_true rfl) dL_law_555 (fun r1 X2 => ?_)
  refine g_aload_n (q := 1) hC dL_law_558 rfl rfl rfl ?_
  refine g_aload_n (q := 3) hC dL_law_559 rfl rfl rfl ?_
  refine g_iload_n (q := 0) hC dL_law_560 rfl rfl ?_
  refine g_iconst (v := vI 1) hC dL_law_561 rfl ?_
  refine g_iadd hC dL_law_562 ?_
  refine g_sld hC hX dL_law_563 ?_
  refine g_callVI (As := [vI (sx (i + 1))]) hC mv_X12_river wml_RL_58 (k_X12_river _ V hm (sx (i + 1)) X2) cf_X12 (at_120 hm) (by decide) hr rfl rfl ⟨Nat.le_of_ble_eq_true rfl, Nat.le_of_ble_eq_true rfl⟩ (Nat.le_of_ble_eq_true rfl) dL_law_564 (fun r3 X4 => ?_)
  refine g_icmp_eq (tgt := 1749) hC dL_law_567 (by decide) ?_ g_none
  exact hJ X4
noncomputable def W_law_9 (n : Int) (sx : Int → Int) (go : Int → Mem → Option (Int × Mem)) (i : Int) (X : Mem) : Option (Int × Mem) :=
  ax n (i + 1) <|
  cl (f_X11_rule (sx (i + 1)) X) fun r1 X2 =>
  ax n (i + 1) <|
  cl (f_X12_rule (sx (i + 1)) X2) fun r3 X4 =>
  c2 r1 r3 (if r1 = r3 then go (i + 6) X4 else none)
set_option maxRecDepth 20000 in
theorem gW_law_9 {C : Cx} {V : Ev} {L : List Kd} {ca sl : Nat} {b : Nat} {n : Int} {sx : Int → Int} (hC : Ok C V cL_law RL 4 2048 84000) (hm : LKm L) (hX : Sc C V b n sx) (hr : ca ≤ C.2.2.2.1.cells ∧ sl ≤ C.2.2.2.1.slots) {go : Int → Mem → Option (Int × Mem)} (hgo : ∀ (i : Int) (X : Mem), G C V L ca sl 4 18 [(3, vI i), (2, vR V.1 120), (1, vR V.1 0), (0, .ref b)] [] X (go i X)) (i : Int) (X : Mem) : G C V L ca sl 4 572 [(3, vI i), (2, vR V.1 120), (1, vR V.1 0), (0, .ref b)] [] X (W_law_9 n sx go i X) := by
  have hJ := gJ_law hC hm hX hr hgo i
  unfold W_law_9
  refine g_aload_n (q := 2) hC dL_law_572 rfl rfl rfl ?_
  refine g_aload_n (q := 3) hC dL_law_573 rfl rfl rfl ?_
  refine g_iload_n (q := 0) hC dL_law_574 rfl rfl ?_
  refine g_iconst (v := vI 1) hC dL_law_575 rfl ?_
  refine g_iadd hC dL_law_576 ?_
  refine g_sld hC hX dL_law_577 ?_
  refine g_callVI (As := [vI (sx (i + 1))]) hC mv_X11_rule wml_RL_59 (k_X11_rule _ V hm.c (sx (i + 1)) X) cf_X11 (at_0 hm.c) (by decide) hr rfl rfl ⟨Nat.le_of_ble_eq_true rfl, Nat.le_of_ble_eq_true rfl⟩ (Nat.le_of_ble_eq_true rfl) dL_law_578 (fun r1 X2 => ?_)
  refine g_aload_n (q := 1) hC dL_law_581 rfl rfl rfl ?_
  refine g_aload_n (q := 3) hC dL_law_582 rfl rfl rfl ?_
  refine g_iload_n (q := 0) hC dL_law_583 rfl rfl ?_
  refine g_iconst (v := vI 1) hC dL_law_584 rfl ?_
  refine g_iadd hC dL_law_585 ?_
  refine g_sld hC hX dL_law_586 ?_
  refine g_callVI (As := [vI (sx (i + 1))]) hC mv_X12_rule wml_RL_62 (k_X12_rule _ V hm (sx (i + 1)) X2) cf_X12 (at_120 hm) (by decide) hr rfl rfl ⟨Nat.le_of_ble_eq_true rfl, Nat.le_of_ble_eq_true rfl⟩ (Nat.le_of_ble_eq_true rfl) dL_law_587 (fun r3 X4 => ?_)
  refine g_icmp_eq (tgt := 1749) hC dL_law_590 (by decide) ?_ g_none
  exact hJ X4
noncomputable def W_law_10 (n : Int) (sx : Int → Int) (go : Int → Mem → Option (Int × Mem)) (i : Int) (X : Mem) : Option (Int × Mem) :=
  ax n (i + 1) <|
  cl (f_X11_fault (sx (i + 1)) X) fun r1 X2 =>
  ax n (i + 1) <|
  cl (f_X12_fault (sx (i + 1)) X2) fun r3 X4 =>
  c2 r1 r3 (if r1 = r3 then go (i + 6) X4 else none)
set_option maxRecDepth 20000 in
theorem gW_law_10 {C : Cx} {V : Ev} {L : List Kd} {ca sl : Nat} {b : Nat} {n : Int} {sx : Int → Int} (hC : Ok C V cL_law RL 4 2048 84000) (hm : LKm L) (hX : Sc C V b n sx) (hr : ca ≤ C.2.2.2.1.cells ∧ sl ≤ C.2.2.2.1.slots) {go : Int → Mem → Option (Int × Mem)} (hgo : ∀ (i : Int) (X : Mem), G C V L ca sl 4 18 [(3, vI i), (2, vR V.1 120), (1, vR V.1 0), (0, .ref b)] [] X (go i X)) (i : Int) (X : Mem) : G C V L ca sl 4 595 [(3, vI i), (2, vR V.1 120), (1, vR V.1 0), (0, .ref b)] [] X (W_law_10 n sx go i X) := by
  have hJ := gJ_law hC hm hX hr hgo i
  unfold W_law_10
  refine g_aload_n (q := 2) hC dL_law_595 rfl rfl rfl ?_
  refine g_aload_n (q := 3) hC dL_law_596 rfl rfl rfl ?_
  refine g_iload_n (q := 0) hC dL_law_597 rfl rfl ?_
  refine g_iconst (v := vI 1) hC dL_law_598 rfl ?_
  refine g_iadd hC dL_law_599 ?_
  refine g_sld hC hX dL_law_600 ?_
  refine g_callVI (As := [vI (sx (i + 1))]) hC mv_X11_fault wml_RL_63 (k_X11_fault _ V hm.c (sx (i + 1)) X) cf_X11 (at_0 hm.c) (by decide) hr rfl rfl ⟨Nat.le_of_ble_eq_true rfl, Nat.le_of_ble_eq_true rfl⟩ (Nat.le_of_ble_eq_true rfl) dL_law_601 (fun r1 X2 => ?_)
  refine g_aload_n (q := 1) hC dL_law_604 rfl rfl rfl ?_
  refine g_aload_n (q := 3) hC dL_law_605 rfl rfl rfl ?_
  refine g_iload_n (q := 0) hC dL_law_606 rfl rfl ?_
  refine g_iconst (v := vI 1) hC dL_law_607 rfl ?_
  refine g_iadd hC dL_law_608 ?_
  refine g_sld hC hX dL_law_609 ?_
  refine g_callVI (As := [vI (sx (i + 1))]) hC mv_X12_fault wml_RL_66 (k_X12_fault _ V hm (sx (i + 1)) X2) cf_X12 (at_120 hm) (by decide) hr rfl rfl ⟨Nat.le_of_ble_eq_true rfl, Nat.le_of_ble_eq_true rfl⟩ (Nat.le_of_ble_eq_true rfl) dL_law_610 (fun r3 X4 => ?_)
  refine g_icmp_eq (tgt := 1749) hC dL_law_613 (by decide) ?_ g_none
  exact hJ X4
noncomputable def W_law_11 (n : Int) (sx : Int → Int) (go : Int → Mem → Option (Int × Mem)) (i : Int) (X : Mem) : Option (Int × Mem) :=
  ax n (i + 1) <|
  cl (f_X11_told (sx (i + 1)) X) fun r1 X2 =>
  ax n (i + 1) <|
  cl (f_X12_told (sx (i + 1)) X2) fun r3 X4 =>
  c2 r1 r3 (if r1 = r3 then go (i + 6) X4 else none)
set_option maxRecDepth 20000 in
theorem gW_law_11 {C : Cx} {V : Ev} {L : List Kd} {ca sl : Nat} {b : Nat} {n : Int} {sx : Int → Int} (hC : Ok C V cL_law RL 4 2048 84000) (hm : LKm L) (hX : Sc C V b n sx) (hr : ca ≤ C.2.2.2.1.cells ∧ sl ≤ C.2.2.2.1.slots) {go : Int → Mem → Option (Int × Mem)} (hgo : ∀ (i : Int) (X : Mem), G C V L ca sl 4 18 [(3, vI i), (2, vR V.1 120), (1, vR V.1 0), (0, .ref b)] [] X (go i X)) (i : Int) (X : Mem) : G C V L ca sl 4 618 [(3, vI i), (2, vR V.1 120), (1, vR V.1 0), (0, .ref b)] [] X (W_law_11 n sx go i X) := by
  have hJ := gJ_law hC hm hX hr hgo i
  unfold W_law_11
  refine g_aload_n (q := 2) hC dL_law_618 rfl rfl rfl ?_
  refine g_aload_n (q := 3) hC dL_law_619 rfl rfl rfl ?_
  refine g_iload_n (q := 0) hC dL_law_620 rfl rfl ?_
  refine g_iconst (v := vI 1) hC dL_law_621 rfl ?_
  refine g_iadd hC dL_law_622 ?_
  refine g_sld hC hX dL_law_623 ?_
  refine g_callVI (As := [vI (sx (i + 1))]) hC mv_X11_told wml_RL_67 (k_X11_told _ V hm.c (sx (i + 1)) X) cf_X11 (at_0 hm.c) (by decide) hr rfl rfl ⟨Nat.le_of_ble_eq_true rfl, Nat.le_of_ble_eq_true rfl⟩ (Nat.le_of_ble_eq_true rfl) dL_law_624 (fun r1 X2 => ?_)
  refine g_aload_n (q := 1) hC dL_law_627 rfl rfl rfl ?_
  refine g_aload_n (q := 3) hC dL_law_628 rfl rfl rfl ?_
  refine g_iload_n (q := 0) hC dL_law_629 rfl rfl ?_
  refine g_iconst (v := vI 1) hC dL_law_630 rfl ?_
  refine g_iadd hC dL_law_631 ?_
  refine g_sld hC hX dL_law_632 ?_
  refine g_callVI (As := [vI (sx (i + 1))]) hC mv_X12_told wml_RL_70 (k_X12_told _ V hm (sx (i + 1)) X2) cf_X12 (at_120 hm) (by decide) hr rfl rfl ⟨Nat.le_of_ble_eq_true rfl, Nat.le_of_ble_eq_true rfl⟩ (Nat.le_of_ble_eq_true rfl) dL_law_633 (fun r3 X4 => ?_)
  refine g_icmp_eq (tgt := 1749) hC dL_law_636 (by decide) ?_ g_none
  exact hJ X4
noncomputable def W_law_12 (n : Int) (sx : Int → Int) (go : Int → Mem → Option (Int × Mem)) (i : Int) (X : Mem) : Option (Int × Mem) :=
  ax n (i + 1) <|
  ax n (i + 2) <|
  cl (f_X11_bar (sx (i + 1)) (sx (i + 2)) X) fun r1 X2 =>
  ax n (i + 1) <|
  ax n (i + 2) <|
  cl (f_X12_bar (sx (i + 1)) (sx (i + 2)) X2) fun r3 X4 =>
  c2 r1 r3 (if r1 = r3 then go (i + 6) X4 else none)
set_option maxRecDepth 20000 in
theorem gW_law_12 {C : Cx} {V : Ev} {L : List Kd} {ca sl : Nat} {b : Nat} {n : Int} {sx : Int → Int} (hC : Ok C V cL_law RL 4 2048 84000) (hm : LKm L) (hX : Sc C V b n sx) (hr : ca ≤ C.2.2.2.1.cells ∧ sl ≤ C.2.2.2.1.slots) {go : Int → Mem → Option (Int × Mem)} (hgo : ∀ (i : Int) (X : Mem), G C V L ca sl 4 18 [(3, vI i), (2, vR V.1 120), (1, vR V.1 0), (0, .ref b)] [] X (go i X)) (i : Int) (X : Mem) : G C V L ca sl 4 641 [(3, vI i), (2, vR V.1 120), (1, vR V.1 0), (0, .ref b)] [] X (W_law_12 n sx go i X) := by
  have hJ := gJ_law hC hm hX hr hgo i
  unfold W_law_12
  refine g_aload_n (q := 2) hC dL_law_641 rfl rfl rfl ?_
  refine g_aload_n (q := 3) hC dL_law_642 rfl rfl rfl ?_
  refine g_iload_n (q := 0) hC dL_law_643 rfl rfl ?_
  refine g_iconst (v := vI 1) hC dL_law_644 rfl ?_
  refine g_iadd hC dL_law_645 ?_
  refine g_sld hC hX dL_law_646 ?_
  refine g_aload_n (q := 3) hC dL_law_647 rfl rfl rfl ?_
  refine g_iload_n (q := 0) hC dL_law_648 rfl rfl ?_
  refine g_iconst (v := vI 2) hC dL_law_649 rfl ?_
  refine g_iadd hC dL_law_650 ?_
  refine g_sld hC hX dL_law_651 ?_
  refine g_callVI (As := [vI (sx (i + 1)), vI (sx (i + 2))]) hC mv_X11_bar wml_RL_71 (k_X11_bar _ V hm.c (sx (i + 1)) (sx (i + 2)) X) cf_X11 (at_0 hm.c) (by decide) hr rfl rfl ⟨Nat.le_of_ble_eq_true rfl, Nat.le_of_ble_eq_true rfl⟩ (Nat.le_of_ble_eq_true rfl) dL_law_652 (fun r1 X2 => ?_)
  refine g_aload_n (q := 1) hC dL_law_655 rfl rfl rfl ?_
  refine g_aload_n (q := 3) hC dL_law_656 rfl rfl rfl ?_
  refine g_iload_n (q := 0) hC dL_law_657 rfl rfl ?_
  refine g_iconst (v := vI 1) hC dL_law_658 rfl ?_
  refine g_iadd hC dL_law_659 ?_
  refine g_sld hC hX dL_law_660 ?_
  refine g_aload_n (q := 3) hC dL_law_661 rfl rfl rfl ?_
  refine g_iload_n (q := 0) hC dL_law_662 rfl rfl ?_
  refine g_iconst (v := vI 2) hC dL_law_663 rfl ?_
  refine g_iadd hC dL_law_664 ?_
  refine g_sld hC hX dL_law_665 ?_
  refine g_callVI (As := [vI (sx (i + 1)), vI (sx (i + 2))]) hC mv_X12_bar wml_RL_75 (k_X12_bar _ V hm (sx (i + 1)) (sx (i + 2)) X2) cf_X12 (at_120 hm) (by decide) hr rfl rfl ⟨Nat.le_of_ble_eq_true rfl, Nat.le_of_ble_eq_true rfl⟩ (Nat.le_of_ble_eq_true rfl) dL_law_666 (fun r3 X4 => ?_)
  refine g_icmp_eq (tgt := 1749) hC dL_law_669 (by decide) ?_ g_none
  exact hJ X4
noncomputable def W_law_13 (n : Int) (sx : Int → Int) (go : Int → Mem → Option (Int × Mem)) (i : Int) (X : Mem) : Option (Int × Mem) :=
  ax n (i + 1) <|
  cl (f_X11_barOf (sx (i + 1)) X) fun r1 X2 =>
  ax n (i + 1) <|
  cl (f_X12_barOf (sx (i + 1)) X2) fun r3 X4 =>
  c2 r1 r3 (if r1 = r3 then go (i + 6) X4 else none)
set_option maxRecDepth 20000 in
theorem gW_law_13 {C : Cx} {V : Ev} {L : List Kd} {ca sl : Nat} {b : Nat} {n : Int} {sx : Int → Int} (hC : Ok C V cL_law RL 4 2048 84000) (hm : LKm L) (hX : Sc C V b n sx) (hr : ca ≤ C.2.2.2.1.cells ∧ sl ≤ C.2.2.2.1.slots) {go : Int → Mem → Option (Int × Mem)} (hgo : ∀ (i : Int) (X : Mem), G C V L ca sl 4 18 [(3, vI i), (2, vR V.1 120), (1, vR V.1 0), (0, .ref b)] [] X (go i X)) (i : Int) (X : Mem) : G C V L ca sl 4 674 [(3, vI i), (2, vR V.1 120), (1, vR V.1 0), (0, .ref b)] [] X (W_law_13 n sx go i X) := by
  have hJ := gJ_law hC hm hX hr hgo i
  unfold W_law_13
  refine g_aload_n (q := 2) hC dL_law_674 rfl rfl rfl ?_
  refine g_aload_n (q := 3) hC dL_law_675 rfl rfl rfl ?_
  refine g_iload_n (q := 0) hC dL_law_676 rfl rfl ?_
  refine g_iconst (v := vI 1) hC dL_law_677 rfl ?_
  refine g_iadd hC dL_law_678 ?_
  refine g_sld hC hX dL_law_679 ?_
  refine g_callVI (As := [vI (sx (i + 1))]) hC mv_X11_barOf wml_RL_76 (k_X11_barOf _ V hm.c (sx (i + 1)) X) cf_X11 (at_0 hm.c) (by decide) hr rfl rfl ⟨Nat.le_of_ble_eq_true rfl, Nat.le_of_ble_eq_true rfl⟩ (Nat.le_of_ble_eq_true rfl) dL_law_680 (fun r1 X2 => ?_)
  refine g_aload_n (q := 1) hC dL_law_683 rfl rfl rfl ?_
  refine g_aload_n (q := 3) hC dL_law_684 rfl rfl rfl ?_
  refine g_iload_n (q := 0) hC dL_law_685 rfl rfl ?_
  refine g_iconst (v := vI 1) hC dL_law_686 rfl ?_
  refine g_iadd hC dL_law_687 ?_
  refine g_sld hC hX dL_law_688 ?_
  refine g_callVI (As := [vI (sx (i + 1))]) hC mv_X12_barOf wml_RL_79 (k_X12_barOf _ V hm (sx (i + 1)) X2) cf_X12 (at_120 hm) (by decide) hr rfl rfl ⟨Nat.le_of_ble_eq_true rfl, Nat.le_of_ble_eq_true rfl⟩ (Nat.le_of_ble_eq_true rfl) dL_law_689 (fun r3 X4 => ?_)
  refine g_icmp_eq (tgt := 1749) hC dL_law_692 (by decide) ?_ g_none
  exact hJ X4
noncomputable def W_law_14 (n : Int) (sx : Int → Int) (go : Int → Mem → Option (Int × Mem)) (i : Int) (X : Mem) : Option (Int × Mem) :=
  ax n (i + 1) <|
  cl (f_X11_stage (sx (i + 1)) X) fun r1 X2 =>
  ax n (i + 1) <|
  cl (f_X12_stage (sx (i + 1)) X2) fun r3 X4 =>
  c2 r1 r3 (if r1 = r3 then go (i + 6) X4 else none)
set_option maxRecDepth 20000 in
theorem gW_law_14 {C : Cx} {V : Ev} {L : List Kd} {ca sl : Nat} {b : Nat} {n : Int} {sx : Int → Int} (hC : Ok C V cL_law RL 4 2048 84000) (hm : LKm L) (hX : Sc C V b n sx) (hr : ca ≤ C.2.2.2.1.cells ∧ sl ≤ C.2.2.2.1.slots) {go : Int → Mem → Option (Int × Mem)} (hgo : ∀ (i : Int) (X : Mem), G C V L ca sl 4 18 [(3, vI i), (2, vR V.1 120), (1, vR V.1 0), (0, .ref b)] [] X (go i X)) (i : Int) (X : Mem) : G C V L ca sl 4 697 [(3, vI i), (2, vR V.1 120), (1, vR V.1 0), (0, .ref b)] [] X (W_law_14 n sx go i X) := by
  have hJ := gJ_law hC hm hX hr hgo i
  unfold W_law_14
  refine g_aload_n (q := 2) hC dL_law_697 rfl rfl rfl ?_
  refine g_aload_n (q := 3) hC dL_law_698 rfl rfl rfl ?_
  refine g_iload_n (q := 0) hC dL_law_699 rfl rfl ?_
  refine g_iconst (v := vI 1) hC dL_law_700 rfl ?_
  refine g_iadd hC dL_law_701 ?_
  refine g_sld hC hX dL_law_702 ?_
  refine g_callVI (As := [vI (sx (i + 1))]) hC mv_X11_stage wml_RL_80 (k_X11_stage _ V hm.c (sx (i + 1)) X) cf_X11 (at_0 hm.c) (by decide) hr rfl rfl ⟨Nat.le_of_ble_eq_true rfl, Nat.le_of_ble_eq_true rfl⟩ (Nat.le_of_ble_eq_true rfl) dL_law_703 (fun r1 X2 => ?_)
  refine g_aload_n (q := 1) hC dL_law_706 rfl rfl rfl ?_
  refine g_aload_n (q := 3) hC dL_law_707 rfl rfl rfl ?_
  refine g_iload_n (q := 0) hC dL_law_708 rfl rfl ?_
  refine g_iconst (v := vI 1) hC dL_law_709 rfl ?_
  refine g_iadd hC dL_law_710 ?_
  refine g_sld hC hX dL_law_711 ?_
  refine g_callVI (As := [vI (sx (i + 1))]) hC mv_X12_stage wml_RL_83 (k_X12_stage _ V hm (sx (i + 1)) X2) cf_X12 (at_120 hm) (by decide) hr rfl rfl ⟨Nat.le_of_ble_eq_true rfl, Nat.le_of_ble_eq_true rfl⟩ (Nat.le_of_ble_eq_true rfl) dL_law_712 (fun r3 X4 => ?_)
  refine g_icmp_eq (tgt := 1749) hC dL_law_715 (by decide) ?_ g_none
  exact hJ X4
noncomputable def W_law_15 (n : Int) (sx : Int → Int) (go : Int → Mem → Option (Int × Mem)) (i : Int) (X : Mem) : Option (Int × Mem) :=
  ax n (i + 1) <|
  ax n (i + 2) <|
  cl (f_X11_depth (sx (i + 1)) (sx (i + 2)) X) fun r1 X2 =>
  ax n (i + 1) <|
  ax n (i + 2) <|
  cl (f_X12_depth (sx (i + 1)) (sx (i + 2)) X2) fun r3 X4 =>
  c2 r1 r3 (if r1 = r3 then go (i + 6) X4 else none)
set_option maxRecDepth 20000 in
theorem gW_law_15 {C : Cx} {V : Ev} {L : List Kd} {ca sl : Nat} {b : Nat} {n : Int} {sx : Int → Int} (hC : Ok C V cL_law RL 4 2048 84000) (hm : LKm L) (hX : Sc C V b n sx) (hr : ca ≤ C.2.2.2.1.cells ∧ sl ≤ C.2.2.2.1.slots) {go : Int → Mem → Option (Int × Mem)} (hgo : ∀ (i : Int) (X : Mem), G C V L ca sl 4 18 [(3, vI i), (2, vR V.1 120), (1, vR V.1 0), (0, .ref b)] [] X (go i X)) (i : Int) (X : Mem) : G C V L ca sl 4 720 [(3, vI i), (2, vR V.1 120), (1, vR V.1 0), (0, .ref b)] [] X (W_law_15 n sx go i X) := by
  have hJ := gJ_law hC hm hX hr hgo i
  unfold W_law_15
  refine g_aload_n (q := 2) hC dL_law_720 rfl rfl rfl ?_
  refine g_aload_n (q := 3) hC dL_law_721 rfl rfl rfl ?_
  refine g_iload_n (q := 0) hC dL_law_722 rfl rfl ?_
  refine g_iconst (v := vI 1) hC dL_law_723 rfl ?_
  refine g_iadd hC dL_law_724 ?_
  refine g_sld hC hX dL_law_725 ?_
  refine g_aload_n (q := 3) hC dL_law_726 rfl rfl rfl ?_
  refine g_iload_n (q := 0) hC dL_law_727 rfl rfl ?_
  refine g_iconst (v := vI 2) hC dL_law_728 rfl ?_
  refine g_iadd hC dL_law_729 ?_
  refine g_sld hC hX dL_law_730 ?_
  refine g_callVI (As := [vI (sx (i + 1)), vI (sx (i + 2))]) hC mv_X11_depth wml_RL_84 (k_X11_depth _ V hm.c (sx (i + 1)) (sx (i + 2)) X) cf_X11 (at_0 hm.c) (by decide) hr rfl rfl ⟨Nat.le_of_ble_eq_true rfl, Nat.le_of_ble_eq_true rfl⟩ (Nat.le_of_ble_eq_true rfl) dL_law_731 (fun r1 X2 => ?_)
  refine g_aload_n (q := 1) hC dL_law_734 rfl rfl rfl ?_
  refine g_aload_n (q := 3) hC dL_law_735 rfl rfl rfl ?_
  refine g_iload_n (q := 0) hC dL_law_736 rfl rfl ?_
  refine g_iconst (v := vI 1) hC dL_law_737 rfl ?_
  refine g_iadd hC dL_law_738 ?_
  refine g_sld hC hX dL_law_739 ?_
  refine g_aload_n (q := 3) hC dL_law_740 rfl rfl rfl ?_
  refine g_iload_n (q := 0) hC dL_law_741 rfl rfl ?_
  refine g_iconst (v := vI 2) hC dL_law_742 rfl ?_
  refine g_iadd hC dL_law_743 ?_
  refine g_sld hC hX dL_law_744 ?_
  refine g_callVI (As := [vI (sx (i + 1)), vI (sx (i + 2))]) hC mv_X12_depth wml_RL_87 (k_X12_depth _ V hm (sx (i + 1)) (sx (i + 2)) X2) cf_X12 (at_120 hm) (by decide) hr rfl rfl ⟨Nat.le_of_ble_eq_true rfl, Nat.le_of_ble_eq_true rfl⟩ (Nat.le_of_ble_eq_true rfl) dL_law_745 (fun r3 X4 => ?_)
  refine g_icmp_eq (tgt := 1749) hC dL_law_748 (by decide) ?_ g_none
  exact hJ X4
noncomputable def W_law_16 (n : Int) (sx : Int → Int) (go : Int → Mem → Option (Int × Mem)) (i : Int) (X : Mem) : Option (Int × Mem) :=
  ax n (i + 1) <|
  cl (f_X11_open (sx (i + 1)) X) fun r1 X2 =>
  ax n (i + 1) <|
  cl (f_X12_open (sx (i + 1)) X2) fun r3 X4 =>
  c2 r1 r3 (if r1 = r3 then go (i + 6) X4 else none)
set_option maxRecDepth 20000 in
theorem gW_law_16 {C : Cx} {V : Ev} {L : List Kd} {ca sl : Nat} {b : Nat} {n : Int} {sx : Int → Int} (hC : Ok C V cL_law RL 4 2048 84000) (hm : LKm L) (hX : Sc C V b n sx) (hr : ca ≤ C.2.2.2.1.cells ∧ sl ≤ C.2.2.2.1.slots) {go : Int → Mem → Option (Int × Mem)} (hgo : ∀ (i : Int) (X : Mem), G C V L ca sl 4 18 [(3, vI i), (2, vR V.1 120), (1, vR V.1 0), (0, .ref b)] [] X (go i X)) (i : Int) (X : Mem) : G C V L ca sl 4 753 [(3, vI i), (2, vR V.1 120), (1, vR V.1 0), (0, .ref b)] [] X (W_law_16 n sx go i X) := by
  have hJ := gJ_law hC hm hX hr hgo i
  unfold W_law_16
  refine g_aload_n (q := 2) hC dL_law_753 rfl rfl rfl ?_
  refine g_aload_n (q := 3) hC dL_law_754 rfl rfl rfl ?_
  refine g_iload_n (q := 0) hC dL_law_755 rfl rfl ?_
  refine g_iconst (v := vI 1) hC dL_law_756 rfl ?_
  refine g_iadd hC dL_law_757 ?_
  refine g_sld hC hX dL_law_758 ?_
  refine g_callVI (As := [vI (sx (i + 1))]) hC mv_X11_open wml_RL_88 (k_X11_open _ V hm.c (sx (i + 1)) X) cf_X11 (at_0 hm.c) (by decide) hr rfl rfl ⟨Nat.le_of_ble_eq_true rfl, Nat.le_of_ble_eq_true rfl⟩ (Nat.le_of_ble_eq_true rfl) dL_law_759 (fun r1 X2 => ?_)
  refine g_aload_n (q := 1) hC dL_law_762 rfl rfl rfl ?_
  refine g_aload_n (q := 3) hC dL_law_763 rfl rfl rfl ?_
  refine g_iload_n (q := 0) hC dL_law_764 rfl rfl ?_
  refine g_iconst (v := vI 1) hC dL_law_765 rfl ?_
  refine g_iadd hC dL_law_766 ?_
  refine g_sld hC hX dL_law_767 ?_
  refine g_callVI (As := [vI (sx (i + 1))]) hC mv_X12_open wml_RL_91 (k_X12_open _ V hm (sx (i + 1)) X2) cf_X12 (at_120 hm) (by decide) hr rfl rfl ⟨Nat.le_of_ble_eq_true rfl, Nat.le_of_ble_eq_true rfl⟩ (Nat.le_of_ble_eq_true rfl) dL_law_768 (fun r3 X4 => ?_)
  refine g_icmp_eq (tgt := 1749) hC dL_law_771 (by decide) ?_ g_none
  exact hJ X4
noncomputable def W_law_17 (n : Int) (sx : Int → Int) (go : Int → Mem → Option (Int × Mem)) (i : Int) (X : Mem) : Option (Int × Mem) :=
  ax n (i + 1) <|
  cl (f_X11_part (sx (i + 1)) X) fun r1 X2 =>
  ax n (i + 1) <|
  cl (f_X12_part (sx (i + 1)) X2) fun r3 X4 =>
  c2 r1 r3 (if r1 = r3 then go (i + 6) X4 else none)
set_option maxRecDepth 20000 in
theorem gW_law_17 {C : Cx} {V : Ev} {L : List Kd} {ca sl : Nat} {b : Nat} {n : Int} {sx : Int → Int} (hC : Ok C V cL_law RL 4 2048 84000) (hm : LKm L) (hX : Sc C V b n sx) (hr : ca ≤ C.2.2.2.1.cells ∧ sl ≤ C.2.2.2.1.slots) {go : Int → Mem → Option (Int × Mem)} (hgo : ∀ (i : Int) (X : Mem), G C V L ca sl 4 18 [(3, vI i), (2, vR V.1 120), (1, vR V.1 0), (0, .ref b)] [] X (go i X)) (i : Int) (X : Mem) : G C V L ca sl 4 776 [(3, vI i), (2, vR V.1 120), (1, vR V.1 0), (0, .ref b)] [] X (W_law_17 n sx go i X) := by
  have hJ := gJ_law hC hm hX hr hgo i
  unfold W_law_17
  refine g_aload_n (q := 2) hC dL_law_776 rfl rfl rfl ?_
  refine g_aload_n (q := 3) hC dL_law_777 rfl rfl rfl ?_
  refine g_iload_n (q := 0) hC dL_law_778 rfl rfl ?_
  refine g_iconst (v := vI 1) hC dL_law_779 rfl ?_
  refine g_iadd hC dL_law_780 ?_
  refine g_sld hC hX dL_law_781 ?_
  refine g_callVI (As := [vI (sx (i + 1))]) hC mv_X11_part wml_RL_92 (k_X11_part _ V hm.c (sx (i + 1)) X) cf_X11 (at_0 hm.c) (by decide) hr rfl rfl ⟨Nat.le_of_ble_eq_true rfl, Nat.le_of_ble_eq_true rfl⟩ (Nat.le_of_ble_eq_true rfl) dL_law_782 (fun r1 X2 => ?_)
  refine g_aload_n (q := 1) hC dL_law_785 rfl rfl rfl ?_
  refine g_aload_n (q := 3) hC dL_law_786 rfl rfl rfl ?_
  refine g_iload_n (q := 0) hC dL_law_787 rfl rfl ?_
  refine g_iconst (v := vI 1) hC dL_law_788 rfl ?_
  refine g_iadd hC dL_law_789 ?_
  refine g_sld hC hX dL_law_790 ?_
  refine g_callVI (As := [vI (sx (i + 1))]) hC mv_X12_part wml_RL_95 (k_X12_part _ V hm (sx (i + 1)) X2) cf_X12 (at_120 hm) (by decide) hr rfl rfl ⟨Nat.le_of_ble_eq_true rfl, Nat.le_of_ble_eq_true rfl⟩ (Nat.le_of_ble_eq_true rfl) dL_law_791 (fun r3 X4 => ?_)
  refine g_icmp_eq (tgt := 1749) hC dL_law_794 (by decide) ?_ g_none
  exact hJ X4
noncomputable def W_law_18 (n : Int) (sx : Int → Int) (go : Int → Mem → Option (Int × Mem)) (i : Int) (X : Mem) : Option (Int × Mem) :=
  ax n (i + 1) <|
  cl (f_X11_there (sx (i + 1)) X) fun r1 X2 =>
  ax n (i + 1) <|
  cl (f_X12_there (sx (i + 1)) X2) fun r3 X4 =>
  c2 r1 r3 (if r1 = r3 then go (i + 6) X4 else none)
set_option maxRecDepth 20000 in
theorem gW_law_18 {C : Cx} {V : Ev} {L : List Kd} {ca sl : Nat} {b : Nat} {n : Int} {sx : Int → Int} (hC : Ok C V cL_law RL 4 2048 84000) (hm : LKm L) (hX : Sc C V b n sx) (hr : ca ≤ C.2.2.2.1.cells ∧ sl ≤ C.2.2.2.1.slots) {go : Int → Mem → Option (Int × Mem)} (hgo : ∀ (i : Int) (X : Mem), G C V L ca sl 4 18 [(3, vI i), (2, vR V.1 120), (1, vR V.1 0), (0, .ref b)] [] X (go i X)) (i : Int) (X : Mem) : G C V L ca sl 4 799 [(3, vI i), (2, vR V.1 120), (1, vR V.1 0), (0, .ref b)] [] X (W_law_18 n sx go i X) := by
  have hJ := gJ_law hC hm hX hr hgo i
  unfold W_law_18
  refine g_aload_n (q := 2) hC dL_law_799 rfl rfl rfl ?_
  refine g_aload_n (q := 3) hC dL_law_800 rfl rfl rfl ?_
  refine g_iload_n (q := 0) hC dL_law_801 rfl rfl ?_
  refine g_iconst (v := vI 1) hC dL_law_802 rfl ?_
  refine g_iadd hC dL_law_803 ?_
  refine g_sld hC hX dL_law_804 ?_
  refine g_callVI (As := [vI (sx (i + 1))]) hC mv_X11_there wml_RL_96 (k_X11_there _ V hm.c (sx (i + 1)) X) cf_X11 (at_0 hm.c) (by decide) hr rfl rfl ⟨Nat.le_of_ble_eq_true rfl, Nat.le_of_ble_eq_true rfl⟩ (Nat.le_of_ble_eq_true rfl) dL_law_805 (fun r1 X2 => ?_)
  refine g_aload_n (q := 1) hC dL_law_808 rfl rfl rfl ?_
  refine g_aload_n (q := 3) hC dL_law_809 rfl rfl rfl ?_
  refine g_iload_n (q := 0) hC dL_law_810 rfl rfl ?_
  refine g_iconst (v := vI 1) hC dL_law_811 rfl ?_
  refine g_iadd hC dL_law_812 ?_
  refine g_sld hC hX dL_law_813 ?_
  refine g_callVI (As := [vI (sx (i + 1))]) hC mv_X12_there wml_RL_100 (k_X12_there _ V hm (sx (i + 1)) X2) cf_X12 (at_120 hm) (by decide) hr rfl rfl ⟨Nat.le_of_ble_eq_true rfl, Nat.le_of_ble_eq_true rfl⟩ (Nat.le_of_ble_eq_true rfl) dL_law_814 (fun r3 X4 => ?_)
  refine g_icmp_eq (tgt := 1749) hC dL_law_817 (by decide) ?_ g_none
  exact hJ X4
noncomputable def W_law_19 (n : Int) (sx : Int → Int) (go : Int → Mem → Option (Int × Mem)) (i : Int) (X : Mem) : Option (Int × Mem) :=
  ax n (i + 1) <|
  cl (f_X11_chance (sx (i + 1)) X) fun r1 X2 =>
  ax n (i + 1) <|
  cl (f_X12_chance (sx (i + 1)) X2) fun r3 X4 =>
  c2 r1 r3 (if r1 = r3 then go (i + 6) X4 else none)
set_option maxRecDepth 20000 in
theorem gW_law_19 {C : Cx} {V : Ev} {L : List Kd} {ca sl : Nat} {b : Nat} {n : Int} {sx : Int → Int} (hC : Ok C V cL_law RL 4 2048 84000) (hm : LKm L) (hX : Sc C V b n sx) (hr : ca ≤ C.2.2.2.1.cells ∧ sl ≤ C.2.2.2.1.slots) {go : Int → Mem → Option (Int × Mem)} (hgo : ∀ (i : Int) (X : Mem), G C V L ca sl 4 18 [(3, vI i), (2, vR V.1 120), (1, vR V.1 0), (0, .ref b)] [] X (go i X)) (i : Int) (X : Mem) : G C V L ca sl 4 822 [(3, vI i), (2, vR V.1 120), (1, vR V.1 0), (0, .ref b)] [] X (W_law_19 n sx go i X) := by
  have hJ := gJ_law hC hm hX hr hgo i
  unfold W_law_19
  refine g_aload_n (q := 2) hC dL_law_822 rfl rfl rfl ?_
  refine g_aload_n (q := 3) hC dL_law_823 rfl rfl rfl ?_
  refine g_iload_n (q := 0) hC dL_law_824 rfl rfl ?_
  refine g_iconst (v := vI 1) hC dL_law_825 rfl ?_
  refine g_iadd hC dL_law_826 ?_
  refine g_sld hC hX dL_law_827 ?_
  refine g_callVI (As := [vI (sx (i + 1))]) hC mv_X11_chance wml_RL_101 (k_X11_chance _ V hm.c (sx (i + 1)) X) cf_X11 (at_0 hm.c) (by decide) hr rfl rfl ⟨Nat.le_of_ble_eq_true rfl, Nat.le_of_ble_eq_true rfl⟩ (Nat.le_of_ble_eq_true rfl) dL_law_828 (fun r1 X2 => ?_)
  refine g_aload_n (q := 1) hC dL_law_831 rfl rfl rfl ?_
  refine g_aload_n (q := 3) hC dL_law_832 rfl rfl rfl ?_
  refine g_iload_n (q := 0) hC dL_law_833 rfl rfl ?_
  refine g_iconst (v := vI 1) hC dL_law_834 rfl ?_
  refine g_iadd hC dL_law_835 ?_
  refine g_sld hC hX dL_law_836 ?_
  refine g_callVI (As := [vI (sx (i + 1))]) hC mv_X12_chance wml_RL_104 (k_X12_chance _ V hm (sx (i + 1)) X2) cf_X12 (at_120 hm) (by decide) hr rfl rfl ⟨Nat.le_of_ble_eq_true rfl, Nat.le_of_ble_eq_true rfl⟩ (Nat.le_of_ble_eq_true rfl) dL_law_837 (fun r3 X4 => ?_)
  refine g_icmp_eq (tgt := 1749) hC dL_law_840 (by decide) ?_ g_none
  exact hJ X4
noncomputable def W_law_20 (n : Int) (sx : Int → Int) (go : Int → Mem → Option (Int × Mem)) (i : Int) (X : Mem) : Option (Int × Mem) :=
  ax n (i + 1) <|
  cl (f_X11_pass (sx (i + 1)) X) fun r1 X2 =>
  ax n (i + 1) <|
  cl (f_X12_pass (sx (i + 1)) X2) fun r3 X4 =>
  c2 r1 r3 (if r1 = r3 then go (i + 6) X4 else none)
set_option maxRecDepth 20000 in
theorem gW_law_20 {C : Cx} {V : Ev} {L : List Kd} {ca sl : Nat} {b : Nat} {n : Int} {sx : Int → Int} (hC : Ok C V cL_law RL 4 2048 84000) (hm : LKm L) (hX : Sc C V b n sx) (hr : ca ≤ C.2.2.2.1.cells ∧ sl ≤ C.2.2.2.1.slots) {go : Int → Mem → Option (Int × Mem)} (hgo : ∀ (i : Int) (X : Mem), G C V L ca sl 4 18 [(3, vI i), (2, vR V.1 120), (1, vR V.1 0), (0, .ref b)] [] X (go i X)) (i : Int) (X : Mem) : G C V L ca sl 4 845 [(3, vI i), (2, vR V.1 120), (1, vR V.1 0), (0, .ref b)] [] X (W_law_20 n sx go i X) := by
  have hJ := gJ_law hC hm hX hr hgo i
  unfold W_law_20
  refine g_aload_n (q := 2) hC dL_law_845 rfl rfl rfl ?_
  refine g_aload_n (q := 3) hC dL_law_846 rfl rfl rfl ?_
  refine g_iload_n (q := 0) hC dL_law_847 rfl rfl ?_
  refine g_iconst (v := vI 1) hC dL_law_848 rfl ?_
  refine g_iadd hC dL_law_849 ?_
  refine g_sld hC hX dL_law_850 ?_
  refine g_callVI (As := [vI (sx (i + 1))]) hC mv_X11_pass wml_RL_105 (k_X11_pass _ V hm.c (sx (i + 1)) X) cf_X11 (at_0 hm.c) (by decide) hr rfl rfl ⟨Nat.le_of_ble_eq_true rfl, Nat.le_of_ble_eq_true rfl⟩ (Nat.le_of_ble_eq_true rfl) dL_law_851 (fun r1 X2 => ?_)
  refine g_aload_n (q := 1) hC dL_law_854 rfl rfl rfl ?_
  refine g_aload_n (q := 3) hC dL_law_855 rfl rfl rfl ?_
  refine g_iload_n (q := 0) hC dL_law_856 rfl rfl ?_
  refine g_iconst (v := vI 1) hC dL_law_857 rfl ?_
  refine g_iadd hC dL_law_858 ?_
  refine g_sld hC hX dL_law_859 ?_
  refine g_callVI (As := [vI (sx (i + 1))]) hC mv_X12_pass wml_RL_108 (k_X12_pass _ V hm (sx (i + 1)) X2) cf_X12 (at_120 hm) (by decide) hr rfl rfl ⟨Nat.le_of_ble_eq_true rfl, Nat.le_of_ble_eq_true rfl⟩ (Nat.le_of_ble_eq_true rfl) dL_law_860 (fun r3 X4 => ?_)
  refine g_icmp_eq (tgt := 1749) hC dL_law_863 (by decide) ?_ g_none
  exact hJ X4
noncomputable def W_law_21 (n : Int) (sx : Int → Int) (go : Int → Mem → Option (Int × Mem)) (i : Int) (X : Mem) : Option (Int × Mem) :=
  ax n (i + 1) <|
  ax n (i + 2) <|
  cl (f_X11_sound (sx (i + 1)) (sx (i + 2)) X) fun r1 X2 =>
  ax n (i + 1) <|
  ax n (i + 2) <|
  cl (f_X12_sound (sx (i + 1)) (sx (i + 2)) X2) fun r3 X4 =>
  c2 r1 r3 (if r1 = r3 then go (i + 6) X4 else none)
set_option maxRecDepth 20000 in
theorem gW_law_21 {C : Cx} {V : Ev} {L : List Kd} {ca sl : Nat} {b : Nat} {n : Int} {sx : Int → Int} (hC : Ok C V cL_law RL 4 2048 84000) (hm : LKm L) (hX : Sc C V b n sx) (hr : ca ≤ C.2.2.2.1.cells ∧ sl ≤ C.2.2.2.1.slots) {go : Int → Mem → Option (Int × Mem)} (hgo : ∀ (i : Int) (X : Mem), G C V L ca sl 4 18 [(3, vI i), (2, vR V.1 120), (1, vR V.1 0), (0, .ref b)] [] X (go i X)) (i : Int) (X : Mem) : G C V L ca sl 4 868 [(3, vI i), (2, vR V.1 120), (1, vR V.1 0), (0, .ref b)] [] X (W_law_21 n sx go i X) := by
  have hJ := gJ_law hC hm hX hr hgo i
  unfold W_law_21
  refine g_aload_n (q := 2) hC dL_law_868 rfl rfl rfl ?_
  refine g_aload_n (q := 3) hC dL_law_869 rfl rfl rfl ?_
  refine g_iload_n (q := 0) hC dL_law_870 rfl rfl ?_
  refine g_iconst (v := vI 1) hC dL_law_871 rfl ?_
  refine g_iadd hC dL_law_872 ?_
  refine g_sld hC hX dL_law_873 ?_
  refine g_aload_n (q := 3) hC dL_law_874 rfl rfl rfl ?_
  refine g_iload_n (q := 0) hC dL_law_875 rfl rfl ?_
  refine g_iconst (v := vI 2) hC dL_law_876 rfl ?_
  refine g_iadd hC dL_law_877 ?_
  refine g_sld hC hX dL_law_878 ?_
  refine g_callVI (As := [vI (sx (i + 1)), vI (sx (i + 2))]) hC mv_X11_sound wml_RL_109 (k_X11_sound _ V hm.c (sx (i + 1)) (sx (i + 2)) X) cf_X11 (at_0 hm.c) (by decide) hr rfl rfl ⟨Nat.le_of_ble_eq_true rfl, Nat.le_of_ble_eq_true rfl⟩ (Nat.le_of_ble_eq_true rfl) dL_law_879 (fun r1 X2 => ?_)
  refine g_aload_n (q := 1) hC dL_law_882 rfl rfl rfl ?_
  refine g_aload_n (q := 3) hC dL_law_883 rfl rfl rfl ?_
  refine g_iload_n (q := 0) hC dL_law_884 rfl rfl ?_
  refine g_iconst (v := vI 1) hC dL_law_885 rfl ?_
  refine g_iadd hC dL_law_886 ?_
  refine g_sld hC hX dL_law_887 ?_
  refine g_aload_n (q := 3) hC dL_law_888 rfl rfl rfl ?_
  refine g_iload_n (q := 0) hC dL_law_889 rfl rfl ?_
  refine g_iconst (v := vI 2) hC dL_law_890 rfl ?_
  refine g_iadd hC dL_law_891 ?_
  refine g_sld hC hX dL_law_892 ?_
  refine g_callVI (As := [vI (sx (i + 1)), vI (sx (i + 2))]) hC mv_X12_sound wml_RL_113 (k_X12_sound _ V hm (sx (i + 1)) (sx (i + 2)) X2) cf_X12 (at_120 hm) (by decide) hr rfl rfl ⟨Nat.le_of_ble_eq_true rfl, Nat.le_of_ble_eq_true rfl⟩ (Nat.le_of_ble_eq_true rfl) dL_law_893 (fun r3 X4 => ?_)
  refine g_icmp_eq (tgt := 1749) hC dL_law_896 (by decide) ?_ g_none
  exact hJ X4
noncomputable def W_law_22 (n : Int) (sx : Int → Int) (go : Int → Mem → Option (Int × Mem)) (i : Int) (X : Mem) : Option (Int × Mem) :=
  ax n (i + 1) <|
  ax n (i + 2) <|
  c1 (sx (i + 2)) (if sx (i + 2) = 0 then cl (f_X11_colour (sx (i + 1)) 0 X) fun r1 X2 =>
  ax n (i + 1) <|
  ax n (i + 2) <|
  c1 (sx (i + 2)) (if sx (i + 2) = 0 then cl (f_X12_colour (sx (i + 1)) 0 X2) fun r3 X4 =>
  c2 r1 r3 (if r1 = r3 then go (i + 6) X4 else none) else cl (f_X12_colour (sx (i + 1)) 1 X2) fun r5 X6 =>
  c2 r1 r5 (if r1 = r5 then go (i + 6) X6 else none)) else cl (f_X11_colour (sx (i + 1)) 1 X) fun r7 X8 =>
  ax n (i + 1) <|
  ax n (i + 2) <|
  c1 (sx (i + 2)) (if sx (i + 2) = 0 then cl (f_X12_colour (sx (i + 1)) 0 X8) fun r9 X10 =>
  c2 r7 r9 (if r7 = r9 then go (i + 6) X10 else none) else cl (f_X12_colour (sx (i + 1)) 1 X8) fun r11 X12 =>
  c2 r7 r11 (if r7 = r11 then go (i + 6) X12 else none)))
set_option maxRecDepth 20000 in
theorem gW_law_22 {C : Cx} {V : Ev} {L : List Kd} {ca sl : Nat} {b : Nat} {n : Int} {sx : Int → Int} (hC : Ok C V cL_law RL 4 2048 84000) (hm : LKm L) (hX : Sc C V b n sx) (hr : ca ≤ C.2.2.2.1.cells ∧ sl ≤ C.2.2.2.1.slots) {go : Int → Mem → Option (Int × Mem)} (hgo : ∀ (i : Int) (X : Mem), G C V L ca sl 4 18 [(3, vI i), (2, vR V.1 120), (1, vR V.1 0), (0, .ref b)] [] X (go i X)) (i : Int) (X : Mem) : G C V L ca sl 4 901 [(3, vI i), (2, vR V.1 120), (1, vR V.1 0), (0, .ref b)] [] X (W_law_22 n sx go i X) := by
  have hJ := gJ_law hC hm hX hr hgo i
  unfold W_law_22
  refine g_aload_n (q := 2) hC dL_law_901 rfl rfl rfl ?_
  refine g_aload_n (q := 3) hC dL_law_902 rfl rfl rfl ?_
  refine g_iload_n (q := 0) hC dL_law_903 rfl rfl ?_
  refine g_iconst (v := vI 1) hC dL_law_904 rfl ?_
  refine g_iadd hC dL_law_905 ?_
  refine g_sld hC hX dL_law_906 ?_
  refine g_aload_n (q := 3) hC dL_law_907 rfl rfl rfl ?_
  refine g_iload_n (q := 0) hC dL_law_908 rfl rfl ?_
  refine g_iconst (v := vI 2) hC dL_law_909 rfl ?_
  refine g_iadd hC dL_law_910 ?_
  refine g_sld hC hX dL_law_911 ?_
  refine g_if_eq (tgt := 919) hC dL_law_912 (by decide) ?_ ?_
  ·
    refine g_iconst (v := vI 0) hC dL_law_919 rfl ?_
    refine g_callVI (As := [vI (sx (i + 1)), vI 0]) hC mv_X11_colour wml_RL_114 (k_X11_colour _ V hm.c (sx (i + 1)) 0 X) cf_X11 (at_0 hm.c) (by decide) hr rfl rfl ⟨Nat.le_of_ble_eq_true rfl, Nat.le_of_ble_eq_true rfl⟩ (Nat.le_of_ble_eq_true rfl) dL_law_920 (fun r1 X2 => ?_)
    refine g_aload_n (q := 1) hC dL_law_923 rfl rfl rfl ?_
    refine g_aload_n (q := 3) hC dL_law_924 rfl rfl rfl ?_
    refine g_iload_n (q := 0) hC dL_law_925 rfl rfl ?_
    refine g_iconst (v := vI 1) hC dL_law_926 rfl ?_
    refine g_iadd hC dL_law_927 ?_
    refine g_sld hC hX dL_law_928 ?_
    refine g_aload_n (q := 3) hC dL_law_929 rfl rfl rfl ?_
    refine g_iload_n (q := 0) hC dL_law_930 rfl rfl ?_
    refine g_iconst (v := vI 2) hC dL_law_931 rfl ?_
    refine g_iadd hC dL_law_932 ?_
    refine g_sld hC hX dL_law_933 ?_
    refine g_if_eq (tgt := 941) hC dL_law_934 (by decide) ?_ ?_
    ·
      refine g_iconst (v := vI 0) hC dL_law_941 rfl ?_
      refine g_callVI (As := [vI (sx (i + 1)), vI 0]) hC mv_X12_colour wml_RL_118 (k_X12_colour _ V hm (sx (i + 1)) 0 X2) cf_X12 (at_120 hm) (by decide) hr rfl rfl ⟨Nat.le_of_ble_eq_true rfl, Nat.le_of_ble_eq_true rfl⟩ (Nat.le_of_ble_eq_true rfl) dL_law_942 (fun r3 X4 => ?_)
      refine g_icmp_eq (tgt := 1749) hC dL_law_945 (by decide) ?_ g_none
      exact hJ X4
    ·
      refine g_iconst (v := vI 1) hC dL_law_937 rfl ?_
      refine g_goto (tgt := 942) hC dL_law_938 (by decide) ?_
      refine g_callVI (As := [vI (sx (i + 1)), vI 1]) hC mv_X12_colour wml_RL_118 (k_X12_colour _ V hm (sx (i + 1)) 1 X2) cf_X12 (at_120 hm) (by decide) hr rfl rfl ⟨Nat.le_of_ble_eq_true rfl, Nat.le_of_ble_eq_true rfl⟩ (Nat.le_of_ble_eq_true rfl) dL_law_942 (fun r5 X6 => ?_)
      refine g_icmp_eq (tgt := 1749) hC dL_law_945 (by decide) ?_ g_none
      exact hJ X6
  ·
    refine g_iconst (v := vI 1) hC dL_law_915 rfl ?_
    refine g_goto (tgt := 920) hC dL_law_916 (by decide) ?_
    refine g_callVI (As := [vI (sx (i + 1)), vI 1]) hC mv_X11_colour wml_RL_114 (k_X11_colour _ V hm.c (sx (i + 1)) 1 X) cf_X11 (at_0 hm.c) (by decide) hr rfl rfl ⟨Nat.le_of_ble_eq_true rfl, Nat.le_of_ble_eq_true rfl⟩ (Nat.le_of_ble_eq_true rfl) dL_law_920 (fun r7 X8 => ?_)
    refine g_aload_n (q := 1) hC dL_law_923 rfl rfl rfl ?_
    refine g_aload_n (q := 3) hC dL_law_924 rfl rfl rfl ?_
    refine g_iload_n (q := 0) hC dL_law_925 rfl rfl ?_
    refine g_iconst (v := vI 1) hC dL_law_926 rfl ?_
    refine g_iadd hC dL_law_927 ?_
    refine g_sld hC hX dL_law_928 ?_
    refine g_aload_n (q := 3) hC dL_law_929 rfl rfl rfl ?_
    refine g_iload_n (q := 0) hC dL_law_930 rfl rfl ?_
    refine g_iconst (v := vI 2) hC dL_law_931 rfl ?_
    refine g_iadd hC dL_law_932 ?_
    refine g_sld hC hX dL_law_933 ?_
    refine g_if_eq (tgt := 941) hC dL_law_934 (by decide) ?_ ?_
    ·
      refine g_iconst (v := vI 0) hC dL_law_941 rfl ?_
      refine g_callVI (As := [vI (sx (i + 1)), vI 0]) hC mv_X12_colour wml_RL_118 (k_X12_colour _ V hm (sx (i + 1)) 0 X8) cf_X12 (at_120 hm) (by decide) hr rfl rfl ⟨Nat.le_of_ble_eq_true rfl, Nat.le_of_ble_eq_true rfl⟩ (Nat.le_of_ble_eq_true rfl) dL_law_942 (fun r9 X10 => ?_)
      refine g_icmp_eq (tgt := 1749) hC dL_law_945 (by decide) ?_ g_none
      exact hJ X10
    ·
      refine g_iconst (v := vI 1) hC dL_law_937 rfl ?_
      refine g_goto (tgt := 942) hC dL_law_938 (by decide) ?_
      refine g_callVI (As := [vI (sx (i + 1)), vI 1]) hC mv_X12_colour wml_RL_118 (k_X12_colour _ V hm (sx (i + 1)) 1 X8) cf_X12 (at_120 hm) (by decide) hr rfl rfl ⟨Nat.le_of_ble_eq_true rfl, Nat.le_of_ble_eq_true rfl⟩ (Nat.le_of_ble_eq_true rfl) dL_law_942 (fun r11 X12 => ?_)
      refine g_icmp_eq (tgt := 1749) hC dL_law_945 (by decide) ?_ g_none
      exact hJ X12
noncomputable def W_law_23 (n : Int) (sx : Int → Int) (go : Int → Mem → Option (Int × Mem)) (i : Int) (X : Mem) : Option (Int × Mem) :=
  ax n (i + 1) <|
  cl (f_X11_off (sx (i + 1)) X) fun r1 X2 =>
  ax n (i + 1) <|
  cl (f_X12_off (sx (i + 1)) X2) fun r3 X4 =>
  c2 r1 r3 (if r1 = r3 then go (i + 6) X4 else none)
set_option maxRecDepth 20000 in
theorem gW_law_23 {C : Cx} {V : Ev} {L : List Kd} {ca sl : Nat} {b : Nat} {n : Int} {sx : Int → Int} (hC : Ok C V cL_law RL 4 2048 84000) (hm : LKm L) (hX : Sc C V b n sx) (hr : ca ≤ C.2.2.2.1.cells ∧ sl ≤ C.2.2.2.1.slots) {go : Int → Mem → Option (Int × Mem)} (hgo : ∀ (i : Int) (X : Mem), G C V L ca sl 4 18 [(3, vI i), (2, vR V.1 120), (1, vR V.1 0), (0, .ref b)] [] X (go i X)) (i : Int) (X : Mem) : G C V L ca sl 4 950 [(3, vI i), (2, vR V.1 120), (1, vR V.1 0), (0, .ref b)] [] X (W_law_23 n sx go i X) := by
  have hJ := gJ_law hC hm hX hr hgo i
  unfold W_law_23
  refine g_aload_n (q := 2) hC dL_law_950 rfl rfl rfl ?_
  refine g_aload_n (q := 3) hC dL_law_951 rfl rfl rfl ?_
  refine g_iload_n (q := 0) hC dL_law_952 rfl rfl ?_
  refine g_iconst (v := vI 1) hC dL_law_953 rfl ?_
  refine g_iadd hC dL_law_954 ?_
  refine g_sld hC hX dL_law_955 ?_
  refine g_callVI (As := [vI (sx (i + 1))]) hC mv_X11_off wml_RL_119 (k_X11_off _ V hm.c (sx (i + 1)) X) cf_X11 (at_0 hm.c) (by decide) hr rfl rfl ⟨Nat.le_of_ble_eq_true rfl, Nat.le_of_ble_eq_true rfl⟩ (Nat.le_of_ble_eq_true rfl) dL_law_956 (fun r1 X2 => ?_)
  refine g_aload_n (q := 1) hC dL_law_959 rfl rfl rfl ?_
  refine g_aload_n (q := 3) hC dL_law_960 rfl rfl rfl ?_
  refine g_iload_n (q := 0) hC dL_law_961 rfl rfl ?_
  refine g_iconst (v := vI 1) hC dL_law_962 rfl ?_
  refine g_iadd hC dL_law_963 ?_
  refine g_sld hC hX dL_law_964 ?_
  refine g_callVI (As := [vI (sx (i + 1))]) hC mv_X12_off wml_RL_122 (k_X12_off _ V hm (sx (i + 1)) X2) cf_X12 (at_120 hm) (by decide) hr rfl rfl ⟨Nat.le_of_ble_eq_true rfl, Nat.le_of_ble_eq_true rfl⟩ (Nat.le_of_ble_eq_true rfl) dL_law_965 (fun r3 X4 => ?_)
  refine g_icmp_eq (tgt := 1749) hC dL_law_968 (by decide) ?_ g_none
  exact hJ X4
noncomputable def W_law_24 (n : Int) (sx : Int → Int) (go : Int → Mem → Option (Int × Mem)) (i : Int) (X : Mem) : Option (Int × Mem) :=
  cl (f_X11_forget X) fun r1 X2 =>
  cl (f_X12_forget X2) fun r3 X4 =>
  c2 r1 r3 (if r1 = r3 then go (i + 6) X4 else none)
set_option maxRecDepth 20000 in
theorem gW_law_24 {C : Cx} {V : Ev} {L : List Kd} {ca sl : Nat} {b : Nat} {n : Int} {sx : Int → Int} (hC : Ok C V cL_law RL 4 2048 84000) (hm : LKm L) (hX : Sc C V b n sx) (hr : ca ≤ C.2.2.2.1.cells ∧ sl ≤ C.2.2.2.1.slots) {go : Int → Mem → Option (Int × Mem)} (hgo : ∀ (i : Int) (X : Mem), G C V L ca sl 4 18 [(3, vI i), (2, vR V.1 120), (1, vR V.1 0), (0, .ref b)] [] X (go i X)) (i : Int) (X : Mem) : G C V L ca sl 4 973 [(3, vI i), (2, vR V.1 120), (1, vR V.1 0), (0, .ref b)] [] X (W_law_24 n sx go i X) := by
  have hJ := gJ_law hC hm hX hr hgo i
  unfold W_law_24
  refine g_aload_n (q := 2) hC dL_law_973 rfl rfl rfl ?_
  refine g_callVI (As := []) hC mv_X11_forget wml_RL_123 (k_X11_forget _ V hm.c X) cf_X11 (at_0 hm.c) (by decide) hr rfl rfl ⟨Nat.le_of_ble_eq_true rfl, Nat.le_of_ble_eq_true rfl⟩ (Nat.le_of_ble_eq_true rfl) dL_law_974 (fun r1 X2 => ?_)
  refine g_aload_n (q := 1) hC dL_law_977 rfl rfl rfl ?_
  refine g_callVI (As := []) hC mv_X12_forget wml_RL_127 (k_X12_forget _ V hm X2) cf_X12 (at_120 hm) (by decide) hr rfl rfl ⟨Nat.le_of_ble_eq_true rfl, Nat.le_of_ble_eq_true rfl⟩ (Nat.le_of_ble_eq_true rfl) dL_law_978 (fun r3 X4 => ?_)
  refine g_icmp_eq (tgt := 1749) hC dL_law_981 (by decide) ?_ g_none
  exact hJ X4
noncomputable def W_law_25 (n : Int) (sx : Int → Int) (go : Int → Mem → Option (Int × Mem)) (i : Int) (X : Mem) : Option (Int × Mem) :=
  ax n (i + 1) <|
  ax n (i + 2) <|
  cl (f_X11_minutes (sx (i + 1)) (sx (i + 2)) X) fun r1 X2 =>
  ax n (i + 1) <|
  ax n (i + 2) <|
  cl (f_X12_minutes (sx (i + 1)) (sx (i + 2)) X2) fun r3 X4 =>
  c2 r1 r3 (if r1 = r3 then go (i + 6) X4 else none)
set_option maxRecDepth 20000 in
theorem gW_law_25 {C : Cx} {V : Ev} {L : List Kd} {ca sl : Nat} {b : Nat} {n : Int} {sx : Int → Int} (hC : Ok C V cL_law RL 4 2048 84000) (hm : LKm L) (hX : Sc C V b n sx) (hr : ca ≤ C.2.2.2.1.cells ∧ sl ≤ C.2.2.2.1.slots) {go : Int → Mem → Option (Int × Mem)} (hgo : ∀ (i : Int) (X : Mem), G C V L ca sl 4 18 [(3, vI i), (2, vR V.1 120), (1, vR V.1 0), (0, .ref b)] [] X (go i X)) (i : Int) (X : Mem) : G C V L ca sl 4 986 [(3, vI i), (2, vR V.1 120), (1, vR V.1 0), (0, .ref b)] [] X (W_law_25 n sx go i X) := by
  have hJ := gJ_law hC hm hX hr hgo i
  unfold W_law_25
  refine g_aload_n (q := 2) hC dL_law_986 rfl rfl rfl ?_
  refine g_aload_n (q := 3) hC dL_law_987 rfl rfl rfl ?_
  refine g_iload_n (q := 0) hC dL_law_988 rfl rfl ?_
  refine g_iconst (v := vI 1) hC dL_law_989 rfl ?_
  refine g_iadd hC dL_law_990 ?_
  refine g_sld hC hX dL_law_991 ?_
  refine g_aload_n (q := 3) hC dL_law_992 rfl rfl rfl ?_
  refine g_iload_n (q := 0) hC dL_law_993 rfl rfl ?_
  refine g_iconst (v := vI 2) hC dL_law_994 rfl ?_
  refine g_iadd hC dL_law_995 ?_
  refine g_sld hC hX dL_law_996 ?_
  refine g_callVI (As := [vI (sx (i + 1)), vI (sx (i + 2))]) hC mv_X11_minutes wml_RL_128 (k_X11_minutes _ V hm.c (sx (i + 1)) (sx (i + 2)) X) cf_X11 (at_0 hm.c) (by decide) hr rfl rfl ⟨Nat.le_of_ble_eq_true rfl, Nat.le_of_ble_eq_true rfl⟩ (Nat.le_of_ble_eq_true rfl) dL_law_997 (fun r1 X2 => ?_)
  refine g_aload_n (q := 1) hC dL_law_1000 rfl rfl rfl ?_
  refine g_aload_n (q := 3) hC dL_law_1001 rfl rfl rfl ?_
  refine g_iload_n (q := 0) hC dL_law_1002 rfl rfl ?_
  refine g_iconst (v := vI 1) hC dL_law_1003 rfl ?_
  refine g_iadd hC dL_law_1004 ?_
  refine g_sld hC hX dL_law_1005 ?_
  refine g_aload_n (q := 3) hC dL_law_1006 rfl rfl rfl ?_
  refine g_iload_n (q := 0) hC dL_law_1007 rfl rfl ?_
  refine g_iconst (v := vI 2) hC dL_law_1008 rfl ?_
  refine g_iadd hC dL_law_1009 ?_
  refine g_sld hC hX dL_law_1010 ?_
  refine g_callVI (As := [vI (sx (i + 1)), vI (sx (i + 2))]) hC mv_X12_minutes wml_RL_131 (k_X12_minutes _ V hm (sx (i + 1)) (sx (i + 2)) X2) cf_X12 (at_120 hm) (by decide) hr rfl rfl ⟨Nat.le_of_ble_eq_true rfl, Nat.le_of_ble_eq_true rfl⟩ (Nat.le_of_ble_eq_true rfl) dL_law_1011 (fun r3 X4 => ?_)
  refine g_icmp_eq (tgt := 1749) hC dL_law_1014 (by decide) ?_ g_none
  exact hJ X4
noncomputable def W_law_26 (n : Int) (sx : Int → Int) (go : Int → Mem → Option (Int × Mem)) (i : Int) (X : Mem) : Option (Int × Mem) :=
  ax n (i + 1) <|
  ax n (i + 2) <|
  ax n (i + 3) <|
  cl (f_X11_struck (sx (i + 1)) (sx (i + 2)) (sx (i + 3)) X) fun r1 X2 =>
  ax n (i + 1) <|
  ax n (i + 2) <|
  ax n (i + 3) <|
  cl (f_X12_struck (sx (i + 1)) (sx (i + 2)) (sx (i + 3)) X2) fun r3 X4 =>
  c2 r1 r3 (if r1 = r3 then go (i + 6) X4 else none)
set_option maxRecDepth 20000 in
theorem gW_law_26 {C : Cx} {V : Ev} {L : List Kd} {ca sl : Nat} {b : Nat} {n : Int} {sx : Int → Int} (hC : Ok C V cL_law RL 4 2048 84000) (hm : LKm L) (hX : Sc C V b n sx) (hr : ca ≤ C.2.2.2.1.cells ∧ sl ≤ C.2.2.2.1.slots) {go : Int → Mem → Option (Int × Mem)} (hgo : ∀ (i : Int) (X : Mem), G C V L ca sl 4 18 [(3, vI i), (2, vR V.1 120), (1, vR V.1 0), (0, .ref b)] [] X (go i X)) (i : Int) (X : Mem) : G C V L ca sl 4 1019 [(3, vI i), (2, vR V.1 120), (1, vR V.1 0), (0, .ref b)] [] X (W_law_26 n sx go i X) := by
  have hJ := gJ_law hC hm hX hr hgo i
  unfold W_law_26
  refine g_aload_n (q := 2) hC dL_law_1019 rfl rfl rfl ?_
  refine g_aload_n (q := 3) hC dL_law_1020 rfl rfl rfl ?_
  refine g_iload_n (q := 0) hC dL_law_1021 rfl rfl ?_
  refine g_iconst (v := vI 1) hC dL_law_1022 rfl ?_
  refine g_iadd hC dL_law_1023 ?_
  refine g_sld hC hX dL_law_1024 ?_
  refine g_aload_n (q := 3) hC dL_law_1025 rfl rfl rfl ?_
  refine g_iload_n (q := 0) hC dL_law_1026 rfl rfl ?_
  refine g_iconst (v := vI 2) hC dL_law_1027 rfl ?_
  refine g_iadd hC dL_law_1028 ?_
  refine g_sld hC hX dL_law_1029 ?_
  refine g_aload_n (q := 3) hC dL_law_1030 rfl rfl rfl ?_
  refine g_iload_n (q := 0) hC dL_law_1031 rfl rfl ?_
  refine g_iconst (v := vI 3) hC dL_law_1032 rfl ?_
  refine g_iadd hC dL_law_1033 ?_
  refine g_sld hC hX dL_law_1034 ?_
  refine g_callVI (As := [vI (sx (i + 1)), vI (sx (i + 2)), vI (sx (i + 3))]) hC mv_X11_struck wml_RL_132 (k_X11_struck _ V hm.c (sx (i + 1)) (sx (i + 2)) (sx (i + 3)) X) cf_X11 (at_0 hm.c) (by decide) hr rfl rfl ⟨Nat.le_of_ble_eq_true rfl, Nat.le_of_ble_eq_true rfl⟩ (Nat.le_of_ble_eq_true rfl) dL_law_1035 (fun r1 X2 => ?_)
  refine g_aload_n (q := 1) hC dL_law_1038 rfl rfl rfl ?_
  refine g_aload_n (q := 3) hC dL_law_1039 rfl rfl rfl ?_
  refine g_iload_n (q := 0) hC dL_law_1040 rfl rfl ?_
  refine g_iconst (v := vI 1) hC dL_law_1041 rfl ?_
  refine g_iadd hC dL_law_1042 ?_
  refine g_sld hC hX dL_law_1043 ?_
  refine g_aload_n (q := 3) hC dL_law_1044 rfl rfl rfl ?_
  refine g_iload_n (q := 0) hC dL_law_1045 rfl rfl ?_
  refine g_iconst (v := vI 2) hC dL_law_1046 rfl ?_
  refine g_iadd hC dL_law_1047 ?_
  refine g_sld hC hX dL_law_1048 ?_
  refine g_aload_n (q := 3) hC dL_law_1049 rfl rfl rfl ?_
  refine g_iload_n (q := 0) hC dL_law_1050 rfl rfl ?_
  refine g_iconst (v := vI 3) hC dL_law_1051 rfl ?_
  refine g_iadd hC dL_law_1052 ?_
  refine g_sld hC hX dL_law_1053 ?_
  refine g_callVI (As := [vI (sx (i + 1)), vI (sx (i + 2)), vI (sx (i + 3))]) hC mv_X12_struck wml_RL_136 (k_X12_struck _ V hm (sx (i + 1)) (sx (i + 2)) (sx (i + 3)) X2) cf_X12 (at_120 hm) (by decide) hr rfl rfl ⟨Nat.le_of_ble_eq_true rfl, Nat.le_of_ble_eq_true rfl⟩ (Nat.le_of_ble_eq_true rfl) dL_law_1054 (fun r3 X4 => ?_)
  refine g_icmp_eq (tgt := 1749) hC dL_law_1057 (by decide) ?_ g_none
  exact hJ X4
noncomputable def W_law_27 (n : Int) (sx : Int → Int) (go : Int → Mem → Option (Int × Mem)) (i : Int) (X : Mem) : Option (Int × Mem) :=
  ax n (i + 1) <|
  ax n (i + 2) <|
  cl (f_X11_sure (sx (i + 1)) (sx (i + 2)) X) fun r1 X2 =>
  ax n (i + 1) <|
  ax n (i + 2) <|
  cl (f_X12_sure (sx (i + 1)) (sx (i + 2)) X2) fun r3 X4 =>
  c2 r1 r3 (if r1 = r3 then go (i + 6) X4 else none)
set_option maxRecDepth 20000 in
theorem gW_law_27 {C : Cx} {V : Ev} {L : List Kd} {ca sl : Nat} {b : Nat} {n : Int} {sx : Int → Int} (hC : Ok C V cL_law RL 4 2048 84000) (hm : LKm L) (hX : Sc C V b n sx) (hr : ca ≤ C.2.2.2.1.cells ∧ sl ≤ C.2.2.2.1.slots) {go : Int → Mem → Option (Int × Mem)} (hgo : ∀ (i : Int) (X : Mem), G C V L ca sl 4 18 [(3, vI i), (2, vR V.1 120), (1, vR V.1 0), (0, .ref b)] [] X (go i X)) (i : Int) (X : Mem) : G C V L ca sl 4 1062 [(3, vI i), (2, vR V.1 120), (1, vR V.1 0), (0, .ref b)] [] X (W_law_27 n sx go i X) := by
  have hJ := gJ_law hC hm hX hr hgo i
  unfold W_law_27
  refine g_aload_n (q := 2) hC dL_law_1062 rfl rfl rfl ?_
  refine g_aload_n (q := 3) hC dL_law_1063 rfl rfl rfl ?_
  refine g_iload_n (q := 0) hC dL_law_1064 rfl rfl ?_
  refine g_iconst (v := vI 1) hC dL_law_1065 rfl ?_
  refine g_iadd hC dL_law_1066 ?_
  refine g_sld hC hX dL_law_1067 ?_
  refine g_aload_n (q := 3) hC dL_law_1068 rfl rfl rfl ?_
  refine g_iload_n (q := 0) hC dL_law_1069 rfl rfl ?_
  refine g_iconst (v := vI 2) hC dL_law_1070 rfl ?_
  refine g_iadd hC dL_law_1071 ?_
  refine g_sld hC hX dL_law_1072 ?_
  refine g_callVI (As := [vI (sx (i + 1)), vI (sx (i + 2))]) hC mv_X11_sure wml_RL_137 (k_X11_sure _ V hm.c (sx (i + 1)) (sx (i + 2)) X) cf_X11 (at_0 hm.c) (by decide) hr rfl rfl ⟨Nat.le_of_ble_eq_true rfl, Nat.le_of_ble_eq_true rfl⟩ (Nat.le_of_ble_eq_true rfl) dL_law_1073 (fun r1 X2 => ?_)
  refine g_aload_n (q := 1) hC dL_law_1076 rfl rfl rfl ?_
  refine g_aload_n (q := 3) hC dL_law_1077 rfl rfl rfl ?_
  refine g_iload_n (q := 0) hC dL_law_1078 rfl rfl ?_
  refine g_iconst (v := vI 1) hC dL_law_1079 rfl ?_
  refine g_iadd hC dL_law_1080 ?_
  refine g_sld hC hX dL_law_1081 ?_
  refine g_aload_n (q := 3) hC dL_law_1082 rfl rfl rfl ?_
  refine g_iload_n (q := 0) hC dL_law_1083 rfl rfl ?_
  refine g_iconst (v := vI 2) hC dL_law_1084 rfl ?_
  refine g_iadd hC dL_law_1085 ?_
  refine g_sld hC hX dL_law_1086 ?_
  refine g_callVI (As := [vI (sx (i + 1)), vI (sx (i + 2))]) hC mv_X12_sure wml_RL_140 (k_X12_sure _ V hm (sx (i + 1)) (sx (i + 2)) X2) cf_X12 (at_120 hm) (by decide) hr rfl rfl ⟨Nat.le_of_ble_eq_true rfl, Nat.le_of_ble_eq_true rfl⟩ (Nat.le_of_ble_eq_true rfl) dL_law_1087 (fun r3 X4 => ?_)
  refine g_icmp_eq (tgt := 1749) hC dL_law_1090 (by decide) ?_ g_none
  exact hJ X4
noncomputable def W_law_28 (n : Int) (sx : Int → Int) (go : Int → Mem → Option (Int × Mem)) (i : Int) (X : Mem) : Option (Int × Mem) :=
  ax n (i + 1) <|
  ax n (i + 2) <|
  ax n (i + 3) <|
  cl (f_X11_soonest (sx (i + 1)) (sx (i + 2)) (sx (i + 3)) X) fun r1 X2 =>
  ax n (i + 1) <|
  ax n (i + 2) <|
  ax n (i + 3) <|
  cl (f_X12_soonest (sx (i + 1)) (sx (i + 2)) (sx (i + 3)) X2) fun r3 X4 =>
  c2 r1 r3 (if r1 = r3 then go (i + 6) X4 else none)
set_option maxRecDepth 20000 in
theorem gW_law_28 {C : Cx} {V : Ev} {L : List Kd} {ca sl : Nat} {b : Nat} {n : Int} {sx : Int → Int} (hC : Ok C V cL_law RL 4 2048 84000) (hm : LKm L) (hX : Sc C V b n sx) (hr : ca ≤ C.2.2.2.1.cells ∧ sl ≤ C.2.2.2.1.slots) {go : Int → Mem → Option (Int × Mem)} (hgo : ∀ (i : Int) (X : Mem), G C V L ca sl 4 18 [(3, vI i), (2, vR V.1 120), (1, vR V.1 0), (0, .ref b)] [] X (go i X)) (i : Int) (X : Mem) : G C V L ca sl 4 1095 [(3, vI i), (2, vR V.1 120), (1, vR V.1 0), (0, .ref b)] [] X (W_law_28 n sx go i X) := by
  have hJ := gJ_law hC hm hX hr hgo i
  unfold W_law_28
  refine g_aload_n (q := 2) hC dL_law_1095 rfl rfl rfl ?_
  refine g_aload_n (q := 3) hC dL_law_1096 rfl rfl rfl ?_
  refine g_iload_n (q := 0) hC dL_law_1097 rfl rfl ?_
  refine g_iconst (v := vI 1) hC dL_law_1098 rfl ?_
  refine g_iadd hC dL_law_1099 ?_
  refine g_sld hC hX dL_law_1100 ?_
  refine g_aload_n (q := 3) hC dL_law_1101 rfl rfl rfl ?_
  refine g_iload_n (q := 0) hC dL_law_1102 rfl rfl ?_
  refine g_iconst (v := vI 2) hC dL_law_1103 rfl ?_
  refine g_iadd hC dL_law_1104 ?_
  refine g_sld hC hX dL_law_1105 ?_
  refine g_aload_n (q := 3) hC dL_law_1106 rfl rfl rfl ?_
  refine g_iload_n (q := 0) hC dL_law_1107 rfl rfl ?_
  refine g_iconst (v := vI 3) hC dL_law_1108 rfl ?_
  refine g_iadd hC dL_law_1109 ?_
  refine g_sld hC hX dL_law_1110 ?_
  refine g_callVI (As := [vI (sx (i + 1)), vI (sx (i + 2)), vI (sx (i + 3))]) hC mv_X11_soonest wml_RL_141 (k_X11_soonest _ V hm.c (sx (i + 1)) (sx (i + 2)) (sx (i + 3)) X) cf_X11 (at_0 hm.c) (by decide) hr rfl rfl ⟨Nat.le_of_ble_eq_true rfl, Nat.le_of_ble_eq_true rfl⟩ (Nat.le_of_ble_eq_true rfl) dL_law_1111 (fun r1 X2 => ?_)
  refine g_aload_n (q := 1) hC dL_law_1114 rfl rfl rfl ?_
  refine g_aload_n (q := 3) hC dL_law_1115 rfl rfl rfl ?_
  refine g_iload_n (q := 0) hC dL_law_1116 rfl rfl ?_
  refine g_iconst (v := vI 1) hC dL_law_1117 rfl ?_
  refine g_iadd hC dL_law_1118 ?_
  refine g_sld hC hX dL_law_1119 ?_
  refine g_aload_n (q := 3) hC dL_law_1120 rfl rfl rfl ?_
  refine g_iload_n (q := 0) hC dL_law_1121 rfl rfl ?_
  refine g_iconst (v := vI 2) hC dL_law_1122 rfl ?_
  refine g_iadd hC dL_law_1123 ?_
  refine g_sld hC hX dL_law_1124 ?_
  refine g_aload_n (q := 3) hC dL_law_1125 rfl rfl rfl ?_
  refine g_iload_n (q := 0) hC dL_law_1126 rfl rfl ?_
  refine g_iconst (v := vI 3) hC dL_law_1127 rfl ?_
  refine g_iadd hC dL_law_1128 ?_
  refine g_sld hC hX dL_law_1129 ?_
  refine g_callVI (As := [vI (sx (i + 1)), vI (sx (i + 2)), vI (sx (i + 3))]) hC mv_X12_soonest wml_RL_144 (k_X12_soonest _ V hm (sx (i + 1)) (sx (i + 2)) (sx (i + 3)) X2) cf_X12 (at_120 hm) (by decide) hr rfl rfl ⟨Nat.le_of_ble_eq_true rfl, Nat.le_of_ble_eq_true rfl⟩ (Nat.le_of_ble_eq_true rfl) dL_law_1130 (fun r3 X4 => ?_)
  refine g_icmp_eq (tgt := 1749) hC dL_law_1133 (by decide) ?_ g_none
  exact hJ X4
noncomputable def W_law_29 (n : Int) (sx : Int → Int) (go : Int → Mem → Option (Int × Mem)) (i : Int) (X : Mem) : Option (Int × Mem) :=
  ax n (i + 1) <|
  ax n (i + 2) <|
  cl (f_X11_surest (sx (i + 1)) (sx (i + 2)) X) fun r1 X2 =>
  ax n (i + 1) <|
  ax n (i + 2) <|
  cl (f_X12_surest (sx (i + 1)) (sx (i + 2)) X2) fun r3 X4 =>
  c2 r1 r3 (if r1 = r3 then go (i + 6) X4 else none)
set_option maxRecDepth 20000 in
theorem gW_law_29 {C : Cx} {V : Ev} {L : List Kd} {ca sl : Nat} {b : Nat} {n : Int} {sx : Int → Int} (hC : Ok C V cL_law RL 4 2048 84000) (hm : LKm L) (hX : Sc C V b n sx) (hr : ca ≤ C.2.2.2.1.cells ∧ sl ≤ C.2.2.2.1.slots) {go : Int → Mem → Option (Int × Mem)} (hgo : ∀ (i : Int) (X : Mem), G C V L ca sl 4 18 [(3, vI i), (2, vR V.1 120), (1, vR V.1 0), (0, .ref b)] [] X (go i X)) (i : Int) (X : Mem) : G C V L ca sl 4 1138 [(3, vI i), (2, vR V.1 120), (1, vR V.1 0), (0, .ref b)] [] X (W_law_29 n sx go i X) := by
  have hJ := gJ_law hC hm hX hr hgo i
  unfold W_law_29
  refine g_aload_n (q := 2) hC dL_law_1138 rfl rfl rfl ?_
  refine g_aload_n (q := 3) hC dL_law_1139 rfl rfl rfl ?_
  refine g_iload_n (q := 0) hC dL_law_1140 rfl rfl ?_
  refine g_iconst (v := vI 1) hC dL_law_1141 rfl ?_
  refine g_iadd hC dL_law_1142 ?_
  refine g_sld hC hX dL_law_1143 ?_
  refine g_aload_n (q := 3) hC dL_law_1144 rfl rfl rfl ?_
  refine g_iload_n (q := 0) hC dL_law_1145 rfl rfl ?_
  refine g_iconst (v := vI 2) hC dL_law_1146 rfl ?_
  refine g_iadd hC dL_law_1147 ?_
  refine g_sld hC hX dL_law_1148 ?_
  refine g_callVI (As := [vI (sx (i + 1)), vI (sx (i + 2))]) hC mv_X11_surest wml_RL_145 (k_X11_surest _ V hm.c (sx (i + 1)) (sx (i + 2)) X) cf_X11 (at_0 hm.c) (by decide) hr rfl rfl ⟨Nat.le_of_ble_eq_true rfl, Nat.le_of_ble_eq_true rfl⟩ (Nat.le_of_ble_eq_true rfl) dL_law_1149 (fun r1 X2 => ?_)
  refine g_aload_n (q := 1) hC dL_law_1152 rfl rfl rfl ?_
  refine g_aload_n (q := 3) hC dL_law_1153 rfl rfl rfl ?_
  refine g_iload_n (q := 0) hC dL_law_1154 rfl rfl ?_
  refine g_iconst (v := vI 1) hC dL_law_1155 rfl ?_
  refine g_iadd hC dL_law_1156 ?_
  refine g_sld hC hX dL_law_1157 ?_
  refine g_aload_n (q := 3) hC dL_law_1158 rfl rfl rfl ?_
  refine g_iload_n (q := 0) hC dL_law_1159 rfl rfl ?_
  refine g_iconst (v := vI 2) hC dL_law_1160 rfl ?_
  refine g_iadd hC dL_law_1161 ?_
  refine g_sld hC hX dL_law_1162 ?_
  refine g_callVI (As := [vI (sx (i + 1)), vI (sx (i + 2))]) hC mv_X12_surest wml_RL_148 (k_X12_surest _ V hm (sx (i + 1)) (sx (i + 2)) X2) cf_X12 (at_120 hm) (by decide) hr rfl rfl ⟨Nat.le_of_ble_eq_true rfl, Nat.le_of_ble_eq_true rfl⟩ (Nat.le_of_ble_eq_true rfl) dL_law_1163 (fun r3 X4 => ?_)
  refine g_icmp_eq (tgt := 1749) hC dL_law_1166 (by decide) ?_ g_none
  exact hJ X4
noncomputable def W_law_30 (n : Int) (sx : Int → Int) (go : Int → Mem → Option (Int × Mem)) (i : Int) (X : Mem) : Option (Int × Mem) :=
  ax n (i + 1) <|
  ax n (i + 2) <|
  cl (f_X11_mean (sx (i + 1)) (sx (i + 2)) X) fun r1 X2 =>
  ax n (i + 1) <|
  ax n (i + 2) <|
  cl (f_X12_mean (sx (i + 1)) (sx (i + 2)) X2) fun r3 X4 =>
  c2 r1 r3 (if r1 = r3 then go (i + 6) X4 else none)
set_option maxRecDepth 20000 in
theorem gW_law_30 {C : Cx} {V : Ev} {L : List Kd} {ca sl : Nat} {b : Nat} {n : Int} {sx : Int → Int} (hC : Ok C V cL_law RL 4 2048 84000) (hm : LKm L) (hX : Sc C V b n sx) (hr : ca ≤ C.2.2.2.1.cells ∧ sl ≤ C.2.2.2.1.slots) {go : Int → Mem → Option (Int × Mem)} (hgo : ∀ (i : Int) (X : Mem), G C V L ca sl 4 18 [(3, vI i), (2, vR V.1 120), (1, vR V.1 0), (0, .ref b)] [] X (go i X)) (i : Int) (X : Mem) : G C V L ca sl 4 1171 [(3, vI i), (2, vR V.1 120), (1, vR V.1 0), (0, .ref b)] [] X (W_law_30 n sx go i X) := by
  have hJ := gJ_law hC hm hX hr hgo i
  unfold W_law_30
  refine g_aload_n (q := 2) hC dL_law_1171 rfl rfl rfl ?_
  refine g_aload_n (q := 3) hC dL_law_1172 rfl rfl rfl ?_
  refine g_iload_n (q := 0) hC dL_law_1173 rfl rfl ?_
  refine g_iconst (v := vI 1) hC dL_law_1174 rfl ?_
  refine g_iadd hC dL_law_1175 ?_
  refine g_sld hC hX dL_law_1176 ?_
  refine g_aload_n (q := 3) hC dL_law_1177 rfl rfl rfl ?_
  refine g_iload_n (q := 0) hC dL_law_1178 rfl rfl ?_
  refine g_iconst (v := vI 2) hC dL_law_1179 rfl ?_
  refine g_iadd hC dL_law_1180 ?_
  refine g_sld hC hX dL_law_1181 ?_
  refine g_callVI (As := [vI (sx (i + 1)), vI (sx (i + 2))]) hC mv_X11_mean wml_RL_149 (k_X11_mean _ V hm.c (sx (i + 1)) (sx (i + 2)) X) cf_X11 (at_0 hm.c) (by decide) hr rfl rfl ⟨Nat.le_of_ble_eq_true rfl, Nat.le_of_ble_eq_true rfl⟩ (Nat.le_of_ble_eq_true rfl) dL_law_1182 (fun r1 X2 => ?_)
  refine g_aload_n (q := 1) hC dL_law_1185 rfl rfl rfl ?_
  refine g_aload_n (q := 3) hC dL_law_1186 rfl rfl rfl ?_
  refine g_iload_n (q := 0) hC dL_law_1187 rfl rfl ?_
  refine g_iconst (v := vI 1) hC dL_law_1188 rfl ?_
  refine g_iadd hC dL_law_1189 ?_
  refine g_sld hC hX dL_law_1190 ?_
  refine g_aload_n (q := 3) hC dL_law_1191 rfl rfl rfl ?_
  refine g_iload_n (q := 0) hC dL_law_1192 rfl rfl ?_
  refine g_iconst (v := vI 2) hC dL_law_1193 rfl ?_
  refine g_iadd hC dL_law_1194 ?_
  refine g_sld hC hX dL_law_1195 ?_
  refine g_callVI (As := [vI (sx (i + 1)), vI (sx (i + 2))]) hC mv_X12_mean wml_RL_152 (k_X12_mean _ V hm (sx (i + 1)) (sx (i + 2)) X2) cf_X12 (at_120 hm) (by decide) hr rfl rfl ⟨Nat.le_of_ble_eq_true rfl, Nat.le_of_ble_eq_true rfl⟩ (Nat.le_of_ble_eq_true rfl) dL_law_1196 (fun r3 X4 => ?_)
  refine g_icmp_eq (tgt := 1749) hC dL_law_1199 (by decide) ?_ g_none
  exact hJ X4
noncomputable def W_law_31 (n : Int) (sx : Int → Int) (go : Int → Mem → Option (Int × Mem)) (i : Int) (X : Mem) : Option (Int × Mem) :=
  cl (f_X11_length X) fun r1 X2 =>
  cl (f_X12_length X2) fun r3 X4 =>
  c2 r1 r3 (if r1 = r3 then go (i + 6) X4 else none)
set_option maxRecDepth 20000 in
theorem gW_law_31 {C : Cx} {V : Ev} {L : List Kd} {ca sl : Nat} {b : Nat} {n : Int} {sx : Int → Int} (hC : Ok C V cL_law RL 4 2048 84000) (hm : LKm L) (hX : Sc C V b n sx) (hr : ca ≤ C.2.2.2.1.cells ∧ sl ≤ C.2.2.2.1.slots) {go : Int → Mem → Option (Int × Mem)} (hgo : ∀ (i : Int) (X : Mem), G C V L ca sl 4 18 [(3, vI i), (2, vR V.1 120), (1, vR V.1 0), (0, .ref b)] [] X (go i X)) (i : Int) (X : Mem) : G C V L ca sl 4 1204 [(3, vI i), (2, vR V.1 120), (1, vR V.1 0), (0, .ref b)] [] X (W_law_31 n sx go i X) := by
  have hJ := gJ_law hC hm hX hr hgo i
  unfold W_law_31
  refine g_aload_n (q := 2) hC dL_law_1204 rfl rfl rfl ?_
  refine g_callVI (As := []) hC mv_X11_length wml_RL_153 (k_X11_length _ V hm.c X) cf_X11 (at_0 hm.c) (by decide) hr rfl rfl ⟨Nat.le_of_ble_eq_true rfl, Nat.le_of_ble_eq_true rfl⟩ (Nat.le_of_ble_eq_true rfl) dL_law_1205 (fun r1 X2 => ?_)
  refine g_aload_n (q := 1) hC dL_law_1208 rfl rfl rfl ?_
  refine g_callVI (As := []) hC mv_X12_length wml_RL_156 (k_X12_length _ V hm X2) cf_X12 (at_120 hm) (by decide) hr rfl rfl ⟨Nat.le_of_ble_eq_true rfl, Nat.le_of_ble_eq_true rfl⟩ (Nat.le_of_ble_eq_true rfl) dL_law_1209 (fun r3 X4 => ?_)
  refine g_icmp_eq (tgt := 1749) hC dL_law_1212 (by decide) ?_ g_none
  exact hJ X4
noncomputable def W_law_32 (n : Int) (sx : Int → Int) (go : Int → Mem → Option (Int × Mem)) (i : Int) (X : Mem) : Option (Int × Mem) :=
  ax n (i + 1) <|
  cl (f_X11_way (sx (i + 1)) X) fun r1 X2 =>
  ax n (i + 1) <|
  cl (f_X12_way (sx (i + 1)) X2) fun r3 X4 =>
  c2 r1 r3 (if r1 = r3 then go (i + 6) X4 else none)
set_option maxRecDepth 20000 in
theorem gW_law_32 {C : Cx} {V : Ev} {L : List Kd} {ca sl : Nat} {b : Nat} {n : Int} {sx : Int → Int} (hC : Ok C V cL_law RL 4 2048 84000) (hm : LKm L) (hX : Sc C V b n sx) (hr : ca ≤ C.2.2.2.1.cells ∧ sl ≤ C.2.2.2.1.slots) {go : Int → Mem → Option (Int × Mem)} (hgo : ∀ (i : Int) (X : Mem), G C V L ca sl 4 18 [(3, vI i), (2, vR V.1 120), (1, vR V.1 0), (0, .ref b)] [] X (go i X)) (i : Int) (X : Mem) : G C V L ca sl 4 1217 [(3, vI i), (2, vR V.1 120), (1, vR V.1 0), (0, .ref b)] [] X (W_law_32 n sx go i X) := by
  have hJ := gJ_law hC hm hX hr hgo i
  unfold W_law_32
  refine g_aload_n (q := 2) hC dL_law_1217 rfl rfl rfl ?_
  refine g_aload_n (q := 3) hC dL_law_1218 rfl rfl rfl ?_
  refine g_iload_n (q := 0) hC dL_law_1219 rfl rfl ?_
  refine g_iconst (v := vI 1) hC dL_law_1220 rfl ?_
  refine g_iadd hC dL_law_1221 ?_
  refine g_sld hC hX dL_law_1222 ?_
  refine g_callVI (As := [vI (sx (i + 1))]) hC mv_X11_way wml_RL_157 (k_X11_way _ V hm.c (sx (i + 1)) X) cf_X11 (at_0 hm.c) (by decide) hr rfl rfl ⟨Nat.le_of_ble_eq_true rfl, Nat.le_of_ble_eq_true rfl⟩ (Nat.le_of_ble_eq_true rfl) dL_law_1223 (fun r1 X2 => ?_)
  refine g_aload_n (q := 1) hC dL_law_1226 rfl rfl rfl ?_
  refine g_aload_n (q := 3) hC dL_law_1227 rfl rfl rfl ?_
  refine g_iload_n (q := 0) hC dL_law_1228 rfl rfl ?_
  refine g_iconst (v := vI 1) hC dL_law_1229 rfl ?_
  refine g_iadd hC dL_law_1230 ?_
  refine g_sld hC hX dL_law_1231 ?_
  refine g_callVI (As := [vI (sx (i + 1))]) hC mv_X12_way wml_RL_160 (k_X12_way _ V hm (sx (i + 1)) X2) cf_X12 (at_120 hm) (by decide) hr rfl rfl ⟨Nat.le_of_ble_eq_true rfl, Nat.le_of_ble_eq_true rfl⟩ (Nat.le_of_ble_eq_true rfl) dL_law_1232 (fun r3 X4 => ?_)
  refine g_icmp_eq (tgt := 1749) hC dL_law_1235 (by decide) ?_ g_none
  exact hJ X4
noncomputable def W_law_33 (n : Int) (sx : Int → Int) (go : Int → Mem → Option (Int × Mem)) (i : Int) (X : Mem) : Option (Int × Mem) :=
  ax n (i + 1) <|
  ax n (i + 2) <|
  ax n (i + 3) <|
  cl (f_X11_worth (sx (i + 1)) (sx (i + 2)) (sx (i + 3)) X) fun r1 X2 =>
  ax n (i + 1) <|
  ax n (i + 2) <|
  ax n (i + 3) <|
  cl (f_X12_worth (sx (i + 1)) (sx (i + 2)) (sx (i + 3)) X2) fun r3 X4 =>
  c2 r1 r3 (if r1 = r3 then go (i + 6) X4 else none)
set_option maxRecDepth 20000 in
theorem gW_law_33 {C : Cx} {V : Ev} {L : List Kd} {ca sl : Nat} {b : Nat} {n : Int} {sx : Int → Int} (hC : Ok C V cL_law RL 4 2048 84000) (hm : LKm L) (hX : Sc C V b n sx) (hr : ca ≤ C.2.2.2.1.cells ∧ sl ≤ C.2.2.2.1.slots) {go : Int → Mem → Option (Int × Mem)} (hgo : ∀ (i : Int) (X : Mem), G C V L ca sl 4 18 [(3, vI i), (2, vR V.1 120), (1, vR V.1 0), (0, .ref b)] [] X (go i X)) (i : Int) (X : Mem) : G C V L ca sl 4 1240 [(3, vI i), (2, vR V.1 120), (1, vR V.1 0), (0, .ref b)] [] X (W_law_33 n sx go i X) := by
  have hJ := gJ_law hC hm hX hr hgo i
  unfold W_law_33
  refine g_aload_n (q := 2) hC dL_law_1240 rfl rfl rfl ?_
  refine g_aload_n (q := 3) hC dL_law_1241 rfl rfl rfl ?_
  refine g_iload_n (q := 0) hC dL_law_1242 rfl rfl ?_
  refine g_iconst (v := vI 1) hC dL_law_1243 rfl ?_
  refine g_iadd hC dL_law_1244 ?_
  refine g_sld hC hX dL_law_1245 ?_
  refine g_aload_n (q := 3) hC dL_law_1246 rfl rfl rfl ?_
  refine g_iload_n (q := 0) hC dL_law_1247 rfl rfl ?_
  refine g_iconst (v := vI 2) hC dL_law_1248 rfl ?_
  refine g_iadd hC dL_law_1249 ?_
  refine g_sld hC hX dL_law_1250 ?_
  refine g_aload_n (q := 3) hC dL_law_1251 rfl rfl rfl ?_
  refine g_iload_n (q := 0) hC dL_law_1252 rfl rfl ?_
  refine g_iconst (v := vI 3) hC dL_law_1253 rfl ?_
  refine g_iadd hC dL_law_1254 ?_
  refine g_sld hC hX dL_law_1255 ?_
  refine g_callVI (As := [vI (sx (i + 1)), vI (sx (i + 2)), vI (sx (i + 3))]) hC mv_X11_worth wml_RL_161 (k_X11_worth _ V hm.c (sx (i + 1)) (sx (i + 2)) (sx (i + 3)) X) cf_X11 (at_0 hm.c) (by decide) hr rfl rfl ⟨Nat.le_of_ble_eq_true rfl, Nat.le_of_ble_eq_true rfl⟩ (Nat.le_of_ble_eq_true rfl) dL_law_1256 (fun r1 X2 => ?_)
  refine g_aload_n (q := 1) hC dL_law_1259 rfl rfl rfl ?_
  refine g_aload_n (q := 3) hC dL_law_1260 rfl rfl rfl ?_
  refine g_iload_n (q := 0) hC dL_law_1261 rfl rfl ?_
  refine g_iconst (v := vI 1) hC dL_law_1262 rfl ?_
  refine g_iadd hC dL_law_1263 ?_
  refine g_sld hC hX dL_law_1264 ?_
  refine g_aload_n (q := 3) hC dL_law_1265 rfl rfl rfl ?_
  refine g_iload_n (q := 0) hC dL_law_1266 rfl rfl ?_
  refine g_iconst (v := vI 2) hC dL_law_1267 rfl ?_
  refine g_iadd hC dL_law_1268 ?_
  refine g_sld hC hX dL_law_1269 ?_
  refine g_aload_n (q := 3) hC dL_law_1270 rfl rfl rfl ?_
  refine g_iload_n (q := 0) hC dL_law_1271 rfl rfl ?_
  refine g_iconst (v := vI 3) hC dL_law_1272 rfl ?_
  refine g_iadd hC dL_law_1273 ?_
  refine g_sld hC hX dL_law_1274 ?_
  refine g_callVI (As := [vI (sx (i + 1)), vI (sx (i + 2)), vI (sx (i + 3))]) hC mv_X12_worth wml_RL_164 (k_X12_worth _ V hm (sx (i + 1)) (sx (i + 2)) (sx (i + 3)) X2) cf_X12 (at_120 hm) (by decide) hr rfl rfl ⟨Nat.le_of_ble_eq_true rfl, Nat.le_of_ble_eq_true rfl⟩ (Nat.le_of_ble_eq_true rfl) dL_law_1275 (fun r3 X4 => ?_)
  refine g_icmp_eq (tgt := 1749) hC dL_law_1278 (by decide) ?_ g_none
  exact hJ X4
noncomputable def W_law_34 (n : Int) (sx : Int → Int) (go : Int → Mem → Option (Int × Mem)) (i : Int) (X : Mem) : Option (Int × Mem) :=
  ax n (i + 1) <|
  ax n (i + 2) <|
  ax n (i + 3) <|
  cl (f_X11_next (sx (i + 1)) (sx (i + 2)) (sx (i + 3)) X) fun r1 X2 =>
  ax n (i + 1) <|
  ax n (i + 2) <|
  ax n (i + 3) <|
  cl (f_X12_next (sx (i + 1)) (sx (i + 2)) (sx (i + 3)) X2) fun r3 X4 =>
  c2 r1 r3 (if r1 = r3 then go (i + 6) X4 else none)
set_option maxRecDepth 20000 in
theorem gW_law_34 {C : Cx} {V : Ev} {L : List Kd} {ca sl : Nat} {b : Nat} {n : Int} {sx : Int → Int} (hC : Ok C V cL_law RL 4 2048 84000) (hm : LKm L) (hX : Sc C V b n sx) (hr : ca ≤ C.2.2.2.1.cells ∧ sl ≤ C.2.2.2.1.slots) {go : Int → Mem → Option (Int × Mem)} (hgo : ∀ (i : Int) (X : Mem), G C V L ca sl 4 18 [(3, vI i), (2, vR V.1 120), (1, vR V.1 0), (0, .ref b)] [] X (go i X)) (i : Int) (X : Mem) : G C V L ca sl 4 1283 [(3, vI i), (2, vR V.1 120), (1, vR V.1 0), (0, .ref b)] [] X (W_law_34 n sx go i X) := by
  have hJ := gJ_law hC hm hX hr hgo i
  unfold W_law_34
  refine g_aload_n (q := 2) hC dL_law_1283 rfl rfl rfl ?_
  refine g_aload_n (q := 3) hC dL_law_1284 rfl rfl rfl ?_
  refine g_iload_n (q := 0) hC dL_law_1285 rfl rfl ?_
  refine g_iconst (v := vI 1) hC dL_law_1286 rfl ?_
  refine g_iadd hC dL_law_1287 ?_
  refine g_sld hC hX dL_law_1288 ?_
  refine g_aload_n (q := 3) hC dL_law_1289 rfl rfl rfl ?_
  refine g_iload_n (q := 0) hC dL_law_1290 rfl rfl ?_
  refine g_iconst (v := vI 2) hC dL_law_1291 rfl ?_
  refine g_iadd hC dL_law_1292 ?_
  refine g_sld hC hX dL_law_1293 ?_
  refine g_aload_n (q := 3) hC dL_law_1294 rfl rfl rfl ?_
  refine g_iload_n (q := 0) hC dL_law_1295 rfl rfl ?_
  refine g_iconst (v := vI 3) hC dL_law_1296 rfl ?_
  refine g_iadd hC dL_law_1297 ?_
  refine g_sld hC hX dL_law_1298 ?_
  refine g_callVI (As := [vI (sx (i + 1)), vI (sx (i + 2)), vI (sx (i + 3))]) hC mv_X11_next wml_RL_165 (k_X11_next _ V hm.c (sx (i + 1)) (sx (i + 2)) (sx (i + 3)) X) cf_X11 (at_0 hm.c) (by decide) hr rfl rfl ⟨Nat.le_of_ble_eq_true rfl, Nat.le_of_ble_eq_true rfl⟩ (Nat.le_of_ble_eq_true rfl) dL_law_1299 (fun r1 X2 => ?_)
  refine g_aload_n (q := 1) hC dL_law_1302 rfl rfl rfl ?_
  refine g_aload_n (q := 3) hC dL_law_1303 rfl rfl rfl ?_
  refine g_iload_n (q := 0) hC dL_law_1304 rfl rfl ?_
  refine g_iconst (v := vI 1) hC dL_law_1305 rfl ?_
  refine g_iadd hC dL_law_1306 ?_
  refine g_sld hC hX dL_law_1307 ?_
  refine g_aload_n (q := 3) hC dL_law_1308 rfl rfl rfl ?_
  refine g_iload_n (q := 0) hC dL_law_1309 rfl rfl ?_
  refine g_iconst (v := vI 2) hC dL_law_1310 rfl ?_
  refine g_iadd hC dL_law_1311 ?_
  refine g_sld hC hX dL_law_1312 ?_
  refine g_aload_n (q := 3) hC dL_law_1313 rfl rfl rfl ?_
  refine g_iload_n (q := 0) hC dL_law_1314 rfl rfl ?_
  refine g_iconst (v := vI 3) hC dL_law_1315 rfl ?_
  refine g_iadd hC dL_law_1316 ?_
  refine g_sld hC hX dL_law_1317 ?_
  refine g_callVI (As := [vI (sx (i + 1)), vI (sx (i + 2)), vI (sx (i + 3))]) hC mv_X12_next wml_RL_168 (k_X12_next _ V hm (sx (i + 1)) (sx (i + 2)) (sx (i + 3)) X2) cf_X12 (at_120 hm) (by decide) hr rfl rfl ⟨Nat.le_of_ble_eq_true rfl, Nat.le_of_ble_eq_true rfl⟩ (Nat.le_of_ble_eq_true rfl) dL_law_1318 (fun r3 X4 => ?_)
  refine g_icmp_eq (tgt := 1749) hC dL_law_1321 (by decide) ?_ g_none
  exact hJ X4
noncomputable def W_law_35 (n : Int) (sx : Int → Int) (go : Int → Mem → Option (Int × Mem)) (i : Int) (X : Mem) : Option (Int × Mem) :=
  ax n (i + 1) <|
  ax n (i + 2) <|
  ax n (i + 3) <|
  ax n (i + 4) <|
  cl (f_X11_lieTo (sx (i + 1)) (sx (i + 2)) (sx (i + 3)) (sx (i + 4)) X) fun r1 X2 =>
  ax n (i + 1) <|
  ax n (i + 2) <|
  ax n (i + 3) <|
  ax n (i + 4) <|
  cl (f_X12_lieTo (sx (i + 1)) (sx (i + 2)) (sx (i + 3)) (sx (i + 4)) X2) fun r3 X4 =>
  c2 r1 r3 (if r1 = r3 then go (i + 6) X4 else none)
set_option maxRecDepth 20000 in
theorem gW_law_35 {C : Cx} {V : Ev} {L : List Kd} {ca sl : Nat} {b : Nat} {n : Int} {sx : Int → Int} (hC : Ok C V cL_law RL 4 2048 84000) (hm : LKm L) (hX : Sc C V b n sx) (hr : ca ≤ C.2.2.2.1.cells ∧ sl ≤ C.2.2.2.1.slots) {go : Int → Mem → Option (Int × Mem)} (hgo : ∀ (i : Int) (X : Mem), G C V L ca sl 4 18 [(3, vI i), (2, vR V.1 120), (1, vR V.1 0), (0, .ref b)] [] X (go i X)) (i : Int) (X : Mem) : G C V L ca sl 4 1326 [(3, vI i), (2, vR V.1 120), (1, vR V.1 0), (0, .ref b)] [] X (W_law_35 n sx go i X) := by
  have hJ := gJ_law hC hm hX hr hgo i
  unfold W_law_35
  refine g_aload_n (q := 2) hC dL_law_1326 rfl rfl rfl ?_
  refine g_aload_n (q := 3) hC dL_law_1327 rfl rfl rfl ?_
  refine g_iload_n (q := 0) hC dL_law_1328 rfl rfl ?_
  refine g_iconst (v := vI 1) hC dL_law_1329 rfl ?_
  refine g_iadd hC dL_law_1330 ?_
  refine g_sld hC hX dL_law_1331 ?_
  refine g_aload_n (q := 3) hC dL_law_1332 rfl rfl rfl ?_
  refine g_iload_n (q := 0) hC dL_law_1333 rfl rfl ?_
  refine g_iconst (v := vI 2) hC dL_law_1334 rfl ?_
  refine g_iadd hC dL_law_1335 ?_
  refine g_sld hC hX dL_law_1336 ?_
  refine g_aload_n (q := 3) hC dL_law_1337 rfl rfl rfl ?_
  refine g_iload_n (q := 0) hC dL_law_1338 rfl rfl ?_
  refine g_iconst (v := vI 3) hC dL_law_1339 rfl ?_
  refine g_iadd hC dL_law_1340 ?_
  refine g_sld hC hX dL_law_1341 ?_
  refine g_aload_n (q := 3) hC dL_law_1342 rfl rfl rfl ?_
  refine g_iload_n (q := 0) hC dL_law_1343 rfl rfl ?_
  refine g_iconst (v := vI 4) hC dL_law_1344 rfl ?_
  refine g_iadd hC dL_law_1345 ?_
  refine g_sld hC hX dL_law_1346 ?_
  refine g_callVI (As := [vI (sx (i + 1)), vI (sx (i + 2)), vI (sx (i + 3)), vI (sx (i + 4))]) hC mv_X11_lieTo wml_RL_169 (k_X11_lieTo _ V hm.c (sx (i + 1)) (sx (i + 2)) (sx (i + 3)) (sx (i + 4)) X) cf_X11 (at_0 hm.c) (by decide) hr rfl rfl ⟨Nat.le_of_ble_eq_true rfl, Nat.le_of_ble_eq_true rfl⟩ (Nat.le_of_ble_eq_true rfl) dL_law_1347 (fun r1 X2 => ?_)
  refine g_aload_n (q := 1) hC dL_law_1350 rfl rfl rfl ?_
  refine g_aload_n (q := 3) hC dL_law_1351 rfl rfl rfl ?_
  refine g_iload_n (q := 0) hC dL_law_1352 rfl rfl ?_
  refine g_iconst (v := vI 1) hC dL_law_1353 rfl ?_
  refine g_iadd hC dL_law_1354 ?_
  refine g_sld hC hX dL_law_1355 ?_
  refine g_aload_n (q := 3) hC dL_law_1356 rfl rfl rfl ?_
  refine g_iload_n (q := 0) hC dL_law_1357 rfl rfl ?_
  refine g_iconst (v := vI 2) hC dL_law_1358 rfl ?_
  refine g_iadd hC dL_law_1359 ?_
  refine g_sld hC hX dL_law_1360 ?_
  refine g_aload_n (q := 3) hC dL_law_1361 rfl rfl rfl ?_
  refine g_iload_n (q := 0) hC dL_law_1362 rfl rfl ?_
  refine g_iconst (v := vI 3) hC dL_law_1363 rfl ?_
  refine g_iadd hC dL_law_1364 ?_
  refine g_sld hC hX dL_law_1365 ?_
  refine g_aload_n (q := 3) hC dL_law_1366 rfl rfl rfl ?_
  refine g_iload_n (q := 0) hC dL_law_1367 rfl rfl ?_
  refine g_iconst (v := vI 4) hC dL_law_1368 rfl ?_
  refine g_iadd hC dL_law_1369 ?_
  refine g_sld hC hX dL_law_1370 ?_
  refine g_callVI (As := [vI (sx (i + 1)), vI (sx (i + 2)), vI (sx (i + 3)), vI (sx (i + 4))]) hC mv_X12_lieTo wml_RL_173 (k_X12_lieTo _ V hm (sx (i + 1)) (sx (i + 2)) (sx (i + 3)) (sx (i + 4)) X2) cf_X12 (at_120 hm) (by decide) hr rfl rfl ⟨Nat.le_of_ble_eq_true rfl, Nat.le_of_ble_eq_true rfl⟩ (Nat.le_of_ble_eq_true rfl) dL_law_1371 (fun r3 X4 => ?_)
  refine g_icmp_eq (tgt := 1749) hC dL_law_1374 (by decide) ?_ g_none
  exact hJ X4
noncomputable def W_law_36 (n : Int) (sx : Int → Int) (go : Int → Mem → Option (Int × Mem)) (i : Int) (X : Mem) : Option (Int × Mem) :=
  ax n (i + 1) <|
  ax n (i + 2) <|
  ax n (i + 3) <|
  cl (f_X11_marked (sx (i + 1)) (sx (i + 2)) (sx (i + 3)) X) fun r1 X2 =>
  ax n (i + 1) <|
  ax n (i + 2) <|
  ax n (i + 3) <|
  cl (f_X12_marked (sx (i + 1)) (sx (i + 2)) (sx (i + 3)) X2) fun r3 X4 =>
  c2 r1 r3 (if r1 = r3 then go (i + 6) X4 else none)
set_option maxRecDepth 20000 in
theorem gW_law_36 {C : Cx} {V : Ev} {L : List Kd} {ca sl : Nat} {b : Nat} {n : Int} {sx : Int → Int} (hC : Ok C V cL_law RL 4 2048 84000) (hm : LKm L) (hX : Sc C V b n sx) (hr : ca ≤ C.2.2.2.1.cells ∧ sl ≤ C.2.2.2.1.slots) {go : Int → Mem → Option (Int × Mem)} (hgo : ∀ (i : Int) (X : Mem), G C V L ca sl 4 18 [(3, vI i), (2, vR V.1 120), (1, vR V.1 0), (0, .ref b)] [] X (go i X)) (i : Int) (X : Mem) : G C V L ca sl 4 1379 [(3, vI i), (2, vR V.1 120), (1, vR V.1 0), (0, .ref b)] [] X (W_law_36 n sx go i X) := by
  have hJ := gJ_law hC hm hX hr hgo i
  unfold W_law_36
  refine g_aload_n (q := 2) hC dL_law_1379 rfl rfl rfl ?_
  refine g_aload_n (q := 3) hC dL_law_1380 rfl rfl rfl ?_
  refine g_iload_n (q := 0) hC dL_law_1381 rfl rfl ?_
  refine g_iconst (v := vI 1) hC dL_law_1382 rfl ?_
  refine g_iadd hC dL_law_1383 ?_
  refine g_sld hC hX dL_law_1384 ?_
  refine g_aload_n (q := 3) hC dL_law_1385 rfl rfl rfl ?_
  refine g_iload_n (q := 0) hC dL_law_1386 rfl rfl ?_
  refine g_iconst (v := vI 2) hC dL_law_1387 rfl ?_
  refine g_iadd hC dL_law_1388 ?_
  refine g_sld hC hX dL_law_1389 ?_
  refine g_aload_n (q := 3) hC dL_law_1390 rfl rfl rfl ?_
  refine g_iload_n (q := 0) hC dL_law_1391 rfl rfl ?_
  refine g_iconst (v := vI 3) hC dL_law_1392 rfl ?_
  refine g_iadd hC dL_law_1393 ?_
  refine g_sld hC hX dL_law_1394 ?_
  refine g_callVI (As := [vI (sx (i + 1)), vI (sx (i + 2)), vI (sx (i + 3))]) hC mv_X11_marked wml_RL_174 (k_X11_marked _ V hm.c (sx (i + 1)) (sx (i + 2)) (sx (i + 3)) X) cf_X11 (at_0 hm.c) (by decide) hr rfl rfl ⟨Nat.le_of_ble_eq_true rfl, Nat.le_of_ble_eq_true rfl⟩ (Nat.le_of_ble_eq_true rfl) dL_law_1395 (fun r1 X2 => ?_)
  refine g_aload_n (q := 1) hC dL_law_1398 rfl rfl rfl ?_
  refine g_aload_n (q := 3) hC dL_law_1399 rfl rfl rfl ?_
  refine g_iload_n (q := 0) hC dL_law_1400 rfl rfl ?_
  refine g_iconst (v := vI 1) hC dL_law_1401 rfl ?_
  refine g_iadd hC dL_law_1402 ?_
  refine g_sld hC hX dL_law_1403 ?_
  refine g_aload_n (q := 3) hC dL_law_1404 rfl rfl rfl ?_
  refine g_iload_n (q := 0) hC dL_law_1405 rfl rfl ?_
  refine g_iconst (v := vI 2) hC dL_law_1406 rfl ?_
  refine g_iadd hC dL_law_1407 ?_
  refine g_sld hC hX dL_law_1408 ?_
  refine g_aload_n (q := 3) hC dL_law_1409 rfl rfl rfl ?_
  refine g_iload_n (q := 0) hC dL_law_1410 rfl rfl ?_
  refine g_iconst (v := vI 3) hC dL_law_1411 rfl ?_
  refine g_iadd hC dL_law_1412 ?_
  refine g_sld hC hX dL_law_1413 ?_
  refine g_callVI (As := [vI (sx (i + 1)), vI (sx (i + 2)), vI (sx (i + 3))]) hC mv_X12_marked wml_RL_177 (k_X12_marked _ V hm (sx (i + 1)) (sx (i + 2)) (sx (i + 3)) X2) cf_X12 (at_120 hm) (by decide) hr rfl rfl ⟨Nat.le_of_ble_eq_true rfl, Nat.le_of_ble_eq_true rfl⟩ (Nat.le_of_ble_eq_true rfl) dL_law_1414 (fun r3 X4 => ?_)
  refine g_icmp_eq (tgt := 1749) hC dL_law_1417 (by decide) ?_ g_none
  exact hJ X4
noncomputable def W_law_37 (n : Int) (sx : Int → Int) (go : Int → Mem → Option (Int × Mem)) (i : Int) (X : Mem) : Option (Int × Mem) :=
  ax n (i + 1) <|
  ax n (i + 2) <|
  cl (f_X11_tells (sx (i + 1)) (sx (i + 2)) X) fun r1 X2 =>
  ax n (i + 1) <|
  ax n (i + 2) <|
  cl (f_X12_tells (sx (i + 1)) (sx (i + 2)) X2) fun r3 X4 =>
  c2 r1 r3 (if r1 = r3 then go (i + 6) X4 else none)
set_option maxRecDepth 20000 in
theorem gW_law_37 {C : Cx} {V : Ev} {L : List Kd} {ca sl : Nat} {b : Nat} {n : Int} {sx : Int → Int} (hC : Ok C V cL_law RL 4 2048 84000) (hm : LKm L) (hX : Sc C V b n sx) (hr : ca ≤ C.2.2.2.1.cells ∧ sl ≤ C.2.2.2.1.slots) {go : Int → Mem → Option (Int × Mem)} (hgo : ∀ (i : Int) (X : Mem), G C V L ca sl 4 18 [(3, vI i), (2, vR V.1 120), (1, vR V.1 0), (0, .ref b)] [] X (go i X)) (i : Int) (X : Mem) : G C V L ca sl 4 1422 [(3, vI i), (2, vR V.1 120), (1, vR V.1 0), (0, .ref b)] [] X (W_law_37 n sx go i X) := by
  have hJ := gJ_law hC hm hX hr hgo i
  unfold W_law_37
  refine g_aload_n (q := 2) hC dL_law_1422 rfl rfl rfl ?_
  refine g_aload_n (q := 3) hC dL_law_1423 rfl rfl rfl ?_
  refine g_iload_n (q := 0) hC dL_law_1424 rfl rfl ?_
  refine g_iconst (v := vI 1) hC dL_law_1425 rfl ?_
  refine g_iadd hC dL_law_1426 ?_
  refine g_sld hC hX dL_law_1427 ?_
  refine g_aload_n (q := 3) hC dL_law_1428 rfl rfl rfl ?_
  refine g_iload_n (q := 0) hC dL_law_1429 rfl rfl ?_
  refine g_iconst (v := vI 2) hC dL_law_1430 rfl ?_
  refine g_iadd hC dL_law_1431 ?_
  refine g_sld hC hX dL_law_1432 ?_
  refine g_callVI (As := [vI (sx (i + 1)), vI (sx (i + 2))]) hC mv_X11_tells wml_RL_178 (k_X11_tells _ V hm.c (sx (i + 1)) (sx (i + 2)) X) cf_X11 (at_0 hm.c) (by decide) hr rfl rfl ⟨Nat.le_of_ble_eq_true rfl, Nat.le_of_ble_eq_true rfl⟩ (Nat.le_of_ble_eq_true rfl) dL_law_1433 (fun r1 X2 => ?_)
  refine g_aload_n (q := 1) hC dL_law_1436 rfl rfl rfl ?_
  refine g_aload_n (q := 3) hC dL_law_1437 rfl rfl rfl ?_
  refine g_iload_n (q := 0) hC dL_law_1438 rfl rfl ?_
  refine g_iconst (v := vI 1) hC dL_law_1439 rfl ?_
  refine g_iadd hC dL_law_1440 ?_
  refine g_sld hC hX dL_law_1441 ?_
  refine g_aload_n (q := 3) hC dL_law_1442 rfl rfl rfl ?_
  refine g_iload_n (q := 0) hC dL_law_1443 rfl rfl ?_
  refine g_iconst (v := vI 2) hC dL_law_1444 rfl ?_
  refine g_iadd hC dL_law_1445 ?_
  refine g_sld hC hX dL_law_1446 ?_
  refine g_callVI (As := [vI (sx (i + 1)), vI (sx (i + 2))]) hC mv_X12_tells wml_RL_181 (k_X12_tells _ V hm (sx (i + 1)) (sx (i + 2)) X2) cf_X12 (at_120 hm) (by decide) hr rfl rfl ⟨Nat.le_of_ble_eq_true rfl, Nat.le_of_ble_eq_true rfl⟩ (Nat.le_of_ble_eq_true rfl) dL_law_1447 (fun r3 X4 => ?_)
  refine g_icmp_eq (tgt := 1749) hC dL_law_1450 (by decide) ?_ g_none
  exact hJ X4
noncomputable def W_law_38 (n : Int) (sx : Int → Int) (go : Int → Mem → Option (Int × Mem)) (i : Int) (X : Mem) : Option (Int × Mem) :=
  ax n (i + 1) <|
  ax n (i + 2) <|
  cl (f_X11_dredged (sx (i + 1)) (sx (i + 2)) X) fun r1 X2 =>
  ax n (i + 1) <|
  ax n (i + 2) <|
  cl (f_X12_dredged (sx (i + 1)) (sx (i + 2)) X2) fun r3 X4 =>
  c2 r1 r3 (if r1 = r3 then go (i + 6) X4 else none)
set_option maxRecDepth 20000 in
theorem gW_law_38 {C : Cx} {V : Ev} {L : List Kd} {ca sl : Nat} {b : Nat} {n : Int} {sx : Int → Int} (hC : Ok C V cL_law RL 4 2048 84000) (hm : LKm L) (hX : Sc C V b n sx) (hr : ca ≤ C.2.2.2.1.cells ∧ sl ≤ C.2.2.2.1.slots) {go : Int → Mem → Option (Int × Mem)} (hgo : ∀ (i : Int) (X : Mem), G C V L ca sl 4 18 [(3, vI i), (2, vR V.1 120), (1, vR V.1 0), (0, .ref b)] [] X (go i X)) (i : Int) (X : Mem) : G C V L ca sl 4 1455 [(3, vI i), (2, vR V.1 120), (1, vR V.1 0), (0, .ref b)] [] X (W_law_38 n sx go i X) := by
  have hJ := gJ_law hC hm hX hr hgo i
  unfold W_law_38
  refine g_aload_n (q := 2) hC dL_law_1455 rfl rfl rfl ?_
  refine g_aload_n (q := 3) hC dL_law_1456 rfl rfl rfl ?_
  refine g_iload_n (q := 0) hC dL_law_1457 rfl rfl ?_
  refine g_iconst (v := vI 1) hC dL_law_1458 rfl ?_
  refine g_iadd hC dL_law_1459 ?_
  refine g_sld hC hX dL_law_1460 ?_
  refine g_aload_n (q := 3) hC dL_law_1461 rfl rfl rfl ?_
  refine g_iload_n (q := 0) hC dL_law_1462 rfl rfl ?_
  refine g_iconst (v := vI 2) hC dL_law_1463 rfl ?_
  refine g_iadd hC dL_law_1464 ?_
  refine g_sld hC hX dL_law_1465 ?_
  refine g_callVI (As := [vI (sx (i + 1)), vI (sx (i + 2))]) hC mv_X11_dredged wml_RL_182 (k_X11_dredged _ V hm.c (sx (i + 1)) (sx (i + 2)) X) cf_X11 (at_0 hm.c) (by decide) hr rfl rfl ⟨Nat.le_of_ble_eq_true rfl, Nat.le_of_ble_eq_true rfl⟩ (Nat.le_of_ble_eq_true rfl) dL_law_1466 (fun r1 X2 => ?_)
  refine g_aload_n (q := 1) hC dL_law_1469 rfl rfl rfl ?_
  refine g_aload_n (q := 3) hC dL_law_1470 rfl rfl rfl ?_
  refine g_iload_n (q := 0) hC dL_law_1471 rfl rfl ?_
  refine g_iconst (v := vI 1) hC dL_law_1472 rfl ?_
  refine g_iadd hC dL_law_1473 ?_
  refine g_sld hC hX dL_law_1474 ?_
  refine g_aload_n (q := 3) hC dL_law_1475 rfl rfl rfl ?_
  refine g_iload_n (q := 0) hC dL_law_1476 rfl rfl ?_
  refine g_iconst (v := vI 2) hC dL_law_1477 rfl ?_
  refine g_iadd hC dL_law_1478 ?_
  refine g_sld hC hX dL_law_1479 ?_
  refine g_callVI (As := [vI (sx (i + 1)), vI (sx (i + 2))]) hC mv_X12_dredged wml_RL_185 (k_X12_dredged _ V hm (sx (i + 1)) (sx (i + 2)) X2) cf_X12 (at_120 hm) (by decide) hr rfl rfl ⟨Nat.le_of_ble_eq_true rfl, Nat.le_of_ble_eq_true rfl⟩ (Nat.le_of_ble_eq_true rfl) dL_law_1480 (fun r3 X4 => ?_)
  refine g_icmp_eq (tgt := 1749) hC dL_law_1483 (by decide) ?_ g_none
  exact hJ X4
noncomputable def W_law_39 (n : Int) (sx : Int → Int) (go : Int → Mem → Option (Int × Mem)) (i : Int) (X : Mem) : Option (Int × Mem) :=
  ax n (i + 1) <|
  ax n (i + 2) <|
  ax n (i + 3) <|
  ax n (i + 4) <|
  ax n (i + 5) <|
  cl (f_X11_brush (sx (i + 1)) (sx (i + 2)) (sx (i + 3)) (sx (i + 4)) (sx (i + 5)) X) fun r1 X2 =>
  ax n (i + 1) <|
  ax n (i + 2) <|
  ax n (i + 3) <|
  ax n (i + 4) <|
  ax n (i + 5) <|
  cl (f_X12_brush (sx (i + 1)) (sx (i + 2)) (sx (i + 3)) (sx (i + 4)) (sx (i + 5)) X2) fun r3 X4 =>
  c2 r1 r3 (if r1 = r3 then go (i + 6) X4 else none)
set_option maxRecDepth 20000 in
theorem gW_law_39 {C : Cx} {V : Ev} {L : List Kd} {ca sl : Nat} {b : Nat} {n : Int} {sx : Int → Int} (hC : Ok C V cL_law RL 4 2048 84000) (hm : LKm L) (hX : Sc C V b n sx) (hr : ca ≤ C.2.2.2.1.cells ∧ sl ≤ C.2.2.2.1.slots) {go : Int → Mem → Option (Int × Mem)} (hgo : ∀ (i : Int) (X : Mem), G C V L ca sl 4 18 [(3, vI i), (2, vR V.1 120), (1, vR V.1 0), (0, .ref b)] [] X (go i X)) (i : Int) (X : Mem) : G C V L ca sl 4 1488 [(3, vI i), (2, vR V.1 120), (1, vR V.1 0), (0, .ref b)] [] X (W_law_39 n sx go i X) := by
  have hJ := gJ_law hC hm hX hr hgo i
  unfold W_law_39
  refine g_aload_n (q := 2) hC dL_law_1488 rfl rfl rfl ?_
  refine g_aload_n (q := 3) hC dL_law_1489 rfl rfl rfl ?_
  refine g_iload_n (q := 0) hC dL_law_1490 rfl rfl ?_
  refine g_iconst (v := vI 1) hC dL_law_1491 rfl ?_
  refine g_iadd hC dL_law_1492 ?_
  refine g_sld hC hX dL_law_1493 ?_
  refine g_aload_n (q := 3) hC dL_law_1494 rfl rfl rfl ?_
  refine g_iload_n (q := 0) hC dL_law_1495 rfl rfl ?_
  refine g_iconst (v := vI 2) hC dL_law_1496 rfl ?_
  refine g_iadd hC dL_law_1497 ?_
  refine g_sld hC hX dL_law_1498 ?_
  refine g_aload_n (q := 3) hC dL_law_1499 rfl rfl rfl ?_
  refine g_iload_n (q := 0) hC dL_law_1500 rfl rfl ?_
  refine g_iconst (v := vI 3) hC dL_law_1501 rfl ?_
  refine g_iadd hC dL_law_1502 ?_
  refine g_sld hC hX dL_law_1503 ?_
  refine g_aload_n (q := 3) hC dL_law_1504 rfl rfl rfl ?_
  refine g_iload_n (q := 0) hC dL_law_1505 rfl rfl ?_
  refine g_iconst (v := vI 4) hC dL_law_1506 rfl ?_
  refine g_iadd hC dL_law_1507 ?_
  refine g_sld hC hX dL_law_1508 ?_
  refine g_aload_n (q := 3) hC dL_law_1509 rfl rfl rfl ?_
  refine g_iload_n (q := 0) hC dL_law_1510 rfl rfl ?_
  refine g_iconst (v := vI 5) hC dL_law_1511 rfl ?_
  refine g_iadd hC dL_law_1512 ?_
  refine g_sld hC hX dL_law_1513 ?_
  refine g_callVI (As := [vI (sx (i + 1)), vI (sx (i + 2)), vI (sx (i + 3)), vI (sx (i + 4)), vI (sx (i + 5))]) hC mv_X11_brush wml_RL_186 (k_X11_brush _ V hm.c (sx (i + 1)) (sx (i + 2)) (sx (i + 3)) (sx (i + 4)) (sx (i + 5)) X) cf_X11 (at_0 hm.c) (by decide) hr rfl rfl ⟨Nat.le_of_ble_eq_true rfl, Nat.le_of_ble_eq_true rfl⟩ (Nat.le_of_ble_eq_true rfl) dL_law_1514 (fun r1 X2 => ?_)
  refine g_aload_n (q := 1) hC dL_law_1517 rfl rfl rfl ?_
  refine g_aload_n (q := 3) hC dL_law_1518 rfl rfl rfl ?_
  refine g_iload_n (q := 0) hC dL_law_1519 rfl rfl ?_
  refine g_iconst (v := vI 1) hC dL_law_1520 rfl ?_
  refine g_iadd hC dL_law_1521 ?_
  refine g_sld hC hX dL_law_1522 ?_
  refine g_aload_n (q := 3) hC dL_law_1523 rfl rfl rfl ?_
  refine g_iload_n (q := 0) hC dL_law_1524 rfl rfl ?_
  refine g_iconst (v := vI 2) hC dL_law_1525 rfl ?_
  refine g_iadd hC dL_law_1526 ?_
  refine g_sld hC hX dL_law_1527 ?_
  refine g_aload_n (q := 3) hC dL_law_1528 rfl rfl rfl ?_
  refine g_iload_n (q := 0) hC dL_law_1529 rfl rfl ?_
  refine g_iconst (v := vI 3) hC dL_law_1530 rfl ?_
  refine g_iadd hC dL_law_1531 ?_
  refine g_sld hC hX dL_law_1532 ?_
  refine g_aload_n (q := 3) hC dL_law_1533 rfl rfl rfl ?_
  refine g_iload_n (q := 0) hC dL_law_1534 rfl rfl ?_
  refine g_iconst (v := vI 4) hC dL_law_1535 rfl ?_
  refine g_iadd hC dL_law_1536 ?_
  refine g_sld hC hX dL_law_1537 ?_
  refine g_aload_n (q := 3) hC dL_law_1538 rfl rfl rfl ?_
  refine g_iload_n (q := 0) hC dL_law_1539 rfl rfl ?_
  refine g_iconst (v := vI 5) hC dL_law_1540 rfl ?_
  refine g_iadd hC dL_law_1541 ?_
  refine g_sld hC hX dL_law_1542 ?_
  refine g_callVI (As := [vI (sx (i + 1)), vI (sx (i + 2)), vI (sx (i + 3)), vI (sx (i + 4)), vI (sx (i + 5))]) hC mv_X12_brush wml_RL_189 (k_X12_brush _ V hm (sx (i + 1)) (sx (i + 2)) (sx (i + 3)) (sx (i + 4)) (sx (i + 5)) X2) cf_X12 (at_120 hm) (by decide) hr rfl rfl ⟨Nat.le_of_ble_eq_true rfl, Nat.le_of_ble_eq_true rfl⟩ (Nat.le_of_ble_eq_true rfl) dL_law_1543 (fun r3 X4 => ?_)
  refine g_icmp_eq (tgt := 1749) hC dL_law_1546 (by decide) ?_ g_none
  exact hJ X4
noncomputable def W_law_40 (n : Int) (sx : Int → Int) (go : Int → Mem → Option (Int × Mem)) (i : Int) (X : Mem) : Option (Int × Mem) :=
  ax n (i + 1) <|
  ax n (i + 2) <|
  ax n (i + 3) <|
  cl (f_X11_lighten (sx (i + 1)) (sx (i + 2)) (sx (i + 3)) X) fun r1 X2 =>
  ax n (i + 1) <|
  ax n (i + 2) <|
  ax n (i + 3) <|
  cl (f_X12_lighten (sx (i + 1)) (sx (i + 2)) (sx (i + 3)) X2) fun r3 X4 =>
  c2 r1 r3 (if r1 = r3 then go (i + 6) X4 else none)
set_option maxRecDepth 20000 in
theorem gW_law_40 {C : Cx} {V : Ev} {L : List Kd} {ca sl : Nat} {b : Nat} {n : Int} {sx : Int → Int} (hC : Ok C V cL_law RL 4 2048 84000) (hm : LKm L) (hX : Sc C V b n sx) (hr : ca ≤ C.2.2.2.1.cells ∧ sl ≤ C.2.2.2.1.slots) {go : Int → Mem → Option (Int × Mem)} (hgo : ∀ (i : Int) (X : Mem), G C V L ca sl 4 18 [(3, vI i), (2, vR V.1 120), (1, vR V.1 0), (0, .ref b)] [] X (go i X)) (i : Int) (X : Mem) : G C V L ca sl 4 1551 [(3, vI i), (2, vR V.1 120), (1, vR V.1 0), (0, .ref b)] [] X (W_law_40 n sx go i X) := by
  have hJ := gJ_law hC hm hX hr hgo i
  unfold W_law_40
  refine g_aload_n (q := 2) hC dL_law_1551 rfl rfl rfl ?_
  refine g_aload_n (q := 3) hC dL_law_1552 rfl rfl rfl ?_
  refine g_iload_n (q := 0) hC dL_law_1553 rfl rfl ?_
  refine g_iconst (v := vI 1) hC dL_law_1554 rfl ?_
  refine g_iadd hC dL_law_1555 ?_
  refine g_sld hC hX dL_law_1556 ?_
  refine g_aload_n (q := 3) hC dL_law_1557 rfl rfl rfl ?_
  refine g_iload_n (q := 0) hC dL_law_1558 rfl rfl ?_
  refine g_iconst (v := vI 2) hC dL_law_1559 rfl ?_
  refine g_iadd hC dL_law_1560 ?_
  refine g_sld hC hX dL_law_1561 ?_
  refine g_aload_n (q := 3) hC dL_law_1562 rfl rfl rfl ?_
  refine g_iload_n (q := 0) hC dL_law_1563 rfl rfl ?_
  refine g_iconst (v := vI 3) hC dL_law_1564 rfl ?_
  refine g_iadd hC dL_law_1565 ?_
  refine g_sld hC hX dL_law_1566 ?_
  refine g_callVI (As := [vI (sx (i + 1)), vI (sx (i + 2)), vI (sx (i + 3))]) hC mv_X11_lighten wml_RL_190 (k_X11_lighten _ V hm.c (sx (i + 1)) (sx (i + 2)) (sx (i + 3)) X) cf_X11 (at_0 hm.c) (by decide) hr rfl rfl ⟨Nat.le_of_ble_eq_true rfl, Nat.le_of_ble_eq_true rfl⟩ (Nat.le_of_ble_eq_true rfl) dL_law_1567 (fun r1 X2 => ?_)
  refine g_aload_n (q := 1) hC dL_law_1570 rfl rfl rfl ?_
  refine g_aload_n (q := 3) hC dL_law_1571 rfl rfl rfl ?_
  refine g_iload_n (q := 0) hC dL_law_1572 rfl rfl ?_
  refine g_iconst (v := vI 1) hC dL_law_1573 rfl ?_
  refine g_iadd hC dL_law_1574 ?_
  refine g_sld hC hX dL_law_1575 ?_
  refine g_aload_n (q := 3) hC dL_law_1576 rfl rfl rfl ?_
  refine g_iload_n (q := 0) hC dL_law_1577 rfl rfl ?_
  refine g_iconst (v := vI 2) hC dL_law_1578 rfl ?_
  refine g_iadd hC dL_law_1579 ?_
  refine g_sld hC hX dL_law_1580 ?_
  refine g_aload_n (q := 3) hC dL_law_1581 rfl rfl rfl ?_
  refine g_iload_n (q := 0) hC dL_law_1582 rfl rfl ?_
  refine g_iconst (v := vI 3) hC dL_law_1583 rfl ?_
  refine g_iadd hC dL_law_1584 ?_
  refine g_sld hC hX dL_law_1585 ?_
  refine g_callVI (As := [vI (sx (i + 1)), vI (sx (i + 2)), vI (sx (i + 3))]) hC mv_X12_lighten wml_RL_193 (k_X12_lighten _ V hm (sx (i + 1)) (sx (i + 2)) (sx (i + 3)) X2) cf_X12 (at_120 hm) (by decide) hr rfl rfl ⟨Nat.le_of_ble_eq_true rfl, Nat.le_of_ble_eq_true rfl⟩ (Nat.le_of_ble_eq_true rfl) dL_law_1586 (fun r3 X4 => ?_)
  refine g_icmp_eq (tgt := 1749) hC dL_law_1589 (by decide) ?_ g_none
  exact hJ X4
noncomputable def W_law_41 (n : Int) (sx : Int → Int) (go : Int → Mem → Option (Int × Mem)) (i : Int) (X : Mem) : Option (Int × Mem) :=
  ax n (i + 1) <|
  ax n (i + 2) <|
  ax n (i + 3) <|
  cl (f_X11_play (sx (i + 1)) (sx (i + 2)) (sx (i + 3)) X) fun r1 X2 =>
  ax n (i + 1) <|
  ax n (i + 2) <|
  ax n (i + 3) <|
  cl (f_X12_play (sx (i + 1)) (sx (i + 2)) (sx (i + 3)) X2) fun r3 X4 =>
  c2 r1 r3 (if r1 = r3 then go (i + 6) X4 else none)
set_option maxRecDepth 20000 in
theorem gW_law_41 {C : Cx} {V : Ev} {L : List Kd} {ca sl : Nat} {b : Nat} {n : Int} {sx : Int → Int} (hC : Ok C V cL_law RL 4 2048 84000) (hm : LKm L) (hX : Sc C V b n sx) (hr : ca ≤ C.2.2.2.1.cells ∧ sl ≤ C.2.2.2.1.slots) {go : Int → Mem → Option (Int × Mem)} (hgo : ∀ (i : Int) (X : Mem), G C V L ca sl 4 18 [(3, vI i), (2, vR V.1 120), (1, vR V.1 0), (0, .ref b)] [] X (go i X)) (i : Int) (X : Mem) : G C V L ca sl 4 1594 [(3, vI i), (2, vR V.1 120), (1, vR V.1 0), (0, .ref b)] [] X (W_law_41 n sx go i X) := by
  have hJ := gJ_law hC hm hX hr hgo i
  unfold W_law_41
  refine g_aload_n (q := 2) hC dL_law_1594 rfl rfl rfl ?_
  refine g_aload_n (q := 3) hC dL_law_1595 rfl rfl rfl ?_
  refine g_iload_n (q := 0) hC dL_law_1596 rfl rfl ?_
  refine g_iconst (v := vI 1) hC dL_law_1597 rfl ?_
  refine g_iadd hC dL_law_1598 ?_
  refine g_sld hC hX dL_law_1599 ?_
  refine g_aload_n (q := 3) hC dL_law_1600 rfl rfl rfl ?_
  refine g_iload_n (q := 0) hC dL_law_1601 rfl rfl ?_
  refine g_iconst (v := vI 2) hC dL_law_1602 rfl ?_
  refine g_iadd hC dL_law_1603 ?_
  refine g_sld hC hX dL_law_1604 ?_
  refine g_aload_n (q := 3) hC dL_law_1605 rfl rfl rfl ?_
  refine g_iload_n (q := 0) hC dL_law_1606 rfl rfl ?_
  refine g_iconst (v := vI 3) hC dL_law_1607 rfl ?_
  refine g_iadd hC dL_law_1608 ?_
  refine g_sld hC hX dL_law_1609 ?_
  refine g_callVI (As := [vI (sx (i + 1)), vI (sx (i + 2)), vI (sx (i + 3))]) hC mv_X11_play wml_RL_194 (k_X11_play _ V hm.c (sx (i + 1)) (sx (i + 2)) (sx (i + 3)) X) cf_X11 (at_0 hm.c) (by decide) hr rfl rfl ⟨Nat.le_of_ble_eq_true rfl, Nat.le_of_ble_eq_true rfl⟩ (Nat.le_of_ble_eq_true rfl) dL_law_1610 (fun r1 X2 => ?_)
  refine g_aload_n (q := 1) hC dL_law_1613 rfl rfl rfl ?_
  refine g_aload_n (q := 3) hC dL_law_1614 rfl rfl rfl ?_
  refine g_iload_n (q := 0) hC dL_law_1615 rfl rfl ?_
  refine g_iconst (v := vI 1) hC dL_law_1616 rfl ?_
  refine g_iadd hC dL_law_1617 ?_
  refine g_sld hC hX dL_law_1618 ?_
  refine g_aload_n (q := 3) hC dL_law_1619 rfl rfl rfl ?_
  refine g_iload_n (q := 0) hC dL_law_1620 rfl rfl ?_
  refine g_iconst (v := vI 2) hC dL_law_1621 rfl ?_
  refine g_iadd hC dL_law_1622 ?_
  refine g_sld hC hX dL_law_1623 ?_
  refine g_aload_n (q := 3) hC dL_law_1624 rfl rfl rfl ?_
  refine g_iload_n (q := 0) hC dL_law_1625 rfl rfl ?_
  refine g_iconst (v := vI 3) hC dL_law_1626 rfl ?_
  refine g_iadd hC dL_law_1627 ?_
  refine g_sld hC hX dL_law_1628 ?_
  refine g_callVI (As := [vI (sx (i + 1)), vI (sx (i + 2)), vI (sx (i + 3))]) hC mv_X12_play wml_RL_197 (k_X12_play _ V hm (sx (i + 1)) (sx (i + 2)) (sx (i + 3)) X2) cf_X12 (at_120 hm) (by decide) hr rfl rfl ⟨Nat.le_of_ble_eq_true rfl, Nat.le_of_ble_eq_true rfl⟩ (Nat.le_of_ble_eq_true rfl) dL_law_1629 (fun r3 X4 => ?_)
  refine g_icmp_eq (tgt := 1749) hC dL_law_1632 (by decide) ?_ g_none
  exact hJ X4
noncomputable def W_law_42 (n : Int) (sx : Int → Int) (go : Int → Mem → Option (Int × Mem)) (i : Int) (X : Mem) : Option (Int × Mem) :=
  ax n (i + 1) <|
  cl (f_X11_played (sx (i + 1)) X) fun r1 X2 =>
  ax n (i + 1) <|
  cl (f_X12_played (sx (i + 1)) X2) fun r3 X4 =>
  c2 r1 r3 (if r1 = r3 then go (i + 6) X4 else none)
set_option maxRecDepth 20000 in
theorem gW_law_42 {C : Cx} {V : Ev} {L : List Kd} {ca sl : Nat} {b : Nat} {n : Int} {sx : Int → Int} (hC : Ok C V cL_law RL 4 2048 84000) (hm : LKm L) (hX : Sc C V b n sx) (hr : ca ≤ C.2.2.2.1.cells ∧ sl ≤ C.2.2.2.1.slots) {go : Int → Mem → Option (Int × Mem)} (hgo : ∀ (i : Int) (X : Mem), G C V L ca sl 4 18 [(3, vI i), (2, vR V.1 120), (1, vR V.1 0), (0, .ref b)] [] X (go i X)) (i : Int) (X : Mem) : G C V L ca sl 4 1637 [(3, vI i), (2, vR V.1 120), (1, vR V.1 0), (0, .ref b)] [] X (W_law_42 n sx go i X) := by
  have hJ := gJ_law hC hm hX hr hgo i
  unfold W_law_42
  refine g_aload_n (q := 2) hC dL_law_1637 rfl rfl rfl ?_
  refine g_aload_n (q := 3) hC dL_law_1638 rfl rfl rfl ?_
  refine g_iload_n (q := 0) hC dL_law_1639 rfl rfl ?_
  refine g_iconst (v := vI 1) hC dL_law_1640 rfl ?_
  refine g_iadd hC dL_law_1641 ?_
  refine g_sld hC hX dL_law_1642 ?_
  refine g_callVI (As := [vI (sx (i + 1))]) hC mv_X11_played wml_RL_198 (k_X11_played _ V hm.c (sx (i + 1)) X) cf_X11 (at_0 hm.c) (by decide) hr rfl rfl ⟨Nat.le_of_ble_eq_true rfl, Nat.le_of_ble_eq_true rfl⟩ (Nat.le_of_ble_eq_true rfl) dL_law_1643 (fun r1 X2 => ?_)
  refine g_aload_n (q := 1) hC dL_law_1646 rfl rfl rfl ?_
  refine g_aload_n (q := 3) hC dL_law_1647 rfl rfl rfl ?_
  refine g_iload_n (q := 0) hC dL_law_1648 rfl rfl ?_
  refine g_iconst (v := vI 1) hC dL_law_1649 rfl ?_
  refine g_iadd hC dL_law_1650 ?_
  refine g_sld hC hX dL_law_1651 ?_
  refine g_callVI (As := [vI (sx (i + 1))]) hC mv_X12_played wml_RL_201 (k_X12_played _ V hm (sx (i + 1)) X2) cf_X12 (at_120 hm) (by decide) hr rfl rfl ⟨Nat.le_of_ble_eq_true rfl, Nat.le_of_ble_eq_true rfl⟩ (Nat.le_of_ble_eq_true rfl) dL_law_1652 (fun r3 X4 => ?_)
  refine g_icmp_eq (tgt := 1749) hC dL_law_1655 (by decide) ?_ g_none
  exact hJ X4
noncomputable def W_law_43 (n : Int) (sx : Int → Int) (go : Int → Mem → Option (Int × Mem)) (i : Int) (X : Mem) : Option (Int × Mem) :=
  ax n (i + 1) <|
  ax n (i + 2) <|
  ax n (i + 3) <|
  ax n (i + 4) <|
  ax n (i + 5) <|
  cl (f_X11_tally (sx (i + 1)) (sx (i + 2)) (sx (i + 3)) (sx (i + 4)) (sx (i + 5)) X) fun r1 X2 =>
  ax n (i + 1) <|
  ax n (i + 2) <|
  ax n (i + 3) <|
  ax n (i + 4) <|
  ax n (i + 5) <|
  cl (f_X12_tally (sx (i + 1)) (sx (i + 2)) (sx (i + 3)) (sx (i + 4)) (sx (i + 5)) X2) fun r3 X4 =>
  c2 r1 r3 (if r1 = r3 then go (i + 6) X4 else none)
set_option maxRecDepth 20000 in
theorem gW_law_43 {C : Cx} {V : Ev} {L : List Kd} {ca sl : Nat} {b : Nat} {n : Int} {sx : Int → Int} (hC : Ok C V cL_law RL 4 2048 84000) (hm : LKm L) (hX : Sc C V b n sx) (hr : ca ≤ C.2.2.2.1.cells ∧ sl ≤ C.2.2.2.1.slots) {go : Int → Mem → Option (Int × Mem)} (hgo : ∀ (i : Int) (X : Mem), G C V L ca sl 4 18 [(3, vI i), (2, vR V.1 120), (1, vR V.1 0), (0, .ref b)] [] X (go i X)) (i : Int) (X : Mem) : G C V L ca sl 4 1660 [(3, vI i), (2, vR V.1 120), (1, vR V.1 0), (0, .ref b)] [] X (W_law_43 n sx go i X) := by
  have hJ := gJ_law hC hm hX hr hgo i
  unfold W_law_43
  refine g_aload_n (q := 2) hC dL_law_1660 rfl rfl rfl ?_
  refine g_aload_n (q := 3) hC dL_law_1661 rfl rfl rfl ?_
  refine g_iload_n (q := 0) hC dL_law_1662 rfl rfl ?_
  refine g_iconst (v := vI 1) hC dL_law_1663 rfl ?_
  refine g_iadd hC dL_law_1664 ?_
  refine g_sld hC hX dL_law_1665 ?_
  refine g_aload_n (q := 3) hC dL_law_1666 rfl rfl rfl ?_
  refine g_iload_n (q := 0) hC dL_law_1667 rfl rfl ?_
  refine g_iconst (v := vI 2) hC dL_law_1668 rfl ?_
  refine g_iadd hC dL_law_1669 ?_
  refine g_sld hC hX dL_law_1670 ?_
  refine g_aload_n (q := 3) hC dL_law_1671 rfl rfl rfl ?_
  refine g_iload_n (q := 0) hC dL_law_1672 rfl rfl ?_
  refine g_iconst (v := vI 3) hC dL_law_1673 rfl ?_
  refine g_iadd hC dL_law_1674 ?_
  refine g_sld hC hX dL_law_1675 ?_
  refine g_aload_n (q := 3) hC dL_law_1676 rfl rfl rfl ?_
  refine g_iload_n (q := 0) hC dL_law_1677 rfl rfl ?_
  refine g_iconst (v := vI 4) hC dL_law_1678 rfl ?_
  refine g_iadd hC dL_law_1679 ?_
  refine g_sld hC hX dL_law_1680 ?_
  refine g_aload_n (q := 3) hC dL_law_1681 rfl rfl rfl ?_
  refine g_iload_n (q := 0) hC dL_law_1682 rfl rfl ?_
  refine g_iconst (v := vI 5) hC dL_law_1683 rfl ?_
  refine g_iadd hC dL_law_1684 ?_
  refine g_sld hC hX dL_law_1685 ?_
  refine g_callVI (As := [vI (sx (i + 1)), vI (sx (i + 2)), vI (sx (i + 3)), vI (sx (i + 4)), vI (sx (i + 5))]) hC mv_X11_tally wml_RL_202 (k_X11_tally _ V hm.c (sx (i + 1)) (sx (i + 2)) (sx (i + 3)) (sx (i + 4)) (sx (i + 5)) X) cf_X11 (at_0 hm.c) (by decide) hr rfl rfl ⟨Nat.le_of_ble_eq_true rfl, Nat.le_of_ble_eq_true rfl⟩ (Nat.le_of_ble_eq_true rfl) dL_law_1686 (fun r1 X2 => ?_)
  refine g_aload_n (q := 1) hC dL_law_1689 rfl rfl rfl ?_
  refine g_aload_n (q := 3) hC dL_law_1690 rfl rfl rfl ?_
  refine g_iload_n (q := 0) hC dL_law_1691 rfl rfl ?_
  refine g_iconst (v := vI 1) hC dL_law_1692 rfl ?_
  refine g_iadd hC dL_law_1693 ?_
  refine g_sld hC hX dL_law_1694 ?_
  refine g_aload_n (q := 3) hC dL_law_1695 rfl rfl rfl ?_
  refine g_iload_n (q := 0) hC dL_law_1696 rfl rfl ?_
  refine g_iconst (v := vI 2) hC dL_law_1697 rfl ?_
  refine g_iadd hC dL_law_1698 ?_
  refine g_sld hC hX dL_law_1699 ?_
  refine g_aload_n (q := 3) hC dL_law_1700 rfl rfl rfl ?_
  refine g_iload_n (q := 0) hC dL_law_1701 rfl rfl ?_
  refine g_iconst (v := vI 3) hC dL_law_1702 rfl ?_
  refine g_iadd hC dL_law_1703 ?_
  refine g_sld hC hX dL_law_1704 ?_
  refine g_aload_n (q := 3) hC dL_law_1705 rfl rfl rfl ?_
  refine g_iload_n (q := 0) hC dL_law_1706 rfl rfl ?_
  refine g_iconst (v := vI 4) hC dL_law_1707 rfl ?_
  refine g_iadd hC dL_law_1708 ?_
  refine g_sld hC hX dL_law_1709 ?_
  refine g_aload_n (q := 3) hC dL_law_1710 rfl rfl rfl ?_
  refine g_iload_n (q := 0) hC dL_law_1711 rfl rfl ?_
  refine g_iconst (v := vI 5) hC dL_law_1712 rfl ?_
  refine g_iadd hC dL_law_1713 ?_
  refine g_sld hC hX dL_law_1714 ?_
  refine g_callVI (As := [vI (sx (i + 1)), vI (sx (i + 2)), vI (sx (i + 3)), vI (sx (i + 4)), vI (sx (i + 5))]) hC mv_X12_tally wml_RL_205 (k_X12_tally _ V hm (sx (i + 1)) (sx (i + 2)) (sx (i + 3)) (sx (i + 4)) (sx (i + 5)) X2) cf_X12 (at_120 hm) (by decide) hr rfl rfl ⟨Nat.le_of_ble_eq_true rfl, Nat.le_of_ble_eq_true rfl⟩ (Nat.le_of_ble_eq_true rfl) dL_law_1715 (fun r3 X4 => ?_)
  refine g_icmp_eq (tgt := 1749) hC dL_law_1718 (by decide) ?_ g_none
  exact hJ X4
noncomputable def W_law_44 (n : Int) (sx : Int → Int) (go : Int → Mem → Option (Int × Mem)) (i : Int) (X : Mem) : Option (Int × Mem) :=
  cl (f_X11_mark X) fun r1 X2 =>
  cl (f_X12_mark X2) fun r3 X4 =>
  c2 r1 r3 (if r1 = r3 then go (i + 6) X4 else none)
set_option maxRecDepth 20000 in
theorem gW_law_44 {C : Cx} {V : Ev} {L : List Kd} {ca sl : Nat} {b : Nat} {n : Int} {sx : Int → Int} (hC : Ok C V cL_law RL 4 2048 84000) (hm : LKm L) (hX : Sc C V b n sx) (hr : ca ≤ C.2.2.2.1.cells ∧ sl ≤ C.2.2.2.1.slots) {go : Int → Mem → Option (Int × Mem)} (hgo : ∀ (i : Int) (X : Mem), G C V L ca sl 4 18 [(3, vI i), (2, vR V.1 120), (1, vR V.1 0), (0, .ref b)] [] X (go i X)) (i : Int) (X : Mem) : G C V L ca sl 4 1723 [(3, vI i), (2, vR V.1 120), (1, vR V.1 0), (0, .ref b)] [] X (W_law_44 n sx go i X) := by
  have hJ := gJ_law hC hm hX hr hgo i
  unfold W_law_44
  refine g_aload_n (q := 2) hC dL_law_1723 rfl rfl rfl ?_
  refine g_callVI (As := []) hC mv_X11_mark wml_RL_206 (k_X11_mark _ V hm.c X) cf_X11 (at_0 hm.c) (by decide) hr rfl rfl ⟨Nat.le_of_ble_eq_true rfl, Nat.le_of_ble_eq_true rfl⟩ (Nat.le_of_ble_eq_true rfl) dL_law_1724 (fun r1 X2 => ?_)
  refine g_aload_n (q := 1) hC dL_law_1727 rfl rfl rfl ?_
  refine g_callVI (As := []) hC mv_X12_mark wml_RL_209 (k_X12_mark _ V hm X2) cf_X12 (at_120 hm) (by decide) hr rfl rfl ⟨Nat.le_of_ble_eq_true rfl, Nat.le_of_ble_eq_true rfl⟩ (Nat.le_of_ble_eq_true rfl) dL_law_1728 (fun r3 X4 => ?_)
  refine g_icmp_eq (tgt := 1749) hC dL_law_1731 (by decide) ?_ g_none
  exact hJ X4
noncomputable def W_law_45 (n : Int) (sx : Int → Int) (go : Int → Mem → Option (Int × Mem)) (i : Int) (X : Mem) : Option (Int × Mem) :=
  cl (f_X11_back X) fun r1 X2 =>
  cl (f_X12_back X2) fun r3 X4 =>
  c2 r1 r3 (if r1 = r3 then go (i + 6) X4 else none)
set_option maxRecDepth 20000 in
theorem gW_law_45 {C : Cx} {V : Ev} {L : List Kd} {ca sl : Nat} {b : Nat} {n : Int} {sx : Int → Int} (hC : Ok C V cL_law RL 4 2048 84000) (hm : LKm L) (hX : Sc C V b n sx) (hr : ca ≤ C.2.2.2.1.cells ∧ sl ≤ C.2.2.2.1.slots) {go : Int → Mem → Option (Int × Mem)} (hgo : ∀ (i : Int) (X : Mem), G C V L ca sl 4 18 [(3, vI i), (2, vR V.1 120), (1, vR V.1 0), (0, .ref b)] [] X (go i X)) (i : Int) (X : Mem) : G C V L ca sl 4 1736 [(3, vI i), (2, vR V.1 120), (1, vR V.1 0), (0, .ref b)] [] X (W_law_45 n sx go i X) := by
  have hJ := gJ_law hC hm hX hr hgo i
  unfold W_law_45
  refine g_aload_n (q := 2) hC dL_law_1736 rfl rfl rfl ?_
  refine g_callVI (As := []) hC mv_X11_back wml_RL_210 (k_X11_back _ V hm.c X) cf_X11 (at_0 hm.c) (by decide) hr rfl rfl ⟨Nat.le_of_ble_eq_true rfl, Nat.le_of_ble_eq_true rfl⟩ (Nat.le_of_ble_eq_true rfl) dL_law_1737 (fun r1 X2 => ?_)
  refine g_aload_n (q := 1) hC dL_law_1740 rfl rfl rfl ?_
  refine g_callVI (As := []) hC mv_X12_back wml_RL_213 (k_X12_back _ V hm X2) cf_X12 (at_120 hm) (by decide) hr rfl rfl ⟨Nat.le_of_ble_eq_true rfl, Nat.le_of_ble_eq_true rfl⟩ (Nat.le_of_ble_eq_true rfl) dL_law_1741 (fun r3 X4 => ?_)
  refine g_icmp_eq (tgt := 1749) hC dL_law_1744 (by decide) ?_ g_none
  exact hJ X4
noncomputable def S_law (n : Int) (sx : Int → Int) (go : Int → Mem → Option (Int × Mem)) (i : Int) (X : Mem) (k : Int) : Option (Int × Mem) :=
  if k = 0 then W_law_0 n sx go i X else
  if k = 1 then W_law_1 n sx go i X else
  if k = 2 then W_law_2 n sx go i X else
  if k = 3 then W_law_3 n sx go i X else
  if k = 4 then W_law_4 n sx go i X else
  if k = 5 then W_law_5 n sx go i X else
  if k = 6 then W_law_6 n sx go i X else
  if k = 7 then W_law_7 n sx go i X else
  if k = 8 then W_law_8 n sx go i X else
  if k = 9 then W_law_9 n sx go i X else
  if k = 10 then W_law_10 n sx go i X else
  if k = 11 then W_law_11 n sx go i X else
  if k = 12 then W_law_12 n sx go i X else
  if k = 13 then W_law_13 n sx go i X else
  if k = 14 then W_law_14 n sx go i X else
  if k = 15 then W_law_15 n sx go i X else
  if k = 16 then W_law_16 n sx go i X else
  if k = 17 then W_law_17 n sx go i X else
  if k = 18 then W_law_18 n sx go i X else
  if k = 19 then W_law_19 n sx go i X else
  if k = 20 then W_law_20 n sx go i X else
  if k = 21 then W_law_21 n sx go i X else
  if k = 22 then W_law_22 n sx go i X else
  if k = 23 then W_law_23 n sx go i X else
  if k = 24 then W_law_24 n sx go i X else
  if k = 25 then W_law_25 n sx go i X else
  if k = 26 then W_law_26 n sx go i X else
  if k = 27 then W_law_27 n sx go i X else
  if k = 28 then W_law_28 n sx go i X else
  if k = 29 then W_law_29 n sx go i X else
  if k = 30 then W_law_30 n sx go i X else
  if k = 31 then W_law_31 n sx go i X else
  if k = 32 then W_law_32 n sx go i X else
  if k = 33 then W_law_33 n sx go i X else
  if k = 34 then W_law_34 n sx go i X else
  if k = 35 then W_law_35 n sx go i X else
  if k = 36 then W_law_36 n sx go i X else
  if k = 37 then W_law_37 n sx go i X else
  if k = 38 then W_law_38 n sx go i X else
  if k = 39 then W_law_39 n sx go i X else
  if k = 40 then W_law_40 n sx go i X else
  if k = 41 then W_law_41 n sx go i X else
  if k = 42 then W_law_42 n sx go i X else
  if k = 43 then W_law_43 n sx go i X else
  if k = 44 then W_law_44 n sx go i X else
  if k = 45 then W_law_45 n sx go i X else
  c1 k (go (i + 6) X)
theorem gS_law {C : Cx} {V : Ev} {L : List Kd} {ca sl : Nat} {b : Nat} {n : Int} {sx : Int → Int} (hC : Ok C V cL_law RL 4 2048 84000) (hm : LKm L) (hX : Sc C V b n sx) (hr : ca ≤ C.2.2.2.1.cells ∧ sl ≤ C.2.2.2.1.slots) {go : Int → Mem → Option (Int × Mem)} (hgo : ∀ (i : Int) (X : Mem), G C V L ca sl 4 18 [(3, vI i), (2, vR V.1 120), (1, vR V.1 0), (0, .ref b)] [] X (go i X)) (i : Int) (X : Mem) (k : Int) (hk : 0 ≤ k) : G C V L ca sl 4 33 [(3, vI i), (2, vR V.1 120), (1, vR V.1 0), (0, .ref b)] [vI k] X (S_law n sx go i X k) := by
  unfold S_law
  refine dite (k = 0) (fun e => ?_) (fun e0 => ?_)
  · rw [if_pos e]
    exact g_tabIn (j := 0) (tgt := 232) hC dL_law_33 (by omega) rfl (by decide) (by decide) (gW_law_0 hC hm hX hr hgo i X)
  rw [if_neg e0]
  refine dite (k = 1) (fun e => ?_) (fun e1 => ?_)
  · rw [if_pos e]
    exact g_tabIn (j := 1) (tgt := 245) hC dL_law_33 (by omega) rfl (by decide) (by decide) (gW_law_1 hC hm hX hr hgo i X)
  rw [if_neg e1]
  refine dite (k = 2) (fun e => ?_) (fun e2 => ?_)
  · rw [if_pos e]
    exact g_tabIn (j := 2) (tgt := 259) hC dL_law_33 (by omega) rfl (by decide) (by decide) (gW_law_2 hC hm hX hr hgo i X)
  rw [if_neg e2]
  refine dite (k = 3) (fun e => ?_) (fun e3 => ?_)
  · rw [if_pos e]
    exact g_tabIn (j := 3) (tgt := 273) hC dL_law_33 (by omega) rfl (by decide) (by decide) (gW_law_3 hC hm hX hr hgo i X)
  rw [if_neg e3]
  refine dite (k = 4) (fun e => ?_) (fun e4 => ?_)
  · rw [if_pos e]
    exact g_tabIn (j := 4) (tgt := 316) hC dL_law_33 (by omega) rfl (by decide) (by decide) (gW_law_4 hC hm hX hr hgo i X)
  rw [if_neg e4]
  refine dite (k = 5) (fun e => ?_) (fun e5 => ?_)
  · rw [if_pos e]
    exact g_tabIn (j := 5) (tgt := 389) hC dL_law_33 (by omega) rfl (by decide) (by decide) (gW_law_5 hC hm hX hr hgo i X)
  rw [if_neg e5]
  refine dite (k = 6) (fun e => ?_) (fun e6 => ?_)
  · rw [if_pos e]
    exact g_tabIn (j := 6) (tgt := 423) hC dL_law_33 (by omega) rfl (by decide) (by decide) (gW_law_6 hC hm hX hr hgo i X)
  rw [if_neg e6]
  refine dite (k = 7) (fun e => ?_) (fun e7 => ?_)
  · rw [if_pos e]
    exact g_tabIn (j := 7) (tgt := 486) hC dL_law_33 (by omega) rfl (by decide) (by decide) (gW_law_7 hC hm hX hr hgo i X)
  rw [if_neg e7]
  refine dite (k = 8) (fun e => ?_) (fun e8 => ?_)
  · rw [if_pos e]
    exact g_tabIn (j := 8) (tgt := 549) hC dL_law_33 (by omega) rfl (by decide) (by decide) (gW_law_8 hC hm hX hr hgo i X)
  rw [if_neg e8]
  refine dite (k = 9) (fun e => ?_) (fun e9 => ?_)
  · rw [if_pos e]
    exact g_tabIn (j := 9) (tgt := 572) hC dL_law_33 (by omega) rfl (by decide) (by decide) (gW_law_9 hC hm hX hr hgo i X)
  rw [if_neg e9]
  refine dite (k = 10) (fun e => ?_) (fun e10 => ?_)
  · rw [if_pos e]
    exact g_tabIn (j := 10) (tgt := 595) hC dL_law_33 (by omega) rfl (by decide) (by decide) (gW_law_10 hC hm hX hr hgo i X)
  rw [if_neg e10]
  refine dite (k = 11) (fun e => ?_) (fun e11 => ?_)
  · rw [if_pos e]
    exact g_tabIn (j := 11) (tgt := 618) hC dL_law_33 (by omega) rfl (by decide) (by decide) (gW_law_11 hC hm hX hr hgo i X)
  rw [if_neg e11]
  refine dite (k = 12) (fun e => ?_) (fun e12 => ?_)
  · rw [if_pos e]
    exact g_tabIn (j := 12) (tgt := 641) hC dL_law_33 (by omega) rfl (by decide) (by decide) (gW_law_12 hC hm hX hr hgo i X)
  rw [if_neg e12]
  refine dite (k = 13) (fun e => ?_) (fun e13 => ?_)
  · rw [if_pos e]
    exact g_tabIn (j := 13) (tgt := 674) hC dL_law_33 (by omega) rfl (by decide) (by decide) (gW_law_13 hC hm hX hr hgo i X)
  rw [if_neg e13]
  refine dite (k = 14) (fun e => ?_) (fun e14 => ?_)
  · rw [if_pos e]
    exact g_tabIn (j := 14) (tgt := 697) hC dL_law_33 (by omega) rfl (by decide) (by decide) (gW_law_14 hC hm hX hr hgo i X)
  rw [if_neg e14]
  refine dite (k = 15) (fun e => ?_) (fun e15 => ?_)
  · rw [if_pos e]
    exact g_tabIn (j := 15) (tgt := 720) hC dL_law_33 (by omega) rfl (by decide) (by decide) (gW_law_15 hC hm hX hr hgo i X)
  rw [if_neg e15]
  refine dite (k = 16) (fun e => ?_) (fun e16 => ?_)
  · rw [if_pos e]
    exact g_tabIn (j := 16) (tgt := 753) hC dL_law_33 (by omega) rfl (by decide) (by decide) (gW_law_16 hC hm hX hr hgo i X)
  rw [if_neg e16]
  refine dite (k = 17) (fun e => ?_) (fun e17 => ?_)
  · rw [if_pos e]
    exact g_tabIn (j := 17) (tgt := 776) hC dL_law_33 (by omega) rfl (by decide) (by decide) (gW_law_17 hC hm hX hr hgo i X)
  rw [if_neg e17]
  refine dite (k = 18) (fun e => ?_) (fun e18 => ?_)
  · rw [if_pos e]
    exact g_tabIn (j := 18) (tgt := 799) hC dL_law_33 (by omega) rfl (by decide) (by decide) (gW_law_18 hC hm hX hr hgo i X)
  rw [if_neg e18]
  refine dite (k = 19) (fun e => ?_) (fun e19 => ?_)
  · rw [if_pos e]
    exact g_tabIn (j := 19) (tgt := 822) hC dL_law_33 (by omega) rfl (by decide) (by decide) (gW_law_19 hC hm hX hr hgo i X)
  rw [if_neg e19]
  refine dite (k = 20) (fun e => ?_) (fun e20 => ?_)
  · rw [if_pos e]
    exact g_tabIn (j := 20) (tgt := 845) hC dL_law_33 (by omega) rfl (by decide) (by decide) (gW_law_20 hC hm hX hr hgo i X)
  rw [if_neg e20]
  refine dite (k = 21) (fun e => ?_) (fun e21 => ?_)
  · rw [if_pos e]
    exact g_tabIn (j := 21) (tgt := 868) hC dL_law_33 (by omega) rfl (by decide) (by decide) (gW_law_21 hC hm hX hr hgo i X)
  rw [if_neg e21]
  refine dite (k = 22) (fun e => ?_) (fun e22 => ?_)
  · rw [if_pos e]
    exact g_tabIn (j := 22) (tgt := 901) hC dL_law_33 (by omega) rfl (by decide) (by decide) (gW_law_22 hC hm hX hr hgo i X)
  rw [if_neg e22]
  refine dite (k = 23) (fun e => ?_) (fun e23 => ?_)
  · rw [if_pos e]
    exact g_tabIn (j := 23) (tgt := 950) hC dL_law_33 (by omega) rfl (by decide) (by decide) (gW_law_23 hC hm hX hr hgo i X)
  rw [if_neg e23]
  refine dite (k = 24) (fun e => ?_) (fun e24 => ?_)
  · rw [if_pos e]
    exact g_tabIn (j := 24) (tgt := 973) hC dL_law_33 (by omega) rfl (by decide) (by decide) (gW_law_24 hC hm hX hr hgo i X)
  rw [if_neg e24]
  refine dite (k = 25) (fun e => ?_) (fun e25 => ?_)
  · rw [if_pos e]
    exact g_tabIn (j := 25) (tgt := 986) hC dL_law_33 (by omega) rfl (by decide) (by decide) (gW_law_25 hC hm hX hr hgo i X)
  rw [if_neg e25]
  refine dite (k = 26) (fun e => ?_) (fun e26 => ?_)
  · rw [if_pos e]
    exact g_tabIn (j := 26) (tgt := 1019) hC dL_law_33 (by omega) rfl (by decide) (by decide) (gW_law_26 hC hm hX hr hgo i X)
  rw [if_neg e26]
  refine dite (k = 27) (fun e => ?_) (fun e27 => ?_)
  · rw [if_pos e]
    exact g_tabIn (j := 27) (tgt := 1062) hC dL_law_33 (by omega) rfl (by decide) (by decide) (gW_law_27 hC hm hX hr hgo i X)
  rw [if_neg e27]
  refine dite (k = 28) (fun e => ?_) (fun e28 => ?_)
  · rw [if_pos e]
    exact g_tabIn (j := 28) (tgt := 1095) hC dL_law_33 (by omega) rfl (by decide) (by decide) (gW_law_28 hC hm hX hr hgo i X)
  rw [if_neg e28]
  refine dite (k = 29) (fun e => ?_) (fun e29 => ?_)
  · rw [if_pos e]
    exact g_tabIn (j := 29) (tgt := 1138) hC dL_law_33 (by omega) rfl (by decide) (by decide) (gW_law_29 hC hm hX hr hgo i X)
  rw [if_neg e29]
  refine dite (k = 30) (fun e => ?_) (fun e30 => ?_)
  · rw [if_pos e]
    exact g_tabIn (j := 30) (tgt := 1171) hC dL_law_33 (by omega) rfl (by decide) (by decide) (gW_law_30 hC hm hX hr hgo i X)
  rw [if_neg e30]
  refine dite (k = 31) (fun e => ?_) (fun e31 => ?_)
  · rw [if_pos e]
    exact g_tabIn (j := 31) (tgt := 1204) hC dL_law_33 (by omega) rfl (by decide) (by decide) (gW_law_31 hC hm hX hr hgo i X)
  rw [if_neg e31]
  refine dite (k = 32) (fun e => ?_) (fun e32 => ?_)
  · rw [if_pos e]
    exact g_tabIn (j := 32) (tgt := 1217) hC dL_law_33 (by omega) rfl (by decide) (by decide) (gW_law_32 hC hm hX hr hgo i X)
  rw [if_neg e32]
  refine dite (k = 33) (fun e => ?_) (fun e33 => ?_)
  · rw [if_pos e]
    exact g_tabIn (j := 33) (tgt := 1240) hC dL_law_33 (by omega) rfl (by decide) (by decide) (gW_law_33 hC hm hX hr hgo i X)
  rw [if_neg e33]
  refine dite (k = 34) (fun e => ?_) (fun e34 => ?_)
  · rw [if_pos e]
    exact g_tabIn (j := 34) (tgt := 1283) hC dL_law_33 (by omega) rfl (by decide) (by decide) (gW_law_34 hC hm hX hr hgo i X)
  rw [if_neg e34]
  refine dite (k = 35) (fun e => ?_) (fun e35 => ?_)
  · rw [if_pos e]
    exact g_tabIn (j := 35) (tgt := 1326) hC dL_law_33 (by omega) rfl (by decide) (by decide) (gW_law_35 hC hm hX hr hgo i X)
  rw [if_neg e35]
  refine dite (k = 36) (fun e => ?_) (fun e36 => ?_)
  · rw [if_pos e]
    exact g_tabIn (j := 36) (tgt := 1379) hC dL_law_33 (by omega) rfl (by decide) (by decide) (gW_law_36 hC hm hX hr hgo i X)
  rw [if_neg e36]
  refine dite (k = 37) (fun e => ?_) (fun e37 => ?_)
  · rw [if_pos e]
    exact g_tabIn (j := 37) (tgt := 1422) hC dL_law_33 (by omega) rfl (by decide) (by decide) (gW_law_37 hC hm hX hr hgo i X)
  rw [if_neg e37]
  refine dite (k = 38) (fun e => ?_) (fun e38 => ?_)
  · rw [if_pos e]
    exact g_tabIn (j := 38) (tgt := 1455) hC dL_law_33 (by omega) rfl (by decide) (by decide) (gW_law_38 hC hm hX hr hgo i X)
  rw [if_neg e38]
  refine dite (k = 39) (fun e => ?_) (fun e39 => ?_)
  · rw [if_pos e]
    exact g_tabIn (j := 39) (tgt := 1488) hC dL_law_33 (by omega) rfl (by decide) (by decide) (gW_law_39 hC hm hX hr hgo i X)
  rw [if_neg e39]
  refine dite (k = 40) (fun e => ?_) (fun e40 => ?_)
  · rw [if_pos e]
    exact g_tabIn (j := 40) (tgt := 1551) hC dL_law_33 (by omega) rfl (by decide) (by decide) (gW_law_40 hC hm hX hr hgo i X)
  rw [if_neg e40]
  refine dite (k = 41) (fun e => ?_) (fun e41 => ?_)
  · rw [if_pos e]
    exact g_tabIn (j := 41) (tgt := 1594) hC dL_law_33 (by omega) rfl (by decide) (by decide) (gW_law_41 hC hm hX hr hgo i X)
  rw [if_neg e41]
  refine dite (k = 42) (fun e => ?_) (fun e42 => ?_)
  · rw [if_pos e]
    exact g_tabIn (j := 42) (tgt := 1637) hC dL_law_33 (by omega) rfl (by decide) (by decide) (gW_law_42 hC hm hX hr hgo i X)
  rw [if_neg e42]
  refine dite (k = 43) (fun e => ?_) (fun e43 => ?_)
  · rw [if_pos e]
    exact g_tabIn (j := 43) (tgt := 1660) hC dL_law_33 (by omega) rfl (by decide) (by decide) (gW_law_43 hC hm hX hr hgo i X)
  rw [if_neg e43]
  refine dite (k = 44) (fun e => ?_) (fun e44 => ?_)
  · rw [if_pos e]
    exact g_tabIn (j := 44) (tgt := 1723) hC dL_law_33 (by omega) rfl (by decide) (by decide) (gW_law_44 hC hm hX hr hgo i X)
  rw [if_neg e44]
  refine dite (k = 45) (fun e => ?_) (fun e45 => ?_)
  · rw [if_pos e]
    exact g_tabIn (j := 45) (tgt := 1736) hC dL_law_33 (by omega) rfl (by decide) (by decide) (gW_law_45 hC hm hX hr hgo i X)
  rw [if_neg e45]
  exact g_c1 fun hk2 => g_tabOut (tgt := 1749) hC dL_law_33 hk2 (Or.inr (by omega)) (by decide) (gJ_law hC hm hX hr hgo i X)
noncomputable def L_law : Nat → Int → (Int → Int) → Int → Mem → Option (Int × Mem)
  | 0, _, _, _, _ => none
  | g + 1, n, sx, i, X => c2 i (n - 6) (if n - 6 < i then some (1, X) else ax n i <| S_law n sx (L_law g n sx) i X (ia (sx i) 63))
theorem ia63 (a : Int) : 0 ≤ ia a 63 := by
  have h : (Int32.ofInt a &&& Int32.ofInt 63).toBitVec.msb = false := by
    rw [Int32.toBitVec_and, BitVec.msb_and, show (Int32.ofInt 63).toBitVec.msb = false from by decide +kernel, Bool.and_false]
  show 0 ≤ (Int32.ofInt a &&& Int32.ofInt 63).toBitVec.toInt
  rw [BitVec.toInt_eq_msb_cond, h]
  simp
theorem gL_law {C : Cx} {V : Ev} {L : List Kd} {ca sl : Nat} {b : Nat} {n : Int} {sx : Int → Int} (hC : Ok C V cL_law RL 4 2048 84000) (hm : LKm L) (hX : Sc C V b n sx) (hr : ca ≤ C.2.2.2.1.cells ∧ sl ≤ C.2.2.2.1.slots) (hE : ∀ (i : Int) (X : Mem), G C V L ca sl 4 1755 [(3, vI i), (2, vR V.1 120), (1, vR V.1 0), (0, .ref b)] [] X (some (1, X))) : ∀ (g : Nat) (i : Int) (X : Mem), G C V L ca sl 4 18 [(3, vI i), (2, vR V.1 120), (1, vR V.1 0), (0, .ref b)] [] X (L_law g n sx i X)
  | 0, _, _ => g_none
  | g + 1, i, X => by
    unfold L_law
    refine g_iload_n (q := 0) hC dL_law_18 rfl rfl ?_
    refine g_aload_n (q := 3) hC dL_law_19 rfl rfl rfl ?_
    refine g_scl hC hX dL_law_20 ?_
    refine g_bipush (v := vI 6) hC dL_law_21 rfl ?_
    refine g_isub hC dL_law_23 ?_
    refine g_icmp_gt (tgt := 1755) hC dL_law_24 (by decide) (hE i X) ?_
    refine g_aload_n (q := 3) hC dL_law_27 rfl rfl rfl ?_
    refine g_iload_n (q := 0) hC dL_law_28 rfl rfl ?_
    refine g_sld hC hX dL_law_29 ?_
    refine g_bipush (v := vI 63) hC dL_law_30 rfl ?_
    refine g_iand hC dL_law_32 ?_
    exact gS_law hC hm hX hr (gL_law hC hm hX hr hE g) i X _ (ia63 _)
