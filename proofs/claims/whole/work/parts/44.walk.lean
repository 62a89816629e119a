/-- what is left to show of class and reference, in pure terms -/
def Z0 : Mem := fun _ _ => 0
def xE (X1 : Mem) : Mem := ma (xM0 X1) 121 (plF (xM0 X1 121) 0)
def PURE : Prop := ∃ X1 : Mem, f_X9_think 3 18 (xP0 Z0) = some (0, X1) ∧ (∀ i k : Int, 120 ≤ i → X1 i k = 0) ∧
  ∀ (n : Int) (sx : Int → Int), 0 ≤ n → n ≤ 3072 → (∀ j : Int, 0 ≤ j → -2147483648 ≤ sx j ∧ sx j ≤ 2147483647) → ∃ Xf : Mem, L_law KF n sx 0 (xE X1) = some (1, Xf)
set_option maxRecDepth 20000 in
theorem start_of (hPU : PURE) {p : Program} {e : Env} {s : State} {m : MethodId} {below : List Frame} {meth : Method} {c : Code} (l : Launch) {b L : Nat} {xs : Nat → Int32} (hL : L ≤ 3072) (C0 : lw_At p s m meth c b L xs) : W p l e room_1 s m #[Value.ref b] below meth c s.heap [] 0 0 (lw_Z below #[Value.ref b] s) (entryFrame m ([Value.ref b] : List Value).toArray 4) := by
  obtain ⟨hx, hb, hr, hml, hown, hts, hXs, hbl, hlocks, hgv⟩ := C0
  obtain ⟨D, cs, hK⟩ := K_of hts
  obtain ⟨adK, adV, tad, hB⟩ := B_of hts hgv D cs
  obtain ⟨X1, ht, hz1, hlaw⟩ := hPU
  obtain ⟨Xf, hf⟩ := hlaw (L : Int) (fun j => (xs j.toNat).toInt) (Int.natCast_nonneg _) (by omega) (fun j _ => ⟨Int32.le_toInt _, Int32.toInt_le _⟩)
  generalize hV : ((s.heap.size, D, cs, adK, adV, tad) : Ev) = V at hB
  have hV1 : V.1 = s.heap.size := by rw [← hV]
  have hK : va_K V.2.1 vwCl (TYS V.2.2.1) s := by rw [← hV]; exact hK
  generalize hCC : ((p, l, e, room_1, s, m, #[Value.ref b], below, meth, c, lw_Z below #[Value.ref b] s, (1, Xf)) : Cx) = C
  have hC : Ok C V cL_law RL 4 2048 84000 := by
    subst hCC
    exact ⟨hx, hb, hml, hown, fun w h => hts w (List.mem_filter.mp h).1, ⟨hK, hB⟩, Nat.le_of_ble_eq_true rfl, Nat.le_of_ble_eq_true rfl⟩
  have hSc : Sc C V b (L : Int) (fun j => (xs j.toNat).toInt) := by
    subst hCC
    exact ⟨xs, hXs, hbl, by rw [hV1]; exact hbl, ⟨Int.natCast_nonneg _, by omega⟩, fun j => rfl⟩
  have hsz : C.2.2.2.2.1.heap.size = V.1 := by rw [hV1, ← hCC]
  have hcc : C.2.2.2.1.cells = 600000 := by rw [← hCC]; rfl
  have hcs : C.2.2.2.1.slots = 7302250 := by rw [← hCC]; rfl
  have hb2 : V.1 ≤ C.2.2.2.2.1.heap.size := by omega
  have hE : ∀ (ca sl : Nat), ca ≤ 600000 → sl ≤ 7302250 → ∀ (i : Int) (X : Mem), G C V (LAYc ++ LAYm) ca sl 4 1755 [(3, vI i), (2, vR V.1 120), (1, vR V.1 0), (0, .ref b)] [] X (some (1, X)) := by
    intro ca sl h1 h2 i X
    refine g_iconst (v := vI 1) hC dL_law_1755 rfl ?_
    subst hCC
    intro hk H locs ls hP hS hl
    refine W.widen (k := 600000) (n := 7302250) h1 h2 ?_
    refine va_forget (fun q hq => ?_) (lw_ret hx hb hr hlocks dL_law_1756)
    have := hS.2.2 q hq
    show s.heap.size ≤ q.base
    rw [← hV1]
    exact this
  have hG : G C V [] 0 0 4 0 [(0, .ref b)] [] Z0 (some C.2.2.2.2.2.2.2.2.2.2.2) := by
    refine g_newo (i := 0) (sh0 := [(-4), (-4), (-4), (-4), (-4), (-4), (-4), (-4), (-4), (-4), (-4), (-4), (-4), (-4), (-1), (-1), (-1), (-2), (-2)]) (L' := [(11, [(-4), (-4), (-4), (-4), (-4), (-4), (-4), (-4), (-4), (-4), (-4), (-4), (-4), (-4), (-1), (-1), (-1), (-2), (-2)])]) hC cf_X11 wcl_RL_7 wnew_RX11 wini_RX11 (by decide) (by decide) (by decide +kernel) (fun k => rfl) rfl rfl (szc (m := 0) hsz (by decide +kernel)) hb2 (by rw [hcc]; exact Nat.le_of_ble_eq_true rfl) (by rw [hcs]; exact Nat.le_of_ble_eq_true rfl) dL_law_0 ?_
    refine g_dup hC dL_law_3 rfl ?_
    refine g_init (n := 0) (As := []) (L' := LAYc) (mc := 119) (ms := 4453) (fr1 := 4) (lo1 := 83) hC wi_yX11_init wini_RX11 wc_yX11_init rfl (by decide +kernel) (Or.inl wml_RL_9) (kc_X11 _ V Z0 X1 (fun _ _ _ => rfl) ht) (szc (m := 0) hsz (by decide +kernel)) (by decide) ⟨by rw [hcc]; exact Nat.le_of_ble_eq_true rfl, by rw [hcs]; exact Nat.le_of_ble_eq_true rfl⟩ rfl rfl ⟨Nat.le_of_ble_eq_true rfl, Nat.le_of_ble_eq_true rfl⟩ (Nat.le_of_ble_eq_true rfl) dL_law_4 ?_
    refine g_astore_n hC dL_law_7 rfl (by decide) rfl rfl ?_
    refine g_newo (i := 120) (sh0 := [(-4), (-4), (-1), (-2), (-2), (-4), (-4), (-4), (-4), (-4), (-1), (-1), (-1), (-1), (-1), (-1), (-1), (-1), (-1), (-1), (-1), (-4), (-1), (-4), (-1), (-1), (-4), (-4), (-4), (-4), (-4), (-1), (-1), (-1), (-1), (-4), (-1), (-4), (-4), (-1), (-1), (-1), (-1), (-1), (-1), (-1), (-1), (-1), (-1), (-1), (-4), (-4), (-1), (-1)]) (L' := LAYc ++ [(12, [(-4), (-4), (-1), (-2), (-2), (-4), (-4), (-4), (-4), (-4), (-1), (-1), (-1), (-1), (-1), (-1), (-1), (-1), (-1), (-1), (-1), (-4), (-1), (-4), (-1), (-1), (-4), (-4), (-4), (-4), (-4), (-1), (-1), (-1), (-1), (-4), (-1), (-4), (-4), (-1), (-1), (-1), (-1), (-1), (-1), (-1), (-1), (-1), (-1), (-1), (-4), (-4), (-1), (-1)])]) hC cf_X12 wcl_RL_10 wnew_RX12 wini_RX12 (by decide) (by decide) (by decide +kernel) (fun k => hz1 _ _ (by decide)) (by decide +kernel) rfl (szc (m := 0) hsz (by decide +kernel)) hb2 (by rw [hcc]; exact Nat.le_of_ble_eq_true rfl) (by rw [hcs]; exact Nat.le_of_ble_eq_true rfl) dL_law_8 ?_
    refine g_dup hC dL_law_11 rfl ?_
    refine g_init (n := 0) (As := []) (L' := LAYc ++ LAYm) (mc := 19) (ms := 7207) (fr1 := 1) (lo1 := 22) hC wi_yX12_init wini_RX12 wc_yX12_init rfl (by decide +kernel) (Or.inl wml_RL_12) (kc_X12 _ V X1 hz1) (szc (m := 0) hsz (by decide +kernel)) (by decide) ⟨by rw [hcc]; exact Nat.le_of_ble_eq_true rfl, by rw [hcs]; exact Nat.le_of_ble_eq_true rfl⟩ rfl rfl ⟨Nat.le_of_ble_eq_true rfl, Nat.le_of_ble_eq_true rfl⟩ (Nat.le_of_ble_eq_true rfl) dL_law_12 ?_
    refine g_astore_n hC dL_law_15 rfl (by decide) rfl rfl ?_
    refine g_iconst (v := vI 0) hC dL_law_16 rfl ?_
    refine g_istore_n hC dL_law_17 rfl (by decide) rfl ?_
    have h9 := gL_law hC lkm_m hSc ⟨by rw [hcc]; exact Nat.le_of_ble_eq_true rfl, by rw [hcs]; exact Nat.le_of_ble_eq_true rfl⟩ (hE (0 + 1 + 119 + 1 + 19) (0 + 19 + 4453 + 54 + 7207) (Nat.le_of_ble_eq_true rfl) (Nat.le_of_ble_eq_true rfl)) KF 0 (xE X1)
    rw [hf, show ((1 : Int), Xf) = C.2.2.2.2.2.2.2.2.2.2.2 from by rw [← hCC]] at h9
    exact h9
  subst hCC
  rw [lg_entry_eq]
  exact hG rfl s.heap [] _ (fun k q h => by simp [WL] at h) va_S.rf (lv_entry _ (Nat.le_of_ble_eq_true rfl))
