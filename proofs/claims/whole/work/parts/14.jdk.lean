section JD
set_option maxRecDepth 20000 in
theorem k_coder (l : Launch) (V : Ev) {L : List Kd} (i : Nat) (hi : i < nSt) (X : Mem) : Kt l V L yJ0_coder_7d493 (.code yJ0_coder_7d493 cJ0_coder_7d493 1 (some .byte)) 0 0 [vS V i] rI X (some (0, X)) := by
  refine kt_of (own := RJ0) (lv0 := [(0, vS V i)]) (by decide) rfl (Nat.le_of_ble_eq_true rfl) rfl (fun C hCl hC hR => ?_)
  subst hCl
  refine g_getCS hC wf_RJ0_38 dJ0_coder_7d493_0 ?_
  have e : (some (0, X) : Option (Int × Mem)) = c1 1 (if (1 : Int) = 0 then none else some (0, X)) := rfl
  rw [e]
  refine g_if_eq (tgt := 13) hC dJ0_coder_7d493_3 (by decide) g_none ?_
  refine g_aload_n (q := 0) hC dJ0_coder_7d493_6 rfl rfl rfl ?_
  refine g_scod hC hi wf_RJ0_15 dJ0_coder_7d493_7 ?_
  refine g_goto (tgt := 14) hC dJ0_coder_7d493_10 (by decide) ?_
  exact g_sret hC hR (by decide +kernel) dJ0_coder_7d493_14
set_option maxRecDepth 20000 in
theorem k_isLatin1 (l : Launch) (V : Ev) {L : List Kd} (i : Nat) (hi : i < nSt) (X : Mem) : Kt l V L yJ0_isLatin1_aae02 (.code yJ0_isLatin1_aae02 cJ0_isLatin1_aae02 1 (some .boolean)) 0 0 [vS V i] rI X (some (1, X)) := by
  refine kt_of (own := RJ0) (lv0 := [(0, vS V i)]) (by decide) rfl (Nat.le_of_ble_eq_true rfl) rfl (fun C hCl hC hR => ?_)
  subst hCl
  refine g_getCS hC wf_RJ0_38 dJ0_isLatin1_aae02_0 ?_
  have e : (some (1, X) : Option (Int × Mem)) = c1 1 (if (1 : Int) = 0 then none else c1 0 (if ¬ (0 : Int) = 0 then none else some (1, X))) := rfl
  rw [e]
  refine g_if_eq (tgt := 17) hC dJ0_isLatin1_aae02_3 (by decide) g_none ?_
  refine g_aload_n (q := 0) hC dJ0_isLatin1_aae02_6 rfl rfl rfl ?_
  refine g_scod hC hi wf_RJ0_15 dJ0_isLatin1_aae02_7 ?_
  refine g_if_ne (tgt := 17) hC dJ0_isLatin1_aae02_10 (by decide) g_none ?_
  refine g_iconst (v := vI 1) hC dJ0_isLatin1_aae02_13 rfl ?_
  refine g_goto (tgt := 18) hC dJ0_isLatin1_aae02_14 (by decide) ?_
  exact g_zret1 hC hR (by decide) dJ0_isLatin1_aae02_18
set_option maxRecDepth 20000 in
theorem k_length (l : Launch) (V : Ev) {L : List Kd} (i : Nat) (hi : i < nSt) (X : Mem) : Kt l V L yJ0_length_8abf5 (.code yJ0_length_8abf5 cJ0_length_8abf5 1 (some .int)) 1 20 [vS V i] rI X (some (((sB i).length : Int), X)) := by
  refine kt_of (own := RJ0) (lv0 := [(0, vS V i)]) (by decide) rfl (Nat.le_of_ble_eq_true rfl) rfl (fun C hCl hC hR => ?_)
  subst hCl
  refine g_aload_n (q := 0) hC dJ0_length_8abf5_0 rfl rfl rfl ?_
  refine g_sval hC hi wf_RJ0_9 dJ0_length_8abf5_1 ?_
  refine g_blen hC hi dJ0_length_8abf5_4 ?_
  refine g_aload_n (q := 0) hC dJ0_length_8abf5_5 rfl rfl rfl ?_
  have e : (some (((sB i).length : Int), X) : Option (Int × Mem)) = cl (some (0, X)) fun _ X1 => some (((sB i).length : Int), X) := rfl
  rw [e]
  intro hk
  refine g_callZ (As := []) (rv := rI) (k := fun r X1 => if r = 0 then some (ishr ((sB i).length : Int) r, X1) else none) hC hi mv_J0_coder_7d493 wml_RJ0_335 (k_coder _ V i hi X) ⟨Nat.zero_le _, Nat.zero_le _⟩ rfl rfl ⟨Nat.le_of_ble_eq_true rfl, Nat.le_of_ble_eq_true rfl⟩ (Nat.le_of_ble_eq_true rfl) dJ0_length_8abf5_6 (fun r X1 => ?_) ?_
  · refine g_ite (fun _ => ?_) (fun _ => g_none)
    show G _ V L 0 0 1 9 _ [vI r, vI ((sB i).length : Int)] X1 _
    refine g_ishr hC dJ0_length_8abf5_9 ?_
    exact g_iret hC hR dJ0_length_8abf5_10
  · have hlen := (sB_ok i hi).1
    have e2 : ishr ((sB i).length : Int) 0 = ((sB i).length : Int) := by
      show (Int32.ofInt ((sB i).length : Int) >>> (Int32.ofInt 0 &&& 31)).toInt = _
      rw [show (Int32.ofInt 0 &&& 31 : Int32) = 0 from by decide, Int32.shiftRight_zero, i32_toInt ⟨by omega, by omega⟩]
    show some (ishr ((sB i).length : Int) 0, X) = _
    rw [e2]
    exact hk
/-- Preconditions.checkIndex, within -/
def ckx (a b : Int) (X : Mem) : Option (Int × Mem) := c1 a (if a < 0 then none else c2 a b (if a < b then some (a, X) else none))
set_option maxRecDepth 20000 in
theorem k_pcheck0 (l : Launch) (V : Ev) {L : List Kd} (a b : Int) (X : Mem) : Kt l V L yJ3_checkIndex_8e157 (.code yJ3_checkIndex_8e157 cJ3_checkIndex_8e157 3 (some .int)) 0 0 [vI a, vI b, .null] rI X (ckx a b X) := by
  refine kt_of (own := RJ3) (lv0 := [(0, vI a), (1, vI b), (2, .null)]) (by decide) rfl (Nat.le_of_ble_eq_true rfl) rfl (fun C hCl hC hR => ?_)
  subst hCl
  unfold ckx
  refine g_iload_n (q := 0) hC dJ3_checkIndex_8e157_0 rfl rfl ?_
  refine g_if_lt (tgt := 9) hC dJ3_checkIndex_8e157_1 (by decide) g_none ?_
  refine g_iload_n (q := 0) hC dJ3_checkIndex_8e157_4 rfl rfl ?_
  refine g_iload_n (q := 1) hC dJ3_checkIndex_8e157_5 rfl rfl ?_
  refine g_icmp_lt (tgt := 16) hC dJ3_checkIndex_8e157_6 (by decide) ?_ g_none
  refine g_iload_n (q := 0) hC dJ3_checkIndex_8e157_16 rfl rfl ?_
  exact g_iret hC hR dJ3_checkIndex_8e157_17
set_option maxRecDepth 20000 in
theorem k_pcheckt (l : Launch) (V : Ev) {L : List Kd} (a b : Int) (t : Nat) (X : Mem) : Kt l V L yJ3_checkIndex_8e157 (.code yJ3_checkIndex_8e157 cJ3_checkIndex_8e157 3 (some .int)) 0 0 [vI a, vI b, .ref t] rI X (ckx a b X) := by
  refine kt_of (own := RJ3) (lv0 := [(0, vI a), (1, vI b), (2, .ref t)]) (by decide) rfl (Nat.le_of_ble_eq_true rfl) rfl (fun C hCl hC hR => ?_)
  subst hCl
  unfold ckx
  refine g_iload_n (q := 0) hC dJ3_checkIndex_8e157_0 rfl rfl ?_
  refine g_if_lt (tgt := 9) hC dJ3_checkIndex_8e157_1 (by decide) g_none ?_
  refine g_iload_n (q := 0) hC dJ3_checkIndex_8e157_4 rfl rfl ?_
  refine g_iload_n (q := 1) hC dJ3_checkIndex_8e157_5 rfl rfl ?_
  refine g_icmp_lt (tgt := 16) hC dJ3_checkIndex_8e157_6 (by decide) ?_ g_none
  refine g_iload_n (q := 0) hC dJ3_checkIndex_8e157_16 rfl rfl ?_
  exact g_iret hC hR dJ3_checkIndex_8e157_17
set_option maxRecDepth 20000 in
theorem k_scheck (l : Launch) (V : Ev) {L : List Kd} (a b : Int) (X : Mem) : Kt l V L yJ0_checkIndex_df160 (.code yJ0_checkIndex_df160 cJ0_checkIndex_df160 2 none) 1 22 [vI a, vI b] rV X (cl (ckx a b X) fun _ X1 => some (0, X1)) := by
  refine kt_of (own := RJ0) (lv0 := [(0, vI a), (1, vI b)]) (by decide) rfl (Nat.le_of_ble_eq_true rfl) rfl (fun C hCl hC hR => ?_)
  subst hCl
  refine g_iload_n (q := 0) hC dJ0_checkIndex_df160_0 rfl rfl ?_
  refine g_iload_n (q := 1) hC dJ0_checkIndex_df160_1 rfl rfl ?_
  refine g_getFM hC wf_RJ0_1053 dJ0_checkIndex_df160_2 ?_ (fun t => ?_)
  · refine g_callSI (As := [vI a, vI b, .null]) hC mt_J3_checkIndex_8e157 wml_RJ0_1059 (k_pcheck0 _ V a b X) ⟨Nat.zero_le _, Nat.zero_le _⟩ rfl rfl ⟨Nat.le_of_ble_eq_true rfl, Nat.le_of_ble_eq_true rfl⟩ (Nat.le_of_ble_eq_true rfl) dJ0_checkIndex_df160_5 (fun r X1 => ?_)
    refine g_pop hC dJ0_checkIndex_df160_8 rfl ?_
    exact g_vret hC hR dJ0_checkIndex_df160_9
  · refine g_callSI (As := [vI a, vI b, .ref t]) hC mt_J3_checkIndex_8e157 wml_RJ0_1059 (k_pcheckt _ V a b t X) ⟨Nat.zero_le _, Nat.zero_le _⟩ rfl rfl ⟨Nat.le_of_ble_eq_true rfl, Nat.le_of_ble_eq_true rfl⟩ (Nat.le_of_ble_eq_true rfl) dJ0_checkIndex_df160_5 (fun r X1 => ?_)
    refine g_pop hC dJ0_checkIndex_df160_8 rfl ?_
    exact g_vret hC hR dJ0_checkIndex_df160_9
theorem ckx_in {a b : Int} {X : Mem} (h0 : 0 ≤ a) (h1 : a < b) (h2 : b ≤ 200) : ckx a b X = some (a, X) := by
  unfold ckx c1 c2
  rw [if_pos ⟨by omega, by omega⟩, if_neg (by omega), if_pos ⟨⟨by omega, by omega⟩, by omega, by omega⟩, if_pos h1]
theorem tl_in {l : List Int} {j : Int} (h : 0 ≤ j ∧ j < (l.length : Int)) : tl l j ∈ l := by
  unfold tl
  have hl : j.toNat < l.length := by omega
  rw [List.getD_eq_getElem?_getD, List.getElem?_eq_getElem hl, Option.getD_some]
  exact List.getElem_mem hl
theorem and255 : ∀ b : Int, 0 ≤ b → b ≤ 127 → (Int32.ofInt b &&& 255) = Int32.ofInt b := by
  intro b h0 h1
  obtain ⟨n, rfl⟩ := Int.eq_ofNat_of_zero_le h0
  have : ∀ n : Nat, n ≤ 127 → (Int32.ofInt (n : Int) &&& 255) = Int32.ofInt (n : Int) := by decide +kernel
  exact this n (by omega)
theorem nar_c : ∀ b : Int, 0 ≤ b → b ≤ 127 → narrow .char (.int (Int32.ofInt b)) = .int (Int32.ofInt b) := by
  intro b h0 h1
  obtain ⟨n, rfl⟩ := Int.eq_ofNat_of_zero_le h0
  have : ∀ n : Nat, n ≤ 127 → narrow .char (.int (Int32.ofInt (n : Int))) = .int (Int32.ofInt (n : Int)) := by decide +kernel
  exact this n (by omega)
theorem i2c_b : ∀ b : Int, 0 ≤ b → b ≤ 127 → ((Int32.ofInt b).toUInt32 % 65536).toInt32 = Int32.ofInt b := by
  intro b h0 h1
  obtain ⟨n, rfl⟩ := Int.eq_ofNat_of_zero_le h0
  have : ∀ n : Nat, n ≤ 127 → ((Int32.ofInt (n : Int)).toUInt32 % 65536).toInt32 = Int32.ofInt (n : Int) := by decide +kernel
  exact this n (by omega)
theorem ia255 {b : Int} (h0 : 0 ≤ b) (h1 : b ≤ 127) : ia b 255 = b := by
  show (Int32.ofInt b &&& 255).toInt = b
  rw [and255 b h0 h1, i32_toInt ⟨by omega, by omega⟩]
set_option maxRecDepth 20000 in
theorem k_lcharAt (l : Launch) (V : Ev) {L : List Kd} (i : Nat) (hi : i < nSt) (j : Int) (X : Mem) : Kt l V L yJ1_charAt_3b067 (.code yJ1_charAt_3b067 cJ1_charAt_3b067 2 (some .char)) 2 43 [vB V i, vI j] rI X (if 0 ≤ j ∧ j < ((sB i).length : Int) then some (tl (sB i) j, X) else none) := by
  refine kt_of (own := RJ1) (lv0 := [(0, vB V i), (1, vI j)]) (by decide) rfl (Nat.le_of_ble_eq_true rfl) rfl (fun C hCl hC hR => ?_)
  subst hCl
  refine g_ite (fun hj => ?_) (fun _ => g_none)
  have hlen := (sB_ok i hi).1
  have hb := (sB_ok i hi).2 _ (tl_in hj)
  refine g_iload_n (q := 1) hC dJ1_charAt_3b067_0 rfl rfl ?_
  refine g_aload_n (q := 0) hC dJ1_charAt_3b067_1 rfl rfl rfl ?_
  refine g_blen hC hi dJ1_charAt_3b067_2 ?_
  intro hk
  refine g_callSV (As := [vI j, vI ((sB i).length : Int)]) (k := fun _ X1 => ax ((sB i).length : Int) j (some (tl (sB i) j, X1))) hC mt_J0_checkIndex_df160 wml_RJ1_9 (k_scheck _ V j ((sB i).length : Int) X) ⟨Nat.zero_le _, Nat.zero_le _⟩ rfl rfl ⟨Nat.le_of_ble_eq_true rfl, Nat.le_of_ble_eq_true rfl⟩ (Nat.le_of_ble_eq_true rfl) dJ1_charAt_3b067_3 (fun r X1 => ?_) ?_
  · refine g_aload_n (q := 0) hC dJ1_charAt_3b067_6 rfl rfl rfl ?_
    refine g_iload_n (q := 1) hC dJ1_charAt_3b067_7 rfl rfl ?_
    refine g_bsald hC hi dJ1_charAt_3b067_8 ?_
    refine g_sipush (v := vI 255) hC dJ1_charAt_3b067_9 rfl ?_
    refine g_iand hC dJ1_charAt_3b067_12 ?_
    rw [ia255 hb.1 hb.2]
    refine g_lift (fun _ _ _ _ w => lv_i2c (v := Int32.ofInt (tl (sB i) j)) hC.1 hC.2.1 dJ1_charAt_3b067_13 (i2c_b _ hb.1 hb.2) w) ?_
    exact g_sret hC hR (nar_c _ hb.1 hb.2) dJ1_charAt_3b067_14
  · rw [ckx_in hj.1 hj.2 (by omega)]
    show ax ((sB i).length : Int) j (some (tl (sB i) j, X)) = _
    unfold ax
    rw [if_pos hj]
    exact hk
set_option maxRecDepth 20000 in
theorem k_charAt (l : Launch) (V : Ev) {L : List Kd} (i : Nat) (hi : i < nSt) (j : Int) (X : Mem) : Kt l V L yJ0_charAt_5068e (.code yJ0_charAt_5068e cJ0_charAt_5068e 2 (some .char)) 3 64 [vS V i, vI j] rI X (if 0 ≤ j ∧ j < ((sB i).length : Int) then some (tl (sB i) j, X) else none) := by
  refine kt_of (own := RJ0) (lv0 := [(0, vS V i), (1, vI j)]) (by decide) rfl (Nat.le_of_ble_eq_true rfl) rfl (fun C hCl hC hR => ?_)
  subst hCl
  refine g_ite (fun hj => ?_) (fun _ => g_none)
  have hb := (sB_ok i hi).2 _ (tl_in hj)
  refine g_aload_n (q := 0) hC dJ0_charAt_5068e_0 rfl rfl rfl ?_
  intro hk
  refine g_callZ (As := []) (rv := rI) (k := fun r X1 => c1 r (if r = 0 then none else cl (if 0 ≤ j ∧ j < ((sB i).length : Int) then some (tl (sB i) j, X1) else none) fun r2 X2 => if r2 = tl (sB i) j then some (r2, X2) else none)) hC hi mv_J0_isLatin1_aae02 wml_RJ0_492 (k_isLatin1 _ V i hi X) ⟨Nat.zero_le _, Nat.zero_le _⟩ rfl rfl ⟨Nat.le_of_ble_eq_true rfl, Nat.le_of_ble_eq_true rfl⟩ (Nat.le_of_ble_eq_true rfl) dJ0_charAt_5068e_1 (fun r X1 => ?_) ?_
  · show G _ V L 0 0 2 4 _ [vI r] X1 _
    refine g_if_eq (tgt := 16) hC dJ0_charAt_5068e_4 (by decide) g_none ?_
    refine g_aload_n (q := 0) hC dJ0_charAt_5068e_7 rfl rfl rfl ?_
    refine g_sval hC hi wf_RJ0_9 dJ0_charAt_5068e_8 ?_
    refine g_iload_n (q := 1) hC dJ0_charAt_5068e_11 rfl rfl ?_
    refine g_callSI (As := [vB V i, vI j]) hC mt_J1_charAt_3b067 wml_RJ0_495 (k_lcharAt _ V i hi j X1) ⟨Nat.zero_le _, Nat.zero_le _⟩ rfl rfl ⟨Nat.le_of_ble_eq_true rfl, Nat.le_of_ble_eq_true rfl⟩ (Nat.le_of_ble_eq_true rfl) dJ0_charAt_5068e_12 (fun r2 X2 => ?_)
    refine g_ite (fun e => ?_) (fun _ => g_none)
    exact g_sret hC hR (by rw [e]; exact nar_c _ hb.1 hb.2) dJ0_charAt_5068e_15
  · show c1 1 (if (1 : Int) = 0 then none else cl (if 0 ≤ j ∧ j < ((sB i).length : Int) then some (tl (sB i) j, X) else none) fun r2 X2 => if r2 = tl (sB i) j then some (r2, X2) else none) = _
    rw [if_pos hj]
    show c1 1 (if (1 : Int) = 0 then none else if tl (sB i) j = tl (sB i) j then some (tl (sB i) j, X) else none) = _
    rw [if_pos rfl]
    exact hk
section GZ
variable {C : Cx} {V : Ev} {L : List Kd} {ca sl nL pc fr lc : Nat} {cc : ByteArray} {own : String} {lv : List (Nat × Value)} {st : List Value} {X : Mem} {f : Option (Int × Mem)}
theorem g_slen {i ix : Nat} (hC : Ok C V cc own nL fr lc) (hlink : Cond.methodLink own ix yJ0_length_8abf5 ∈ WS) (hi : i < nSt) (hfr : 3 ≤ fr) (hlo : 110 ≤ lc) (hcat : (st.map fun v => v.category).sum ≤ 8) (hdg : decode cc pc = .ok (.invokevirtual ix, 3)) (h : G C V L 0 0 nL (pc + 3) lv (vI ((sB i).length : Int) :: st) X f) : G C V L 0 0 nL pc lv (vS V i :: st) X f := by
  intro hk
  refine g_callZ (As := []) (rest := st) (rv := rI) (k := fun r X1 => @ite _ (r = ((sB i).length : Int) ∧ X1 = X) (Classical.propDecidable _) f none) hC hi mv_J0_length_8abf5 hlink (k_length _ V i hi X) ⟨Nat.zero_le _, Nat.zero_le _⟩ rfl rfl ⟨by omega, by omega⟩ hcat hdg (fun r X1 => ?_) ?_
  · exact fun hk2 => by
      by_cases e : r = ((sB i).length : Int) ∧ X1 = X
      · rw [if_pos e] at hk2
        obtain ⟨rfl, rfl⟩ := e
        exact h hk2
      · rw [if_neg e] at hk2
        cases hk2
  · refine Eq.trans ?_ hk
    exact if_pos ⟨rfl, rfl⟩
theorem g_schar {i ix : Nat} {j : Int} (hC : Ok C V cc own nL fr lc) (hlink : Cond.methodLink own ix yJ0_charAt_5068e ∈ WS) (hi : i < nSt) (hfr : 5 ≤ fr) (hlo : 160 ≤ lc) (hcat : (st.map fun v => v.category).sum ≤ 8) (hdg : decode cc pc = .ok (.invokevirtual ix, 3)) (h : G C V L 0 0 nL (pc + 3) lv (vI (tl (sB i) j) :: st) X f) : G C V L 0 0 nL pc lv (vI j :: vS V i :: st) X (ax ((sB i).length : Int) j f) := by
  refine g_ax fun hj hk => ?_
  refine g_callZ (As := [vI j]) (rest := st) (rv := rI) (k := fun r X1 => @ite _ (r = tl (sB i) j ∧ X1 = X) (Classical.propDecidable _) f none) hC hi mv_J0_charAt_5068e hlink (k_charAt _ V i hi j X) ⟨Nat.zero_le _, Nat.zero_le _⟩ rfl rfl ⟨by omega, by omega⟩ hcat hdg (fun r X1 => ?_) ?_
  · exact fun hk2 => by
      by_cases e : r = tl (sB i) j ∧ X1 = X
      · rw [if_pos e] at hk2
        obtain ⟨rfl, rfl⟩ := e
        exact h hk2
      · rw [if_neg e] at hk2
        cases hk2
  · rw [if_pos hj]
    refine Eq.trans ?_ hk
    exact if_pos ⟨rfl, rfl⟩
end GZ
end JD
