section GR
variable {C : Cx} {V : Ev} {L : List Kd} {ca sl nL pc fr lc : Nat} {cc : ByteArray} {own : String} {lv : List (Nat × Value)} {st : List Value} {X : Mem} {f f1 f2 : Option (Int × Mem)}
abbrev Wc (C : Cx) (H : Heap) (locs : List Loc) (ca sl : Nat) (g : JFrame) : Prop := W C.1 C.2.1 C.2.2.1 C.2.2.2.1 C.2.2.2.2.1 C.2.2.2.2.2.1 C.2.2.2.2.2.2.1 C.2.2.2.2.2.2.2.1 C.2.2.2.2.2.2.2.2.1 C.2.2.2.2.2.2.2.2.2.1 H locs ca sl C.2.2.2.2.2.2.2.2.2.2.1 g
theorem g_lift {pc' : Nat} {st' : List Value} (hw : ∀ (H : Heap) (locs : List Loc) (ls : Array Slot), lv_has ls nL lv → Wc C H locs ca sl (F0 C.2.2.2.2.2.1 pc' ls st') → Wc C H locs ca sl (F0 C.2.2.2.2.2.1 pc ls st)) (h : G C V L ca sl nL pc' lv st' X f) : G C V L ca sl nL pc lv st X f :=
  fun hk H locs ls hP hS hl => hw H locs ls hl (h hk H locs ls hP hS hl)
theorem g_sub {lv' : List (Nat × Value)} (ks : List Nat) (hl : lv_pick lv ks = lv') (h : G C V L ca sl nL pc lv' st X f) : G C V L ca sl nL pc lv st X f :=
  fun hk H locs ls hP hS hls => h hk H locs ls hP hS (lv_sub hls ks hl)
theorem g_none : G C V L ca sl nL pc lv st X none := fun hk => nomatch hk

theorem g_iconst {n : Int} (hC : Ok C V cc own nL fr lc) (hdg : decode cc pc = .ok (.iconst n, 1)) {v : Value} (hv : vI n = v) (h : G C V L ca sl nL (pc + 1) lv (v :: st) X f) : G C V L ca sl nL pc lv st X f := by
  subst hv
  exact g_lift (fun _ _ _ _ hw => lv_iconst hC.1 hC.2.1 hdg rfl hw) h
theorem g_bipush {n : Int} (hC : Ok C V cc own nL fr lc) (hdg : decode cc pc = .ok (.bipush n, 2)) {v : Value} (hv : Value.int (Int8.ofInt n).toInt32 = v) (h : G C V L ca sl nL (pc + 2) lv (v :: st) X f) : G C V L ca sl nL pc lv st X f := by
  subst hv
  exact g_lift (fun _ _ _ _ hw => lv_bipush hC.1 hC.2.1 hdg rfl hw) h
theorem g_sipush {n : Int} (hC : Ok C V cc own nL fr lc) (hdg : decode cc pc = .ok (.sipush n, 3)) {v : Value} (hv : Value.int (Int16.ofInt n).toInt32 = v) (h : G C V L ca sl nL (pc + 3) lv (v :: st) X f) : G C V L ca sl nL pc lv st X f := by
  subst hv
  exact g_lift (fun _ _ _ _ hw => lv_sipush hC.1 hC.2.1 hdg rfl hw) h
theorem g_lconst {n : Fin 2} (hC : Ok C V cc own nL fr lc) (hdg : decode cc pc = .ok (.lconst n, 1)) {v : Value} (hv : Value.long (Int64.ofNat (n : Nat)) = v) (h : G C V L ca sl nL (pc + 1) lv (v :: st) X f) : G C V L ca sl nL pc lv st X f := by
  subst hv
  exact g_lift (fun _ _ _ _ hw => lv_lconst hC.1 hC.2.1 hdg rfl hw) h
theorem g_ldc {ix : Nat} {n : Int} {v : Int32} (hC : Ok C V cc own nL fr lc) (hw : Cond.constant own ix v ∈ WS) (hv : Int32.ofInt n = v) (hdg : decode cc pc = .ok (.ldc ix, 2)) (h : G C V L ca sl nL (pc + 2) lv (vI n :: st) X f) : G C V L ca sl nL pc lv st X f := by
  subst hv
  exact g_lift (fun _ _ _ _ w => lv_ldc hC.1 hC.2.1 hC.2.2.2.1 (hC.2.2.2.2.1 _ hw) hdg w) h
theorem g_ldcw {ix : Nat} {n : Int} {v : Int32} (hC : Ok C V cc own nL fr lc) (hw : Cond.constant own ix v ∈ WS) (hv : Int32.ofInt n = v) (hdg : decode cc pc = .ok (.ldc_w ix, 3)) (h : G C V L ca sl nL (pc + 3) lv (vI n :: st) X f) : G C V L ca sl nL pc lv st X f := by
  subst hv
  exact g_lift (fun _ _ _ _ w => lv_ldcw hC.1 hC.2.1 hC.2.2.2.1 (hC.2.2.2.2.1 _ hw) hdg w) h
theorem g_ldc2 {ix : Nat} {n : Int} {v : Int64} (hC : Ok C V cc own nL fr lc) (hw : Cond.constantLong own ix v ∈ WS) (hv : Int64.ofInt n = v) (hdg : decode cc pc = .ok (.ldc2_w ix, 3)) (h : G C V L ca sl nL (pc + 3) lv (vJ n :: st) X f) : G C V L ca sl nL pc lv st X f := by
  subst hv
  exact g_lift (fun _ _ _ _ w => lv_ldc2 hC.1 hC.2.1 hC.2.2.2.1 (hC.2.2.2.2.1 _ hw) hdg w) h
theorem g_iload_n {j : Fin 4} {i q : Nat} {a : Int} (hC : Ok C V cc own nL fr lc) (hdg : decode cc pc = .ok (.iload_n j, 1)) (hi : (j : Nat) = i) (hq : lv[q]? = some (i, vI a)) (h : G C V L ca sl nL (pc + 1) lv (vI a :: st) X f) : G C V L ca sl nL pc lv st X f :=
  g_lift (fun _ _ _ hl w => lv_iload_n hC.1 hC.2.1 hdg hi (lv_at hl q hq) w) h
theorem g_iload {i q : Nat} {a : Int} (hC : Ok C V cc own nL fr lc) (hdg : decode cc pc = .ok (.iload i, 2)) (hq : lv[q]? = some (i, vI a)) (h : G C V L ca sl nL (pc + 2) lv (vI a :: st) X f) : G C V L ca sl nL pc lv st X f :=
  g_lift (fun _ _ _ hl w => lv_iload hC.1 hC.2.1 hdg (lv_at hl q hq) w) h
theorem g_lload_n {j : Fin 4} {i q : Nat} {a : Int} (hC : Ok C V cc own nL fr lc) (hdg : decode cc pc = .ok (.lload_n j, 1)) (hi : (j : Nat) = i) (hq : lv[q]? = some (i, vJ a)) (h : G C V L ca sl nL (pc + 1) lv (vJ a :: st) X f) : G C V L ca sl nL pc lv st X f :=
  g_lift (fun _ _ _ hl w => lv_lload_n hC.1 hC.2.1 hdg hi (lv_at hl q hq) w) h
theorem g_lload {i q : Nat} {a : Int} (hC : Ok C V cc own nL fr lc) (hdg : decode cc pc = .ok (.lload i, 2)) (hq : lv[q]? = some (i, vJ a)) (h : G C V L ca sl nL (pc + 2) lv (vJ a :: st) X f) : G C V L ca sl nL pc lv st X f :=
  g_lift (fun _ _ _ hl w => lv_lload hC.1 hC.2.1 hdg (lv_at hl q hq) w) h
theorem g_aload_n {j : Fin 4} {i q r : Nat} {v : Value} (hC : Ok C V cc own nL fr lc) (hdg : decode cc pc = .ok (.aload_n j, 1)) (hi : (j : Nat) = i) (hq : lv[q]? = some (i, v)) (hv : v = .ref r) (h : G C V L ca sl nL (pc + 1) lv (v :: st) X f) : G C V L ca sl nL pc lv st X f := by
  subst hv
  exact g_lift (fun _ _ _ hl w => lv_aload_n hC.1 hC.2.1 hdg hi (lv_at hl q hq) w) h
theorem g_aload {i q r : Nat} {v : Value} (hC : Ok C V cc own nL fr lc) (hdg : decode cc pc = .ok (.aload i, 2)) (hq : lv[q]? = some (i, v)) (hv : v = .ref r) (h : G C V L ca sl nL (pc + 2) lv (v :: st) X f) : G C V L ca sl nL pc lv st X f := by
  subst hv
  exact g_lift (fun _ _ _ hl w => lv_aload hC.1 hC.2.1 hdg (lv_at hl q hq) w) h
theorem g_istore_n {j : Fin 4} {i : Nat} {a : Int} {lv' : List (Nat × Value)} (hC : Ok C V cc own nL fr lc) (hdg : decode cc pc = .ok (.istore_n j, 1)) (hi : (j : Nat) = i) (hn : i < nL) (hl : (i, vI a) :: lv.filter (fun q => !(q.1 == i) && !(q.1 + 1 == i && q.2.category == 2)) = lv') (h : G C V L ca sl nL (pc + 1) lv' st X f) : G C V L ca sl nL pc lv (vI a :: st) X f :=
  fun hk H locs ls hP hS hls => lv_istore_n hC.1 hC.2.1 hdg hi hls hn hl (fun ls' h' => h hk H locs ls' hP hS h')
theorem g_istore {i : Nat} {a : Int} {lv' : List (Nat × Value)} (hC : Ok C V cc own nL fr lc) (hdg : decode cc pc = .ok (.istore i, 2)) (hn : i < nL) (hl : (i, vI a) :: lv.filter (fun q => !(q.1 == i) && !(q.1 + 1 == i && q.2.category == 2)) = lv') (h : G C V L ca sl nL (pc + 2) lv' st X f) : G C V L ca sl nL pc lv (vI a :: st) X f :=
  fun hk H locs ls hP hS hls => lv_istore hC.1 hC.2.1 hdg hls hn hl (fun ls' h' => h hk H locs ls' hP hS h')
theorem g_lstore_n {j : Fin 4} {i : Nat} {a : Int} {lv' : List (Nat × Value)} (hC : Ok C V cc own nL fr lc) (hdg : decode cc pc = .ok (.lstore_n j, 1)) (hi : (j : Nat) = i) (hn : i + 1 < nL) (hl : (i, vJ a) :: lv.filter (fun q => !(q.1 == i) && (!(q.1 == i + 1) && !(q.1 + 1 == i && q.2.category == 2))) = lv') (h : G C V L ca sl nL (pc + 1) lv' st X f) : G C V L ca sl nL pc lv (vJ a :: st) X f :=
  fun hk H locs ls hP hS hls => lv_lstore_n hC.1 hC.2.1 hdg hi hls hn hl (fun ls' h' => h hk H locs ls' hP hS h')
theorem g_lstore {i : Nat} {a : Int} {lv' : List (Nat × Value)} (hC : Ok C V cc own nL fr lc) (hdg : decode cc pc = .ok (.lstore i, 2)) (hn : i + 1 < nL) (hl : (i, vJ a) :: lv.filter (fun q => !(q.1 == i) && (!(q.1 == i + 1) && !(q.1 + 1 == i && q.2.category == 2))) = lv') (h : G C V L ca sl nL (pc + 2) lv' st X f) : G C V L ca sl nL pc lv (vJ a :: st) X f :=
  fun hk H locs ls hP hS hls => lv_lstore hC.1 hC.2.1 hdg hls hn hl (fun ls' h' => h hk H locs ls' hP hS h')
theorem g_astore_n {j : Fin 4} {i r : Nat} {v : Value} {lv' : List (Nat × Value)} (hC : Ok C V cc own nL fr lc) (hdg : decode cc pc = .ok (.astore_n j, 1)) (hi : (j : Nat) = i) (hn : i < nL) (hv : v = .ref r) (hl : (i, v) :: lv.filter (fun q => !(q.1 == i) && !(q.1 + 1 == i && q.2.category == 2)) = lv') (h : G C V L ca sl nL (pc + 1) lv' st X f) : G C V L ca sl nL pc lv (v :: st) X f := by
  subst hv
  exact fun hk H locs ls hP hS hls => lv_astore_n hC.1 hC.2.1 hdg hi hls hn hl (fun ls' h' => h hk H locs ls' hP hS h')
theorem g_astore {i r : Nat} {v : Value} {lv' : List (Nat × Value)} (hC : Ok C V cc own nL fr lc) (hdg : decode cc pc = .ok (.astore i, 2)) (hn : i < nL) (hv : v = .ref r) (hl : (i, v) :: lv.filter (fun q => !(q.1 == i) && !(q.1 + 1 == i && q.2.category == 2)) = lv') (h : G C V L ca sl nL (pc + 2) lv' st X f) : G C V L ca sl nL pc lv (v :: st) X f := by
  subst hv
  exact fun hk H locs ls hP hS hls => lv_astore hC.1 hC.2.1 hdg hls hn hl (fun ls' h' => h hk H locs ls' hP hS h')
theorem g_iinc {i q : Nat} {n a : Int} {lv' : List (Nat × Value)} (hC : Ok C V cc own nL fr lc) (hdg : decode cc pc = .ok (.iinc i n, 3)) (hq : lv[q]? = some (i, vI a)) (hn : i < nL) (hl : (i, vI (a + n)) :: lv.filter (fun q => !(q.1 == i) && !(q.1 + 1 == i && q.2.category == 2)) = lv') (h : G C V L ca sl nL (pc + 3) lv' st X f) : G C V L ca sl nL pc lv st X f :=
  fun hk H locs ls hP hS hls => lv_iinc (k := q) (x := Int32.ofInt a) (v := Int32.ofInt (a + n)) hC.1 hC.2.1 hdg hls hq (Int32.ofInt_add a n).symm hn hl (fun ls' h' => h hk H locs ls' hP hS h')
theorem g_topI {a : Int} {k : Int → Option (Int × Mem)} (h : ∀ v : Int, G C V L ca sl nL pc lv (vI v :: st) X (k v)) : G C V L ca sl nL pc lv (vI a :: st) X (bd a k) := h a
theorem g_topJ {a : Int} {k : Int → Option (Int × Mem)} (h : ∀ v : Int, G C V L ca sl nL pc lv (vJ v :: st) X (k v)) : G C V L ca sl nL pc lv (vJ a :: st) X (bd a k) := h a
theorem g_topX {X1 : Mem} {k : Mem → Option (Int × Mem)} (h : ∀ v : Mem, G C V L ca sl nL pc lv st v (k v)) : G C V L ca sl nL pc lv st X1 (bd X1 k) := h X1
theorem g_cm {l : List Int} {a : Int} (h : a ∈ l → G C V L ca sl nL pc lv st X f) : G C V L ca sl nL pc lv st X (cm l a f) := by
  intro hk
  unfold cm at hk
  split at hk
  · exact h (by assumption) hk
  · cases hk
theorem g_c1 {a : Int} (h : (-2147483648 ≤ a ∧ a ≤ 2147483647) → G C V L ca sl nL pc lv st X f) : G C V L ca sl nL pc lv st X (c1 a f) := by
  intro hk
  unfold c1 at hk
  split at hk
  · exact h (by assumption) hk
  · cases hk
theorem g_c2 {a b : Int} (h : (-2147483648 ≤ a ∧ a ≤ 2147483647) → (-2147483648 ≤ b ∧ b ≤ 2147483647) → G C V L ca sl nL pc lv st X f) : G C V L ca sl nL pc lv st X (c2 a b f) := by
  intro hk
  unfold c2 at hk
  split at hk
  · rename_i h1; exact h h1.1 h1.2 hk
  · cases hk
theorem g_d2 {a b : Int} (h : (-9223372036854775808 ≤ a ∧ a ≤ 9223372036854775807) → (-9223372036854775808 ≤ b ∧ b ≤ 9223372036854775807) → G C V L ca sl nL pc lv st X f) : G C V L ca sl nL pc lv st X (d2 a b f) := by
  intro hk
  unfold d2 at hk
  split at hk
  · rename_i h1; exact h h1.1 h1.2 hk
  · cases hk
theorem g_ax {n j : Int} (h : 0 ≤ j ∧ j < n → G C V L ca sl nL pc lv st X f) : G C V L ca sl nL pc lv st X (ax n j f) := by
  intro hk
  unfold ax at hk
  split at hk
  · exact h (by assumption) hk
  · cases hk
theorem g_cz {a : Int} (h : a = 0 ∨ a = 1 → G C V L ca sl nL pc lv st X f) : G C V L ca sl nL pc lv st X (cz a f) := by
  intro hk
  unfold cz at hk
  split at hk
  · exact h (by assumption) hk
  · cases hk
theorem g_ite {p : Prop} {_ : Decidable p} (h1 : p → G C V L ca sl nL pc lv st X f1) (h2 : ¬ p → G C V L ca sl nL pc lv st X f2) : G C V L ca sl nL pc lv st X (if p then f1 else f2) := by
  split
  · exact h1 (by assumption)
  · exact h2 (by assumption)
theorem g_iadd {a b : Int} (hC : Ok C V cc own nL fr lc) (hdg : decode cc pc = .ok (.iadd, 1)) (h : G C V L ca sl nL (pc + 1) lv (vI (a + b) :: st) X f) : G C V L ca sl nL pc lv (vI b :: vI a :: st) X f :=
  g_lift (fun _ _ _ _ w => lv_iadd hC.1 hC.2.1 hdg (by rw [← Int32.ofInt_add]; exact w)) h
theorem g_isub {a b : Int} (hC : Ok C V cc own nL fr lc) (hdg : decode cc pc = .ok (.isub, 1)) (h : G C V L ca sl nL (pc + 1) lv (vI (a - b) :: st) X f) : G C V L ca sl nL pc lv (vI b :: vI a :: st) X f :=
  g_lift (fun _ _ _ _ w => lv_isub hC.1 hC.2.1 hdg (by rw [← Int32.ofInt_sub]; exact w)) h
theorem g_imul {a b : Int} (hC : Ok C V cc own nL fr lc) (hdg : decode cc pc = .ok (.imul, 1)) (h : G C V L ca sl nL (pc + 1) lv (vI (a * b) :: st) X f) : G C V L ca sl nL pc lv (vI b :: vI a :: st) X f :=
  g_lift (fun _ _ _ _ w => lv_imul hC.1 hC.2.1 hdg (by rw [← Int32.ofInt_mul]; exact w)) h
theorem g_ladd {a b : Int} (hC : Ok C V cc own nL fr lc) (hdg : decode cc pc = .ok (.ladd, 1)) (h : G C V L ca sl nL (pc + 1) lv (vJ (a + b) :: st) X f) : G C V L ca sl nL pc lv (vJ b :: vJ a :: st) X f :=
  g_lift (fun _ _ _ _ w => lv_ladd hC.1 hC.2.1 hdg (by rw [← Int64.ofInt_add]; exact w)) h
theorem g_lsub {a b : Int} (hC : Ok C V cc own nL fr lc) (hdg : decode cc pc = .ok (.lsub, 1)) (h : G C V L ca sl nL (pc + 1) lv (vJ (a - b) :: st) X f) : G C V L ca sl nL pc lv (vJ b :: vJ a :: st) X f :=
  g_lift (fun _ _ _ _ w => lv_lsub hC.1 hC.2.1 hdg (by rw [← Int64.ofInt_sub]; exact w)) h
theorem g_lmul {a b : Int} (hC : Ok C V cc own nL fr lc) (hdg : decode cc pc = .ok (.lmul, 1)) (h : G C V L ca sl nL (pc + 1) lv (vJ (a * b) :: st) X f) : G C V L ca sl nL pc lv (vJ b :: vJ a :: st) X f :=
  g_lift (fun _ _ _ _ w => lv_lmul hC.1 hC.2.1 hdg (by rw [← Int64.ofInt_mul]; exact w)) h
theorem g_iand {a b : Int} (hC : Ok C V cc own nL fr lc) (hdg : decode cc pc = .ok (.iand, 1)) (h : G C V L ca sl nL (pc + 1) lv (vI (ia a b) :: st) X f) : G C V L ca sl nL pc lv (vI b :: vI a :: st) X f :=
  g_lift (fun _ _ _ _ w => lv_iand hC.1 hC.2.1 hdg (by rw [vI, ia, Int32.ofInt_toInt] at w; exact w)) h
theorem g_ior {a b : Int} (hC : Ok C V cc own nL fr lc) (hdg : decode cc pc = .ok (.ior, 1)) (h : G C V L ca sl nL (pc + 1) lv (vI (io a b) :: st) X f) : G C V L ca sl nL pc lv (vI b :: vI a :: st) X f :=
  g_lift (fun _ _ _ _ w => lv_ior hC.1 hC.2.1 hdg (by rw [vI, io, Int32.ofInt_toInt] at w; exact w)) h
theorem g_ixor {a b : Int} (hC : Ok C V cc own nL fr lc) (hdg : decode cc pc = .ok (.ixor, 1)) (h : G C V L ca sl nL (pc + 1) lv (vI (ix a b) :: st) X f) : G C V L ca sl nL pc lv (vI b :: vI a :: st) X f :=
  g_lift (fun _ _ _ _ w => lv_ixor hC.1 hC.2.1 hdg (by rw [vI, ix, Int32.ofInt_toInt] at w; exact w)) h
theorem g_ishl {a b : Int} (hC : Ok C V cc own nL fr lc) (hdg : decode cc pc = .ok (.ishl, 1)) (h : G C V L ca sl nL (pc + 1) lv (vI (ishl a b) :: st) X f) : G C V L ca sl nL pc lv (vI b :: vI a :: st) X f :=
  g_lift (fun _ _ _ _ w => lv_ishl hC.1 hC.2.1 hdg (by rw [vI, ishl, Int32.ofInt_toInt] at w; exact w)) h
theorem g_ishr {a b : Int} (hC : Ok C V cc own nL fr lc) (hdg : decode cc pc = .ok (.ishr, 1)) (h : G C V L ca sl nL (pc + 1) lv (vI (ishr a b) :: st) X f) : G C V L ca sl nL pc lv (vI b :: vI a :: st) X f :=
  g_lift (fun _ _ _ _ w => lv_ishr hC.1 hC.2.1 hdg (by rw [vI, ishr, Int32.ofInt_toInt] at w; exact w)) h
theorem g_land {a b : Int} (hC : Ok C V cc own nL fr lc) (hdg : decode cc pc = .ok (.land, 1)) (h : G C V L ca sl nL (pc + 1) lv (vJ (la a b) :: st) X f) : G C V L ca sl nL pc lv (vJ b :: vJ a :: st) X f :=
  g_lift (fun _ _ _ _ w => lv_land hC.1 hC.2.1 hdg (by rw [vJ, la, Int64.ofInt_toInt] at w; exact w)) h
theorem g_lor {a b : Int} (hC : Ok C V cc own nL fr lc) (hdg : decode cc pc = .ok (.lor, 1)) (h : G C V L ca sl nL (pc + 1) lv (vJ (lo a b) :: st) X f) : G C V L ca sl nL pc lv (vJ b :: vJ a :: st) X f :=
  g_lift (fun _ _ _ _ w => lv_lor hC.1 hC.2.1 hdg (by rw [vJ, lo, Int64.ofInt_toInt] at w; exact w)) h
theorem g_lxor {a b : Int} (hC : Ok C V cc own nL fr lc) (hdg : decode cc pc = .ok (.lxor, 1)) (h : G C V L ca sl nL (pc + 1) lv (vJ (lx a b) :: st) X f) : G C V L ca sl nL pc lv (vJ b :: vJ a :: st) X f :=
  g_lift (fun _ _ _ _ w => lv_lxor hC.1 hC.2.1 hdg (by rw [vJ, lx, Int64.ofInt_toInt] at w; exact w)) h
theorem g_lshl {a b : Int} (hC : Ok C V cc own nL fr lc) (hdg : decode cc pc = .ok (.lshl, 1)) (h : G C V L ca sl nL (pc + 1) lv (vJ (lshl a b) :: st) X f) : G C V L ca sl nL pc lv (vI b :: vJ a :: st) X f :=
  g_lift (fun _ _ _ _ w => lv_lshl hC.1 hC.2.1 hdg rfl (by rw [vJ, lshl, Int64.ofInt_toInt] at w; exact w)) h
theorem g_lushr {a b : Int} (hC : Ok C V cc own nL fr lc) (hdg : decode cc pc = .ok (.lushr, 1)) (h : G C V L ca sl nL (pc + 1) lv (vJ (lushr a b) :: st) X f) : G C V L ca sl nL pc lv (vI b :: vJ a :: st) X f :=
  g_lift (fun _ _ _ _ w => lv_lushr hC.1 hC.2.1 hdg rfl (by rw [vJ, lushr, Int64.ofInt_toInt] at w; exact w)) h
theorem g_ineg {a : Int} (hC : Ok C V cc own nL fr lc) (hdg : decode cc pc = .ok (.ineg, 1)) (h : G C V L ca sl nL (pc + 1) lv (vI (-a) :: st) X f) : G C V L ca sl nL pc lv (vI a :: st) X f :=
  g_lift (fun _ _ _ _ w => lv_ineg hC.1 hC.2.1 hdg (by rw [← Int32.ofInt_neg]; exact w)) h
theorem g_i2l {a : Int} (hC : Ok C V cc own nL fr lc) (hdg : decode cc pc = .ok (.i2l, 1)) (h : G C V L ca sl nL (pc + 1) lv (vJ a :: st) X f) : G C V L ca sl nL pc lv (vI a :: st) X (c1 a f) :=
  g_c1 fun ha => g_lift (fun _ _ _ _ w => lv_i2l (v := Int64.ofInt a) hC.1 hC.2.1 hdg (by rw [← Int64.ofInt_int32ToInt, i32_toInt ha]) w) h
theorem g_l2i {a : Int} (hC : Ok C V cc own nL fr lc) (hdg : decode cc pc = .ok (.l2i, 1)) (h : G C V L ca sl nL (pc + 1) lv (vI a :: st) X f) : G C V L ca sl nL pc lv (vJ a :: st) X f :=
  g_lift (fun _ _ _ _ w => lv_l2i (v := Int32.ofInt a) hC.1 hC.2.1 hdg (by simp) w) h
theorem g_i2b {a : Int} (hC : Ok C V cc own nL fr lc) (hdg : decode cc pc = .ok (.i2b, 1)) (h : G C V L ca sl nL (pc + 1) lv (vI (w8 a) :: st) X f) : G C V L ca sl nL pc lv (vI a :: st) X f :=
  g_lift (fun _ _ _ _ w => lv_i2b (v := Int32.ofInt (w8 a)) hC.1 hC.2.1 hdg (by rw [w8, Int32.ofInt_int8ToInt]) w) h
theorem g_i2s {a : Int} (hC : Ok C V cc own nL fr lc) (hdg : decode cc pc = .ok (.i2s, 1)) (h : G C V L ca sl nL (pc + 1) lv (vI (w16 a) :: st) X f) : G C V L ca sl nL pc lv (vI a :: st) X f :=
  g_lift (fun _ _ _ _ w => lv_i2s (v := Int32.ofInt (w16 a)) hC.1 hC.2.1 hdg (by rw [w16, Int32.ofInt_int16ToInt]) w) h
theorem g_idiv {a b : Int} (hC : Ok C V cc own nL fr lc) (hdg : decode cc pc = .ok (.idiv, 1)) (h : G C V L ca sl nL (pc + 1) lv (vI (a / b) :: st) X f) : G C V L ca sl nL pc lv (vI b :: vI a :: st) X (cd a b f) := by
  intro hk
  unfold cd at hk
  split at hk
  · rename_i h1
    refine g_lift (fun _ _ _ _ w => lv_idiv hC.1 hC.2.1 hdg (fun e => ?_) ?_) h hk
    · exact absurd ((i32_eq (b := 0) ⟨by omega, h1.2.2⟩ (by decide)).mp e) (by omega)
    · rw [← Int.tdiv_eq_ediv_of_nonneg h1.1.1, vI, Int32.ofInt_tdiv (by show (-2147483648 : Int) ≤ a; omega) h1.1.2 (by show (-2147483648 : Int) ≤ b; omega) h1.2.2] at w
      exact w
  · cases hk
theorem g_irem {a b : Int} (hC : Ok C V cc own nL fr lc) (hdg : decode cc pc = .ok (.irem, 1)) (h : G C V L ca sl nL (pc + 1) lv (vI (a % b) :: st) X f) : G C V L ca sl nL pc lv (vI b :: vI a :: st) X (cd a b f) := by
  intro hk
  unfold cd at hk
  split at hk
  · rename_i h1
    refine g_lift (fun _ _ _ _ w => lv_irem hC.1 hC.2.1 hdg (fun e => ?_) ?_) h hk
    · exact absurd ((i32_eq (b := 0) ⟨by omega, h1.2.2⟩ (by decide)).mp e) (by omega)
    · rw [vI, show a % b = a - a / b * b from by rw [Int.emod_def, Int.mul_comm], ← Int.tdiv_eq_ediv_of_nonneg h1.1.1, Int32.ofInt_sub, Int32.ofInt_mul, Int32.ofInt_tdiv (by show (-2147483648 : Int) ≤ a; omega) h1.1.2 (by show (-2147483648 : Int) ≤ b; omega) h1.2.2] at w
      exact w
  · cases hk
theorem g_ldiv {a b : Int} (hC : Ok C V cc own nL fr lc) (hdg : decode cc pc = .ok (.ldiv, 1)) (h : G C V L ca sl nL (pc + 1) lv (vJ (a / b) :: st) X f) : G C V L ca sl nL pc lv (vJ b :: vJ a :: st) X (dd a b f) := by
  intro hk
  unfold dd at hk
  split at hk
  · rename_i h1
    refine g_lift (fun _ _ _ _ w => lv_ldiv hC.1 hC.2.1 hdg (fun e => ?_) ?_) h hk
    · exact absurd ((i64_eq (b := 0) ⟨by omega, h1.2.2⟩ (by decide)).mp e) (by omega)
    · rw [← Int.tdiv_eq_ediv_of_nonneg h1.1.1, vJ, Int64.ofInt_tdiv (by show (-9223372036854775808 : Int) ≤ a; omega) h1.1.2 (by show (-9223372036854775808 : Int) ≤ b; omega) h1.2.2] at w
      exact w
  · cases hk
theorem g_lrem {a b : Int} (hC : Ok C V cc own nL fr lc) (hdg : decode cc pc = .ok (.lrem, 1)) (h : G C V L ca sl nL (pc + 1) lv (vJ (a % b) :: st) X f) : G C V L ca sl nL pc lv (vJ b :: vJ a :: st) X (dd a b f) := by
  intro hk
  unfold dd at hk
  split at hk
  · rename_i h1
    refine g_lift (fun _ _ _ _ w => lv_lrem hC.1 hC.2.1 hdg (fun e => ?_) ?_) h hk
    · exact absurd ((i64_eq (b := 0) ⟨by omega, h1.2.2⟩ (by decide)).mp e) (by omega)
    · rw [vJ, show a % b = a - a / b * b from by rw [Int.emod_def, Int.mul_comm], ← Int.tdiv_eq_ediv_of_nonneg h1.1.1, Int64.ofInt_sub, Int64.ofInt_mul, Int64.ofInt_tdiv (by show (-9223372036854775808 : Int) ≤ a; omega) h1.1.2 (by show (-9223372036854775808 : Int) ≤ b; omega) h1.2.2] at w
      exact w
  · cases hk
theorem g_dup {v : Value} (hC : Ok C V cc own nL fr lc) (hdg : decode cc pc = .ok (.dup, 1)) (hv : v.category = 1) (h : G C V L ca sl nL (pc + 1) lv (v :: v :: st) X f) : G C V L ca sl nL pc lv (v :: st) X f := g_lift (fun _ _ _ _ w => lv_dup hC.1 hC.2.1 hdg hv w) h
theorem g_pop {v : Value} (hC : Ok C V cc own nL fr lc) (hdg : decode cc pc = .ok (.pop, 1)) (hv : v.category = 1) (h : G C V L ca sl nL (pc + 1) lv st X f) : G C V L ca sl nL pc lv (v :: st) X f := g_lift (fun _ _ _ _ w => lv_pop hC.1 hC.2.1 hdg hv w) h
theorem g_dup2 {v u : Value} (hC : Ok C V cc own nL fr lc) (hdg : decode cc pc = .ok (.dup2, 1)) (hv : v.category = 1) (hu : u.category = 1) (h : G C V L ca sl nL (pc + 1) lv (v :: u :: v :: u :: st) X f) : G C V L ca sl nL pc lv (v :: u :: st) X f := g_lift (fun _ _ _ _ w => lv_dup2_11 hC.1 hC.2.1 hdg hv hu w) h
theorem g_dup2l {v : Value} (hC : Ok C V cc own nL fr lc) (hdg : decode cc pc = .ok (.dup2, 1)) (hv : v.category = 2) (h : G C V L ca sl nL (pc + 1) lv (v :: v :: st) X f) : G C V L ca sl nL pc lv (v :: st) X f := g_lift (fun _ _ _ _ w => lv_dup2_2 hC.1 hC.2.1 hdg hv w) h
theorem g_goto {off : Int} {tgt : Nat} (hC : Ok C V cc own nL fr lc) (hdg : decode cc pc = .ok (.goto off, 3)) (ht : (pc : Int) + off = (tgt : Int)) (h : G C V L ca sl nL tgt lv st X f) : G C V L ca sl nL pc lv st X f := g_lift (fun _ _ _ _ w => lv_goto hC.1 hC.2.1 hdg ht w) h
theorem g_if_eq {a off : Int} {tgt : Nat} (hC : Ok C V cc own nL fr lc) (hdg : decode cc pc = .ok (.ifCond .eq off, 3)) (ht : (pc : Int) + off = (tgt : Int)) (h1 : G C V L ca sl nL tgt lv st X f1) (h2 : G C V L ca sl nL (pc + 3) lv st X f2) : G C V L ca sl nL pc lv (vI a :: st) X (c1 a (if a = 0 then f1 else f2)) :=
  g_c1 fun ha hk H locs ls hP hS hl => lv_if_eq hC.1 hC.2.1 hdg ht (fun q => h1 (by rw [if_pos ((i32_eq ha (b := 0) (by decide)).mp q)] at hk; exact hk) H locs ls hP hS hl) (fun q => h2 (by rw [if_neg (fun z => q ((i32_eq ha (b := 0) (by decide)).mpr z))] at hk; exact hk) H locs ls hP hS hl)
theorem g_icmp_eq {a b off : Int} {tgt : Nat} (hC : Ok C V cc own nL fr lc) (hdg : decode cc pc = .ok (.if_icmp .eq off, 3)) (ht : (pc : Int) + off = (tgt : Int)) (h1 : G C V L ca sl nL tgt lv st X f1) (h2 : G C V L ca sl nL (pc + 3) lv st X f2) : G C V L ca sl nL pc lv (vI b :: vI a :: st) X (c2 a b (if a = b then f1 else f2)) :=
  g_c2 fun ha hb hk H locs ls hP hS hl => lv_icmp_eq hC.1 hC.2.1 hdg ht (fun q => h1 (by rw [if_pos ((i32_eq ha hb).mp q)] at hk; exact hk) H locs ls hP hS hl) (fun q => h2 (by rw [if_neg (fun z => q ((i32_eq ha hb).mpr z))] at hk; exact hk) H locs ls hP hS hl)
theorem g_if_ne {a off : Int} {tgt : Nat} (hC : Ok C V cc own nL fr lc) (hdg : decode cc pc = .ok (.ifCond .ne off, 3)) (ht : (pc : Int) + off = (tgt : Int)) (h1 : G C V L ca sl nL tgt lv st X f1) (h2 : G C V L ca sl nL (pc + 3) lv st X f2) : G C V L ca sl nL pc lv (vI a :: st) X (c1 a (if ¬ a = 0 then f1 else f2)) :=
  g_c1 fun ha hk H locs ls hP hS hl => lv_if_ne hC.1 hC.2.1 hdg ht (fun q => h1 (by rw [if_pos ((not_congr (i32_eq ha (b := 0) (by decide))).mp q)] at hk; exact hk) H locs ls hP hS hl) (fun q => h2 (by rw [if_neg (fun z => z ((i32_eq ha (b := 0) (by decide)).mp q))] at hk; exact hk) H locs ls hP hS hl)
theorem g_icmp_ne {a b off : Int} {tgt : Nat} (hC : Ok C V cc own nL fr lc) (hdg : decode cc pc = .ok (.if_icmp .ne off, 3)) (ht : (pc : Int) + off = (tgt : Int)) (h1 : G C V L ca sl nL tgt lv st X f1) (h2 : G C V L ca sl nL (pc + 3) lv st X f2) : G C V L ca sl nL pc lv (vI b :: vI a :: st) X (c2 a b (if ¬ a = b then f1 else f2)) :=
  g_c2 fun ha hb hk H locs ls hP hS hl => lv_icmp_ne hC.1 hC.2.1 hdg ht (fun q => h1 (by rw [if_pos ((not_congr (i32_eq ha hb)).mp q)] at hk; exact hk) H locs ls hP hS hl) (fun q => h2 (by rw [if_neg (fun z => z ((i32_eq ha hb).mp q))] at hk; exact hk) H locs ls hP hS hl)
theorem g_if_lt {a off : Int} {tgt : Nat} (hC : Ok C V cc own nL fr lc) (hdg : decode cc pc = .ok (.ifCond .lt off, 3)) (ht : (pc : Int) + off = (tgt : Int)) (h1 : G C V L ca sl nL tgt lv st X f1) (h2 : G C V L ca sl nL (pc + 3) lv st X f2) : G C V L ca sl nL pc lv (vI a :: st) X (c1 a (if a < 0 then f1 else f2)) :=
  g_c1 fun ha hk H locs ls hP hS hl => lv_if_lt hC.1 hC.2.1 hdg ht (fun q => h1 (by rw [if_pos ((i32_lt ha (b := 0) (by decide)).mp q)] at hk; exact hk) H locs ls hP hS hl) (fun q => h2 (by rw [if_neg (fun z => q ((i32_lt ha (b := 0) (by decide)).mpr z))] at hk; exact hk) H locs ls hP hS hl)
theorem g_icmp_lt {a b off : Int} {tgt : Nat} (hC : Ok C V cc own nL fr lc) (hdg : decode cc pc = .ok (.if_icmp .lt off, 3)) (ht : (pc : Int) + off = (tgt : Int)) (h1 : G C V L ca sl nL tgt lv st X f1) (h2 : G C V L ca sl nL (pc + 3) lv st X f2) : G C V L ca sl nL pc lv (vI b :: vI a :: st) X (c2 a b (if a < b then f1 else f2)) :=
  g_c2 fun ha hb hk H locs ls hP hS hl => lv_icmp_lt hC.1 hC.2.1 hdg ht (fun q => h1 (by rw [if_pos ((i32_lt ha hb).mp q)] at hk; exact hk) H locs ls hP hS hl) (fun q => h2 (by rw [if_neg (fun z => q ((i32_lt ha hb).mpr z))] at hk; exact hk) H locs ls hP hS hl)
theorem g_if_ge {a off : Int} {tgt : Nat} (hC : Ok C V cc own nL fr lc) (hdg : decode cc pc = .ok (.ifCond .ge off, 3)) (ht : (pc : Int) + off = (tgt : Int)) (h1 : G C V L ca sl nL tgt lv st X f1) (h2 : G C V L ca sl nL (pc + 3) lv st X f2) : G C V L ca sl nL pc lv (vI a :: st) X (c1 a (if 0 ≤ a then f1 else f2)) :=
  g_c1 fun ha hk H locs ls hP hS hl => lv_if_ge hC.1 hC.2.1 hdg ht (fun q => h1 (by rw [if_pos ((i32_le (a := 0) (by decide) ha).mp q)] at hk; exact hk) H locs ls hP hS hl) (fun q => h2 (by rw [if_neg (fun z => q ((i32_le (a := 0) (by decide) ha).mpr z))] at hk; exact hk) H locs ls hP hS hl)
theorem g_icmp_ge {a b off : Int} {tgt : Nat} (hC : Ok C V cc own nL fr lc) (hdg : decode cc pc = .ok (.if_icmp .ge off, 3)) (ht : (pc : Int) + off = (tgt : Int)) (h1 : G C V L ca sl nL tgt lv st X f1) (h2 : G C V L ca sl nL (pc + 3) lv st X f2) : G C V L ca sl nL pc lv (vI b :: vI a :: st) X (c2 a b (if b ≤ a then f1 else f2)) :=
  g_c2 fun ha hb hk H locs ls hP hS hl => lv_icmp_ge hC.1 hC.2.1 hdg ht (fun q => h1 (by rw [if_pos ((i32_le hb ha).mp q)] at hk; exact hk) H locs ls hP hS hl) (fun q => h2 (by rw [if_neg (fun z => q ((i32_le hb ha).mpr z))] at hk; exact hk) H locs ls hP hS hl)
theorem g_if_gt {a off : Int} {tgt : Nat} (hC : Ok C V cc own nL fr lc) (hdg : decode cc pc = .ok (.ifCond .gt off, 3)) (ht : (pc : Int) + off = (tgt : Int)) (h1 : G C V L ca sl nL tgt lv st X f1) (h2 : G C V L ca sl nL (pc + 3) lv st X f2) : G C V L ca sl nL pc lv (vI a :: st) X (c1 a (if 0 < a then f1 else f2)) :=
  g_c1 fun ha hk H locs ls hP hS hl => lv_if_gt hC.1 hC.2.1 hdg ht (fun q => h1 (by rw [if_pos ((i32_lt (a := 0) (by decide) ha).mp q)] at hk; exact hk) H locs ls hP hS hl) (fun q => h2 (by rw [if_neg (fun z => q ((i32_lt (a := 0) (by decide) ha).mpr z))] at hk; exact hk) H locs ls hP hS hl)
theorem g_icmp_gt {a b off : Int} {tgt : Nat} (hC : Ok C V cc own nL fr lc) (hdg : decode cc pc = .ok (.if_icmp .gt off, 3)) (ht : (pc : Int) + off = (tgt : Int)) (h1 : G C V L ca sl nL tgt lv st X f1) (h2 : G C V L ca sl nL (pc + 3) lv st X f2) : G C V L ca sl nL pc lv (vI b :: vI a :: st) X (c2 a b (if b < a then f1 else f2)) :=
  g_c2 fun ha hb hk H locs ls hP hS hl => lv_icmp_gt hC.1 hC.2.1 hdg ht (fun q => h1 (by rw [if_pos ((i32_lt hb ha).mp q)] at hk; exact hk) H locs ls hP hS hl) (fun q => h2 (by rw [if_neg (fun z => q ((i32_lt hb ha).mpr z))] at hk; exact hk) H locs ls hP hS hl)
theorem g_if_le {a off : Int} {tgt : Nat} (hC : Ok C V cc own nL fr lc) (hdg : decode cc pc = .ok (.ifCond .le off, 3)) (ht : (pc : Int) + off = (tgt : Int)) (h1 : G C V L ca sl nL tgt lv st X f1) (h2 : G C V L ca sl nL (pc + 3) lv st X f2) : G C V L ca sl nL pc lv (vI a :: st) X (c1 a (if a ≤ 0 then f1 else f2)) :=
  g_c1 fun ha hk H locs ls hP hS hl => lv_if_le hC.1 hC.2.1 hdg ht (fun q => h1 (by rw [if_pos ((i32_le ha (b := 0) (by decide)).mp q)] at hk; exact hk) H locs ls hP hS hl) (fun q => h2 (by rw [if_neg (fun z => q ((i32_le ha (b := 0) (by decide)).mpr z))] at hk; exact hk) H locs ls hP hS hl)
theorem g_icmp_le {a b off : Int} {tgt : Nat} (hC : Ok C V cc own nL fr lc) (hdg : decode cc pc = .ok (.if_icmp .le off, 3)) (ht : (pc : Int) + off = (tgt : Int)) (h1 : G C V L ca sl nL tgt lv st X f1) (h2 : G C V L ca sl nL (pc + 3) lv st X f2) : G C V L ca sl nL pc lv (vI b :: vI a :: st) X (c2 a b (if a ≤ b then f1 else f2)) :=
  g_c2 fun ha hb hk H locs ls hP hS hl => lv_icmp_le hC.1 hC.2.1 hdg ht (fun q => h1 (by rw [if_pos ((i32_le ha hb).mp q)] at hk; exact hk) H locs ls hP hS hl) (fun q => h2 (by rw [if_neg (fun z => q ((i32_le ha hb).mpr z))] at hk; exact hk) H locs ls hP hS hl)
theorem lgc {x y : Int64} : (lg_cmp x y < 0 ↔ x < y) ∧ (lg_cmp x y = 0 ↔ x = y) ∧ (0 < lg_cmp x y ↔ y < x) ∧ (0 ≤ lg_cmp x y ↔ y ≤ x) ∧ (lg_cmp x y ≤ 0 ↔ x ≤ y) := by
  have n1 : ¬ (1 : Int32) < 0 := by decide
  have n2 : ¬ (0 : Int32) < 0 := by decide
  have n3 : (-1 : Int32) < 0 := by decide
  have n4 : (0 : Int32) < 1 := by decide
  have n5 : ¬ (0 : Int32) < -1 := by decide
  have n6 : (0 : Int32) ≤ 1 := by decide
  have n7 : ¬ (0 : Int32) ≤ -1 := by decide
  have n8 : ¬ (1 : Int32) ≤ 0 := by decide
  have n9 : (-1 : Int32) ≤ 0 := by decide
  have na : (0 : Int32) ≤ 0 := by decide
  have nb : ¬ (1 : Int32) = 0 := by decide
  have nc : ¬ (-1 : Int32) = 0 := by decide
  unfold lg_cmp
  simp only [gt_iff_lt, Int64.lt_iff_toInt_lt, Int64.le_iff_toInt_le, ← Int64.toInt_inj]
  split
  · simp only [n1, n4, n6, n8, nb, false_iff, true_iff]; omega
  · split
    · simp only [n2, na, false_iff, true_iff]; omega
    · simp only [n3, n5, n7, n9, nc, false_iff, true_iff]; omega
theorem g_lcmp_eq {a b off : Int} {tgt pc1 : Nat} (hC : Ok C V cc own nL fr lc) (hd0 : decode cc pc = .ok (.lcmp, 1)) (h01 : pc + 1 = pc1) (hdg : decode cc pc1 = .ok (.ifCond .eq off, 3)) (ht : (pc1 : Int) + off = (tgt : Int)) (h1 : G C V L ca sl nL tgt lv st X f1) (h2 : G C V L ca sl nL (pc1 + 3) lv st X f2) : G C V L ca sl nL pc lv (vJ b :: vJ a :: st) X (d2 a b (if a = b then f1 else f2)) := by
  subst h01
  exact g_d2 fun ha hb hk H locs ls hP hS hl => W.lcmp hC.1 hC.2.1 hd0 (lv_if_eq hC.1 hC.2.1 hdg ht (fun q => h1 (by rw [if_pos ((lgc.2.1.trans (i64_eq ha hb)).mp q)] at hk; exact hk) H locs ls hP hS hl) (fun q => h2 (by rw [if_neg (fun z => q ((lgc.2.1.trans (i64_eq ha hb)).mpr z))] at hk; exact hk) H locs ls hP hS hl))
theorem g_lcmp_ne {a b off : Int} {tgt pc1 : Nat} (hC : Ok C V cc own nL fr lc) (hd0 : decode cc pc = .ok (.lcmp, 1)) (h01 : pc + 1 = pc1) (hdg : decode cc pc1 = .ok (.ifCond .ne off, 3)) (ht : (pc1 : Int) + off = (tgt : Int)) (h1 : G C V L ca sl nL tgt lv st X f1) (h2 : G C V L ca sl nL (pc1 + 3) lv st X f2) : G C V L ca sl nL pc lv (vJ b :: vJ a :: st) X (d2 a b (if ¬ a = b then f1 else f2)) := by
  subst h01
  exact g_d2 fun ha hb hk H locs ls hP hS hl => W.lcmp hC.1 hC.2.1 hd0 (lv_if_ne hC.1 hC.2.1 hdg ht (fun q => h1 (by rw [if_pos ((not_congr (lgc.2.1.trans (i64_eq ha hb))).mp q)] at hk; exact hk) H locs ls hP hS hl) (fun q => h2 (by rw [if_neg (fun z => z ((lgc.2.1.trans (i64_eq ha hb)).mp q))] at hk; exact hk) H locs ls hP hS hl))
theorem g_lcmp_lt {a b off : Int} {tgt pc1 : Nat} (hC : Ok C V cc own nL fr lc) (hd0 : decode cc pc = .ok (.lcmp, 1)) (h01 : pc + 1 = pc1) (hdg : decode cc pc1 = .ok (.ifCond .lt off, 3)) (ht : (pc1 : Int) + off = (tgt : Int)) (h1 : G C V L ca sl nL tgt lv st X f1) (h2 : G C V L ca sl nL (pc1 + 3) lv st X f2) : G C V L ca sl nL pc lv (vJ b :: vJ a :: st) X (d2 a b (if a < b then f1 else f2)) := by
  subst h01
  exact g_d2 fun ha hb hk H locs ls hP hS hl => W.lcmp hC.1 hC.2.1 hd0 (lv_if_lt hC.1 hC.2.1 hdg ht (fun q => h1 (by rw [if_pos ((lgc.1.trans (i64_lt ha hb)).mp q)] at hk; exact hk) H locs ls hP hS hl) (fun q => h2 (by rw [if_neg (fun z => q ((lgc.1.trans (i64_lt ha hb)).mpr z))] at hk; exact hk) H locs ls hP hS hl))
theorem g_lcmp_ge {a b off : Int} {tgt pc1 : Nat} (hC : Ok C V cc own nL fr lc) (hd0 : decode cc pc = .ok (.lcmp, 1)) (h01 : pc + 1 = pc1) (hdg : decode cc pc1 = .ok (.ifCond .ge off, 3)) (ht : (pc1 : Int) + off = (tgt : Int)) (h1 : G C V L ca sl nL tgt lv st X f1) (h2 : G C V L ca sl nL (pc1 + 3) lv st X f2) : G C V L ca sl nL pc lv (vJ b :: vJ a :: st) X (d2 a b (if b ≤ a then f1 else f2)) := by
  subst h01
  exact g_d2 fun ha hb hk H locs ls hP hS hl => W.lcmp hC.1 hC.2.1 hd0 (lv_if_ge hC.1 hC.2.1 hdg ht (fun q => h1 (by rw [if_pos ((lgc.2.2.2.1.trans (i64_le hb ha)).mp q)] at hk; exact hk) H locs ls hP hS hl) (fun q => h2 (by rw [if_neg (fun z => q ((lgc.2.2.2.1.trans (i64_le hb ha)).mpr z))] at hk; exact hk) H locs ls hP hS hl))
theorem g_lcmp_gt {a b off : Int} {tgt pc1 : Nat} (hC : Ok C V cc own nL fr lc) (hd0 : decode cc pc = .ok (.lcmp, 1)) (h01 : pc + 1 = pc1) (hdg : decode cc pc1 = .ok (.ifCond .gt off, 3)) (ht : (pc1 : Int) + off = (tgt : Int)) (h1 : G C V L ca sl nL tgt lv st X f1) (h2 : G C V L ca sl nL (pc1 + 3) lv st X f2) : G C V L ca sl nL pc lv (vJ b :: vJ a :: st) X (d2 a b (if b < a then f1 else f2)) := by
  subst h01
  exact g_d2 fun ha hb hk H locs ls hP hS hl => W.lcmp hC.1 hC.2.1 hd0 (lv_if_gt hC.1 hC.2.1 hdg ht (fun q => h1 (by rw [if_pos ((lgc.2.2.1.trans (i64_lt hb ha)).mp q)] at hk; exact hk) H locs ls hP hS hl) (fun q => h2 (by rw [if_neg (fun z => q ((lgc.2.2.1.trans (i64_lt hb ha)).mpr z))] at hk; exact hk) H locs ls hP hS hl))
theorem g_lcmp_le {a b off : Int} {tgt pc1 : Nat} (hC : Ok C V cc own nL fr lc) (hd0 : decode cc pc = .ok (.lcmp, 1)) (h01 : pc + 1 = pc1) (hdg : decode cc pc1 = .ok (.ifCond .le off, 3)) (ht : (pc1 : Int) + off = (tgt : Int)) (h1 : G C V L ca sl nL tgt lv st X f1) (h2 : G C V L ca sl nL (pc1 + 3) lv st X f2) : G C V L ca sl nL pc lv (vJ b :: vJ a :: st) X (d2 a b (if a ≤ b then f1 else f2)) := by
  subst h01
  exact g_d2 fun ha hb hk H locs ls hP hS hl => W.lcmp hC.1 hC.2.1 hd0 (lv_if_le hC.1 hC.2.1 hdg ht (fun q => h1 (by rw [if_pos ((lgc.2.2.2.2.trans (i64_le ha hb)).mp q)] at hk; exact hk) H locs ls hP hS hl) (fun q => h2 (by rw [if_neg (fun z => q ((lgc.2.2.2.2.trans (i64_le ha hb)).mpr z))] at hk; exact hk) H locs ls hP hS hl))
theorem g_iret {a : Int} (hC : Ok C V cc own nL fr lc) (hR : Rt C V L (some .int) rI) (hdg : decode cc pc = .ok (.ireturn, 1)) : G C V L 0 0 nL pc lv [vI a] X (some (a, X)) := by
  intro hk H locs ls hP hS hl
  obtain ⟨hr, hlk, hQ⟩ := hR
  rw [hQ]
  refine W.iret hC.1 hC.2.1 hr (fun t ht hW => ?_) hS.2.2 hdg hlk
  rw [← Option.some.inj hk]
  exact ⟨rfl, by rw [ht]; exact hP, hS.F ht⟩
theorem nar_z {a : Int} (h : a = 0 ∨ a = 1) : narrow .boolean (.int (Int32.ofInt a)) = .int (Int32.ofInt a) := by
  rcases h with rfl | rfl <;> decide +kernel
theorem g_zret {a : Int} (hC : Ok C V cc own nL fr lc) (hR : Rt C V L (some .boolean) rI) (hdg : decode cc pc = .ok (.ireturn, 1)) : G C V L 0 0 nL pc lv [vI a] X (cz a (some (a, X))) := by
  refine g_cz fun hz hk H locs ls hP hS hl => ?_
  obtain ⟨hr, hlk, hQ⟩ := hR
  rw [hQ]
  refine W.zret hC.1 hC.2.1 hr (nar_z hz) (fun t ht hW => ?_) hS.2.2 hdg hlk
  rw [← Option.some.inj hk]
  exact ⟨rfl, by rw [ht]; exact hP, hS.F ht⟩
theorem g_lret {a : Int} (hC : Ok C V cc own nL fr lc) (hR : Rt C V L (some .long) rJ) (hdg : decode cc pc = .ok (.lreturn, 1)) : G C V L 0 0 nL pc lv [vJ a] X (some (a, X)) := by
  intro hk H locs ls hP hS hl
  obtain ⟨hr, hlk, hQ⟩ := hR
  rw [hQ]
  refine W.lret hC.1 hC.2.1 hr (fun t ht hW => ?_) hS.2.2 hdg hlk
  rw [← Option.some.inj hk]
  exact ⟨rfl, by rw [ht]; exact hP, hS.F ht⟩
theorem g_vret (hC : Ok C V cc own nL fr lc) (hR : Rt C V L none rV) (hdg : decode cc pc = .ok (.return_, 1)) : G C V L 0 0 nL pc lv [] X (some (0, X)) := by
  intro hk H locs ls hP hS hl
  obtain ⟨hr, hlk, hQ⟩ := hR
  rw [hQ]
  refine W.vret hC.1 hC.2.1 hr (fun t ht hW => ?_) hS.2.2 hdg hlk
  rw [← Option.some.inj hk]
  exact ⟨rfl, by rw [ht]; exact hP, hS.F ht⟩
def Cf (ci : Nat) (K : String) (T : u_T) (N : Nat) (ty : Nat → FieldType) : Prop := vwCl[ci]? = some (K, T, N) ∧ (∀ w ∈ u_ws K T N, w ∈ WS) ∧ (∀ k, k < N → parseFieldDescriptor (T k).2.2.1 = some (ty k)) ∧ (∀ a, a < N → ∀ b, b < N → a ≠ b → (T a).2.1 ≠ (T b).2.1)
theorem shv_I (b : Nat) (v : Int) : shv b (-1) v = vI v := rfl
theorem shv_J (b : Nat) (v : Int) : shv b (-2) v = vJ v := rfl
theorem shv_D (b : Nat) (v : Int) : shv b (-3) v = vR b v := rfl
theorem shv_S (b : Nat) {s : Int} (v : Int) (h : 0 ≤ s) : shv b s v = vR b s := if_pos h
theorem kdE_o {b : Nat} {cs : Nat → ClassId} {ci : Nat} {sh : List Int} {x : Int → Int} (h : ci < 100) : kdE b cs (ci, sh) x = .inr (ci, sh.mapIdx fun (k : Nat) s => shv b s (x k)) := if_pos h
theorem g_get {i : Int} {ci : Nat} {shs : List Int} {K : String} {T : u_T} {N : Nat} {ty : Nat → FieldType} {k ix : Nat} {sh : Int} {v : Value} (hC : Ok C V cc own nL fr lc) (hf : Cf ci K T N ty) (hA : At L i (ci, shs)) (hci : ci < 100) (hsh : shs[k]? = some sh) (hk : k < N) (hlink : Cond.fieldLink own ix (T k).1 (T k).2.1 (T k).2.2.1 ∈ WS) (hv : shv V.1 sh (X i k) = v) (hdg : decode cc pc = .ok (.getfield ix, 3)) (h : G C V L ca sl nL (pc + 3) lv (v :: st) X f) : G C V L ca sl nL pc lv (vR V.1 i :: st) X f := by
  intro hk2 H locs ls hP hS hl
  have he := WL_at (b := V.1) (cs := V.2.2.1) (X := X) hA
  rw [kdE_o hci] at he
  refine va_get hC.1 hC.2.1 hC.2.2.2.2.1 hf.2.1 hC.2.2.2.1 hC.2.2.2.2.2.1.1 hP i.toNat he hf.1 k hk (hC.2.2.2.2.1 _ hlink) (fun _ q => q) (v := v) ?_ hdg (h hk2 H locs ls hP hS hl)
  rw [List.getElem?_mapIdx, hsh, Option.map_some, hv]
theorem g_getI {i : Int} {ci : Nat} {shs : List Int} {K : String} {T : u_T} {N : Nat} {ty : Nat → FieldType} {k ix : Nat} {kz : Int} (hC : Ok C V cc own nL fr lc) (hf : Cf ci K T N ty) (hA : At L i (ci, shs)) (hci : ci < 100) (hsh : shs[k]? = some (-1)) (hk : k < N) (hz : (k : Int) = kz) (hlink : Cond.fieldLink own ix (T k).1 (T k).2.1 (T k).2.2.1 ∈ WS) (hdg : decode cc pc = .ok (.getfield ix, 3)) (h : G C V L ca sl nL (pc + 3) lv (vI (X i kz) :: st) X f) : G C V L ca sl nL pc lv (vR V.1 i :: st) X f := by
  subst hz
  exact g_get hC hf hA hci hsh hk hlink (shv_I _ _) hdg h
theorem g_getJ {i : Int} {ci : Nat} {shs : List Int} {K : String} {T : u_T} {N : Nat} {ty : Nat → FieldType} {k ix : Nat} {kz : Int} (hC : Ok C V cc own nL fr lc) (hf : Cf ci K T N ty) (hA : At L i (ci, shs)) (hci : ci < 100) (hsh : shs[k]? = some (-2)) (hk : k < N) (hz : (k : Int) = kz) (hlink : Cond.fieldLink own ix (T k).1 (T k).2.1 (T k).2.2.1 ∈ WS) (hdg : decode cc pc = .ok (.getfield ix, 3)) (h : G C V L ca sl nL (pc + 3) lv (vJ (X i kz) :: st) X f) : G C V L ca sl nL pc lv (vR V.1 i :: st) X f := by
  subst hz
  exact g_get hC hf hA hci hsh hk hlink (shv_J _ _) hdg h
theorem g_getD {i : Int} {ci : Nat} {shs : List Int} {K : String} {T : u_T} {N : Nat} {ty : Nat → FieldType} {k ix : Nat} {kz : Int} (hC : Ok C V cc own nL fr lc) (hf : Cf ci K T N ty) (hA : At L i (ci, shs)) (hci : ci < 100) (hsh : shs[k]? = some (-3)) (hk : k < N) (hz : (k : Int) = kz) (hlink : Cond.fieldLink own ix (T k).1 (T k).2.1 (T k).2.2.1 ∈ WS) (hdg : decode cc pc = .ok (.getfield ix, 3)) (h : G C V L ca sl nL (pc + 3) lv (vR V.1 (X i kz) :: st) X f) : G C V L ca sl nL pc lv (vR V.1 i :: st) X f := by
  subst hz
  exact g_get hC hf hA hci hsh hk hlink (shv_D _ _) hdg h
theorem g_getS {i sh : Int} {ci : Nat} {shs : List Int} {K : String} {T : u_T} {N : Nat} {ty : Nat → FieldType} {k ix : Nat} (hC : Ok C V cc own nL fr lc) (hf : Cf ci K T N ty) (hA : At L i (ci, shs)) (hci : ci < 100) (hsh : shs[k]? = some sh) (hs0 : 0 ≤ sh) (hk : k < N) (hlink : Cond.fieldLink own ix (T k).1 (T k).2.1 (T k).2.2.1 ∈ WS) (hdg : decode cc pc = .ok (.getfield ix, 3)) (h : G C V L ca sl nL (pc + 3) lv (vR V.1 sh :: st) X f) : G C V L ca sl nL pc lv (vR V.1 i :: st) X f :=
  g_get hC hf hA hci hsh hk hlink (shv_S _ _ hs0) hdg h
theorem kdE_put {b : Nat} {cs : Nat → ClassId} {X : Mem} {i : Int} {ci k : Nat} {shs : List Int} {sh y : Int} {v : Value} (hci : ci < 100) (hsh : shs[k]? = some sh) (hv : shv b sh y = v) :
    (Sum.inr (ci, (shs.mapIdx fun (k' : Nat) s => shv b s (X i k')).set k v) : va_E) = kdE b cs (ci, shs) ((ms X i k y) i) := by
  rw [kdE_o hci]
  congr 2
  apply List.ext_getElem?
  intro j
  rw [List.getElem?_set, List.getElem?_mapIdx, List.getElem?_mapIdx]
  have hl : k < shs.length := (List.getElem?_eq_some_iff.mp hsh).1
  by_cases hj : k = j
  · subst hj
    rw [if_pos rfl, if_pos (by rw [List.length_mapIdx]; exact hl), hsh, Option.map_some]
    simp [ms, hv]
  · rw [if_neg hj]
    congr 1
    funext s
    have : ¬ ((j : Int) = (k : Int)) := by omega
    simp [ms, this]
theorem g_put {i y : Int} {ci : Nat} {shs : List Int} {K : String} {T : u_T} {N : Nat} {ty : Nat → FieldType} {k ix : Nat} {sh : Int} {v : Value} {tv : FieldType} (hC : Ok C V cc own nL fr lc) (hf : Cf ci K T N ty) (hA : At L i (ci, shs)) (hci : ci < 100) (hsh : shs[k]? = some sh) (hk : k < N) (hlink : Cond.fieldLink own ix (T k).1 (T k).2.1 (T k).2.2.1 ∈ WS) (hv : shv V.1 sh y = v) (hfin : (T k).2.2.2 = false) (hty : ty k = tv) (hn : narrow tv v = v) (hfit : fits tv v = true) (hdg : decode cc pc = .ok (.putfield ix, 3)) (h : G C V L ca sl nL (pc + 3) lv st (ms X i k y) f) : G C V L ca sl nL pc lv (v :: vR V.1 i :: st) X f := by
  intro hk2 H locs ls hP hS hl
  have he := WL_at (b := V.1) (cs := V.2.2.1) (X := X) hA
  rw [kdE_o hci] at he
  have hl2 : k < shs.length := (List.getElem?_eq_some_iff.mp hsh).1
  refine va_put hC.1 hC.2.1 hC.2.2.2.2.1 hf.2.1 ty hf.2.2.1 hf.2.2.2 hC.2.2.2.1 hC.2.2.2.2.2.1.1 hP (WL_D _ _ _ _) hS i.toNat he hf.1 k hk (hC.2.2.2.2.1 _ hlink) (fun _ q => q) hfin (hf.2.2.1 k hk) (by rw [hty]; exact hn) (by rw [hty]; exact hfit) (by rw [List.length_mapIdx]; exact hl2) hdg (fun H1 locs1 hP1 _ hS1 => ?_)
  rw [WL_set (X' := ms X i k y) hA (kdE_put hci hsh hv) (fun j hj => ms_ne hj)] at hP1
  exact h hk2 H1 locs1 ls hP1 hS1 hl
theorem g_putI {i y : Int} {ci : Nat} {shs : List Int} {K : String} {T : u_T} {N : Nat} {ty : Nat → FieldType} {k ix : Nat} {kz : Int} {fm : Mem → Option (Int × Mem)} (hC : Ok C V cc own nL fr lc) (hf : Cf ci K T N ty) (hA : At L i (ci, shs)) (hci : ci < 100) (hsh : shs[k]? = some (-1)) (hk : k < N) (hz : (k : Int) = kz) (hlink : Cond.fieldLink own ix (T k).1 (T k).2.1 (T k).2.2.1 ∈ WS) (hfin : (T k).2.2.2 = false) (hty : ty k = .int) (hdg : decode cc pc = .ok (.putfield ix, 3)) (h : ∀ X1 : Mem, G C V L ca sl nL (pc + 3) lv st X1 (fm X1)) : G C V L ca sl nL pc lv (vI y :: vR V.1 i :: st) X (bd (ms X i kz y) fm) := by
  subst hz
  exact g_put hC hf hA hci hsh hk hlink (shv_I _ _) hfin hty rfl rfl hdg (h _)
theorem g_putZ {i y : Int} {ci : Nat} {shs : List Int} {K : String} {T : u_T} {N : Nat} {ty : Nat → FieldType} {k ix : Nat} {kz : Int} {fm : Mem → Option (Int × Mem)} (hC : Ok C V cc own nL fr lc) (hf : Cf ci K T N ty) (hA : At L i (ci, shs)) (hci : ci < 100) (hsh : shs[k]? = some (-1)) (hk : k < N) (hz : (k : Int) = kz) (hlink : Cond.fieldLink own ix (T k).1 (T k).2.1 (T k).2.2.1 ∈ WS) (hfin : (T k).2.2.2 = false) (hty : ty k = .boolean) (hdg : decode cc pc = .ok (.putfield ix, 3)) (h : ∀ X1 : Mem, G C V L ca sl nL (pc + 3) lv st X1 (fm X1)) : G C V L ca sl nL pc lv (vI y :: vR V.1 i :: st) X (cz y (bd (ms X i kz y) fm)) := by
  subst hz
  exact g_cz fun hy => g_put hC hf hA hci hsh hk hlink (shv_I _ _) hfin hty (nar_z hy) (by rcases hy with rfl | rfl <;> decide +kernel) hdg (h _)
theorem g_putJ {i y : Int} {ci : Nat} {shs : List Int} {K : String} {T : u_T} {N : Nat} {ty : Nat → FieldType} {k ix : Nat} {kz : Int} {fm : Mem → Option (Int × Mem)} (hC : Ok C V cc own nL fr lc) (hf : Cf ci K T N ty) (hA : At L i (ci, shs)) (hci : ci < 100) (hsh : shs[k]? = some (-2)) (hk : k < N) (hz : (k : Int) = kz) (hlink : Cond.fieldLink own ix (T k).1 (T k).2.1 (T k).2.2.1 ∈ WS) (hfin : (T k).2.2.2 = false) (hty : ty k = .long) (hdg : decode cc pc = .ok (.putfield ix, 3)) (h : ∀ X1 : Mem, G C V L ca sl nL (pc + 3) lv st X1 (fm X1)) : G C V L ca sl nL pc lv (vJ y :: vR V.1 i :: st) X (bd (ms X i kz y) fm) := by
  subst hz
  exact g_put hC hf hA hci hsh hk hlink (shv_J _ _) hfin hty rfl rfl hdg (h _)
theorem g_putD {i y : Int} {ci : Nat} {shs : List Int} {K D : String} {T : u_T} {N : Nat} {ty : Nat → FieldType} {k ix : Nat} {kz : Int} {fm : Mem → Option (Int × Mem)} (hC : Ok C V cc own nL fr lc) (hf : Cf ci K T N ty) (hA : At L i (ci, shs)) (hci : ci < 100) (hsh : shs[k]? = some (-3)) (hk : k < N) (hz : (k : Int) = kz) (hlink : Cond.fieldLink own ix (T k).1 (T k).2.1 (T k).2.2.1 ∈ WS) (hfin : (T k).2.2.2 = false) (hty : ty k = .object D) (hdg : decode cc pc = .ok (.putfield ix, 3)) (h : ∀ X1 : Mem, G C V L ca sl nL (pc + 3) lv st X1 (fm X1)) : G C V L ca sl nL pc lv (vR V.1 y :: vR V.1 i :: st) X (bd (ms X i kz y) fm) := by
  subst hz
  exact g_put hC hf hA hci hsh hk hlink (shv_D _ _) hfin hty rfl rfl hdg (h _)
theorem g_iald {i n j : Int} (hC : Ok C V cc own nL fr lc) (hA : At L i (100, [n])) (hn : n ≤ 2147483647) (hdg : decode cc pc = .ok (.iaload, 1)) (h : G C V L ca sl nL (pc + 1) lv (vI (X i j) :: st) X f) : G C V L ca sl nL pc lv (vI j :: vR V.1 i :: st) X (ax n j f) := by
  refine g_ax fun hj hk H locs ls hP hS hl => ?_
  have hcl := i32_clamp (a := j) ⟨hj.1, by omega⟩
  refine va_iald hC.1 hC.2.1 hC.2.2.2.2.2.1.1 hP i.toNat 0 (WL_at hA) rfl (i := Int32.ofInt j) ?_ hdg ?_
  · rintro (q | q)
    · exact absurd ((i32_lt (b := 0) ⟨by omega, by omega⟩ (by decide)).mp q) (by omega)
    · rw [hcl] at q
      have q2 : n.toNat ≤ j.toNat := q
      omega
  · rw [hcl, Int.toNat_of_nonneg hj.1]
    exact h hk H locs ls hP hS hl
theorem g_bald {i n j : Int} (hC : Ok C V cc own nL fr lc) (hA : At L i (102, [n])) (hn : n ≤ 2147483647) (hdg : decode cc pc = .ok (.baload, 1)) (h : G C V L ca sl nL (pc + 1) lv (vI (X i j) :: st) X f) : G C V L ca sl nL pc lv (vI j :: vR V.1 i :: st) X (ax n j f) := by
  refine g_ax fun hj hk H locs ls hP hS hl => ?_
  have hcl := i32_clamp (a := j) ⟨hj.1, by omega⟩
  refine va_bald hC.1 hC.2.1 hC.2.2.2.2.2.1.1 hP i.toNat 2 (WL_at hA) rfl (i := Int32.ofInt j) ?_ hdg ?_
  · rintro (q | q)
    · exact absurd ((i32_lt (b := 0) ⟨by omega, by omega⟩ (by decide)).mp q) (by omega)
    · rw [hcl] at q
      have q2 : n.toNat ≤ j.toNat := q
      omega
  · rw [hcl, Int.toNat_of_nonneg hj.1]
    exact h hk H locs ls hP hS hl
theorem g_zald {i n j : Int} (hC : Ok C V cc own nL fr lc) (hA : At L i (103, [n])) (hn : n ≤ 2147483647) (hdg : decode cc pc = .ok (.baload, 1)) (h : G C V L ca sl nL (pc + 1) lv (vI (X i j) :: st) X f) : G C V L ca sl nL pc lv (vI j :: vR V.1 i :: st) X (ax n j f) := by
  refine g_ax fun hj hk H locs ls hP hS hl => ?_
  have hcl := i32_clamp (a := j) ⟨hj.1, by omega⟩
  refine va_zald hC.1 hC.2.1 hC.2.2.2.2.2.1.1 hP i.toNat 3 (WL_at hA) rfl (i := Int32.ofInt j) ?_ hdg ?_
  · rintro (q | q)
    · exact absurd ((i32_lt (b := 0) ⟨by omega, by omega⟩ (by decide)).mp q) (by omega)
    · rw [hcl] at q
      have q2 : n.toNat ≤ j.toNat := q
      omega
  · rw [hcl, Int.toNat_of_nonneg hj.1]
    exact h hk H locs ls hP hS hl
theorem g_lald {i n j : Int} (hC : Ok C V cc own nL fr lc) (hA : At L i (101, [n])) (hn : n ≤ 2147483647) (hdg : decode cc pc = .ok (.laload, 1)) (h : G C V L ca sl nL (pc + 1) lv (vJ (X i j) :: st) X f) : G C V L ca sl nL pc lv (vI j :: vR V.1 i :: st) X (ax n j f) := by
  refine g_ax fun hj hk H locs ls hP hS hl => ?_
  have hcl := i32_clamp (a := j) ⟨hj.1, by omega⟩
  refine va_lald hC.1 hC.2.1 hC.2.2.2.2.2.1.1 hP i.toNat 1 (WL_at hA) rfl (i := Int32.ofInt j) ?_ hdg ?_
  · rintro (q | q)
    · exact absurd ((i32_lt (b := 0) ⟨by omega, by omega⟩ (by decide)).mp q) (by omega)
    · rw [hcl] at q
      have q2 : n.toNat ≤ j.toNat := q
      omega
  · rw [hcl, Int.toNat_of_nonneg hj.1]
    exact h hk H locs ls hP hS hl
theorem upd_ms {X : Mem} {i j y : Int} (h0 : 0 ≤ j) : upd (fun q : Nat => Int32.ofInt (X i q)) j.toNat (Int32.ofInt y) = fun q : Nat => Int32.ofInt (ms X i j y i q) := by
  funext q
  unfold upd ms
  by_cases hq : q = j.toNat
  · have : ((q : Nat) : Int) = j := by omega
    rw [if_pos hq, if_pos ⟨rfl, this⟩]
  · have : ¬ ((q : Nat) : Int) = j := by omega
    rw [if_neg hq, if_neg (fun z => this z.2)]
theorem updL_ms {X : Mem} {i j y : Int} (h0 : 0 ≤ j) : vp_updL (fun q : Nat => Int64.ofInt (X i q)) j.toNat (Int64.ofInt y) = fun q : Nat => Int64.ofInt (ms X i j y i q) := by
  funext q
  unfold vp_updL ms
  by_cases hq : q = j.toNat
  · have : ((q : Nat) : Int) = j := by omega
    rw [if_pos hq, if_pos ⟨rfl, this⟩]
  · have : ¬ ((q : Nat) : Int) = j := by omega
    rw [if_neg hq, if_neg (fun z => this z.2)]
theorem nar_b (y : Int) : vp_nar .byte (Int32.ofInt y) = Int32.ofInt (w8 y) := by
  unfold w8
  rw [Int32.ofInt_int8ToInt]
  rfl
theorem nar_zz (y : Int) : vp_nar .boolean (Int32.ofInt y) = Int32.ofInt (ia y 1) := by
  unfold ia
  rw [Int32.ofInt_toInt]
  rfl
theorem g_iast {i n j y : Int} {fm : Mem → Option (Int × Mem)} (hC : Ok C V cc own nL fr lc) (hA : At L i (100, [n])) (hn : n ≤ 2147483647) (hdg : decode cc pc = .ok (.iastore, 1)) (h : ∀ X1 : Mem, G C V L ca sl nL (pc + 1) lv st X1 (fm X1)) : G C V L ca sl nL pc lv (vI y :: vI j :: vR V.1 i :: st) X (ax n j (bd (ms X i j y) fm)) := by
  refine g_ax fun hj hk H locs ls hP hS hl => ?_
  have hcl := i32_clamp (a := j) ⟨hj.1, by omega⟩
  refine va_iast hC.1 hC.2.1 hC.2.2.2.2.2.1.1 hP (WL_D _ _ _ _) hS i.toNat 0 (WL_at hA) rfl (i := Int32.ofInt j) ?_ hdg (fun H1 locs1 hP1 _ hS1 => ?_)
  · rintro (q | q)
    · exact absurd ((i32_lt (b := 0) ⟨by omega, by omega⟩ (by decide)).mp q) (by omega)
    · rw [hcl] at q
      have q2 : n.toNat ≤ j.toNat := q
      omega
  · rw [hcl, upd_ms hj.1] at hP1
    refine h _ hk H1 locs1 ls ?_ hS1 hl
    rw [← WL_set (X := X) (X' := ms X i j y) hA rfl (fun j hj => ms_ne hj)]
    exact hP1
theorem g_bast {i n j y : Int} {fm : Mem → Option (Int × Mem)} (hC : Ok C V cc own nL fr lc) (hA : At L i (102, [n])) (hn : n ≤ 2147483647) (hdg : decode cc pc = .ok (.bastore, 1)) (h : ∀ X1 : Mem, G C V L ca sl nL (pc + 1) lv st X1 (fm X1)) : G C V L ca sl nL pc lv (vI y :: vI j :: vR V.1 i :: st) X (ax n j (bd (ms X i j (w8 y)) fm)) := by
  refine g_ax fun hj hk H locs ls hP hS hl => ?_
  have hcl := i32_clamp (a := j) ⟨hj.1, by omega⟩
  refine va_bast hC.1 hC.2.1 hC.2.2.2.2.2.1.1 hP (WL_D _ _ _ _) hS i.toNat 2 (WL_at hA) rfl (i := Int32.ofInt j) ?_ hdg (fun H1 locs1 hP1 _ hS1 => ?_)
  · rintro (q | q)
    · exact absurd ((i32_lt (b := 0) ⟨by omega, by omega⟩ (by decide)).mp q) (by omega)
    · rw [hcl] at q
      have q2 : n.toNat ≤ j.toNat := q
      omega
  · rw [hcl, nar_b, upd_ms hj.1] at hP1
    refine h _ hk H1 locs1 ls ?_ hS1 hl
    rw [← WL_set (X := X) (X' := ms X i j (w8 y)) hA rfl (fun j hj => ms_ne hj)]
    exact hP1
theorem g_zast {i n j y : Int} {fm : Mem → Option (Int × Mem)} (hC : Ok C V cc own nL fr lc) (hA : At L i (103, [n])) (hn : n ≤ 2147483647) (hdg : decode cc pc = .ok (.bastore, 1)) (h : ∀ X1 : Mem, G C V L ca sl nL (pc + 1) lv st X1 (fm X1)) : G C V L ca sl nL pc lv (vI y :: vI j :: vR V.1 i :: st) X (ax n j (bd (ms X i j (ia y 1)) fm)) := by
  refine g_ax fun hj hk H locs ls hP hS hl => ?_
  have hcl := i32_clamp (a := j) ⟨hj.1, by omega⟩
  refine va_zast hC.1 hC.2.1 hC.2.2.2.2.2.1.1 hP (WL_D _ _ _ _) hS i.toNat 3 (WL_at hA) rfl (i := Int32.ofInt j) ?_ hdg (fun H1 locs1 hP1 _ hS1 => ?_)
  · rintro (q | q)
    · exact absurd ((i32_lt (b := 0) ⟨by omega, by omega⟩ (by decide)).mp q) (by omega)
    · rw [hcl] at q
      have q2 : n.toNat ≤ j.toNat := q
      omega
  · rw [hcl, nar_zz, upd_ms hj.1] at hP1
    refine h _ hk H1 locs1 ls ?_ hS1 hl
    rw [← WL_set (X := X) (X' := ms X i j (ia y 1)) hA rfl (fun j hj => ms_ne hj)]
    exact hP1
theorem g_last {i n j y : Int} {fm : Mem → Option (Int × Mem)} (hC : Ok C V cc own nL fr lc) (hA : At L i (101, [n])) (hn : n ≤ 2147483647) (hdg : decode cc pc = .ok (.lastore, 1)) (h : ∀ X1 : Mem, G C V L ca sl nL (pc + 1) lv st X1 (fm X1)) : G C V L ca sl nL pc lv (vJ y :: vI j :: vR V.1 i :: st) X (ax n j (bd (ms X i j y) fm)) := by
  refine g_ax fun hj hk H locs ls hP hS hl => ?_
  have hcl := i32_clamp (a := j) ⟨hj.1, by omega⟩
  refine va_last hC.1 hC.2.1 hC.2.2.2.2.2.1.1 hP (WL_D _ _ _ _) hS i.toNat 1 (WL_at hA) rfl (i := Int32.ofInt j) ?_ hdg (fun H1 locs1 hP1 _ hS1 => ?_)
  · rintro (q | q)
    · exact absurd ((i32_lt (b := 0) ⟨by omega, by omega⟩ (by decide)).mp q) (by omega)
    · rw [hcl] at q
      have q2 : n.toNat ≤ j.toNat := q
      omega
  · rw [hcl, updL_ms hj.1] at hP1
    refine h _ hk H1 locs1 ls ?_ hS1 hl
    rw [← WL_set (X := X) (X' := ms X i j y) hA rfl (fun j hj => ms_ne hj)]
    exact hP1
theorem g_aldS {i j : Int} {ts : List Int} {K : String} (hC : Ok C V cc own nL fr lc) {tag t0 : Nat} (hA : At L i (tag, ts)) (ht : 104 ≤ tag) (hty : (TYS V.2.2.1)[t0]? = some (V.2.2.1 (tag - 100), .object K)) (hn : (ts.length : Int) ≤ 2147483647) (hts : ∀ t ∈ ts, 0 ≤ t) (hdg : decode cc pc = .ok (.aaload, 1)) (h : G C V L ca sl nL (pc + 1) lv (vR V.1 (tl ts j) :: st) X f) : G C V L ca sl nL pc lv (vI j :: vR V.1 i :: st) X (ax ts.length j f) := by
  refine g_ax fun hj hk H locs ls hP hS hl => ?_
  have hcl := i32_clamp (a := j) ⟨hj.1, by omega⟩
  have he := WL_at (b := V.1) (cs := V.2.2.1) (X := X) hA
  rw [kdE, if_neg (by show ¬ tag < 100; omega), if_neg (by show ¬ tag = 101; omega), if_neg (by show ¬ tag < 104; omega)] at he
  refine va_aldq hC.1 hC.2.1 hC.2.2.2.2.2.1.1 hP i.toNat t0 he hty (i := Int32.ofInt j) ?_ hdg ?_
  · rintro (q | q)
    · exact absurd ((i32_lt (b := 0) ⟨by omega, by omega⟩ (by decide)).mp q) (by omega)
    · rw [hcl] at q
      have : (tag, ts).2.length = ts.length := rfl
      omega
  · have hlt : j.toNat < ts.length := by omega
    rw [hcl]
    have e1 : kdR V.1 ts j.toNat = some (V.1 + (tl ts j).toNat) := by
      unfold kdR tl
      rw [List.getD_eq_getElem?_getD, List.getElem?_eq_getElem hlt, Option.bind_some, Option.getD_some, if_pos (hts _ (List.getElem_mem hlt))]
    rw [show (tag, ts).2 = ts from rfl, e1]
    exact h hk H locs ls hP hS hl
theorem g_alen {i n : Int} {tag t0 : Nat} {ty : FieldType} (hC : Ok C V cc own nL fr lc) (hA : At L i (tag, [n])) (h0 : 0 ≤ n) (ht : tag = 100 ∨ tag = 101 ∨ tag = 102 ∨ tag = 103) (hty : (TYS V.2.2.1)[t0]? = some (V.2.2.1 (tag - 100), ty)) (hdg : decode cc pc = .ok (.arraylength, 1)) (h : G C V L ca sl nL (pc + 1) lv (vI n :: st) X f) : G C V L ca sl nL pc lv (vR V.1 i :: st) X f := by
  intro hk H locs ls hP hS hl
  have e : Int32.ofNat n.toNat = Int32.ofInt n := by rw [← Int32.ofInt_eq_ofNat, Int.toNat_of_nonneg h0]
  rcases ht with rfl | rfl | rfl | rfl
  · exact va_alen hC.1 hC.2.1 hC.2.2.2.2.2.1.1 hP i.toNat t0 (WL_at hA) hty e hdg (h hk H locs ls hP hS hl)
  · exact va_alen hC.1 hC.2.1 hC.2.2.2.2.2.1.1 hP i.toNat t0 (WL_at hA) hty e hdg (h hk H locs ls hP hS hl)
  · exact va_alen hC.1 hC.2.1 hC.2.2.2.2.2.1.1 hP i.toNat t0 (WL_at hA) hty e hdg (h hk H locs ls hP hS hl)
  · exact va_alen hC.1 hC.2.1 hC.2.2.2.2.2.1.1 hP i.toNat t0 (WL_at hA) hty e hdg (h hk H locs ls hP hS hl)
/-- the frame from this method's start on -/
theorem sS {V : Ev} {s : State} {H : Heap} {locs : List Loc} (h : va_S (vA V) s.heap H locs) : va_S (vA V) s.heap H locs := h
/-- a static row's reference -/
def vT (V : Ev) (t : Nat) : Value := .ref (V.2.2.2.2.2 t)
theorem g_getT {t ix : Nat} {K nm : String} (hC : Ok C V cc own nL fr lc) (ht : t < 3) (hnm : tNm.getD t ("", "") = (K, nm)) (hlink : Cond.fieldLink own ix K nm "[I" ∈ WS) (hdg : decode cc pc = .ok (.getstatic ix, 3)) (h : G C V L ca sl nL (pc + 3) lv (vT V t :: st) X f) : G C V L ca sl nL pc lv st X f := by
  intro hk H locs ls hP hS hl
  have hZ := (hC.2.2.2.2.2.1.2.2.1 t ht).1
  rw [hnm] at hZ
  exact va_gets hC.1 hC.2.1 hZ hS hC.2.2.2.1 (hC.2.2.2.2.1 _ hlink) (fun _ q => q) hdg (h hk H locs ls hP hS hl)
theorem g_tald {t : Nat} {j : Int} (hC : Ok C V cc own nL fr lc) (ht : t < 3) (hdg : decode cc pc = .ok (.iaload, 1)) (h : G C V L ca sl nL (pc + 1) lv (vI (tl (tRow.getD t []) j) :: st) X f) : G C V L ca sl nL pc lv (vI j :: vT V t :: st) X (ax 8 j f) := by
  refine g_ax fun hj hk H locs ls hP hS hl => ?_
  have hcl := i32_clamp (a := j) ⟨hj.1, by omega⟩
  refine va_ti hC.1 hC.2.1 (hC.2.2.2.2.2.1.2.2.1 t ht).2 hS (i := Int32.ofInt j) (v := vI (tl (tRow.getD t []) j)) ?_ ?_ hdg (h hk H locs ls hP hS hl)
  · rintro (q | q)
    · exact absurd ((i32_lt (b := 0) ⟨by omega, by omega⟩ (by decide)).mp q) (by omega)
    · rw [hcl] at q
      omega
  · rw [hcl, Int.toNat_of_nonneg hj.1]
theorem g_tlen {t : Nat} (hC : Ok C V cc own nL fr lc) (ht : t < 3) (hdg : decode cc pc = .ok (.arraylength, 1)) (h : G C V L ca sl nL (pc + 1) lv (vI 8 :: st) X f) : G C V L ca sl nL pc lv (vT V t :: st) X f := by
  intro hk H locs ls hP hS hl
  exact va_tlen hC.1 hC.2.1 (hC.2.2.2.2.2.1.2.2.1 t ht).2 hS rfl hdg (h hk H locs ls hP hS hl)
/-- a literal's reference -/
def vS (V : Ev) (i : Nat) : Value := .ref (V.2.2.2.1 i)
theorem g_ldcS {i ix : Nat} {tx : String} (hC : Ok C V cc own nL fr lc) (hi : i < nSt) (hnm : sTx.getD i ("", 0, "") = (own, ix, tx)) (hdg : decode cc pc = .ok (.ldc ix, 2)) (h : G C V L ca sl nL (pc + 2) lv (vS V i :: st) X f) : G C V L ca sl nL pc lv st X f := by
  have hR := (hC.2.2.2.2.2.1.2.2.2.1 i hi).1
  rw [hnm] at hR
  exact g_lift (fun _ _ _ _ w => va_ldcS hC.1 hC.2.1 hC.2.2.2.1 hR hdg w) h
theorem Kt_blind {V : Ev} {L : List Kd} {vs : List Value} {X : Mem} : FrameBlind (va_Pc vs (fun U => Bk V U ∧ va_P V.2.1 vwCl (WL V.1 V.2.2.1 L X) U.heap)) :=
  fun a U g mk q => ⟨q.1, ⟨va_K.moved (u := U) (U := U.calling g mk a) (Vm.Alike.refl U.vm) q.2.1.1, Bg_call q.2.1.2 rfl rfl⟩, q.2.2⟩
theorem Kt_pre {vs : List Value} {H : Heap} {locs : List Loc} (hC : Ok C V cc own nL fr lc) (hP : va_P V.2.1 vwCl (WL V.1 V.2.2.1 L X) H) (hS : va_S (vA V) C.2.2.2.2.1.heap H locs) : ∀ U : State, U.heap = H → C.2.2.2.2.1.WarmedH U.vm → va_Pc vs (fun U => Bk V U ∧ va_P V.2.1 vwCl (WL V.1 V.2.2.1 L X) U.heap) vs.toArray U :=
  fun U hU hW => ⟨rfl, ⟨va_K.moved hW.alike hC.2.2.2.2.2.1.1, Bg_go hC.2.2.2.2.2.1.2 hW (by rw [hU]; exact hS)⟩, by rw [hU]; exact hP⟩
theorem g_ran {g2 : JFrame} {rest : List Value} {rv : Int → Option Value} {X1 : Mem} {r : Int} {H : Heap} {locs : List Loc}
    (hr : va_Run C.1 C.2.1 C.2.2.1 C.2.2.2.1 C.2.2.2.2.1 C.2.2.2.2.2.1 C.2.2.2.2.2.2.1 C.2.2.2.2.2.2.2.1 C.2.2.2.2.2.2.2.2.1 C.2.2.2.2.2.2.2.2.2.1 H locs ca sl 0 0 g2 rest (fun st oc t => oc = .returned (rv r) ∧ va_P V.2.1 vwCl (WL V.1 V.2.2.1 L X1) t.heap ∧ va_F (vA V) st t) (vA V))
    (hS : va_S (vA V) C.2.2.2.2.1.heap H locs)
    (kk : ∀ (H1 : Heap) (locs1 : List Loc), va_P V.2.1 vwCl (WL V.1 V.2.2.1 L X1) H1 → va_S (vA V) C.2.2.2.2.1.heap H1 locs1 → Wc C H1 locs1 ca sl { g2 with pc := g2.pc + 3, stack := (rv r).toList ++ rest }) : Wc C H locs ca sl g2 := by
  intro T hT Xs
  obtain ⟨v, st₀, t, T', L', h0, X', hL, e1, e2, ⟨hv, hp, hz, hk⟩, stp⟩ := hr T hT Xs
  cases hv
  rw [h0] at hz hk
  obtain ⟨t2, a1, b1⟩ := kk T'.heap (locs ++ L') (by rw [e1]; exact hp) ⟨Nat.le_trans hS.1 (by rw [e1]; exact hz), fun q h1 h2 => by rw [e1, hk q (Nat.lt_of_lt_of_le h1 hS.1) h2]; exact hS.2.1 q h1 h2, fun q hq => by
      rcases List.mem_append.mp hq with h | h
      · exact hS.2.2 q h
      · exact hL q h⟩ T' rfl X'
  exact ⟨t2, stp t2 a1, b1⟩
/-- what a method of an object asks of the tables, but its link -/
def Mv (y : MethodName) (K : String) (bytes : ByteArray) (mL : Nat) (rt : Option FieldType) (n : Nat) : Prop :=
  Cond.instanceMethod y ∈ WS ∧ Cond.selects K y y ∈ WS ∧ Cond.initialized K ∈ WS ∧ Cond.code y bytes mL rt ∈ WS ∧ (y.cls = K ∧ y.cls ≠ "java/lang/invoke/MethodHandle" ∧ y.cls ≠ "java/lang/invoke/VarHandle" ∧ (parseMethodDescriptor y.desc).map (fun d => d.parameters.length) = some n)
def Mst (y : MethodName) (bytes : ByteArray) (mL : Nat) (rt : Option FieldType) (n : Nat) : Prop :=
  Cond.static y ∈ WS ∧ Cond.initialized y.cls ∈ WS ∧ Cond.code y bytes mL rt ∈ WS ∧ (y.cls ≠ "java/lang/invoke/MethodHandle" ∧ y.cls ≠ "java/lang/invoke/VarHandle" ∧ (parseMethodDescriptor y.desc).map (fun d => d.parameters.length) = some n)
theorem ws_c {d : Cond} (h : d ∈ WS) : GoodIn WS (d :: WS) := fun w hw => by
  rcases List.mem_cons.mp hw with rfl | hw
  · exact ⟨h, (ws_good _ h).2⟩
  · exact ⟨hw, (ws_good _ hw).2⟩
theorem ws_v {ws : List Cond} {own K : String} {ix : Nat} {y : MethodName} (h1 : Cond.methodLink own ix y ∈ WS) (h2 : Cond.instanceMethod y ∈ WS) (h3 : Cond.selects K y y ∈ WS) (h4 : Cond.initialized K ∈ WS) (h : GoodIn WS ws) : GoodIn WS (wsV own ix K y ws) := by
  intro w hw
  unfold wsV at hw
  rcases List.mem_append.mp hw with hw | hw
  · rcases List.mem_cons.mp hw with rfl | hw
    · exact ⟨h1, (ws_good _ h1).2⟩
    rcases List.mem_cons.mp hw with rfl | hw
    · exact ⟨h2, (ws_good _ h2).2⟩
    rcases List.mem_cons.mp hw with rfl | hw
    · exact ⟨h3, (ws_good _ h3).2⟩
    rcases List.mem_cons.mp hw with rfl | hw
    · exact ⟨h4, (ws_good _ h4).2⟩
    cases hw
  · exact h w hw
theorem ws_s {ws : List Cond} {own : String} {ix : Nat} {y : MethodName} (h1 : Cond.methodLink own ix y ∈ WS) (h2 : Cond.static y ∈ WS) (h4 : Cond.initialized y.cls ∈ WS) (h : GoodIn WS ws) : GoodIn WS (va_wsS own ix y ws) := by
  intro w hw
  unfold va_wsS at hw
  rcases List.mem_append.mp hw with hw | hw
  · rcases List.mem_cons.mp hw with rfl | hw
    · exact ⟨h1, (ws_good _ h1).2⟩
    rcases List.mem_cons.mp hw with rfl | hw
    · exact ⟨h2, (ws_good _ h2).2⟩
    rcases List.mem_cons.mp hw with rfl | hw
    · exact ⟨h4, (ws_good _ h4).2⟩
    cases hw
  · exact h w hw
theorem g_callV {y : MethodName} {K : String} {bytes : ByteArray} {mL n ix fr1 lo1 ci : Nat} {rt : Option FieldType} {rv : Int → Option Value} {i : Int} {shs : List Int} {T : u_T} {N : Nat} {ty : Nat → FieldType} {As rest st' : List Value} {fo : Option (Int × Mem)} {k : Int → Mem → Option (Int × Mem)}
    (hC : Ok C V cc own nL fr lc) (hM : Mv y K bytes mL rt n) (hlink : Cond.methodLink own ix y ∈ WS) (hK : Kt C.2.1 V L y (.code y bytes mL rt) fr1 lo1 (vR V.1 i :: As) rv X fo) (hf : Cf ci K T N ty) (hA : At L i (ci, shs)) (hci : ci < 100) (hca : ca ≤ C.2.2.2.1.cells ∧ sl ≤ C.2.2.2.1.slots)
    (hn : As.length = n) (hst : st' = As.reverse ++ vR V.1 i :: rest) (hrm : fr1 + 1 ≤ fr ∧ 8 + (mL + 11) + lo1 ≤ lc) (hcat : (rest.map fun v => v.category).sum ≤ 8) (hdg : decode cc pc = .ok (.invokevirtual ix, 3))
    (h : ∀ (r : Int) (X1 : Mem), G C V L ca sl nL (pc + 3) lv ((rv r).toList ++ rest) X1 (k r X1)) : G C V L ca sl nL pc lv st' X (cl fo k) := by
  subst hst
  intro hk H locs ls hP hS hl
  obtain ⟨_ | ⟨r, X1⟩, hfo⟩ : ∃ z, fo = z := ⟨_, rfl⟩
  · rw [hfo] at hk; cases hk
  rw [hfo] at hk
  have hcw : CallW C.2.2.2.1 C.2.2.2.2.1 C.2.2.2.2.2.2.1 own K ix y bytes mL rt (Cond.code y bytes mL rt :: WS) { frames := fr1, cells := 0, slots := 0, locals := lo1 } 0 0 n :=
    cwV n hC.2.2.2.2.1 (ws_v hlink hM.1 hM.2.1 hM.2.2.1 (ws_c hM.2.2.2.1)) rfl rfl rfl hM.2.2.2.2 ⟨Nat.le_trans hrm.1 hC.2.2.2.2.2.2.1, Nat.le_trans hrm.2 hC.2.2.2.2.2.2.2⟩
  have he := WL_at (b := V.1) (cs := V.2.2.1) (X := X) hA
  rw [kdE_o hci] at he
  exact g_ran (L := L) (va_runV (As := As) (rest := rest) ⟨hC.1, hC.2.1, hC.2.2.1, hC.2.2.2.1, hC.2.2.2.2.1⟩ (hK r X1 hfo) hcw ⟨Kt_blind, va_recv hC.2.2.2.2.2.1.1 hP hf.1 he, Kt_pre hC hP hS⟩ rfl hn hl.1 rfl (lv_room hcat) hdg hca) hS (fun H1 locs1 hP1 hS1 => h r X1 hk H1 locs1 ls hP1 hS1 hl)
theorem g_callN {y : MethodName} {K host : String} {bytes : ByteArray} {mL n ix fr1 lo1 ci : Nat} {rt : Option FieldType} {rv : Int → Option Value} {i : Int} {shs : List Int} {T : u_T} {N : Nat} {ty : Nat → FieldType} {As rest st' : List Value} {fo : Option (Int × Mem)} {k : Int → Mem → Option (Int × Mem)}
    (hC : Ok C V cc own nL fr lc) (hM : Mv y K bytes mL rt n) (hlink : (own, ix, y, host) ∈ NST) (hK : Kt C.2.1 V L y (.code y bytes mL rt) fr1 lo1 (vR V.1 i :: As) rv X fo) (hf : Cf ci K T N ty) (hA : At L i (ci, shs)) (hci : ci < 100) (hca : ca ≤ C.2.2.2.1.cells ∧ sl ≤ C.2.2.2.1.slots)
    (hn : As.length = n) (hst : st' = As.reverse ++ vR V.1 i :: rest) (hrm : fr1 + 1 ≤ fr ∧ 8 + (mL + 11) + lo1 ≤ lc) (hcat : (rest.map fun v => v.category).sum ≤ 8) (hdg : decode cc pc = .ok (.invokevirtual ix, 3))
    (h : ∀ (r : Int) (X1 : Mem), G C V L ca sl nL (pc + 3) lv ((rv r).toList ++ rest) X1 (k r X1)) : G C V L ca sl nL pc lv st' X (cl fo k) := by
  subst hst
  intro hk H locs ls hP hS hl
  obtain ⟨_ | ⟨r, X1⟩, hfo⟩ : ∃ z, fo = z := ⟨_, rfl⟩
  · rw [hfo] at hk; cases hk
  rw [hfo] at hk
  obtain ⟨hi, hse, hini, hco, hyc, hy⟩ := hM
  have hcn : va_CN C.2.2.2.1 C.2.2.2.2.1 C.2.2.2.2.2.2.1 own ix y host bytes mL rt (Cond.code y bytes mL rt :: WS) { frames := fr1, cells := 0, slots := 0, locals := lo1 } 0 0 n :=
    va_cnB n hC.2.2.2.2.1 (ws_c hco) rfl rfl rfl (hC.2.2.2.2.2.1.2.1 _ hlink) (hC.2.2.2.2.1 _ (by rw [hyc]; exact hini)) hy ⟨Nat.le_trans hrm.1 hC.2.2.2.2.2.2.1, Nat.le_trans hrm.2 hC.2.2.2.2.2.2.2⟩
  have he := WL_at (b := V.1) (cs := V.2.2.1) (X := X) hA
  rw [kdE_o hci] at he
  exact g_ran (L := L) (va_runVN (As := As) (rest := rest) ⟨hC.1, hC.2.1, hC.2.2.1, hC.2.2.2.1, hC.2.2.2.2.1⟩ (hK r X1 hfo) ⟨hcn, hC.2.2.2.2.1 _ hi, hC.2.2.2.2.1 _ hse⟩ ⟨Kt_blind, va_recv hC.2.2.2.2.2.1.1 hP hf.1 he, Kt_pre hC hP hS⟩ rfl hn hl.1 rfl (lv_room hcat) hdg hca) hS (fun H1 locs1 hP1 hS1 => h r X1 hk H1 locs1 ls hP1 hS1 hl)
theorem g_callS {y : MethodName} {bytes : ByteArray} {mL n ix fr1 lo1 : Nat} {rt : Option FieldType} {rv : Int → Option Value} {As rest st' : List Value} {fo : Option (Int × Mem)} {k : Int → Mem → Option (Int × Mem)}
    (hC : Ok C V cc own nL fr lc) (hM : Mst y bytes mL rt n) (hlink : Cond.methodLink own ix y ∈ WS) (hK : Kt C.2.1 V L y (.code y bytes mL rt) fr1 lo1 As rv X fo) (hca : ca ≤ C.2.2.2.1.cells ∧ sl ≤ C.2.2.2.1.slots)
    (hn : As.length = n) (hst : st' = As.reverse ++ rest) (hrm : fr1 + 1 ≤ fr ∧ 8 + (mL + 11) + lo1 ≤ lc) (hcat : (rest.map fun v => v.category).sum ≤ 8) (hdg : decode cc pc = .ok (.invokestatic ix, 3))
    (h : ∀ (r : Int) (X1 : Mem), G C V L ca sl nL (pc + 3) lv ((rv r).toList ++ rest) X1 (k r X1)) : G C V L ca sl nL pc lv st' X (cl fo k) := by
  subst hst
  intro hk H locs ls hP hS hl
  obtain ⟨_ | ⟨r, X1⟩, hfo⟩ : ∃ z, fo = z := ⟨_, rfl⟩
  · rw [hfo] at hk; cases hk
  rw [hfo] at hk
  have hcw := va_cwS (R := C.2.2.2.1) (rm := { frames := fr1, cells := 0, slots := 0, locals := lo1 }) (mc := 0) (ms := 0) n hC.2.2.2.2.1 (ws_s hlink hM.1 hM.2.1 (ws_c hM.2.2.1)) rfl rfl rfl hM.2.2.2 ⟨Nat.le_trans hrm.1 hC.2.2.2.2.2.2.1, Nat.le_trans hrm.2 hC.2.2.2.2.2.2.2⟩
  exact g_ran (L := L) (va_runS (As := As) (rest := rest) ⟨hC.1, hC.2.1, hC.2.2.1, hC.2.2.2.1, hC.2.2.2.2.1⟩ (hK r X1 hfo) hcw ⟨Kt_blind, Kt_pre hC hP hS⟩ rfl hn hl.1 rfl (lv_room hcat) hdg hca) hS (fun H1 locs1 hP1 hS1 => h r X1 hk H1 locs1 ls hP1 hS1 hl)
theorem g_callSN {y : MethodName} {host : String} {bytes : ByteArray} {mL n ix fr1 lo1 : Nat} {rt : Option FieldType} {rv : Int → Option Value} {As rest st' : List Value} {fo : Option (Int × Mem)} {k : Int → Mem → Option (Int × Mem)}
    (hC : Ok C V cc own nL fr lc) (hM : Mst y bytes mL rt n) (hlink : (own, ix, y, host) ∈ NST) (hK : Kt C.2.1 V L y (.code y bytes mL rt) fr1 lo1 As rv X fo) (hca : ca ≤ C.2.2.2.1.cells ∧ sl ≤ C.2.2.2.1.slots)
    (hn : As.length = n) (hst : st' = As.reverse ++ rest) (hrm : fr1 + 1 ≤ fr ∧ 8 + (mL + 11) + lo1 ≤ lc) (hcat : (rest.map fun v => v.category).sum ≤ 8) (hdg : decode cc pc = .ok (.invokestatic ix, 3))
    (h : ∀ (r : Int) (X1 : Mem), G C V L ca sl nL (pc + 3) lv ((rv r).toList ++ rest) X1 (k r X1)) : G C V L ca sl nL pc lv st' X (cl fo k) := by
  subst hst
  intro hk H locs ls hP hS hl
  obtain ⟨_ | ⟨r, X1⟩, hfo⟩ : ∃ z, fo = z := ⟨_, rfl⟩
  · rw [hfo] at hk; cases hk
  rw [hfo] at hk
  have hcn : va_CN C.2.2.2.1 C.2.2.2.2.1 C.2.2.2.2.2.2.1 own ix y host bytes mL rt (Cond.code y bytes mL rt :: WS) { frames := fr1, cells := 0, slots := 0, locals := lo1 } 0 0 n :=
    va_cnB n hC.2.2.2.2.1 (ws_c hM.2.2.1) rfl rfl rfl (hC.2.2.2.2.2.1.2.1 _ hlink) (hC.2.2.2.2.1 _ hM.2.1) hM.2.2.2 ⟨Nat.le_trans hrm.1 hC.2.2.2.2.2.2.1, Nat.le_trans hrm.2 hC.2.2.2.2.2.2.2⟩
  exact g_ran (L := L) (va_runSN (As := As) (rest := rest) ⟨hC.1, hC.2.1, hC.2.2.1, hC.2.2.2.1, hC.2.2.2.2.1⟩ (hK r X1 hfo) ⟨hcn, hC.2.2.2.2.1 _ hM.1, trivial⟩ ⟨Kt_blind, Kt_pre hC hP hS⟩ rfl hn hl.1 rfl (lv_room hcat) hdg hca) hS (fun H1 locs1 hP1 hS1 => h r X1 hk H1 locs1 ls hP1 hS1 hl)
end GR
