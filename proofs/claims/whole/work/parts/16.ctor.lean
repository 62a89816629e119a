/-! constructors: the layout grows -/
theorem WL_app {b : Nat} {cs : Nat → ClassId} {L : List Kd} {kd : Kd} {X : Mem} : WL b cs (L ++ [kd]) X = WL b cs L X ++ [(b + L.length, kdE b cs kd (X (L.length : Int)))] := by
  unfold WL
  rw [List.mapIdx_concat]
theorem WL_len {b : Nat} {cs : Nat → ClassId} {L : List Kd} {X : Mem} : (WL b cs L X).length = L.length := by
  unfold WL
  rw [List.length_mapIdx]
theorem vr_outer (c : ClassId) (N h0 : Nat) : ∀ i : Nat, Jvm.Free.Multi.outerC c N h0 i = arrV c N (fun j => va_rf (if j < i then some (h0 + 1 + j) else none))
  | 0 => by
    show ({ cls := c, slots := Array.replicate N .null, vm := .none } : Cell) = _
    rw [arrV_new]
    refine congrArg (arrV c N) (funext fun j => ?_)
    simp [va_rf]
  | i + 1 => by
    show (Jvm.Free.Multi.outerC c N h0 i).setSlot i (.ref (h0 + 1 + i)) = _
    rw [vr_outer c N h0 i, arrV_store]
    refine congrArg (arrV c N) (funext fun j => ?_)
    by_cases e : j = i
    · subst e
      simp [updV, va_rf]
    · by_cases h : j < i
      · simp [updV, e, h, Nat.lt_succ_of_lt h]
      · simp [updV, e, h, show ¬ j < i + 1 by omega]
section GC
variable {C : Cx} {V : Ev} {L L' : List Kd} {ca sl nL pc fr lc : Nat} {cc : ByteArray} {own : String} {lv : List (Nat × Value)} {st : List Value} {X : Mem} {f : Option (Int × Mem)}
theorem WL_lt {D : va_G} {cl : List vw_C} {b : Nat} {cs : Nat → ClassId} {H : Heap} (hP : va_P D cl (WL b cs L X) H) (h0 : 0 < L.length) : b + L.length ≤ H.size := by
  have hl : L.length - 1 < L.length := by omega
  have h := hP (L.length - 1) (b + (L.length - 1), kdE b cs L[L.length - 1] (X ((L.length - 1 : Nat) : Int))) (by rw [WL_get, List.getElem?_eq_getElem hl]; rfl)
  have := h.lt
  have e : (b + (L.length - 1), kdE b cs L[L.length - 1] (X ((L.length - 1 : Nat) : Int))).1 = b + (L.length - 1) := rfl
  omega
theorem sq {q : Nat} {e : va_E} {H1 : Heap} {locs : List Loc} {n : Nat} {T : State} (hP1 : va_P V.2.1 vwCl (WL V.1 V.2.2.1 L X ++ [(q, e)]) H1) (hD1 : va_D (vA V) (WL V.1 V.2.2.1 L X ++ [(q, e)])) (hsz : C.2.2.2.2.1.heap.size + ca = V.1 + L.length) (hT : T.heap = H1)
    (Xs : Stand C.1 C.2.1 C.2.2.1 C.2.2.2.1 C.2.2.2.2.1 C.2.2.2.2.2.1 C.2.2.2.2.2.2.1 C.2.2.2.2.2.2.2.1 C.2.2.2.2.2.2.2.2.1 C.2.2.2.2.2.2.2.2.2.1 T locs (ca + 1) n) : q = V.1 + L.length := by
  have hq : (WL V.1 V.2.2.1 L X ++ [(q, e)])[L.length]? = some (q, e) := by
    rw [List.getElem?_append_right (by rw [WL_len]; omega), WL_len, Nat.sub_self]
    rfl
  have h1 := (hP1 _ _ hq).lt
  have h2 := Xs.heapSize
  rw [hT] at h2
  have h3 : V.1 ≤ q := hD1.2 _ _ hq
  have e1 : (q, e).1 = q := rfl
  rcases Nat.lt_or_ge q (V.1 + L.length) with h | h
  · exfalso
    have hi : q - V.1 < L.length := by omega
    have hp : (WL V.1 V.2.2.1 L X ++ [(q, e)])[q - V.1]? = some (V.1 + (q - V.1), kdE V.1 V.2.2.1 L[q - V.1] (X ((q - V.1 : Nat) : Int))) := by
      rw [List.getElem?_append_left (by rw [WL_len]; exact hi), WL_get, List.getElem?_eq_getElem hi]
      rfl
    have := hD1.1 _ _ _ _ hp hq (by show V.1 + (q - V.1) = q; omega)
    omega
  · omega
/-- what a field holds at first -/
def dv (s : Int) : Value := if s = -1 then .int 0 else if s = -2 then .long 0 else .null
theorem shv_dv {b : Nat} {s : Int} (h : s = -1 ∨ s = -2 ∨ s = -4) : shv b s 0 = dv s := by
  rcases h with rfl | rfl | rfl <;> rfl
theorem g_newo {ci N ix : Nat} {K : String} {T : u_T} {ty : Nat → FieldType} {sh0 : List Int} {i : Int} (hC : Ok C V cc own nL fr lc) (hf : Cf ci K T N ty) (hcl : Cond.classLink own ix K ∈ WS) (hin : Cond.instantiable K N ∈ WS) (hini : Cond.initialized K ∈ WS) (hci : ci < 100)
    (hs0 : ∀ s ∈ sh0, s = -1 ∨ s = -2 ∨ s = -4) (hfs : ∀ j, j < N → defaultValue (ty j) = (sh0.map dv).getD j .null) (hz : ∀ k : Int, X i k = 0) (hi : (L.length : Int) = i) (hL' : L ++ [(ci, sh0)] = L') (hsz : C.2.2.2.2.1.heap.size + ca = V.1 + L.length) (hb : V.1 ≤ C.2.2.2.2.1.heap.size)
    (hc : ca + 1 ≤ C.2.2.2.1.cells) (hs : sl + N ≤ C.2.2.2.1.slots) (hdg : decode cc pc = .ok (.new ix, 3)) (h : G C V L' (ca + 1) (sl + N) nL (pc + 3) lv (vR V.1 i :: st) X f) : G C V L ca sl nL pc lv st X f := by
  subst hi hL'
  intro hk H locs ls hP hS hl
  refine va_new (fs := sh0.map dv) hC.1 hC.2.1 hC.2.2.2.2.1 hf.2.1 ty hf.2.2.1 hC.2.2.2.1 (hC.2.2.2.2.1 _ hcl) (hC.2.2.2.2.1 _ hin) (hC.2.2.2.2.1 _ hini) hC.2.2.2.2.2.1.1 hP (WL_D _ _ _ _) hS (fun q hq => Nat.le_trans hb hq) hf.1 hfs hc hs hdg (fun q H1 hP1 hD1 hS1 => ?_)
  intro T1 hT1 Xs
  have e := sq hP1 hD1 hsz hT1 Xs
  subst e
  refine h hk H1 locs ls ?_ hS1 hl T1 hT1 Xs
  rw [WL_app, kdE_o hci]
  have e2 : (sh0.mapIdx fun (k : Nat) s => shv V.1 s (X (L.length : Int) k)) = sh0.map dv := by
    apply List.ext_getElem?
    intro j
    rw [List.getElem?_mapIdx, List.getElem?_map]
    cases hj : sh0[j]? with
    | none => rfl
    | some s =>
      show some (shv V.1 s (X (L.length : Int) (j : Int))) = some (dv s)
      rw [hz, shv_dv (hs0 s (List.mem_of_getElem? hj))]
  rw [e2]
  exact hP1
theorem g_newi {tag t0 ix : Nat} {n i : Int} {atype : ArrayType} {ty : FieldType} (hC : Ok C V cc own nL fr lc) (htag : tag = 100 ∨ tag = 102 ∨ tag = 103) (har : Cond.arrayClass (newarray.typeOf atype) ∈ WS) (hty : newarray.typeOf atype = ty) (ht0 : (TYS V.2.2.1)[t0]? = some (V.2.2.1 (tag - 100), ty)) (hra : ∀ s c, va_RA s c ty = (s.vm.findClass ("[" ++ ty.toString) = some c)) (hdv : defaultValue ty = .int 0)
    (hn : 0 ≤ n ∧ n ≤ 100000) (hbytes : n.toNat * componentBytes ty ≤ 536870912) (hz : ∀ k : Int, X i k = 0) (hi : (L.length : Int) = i) (hL' : L ++ [(tag, [n])] = L') (hsz : C.2.2.2.2.1.heap.size + ca = V.1 + L.length) (hb : V.1 ≤ C.2.2.2.2.1.heap.size)
    (hc : ca + 1 ≤ C.2.2.2.1.cells) (hs : sl + n.toNat ≤ C.2.2.2.1.slots) (hdg : decode cc pc = .ok (.newarray atype, 2)) (h : G C V L' (ca + 1) (sl + n.toNat) nL (pc + 2) lv (vR V.1 i :: st) X f) : G C V L ca sl nL pc lv (vI n :: st) X f := by
  subst hi hL'
  intro hk H locs ls hP hS hl
  refine va_newa (a0 := (n.toNat, .inl fun _ => 0)) (atype := atype) hC.1 hC.2.1 (hC.2.2.2.2.1 _ har) hty hC.2.2.2.2.2.1.1 hP (WL_D _ _ _ _) hS (fun q hq => Nat.le_trans hb hq) (fun cA => by rw [hdv]; rfl) (not_neg hn.1 (by omega)) (i32_clamp ⟨hn.1, by omega⟩) hbytes hc hs hdg (fun q cA H1 hK1 hP1 hD1 hS1 => ?_)
  intro T1 hT1 Xs
  have e := sq hP1 hD1 hsz hT1 Xs
  subst e
  have hcs : cA = V.2.2.1 (tag - 100) := by
    have a1 := (hK1.2 (TYS V.2.2.1).length (cA, ty) (by rw [List.getElem?_append_right (Nat.le_refl _), Nat.sub_self]; rfl)).2
    have a2 := (hC.2.2.2.2.2.1.1.2 t0 _ ht0).2
    rw [hra] at a1 a2
    exact Option.some.inj (a1.symm.trans a2)
  subst hcs
  refine h hk H1 locs ls ?_ hS1 hl T1 hT1 Xs
  rw [WL_app]
  have e3 : kdE V.1 V.2.2.1 (tag, [n]) (X (L.length : Int)) = .inl (V.2.2.1 (tag - 100), n.toNat, .inl fun _ => 0) := by
    have hx : (fun j : Nat => Int32.ofInt (X (L.length : Int) j)) = fun _ => (0 : Int32) := funext fun j => by rw [hz]; rfl
    rcases htag with rfl | rfl | rfl
    · show (Sum.inl (V.2.2.1 0, n.toNat, .inl fun j : Nat => Int32.ofInt (X (L.length : Int) j)) : va_E) = _
      rw [hx]
    · show (Sum.inl (V.2.2.1 2, n.toNat, .inl fun j : Nat => Int32.ofInt (X (L.length : Int) j)) : va_E) = _
      rw [hx]
    · show (Sum.inl (V.2.2.1 3, n.toNat, .inl fun j : Nat => Int32.ofInt (X (L.length : Int) j)) : va_E) = _
      rw [hx]
  rw [e3]
  exact hP1
theorem g_newl {n i : Int} (hC : Ok C V cc own nL fr lc) (hn : 0 ≤ n ∧ n ≤ 100000) (hz : ∀ k : Int, X i k = 0) (hi : (L.length : Int) = i) (hL' : L ++ [(101, [n])] = L') (hsz : C.2.2.2.2.1.heap.size + ca = V.1 + L.length) (hb : V.1 ≤ C.2.2.2.2.1.heap.size)
    (hc : ca + 1 ≤ C.2.2.2.1.cells) (hs : sl + n.toNat ≤ C.2.2.2.1.slots) (hdg : decode cc pc = .ok (.newarray .long, 2)) (h : G C V L' (ca + 1) (sl + n.toNat) nL (pc + 2) lv (vR V.1 i :: st) X f) : G C V L ca sl nL pc lv (vI n :: st) X f := by
  subst hi hL'
  intro hk H locs ls hP hS hl
  refine va_newa (a0 := (n.toNat, .inr (.inl fun _ => 0))) (ty := .long) (atype := .long) hC.1 hC.2.1 (hC.2.2.2.2.1 _ war_FieldType_long) rfl hC.2.2.2.2.2.1.1 hP (WL_D _ _ _ _) hS (fun q hq => Nat.le_trans hb hq) (fun cA => rfl) (not_neg hn.1 (by omega)) (i32_clamp ⟨hn.1, by omega⟩) (by show n.toNat * 8 ≤ _; omega) hc hs hdg (fun q cA H1 hK1 hP1 hD1 hS1 => ?_)
  intro T1 hT1 Xs
  have e := sq hP1 hD1 hsz hT1 Xs
  subst e
  have hcs : cA = V.2.2.1 1 := by
    have a1 := (hK1.2 (TYS V.2.2.1).length (cA, .long) (by rw [List.getElem?_append_right (Nat.le_refl _), Nat.sub_self]; rfl)).2
    have a2 := (hC.2.2.2.2.2.1.1.2 1 _ rfl).2
    exact Option.some.inj (a1.symm.trans a2)
  subst hcs
  refine h hk H1 locs ls ?_ hS1 hl T1 hT1 Xs
  rw [WL_app]
  have hx : (fun j : Nat => Int64.ofInt (X (L.length : Int) j)) = fun _ => (0 : Int64) := funext fun j => by rw [hz]; rfl
  show va_P V.2.1 vwCl (_ ++ [(_, (Sum.inl (V.2.2.1 1, n.toNat, .inr (.inl fun j : Nat => Int64.ofInt (X (L.length : Int) j))) : va_E))]) H1
  rw [hx]
  exact hP1
/-- a field that holds a cell that stays -/
theorem kdE_ptr {b : Nat} {cs : Nat → ClassId} {ci k : Nat} {shs : List Int} {q : Int} {x : Int → Int} (hci : ci < 100) (hq : 0 ≤ q) (hk : k < shs.length) :
    (Sum.inr (ci, (shs.mapIdx fun (k' : Nat) s => shv b s (x k')).set k (vR b q)) : va_E) = kdE b cs (ci, shs.set k q) x := by
  rw [kdE_o hci]
  congr 2
  apply List.ext_getElem?
  intro j
  rw [List.getElem?_set, List.getElem?_mapIdx, List.getElem?_mapIdx, List.getElem?_set]
  by_cases hj : k = j
  · subst hj
    rw [if_pos rfl, if_pos (by rw [List.length_mapIdx]; exact hk), if_pos rfl, if_pos hk, Option.map_some, shv_S _ _ hq]
  · rw [if_neg hj, if_neg hj]
theorem WL_setL {b : Nat} {cs : Nat → ClassId} {i : Int} {kd kd' : Kd} {e : va_E} (h : At L i kd) (he : e = kdE b cs kd' (X i)) : (WL b cs L X).set i.toNat (b + i.toNat, e) = WL b cs (L.set i.toNat kd') X := by
  have hl : i.toNat < L.length := (List.getElem?_eq_some_iff.mp h.2).1
  apply List.ext_getElem?
  intro j
  rw [List.getElem?_set, WL_get, WL_get, List.getElem?_set]
  by_cases hj : i.toNat = j
  · subst hj
    rw [if_pos rfl, if_pos (by rw [WL_len]; exact hl), if_pos rfl, if_pos hl, Option.map_some, Int.toNat_of_nonneg h.1, he]
  · rw [if_neg hj, if_neg hj]
theorem g_putP {i q : Int} {ci : Nat} {shs : List Int} {K : String} {T : u_T} {N : Nat} {ty : Nat → FieldType} {k ix : Nat} {tv : FieldType} (hC : Ok C V cc own nL fr lc) (hf : Cf ci K T N ty) (hA : At L i (ci, shs)) (hci : ci < 100) (hq : 0 ≤ q) (hk : k < N) (hk2 : k < shs.length) (hlink : Cond.fieldLink own ix (T k).1 (T k).2.1 (T k).2.2.1 ∈ WS) (hin : C.2.2.2.2.2.2.2.2.1.name = "<init>") (hdecl : (T k).1 = own) (hty : ty k = tv) (htv : (∃ n, tv = .object n) ∨ ∃ t, tv = .array t) (hL' : L.set i.toNat (ci, shs.set k q) = L') (hdg : decode cc pc = .ok (.putfield ix, 3)) (h : G C V L' ca sl nL (pc + 3) lv st X f) : G C V L ca sl nL pc lv (vR V.1 q :: vR V.1 i :: st) X f := by
  subst hL'
  intro hk3 H locs ls hP hS hl
  have he := WL_at (b := V.1) (cs := V.2.2.1) (X := X) hA
  rw [kdE_o hci] at he
  have hn : narrow tv (vR V.1 q) = vR V.1 q := by rcases htv with ⟨n, rfl⟩ | ⟨t, rfl⟩ <;> rfl
  have hfit : fits tv (vR V.1 q) = true := by rcases htv with ⟨n, rfl⟩ | ⟨t, rfl⟩ <;> rfl
  have go : ∀ (H1 : Heap) (locs1 : List Loc), va_P V.2.1 vwCl ((WL V.1 V.2.2.1 L X).set i.toNat (V.1 + i.toNat, .inr (ci, (shs.mapIdx fun (k' : Nat) s => shv V.1 s (X i k')).set k (vR V.1 q)))) H1 → va_S (vA V) C.2.2.2.2.1.heap H1 locs1 → Wc C H1 locs1 ca sl (F0 C.2.2.2.2.2.1 (pc + 3) ls st) := by
    intro H1 locs1 hP1 hS1
    rw [WL_setL hA (kdE_ptr hci hq hk2)] at hP1
    exact h hk3 H1 locs1 ls hP1 hS1 hl
  cases hfin : (T k).2.2.2 with
  | true => exact va_putF hC.1 hC.2.1 hC.2.2.2.2.1 hf.2.1 ty hf.2.2.1 hf.2.2.2 hC.2.2.2.1 hC.2.2.2.2.2.1.1 hP (WL_D _ _ _ _) hS i.toNat he hf.1 k hk (hC.2.2.2.2.1 _ hlink) (fun _ q => q) hfin hin hdecl (hf.2.2.1 k hk) (by rw [hty]; exact hn) (by rw [hty]; exact hfit) (by rw [List.length_mapIdx]; exact hk2) hdg (fun H1 locs1 hP1 _ hS1 => go H1 locs1 hP1 hS1)
  | false => exact va_put hC.1 hC.2.1 hC.2.2.2.2.1 hf.2.1 ty hf.2.2.1 hf.2.2.2 hC.2.2.2.1 hC.2.2.2.2.2.1.1 hP (WL_D _ _ _ _) hS i.toNat he hf.1 k hk (hC.2.2.2.2.1 _ hlink) (fun _ q => q) hfin (hf.2.2.1 k hk) (by rw [hty]; exact hn) (by rw [hty]; exact hfit) (by rw [List.length_mapIdx]; exact hk2) hdg (fun H1 locs1 hP1 _ hS1 => go H1 locs1 hP1 hS1)
theorem g_oinit {ix : Nat} {i : Int} (hC : Ok C V cc own nL fr lc) (hlink : Cond.methodLink own ix Lib.objectInit ∈ WS) (hfr : 1 ≤ fr) (hlo : (st.map fun v => v.category).sum + 12 ≤ lc) (hdg : decode cc pc = .ok (.invokespecial ix, 3)) (h : G C V L ca sl nL (pc + 3) lv st X f) : G C V L ca sl nL pc lv (vR V.1 i :: st) X f :=
  fun hk H locs ls hP hS hl => W.objInit hC.1 hC.2.1 hC.2.2.2.1 (hC.2.2.2.2.1 _ hlink) (hC.2.2.2.2.1 _ wi_Lib_objectInit) (hC.2.2.2.2.1 _ wc_Lib_objectInit) rfl (by rw [hC.2.2.1]; exact hl.1) rfl hdg (Nat.le_trans hfr hC.2.2.2.2.2.2.1) (by show 2 * 0 + _ + 12 ≤ _; have := hC.2.2.2.2.2.2.2; omega) (h hk H locs ls hP hS hl)
/-- a constructor's contract -/
def Kc (l : Launch) (V : Ev) (y : MethodName) (cw : Cond) (fr mc ms lo : Nat) (vs : List Value) (L : List Kd) (X : Mem) (L' : List Kd) (X' : Mem) : Prop :=
  Met l y (cw :: WS) ({ frames := fr, cells := mc, slots := ms, locals := lo }) (va_Pc vs (fun U => Bk V U ∧ U.heap.size = V.1 + L.length ∧ va_P V.2.1 vwCl (WL V.1 V.2.2.1 L X) U.heap))
    (fun _ st oc t => oc = .returned none ∧ va_P V.2.1 vwCl (WL V.1 V.2.2.1 L' X') t.heap ∧ va_F (vA V) st t) mc ms (vA V)
def Rc (C : Cx) (V : Ev) (L' : List Kd) (X' : Mem) (mc ms : Nat) : Prop :=
  C.2.2.2.2.2.2.2.2.1.sig.returnType = none ∧ C.2.2.2.2.2.2.2.2.1.locks = false ∧ C.2.2.2.2.2.2.2.2.2.2.1 = MQ C.2.2.2.2.2.2.2.1 (fun _ st oc t => oc = .returned none ∧ va_P V.2.1 vwCl (WL V.1 V.2.2.1 L' X') t.heap ∧ va_F (vA V) st t) C.2.2.2.2.2.2.1 C.2.2.2.2.1 mc ms (vA V)
theorem kc_of {l : Launch} {y : MethodName} {fr mc ms lo : Nat} {vs : List Value} {lv0 : List (Nat × Value)} {X' : Mem}
    (hy : plainName y.cls = true) (ho : y.cls = own) (hyn : y.name = "<init>") (hn : (lg_sl vs).length ≤ nL) (hlv : lv_args 0 vs = lv0)
    (h : ∀ C : Cx, C.2.1 = l → Ok C V cc own nL fr lo → Rc C V L' X' mc ms → C.2.2.2.2.1.heap.size = V.1 + L.length → C.2.2.2.1.cells = mc → C.2.2.2.1.slots = ms → C.2.2.2.2.2.2.2.2.1.name = "<init>" → G C V L 0 0 nL 0 lv0 [] X (some C.2.2.2.2.2.2.2.2.2.2.2)) : Kc l V y (.code y cc nL none) fr mc ms lo vs L X L' X' := by
  refine Met.ofW (cc := cc) (maxL := nL) (ret := none) hy rfl ?_
  intro p e s m args below meth c s₁ B hml hv
  obtain ⟨rfl, ⟨hK, hB⟩, hsz, hP⟩ := hv
  have hts := atoms_spec B.pre
  rw [lg_entry_eq]
  exact h (p, l, e, _, s, m, vs.toArray, below, meth, c, _, (0, X')) rfl
    ⟨B.exec, B.bytes, hml, by rw [← ho]; exact findClass_of_methodNamed B.named, fun w hw => hts w (List.mem_cons_of_mem _ hw), ⟨hK, hB⟩, Nat.le_refl _, Nat.le_refl _⟩
    ⟨B.returns, B.notSynchronized, rfl⟩ hsz rfl rfl ((name_of_methodNamed B.named B.method).1.trans hyn) rfl s.heap [] _ hP va_S.rf (hlv ▸ lv_entry vs hn)
theorem g_cret (hC : Ok C V cc own nL fr lc) (hR : Rc C V L X ca sl) (hdg : decode cc pc = .ok (.return_, 1)) : G C V L ca sl nL pc lv [] X f := by
  intro hk H locs ls hP hS hl
  obtain ⟨hr, hlk, hQ⟩ := hR
  rw [hQ]
  exact W.vret hC.1 hC.2.1 hr (fun t ht hW => ⟨rfl, by rw [ht]; exact hP, hS.F ht⟩) hS.2.2 hdg hlk
theorem g_init {y : MethodName} {bytes : ByteArray} {mL n ix fr1 mc ms lo1 : Nat} {i : Int} {As rest st' : List Value} {X' : Mem}
    (hC : Ok C V cc own nL fr lc) (hin : Cond.instanceMethod y ∈ WS) (hini : Cond.initialized y.cls ∈ WS) (hco : Cond.code y bytes mL none ∈ WS) (hyn : y.name = "<init>") (hy : y.cls ≠ "java/lang/invoke/MethodHandle" ∧ y.cls ≠ "java/lang/invoke/VarHandle" ∧ (parseMethodDescriptor y.desc).map (fun d => d.parameters.length) = some n)
    (hlink : Cond.methodLink own ix y ∈ WS ∨ ∃ host, (own, ix, y, host) ∈ NST) (hK : Kc C.2.1 V y (.code y bytes mL none) fr1 mc ms lo1 (vR V.1 i :: As) L X L' X') (hsz : C.2.2.2.2.1.heap.size + ca = V.1 + L.length) (hL0 : 0 < L.length) (hca : ca + mc ≤ C.2.2.2.1.cells ∧ sl + ms ≤ C.2.2.2.1.slots)
    (hn : As.length = n) (hst : st' = As.reverse ++ vR V.1 i :: rest) (hrm : fr1 + 1 ≤ fr ∧ 8 + (mL + 11) + lo1 ≤ lc) (hcat : (rest.map fun v => v.category).sum ≤ 8) (hdg : decode cc pc = .ok (.invokespecial ix, 3))
    (h : G C V L' (ca + mc) (sl + ms) nL (pc + 3) lv rest X' f) : G C V L ca sl nL pc lv st' X f := by
  subst hst
  intro hk H locs ls hP hS hl T0 hT0 Xs0
  have hHs : H.size = V.1 + L.length := by
    have h1 := WL_lt hP hL0
    have h2 := Xs0.heapSize
    rw [hT0] at h2
    omega
  revert T0
  show Wc C H locs ca sl _
  have hblind : FrameBlind (va_Pc (vR V.1 i :: As) (fun U => Bk V U ∧ U.heap.size = V.1 + L.length ∧ va_P V.2.1 vwCl (WL V.1 V.2.2.1 L X) U.heap)) :=
    fun a U g mk q => ⟨q.1, ⟨va_K.moved (u := U) (U := U.calling g mk a) (Vm.Alike.refl U.vm) q.2.1.1, Bg_call q.2.1.2 rfl rfl⟩, q.2.2.1, q.2.2.2⟩
  have hpre : PreS C.2.2.2.2.1 H (va_Pc (vR V.1 i :: As) (fun U => Bk V U ∧ U.heap.size = V.1 + L.length ∧ va_P V.2.1 vwCl (WL V.1 V.2.2.1 L X) U.heap)) (vR V.1 i :: As) :=
    ⟨hblind, fun U hU hW => ⟨rfl, ⟨va_K.moved hW.alike hC.2.2.2.2.2.1.1, Bg_go hC.2.2.2.2.2.1.2 hW (by rw [hU]; exact hS)⟩, by rw [hU]; exact hHs, by rw [hU]; exact hP⟩⟩
  have fin : ∀ {Qa : State → Outcome → State → Prop}, (Qa = fun st oc t => oc = .returned none ∧ va_P V.2.1 vwCl (WL V.1 V.2.2.1 L' X') t.heap ∧ va_F (vA V) st t) →
      va_Run C.1 C.2.1 C.2.2.1 C.2.2.2.1 C.2.2.2.2.1 C.2.2.2.2.2.1 C.2.2.2.2.2.2.1 C.2.2.2.2.2.2.2.1 C.2.2.2.2.2.2.2.2.1 C.2.2.2.2.2.2.2.2.2.1 H locs ca sl mc ms (F0 C.2.2.2.2.2.1 pc ls (As.reverse ++ vR V.1 i :: rest)) rest Qa (vA V) → Wc C H locs ca sl (F0 C.2.2.2.2.2.1 pc ls (As.reverse ++ vR V.1 i :: rest)) := by
    intro Qa hQa hr
    subst hQa
    intro T hT Xs
    obtain ⟨v, st₀, t, T', L1, h0, X1, hL, e1, e2, ⟨hv, hp, hzz, hkk⟩, stp⟩ := hr T hT Xs
    cases hv
    rw [h0] at hzz hkk
    obtain ⟨t2, a1, b1⟩ := h hk T'.heap (locs ++ L1) ls (by rw [e1]; exact hp) ⟨Nat.le_trans hS.1 (by rw [e1]; exact hzz), fun q h1 h2 => by rw [e1, hkk q (Nat.lt_of_lt_of_le h1 hS.1) h2]; exact hS.2.1 q h1 h2, fun q hq => by
        rcases List.mem_append.mp hq with h | h
        · exact hS.2.2 q h
        · exact hL q h⟩ hl T' rfl X1
    exact ⟨t2, stp t2 a1, b1⟩
  rcases hlink with hlink | ⟨host, hlink⟩
  · exact fin rfl (va_runI (b := V.1 + i.toNat) (As := As) (rest := rest) ⟨hC.1, hC.2.1, hC.2.2.1, hC.2.2.2.1, hC.2.2.2.2.1⟩ hK
      (cwI n hC.2.2.2.2.1 (ws_c hco) rfl rfl rfl (hC.2.2.2.2.1 _ hini) (hC.2.2.2.2.1 _ hlink) (hC.2.2.2.2.1 _ hin) hyn hy ⟨Nat.le_trans hrm.1 hC.2.2.2.2.2.2.1, Nat.le_trans hrm.2 hC.2.2.2.2.2.2.2⟩) hpre rfl hn hl.1 rfl (lv_room hcat) hdg hca)
  · exact fin rfl (va_runIN (b := V.1 + i.toNat) (As := As) (rest := rest) ⟨hC.1, hC.2.1, hC.2.2.1, hC.2.2.2.1, hC.2.2.2.2.1⟩ hK
      ⟨va_cnB n hC.2.2.2.2.1 (ws_c hco) rfl rfl rfl (hC.2.2.2.2.2.1.2.1 _ hlink) (hC.2.2.2.2.1 _ hini) hy ⟨Nat.le_trans hrm.1 hC.2.2.2.2.2.2.1, Nat.le_trans hrm.2 hC.2.2.2.2.2.2.2⟩, hyn, hC.2.2.2.2.1 _ hin⟩ hpre rfl hn hl.1 rfl (lv_room hcat) hdg hca)
/-- a field that holds a cell that moves, for the first time -/
theorem g_putPD {i q : Int} {ci : Nat} {shs : List Int} {K D : String} {T : u_T} {N : Nat} {ty : Nat → FieldType} {k ix : Nat} (hC : Ok C V cc own nL fr lc) (hf : Cf ci K T N ty) (hA : At L i (ci, shs)) (hci : ci < 100) (hk : k < N) (hk2 : k < shs.length) (hlink : Cond.fieldLink own ix (T k).1 (T k).2.1 (T k).2.2.1 ∈ WS) (hfin : (T k).2.2.2 = false) (hty : ty k = .object D) (hL' : L.set i.toNat (ci, shs.set k (-3)) = L') (hdg : decode cc pc = .ok (.putfield ix, 3)) (h : G C V L' ca sl nL (pc + 3) lv st (ms X i k q) f) : G C V L ca sl nL pc lv (vR V.1 q :: vR V.1 i :: st) X f := by
  subst hL'
  intro hk3 H locs ls hP hS hl
  have he := WL_at (b := V.1) (cs := V.2.2.1) (X := X) hA
  rw [kdE_o hci] at he
  refine va_put hC.1 hC.2.1 hC.2.2.2.2.1 hf.2.1 ty hf.2.2.1 hf.2.2.2 hC.2.2.2.1 hC.2.2.2.2.2.1.1 hP (WL_D _ _ _ _) hS i.toNat he hf.1 k hk (hC.2.2.2.2.1 _ hlink) (fun _ q => q) hfin (hf.2.2.1 k hk) (by rw [hty]; rfl) (by rw [hty]; rfl) (by rw [List.length_mapIdx]; exact hk2) hdg (fun H1 locs1 hP1 _ hS1 => ?_)
  refine h hk3 H1 locs1 ls ?_ hS1 hl
  have e1 : (Sum.inr (ci, (shs.mapIdx fun (k' : Nat) s => shv V.1 s (X i k')).set k (vR V.1 q)) : va_E) = kdE V.1 V.2.2.1 (ci, shs.set k (-3)) ((ms X i k q) i) := by
    rw [kdE_o hci]
    congr 2
    apply List.ext_getElem?
    intro j
    rw [List.getElem?_set, List.getElem?_mapIdx, List.getElem?_mapIdx, List.getElem?_set]
    by_cases hj : k = j
    · subst hj
      rw [if_pos rfl, if_pos (by rw [List.length_mapIdx]; exact hk2), if_pos rfl, if_pos hk2, Option.map_some, shv_D]
      simp [ms]
    · rw [if_neg hj, if_neg hj]
      congr 1
      funext s
      have : ¬ ((j : Int) = (k : Int)) := by omega
      simp [ms, this]
  have e2 : (WL V.1 V.2.2.1 L X).set i.toNat (V.1 + i.toNat, (Sum.inr (ci, (shs.mapIdx fun (k' : Nat) s => shv V.1 s (X i k')).set k (vR V.1 q)) : va_E)) = WL V.1 V.2.2.1 (L.set i.toNat (ci, shs.set k (-3))) (ms X i k q) := by
    have hl2 : i.toNat < L.length := (List.getElem?_eq_some_iff.mp hA.2).1
    apply List.ext_getElem?
    intro j
    rw [List.getElem?_set, WL_get, WL_get, List.getElem?_set]
    by_cases hj : i.toNat = j
    · subst hj
      rw [if_pos rfl, if_pos (by rw [WL_len]; exact hl2), if_pos rfl, if_pos hl2, Option.map_some, Int.toNat_of_nonneg hA.1, e1]
    · rw [if_neg hj, if_neg hj, ms_ne (fun e => hj (by rw [← e]; rfl))]
  rw [← e2]
  exact hP1
theorem g_icmpT {a b off : Int} {tgt : Nat} (hC : Ok C V cc own nL fr lc) (hdg : decode cc pc = .ok (.if_icmp .ge off, 3)) (ht : (pc : Int) + off = (tgt : Int)) (ha : -2147483648 ≤ a ∧ a ≤ 2147483647) (hb : -2147483648 ≤ b ∧ b ≤ 2147483647) (hx : b ≤ a) (h1 : G C V L ca sl nL tgt lv st X f) : G C V L ca sl nL pc lv (vI b :: vI a :: st) X f := by
  have h := g_icmp_ge (f1 := f) (f2 := none) hC hdg ht h1 g_none (a := a) (b := b)
  unfold c2 at h
  rwa [if_pos ⟨ha, hb⟩, if_pos hx] at h
theorem g_icmpF {a b off : Int} {tgt : Nat} (hC : Ok C V cc own nL fr lc) (hdg : decode cc pc = .ok (.if_icmp .ge off, 3)) (ht : (pc : Int) + off = (tgt : Int)) (ha : -2147483648 ≤ a ∧ a ≤ 2147483647) (hb : -2147483648 ≤ b ∧ b ≤ 2147483647) (hx : ¬ b ≤ a) (h2 : G C V L ca sl nL (pc + 3) lv st X f) : G C V L ca sl nL pc lv (vI b :: vI a :: st) X f := by
  have h := g_icmp_ge (f1 := none) (f2 := f) hC hdg ht g_none h2 (a := a) (b := b)
  unfold c2 at h
  rwa [if_pos ⟨ha, hb⟩, if_neg hx] at h
/-- a call of a method whose answer is known -/
theorem g_callVX {y : MethodName} {K : String} {bytes : ByteArray} {mL n ix fr1 lo1 ci : Nat} {rt : Option FieldType} {i r0 : Int} {shs : List Int} {T : u_T} {N : Nat} {ty : Nat → FieldType} {As rest st' : List Value} {fo : Option (Int × Mem)} {X1 : Mem} (hC : Ok C V cc own nL fr lc) (hM : Mv y K bytes mL rt n) (hlink : Cond.methodLink own ix y ∈ WS) (hK : Kt C.2.1 V L y (.code y bytes mL rt) fr1 lo1 (vR V.1 i :: As) rV X fo) (hfo : fo = some (r0, X1)) (hf : Cf ci K T N ty) (hA : At L i (ci, shs)) (hci : ci < 100) (hca : ca ≤ C.2.2.2.1.cells ∧ sl ≤ C.2.2.2.1.slots) (hn : As.length = n) (hst : st' = As.reverse ++ vR V.1 i :: rest) (hrm : fr1 + 1 ≤ fr ∧ 8 + (mL + 11) + lo1 ≤ lc) (hcat : (rest.map fun v => v.category).sum ≤ 8) (hdg : decode cc pc = .ok (.invokevirtual ix, 3))
    (h : G C V L ca sl nL (pc + 3) lv rest X1 f) : G C V L ca sl nL pc lv st' X f := by
  intro hk
  refine g_callVV (k := fun _ X2 => @ite _ (X2 = X1) (Classical.propDecidable _) f none) hC hM hlink hK hf hA hci hca hn hst hrm hcat hdg (fun r X2 => ?_) ?_
  · intro hk2
    by_cases e : X2 = X1
    · rw [if_pos e] at hk2
      subst e
      exact h hk2
    · rw [if_neg e] at hk2
      cases hk2
  · rw [hfo]
    refine Eq.trans ?_ hk
    exact if_pos rfl
/-- a new row of references -/
theorem g_newr {t0 ix : Nat} {K : String} {ts : List Int} {i n : Int} {tag : Nat} (hC : Ok C V cc own nL fr lc) (hcl : Cond.classLink own ix K ∈ WS) (hao : va_AO K C.2.2.2.2.1) (htag : 104 ≤ tag) (ht0 : (TYS V.2.2.1)[t0]? = some (V.2.2.1 (tag - 100), .object K)) (hts : ∀ t ∈ ts, t = -4) (hn : (ts.length : Int) = n) (hn2 : n ≤ 1000) (hi : (L.length : Int) = i) (hL' : L ++ [(tag, ts)] = L') (hsz : C.2.2.2.2.1.heap.size + ca = V.1 + L.length) (hb : V.1 ≤ C.2.2.2.2.1.heap.size)
    (hc : ca + 1 ≤ C.2.2.2.1.cells) (hs : sl + ts.length ≤ C.2.2.2.1.slots) (hdg : decode cc pc = .ok (.anewarray ix, 3)) (h : G C V L' (ca + 1) (sl + ts.length) nL (pc + 3) lv (vR V.1 i :: st) X f) : G C V L ca sl nL pc lv (vI n :: st) X f := by
  subst hi hL' hn
  intro hk H locs ls hP hS hl
  refine va_newq (N' := ts.length) hC.1 hC.2.1 hC.2.2.2.1 (hC.2.2.2.2.1 _ hcl) hao hC.2.2.2.2.2.1.1 hP (WL_D _ _ _ _) hS (fun q hq => Nat.le_trans hb hq) (not_neg (by omega) (by omega)) (by rw [i32_clamp ⟨by omega, by omega⟩]; rfl) (by omega) hc hs hdg (fun q cA H1 hK1 hP1 hD1 hS1 => ?_)
  intro T1 hT1 Xs
  have e := sq hP1 hD1 hsz hT1 Xs
  subst e
  have hcs : cA = V.2.2.1 (tag - 100) := by
    have a1 := (hK1.2 (TYS V.2.2.1).length (cA, .object K) (by rw [List.getElem?_append_right (Nat.le_refl _), Nat.sub_self]; rfl)).2
    have a2 := (hC.2.2.2.2.2.1.1.2 t0 _ ht0).2
    obtain ⟨-, -, -, -, -, b1⟩ := a1
    obtain ⟨-, -, -, -, -, b2⟩ := a2
    exact Option.some.inj (b1.symm.trans b2)
  subst hcs
  refine h hk H1 locs ls ?_ hS1 hl T1 hT1 Xs
  rw [WL_app, kdE, if_neg (by show ¬ tag < 100; omega), if_neg (by show ¬ tag = 101; omega), if_neg (by show ¬ tag < 104; omega)]
  have e1 : kdR V.1 ts = fun _ => none := by
    funext j
    unfold kdR
    cases hj : ts[j]? with
    | none => rfl
    | some t =>
      rw [hts t (List.mem_of_getElem? hj)]
      rfl
  show va_P V.2.1 vwCl (_ ++ [(_, (Sum.inl (V.2.2.1 (tag - 100), ts.length, .inr (.inr (.inr (.inr (kdR V.1 ts))))) : va_E))]) H1
  rw [e1]
  exact hP1
/-- a cell comes into a row of references -/
theorem g_aastP {t0 ci j : Nat} {tag : Nat} {K : String} {T : u_T} {N : Nat} {ty : Nat → FieldType} {ts shs : List Int} {i q jz : Int} (hC : Ok C V cc own nL fr lc) (hf : Cf ci K T N ty) (hA : At L i (tag, ts)) (hB : At L q (ci, shs)) (hci : ci < 100) (htag : 104 ≤ tag) (ht0 : (TYS V.2.2.1)[t0]? = some (V.2.2.1 (tag - 100), .object K)) (hj : j < ts.length) (hjz : (j : Int) = jz) (hn2 : (ts.length : Int) ≤ 1000) (hL' : L.set i.toNat (tag, ts.set j q) = L') (hdg : decode cc pc = .ok (.aastore, 1)) (h : G C V L' ca sl nL (pc + 1) lv st X f) : G C V L ca sl nL pc lv (vR V.1 q :: vI jz :: vR V.1 i :: st) X f := by
  subst hL' hjz
  intro hk H locs ls hP hS hl
  have he := WL_at (b := V.1) (cs := V.2.2.1) (X := X) hA
  have hb := WL_at (b := V.1) (cs := V.2.2.1) (X := X) hB
  rw [kdE, if_neg (by show ¬ tag < 100; omega), if_neg (by show ¬ tag = 101; omega), if_neg (by show ¬ tag < 104; omega)] at he
  rw [kdE_o hci] at hb
  have hcl := i32_clamp (a := (j : Int)) ⟨by omega, by omega⟩
  refine va_astq hC.1 hC.2.1 hC.2.2.2.2.2.1.1 hP (WL_D _ _ _ _) hS i.toNat t0 q.toNat ci he ht0 hb hf.1 (i := Int32.ofInt j) ?_ hdg (fun H1 locs1 hP1 _ hS1 => ?_)
  · rintro (z | z)
    · exact absurd ((i32_lt (b := 0) ⟨by omega, by omega⟩ (by decide)).mp z) (by omega)
    · rw [hcl] at z
      have z2 : ts.length ≤ (j : Int).toNat := z
      omega
  · refine h hk H1 locs1 ls ?_ hS1 hl
    have e1 : va_up (kdR V.1 ts) j (some (V.1 + q.toNat)) = kdR V.1 (ts.set j q) := by
      funext k
      unfold va_up kdR
      rw [List.getElem?_set]
      by_cases hk2 : k = j
      · subst hk2
        rw [if_pos rfl, if_pos rfl, if_pos hj, Option.bind_some, if_pos hB.1]
      · rw [if_neg hk2, if_neg (fun z => hk2 z.symm)]
    rw [hcl, show ((j : Int)).toNat = j from rfl] at hP1
    have hP2 : va_P V.2.1 vwCl ((WL V.1 V.2.2.1 L X).set i.toNat (V.1 + i.toNat, .inl (V.2.2.1 (tag - 100), ts.length, .inr (.inr (.inr (.inr (va_up (kdR V.1 ts) j (some (V.1 + q.toNat))))))))) H1 := hP1
    rw [e1, WL_setL (kd' := (tag, ts.set j q)) hA (by
      rw [kdE, if_neg (by show ¬ tag < 100; omega), if_neg (by show ¬ tag = 101; omega), if_neg (by show ¬ tag < 104; omega)]
      show _ = (Sum.inl (V.2.2.1 (tag - 100), (ts.set j q).length, .inr (.inr (.inr (.inr (kdR V.1 (ts.set j q)))))) : va_E)
      rw [List.length_set])] at hP2
    exact hP2
/-- four rows of longs, and a row of them -/
theorem g_mna4 {ix : Nat} {i : Int} (hC : Ok C V cc own nL fr lc) (hcl : Cond.classLink own ix ("[" ++ (FieldType.array .long).toString) ∈ WS) (hi : (L.length : Int) = i) (hz : ∀ j k : Int, i ≤ j → X j k = 0) (hL' : L ++ [(106, [i + 1, i + 2, i + 3, i + 4]), (101, [32]), (101, [32]), (101, [32]), (101, [32])] = L') (hsz : C.2.2.2.2.1.heap.size + ca = V.1 + L.length) (hL0 : 0 < L.length) (hb : V.1 ≤ C.2.2.2.2.1.heap.size)
    (hc : ca + 5 ≤ C.2.2.2.1.cells) (hs : sl + 132 ≤ C.2.2.2.1.slots) (hdg : decode cc pc = .ok (.multianewarray ix 2, 4)) (h : G C V L' (ca + 1 + 4) (sl + 4 + 4 * 32) nL (pc + 4) lv (vR V.1 i :: st) X f) : G C V L ca sl nL pc lv (vI 32 :: vI 4 :: st) X f := by
  subst hi hL'
  intro hk H locs ls hP hS hl T0 hT0 Xs0
  have hHs : H.size = V.1 + L.length := by
    have h1 := WL_lt hP hL0
    have h2 := Xs0.heapSize
    rw [hT0] at h2
    omega
  have hn4 : (Int32.ofInt 4).toNatClampNeg = 4 := by decide +kernel
  have hn32 : (Int32.ofInt 32).toNatClampNeg = 32 := by decide +kernel
  have hRA6 := (hC.2.2.2.2.2.1.1.2 6 (V.2.2.1 6, .array .long) rfl).2
  have hRA1 := (hC.2.2.2.2.2.1.1.2 1 (V.2.2.1 1, .long) rfl).2
  obtain ⟨vm₁, cA, comp, -, fA, fC, hO, -, X', step⟩ := Xs0.multianewarray2F hC.1 hC.2.2.2.1 (hC.2.2.2.2.1 _ hcl) (ty := .long) (show (Cond.arrayOver (.array .long)).before C.2.2.2.2.2.2.1 C.2.2.2.2.1 = true from hC.2.2.2.2.2.1.2.2.2.2.2.2.2.2) (hC.2.2.2.2.1 _ war_FieldType_long) (g := F0 C.2.2.2.2.2.1 pc ls (vI 32 :: vI 4 :: st)) rfl (by rw [hC.2.1]; exact hdg) rfl (by decide +kernel) (by decide +kernel) (by rw [hn4]; decide) (by rw [hn32]; decide) (by rw [hn32]; decide) rfl rfl (by rw [hn4]; omega) (by rw [hn4, hn32]; omega)
  have ec1 : some (V.2.2.1 6) = some cA := hRA6.symm.trans fA
  have ec2 : some (V.2.2.1 1) = some comp := hRA1.symm.trans fC
  cases ec1
  cases ec2
  rw [hn4, hn32] at X' step
  generalize hF : Jvm.Free.Multi.fill (T0.setVm vm₁) (V.2.2.1 6) (V.2.2.1 1) 4 32 (defaultValue .long) 4 = F at X' step
  have hTh : (T0.setVm vm₁).heap = H := hT0
  obtain ⟨f1, f2, -, -⟩ := Jvm.Free.Multi.fill_facts (T0.setVm vm₁) (V.2.2.1 6) (V.2.2.1 1) 4 32 (defaultValue .long) 4
  rw [hF, hTh] at f1 f2
  have hold : ∀ x : Nat, x < H.size → F.heap[x]? = H[x]? := fun x hx => by
    have := Jvm.Free.Multi.fill_old (T0.setVm vm₁) (V.2.2.1 6) (V.2.2.1 1) 4 32 (defaultValue .long) (a := x) (by rw [hTh]; exact hx) 4
    rw [hF, hTh] at this
    exact this
  have hrow : ∀ j : Nat, j < 4 → F.heap[H.size + 1 + j]? = some (Jvm.Free.Multi.innerC (V.2.2.1 1) 32 (defaultValue .long)) := fun j hj => by
    have := Jvm.Free.Multi.fill_inner (T0.setVm vm₁) (V.2.2.1 6) (V.2.2.1 1) 4 32 (defaultValue .long) 4 j hj
    rw [hF, hTh] at this
    exact this
  rw [vr_outer] at f2
  have hz0 : ∀ j : Int, (L.length : Int) ≤ j → (fun q : Nat => Int64.ofInt (X j q)) = fun _ => (0 : Int64) := fun j hj => funext fun q => by rw [hz _ _ hj]; rfl
  have hinn : vp_cell (V.2.2.1 1) (32, .inr (.inl fun _ => 0)) = Jvm.Free.Multi.innerC (V.2.2.1 1) 32 (defaultValue .long) := by
    rw [vp_cell_l]
    show arrV (V.2.2.1 1) 32 (fun _ => .long 0) = ({ cls := V.2.2.1 1, slots := Array.replicate 32 (.long 0), vm := .none } : Cell)
    rw [arrV_new]
  have hP1 : va_P V.2.1 vwCl (WL V.1 V.2.2.1 (L ++ [(106, [(L.length : Int) + 1, (L.length : Int) + 2, (L.length : Int) + 3, (L.length : Int) + 4]), (101, [32]), (101, [32]), (101, [32]), (101, [32])]) X) F.heap := by
    intro k q hq
    rw [WL_get] at hq
    by_cases hk : k < L.length
    · rw [List.getElem?_append_left hk] at hq
      have h0 := hP k q (by rw [WL_get]; exact hq)
      exact h0.kept (hold _ h0.lt)
    · rw [List.getElem?_append_right (by omega)] at hq
      obtain ⟨j, rfl⟩ : ∃ j, k = L.length + j := ⟨k - L.length, by omega⟩
      rw [Nat.add_sub_cancel_left] at hq
      have inner : ∀ j : Nat, j < 4 → va_at V.2.1 vwCl (V.1 + (L.length + (j + 1)), kdE V.1 V.2.2.1 (101, [32]) (X ((L.length + (j + 1) : Nat) : Int))) F.heap := by
        intro j hj
        show F.heap[V.1 + (L.length + (j + 1))]? = some (vp_cell (V.2.2.1 1) (32, .inr (.inl fun q : Nat => Int64.ofInt (X ((L.length + (j + 1) : Nat) : Int) q))))
        rw [hz0 _ (by omega), hinn, ← hrow j hj, hHs]
        congr 1
        omega
      match j, hq with
      | 0, hq =>
        cases hq
        show F.heap[V.1 + (L.length + 0)]? = some (vp_cell (V.2.2.1 6) (4, .inr (.inr (.inr (.inr (kdR V.1 [(L.length : Int) + 1, (L.length : Int) + 2, (L.length : Int) + 3, (L.length : Int) + 4]))))))
        rw [Nat.add_zero, ← hHs, f2, vp_cell_q]
        congr 1
        unfold arrV
        congr 2
        funext j
        obtain ⟨j, hj⟩ := j
        show va_rf (if j < 4 then some (H.size + 1 + j) else none) = va_rf (kdR V.1 _ j)
        rw [if_pos hj]
        congr 1
        rw [hHs]
        match j, hj with
        | 0, _ =>
          unfold kdR
          rw [show ([(L.length : Int) + 1, (L.length : Int) + 2, (L.length : Int) + 3, (L.length : Int) + 4] : List Int)[0]? = some ((L.length : Int) + 1) from rfl, Option.bind_some, if_pos (by omega)]
          congr 1
        | 1, _ =>
          unfold kdR
          rw [show ([(L.length : Int) + 1, (L.length : Int) + 2, (L.length : Int) + 3, (L.length : Int) + 4] : List Int)[1]? = some ((L.length : Int) + 2) from rfl, Option.bind_some, if_pos (by omega)]
          congr 1
        | 2, _ =>
          unfold kdR
          rw [show ([(L.length : Int) + 1, (L.length : Int) + 2, (L.length : Int) + 3, (L.length : Int) + 4] : List Int)[2]? = some ((L.length : Int) + 3) from rfl, Option.bind_some, if_pos (by omega)]
          congr 1
        | 3, _ =>
          unfold kdR
          rw [show ([(L.length : Int) + 1, (L.length : Int) + 2, (L.length : Int) + 3, (L.length : Int) + 4] : List Int)[3]? = some ((L.length : Int) + 4) from rfl, Option.bind_some, if_pos (by omega)]
          congr 1
      | 1, hq => cases hq; exact inner 0 (by omega)
      | 2, hq => cases hq; exact inner 1 (by omega)
      | 3, hq => cases hq; exact inner 2 (by omega)
      | 4, hq => cases hq; exact inner 3 (by omega)
      | j + 5, hq => simp at hq
  have hS1 : va_S (vA V) C.2.2.2.2.1.heap F.heap locs := ⟨by rw [f1]; have := hS.1; omega, fun q g1 g2 => (hold q (Nat.lt_of_lt_of_le g1 hS.1)).trans (hS.2.1 q g1 g2), hS.2.2⟩
  obtain ⟨t, a1, b1⟩ := h hk F.heap locs ls hP1 hS1 hl F rfl X'
  refine ⟨t, step t ?_, b1⟩
  have e : vR V.1 (L.length : Int) = .ref T0.heap.size := by
    rw [hT0, hHs]
    rfl
  rw [e] at a1
  exact a1
end GC
