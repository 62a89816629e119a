/-! the memory: cell i, place k; every int, long, and every reference that moves is a number there -/
abbrev Mem : Type := Int → Int → Int
def ms (X : Mem) (i k v : Int) : Mem := fun i' k' => if i' = i ∧ k' = k then v else X i' k'
theorem ms_ne {X : Mem} {i k v j : Int} (h : j ≠ i) : ms X i k v j = X j := funext fun k' => by simp [ms, h]
/-- a whole row -/
def ma (X : Mem) (i : Int) (f : Int → Int) : Mem := fun i' => if i' = i then f else X i'
theorem ma_ne {X : Mem} {i j : Int} {f : Int → Int} (h : j ≠ i) : ma X i f j = X j := if_neg h
def vI (a : Int) : Value := .int (Int32.ofInt a)
def vJ (a : Int) : Value := .long (Int64.ofInt a)
def vR (b : Nat) (i : Int) : Value := .ref (b + i.toNat)
/-- kinds of cells: below 100 the class's number and a shape a field (-1 int, -2 long, -3 a reference that moves, -4 null, j: cell j); 100 int, 101 long, 102 byte, 103 boolean rows and their length; from 104 on rows of references -/
abbrev Kd : Type := Nat × List Int
def shv (b : Nat) (sh v : Int) : Value := if 0 ≤ sh then vR b sh else if sh = -1 then vI v else if sh = -2 then vJ v else if sh = -3 then vR b v else .null
def kdR (b : Nat) (ts : List Int) (j : Nat) : Option Nat := (ts[j]?).bind fun t => if 0 ≤ t then some (b + t.toNat) else none
def kdE (b : Nat) (cs : Nat → ClassId) (kd : Kd) (x : Int → Int) : va_E :=
  if kd.1 < 100 then .inr (kd.1, kd.2.mapIdx fun (k : Nat) sh => shv b sh (x k))
  else if kd.1 = 101 then .inl (cs 1, ((kd.2.headD 0).toNat, .inr (.inl fun j : Nat => Int64.ofInt (x j))))
  else if kd.1 < 104 then .inl (cs (kd.1 - 100), ((kd.2.headD 0).toNat, .inl fun j : Nat => Int32.ofInt (x j)))
  else .inl (cs (kd.1 - 100), (kd.2.length, .inr (.inr (.inr (.inr (kdR b kd.2))))))
def WL (b : Nat) (cs : Nat → ClassId) (L : List Kd) (X : Mem) : va_W := L.mapIdx fun (i : Nat) kd => (b + i, kdE b cs kd (X i))
def At (L : List Kd) (i : Int) (kd : Kd) : Prop := 0 ≤ i ∧ L[i.toNat]? = some kd
theorem WL_get (b : Nat) (cs : Nat → ClassId) (L : List Kd) (X : Mem) (i : Nat) : (WL b cs L X)[i]? = (L[i]?).map fun kd => (b + i, kdE b cs kd (X i)) := by
  simp [WL, List.getElem?_mapIdx]
theorem WL_at {b : Nat} {cs : Nat → ClassId} {L : List Kd} {X : Mem} {i : Int} {kd : Kd} (h : At L i kd) : (WL b cs L X)[i.toNat]? = some (b + i.toNat, kdE b cs kd (X i)) := by
  rw [WL_get, h.2, Option.map_some, Int.toNat_of_nonneg h.1]
theorem WL_set {b : Nat} {cs : Nat → ClassId} {L : List Kd} {X X' : Mem} {i : Int} {kd : Kd} {e : va_E} (h : At L i kd) (he : e = kdE b cs kd (X' i)) (hX : ∀ j : Int, j ≠ i → X' j = X j) : (WL b cs L X).set i.toNat (b + i.toNat, e) = WL b cs L X' := by
  apply List.ext_getElem?
  intro j
  rw [List.getElem?_set, WL_get, WL_get]
  have hl : i.toNat < L.length := (List.getElem?_eq_some_iff.mp h.2).1
  by_cases hj : i.toNat = j
  · subst hj
    rw [if_pos rfl, if_pos (by rw [WL, List.length_mapIdx]; exact hl), h.2, Option.map_some, Int.toNat_of_nonneg h.1, he]
  · rw [if_neg hj, hX j (fun q => hj (by rw [← q]; rfl))]
theorem WL_D (b : Nat) (cs : Nat → ClassId) (L : List Kd) (X : Mem) : va_D (fun q => b ≤ q) (WL b cs L X) := by
  have key : ∀ (i : Nat) (p : Nat × va_E), (WL b cs L X)[i]? = some p → p.1 = b + i := by
    intro i p h
    rw [WL_get] at h
    obtain ⟨kd, -, rfl⟩ := Option.map_eq_some_iff.mp h
    rfl
  refine ⟨fun i j p q hp hq e => ?_, fun k q hq => ?_⟩
  · have := key i p hp
    have := key j q hq
    omega
  · have := key k q hq
    show b ≤ q.1
    omega
/-! what a run of a method stands on -/
abbrev Cx : Type := Program × Launch × Env × Room × State × MethodId × Array Value × List Frame × Method × Code × (State → Prop) × (Int × Mem)
/-- base, numbers of classes and fields, array classes, addresses of literals and of their bytes, of static rows -/
abbrev Ev : Type := Nat × va_G × (Nat → ClassId) × (Nat → Nat) × (Nat → Nat) × (Nat → Nat)
def TYS (cs : Nat → ClassId) : List (ClassId × FieldType) := [(cs 0, .int), (cs 1, .long), (cs 2, .byte), (cs 3, .boolean), (cs 4, .object "PoleRiver$Tray"), (cs 5, .object "PoleRiver$State"), (cs 6, .array .long)]
abbrev vA (V : Ev) : Nat → Prop := fun q => V.1 ≤ q
def G (C : Cx) (V : Ev) (L : List Kd) (ca sl nL pc : Nat) (lv : List (Nat × Value)) (st : List Value) (X : Mem) (k : Option (Int × Mem)) : Prop :=
  k = some C.2.2.2.2.2.2.2.2.2.2.2 → ∀ (H : Heap) (locs : List Loc) (ls : Array Slot), va_P V.2.1 vwCl (WL V.1 V.2.2.1 L X) H → va_S (vA V) C.2.2.2.2.1.heap H locs → lv_has ls nL lv →
    W C.1 C.2.1 C.2.2.1 C.2.2.2.1 C.2.2.2.2.1 C.2.2.2.2.2.1 C.2.2.2.2.2.2.1 C.2.2.2.2.2.2.2.1 C.2.2.2.2.2.2.2.2.1 C.2.2.2.2.2.2.2.2.2.1 H locs ca sl C.2.2.2.2.2.2.2.2.2.2.1 (F0 C.2.2.2.2.2.1 pc ls st)

def sTx : List (String × Nat × String) := [(RX3, 57, "size"), (RX3, 79, "row"), (RX3, 88, "bar"), (RX8, 91, "size row bar takes chance goes comes at to stage less boat draft load straight slant turn lost pole colour "), (RX3, 159, "takes"), (RX3, 163, "chance"), (RX3, 168, "goes"), (RX3, 172, "comes"), (RX3, 93, "at"), (RX3, 176, "to"), (RX3, 98, "stage"), (RX3, 185, "less"), (RX3, 103, "boat"), (RX3, 190, "draft"), (RX3, 194, "load"), (RX3, 204, "straight"), (RX3, 208, "slant"), (RX3, 212, "turn"), (RX3, 216, "lost"), (RX3, 108, "pole"), (RX3, 113, "colour"), (RX5, 48, "end"), (RX5, 89, "sound"), (RX5, 91, "colour"), (RX5, 93, "wait"), (RX5, 95, "off"), (RX5, 97, "when"), (RX5, 99, "loop"), (RX5, 101, "go"), (RX5, 103, "stop"), (RX5, 115, "sure"), (RX5, 120, "there"), (RX5, 122, "gone"), (RX12, 194, " size row bar takes chance goes comes at to stage less boat draft load straight slant turn lost pole colour "), (RX12, 249, " sound colour wait off when loop end go stop there gone sure ")]
/-- the literals' letters -/
def sBy : List (List Int) := [[115, 105, 122, 101], [114, 111, 119], [98, 97, 114], [115, 105, 122, 101, 32, 114, 111, 119, 32, 98, 97, 114, 32, 116, 97, 107, 101, 115, 32, 99, 104, 97, 110, 99, 101, 32, 103, 111, 101, 115, 32, 99, 111, 109, 101, 115, 32, 97, 116, 32, 116, 111, 32, 115, 116, 97, 103, 101, 32, 108, 101, 115, 115, 32, 98, 111, 97, 116, 32, 100, 114, 97, 102, 116, 32, 108, 111, 97, 100, 32, 115, 116, 114, 97, 105, 103, 104, 116, 32, 115, 108, 97, 110, 116, 32, 116, 117, 114, 110, 32, 108, 111, 115, 116, 32, 112, 111, 108, 101, 32, 99, 111, 108, 111, 117, 114, 32], [116, 97, 107, 101, 115], [99, 104, 97, 110, 99, 101], [103, 111, 101, 115], [99, 111, 109, 101, 115], [97, 116], [116, 111], [115, 116, 97, 103, 101], [108, 101, 115, 115], [98, 111, 97, 116], [100, 114, 97, 102, 116], [108, 111, 97, 100], [115, 116, 114, 97, 105, 103, 104, 116], [115, 108, 97, 110, 116], [116, 117, 114, 110], [108, 111, 115, 116], [112, 111, 108, 101], [99, 111, 108, 111, 117, 114], [101, 110, 100], [115, 111, 117, 110, 100], [99, 111, 108, 111, 117, 114], [119, 97, 105, 116], [111, 102, 102], [119, 104, 101, 110], [108, 111, 111, 112], [103, 111], [115, 116, 111, 112], [115, 117, 114, 101], [116, 104, 101, 114, 101], [103, 111, 110, 101], [32, 115, 105, 122, 101, 32, 114, 111, 119, 32, 98, 97, 114, 32, 116, 97, 107, 101, 115, 32, 99, 104, 97, 110, 99, 101, 32, 103, 111, 101, 115, 32, 99, 111, 109, 101, 115, 32, 97, 116, 32, 116, 111, 32, 115, 116, 97, 103, 101, 32, 108, 101, 115, 115, 32, 98, 111, 97, 116, 32, 100, 114, 97, 102, 116, 32, 108, 111, 97, 100, 32, 115, 116, 114, 97, 105, 103, 104, 116, 32, 115, 108, 97, 110, 116, 32, 116, 117, 114, 110, 32, 108, 111, 115, 116, 32, 112, 111, 108, 101, 32, 99, 111, 108, 111, 117, 114, 32], [32, 115, 111, 117, 110, 100, 32, 99, 111, 108, 111, 117, 114, 32, 119, 97, 105, 116, 32, 111, 102, 102, 32, 119, 104, 101, 110, 32, 108, 111, 111, 112, 32, 101, 110, 100, 32, 103, 111, 32, 115, 116, 111, 112, 32, 116, 104, 101, 114, 101, 32, 103, 111, 110, 101, 32, 115, 117, 114, 101, 32]]
def NST : List (String × Nat × MethodName × String) := [(RX11, 17, yX7_init, "PoleRiver"), (RX7, 20, yX4_init, "PoleRiver"), (RX11, 35, yX4_init, "PoleRiver"), (RX11, 42, yX8_init, "PoleRiver"), (RX11, 70, yX9_init, "PoleRiver"), (RX11, 128, yX10_init, "PoleRiver"), (RX9, 39, yX11_copyParts, "PoleRiver"), (RX1, 146, yX11_copyParts, "PoleRiver"), (RX6, 48, yX11_copyParts, "PoleRiver"), (RX11, 377, yX6_worthOf, "PoleRiver"), (RX0, 61, yX11_copyParts, "PoleRiver"), (RX7, 43, yX11_copyParts, "PoleRiver")]
def sB (i : Nat) : List Int := sBy.getD i []
/-- the static rows: ACROSS, DOWN, BY_CELL -/
def tRow : List (List Int) := [[1, 1, 0, -1, -1, -1, 0, 1], [0, 1, 1, 1, 0, -1, -1, -1], [5, 6, 7, 4, 0, 3, 2, 1]]
def tNm : List (String × String) := [(RX2, "ACROSS"), (RX2, "DOWN"), (RX1, "BY_CELL")]
def tl (l : List Int) (j : Int) : Int := l.getD j.toNat 0
def nSt : Nat := 35
/-- rows of rows of longs can be made -/
def vAL (U : State) : Prop := (Cond.arrayOver (.array .long)).before #[] U = true
theorem vAL.spec {args : Array Value} {first s : State} {o : Option Outcome} {idx : List Nat} (h : (Cond.arrayOver (.array .long)).holds args first o s idx = true) :
    ∃ comp c k, s.vm.findClass (FieldType.array .long).toString = some comp ∧ (s.vm.classes.findIdx? fun x => match x.kind with | .array component _ => component == comp | _ => false) = some c ∧ s.vm.classes[c]? = some k ∧ k.kind = .array comp (.array .long) ∧
      s.vm.findClass ("[" ++ (FieldType.array .long).toString) = some c := by
  simp only [Cond.holds, Cond.value, beq_iff_eq] at h
  cases hc : s.vm.findClass (FieldType.array .long).toString with
  | none => simp [hc] at h
  | some comp =>
    simp only [hc, Option.bind_some, Option.bind_eq_some_iff, Option.map_eq_some_iff] at h
    obtain ⟨c, hi, k, hk, hb⟩ := h
    obtain ⟨hlt, hp, -⟩ := Array.findIdx?_eq_some_iff_getElem.mp hi
    have hkk : s.vm.classes[c] = k := (Array.getElem?_eq_some_iff.mp hk).2
    rw [hkk] at hp
    cases hkind : k.kind with
    | array component ty =>
      rw [hkind] at hb hp
      simp at hb hp
      exact ⟨comp, c, k, rfl, hi, hk, by rw [hkind, hp, hb.1], hb.2⟩
    | _ => rw [hkind] at hb; simp at hb
theorem vAL.bare (vm : Vm) (comp : ClassId) : (vm.bare.classes.findIdx? fun (x : Class) => match x.kind with | .array component _ => component == comp | _ => false) = (vm.classes.findIdx? fun (x : Class) => match x.kind with | .array component _ => component == comp | _ => false) := by
  simp only [Vm.bare, Array.findIdx?_map]
  rfl
theorem vAL.moved {u U : State} (hvm : u.vm.Alike U.vm) (h : vAL u) : vAL U := by
  obtain ⟨comp, c, k, h1, h2, h3, h4, h5⟩ := vAL.spec h
  obtain ⟨k', hk', he⟩ := hvm.2.2 _ _ h3
  have hi : (U.vm.classes.findIdx? fun (x : Class) => match x.kind with | .array component _ => component == comp | _ => false) = some c := by
    rw [← vAL.bare]
    first | rw [hvm.bare_eq] | rw [← hvm.bare_eq]
    rw [vAL.bare]
    exact h2
  have hkind : k'.kind = .array comp (.array .long) := by rw [he]; exact h4
  have f1 : U.vm.findClass (FieldType.array .long).toString = some comp := by rw [hvm.findClass]; exact h1
  have f2 : U.vm.findClass ("[" ++ (FieldType.array .long).toString) = some c := by rw [hvm.findClass]; exact h5
  unfold vAL Cond.before Cond.holds
  simp only [Cond.value]
  rw [f1, Option.bind_some]
  refine (congrArg (fun o : Option Nat => (o.bind (fun c => (U.vm.classes[c]?).map fun (k : Class) => match k.kind with | .array _ ty => decide (ty = FieldType.array .long) && decide (U.vm.findClass ("[" ++ (FieldType.array .long).toString) = some c) | _ => false) == some true)) hi).trans ?_
  simp [hk', hkind, f2]
/-- what lies below the base and stays: literals, static rows, links between nest mates -/
def Bg (V : Ev) (U : State) : Prop :=
  (∀ q ∈ NST, va_Nw (.methodLinkNest q.1 q.2.1 q.2.2.1 q.2.2.2) U) ∧
  (∀ i : Nat, i < 3 → va_Z (tNm.getD i ("", "")).1 (tNm.getD i ("", "")).2 "[I" (.ref (V.2.2.2.2.2 i)) (vA V) U U.heap ∧ va_T .int (V.2.2.2.2.2 i) 8 (fun j => vI (tl (tRow.getD i []) j)) (vA V) U U.heap) ∧
  (∀ i : Nat, i < nSt → vk_R (sTx.getD i ("", 0, "")).1 (sTx.getD i ("", 0, "")).2.1 (sTx.getD i ("", 0, "")).2.2 (V.2.2.2.1 i) U ∧ va_O "java/lang/String" (V.2.2.2.1 i) (vA V) U U.heap ∧ va_OF "java/lang/String" "coder" "B" (.int 0) (V.2.2.2.1 i) (vA V) U U.heap ∧
    va_OF "java/lang/String" "value" "[B" (.ref (V.2.2.2.2.1 i)) (V.2.2.2.1 i) (vA V) U U.heap ∧ va_T .byte (V.2.2.2.2.1 i) (sB i).length (fun j => vI (tl (sB i) j)) (vA V) U U.heap) ∧
  va_Z "java/lang/String" "COMPACT_STRINGS" "Z" (.int 1) (vA V) U U.heap ∧ va_Zq "jdk/internal/util/Preconditions" "SIOOBE_FORMATTER" "Ljava/util/function/BiFunction;" (vA V) U U.heap ∧
  (va_AO "PoleRiver$Tray" U ∧ va_AO "PoleRiver$State" U ∧ vAL U)
theorem Bg_go {V : Ev} {s U : State} {locs : List Loc} (h : Bg V s) (hW : s.WarmedH U.vm) (hS : va_S (vA V) s.heap U.heap locs) : Bg V U := by
  obtain ⟨h1, h2, h3, h4, h5, h6, h7, h8⟩ := h
  refine ⟨fun q hq => va_Nw.warmM hW (h1 q hq), fun i hi => ?_, fun i hi => ?_, (va_Z.moved hW.alike h4).kept hS.2.1, (va_Zq.moved hW.alike h5).kept hS.2.1, h6.moved hW.alike, h7.moved hW.alike, h8.moved hW.alike⟩
  · obtain ⟨a, b⟩ := h2 i hi
    exact ⟨(va_Z.moved hW.alike a).kept hS.2.1, (va_T.moved hW.alike b).kept hS.2.1⟩
  · obtain ⟨a, b, c, d, e⟩ := h3 i hi
    exact ⟨a.warm hW, (va_O.moved hW.alike b).kept hS.2.1, (va_OF.moved hW.alike c).kept hS.2.1, (va_OF.moved hW.alike d).kept hS.2.1, (va_T.moved hW.alike e).kept hS.2.1⟩
theorem Bg_call {V : Ev} {s U : State} (h : Bg V s) (hv : U.vm = s.vm) (hh : U.heap = s.heap) : Bg V U :=
  Bg_go (locs := []) h (by rw [hv]; exact State.WarmedH.refl s) (by rw [hh]; exact va_S.rf)
def Bk (V : Ev) (U : State) : Prop := va_K V.2.1 vwCl (TYS V.2.2.1) U ∧ Bg V U
/-- the method's own: its code, its class, the words, the tables -/
def Ok (C : Cx) (V : Ev) (cc : ByteArray) (own : String) (nL fr lc : Nat) : Prop :=
  C.1.tables.exec = Jvm.exec ∧ C.2.2.2.2.2.2.2.2.2.1.code = cc ∧ C.2.2.2.2.2.2.2.2.2.1.maxLocals = nL ∧ C.2.2.2.2.1.vm.findClass own = some C.2.2.2.2.2.1.cls ∧ (∀ w ∈ WS, w.before C.2.2.2.2.2.2.1 C.2.2.2.2.1 = true) ∧ Bk V C.2.2.2.2.1 ∧ fr ≤ C.2.2.2.1.frames ∧ lc ≤ C.2.2.2.1.locals
/-- how it ends -/
def Rt (C : Cx) (V : Ev) (L : List Kd) (rt : Option FieldType) (rv : Int → Option Value) : Prop :=
  C.2.2.2.2.2.2.2.2.1.sig.returnType = rt ∧ C.2.2.2.2.2.2.2.2.1.locks = false ∧ C.2.2.2.2.2.2.2.2.2.2.1 = MQ C.2.2.2.2.2.2.2.1 (fun _ st oc t => oc = .returned (rv C.2.2.2.2.2.2.2.2.2.2.2.1) ∧ va_P V.2.1 vwCl (WL V.1 V.2.2.1 L C.2.2.2.2.2.2.2.2.2.2.2.2) t.heap ∧ va_F (vA V) st t) C.2.2.2.2.2.2.1 C.2.2.2.2.1 0 0 (vA V)
def rI : Int → Option Value := fun r => some (vI r)
def rJ : Int → Option Value := fun r => some (vJ r)
def rV : Int → Option Value := fun _ => none
/-- a method's contract: where f answers, the method does -/
def Kt (l : Launch) (V : Ev) (L : List Kd) (y : MethodName) (cw : Cond) (fr lo : Nat) (vs : List Value) (rv : Int → Option Value) (X : Mem) (f : Option (Int × Mem)) : Prop :=
  ∀ r X', f = some (r, X') → Met l y (cw :: WS) ({ frames := fr, cells := 0, slots := 0, locals := lo }) (va_Pc vs (fun U => Bk V U ∧ va_P V.2.1 vwCl (WL V.1 V.2.2.1 L X) U.heap))
    (fun _ st oc t => oc = .returned (rv r) ∧ va_P V.2.1 vwCl (WL V.1 V.2.2.1 L X') t.heap ∧ va_F (vA V) st t) 0 0 (vA V)
theorem kt_of {l : Launch} {V : Ev} {L : List Kd} {y : MethodName} {cc : ByteArray} {own : String} {nL fr lo : Nat} {rt : Option FieldType} {vs : List Value} {lv0 : List (Nat × Value)} {rv : Int → Option Value} {X : Mem} {f : Option (Int × Mem)}
    (hy : plainName y.cls = true) (ho : y.cls = own) (hn : (lg_sl vs).length ≤ nL) (hlv : lv_args 0 vs = lv0)
    (h : ∀ C : Cx, C.2.1 = l → Ok C V cc own nL fr lo → Rt C V L rt rv → G C V L 0 0 nL 0 lv0 [] X f) : Kt l V L y (.code y cc nL rt) fr lo vs rv X f := by
  intro r X' hf
  refine Met.ofW (cc := cc) (maxL := nL) (ret := rt) hy rfl ?_
  intro p e s m args below meth c s₁ B hml hv
  obtain ⟨rfl, ⟨hK, hB⟩, hP⟩ := hv
  have hts := atoms_spec B.pre
  rw [lg_entry_eq]
  exact h (p, l, e, _, s, m, vs.toArray, below, meth, c, _, (r, X')) rfl
    ⟨B.exec, B.bytes, hml, by rw [← ho]; exact findClass_of_methodNamed B.named, fun w hw => hts w (List.mem_cons_of_mem _ hw), ⟨hK, hB⟩, Nat.le_refl _, Nat.le_refl _⟩
    ⟨B.returns, B.notSynchronized, rfl⟩ hf s.heap [] _ hP va_S.rf (hlv ▸ lv_entry vs hn)
/-! checks -/
def c1 {β : Type} (a : Int) (k : Option β) : Option β := if -2147483648 ≤ a ∧ a ≤ 2147483647 then k else none
def c2 {β : Type} (a b : Int) (k : Option β) : Option β := if (-2147483648 ≤ a ∧ a ≤ 2147483647) ∧ (-2147483648 ≤ b ∧ b ≤ 2147483647) then k else none
def d2 {β : Type} (a b : Int) (k : Option β) : Option β := if (-9223372036854775808 ≤ a ∧ a ≤ 9223372036854775807) ∧ (-9223372036854775808 ≤ b ∧ b ≤ 9223372036854775807) then k else none
/-- an index -/
def ax {β : Type} (n j : Int) (k : Option β) : Option β := if 0 ≤ j ∧ j < n then k else none
/-- a division -/
def cd {β : Type} (a b : Int) (k : Option β) : Option β := if (0 ≤ a ∧ a ≤ 2147483647) ∧ (0 < b ∧ b ≤ 2147483647) then k else none
def dd {β : Type} (a b : Int) (k : Option β) : Option β := if (0 ≤ a ∧ a ≤ 9223372036854775807) ∧ (0 < b ∧ b ≤ 9223372036854775807) then k else none
/-- a truth value -/
def cz {β : Type} (a : Int) (k : Option β) : Option β := if a = 0 ∨ a = 1 then k else none
/-- one of these cells -/
def cm {β : Type} (l : List Int) (a : Int) (k : Option β) : Option β := if a ∈ l then k else none
def bd {α β : Type} (x : α) (k : α → β) : β := k x
def cl {β : Type} (o : Option (Int × Mem)) (k : Int → Mem → Option β) : Option β := match o with
  | none => none
  | some q => k q.1 q.2
def ia (a b : Int) : Int := (Int32.ofInt a &&& Int32.ofInt b).toInt
def io (a b : Int) : Int := (Int32.ofInt a ||| Int32.ofInt b).toInt
def ix (a b : Int) : Int := (Int32.ofInt a ^^^ Int32.ofInt b).toInt
def ishl (a b : Int) : Int := (Int32.ofInt a <<< (Int32.ofInt b &&& 31)).toInt
def ishr (a b : Int) : Int := (Int32.ofInt a >>> (Int32.ofInt b &&& 31)).toInt
def la (a b : Int) : Int := (Int64.ofInt a &&& Int64.ofInt b).toInt
def lo (a b : Int) : Int := (Int64.ofInt a ||| Int64.ofInt b).toInt
def lx (a b : Int) : Int := (Int64.ofInt a ^^^ Int64.ofInt b).toInt
def lshl (a b : Int) : Int := (Int64.ofInt a <<< ((Int32.ofInt b).toInt64 &&& 63)).toInt
def lushr (a b : Int) : Int := ((Int64.ofInt a).toUInt64 >>> ((Int32.ofInt b).toInt64.toUInt64 &&& Int64.toUInt64 63)).toInt64.toInt
def w8 (a : Int) : Int := (Int32.ofInt a).toInt8.toInt
def w16 (a : Int) : Int := (Int32.ofInt a).toInt16.toInt
theorem i32_lt {a b : Int} (ha : -2147483648 ≤ a ∧ a ≤ 2147483647) (hb : -2147483648 ≤ b ∧ b ≤ 2147483647) : Int32.ofInt a < Int32.ofInt b ↔ a < b := Int32.ofInt_lt_iff_lt ha.1 ha.2 hb.1 hb.2
theorem i32_le {a b : Int} (ha : -2147483648 ≤ a ∧ a ≤ 2147483647) (hb : -2147483648 ≤ b ∧ b ≤ 2147483647) : Int32.ofInt a ≤ Int32.ofInt b ↔ a ≤ b := Int32.ofInt_le_iff_le ha.1 ha.2 hb.1 hb.2
theorem i32_toInt {a : Int} (ha : -2147483648 ≤ a ∧ a ≤ 2147483647) : (Int32.ofInt a).toInt = a := Int32.toInt_ofInt_of_le ha.1 (by omega)
theorem i32_eq {a b : Int} (ha : -2147483648 ≤ a ∧ a ≤ 2147483647) (hb : -2147483648 ≤ b ∧ b ≤ 2147483647) : Int32.ofInt a = Int32.ofInt b ↔ a = b := ⟨fun h => by rw [← i32_toInt ha, ← i32_toInt hb, h], fun h => by rw [h]⟩
theorem i64_toInt {a : Int} (ha : -9223372036854775808 ≤ a ∧ a ≤ 9223372036854775807) : (Int64.ofInt a).toInt = a := Int64.toInt_ofInt_of_le ha.1 (by omega)
theorem i64_lt {a b : Int} (ha : -9223372036854775808 ≤ a ∧ a ≤ 9223372036854775807) (hb : -9223372036854775808 ≤ b ∧ b ≤ 9223372036854775807) : Int64.ofInt a < Int64.ofInt b ↔ a < b := Int64.ofInt_lt_iff_lt ha.1 ha.2 hb.1 hb.2
theorem i64_eq {a b : Int} (ha : -9223372036854775808 ≤ a ∧ a ≤ 9223372036854775807) (hb : -9223372036854775808 ≤ b ∧ b ≤ 9223372036854775807) : Int64.ofInt a = Int64.ofInt b ↔ a = b := ⟨fun h => by rw [← i64_toInt ha, ← i64_toInt hb, h], fun h => by rw [h]⟩
theorem i64_le {a b : Int} (ha : -9223372036854775808 ≤ a ∧ a ≤ 9223372036854775807) (hb : -9223372036854775808 ≤ b ∧ b ≤ 9223372036854775807) : Int64.ofInt a ≤ Int64.ofInt b ↔ a ≤ b := Int64.ofInt_le_iff_le ha.1 ha.2 hb.1 hb.2
theorem i32_clamp {a : Int} (ha : 0 ≤ a ∧ a ≤ 2147483647) : (Int32.ofInt a).toNatClampNeg = a.toNat := by
  show (Int32.ofInt a).toInt.toNat = _
  rw [i32_toInt ⟨by omega, ha.2⟩]

