def iushr (a b : Int) : Int := ((Int32.ofInt a).toUInt32 >>> ((Int32.ofInt b).toUInt32 &&& Int32.toUInt32 31)).toInt32.toInt
section GN
variable {C : Cx} {V : Ev} {L : List Kd} {ca sl nL pc fr lc : Nat} {cc : ByteArray} {own : String} {lv : List (Nat × Value)} {st : List Value} {X : Mem} {f f1 f2 : Option (Int × Mem)}
theorem g_iushr {a b : Int} (hC : Ok C V cc own nL fr lc) (hdg : decode cc pc = .ok (.iushr, 1)) (h : G C V L ca sl nL (pc + 1) lv (vI (iushr a b) :: st) X f) : G C V L ca sl nL pc lv (vI b :: vI a :: st) X f :=
  g_lift (fun _ _ _ _ w => lv_iushr hC.1 hC.2.1 hdg rfl (by rw [vI, iushr, Int32.ofInt_toInt] at w; exact w)) h
end GN
/-- a long cut to an int -/
def w32 (a : Int) : Int := (Int32.ofInt a).toInt
theorem g_l2iw {C : Cx} {V : Ev} {L : List Kd} {ca sl nL pc fr lc : Nat} {cc : ByteArray} {own : String} {lv : List (Nat × Value)} {st : List Value} {X : Mem} {f : Option (Int × Mem)} {a : Int} (hC : Ok C V cc own nL fr lc) (hdg : decode cc pc = .ok (.l2i, 1)) (h : G C V L ca sl nL (pc + 1) lv (vI (w32 a) :: st) X f) : G C V L ca sl nL pc lv (vJ a :: st) X f := by
  refine g_l2i hC hdg ?_
  have e : vI (w32 a) = vI a := by
    show Value.int (Int32.ofInt (Int32.ofInt a).toInt) = Value.int (Int32.ofInt a)
    rw [Int32.ofInt_toInt]
  rw [← e]
  exact h
