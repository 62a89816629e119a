/-! the fresh object -/
theorem xP0_ne {X : Mem} {i : Int} (h : 120 ≤ i) : xP0 X i = X i := by
  unfold xP0
  rw [xS_ne (by omega), xS_ne (by omega), xS_ne (by omega), xT_ne (by omega), xT_ne (by omega), xT_ne (by omega), xT_ne (by omega), ms_ne (by omega), ms_ne (by omega), ms_ne (by omega), ms_ne (by omega), ms_ne (by omega), xN0_ne (by omega), xN6_ne (by omega), xN1_ne (by omega), xN9_ne (by omega), xN5_ne (by omega), xN3_ne (by omega), xN8_ne (by omega), ms_ne (by omega), xU_ne (by omega), ms_ne (by omega), clr_ne (by omega), xS_ne (by omega)]
theorem xP0_41 : xP0 Z0 41 = fun _ => 0 := rfl
theorem xP0_9 : xP0 Z0 9 = fun _ => 0 := rfl
theorem init_W : wF (fun _ => 0) 0 1 = fun q : Int => if q = 0 then 1 else 0 := by
  funext q
  unfold wF
  by_cases h : q = 0
  · rw [if_pos (by omega), if_pos h]
    rfl
  · rw [if_neg (by omega), if_neg h]
/-- the memory after the class's constructor -/
def xI : Mem := ma (ma (xP0 Z0) 41 (wF (fun _ => 0) 0 1)) 18 (shF (wF (fun _ => 0) 0 1) (xP0 Z0 18))
theorem init_think : f_X9_think 3 18 (xP0 Z0) = some (0, xI) := by
  have h := think_eq (r := 3) (p := 18) (m := 0) (N := 1) (X := xP0 Z0) (by decide) (by decide) (by decide) (by decide) (by decide) rfl (fun b _ _ => by
    rw [show (3 : Int) + 6 = 9 from rfl, xP0_9]
    exact ⟨(by decide : (0 : Int) ≤ 0), (by decide : (0 : Int) ≤ 16)⟩) (by decide +kernel) (fun q _ => by rw [xP0_41])
  rw [h, show (3 : Int) + 6 = 9 from rfl, xP0_9, if_pos (by rw [init_W]; decide +kernel)]
  rfl
theorem init_zero : ∀ i k : Int, 120 ≤ i → xI i k = 0 := by
  intro i k h
  unfold xI
  rw [ma_ne (by omega), ma_ne (by omega), xP0_ne h]
  rfl
/-- what is left of whole: a relation that holds of the two fresh objects and that the 46 pairs keep -/
theorem pure_of2 {Rel : Int → Mem → Prop} (h0 : Rel 0 (xE xI)) (hA : AllPr Rel) : PURE := pure_of init_think init_zero h0 hA
