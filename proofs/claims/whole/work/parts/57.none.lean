/-! put, writes, spare, melt where there is no such table -/
theorem c_put_n {S : PS} {I : Nat → Nat → Int} {Q : PV1 → Prop} {t r : Int} {w3 w4 : PV} (ht : t < 0 ∨ 2 ≤ t) (hQ : Q (some (zI (-1)), zH S I)) : Wp 87 (0, [zA 0, zI t, zI r, w3, w4], [], zH S I) Q := by
  refine (sg_X5_put_0_0 _ _ _ _ _ _ _).mpr ?_
  refine c_tabN ht ?_
  refine (sg_X5_put_5_0_n _ _ _ _ _ _ _).mpr ?_
  refine c_refusedPut_n ?_
  exact (sg_X5_put_12_0_n _ _ _ _ _ _ _).mpr hQ
theorem c_writes_n {S : PS} {I : Nat → Nat → Int} {Q : PV1 → Prop} {t r : Int} {w3 w4 : PV} (ht : t < 0 ∨ 2 ≤ t) (hQ : Q (some (zI (-1)), zH S I)) : Wp 88 (0, [zA 0, zI t, zI r, w3, w4], [], zH S I) Q := by
  refine (sg_X5_writes_0_0 _ _ _ _ _ _ _).mpr ?_
  refine c_tabN ht ?_
  refine (sg_X5_writes_5_0_n _ _ _ _ _ _ _).mpr ?_
  refine c_refusedPut_n ?_
  exact (sg_X5_writes_12_0_n _ _ _ _ _ _ _).mpr hQ
theorem c_spare_n {S : PS} {I : Nat → Nat → Int} {Q : PV1 → Prop} {t r : Int} {w3 : PV} (ht : t < 0 ∨ 2 ≤ t) (hQ : Q (some (zI (-1)), zH S I)) : Wp 96 (0, [zA 0, zI t, zI r, w3], [], zH S I) Q := by
  refine (sg_X5_spare_0_0 _ _ _ _ _ _).mpr ?_
  refine c_tabN ht ?_
  exact (sg_X5_spare_5_0_n _ _ _ _ _ _).mpr hQ
theorem c_melt_n {S : PS} {I : Nat → Nat → Int} {Q : PV1 → Prop} {t a b : Int} {w4 w5 w6 w7 : PV} (ht : t < 0 ∨ 2 ≤ t) (hQ : Q (some (zI (-1)), zH S I)) : Wp 97 (0, [zA 0, zI t, zI a, zI b, w4, w5, w6, w7], [], zH S I) Q := by
  refine (sg_X5_melt_0_0 _ _ _ _ _ _ _ _ _ _).mpr ?_
  refine c_tabN ht ?_
  exact (sg_X5_melt_5_0_n _ _ _ _ _ _ _ _ _ _).mpr hQ
