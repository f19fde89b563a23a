/-! what can be undone; two melted -/
abbrev xrw (I : Nat → Nat → Int) (c : Nat) : Prop := ∀ p, p < 6 → -1 ≤ I c p ∧ I c p ≤ 15
def xrem (I : Nat → Nat → Int) : Nat → Nat → Int := xpush I (xpk (I 8) 6) (xpk (I 10) 6) (I 0 8) (-1) 0
theorem xpush_ne {I : Nat → Nat → Int} {a b l r k : Int} {d : Nat} (h : d < 19 ∨ 24 < d) : xpush I a b l r k d = I d := by
  simp only [xpush]
  rw [zs2_ne _ _ _ _ (by omega), zs2_ne _ _ _ _ (by omega), zs2_ne _ _ _ _ (by omega), zs2_ne _ _ _ _ (by omega), zs2_ne _ _ _ _ (by omega), zs2_ne _ _ _ _ (by omega), zs2_ne _ _ _ _ (by omega)]
theorem xrem_ne {I : Nat → Nat → Int} {d : Nat} (h : d < 19 ∨ 24 < d) : xrem I d = I d := xpush_ne h
theorem c_maskOf' {S : PS} {I : Nat → Nat → Int} {Q : PV1 → Prop} {r : Int} (h : num r) (hQ : Q (some (zI (I 4 r.toNat)), zH S I)) : Wp 31 (0, [zA 1, zI r], [], zH S I) Q := c_maskOf (by rw [if_pos h]; exact hQ)
theorem c_setMask' {S : PS} {I : Nat → Nat → Int} {Q : PV1 → Prop} {r x : Int} (h : num r) (hQ : Q (none, zH S (zs2 I 4 r.toNat x))) : Wp 27 (0, [zA 1, zI r, zI x], [], zH S I) Q := c_setMask (by rw [if_pos h]; exact hQ)
theorem zs2_self (f : Nat → Nat → Int) (r k : Nat) : zs2 f r k (f r k) = f := by
  funext i
  simp only [zs2]
  split
  · rename_i h; subst h; funext j; split
    · rename_i h2; subst h2; rfl
    · rfl
  · rfl
theorem zs2_twice (f : Nat → Nat → Int) (r k : Nat) (x y : Int) : zs2 (zs2 f r k x) r k y = zs2 f r k y := by
  funext i
  simp only [zs2]
  split
  · funext j; simp only [if_true]; split <;> rfl
  · rfl
theorem zs2_comm (f : Nat → Nat → Int) {r r' : Nat} (k k' : Nat) (x y : Int) (h : r ≠ r') : zs2 (zs2 f r k x) r' k' y = zs2 (zs2 f r' k' y) r k x := by
  funext i
  by_cases h1 : i = r
  · subst h1
    rw [zs2_ne _ _ _ _ h, zs2_same, zs2_same, zs2_ne _ _ _ _ h]
  · by_cases h2 : i = r'
    · subst h2
      rw [zs2_same, zs2_ne _ _ _ _ h1, zs2_ne _ _ _ _ h1, zs2_same]
    · rw [zs2_ne _ _ _ _ h2, zs2_ne _ _ _ _ h1, zs2_ne _ _ _ _ h1, zs2_ne _ _ _ _ h2]
theorem xplc_none {f : Nat → Int} {r : Int} (h : ∀ p, p < 6 → f p ≠ r) : xplc f r = -1 := by
  rcases zfs_spec (P := fun p => r ≠ -1 ∧ f p = r) 6 0 with ⟨h1, -⟩ | ⟨j, h1, -, h3, h4, -⟩
  · exact h1
  · exact absurd h4.2 (h j (by omega))
theorem xplc_in {f : Nat → Int} {r : Int} (h : xplc f r ≠ -1) : ∃ j : Nat, j < 6 ∧ xplc f r = (j : Int) ∧ f j = r ∧ r ≠ -1 := by
  rcases zfs_spec (P := fun p => r ≠ -1 ∧ f p = r) 6 0 with ⟨h1, -⟩ | ⟨j, h1, -, h3, h4, -⟩
  · exact absurd h1 h
  · exact ⟨j, by omega, h1, h4.2, h4.1⟩

theorem c_remember {S : PS} {I : Nat → Nat → Int} {Q : PV1 → Prop}  (h5 : 0 ≤ I 19 5 ∧ I 19 5 < 20) (h6 : 0 ≤ I 19 6 ∧ I 19 6 ≤ 20) (hr8 : xrw I 8) (hr10 : xrw I 10) (hQ : Q (none, zH S (xrem I))) : Wp 111 (0, [zA 0], [], zH S I) Q := by
  refine (sg_X5_remember_0_0 _ _  _).mpr ?_
  refine c_packed_7 hr8 ?_
  refine (sg_X5_remember_11_0_19 _ _ _ _).mpr ?_
  refine c_packed_9 hr10 ?_
  refine (sg_X5_remember_18_0_19 _ _ _ _ _).mpr ?_
  refine c_push h5 h6 ?_
  refine (sg_X5_remember_27 _ _ _ _).mpr ?_
  first | exact hQ | exact zq hQ (zB_t (by omega)) rfl | exact zq hQ (zB_f (by omega)) rfl | exact zq hQ (by repeat (first | rw [if_pos (by omega)] | rw [if_neg (by omega)])) rfl
theorem c_over {S : PS} {I : Nat → Nat → Int} {Q : PV1 → Prop}  (h5 : 0 ≤ I 19 5 ∧ I 19 5 < 20) (h6 : 0 ≤ I 19 6 ∧ I 19 6 ≤ 20) (hr8 : xrw I 8) (hr10 : xrw I 10) (hl : I 0 8 = 0 ∨ I 0 8 = 1) (hQ : Q (some (zI (1 - I 0 8)), zH S (zs2 (xrem I) 0 8 (1 - I 0 8)))) : Wp 98 (0, [zA 0], [], zH S I) Q := by
  refine (sg_X5_over_0_0 _ _  _).mpr ?_
  refine c_remember h5 h6 hr8 hr10 ?_
  refine (sg_X5_over_4_0 _ _  _).mpr ?_
  rw [zs2_at, xrem_ne (by omega), zsb_eq (by omega)]; exact hQ
theorem c_strike_7 {S : PS} {I : Nat → Nat → Int} {Q : PV1 → Prop} {t : Int} {r : Int} {u3 : PV} {u4 : PV} (ht : t = 0) (h5 : 0 ≤ I 19 5 ∧ I 19 5 < 20) (h6 : 0 ≤ I 19 6 ∧ I 19 6 ≤ 20) (hr8 : xrw I 8) (hr10 : xrw I 10) (hQ : Q (some (zI (if ¬ xuse I r then (-1) else if xplc (I 8) r = -1 then (-2) else xplc (I 8) r)), zH S (if ¬ xuse I r then I else if xplc (I 8) r = -1 then I else zs2 (xfree (xrem I) 7 8 (xplc (I 8) r)) 25 2 0))) : Wp 90 (0, [zA 0, zI t, zI r, u3, u4], [], zH S I) Q := by
  refine (sg_X5_strike_0_0 _ _ _ _ _ _ _).mpr ?_
  refine c_tab7 ht ?_
  refine (sg_X5_strike_5_0_7 _ _ _ _ _ _ _).mpr ?_
  refine c_isInUse ?_
  refine (sg_X5_strike_18_0_7 _ _ _ _ _ _ _).mpr ?_
  first | refine zcdB (fun h1 => ?_) (fun h1 => ?_) | refine zcd (fun h1 => ?_) (fun h1 => ?_)
  · (repeat (first | rw [if_pos (by omega)] at hQ | rw [if_neg (by omega)] at hQ)); exact hQ
  · refine c_placeOf_7 ?_
    refine (sg_X5_strike_28_0_7 _ _ _ _ _ _ _).mpr ?_
    first | refine zcdB (fun h2 => ?_) (fun h2 => ?_) | refine zcd (fun h2 => ?_) (fun h2 => ?_)
    · (repeat (first | rw [if_pos (by omega)] at hQ | rw [if_neg (by omega)] at hQ)); exact hQ
    · refine c_remember h5 h6 hr8 hr10 ?_
      refine (sg_X5_strike_43_0_7 _ _ _ _ _ _).mpr ?_
      refine c_makeFree_7 ?_
      refine (sg_X5_strike_49_0 _ _ _ _ _ _ _).mpr ?_
      refine c_pforget_25 ?_
      refine (sg_X5_strike_56 _ _ _ _ _ _ _ _).mpr ?_
      (repeat (first | rw [if_pos (by omega)] at hQ | rw [if_neg (by omega)] at hQ)); exact hQ
theorem c_strike_9 {S : PS} {I : Nat → Nat → Int} {Q : PV1 → Prop} {t : Int} {r : Int} {u3 : PV} {u4 : PV} (ht : t = 1) (h5 : 0 ≤ I 19 5 ∧ I 19 5 < 20) (h6 : 0 ≤ I 19 6 ∧ I 19 6 ≤ 20) (hr8 : xrw I 8) (hr10 : xrw I 10) (hQ : Q (some (zI (if ¬ xuse I r then (-1) else if xplc (I 10) r = -1 then (-2) else xplc (I 10) r)), zH S (if ¬ xuse I r then I else if xplc (I 10) r = -1 then I else zs2 (xfree (xrem I) 9 10 (xplc (I 10) r)) 25 2 0))) : Wp 90 (0, [zA 0, zI t, zI r, u3, u4], [], zH S I) Q := by
  refine (sg_X5_strike_0_0 _ _ _ _ _ _ _).mpr ?_
  refine c_tab9 ht ?_
  refine (sg_X5_strike_5_0_9 _ _ _ _ _ _ _).mpr ?_
  refine c_isInUse ?_
  refine (sg_X5_strike_18_0_9 _ _ _ _ _ _ _).mpr ?_
  first | refine zcdB (fun h1 => ?_) (fun h1 => ?_) | refine zcd (fun h1 => ?_) (fun h1 => ?_)
  · (repeat (first | rw [if_pos (by omega)] at hQ | rw [if_neg (by omega)] at hQ)); exact hQ
  · refine c_placeOf_9 ?_
    refine (sg_X5_strike_28_0_9 _ _ _ _ _ _ _).mpr ?_
    first | refine zcdB (fun h2 => ?_) (fun h2 => ?_) | refine zcd (fun h2 => ?_) (fun h2 => ?_)
    · (repeat (first | rw [if_pos (by omega)] at hQ | rw [if_neg (by omega)] at hQ)); exact hQ
    · refine c_remember h5 h6 hr8 hr10 ?_
      refine (sg_X5_strike_43_0_9 _ _ _ _ _ _).mpr ?_
      refine c_makeFree_9 ?_
      refine (sg_X5_strike_49_0 _ _ _ _ _ _ _).mpr ?_
      refine c_pforget_25 ?_
      refine (sg_X5_strike_56 _ _ _ _ _ _ _ _).mpr ?_
      (repeat (first | rw [if_pos (by omega)] at hQ | rw [if_neg (by omega)] at hQ)); exact hQ
theorem c_strike_n {S : PS} {I : Nat → Nat → Int} {Q : PV1 → Prop} {t : Int} {r : Int} {u3 : PV} {u4 : PV} (ht : t < 0 ∨ 2 ≤ t) (hQ : Q (some (zI ((-1))), zH S I)) : Wp 90 (0, [zA 0, zI t, zI r, u3, u4], [], zH S I) Q := by
  refine (sg_X5_strike_0_0 _ _ _ _ _ _ _).mpr ?_
  refine c_tabN ht ?_
  refine (sg_X5_strike_5_0_n _ _ _ _ _ _ _).mpr ?_
  first | exact hQ | exact zq hQ (zB_t (by omega)) rfl | exact zq hQ (zB_f (by omega)) rfl | exact zq hQ (by repeat (first | rw [if_pos (by omega)] | rw [if_neg (by omega)])) rfl
theorem c_isMeltable {S : PS} {I : Nat → Nat → Int} {Q : PV1 → Prop} {r : Int}  (hQ : Q (some (zI (zB (xuse I r ∧ I 2 r.toNat ≠ 2))), zH S I)) : Wp 112 (0, [zA 0, zI r], [], zH S I) Q := by
  refine (sg_X5_isMeltable_0_0 _ _ _ _).mpr ?_
  refine c_isInUse ?_
  refine (sg_X5_isMeltable_8_0 _ _ _ _ _).mpr ?_
  first | refine zcdB (fun h1 => ?_) (fun h1 => ?_) | refine zcd (fun h1 => ?_) (fun h1 => ?_)
  · refine zgb (by first | omega | (simp (disch := decide) only [zs2_ne, zs2_ne2, zs2_at]; omega) | (simp; done)) ?_
    first | exact zq hQ (zB_t (by omega)) rfl | exact zq hQ (zB_f (by omega)) rfl | (have hh : (if num r then I 2 r.toNat else (-1)) = I 2 r.toNat := if_pos (by omega); first | exact zq hQ (zB_t (by omega)) rfl | exact zq hQ (zB_f (by omega)) rfl)
  · refine c_kindOf ?_
    refine (sg_X5_isMeltable_19 _ _ _ _ _ _).mpr ?_
    first | refine zcdB (fun h2 => ?_) (fun h2 => ?_) | refine zcd (fun h2 => ?_) (fun h2 => ?_)
    · refine zgb (by first | omega | (simp (disch := decide) only [zs2_ne, zs2_ne2, zs2_at]; omega) | (simp; done)) ?_
      first | exact zq hQ (zB_t (by omega)) rfl | exact zq hQ (zB_f (by omega)) rfl | (have hh : (if num r then I 2 r.toNat else (-1)) = I 2 r.toNat := if_pos (by omega); first | exact zq hQ (zB_t (by omega)) rfl | exact zq hQ (zB_f (by omega)) rfl)
    · refine zgb (by first | omega | (simp (disch := decide) only [zs2_ne, zs2_ne2, zs2_at]; omega) | (simp; done)) ?_
      first | exact zq hQ (zB_t (by omega)) rfl | exact zq hQ (zB_f (by omega)) rfl | (have hh : (if num r then I 2 r.toNat else (-1)) = I 2 r.toNat := if_pos (by omega); first | exact zq hQ (zB_t (by omega)) rfl | exact zq hQ (zB_f (by omega)) rfl)
theorem c_standsOnlyIn_7 {S : PS} {I : Nat → Nat → Int} {Q : PV1 → Prop} {r : Int} {u3 : PV}  (hQ : Q (some (zI (zB (¬ xplc (I 8) r = -1 ∧ xplc (I 10) r = -1))), zH S I)) : Wp 113 (0, [zA 0, zA 7, zI r, u3], [], zH S I) Q := by
  refine (sg_X5_standsOnlyIn_0_0_7 _ _ _ _ _).mpr ?_
  refine c_hasRule_7 ?_
  refine (sg_X5_standsOnlyIn_25_9 _ _ _ _ _ _ _).mpr ?_
  first | refine zcdB (fun h1 => ?_) (fun h1 => ?_) | refine zcd (fun h1 => ?_) (fun h1 => ?_)
  · refine zgb (by first | omega | (simp (disch := decide) only [zs2_ne, zs2_ne2, zs2_at]; omega) | (simp; done)) ?_
    first | exact hQ | exact zq hQ (zB_t (by omega)) rfl | exact zq hQ (zB_f (by omega)) rfl | exact zq hQ (by repeat (first | rw [if_pos (by omega)] | rw [if_neg (by omega)])) rfl
  · refine c_hasRule_9 ?_
    refine (sg_X5_standsOnlyIn_33 _ _ _ _ _ _ _ _).mpr ?_
    first | refine zcdB (fun h2 => ?_) (fun h2 => ?_) | refine zcd (fun h2 => ?_) (fun h2 => ?_)
    · refine zgb (by first | omega | (simp (disch := decide) only [zs2_ne, zs2_ne2, zs2_at]; omega) | (simp; done)) ?_
      first | exact hQ | exact zq hQ (zB_t (by omega)) rfl | exact zq hQ (zB_f (by omega)) rfl | exact zq hQ (by repeat (first | rw [if_pos (by omega)] | rw [if_neg (by omega)])) rfl
    · refine zgb (by first | omega | (simp (disch := decide) only [zs2_ne, zs2_ne2, zs2_at]; omega) | (simp; done)) ?_
      first | exact hQ | exact zq hQ (zB_t (by omega)) rfl | exact zq hQ (zB_f (by omega)) rfl | exact zq hQ (by repeat (first | rw [if_pos (by omega)] | rw [if_neg (by omega)])) rfl
theorem c_standsOnlyIn_9 {S : PS} {I : Nat → Nat → Int} {Q : PV1 → Prop} {r : Int} {u3 : PV}  (hQ : Q (some (zI (zB (¬ xplc (I 10) r = -1 ∧ xplc (I 8) r = -1))), zH S I)) : Wp 113 (0, [zA 0, zA 9, zI r, u3], [], zH S I) Q := by
  refine (sg_X5_standsOnlyIn_0_0_9 _ _ _ _ _).mpr ?_
  refine c_hasRule_9 ?_
  refine (sg_X5_standsOnlyIn_25_7 _ _ _ _ _ _ _).mpr ?_
  first | refine zcdB (fun h1 => ?_) (fun h1 => ?_) | refine zcd (fun h1 => ?_) (fun h1 => ?_)
  · refine zgb (by first | omega | (simp (disch := decide) only [zs2_ne, zs2_ne2, zs2_at]; omega) | (simp; done)) ?_
    first | exact hQ | exact zq hQ (zB_t (by omega)) rfl | exact zq hQ (zB_f (by omega)) rfl | exact zq hQ (by repeat (first | rw [if_pos (by omega)] | rw [if_neg (by omega)])) rfl
  · refine c_hasRule_7 ?_
    refine (sg_X5_standsOnlyIn_33 _ _ _ _ _ _ _ _).mpr ?_
    first | refine zcdB (fun h2 => ?_) (fun h2 => ?_) | refine zcd (fun h2 => ?_) (fun h2 => ?_)
    · refine zgb (by first | omega | (simp (disch := decide) only [zs2_ne, zs2_ne2, zs2_at]; omega) | (simp; done)) ?_
      first | exact hQ | exact zq hQ (zB_t (by omega)) rfl | exact zq hQ (zB_f (by omega)) rfl | exact zq hQ (by repeat (first | rw [if_pos (by omega)] | rw [if_neg (by omega)])) rfl
    · refine zgb (by first | omega | (simp (disch := decide) only [zs2_ne, zs2_ne2, zs2_at]; omega) | (simp; done)) ?_
      first | exact hQ | exact zq hQ (zB_t (by omega)) rfl | exact zq hQ (zB_f (by omega)) rfl | exact zq hQ (by repeat (first | rw [if_pos (by omega)] | rw [if_neg (by omega)])) rfl
