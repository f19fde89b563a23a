/-! plans, the history -/
theorem zdv_eq {a b : Int} (h0 : 0 ≤ a) (h1 : a < 2147483648) (hb : 0 < b) (h2 : b < 2147483648) : zdv a b = a / b := by
  rw [zdv, Int32.toInt_div, ztoI ⟨by omega, h1⟩, ztoI ⟨by omega, h2⟩, Int.tdiv_eq_ediv_of_nonneg h0]
  have h3 : 0 ≤ a / b := Int.ediv_nonneg h0 (by omega)
  have h4 : a / b ≤ a := Int.ediv_le_self b h0
  rw [Int.bmod_eq_of_le (by omega) (by omega)]
theorem zrm_eq {a b : Int} (h0 : 0 ≤ a) (h1 : a < 2147483648) (hb : 0 < b) (h2 : b < 2147483648) : zrm a b = a % b := by
  have e : Int32.ofInt a / Int32.ofInt b = Int32.ofInt (a / b) := by
    have := zdv_eq h0 h1 hb h2
    rw [zdv] at this
    rw [← this, zofI]
  have h3 : 0 ≤ a / b := Int.ediv_nonneg h0 (by omega)
  have h5 := Int.emod_nonneg a (show b ≠ 0 by omega)
  have h6 := Int.emod_lt_of_pos a hb
  have h7 : a - a / b * b = a % b := by rw [Int.emod_def, Int.mul_comm b]
  rw [zrm, e, ← Int32.ofInt_mul, ← Int32.ofInt_sub, h7]
  exact ztoI ⟨by omega, by omega⟩
theorem zx20 : ∀ x : Fin 20, ¬ zxr (x.val : Int) 20 < 0 := by decide +kernel
theorem zfloor {S : PS} {I : Nat → Nat → Int} {Q : PV1 → Prop} {x : Int} {u : PV} (h : -1 ≤ x ∧ x < 20) (hQ : Q (some (zI (if x = -1 then 19 else x)), zH S I)) : Wp 168 (0, [zI x, zI 20, u], [], zH S I) Q := by
  refine (sg_J9_floorMod_7cf53_0 _ _ _ _ _ _).mpr ?_
  refine zgn (by decide) ?_
  by_cases e : x = -1
  · subst e
    refine zcd (fun _ => ?_) (fun h => absurd (by decide) h)
    refine zcd (fun h => absurd h (by decide)) (fun _ => ?_)
    exact zq hQ (by decide) rfl
  · have e1 := zx20 ⟨x.toNat, by omega⟩
    rw [show ((x.toNat : Nat) : Int) = x by omega] at e1
    refine zcd (fun h => absurd h e1) (fun _ => ?_)
    rw [if_neg e] at hQ
    exact zq hQ (by rw [zrm_eq (by omega) (by omega) (by omega) (by omega)]; omega) rfl
abbrev hlast (n : Int) : Int := if n = 0 then 19 else n - 1

theorem c_pforget_25 {S : PS} {I : Nat → Nat → Int} {Q : PV1 → Prop}   (hQ : Q (none, zH S (zs2 I 25 2 0))) : Wp 13 (0, [zA 25], [], zH S I) Q := by
  refine (sg_X1_forgetAll_0_25 _ _  _).mpr ?_
  first | exact hQ | exact zq hQ (zB_t (by omega)) rfl | exact zq hQ (zB_f (by omega)) rfl | exact zq hQ (if_pos (by omega)) rfl | exact zq hQ (if_neg (by omega)) rfl | exact zqn hQ rfl
theorem c_setLength_25 {S : PS} {I : Nat → Nat → Int} {Q : PV1 → Prop} {w : Int}  (hQ : Q (none, zH S (zs2 I 25 2 (max 0 (min w 16))))) : Wp 14 (0, [zA 25, zI w], [], zH S I) Q := by
  refine (sg_X1_setLength_0_25 _ _ _ _).mpr ?_
  refine zmin_ok ?_
  refine (sg_X1_setLength_8_25 _ _ _ _ _ _ _).mpr ?_
  refine zmax_ok ?_
  refine (sg_X1_setLength_11_25 _ _ _ _ _ _).mpr ?_
  first | exact hQ | exact zq hQ (zB_t (by omega)) rfl | exact zq hQ (zB_f (by omega)) rfl | exact zq hQ (if_pos (by omega)) rfl | exact zq hQ (if_neg (by omega)) rfl | exact zqn hQ rfl
theorem c_length_25 {S : PS} {I : Nat → Nat → Int} {Q : PV1 → Prop}   (hQ : Q (some (zI (I 25 2)), zH S I)) : Wp 15 (0, [zA 25], [], zH S I) Q := by
  refine (sg_X1_length_0_25 _ _  _).mpr ?_
  first | exact hQ | exact zq hQ (zB_t (by omega)) rfl | exact zq hQ (zB_f (by omega)) rfl | exact zq hQ (if_pos (by omega)) rfl | exact zq hQ (if_neg (by omega)) rfl | exact zqn hQ rfl
theorem c_pset_25 {S : PS} {I : Nat → Nat → Int} {Q : PV1 → Prop} {i : Int} {r : Int} {pl : Int}  (hQ : Q (none, zH S (if 0 ≤ i ∧ i < I 25 2 ∧ i < 16 then zs2 (zs2 I 26 i.toNat r) 27 i.toNat pl else I))) : Wp 16 (0, [zA 25, zI i, zI r, zI pl], [], zH S I) Q := by
  refine (sg_X1_set_0_25 _ _ _ _ _ _).mpr ?_
  first | refine zcdB (fun h1 => ?_) (fun h1 => ?_) | refine zcd (fun h1 => ?_) (fun h1 => ?_)
  · first | exact hQ | (rw [if_pos (by omega)] at hQ; exact hQ) | (rw [if_neg (by omega)] at hQ; exact hQ)
  · first | refine zcdB (fun h2 => ?_) (fun h2 => ?_) | refine zcd (fun h2 => ?_) (fun h2 => ?_)
    · first | refine zcdB (fun h3 => ?_) (fun h3 => ?_) | refine zcd (fun h3 => ?_) (fun h3 => ?_)
      · first | refine zcdB (fun h4 => ?_) (fun h4 => ?_) | refine zcd (fun h4 => ?_) (fun h4 => ?_)
        · refine zgd (by first | omega | simp) ?_
          refine zgd (by first | omega | simp) ?_
          first | exact hQ | (rw [if_pos (by omega)] at hQ; exact hQ) | (rw [if_neg (by omega)] at hQ; exact hQ)
        · first | exact hQ | (rw [if_pos (by omega)] at hQ; exact hQ) | (rw [if_neg (by omega)] at hQ; exact hQ)
      · first | exact hQ | (rw [if_pos (by omega)] at hQ; exact hQ) | (rw [if_neg (by omega)] at hQ; exact hQ)
    · first | exact hQ | (rw [if_pos (by omega)] at hQ; exact hQ) | (rw [if_neg (by omega)] at hQ; exact hQ)
theorem c_ruleOf_25 {S : PS} {I : Nat → Nat → Int} {Q : PV1 → Prop} {i : Int}  (hQ : Q (some (zI (if 0 ≤ i ∧ i < I 25 2 ∧ i < 16 then I 26 i.toNat else (-1))), zH S I)) : Wp 17 (0, [zA 25, zI i], [], zH S I) Q := by
  refine (sg_X1_ruleOf_0_25 _ _ _ _).mpr ?_
  first | refine zcdB (fun h1 => ?_) (fun h1 => ?_) | refine zcd (fun h1 => ?_) (fun h1 => ?_)
  · first | exact hQ | exact zq hQ (zB_t (by omega)) rfl | exact zq hQ (zB_f (by omega)) rfl | exact zq hQ (if_pos (by omega)) rfl | exact zq hQ (if_neg (by omega)) rfl | exact zqn hQ rfl
  · first | refine zcdB (fun h2 => ?_) (fun h2 => ?_) | refine zcd (fun h2 => ?_) (fun h2 => ?_)
    · first | refine zcdB (fun h3 => ?_) (fun h3 => ?_) | refine zcd (fun h3 => ?_) (fun h3 => ?_)
      · refine zgd (by first | omega | simp) ?_
        first | exact hQ | exact zq hQ (zB_t (by omega)) rfl | exact zq hQ (zB_f (by omega)) rfl | exact zq hQ (if_pos (by omega)) rfl | exact zq hQ (if_neg (by omega)) rfl | exact zqn hQ rfl
      · first | exact hQ | exact zq hQ (zB_t (by omega)) rfl | exact zq hQ (zB_f (by omega)) rfl | exact zq hQ (if_pos (by omega)) rfl | exact zq hQ (if_neg (by omega)) rfl | exact zqn hQ rfl
    · first | exact hQ | exact zq hQ (zB_t (by omega)) rfl | exact zq hQ (zB_f (by omega)) rfl | exact zq hQ (if_pos (by omega)) rfl | exact zq hQ (if_neg (by omega)) rfl | exact zqn hQ rfl
theorem c_pplaceOf_25 {S : PS} {I : Nat → Nat → Int} {Q : PV1 → Prop} {i : Int}  (hQ : Q (some (zI (if 0 ≤ i ∧ i < I 25 2 ∧ i < 16 then I 27 i.toNat else (-1))), zH S I)) : Wp 18 (0, [zA 25, zI i], [], zH S I) Q := by
  refine (sg_X1_placeOf_0_25 _ _ _ _).mpr ?_
  first | refine zcdB (fun h1 => ?_) (fun h1 => ?_) | refine zcd (fun h1 => ?_) (fun h1 => ?_)
  · first | exact hQ | exact zq hQ (zB_t (by omega)) rfl | exact zq hQ (zB_f (by omega)) rfl | exact zq hQ (if_pos (by omega)) rfl | exact zq hQ (if_neg (by omega)) rfl | exact zqn hQ rfl
  · first | refine zcdB (fun h2 => ?_) (fun h2 => ?_) | refine zcd (fun h2 => ?_) (fun h2 => ?_)
    · first | refine zcdB (fun h3 => ?_) (fun h3 => ?_) | refine zcd (fun h3 => ?_) (fun h3 => ?_)
      · refine zgd (by first | omega | simp) ?_
        first | exact hQ | exact zq hQ (zB_t (by omega)) rfl | exact zq hQ (zB_f (by omega)) rfl | exact zq hQ (if_pos (by omega)) rfl | exact zq hQ (if_neg (by omega)) rfl | exact zqn hQ rfl
      · first | exact hQ | exact zq hQ (zB_t (by omega)) rfl | exact zq hQ (zB_f (by omega)) rfl | exact zq hQ (if_pos (by omega)) rfl | exact zq hQ (if_neg (by omega)) rfl | exact zqn hQ rfl
    · first | exact hQ | exact zq hQ (zB_t (by omega)) rfl | exact zq hQ (zB_f (by omega)) rfl | exact zq hQ (if_pos (by omega)) rfl | exact zq hQ (if_neg (by omega)) rfl | exact zqn hQ rfl
theorem c_pforget_28 {S : PS} {I : Nat → Nat → Int} {Q : PV1 → Prop}   (hQ : Q (none, zH S (zs2 I 28 2 0))) : Wp 13 (0, [zA 28], [], zH S I) Q := by
  refine (sg_X1_forgetAll_0_28 _ _  _).mpr ?_
  first | exact hQ | exact zq hQ (zB_t (by omega)) rfl | exact zq hQ (zB_f (by omega)) rfl | exact zq hQ (if_pos (by omega)) rfl | exact zq hQ (if_neg (by omega)) rfl | exact zqn hQ rfl
theorem c_setLength_28 {S : PS} {I : Nat → Nat → Int} {Q : PV1 → Prop} {w : Int}  (hQ : Q (none, zH S (zs2 I 28 2 (max 0 (min w 16))))) : Wp 14 (0, [zA 28, zI w], [], zH S I) Q := by
  refine (sg_X1_setLength_0_28 _ _ _ _).mpr ?_
  refine zmin_ok ?_
  refine (sg_X1_setLength_8_28 _ _ _ _ _ _ _).mpr ?_
  refine zmax_ok ?_
  refine (sg_X1_setLength_11_28 _ _ _ _ _ _).mpr ?_
  first | exact hQ | exact zq hQ (zB_t (by omega)) rfl | exact zq hQ (zB_f (by omega)) rfl | exact zq hQ (if_pos (by omega)) rfl | exact zq hQ (if_neg (by omega)) rfl | exact zqn hQ rfl
theorem c_length_28 {S : PS} {I : Nat → Nat → Int} {Q : PV1 → Prop}   (hQ : Q (some (zI (I 28 2)), zH S I)) : Wp 15 (0, [zA 28], [], zH S I) Q := by
  refine (sg_X1_length_0_28 _ _  _).mpr ?_
  first | exact hQ | exact zq hQ (zB_t (by omega)) rfl | exact zq hQ (zB_f (by omega)) rfl | exact zq hQ (if_pos (by omega)) rfl | exact zq hQ (if_neg (by omega)) rfl | exact zqn hQ rfl
theorem c_pset_28 {S : PS} {I : Nat → Nat → Int} {Q : PV1 → Prop} {i : Int} {r : Int} {pl : Int}  (hQ : Q (none, zH S (if 0 ≤ i ∧ i < I 28 2 ∧ i < 16 then zs2 (zs2 I 29 i.toNat r) 30 i.toNat pl else I))) : Wp 16 (0, [zA 28, zI i, zI r, zI pl], [], zH S I) Q := by
  refine (sg_X1_set_0_28 _ _ _ _ _ _).mpr ?_
  first | refine zcdB (fun h1 => ?_) (fun h1 => ?_) | refine zcd (fun h1 => ?_) (fun h1 => ?_)
  · first | exact hQ | (rw [if_pos (by omega)] at hQ; exact hQ) | (rw [if_neg (by omega)] at hQ; exact hQ)
  · first | refine zcdB (fun h2 => ?_) (fun h2 => ?_) | refine zcd (fun h2 => ?_) (fun h2 => ?_)
    · first | refine zcdB (fun h3 => ?_) (fun h3 => ?_) | refine zcd (fun h3 => ?_) (fun h3 => ?_)
      · first | refine zcdB (fun h4 => ?_) (fun h4 => ?_) | refine zcd (fun h4 => ?_) (fun h4 => ?_)
        · refine zgd (by first | omega | simp) ?_
          refine zgd (by first | omega | simp) ?_
          first | exact hQ | (rw [if_pos (by omega)] at hQ; exact hQ) | (rw [if_neg (by omega)] at hQ; exact hQ)
        · first | exact hQ | (rw [if_pos (by omega)] at hQ; exact hQ) | (rw [if_neg (by omega)] at hQ; exact hQ)
      · first | exact hQ | (rw [if_pos (by omega)] at hQ; exact hQ) | (rw [if_neg (by omega)] at hQ; exact hQ)
    · first | exact hQ | (rw [if_pos (by omega)] at hQ; exact hQ) | (rw [if_neg (by omega)] at hQ; exact hQ)
theorem c_ruleOf_28 {S : PS} {I : Nat → Nat → Int} {Q : PV1 → Prop} {i : Int}  (hQ : Q (some (zI (if 0 ≤ i ∧ i < I 28 2 ∧ i < 16 then I 29 i.toNat else (-1))), zH S I)) : Wp 17 (0, [zA 28, zI i], [], zH S I) Q := by
  refine (sg_X1_ruleOf_0_28 _ _ _ _).mpr ?_
  first | refine zcdB (fun h1 => ?_) (fun h1 => ?_) | refine zcd (fun h1 => ?_) (fun h1 => ?_)
  · first | exact hQ | exact zq hQ (zB_t (by omega)) rfl | exact zq hQ (zB_f (by omega)) rfl | exact zq hQ (if_pos (by omega)) rfl | exact zq hQ (if_neg (by omega)) rfl | exact zqn hQ rfl
  · first | refine zcdB (fun h2 => ?_) (fun h2 => ?_) | refine zcd (fun h2 => ?_) (fun h2 => ?_)
    · first | refine zcdB (fun h3 => ?_) (fun h3 => ?_) | refine zcd (fun h3 => ?_) (fun h3 => ?_)
      · refine zgd (by first | omega | simp) ?_
        first | exact hQ | exact zq hQ (zB_t (by omega)) rfl | exact zq hQ (zB_f (by omega)) rfl | exact zq hQ (if_pos (by omega)) rfl | exact zq hQ (if_neg (by omega)) rfl | exact zqn hQ rfl
      · first | exact hQ | exact zq hQ (zB_t (by omega)) rfl | exact zq hQ (zB_f (by omega)) rfl | exact zq hQ (if_pos (by omega)) rfl | exact zq hQ (if_neg (by omega)) rfl | exact zqn hQ rfl
    · first | exact hQ | exact zq hQ (zB_t (by omega)) rfl | exact zq hQ (zB_f (by omega)) rfl | exact zq hQ (if_pos (by omega)) rfl | exact zq hQ (if_neg (by omega)) rfl | exact zqn hQ rfl
theorem c_pplaceOf_28 {S : PS} {I : Nat → Nat → Int} {Q : PV1 → Prop} {i : Int}  (hQ : Q (some (zI (if 0 ≤ i ∧ i < I 28 2 ∧ i < 16 then I 30 i.toNat else (-1))), zH S I)) : Wp 18 (0, [zA 28, zI i], [], zH S I) Q := by
  refine (sg_X1_placeOf_0_28 _ _ _ _).mpr ?_
  first | refine zcdB (fun h1 => ?_) (fun h1 => ?_) | refine zcd (fun h1 => ?_) (fun h1 => ?_)
  · first | exact hQ | exact zq hQ (zB_t (by omega)) rfl | exact zq hQ (zB_f (by omega)) rfl | exact zq hQ (if_pos (by omega)) rfl | exact zq hQ (if_neg (by omega)) rfl | exact zqn hQ rfl
  · first | refine zcdB (fun h2 => ?_) (fun h2 => ?_) | refine zcd (fun h2 => ?_) (fun h2 => ?_)
    · first | refine zcdB (fun h3 => ?_) (fun h3 => ?_) | refine zcd (fun h3 => ?_) (fun h3 => ?_)
      · refine zgd (by first | omega | simp) ?_
        first | exact hQ | exact zq hQ (zB_t (by omega)) rfl | exact zq hQ (zB_f (by omega)) rfl | exact zq hQ (if_pos (by omega)) rfl | exact zq hQ (if_neg (by omega)) rfl | exact zqn hQ rfl
      · first | exact hQ | exact zq hQ (zB_t (by omega)) rfl | exact zq hQ (zB_f (by omega)) rfl | exact zq hQ (if_pos (by omega)) rfl | exact zq hQ (if_neg (by omega)) rfl | exact zqn hQ rfl
    · first | exact hQ | exact zq hQ (zB_t (by omega)) rfl | exact zq hQ (zB_f (by omega)) rfl | exact zq hQ (if_pos (by omega)) rfl | exact zq hQ (if_neg (by omega)) rfl | exact zqn hQ rfl
theorem c_hforget {S : PS} {I : Nat → Nat → Int} {Q : PV1 → Prop}   (hQ : Q (none, zH S (zs2 I 19 6 0))) : Wp 1 (0, [zA 19], [], zH S I) Q := by
  refine (sg_X0_forgetAll_0_19 _ _  _).mpr ?_
  first | exact hQ | exact zq hQ (zB_t (by omega)) rfl | exact zq hQ (zB_f (by omega)) rfl | exact zq hQ (if_pos (by omega)) rfl | exact zq hQ (if_neg (by omega)) rfl | exact zqn hQ rfl
theorem c_hlength {S : PS} {I : Nat → Nat → Int} {Q : PV1 → Prop}   (hQ : Q (some (zI (I 19 6)), zH S I)) : Wp 2 (0, [zA 19], [], zH S I) Q := by
  refine (sg_X0_length_0_19 _ _  _).mpr ?_
  first | exact hQ | exact zq hQ (zB_t (by omega)) rfl | exact zq hQ (zB_f (by omega)) rfl | exact zq hQ (if_pos (by omega)) rfl | exact zq hQ (if_neg (by omega)) rfl | exact zqn hQ rfl
theorem c_latest {S : PS} {I : Nat → Nat → Int} {Q : PV1 → Prop}  (h5 : 0 ≤ I 19 5 ∧ I 19 5 < 20) (hQ : Q (some (zI (hlast (I 19 5))), zH S I)) : Wp 5 (0, [zA 19], [], zH S I) Q := by
  refine (sg_X0_latest_0_19 _ _  _).mpr ?_
  rw [zsb_eq (by omega)]
  refine zfloor (by omega) ?_
  refine (sg_X0_latest_11 _ _ _ _ _).mpr ?_
  first | exact hQ | exact zq hQ (by simp only [hlast]; split <;> split <;> omega) rfl
theorem c_latestOf_20 {S : PS} {I : Nat → Nat → Int} {Q : PV1 → Prop} {u2 : PV} (h5 : 0 ≤ I 19 5 ∧ I 19 5 < 20) (hQ : Q (some (zI (I 20 (hlast (I 19 5)).toNat)), zH S I)) : Wp 6 (0, [zA 19, zA 20, u2], [], zH S I) Q := by
  refine (sg_X0_latestOf_0_19_20 _ _ _ _).mpr ?_
  refine c_latest h5 ?_
  refine (sg_X0_latestOf_4_20 _ _ _ _ _ _).mpr ?_
  first | refine zcdB (fun h1 => ?_) (fun h1 => ?_) | refine zcd (fun h1 => ?_) (fun h1 => ?_)
  · first | exact hQ | (exfalso; simp only [hlast] at *; split at * <;> omega)
  · first | refine zcdB (fun h2 => ?_) (fun h2 => ?_) | refine zcd (fun h2 => ?_) (fun h2 => ?_)
    · refine zgd (by first | omega | simp) ?_
      first | exact hQ | (exfalso; simp only [hlast] at *; split at * <;> omega)
    · first | exact hQ | (exfalso; simp only [hlast] at *; split at * <;> omega)
theorem c_firstTable {S : PS} {I : Nat → Nat → Int} {Q : PV1 → Prop}  (h5 : 0 ≤ I 19 5 ∧ I 19 5 < 20) (hQ : Q (some (zI (I 20 (hlast (I 19 5)).toNat)), zH S I)) : Wp 7 (0, [zA 19], [], zH S I) Q := by
  refine (sg_X0_firstTable_0_19 _ _  _).mpr ?_
  refine c_latestOf_20 h5 ?_
  refine (sg_X0_firstTable_8 _ _ _ _ _).mpr ?_
  first | exact hQ | exact zq hQ (zB_t (by omega)) rfl | exact zq hQ (zB_f (by omega)) rfl | exact zq hQ (if_pos (by omega)) rfl | exact zq hQ (if_neg (by omega)) rfl | exact zqn hQ rfl
theorem c_latestOf_21 {S : PS} {I : Nat → Nat → Int} {Q : PV1 → Prop} {u2 : PV} (h5 : 0 ≤ I 19 5 ∧ I 19 5 < 20) (hQ : Q (some (zI (I 21 (hlast (I 19 5)).toNat)), zH S I)) : Wp 6 (0, [zA 19, zA 21, u2], [], zH S I) Q := by
  refine (sg_X0_latestOf_0_19_21 _ _ _ _).mpr ?_
  refine c_latest h5 ?_
  refine (sg_X0_latestOf_4_21 _ _ _ _ _ _).mpr ?_
  first | refine zcdB (fun h1 => ?_) (fun h1 => ?_) | refine zcd (fun h1 => ?_) (fun h1 => ?_)
  · first | exact hQ | (exfalso; simp only [hlast] at *; split at * <;> omega)
  · first | refine zcdB (fun h2 => ?_) (fun h2 => ?_) | refine zcd (fun h2 => ?_) (fun h2 => ?_)
    · refine zgd (by first | omega | simp) ?_
      first | exact hQ | (exfalso; simp only [hlast] at *; split at * <;> omega)
    · first | exact hQ | (exfalso; simp only [hlast] at *; split at * <;> omega)
theorem c_secondTable {S : PS} {I : Nat → Nat → Int} {Q : PV1 → Prop}  (h5 : 0 ≤ I 19 5 ∧ I 19 5 < 20) (hQ : Q (some (zI (I 21 (hlast (I 19 5)).toNat)), zH S I)) : Wp 8 (0, [zA 19], [], zH S I) Q := by
  refine (sg_X0_secondTable_0_19 _ _  _).mpr ?_
  refine c_latestOf_21 h5 ?_
  refine (sg_X0_secondTable_8 _ _ _ _ _).mpr ?_
  first | exact hQ | exact zq hQ (zB_t (by omega)) rfl | exact zq hQ (zB_f (by omega)) rfl | exact zq hQ (if_pos (by omega)) rfl | exact zq hQ (if_neg (by omega)) rfl | exact zqn hQ rfl
theorem c_latestOf_22 {S : PS} {I : Nat → Nat → Int} {Q : PV1 → Prop} {u2 : PV} (h5 : 0 ≤ I 19 5 ∧ I 19 5 < 20) (hQ : Q (some (zI (I 22 (hlast (I 19 5)).toNat)), zH S I)) : Wp 6 (0, [zA 19, zA 22, u2], [], zH S I) Q := by
  refine (sg_X0_latestOf_0_19_22 _ _ _ _).mpr ?_
  refine c_latest h5 ?_
  refine (sg_X0_latestOf_4_22 _ _ _ _ _ _).mpr ?_
  first | refine zcdB (fun h1 => ?_) (fun h1 => ?_) | refine zcd (fun h1 => ?_) (fun h1 => ?_)
  · first | exact hQ | (exfalso; simp only [hlast] at *; split at * <;> omega)
  · first | refine zcdB (fun h2 => ?_) (fun h2 => ?_) | refine zcd (fun h2 => ?_) (fun h2 => ?_)
    · refine zgd (by first | omega | simp) ?_
      first | exact hQ | (exfalso; simp only [hlast] at *; split at * <;> omega)
    · first | exact hQ | (exfalso; simp only [hlast] at *; split at * <;> omega)
theorem c_liveTable {S : PS} {I : Nat → Nat → Int} {Q : PV1 → Prop}  (h5 : 0 ≤ I 19 5 ∧ I 19 5 < 20) (hQ : Q (some (zI (I 22 (hlast (I 19 5)).toNat)), zH S I)) : Wp 9 (0, [zA 19], [], zH S I) Q := by
  refine (sg_X0_liveTable_0_19 _ _  _).mpr ?_
  refine c_latestOf_22 h5 ?_
  refine (sg_X0_liveTable_8 _ _ _ _ _).mpr ?_
  first | exact hQ | exact zq hQ (zB_t (by omega)) rfl | exact zq hQ (zB_f (by omega)) rfl | exact zq hQ (if_pos (by omega)) rfl | exact zq hQ (if_neg (by omega)) rfl | exact zqn hQ rfl
theorem c_latestOf_23 {S : PS} {I : Nat → Nat → Int} {Q : PV1 → Prop} {u2 : PV} (h5 : 0 ≤ I 19 5 ∧ I 19 5 < 20) (hQ : Q (some (zI (I 23 (hlast (I 19 5)).toNat)), zH S I)) : Wp 6 (0, [zA 19, zA 23, u2], [], zH S I) Q := by
  refine (sg_X0_latestOf_0_19_23 _ _ _ _).mpr ?_
  refine c_latest h5 ?_
  refine (sg_X0_latestOf_4_23 _ _ _ _ _ _).mpr ?_
  first | refine zcdB (fun h1 => ?_) (fun h1 => ?_) | refine zcd (fun h1 => ?_) (fun h1 => ?_)
  · first | exact hQ | (exfalso; simp only [hlast] at *; split at * <;> omega)
  · first | refine zcdB (fun h2 => ?_) (fun h2 => ?_) | refine zcd (fun h2 => ?_) (fun h2 => ?_)
    · refine zgd (by first | omega | simp) ?_
      first | exact hQ | (exfalso; simp only [hlast] at *; split at * <;> omega)
    · first | exact hQ | (exfalso; simp only [hlast] at *; split at * <;> omega)
theorem c_meltedRule {S : PS} {I : Nat → Nat → Int} {Q : PV1 → Prop}  (h5 : 0 ≤ I 19 5 ∧ I 19 5 < 20) (hQ : Q (some (zI (I 23 (hlast (I 19 5)).toNat)), zH S I)) : Wp 10 (0, [zA 19], [], zH S I) Q := by
  refine (sg_X0_meltedRule_0_19 _ _  _).mpr ?_
  refine c_latestOf_23 h5 ?_
  refine (sg_X0_meltedRule_8 _ _ _ _ _).mpr ?_
  first | exact hQ | exact zq hQ (zB_t (by omega)) rfl | exact zq hQ (zB_f (by omega)) rfl | exact zq hQ (if_pos (by omega)) rfl | exact zq hQ (if_neg (by omega)) rfl | exact zqn hQ rfl
theorem c_latestOf_24 {S : PS} {I : Nat → Nat → Int} {Q : PV1 → Prop} {u2 : PV} (h5 : 0 ≤ I 19 5 ∧ I 19 5 < 20) (hQ : Q (some (zI (I 24 (hlast (I 19 5)).toNat)), zH S I)) : Wp 6 (0, [zA 19, zA 24, u2], [], zH S I) Q := by
  refine (sg_X0_latestOf_0_19_24 _ _ _ _).mpr ?_
  refine c_latest h5 ?_
  refine (sg_X0_latestOf_4_24 _ _ _ _ _ _).mpr ?_
  first | refine zcdB (fun h1 => ?_) (fun h1 => ?_) | refine zcd (fun h1 => ?_) (fun h1 => ?_)
  · first | exact hQ | (exfalso; simp only [hlast] at *; split at * <;> omega)
  · first | refine zcdB (fun h2 => ?_) (fun h2 => ?_) | refine zcd (fun h2 => ?_) (fun h2 => ?_)
    · refine zgd (by first | omega | simp) ?_
      first | exact hQ | (exfalso; simp only [hlast] at *; split at * <;> omega)
    · first | exact hQ | (exfalso; simp only [hlast] at *; split at * <;> omega)
theorem c_meltedMask {S : PS} {I : Nat → Nat → Int} {Q : PV1 → Prop}  (h5 : 0 ≤ I 19 5 ∧ I 19 5 < 20) (hQ : Q (some (zI (I 24 (hlast (I 19 5)).toNat)), zH S I)) : Wp 11 (0, [zA 19], [], zH S I) Q := by
  refine (sg_X0_meltedMask_0_19 _ _  _).mpr ?_
  refine c_latestOf_24 h5 ?_
  refine (sg_X0_meltedMask_8 _ _ _ _ _).mpr ?_
  first | exact hQ | exact zq hQ (zB_t (by omega)) rfl | exact zq hQ (zB_f (by omega)) rfl | exact zq hQ (if_pos (by omega)) rfl | exact zq hQ (if_neg (by omega)) rfl | exact zqn hQ rfl
