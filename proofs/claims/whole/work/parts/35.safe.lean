/-! safety, plans carried out, a table made empty -/
theorem l_isSafeIn_7 {S : PS} {I : Nat → Nat → Int} {Q : PV1 → Prop} {p : Nat} (hp : p < 6) (hn : (∀ a, a < p → ¬ xbad I 8 a p) → Wp 71 (2, [zA 7, zI ((p + 1 : Nat) : Int), zI (p : Int)], [], zH S I) Q) (hb : ∀ a, a < p → xbad I 8 a p → Q (some (zI 0), zH S I)) :
    ∀ (k a : Nat), a + k = p → (∀ a', a' < a → ¬ xbad I 8 a' p) → Wp 71 (13, [zA 7, zI (p : Int), zI (a : Int)], [], zH S I) Q := by
  intro k
  induction k with
  | zero =>
    intro a ha hno
    obtain rfl : a = p := by omega
    refine (sg_X4_isSafe_13_7 _ _ _ _ _).mpr ?_
    refine zcd (fun h => absurd h (by omega)) (fun _ => ?_)
    rw [zad_s (by omega)]
    exact hn hno
  | succ k ih =>
    intro a ha hno
    refine (sg_X4_isSafe_13_7 _ _ _ _ _).mpr ?_
    refine zcd (fun _ => ?_) (fun h => absurd (by omega) h)
    refine zgd (by omega) (zgd (by omega) ?_)
    simp only [Int.toNat_natCast]
    have next : ¬ xbad I 8 a p → Wp 71 (13, [zA 7, zI (p : Int), zI (zad (a : Int) 1)], [], zH S I) Q := fun hb1 => by
      rw [zad_s (by omega)]
      refine ih (a + 1) (by omega) (fun a' ha' => ?_)
      by_cases e : a' = a
      · subst e; exact hb1
      · exact hno a' (by omega)
    refine c_doOverlap ?_
    refine (sg_X4_isSafe_37_7 _ _ _ _ _ _).mpr ?_
    refine zcdB (fun h1 => next (fun w => h1 w.1)) (fun h1 => ?_)
    refine zgd (by omega) (zgd (by omega) ?_)
    simp only [Int.toNat_natCast]
    refine c_isHigher ?_
    refine (sg_X4_isSafe_59_7 _ _ _ _ _ _).mpr ?_
    refine zcdB (fun h2 => next (fun w => h2 w.2)) (fun h2 => ?_)
    exact zgb (Or.inl rfl) (hb a (by omega) ⟨h1, h2⟩)
theorem l_isSafe_7 {S : PS} {I : Nat → Nat → Int} {Q : PV1 → Prop} (hQ : Q (some (zI (zB (xsafe I 8))), zH S I)) : ∀ (k p : Nat) (u : PV), p + k = 6 → (∀ p', p' < p → ∀ a, a < p' → ¬ xbad I 8 a p') → Wp 71 (2, [zA 7, zI (p : Int), u], [], zH S I) Q := by
  intro k
  induction k with
  | zero =>
    intro p u hp hno
    obtain rfl : p = 6 := by omega
    refine (sg_X4_isSafe_2_7 _ _ _ _ _).mpr ?_
    refine zcd (fun h => absurd h (by omega)) (fun _ => ?_)
    exact zgb (Or.inr rfl) (zq hQ (zB_t hno) rfl)
  | succ k ih =>
    intro p u hp hno
    refine (sg_X4_isSafe_2_7 _ _ _ _ _).mpr ?_
    refine zcd (fun _ => ?_) (fun h => absurd (by omega) h)
    refine l_isSafeIn_7 (by omega) (fun h => ?_) (fun a ha hb => ?_) p 0 (by omega) (fun a' h => absurd h (by omega))
    · refine ih (p + 1) _ (by omega) (fun p' hp' => ?_)
      by_cases e : p' = p
      · subst e; exact h
      · exact hno p' (by omega)
    · exact zq hQ (zB_f (fun w => w p (by omega) a ha hb)) rfl
theorem c_isSafe_7 {S : PS} {I : Nat → Nat → Int} {Q : PV1 → Prop} {u1 : PV} {u2 : PV}  (hQ : Q (some (zI (zB (xsafe I 8))), zH S I)) : Wp 71 (0, [zA 7, u1, u2], [], zH S I) Q := by
  refine (sg_X4_isSafe_0_7 _ _ _ _ _).mpr ?_
  exact l_isSafe_7 hQ 5 1 _ rfl (fun p' h a ha => by omega)
theorem l_carryOut_7_25 {S : PS} {I : Nat → Nat → Int} {Q : PV1 → Prop} (hl : 0 ≤ I 25 2 ∧ I 25 2 ≤ 16) (hQ : Q (none, zH S (xcarry I 7 8 25 (I 25 2).toNat))) : ∀ (k i : Nat), i + k = (I 25 2).toNat → Wp 66 (2, [zA 7, zA 25, zI (i : Int)], [], zH S (xcarry I 7 8 25 i)) Q := by
  intro k
  induction k with
  | zero =>
    intro i hi
    have e : i = (I 25 2).toNat := by omega
    rw [← e] at hQ
    refine (sg_X4_carryOut_2_7_25 _ _ _ _).mpr ?_
    refine zcd (fun h => ?_) (fun _ => hQ)
    refine c_length_25 ?_
    rw [xcarry_ne (by decide)]
    refine (sg_X4_carryOut_13_7_25 _ _ _ _ _ _).mpr ?_
    refine zcd (fun h => absurd h (by omega)) (fun _ => hQ)
  | succ k ih =>
    intro i hi
    refine (sg_X4_carryOut_2_7_25 _ _ _ _).mpr ?_
    refine zcd (fun _ => ?_) (fun h => absurd (by omega) h)
    refine c_length_25 ?_
    rw [xcarry_ne (by decide)]
    refine (sg_X4_carryOut_13_7_25 _ _ _ _ _ _).mpr ?_
    refine zcd (fun _ => ?_) (fun h => absurd (by omega) h)
    refine c_ruleOf_25 ?_
    rw [xcarry_ne (by decide), xcarry_ne (by decide), if_pos (by omega), Int.toNat_natCast]
    refine (sg_X4_carryOut_22_7_25_7 _ _ _ _ _).mpr ?_
    refine c_pplaceOf_25 ?_
    rw [xcarry_ne (by decide), xcarry_ne (by decide), if_pos (by omega), Int.toNat_natCast]
    refine (sg_X4_carryOut_27_7_25_7 _ _ _ _ _ _).mpr ?_
    refine c_lay_7 ?_
    refine (sg_X4_carryOut_30_7_25 _ _ _ _).mpr ?_
    rw [zad_s (by omega)]
    exact ih (i + 1) (by omega)
theorem c_carryOut_7_25 {S : PS} {I : Nat → Nat → Int} {Q : PV1 → Prop} {u2 : PV} (hl : 0 ≤ I 25 2 ∧ I 25 2 ≤ 16) (hQ : Q (none, zH S (xcarry I 7 8 25 (I 25 2).toNat))) : Wp 66 (0, [zA 7, zA 25, u2], [], zH S I) Q := by
  refine (sg_X4_carryOut_0_7_25 _ _ _ _).mpr ?_
  exact l_carryOut_7_25 hl hQ (I 25 2).toNat 0 (by omega)
theorem l_carryOut_7_28 {S : PS} {I : Nat → Nat → Int} {Q : PV1 → Prop} (hl : 0 ≤ I 28 2 ∧ I 28 2 ≤ 16) (hQ : Q (none, zH S (xcarry I 7 8 28 (I 28 2).toNat))) : ∀ (k i : Nat), i + k = (I 28 2).toNat → Wp 66 (2, [zA 7, zA 28, zI (i : Int)], [], zH S (xcarry I 7 8 28 i)) Q := by
  intro k
  induction k with
  | zero =>
    intro i hi
    have e : i = (I 28 2).toNat := by omega
    rw [← e] at hQ
    refine (sg_X4_carryOut_2_7_28 _ _ _ _).mpr ?_
    refine zcd (fun h => ?_) (fun _ => hQ)
    refine c_length_28 ?_
    rw [xcarry_ne (by decide)]
    refine (sg_X4_carryOut_13_7_28 _ _ _ _ _ _).mpr ?_
    refine zcd (fun h => absurd h (by omega)) (fun _ => hQ)
  | succ k ih =>
    intro i hi
    refine (sg_X4_carryOut_2_7_28 _ _ _ _).mpr ?_
    refine zcd (fun _ => ?_) (fun h => absurd (by omega) h)
    refine c_length_28 ?_
    rw [xcarry_ne (by decide)]
    refine (sg_X4_carryOut_13_7_28 _ _ _ _ _ _).mpr ?_
    refine zcd (fun _ => ?_) (fun h => absurd (by omega) h)
    refine c_ruleOf_28 ?_
    rw [xcarry_ne (by decide), xcarry_ne (by decide), if_pos (by omega), Int.toNat_natCast]
    refine (sg_X4_carryOut_22_7_28_7 _ _ _ _ _).mpr ?_
    refine c_pplaceOf_28 ?_
    rw [xcarry_ne (by decide), xcarry_ne (by decide), if_pos (by omega), Int.toNat_natCast]
    refine (sg_X4_carryOut_27_7_28_7 _ _ _ _ _ _).mpr ?_
    refine c_lay_7 ?_
    refine (sg_X4_carryOut_30_7_28 _ _ _ _).mpr ?_
    rw [zad_s (by omega)]
    exact ih (i + 1) (by omega)
theorem c_carryOut_7_28 {S : PS} {I : Nat → Nat → Int} {Q : PV1 → Prop} {u2 : PV} (hl : 0 ≤ I 28 2 ∧ I 28 2 ≤ 16) (hQ : Q (none, zH S (xcarry I 7 8 28 (I 28 2).toNat))) : Wp 66 (0, [zA 7, zA 28, u2], [], zH S I) Q := by
  refine (sg_X4_carryOut_0_7_28 _ _ _ _).mpr ?_
  exact l_carryOut_7_28 hl hQ (I 28 2).toNat 0 (by omega)
theorem c_empty_7 {S : PS} {I : Nat → Nat → Int} {Q : PV1 → Prop} {n : Int}  (hQ : Q (none, zH S (zs2 (zfill I 8 6 (-1)) 7 2 n))) : Wp 56 (0, [zA 7, zI n], [], zH S I) Q := by
  refine (sg_X4_empty_0_7 _ _ _ _).mpr ?_
  refine c_fill (n := 6) rfl (by decide) rfl rfl ?_
  refine (sg_X4_empty_8_7 _ _ _ _).mpr ?_
  first | exact hQ | exact zq hQ (zB_t (by omega)) rfl | exact zq hQ (zB_f (by omega)) rfl | exact zq hQ (if_pos (by omega)) rfl | exact zq hQ (if_neg (by omega)) rfl | exact zqn hQ rfl
theorem l_isSafeIn_9 {S : PS} {I : Nat → Nat → Int} {Q : PV1 → Prop} {p : Nat} (hp : p < 6) (hn : (∀ a, a < p → ¬ xbad I 10 a p) → Wp 71 (2, [zA 9, zI ((p + 1 : Nat) : Int), zI (p : Int)], [], zH S I) Q) (hb : ∀ a, a < p → xbad I 10 a p → Q (some (zI 0), zH S I)) :
    ∀ (k a : Nat), a + k = p → (∀ a', a' < a → ¬ xbad I 10 a' p) → Wp 71 (13, [zA 9, zI (p : Int), zI (a : Int)], [], zH S I) Q := by
  intro k
  induction k with
  | zero =>
    intro a ha hno
    obtain rfl : a = p := by omega
    refine (sg_X4_isSafe_13_9 _ _ _ _ _).mpr ?_
    refine zcd (fun h => absurd h (by omega)) (fun _ => ?_)
    rw [zad_s (by omega)]
    exact hn hno
  | succ k ih =>
    intro a ha hno
    refine (sg_X4_isSafe_13_9 _ _ _ _ _).mpr ?_
    refine zcd (fun _ => ?_) (fun h => absurd (by omega) h)
    refine zgd (by omega) (zgd (by omega) ?_)
    simp only [Int.toNat_natCast]
    have next : ¬ xbad I 10 a p → Wp 71 (13, [zA 9, zI (p : Int), zI (zad (a : Int) 1)], [], zH S I) Q := fun hb1 => by
      rw [zad_s (by omega)]
      refine ih (a + 1) (by omega) (fun a' ha' => ?_)
      by_cases e : a' = a
      · subst e; exact hb1
      · exact hno a' (by omega)
    refine c_doOverlap ?_
    refine (sg_X4_isSafe_37_9 _ _ _ _ _ _).mpr ?_
    refine zcdB (fun h1 => next (fun w => h1 w.1)) (fun h1 => ?_)
    refine zgd (by omega) (zgd (by omega) ?_)
    simp only [Int.toNat_natCast]
    refine c_isHigher ?_
    refine (sg_X4_isSafe_59_9 _ _ _ _ _ _).mpr ?_
    refine zcdB (fun h2 => next (fun w => h2 w.2)) (fun h2 => ?_)
    exact zgb (Or.inl rfl) (hb a (by omega) ⟨h1, h2⟩)
theorem l_isSafe_9 {S : PS} {I : Nat → Nat → Int} {Q : PV1 → Prop} (hQ : Q (some (zI (zB (xsafe I 10))), zH S I)) : ∀ (k p : Nat) (u : PV), p + k = 6 → (∀ p', p' < p → ∀ a, a < p' → ¬ xbad I 10 a p') → Wp 71 (2, [zA 9, zI (p : Int), u], [], zH S I) Q := by
  intro k
  induction k with
  | zero =>
    intro p u hp hno
    obtain rfl : p = 6 := by omega
    refine (sg_X4_isSafe_2_9 _ _ _ _ _).mpr ?_
    refine zcd (fun h => absurd h (by omega)) (fun _ => ?_)
    exact zgb (Or.inr rfl) (zq hQ (zB_t hno) rfl)
  | succ k ih =>
    intro p u hp hno
    refine (sg_X4_isSafe_2_9 _ _ _ _ _).mpr ?_
    refine zcd (fun _ => ?_) (fun h => absurd (by omega) h)
    refine l_isSafeIn_9 (by omega) (fun h => ?_) (fun a ha hb => ?_) p 0 (by omega) (fun a' h => absurd h (by omega))
    · refine ih (p + 1) _ (by omega) (fun p' hp' => ?_)
      by_cases e : p' = p
      · subst e; exact h
      · exact hno p' (by omega)
    · exact zq hQ (zB_f (fun w => w p (by omega) a ha hb)) rfl
theorem c_isSafe_9 {S : PS} {I : Nat → Nat → Int} {Q : PV1 → Prop} {u1 : PV} {u2 : PV}  (hQ : Q (some (zI (zB (xsafe I 10))), zH S I)) : Wp 71 (0, [zA 9, u1, u2], [], zH S I) Q := by
  refine (sg_X4_isSafe_0_9 _ _ _ _ _).mpr ?_
  exact l_isSafe_9 hQ 5 1 _ rfl (fun p' h a ha => by omega)
theorem l_carryOut_9_25 {S : PS} {I : Nat → Nat → Int} {Q : PV1 → Prop} (hl : 0 ≤ I 25 2 ∧ I 25 2 ≤ 16) (hQ : Q (none, zH S (xcarry I 9 10 25 (I 25 2).toNat))) : ∀ (k i : Nat), i + k = (I 25 2).toNat → Wp 66 (2, [zA 9, zA 25, zI (i : Int)], [], zH S (xcarry I 9 10 25 i)) Q := by
  intro k
  induction k with
  | zero =>
    intro i hi
    have e : i = (I 25 2).toNat := by omega
    rw [← e] at hQ
    refine (sg_X4_carryOut_2_9_25 _ _ _ _).mpr ?_
    refine zcd (fun h => ?_) (fun _ => hQ)
    refine c_length_25 ?_
    rw [xcarry_ne (by decide)]
    refine (sg_X4_carryOut_13_9_25 _ _ _ _ _ _).mpr ?_
    refine zcd (fun h => absurd h (by omega)) (fun _ => hQ)
  | succ k ih =>
    intro i hi
    refine (sg_X4_carryOut_2_9_25 _ _ _ _).mpr ?_
    refine zcd (fun _ => ?_) (fun h => absurd (by omega) h)
    refine c_length_25 ?_
    rw [xcarry_ne (by decide)]
    refine (sg_X4_carryOut_13_9_25 _ _ _ _ _ _).mpr ?_
    refine zcd (fun _ => ?_) (fun h => absurd (by omega) h)
    refine c_ruleOf_25 ?_
    rw [xcarry_ne (by decide), xcarry_ne (by decide), if_pos (by omega), Int.toNat_natCast]
    refine (sg_X4_carryOut_22_9_25_9 _ _ _ _ _).mpr ?_
    refine c_pplaceOf_25 ?_
    rw [xcarry_ne (by decide), xcarry_ne (by decide), if_pos (by omega), Int.toNat_natCast]
    refine (sg_X4_carryOut_27_9_25_9 _ _ _ _ _ _).mpr ?_
    refine c_lay_9 ?_
    refine (sg_X4_carryOut_30_9_25 _ _ _ _).mpr ?_
    rw [zad_s (by omega)]
    exact ih (i + 1) (by omega)
theorem c_carryOut_9_25 {S : PS} {I : Nat → Nat → Int} {Q : PV1 → Prop} {u2 : PV} (hl : 0 ≤ I 25 2 ∧ I 25 2 ≤ 16) (hQ : Q (none, zH S (xcarry I 9 10 25 (I 25 2).toNat))) : Wp 66 (0, [zA 9, zA 25, u2], [], zH S I) Q := by
  refine (sg_X4_carryOut_0_9_25 _ _ _ _).mpr ?_
  exact l_carryOut_9_25 hl hQ (I 25 2).toNat 0 (by omega)
theorem l_carryOut_9_28 {S : PS} {I : Nat → Nat → Int} {Q : PV1 → Prop} (hl : 0 ≤ I 28 2 ∧ I 28 2 ≤ 16) (hQ : Q (none, zH S (xcarry I 9 10 28 (I 28 2).toNat))) : ∀ (k i : Nat), i + k = (I 28 2).toNat → Wp 66 (2, [zA 9, zA 28, zI (i : Int)], [], zH S (xcarry I 9 10 28 i)) Q := by
  intro k
  induction k with
  | zero =>
    intro i hi
    have e : i = (I 28 2).toNat := by omega
    rw [← e] at hQ
    refine (sg_X4_carryOut_2_9_28 _ _ _ _).mpr ?_
    refine zcd (fun h => ?_) (fun _ => hQ)
    refine c_length_28 ?_
    rw [xcarry_ne (by decide)]
    refine (sg_X4_carryOut_13_9_28 _ _ _ _ _ _).mpr ?_
    refine zcd (fun h => absurd h (by omega)) (fun _ => hQ)
  | succ k ih =>
    intro i hi
    refine (sg_X4_carryOut_2_9_28 _ _ _ _).mpr ?_
    refine zcd (fun _ => ?_) (fun h => absurd (by omega) h)
    refine c_length_28 ?_
    rw [xcarry_ne (by decide)]
    refine (sg_X4_carryOut_13_9_28 _ _ _ _ _ _).mpr ?_
    refine zcd (fun _ => ?_) (fun h => absurd (by omega) h)
    refine c_ruleOf_28 ?_
    rw [xcarry_ne (by decide), xcarry_ne (by decide), if_pos (by omega), Int.toNat_natCast]
    refine (sg_X4_carryOut_22_9_28_9 _ _ _ _ _).mpr ?_
    refine c_pplaceOf_28 ?_
    rw [xcarry_ne (by decide), xcarry_ne (by decide), if_pos (by omega), Int.toNat_natCast]
    refine (sg_X4_carryOut_27_9_28_9 _ _ _ _ _ _).mpr ?_
    refine c_lay_9 ?_
    refine (sg_X4_carryOut_30_9_28 _ _ _ _).mpr ?_
    rw [zad_s (by omega)]
    exact ih (i + 1) (by omega)
theorem c_carryOut_9_28 {S : PS} {I : Nat → Nat → Int} {Q : PV1 → Prop} {u2 : PV} (hl : 0 ≤ I 28 2 ∧ I 28 2 ≤ 16) (hQ : Q (none, zH S (xcarry I 9 10 28 (I 28 2).toNat))) : Wp 66 (0, [zA 9, zA 28, u2], [], zH S I) Q := by
  refine (sg_X4_carryOut_0_9_28 _ _ _ _).mpr ?_
  exact l_carryOut_9_28 hl hQ (I 28 2).toNat 0 (by omega)
theorem c_empty_9 {S : PS} {I : Nat → Nat → Int} {Q : PV1 → Prop} {n : Int}  (hQ : Q (none, zH S (zs2 (zfill I 10 6 (-1)) 9 2 n))) : Wp 56 (0, [zA 9, zI n], [], zH S I) Q := by
  refine (sg_X4_empty_0_9 _ _ _ _).mpr ?_
  refine c_fill (n := 6) rfl (by decide) rfl rfl ?_
  refine (sg_X4_empty_8_9 _ _ _ _).mpr ?_
  first | exact hQ | exact zq hQ (zB_t (by omega)) rfl | exact zq hQ (zB_f (by omega)) rfl | exact zq hQ (if_pos (by omega)) rfl | exact zq hQ (if_neg (by omega)) rfl | exact zqn hQ rfl
theorem c_forgetAll {S : PS} {I : Nat → Nat → Int} {Q : PV1 → Prop}   (hQ : Q (none, zH S (zfill I 2 17 (-1)))) : Wp 20 (0, [zA 1], [], zH S I) Q := by
  refine (sg_X2_forgetAll_0_1 _ _  _).mpr ?_
  refine c_fill (n := 17) rfl (by decide) rfl rfl ?_
  refine (sg_X2_forgetAll_8 _ _ _ _).mpr ?_
  first | exact hQ | exact zq hQ (zB_t (by omega)) rfl | exact zq hQ (zB_f (by omega)) rfl | exact zq hQ (if_pos (by omega)) rfl | exact zq hQ (if_neg (by omega)) rfl | exact zqn hQ rfl
