/-! the tables' methods -/
abbrev xfit (I : Nat → Nat → Int) (r k : Int) : Prop := num r ∧ zan (zxr (I 3 r.toNat) k) (I 4 r.toNat) = 0
abbrev xov (I : Nat → Nat → Int) (a b : Int) : Prop := num a ∧ num b ∧ zan (zan (zxr (I 3 a.toNat) (I 3 b.toNat)) (I 4 a.toNat)) (I 4 b.toNat) = 0
abbrev xhi (I : Nat → Nat → Int) (a b : Int) : Prop := num a ∧ num b ∧ (I 5 b.toNat < I 5 a.toNat ∨ (I 5 a.toNat = I 5 b.toNat ∧ a < b))
abbrev xact (I : Nat → Nat → Int) (r : Int) : Int := if num r then I 6 r.toNat else (-1)
abbrev xisp (n p : Int) : Prop := 0 ≤ p ∧ p < n ∧ p < 6
abbrev xplc (f : Nat → Int) (r : Int) : Int := zfs (fun p => r ≠ -1 ∧ f p = r) 6 0
def xfree (I : Nat → Nat → Int) (t c : Nat) (p : Int) : Nat → Nat → Int := if xisp (I t 2) p then zs2 I c p.toNat (-1) else I
def xlay (I : Nat → Nat → Int) (t c : Nat) (r p : Int) : Nat → Nat → Int := if xisp (I t 2) p then zs2 (xfree I t c (xplc (I c) r)) c p.toNat r else I
abbrev xst (f : Nat → Int) : Nat := zcnt (fun p => f p ≠ -1) 6
abbrev xjud (I : Nat → Nat → Int) (c : Nat) (k : Int) : Int := zfv (fun p => xfit I (I c p) k) (fun p => xact I (I c p)) (-1) 6 0
abbrev xbest (I : Nat → Nat → Int) (c : Nat) (k : Int) : Nat → Int := zfold (fun p a => if xfit I (I c p) k ∧ (a = -1 ∨ xhi I (I c p) a) then I c p else a) (-1)
abbrev xdue (I : Nat → Nat → Int) (c : Nat) (k : Int) : Int := xact I (xbest I c k 6)
abbrev xover (I : Nat → Nat → Int) (c : Nat) (k r : Int) : Int := zfs (fun p => xfit I (I c p) k ∧ xhi I (I c p) r) 6 0
abbrev xshown (I : Nat → Nat → Int) (c : Nat) (r : Int) : Int := zfv (fun k => xfit I r (k : Int) ∧ xover I c (k : Int) r = -1) (fun k => (k : Int)) (-2) 32 0
abbrev xhb (I : Nat → Nat → Int) (c : Nat) (l : Int) : Nat → Int := zfold (fun p a => if I c p ≠ -1 ∧ (l = -1 ∨ xhi I l (I c p)) ∧ (a = -1 ∨ xhi I (I c p) a) then I c p else a) (-1)
theorem xbest_s (I : Nat → Nat → Int) (c : Nat) (k : Int) (i : Nat) : xbest I c k (i + 1) = if xfit I (I c i) k ∧ (xbest I c k i = -1 ∨ xhi I (I c i) (xbest I c k i)) then I c i else xbest I c k i := rfl
theorem xhb_s (I : Nat → Nat → Int) (c : Nat) (l : Int) (i : Nat) : xhb I c l (i + 1) = if I c i ≠ -1 ∧ (l = -1 ∨ xhi I l (I c i)) ∧ (xhb I c l i = -1 ∨ xhi I (I c i) (xhb I c l i)) then I c i else xhb I c l i := rfl

theorem c_size_7 {S : PS} {I : Nat → Nat → Int} {Q : PV1 → Prop}   (hQ : Q (some (zI (I 7 2)), zH S I)) : Wp 57 (0, [zA 7], [], zH S I) Q := by
  refine (sg_X4_size_0_7 _ _  _).mpr ?_
  first | exact hQ | exact zq hQ (zB_t (by omega)) rfl | exact zq hQ (zB_f (by omega)) rfl | exact zq hQ (if_pos (by omega)) rfl | exact zq hQ (if_neg (by omega)) rfl | exact zqn hQ rfl
theorem c_isPlace_7 {S : PS} {I : Nat → Nat → Int} {Q : PV1 → Prop} {p : Int}  (hQ : Q (some (zI (zB (xisp (I 7 2) p))), zH S I)) : Wp 58 (0, [zA 7, zI p], [], zH S I) Q := by
  refine (sg_X4_isPlace_0_7 _ _ _ _).mpr ?_
  first | refine zcdB (fun h1 => ?_) (fun h1 => ?_) | refine zcd (fun h1 => ?_) (fun h1 => ?_)
  · refine zgb (by first | omega | simp) ?_
    first | exact hQ | exact zq hQ (zB_t (by omega)) rfl | exact zq hQ (zB_f (by omega)) rfl | exact zq hQ (if_pos (by omega)) rfl | exact zq hQ (if_neg (by omega)) rfl | exact zqn hQ rfl
  · first | refine zcdB (fun h2 => ?_) (fun h2 => ?_) | refine zcd (fun h2 => ?_) (fun h2 => ?_)
    · first | refine zcdB (fun h3 => ?_) (fun h3 => ?_) | refine zcd (fun h3 => ?_) (fun h3 => ?_)
      · refine zgb (by first | omega | simp) ?_
        first | exact hQ | exact zq hQ (zB_t (by omega)) rfl | exact zq hQ (zB_f (by omega)) rfl | exact zq hQ (if_pos (by omega)) rfl | exact zq hQ (if_neg (by omega)) rfl | exact zqn hQ rfl
      · refine zgb (by first | omega | simp) ?_
        first | exact hQ | exact zq hQ (zB_t (by omega)) rfl | exact zq hQ (zB_f (by omega)) rfl | exact zq hQ (if_pos (by omega)) rfl | exact zq hQ (if_neg (by omega)) rfl | exact zqn hQ rfl
    · refine zgb (by first | omega | simp) ?_
      first | exact hQ | exact zq hQ (zB_t (by omega)) rfl | exact zq hQ (zB_f (by omega)) rfl | exact zq hQ (if_pos (by omega)) rfl | exact zq hQ (if_neg (by omega)) rfl | exact zqn hQ rfl
theorem c_ruleAt_7 {S : PS} {I : Nat → Nat → Int} {Q : PV1 → Prop} {p : Int}  (hQ : Q (some (zI (if xisp (I 7 2) p then I 8 p.toNat else (-1))), zH S I)) : Wp 59 (0, [zA 7, zI p], [], zH S I) Q := by
  refine (sg_X4_ruleAt_0_7 _ _ _ _).mpr ?_
  refine c_isPlace_7 ?_
  refine (sg_X4_ruleAt_5_7 _ _ _ _ _).mpr ?_
  first | refine zcdB (fun h1 => ?_) (fun h1 => ?_) | refine zcd (fun h1 => ?_) (fun h1 => ?_)
  · first | exact hQ | exact zq hQ (zB_t (by omega)) rfl | exact zq hQ (zB_f (by omega)) rfl | exact zq hQ (if_pos (by omega)) rfl | exact zq hQ (if_neg (by omega)) rfl | exact zqn hQ rfl
  · refine zgd (by first | omega | simp) ?_
    first | exact hQ | exact zq hQ (zB_t (by omega)) rfl | exact zq hQ (zB_f (by omega)) rfl | exact zq hQ (if_pos (by omega)) rfl | exact zq hQ (if_neg (by omega)) rfl | exact zqn hQ rfl
theorem l_placeOf_7 {S : PS} {I : Nat → Nat → Int} {Q : PV1 → Prop} {r : Int} : ∀ (k i : Nat), i + k = 6 →  Q (some (zI (zfs (fun p => r ≠ -1 ∧ I 8 p = r) k i)), zH S I) → Wp 60 (2, [zA 7, zI r, zI ((i : Int))], [], zH S I) Q := by
  intro k
  induction k with
  | zero =>
    intro i hi hQ
    refine (sg_X4_placeOf_2_7 _ _ _ _ _).mpr ?_
    try simp only [Int.toNat_natCast]
    first | refine zcdB (fun h1 => ?_) (fun h1 => ?_) | refine zcd (fun h1 => ?_) (fun h1 => ?_)
    · first | refine zcdB (fun h2 => ?_) (fun h2 => ?_) | refine zcd (fun h2 => ?_) (fun h2 => ?_)
      · exfalso; omega
      · refine zgd (by first | omega | simp) ?_
        first | refine zcdB (fun h3 => ?_) (fun h3 => ?_) | refine zcd (fun h3 => ?_) (fun h3 => ?_)
        · first | (exfalso; omega) | exact hQ | (rw [zfs_t (by omega)] at hQ; exact hQ)
        · exfalso; omega
    · first | (exfalso; omega) | exact hQ | (rw [zfs_t (by omega)] at hQ; exact hQ)
  | succ k ih =>
    intro i hi hQ
    refine (sg_X4_placeOf_2_7 _ _ _ _ _).mpr ?_
    try simp only [Int.toNat_natCast]
    first | refine zcdB (fun h1 => ?_) (fun h1 => ?_) | refine zcd (fun h1 => ?_) (fun h1 => ?_)
    · first | refine zcdB (fun h2 => ?_) (fun h2 => ?_) | refine zcd (fun h2 => ?_) (fun h2 => ?_)
      · rw [zad_s (by omega)]
        exact ih (i + 1) (by omega) (by rw [zfs_f (by omega)] at hQ; exact hQ)
      · refine zgd (by first | omega | simp) ?_
        first | refine zcdB (fun h3 => ?_) (fun h3 => ?_) | refine zcd (fun h3 => ?_) (fun h3 => ?_)
        · first | (exfalso; omega) | exact hQ | (rw [zfs_t (by omega)] at hQ; exact hQ)
        · rw [zad_s (by omega)]
          exact ih (i + 1) (by omega) (by rw [zfs_f (by omega)] at hQ; exact hQ)
    · first | (exfalso; omega) | exact hQ | (rw [zfs_t (by omega)] at hQ; exact hQ)
theorem c_placeOf_7 {S : PS} {I : Nat → Nat → Int} {Q : PV1 → Prop} {r : Int} {u2 : PV}  (hQ : Q (some (zI (xplc (I 8) r)), zH S I)) : Wp 60 (0, [zA 7, zI r, u2], [], zH S I) Q := by
  refine (sg_X4_placeOf_0_7 _ _ _ _ _).mpr ?_
  exact l_placeOf_7 6 0 rfl hQ
theorem c_hasRule_7 {S : PS} {I : Nat → Nat → Int} {Q : PV1 → Prop} {r : Int}  (hQ : Q (some (zI (zB (¬ xplc (I 8) r = -1))), zH S I)) : Wp 61 (0, [zA 7, zI r], [], zH S I) Q := by
  refine (sg_X4_hasRule_0_7 _ _ _ _).mpr ?_
  refine c_placeOf_7 ?_
  refine (sg_X4_hasRule_5 _ _ _ _ _ _).mpr ?_
  first | refine zcdB (fun h1 => ?_) (fun h1 => ?_) | refine zcd (fun h1 => ?_) (fun h1 => ?_)
  · refine zgb (by first | omega | simp) ?_
    first | exact hQ | exact zq hQ (zB_t (by omega)) rfl | exact zq hQ (zB_f (by omega)) rfl | exact zq hQ (if_pos (by omega)) rfl | exact zq hQ (if_neg (by omega)) rfl | exact zqn hQ rfl
  · refine zgb (by first | omega | simp) ?_
    first | exact hQ | exact zq hQ (zB_t (by omega)) rfl | exact zq hQ (zB_f (by omega)) rfl | exact zq hQ (if_pos (by omega)) rfl | exact zq hQ (if_neg (by omega)) rfl | exact zqn hQ rfl
theorem l_standing_7 {S : PS} {I : Nat → Nat → Int} {Q : PV1 → Prop}  : ∀ (k i : Nat), i + k = 6 →  Q (some (zI (((xst (I 8) : Nat) : Int))), zH S I) → Wp 62 (4, [zA 7, zI (((zcnt (fun p => I 8 p ≠ -1) i : Nat) : Int)), zI ((i : Int))], [], zH S I) Q := by
  intro k
  induction k with
  | zero =>
    intro i hi hQ
    refine (sg_X4_standing_4_7 _ _ _ _ _).mpr ?_
    try simp only [Int.toNat_natCast]
    first | refine zcdB (fun h1 => ?_) (fun h1 => ?_) | refine zcd (fun h1 => ?_) (fun h1 => ?_)
    · refine zgd (by first | omega | simp) ?_
      first | refine zcdB (fun h2 => ?_) (fun h2 => ?_) | refine zcd (fun h2 => ?_) (fun h2 => ?_)
      · exfalso; omega
      · exfalso; omega
    · first | (exfalso; omega) | (obtain rfl : i = 6 := (by omega); exact hQ)
  | succ k ih =>
    intro i hi hQ
    refine (sg_X4_standing_4_7 _ _ _ _ _).mpr ?_
    try simp only [Int.toNat_natCast]
    first | refine zcdB (fun h1 => ?_) (fun h1 => ?_) | refine zcd (fun h1 => ?_) (fun h1 => ?_)
    · refine zgd (by first | omega | simp) ?_
      first | refine zcdB (fun h2 => ?_) (fun h2 => ?_) | refine zcd (fun h2 => ?_) (fun h2 => ?_)
      · rw [zad_s (i := i) (by omega)]
        exact zeq (ih (i + 1) (by omega) hQ) (by first | rw [zcnt_t (by omega) (by omega)] | rw [zcnt_f (by omega)])
      · rw [zad_s (i := i) (by omega)]
        exact zeq (ih (i + 1) (by omega) hQ) (by first | rw [zcnt_t (by omega) (by omega)] | rw [zcnt_f (by omega)])
    · first | (exfalso; omega) | (obtain rfl : i = 6 := (by omega); exact hQ)
theorem c_standing_7 {S : PS} {I : Nat → Nat → Int} {Q : PV1 → Prop} {u1 : PV} {u2 : PV}  (hQ : Q (some (zI (((xst (I 8) : Nat) : Int))), zH S I)) : Wp 62 (0, [zA 7, u1, u2], [], zH S I) Q := by
  refine (sg_X4_standing_0_7 _ _ _ _ _).mpr ?_
  exact l_standing_7 6 0 rfl hQ
theorem c_isFull_7 {S : PS} {I : Nat → Nat → Int} {Q : PV1 → Prop}   (hQ : Q (some (zI (zB (I 7 2 ≤ ((xst (I 8) : Nat) : Int)))), zH S I)) : Wp 63 (0, [zA 7], [], zH S I) Q := by
  refine (sg_X4_isFull_0_7 _ _  _).mpr ?_
  refine c_standing_7 ?_
  refine (sg_X4_isFull_4_7 _ _ _ _).mpr ?_
  first | refine zcdB (fun h1 => ?_) (fun h1 => ?_) | refine zcd (fun h1 => ?_) (fun h1 => ?_)
  · refine zgb (by first | omega | simp) ?_
    first | exact hQ | exact zq hQ (zB_t (by omega)) rfl | exact zq hQ (zB_f (by omega)) rfl | exact zq hQ (if_pos (by omega)) rfl | exact zq hQ (if_neg (by omega)) rfl | exact zqn hQ rfl
  · refine zgb (by first | omega | simp) ?_
    first | exact hQ | exact zq hQ (zB_t (by omega)) rfl | exact zq hQ (zB_f (by omega)) rfl | exact zq hQ (if_pos (by omega)) rfl | exact zq hQ (if_neg (by omega)) rfl | exact zqn hQ rfl
theorem c_makeFree_7 {S : PS} {I : Nat → Nat → Int} {Q : PV1 → Prop} {p : Int}  (hQ : Q (none, zH S (xfree I 7 8 p))) : Wp 64 (0, [zA 7, zI p], [], zH S I) Q := by
  refine (sg_X4_makeFree_0_7 _ _ _ _).mpr ?_
  refine c_isPlace_7 ?_
  refine (sg_X4_makeFree_5_7 _ _ _ _ _).mpr ?_
  first | refine zcdB (fun h1 => ?_) (fun h1 => ?_) | refine zcd (fun h1 => ?_) (fun h1 => ?_)
  · first | exact hQ | (simp only [xfree] at hQ; rw [if_pos (by omega)] at hQ; exact hQ) | (simp only [xfree] at hQ; rw [if_neg (by omega)] at hQ; exact hQ) | (simp only [xlay] at hQ; rw [if_pos (by omega)] at hQ; exact hQ) | (simp only [xlay] at hQ; rw [if_neg (by omega)] at hQ; exact hQ)
  · refine zgd (by first | omega | simp) ?_
    first | exact hQ | (simp only [xfree] at hQ; rw [if_pos (by omega)] at hQ; exact hQ) | (simp only [xfree] at hQ; rw [if_neg (by omega)] at hQ; exact hQ) | (simp only [xlay] at hQ; rw [if_pos (by omega)] at hQ; exact hQ) | (simp only [xlay] at hQ; rw [if_neg (by omega)] at hQ; exact hQ)
theorem c_lay_7 {S : PS} {I : Nat → Nat → Int} {Q : PV1 → Prop} {r : Int} {p : Int}  (hQ : Q (none, zH S (xlay I 7 8 r p))) : Wp 65 (0, [zA 7, zI r, zI p], [], zH S I) Q := by
  refine (sg_X4_lay_0_7 _ _ _ _ _).mpr ?_
  refine c_isPlace_7 ?_
  refine (sg_X4_lay_5_7 _ _ _ _ _ _).mpr ?_
  first | refine zcdB (fun h1 => ?_) (fun h1 => ?_) | refine zcd (fun h1 => ?_) (fun h1 => ?_)
  · first | exact hQ | (simp only [xfree] at hQ; rw [if_pos (by omega)] at hQ; exact hQ) | (simp only [xfree] at hQ; rw [if_neg (by omega)] at hQ; exact hQ) | (simp only [xlay] at hQ; rw [if_pos (by omega)] at hQ; exact hQ) | (simp only [xlay] at hQ; rw [if_neg (by omega)] at hQ; exact hQ)
  · refine c_placeOf_7 ?_
    refine (sg_X4_lay_14_7_7 _ _ _ _ _ _).mpr ?_
    refine c_makeFree_7 ?_
    refine (sg_X4_lay_17_7 _ _ _ _ _).mpr ?_
    refine zgd (by first | omega | simp) ?_
    first | exact hQ | (simp only [xfree] at hQ; rw [if_pos (by omega)] at hQ; exact hQ) | (simp only [xfree] at hQ; rw [if_neg (by omega)] at hQ; exact hQ) | (simp only [xlay] at hQ; rw [if_pos (by omega)] at hQ; exact hQ) | (simp only [xlay] at hQ; rw [if_neg (by omega)] at hQ; exact hQ)
theorem l_actFor_7 {S : PS} {I : Nat → Nat → Int} {Q : PV1 → Prop} {key : Int} : ∀ (k i : Nat), i + k = 6 →  Q (some (zI (zfv (fun p => xfit I (I 8 p) key) (fun p => xact I (I 8 p)) (-1) k i)), zH S I) → Wp 67 (2, [zA 7, zI key, zI ((i : Int))], [], zH S I) Q := by
  intro k
  induction k with
  | zero =>
    intro i hi hQ
    refine (sg_X4_actFor_2_7 _ _ _ _ _).mpr ?_
    try simp only [Int.toNat_natCast]
    first | refine zcdB (fun h1 => ?_) (fun h1 => ?_) | refine zcd (fun h1 => ?_) (fun h1 => ?_)
    · refine zgd (by first | omega | simp) ?_
      refine c_doesFit ?_
      refine (sg_X4_actFor_25_7 _ _ _ _ _ _).mpr ?_
      first | refine zcdB (fun h2 => ?_) (fun h2 => ?_) | refine zcd (fun h2 => ?_) (fun h2 => ?_)
      · exfalso; omega
      · refine zgd (by first | omega | simp) ?_
        refine c_actOf ?_
        refine (sg_X4_actFor_41 _ _ _ _ _ _ _).mpr ?_
        first | (exfalso; omega) | exact hQ | (rw [zfv_t (by assumption)] at hQ; exact hQ)
    · first | (exfalso; omega) | exact hQ | (rw [zfv_t (by assumption)] at hQ; exact hQ)
  | succ k ih =>
    intro i hi hQ
    refine (sg_X4_actFor_2_7 _ _ _ _ _).mpr ?_
    try simp only [Int.toNat_natCast]
    first | refine zcdB (fun h1 => ?_) (fun h1 => ?_) | refine zcd (fun h1 => ?_) (fun h1 => ?_)
    · refine zgd (by first | omega | simp) ?_
      refine c_doesFit ?_
      refine (sg_X4_actFor_25_7 _ _ _ _ _ _).mpr ?_
      first | refine zcdB (fun h2 => ?_) (fun h2 => ?_) | refine zcd (fun h2 => ?_) (fun h2 => ?_)
      · rw [zad_s (by omega)]
        exact ih (i + 1) (by omega) (by rw [zfv_f (by assumption)] at hQ; exact hQ)
      · refine zgd (by first | omega | simp) ?_
        refine c_actOf ?_
        refine (sg_X4_actFor_41 _ _ _ _ _ _ _).mpr ?_
        first | (exfalso; omega) | exact hQ | (rw [zfv_t (by assumption)] at hQ; exact hQ)
    · first | (exfalso; omega) | exact hQ | (rw [zfv_t (by assumption)] at hQ; exact hQ)
theorem c_actFor_7 {S : PS} {I : Nat → Nat → Int} {Q : PV1 → Prop} {key : Int} {u2 : PV}  (hQ : Q (some (zI (xjud I 8 key)), zH S I)) : Wp 67 (0, [zA 7, zI key, u2], [], zH S I) Q := by
  refine (sg_X4_actFor_0_7 _ _ _ _ _).mpr ?_
  exact l_actFor_7 6 0 rfl hQ
theorem l_dueActFor_7 {S : PS} {I : Nat → Nat → Int} {Q : PV1 → Prop} {key : Int} : ∀ (k i : Nat) (u4 : PV), i + k = 6 →  Q (some (zI (xdue I 8 key)), zH S I) → Wp 68 (4, [zA 7, zI key, zI ((xbest I 8 key i)), zI ((i : Int)), u4], [], zH S I) Q := by
  intro k
  induction k with
  | zero =>
    intro i u4 hi hQ
    refine (sg_X4_dueActFor_4_7 _ _ _ _ _ _ _).mpr ?_
    try simp only [Int.toNat_natCast]
    first | refine zcdB (fun h1 => ?_) (fun h1 => ?_) | refine zcd (fun h1 => ?_) (fun h1 => ?_)
    · refine zgd (by first | omega | simp) ?_
      refine c_doesFit ?_
      refine (sg_X4_dueActFor_31_7 _ _ _ _ _ _ _ _).mpr ?_
      first | refine zcdB (fun h2 => ?_) (fun h2 => ?_) | refine zcd (fun h2 => ?_) (fun h2 => ?_)
      · exfalso; omega
      · first | refine zcdB (fun h3 => ?_) (fun h3 => ?_) | refine zcd (fun h3 => ?_) (fun h3 => ?_)
        · exfalso; omega
        · refine c_isHigher ?_
          refine (sg_X4_dueActFor_49_7 _ _ _ _ _ _ _ _).mpr ?_
          first | refine zcdB (fun h4 => ?_) (fun h4 => ?_) | refine zcd (fun h4 => ?_) (fun h4 => ?_)
          · exfalso; omega
          · exfalso; omega
    · refine c_actOf ?_
      refine (sg_X4_dueActFor_69 _ _ _ _ _ _ _ _ _).mpr ?_
      first | (exfalso; omega) | (obtain rfl : i = 6 := (by omega); exact hQ)
  | succ k ih =>
    intro i u4 hi hQ
    refine (sg_X4_dueActFor_4_7 _ _ _ _ _ _ _).mpr ?_
    try simp only [Int.toNat_natCast]
    first | refine zcdB (fun h1 => ?_) (fun h1 => ?_) | refine zcd (fun h1 => ?_) (fun h1 => ?_)
    · refine zgd (by first | omega | simp) ?_
      refine c_doesFit ?_
      refine (sg_X4_dueActFor_31_7 _ _ _ _ _ _ _ _).mpr ?_
      first | refine zcdB (fun h2 => ?_) (fun h2 => ?_) | refine zcd (fun h2 => ?_) (fun h2 => ?_)
      · rw [zad_s (i := i) (by omega)]
        exact zeq (ih (i + 1) _ (by omega) hQ) (by rw [xbest_s]; first | rw [if_pos ⟨by assumption, Or.inl (by assumption)⟩] | rw [if_pos ⟨by assumption, Or.inr (by assumption)⟩] | rw [if_neg (fun w => absurd w.1 (by assumption))] | rw [if_neg (fun w => w.2.elim (by assumption) (by assumption))])
      · first | refine zcdB (fun h3 => ?_) (fun h3 => ?_) | refine zcd (fun h3 => ?_) (fun h3 => ?_)
        · rw [zad_s (i := i) (by omega)]
          exact zeq (ih (i + 1) _ (by omega) hQ) (by rw [xbest_s]; first | rw [if_pos ⟨by assumption, Or.inl (by assumption)⟩] | rw [if_pos ⟨by assumption, Or.inr (by assumption)⟩] | rw [if_neg (fun w => absurd w.1 (by assumption))] | rw [if_neg (fun w => w.2.elim (by assumption) (by assumption))])
        · refine c_isHigher ?_
          refine (sg_X4_dueActFor_49_7 _ _ _ _ _ _ _ _).mpr ?_
          first | refine zcdB (fun h4 => ?_) (fun h4 => ?_) | refine zcd (fun h4 => ?_) (fun h4 => ?_)
          · rw [zad_s (i := i) (by omega)]
            exact zeq (ih (i + 1) _ (by omega) hQ) (by rw [xbest_s]; first | rw [if_pos ⟨by assumption, Or.inl (by assumption)⟩] | rw [if_pos ⟨by assumption, Or.inr (by assumption)⟩] | rw [if_neg (fun w => absurd w.1 (by assumption))] | rw [if_neg (fun w => w.2.elim (by assumption) (by assumption))])
          · rw [zad_s (i := i) (by omega)]
            exact zeq (ih (i + 1) _ (by omega) hQ) (by rw [xbest_s]; first | rw [if_pos ⟨by assumption, Or.inl (by assumption)⟩] | rw [if_pos ⟨by assumption, Or.inr (by assumption)⟩] | rw [if_neg (fun w => absurd w.1 (by assumption))] | rw [if_neg (fun w => w.2.elim (by assumption) (by assumption))])
    · refine c_actOf ?_
      refine (sg_X4_dueActFor_69 _ _ _ _ _ _ _ _ _).mpr ?_
      first | (exfalso; omega) | (obtain rfl : i = 6 := (by omega); exact hQ)
theorem c_dueActFor_7 {S : PS} {I : Nat → Nat → Int} {Q : PV1 → Prop} {key : Int} {u2 : PV} {u3 : PV} {u4 : PV}  (hQ : Q (some (zI (xdue I 8 key)), zH S I)) : Wp 68 (0, [zA 7, zI key, u2, u3, u4], [], zH S I) Q := by
  refine (sg_X4_dueActFor_0_7 _ _ _ _ _ _ _).mpr ?_
  exact l_dueActFor_7 6 0 _ rfl hQ
theorem l_hasHigherFor_7 {S : PS} {I : Nat → Nat → Int} {Q : PV1 → Prop} {key r : Int} : ∀ (k i : Nat), i + k = 6 →  Q (some (zI (zB (¬ zfs (fun p => xfit I (I 8 p) key ∧ xhi I (I 8 p) r) k i = -1))), zH S I) → Wp 73 (2, [zA 7, zI key, zI r, zI ((i : Int))], [], zH S I) Q := by
  intro k
  induction k with
  | zero =>
    intro i hi hQ
    refine (sg_X4_hasHigherFor_2_7 _ _ _ _ _ _).mpr ?_
    try simp only [Int.toNat_natCast]
    first | refine zcdB (fun h1 => ?_) (fun h1 => ?_) | refine zcd (fun h1 => ?_) (fun h1 => ?_)
    · refine zgd (by first | omega | simp) ?_
      refine c_doesFit ?_
      refine (sg_X4_hasHigherFor_25_7 _ _ _ _ _ _ _).mpr ?_
      first | refine zcdB (fun h2 => ?_) (fun h2 => ?_) | refine zcd (fun h2 => ?_) (fun h2 => ?_)
      · exfalso; omega
      · refine zgd (by first | omega | simp) ?_
        refine c_isHigher ?_
        refine (sg_X4_hasHigherFor_42_7 _ _ _ _ _ _ _).mpr ?_
        first | refine zcdB (fun h3 => ?_) (fun h3 => ?_) | refine zcd (fun h3 => ?_) (fun h3 => ?_)
        · exfalso; omega
        · refine zgb (by first | omega | simp) ?_
          first | (exfalso; omega) | exact zq hQ (zB_f (by simp [zfs])) rfl | (rw [zfs_t ⟨by assumption, by assumption⟩] at hQ; exact zq hQ (zB_t (by omega)) rfl)
    · refine zgb (by first | omega | simp) ?_
      first | (exfalso; omega) | exact zq hQ (zB_f (by simp [zfs])) rfl | (rw [zfs_t ⟨by assumption, by assumption⟩] at hQ; exact zq hQ (zB_t (by omega)) rfl)
  | succ k ih =>
    intro i hi hQ
    refine (sg_X4_hasHigherFor_2_7 _ _ _ _ _ _).mpr ?_
    try simp only [Int.toNat_natCast]
    first | refine zcdB (fun h1 => ?_) (fun h1 => ?_) | refine zcd (fun h1 => ?_) (fun h1 => ?_)
    · refine zgd (by first | omega | simp) ?_
      refine c_doesFit ?_
      refine (sg_X4_hasHigherFor_25_7 _ _ _ _ _ _ _).mpr ?_
      first | refine zcdB (fun h2 => ?_) (fun h2 => ?_) | refine zcd (fun h2 => ?_) (fun h2 => ?_)
      · rw [zad_s (by omega)]
        exact ih (i + 1) (by omega) (by first | (rw [zfs_f (fun w => absurd w.1 (by assumption))] at hQ; exact hQ) | (rw [zfs_f (fun w => absurd w.2 (by assumption))] at hQ; exact hQ))
      · refine zgd (by first | omega | simp) ?_
        refine c_isHigher ?_
        refine (sg_X4_hasHigherFor_42_7 _ _ _ _ _ _ _).mpr ?_
        first | refine zcdB (fun h3 => ?_) (fun h3 => ?_) | refine zcd (fun h3 => ?_) (fun h3 => ?_)
        · rw [zad_s (by omega)]
          exact ih (i + 1) (by omega) (by first | (rw [zfs_f (fun w => absurd w.1 (by assumption))] at hQ; exact hQ) | (rw [zfs_f (fun w => absurd w.2 (by assumption))] at hQ; exact hQ))
        · refine zgb (by first | omega | simp) ?_
          first | (exfalso; omega) | exact zq hQ (zB_f (by simp [zfs])) rfl | (rw [zfs_t ⟨by assumption, by assumption⟩] at hQ; exact zq hQ (zB_t (by omega)) rfl)
    · refine zgb (by first | omega | simp) ?_
      first | (exfalso; omega) | exact zq hQ (zB_f (by simp [zfs])) rfl | (rw [zfs_t ⟨by assumption, by assumption⟩] at hQ; exact zq hQ (zB_t (by omega)) rfl)
theorem c_hasHigherFor_7 {S : PS} {I : Nat → Nat → Int} {Q : PV1 → Prop} {key : Int} {r : Int} {u3 : PV}  (hQ : Q (some (zI (zB (¬ xover I 8 key r = -1))), zH S I)) : Wp 73 (0, [zA 7, zI key, zI r, u3], [], zH S I) Q := by
  refine (sg_X4_hasHigherFor_0_7 _ _ _ _ _ _).mpr ?_
  exact l_hasHigherFor_7 6 0 rfl hQ
theorem l_firstKeyShown_7 {S : PS} {I : Nat → Nat → Int} {Q : PV1 → Prop} {r : Int} : ∀ (k i : Nat), i + k = 32 →  Q (some (zI (zfv (fun k => xfit I r (k : Int) ∧ xover I 8 (k : Int) r = -1) (fun k => (k : Int)) (-2) k i)), zH S I) → Wp 72 (2, [zA 7, zI r, zI ((i : Int))], [], zH S I) Q := by
  intro k
  induction k with
  | zero =>
    intro i hi hQ
    refine (sg_X4_firstKeyShown_2_7 _ _ _ _ _).mpr ?_
    try simp only [Int.toNat_natCast]
    first | refine zcdB (fun h1 => ?_) (fun h1 => ?_) | refine zcd (fun h1 => ?_) (fun h1 => ?_)
    · refine c_doesFit ?_
      refine (sg_X4_firstKeyShown_17_7 _ _ _ _ _ _).mpr ?_
      first | refine zcdB (fun h2 => ?_) (fun h2 => ?_) | refine zcd (fun h2 => ?_) (fun h2 => ?_)
      · exfalso; omega
      · refine c_hasHigherFor_7 ?_
        refine (sg_X4_firstKeyShown_26_7 _ _ _ _ _ _).mpr ?_
        first | refine zcdB (fun h3 => ?_) (fun h3 => ?_) | refine zcd (fun h3 => ?_) (fun h3 => ?_)
        · first | (exfalso; omega) | exact hQ | (rw [zfv_t ⟨by assumption, by omega⟩] at hQ; exact hQ)
        · exfalso; omega
    · first | (exfalso; omega) | exact hQ | (rw [zfv_t ⟨by assumption, by omega⟩] at hQ; exact hQ)
  | succ k ih =>
    intro i hi hQ
    refine (sg_X4_firstKeyShown_2_7 _ _ _ _ _).mpr ?_
    try simp only [Int.toNat_natCast]
    first | refine zcdB (fun h1 => ?_) (fun h1 => ?_) | refine zcd (fun h1 => ?_) (fun h1 => ?_)
    · refine c_doesFit ?_
      refine (sg_X4_firstKeyShown_17_7 _ _ _ _ _ _).mpr ?_
      first | refine zcdB (fun h2 => ?_) (fun h2 => ?_) | refine zcd (fun h2 => ?_) (fun h2 => ?_)
      · rw [zad_s (by omega)]
        exact ih (i + 1) (by omega) (by first | (rw [zfv_f (fun w => absurd w.1 (by assumption))] at hQ; exact hQ) | (rw [zfv_f (fun w => absurd w.2 (by assumption))] at hQ; exact hQ))
      · refine c_hasHigherFor_7 ?_
        refine (sg_X4_firstKeyShown_26_7 _ _ _ _ _ _).mpr ?_
        first | refine zcdB (fun h3 => ?_) (fun h3 => ?_) | refine zcd (fun h3 => ?_) (fun h3 => ?_)
        · first | (exfalso; omega) | exact hQ | (rw [zfv_t ⟨by assumption, by omega⟩] at hQ; exact hQ)
        · rw [zad_s (by omega)]
          exact ih (i + 1) (by omega) (by first | (rw [zfv_f (fun w => absurd w.1 (by assumption))] at hQ; exact hQ) | (rw [zfv_f (fun w => absurd w.2 (by assumption))] at hQ; exact hQ))
    · first | (exfalso; omega) | exact hQ | (rw [zfv_t ⟨by assumption, by omega⟩] at hQ; exact hQ)
theorem c_firstKeyShown_7 {S : PS} {I : Nat → Nat → Int} {Q : PV1 → Prop} {r : Int} {u2 : PV}  (hQ : Q (some (zI (xshown I 8 r)), zH S I)) : Wp 72 (0, [zA 7, zI r, u2], [], zH S I) Q := by
  refine (sg_X4_firstKeyShown_0_7 _ _ _ _ _).mpr ?_
  exact l_firstKeyShown_7 32 0 rfl hQ
theorem c_size_9 {S : PS} {I : Nat → Nat → Int} {Q : PV1 → Prop}   (hQ : Q (some (zI (I 9 2)), zH S I)) : Wp 57 (0, [zA 9], [], zH S I) Q := by
  refine (sg_X4_size_0_9 _ _  _).mpr ?_
  first | exact hQ | exact zq hQ (zB_t (by omega)) rfl | exact zq hQ (zB_f (by omega)) rfl | exact zq hQ (if_pos (by omega)) rfl | exact zq hQ (if_neg (by omega)) rfl | exact zqn hQ rfl
theorem c_isPlace_9 {S : PS} {I : Nat → Nat → Int} {Q : PV1 → Prop} {p : Int}  (hQ : Q (some (zI (zB (xisp (I 9 2) p))), zH S I)) : Wp 58 (0, [zA 9, zI p], [], zH S I) Q := by
  refine (sg_X4_isPlace_0_9 _ _ _ _).mpr ?_
  first | refine zcdB (fun h1 => ?_) (fun h1 => ?_) | refine zcd (fun h1 => ?_) (fun h1 => ?_)
  · refine zgb (by first | omega | simp) ?_
    first | exact hQ | exact zq hQ (zB_t (by omega)) rfl | exact zq hQ (zB_f (by omega)) rfl | exact zq hQ (if_pos (by omega)) rfl | exact zq hQ (if_neg (by omega)) rfl | exact zqn hQ rfl
  · first | refine zcdB (fun h2 => ?_) (fun h2 => ?_) | refine zcd (fun h2 => ?_) (fun h2 => ?_)
    · first | refine zcdB (fun h3 => ?_) (fun h3 => ?_) | refine zcd (fun h3 => ?_) (fun h3 => ?_)
      · refine zgb (by first | omega | simp) ?_
        first | exact hQ | exact zq hQ (zB_t (by omega)) rfl | exact zq hQ (zB_f (by omega)) rfl | exact zq hQ (if_pos (by omega)) rfl | exact zq hQ (if_neg (by omega)) rfl | exact zqn hQ rfl
      · refine zgb (by first | omega | simp) ?_
        first | exact hQ | exact zq hQ (zB_t (by omega)) rfl | exact zq hQ (zB_f (by omega)) rfl | exact zq hQ (if_pos (by omega)) rfl | exact zq hQ (if_neg (by omega)) rfl | exact zqn hQ rfl
    · refine zgb (by first | omega | simp) ?_
      first | exact hQ | exact zq hQ (zB_t (by omega)) rfl | exact zq hQ (zB_f (by omega)) rfl | exact zq hQ (if_pos (by omega)) rfl | exact zq hQ (if_neg (by omega)) rfl | exact zqn hQ rfl
theorem c_ruleAt_9 {S : PS} {I : Nat → Nat → Int} {Q : PV1 → Prop} {p : Int}  (hQ : Q (some (zI (if xisp (I 9 2) p then I 10 p.toNat else (-1))), zH S I)) : Wp 59 (0, [zA 9, zI p], [], zH S I) Q := by
  refine (sg_X4_ruleAt_0_9 _ _ _ _).mpr ?_
  refine c_isPlace_9 ?_
  refine (sg_X4_ruleAt_5_9 _ _ _ _ _).mpr ?_
  first | refine zcdB (fun h1 => ?_) (fun h1 => ?_) | refine zcd (fun h1 => ?_) (fun h1 => ?_)
  · first | exact hQ | exact zq hQ (zB_t (by omega)) rfl | exact zq hQ (zB_f (by omega)) rfl | exact zq hQ (if_pos (by omega)) rfl | exact zq hQ (if_neg (by omega)) rfl | exact zqn hQ rfl
  · refine zgd (by first | omega | simp) ?_
    first | exact hQ | exact zq hQ (zB_t (by omega)) rfl | exact zq hQ (zB_f (by omega)) rfl | exact zq hQ (if_pos (by omega)) rfl | exact zq hQ (if_neg (by omega)) rfl | exact zqn hQ rfl
theorem l_placeOf_9 {S : PS} {I : Nat → Nat → Int} {Q : PV1 → Prop} {r : Int} : ∀ (k i : Nat), i + k = 6 →  Q (some (zI (zfs (fun p => r ≠ -1 ∧ I 10 p = r) k i)), zH S I) → Wp 60 (2, [zA 9, zI r, zI ((i : Int))], [], zH S I) Q := by
  intro k
  induction k with
  | zero =>
    intro i hi hQ
    refine (sg_X4_placeOf_2_9 _ _ _ _ _).mpr ?_
    try simp only [Int.toNat_natCast]
    first | refine zcdB (fun h1 => ?_) (fun h1 => ?_) | refine zcd (fun h1 => ?_) (fun h1 => ?_)
    · first | refine zcdB (fun h2 => ?_) (fun h2 => ?_) | refine zcd (fun h2 => ?_) (fun h2 => ?_)
      · exfalso; omega
      · refine zgd (by first | omega | simp) ?_
        first | refine zcdB (fun h3 => ?_) (fun h3 => ?_) | refine zcd (fun h3 => ?_) (fun h3 => ?_)
        · first | (exfalso; omega) | exact hQ | (rw [zfs_t (by omega)] at hQ; exact hQ)
        · exfalso; omega
    · first | (exfalso; omega) | exact hQ | (rw [zfs_t (by omega)] at hQ; exact hQ)
  | succ k ih =>
    intro i hi hQ
    refine (sg_X4_placeOf_2_9 _ _ _ _ _).mpr ?_
    try simp only [Int.toNat_natCast]
    first | refine zcdB (fun h1 => ?_) (fun h1 => ?_) | refine zcd (fun h1 => ?_) (fun h1 => ?_)
    · first | refine zcdB (fun h2 => ?_) (fun h2 => ?_) | refine zcd (fun h2 => ?_) (fun h2 => ?_)
      · rw [zad_s (by omega)]
        exact ih (i + 1) (by omega) (by rw [zfs_f (by omega)] at hQ; exact hQ)
      · refine zgd (by first | omega | simp) ?_
        first | refine zcdB (fun h3 => ?_) (fun h3 => ?_) | refine zcd (fun h3 => ?_) (fun h3 => ?_)
        · first | (exfalso; omega) | exact hQ | (rw [zfs_t (by omega)] at hQ; exact hQ)
        · rw [zad_s (by omega)]
          exact ih (i + 1) (by omega) (by rw [zfs_f (by omega)] at hQ; exact hQ)
    · first | (exfalso; omega) | exact hQ | (rw [zfs_t (by omega)] at hQ; exact hQ)
theorem c_placeOf_9 {S : PS} {I : Nat → Nat → Int} {Q : PV1 → Prop} {r : Int} {u2 : PV}  (hQ : Q (some (zI (xplc (I 10) r)), zH S I)) : Wp 60 (0, [zA 9, zI r, u2], [], zH S I) Q := by
  refine (sg_X4_placeOf_0_9 _ _ _ _ _).mpr ?_
  exact l_placeOf_9 6 0 rfl hQ
theorem c_hasRule_9 {S : PS} {I : Nat → Nat → Int} {Q : PV1 → Prop} {r : Int}  (hQ : Q (some (zI (zB (¬ xplc (I 10) r = -1))), zH S I)) : Wp 61 (0, [zA 9, zI r], [], zH S I) Q := by
  refine (sg_X4_hasRule_0_9 _ _ _ _).mpr ?_
  refine c_placeOf_9 ?_
  refine (sg_X4_hasRule_5 _ _ _ _ _ _).mpr ?_
  first | refine zcdB (fun h1 => ?_) (fun h1 => ?_) | refine zcd (fun h1 => ?_) (fun h1 => ?_)
  · refine zgb (by first | omega | simp) ?_
    first | exact hQ | exact zq hQ (zB_t (by omega)) rfl | exact zq hQ (zB_f (by omega)) rfl | exact zq hQ (if_pos (by omega)) rfl | exact zq hQ (if_neg (by omega)) rfl | exact zqn hQ rfl
  · refine zgb (by first | omega | simp) ?_
    first | exact hQ | exact zq hQ (zB_t (by omega)) rfl | exact zq hQ (zB_f (by omega)) rfl | exact zq hQ (if_pos (by omega)) rfl | exact zq hQ (if_neg (by omega)) rfl | exact zqn hQ rfl
theorem l_standing_9 {S : PS} {I : Nat → Nat → Int} {Q : PV1 → Prop}  : ∀ (k i : Nat), i + k = 6 →  Q (some (zI (((xst (I 10) : Nat) : Int))), zH S I) → Wp 62 (4, [zA 9, zI (((zcnt (fun p => I 10 p ≠ -1) i : Nat) : Int)), zI ((i : Int))], [], zH S I) Q := by
  intro k
  induction k with
  | zero =>
    intro i hi hQ
    refine (sg_X4_standing_4_9 _ _ _ _ _).mpr ?_
    try simp only [Int.toNat_natCast]
    first | refine zcdB (fun h1 => ?_) (fun h1 => ?_) | refine zcd (fun h1 => ?_) (fun h1 => ?_)
    · refine zgd (by first | omega | simp) ?_
      first | refine zcdB (fun h2 => ?_) (fun h2 => ?_) | refine zcd (fun h2 => ?_) (fun h2 => ?_)
      · exfalso; omega
      · exfalso; omega
    · first | (exfalso; omega) | (obtain rfl : i = 6 := (by omega); exact hQ)
  | succ k ih =>
    intro i hi hQ
    refine (sg_X4_standing_4_9 _ _ _ _ _).mpr ?_
    try simp only [Int.toNat_natCast]
    first | refine zcdB (fun h1 => ?_) (fun h1 => ?_) | refine zcd (fun h1 => ?_) (fun h1 => ?_)
    · refine zgd (by first | omega | simp) ?_
      first | refine zcdB (fun h2 => ?_) (fun h2 => ?_) | refine zcd (fun h2 => ?_) (fun h2 => ?_)
      · rw [zad_s (i := i) (by omega)]
        exact zeq (ih (i + 1) (by omega) hQ) (by first | rw [zcnt_t (by omega) (by omega)] | rw [zcnt_f (by omega)])
      · rw [zad_s (i := i) (by omega)]
        exact zeq (ih (i + 1) (by omega) hQ) (by first | rw [zcnt_t (by omega) (by omega)] | rw [zcnt_f (by omega)])
    · first | (exfalso; omega) | (obtain rfl : i = 6 := (by omega); exact hQ)
theorem c_standing_9 {S : PS} {I : Nat → Nat → Int} {Q : PV1 → Prop} {u1 : PV} {u2 : PV}  (hQ : Q (some (zI (((xst (I 10) : Nat) : Int))), zH S I)) : Wp 62 (0, [zA 9, u1, u2], [], zH S I) Q := by
  refine (sg_X4_standing_0_9 _ _ _ _ _).mpr ?_
  exact l_standing_9 6 0 rfl hQ
theorem c_isFull_9 {S : PS} {I : Nat → Nat → Int} {Q : PV1 → Prop}   (hQ : Q (some (zI (zB (I 9 2 ≤ ((xst (I 10) : Nat) : Int)))), zH S I)) : Wp 63 (0, [zA 9], [], zH S I) Q := by
  refine (sg_X4_isFull_0_9 _ _  _).mpr ?_
  refine c_standing_9 ?_
  refine (sg_X4_isFull_4_9 _ _ _ _).mpr ?_
  first | refine zcdB (fun h1 => ?_) (fun h1 => ?_) | refine zcd (fun h1 => ?_) (fun h1 => ?_)
  · refine zgb (by first | omega | simp) ?_
    first | exact hQ | exact zq hQ (zB_t (by omega)) rfl | exact zq hQ (zB_f (by omega)) rfl | exact zq hQ (if_pos (by omega)) rfl | exact zq hQ (if_neg (by omega)) rfl | exact zqn hQ rfl
  · refine zgb (by first | omega | simp) ?_
    first | exact hQ | exact zq hQ (zB_t (by omega)) rfl | exact zq hQ (zB_f (by omega)) rfl | exact zq hQ (if_pos (by omega)) rfl | exact zq hQ (if_neg (by omega)) rfl | exact zqn hQ rfl
theorem c_makeFree_9 {S : PS} {I : Nat → Nat → Int} {Q : PV1 → Prop} {p : Int}  (hQ : Q (none, zH S (xfree I 9 10 p))) : Wp 64 (0, [zA 9, zI p], [], zH S I) Q := by
  refine (sg_X4_makeFree_0_9 _ _ _ _).mpr ?_
  refine c_isPlace_9 ?_
  refine (sg_X4_makeFree_5_9 _ _ _ _ _).mpr ?_
  first | refine zcdB (fun h1 => ?_) (fun h1 => ?_) | refine zcd (fun h1 => ?_) (fun h1 => ?_)
  · first | exact hQ | (simp only [xfree] at hQ; rw [if_pos (by omega)] at hQ; exact hQ) | (simp only [xfree] at hQ; rw [if_neg (by omega)] at hQ; exact hQ) | (simp only [xlay] at hQ; rw [if_pos (by omega)] at hQ; exact hQ) | (simp only [xlay] at hQ; rw [if_neg (by omega)] at hQ; exact hQ)
  · refine zgd (by first | omega | simp) ?_
    first | exact hQ | (simp only [xfree] at hQ; rw [if_pos (by omega)] at hQ; exact hQ) | (simp only [xfree] at hQ; rw [if_neg (by omega)] at hQ; exact hQ) | (simp only [xlay] at hQ; rw [if_pos (by omega)] at hQ; exact hQ) | (simp only [xlay] at hQ; rw [if_neg (by omega)] at hQ; exact hQ)
theorem c_lay_9 {S : PS} {I : Nat → Nat → Int} {Q : PV1 → Prop} {r : Int} {p : Int}  (hQ : Q (none, zH S (xlay I 9 10 r p))) : Wp 65 (0, [zA 9, zI r, zI p], [], zH S I) Q := by
  refine (sg_X4_lay_0_9 _ _ _ _ _).mpr ?_
  refine c_isPlace_9 ?_
  refine (sg_X4_lay_5_9 _ _ _ _ _ _).mpr ?_
  first | refine zcdB (fun h1 => ?_) (fun h1 => ?_) | refine zcd (fun h1 => ?_) (fun h1 => ?_)
  · first | exact hQ | (simp only [xfree] at hQ; rw [if_pos (by omega)] at hQ; exact hQ) | (simp only [xfree] at hQ; rw [if_neg (by omega)] at hQ; exact hQ) | (simp only [xlay] at hQ; rw [if_pos (by omega)] at hQ; exact hQ) | (simp only [xlay] at hQ; rw [if_neg (by omega)] at hQ; exact hQ)
  · refine c_placeOf_9 ?_
    refine (sg_X4_lay_14_9_9 _ _ _ _ _ _).mpr ?_
    refine c_makeFree_9 ?_
    refine (sg_X4_lay_17_9 _ _ _ _ _).mpr ?_
    refine zgd (by first | omega | simp) ?_
    first | exact hQ | (simp only [xfree] at hQ; rw [if_pos (by omega)] at hQ; exact hQ) | (simp only [xfree] at hQ; rw [if_neg (by omega)] at hQ; exact hQ) | (simp only [xlay] at hQ; rw [if_pos (by omega)] at hQ; exact hQ) | (simp only [xlay] at hQ; rw [if_neg (by omega)] at hQ; exact hQ)
theorem l_actFor_9 {S : PS} {I : Nat → Nat → Int} {Q : PV1 → Prop} {key : Int} : ∀ (k i : Nat), i + k = 6 →  Q (some (zI (zfv (fun p => xfit I (I 10 p) key) (fun p => xact I (I 10 p)) (-1) k i)), zH S I) → Wp 67 (2, [zA 9, zI key, zI ((i : Int))], [], zH S I) Q := by
  intro k
  induction k with
  | zero =>
    intro i hi hQ
    refine (sg_X4_actFor_2_9 _ _ _ _ _).mpr ?_
    try simp only [Int.toNat_natCast]
    first | refine zcdB (fun h1 => ?_) (fun h1 => ?_) | refine zcd (fun h1 => ?_) (fun h1 => ?_)
    · refine zgd (by first | omega | simp) ?_
      refine c_doesFit ?_
      refine (sg_X4_actFor_25_9 _ _ _ _ _ _).mpr ?_
      first | refine zcdB (fun h2 => ?_) (fun h2 => ?_) | refine zcd (fun h2 => ?_) (fun h2 => ?_)
      · exfalso; omega
      · refine zgd (by first | omega | simp) ?_
        refine c_actOf ?_
        refine (sg_X4_actFor_41 _ _ _ _ _ _ _).mpr ?_
        first | (exfalso; omega) | exact hQ | (rw [zfv_t (by assumption)] at hQ; exact hQ)
    · first | (exfalso; omega) | exact hQ | (rw [zfv_t (by assumption)] at hQ; exact hQ)
  | succ k ih =>
    intro i hi hQ
    refine (sg_X4_actFor_2_9 _ _ _ _ _).mpr ?_
    try simp only [Int.toNat_natCast]
    first | refine zcdB (fun h1 => ?_) (fun h1 => ?_) | refine zcd (fun h1 => ?_) (fun h1 => ?_)
    · refine zgd (by first | omega | simp) ?_
      refine c_doesFit ?_
      refine (sg_X4_actFor_25_9 _ _ _ _ _ _).mpr ?_
      first | refine zcdB (fun h2 => ?_) (fun h2 => ?_) | refine zcd (fun h2 => ?_) (fun h2 => ?_)
      · rw [zad_s (by omega)]
        exact ih (i + 1) (by omega) (by rw [zfv_f (by assumption)] at hQ; exact hQ)
      · refine zgd (by first | omega | simp) ?_
        refine c_actOf ?_
        refine (sg_X4_actFor_41 _ _ _ _ _ _ _).mpr ?_
        first | (exfalso; omega) | exact hQ | (rw [zfv_t (by assumption)] at hQ; exact hQ)
    · first | (exfalso; omega) | exact hQ | (rw [zfv_t (by assumption)] at hQ; exact hQ)
theorem c_actFor_9 {S : PS} {I : Nat → Nat → Int} {Q : PV1 → Prop} {key : Int} {u2 : PV}  (hQ : Q (some (zI (xjud I 10 key)), zH S I)) : Wp 67 (0, [zA 9, zI key, u2], [], zH S I) Q := by
  refine (sg_X4_actFor_0_9 _ _ _ _ _).mpr ?_
  exact l_actFor_9 6 0 rfl hQ
theorem l_dueActFor_9 {S : PS} {I : Nat → Nat → Int} {Q : PV1 → Prop} {key : Int} : ∀ (k i : Nat) (u4 : PV), i + k = 6 →  Q (some (zI (xdue I 10 key)), zH S I) → Wp 68 (4, [zA 9, zI key, zI ((xbest I 10 key i)), zI ((i : Int)), u4], [], zH S I) Q := by
  intro k
  induction k with
  | zero =>
    intro i u4 hi hQ
    refine (sg_X4_dueActFor_4_9 _ _ _ _ _ _ _).mpr ?_
    try simp only [Int.toNat_natCast]
    first | refine zcdB (fun h1 => ?_) (fun h1 => ?_) | refine zcd (fun h1 => ?_) (fun h1 => ?_)
    · refine zgd (by first | omega | simp) ?_
      refine c_doesFit ?_
      refine (sg_X4_dueActFor_31_9 _ _ _ _ _ _ _ _).mpr ?_
      first | refine zcdB (fun h2 => ?_) (fun h2 => ?_) | refine zcd (fun h2 => ?_) (fun h2 => ?_)
      · exfalso; omega
      · first | refine zcdB (fun h3 => ?_) (fun h3 => ?_) | refine zcd (fun h3 => ?_) (fun h3 => ?_)
        · exfalso; omega
        · refine c_isHigher ?_
          refine (sg_X4_dueActFor_49_9 _ _ _ _ _ _ _ _).mpr ?_
          first | refine zcdB (fun h4 => ?_) (fun h4 => ?_) | refine zcd (fun h4 => ?_) (fun h4 => ?_)
          · exfalso; omega
          · exfalso; omega
    · refine c_actOf ?_
      refine (sg_X4_dueActFor_69 _ _ _ _ _ _ _ _ _).mpr ?_
      first | (exfalso; omega) | (obtain rfl : i = 6 := (by omega); exact hQ)
  | succ k ih =>
    intro i u4 hi hQ
    refine (sg_X4_dueActFor_4_9 _ _ _ _ _ _ _).mpr ?_
    try simp only [Int.toNat_natCast]
    first | refine zcdB (fun h1 => ?_) (fun h1 => ?_) | refine zcd (fun h1 => ?_) (fun h1 => ?_)
    · refine zgd (by first | omega | simp) ?_
      refine c_doesFit ?_
      refine (sg_X4_dueActFor_31_9 _ _ _ _ _ _ _ _).mpr ?_
      first | refine zcdB (fun h2 => ?_) (fun h2 => ?_) | refine zcd (fun h2 => ?_) (fun h2 => ?_)
      · rw [zad_s (i := i) (by omega)]
        exact zeq (ih (i + 1) _ (by omega) hQ) (by rw [xbest_s]; first | rw [if_pos ⟨by assumption, Or.inl (by assumption)⟩] | rw [if_pos ⟨by assumption, Or.inr (by assumption)⟩] | rw [if_neg (fun w => absurd w.1 (by assumption))] | rw [if_neg (fun w => w.2.elim (by assumption) (by assumption))])
      · first | refine zcdB (fun h3 => ?_) (fun h3 => ?_) | refine zcd (fun h3 => ?_) (fun h3 => ?_)
        · rw [zad_s (i := i) (by omega)]
          exact zeq (ih (i + 1) _ (by omega) hQ) (by rw [xbest_s]; first | rw [if_pos ⟨by assumption, Or.inl (by assumption)⟩] | rw [if_pos ⟨by assumption, Or.inr (by assumption)⟩] | rw [if_neg (fun w => absurd w.1 (by assumption))] | rw [if_neg (fun w => w.2.elim (by assumption) (by assumption))])
        · refine c_isHigher ?_
          refine (sg_X4_dueActFor_49_9 _ _ _ _ _ _ _ _).mpr ?_
          first | refine zcdB (fun h4 => ?_) (fun h4 => ?_) | refine zcd (fun h4 => ?_) (fun h4 => ?_)
          · rw [zad_s (i := i) (by omega)]
            exact zeq (ih (i + 1) _ (by omega) hQ) (by rw [xbest_s]; first | rw [if_pos ⟨by assumption, Or.inl (by assumption)⟩] | rw [if_pos ⟨by assumption, Or.inr (by assumption)⟩] | rw [if_neg (fun w => absurd w.1 (by assumption))] | rw [if_neg (fun w => w.2.elim (by assumption) (by assumption))])
          · rw [zad_s (i := i) (by omega)]
            exact zeq (ih (i + 1) _ (by omega) hQ) (by rw [xbest_s]; first | rw [if_pos ⟨by assumption, Or.inl (by assumption)⟩] | rw [if_pos ⟨by assumption, Or.inr (by assumption)⟩] | rw [if_neg (fun w => absurd w.1 (by assumption))] | rw [if_neg (fun w => w.2.elim (by assumption) (by assumption))])
    · refine c_actOf ?_
      refine (sg_X4_dueActFor_69 _ _ _ _ _ _ _ _ _).mpr ?_
      first | (exfalso; omega) | (obtain rfl : i = 6 := (by omega); exact hQ)
theorem c_dueActFor_9 {S : PS} {I : Nat → Nat → Int} {Q : PV1 → Prop} {key : Int} {u2 : PV} {u3 : PV} {u4 : PV}  (hQ : Q (some (zI (xdue I 10 key)), zH S I)) : Wp 68 (0, [zA 9, zI key, u2, u3, u4], [], zH S I) Q := by
  refine (sg_X4_dueActFor_0_9 _ _ _ _ _ _ _).mpr ?_
  exact l_dueActFor_9 6 0 _ rfl hQ
theorem l_hasHigherFor_9 {S : PS} {I : Nat → Nat → Int} {Q : PV1 → Prop} {key r : Int} : ∀ (k i : Nat), i + k = 6 →  Q (some (zI (zB (¬ zfs (fun p => xfit I (I 10 p) key ∧ xhi I (I 10 p) r) k i = -1))), zH S I) → Wp 73 (2, [zA 9, zI key, zI r, zI ((i : Int))], [], zH S I) Q := by
  intro k
  induction k with
  | zero =>
    intro i hi hQ
    refine (sg_X4_hasHigherFor_2_9 _ _ _ _ _ _).mpr ?_
    try simp only [Int.toNat_natCast]
    first | refine zcdB (fun h1 => ?_) (fun h1 => ?_) | refine zcd (fun h1 => ?_) (fun h1 => ?_)
    · refine zgd (by first | omega | simp) ?_
      refine c_doesFit ?_
      refine (sg_X4_hasHigherFor_25_9 _ _ _ _ _ _ _).mpr ?_
      first | refine zcdB (fun h2 => ?_) (fun h2 => ?_) | refine zcd (fun h2 => ?_) (fun h2 => ?_)
      · exfalso; omega
      · refine zgd (by first | omega | simp) ?_
        refine c_isHigher ?_
        refine (sg_X4_hasHigherFor_42_9 _ _ _ _ _ _ _).mpr ?_
        first | refine zcdB (fun h3 => ?_) (fun h3 => ?_) | refine zcd (fun h3 => ?_) (fun h3 => ?_)
        · exfalso; omega
        · refine zgb (by first | omega | simp) ?_
          first | (exfalso; omega) | exact zq hQ (zB_f (by simp [zfs])) rfl | (rw [zfs_t ⟨by assumption, by assumption⟩] at hQ; exact zq hQ (zB_t (by omega)) rfl)
    · refine zgb (by first | omega | simp) ?_
      first | (exfalso; omega) | exact zq hQ (zB_f (by simp [zfs])) rfl | (rw [zfs_t ⟨by assumption, by assumption⟩] at hQ; exact zq hQ (zB_t (by omega)) rfl)
  | succ k ih =>
    intro i hi hQ
    refine (sg_X4_hasHigherFor_2_9 _ _ _ _ _ _).mpr ?_
    try simp only [Int.toNat_natCast]
    first | refine zcdB (fun h1 => ?_) (fun h1 => ?_) | refine zcd (fun h1 => ?_) (fun h1 => ?_)
    · refine zgd (by first | omega | simp) ?_
      refine c_doesFit ?_
      refine (sg_X4_hasHigherFor_25_9 _ _ _ _ _ _ _).mpr ?_
      first | refine zcdB (fun h2 => ?_) (fun h2 => ?_) | refine zcd (fun h2 => ?_) (fun h2 => ?_)
      · rw [zad_s (by omega)]
        exact ih (i + 1) (by omega) (by first | (rw [zfs_f (fun w => absurd w.1 (by assumption))] at hQ; exact hQ) | (rw [zfs_f (fun w => absurd w.2 (by assumption))] at hQ; exact hQ))
      · refine zgd (by first | omega | simp) ?_
        refine c_isHigher ?_
        refine (sg_X4_hasHigherFor_42_9 _ _ _ _ _ _ _).mpr ?_
        first | refine zcdB (fun h3 => ?_) (fun h3 => ?_) | refine zcd (fun h3 => ?_) (fun h3 => ?_)
        · rw [zad_s (by omega)]
          exact ih (i + 1) (by omega) (by first | (rw [zfs_f (fun w => absurd w.1 (by assumption))] at hQ; exact hQ) | (rw [zfs_f (fun w => absurd w.2 (by assumption))] at hQ; exact hQ))
        · refine zgb (by first | omega | simp) ?_
          first | (exfalso; omega) | exact zq hQ (zB_f (by simp [zfs])) rfl | (rw [zfs_t ⟨by assumption, by assumption⟩] at hQ; exact zq hQ (zB_t (by omega)) rfl)
    · refine zgb (by first | omega | simp) ?_
      first | (exfalso; omega) | exact zq hQ (zB_f (by simp [zfs])) rfl | (rw [zfs_t ⟨by assumption, by assumption⟩] at hQ; exact zq hQ (zB_t (by omega)) rfl)
theorem c_hasHigherFor_9 {S : PS} {I : Nat → Nat → Int} {Q : PV1 → Prop} {key : Int} {r : Int} {u3 : PV}  (hQ : Q (some (zI (zB (¬ xover I 10 key r = -1))), zH S I)) : Wp 73 (0, [zA 9, zI key, zI r, u3], [], zH S I) Q := by
  refine (sg_X4_hasHigherFor_0_9 _ _ _ _ _ _).mpr ?_
  exact l_hasHigherFor_9 6 0 rfl hQ
theorem l_firstKeyShown_9 {S : PS} {I : Nat → Nat → Int} {Q : PV1 → Prop} {r : Int} : ∀ (k i : Nat), i + k = 32 →  Q (some (zI (zfv (fun k => xfit I r (k : Int) ∧ xover I 10 (k : Int) r = -1) (fun k => (k : Int)) (-2) k i)), zH S I) → Wp 72 (2, [zA 9, zI r, zI ((i : Int))], [], zH S I) Q := by
  intro k
  induction k with
  | zero =>
    intro i hi hQ
    refine (sg_X4_firstKeyShown_2_9 _ _ _ _ _).mpr ?_
    try simp only [Int.toNat_natCast]
    first | refine zcdB (fun h1 => ?_) (fun h1 => ?_) | refine zcd (fun h1 => ?_) (fun h1 => ?_)
    · refine c_doesFit ?_
      refine (sg_X4_firstKeyShown_17_9 _ _ _ _ _ _).mpr ?_
      first | refine zcdB (fun h2 => ?_) (fun h2 => ?_) | refine zcd (fun h2 => ?_) (fun h2 => ?_)
      · exfalso; omega
      · refine c_hasHigherFor_9 ?_
        refine (sg_X4_firstKeyShown_26_9 _ _ _ _ _ _).mpr ?_
        first | refine zcdB (fun h3 => ?_) (fun h3 => ?_) | refine zcd (fun h3 => ?_) (fun h3 => ?_)
        · first | (exfalso; omega) | exact hQ | (rw [zfv_t ⟨by assumption, by omega⟩] at hQ; exact hQ)
        · exfalso; omega
    · first | (exfalso; omega) | exact hQ | (rw [zfv_t ⟨by assumption, by omega⟩] at hQ; exact hQ)
  | succ k ih =>
    intro i hi hQ
    refine (sg_X4_firstKeyShown_2_9 _ _ _ _ _).mpr ?_
    try simp only [Int.toNat_natCast]
    first | refine zcdB (fun h1 => ?_) (fun h1 => ?_) | refine zcd (fun h1 => ?_) (fun h1 => ?_)
    · refine c_doesFit ?_
      refine (sg_X4_firstKeyShown_17_9 _ _ _ _ _ _).mpr ?_
      first | refine zcdB (fun h2 => ?_) (fun h2 => ?_) | refine zcd (fun h2 => ?_) (fun h2 => ?_)
      · rw [zad_s (by omega)]
        exact ih (i + 1) (by omega) (by first | (rw [zfv_f (fun w => absurd w.1 (by assumption))] at hQ; exact hQ) | (rw [zfv_f (fun w => absurd w.2 (by assumption))] at hQ; exact hQ))
      · refine c_hasHigherFor_9 ?_
        refine (sg_X4_firstKeyShown_26_9 _ _ _ _ _ _).mpr ?_
        first | refine zcdB (fun h3 => ?_) (fun h3 => ?_) | refine zcd (fun h3 => ?_) (fun h3 => ?_)
        · first | (exfalso; omega) | exact hQ | (rw [zfv_t ⟨by assumption, by omega⟩] at hQ; exact hQ)
        · rw [zad_s (by omega)]
          exact ih (i + 1) (by omega) (by first | (rw [zfv_f (fun w => absurd w.1 (by assumption))] at hQ; exact hQ) | (rw [zfv_f (fun w => absurd w.2 (by assumption))] at hQ; exact hQ))
    · first | (exfalso; omega) | exact hQ | (rw [zfv_t ⟨by assumption, by omega⟩] at hQ; exact hQ)
theorem c_firstKeyShown_9 {S : PS} {I : Nat → Nat → Int} {Q : PV1 → Prop} {r : Int} {u2 : PV}  (hQ : Q (some (zI (xshown I 10 r)), zH S I)) : Wp 72 (0, [zA 9, zI r, u2], [], zH S I) Q := by
  refine (sg_X4_firstKeyShown_0_9 _ _ _ _ _).mpr ?_
  exact l_firstKeyShown_9 32 0 rfl hQ
