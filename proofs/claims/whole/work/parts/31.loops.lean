/-! counting and finding; the JDK's methods; the rules' loops -/
theorem zmax_ok {S : PS} {I : Nat → Nat → Int} {Q : PV1 → Prop} {a b : Int} (hQ : Q (some (zI (max a b)), zH S I)) : Wp 169 (0, [zI a, zI b], [], zH S I) Q := by
  refine (sg_J9_max_7cf53_0 _ _ _ _ _).mpr ?_
  refine zcd (fun h => ?_) (fun h => ?_)
  · exact zq hQ (by omega) rfl
  · exact zq hQ (by omega) rfl
theorem zmin_ok {S : PS} {I : Nat → Nat → Int} {Q : PV1 → Prop} {a b : Int} (hQ : Q (some (zI (min a b)), zH S I)) : Wp 170 (0, [zI a, zI b], [], zH S I) Q := by
  refine (sg_J9_min_7cf53_0 _ _ _ _ _).mpr ?_
  refine zcd (fun h => ?_) (fun h => ?_)
  · exact zq hQ (by omega) rfl
  · exact zq hQ (by omega) rfl
theorem c_fill {S : PS} {I : Nat → Nat → Int} {Q : PV1 → Prop} {r n : Nat} {x : Int} {u v : PV} (hr : zSH[r]? = some (7, n)) (hn : n < 1000000) (hu : u = zU) (hv : v = zU) (hQ : Q (none, zH S (zfill I r n x))) : Wp 171 (0, [zA r, zI x, u, v], [], zH S I) Q := by
  subst hu; subst hv
  exact Wp_of (Run_fill (h := zH S I) hr (Nat.zero_le n) hn) hQ
def zcnt (P : Nat → Prop) [DecidablePred P] : Nat → Nat
  | 0 => 0
  | n + 1 => zcnt P n + (if P n then 1 else 0)
theorem zcnt_le (P : Nat → Prop) [DecidablePred P] : ∀ n, zcnt P n ≤ n
  | 0 => Nat.le_refl 0
  | n + 1 => by
    have := zcnt_le P n
    simp only [zcnt]
    split <;> omega
theorem zcnt_congr {P P' : Nat → Prop} [DecidablePred P] [DecidablePred P'] : ∀ n, (∀ i, i < n → (P i ↔ P' i)) → zcnt P n = zcnt P' n
  | 0, _ => rfl
  | n + 1, h => by
    simp only [zcnt]
    rw [zcnt_congr n (fun i hi => h i (by omega))]
    by_cases hp : P n
    · rw [if_pos hp, if_pos ((h n (by omega)).mp hp)]
    · rw [if_neg hp, if_neg (fun w => hp ((h n (by omega)).mpr w))]
/-- the first place from i on, of k, that has P; -1 -/
def zfs (P : Nat → Prop) [DecidablePred P] : Nat → Nat → Int
  | 0, _ => -1
  | k + 1, i => if P i then (i : Int) else zfs P k (i + 1)
theorem zfs_t {P : Nat → Prop} [DecidablePred P] {k i : Nat} (h : P i) : zfs P (k + 1) i = (i : Int) := if_pos h
theorem zfs_f {P : Nat → Prop} [DecidablePred P] {k i : Nat} (h : ¬ P i) : zfs P (k + 1) i = zfs P k (i + 1) := if_neg h
theorem zeq {m : Nat} {t t' : PT} {Q : PV1 → Prop} (h : Wp m t Q) (e : t' = t) : Wp m t' Q := e ▸ h
theorem zfs_congr {P P' : Nat → Prop} [DecidablePred P] [DecidablePred P'] : ∀ k i, (∀ j, i ≤ j → j < i + k → (P j ↔ P' j)) → zfs P k i = zfs P' k i
  | 0, _, _ => rfl
  | k + 1, i, h => by
    simp only [zfs]
    rw [zfs_congr k (i + 1) (fun j h1 h2 => h j (by omega) (by omega))]
    by_cases hp : P i
    · rw [if_pos hp, if_pos ((h i (by omega) (by omega)).mp hp)]
    · rw [if_neg hp, if_neg (fun w => hp ((h i (by omega) (by omega)).mpr w))]
theorem zfs_spec {P : Nat → Prop} [DecidablePred P] : ∀ k i, (zfs P k i = -1 ∧ ∀ j, i ≤ j → j < i + k → ¬ P j) ∨ ∃ j : Nat, zfs P k i = (j : Int) ∧ i ≤ j ∧ j < i + k ∧ P j ∧ ∀ q, i ≤ q → q < j → ¬ P q
  | 0, i => Or.inl ⟨rfl, fun j h1 h2 => by omega⟩
  | k + 1, i => by
    simp only [zfs]
    by_cases hp : P i
    · rw [if_pos hp]
      exact Or.inr ⟨i, rfl, Nat.le_refl i, by omega, hp, fun q h1 h2 => by omega⟩
    · rw [if_neg hp]
      rcases zfs_spec (P := P) k (i + 1) with ⟨h1, h2⟩ | ⟨j, h1, h2, h3, h4, h5⟩
      · refine Or.inl ⟨h1, fun j g1 g2 => ?_⟩
        by_cases e : j = i
        · subst e; exact hp
        · exact h2 j (by omega) (by omega)
      · refine Or.inr ⟨j, h1, by omega, by omega, h4, fun q g1 g2 => ?_⟩
        by_cases e : q = i
        · subst e; exact hp
        · exact h5 q (by omega) g2

theorem l_leastUnused {S : PS} {I : Nat → Nat → Int} {Q : PV1 → Prop}  : ∀ (k i : Nat), i + k = 16 →  Q (some (zI (zfs (fun r => I 2 r = -1) k i)), zH S I) → Wp 25 (2, [zA 1, zI ((i : Int))], [], zH S I) Q := by
  intro k
  induction k with
  | zero =>
    intro i hi hQ
    refine (sg_X2_leastUnused_2_1 _ _ _ _).mpr ?_
    try simp only [Int.toNat_natCast]
    first | refine zcdB (fun h1 => ?_) (fun h1 => ?_) | refine zcd (fun h1 => ?_) (fun h1 => ?_)
    · refine zgd (by first | omega | simp) ?_
      first | refine zcdB (fun h2 => ?_) (fun h2 => ?_) | refine zcd (fun h2 => ?_) (fun h2 => ?_)
      · first | (exfalso; omega) | exact hQ | (rw [zfs_t (by assumption)] at hQ; exact hQ)
      · exfalso; omega
    · first | (exfalso; omega) | exact hQ | (rw [zfs_t (by assumption)] at hQ; exact hQ)
  | succ k ih =>
    intro i hi hQ
    refine (sg_X2_leastUnused_2_1 _ _ _ _).mpr ?_
    try simp only [Int.toNat_natCast]
    first | refine zcdB (fun h1 => ?_) (fun h1 => ?_) | refine zcd (fun h1 => ?_) (fun h1 => ?_)
    · refine zgd (by first | omega | simp) ?_
      first | refine zcdB (fun h2 => ?_) (fun h2 => ?_) | refine zcd (fun h2 => ?_) (fun h2 => ?_)
      · first | (exfalso; omega) | exact hQ | (rw [zfs_t (by assumption)] at hQ; exact hQ)
      · rw [zad_s (by omega)]
        exact ih (i + 1) (by omega) (by rw [zfs_f (by assumption)] at hQ; exact hQ)
    · first | (exfalso; omega) | exact hQ | (rw [zfs_t (by assumption)] at hQ; exact hQ)
theorem c_leastUnused {S : PS} {I : Nat → Nat → Int} {Q : PV1 → Prop} {u1 : PV}  (hQ : Q (some (zI (zfs (fun r => I 2 r = -1) 16 0)), zH S I)) : Wp 25 (0, [zA 1, u1], [], zH S I) Q := by
  refine (sg_X2_leastUnused_0_1 _ _ _ _).mpr ?_
  exact l_leastUnused 16 0 rfl hQ
theorem zcnt_t {P : Nat → Prop} [DecidablePred P] {i : Nat} (h : P i) (hb : i < 2147483647) : ((zcnt P (i + 1) : Nat) : Int) = zad ((zcnt P i : Nat) : Int) 1 := by
  have := zcnt_le P i
  rw [zad_s (by omega)]
  simp only [zcnt, if_pos h]
theorem zcnt_f {P : Nat → Prop} [DecidablePred P] {i : Nat} (h : ¬ P i) : ((zcnt P (i + 1) : Nat) : Int) = ((zcnt P i : Nat) : Int) := by
  simp only [zcnt, if_neg h, Nat.add_zero]
/-- what stands at the first place that has P -/
def zfv (P : Nat → Prop) [DecidablePred P] (f : Nat → Int) (d : Int) : Nat → Nat → Int
  | 0, _ => d
  | k + 1, i => if P i then f i else zfv P f d k (i + 1)
theorem zfv_congr {P P' : Nat → Prop} [DecidablePred P] [DecidablePred P'] {f f' : Nat → Int} {d : Int} : ∀ k i, (∀ j, i ≤ j → j < i + k → (P j ↔ P' j)) → (∀ j, i ≤ j → j < i + k → P j → f j = f' j) → zfv P f d k i = zfv P' f' d k i
  | 0, _, _, _ => rfl
  | k + 1, i, h, g => by
    simp only [zfv]
    rw [zfv_congr k (i + 1) (fun j h1 h2 => h j (by omega) (by omega)) (fun j h1 h2 => g j (by omega) (by omega))]
    by_cases hp : P i
    · rw [if_pos hp, if_pos ((h i (by omega) (by omega)).mp hp), g i (by omega) (by omega) hp]
    · rw [if_neg hp, if_neg (fun w => hp ((h i (by omega) (by omega)).mpr w))]
theorem zfv_t {P : Nat → Prop} [DecidablePred P] {f : Nat → Int} {d : Int} {k i : Nat} (h : P i) : zfv P f d (k + 1) i = f i := if_pos h
theorem zfv_f {P : Nat → Prop} [DecidablePred P] {f : Nat → Int} {d : Int} {k i : Nat} (h : ¬ P i) : zfv P f d (k + 1) i = zfv P f d k (i + 1) := if_neg h
def zfold (F : Nat → Int → Int) (a : Int) : Nat → Int
  | 0 => a
  | i + 1 => F i (zfold F a i)

theorem l_unused {S : PS} {I : Nat → Nat → Int} {Q : PV1 → Prop}  : ∀ (k i : Nat), i + k = 16 →  Q (some (zI (((zcnt (fun r => I 2 r = -1) 16 : Nat) : Int))), zH S I) → Wp 24 (4, [zA 1, zI (((zcnt (fun r => I 2 r = -1) i : Nat) : Int)), zI ((i : Int))], [], zH S I) Q := by
  intro k
  induction k with
  | zero =>
    intro i hi hQ
    refine (sg_X2_unused_4_1 _ _ _ _ _).mpr ?_
    try simp only [Int.toNat_natCast]
    first | refine zcdB (fun h1 => ?_) (fun h1 => ?_) | refine zcd (fun h1 => ?_) (fun h1 => ?_)
    · refine zgd (by first | omega | simp) ?_
      first | refine zcdB (fun h2 => ?_) (fun h2 => ?_) | refine zcd (fun h2 => ?_) (fun h2 => ?_)
      · exfalso; omega
      · exfalso; omega
    · first | (exfalso; omega) | (obtain rfl : i = 16 := (by omega); exact hQ)
  | succ k ih =>
    intro i hi hQ
    refine (sg_X2_unused_4_1 _ _ _ _ _).mpr ?_
    try simp only [Int.toNat_natCast]
    first | refine zcdB (fun h1 => ?_) (fun h1 => ?_) | refine zcd (fun h1 => ?_) (fun h1 => ?_)
    · refine zgd (by first | omega | simp) ?_
      first | refine zcdB (fun h2 => ?_) (fun h2 => ?_) | refine zcd (fun h2 => ?_) (fun h2 => ?_)
      · rw [zad_s (i := i) (by omega)]
        exact zeq (ih (i + 1) (by omega) hQ) (by first | rw [zcnt_t (by omega) (by omega)] | rw [zcnt_f (by omega)])
      · rw [zad_s (i := i) (by omega)]
        exact zeq (ih (i + 1) (by omega) hQ) (by first | rw [zcnt_t (by omega) (by omega)] | rw [zcnt_f (by omega)])
    · first | (exfalso; omega) | (obtain rfl : i = 16 := (by omega); exact hQ)
theorem c_unused {S : PS} {I : Nat → Nat → Int} {Q : PV1 → Prop} {u1 : PV} {u2 : PV}  (hQ : Q (some (zI (((zcnt (fun r => I 2 r = -1) 16 : Nat) : Int))), zH S I)) : Wp 24 (0, [zA 1, u1, u2], [], zH S I) Q := by
  refine (sg_X2_unused_0_1 _ _ _ _ _).mpr ?_
  exact l_unused 16 0 rfl hQ
