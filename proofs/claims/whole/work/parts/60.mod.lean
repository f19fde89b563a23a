/-! the reference: its small methods -/
theorem m_in {S : PS} {I : Nat → Nat → Int} {Q : PV1 → Prop} {v lo hi : Int} (hQ : Q (some (zI (zB (lo ≤ v ∧ v ≤ hi))), zH S I)) : Wp 115 (0, [zI v, zI lo, zI hi], [], zH S I) Q := by
  refine (sg_X6_in_0 _ _ _ _ _ _).mpr ?_
  refine zcd (fun h => zgb (by omega) (zq hQ (zB_f (by omega)) rfl)) (fun h => zcd (fun h2 => zgb (by omega) (zq hQ (zB_f (by omega)) rfl)) (fun h2 => zgb (by omega) (zq hQ (zB_t (by omega)) rfl)))
theorem m_isTable {S : PS} {I : Nat → Nat → Int} {Q : PV1 → Prop} {t : Int} (hQ : Q (some (zI (zB (0 ≤ t ∧ t ≤ 1))), zH S I)) : Wp 119 (0, [zI t], [], zH S I) Q := by
  refine (sg_X6_isTable_0 _ _ _ _).mpr ?_
  refine m_in ?_
  refine (sg_X6_isTable_6 _ _ _ _ _).mpr ?_
  exact zgb zB01 hQ
abbrev muse (I : Nat → Nat → Int) (r : Int) : Prop := 0 ≤ r ∧ r < 16 ∧ I 33 r.toNat ≠ 0
theorem m_isRule {S : PS} {I : Nat → Nat → Int} {Q : PV1 → Prop} {r : Int} (hQ : Q (some (zI (zB (muse I r))), zH S I)) : Wp 118 (0, [zA 32, zI r], [], zH S I) Q := by
  refine (sg_X6_isRule_0_32 _ _ _ _).mpr ?_
  refine m_in ?_
  refine (sg_X6_isRule_7_32 _ _ _ _ _).mpr ?_
  refine zcdB (fun h => zgb (by omega) (zq hQ (zB_f (by omega)) rfl)) (fun h => zgd (by omega) ?_)
  exact zcd (fun h2 => zgb (by omega) (zq hQ (zB_f (fun w => w.2.2 h2)) rfl)) (fun h2 => zgb (by omega) (zq hQ (zB_t ⟨by omega, by omega, h2⟩) rfl))
abbrev mfit (I : Nat → Nat → Int) (r k : Int) : Prop := zan k (I 36 r.toNat) = I 35 r.toNat
abbrev mov (I : Nat → Nat → Int) (a b : Int) : Prop := zan (zan (zxr (I 35 a.toNat) (I 35 b.toNat)) (I 36 a.toNat)) (I 36 b.toNat) = 0
abbrev mhi (I : Nat → Nat → Int) (a b : Int) : Prop := I 37 b.toNat < I 37 a.toNat ∨ (I 37 a.toNat = I 37 b.toNat ∧ a < b)
theorem m_fits {S : PS} {I : Nat → Nat → Int} {Q : PV1 → Prop} {r k : Int} (hr : num r) (hQ : Q (some (zI (zB (mfit I r k))), zH S I)) : Wp 120 (0, [zA 32, zI r, zI k], [], zH S I) Q := by
  refine (sg_X6_fits_0_32 _ _ _ _ _).mpr ?_
  refine zgd (by omega) (zgd (by omega) ?_)
  exact zcd (fun h => zgb (by omega) (zq hQ (zB_t h) rfl)) (fun h => zgb (by omega) (zq hQ (zB_f h) rfl))
theorem m_doOverlap {S : PS} {I : Nat → Nat → Int} {Q : PV1 → Prop} {a b : Int} (ha : num a) (hb : num b) (hQ : Q (some (zI (zB (mov I a b))), zH S I)) : Wp 121 (0, [zA 32, zI a, zI b], [], zH S I) Q := by
  refine (sg_X6_doOverlap_0_32 _ _ _ _ _).mpr ?_
  refine zgd (by omega) (zgd (by omega) (zgd (by omega) (zgd (by omega) ?_)))
  exact zcd (fun h => zgb (by omega) (zq hQ (zB_t h) rfl)) (fun h => zgb (by omega) (zq hQ (zB_f h) rfl))
theorem m_isHigher {S : PS} {I : Nat → Nat → Int} {Q : PV1 → Prop} {a b : Int} (ha : num a) (hb : num b) (hQ : Q (some (zI (zB (mhi I a b))), zH S I)) : Wp 122 (0, [zA 32, zI a, zI b], [], zH S I) Q := by
  refine (sg_X6_isHigher_0_32 _ _ _ _ _).mpr ?_
  refine zgd (by omega) (zgd (by omega) ?_)
  refine zcd (fun h => zgb (by omega) (zq hQ (zB_t (Or.inl h)) rfl)) (fun h => zgd (by omega) (zgd (by omega) ?_))
  refine zcd (fun h2 => zcd (fun h3 => zgb (by omega) (zq hQ (zB_t (Or.inr ⟨h2, h3⟩)) rfl)) (fun h3 => zgb (by omega) (zq hQ (zB_f (fun w => w.elim h (fun w => h3 w.2))) rfl))) (fun h2 => zgb (by omega) (zq hQ (zB_f (fun w => w.elim h (fun w => h2 w.1))) rfl))
theorem zix {t p : Nat} (ht : t < 2) (hp : p ≤ 6) : zad (zml 6 (t : Int)) (p : Int) = ((6 * t + p : Nat) : Int) := by
  rw [zml_eq (by omega), zad_eq (by omega)]; omega
theorem m_freeRules {S : PS} {I : Nat → Nat → Int} {Q : PV1 → Prop} {w1 w2 : PV} (hQ : Q (some (zI ((zcnt (fun r => I 33 r = 0) 16 : Nat) : Int)), zH S I)) : Wp 126 (0, [zA 32, w1, w2], [], zH S I) Q := by
  refine (sg_X6_freeRules_0_32 _ _ _ _ _).mpr ?_
  have loop : ∀ (j i : Nat), i + j = 16 → Wp 126 (4, [zA 32, zI ((zcnt (fun r => I 33 r = 0) i : Nat) : Int), zI (i : Int)], [], zH S I) Q := by
    intro j
    induction j with
    | zero =>
      intro i hi
      obtain rfl : i = 16 := by omega
      refine (sg_X6_freeRules_4_32 _ _ _ _ _).mpr ?_
      exact zcd (fun h => absurd h (by omega)) (fun _ => hQ)
    | succ j ih =>
      intro i hi
      have hle := zcnt_le (fun r => I 33 r = 0) i
      have nx := ih (i + 1) (by omega)
      refine (sg_X6_freeRules_4_32 _ _ _ _ _).mpr ?_
      refine zcd (fun _ => zgd (by omega) ?_) (fun h => absurd (by omega) h)
      rw [Int.toNat_natCast, zad_s (i := i) (by omega), zad_s (by omega), zad_eq (by omega)]
      simp only [zcnt] at nx
      refine zcd (fun h => ?_) (fun h => ?_)
      · rw [if_pos h] at nx; exact nx
      · rw [if_neg h] at nx; exact zeq nx (by rw [show ((zcnt (fun r => I 33 r = 0) i : Nat) : Int) + 0 = ((zcnt (fun r => I 33 r = 0) i + 0 : Nat) : Int) by omega])
  exact loop 16 0 (by omega)
abbrev mplc (I : Nat → Nat → Int) (w t : Nat) (r : Int) : Int := zfs (fun p => I 39 (6 * t + p) = r) w 0
theorem m_placeOf {S : PS} {I : Nat → Nat → Int} {Q : PV1 → Prop} {t w : Nat} {r : Int} {w3 : PV} (ht : t < 2) (hw : I 32 6 = (w : Int)) (hw6 : w ≤ 6) (hQ : Q (some (zI (mplc I w t r)), zH S I)) : Wp 132 (0, [zA 32, zI (t : Int), zI r, w3], [], zH S I) Q := by
  refine (sg_X6_placeOf_0_32 _ _ _ _ _ _).mpr ?_
  have loop : ∀ (j i : Nat), i + j = w → Q (some (zI (zfs (fun p => I 39 (6 * t + p) = r) j i)), zH S I) → Wp 132 (2, [zA 32, zI (t : Int), zI r, zI (i : Int)], [], zH S I) Q := by
    intro j
    induction j with
    | zero =>
      intro i hi hq
      refine (sg_X6_placeOf_2_32 _ _ _ _ _ _).mpr ?_
      rw [hw]
      exact zcd (fun h => absurd h (by omega)) (fun _ => hq)
    | succ j ih =>
      intro i hi hq
      refine (sg_X6_placeOf_2_32 _ _ _ _ _ _).mpr ?_
      rw [hw, zix ht (by omega), zad_s (by omega), Int.toNat_natCast]
      refine zcd (fun _ => zgd (by omega) ?_) (fun h => absurd (by omega) h)
      refine zcd (fun h => ?_) (fun h => ?_)
      · rw [zfs_t h] at hq; exact hq
      · rw [zfs_f h] at hq; exact ih (i + 1) (by omega) hq
  exact loop w 0 (by omega) hQ
theorem m_hasFree {S : PS} {I : Nat → Nat → Int} {Q : PV1 → Prop} {t w : Nat} {w2 w3 : PV} (ht : t < 2) (hw : I 32 6 = (w : Int)) (hw6 : w ≤ 6) (hQ : ∀ x, (x = 0 ∨ x = 1) → (x = 1 ↔ ∃ p, p < w ∧ I 39 (6 * t + p) = -2) → Q (some (zI x), zH S I)) : Wp 143 (0, [zA 32, zI (t : Int), w2, w3], [], zH S I) Q := by
  refine (sg_X6_hasFree_0_32 _ _ _ _ _ _).mpr ?_
  have loop : ∀ (j i : Nat) (x : Int), i + j = w → (x = 0 ∨ x = 1) → (x = 1 ↔ ∃ p, p < i ∧ I 39 (6 * t + p) = -2) → Wp 143 (4, [zA 32, zI (t : Int), zI x, zI (i : Int)], [], zH S I) Q := by
    intro j
    induction j with
    | zero =>
      intro i x hi h1 h2
      obtain rfl : i = w := by omega
      refine (sg_X6_hasFree_4_32 _ _ _ _ _ _).mpr ?_
      rw [hw]
      exact zcd (fun h => absurd h (by omega)) (fun _ => zgb h1 (hQ x h1 h2))
    | succ j ih =>
      intro i x hi h1 h2
      refine (sg_X6_hasFree_4_32 _ _ _ _ _ _).mpr ?_
      rw [hw, zix ht (by omega), zad_s (by omega), Int.toNat_natCast]
      refine zcd (fun _ => zcd (fun hx => zgd (by omega) ?_) (fun hx => ?_)) (fun h => absurd (by omega) h)
      · refine zcd (fun h => ?_) (fun h => ?_)
        · exact ih (i + 1) 1 (by omega) (Or.inr rfl) ⟨fun _ => ⟨i, by omega, h⟩, fun _ => rfl⟩
        · refine ih (i + 1) 0 (by omega) (Or.inl rfl) ⟨fun w => absurd w (by decide), fun ⟨p, p1, p2⟩ => ?_⟩
          by_cases e : p = i
          · subst e; exact absurd p2 h
          · have := h2.mpr ⟨p, by omega, p2⟩; omega
      · have hx1 : x = 1 := by omega
        obtain ⟨p, p1, p2⟩ := h2.mp hx1
        exact ih (i + 1) 1 (by omega) (Or.inr rfl) ⟨fun _ => ⟨p, by omega, p2⟩, fun _ => rfl⟩
  exact loop w 0 0 (by omega) (Or.inl rfl) ⟨fun w => absurd w (by decide), fun ⟨p, p1, _⟩ => absurd p1 (by omega)⟩
def mset (I : Nat → Nat → Int) (u : Nat) (k v m rk ac : Int) : Nat → Nat → Int := zs2 (zs2 (zs2 (zs2 (zs2 (zs2 I 33 u 1) 34 u k) 35 u (zan v m)) 36 u m) 37 u rk) 38 u ac
theorem m_add {S : PS} {I : Nat → Nat → Int} {Q : PV1 → Prop} {k v m rk ac : Int} {w6 : PV} {u : Nat} (hu : u < 16) (h0 : I 33 u = 0) (hn : ∀ x, x < u → I 33 x ≠ 0) (hQ : Q (some (zI (u : Int)), zH S (mset I u k v m rk ac))) : Wp 127 (0, [zA 32, zI k, zI v, zI m, zI rk, zI ac, w6], [], zH S I) Q := by
  refine (sg_X6_add_0_32 _ _ _ _ _ _ _ _ _).mpr ?_
  have loop : ∀ (j i : Nat), i + j = u → Wp 127 (3, [zA 32, zI k, zI v, zI m, zI rk, zI ac, zI (i : Int)], [], zH S I) Q := by
    intro j
    induction j with
    | zero =>
      intro i hi
      obtain rfl : i = u := by omega
      refine (sg_X6_add_3_32 _ _ _ _ _ _ _ _ _).mpr ?_
      refine zgd (by omega) ?_
      rw [Int.toNat_natCast]
      refine zcd (fun _ => zgdb (by omega) (by omega) (zgd (by omega) (zgd (by omega) (zgd (by omega) (zgd (by omega) (zgd (by omega) hQ)))))) (fun h => absurd h0 h)
    | succ j ih =>
      intro i hi
      refine (sg_X6_add_3_32 _ _ _ _ _ _ _ _ _).mpr ?_
      refine zgd (by omega) ?_
      rw [Int.toNat_natCast, zad_s (by omega)]
      exact zcd (fun h => absurd h (hn i (by omega))) (fun _ => ih (i + 1) (by omega))
  exact loop u 0 (by omega)
