/-! the reference: shown, covered, differ, count -/
abbrev mova (I : Nat → Nat → Int) (w t : Nat) (k r : Int) : Int := zfs (fun p => ¬ I 39 (6 * t + p) < 0 ∧ I 39 (6 * t + p) ≠ r ∧ mfit I (I 39 (6 * t + p)) k ∧ mhi I (I 39 (6 * t + p)) r) w 0
abbrev mshw (I : Nat → Nat → Int) (w t : Nat) (r : Int) : Int := zfv (fun k => mfit I r (k : Int) ∧ mova I w t (k : Int) r = -1) (fun k => (k : Int)) (-2) 32 0
theorem zfs_ex {P : Nat → Prop} [DecidablePred P] {n : Nat} : zfs P n 0 = -1 ↔ ¬ ∃ p, p < n ∧ P p := by
  rcases zfs_spec (P := P) n 0 with ⟨h1, h2⟩ | ⟨j, h1, -, h3, h4, -⟩
  · exact ⟨fun _ ⟨p, p1, p2⟩ => h2 p (Nat.zero_le _) (by omega) p2, fun _ => h1⟩
  · exact ⟨fun h => by omega, fun h => absurd ⟨j, by omega, h4⟩ h⟩
theorem m_firstShown {S : PS} {I : Nat → Nat → Int} {Q : PV1 → Prop} {r : Int} {w3 w4 w5 w6 : PV} {t w : Nat} (ht : t < 2) (hr : num r) (hw : I 32 6 = (w : Int)) (hw6 : w ≤ 6) (hc : ∀ p, p < w → I 39 (6 * t + p) < 16) (hQ : Q (some (zI (mshw I w t r)), zH S I)) : Wp 156 (0, [zA 32, zI (t : Int), zI r, w3, w4, w5, w6], [], zH S I) Q := by
  refine (sg_X6_firstShown_0_32 _ _ _ _ _ _ _ _ _).mpr ?_
  have keys : ∀ (j i : Nat) (v4 v5 v6 : PV), i + j = 32 → Q (some (zI (zfv (fun k => mfit I r (k : Int) ∧ mova I w t (k : Int) r = -1) (fun k => (k : Int)) (-2) j i)), zH S I) → Wp 156 (2, [zA 32, zI (t : Int), zI r, zI (i : Int), v4, v5, v6], [], zH S I) Q := by
    intro j
    induction j with
    | zero =>
      intro i v4 v5 v6 hi hq
      refine (sg_X6_firstShown_2_32 _ _ _ _ _ _ _ _ _).mpr ?_
      exact zcd (fun h => absurd h (by omega)) (fun _ => hq)
    | succ j ih =>
      intro i v4 v5 v6 hi hq
      refine (sg_X6_firstShown_2_32 _ _ _ _ _ _ _ _ _).mpr ?_
      refine zcd (fun _ => ?_) (fun h => absurd (by omega) h)
      have places : ∀ (j2 p : Nat) (x : Int) (v6 : PV), p + j2 = w → (x = 0 ∨ x = 1) → (x = 1 ↔ ∃ q, q < p ∧ (¬ I 39 (6 * t + q) < 0 ∧ I 39 (6 * t + q) ≠ r ∧ mfit I (I 39 (6 * t + q)) (i : Int) ∧ mhi I (I 39 (6 * t + q)) r)) → Wp 156 (14, [zA 32, zI (t : Int), zI r, zI (i : Int), zI x, zI (p : Int), v6], [], zH S I) Q := by
        intro j2
        induction j2 with
        | zero =>
          intro p x v6 hp hx1 hx2
          obtain rfl : p = w := by omega
          refine (sg_X6_firstShown_14_32 _ _ _ _ _ _ _ _ _).mpr ?_
          rw [hw]
          refine zcd (fun h => absurd h (by omega)) (fun _ => ?_)
          refine m_fits hr ?_
          refine (sg_X6_firstShown_92_32 _ _ _ _ _ _ _ _ _ _).mpr ?_
          rw [zad_s (i := i) (by omega)]
          refine zcdB (fun hf => ?_) (fun hf => ?_)
          · rw [zfv_f (fun c => hf c.1)] at hq
            exact ih (i + 1) _ _ _ (by omega) hq
          · refine zcd (fun h0 => ?_) (fun h0 => ?_)
            · rw [zfv_t ⟨hf, zfs_ex.mpr (fun c => by have := hx2.mpr c; omega)⟩] at hq
              exact hq
            · rw [zfv_f (fun c => zfs_ex.mp c.2 (hx2.mp (by omega)))] at hq
              exact ih (i + 1) _ _ _ (by omega) hq
        | succ j2 ih2 =>
          intro p x v6 hp hx1 hx2
          have h16 := hc p (by omega)
          have no : (x = 0) → ¬ (¬ I 39 (6 * t + p) < 0 ∧ I 39 (6 * t + p) ≠ r ∧ mfit I (I 39 (6 * t + p)) (i : Int) ∧ mhi I (I 39 (6 * t + p)) r) → ∀ v6 : PV, Wp 156 (14, [zA 32, zI (t : Int), zI r, zI (i : Int), zI 0, zI ((p + 1 : Nat) : Int), v6], [], zH S I) Q := fun h0 hn v6 => by
            refine ih2 (p + 1) 0 v6 (by omega) (Or.inl rfl) ⟨fun c => absurd c (by decide), fun ⟨q, q1, q2⟩ => ?_⟩
            by_cases e : q = p
            · subst e; exact absurd q2 hn
            · have := hx2.mpr ⟨q, by omega, q2⟩; omega
          refine (sg_X6_firstShown_14_32 _ _ _ _ _ _ _ _ _).mpr ?_
          rw [hw, zix ht (by omega), zad_s (i := p) (by omega), Int.toNat_natCast]
          refine zcd (fun _ => zgd (by omega) ?_) (fun h => absurd (by omega) h)
          refine zcd (fun h0 => ?_) (fun h0 => ?_)
          · refine zcd (fun h1 => no h0 (fun c => c.1 h1) _) (fun h1 => ?_)
            refine zcd (fun h2 => no h0 (fun c => c.2.1 h2) _) (fun h2 => ?_)
            refine m_fits ⟨by omega, by omega⟩ ?_
            refine (sg_X6_firstShown_60_32 _ _ _ _ _ _ _ _ _ _).mpr ?_
            rw [zad_s (i := p) (by omega)]
            refine zcdB (fun h3 => no h0 (fun c => h3 c.2.2.1) _) (fun h3 => ?_)
            refine m_isHigher ⟨by omega, by omega⟩ hr ?_
            refine (sg_X6_firstShown_70_32 _ _ _ _ _ _ _ _ _ _).mpr ?_
            rw [zad_s (i := p) (by omega)]
            refine zcdB (fun h4 => no h0 (fun c => h4 c.2.2.2) _) (fun h4 => ?_)
            exact ih2 (p + 1) 1 _ (by omega) (Or.inr rfl) ⟨fun _ => ⟨p, by omega, h1, h2, h3, h4⟩, fun _ => rfl⟩
          · obtain ⟨q, q1, q2⟩ := hx2.mp (by omega)
            exact ih2 (p + 1) 1 _ (by omega) (Or.inr rfl) ⟨fun _ => ⟨q, by omega, q2⟩, fun _ => rfl⟩
      exact places w 0 0 v6 (by omega) (Or.inl rfl) ⟨fun c => absurd c (by decide), fun ⟨q, q1, _⟩ => absurd q1 (by omega)⟩
  exact keys 32 0 _ _ _ (by omega) hQ
theorem m_covered_n {S : PS} {I : Nat → Nat → Int} {Q : PV1 → Prop} {t r : Int} (ht : t < 0 ∨ 2 ≤ t) (hQ : Q (some (zI (-1)), zH S I)) : Wp 157 (0, [zA 32, zI t, zI r], [], zH S I) Q := by
  refine (sg_X6_covered_0_32 _ _ _ _ _).mpr ?_
  refine m_isTable ?_
  refine (sg_X6_covered_4_32 _ _ _ _ _ _).mpr ?_
  exact zcdB (fun _ => hQ) (fun h => absurd h (by omega))
theorem m_covered {S : PS} {I : Nat → Nat → Int} {Q : PV1 → Prop} {r : Int} {t w : Nat} (ht : t < 2) (hw : I 32 6 = (w : Int)) (hw6 : w ≤ 6) (hc : ∀ p, p < w → I 39 (6 * t + p) < 16)
    (hQ : Q (some (zI (if ¬ muse I r then (-1) else if mplc I w t r < 0 then (-2) else if mshw I w t r < 0 then 1 else 0)), zH S I)) : Wp 157 (0, [zA 32, zI (t : Int), zI r], [], zH S I) Q := by
  refine (sg_X6_covered_0_32 _ _ _ _ _).mpr ?_
  refine m_isTable ?_
  refine (sg_X6_covered_4_32 _ _ _ _ _ _).mpr ?_
  refine zcdB (fun h => absurd (by omega) h) (fun _ => ?_)
  refine m_isRule ?_
  refine (sg_X6_covered_12_32 _ _ _ _ _ _).mpr ?_
  refine zcdB (fun h => by rw [if_pos h] at hQ; exact hQ) (fun hu => ?_)
  rw [if_neg (not_not_intro hu)] at hQ
  refine m_placeOf ht hw hw6 ?_
  refine (sg_X6_covered_23_32 _ _ _ _ _ _).mpr ?_
  refine zcd (fun h => by rw [if_pos h] at hQ; exact hQ) (fun h => ?_)
  rw [if_neg h] at hQ
  refine m_firstShown ht ⟨hu.1, by have := hu.2.1; omega⟩ hw hw6 hc ?_
  refine (sg_X6_covered_37 _ _ _ _ _ _ _).mpr ?_
  exact zcd (fun h => by rw [if_pos h] at hQ; exact hQ) (fun h => by rw [if_neg h] at hQ; exact hQ)
theorem m_shown_n {S : PS} {I : Nat → Nat → Int} {Q : PV1 → Prop} {t r : Int} (ht : t < 0 ∨ 2 ≤ t) (hQ : Q (some (zI (-1)), zH S I)) : Wp 158 (0, [zA 32, zI t, zI r], [], zH S I) Q := by
  refine (sg_X6_shown_0_32 _ _ _ _ _).mpr ?_
  refine m_isTable ?_
  refine (sg_X6_shown_4_32 _ _ _ _ _ _).mpr ?_
  exact zcdB (fun _ => (sg_X6_shown_25 _ _ _ _ _ _ _).mpr hQ) (fun h => absurd h (by omega))
theorem m_shown {S : PS} {I : Nat → Nat → Int} {Q : PV1 → Prop} {r : Int} {t w : Nat} (ht : t < 2) (hw : I 32 6 = (w : Int)) (hw6 : w ≤ 6) (hc : ∀ p, p < w → I 39 (6 * t + p) < 16)
    (hQ : Q (some (zI (if ¬ muse I r then (-1) else mshw I w t r)), zH S I)) : Wp 158 (0, [zA 32, zI (t : Int), zI r], [], zH S I) Q := by
  refine (sg_X6_shown_0_32 _ _ _ _ _).mpr ?_
  refine m_isTable ?_
  refine (sg_X6_shown_4_32 _ _ _ _ _ _).mpr ?_
  refine zcdB (fun h => absurd (by omega) h) (fun _ => ?_)
  refine m_isRule ?_
  refine (sg_X6_shown_12_32 _ _ _ _ _ _).mpr ?_
  refine zcdB (fun h => (sg_X6_shown_25 _ _ _ _ _ _ _).mpr (by rw [if_pos h] at hQ; exact hQ)) (fun hu => ?_)
  rw [if_neg (not_not_intro hu)] at hQ
  refine m_firstShown ht ⟨hu.1, by have := hu.2.1; omega⟩ hw hw6 hc ?_
  exact (sg_X6_shown_25 _ _ _ _ _ _ _).mpr hQ
theorem m_differ {S : PS} {I : Nat → Nat → Int} {Q : PV1 → Prop} {w1 w2 : PV} {w : Nat} (hw : I 32 6 = (w : Int)) (hw6 : w ≤ 6) (hc : ∀ u, u < 2 → ∀ p, p < w → I 39 (6 * u + p) < 16) (hQ : Q (some (zI ((zcnt (fun q => mjud I w 0 (q : Int) ≠ mjud I w 1 (q : Int)) 32 : Nat) : Int)), zH S I)) : Wp 164 (0, [zA 32, w1, w2], [], zH S I) Q := by
  refine (sg_X6_differ_0_32 _ _ _ _ _).mpr ?_
  have loop : ∀ (j i : Nat), i + j = 32 → Wp 164 (4, [zA 32, zI ((zcnt (fun q => mjud I w 0 (q : Int) ≠ mjud I w 1 (q : Int)) i : Nat) : Int), zI (i : Int)], [], zH S I) Q := by
    intro j
    induction j with
    | zero =>
      intro i hi
      obtain rfl : i = 32 := by omega
      refine (sg_X6_differ_4_32 _ _ _ _ _).mpr ?_
      exact zcd (fun h => absurd h (by omega)) (fun _ => hQ)
    | succ j ih =>
      intro i hi
      have hle := zcnt_le (fun q => mjud I w 0 (q : Int) ≠ mjud I w 1 (q : Int)) i
      have nx := ih (i + 1) (by omega)
      refine (sg_X6_differ_4_32 _ _ _ _ _).mpr ?_
      refine zcd (fun _ => ?_) (fun h => absurd (by omega) h)
      refine m_judge (t := 0) (by decide) hw hw6 (hc 0 (by decide)) ?_
      refine (sg_X6_differ_17_32 _ _ _ _ _ _ _).mpr ?_
      refine m_judge (t := 1) (by decide) hw hw6 (hc 1 (by decide)) ?_
      refine (sg_X6_differ_23_32 _ _ _ _ _ _ _ _).mpr ?_
      rw [zad_s (i := i) (by omega)]
      refine zcd (fun h => ?_) (fun h => ?_)
      · exact zeq nx (by rw [zcnt_f (i := i) (not_not_intro h), zad_eq (by omega), Int.add_zero])
      · exact zeq nx (by rw [zcnt_t (i := i) h (by omega)])
  exact loop 32 0 (by omega)
abbrev mstd (I : Nat → Nat → Int) (w t : Nat) : Nat := zcnt (fun p => ¬ I 39 (6 * t + p) < 0) w
theorem m_count {S : PS} {I : Nat → Nat → Int} {Q : PV1 → Prop} {x : Int} {w2 w3 : PV} {w : Nat} (hw : I 32 6 = (w : Int)) (hw6 : w ≤ 6)
    (hQ : Q (some (zI (if x = 0 then 16 - ((zcnt (fun r => I 33 r = 0) 16 : Nat) : Int) else if x = 1 then ((mstd I w 0 : Nat) : Int) else if x = 2 then ((mstd I w 1 : Nat) : Int) else if x = 3 then (w : Int) else if x = 4 then I 32 7 else if x = 5 then I 32 9 else (-1))), zH S I)) : Wp 166 (0, [zA 32, zI x, w2, w3], [], zH S I) Q := by
  refine (sg_X6_count_0_32 _ _ _ _ _ _).mpr ?_
  have loop : ∀ (t : Nat), t < 2 → x = ((t + 1 : Nat) : Int) → Q (some (zI ((mstd I w t : Nat) : Int)), zH S I) → ∀ (j i : Nat), i + j = w → Wp 166 (50, [zA 32, zI x, zI ((zcnt (fun p => ¬ I 39 (6 * t + p) < 0) i : Nat) : Int), zI (i : Int)], [], zH S I) Q := by
    intro t ht hx hq j
    induction j with
    | zero =>
      intro i hi
      obtain rfl : i = w := by omega
      refine (sg_X6_count_50_32 _ _ _ _ _ _).mpr ?_
      rw [hw]
      exact zcd (fun h => absurd h (by omega)) (fun _ => hq)
    | succ j ih =>
      intro i hi
      have hle := zcnt_le (fun p => ¬ I 39 (6 * t + p) < 0) i
      have nx := ih (i + 1) (by omega)
      refine (sg_X6_count_50_32 _ _ _ _ _ _).mpr ?_
      rw [hw, zsb_eq (by omega), show x - 1 = (t : Int) by omega, zix ht (by omega), zad_s (i := i) (by omega), Int.toNat_natCast]
      refine zcd (fun _ => zgd (by omega) ?_) (fun h => absurd (by omega) h)
      refine zcd (fun h => ?_) (fun h => ?_)
      · exact zeq nx (by rw [zcnt_f (i := i) (not_not_intro h), zad_eq (by omega), Int.add_zero])
      · exact zeq nx (by rw [zcnt_t (i := i) h (by omega)])
  refine zcd (fun e => ?_) (fun e0 => ?_)
  · rw [if_pos e] at hQ
    refine m_freeRules ?_
    refine (sg_X6_count_46 _ _ _ _ _ _ _ _ _).mpr ?_
    have hle := zcnt_le (fun r => I 33 r = 0) 16
    rw [zsb_eq (by omega)]
    exact hQ
  rw [if_neg e0] at hQ
  refine zcd (fun e => ?_) (fun e1 => ?_)
  · rw [if_pos e] at hQ
    exact loop 0 (by decide) e hQ w 0 (by omega)
  rw [if_neg e1] at hQ
  refine zcd (fun e => ?_) (fun e2 => ?_)
  · rw [if_pos e] at hQ
    exact loop 1 (by decide) e hQ w 0 (by omega)
  rw [if_neg e2] at hQ
  refine zcd (fun e => by rw [if_pos e] at hQ; rw [hw]; exact hQ) (fun e3 => ?_)
  rw [if_neg e3] at hQ
  refine zcd (fun e => by rw [if_pos e] at hQ; exact hQ) (fun e4 => ?_)
  rw [if_neg e4] at hQ
  exact zcd (fun e => by rw [if_pos e] at hQ; exact hQ) (fun e5 => by rw [if_neg e5] at hQ; exact hQ)
