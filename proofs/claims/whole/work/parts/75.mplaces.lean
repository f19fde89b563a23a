/-! the reference: places, undo, judge -/
theorem m_clearTables {S : PS} {I : Nat → Nat → Int} {Q : PV1 → Prop} {w1 : PV} (hQ : Q (none, zH S (zfill I 39 12 (-2)))) : Wp 117 (0, [zA 32, w1], [], zH S I) Q := by
  refine (sg_X6_clearTables_0_32 _ _ _ _).mpr ?_
  have loop : ∀ (j i : Nat), i + j = 12 → Wp 117 (2, [zA 32, zI (i : Int)], [], zH S (zfill I 39 i (-2))) Q := by
    intro j
    induction j with
    | zero =>
      intro i hi
      obtain rfl : i = 12 := by omega
      refine (sg_X6_clearTables_2_32 _ _ _ _).mpr ?_
      exact zcd (fun h => absurd h (by omega)) (fun _ => hQ)
    | succ j ih =>
      intro i hi
      refine (sg_X6_clearTables_2_32 _ _ _ _).mpr ?_
      rw [zad_s (by omega), Int.toNat_natCast, zfill_s]
      exact zcd (fun _ => zgd (by omega) (ih (i + 1) (by omega))) (fun h => absurd (by omega) h)
  have := loop 12 0 (by omega)
  rw [zfill_0] at this
  exact this
theorem m_places {S : PS} {I : Nat → Nat → Int} {Q : PV1 → Prop} {n : Int} {w2 w3 : PV} (hQ1 : ¬ (2 ≤ n ∧ n ≤ 6) → Q (some (zI (-1)), zH S I)) (hQ2 : (2 ≤ n ∧ n ≤ 6) → Q (some (zI (I 32 6)), zH S (zfill (zfill (zs2 (zs2 (zs2 (zs2 I 32 6 n) 32 7 0) 32 9 0) 32 21 0) 39 12 (-2)) 33 16 0))) : Wp 125 (0, [zA 32, zI n, w2, w3], [], zH S I) Q := by
  refine (sg_X6_places_0_32 _ _ _ _ _ _).mpr ?_
  refine m_in ?_
  refine (sg_X6_places_7_32 _ _ _ _ _ _ _).mpr ?_
  refine zcdB (fun h => hQ1 h) (fun h => ?_)
  have h2 := hQ2 h
  refine m_clearTables ?_
  refine (sg_X6_places_41_32 _ _ _ _ _ _).mpr ?_
  generalize zfill (zs2 (zs2 (zs2 (zs2 I 32 6 n) 32 7 0) 32 9 0) 32 21 0) 39 12 (-2) = K at h2 ⊢
  have loop : ∀ (j i : Nat), i + j = 16 → Wp 125 (43, [zA 32, zI n, zI (I 32 6), zI (i : Int)], [], zH S (zfill K 33 i 0)) Q := by
    intro j
    induction j with
    | zero =>
      intro i hi
      obtain rfl : i = 16 := by omega
      refine (sg_X6_places_43_32 _ _ _ _ _ _).mpr ?_
      exact zcd (fun h => absurd h (by omega)) (fun _ => h2)
    | succ j ih =>
      intro i hi
      refine (sg_X6_places_43_32 _ _ _ _ _ _).mpr ?_
      rw [zad_s (by omega), Int.toNat_natCast, zfill_s]
      exact zcd (fun _ => zgdb (by omega) (Or.inl rfl) (ih (i + 1) (by omega))) (fun h => absurd (by omega) h)
  have := loop 16 0 (by omega)
  rw [zfill_0] at this
  exact this
abbrev mjud (I : Nat → Nat → Int) (w t : Nat) (k : Int) : Int := zfv (fun p => ¬ I 39 (6 * t + p) < 0 ∧ mfit I (I 39 (6 * t + p)) k) (fun p => I 38 (I 39 (6 * t + p)).toNat) (-1) w 0
theorem m_judge {S : PS} {I : Nat → Nat → Int} {Q : PV1 → Prop} {k : Int} {w3 w4 : PV} {t w : Nat} (ht : t < 2) (hw : I 32 6 = (w : Int)) (hw6 : w ≤ 6) (hc : ∀ p, p < w → I 39 (6 * t + p) < 16) (hQ : Q (some (zI (mjud I w t k)), zH S I)) : Wp 152 (0, [zA 32, zI (t : Int), zI k, w3, w4], [], zH S I) Q := by
  refine (sg_X6_judge_0_32 _ _ _ _ _ _ _).mpr ?_
  have loop : ∀ (j i : Nat) (v4 : PV), i + j = w → Q (some (zI (zfv (fun p => ¬ I 39 (6 * t + p) < 0 ∧ mfit I (I 39 (6 * t + p)) k) (fun p => I 38 (I 39 (6 * t + p)).toNat) (-1) j i)), zH S I) → Wp 152 (2, [zA 32, zI (t : Int), zI k, zI (i : Int), v4], [], zH S I) Q := by
    intro j
    induction j with
    | zero =>
      intro i v4 hi hq
      refine (sg_X6_judge_2_32 _ _ _ _ _ _ _).mpr ?_
      rw [hw]
      exact zcd (fun h => absurd h (by omega)) (fun _ => hq)
    | succ j ih =>
      intro i v4 hi hq
      have h16 := hc i (by omega)
      refine (sg_X6_judge_2_32 _ _ _ _ _ _ _).mpr ?_
      rw [hw, zix ht (by omega), zad_s (by omega), Int.toNat_natCast]
      refine zcd (fun _ => zgd (by omega) ?_) (fun h => absurd (by omega) h)
      refine zcd (fun h => ?_) (fun h => ?_)
      · rw [zfv_f (fun c => c.1 h)] at hq
        exact ih (i + 1) _ (by omega) hq
      · refine m_fits ⟨by omega, by omega⟩ ?_
        refine (sg_X6_judge_35_32 _ _ _ _ _ _ _ _).mpr ?_
        rw [zad_s (by omega)]
        refine zcdB (fun hf => ?_) (fun hf => zgd (by omega) ?_)
        · rw [zfv_f (fun c => hf c.2)] at hq
          exact ih (i + 1) _ (by omega) hq
        · rw [zfv_t ⟨h, hf⟩] at hq
          exact hq
  exact loop w 0 _ (by omega) hQ
