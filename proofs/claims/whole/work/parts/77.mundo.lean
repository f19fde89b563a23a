/-! the reference: undo, judged, due, right -/
def mun1 (I : Nat → Nat → Int) (m : Nat) : Nat → Nat → Int := zs2 (zmapc (zs2 I 32 9 (m : Int)) 39 12 (fun k => I 40 (16 * m + k))) 32 7 (I 40 (16 * m + 12))
def mund (I : Nat → Nat → Int) (m : Nat) : Nat → Nat → Int := zs2 (if I 40 (16 * m + 13) < 0 then mun1 I m else zs2 (zs2 (mun1 I m) 36 (I 40 (16 * m + 13)).toNat (I 40 (16 * m + 14))) 35 (I 40 (16 * m + 13)).toNat (I 40 (16 * m + 15))) 32 21 0
set_option maxRecDepth 100000 in
theorem m_undo {S : PS} {I : Nat → Nat → Int} {Q : PV1 → Prop} {w1 w2 : PV} {n : Nat} (h9 : I 32 9 = (n : Int)) (hn20 : n ≤ 20) (hm : ∀ m, n = m + 1 → I 40 (16 * m + 13) < 0 ∨ num (I 40 (16 * m + 13)))
    (hQ1 : n = 0 → Q (some (zI (-2)), zH S I)) (hQ2 : ∀ m, n = m + 1 → Q (some (zI (m : Int)), zH S (mund I m))) : Wp 124 (0, [zA 32, w1, w2], [], zH S I) Q := by
  refine (sg_X6_undo_0_32 _ _ _ _ _).mpr ?_
  rw [h9, zs2_at]
  refine zcd (fun h => hQ1 (by omega)) (fun h => ?_)
  obtain ⟨m, rfl⟩ : ∃ m, n = m + 1 := ⟨n - 1, by omega⟩
  have h2 := hQ2 m rfl
  have hm2 := hm m rfl
  rw [zsb_eq (by omega), show ((m + 1 : Nat) : Int) - 1 = (m : Int) by omega, zml_eq (by omega), show (16 : Int) * (m : Int) = ((16 * m : Nat) : Int) by omega]
  have loop : ∀ (j i : Nat), i + j = 12 → Wp 124 (30, [zA 32, zI ((16 * m : Nat) : Int), zI (i : Int)], [], zH S (zmapc (zs2 I 32 9 (m : Int)) 39 i (fun k => I 40 (16 * m + k)))) Q := by
    intro j
    induction j with
    | zero =>
      intro i hi
      obtain rfl : i = 12 := by omega
      refine (sg_X6_undo_30_32 _ _ _ _ _).mpr ?_
      rw [zad_eq (a := ((16 * m : Nat) : Int)) (b := 12) (by omega), zad_eq (a := ((16 * m : Nat) : Int)) (b := 13) (by omega), zad_eq (a := ((16 * m : Nat) : Int)) (b := 14) (by omega), zad_eq (a := ((16 * m : Nat) : Int)) (b := 15) (by omega)]
      have t12 : (((16 * m : Nat) : Int) + 12).toNat = 16 * m + 12 := by omega
      have t13 : (((16 * m : Nat) : Int) + 13).toNat = 16 * m + 13 := by omega
      have t14 : (((16 * m : Nat) : Int) + 14).toNat = 16 * m + 14 := by omega
      have t15 : (((16 * m : Nat) : Int) + 15).toNat = 16 * m + 15 := by omega
      rw [t12, t13, t14, t15]
      have e40 : zmapc (zs2 I 32 9 (m : Int)) 39 12 (fun k => I 40 (16 * m + k)) 40 = I 40 := by rw [zmapc_ne _ _ _ _ (by decide), zs2_ne _ _ _ _ (by decide)]
      have hM : zs2 (zmapc (zs2 I 32 9 (m : Int)) 39 12 (fun k => I 40 (16 * m + k))) 32 7 (I 40 (16 * m + 12)) = mun1 I m := rfl
      rw [e40, hM]
      have f40 : mun1 I m 40 = I 40 := by rw [mun1, zs2_ne _ _ _ _ (by decide), e40]
      have f9 : mun1 I m 32 9 = (m : Int) := by rw [mun1, zs2_ne2 _ _ _ _ (by decide), zmapc_ne _ _ _ _ (by decide), zs2_at]
      refine zcd (fun h => absurd h (by omega)) (fun _ => zgd (by omega) (zgd (by omega) ?_))
      unfold mund at h2
      simp (disch := decide) only [zs2_ne, zs2_ne2]
      rw [f40, f9]
      refine zcd (fun hl => ?_) (fun hl => ?_)
      · rw [if_pos hl] at h2; exact h2
      · rw [if_neg hl] at h2
        have hm3 : num (I 40 (16 * m + 13)) := hm2.resolve_left hl
        exact zgd (by omega) (zgd (by omega) (zgd (by omega) (zgd (by omega) h2)))
    | succ j ih =>
      intro i hi
      refine (sg_X6_undo_30_32 _ _ _ _ _).mpr ?_
      rw [zad_eq (a := ((16 * m : Nat) : Int)) (b := (i : Int)) (by omega), zad_s (i := i) (by omega), show (((16 * m : Nat) : Int) + (i : Int)).toNat = 16 * m + i by omega, Int.toNat_natCast]
      refine zcd (fun _ => zgd (by omega) (zgd (by omega) ?_)) (fun h => absurd (by omega) h)
      have e40 : zmapc (zs2 I 32 9 (m : Int)) 39 i (fun k => I 40 (16 * m + k)) 40 = I 40 := by rw [zmapc_ne _ _ _ _ (by decide), zs2_ne _ _ _ _ (by decide)]
      rw [e40, zmapc_s (zs2 I 32 9 (m : Int)) 39 i (fun k => I 40 (16 * m + k)) rfl]
      exact ih (i + 1) (by omega)
  have := loop 12 0 (by omega)
  rw [zmapc_0] at this
  exact this
theorem m_judged {S : PS} {I : Nat → Nat → Int} {Q : PV1 → Prop} {t k : Int} {w : Nat} (hw : I 32 6 = (w : Int)) (hw6 : w ≤ 6) (hc : ∀ u, u < 2 → ∀ p, p < w → I 39 (6 * u + p) < 16) (hl : I 32 7 = 0 ∨ I 32 7 = 1)
    (hQ1 : ¬ ((0 ≤ t ∧ t ≤ 2) ∧ (0 ≤ k ∧ k ≤ 31)) → Q (some (zI (-101)), zH S I)) (hQ2 : (0 ≤ k ∧ k ≤ 31) → ∀ u : Nat, u < 2 → ((t = 2 ∧ I 32 7 = (u : Int)) ∨ t = (u : Int)) → Q (some (zI (mjud I w u k)), zH S I)) : Wp 153 (0, [zA 32, zI t, zI k], [], zH S I) Q := by
  refine (sg_X6_judged_0_32 _ _ _ _ _).mpr ?_
  refine m_in ?_
  refine (sg_X6_judged_6_32 _ _ _ _ _ _).mpr ?_
  refine zcdB (fun h => (sg_X6_judged_42 _ _ _ _ _ _ _).mpr (hQ1 (fun c => h c.1))) (fun h1 => ?_)
  refine m_in ?_
  refine (sg_X6_judged_16_32 _ _ _ _ _ _).mpr ?_
  refine zcdB (fun h => (sg_X6_judged_42 _ _ _ _ _ _ _).mpr (hQ1 (fun c => h c.2))) (fun h2 => ?_)
  refine zcd (fun e => ?_) (fun e => ?_)
  · obtain ⟨u, hu⟩ : ∃ u : Nat, I 32 7 = (u : Int) := ⟨(I 32 7).toNat, by omega⟩
    rw [hu]
    refine m_judge (t := u) (by omega) hw hw6 (hc u (by omega)) ?_
    exact (sg_X6_judged_42 _ _ _ _ _ _ _).mpr (hQ2 h2 u (by omega) (Or.inl ⟨e, hu⟩))
  · obtain ⟨u, rfl⟩ : ∃ u : Nat, t = (u : Int) := ⟨t.toNat, by omega⟩
    refine m_judge (t := u) (by omega) hw hw6 (hc u (by omega)) ?_
    exact (sg_X6_judged_42 _ _ _ _ _ _ _).mpr (hQ2 h2 u (by omega) (Or.inr rfl))
abbrev mdb (I : Nat → Nat → Int) (w t : Nat) (k : Int) : Nat → Int := zfold (fun r a => if I 33 r ≠ 0 ∧ ¬ mplc I w t (r : Int) < 0 ∧ mfit I (r : Int) k ∧ (a < 0 ∨ mhi I (r : Int) a) then (r : Int) else a) (-1)
theorem mdb_s (I : Nat → Nat → Int) (w t : Nat) (k : Int) (i : Nat) : mdb I w t k (i + 1) = if I 33 i ≠ 0 ∧ ¬ mplc I w t (i : Int) < 0 ∧ mfit I (i : Int) k ∧ (mdb I w t k i < 0 ∨ mhi I (i : Int) (mdb I w t k i)) then (i : Int) else mdb I w t k i := rfl
theorem mdb_in (I : Nat → Nat → Int) (w t : Nat) (k : Int) : ∀ i, mdb I w t k i = -1 ∨ (0 ≤ mdb I w t k i ∧ mdb I w t k i < (i : Int))
  | 0 => Or.inl rfl
  | i + 1 => by
    have := mdb_in I w t k i
    rw [mdb_s]
    split <;> omega
abbrev mdue (I : Nat → Nat → Int) (w t : Nat) (k : Int) : Int := if mdb I w t k 16 < 0 then (-1) else I 38 (mdb I w t k 16).toNat
theorem m_due {S : PS} {I : Nat → Nat → Int} {Q : PV1 → Prop} {k : Int} {w3 w4 : PV} {t w : Nat} (ht : t < 2) (hw : I 32 6 = (w : Int)) (hw6 : w ≤ 6) (hQ : Q (some (zI (mdue I w t k)), zH S I)) : Wp 154 (0, [zA 32, zI (t : Int), zI k, w3, w4], [], zH S I) Q := by
  refine (sg_X6_due_0_32 _ _ _ _ _ _ _).mpr ?_
  have loop : ∀ (j i : Nat), i + j = 16 → Wp 154 (5, [zA 32, zI (t : Int), zI k, zI (mdb I w t k i), zI (i : Int)], [], zH S I) Q := by
    intro j
    induction j with
    | zero =>
      intro i hi
      obtain rfl : i = 16 := by omega
      have hin := mdb_in I w t k 16
      refine (sg_X6_due_5_32 _ _ _ _ _ _ _).mpr ?_
      refine zcd (fun h => absurd h (by omega)) (fun _ => ?_)
      unfold mdue at hQ
      refine zcd (fun h => by rw [if_pos h] at hQ; exact hQ) (fun h => zgd (by omega) (by rw [if_neg h] at hQ; exact hQ))
    | succ j ih =>
      intro i hi
      have hin := mdb_in I w t k i
      have nx := ih (i + 1) (by omega)
      rw [mdb_s] at nx
      refine (sg_X6_due_5_32 _ _ _ _ _ _ _).mpr ?_
      rw [zad_s (i := i) (by omega), Int.toNat_natCast]
      refine zcd (fun _ => zgd (by omega) ?_) (fun h => absurd (by omega) h)
      refine zcd (fun h0 => ?_) (fun h0 => ?_)
      · rw [if_neg (fun c => c.1 h0)] at nx; exact nx
      refine m_placeOf ht hw hw6 ?_
      refine (sg_X6_due_29_32 _ _ _ _ _ _ _ _).mpr ?_
      rw [zad_s (i := i) (by omega)]
      refine zcd (fun h1 => ?_) (fun h1 => ?_)
      · rw [if_neg (fun c => c.2.1 h1)] at nx; exact nx
      refine m_fits ⟨by omega, by omega⟩ ?_
      refine (sg_X6_due_39_32 _ _ _ _ _ _ _ _).mpr ?_
      rw [zad_s (i := i) (by omega)]
      refine zcdB (fun h2 => ?_) (fun h2 => ?_)
      · rw [if_neg (fun c => h2 c.2.2.1)] at nx; exact nx
      refine zcd (fun h3 => ?_) (fun h3 => ?_)
      · rw [if_pos ⟨h0, h1, h2, Or.inl h3⟩] at nx; exact nx
      refine m_isHigher ⟨by omega, by omega⟩ ⟨by omega, by omega⟩ ?_
      refine (sg_X6_due_53_32 _ _ _ _ _ _ _ _).mpr ?_
      rw [zad_s (i := i) (by omega)]
      refine zcdB (fun h4 => ?_) (fun h4 => ?_)
      · rw [if_neg (fun c => c.2.2.2.elim h3 h4)] at nx; exact nx
      · rw [if_pos ⟨h0, h1, h2, Or.inr h4⟩] at nx; exact nx
  exact loop 16 0 (by omega)
theorem m_right_n {S : PS} {I : Nat → Nat → Int} {Q : PV1 → Prop} {t : Int} {w2 w3 : PV} (ht : t < 0 ∨ 2 ≤ t) (hQ : Q (some (zI (-1)), zH S I)) : Wp 155 (0, [zA 32, zI t, w2, w3], [], zH S I) Q := by
  refine (sg_X6_right_0_32 _ _ _ _ _ _).mpr ?_
  refine m_isTable ?_
  refine (sg_X6_right_4_32 _ _ _ _ _ _ _).mpr ?_
  exact zcdB (fun _ => hQ) (fun h => absurd h (by omega))
theorem m_right {S : PS} {I : Nat → Nat → Int} {Q : PV1 → Prop} {t w : Nat} {w2 w3 : PV} (ht : t < 2) (hw : I 32 6 = (w : Int)) (hw6 : w ≤ 6) (hc : ∀ p, p < w → I 39 (6 * t + p) < 16) (hQ : Q (some (zI ((zcnt (fun q => mjud I w t (q : Int) = mdue I w t (q : Int)) 32 : Nat) : Int)), zH S I)) : Wp 155 (0, [zA 32, zI (t : Int), w2, w3], [], zH S I) Q := by
  refine (sg_X6_right_0_32 _ _ _ _ _ _).mpr ?_
  refine m_isTable ?_
  refine (sg_X6_right_4_32 _ _ _ _ _ _ _).mpr ?_
  refine zcdB (fun h => absurd (by omega) h) (fun _ => ?_)
  have loop : ∀ (j i : Nat), i + j = 32 → Wp 155 (13, [zA 32, zI (t : Int), zI ((zcnt (fun q => mjud I w t (q : Int) = mdue I w t (q : Int)) i : Nat) : Int), zI (i : Int)], [], zH S I) Q := by
    intro j
    induction j with
    | zero =>
      intro i hi
      obtain rfl : i = 32 := by omega
      refine (sg_X6_right_13_32 _ _ _ _ _ _).mpr ?_
      exact zcd (fun h => absurd h (by omega)) (fun _ => hQ)
    | succ j ih =>
      intro i hi
      have hle := zcnt_le (fun q => mjud I w t (q : Int) = mdue I w t (q : Int)) i
      have nx := ih (i + 1) (by omega)
      refine (sg_X6_right_13_32 _ _ _ _ _ _).mpr ?_
      refine zcd (fun _ => ?_) (fun h => absurd (by omega) h)
      refine m_judge ht hw hw6 hc ?_
      refine (sg_X6_right_26_32 _ _ _ _ _ _ _ _).mpr ?_
      refine m_due ht hw hw6 ?_
      refine (sg_X6_right_32_32 _ _ _ _ _ _ _ _ _).mpr ?_
      rw [zad_s (i := i) (by omega)]
      refine zcd (fun h => ?_) (fun h => ?_)
      · exact zeq nx (by rw [zcnt_t (i := i) h (by omega)])
      · exact zeq nx (by rw [zcnt_f (i := i) h, zad_eq (by omega), Int.add_zero])
  exact loop 32 0 (by omega)
