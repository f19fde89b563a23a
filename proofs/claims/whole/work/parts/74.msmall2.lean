/-! the reference: told, write, strike, at, over -/
theorem m_told {S : PS} {I : Nat → Nat → Int} {Q : PV1 → Prop} {r x : Int} {w : Nat} (hw : I 32 6 = (w : Int)) (hw6 : w ≤ 6) (hQ : Q (some (zI (if ¬ muse I r then (-101) else if x = 0 then I 34 r.toNat else if x = 1 then I 35 r.toNat else if x = 2 then I 36 r.toNat else if x = 3 then I 37 r.toNat else if x = 4 then I 38 r.toNat else if x = 5 then mplc I w 0 r else if x = 6 then mplc I w 1 r else (-101))), zH S I)) : Wp 133 (0, [zA 32, zI r, zI x], [], zH S I) Q := by
  refine (sg_X6_told_0_32 _ _ _ _ _).mpr ?_
  refine m_isRule ?_
  refine (sg_X6_told_5_32 _ _ _ _ _ _).mpr ?_
  refine zcdB (fun h => by rw [if_pos h] at hQ; exact hQ) (fun h1 => ?_)
  rw [if_neg (not_not_intro h1)] at hQ
  have b1 := h1.1
  have b2 := h1.2.1
  refine zcd (fun e => zgd (by omega) (by rw [if_pos e] at hQ; exact hQ)) (fun e0 => ?_)
  rw [if_neg e0] at hQ
  refine zcd (fun e => zgd (by omega) (by rw [if_pos e] at hQ; exact hQ)) (fun e1 => ?_)
  rw [if_neg e1] at hQ
  refine zcd (fun e => zgd (by omega) (by rw [if_pos e] at hQ; exact hQ)) (fun e2 => ?_)
  rw [if_neg e2] at hQ
  refine zcd (fun e => zgd (by omega) (by rw [if_pos e] at hQ; exact hQ)) (fun e3 => ?_)
  rw [if_neg e3] at hQ
  refine zcd (fun e => zgd (by omega) (by rw [if_pos e] at hQ; exact hQ)) (fun e4 => ?_)
  rw [if_neg e4] at hQ
  refine zcd (fun e => ?_) (fun e5 => ?_)
  · rw [if_pos e] at hQ
    subst e
    rw [show zsb 5 5 = ((0 : Nat) : Int) by decide]
    refine m_placeOf (t := 0) (by decide) hw hw6 ?_
    exact (sg_X6_told_99 _ _ _ _ _ _ _).mpr hQ
  rw [if_neg e5] at hQ
  refine zcd (fun e => ?_) (fun e6 => by rw [if_neg e6] at hQ; exact hQ)
  rw [if_pos e] at hQ
  subst e
  rw [show zsb 6 5 = ((1 : Nat) : Int) by decide]
  refine m_placeOf (t := 1) (by decide) hw hw6 ?_
  exact (sg_X6_told_99 _ _ _ _ _ _ _).mpr hQ
theorem m_write {S : PS} {I : Nat → Nat → Int} {Q : PV1 → Prop} {i x : Int} {n : Nat} (hn : I 32 21 = (n : Int)) (hn2 : n ≤ 2000) (hQ : Q (some (zI (if i = -1 then (n : Int) else if ¬ ((0 ≤ i ∧ i < (n : Int)) ∧ (0 ≤ x ∧ x ≤ 1)) then (-1) else if x = 0 then I 48 i.toNat else I 49 i.toNat)), zH S I)) : Wp 149 (0, [zA 32, zI i, zI x], [], zH S I) Q := by
  refine (sg_X6_write_0_32 _ _ _ _ _).mpr ?_
  rw [hn, zsb_eq (by omega)]
  refine zcd (fun h => by rw [if_pos h] at hQ; exact hQ) (fun h => ?_)
  rw [if_neg h] at hQ
  refine m_in ?_
  refine (sg_X6_write_21_32 _ _ _ _ _ _).mpr ?_
  refine zcdB (fun h1 => by rw [if_pos (fun w => h1 ⟨w.1.1, by omega⟩)] at hQ; exact hQ) (fun h1 => ?_)
  refine m_in ?_
  refine (sg_X6_write_30_32 _ _ _ _ _ _).mpr ?_
  refine zcdB (fun h2 => by rw [if_pos (fun w => h2 w.2)] at hQ; exact hQ) (fun h2 => ?_)
  rw [if_neg (not_not_intro ⟨⟨h1.1, by omega⟩, h2⟩)] at hQ
  refine zcd (fun e => zgd (by omega) (by rw [if_pos e] at hQ; exact hQ)) (fun e => zgd (by omega) (by rw [if_neg e] at hQ; exact hQ))
theorem m_strike_n {S : PS} {I : Nat → Nat → Int} {Q : PV1 → Prop} {t r : Int} {w3 : PV} (ht : t < 0 ∨ 2 ≤ t) (hQ : Q (some (zI (-1)), zH S I)) : Wp 150 (0, [zA 32, zI t, zI r, w3], [], zH S I) Q := by
  refine (sg_X6_strike_0_32 _ _ _ _ _ _).mpr ?_
  refine m_isTable ?_
  refine (sg_X6_strike_4_32 _ _ _ _ _ _ _).mpr ?_
  exact zcdB (fun _ => hQ) (fun h => absurd h (by omega))
theorem m_strike {S : PS} {I : Nat → Nat → Int} {Q : PV1 → Prop} {r : Int} {w3 : PV} {t w n : Nat} (ht : t < 2) (hw : I 32 6 = (w : Int)) (hw6 : w ≤ 6) (h9 : I 32 9 = (n : Int)) (hn20 : n ≤ 20) (hQ1 : ¬ muse I r → Q (some (zI (-1)), zH S I)) (hQ2 : muse I r → mplc I w t r = -1 → Q (some (zI (-2)), zH S I))
    (hQ3 : muse I r → ∀ (p : Nat) (J : Nat → Nat → Int), mplc I w t r = (p : Int) → p < w → Kep I J n (-1) → Q (some (zI (p : Int)), zH S (zs2 (zs2 J 39 (6 * t + p) (-2)) 32 21 0))) : Wp 150 (0, [zA 32, zI (t : Int), zI r, w3], [], zH S I) Q := by
  refine (sg_X6_strike_0_32 _ _ _ _ _ _).mpr ?_
  refine m_isTable ?_
  refine (sg_X6_strike_4_32 _ _ _ _ _ _ _).mpr ?_
  refine zcdB (fun h => absurd (by omega) h) (fun _ => ?_)
  refine m_isRule ?_
  refine (sg_X6_strike_12_32 _ _ _ _ _ _ _).mpr ?_
  refine zcdB (fun h => hQ1 h) (fun h1 => ?_)
  refine m_placeOf ht hw hw6 ?_
  refine (sg_X6_strike_23_32 _ _ _ _ _ _ _).mpr ?_
  rcases zfs_spec (P := fun p => I 39 (6 * t + p) = r) w 0 with ⟨g1, -⟩ | ⟨p, g1, -, g3, -, -⟩
  · have e : mplc I w t r = -1 := g1
    refine zcd (fun _ => hQ2 h1 e) (fun h => absurd (by omega) h)
  · have e : mplc I w t r = (p : Int) := g1
    rw [e]
    refine zcd (fun h => absurd h (by omega)) (fun _ => ?_)
    refine m_keep h9 hn20 (Or.inl (by decide)) (fun J hJ => ?_)
    refine (sg_X6_strike_36_32 _ _ _ _ _ _).mpr ?_
    rw [zix ht (by omega), Int.toNat_natCast]
    exact zgd (by omega) (hQ3 h1 p J e (by omega) hJ)
theorem m_at_n {S : PS} {I : Nat → Nat → Int} {Q : PV1 → Prop} {t p : Int} (ht : t < 0 ∨ 2 ≤ t) (hQ : Q (some (zI (-1)), zH S I)) : Wp 151 (0, [zA 32, zI t, zI p], [], zH S I) Q := by
  refine (sg_X6_at_0_32 _ _ _ _ _).mpr ?_
  refine m_isTable ?_
  refine (sg_X6_at_4_32 _ _ _ _ _ _).mpr ?_
  exact zcdB (fun _ => hQ) (fun h => absurd h (by omega))
theorem m_at {S : PS} {I : Nat → Nat → Int} {Q : PV1 → Prop} {p : Int} {t w : Nat} (ht : t < 2) (hw : I 32 6 = (w : Int)) (hw6 : w ≤ 6) (hQ : Q (some (zI (if ¬ (0 ≤ p ∧ p < (w : Int)) then (-1) else I 39 (6 * t + p.toNat))), zH S I)) : Wp 151 (0, [zA 32, zI (t : Int), zI p], [], zH S I) Q := by
  refine (sg_X6_at_0_32 _ _ _ _ _).mpr ?_
  refine m_isTable ?_
  refine (sg_X6_at_4_32 _ _ _ _ _ _).mpr ?_
  refine zcdB (fun h => absurd (by omega) h) (fun _ => ?_)
  rw [hw, zsb_eq (by omega)]
  refine m_in ?_
  refine (sg_X6_at_18_32 _ _ _ _ _ _).mpr ?_
  refine zcdB (fun h => by rw [if_pos (fun c => h ⟨c.1, by omega⟩)] at hQ; exact hQ) (fun h => ?_)
  rw [if_neg (not_not_intro ⟨h.1, by omega⟩)] at hQ
  obtain ⟨q, rfl⟩ : ∃ q : Nat, p = (q : Int) := ⟨p.toNat, by omega⟩
  rw [zix ht (by omega), Int.toNat_natCast]
  rw [Int.toNat_natCast] at hQ
  exact zgd (by omega) hQ
theorem m_over {S : PS} {I : Nat → Nat → Int} {Q : PV1 → Prop} {n : Nat} (h9 : I 32 9 = (n : Int)) (hn20 : n ≤ 20) (h7 : I 32 7 = 0 ∨ I 32 7 = 1) (hQ : ∀ J, Kep I J n (-1) → Q (some (zI (1 - I 32 7)), zH S (zs2 J 32 7 (1 - I 32 7)))) : Wp 163 (0, [zA 32], [], zH S I) Q := by
  refine (sg_X6_over_0_32 _ _ _).mpr ?_
  refine m_keep h9 hn20 (Or.inl (by decide)) (fun J hJ => ?_)
  refine (sg_X6_over_5_32 _ _ _).mpr ?_
  have e : J 32 7 = I 32 7 := hJ.2.2.2.2.2.2.2.2 7 (by decide)
  rw [zs2_at, e, zsb_eq (by omega)]
  exact hQ J hJ
