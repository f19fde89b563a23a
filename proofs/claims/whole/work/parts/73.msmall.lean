/-! the reference: rule, last, overlap, higher, drop, act -/
theorem mfree_ex {I : Nat → Nat → Int} (h : 1 ≤ zcnt (fun r => I 33 r = 0) 16) : ∃ u : Nat, u < 16 ∧ I 33 u = 0 ∧ ∀ v, v < u → I 33 v ≠ 0 := by
  rcases zfs_spec (P := fun r => I 33 r = 0) 16 0 with ⟨-, h2⟩ | ⟨j, -, -, h3, h4, h5⟩
  · have := zcnt_0 (P := fun r => I 33 r = 0) 16 (fun i hi => h2 i (Nat.zero_le _) (by omega))
    omega
  · exact ⟨j, by omega, h4, fun v hv => h5 v (Nat.zero_le _) hv⟩
abbrev mrok (v m rk ac : Int) : Prop := (0 ≤ v ∧ v ≤ 31) ∧ (0 ≤ m ∧ m ≤ 31) ∧ (0 ≤ rk ∧ rk ≤ 99) ∧ (0 ≤ ac ∧ ac ≤ 15)
theorem m_rule {S : PS} {I : Nat → Nat → Int} {Q : PV1 → Prop} {v m rk ac : Int} (hQ1 : ¬ mrok v m rk ac → Q (some (zI (-1)), zH S I)) (hQ2 : mrok v m rk ac → zcnt (fun r => I 33 r = 0) 16 = 0 → Q (some (zI (-3)), zH S I))
    (hQ3 : mrok v m rk ac → ∀ u : Nat, u < 16 → I 33 u = 0 → (∀ x, x < u → I 33 x ≠ 0) → Q (some (zI (u : Int)), zH S (mset I u 0 v m rk ac))) : Wp 128 (0, [zA 32, zI v, zI m, zI rk, zI ac], [], zH S I) Q := by
  refine (sg_X6_rule_0_32 _ _ _ _ _ _ _).mpr ?_
  refine m_in ?_
  refine (sg_X6_rule_7_32 _ _ _ _ _ _ _ _).mpr ?_
  refine zcdB (fun h => hQ1 (fun w => h w.1)) (fun h1 => ?_)
  refine m_in ?_
  refine (sg_X6_rule_17_32 _ _ _ _ _ _ _ _).mpr ?_
  refine zcdB (fun h => hQ1 (fun w => h w.2.1)) (fun h2 => ?_)
  refine m_in ?_
  refine (sg_X6_rule_27_32 _ _ _ _ _ _ _ _).mpr ?_
  refine zcdB (fun h => hQ1 (fun w => h w.2.2.1)) (fun h3 => ?_)
  refine m_in ?_
  refine (sg_X6_rule_38_32 _ _ _ _ _ _ _ _).mpr ?_
  refine zcdB (fun h => hQ1 (fun w => h w.2.2.2)) (fun h4 => ?_)
  refine m_freeRules ?_
  refine (sg_X6_rule_47_32 _ _ _ _ _ _ _ _).mpr ?_
  refine zcd (fun h0 => ?_) (fun h0 => ?_)
  · refine (sg_X6_rule_65 _ _ _ _ _ _ _ _ _).mpr ?_
    exact hQ2 ⟨h1, h2, h3, h4⟩ (by omega)
  · obtain ⟨u, u1, u2, u3⟩ := mfree_ex (I := I) (by omega)
    refine m_add u1 u2 u3 ?_
    refine (sg_X6_rule_65 _ _ _ _ _ _ _ _ _).mpr ?_
    exact hQ3 ⟨h1, h2, h3, h4⟩ u u1 u2 u3
theorem m_last {S : PS} {I : Nat → Nat → Int} {Q : PV1 → Prop} {ac : Int} (hQ1 : ¬ (0 ≤ ac ∧ ac ≤ 15) → Q (some (zI (-1)), zH S I)) (hQ2 : (0 ≤ ac ∧ ac ≤ 15) → zcnt (fun r => I 33 r = 0) 16 = 0 → Q (some (zI (-3)), zH S I))
    (hQ3 : (0 ≤ ac ∧ ac ≤ 15) → ∀ u : Nat, u < 16 → I 33 u = 0 → (∀ x, x < u → I 33 x ≠ 0) → Q (some (zI (u : Int)), zH S (mset I u 2 0 0 0 ac))) : Wp 129 (0, [zA 32, zI ac], [], zH S I) Q := by
  refine (sg_X6_last_0_32 _ _ _ _).mpr ?_
  refine m_in ?_
  refine (sg_X6_last_7_32 _ _ _ _ _).mpr ?_
  refine zcdB (fun h => ?_) (fun h1 => ?_)
  · exact (sg_X6_last_35 _ _ _ _ _ _).mpr (hQ1 h)
  refine m_freeRules ?_
  refine (sg_X6_last_18_32 _ _ _ _ _).mpr ?_
  refine zcd (fun h0 => ?_) (fun h0 => ?_)
  · exact (sg_X6_last_35 _ _ _ _ _ _).mpr (hQ2 h1 (by omega))
  · obtain ⟨u, u1, u2, u3⟩ := mfree_ex (I := I) (by omega)
    refine m_add u1 u2 u3 ?_
    exact (sg_X6_last_35 _ _ _ _ _ _).mpr (hQ3 h1 u u1 u2 u3)
theorem m_overlap {S : PS} {I : Nat → Nat → Int} {Q : PV1 → Prop} {a b : Int} (hQ : Q (some (zI (if ¬ (muse I a ∧ muse I b) then (-1) else if mov I a b then 1 else 0)), zH S I)) : Wp 136 (0, [zA 32, zI a, zI b], [], zH S I) Q := by
  refine (sg_X6_overlap_0_32 _ _ _ _ _).mpr ?_
  refine m_isRule ?_
  refine (sg_X6_overlap_5_32 _ _ _ _ _ _).mpr ?_
  refine zcdB (fun h => by rw [if_pos (fun w => h w.1)] at hQ; exact hQ) (fun h1 => ?_)
  refine m_isRule ?_
  refine (sg_X6_overlap_13_32 _ _ _ _ _ _).mpr ?_
  refine zcdB (fun h => by rw [if_pos (fun w => h w.2)] at hQ; exact hQ) (fun h2 => ?_)
  rw [if_neg (not_not_intro ⟨h1, h2⟩)] at hQ
  refine m_doOverlap ⟨h1.1, by have := h1.2.1; omega⟩ ⟨h2.1, by have := h2.2.1; omega⟩ ?_
  refine (sg_X6_overlap_26 _ _ _ _ _ _ _).mpr ?_
  exact zcdB (fun h => by rw [if_neg h] at hQ; exact hQ) (fun h => by rw [if_pos h] at hQ; exact hQ)
theorem m_higher {S : PS} {I : Nat → Nat → Int} {Q : PV1 → Prop} {a b : Int} (hQ : Q (some (zI (if ¬ (muse I a ∧ muse I b) then (-1) else if a = b then 0 else if mhi I a b then 1 else 2)), zH S I)) : Wp 137 (0, [zA 32, zI a, zI b], [], zH S I) Q := by
  refine (sg_X6_higher_0_32 _ _ _ _ _).mpr ?_
  refine m_isRule ?_
  refine (sg_X6_higher_5_32 _ _ _ _ _ _).mpr ?_
  refine zcdB (fun h => by rw [if_pos (fun w => h w.1)] at hQ; exact hQ) (fun h1 => ?_)
  refine m_isRule ?_
  refine (sg_X6_higher_13_32 _ _ _ _ _ _).mpr ?_
  refine zcdB (fun h => by rw [if_pos (fun w => h w.2)] at hQ; exact hQ) (fun h2 => ?_)
  rw [if_neg (not_not_intro ⟨h1, h2⟩)] at hQ
  refine zcd (fun h => by rw [if_pos h] at hQ; exact hQ) (fun h => ?_)
  rw [if_neg h] at hQ
  refine m_isHigher ⟨h1.1, by have := h1.2.1; omega⟩ ⟨h2.1, by have := h2.2.1; omega⟩ ?_
  refine (sg_X6_higher_35 _ _ _ _ _ _ _).mpr ?_
  exact zcdB (fun h => by rw [if_neg h] at hQ; exact hQ) (fun h => by rw [if_pos h] at hQ; exact hQ)
theorem mplc_in {I : Nat → Nat → Int} {w t : Nat} {r : Int} : mplc I w t r = -1 ∨ 0 ≤ mplc I w t r := by
  rcases zfs_spec (P := fun p => I 39 (6 * t + p) = r) w 0 with ⟨h1, -⟩ | ⟨j, h1, -⟩
  · exact Or.inl h1
  · right; rw [show mplc I w t r = (j : Int) from h1]; omega
theorem m_drop {S : PS} {I : Nat → Nat → Int} {Q : PV1 → Prop} {r : Int} {w : Nat} (hw : I 32 6 = (w : Int)) (hw6 : w ≤ 6) (hQ1 : ¬ muse I r → Q (some (zI (-1)), zH S I)) (hQ2 : muse I r → ¬ (mplc I w 0 r = -1 ∧ mplc I w 1 r = -1) → Q (some (zI (-2)), zH S I))
    (hQ3 : muse I r → mplc I w 0 r = -1 → mplc I w 1 r = -1 → Q (some (zI 1), zH S (zs2 (zs2 I 33 r.toNat 0) 32 9 0))) : Wp 134 (0, [zA 32, zI r], [], zH S I) Q := by
  refine (sg_X6_drop_0_32 _ _ _ _).mpr ?_
  refine m_isRule ?_
  refine (sg_X6_drop_5_32 _ _ _ _ _).mpr ?_
  refine zcdB (fun h => hQ1 h) (fun h1 => ?_)
  refine m_placeOf (t := 0) (by decide) hw hw6 ?_
  refine (sg_X6_drop_16_32 _ _ _ _ _).mpr ?_
  have i0 := mplc_in (I := I) (w := w) (t := 0) (r := r)
  have i1 := mplc_in (I := I) (w := w) (t := 1) (r := r)
  refine zcd (fun h2 => ?_) (fun h2 => hQ2 h1 (fun w => by have := w.1; omega))
  refine m_placeOf (t := 1) (by decide) hw hw6 ?_
  refine (sg_X6_drop_25_32 _ _ _ _ _).mpr ?_
  refine zcd (fun h3 => zgdb (by have := h1.1; have := h1.2.1; omega) (Or.inl rfl) (hQ3 h1 (by omega) (by omega))) (fun h3 => hQ2 h1 (fun w => by have := w.2; omega))
theorem m_act {S : PS} {I : Nat → Nat → Int} {Q : PV1 → Prop} {r a : Int} {w3 : PV} (hQ1 : ¬ (muse I r ∧ 0 ≤ a ∧ a ≤ 15) → Q (some (zI (-1)), zH S I)) (hQ2 : (muse I r ∧ 0 ≤ a ∧ a ≤ 15) → I 34 r.toNat = 2 → Q (some (zI (-13)), zH S I))
    (hQ3 : (muse I r ∧ 0 ≤ a ∧ a ≤ 15) → I 34 r.toNat ≠ 2 → Q (some (zI (I 38 r.toNat)), zH S (zs2 (zs2 I 38 r.toNat a) 32 9 0))) : Wp 135 (0, [zA 32, zI r, zI a, w3], [], zH S I) Q := by
  refine (sg_X6_act_0_32 _ _ _ _ _ _).mpr ?_
  refine m_isRule ?_
  refine (sg_X6_act_5_32 _ _ _ _ _ _ _).mpr ?_
  refine zcdB (fun h => hQ1 (fun w => h w.1)) (fun h1 => ?_)
  refine m_in ?_
  refine (sg_X6_act_15_32 _ _ _ _ _ _ _).mpr ?_
  refine zcdB (fun h => hQ1 (fun w => h w.2)) (fun h2 => ?_)
  have b1 := h1.1
  have b2 := h1.2.1
  refine zgd (by omega) (zcd (fun h => hQ2 ⟨h1, h2⟩ h) (fun h => zgd (by omega) (zgd (by omega) (hQ3 ⟨h1, h2⟩ h))))
