/-! pairs that change nothing, by tables -/
theorem pr_at_7 {S : PS} {I : Nat → Nat → Int} {w : Nat} {t pl : Int} (ht : t = 0) (h : Cpl I w) : Wp 91 (0, [zA 0, zI t, zI pl, zU, zU], [], zH S I) (PQ S 151 [zA 32, zI t, zI pl]) := by
  refine c_at_7 ht ?_
  subst ht
  refine pq_ro h (fun Q hQ => m_at (t := 0) (by decide) h.1.2.1 h.1.1.2 (zq hQ ?_ rfl))
  rw [h.1.2.2.1]
  by_cases c : 0 ≤ pl ∧ pl < (w : Int)
  · have h6 := h.1.1.2
    rw [if_neg (not_not_intro c), if_neg (not_not_intro c), if_pos (show xisp (w : Int) pl from ⟨c.1, c.2, by omega⟩)]
    rcases Row_cell h.2.2.2.1.1 (p := pl.toNat) (by omega) with ⟨a1, a2⟩ | ⟨a1, a2, a3⟩
    · rw [if_pos a1, a2]
    · rw [if_neg a1, a2]
  · rw [if_pos c, if_pos c]
theorem pr_right_7 {S : PS} {I : Nat → Nat → Int} {w : Nat} {t : Int} (ht : t = 0) (h : Cpl I w) : Wp 93 (0, [zA 0, zI t, zU, zU, zU], [], zH S I) (PQ S 155 [zA 32, zI t, zU, zU]) := by
  have hC := h.2.2.1
  refine c_right_7 ht ?_
  subst ht
  refine pq_ro h (fun Q hQ => m_right (t := 0) (by decide) h.1.2.1 h.1.1.2 (Cpl_16 h 0 (by decide)) (zq hQ ?_ rfl))
  exact congrArg (fun n : Nat => (n : Int)) (zcnt_congr 32 (fun q _ => by rw [Row_jud hC h.2.2.2.1.1, Row_due hC h.2.2.2.1.1]))
theorem pr_covered_7 {S : PS} {I : Nat → Nat → Int} {w : Nat} {t r : Int} (ht : t = 0) (h : Cpl I w) : Wp 94 (0, [zA 0, zI t, zI r, zU], [], zH S I) (PQ S 157 [zA 32, zI t, zI r]) := by
  have hC := h.2.2.1
  refine c_covered_7 ht ?_
  subst ht
  refine pq_ro h (fun Q hQ => m_covered (t := 0) (by decide) h.1.2.1 h.1.1.2 (Cpl_16 h 0 (by decide)) (zq hQ ?_ rfl))
  by_cases hu : xuse I r
  · rw [if_neg (not_not_intro hu), if_neg (not_not_intro ((CR_use hC).mpr hu)), Row_plc h.2.2.2.1.1 hu.1, Row_shown hC h.2.2.2.1.1 hu]
    by_cases e : xplc (I 8) r = -1
    · rw [if_pos e, if_pos (by omega)]
    · obtain ⟨q, _, q2, _⟩ := xplc_in e
      rw [if_neg e, if_neg (show ¬ xplc (I 8) r < 0 by omega)]
      rcases xshown_in (I := I) (c := 8) (r := r) with z | z
      · rw [if_pos z, if_pos (by omega)]
      · rw [if_neg (by omega), if_neg (by omega)]
  · rw [if_pos hu, if_pos (fun c => hu ((CR_use hC).mp c))]
theorem pr_shown_7 {S : PS} {I : Nat → Nat → Int} {w : Nat} {t r : Int} (ht : t = 0) (h : Cpl I w) : Wp 95 (0, [zA 0, zI t, zI r, zU], [], zH S I) (PQ S 158 [zA 32, zI t, zI r]) := by
  have hC := h.2.2.1
  refine c_shown_7 ht ?_
  subst ht
  refine pq_ro h (fun Q hQ => m_shown (t := 0) (by decide) h.1.2.1 h.1.1.2 (Cpl_16 h 0 (by decide)) (zq hQ ?_ rfl))
  by_cases hu : xuse I r
  · rw [if_neg (not_not_intro hu), if_neg (not_not_intro ((CR_use hC).mpr hu)), Row_shown hC h.2.2.2.1.1 hu]
  · rw [if_pos hu, if_pos (fun c => hu ((CR_use hC).mp c))]
theorem pr_at_9 {S : PS} {I : Nat → Nat → Int} {w : Nat} {t pl : Int} (ht : t = 1) (h : Cpl I w) : Wp 91 (0, [zA 0, zI t, zI pl, zU, zU], [], zH S I) (PQ S 151 [zA 32, zI t, zI pl]) := by
  refine c_at_9 ht ?_
  subst ht
  refine pq_ro h (fun Q hQ => m_at (t := 1) (by decide) h.1.2.1 h.1.1.2 (zq hQ ?_ rfl))
  rw [h.1.2.2.2]
  by_cases c : 0 ≤ pl ∧ pl < (w : Int)
  · have h6 := h.1.1.2
    rw [if_neg (not_not_intro c), if_neg (not_not_intro c), if_pos (show xisp (w : Int) pl from ⟨c.1, c.2, by omega⟩)]
    rcases Row_cell h.2.2.2.1.2 (p := pl.toNat) (by omega) with ⟨a1, a2⟩ | ⟨a1, a2, a3⟩
    · rw [if_pos a1, a2]
    · rw [if_neg a1, a2]
  · rw [if_pos c, if_pos c]
theorem pr_right_9 {S : PS} {I : Nat → Nat → Int} {w : Nat} {t : Int} (ht : t = 1) (h : Cpl I w) : Wp 93 (0, [zA 0, zI t, zU, zU, zU], [], zH S I) (PQ S 155 [zA 32, zI t, zU, zU]) := by
  have hC := h.2.2.1
  refine c_right_9 ht ?_
  subst ht
  refine pq_ro h (fun Q hQ => m_right (t := 1) (by decide) h.1.2.1 h.1.1.2 (Cpl_16 h 1 (by decide)) (zq hQ ?_ rfl))
  exact congrArg (fun n : Nat => (n : Int)) (zcnt_congr 32 (fun q _ => by rw [Row_jud hC h.2.2.2.1.2, Row_due hC h.2.2.2.1.2]))
theorem pr_covered_9 {S : PS} {I : Nat → Nat → Int} {w : Nat} {t r : Int} (ht : t = 1) (h : Cpl I w) : Wp 94 (0, [zA 0, zI t, zI r, zU], [], zH S I) (PQ S 157 [zA 32, zI t, zI r]) := by
  have hC := h.2.2.1
  refine c_covered_9 ht ?_
  subst ht
  refine pq_ro h (fun Q hQ => m_covered (t := 1) (by decide) h.1.2.1 h.1.1.2 (Cpl_16 h 1 (by decide)) (zq hQ ?_ rfl))
  by_cases hu : xuse I r
  · rw [if_neg (not_not_intro hu), if_neg (not_not_intro ((CR_use hC).mpr hu)), Row_plc h.2.2.2.1.2 hu.1, Row_shown hC h.2.2.2.1.2 hu]
    by_cases e : xplc (I 10) r = -1
    · rw [if_pos e, if_pos (by omega)]
    · obtain ⟨q, _, q2, _⟩ := xplc_in e
      rw [if_neg e, if_neg (show ¬ xplc (I 10) r < 0 by omega)]
      rcases xshown_in (I := I) (c := 10) (r := r) with z | z
      · rw [if_pos z, if_pos (by omega)]
      · rw [if_neg (by omega), if_neg (by omega)]
  · rw [if_pos hu, if_pos (fun c => hu ((CR_use hC).mp c))]
theorem pr_shown_9 {S : PS} {I : Nat → Nat → Int} {w : Nat} {t r : Int} (ht : t = 1) (h : Cpl I w) : Wp 95 (0, [zA 0, zI t, zI r, zU], [], zH S I) (PQ S 158 [zA 32, zI t, zI r]) := by
  have hC := h.2.2.1
  refine c_shown_9 ht ?_
  subst ht
  refine pq_ro h (fun Q hQ => m_shown (t := 1) (by decide) h.1.2.1 h.1.1.2 (Cpl_16 h 1 (by decide)) (zq hQ ?_ rfl))
  by_cases hu : xuse I r
  · rw [if_neg (not_not_intro hu), if_neg (not_not_intro ((CR_use hC).mpr hu)), Row_shown hC h.2.2.2.1.2 hu]
  · rw [if_pos hu, if_pos (fun c => hu ((CR_use hC).mp c))]
theorem pr_at {S : PS} {I : Nat → Nat → Int} {w : Nat} {t pl : Int} (h : Cpl I w) : Wp 91 (0, [zA 0, zI t, zI pl, zU, zU], [], zH S I) (PQ S 151 [zA 32, zI t, zI pl]) := by
  by_cases h0 : t = 0
  · exact pr_at_7 h0 h
  by_cases h1 : t = 1
  · exact pr_at_9 h1 h
  · exact c_at_n (by omega) (pq_ro h (fun Q hQ => m_at_n (by omega) hQ))
theorem pr_right {S : PS} {I : Nat → Nat → Int} {w : Nat} {t : Int} (h : Cpl I w) : Wp 93 (0, [zA 0, zI t, zU, zU, zU], [], zH S I) (PQ S 155 [zA 32, zI t, zU, zU]) := by
  by_cases h0 : t = 0
  · exact pr_right_7 h0 h
  by_cases h1 : t = 1
  · exact pr_right_9 h1 h
  · exact c_right_n (by omega) (pq_ro h (fun Q hQ => m_right_n (by omega) hQ))
theorem pr_covered {S : PS} {I : Nat → Nat → Int} {w : Nat} {t r : Int} (h : Cpl I w) : Wp 94 (0, [zA 0, zI t, zI r, zU], [], zH S I) (PQ S 157 [zA 32, zI t, zI r]) := by
  by_cases h0 : t = 0
  · exact pr_covered_7 h0 h
  by_cases h1 : t = 1
  · exact pr_covered_9 h1 h
  · exact c_covered_n (by omega) (pq_ro h (fun Q hQ => m_covered_n (by omega) hQ))
theorem pr_shown {S : PS} {I : Nat → Nat → Int} {w : Nat} {t r : Int} (h : Cpl I w) : Wp 95 (0, [zA 0, zI t, zI r, zU], [], zH S I) (PQ S 158 [zA 32, zI t, zI r]) := by
  by_cases h0 : t = 0
  · exact pr_shown_7 h0 h
  by_cases h1 : t = 1
  · exact pr_shown_9 h1 h
  · exact c_shown_n (by omega) (pq_ro h (fun Q hQ => m_shown_n (by omega) hQ))
