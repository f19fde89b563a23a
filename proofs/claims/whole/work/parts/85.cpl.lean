/-! the coupling of both objects -/
def CplWay (I : Nat → Nat → Int) : Prop := ∃ n : Nat, n ≤ 16 ∧ I 25 2 = (n : Int) ∧ I 32 21 = (n : Int) ∧ ∀ i, i < n → I 48 i = I 26 i ∧ I 49 i = I 27 i
def Cpl (I : Nat → Nat → Int) (w : Nat) : Prop := ((2 ≤ w ∧ w ≤ 6) ∧ I 32 6 = (w : Int) ∧ I 7 2 = (w : Int) ∧ I 9 2 = (w : Int)) ∧ ((I 0 8 = 0 ∨ I 0 8 = 1) ∧ I 32 7 = I 0 8) ∧ CR I ∧ (Row I w 0 8 ∧ Row I w 1 10) ∧ Mett I ∧ CplWay I ∧ CplH I w (I 4)
theorem CplH_59 {I : Nat → Nat → Int} {w : Nat} {M : Nat → Int} (h : CplH I w M) : (0 ≤ I 19 5 ∧ I 19 5 < 20) ∧ (0 ≤ I 19 6 ∧ I 19 6 ≤ 20) ∧ ∃ n : Nat, n ≤ 20 ∧ I 19 6 = (n : Int) ∧ I 32 9 = (n : Int) := by
  obtain ⟨es, ⟨r5, r6, rl, -⟩, ⟨s9, -⟩, -⟩ := h
  exact ⟨r5, by omega, es.length, rl, r6, s9⟩
theorem Row_rw {I : Nat → Nat → Int} {w t c : Nat} (h : Row I w t c) : xrw I c := h.1.2.2.1
theorem Cpl_16 {I : Nat → Nat → Int} {w : Nat} (h : Cpl I w) : ∀ u, u < 2 → ∀ p, p < w → I 39 (6 * u + p) < 16 := fun u hu p hp => by
  rcases (show u = 0 ∨ u = 1 by omega) with rfl | rfl
  · exact Row_16 h.2.2.2.1.1 p hp
  · exact Row_16 h.2.2.2.1.2 p hp
/-- what stays outside of what both look at -/
theorem Cpl_frame {I J : Nat → Nat → Int} {w : Nat} (h : Cpl I w) (c0 : J 0 8 = I 0 8) (c7 : J 7 2 = I 7 2) (c9 : J 9 2 = I 9 2) (c8 : J 8 = I 8) (c10 : J 10 = I 10) (ch : ∀ d, 19 ≤ d → d ≤ 24 → J d = I d) (c25 : J 25 2 = I 25 2) (c26 : J 26 = I 26) (c27 : J 27 = I 27)
    (c2 : ∀ r, r < 16 → J 2 r = I 2 r ∧ J 3 r = I 3 r ∧ J 4 r = I 4 r ∧ J 5 r = I 5 r ∧ J 6 r = I 6 r) (m3 : ∀ r, r < 16 → J 33 r = I 33 r ∧ J 34 r = I 34 r ∧ J 35 r = I 35 r ∧ J 36 r = I 36 r ∧ J 37 r = I 37 r ∧ J 38 r = I 38 r)
    (m39 : J 39 = I 39) (m40 : J 40 = I 40) (m48 : J 48 = I 48) (m49 : J 49 = I 49) (m6 : J 32 6 = I 32 6) (m7 : J 32 7 = I 32 7) (m9 : J 32 9 = I 32 9) (m21 : J 32 21 = I 32 21) (mm : Mett J) : Cpl J w := by
  obtain ⟨⟨h1, h2, h3, h4⟩, ⟨h5, h6⟩, h7, ⟨h8, h9⟩, h10, ⟨n, a1, a2, a3, a4⟩, h12⟩ := h
  have row : ∀ (t c : Nat), J c = I c → Row I w t c → Row J w t c := fun t c e hr => by
    obtain ⟨b1, b2, b3⟩ := hr
    unfold Row MRow
    rw [e, m39]
    exact ⟨VT_us b1 b2 (fun r hr hu => ⟨(c2 r hr).2.1, (c2 r hr).2.2.1, (c2 r hr).2.2.2.1⟩), Us_us b1.2.2.1 b2 (fun r hr _ => (c2 r hr).1), b3⟩
  refine ⟨⟨h1, by rw [m6]; exact h2, by rw [c7]; exact h3, by rw [c9]; exact h4⟩, ⟨by rw [c0]; exact h5, by rw [m7, c0]; exact h6⟩, fun r hr => ?_, ⟨row 0 8 c8 h8, row 1 10 c10 h9⟩, mm, ⟨n, a1, by rw [c25]; exact a2, by rw [m21]; exact a3, fun i hi => by rw [m48, m49, c26, c27]; exact a4 i hi⟩, ?_⟩
  · unfold RA
    rw [(c2 r hr).1, (c2 r hr).2.1, (c2 r hr).2.2.1, (c2 r hr).2.2.2.1, (c2 r hr).2.2.2.2, (m3 r hr).1, (m3 r hr).2.1, (m3 r hr).2.2.1, (m3 r hr).2.2.2.1, (m3 r hr).2.2.2.2.1, (m3 r hr).2.2.2.2.2]
    exact h7 r hr
  · exact CplH_same h12 (ch 19 (by decide) (by decide)) (ch 20 (by decide) (by decide)) (ch 21 (by decide) (by decide)) (ch 22 (by decide) (by decide)) (ch 23 (by decide) (by decide)) (ch 24 (by decide) (by decide)) m40 m9 (fun r hr _ => ⟨(c2 r hr).1, (c2 r hr).2.1, (c2 r hr).2.2.1, (c2 r hr).2.2.2.1⟩)
theorem zs2_j {I : Nat → Nat → Int} {d k j : Nat} {x : Int} : zs2 I d k x d j = if j = k then x else I d j := by
  rw [zs2_same]
theorem xrem_cells {I : Nat → Nat → Int} : xrem I 19 5 = (I 19 5 + 1) % 20 ∧ xrem I 19 6 = min (I 19 6 + 1) 20 ∧ (∀ j, xrem I 20 j = if j = (I 19 5).toNat then xpk (I 8) 6 else I 20 j) ∧ (∀ j, xrem I 21 j = if j = (I 19 5).toNat then xpk (I 10) 6 else I 21 j) ∧ (∀ j, xrem I 22 j = if j = (I 19 5).toNat then I 0 8 else I 22 j) ∧ (∀ j, xrem I 23 j = if j = (I 19 5).toNat then -1 else I 23 j) ∧ (∀ j, xrem I 24 j = if j = (I 19 5).toNat then 0 else I 24 j) := by
  unfold xrem xpush
  refine ⟨by rw [zs2_ne2 _ _ _ _ (by decide), zs2_at], by rw [zs2_at], fun j => ?_, fun j => ?_, fun j => ?_, fun j => ?_, fun j => ?_⟩
  all_goals
    simp (disch := decide) only [zs2_ne]
    rw [zs2_j]
    try simp (disch := decide) only [zs2_ne]
/-- kept on both sides by an act that changes no rule -/
theorem CplH_rem {I J : Nat → Nat → Int} {w n : Nat} (h : Cpl I w) (h9 : I 32 9 = (n : Int)) (c : ∀ d, 19 ≤ d → d ≤ 24 → J d = xrem I d) (k : Kpt I J n (-1)) (j2 : J 2 = I 2) (j3 : J 3 = I 3) (j4 : J 4 = I 4) (j5 : J 5 = I 5) : CplH J w (J 4) := by
  obtain ⟨⟨h1, h2, h3, h4⟩, ⟨h5, h6⟩, h7, ⟨h8, h9'⟩, h10, h11, h12⟩ := h
  obtain ⟨x1, x2, x3, x4, x5, x6, x7⟩ := xrem_cells (I := I)
  obtain ⟨k1, k2, k3, k4, k5, k6, k7⟩ := k
  have vt : ∀ f, VT I (w : Int) f → VT (wM J (I 4)) (w : Int) f := fun f hf => VT_congr (fun j _ => by rw [wM_ne _ _ (by decide), j3]) (fun j _ => by rw [wM_4]) (fun j _ => by rw [wM_ne _ _ (by decide), j5]) hf
  have us : ∀ f, Us I f → Us J f := fun f hf q hq hne => by rw [j2]; exact hf q hq hne
  refine CplH_push (e := (I 8, I 10, I 0 8, -1, 0)) h12 h9 (by rw [HM, if_pos rfl, j4]) ⟨⟨vt _ h8.1, us _ h8.2.1⟩, ⟨vt _ h9'.1, us _ h9'.2.1⟩, h5, Or.inl rfl⟩ (fun r _ _ => by rw [j2, j3, j5]; exact ⟨rfl, rfl, rfl, rfl⟩) (by rw [c 19 (by decide) (by decide)]; exact x1) (by rw [c 19 (by decide) (by decide)]; exact x2) (fun j => by rw [c 20 (by decide) (by decide)]; exact x3 j) (fun j => by rw [c 21 (by decide) (by decide)]; exact x4 j) (fun j => by rw [c 22 (by decide) (by decide)]; exact x5 j) (fun j => by rw [c 23 (by decide) (by decide)]; exact x6 j) (fun j => by rw [c 24 (by decide) (by decide)]; exact x7 j) k1 k2 (fun p hp => ?_) (fun p hp => ?_) (by rw [k4]; exact h6) k5 (fun hne => absurd rfl hne) h1.2
  · rw [k3 p (by omega)]
    have := h8.2.2 p hp
    rw [show 6 * 0 + p = p by omega] at this
    exact this
  · rw [k3 (6 + p) (by omega)]
    have := h9'.2.2 p hp
    rw [show 6 * 1 + p = 6 + p by omega] at this
    exact this
/-- a pair of calls: the class's, then the reference's, answers alike -/
def PQ (S : PS) (mm : Nat) (ls : List PV) : PV1 → Prop := fun z => ∃ (x : Int) (I1 : Nat → Nat → Int), z = (some (zI x), zH S I1) ∧ Wp mm (0, ls, [], zH S I1) (fun z' => ∃ (J : Nat → Nat → Int) (w : Nat), z' = (some (zI x), zH S J) ∧ Cpl J w)
theorem pq_ro {S : PS} {I : Nat → Nat → Int} {w mm : Nat} {ls : List PV} {x : Int} (h : Cpl I w) (k : ∀ Q : PV1 → Prop, Q (some (zI x), zH S I) → Wp mm (0, ls, [], zH S I) Q) : PQ S mm ls (some (zI x), zH S I) := ⟨x, I, rfl, k _ ⟨I, w, rfl, h⟩⟩
theorem pr_told {S : PS} {I : Nat → Nat → Int} {w : Nat} {r x : Int} (h : Cpl I w) : Wp 82 (0, [zA 0, zI r, zI x], [], zH S I) (PQ S 133 [zA 32, zI r, zI x]) := by
  refine c_told ?_
  refine pq_ro h (fun Q hQ => m_told h.1.2.1 h.1.1.2 (zq hQ ?_ rfl))
  have hC := h.2.2.1
  by_cases hu : xuse I r
  · obtain ⟨⟨a1, a2, a3⟩, b1, b2, -, -⟩ := CR_at hC hu
    rw [if_neg (not_not_intro hu), if_neg (not_not_intro ((CR_use hC).mpr hu)), a1, a2, a3, b1, b2, Row_plc h.2.2.2.1.1 hu.1, Row_plc h.2.2.2.1.2 hu.1]
  · rw [if_pos hu, if_pos (fun c => hu ((CR_use hC).mp c))]
theorem pr_overlap {S : PS} {I : Nat → Nat → Int} {w : Nat} {a b : Int} (h : Cpl I w) : Wp 85 (0, [zA 0, zI a, zI b], [], zH S I) (PQ S 136 [zA 32, zI a, zI b]) := by
  refine c_overlap ?_
  refine pq_ro h (fun Q hQ => m_overlap (zq hQ ?_ rfl))
  have hC := h.2.2.1
  by_cases hu : xuse I a ∧ xuse I b
  · have e1 := (CR_use hC).mpr hu.1
    have e2 := (CR_use hC).mpr hu.2
    have ov := RA_ov (use_num hu.1) (use_num hu.2) (CR_at hC hu.1).1 (CR_at hC hu.2).1
    rw [if_neg (fun c => c.elim (fun z => z hu.1) (fun z => z hu.2)), if_neg (not_not_intro ⟨e1, e2⟩), zB]
    exact ite_congr (propext ov.symm) (fun _ => rfl) (fun _ => rfl)
  · rw [if_pos (by by_cases c : xuse I a
                   · exact Or.inr (fun z => hu ⟨c, z⟩)
                   · exact Or.inl c), if_pos (fun c => hu ⟨(CR_use hC).mp c.1, (CR_use hC).mp c.2⟩)]
theorem pr_higher {S : PS} {I : Nat → Nat → Int} {w : Nat} {a b : Int} (h : Cpl I w) : Wp 86 (0, [zA 0, zI a, zI b], [], zH S I) (PQ S 137 [zA 32, zI a, zI b]) := by
  refine c_higher ?_
  refine pq_ro h (fun Q hQ => m_higher (zq hQ ?_ rfl))
  have hC := h.2.2.1
  by_cases hu : xuse I a ∧ xuse I b
  · have e1 := (CR_use hC).mpr hu.1
    have e2 := (CR_use hC).mpr hu.2
    have hi := RA_hi (use_num hu.1) (use_num hu.2) (CR_at hC hu.1).1 (CR_at hC hu.2).1
    rw [if_neg (fun c => c.elim (fun z => z hu.1) (fun z => z hu.2)), if_neg (not_not_intro ⟨e1, e2⟩)]
    by_cases e : a = b
    · rw [if_pos e, if_pos e]
    · rw [if_neg e, if_neg e]
      exact ite_congr (propext hi.symm) (fun _ => rfl) (fun _ => rfl)
  · rw [if_pos (by by_cases c : xuse I a
                   · exact Or.inr (fun z => hu ⟨c, z⟩)
                   · exact Or.inl c), if_pos (fun c => hu ⟨(CR_use hC).mp c.1, (CR_use hC).mp c.2⟩)]
theorem pr_write {S : PS} {I : Nat → Nat → Int} {w : Nat} {i x : Int} (h : Cpl I w) : Wp 89 (0, [zA 0, zI i, zI x], [], zH S I) (PQ S 149 [zA 32, zI i, zI x]) := by
  refine c_write ?_
  obtain ⟨n, a1, a2, a3, a4⟩ := h.2.2.2.2.2.1
  refine pq_ro h (fun Q hQ => m_write a3 (by omega) (zq hQ ?_ rfl))
  rw [a2]
  by_cases e : i = -1
  · rw [if_pos e, if_pos e]
  rw [if_neg e, if_neg e]
  by_cases c : (0 ≤ i ∧ i < (n : Int)) ∧ (0 ≤ x ∧ x ≤ 1)
  · obtain ⟨k, rfl⟩ : ∃ k : Nat, i = (k : Int) := ⟨i.toNat, by omega⟩
    have := a4 k (by omega)
    rw [if_neg (by omega), if_neg (not_not_intro c), Int.toNat_natCast, this.1, this.2]
    by_cases ex : x = 0
    · rw [if_pos ex, if_pos ex, if_pos (by omega)]
    · rw [if_neg ex, if_neg ex, if_pos (by omega)]
  · rw [if_pos (by omega), if_pos c]
theorem pr_judged {S : PS} {I : Nat → Nat → Int} {w : Nat} {t k : Int} (h : Cpl I w) : Wp 92 (0, [zA 0, zI t, zI k, zU], [], zH S I) (PQ S 153 [zA 32, zI t, zI k]) := by
  have hC := h.2.2.1
  refine c_judged_x h.2.1.1 (fun hn => ?_) (fun hk u hu ht => ?_)
  · exact pq_ro h (fun Q hQ => m_judged h.1.2.1 h.1.1.2 (Cpl_16 h) (by rw [h.2.1.2]; exact h.2.1.1) (fun _ => hQ) (fun hk u hu ht => absurd ⟨by
      rcases ht with ht | ht <;> omega, hk⟩ hn))
  · refine pq_ro h (fun Q hQ => m_judged h.1.2.1 h.1.1.2 (Cpl_16 h) (by rw [h.2.1.2]; exact h.2.1.1) (fun hn => absurd ⟨by
      rcases ht with ht | ht <;> omega, hk⟩ hn) (fun _ u' hu' ht' => zq hQ ?_ rfl))
    have : u' = u := by
      rw [h.2.1.2] at ht'
      rcases ht with ht | ht <;> rcases ht' with ht' | ht' <;> omega
    subst this
    rcases (show u' = 0 ∨ u' = 1 by omega) with rfl | rfl
    · rw [if_pos rfl, Row_jud hC h.2.2.2.1.1]
    · rw [if_neg (by decide), Row_jud hC h.2.2.2.1.2]
theorem pr_differ {S : PS} {I : Nat → Nat → Int} {w : Nat} (h : Cpl I w) : Wp 99 (0, [zA 0, zU, zU], [], zH S I) (PQ S 164 [zA 32, zU, zU]) := by
  have hC := h.2.2.1
  refine c_differ ?_
  refine pq_ro h (fun Q hQ => m_differ h.1.2.1 h.1.1.2 (Cpl_16 h) (zq hQ ?_ rfl))
  exact congrArg (fun n : Nat => (n : Int)) (zcnt_congr 32 (fun q _ => by rw [Row_jud hC h.2.2.2.1.1, Row_jud hC h.2.2.2.1.2]))
theorem pr_count {S : PS} {I : Nat → Nat → Int} {w : Nat} {x : Int} (h : Cpl I w) : Wp 102 (0, [zA 0, zI x], [], zH S I) (PQ S 166 [zA 32, zI x, zU, zU]) := by
  have hC := h.2.2.1
  refine c_count ?_
  refine pq_ro h (fun Q hQ => m_count h.1.2.1 h.1.1.2 (zq hQ ?_ rfl))
  obtain ⟨-, -, n, -, b1, b2⟩ := CplH_59 h.2.2.2.2.2.2
  rw [CR_cnt hC, Row_std h.2.2.2.1.1, Row_std h.2.2.2.1.2, h.1.2.2.1, h.2.1.2, b1, b2]
