/-! pairs: drop, act, over -/
theorem Row_of {I K : Nat → Nat → Int} {w t c : Nat} (k2 : K 2 = I 2) (k3 : K 3 = I 3) (k4 : K 4 = I 4) (k5 : K 5 = I 5) (hV : VT I (w : Int) (K c)) (hU : Us I (K c)) (hM : MRow K w t (K c)) : Row K w t c :=
  ⟨VT_congr (fun j _ => by rw [k3]) (fun j _ => by rw [k4]) (fun j _ => by rw [k5]) hV, fun q hq hne => by rw [k2]; exact hU q hq hne, hM⟩
theorem CR_of {I K : Nat → Nat → Int} (h : CR I) (k : ∀ d, (2 ≤ d ∧ d ≤ 6) ∨ (33 ≤ d ∧ d ≤ 38) → K d = I d) : CR K := fun r hr => by
  unfold RA
  rw [k 2 (by omega), k 3 (by omega), k 4 (by omega), k 5 (by omega), k 6 (by omega), k 33 (by omega), k 34 (by omega), k 35 (by omega), k 36 (by omega), k 37 (by omega), k 38 (by omega)]
  exact h r hr
/-- an act that is remembered and changes no rule -/
theorem Cpl_act {I K : Nat → Nat → Int} {w n : Nat} (h : Cpl I w) (h9 : I 32 9 = (n : Int)) (c : ∀ d, 19 ≤ d → d ≤ 24 → K d = xrem I d) (kk : Kpt I K n (-1)) (kr : ∀ d, (2 ≤ d ∧ d ≤ 6) ∨ (33 ≤ d ∧ d ≤ 38) → K d = I d) (k7 : K 7 2 = I 7 2) (k9 : K 9 2 = I 9 2) (k6 : K 32 6 = I 32 6)
    (kl : (K 0 8 = 0 ∨ K 0 8 = 1) ∧ K 32 7 = K 0 8) (hr0 : VT I (w : Int) (K 8) ∧ Us I (K 8) ∧ MRow K w 0 (K 8)) (hr1 : VT I (w : Int) (K 10) ∧ Us I (K 10) ∧ MRow K w 1 (K 10)) (hm : Mett K) (hw : CplWay K) : Cpl K w :=
  ⟨⟨h.1.1, by rw [k6]; exact h.1.2.1, by rw [k7]; exact h.1.2.2.1, by rw [k9]; exact h.1.2.2.2⟩, kl, CR_of h.2.2.1 kr,
    ⟨Row_of (kr 2 (by omega)) (kr 3 (by omega)) (kr 4 (by omega)) (kr 5 (by omega)) hr0.1 hr0.2.1 hr0.2.2, Row_of (kr 2 (by omega)) (kr 3 (by omega)) (kr 4 (by omega)) (kr 5 (by omega)) hr1.1 hr1.2.1 hr1.2.2⟩, hm, hw,
    CplH_rem h h9 c kk (kr 2 (by omega)) (kr 3 (by omega)) (kr 4 (by omega)) (kr 5 (by omega))⟩
theorem MRow_same {I K : Nat → Nat → Int} {w t : Nat} {f : Nat → Int} (h : MRow I w t f) (e : ∀ p, p < w → K 39 (6 * t + p) = I 39 (6 * t + p)) : MRow K w t f := fun p hp => by rw [e p hp]; exact h p hp
theorem Way_0 {K : Nat → Nat → Int} (h25 : K 25 2 = 0) (h21 : K 32 21 = 0) : CplWay K := ⟨0, by omega, h25, h21, fun i hi => absurd hi (by omega)⟩
theorem pq_fin {S : PS} {H : Nat → Nat → Int} {a x : Int} {w : Nat} (e : a = x) (c : Cpl H w) : ∃ (J : Nat → Nat → Int) (w' : Nat), ((some (zI a), zH S H) : PV1) = (some (zI x), zH S J) ∧ Cpl J w' := ⟨H, w, by rw [e], c⟩
theorem pr_drop {S : PS} {I : Nat → Nat → Int} {w : Nat} {r : Int} (h : Cpl I w) : Wp 83 (0, [zA 0, zI r], [], zH S I) (PQ S 134 [zA 32, zI r]) := by
  have hC := h.2.2.1
  refine c_drop ?_
  by_cases hu : xuse I r
  · have hmu := (CR_use hC).mpr hu
    rw [if_neg (not_not_intro hu), if_neg (not_not_intro hu)]
    have p0 := Row_plc h.2.2.2.1.1 hu.1
    have p1 := Row_plc h.2.2.2.1.2 hu.1
    by_cases hp : xplc (I 8) r = -1 ∧ xplc (I 10) r = -1
    · rw [if_pos hp, if_pos hp]
      have u1 := hu.1
      have u2 := hu.2.1
      obtain ⟨R, rfl⟩ : ∃ R : Nat, r = (R : Int) := ⟨r.toNat, by omega⟩
      rw [Int.toNat_natCast]
      have ne1 : ∀ d, d ≠ 2 → d ≠ 19 → zs2 (zs2 I 2 R (-1)) 19 6 0 d = I d := fun d a b => by rw [zs2_ne _ _ _ _ b, zs2_ne _ _ _ _ a]
      have hcell : ∀ t, t < 2 → mplc (zs2 (zs2 I 2 R (-1)) 19 6 0) w t (R : Int) = mplc I w t (R : Int) := fun t _ => by unfold mplc; rw [ne1 39 (by decide) (by decide)]
      have hmu1 : muse (zs2 (zs2 I 2 R (-1)) 19 6 0) (R : Int) := by unfold muse; rw [ne1 33 (by decide) (by decide)]; exact hmu
      refine ⟨_, _, rfl, m_drop (w := w) (by rw [ne1 32 (by decide) (by decide)]; exact h.1.2.1) h.1.1.2 (fun c => absurd hmu1 c) (fun _ c => absurd ⟨by rw [hcell 0 (by decide), p0]; exact hp.1, by rw [hcell 1 (by decide), p1]; exact hp.2⟩ c) (fun _ _ _ => ⟨_, w, rfl, ?_⟩)⟩
      obtain ⟨⟨h1, h2, h3, h4⟩, ⟨h5, h6⟩, h7, ⟨h8, h9⟩, h10, ⟨n, a1, a2, a3, a4⟩, h12⟩ := h
      obtain ⟨r5, r6, -⟩ := CplH_59 h12
      rw [Int.toNat_natCast]
      generalize hJ : zs2 (zs2 (zs2 (zs2 I 2 R (-1)) 19 6 0) 33 R 0) 32 9 0 = J
      have ne : ∀ d, d ≠ 2 → d ≠ 19 → d ≠ 33 → d ≠ 32 → J d = I d := fun d a b c e => by rw [← hJ, zs2_ne _ _ _ _ e, zs2_ne _ _ _ _ c, zs2_ne _ _ _ _ b, zs2_ne _ _ _ _ a]
      have c2 : ∀ x, J 2 x = if x = R then -1 else I 2 x := fun x => by
        rw [← hJ]; simp (disch := decide) only [zs2_ne]; rw [zs2_j]
      have c33 : ∀ x, J 33 x = if x = R then 0 else I 33 x := fun x => by
        rw [← hJ]; simp (disch := decide) only [zs2_ne]; rw [zs2_j]; simp (disch := decide) only [zs2_ne]
      have j32 : ∀ j, j ≠ 9 → J 32 j = I 32 j := fun j hj => by
        rw [← hJ, zs2_ne2 _ _ _ _ hj]; simp (disch := decide) only [zs2_ne]
      have row : ∀ (t c : Nat), J c = I c → xplc (I c) (R : Int) = -1 → Row I w t c → Row J w t c := fun t c e hx hr => by
        obtain ⟨b1, b2, b3⟩ := hr
        unfold Row MRow
        rw [e, ne 39 (by decide) (by decide) (by decide) (by decide)]
        refine ⟨VT_congr (fun j _ => by rw [ne 3 (by decide) (by decide) (by decide) (by decide)]) (fun j _ => by rw [ne 4 (by decide) (by decide) (by decide) (by decide)]) (fun j _ => by rw [ne 5 (by decide) (by decide) (by decide) (by decide)]) b1, fun q hq hne => ?_, b3⟩
        have h3q := b1.2.2.1 q hq
        rw [c2]
        by_cases c0 : (I c q).toNat = R
        · exact absurd (show I c q = (R : Int) by omega) (xplc_free (by omega) hx q hq)
        · rw [if_neg c0]; exact b2 q hq hne
      refine ⟨⟨h1, by rw [j32 6 (by decide)]; exact h2, by rw [ne 7 (by decide) (by decide) (by decide) (by decide)]; exact h3, by rw [ne 9 (by decide) (by decide) (by decide) (by decide)]; exact h4⟩, ⟨by rw [ne 0 (by decide) (by decide) (by decide) (by decide)]; exact h5, by rw [j32 7 (by decide), ne 0 (by decide) (by decide) (by decide) (by decide)]; exact h6⟩, fun x hx => ?_, ⟨row 0 8 (ne 8 (by decide) (by decide) (by decide) (by decide)) hp.1 h8, row 1 10 (ne 10 (by decide) (by decide) (by decide) (by decide)) hp.2 h9⟩, Mett_32 h10 (j32 16 (by decide)) (ne 41 (by decide) (by decide) (by decide) (by decide)) (ne 42 (by decide) (by decide) (by decide) (by decide)), ⟨n, a1, by rw [ne 25 (by decide) (by decide) (by decide) (by decide)]; exact a2, by rw [j32 21 (by decide)]; exact a3, fun i hi => by rw [ne 48 (by decide) (by decide) (by decide) (by decide), ne 49 (by decide) (by decide) (by decide) (by decide), ne 26 (by decide) (by decide) (by decide) (by decide), ne 27 (by decide) (by decide) (by decide) (by decide)]; exact a4 i hi⟩, CplH_nil ?_ ?_ ?_⟩
      · unfold RA
        rw [c2, c33, ne 3 (by decide) (by decide) (by decide) (by decide), ne 4 (by decide) (by decide) (by decide) (by decide), ne 5 (by decide) (by decide) (by decide) (by decide), ne 6 (by decide) (by decide) (by decide) (by decide), ne 34 (by decide) (by decide) (by decide) (by decide), ne 35 (by decide) (by decide) (by decide) (by decide), ne 36 (by decide) (by decide) (by decide) (by decide), ne 37 (by decide) (by decide) (by decide) (by decide), ne 38 (by decide) (by decide) (by decide) (by decide)]
        by_cases e : x = R
        · rw [if_pos e, if_pos e]
          exact ⟨⟨fun _ => rfl, fun _ => rfl⟩, Or.inl rfl, fun z => absurd rfl z⟩
        · rw [if_neg e, if_neg e]
          exact h7 x hx
      · rw [← hJ]; simp (disch := decide) only [zs2_ne]; rw [zs2_ne2 _ _ _ _ (by decide)]; simp (disch := decide) only [zs2_ne]; exact r5
      · rw [← hJ]; simp (disch := decide) only [zs2_ne]; exact zs2_at _ _ _ _
      · rw [← hJ]; exact zs2_at _ _ _ _
    · rw [if_neg hp, if_neg hp]
      refine pq_ro h (fun Q hQ => m_drop (w := w) h.1.2.1 h.1.1.2 (fun c => absurd hmu c) (fun _ _ => hQ) (fun _ c1 c2 => absurd ⟨by rw [← p0]; exact c1, by rw [← p1]; exact c2⟩ hp))
  · rw [if_pos hu, if_pos hu]
    exact pq_ro h (fun Q hQ => m_drop (w := w) h.1.2.1 h.1.1.2 (fun _ => hQ) (fun c => absurd ((CR_use hC).mp c) hu) (fun c => absurd ((CR_use hC).mp c) hu))
theorem pr_act {S : PS} {I : Nat → Nat → Int} {w : Nat} {r ac : Int} (h : Cpl I w) : Wp 84 (0, [zA 0, zI r, zI ac, zU], [], zH S I) (PQ S 135 [zA 32, zI r, zI ac, zU]) := by
  have hC := h.2.2.1
  refine c_act ?_
  by_cases hu : xuse I r ∧ 0 ≤ ac ∧ ac ≤ 15
  · obtain ⟨hu, ha⟩ := hu
    have hmu := (CR_use hC).mpr hu
    have hn : ¬ (¬ xuse I r ∨ ¬ (0 ≤ ac ∧ ac < 16)) := fun c => c.elim (fun z => z hu) (fun z => z (by omega))
    rw [if_neg hn, if_neg hn]
    have u1 := hu.1
    have u2 := hu.2.1
    obtain ⟨R, rfl⟩ : ∃ R : Nat, r = (R : Int) := ⟨r.toNat, by omega⟩
    obtain ⟨-, g34, g38, -, -⟩ := CR_at hC hu
    rw [Int.toNat_natCast] at g34 g38 ⊢
    by_cases hk : I 2 R = 2
    · rw [if_pos hk, if_pos hk]
      exact pq_ro h (fun Q hQ => m_act (fun c => absurd ⟨hmu, ha⟩ c) (fun _ _ => hQ) (fun _ c => absurd (by rw [Int.toNat_natCast, g34]; exact hk) c))
    · rw [if_neg hk, if_neg hk]
      have ne1 : ∀ d, d ≠ 6 → d ≠ 19 → zs2 (zs2 I 6 R ac) 19 6 0 d = I d := fun d a b => by rw [zs2_ne _ _ _ _ b, zs2_ne _ _ _ _ a]
      have hmu1 : muse (zs2 (zs2 I 6 R ac) 19 6 0) (R : Int) := by unfold muse; rw [ne1 33 (by decide) (by decide)]; exact hmu
      refine ⟨_, _, rfl, m_act (fun c => absurd ⟨hmu1, ha⟩ c) (fun _ c => absurd (by rw [Int.toNat_natCast, ne1 34 (by decide) (by decide), g34] at c; exact c) hk) (fun _ _ => pq_fin (w := w) ?_ ?_)⟩
      · rw [Int.toNat_natCast, ne1 38 (by decide) (by decide), g38]
      obtain ⟨⟨h1, h2, h3, h4⟩, ⟨h5, h6⟩, h7, ⟨h8, h9⟩, h10, ⟨n, a1, a2, a3, a4⟩, h12⟩ := h
      obtain ⟨r5, r6, -⟩ := CplH_59 h12
      rw [Int.toNat_natCast]
      generalize hJ : zs2 (zs2 (zs2 (zs2 I 6 R ac) 19 6 0) 38 R ac) 32 9 0 = J
      have ne : ∀ d, d ≠ 6 → d ≠ 19 → d ≠ 38 → d ≠ 32 → J d = I d := fun d a b c e => by rw [← hJ, zs2_ne _ _ _ _ e, zs2_ne _ _ _ _ c, zs2_ne _ _ _ _ b, zs2_ne _ _ _ _ a]
      have c6 : ∀ x, J 6 x = if x = R then ac else I 6 x := fun x => by
        rw [← hJ]; simp (disch := decide) only [zs2_ne]; rw [zs2_j]
      have c38 : ∀ x, J 38 x = if x = R then ac else I 38 x := fun x => by
        rw [← hJ]; simp (disch := decide) only [zs2_ne]; rw [zs2_j]; simp (disch := decide) only [zs2_ne]
      have j32 : ∀ j, j ≠ 9 → J 32 j = I 32 j := fun j hj => by
        rw [← hJ, zs2_ne2 _ _ _ _ hj]; simp (disch := decide) only [zs2_ne]
      have row : ∀ (t c : Nat), J c = I c → Row I w t c → Row J w t c := fun t c e hr => by
        obtain ⟨b1, b2, b3⟩ := hr
        refine Row_of (ne 2 (by decide) (by decide) (by decide) (by decide)) (ne 3 (by decide) (by decide) (by decide) (by decide)) (ne 4 (by decide) (by decide) (by decide) (by decide)) (ne 5 (by decide) (by decide) (by decide) (by decide)) (by rw [e]; exact b1) (by rw [e]; exact b2) (by rw [e]; exact MRow_same b3 (fun p _ => by rw [ne 39 (by decide) (by decide) (by decide) (by decide)]))
      refine ⟨⟨h1, by rw [j32 6 (by decide)]; exact h2, by rw [ne 7 (by decide) (by decide) (by decide) (by decide)]; exact h3, by rw [ne 9 (by decide) (by decide) (by decide) (by decide)]; exact h4⟩, ⟨by rw [ne 0 (by decide) (by decide) (by decide) (by decide)]; exact h5, by rw [j32 7 (by decide), ne 0 (by decide) (by decide) (by decide) (by decide)]; exact h6⟩, fun x hx => ?_, ⟨row 0 8 (ne 8 (by decide) (by decide) (by decide) (by decide)) h8, row 1 10 (ne 10 (by decide) (by decide) (by decide) (by decide)) h9⟩, Mett_32 h10 (j32 16 (by decide)) (ne 41 (by decide) (by decide) (by decide) (by decide)) (ne 42 (by decide) (by decide) (by decide) (by decide)), ⟨n, a1, by rw [ne 25 (by decide) (by decide) (by decide) (by decide)]; exact a2, by rw [j32 21 (by decide)]; exact a3, fun i hi => by rw [ne 48 (by decide) (by decide) (by decide) (by decide), ne 49 (by decide) (by decide) (by decide) (by decide), ne 26 (by decide) (by decide) (by decide) (by decide), ne 27 (by decide) (by decide) (by decide) (by decide)]; exact a4 i hi⟩, CplH_nil ?_ ?_ ?_⟩
      · unfold RA
        rw [c6, c38, ne 2 (by decide) (by decide) (by decide) (by decide), ne 3 (by decide) (by decide) (by decide) (by decide), ne 4 (by decide) (by decide) (by decide) (by decide), ne 5 (by decide) (by decide) (by decide) (by decide), ne 33 (by decide) (by decide) (by decide) (by decide), ne 34 (by decide) (by decide) (by decide) (by decide), ne 35 (by decide) (by decide) (by decide) (by decide), ne 36 (by decide) (by decide) (by decide) (by decide), ne 37 (by decide) (by decide) (by decide) (by decide)]
        obtain ⟨b1, b2, b3⟩ := h7 x hx
        refine ⟨b1, b2, fun z => ?_⟩
        obtain ⟨d1, d2, d3, d4⟩ := b3 z
        refine ⟨d1, d2, ?_, d4⟩
        by_cases e : x = R
        · rw [if_pos e, if_pos e]
        · rw [if_neg e, if_neg e]; exact d3
      · rw [← hJ]; simp (disch := decide) only [zs2_ne]; rw [zs2_ne2 _ _ _ _ (by decide)]; simp (disch := decide) only [zs2_ne]; exact r5
      · rw [← hJ]; simp (disch := decide) only [zs2_ne]; exact zs2_at _ _ _ _
      · rw [← hJ]; exact zs2_at _ _ _ _
  · have hn : ¬ xuse I r ∨ ¬ (0 ≤ ac ∧ ac < 16) := by
      by_cases c : xuse I r
      · exact Or.inr (fun z => hu ⟨c, by omega⟩)
      · exact Or.inl c
    rw [if_pos hn, if_pos hn]
    exact pq_ro h (fun Q hQ => m_act (fun _ => hQ) (fun c => absurd ⟨(CR_use hC).mp c.1, c.2⟩ hu) (fun c => absurd ⟨(CR_use hC).mp c.1, c.2⟩ hu))
theorem pr_over {S : PS} {I : Nat → Nat → Int} {w : Nat} (h : Cpl I w) : Wp 98 (0, [zA 0], [], zH S I) (PQ S 163 [zA 32]) := by
  obtain ⟨r5, r6, n, hn20, b1, b2⟩ := CplH_59 h.2.2.2.2.2.2
  refine c_over r5 r6 (Row_rw h.2.2.2.1.1) (Row_rw h.2.2.2.1.2) h.2.1.1 ?_
  generalize hI1 : zs2 (xrem I) 0 8 (1 - I 0 8) = I1
  have n1 : ∀ d, d ≠ 0 → (d < 19 ∨ 24 < d) → I1 d = I d := fun d a b => by rw [← hI1, zs2_ne _ _ _ _ a, xrem_ne b]
  have e7 : I1 32 7 = I 0 8 := by rw [n1 32 (by decide) (by decide)]; exact h.2.1.2
  refine ⟨_, I1, rfl, m_over (n := n) (by rw [n1 32 (by decide) (by decide)]; exact b2) hn20 (by rw [e7]; exact h.2.1.1) (fun J hJ => pq_fin (w := w) (by rw [e7]) ?_)⟩
  have hK2 := hJ
  obtain ⟨-, -, -, -, -, -, -, k8, k9⟩ := hK2
  generalize hK : zs2 J 32 7 (1 - I1 32 7) = K
  have kd : ∀ d, d ≠ 32 → d ≠ 40 → K d = I1 d := fun d a b => by rw [← hK, zs2_ne _ _ _ _ a, k8 d a b]
  have k32 : ∀ j, j ≠ 7 → j ≠ 9 → K 32 j = I 32 j := fun j a b => by rw [← hK, zs2_ne2 _ _ _ _ a, k9 j b, n1 32 (by decide) (by decide)]
  have kn : ∀ d, d ≠ 0 → (d < 19 ∨ 24 < d) → d ≠ 32 → d ≠ 40 → K d = I d := fun d a b c e => by rw [kd d c e, n1 d a b]
  have k08 : K 0 8 = 1 - I 0 8 := by rw [kd 0 (by decide) (by decide), ← hI1, zs2_at]
  have hl := h.2.1.1
  obtain ⟨nn, a1, a2, a3, a4⟩ := h.2.2.2.2.2.1
  refine Cpl_act h b2 (fun d d1 d2 => by rw [kd d (by omega) (by omega), ← hI1, zs2_ne _ _ _ _ (by omega)]) (Kpt_of hJ (n1 40 (by decide) (by decide)) (n1 39 (by decide) (by decide)) (by rw [n1 32 (by decide) (by decide)]) (n1 36 (by decide) (by decide)) (n1 35 (by decide) (by decide)) (by rw [← hK, zs2_ne _ _ _ _ (by decide)]) (by rw [← hK, zs2_ne2 _ _ _ _ (by decide)])) (fun d hd => kn d (by omega) (by omega) (by omega) (by omega)) (by rw [kn 7 (by decide) (by decide) (by decide) (by decide)]) (by rw [kn 9 (by decide) (by decide) (by decide) (by decide)]) (k32 6 (by decide) (by decide)) ⟨by rw [k08]; omega, by rw [k08, ← hK, zs2_at, e7]⟩ ?_ ?_ ?_ ⟨nn, a1, by rw [kn 25 (by decide) (by decide) (by decide) (by decide)]; exact a2, by rw [k32 21 (by decide) (by decide)]; exact a3, fun i hi => by rw [kn 48 (by decide) (by decide) (by decide) (by decide), kn 49 (by decide) (by decide) (by decide) (by decide), kn 26 (by decide) (by decide) (by decide) (by decide), kn 27 (by decide) (by decide) (by decide) (by decide)]; exact a4 i hi⟩
  · rw [kn 8 (by decide) (by decide) (by decide) (by decide)]
    exact ⟨h.2.2.2.1.1.1, h.2.2.2.1.1.2.1, MRow_same h.2.2.2.1.1.2.2 (fun p _ => by rw [kn 39 (by decide) (by decide) (by decide) (by decide)])⟩
  · rw [kn 10 (by decide) (by decide) (by decide) (by decide)]
    exact ⟨h.2.2.2.1.2.1, h.2.2.2.1.2.2.1, MRow_same h.2.2.2.1.2.2.2 (fun p _ => by rw [kn 39 (by decide) (by decide) (by decide) (by decide)])⟩
  · exact Mett_32 h.2.2.2.2.1 (k32 16 (by decide) (by decide)) (kn 41 (by decide) (by decide) (by decide) (by decide)) (kn 42 (by decide) (by decide) (by decide) (by decide))
