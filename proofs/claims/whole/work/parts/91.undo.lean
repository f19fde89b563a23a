/-! pairs: undo -/
theorem hq_last {n : Int} (h : 0 ≤ n ∧ n < 20) : hq n 0 = (hlast n).toNat := by
  unfold hq hlast
  split <;> omega
theorem hq_back {n : Int} (h : 0 ≤ n ∧ n < 20) {i : Nat} (hi : i < 20) : hq (hlast n) i = hq n (i + 1) := by
  unfold hq hlast
  split <;> omega
/-- one act is taken back on both sides -/
theorem Cpl_back {I K : Nat → Nat → Int} {w m : Nat} {e : HE} {es : List HE} (h : Cpl I w) (hr : HRing I (e :: es)) (hm : HMod I w (e :: es)) (hv : HV I w (I 4) (e :: es)) (hl : es.length = m)
    (k8 : ∀ p, p < 6 → K 8 p = e.1 p) (k10 : ∀ p, p < 6 → K 10 p = e.2.1 p) (k0 : K 0 8 = e.2.2.1) (k4 : K 4 = HM (I 4) e) (k195 : K 19 5 = hlast (I 19 5)) (k196 : K 19 6 = (m : Int)) (k25 : K 25 2 = 0) (k39 : ∀ i, i < 12 → K 39 i = I 40 (16 * m + i)) (k327 : K 32 7 = I 40 (16 * m + 12)) (k329 : K 32 9 = (m : Int)) (k21 : K 32 21 = 0) (k6 : K 32 6 = I 32 6) (k16 : K 32 16 = I 32 16)
    (k36 : ∀ j, K 36 j = if e.2.2.2.1 ≠ -1 ∧ j = e.2.2.2.1.toNat then I 40 (16 * m + 14) else I 36 j) (k35 : ∀ j, K 35 j = if e.2.2.2.1 ≠ -1 ∧ j = e.2.2.2.1.toNat then I 40 (16 * m + 15) else I 35 j)
    (kd : ∀ d, d ≠ 0 → d ≠ 4 → d ≠ 8 → d ≠ 10 → d ≠ 19 → d ≠ 25 → d ≠ 32 → d ≠ 35 → d ≠ 36 → d ≠ 39 → K d = I d) : Cpl K w := by
  obtain ⟨⟨h1, h2, h3, h4⟩, ⟨h5, h6⟩, h7, ⟨h8, h9⟩, h10, h11, h12⟩ := h
  obtain ⟨r5, r6, rl, rr⟩ := hr
  obtain ⟨s9, sr⟩ := hm
  obtain ⟨⟨v1, v2⟩, ⟨v3, v4⟩, v5, v6, v7⟩ := hv
  obtain ⟨a1, a2, a3, a4, a5⟩ := sr 0 e rfl
  rw [List.length_cons, show es.length + 1 - 1 - 0 = m by omega] at a1 a2 a3 a4 a5
  have kn : ∀ d, d ≠ 0 ∧ d ≠ 4 ∧ d ≠ 8 ∧ d ≠ 10 ∧ d ≠ 19 ∧ d ≠ 25 ∧ d ≠ 32 ∧ d ≠ 35 ∧ d ≠ 36 ∧ d ≠ 39 → K d = I d := fun d z => kd d z.1 z.2.1 z.2.2.1 z.2.2.2.1 z.2.2.2.2.1 z.2.2.2.2.2.1 z.2.2.2.2.2.2.1 z.2.2.2.2.2.2.2.1 z.2.2.2.2.2.2.2.2.1 z.2.2.2.2.2.2.2.2.2
  have vt : ∀ (f f' : Nat → Int), VT (wM I (HM (I 4) e)) (w : Int) f → (∀ p, p < 6 → f' p = f p) → VT K (w : Int) f' := fun f f' hf hff => VT_fc (VT_congr (fun j _ => by rw [kn 3 (by decide), wM_ne _ _ (by decide)]) (fun j _ => by rw [k4, wM_4]) (fun j _ => by rw [kn 5 (by decide), wM_ne _ _ (by decide)]) hf) hff
  have us : ∀ (f f' : Nat → Int), Us I f → (∀ p, p < 6 → f' p = f p) → Us K f' := fun f f' hf hff q hq hne => by
    rw [kn 2 (by decide)]
    exact Us_fc hf hff q hq hne
  refine ⟨⟨h1, by rw [k6]; exact h2, by rw [kn 7 (by decide)]; exact h3, by rw [kn 9 (by decide)]; exact h4⟩, ⟨by rw [k0]; exact v5, by rw [k327, k0]; exact a3⟩, fun r hr => ?_, ⟨⟨vt _ _ v1 k8, us _ _ v2 k8, fun p hp => ?_⟩, ⟨vt _ _ v3 k10, us _ _ v4 k10, fun p hp => ?_⟩⟩, Mett_32 h10 k16 (kn 41 (by decide)) (kn 42 (by decide)), Way_0 k25 k21, es, ⟨?_, ?_, ?_, fun i x hx => ?_⟩, ⟨?_, fun i x hx => ?_⟩, ?_⟩
  · obtain ⟨b1, b2, b3⟩ := h7 r hr
    unfold RA
    rw [k36, k35, kn 2 (by decide), kn 3 (by decide), kn 5 (by decide), kn 6 (by decide), kn 33 (by decide), kn 34 (by decide), kn 37 (by decide), kn 38 (by decide), k4]
    refine ⟨b1, b2, fun hu => ?_⟩
    obtain ⟨⟨d1, d2, d3⟩, d4, d5, d6, d7⟩ := b3 hu
    by_cases c : e.2.2.2.1 ≠ -1 ∧ r = e.2.2.2.1.toNat
    · rw [if_pos c, if_pos c]
      have hM : HM (I 4) e r = e.2.2.2.2 := by
        rw [HM, if_neg c.1]
        show (if r = e.2.2.2.1.toNat then e.2.2.2.2 else I 4 r) = _
        rw [if_pos c.2]
      have a5' := a5 c.1
      rw [← c.2] at a5'
      rw [hM, a5'.1, a5'.2]
      refine ⟨⟨rfl, rfl, d3⟩, d4, d5, d6, ?_⟩
      rcases v6 with z | z
      · exact absurd z c.1
      · exact z.2
    · rw [if_neg c, if_neg c]
      have hM : HM (I 4) e r = I 4 r := by
        unfold HM
        by_cases c1 : e.2.2.2.1 = -1
        · rw [if_pos c1]
        · rw [if_neg c1]
          show (if r = e.2.2.2.1.toNat then e.2.2.2.2 else I 4 r) = _
          rw [if_neg (fun z => c ⟨c1, z⟩)]
      rw [hM]
      exact ⟨⟨d1, d2, d3⟩, d4, d5, d6, d7⟩
  · rw [k39 _ (by omega), k8 p (by omega), show 6 * 0 + p = p by omega]
    exact a1 p hp
  · rw [k39 _ (by omega), k10 p (by omega), show 6 * 1 + p = 6 + p by omega]
    exact a2 p hp
  · rw [k195]
    unfold hlast
    split <;> omega
  · rw [k196, hl]
  · rw [List.length_cons] at rl; omega
  · have hil := (List.getElem?_eq_some_iff.mp hx).1
    rw [List.length_cons] at rl
    rw [k195, hq_back r5 (by omega), kn 20 (by decide), kn 21 (by decide), kn 22 (by decide), kn 23 (by decide), kn 24 (by decide)]
    exact rr (i + 1) x (by rw [List.getElem?_cons_succ]; exact hx)
  · rw [k329, hl]
  · have hil := (List.getElem?_eq_some_iff.mp hx).1
    have := sr (i + 1) x (by rw [List.getElem?_cons_succ]; exact hx)
    rw [List.length_cons, show es.length + 1 - 1 - (i + 1) = es.length - 1 - i by omega] at this
    rw [kn 40 (by decide), kn 3 (by decide)]
    exact this
  · exact HV_congr es _ _ v7 (fun r _ _ => by rw [kn 2 (by decide), kn 3 (by decide), kn 5 (by decide), k4]; exact ⟨rfl, rfl, rfl, rfl⟩)
set_option maxRecDepth 100000 in
theorem pr_undo {S : PS} {I : Nat → Nat → Int} {w : Nat} (h : Cpl I w) : Wp 101 (0, [zA 0], [], zH S I) (PQ S 124 [zA 32, zU, zU]) := by
  have h12 := h.2.2.2.2.2.2
  obtain ⟨r5', r6', -⟩ := CplH_59 h12
  obtain ⟨es, hr, hm, hv⟩ := h12
  have hr0 := hr
  have hm0 := hm
  have hv0 := hv
  cases es with
  | nil =>
    have e6 : I 19 6 = 0 := by have := hr.2.1; simpa using this
    have e9 : I 32 9 = ((0 : Nat) : Int) := by have := hm.1; simpa using this
    exact c_undo r5' r6' (fun c => absurd e6 c) (fun _ => pq_ro h (fun Q hQ => m_undo e9 (by decide) (fun m hm => by omega) (fun _ => hQ) (fun m hm => by omega))) (fun c => absurd e6 c)
  | cons e es =>
    obtain ⟨r5, r6, rl, rr⟩ := hr
    obtain ⟨s9, sr⟩ := hm
    obtain ⟨⟨v1, v2⟩, ⟨v3, v4⟩, v5, v6, v7⟩ := hv
    have q0 := rr 0 e rfl
    rw [hq_last r5] at q0
    obtain ⟨g1, g2, g3, g4, g5⟩ := q0
    rw [List.length_cons] at r6 rl s9
    have p1 := xpk_in v1.2.2.1 6 (by decide)
    have p2 := xpk_in v3.2.2.1 6 (by decide)
    have p17 : (17 : Int) ^ 6 = 24137569 := by decide
    rw [p17] at p1 p2
    have hml : e.2.2.2.1 ≠ -1 → num e.2.2.2.1 := fun c => v6.elim (fun z => absurd z c) (fun z => use_num z.1)
    refine c_undo r5' r6' (fun _ => ⟨by rw [g1]; omega, by rw [g2]; omega, by rw [g4]; exact hml⟩) (fun c => by omega) (fun _ => ?_)
    -- what the class leaves
    generalize hU : xund I = U
    have u1 : ∀ d, d ≠ 0 → d ≠ 4 → d ≠ 8 → d ≠ 10 → d ≠ 19 → d ≠ 25 → U d = I d := fun d a b c f g k => by
      rw [← hU, xund, zs2_ne _ _ _ _ k, xpop, zs2_ne _ _ _ _ g, zs2_ne _ _ _ _ g]
      by_cases z : I 23 (hlast (I 19 5)).toNat = -1
      · rw [if_pos z, xun1_ne a c f]
      · rw [if_neg z, zs2_ne _ _ _ _ b, xun1_ne a c f]
    have inn : ∀ d, d ≠ 4 → d ≠ 19 → d ≠ 25 → U d = xun1 I d := fun d a b c => by
      rw [← hU, xund, zs2_ne _ _ _ _ c, xpop, zs2_ne _ _ _ _ b, zs2_ne _ _ _ _ b]
      by_cases z : I 23 (hlast (I 19 5)).toNat = -1
      · rw [if_pos z]
      · rw [if_neg z, zs2_ne _ _ _ _ a]
    have u8 : ∀ p, p < 6 → U 8 p = e.1 p := fun p hp => by
      rw [inn 8 (by decide) (by decide) (by decide), xun1, zs2_ne _ _ _ _ (by decide), zmapc_ne _ _ _ _ (by decide), zmapc_at _ _ _ _ hp, g1]
      exact xdg_xpk v1.2.2.1 p hp
    have u10 : ∀ p, p < 6 → U 10 p = e.2.1 p := fun p hp => by
      rw [inn 10 (by decide) (by decide) (by decide), xun1, zs2_ne _ _ _ _ (by decide), zmapc_at _ _ _ _ hp, g2]
      exact xdg_xpk v3.2.2.1 p hp
    have u0 : U 0 8 = e.2.2.1 := by rw [inn 0 (by decide) (by decide) (by decide), xun1, zs2_at, g3]
    have u4 : U 4 = HM (I 4) e := by
      rw [← hU, xund, zs2_ne _ _ _ _ (by decide), xpop, zs2_ne _ _ _ _ (by decide), zs2_ne _ _ _ _ (by decide), g4]
      unfold HM
      by_cases z : e.2.2.2.1 = -1
      · rw [if_pos z, if_pos z, xun1_ne (by decide) (by decide) (by decide)]
      · rw [if_neg z, if_neg z, zs2_same, g5 z, xun1_ne (by decide) (by decide) (by decide)]
    have hin19 : ∀ X : Nat → Nat → Int, X 19 = I 19 → zs2 (xpop X) 25 2 0 19 5 = hlast (I 19 5) ∧ zs2 (xpop X) 25 2 0 19 6 = max (I 19 6 - 1) 0 := fun X hX => by
      rw [zs2_ne _ _ _ _ (by decide), xpop, zs2_ne2 _ _ _ _ (by decide), zs2_at, zs2_at, hX]
      exact ⟨rfl, rfl⟩
    have u19 : U 19 5 = hlast (I 19 5) ∧ U 19 6 = max (I 19 6 - 1) 0 := by
      rw [← hU, xund]
      by_cases z : I 23 (hlast (I 19 5)).toNat = -1
      · rw [if_pos z]; exact hin19 _ (xun1_ne (by decide) (by decide) (by decide))
      · rw [if_neg z]; exact hin19 _ (by rw [zs2_ne _ _ _ _ (by decide), xun1_ne (by decide) (by decide) (by decide)])
    have u25 : U 25 2 = 0 := by rw [← hU, xund, zs2_at]
    have m32 : U 32 = I 32 := u1 32 (by decide) (by decide) (by decide) (by decide) (by decide) (by decide)
    have m40 : U 40 = I 40 := u1 40 (by decide) (by decide) (by decide) (by decide) (by decide) (by decide)
    obtain ⟨a1, a2, a3, a4, a5⟩ := sr 0 e rfl
    rw [List.length_cons, show es.length + 1 - 1 - 0 = es.length by omega] at a1 a2 a3 a4 a5
    refine ⟨_, U, rfl, m_undo (n := es.length + 1) (by rw [m32]; exact s9) rl (fun m hm => ?_) (fun c => by omega) (fun m hm => pq_fin (w := w) (by omega) ?_)⟩
    · have : m = es.length := by omega
      subst this
      rw [m40, a4]
      by_cases z : e.2.2.2.1 = -1
      · left; rw [z]; decide
      · exact Or.inr (hml z)
    · have hml2 : m = es.length := by omega
      subst hml2
      -- what the reference leaves
      generalize hK : mund U es.length = K
      have inK : ∀ d, d ≠ 32 → d ≠ 35 → d ≠ 36 → K d = mun1 U es.length d := fun d a b c => by
        rw [← hK, mund, zs2_ne _ _ _ _ a]
        by_cases z : U 40 (16 * es.length + 13) < 0
        · rw [if_pos z]
        · rw [if_neg z, zs2_ne _ _ _ _ b, zs2_ne _ _ _ _ c]
      have kU : ∀ d, d ≠ 32 → d ≠ 35 → d ≠ 36 → d ≠ 39 → K d = U d := fun d a b c f => by
        rw [inK d a b c, mun1, zs2_ne _ _ _ _ a, zmapc_ne _ _ _ _ f, zs2_ne _ _ _ _ a]
      have k39 : ∀ i, i < 12 → K 39 i = I 40 (16 * es.length + i) := fun i hi => by
        rw [inK 39 (by decide) (by decide) (by decide), mun1, zs2_ne _ _ _ _ (by decide), zmapc_at _ _ _ _ hi, m40]
      have in32 : ∀ j, j ≠ 21 → K 32 j = mun1 U es.length 32 j := fun j a => by
        rw [← hK, mund, zs2_ne2 _ _ _ _ a]
        by_cases z : U 40 (16 * es.length + 13) < 0
        · rw [if_pos z]
        · rw [if_neg z, zs2_ne _ _ _ _ (by decide), zs2_ne _ _ _ _ (by decide)]
      have k7 : K 32 7 = I 40 (16 * es.length + 12) := by rw [in32 7 (by decide), mun1, zs2_at, m40]
      have k9 : K 32 9 = (es.length : Int) := by rw [in32 9 (by decide), mun1, zs2_ne2 _ _ _ _ (by decide), zmapc_ne _ _ _ _ (by decide), zs2_at]
      have k21 : K 32 21 = 0 := by rw [← hK, mund, zs2_at]
      have kj : ∀ j, j ≠ 7 → j ≠ 9 → j ≠ 21 → K 32 j = I 32 j := fun j a b c => by
        rw [in32 j c, mun1, zs2_ne2 _ _ _ _ a, zmapc_ne _ _ _ _ (by decide), zs2_ne2 _ _ _ _ b, m32]
      have mu35 : mun1 U es.length 35 = I 35 := by
        rw [mun1, zs2_ne _ _ _ _ (by decide), zmapc_ne _ _ _ _ (by decide), zs2_ne _ _ _ _ (by decide), u1 35 (by decide) (by decide) (by decide) (by decide) (by decide) (by decide)]
      have mu36 : mun1 U es.length 36 = I 36 := by
        rw [mun1, zs2_ne _ _ _ _ (by decide), zmapc_ne _ _ _ _ (by decide), zs2_ne _ _ _ _ (by decide), u1 36 (by decide) (by decide) (by decide) (by decide) (by decide) (by decide)]
      have hneg : U 40 (16 * es.length + 13) < 0 ↔ e.2.2.2.1 = -1 := by
        rw [m40, a4]
        constructor
        · intro z
          by_cases c : e.2.2.2.1 = -1
          · exact c
          · have := (hml c).1; omega
        · intro z; rw [z]; decide
      have k36 : ∀ j, K 36 j = if e.2.2.2.1 ≠ -1 ∧ j = e.2.2.2.1.toNat then I 40 (16 * es.length + 14) else I 36 j := fun j => by
        rw [← hK, mund, zs2_ne _ _ _ _ (by decide)]
        by_cases z : e.2.2.2.1 = -1
        · rw [if_pos (hneg.mpr z), if_neg (fun c => c.1 z), mu36]
        · rw [if_neg (fun c => z (hneg.mp c)), zs2_ne _ _ _ _ (by decide), zs2_j, mu36, m40, a4]
          by_cases c : j = e.2.2.2.1.toNat
          · rw [if_pos c, if_pos ⟨z, c⟩]
          · rw [if_neg c, if_neg (fun y => c y.2)]
      have k35 : ∀ j, K 35 j = if e.2.2.2.1 ≠ -1 ∧ j = e.2.2.2.1.toNat then I 40 (16 * es.length + 15) else I 35 j := fun j => by
        rw [← hK, mund, zs2_ne _ _ _ _ (by decide)]
        by_cases z : e.2.2.2.1 = -1
        · rw [if_pos (hneg.mpr z), if_neg (fun c => c.1 z), mu35]
        · rw [if_neg (fun c => z (hneg.mp c)), zs2_j, zs2_ne _ _ _ _ (by decide), mu35, m40, a4]
          by_cases c : j = e.2.2.2.1.toNat
          · rw [if_pos c, if_pos ⟨z, c⟩]
          · rw [if_neg c, if_neg (fun y => c y.2)]
      exact Cpl_back h hr0 hm0 hv0 rfl (fun p hp => by rw [kU 8 (by decide) (by decide) (by decide) (by decide)]; exact u8 p hp) (fun p hp => by rw [kU 10 (by decide) (by decide) (by decide) (by decide)]; exact u10 p hp) (by rw [kU 0 (by decide) (by decide) (by decide) (by decide)]; exact u0) (by rw [kU 4 (by decide) (by decide) (by decide) (by decide)]; exact u4) (by rw [kU 19 (by decide) (by decide) (by decide) (by decide)]; exact u19.1) (by rw [kU 19 (by decide) (by decide) (by decide) (by decide), u19.2]; omega) (by rw [kU 25 (by decide) (by decide) (by decide) (by decide)]; exact u25) k39 k7 k9 k21 (kj 6 (by decide) (by decide) (by decide)) (kj 16 (by decide) (by decide) (by decide)) k36 k35 (fun d a1 a2 a3 a4 a5 a6 a7 a8 a9 a10 => by rw [kU d a7 a8 a9 a10, u1 d a1 a2 a3 a4 a5 a6])
