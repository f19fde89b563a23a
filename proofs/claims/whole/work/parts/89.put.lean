/-! pairs: strike, put, writes -/
theorem VT_del {I : Nat → Nat → Int} {n : Int} {f : Nat → Int} {q : Nat} (h : VT I n f) : VT I n (fun p => if p = q then -1 else f p) := by
  obtain ⟨a1, a2, a3, a4, a5, a6⟩ := h
  refine ⟨a1, a2, fun p hp => ?_, fun p h1 h2 => ?_, fun p p' hp hp' => ?_, fun p hp a ha hc => ?_⟩
  · have := a3 p hp
    show -1 ≤ (if p = q then -1 else f p) ∧ (if p = q then -1 else f p) ≤ 15
    split <;> omega
  · have := a4 p h1 h2
    show (if p = q then -1 else f p) = -1
    split <;> omega
  · show (if p = q then -1 else f p) = (if p' = q then -1 else f p') → (if p = q then -1 else f p) ≠ -1 → p = p'
    by_cases c : p = q
    · rw [if_pos c]; exact fun _ z => absurd rfl z
    · rw [if_neg c]
      by_cases c2 : p' = q
      · rw [if_pos c2]; exact fun z1 z2 => absurd z1 z2
      · rw [if_neg c2]; exact a5 p p' hp hp'
  · have hc' : xov I (if a = q then -1 else f a) (if p = q then -1 else f p) ∧ xhi I (if p = q then -1 else f p) (if a = q then -1 else f a) := hc
    by_cases c : p = q
    · rw [if_pos c] at hc'
      have := hc'.2.1.1; omega
    · by_cases c2 : a = q
      · rw [if_pos c2] at hc'
        have := hc'.1.1.1; omega
      · rw [if_neg c, if_neg c2] at hc'
        exact a6 p hp a ha hc'
theorem Us_del {I : Nat → Nat → Int} {f : Nat → Int} {q : Nat} (h : Us I f) : Us I (fun p => if p = q then -1 else f p) := fun p hp => by
  show (if p = q then -1 else f p) ≠ -1 → I 2 (if p = q then -1 else f p).toNat ≠ -1
  by_cases c : p = q
  · rw [if_pos c]; exact fun z => absurd rfl z
  · rw [if_neg c]; exact h p hp
theorem Kpt_c {I I1 J : Nat → Nat → Int} {n : Nat} (h : Kpt I1 J n (-1)) (e40 : I1 40 = I 40) (e39 : I1 39 = I 39) (e7 : I1 32 7 = I 32 7) : Kpt I J n (-1) := by
  obtain ⟨h1, h2, h3, h4, h5, h6, h7⟩ := h
  refine ⟨h1, fun i hi => by rw [h2 i hi, e40], fun i hi => by rw [h3 i hi, e39], by rw [h4, e7], h5, ?_, ?_⟩
  · rw [h6, if_pos (by decide), if_pos (by decide)]
  · rw [h7, if_pos (by decide), if_pos (by decide)]
theorem xplc_w {I : Nat → Nat → Int} {w : Nat} {f : Nat → Int} {r : Int} (hV : VT I (w : Int) f) (h : ¬ xplc f r = -1) : ∃ q : Nat, q < 6 ∧ xplc f r = (q : Int) ∧ f q = r ∧ q < w ∧ r ≠ -1 := by
  obtain ⟨q, q1, q2, q3, q4⟩ := xplc_in h
  refine ⟨q, q1, q2, q3, ?_, q4⟩
  by_cases c : q < w
  · exact c
  · have := hV.2.2.2.1 q (by omega) q1
    rw [q3] at this; exact absurd this q4
theorem muse_c {I I1 : Nat → Nat → Int} {r : Int} (e : I1 33 = I 33) (h : muse I r) : muse I1 r := by unfold muse; rw [e]; exact h
theorem mplc_c {I I1 : Nat → Nat → Int} {w t : Nat} {r : Int} (e : I1 39 = I 39) : mplc I1 w t r = mplc I w t r := by unfold mplc; rw [e]
theorem pr_strike_7 {S : PS} {I : Nat → Nat → Int} {w : Nat} {t r : Int} (ht : t = 0) (h : Cpl I w) : Wp 90 (0, [zA 0, zI t, zI r, zU, zU], [], zH S I) (PQ S 150 [zA 32, zI t, zI r, zU]) := by
  have hC := h.2.2.1
  obtain ⟨r5, r6, n, hn20, b1, b2⟩ := CplH_59 h.2.2.2.2.2.2
  refine c_strike_7 ht r5 r6 (Row_rw h.2.2.2.1.1) (Row_rw h.2.2.2.1.2) ?_
  subst ht
  by_cases hu : xuse I r
  · have hmu := (CR_use hC).mpr hu
    rw [if_neg (not_not_intro hu), if_neg (not_not_intro hu)]
    have hp := Row_plc h.2.2.2.1.1 hu.1
    by_cases e : xplc (I 8) r = -1
    · rw [if_pos e, if_pos e]
      exact pq_ro h (fun Q hQ => m_strike (t := 0) (by decide) h.1.2.1 h.1.1.2 b2 hn20 (fun c => absurd hmu c) (fun _ _ => hQ) (fun _ p J c _ _ => by rw [hp, e] at c; omega))
    · rw [if_neg e, if_neg e]
      obtain ⟨q, q1, q2, q3, qw, q4⟩ := xplc_w h.2.2.2.1.1.1 e
      have hx : xfree (xrem I) 7 8 (q : Int) = zs2 (xrem I) 8 q (-1) := by
        unfold xfree
        rw [xrem_ne (by decide), h.1.2.2.1, if_pos ⟨by omega, by omega, by omega⟩, Int.toNat_natCast]
      rw [q2, hx]
      generalize hI1 : zs2 (zs2 (xrem I) 8 q (-1)) 25 2 0 = I1
      have n1 : ∀ d, d ≠ 8 → d ≠ 25 → (d < 19 ∨ 24 < d) → I1 d = I d := fun d a b c => by rw [← hI1, zs2_ne _ _ _ _ b, zs2_ne _ _ _ _ a, xrem_ne c]
      have e1 : mplc I1 w 0 r = (q : Int) := by rw [mplc_c (n1 39 (by decide) (by decide) (by decide)), hp, q2]
      refine ⟨_, I1, rfl, m_strike (t := 0) (w := w) (n := n) (by decide) (by rw [n1 32 (by decide) (by decide) (by decide)]; exact h.1.2.1) h.1.1.2 (by rw [n1 32 (by decide) (by decide) (by decide)]; exact b2) hn20 (fun c => absurd (muse_c (n1 33 (by decide) (by decide) (by decide)) hmu) c) (fun _ c => by rw [e1] at c; omega) (fun _ p J c hpw hJ => pq_fin (w := w) (by rw [e1] at c; omega) ?_)⟩
      have hpq : p = q := by rw [e1] at c; omega
      rw [hpq]
      have hK2 := hJ
      obtain ⟨-, -, -, -, -, -, -, k8, k9⟩ := hK2
      generalize hK : zs2 (zs2 J 39 (6 * 0 + q) (-2)) 32 21 0 = K
      have kd : ∀ d, d ≠ 32 → d ≠ 39 → d ≠ 40 → K d = I1 d := fun d a b c => by rw [← hK, zs2_ne _ _ _ _ a, zs2_ne _ _ _ _ b, k8 d a c]
      have k39 : ∀ i, K 39 i = if i = 6 * 0 + q then -2 else I 39 i := fun i => by
        rw [← hK, zs2_ne _ _ _ _ (by decide), zs2_j, k8 39 (by decide) (by decide), n1 39 (by decide) (by decide) (by decide)]
      have k32 : ∀ j, j ≠ 9 → j ≠ 21 → K 32 j = I 32 j := fun j a b => by rw [← hK, zs2_ne2 _ _ _ _ b, zs2_ne _ _ _ _ (by decide), k9 j a, n1 32 (by decide) (by decide) (by decide)]
      have kn : ∀ d, d ≠ 8 → d ≠ 25 → (d < 19 ∨ 24 < d) → d ≠ 32 → d ≠ 39 → d ≠ 40 → K d = I d := fun d a b c e1 e2 e3 => by rw [kd d e1 e2 e3, n1 d a b c]
      have kc : K 8 = fun p => if p = q then -1 else I 8 p := by
        funext p
        rw [kd 8 (by decide) (by decide) (by decide), ← hI1, zs2_ne _ _ _ _ (by decide), zs2_j, xrem_ne (by decide)]
      have chg : VT I (w : Int) (K 8) ∧ Us I (K 8) ∧ MRow K w 0 (K 8) := by
        refine ⟨by rw [kc]; exact VT_del h.2.2.2.1.1.1, by rw [kc]; exact Us_del h.2.2.2.1.1.2.1, fun p hp => ?_⟩
        rw [k39, kc]
        show (if 6 * 0 + p = 6 * 0 + q then -2 else I 39 (6 * 0 + p)) = if (if p = q then -1 else I 8 p) = -1 then -2 else (if p = q then -1 else I 8 p)
        by_cases c : p = q
        · rw [if_pos (by omega), if_pos c, if_pos rfl]
        · rw [if_neg (by omega), if_neg c]; exact h.2.2.2.1.1.2.2 p hp
      have oth : VT I (w : Int) (K 10) ∧ Us I (K 10) ∧ MRow K w 1 (K 10) := by
        rw [kn 10 (by decide) (by decide) (by decide) (by decide) (by decide) (by decide)]
        exact ⟨h.2.2.2.1.2.1, h.2.2.2.1.2.2.1, MRow_same h.2.2.2.1.2.2.2 (fun p hp => by rw [k39, if_neg (by have := h.1.1.2; omega)])⟩
      exact Cpl_act h b2 (fun d d1 d2 => by rw [kd d (by omega) (by omega) (by omega), ← hI1, zs2_ne _ _ _ _ (by omega), zs2_ne _ _ _ _ (by omega)]) (Kpt_of hJ (n1 40 (by decide) (by decide) (by decide)) (n1 39 (by decide) (by decide) (by decide)) (by rw [n1 32 (by decide) (by decide) (by decide)]) (n1 36 (by decide) (by decide) (by decide)) (n1 35 (by decide) (by decide) (by decide)) (by rw [← hK, zs2_ne _ _ _ _ (by decide), zs2_ne _ _ _ _ (by decide)]) (by rw [← hK, zs2_ne2 _ _ _ _ (by decide), zs2_ne _ _ _ _ (by decide)])) (fun d hd => kn d (by omega) (by omega) (by omega) (by omega) (by omega) (by omega)) (by rw [kn 7 (by decide) (by decide) (by decide) (by decide) (by decide) (by decide)]) (by rw [kn 9 (by decide) (by decide) (by decide) (by decide) (by decide) (by decide)]) (k32 6 (by decide) (by decide)) ⟨by rw [kn 0 (by decide) (by decide) (by decide) (by decide) (by decide) (by decide)]; exact h.2.1.1, by rw [k32 7 (by decide) (by decide), kn 0 (by decide) (by decide) (by decide) (by decide) (by decide) (by decide)]; exact h.2.1.2⟩ chg oth (Mett_32 h.2.2.2.2.1 (k32 16 (by decide) (by decide)) (kn 41 (by decide) (by decide) (by decide) (by decide) (by decide) (by decide)) (kn 42 (by decide) (by decide) (by decide) (by decide) (by decide) (by decide))) (Way_0 (by rw [kd 25 (by decide) (by decide) (by decide), ← hI1, zs2_at]) (by rw [← hK, zs2_at]))
  · rw [if_pos hu, if_pos hu]
    exact pq_ro h (fun Q hQ => m_strike (t := 0) (by decide) h.1.2.1 h.1.1.2 b2 hn20 (fun _ => hQ) (fun c => absurd ((CR_use hC).mp c) hu) (fun c => absurd ((CR_use hC).mp c) hu))
theorem pr_put_7 {S : PS} {I : Nat → Nat → Int} {w : Nat} {t r : Int} (ht : t = 0) (h : Cpl I w) : Wp 87 (0, [zA 0, zI t, zI r, zU, zU], [], zH S I) (PQ S 148 [zA 32, zI t, zI r, zU]) := by
  have hC := h.2.2.1
  obtain ⟨r5, r6, n, hn20, b1, b2⟩ := CplH_59 h.2.2.2.2.2.2
  refine c_put_7 ht (by rw [h.1.2.2.1]; exact h.2.2.2.1.1.1) r5 r6 (Row_rw h.2.2.2.1.1) (Row_rw h.2.2.2.1.2) (fun hno => ?_) (fun hu hp hf k N g D p eg I1 hF hsf hmv w1 w2 w3 w4 hRF hx hd => ?_)
  · subst ht
    refine pq_ro h (fun Q hQ => m_put_no (t := 0) (by decide) h.1.2.1 h.2.2.2.1.1.1 h.2.2.2.1.1.2.2 (fun c => hno ⟨(CR_use hC).mp c.1, c.2.1, by rw [h.1.2.2.1]; have := c.2.2; omega⟩) (zq hQ ?_ rfl))
    by_cases hu : xuse I r
    · rw [if_neg (not_not_intro hu), if_neg (not_not_intro ((CR_use hC).mpr hu))]
    · rw [if_pos hu, if_pos (fun c => hu ((CR_use hC).mp c))]
  · obtain ⟨f1, f2, hk, hkN, hG, hD⟩ := hF
    have hNw : N = w := by rw [h.1.2.2.1] at f1; omega
    subst N
    subst ht
    have u1 := hu.1
    have u2 := hu.2.1
    obtain ⟨R, rfl⟩ : ∃ R : Nat, r = (R : Int) := ⟨r.toNat, by omega⟩
    have hcm : cmvI I (w : Int) (I 8) (R : Int) k = cmv w k (cB I (I 8) (R : Int) k) (cA I (I 8) (R : Int) k) := by rw [cmvI, show (min (w : Int) 6).toNat = w by omega]
    rw [cQu, hcm] at hG w2
    rw [h.1.2.2.1] at hf
    have hn := xplc_free (r := (R : Int)) (by omega) hp
    have hnr : num (R : Int) := ⟨by omega, by omega⟩
    have hbq := bq_good (mv := cmv w k (cB I (I 8) (R : Int) k) (cA I (I 8) (R : Int) k)) (k := k) cmv_out (ca0_barr hk) 720
    have hbar := hbq.2.1 eg (List.mem_of_getElem? hG.1)
    have rr := (CR_at hC hu).1
    have n32 : I1 32 = I 32 := hd 32 (by decide) (by decide)
    have n39 : I1 39 = I 39 := hd 39 (by decide) (by decide)
    have hBA : ∀ m o, m ≤ k → o < k → (cB I (I 8) (R : Int) k m o ↔ mBr I1 (I 8) (R : Int) k m o) ∧ (cA I (I 8) (R : Int) k m o ↔ mAr I1 (I 8) (R : Int) k m o) := fun m o _ ho => by
      rw [(cB_mBr hC hk h.2.2.2.1.1.2.1 rr hnr ho).1, (cB_mBr hC hk h.2.2.2.1.1.2.1 rr hnr ho).2]
      unfold mBr mAr mov mhi
      rw [hd 35 (by decide) (by decide), hd 36 (by decide) (by decide), hd 37 (by decide) (by decide)]
      exact ⟨Iff.rfl, Iff.rfl⟩
    refine ⟨_, I1, rfl, m_put_ok (t := 0) (w := w) (n := n) (Jc := I) (f := I 8) (B := cB I (I 8) (R : Int) k) (A := cA I (I 8) (R : Int) k) (by rw [n32]; exact h.1.2.1) (by decide) h.2.2.2.1.1.1 (MRow_same h.2.2.2.1.1.2.2 (fun p _ => by rw [n39])) hk (by omega) (Mett_32 h.2.2.2.2.1 (by rw [n32]) (hd 41 (by decide) (by decide)) (hd 42 (by decide) (by decide))) (muse_c (hd 33 (by decide) (by decide)) ((CR_use hC).mpr hu)) hp (by omega) (fun m o hm ho => (hBA m o hm ho).1) (fun m o hm ho => (hBA m o hm ho).2) hG hD (by rw [n32]; exact b2) hn20 (fun J j1 j2 j3 j4 j5 j6 j7 j8 j9 j10 => pq_fin (w := w) rfl ?_)⟩
    have jc : J 8 = I1 8 := j9 8 (by decide)
    have jd : ∀ d, (d < 11 ∨ (32 < d ∧ d < 39) ∨ 49 < d) → d ≠ 8 → J d = I d := fun d a b => by rw [j9 d (by omega), hd d (by omega) b]
    have chg : VT I (w : Int) (J 8) ∧ Us I (J 8) ∧ MRow J w 0 (J 8) := by
      rw [jc]
      exact ⟨VT_put h.2.2.2.1.1.1 hk ⟨u1, u2⟩ hn hsf hmv hRF, RF_Us h.2.2.2.1.1.2.1 (by have := hu.2.2; rw [Int.toNat_natCast] at this; exact this) hk hbar hRF, j6 _ hRF⟩
    have oth : VT I (w : Int) (J 10) ∧ Us I (J 10) ∧ MRow J w 1 (J 10) := by
      rw [jd 10 (by decide) (by decide)]
      exact ⟨h.2.2.2.1.2.1, h.2.2.2.1.2.2.1, MRow_same h.2.2.2.1.2.2.2 (fun p hp => by rw [j7 _ (by have := h.1.1.2; omega), n39])⟩
    refine Cpl_act h b2 (fun d d1 d2 => by rw [j9 d (by omega)]; exact hx d d1 d2) (Kpt_c j8 (hd 40 (by decide) (by decide)) n39 (by rw [n32])) (fun d hd' => jd d (by omega) (by omega)) (by rw [jd 7 (by decide) (by decide)]) (by rw [jd 9 (by decide) (by decide)]) (by rw [j10 6 (by decide) (by decide) (by decide) (by decide) (by decide), n32]) ⟨by rw [jd 0 (by decide) (by decide)]; exact h.2.1.1, by rw [j10 7 (by decide) (by decide) (by decide) (by decide) (by decide), n32, jd 0 (by decide) (by decide)]; exact h.2.1.2⟩ chg oth j1 ⟨D + 1, by omega, by rw [j9 25 (by decide)]; exact w1, j2, fun i hi => ?_⟩
    rw [j9 26 (by decide), j9 27 (by decide)]
    by_cases e : i = D
    · subst e
      rw [w3, w4]; exact ⟨j4, j5⟩
    · have hlen := qway_len hbq.2.2.1 D g eg hG.1 hG.2.1
      obtain ⟨mp, hmp⟩ : ∃ mp, (qway (bq (cmv w k (cB I (I 8) (R : Int) k) (cA I (I 8) (R : Int) k)) k (ca0 (I 8)) 720) D g)[i]? = some mp := ⟨_, List.getElem?_eq_getElem (by omega)⟩
      have a1 := j3 i mp hmp
      have a2 := w2 i mp hmp
      rw [a1.1, a1.2, a2.1, a2.2]
      exact ⟨rfl, rfl⟩
theorem pr_writes_7 {S : PS} {I : Nat → Nat → Int} {w : Nat} {t r : Int} (ht : t = 0) (h : Cpl I w) : Wp 88 (0, [zA 0, zI t, zI r, zU, zU], [], zH S I) (PQ S 146 [zA 32, zI t, zI r, zU, zU]) := by
  have hC := h.2.2.1
  refine c_writes_7 ht (by rw [h.1.2.2.1]; exact h.2.2.2.1.1.1) (fun hno => ?_) (fun hu hp hf k N g D p eg I1 hF hd => ?_)
  · subst ht
    refine pq_ro h (fun Q hQ => m_writes_no (t := 0) (by decide) h.1.2.1 h.2.2.2.1.1.1 h.2.2.2.1.1.2.2 (fun c => hno ⟨(CR_use hC).mp c.1, c.2.1, by rw [h.1.2.2.1]; have := c.2.2; omega⟩) (zq hQ ?_ rfl))
    by_cases hu : xuse I r
    · rw [if_neg (not_not_intro hu), if_neg (not_not_intro ((CR_use hC).mpr hu))]
    · rw [if_pos hu, if_pos (fun c => hu ((CR_use hC).mp c))]
  · obtain ⟨f1, f2, hk, hkN, hG, hD⟩ := hF
    have hNw : N = w := by rw [h.1.2.2.1] at f1; omega
    subst N
    subst ht
    have hcm : cmvI I (w : Int) (I 8) r k = cmv w k (cB I (I 8) r k) (cA I (I 8) r k) := by rw [cmvI, show (min (w : Int) 6).toNat = w by omega]
    rw [cQu, hcm] at hG
    rw [h.1.2.2.1] at hf
    have rr := (CR_at hC hu).1
    have n32 : I1 32 = I 32 := hd 32 (by decide)
    have n39 : I1 39 = I 39 := hd 39 (by decide)
    have hBA : ∀ m o, m ≤ k → o < k → (cB I (I 8) r k m o ↔ mBr I1 (I 8) r k m o) ∧ (cA I (I 8) r k m o ↔ mAr I1 (I 8) r k m o) := fun m o _ ho => by
      rw [(cB_mBr hC hk h.2.2.2.1.1.2.1 rr (use_num hu) ho).1, (cB_mBr hC hk h.2.2.2.1.1.2.1 rr (use_num hu) ho).2]
      unfold mBr mAr mov mhi
      rw [hd 35 (by decide), hd 36 (by decide), hd 37 (by decide)]
      exact ⟨Iff.rfl, Iff.rfl⟩
    refine ⟨_, I1, rfl, m_writes_ok (t := 0) (w := w) (Jc := I) (f := I 8) (B := cB I (I 8) r k) (A := cA I (I 8) r k) (by rw [n32]; exact h.1.2.1) (by decide) h.2.2.2.1.1.1 (MRow_same h.2.2.2.1.1.2.2 (fun p _ => by rw [n39])) hk (by omega) (Mett_32 h.2.2.2.2.1 (by rw [n32]) (hd 41 (by decide)) (hd 42 (by decide))) (muse_c (hd 33 (by decide)) ((CR_use hC).mpr hu)) hp (by omega) (fun m o hm ho => (hBA m o hm ho).1) (fun m o hm ho => (hBA m o hm ho).2) hG hD (fun J j1 j2 => pq_fin (w := w) rfl ?_)⟩
    have jd : ∀ d, (d < 11 ∨ (18 < d ∧ d < 28) ∨ (32 < d ∧ d < 41) ∨ 47 < d) → J d = I d := fun d a => by rw [j2.1 d (by omega) (by omega) (by omega) (by omega) (by omega) (by omega) (by omega) (by omega), hd d (by omega)]
    have j32 : ∀ j, j ≠ 16 → j ≠ 18 → j ≠ 20 → J 32 j = I 32 j := fun j a b c => by rw [j2.2 j a b c, n32]
    exact Cpl_frame h (by rw [jd 0 (by decide)]) (by rw [jd 7 (by decide)]) (by rw [jd 9 (by decide)]) (jd 8 (by decide)) (jd 10 (by decide)) (fun d d1 d2 => jd d (by omega)) (by rw [jd 25 (by decide)]) (jd 26 (by decide)) (jd 27 (by decide)) (fun r _ => by rw [jd 2 (by decide), jd 3 (by decide), jd 4 (by decide), jd 5 (by decide), jd 6 (by decide)]; exact ⟨rfl, rfl, rfl, rfl, rfl⟩) (fun r _ => by rw [jd 33 (by decide), jd 34 (by decide), jd 35 (by decide), jd 36 (by decide), jd 37 (by decide), jd 38 (by decide)]; exact ⟨rfl, rfl, rfl, rfl, rfl, rfl⟩) (jd 39 (by decide)) (jd 40 (by decide)) (jd 48 (by decide)) (jd 49 (by decide)) (j32 6 (by decide) (by decide) (by decide)) (j32 7 (by decide) (by decide) (by decide)) (j32 9 (by decide) (by decide) (by decide)) (j32 21 (by decide) (by decide) (by decide)) j1
theorem pr_strike_9 {S : PS} {I : Nat → Nat → Int} {w : Nat} {t r : Int} (ht : t = 1) (h : Cpl I w) : Wp 90 (0, [zA 0, zI t, zI r, zU, zU], [], zH S I) (PQ S 150 [zA 32, zI t, zI r, zU]) := by
  have hC := h.2.2.1
  obtain ⟨r5, r6, n, hn20, b1, b2⟩ := CplH_59 h.2.2.2.2.2.2
  refine c_strike_9 ht r5 r6 (Row_rw h.2.2.2.1.1) (Row_rw h.2.2.2.1.2) ?_
  subst ht
  by_cases hu : xuse I r
  · have hmu := (CR_use hC).mpr hu
    rw [if_neg (not_not_intro hu), if_neg (not_not_intro hu)]
    have hp := Row_plc h.2.2.2.1.2 hu.1
    by_cases e : xplc (I 10) r = -1
    · rw [if_pos e, if_pos e]
      exact pq_ro h (fun Q hQ => m_strike (t := 1) (by decide) h.1.2.1 h.1.1.2 b2 hn20 (fun c => absurd hmu c) (fun _ _ => hQ) (fun _ p J c _ _ => by rw [hp, e] at c; omega))
    · rw [if_neg e, if_neg e]
      obtain ⟨q, q1, q2, q3, qw, q4⟩ := xplc_w h.2.2.2.1.2.1 e
      have hx : xfree (xrem I) 9 10 (q : Int) = zs2 (xrem I) 10 q (-1) := by
        unfold xfree
        rw [xrem_ne (by decide), h.1.2.2.2, if_pos ⟨by omega, by omega, by omega⟩, Int.toNat_natCast]
      rw [q2, hx]
      generalize hI1 : zs2 (zs2 (xrem I) 10 q (-1)) 25 2 0 = I1
      have n1 : ∀ d, d ≠ 10 → d ≠ 25 → (d < 19 ∨ 24 < d) → I1 d = I d := fun d a b c => by rw [← hI1, zs2_ne _ _ _ _ b, zs2_ne _ _ _ _ a, xrem_ne c]
      have e1 : mplc I1 w 1 r = (q : Int) := by rw [mplc_c (n1 39 (by decide) (by decide) (by decide)), hp, q2]
      refine ⟨_, I1, rfl, m_strike (t := 1) (w := w) (n := n) (by decide) (by rw [n1 32 (by decide) (by decide) (by decide)]; exact h.1.2.1) h.1.1.2 (by rw [n1 32 (by decide) (by decide) (by decide)]; exact b2) hn20 (fun c => absurd (muse_c (n1 33 (by decide) (by decide) (by decide)) hmu) c) (fun _ c => by rw [e1] at c; omega) (fun _ p J c hpw hJ => pq_fin (w := w) (by rw [e1] at c; omega) ?_)⟩
      have hpq : p = q := by rw [e1] at c; omega
      rw [hpq]
      have hK2 := hJ
      obtain ⟨-, -, -, -, -, -, -, k8, k9⟩ := hK2
      generalize hK : zs2 (zs2 J 39 (6 * 1 + q) (-2)) 32 21 0 = K
      have kd : ∀ d, d ≠ 32 → d ≠ 39 → d ≠ 40 → K d = I1 d := fun d a b c => by rw [← hK, zs2_ne _ _ _ _ a, zs2_ne _ _ _ _ b, k8 d a c]
      have k39 : ∀ i, K 39 i = if i = 6 * 1 + q then -2 else I 39 i := fun i => by
        rw [← hK, zs2_ne _ _ _ _ (by decide), zs2_j, k8 39 (by decide) (by decide), n1 39 (by decide) (by decide) (by decide)]
      have k32 : ∀ j, j ≠ 9 → j ≠ 21 → K 32 j = I 32 j := fun j a b => by rw [← hK, zs2_ne2 _ _ _ _ b, zs2_ne _ _ _ _ (by decide), k9 j a, n1 32 (by decide) (by decide) (by decide)]
      have kn : ∀ d, d ≠ 10 → d ≠ 25 → (d < 19 ∨ 24 < d) → d ≠ 32 → d ≠ 39 → d ≠ 40 → K d = I d := fun d a b c e1 e2 e3 => by rw [kd d e1 e2 e3, n1 d a b c]
      have kc : K 10 = fun p => if p = q then -1 else I 10 p := by
        funext p
        rw [kd 10 (by decide) (by decide) (by decide), ← hI1, zs2_ne _ _ _ _ (by decide), zs2_j, xrem_ne (by decide)]
      have chg : VT I (w : Int) (K 10) ∧ Us I (K 10) ∧ MRow K w 1 (K 10) := by
        refine ⟨by rw [kc]; exact VT_del h.2.2.2.1.2.1, by rw [kc]; exact Us_del h.2.2.2.1.2.2.1, fun p hp => ?_⟩
        rw [k39, kc]
        show (if 6 * 1 + p = 6 * 1 + q then -2 else I 39 (6 * 1 + p)) = if (if p = q then -1 else I 10 p) = -1 then -2 else (if p = q then -1 else I 10 p)
        by_cases c : p = q
        · rw [if_pos (by omega), if_pos c, if_pos rfl]
        · rw [if_neg (by omega), if_neg c]; exact h.2.2.2.1.2.2.2 p hp
      have oth : VT I (w : Int) (K 8) ∧ Us I (K 8) ∧ MRow K w 0 (K 8) := by
        rw [kn 8 (by decide) (by decide) (by decide) (by decide) (by decide) (by decide)]
        exact ⟨h.2.2.2.1.1.1, h.2.2.2.1.1.2.1, MRow_same h.2.2.2.1.1.2.2 (fun p hp => by rw [k39, if_neg (by have := h.1.1.2; omega)])⟩
      exact Cpl_act h b2 (fun d d1 d2 => by rw [kd d (by omega) (by omega) (by omega), ← hI1, zs2_ne _ _ _ _ (by omega), zs2_ne _ _ _ _ (by omega)]) (Kpt_of hJ (n1 40 (by decide) (by decide) (by decide)) (n1 39 (by decide) (by decide) (by decide)) (by rw [n1 32 (by decide) (by decide) (by decide)]) (n1 36 (by decide) (by decide) (by decide)) (n1 35 (by decide) (by decide) (by decide)) (by rw [← hK, zs2_ne _ _ _ _ (by decide), zs2_ne _ _ _ _ (by decide)]) (by rw [← hK, zs2_ne2 _ _ _ _ (by decide), zs2_ne _ _ _ _ (by decide)])) (fun d hd => kn d (by omega) (by omega) (by omega) (by omega) (by omega) (by omega)) (by rw [kn 7 (by decide) (by decide) (by decide) (by decide) (by decide) (by decide)]) (by rw [kn 9 (by decide) (by decide) (by decide) (by decide) (by decide) (by decide)]) (k32 6 (by decide) (by decide)) ⟨by rw [kn 0 (by decide) (by decide) (by decide) (by decide) (by decide) (by decide)]; exact h.2.1.1, by rw [k32 7 (by decide) (by decide), kn 0 (by decide) (by decide) (by decide) (by decide) (by decide) (by decide)]; exact h.2.1.2⟩ oth chg (Mett_32 h.2.2.2.2.1 (k32 16 (by decide) (by decide)) (kn 41 (by decide) (by decide) (by decide) (by decide) (by decide) (by decide)) (kn 42 (by decide) (by decide) (by decide) (by decide) (by decide) (by decide))) (Way_0 (by rw [kd 25 (by decide) (by decide) (by decide), ← hI1, zs2_at]) (by rw [← hK, zs2_at]))
  · rw [if_pos hu, if_pos hu]
    exact pq_ro h (fun Q hQ => m_strike (t := 1) (by decide) h.1.2.1 h.1.1.2 b2 hn20 (fun _ => hQ) (fun c => absurd ((CR_use hC).mp c) hu) (fun c => absurd ((CR_use hC).mp c) hu))
theorem pr_put_9 {S : PS} {I : Nat → Nat → Int} {w : Nat} {t r : Int} (ht : t = 1) (h : Cpl I w) : Wp 87 (0, [zA 0, zI t, zI r, zU, zU], [], zH S I) (PQ S 148 [zA 32, zI t, zI r, zU]) := by
  have hC := h.2.2.1
  obtain ⟨r5, r6, n, hn20, b1, b2⟩ := CplH_59 h.2.2.2.2.2.2
  refine c_put_9 ht (by rw [h.1.2.2.2]; exact h.2.2.2.1.2.1) r5 r6 (Row_rw h.2.2.2.1.1) (Row_rw h.2.2.2.1.2) (fun hno => ?_) (fun hu hp hf k N g D p eg I1 hF hsf hmv w1 w2 w3 w4 hRF hx hd => ?_)
  · subst ht
    refine pq_ro h (fun Q hQ => m_put_no (t := 1) (by decide) h.1.2.1 h.2.2.2.1.2.1 h.2.2.2.1.2.2.2 (fun c => hno ⟨(CR_use hC).mp c.1, c.2.1, by rw [h.1.2.2.2]; have := c.2.2; omega⟩) (zq hQ ?_ rfl))
    by_cases hu : xuse I r
    · rw [if_neg (not_not_intro hu), if_neg (not_not_intro ((CR_use hC).mpr hu))]
    · rw [if_pos hu, if_pos (fun c => hu ((CR_use hC).mp c))]
  · obtain ⟨f1, f2, hk, hkN, hG, hD⟩ := hF
    have hNw : N = w := by rw [h.1.2.2.2] at f1; omega
    subst N
    subst ht
    have u1 := hu.1
    have u2 := hu.2.1
    obtain ⟨R, rfl⟩ : ∃ R : Nat, r = (R : Int) := ⟨r.toNat, by omega⟩
    have hcm : cmvI I (w : Int) (I 10) (R : Int) k = cmv w k (cB I (I 10) (R : Int) k) (cA I (I 10) (R : Int) k) := by rw [cmvI, show (min (w : Int) 6).toNat = w by omega]
    rw [cQu, hcm] at hG w2
    rw [h.1.2.2.2] at hf
    have hn := xplc_free (r := (R : Int)) (by omega) hp
    have hnr : num (R : Int) := ⟨by omega, by omega⟩
    have hbq := bq_good (mv := cmv w k (cB I (I 10) (R : Int) k) (cA I (I 10) (R : Int) k)) (k := k) cmv_out (ca0_barr hk) 720
    have hbar := hbq.2.1 eg (List.mem_of_getElem? hG.1)
    have rr := (CR_at hC hu).1
    have n32 : I1 32 = I 32 := hd 32 (by decide) (by decide)
    have n39 : I1 39 = I 39 := hd 39 (by decide) (by decide)
    have hBA : ∀ m o, m ≤ k → o < k → (cB I (I 10) (R : Int) k m o ↔ mBr I1 (I 10) (R : Int) k m o) ∧ (cA I (I 10) (R : Int) k m o ↔ mAr I1 (I 10) (R : Int) k m o) := fun m o _ ho => by
      rw [(cB_mBr hC hk h.2.2.2.1.2.2.1 rr hnr ho).1, (cB_mBr hC hk h.2.2.2.1.2.2.1 rr hnr ho).2]
      unfold mBr mAr mov mhi
      rw [hd 35 (by decide) (by decide), hd 36 (by decide) (by decide), hd 37 (by decide) (by decide)]
      exact ⟨Iff.rfl, Iff.rfl⟩
    refine ⟨_, I1, rfl, m_put_ok (t := 1) (w := w) (n := n) (Jc := I) (f := I 10) (B := cB I (I 10) (R : Int) k) (A := cA I (I 10) (R : Int) k) (by rw [n32]; exact h.1.2.1) (by decide) h.2.2.2.1.2.1 (MRow_same h.2.2.2.1.2.2.2 (fun p _ => by rw [n39])) hk (by omega) (Mett_32 h.2.2.2.2.1 (by rw [n32]) (hd 41 (by decide) (by decide)) (hd 42 (by decide) (by decide))) (muse_c (hd 33 (by decide) (by decide)) ((CR_use hC).mpr hu)) hp (by omega) (fun m o hm ho => (hBA m o hm ho).1) (fun m o hm ho => (hBA m o hm ho).2) hG hD (by rw [n32]; exact b2) hn20 (fun J j1 j2 j3 j4 j5 j6 j7 j8 j9 j10 => pq_fin (w := w) rfl ?_)⟩
    have jc : J 10 = I1 10 := j9 10 (by decide)
    have jd : ∀ d, (d < 11 ∨ (32 < d ∧ d < 39) ∨ 49 < d) → d ≠ 10 → J d = I d := fun d a b => by rw [j9 d (by omega), hd d (by omega) b]
    have chg : VT I (w : Int) (J 10) ∧ Us I (J 10) ∧ MRow J w 1 (J 10) := by
      rw [jc]
      exact ⟨VT_put h.2.2.2.1.2.1 hk ⟨u1, u2⟩ hn hsf hmv hRF, RF_Us h.2.2.2.1.2.2.1 (by have := hu.2.2; rw [Int.toNat_natCast] at this; exact this) hk hbar hRF, j6 _ hRF⟩
    have oth : VT I (w : Int) (J 8) ∧ Us I (J 8) ∧ MRow J w 0 (J 8) := by
      rw [jd 8 (by decide) (by decide)]
      exact ⟨h.2.2.2.1.1.1, h.2.2.2.1.1.2.1, MRow_same h.2.2.2.1.1.2.2 (fun p hp => by rw [j7 _ (by have := h.1.1.2; omega), n39])⟩
    refine Cpl_act h b2 (fun d d1 d2 => by rw [j9 d (by omega)]; exact hx d d1 d2) (Kpt_c j8 (hd 40 (by decide) (by decide)) n39 (by rw [n32])) (fun d hd' => jd d (by omega) (by omega)) (by rw [jd 7 (by decide) (by decide)]) (by rw [jd 9 (by decide) (by decide)]) (by rw [j10 6 (by decide) (by decide) (by decide) (by decide) (by decide), n32]) ⟨by rw [jd 0 (by decide) (by decide)]; exact h.2.1.1, by rw [j10 7 (by decide) (by decide) (by decide) (by decide) (by decide), n32, jd 0 (by decide) (by decide)]; exact h.2.1.2⟩ oth chg j1 ⟨D + 1, by omega, by rw [j9 25 (by decide)]; exact w1, j2, fun i hi => ?_⟩
    rw [j9 26 (by decide), j9 27 (by decide)]
    by_cases e : i = D
    · subst e
      rw [w3, w4]; exact ⟨j4, j5⟩
    · have hlen := qway_len hbq.2.2.1 D g eg hG.1 hG.2.1
      obtain ⟨mp, hmp⟩ : ∃ mp, (qway (bq (cmv w k (cB I (I 10) (R : Int) k) (cA I (I 10) (R : Int) k)) k (ca0 (I 10)) 720) D g)[i]? = some mp := ⟨_, List.getElem?_eq_getElem (by omega)⟩
      have a1 := j3 i mp hmp
      have a2 := w2 i mp hmp
      rw [a1.1, a1.2, a2.1, a2.2]
      exact ⟨rfl, rfl⟩
theorem pr_writes_9 {S : PS} {I : Nat → Nat → Int} {w : Nat} {t r : Int} (ht : t = 1) (h : Cpl I w) : Wp 88 (0, [zA 0, zI t, zI r, zU, zU], [], zH S I) (PQ S 146 [zA 32, zI t, zI r, zU, zU]) := by
  have hC := h.2.2.1
  refine c_writes_9 ht (by rw [h.1.2.2.2]; exact h.2.2.2.1.2.1) (fun hno => ?_) (fun hu hp hf k N g D p eg I1 hF hd => ?_)
  · subst ht
    refine pq_ro h (fun Q hQ => m_writes_no (t := 1) (by decide) h.1.2.1 h.2.2.2.1.2.1 h.2.2.2.1.2.2.2 (fun c => hno ⟨(CR_use hC).mp c.1, c.2.1, by rw [h.1.2.2.2]; have := c.2.2; omega⟩) (zq hQ ?_ rfl))
    by_cases hu : xuse I r
    · rw [if_neg (not_not_intro hu), if_neg (not_not_intro ((CR_use hC).mpr hu))]
    · rw [if_pos hu, if_pos (fun c => hu ((CR_use hC).mp c))]
  · obtain ⟨f1, f2, hk, hkN, hG, hD⟩ := hF
    have hNw : N = w := by rw [h.1.2.2.2] at f1; omega
    subst N
    subst ht
    have hcm : cmvI I (w : Int) (I 10) r k = cmv w k (cB I (I 10) r k) (cA I (I 10) r k) := by rw [cmvI, show (min (w : Int) 6).toNat = w by omega]
    rw [cQu, hcm] at hG
    rw [h.1.2.2.2] at hf
    have rr := (CR_at hC hu).1
    have n32 : I1 32 = I 32 := hd 32 (by decide)
    have n39 : I1 39 = I 39 := hd 39 (by decide)
    have hBA : ∀ m o, m ≤ k → o < k → (cB I (I 10) r k m o ↔ mBr I1 (I 10) r k m o) ∧ (cA I (I 10) r k m o ↔ mAr I1 (I 10) r k m o) := fun m o _ ho => by
      rw [(cB_mBr hC hk h.2.2.2.1.2.2.1 rr (use_num hu) ho).1, (cB_mBr hC hk h.2.2.2.1.2.2.1 rr (use_num hu) ho).2]
      unfold mBr mAr mov mhi
      rw [hd 35 (by decide), hd 36 (by decide), hd 37 (by decide)]
      exact ⟨Iff.rfl, Iff.rfl⟩
    refine ⟨_, I1, rfl, m_writes_ok (t := 1) (w := w) (Jc := I) (f := I 10) (B := cB I (I 10) r k) (A := cA I (I 10) r k) (by rw [n32]; exact h.1.2.1) (by decide) h.2.2.2.1.2.1 (MRow_same h.2.2.2.1.2.2.2 (fun p _ => by rw [n39])) hk (by omega) (Mett_32 h.2.2.2.2.1 (by rw [n32]) (hd 41 (by decide)) (hd 42 (by decide))) (muse_c (hd 33 (by decide)) ((CR_use hC).mpr hu)) hp (by omega) (fun m o hm ho => (hBA m o hm ho).1) (fun m o hm ho => (hBA m o hm ho).2) hG hD (fun J j1 j2 => pq_fin (w := w) rfl ?_)⟩
    have jd : ∀ d, (d < 11 ∨ (18 < d ∧ d < 28) ∨ (32 < d ∧ d < 41) ∨ 47 < d) → J d = I d := fun d a => by rw [j2.1 d (by omega) (by omega) (by omega) (by omega) (by omega) (by omega) (by omega) (by omega), hd d (by omega)]
    have j32 : ∀ j, j ≠ 16 → j ≠ 18 → j ≠ 20 → J 32 j = I 32 j := fun j a b c => by rw [j2.2 j a b c, n32]
    exact Cpl_frame h (by rw [jd 0 (by decide)]) (by rw [jd 7 (by decide)]) (by rw [jd 9 (by decide)]) (jd 8 (by decide)) (jd 10 (by decide)) (fun d d1 d2 => jd d (by omega)) (by rw [jd 25 (by decide)]) (jd 26 (by decide)) (jd 27 (by decide)) (fun r _ => by rw [jd 2 (by decide), jd 3 (by decide), jd 4 (by decide), jd 5 (by decide), jd 6 (by decide)]; exact ⟨rfl, rfl, rfl, rfl, rfl⟩) (fun r _ => by rw [jd 33 (by decide), jd 34 (by decide), jd 35 (by decide), jd 36 (by decide), jd 37 (by decide), jd 38 (by decide)]; exact ⟨rfl, rfl, rfl, rfl, rfl, rfl⟩) (jd 39 (by decide)) (jd 40 (by decide)) (jd 48 (by decide)) (jd 49 (by decide)) (j32 6 (by decide) (by decide) (by decide)) (j32 7 (by decide) (by decide) (by decide)) (j32 9 (by decide) (by decide) (by decide)) (j32 21 (by decide) (by decide) (by decide)) j1
theorem pr_strike {S : PS} {I : Nat → Nat → Int} {w : Nat} {t r : Int} (h : Cpl I w) : Wp 90 (0, [zA 0, zI t, zI r, zU, zU], [], zH S I) (PQ S 150 [zA 32, zI t, zI r, zU]) := by
  by_cases h0 : t = 0
  · exact pr_strike_7 h0 h
  by_cases h1 : t = 1
  · exact pr_strike_9 h1 h
  · exact c_strike_n (by omega) (pq_ro h (fun Q hQ => m_strike_n (by omega) hQ))
theorem pr_put {S : PS} {I : Nat → Nat → Int} {w : Nat} {t r : Int} (h : Cpl I w) : Wp 87 (0, [zA 0, zI t, zI r, zU, zU], [], zH S I) (PQ S 148 [zA 32, zI t, zI r, zU]) := by
  by_cases h0 : t = 0
  · exact pr_put_7 h0 h
  by_cases h1 : t = 1
  · exact pr_put_9 h1 h
  · exact c_put_n (by omega) (pq_ro h (fun Q hQ => m_put_n (by omega) hQ))
theorem pr_writes {S : PS} {I : Nat → Nat → Int} {w : Nat} {t r : Int} (h : Cpl I w) : Wp 88 (0, [zA 0, zI t, zI r, zU, zU], [], zH S I) (PQ S 146 [zA 32, zI t, zI r, zU, zU]) := by
  by_cases h0 : t = 0
  · exact pr_writes_7 h0 h
  by_cases h1 : t = 1
  · exact pr_writes_9 h1 h
  · exact c_writes_n (by omega) (pq_ro h (fun Q hQ => m_writes_n (by omega) hQ))
