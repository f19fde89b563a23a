/-! put, writes, spare -/
theorem xrem_congr {I J : Nat → Nat → Int} (h0 : J 0 = I 0) (h8 : J 8 = I 8) (h10 : J 10 = I 10) (h : ∀ d, 19 ≤ d → d ≤ 24 → J d = I d) : ∀ d, 19 ≤ d → d ≤ 24 → xrem J d = xrem I d := by
  intro d h1 h2
  have a19 := h 19 (by decide) (by decide)
  have a20 := h 20 (by decide) (by decide)
  have a21 := h 21 (by decide) (by decide)
  have a22 := h 22 (by decide) (by decide)
  have a23 := h 23 (by decide) (by decide)
  have a24 := h 24 (by decide) (by decide)
  rcases (show d = 19 ∨ d = 20 ∨ d = 21 ∨ d = 22 ∨ d = 23 ∨ d = 24 by omega) with rfl | rfl | rfl | rfl | rfl | rfl <;> (funext j; simp only [xrem, xpush, zs2, h0, h8, h10, a19, a20, a21, a22, a23, a24])
theorem VT_row {I : Nat → Nat → Int} {n : Int} {f : Nat → Int} (h : VT I n f) : ∀ p, p < 6 → -1 ≤ f p ∧ f p ≤ 15 := h.2.2.1
theorem VT_congr {I J : Nat → Nat → Int} {n : Int} {f : Nat → Int} (h3 : ∀ j, j < 16 → J 3 j = I 3 j) (h4 : ∀ j, j < 16 → J 4 j = I 4 j) (h5 : ∀ j, j < 16 → J 5 j = I 5 j) (h : VT I n f) : VT J n f := by
  obtain ⟨v1, v2, v3, v4, v5, v6⟩ := h
  refine ⟨v1, v2, v3, v4, v5, fun p hp a ha w => v6 p hp a ha ?_⟩
  have b1 := v3 p hp
  have b2 := v3 a (by omega)
  obtain ⟨⟨w1, w2, w3⟩, w4, w5, w6⟩ := w
  rw [h3 _ (by omega), h3 _ (by omega), h4 _ (by omega), h4 _ (by omega)] at w3
  rw [h5 _ (by omega), h5 _ (by omega)] at w6
  exact ⟨⟨w1, w2, w3⟩, w4, w5, w6⟩
theorem VT_free {I : Nat → Nat → Int} {n : Int} {f : Nat → Int} (hV : VT I n f) (h : ((xst f : Nat) : Int) < n) : ∃ k N : Nat, n = (N : Int) ∧ N ≤ 6 ∧ (mem f 16).length = k ∧ k < N := by
  obtain ⟨N, hN⟩ : ∃ N : Nat, n = (N : Int) := ⟨n.toNat, by have := hV.1; omega⟩
  subst hN
  have h6 := hV.2.1
  obtain ⟨p, p1, p2⟩ := zcnt_free (f := f) (n := N) 6 (by omega) (by have : ((xst f : Nat) : Int) < (N : Int) := h; unfold xst at this; omega)
  have := VT_k hV (p := p) (by omega) p2
  exact ⟨_, N, rfl, by omega, rfl, by omega⟩
theorem xplc_free {f : Nat → Int} {r : Int} (hr : r ≠ -1) (h : xplc f r = -1) : ∀ p, p < 6 → f p ≠ r := by
  intro p hp e
  rcases zfs_spec (P := fun q => r ≠ -1 ∧ f q = r) 6 0 with ⟨-, h2⟩ | ⟨j, h1, -⟩
  · exact h2 p (Nat.zero_le _) (by omega) ⟨hr, e⟩
  · have : xplc f r = (j : Int) := h1
    omega
/-- what a found way is -/
def Fnd (I : Nat → Nat → Int) (t c : Nat) (r : Int) (k N g D p : Nat) (eg : QE) : Prop := I t 2 = (N : Int) ∧ N ≤ 6 ∧ (mem (I c) 16).length = k ∧ k < N ∧ xgoal (cmvI I (N : Int) (I c) r k) k (cQu I (N : Int) (I c) r k 720) g D p eg ∧ D ≤ 15
theorem c_put_7 {S : PS} {I : Nat → Nat → Int} {Q : PV1 → Prop} {t r : Int} {w3 w4 : PV} (ht : t = 0) (hV : VT I (I 7 2) (I 8)) (h5 : 0 ≤ I 19 5 ∧ I 19 5 < 20) (h6 : 0 ≤ I 19 6 ∧ I 19 6 ≤ 20) (hr8 : xrw I 8) (hr10 : xrw I 10)
    (hQ1 : ¬ (xuse I r ∧ xplc (I 8) r = -1 ∧ ((xst (I 8) : Nat) : Int) < I 7 2) → Q (some (zI (if ¬ xuse I r then (-1) else if ¬ xplc (I 8) r = -1 then (-2) else (-3))), zH S I))
    (hQ2 : xuse I r → xplc (I 8) r = -1 → ((xst (I 8) : Nat) : Int) < I 7 2 → ∀ (k N g D p : Nat) (eg : QE) (I' : Nat → Nat → Int), Fnd I 7 8 r k N g D p eg → sfA (cB I (I 8) r k) (cA I (I 8) r k) N k eg.1 → cmv N k (cB I (I 8) r k) (cA I (I 8) r k) eg.1 k p →
      I' 25 2 = ((D + 1 : Nat) : Int) → (∀ (w : Nat) (mp : Nat × Nat), (qway (cQu I (N : Int) (I 8) r k 720) D g)[w]? = some mp → I' 26 w = mbr (I 8) r k mp.1 ∧ I' 27 w = (mp.2 : Int)) → I' 26 D = r → I' 27 D = (p : Int) → RF (I' 8) (mem (I 8) 16) eg.1 r p k → (∀ d, 19 ≤ d → d ≤ 24 → I' d = xrem I d) → (∀ d, d < 11 ∨ 28 ≤ d → d ≠ 8 → I' d = I d) → Q (some (zI ((D + 1 : Nat) : Int)), zH S I')) : Wp 87 (0, [zA 0, zI t, zI r, w3, w4], [], zH S I) Q := by
  refine (sg_X5_put_0_0 _ _ _ _ _ _ _).mpr ?_
  refine c_tab7 ht ?_
  refine (sg_X5_put_5_0_7 _ _ _ _ _ _ _).mpr ?_
  refine c_refusedPut_7 ?_
  refine (sg_X5_put_12_0_7 _ _ _ _ _ _ _).mpr ?_
  by_cases a1 : xuse I r
  · by_cases a2 : xplc (I 8) r = -1
    · by_cases a3 : ((xst (I 8) : Nat) : Int) < I 7 2
      · rw [if_neg (not_not_intro a1), if_neg (not_not_intro a2), if_neg (by omega)]
        refine zcd (fun _ => ?_) (fun h => absurd rfl h)
        obtain ⟨k, N, hN, hN6, hk, hkN⟩ := VT_free hV a3
        have hn := xplc_free (by have := a1.1; omega) a2
        have hr : num r := ⟨a1.1, by have := a1.2.1; omega⟩
        rw [hN] at hV
        obtain ⟨g, D, p, eg, hG, hD⟩ := goal_ex hV hk (by omega) hr hn
        have hG' := hG
        rw [← hN] at hG'
        refine c_find_7_25 hk (by omega) (by omega) hG' hD (fun I1 b1 b2 b3 b4 b5 => ?_)
        rw [hN] at b2
        refine (sg_X5_put_39_0_7 _ _ _ _ _ _).mpr ?_
        have e8 := b5 8 (by decide) (by decide) (by decide) (by decide)
        have e10 := b5 10 (by decide) (by decide) (by decide) (by decide)
        have e19 := b5 19 (by decide) (by decide) (by decide) (by decide)
        refine c_remember (by rw [e19]; exact h5) (by rw [e19]; exact h6) (by unfold xrw; rw [e8]; exact hr8) (by unfold xrw; rw [e10]; exact hr10) ?_
        refine (sg_X5_put_43_0_7 _ _ _ _ _ _).mpr ?_
        have x25 : xrem I1 25 = I1 25 := xrem_ne (by decide)
        refine c_carryOut_7_25 (by rw [x25, b1]; omega) ?_
        refine (sg_X5_put_51_0 _ _ _ _ _ _ _).mpr ?_
        refine c_length_25 ?_
        refine (sg_X5_put_58 _ _ _ _ _ _ _ _ _).mpr ?_
        have xT : xrem I1 7 = I 7 := by rw [xrem_ne (by decide), b5 7 (by decide) (by decide) (by decide) (by decide)]
        have xC : xrem I1 8 = I 8 := by rw [xrem_ne (by decide), b5 8 (by decide) (by decide) (by decide) (by decide)]
        have x26 : xrem I1 26 = I1 26 := xrem_ne (by decide)
        have x27 : xrem I1 27 = I1 27 := xrem_ne (by decide)
        have lenD : (xrem I1 25 2).toNat = D + 1 := by rw [x25, b1]; omega
        rw [lenD, xcarry_ne (by decide), x25, b1]
        obtain ⟨c1, c2, c3⟩ := put_row (J := xrem I1) (t := 7) (c := 8) (pt := 25) (by decide) hV hk hr hn hG (by rw [xT]; exact hN) xC (fun w mp hw => by
          rw [x26, x27]; exact b2 w mp hw) (by rw [x26]; exact b3) (by rw [x27]; exact b4)
        refine hQ2 a1 a2 a3 k N g D p eg _ ⟨hN, hN6, hk, hkN, hG, hD⟩ c1 c2 ?_ ?_ ?_ ?_ c3 (fun d d1 d2 => ?_) (fun d d1 d2 => ?_)
        · rw [xcarry_ne (by decide), x25]; exact b1
        · intro w mp hw
          rw [xcarry_ne (by decide), xcarry_ne (by decide), x26, x27]; exact b2 w mp hw
        · rw [xcarry_ne (by decide), x26]; exact b3
        · rw [xcarry_ne (by decide), x27]; exact b4
        · rw [xcarry_ne (by omega)]
          exact xrem_congr (b5 0 (by decide) (by decide) (by decide) (by decide)) e8 e10 (fun d d1 d2 => b5 d (by omega) (by omega) (by omega) (by omega)) d d1 d2
        · rw [xcarry_ne d2, xrem_ne (by omega), b5 d (by omega) (by omega) (by omega) (by omega)]
      · have h1 := hQ1 (fun w => a3 w.2.2)
        rw [if_neg (not_not_intro a1), if_neg (not_not_intro a2)] at h1 ⊢
        rw [if_pos (by omega)]
        exact zcd (fun h => absurd h (by decide)) (fun _ => h1)
    · have h1 := hQ1 (fun w => a2 w.2.1)
      rw [if_neg (not_not_intro a1), if_pos a2] at h1 ⊢
      exact zcd (fun h => absurd h (by decide)) (fun _ => h1)
  · have h1 := hQ1 (fun w => a1 w.1)
    rw [if_pos a1] at h1 ⊢
    exact zcd (fun h => absurd h (by decide)) (fun _ => h1)
theorem c_writes_7 {S : PS} {I : Nat → Nat → Int} {Q : PV1 → Prop} {t r : Int} {w3 w4 : PV} (ht : t = 0) (hV : VT I (I 7 2) (I 8))
    (hQ1 : ¬ (xuse I r ∧ xplc (I 8) r = -1 ∧ ((xst (I 8) : Nat) : Int) < I 7 2) → Q (some (zI (if ¬ xuse I r then (-1) else if ¬ xplc (I 8) r = -1 then (-2) else (-3))), zH S I))
    (hQ2 : xuse I r → xplc (I 8) r = -1 → ((xst (I 8) : Nat) : Int) < I 7 2 → ∀ (k N g D p : Nat) (eg : QE) (I' : Nat → Nat → Int), Fnd I 7 8 r k N g D p eg → (∀ d, d < 11 ∨ (18 < d ∧ d < 28) ∨ 30 < d → I' d = I d) → Q (some (zI ((D + 1 : Nat) : Int)), zH S I')) : Wp 88 (0, [zA 0, zI t, zI r, w3, w4], [], zH S I) Q := by
  refine (sg_X5_writes_0_0 _ _ _ _ _ _ _).mpr ?_
  refine c_tab7 ht ?_
  refine (sg_X5_writes_5_0_7 _ _ _ _ _ _ _).mpr ?_
  refine c_refusedPut_7 ?_
  refine (sg_X5_writes_12_0_7 _ _ _ _ _ _ _).mpr ?_
  by_cases a1 : xuse I r
  · by_cases a2 : xplc (I 8) r = -1
    · by_cases a3 : ((xst (I 8) : Nat) : Int) < I 7 2
      · rw [if_neg (not_not_intro a1), if_neg (not_not_intro a2), if_neg (by omega)]
        refine zcd (fun _ => ?_) (fun h => absurd rfl h)
        obtain ⟨k, N, hN, hN6, hk, hkN⟩ := VT_free hV a3
        have hn := xplc_free (by have := a1.1; omega) a2
        have hr : num r := ⟨a1.1, by have := a1.2.1; omega⟩
        rw [hN] at hV
        obtain ⟨g, D, p, eg, hG, hD⟩ := goal_ex hV hk (by omega) hr hn
        have hG' := hG
        rw [← hN] at hG'
        refine c_find_7_28 hk (by omega) (by omega) hG' hD (fun I1 b1 b2 b3 b4 b5 => ?_)
        refine (sg_X5_writes_39_0 _ _ _ _ _ _ _).mpr ?_
        refine c_length_28 ?_
        refine (sg_X5_writes_46 _ _ _ _ _ _ _ _ _).mpr ?_
        rw [b1]
        exact hQ2 a1 a2 a3 k N g D p eg I1 ⟨hN, hN6, hk, hkN, hG, hD⟩ (fun d hd => b5 d (by omega) (by omega) (by omega) (by omega))
      · have h1 := hQ1 (fun w => a3 w.2.2)
        rw [if_neg (not_not_intro a1), if_neg (not_not_intro a2)] at h1 ⊢
        rw [if_pos (by omega)]
        exact zcd (fun h => absurd h (by decide)) (fun _ => h1)
    · have h1 := hQ1 (fun w => a2 w.2.1)
      rw [if_neg (not_not_intro a1), if_pos a2] at h1 ⊢
      exact zcd (fun h => absurd h (by decide)) (fun _ => h1)
  · have h1 := hQ1 (fun w => a1 w.1)
    rw [if_pos a1] at h1 ⊢
    exact zcd (fun h => absurd h (by decide)) (fun _ => h1)
theorem c_spare_7 {S : PS} {I : Nat → Nat → Int} {Q : PV1 → Prop} {t rk : Int} {w3 : PV} (ht : t = 0) (hV : VT I (I 7 2) (I 8))
    (hQ1 : ¬ (0 ≤ rk ∧ rk < 100) → Q (some (zI (-1)), zH S I)) (hQ2 : (0 ≤ rk ∧ rk < 100) → I 7 2 ≤ ((xst (I 8) : Nat) : Int) → Q (some (zI (-3)), zH S I))
    (hQ3 : (0 ≤ rk ∧ rk < 100) → ((xst (I 8) : Nat) : Int) < I 7 2 → ∀ (k N g D p : Nat) (eg : QE) (I' : Nat → Nat → Int), Fnd (xset I 16 0 0 0 rk 0) 7 8 16 k N g D p eg → (∀ d, d < 11 ∨ (18 < d ∧ d < 28) ∨ 30 < d → I' d = xset I 16 0 0 0 rk 0 d) → Q (some (zI ((D + 1 : Nat) : Int)), zH S I')) : Wp 96 (0, [zA 0, zI t, zI rk, w3], [], zH S I) Q := by
  refine (sg_X5_spare_0_0 _ _ _ _ _ _).mpr ?_
  refine c_tab7 ht ?_
  refine (sg_X5_spare_5_0_7 _ _ _ _ _ _).mpr ?_
  refine c_isRank ?_
  refine (sg_X5_spare_14_0_7 _ _ _ _ _ _).mpr ?_
  refine zcdB (fun h => hQ1 h) (fun hrk => ?_)
  refine c_isFull_7 ?_
  refine (sg_X5_spare_23_0_7 _ _ _ _ _ _).mpr ?_
  refine zcdB (fun hf => ?_) (fun hf => hQ2 hrk hf)
  refine c_set ?_
  rw [if_pos (by decide)]
  show Wp 96 _ _
  refine (sg_X5_spare_43_0_7 _ _ _ _ _).mpr ?_
  have fx : ∀ d, d ≠ 2 → d ≠ 3 → d ≠ 4 → d ≠ 5 → d ≠ 6 → xset I 16 0 0 0 rk 0 d = I d := fun d h2 h3 h4 h5 h6 => by
    rw [xset, zs2_ne _ _ _ _ h6, zs2_ne _ _ _ _ h5, zs2_ne _ _ _ _ h4, zs2_ne _ _ _ _ h3, zs2_ne _ _ _ _ h2]
  have hset : (zs2 (zs2 (zs2 (zs2 (zs2 I 2 (16 : Int).toNat 0) 3 (16 : Int).toNat 0) 4 (16 : Int).toNat 0) 5 (16 : Int).toNat rk) 6 (16 : Int).toNat 0) = xset I 16 0 0 0 rk 0 := rfl
  rw [hset]
  have a3 : ((xst (I 8) : Nat) : Int) < I 7 2 := by omega
  have hV1 : VT (xset I 16 0 0 0 rk 0) (I 7 2) (I 8) := by
    refine VT_congr (fun j hj => ?_) (fun j hj => ?_) (fun j hj => ?_) hV
    · simp (disch := decide) only [xset, zs2_ne]
      rw [zs2_ne2 _ _ _ _ (show j ≠ (16 : Int).toNat by omega), zs2_ne _ _ _ _ (by decide)]
    · simp (disch := decide) only [xset, zs2_ne]
      rw [zs2_ne2 _ _ _ _ (show j ≠ (16 : Int).toNat by omega)]
      simp (disch := decide) only [zs2_ne]
    · simp (disch := decide) only [xset, zs2_ne]
      rw [zs2_ne2 _ _ _ _ (show j ≠ (16 : Int).toNat by omega)]
      simp (disch := decide) only [zs2_ne]
  obtain ⟨k, N, hN, hN6, hk, hkN⟩ := VT_free hV a3
  have hn : ∀ p, p < 6 → I 8 p ≠ 16 := fun p hp e => by have := hV.2.2.1 p hp; omega
  have eC := fx 8 (by decide) (by decide) (by decide) (by decide) (by decide)
  have eT := fx 7 (by decide) (by decide) (by decide) (by decide) (by decide)
  rw [hN] at hV1
  obtain ⟨g, D, p, eg, hG, hD⟩ := goal_ex hV1 hk (by omega) (show num 16 by decide) hn
  have hG' := hG
  rw [← hN] at hG'
  refine c_find_7_28 (k := k) (g := g) (D := D) (p := p) (eg := eg) (by rw [eC]; exact hk) (by omega) (by rw [eT]; omega) (by rw [eC, eT]; exact hG') hD (fun I1 b1 b2 b3 b4 b5 => ?_)
  refine (sg_X5_spare_57_0 _ _ _ _ _ _).mpr ?_
  refine c_length_28 ?_
  refine (sg_X5_spare_64 _ _ _ _ _ _ _ _).mpr ?_
  rw [b1]
  exact hQ3 hrk a3 k N g D p eg I1 ⟨by rw [eT]; exact hN, hN6, by rw [eC]; exact hk, hkN, by rw [eC]; exact hG, hD⟩ (fun d hd => b5 d (by omega) (by omega) (by omega) (by omega))
theorem c_put_9 {S : PS} {I : Nat → Nat → Int} {Q : PV1 → Prop} {t r : Int} {w3 w4 : PV} (ht : t = 1) (hV : VT I (I 9 2) (I 10)) (h5 : 0 ≤ I 19 5 ∧ I 19 5 < 20) (h6 : 0 ≤ I 19 6 ∧ I 19 6 ≤ 20) (hr8 : xrw I 8) (hr10 : xrw I 10)
    (hQ1 : ¬ (xuse I r ∧ xplc (I 10) r = -1 ∧ ((xst (I 10) : Nat) : Int) < I 9 2) → Q (some (zI (if ¬ xuse I r then (-1) else if ¬ xplc (I 10) r = -1 then (-2) else (-3))), zH S I))
    (hQ2 : xuse I r → xplc (I 10) r = -1 → ((xst (I 10) : Nat) : Int) < I 9 2 → ∀ (k N g D p : Nat) (eg : QE) (I' : Nat → Nat → Int), Fnd I 9 10 r k N g D p eg → sfA (cB I (I 10) r k) (cA I (I 10) r k) N k eg.1 → cmv N k (cB I (I 10) r k) (cA I (I 10) r k) eg.1 k p →
      I' 25 2 = ((D + 1 : Nat) : Int) → (∀ (w : Nat) (mp : Nat × Nat), (qway (cQu I (N : Int) (I 10) r k 720) D g)[w]? = some mp → I' 26 w = mbr (I 10) r k mp.1 ∧ I' 27 w = (mp.2 : Int)) → I' 26 D = r → I' 27 D = (p : Int) → RF (I' 10) (mem (I 10) 16) eg.1 r p k → (∀ d, 19 ≤ d → d ≤ 24 → I' d = xrem I d) → (∀ d, d < 11 ∨ 28 ≤ d → d ≠ 10 → I' d = I d) → Q (some (zI ((D + 1 : Nat) : Int)), zH S I')) : Wp 87 (0, [zA 0, zI t, zI r, w3, w4], [], zH S I) Q := by
  refine (sg_X5_put_0_0 _ _ _ _ _ _ _).mpr ?_
  refine c_tab9 ht ?_
  refine (sg_X5_put_5_0_9 _ _ _ _ _ _ _).mpr ?_
  refine c_refusedPut_9 ?_
  refine (sg_X5_put_12_0_9 _ _ _ _ _ _ _).mpr ?_
  by_cases a1 : xuse I r
  · by_cases a2 : xplc (I 10) r = -1
    · by_cases a3 : ((xst (I 10) : Nat) : Int) < I 9 2
      · rw [if_neg (not_not_intro a1), if_neg (not_not_intro a2), if_neg (by omega)]
        refine zcd (fun _ => ?_) (fun h => absurd rfl h)
        obtain ⟨k, N, hN, hN6, hk, hkN⟩ := VT_free hV a3
        have hn := xplc_free (by have := a1.1; omega) a2
        have hr : num r := ⟨a1.1, by have := a1.2.1; omega⟩
        rw [hN] at hV
        obtain ⟨g, D, p, eg, hG, hD⟩ := goal_ex hV hk (by omega) hr hn
        have hG' := hG
        rw [← hN] at hG'
        refine c_find_9_25 hk (by omega) (by omega) hG' hD (fun I1 b1 b2 b3 b4 b5 => ?_)
        rw [hN] at b2
        refine (sg_X5_put_39_0_9 _ _ _ _ _ _).mpr ?_
        have e8 := b5 8 (by decide) (by decide) (by decide) (by decide)
        have e10 := b5 10 (by decide) (by decide) (by decide) (by decide)
        have e19 := b5 19 (by decide) (by decide) (by decide) (by decide)
        refine c_remember (by rw [e19]; exact h5) (by rw [e19]; exact h6) (by unfold xrw; rw [e8]; exact hr8) (by unfold xrw; rw [e10]; exact hr10) ?_
        refine (sg_X5_put_43_0_9 _ _ _ _ _ _).mpr ?_
        have x25 : xrem I1 25 = I1 25 := xrem_ne (by decide)
        refine c_carryOut_9_25 (by rw [x25, b1]; omega) ?_
        refine (sg_X5_put_51_0 _ _ _ _ _ _ _).mpr ?_
        refine c_length_25 ?_
        refine (sg_X5_put_58 _ _ _ _ _ _ _ _ _).mpr ?_
        have xT : xrem I1 9 = I 9 := by rw [xrem_ne (by decide), b5 9 (by decide) (by decide) (by decide) (by decide)]
        have xC : xrem I1 10 = I 10 := by rw [xrem_ne (by decide), b5 10 (by decide) (by decide) (by decide) (by decide)]
        have x26 : xrem I1 26 = I1 26 := xrem_ne (by decide)
        have x27 : xrem I1 27 = I1 27 := xrem_ne (by decide)
        have lenD : (xrem I1 25 2).toNat = D + 1 := by rw [x25, b1]; omega
        rw [lenD, xcarry_ne (by decide), x25, b1]
        obtain ⟨c1, c2, c3⟩ := put_row (J := xrem I1) (t := 9) (c := 10) (pt := 25) (by decide) hV hk hr hn hG (by rw [xT]; exact hN) xC (fun w mp hw => by
          rw [x26, x27]; exact b2 w mp hw) (by rw [x26]; exact b3) (by rw [x27]; exact b4)
        refine hQ2 a1 a2 a3 k N g D p eg _ ⟨hN, hN6, hk, hkN, hG, hD⟩ c1 c2 ?_ ?_ ?_ ?_ c3 (fun d d1 d2 => ?_) (fun d d1 d2 => ?_)
        · rw [xcarry_ne (by decide), x25]; exact b1
        · intro w mp hw
          rw [xcarry_ne (by decide), xcarry_ne (by decide), x26, x27]; exact b2 w mp hw
        · rw [xcarry_ne (by decide), x26]; exact b3
        · rw [xcarry_ne (by decide), x27]; exact b4
        · rw [xcarry_ne (by omega)]
          exact xrem_congr (b5 0 (by decide) (by decide) (by decide) (by decide)) e8 e10 (fun d d1 d2 => b5 d (by omega) (by omega) (by omega) (by omega)) d d1 d2
        · rw [xcarry_ne d2, xrem_ne (by omega), b5 d (by omega) (by omega) (by omega) (by omega)]
      · have h1 := hQ1 (fun w => a3 w.2.2)
        rw [if_neg (not_not_intro a1), if_neg (not_not_intro a2)] at h1 ⊢
        rw [if_pos (by omega)]
        exact zcd (fun h => absurd h (by decide)) (fun _ => h1)
    · have h1 := hQ1 (fun w => a2 w.2.1)
      rw [if_neg (not_not_intro a1), if_pos a2] at h1 ⊢
      exact zcd (fun h => absurd h (by decide)) (fun _ => h1)
  · have h1 := hQ1 (fun w => a1 w.1)
    rw [if_pos a1] at h1 ⊢
    exact zcd (fun h => absurd h (by decide)) (fun _ => h1)
theorem c_writes_9 {S : PS} {I : Nat → Nat → Int} {Q : PV1 → Prop} {t r : Int} {w3 w4 : PV} (ht : t = 1) (hV : VT I (I 9 2) (I 10))
    (hQ1 : ¬ (xuse I r ∧ xplc (I 10) r = -1 ∧ ((xst (I 10) : Nat) : Int) < I 9 2) → Q (some (zI (if ¬ xuse I r then (-1) else if ¬ xplc (I 10) r = -1 then (-2) else (-3))), zH S I))
    (hQ2 : xuse I r → xplc (I 10) r = -1 → ((xst (I 10) : Nat) : Int) < I 9 2 → ∀ (k N g D p : Nat) (eg : QE) (I' : Nat → Nat → Int), Fnd I 9 10 r k N g D p eg → (∀ d, d < 11 ∨ (18 < d ∧ d < 28) ∨ 30 < d → I' d = I d) → Q (some (zI ((D + 1 : Nat) : Int)), zH S I')) : Wp 88 (0, [zA 0, zI t, zI r, w3, w4], [], zH S I) Q := by
  refine (sg_X5_writes_0_0 _ _ _ _ _ _ _).mpr ?_
  refine c_tab9 ht ?_
  refine (sg_X5_writes_5_0_9 _ _ _ _ _ _ _).mpr ?_
  refine c_refusedPut_9 ?_
  refine (sg_X5_writes_12_0_9 _ _ _ _ _ _ _).mpr ?_
  by_cases a1 : xuse I r
  · by_cases a2 : xplc (I 10) r = -1
    · by_cases a3 : ((xst (I 10) : Nat) : Int) < I 9 2
      · rw [if_neg (not_not_intro a1), if_neg (not_not_intro a2), if_neg (by omega)]
        refine zcd (fun _ => ?_) (fun h => absurd rfl h)
        obtain ⟨k, N, hN, hN6, hk, hkN⟩ := VT_free hV a3
        have hn := xplc_free (by have := a1.1; omega) a2
        have hr : num r := ⟨a1.1, by have := a1.2.1; omega⟩
        rw [hN] at hV
        obtain ⟨g, D, p, eg, hG, hD⟩ := goal_ex hV hk (by omega) hr hn
        have hG' := hG
        rw [← hN] at hG'
        refine c_find_9_28 hk (by omega) (by omega) hG' hD (fun I1 b1 b2 b3 b4 b5 => ?_)
        refine (sg_X5_writes_39_0 _ _ _ _ _ _ _).mpr ?_
        refine c_length_28 ?_
        refine (sg_X5_writes_46 _ _ _ _ _ _ _ _ _).mpr ?_
        rw [b1]
        exact hQ2 a1 a2 a3 k N g D p eg I1 ⟨hN, hN6, hk, hkN, hG, hD⟩ (fun d hd => b5 d (by omega) (by omega) (by omega) (by omega))
      · have h1 := hQ1 (fun w => a3 w.2.2)
        rw [if_neg (not_not_intro a1), if_neg (not_not_intro a2)] at h1 ⊢
        rw [if_pos (by omega)]
        exact zcd (fun h => absurd h (by decide)) (fun _ => h1)
    · have h1 := hQ1 (fun w => a2 w.2.1)
      rw [if_neg (not_not_intro a1), if_pos a2] at h1 ⊢
      exact zcd (fun h => absurd h (by decide)) (fun _ => h1)
  · have h1 := hQ1 (fun w => a1 w.1)
    rw [if_pos a1] at h1 ⊢
    exact zcd (fun h => absurd h (by decide)) (fun _ => h1)
theorem c_spare_9 {S : PS} {I : Nat → Nat → Int} {Q : PV1 → Prop} {t rk : Int} {w3 : PV} (ht : t = 1) (hV : VT I (I 9 2) (I 10))
    (hQ1 : ¬ (0 ≤ rk ∧ rk < 100) → Q (some (zI (-1)), zH S I)) (hQ2 : (0 ≤ rk ∧ rk < 100) → I 9 2 ≤ ((xst (I 10) : Nat) : Int) → Q (some (zI (-3)), zH S I))
    (hQ3 : (0 ≤ rk ∧ rk < 100) → ((xst (I 10) : Nat) : Int) < I 9 2 → ∀ (k N g D p : Nat) (eg : QE) (I' : Nat → Nat → Int), Fnd (xset I 16 0 0 0 rk 0) 9 10 16 k N g D p eg → (∀ d, d < 11 ∨ (18 < d ∧ d < 28) ∨ 30 < d → I' d = xset I 16 0 0 0 rk 0 d) → Q (some (zI ((D + 1 : Nat) : Int)), zH S I')) : Wp 96 (0, [zA 0, zI t, zI rk, w3], [], zH S I) Q := by
  refine (sg_X5_spare_0_0 _ _ _ _ _ _).mpr ?_
  refine c_tab9 ht ?_
  refine (sg_X5_spare_5_0_9 _ _ _ _ _ _).mpr ?_
  refine c_isRank ?_
  refine (sg_X5_spare_14_0_9 _ _ _ _ _ _).mpr ?_
  refine zcdB (fun h => hQ1 h) (fun hrk => ?_)
  refine c_isFull_9 ?_
  refine (sg_X5_spare_23_0_9 _ _ _ _ _ _).mpr ?_
  refine zcdB (fun hf => ?_) (fun hf => hQ2 hrk hf)
  refine c_set ?_
  rw [if_pos (by decide)]
  show Wp 96 _ _
  refine (sg_X5_spare_43_0_9 _ _ _ _ _).mpr ?_
  have fx : ∀ d, d ≠ 2 → d ≠ 3 → d ≠ 4 → d ≠ 5 → d ≠ 6 → xset I 16 0 0 0 rk 0 d = I d := fun d h2 h3 h4 h5 h6 => by
    rw [xset, zs2_ne _ _ _ _ h6, zs2_ne _ _ _ _ h5, zs2_ne _ _ _ _ h4, zs2_ne _ _ _ _ h3, zs2_ne _ _ _ _ h2]
  have hset : (zs2 (zs2 (zs2 (zs2 (zs2 I 2 (16 : Int).toNat 0) 3 (16 : Int).toNat 0) 4 (16 : Int).toNat 0) 5 (16 : Int).toNat rk) 6 (16 : Int).toNat 0) = xset I 16 0 0 0 rk 0 := rfl
  rw [hset]
  have a3 : ((xst (I 10) : Nat) : Int) < I 9 2 := by omega
  have hV1 : VT (xset I 16 0 0 0 rk 0) (I 9 2) (I 10) := by
    refine VT_congr (fun j hj => ?_) (fun j hj => ?_) (fun j hj => ?_) hV
    · simp (disch := decide) only [xset, zs2_ne]
      rw [zs2_ne2 _ _ _ _ (show j ≠ (16 : Int).toNat by omega), zs2_ne _ _ _ _ (by decide)]
    · simp (disch := decide) only [xset, zs2_ne]
      rw [zs2_ne2 _ _ _ _ (show j ≠ (16 : Int).toNat by omega)]
      simp (disch := decide) only [zs2_ne]
    · simp (disch := decide) only [xset, zs2_ne]
      rw [zs2_ne2 _ _ _ _ (show j ≠ (16 : Int).toNat by omega)]
      simp (disch := decide) only [zs2_ne]
  obtain ⟨k, N, hN, hN6, hk, hkN⟩ := VT_free hV a3
  have hn : ∀ p, p < 6 → I 10 p ≠ 16 := fun p hp e => by have := hV.2.2.1 p hp; omega
  have eC := fx 10 (by decide) (by decide) (by decide) (by decide) (by decide)
  have eT := fx 9 (by decide) (by decide) (by decide) (by decide) (by decide)
  rw [hN] at hV1
  obtain ⟨g, D, p, eg, hG, hD⟩ := goal_ex hV1 hk (by omega) (show num 16 by decide) hn
  have hG' := hG
  rw [← hN] at hG'
  refine c_find_9_28 (k := k) (g := g) (D := D) (p := p) (eg := eg) (by rw [eC]; exact hk) (by omega) (by rw [eT]; omega) (by rw [eC, eT]; exact hG') hD (fun I1 b1 b2 b3 b4 b5 => ?_)
  refine (sg_X5_spare_57_0 _ _ _ _ _ _).mpr ?_
  refine c_length_28 ?_
  refine (sg_X5_spare_64 _ _ _ _ _ _ _ _).mpr ?_
  rw [b1]
  exact hQ3 hrk a3 k N g D p eg I1 ⟨by rw [eT]; exact hN, hN6, by rw [eC]; exact hk, hkN, by rw [eC]; exact hG, hD⟩ (fun d hd => b5 d (by omega) (by omega) (by omega) (by omega))
