/-! the reference: build -/
theorem m_build_n {S : PS} {I : Nat → Nat → Int} {Q : PV1 → Prop} {t : Int} {w2 w3 w4 w5 : PV} (ht : t < 0 ∨ 2 ≤ t) (hQ : Q (some (zI (-1)), zH S I)) : Wp 165 (0, [zA 32, zI t, w2, w3, w4, w5], [], zH S I) Q := by
  refine (sg_X6_build_0_32 _ _ _ _ _ _ _ _).mpr ?_
  refine m_isTable ?_
  refine (sg_X6_build_4_32 _ _ _ _ _ _ _ _ _).mpr ?_
  exact zcdB (fun _ => hQ) (fun h => absurd h (by omega))
theorem bldR_VT {I : Nat → Nat → Int} {N : Nat} {rs : List Nat} {f f' : Nat → Int} {W : Nat} (h : bldR I N rs f f' W) (hV : VT I (N : Int) f') : VT I (N : Int) f := by
  cases rs with
  | nil => obtain ⟨rfl, _⟩ := h; exact hV
  | cons r rs => obtain ⟨k, g, D, p, eg, f1, W1, _, _, _, h4, _⟩ := h; exact h4
theorem bldR_le {I : Nat → Nat → Int} {N : Nat} : ∀ {rs : List Nat} {f f' : Nat → Int} {W : Nat}, bldR I N rs f f' W → W ≤ 16 * rs.length
  | [], _, _, _, ⟨_, h⟩ => by omega
  | r :: rs, f, f', W, ⟨k, g, D, p, eg, f1, W1, _, _, _, _, _, h6, _, h8, h9⟩ => by
    have := bldR_le h8
    rw [List.length_cons]; omega
theorem xplc_iff {f : Nat → Int} {x : Int} (hx : x ≠ -1) : xplc f x ≠ -1 ↔ ∃ q, q < 6 ∧ f q = x := by
  constructor
  · intro h
    obtain ⟨j, h1, _, h3, _⟩ := xplc_in h
    exact ⟨j, h1, h3⟩
  · rintro ⟨q, q1, q2⟩ e
    exact xplc_free hx e q q1 q2
theorem mem_plc {f : Nat → Int} {x : Nat} : x ∈ mem f 16 ↔ x < 16 ∧ xplc f (x : Int) ≠ -1 := mem_mem
theorem RF_Us {I : Nat → Nat → Int} {f f1 : Nat → Int} {b : List Nat} {r p k : Nat} (hU : Us I f) (hr : I 2 r ≠ -1) (hk : (mem f 16).length = k) (hb : barr k b) (h : RF f1 (mem f 16) b (r : Int) p k) : Us I f1 := by
  obtain ⟨f1', f2, f3⟩ := h
  intro q hq hne
  by_cases c : q ∈ b
  · obtain ⟨o, ho, e⟩ := (barr_ex hb).mp c
    have := f1' o ho
    rw [e] at this
    obtain ⟨x, p', a1, a2, a3, a4, a5, a6⟩ := mem_i hk ho
    rw [this, a1, ← a5]
    exact hU p' a3 (by omega)
  · by_cases c2 : q = p
    · subst c2; rw [f2, Int.toNat_natCast]; exact hr
    · exact absurd (f3 q hq c c2) hne
set_option maxRecDepth 100000 in
theorem m_build {S : PS} {I Ic : Nat → Nat → Int} {Q : PV1 → Prop} {w2 w3 w4 w5 : PV} {t w n : Nat} {fT f0 : Nat → Int} (ht : t < 2) (hw : I 32 6 = (w : Int)) (h9 : I 32 9 = (n : Int)) (hn20 : n ≤ 20) (hMet : Mett I) (hC : CR I)
    (i3 : Ic 3 = I 3) (i4 : Ic 4 = I 4) (i5 : Ic 5 = I 5) (hVT : VT Ic (w : Int) fT) (hRT : MRow I w t fT) (hUT : Us I fT) (hV0 : VT Ic (w : Int) f0) (hR0 : MRow I w (1 - t) f0)
    (hQ1 : (∃ p, p < w ∧ f0 p ≠ -1) → Q (some (zI (-2)), zH S I))
    (hQ2 : (∀ p, p < w → f0 p = -1) → ∃ (rs : List Nat) (f' : Nat → Int) (W : Nat), srt Ic fT rs ∧ bldR Ic w rs f0 f' W ∧ VT Ic (w : Int) f' ∧
      ∀ J, Mett J → J 32 21 = 0 → MRow J w (1 - t) f' → (∀ i, i < 6 * (1 - t) ∨ 6 * (1 - t) + w ≤ i → J 39 i = I 39 i) → Kpt I J n (-1) → (∀ d, d < 32 ∨ (32 < d ∧ d < 39) ∨ 49 < d → J d = I d) → (∀ j, j ≠ 9 → j ≠ 16 → j ≠ 18 → j ≠ 20 → j ≠ 21 → J 32 j = I 32 j) → Q (some (zI (W : Int)), zH S J)) :
    Wp 165 (0, [zA 32, zI (t : Int), w2, w3, w4, w5], [], zH S I) Q := by
  have hw6 : w ≤ 6 := by have := hVT.2.1; omega
  have e1t : zsb 1 (t : Int) = ((1 - t : Nat) : Int) := by rw [zsb_eq (by omega)]; omega
  refine (sg_X6_build_0_32 _ _ _ _ _ _ _ _).mpr ?_
  refine m_isTable ?_
  refine (sg_X6_build_4_32 _ _ _ _ _ _ _ _ _).mpr ?_
  refine zcdB (fun h => absurd (by omega) h) (fun _ => ?_)
  -- once the other table is known as empty
  have main : (∀ p, p < w → f0 p = -1) → ∀ (J0 : Nat → Nat → Int) (v2 v3 v4 v5 : PV), Kep I J0 n (-1) → Wp 165 (51, [zA 32, zI (t : Int), v2, v3, v4, v5], [], zH S J0) Q := by
    intro hfree J0 v2 v3 v4 v5 hK
    obtain ⟨rs, f', W, hs, hb, hV', hQ⟩ := hQ2 hfree
    have hK2 := hK
    obtain ⟨-, -, -, -, -, -, -, k8, k9⟩ := hK2
    have hWl := bldR_le hb
    have hrl : rs.length ≤ 16 := by
      rw [hs.1, mem]
      exact Nat.le_trans (List.length_filter_le _ _) (by rw [List.length_range]; exact Nat.le_refl 16)
    refine (sg_X6_build_51_32 _ _ _ _ _ _ _ _).mpr ?_
    have loop : ∀ (rs' : List Nat) (f : Nat → Int) (J : Nat → Nat → Int) (s W' : Nat) (v4 v5 : PV), bldR Ic w rs' f f' W' → s + W' = W → MRow J w (1 - t) f → Us I f → (∀ x : Nat, x < 16 → (x ∈ rs' ↔ xplc fT (x : Int) ≠ -1 ∧ xplc f (x : Int) = -1)) → (∀ x ∈ rs', x < 16) → rs'.Pairwise (fun (x y : Nat) => xhi Ic (x : Int) (y : Int)) → Mett J →
        (∀ i, i < 6 * (1 - t) ∨ 6 * (1 - t) + w ≤ i → J 39 i = I 39 i) → (∀ d, d < 32 ∨ (32 < d ∧ d < 39) ∨ d = 40 ∨ 49 < d → J d = J0 d) → (∀ j, j ≠ 16 → j ≠ 18 → j ≠ 20 → j ≠ 21 → J 32 j = J0 32 j) →
        Wp 165 (55, [zA 32, zI (t : Int), zI (s : Int), zI 1, v4, v5], [], zH S J) Q := by
      intro rs'
      induction rs' with
      | nil =>
        intro f J s W' v4 v5 hb' hsW hMR hU hx hx16 hpw hMJ j39 jd j32
        obtain ⟨rfl, rfl⟩ := hb'
        have hRTJ : MRow J w t fT := fun p hp => by rw [j39 _ (by omega)]; exact hRT p hp
        have jw : J 32 6 = (w : Int) := by rw [j32 6 (by decide) (by decide) (by decide) (by decide), k9 6 (by decide)]; exact hw
        have j33 : J 33 = I 33 := by rw [jd 33 (by omega), k8 33 (by decide) (by decide)]
        refine (sg_X6_build_55_32 _ _ _ _ _ _ _ _).mpr ?_
        refine zcd (fun h => absurd h (by decide)) (fun _ => ?_)
        have find : ∀ (j i : Nat), i + j = 16 → Wp 165 (65, [zA 32, zI (t : Int), zI (s : Int), zI 1, zI (-1), zI (i : Int)], [], zH S J) Q := by
          intro j
          induction j with
          | zero =>
            intro i hi
            obtain rfl : i = 16 := by omega
            refine (sg_X6_build_65_32 _ _ _ _ _ _ _ _).mpr ?_
            refine zcd (fun h => absurd h (by omega)) (fun _ => zcd (fun _ => zcd (fun _ => ?_) (fun h => absurd rfl h)) (fun h => absurd (by decide) h))
            rw [zad_eq (by omega), show (s : Int) + 0 = (W : Int) by omega]
            refine (sg_X6_build_55_32 _ _ _ _ _ _ _ _).mpr ?_
            refine zcd (fun _ => ?_) (fun h => absurd rfl h)
            refine hQ _ (Mett_32 hMJ (by rw [zs2_ne2 _ _ _ _ (by decide)]) (zs2_ne _ _ _ _ (by decide)) (zs2_ne _ _ _ _ (by decide))) (by rw [zs2_at]) (fun p hp => by rw [zs2_ne _ _ _ _ (by decide)]; exact hMR p hp) (fun i hi => by rw [zs2_ne _ _ _ _ (by decide)]; exact j39 i hi) ?_ (fun d hd => ?_) (fun j a1 a2 a3 a4 a5 => ?_)
            · refine Kpt_of hK rfl rfl rfl rfl rfl (by rw [zs2_ne _ _ _ _ (by decide), jd 40 (by omega)]) (by rw [zs2_ne2 _ _ _ _ (by decide), j32 9 (by decide) (by decide) (by decide) (by decide)])
            · rw [zs2_ne _ _ _ _ (by omega), jd d (by omega)]; exact k8 d (by omega) (by omega)
            · rw [zs2_ne2 _ _ _ _ a5, j32 j a2 a3 a4 a5]; exact k9 j a1
          | succ j ih =>
            intro i hi
            have nx := ih (i + 1) (by omega)
            refine (sg_X6_build_65_32 _ _ _ _ _ _ _ _).mpr ?_
            rw [zad_s (i := i) (by omega)]
            refine zcd (fun _ => zgd (by omega) ?_) (fun h => absurd (by omega) h)
            refine zcd (fun _ => nx) (fun _ => ?_)
            refine m_placeOf ht jw hw6 ?_
            refine (sg_X6_build_89_32 _ _ _ _ _ _ _ _ _).mpr ?_
            rw [zad_s (i := i) (by omega)]
            refine zcd (fun _ => nx) (fun h1 => ?_)
            rw [e1t]
            refine m_placeOf (t := 1 - t) (by omega) jw hw6 ?_
            refine (sg_X6_build_101_32 _ _ _ _ _ _ _ _ _).mpr ?_
            rw [zad_s (i := i) (by omega)]
            refine zcd (fun h2 => ?_) (fun _ => nx)
            exfalso
            rw [mplc_eq hVT hRTJ (by omega)] at h1
            rw [mplc_eq hV' hMR (by omega)] at h2
            have z1 : xplc fT (i : Int) ≠ -1 := fun e => h1 (by rw [e]; decide)
            have z2 : xplc f' (i : Int) = -1 := by
              by_cases c : xplc f' (i : Int) = -1
              · exact c
              · obtain ⟨q, _, q2, _⟩ := xplc_in c; omega
            exact absurd ((hx i (by omega)).mpr ⟨z1, z2⟩) (by simp)
        exact find 16 0 (by omega)
      | cons r rest ihr =>
        intro f J s W' v4 v5 hb' hsW hMR hU hx hx16 hpw hMJ j39 jd j32
        have hWl' := bldR_le hb'
        obtain ⟨k, g, D, p, eg, f1, W1, c1, c2, c3, c4, c5, c6, c7, c8, c9⟩ := hb'
        have hVf1 := bldR_VT c8 hV'
        have hRTJ : MRow J w t fT := fun p hp => by rw [j39 _ (by omega)]; exact hRT p hp
        have jw : J 32 6 = (w : Int) := by rw [j32 6 (by decide) (by decide) (by decide) (by decide), k9 6 (by decide)]; exact hw
        have ji : ∀ d, d = 33 ∨ d = 35 ∨ d = 36 ∨ d = 37 → J d = I d := fun d hd => by rw [jd d (by omega), k8 d (by omega) (by omega)]
        have hr16 := hx16 r (List.mem_cons_self ..)
        have hr0 := (hx r hr16).mp (List.mem_cons_self ..)
        have hru : I 2 r ≠ -1 := by
          obtain ⟨q, q1, q2⟩ := (xplc_iff (f := fT) (x := (r : Int)) (by omega)).mp hr0.1
          have := hUT q q1 (by omega)
          rw [q2, Int.toNat_natCast] at this; exact this
        have hP : ∀ x : Nat, x < 16 → ((J 33 x ≠ 0 ∧ ¬ mplc J w t (x : Int) < 0 ∧ mplc J w (1 - t) (x : Int) < 0) ↔ x ∈ r :: rest) := fun x hx1 => by
          rw [hx x hx1, mplc_eq hVT hRTJ (by omega), mplc_eq c4 hMR (by omega), ji 33 (by omega)]
          constructor
          · rintro ⟨a1, a2, a3⟩
            refine ⟨fun e => a2 (by rw [e]; decide), ?_⟩
            by_cases c : xplc f (x : Int) = -1
            · exact c
            · obtain ⟨q, _, q2, _⟩ := xplc_in c; omega
          · rintro ⟨a1, a2⟩
            obtain ⟨q, b1, b2, b3, b4⟩ := xplc_in a1
            have hu : I 2 x ≠ -1 := by
              have := hUT q b1 (by omega)
              rw [b3, Int.toNat_natCast] at this; exact this
            exact ⟨fun e => hu ((hC x hx1).1.mpr e), by rw [b2]; omega, by rw [a2]; decide⟩
        refine (sg_X6_build_55_32 _ _ _ _ _ _ _ _).mpr ?_
        refine zcd (fun h => absurd h (by decide)) (fun _ => ?_)
        let F : Nat → Int → Int := fun x a => if (J 33 x ≠ 0 ∧ ¬ mplc J w t (x : Int) < 0 ∧ mplc J w (1 - t) (x : Int) < 0) ∧ (a < 0 ∨ mhi J (x : Int) a) then (x : Int) else a
        have hF : ∀ x a, F x a = if (J 33 x ≠ 0 ∧ ¬ mplc J w t (x : Int) < 0 ∧ mplc J w (1 - t) (x : Int) < 0) ∧ (a < 0 ∨ mhi J (x : Int) a) then (x : Int) else a := fun _ _ => rfl
        have M := best_spec (P := fun x => J 33 x ≠ 0 ∧ ¬ mplc J w t (x : Int) < 0 ∧ mplc J w (1 - t) (x : Int) < 0) (h := mhi J) (fun a b c => mhi_tr a b c) (fun a b => mhi_tot a b) (F := F) hF
        have hbest : zfold F (-1) 16 = (r : Int) := by
          rcases M 16 with ⟨_, m2⟩ | ⟨b, m1, m2, m3, m4⟩
          · exact absurd ((hP r hr16).mpr (List.mem_cons_self ..)) (m2 r hr16)
          · rw [m1]
            by_cases e : b = r
            · rw [e]
            · exfalso
              have hbm := (hP b m2).mp m3
              have hbr : b ∈ rest := by
                rcases List.mem_cons.mp hbm with z | z
                · exact absurd z e
                · exact z
              have h1 := (List.pairwise_cons.mp hpw).1 b hbr
              have h2 := m4 r hr16 ((hP r hr16).mpr (List.mem_cons_self ..)) (fun z => e z.symm)
              have hub : I 2 b ≠ -1 := by
                have := (hx b m2).mp hbm
                obtain ⟨q, q1, q2⟩ := (xplc_iff (f := fT) (x := (b : Int)) (by omega)).mp this.1
                have := hUT q q1 (by omega)
                rw [q2, Int.toNat_natCast] at this; exact this
              have g1 := ((hC b m2).2.2 hub).1.2.2
              have g2 := ((hC r hr16).2.2 hru).1.2.2
              have hx3 := h1.2.2
              rw [i5, Int.toNat_natCast, Int.toNat_natCast] at hx3
              unfold mhi at h2
              rw [ji 37 (by omega), Int.toNat_natCast, Int.toNat_natCast, g1, g2] at h2
              omega
        have lay : ∀ v5 : PV, Wp 147 (0, [zA 32, zI ((1 - t : Nat) : Int), zI (r : Int), zU, zU, zU], [], zH S J) (fun z => Wp 165 (160, [zA 32, zI (t : Int), zI (s : Int), zI 1, zI (r : Int), v5], z.1.toList ++ [zI (s : Int)], z.2) Q) := fun v5 => by
          have hmv : cmvI Ic (w : Int) f (r : Int) k = cmv w k (cB Ic f (r : Int) k) (cA Ic f (r : Int) k) := by rw [cmvI, show (min (w : Int) 6).toNat = w by omega]
          rw [cQu, hmv] at c5
          have cB1 : ∀ m o, cB Ic f (r : Int) k m o ↔ cB I f (r : Int) k m o := fun m o => by simp only [cB, xov, xhi, i3, i4, i5]
          have cA1 : ∀ m o, cA Ic f (r : Int) k m o ↔ cA I f (r : Int) k m o := fun m o => by simp only [cA, xov, xhi, i3, i4, i5]
          have rr : RA I (r : Int).toNat := by rw [Int.toNat_natCast]; exact ((hC r hr16).2.2 hru).1
          have hnr : num (r : Int) := ⟨by omega, by omega⟩
          have hbb := bq_good (mv := cmv w k (cB Ic f (r : Int) k) (cA Ic f (r : Int) k)) (k := k) cmv_out (ca0_barr c1) 720
          have hbar := hbb.2.1 eg (List.mem_of_getElem? c5.1)
          refine m_layIn (B := cB Ic f (r : Int) k) (A := cA Ic f (r : Int) k) jw (by omega) c4 hMR c1 (by omega) hMJ hnr c3 (fun m o hm ho => ?_) (fun m o hm ho => ?_) c5 c6 (fun J2 b1 b2 b3 b4 b5 b6 b7 b8 b9 => ?_)
          · rw [cB1, (cB_mBr hC c1 hU rr hnr ho).1]
            unfold mBr mov mhi
            rw [ji 35 (by omega), ji 36 (by omega), ji 37 (by omega)]
          · rw [cA1, (cB_mBr hC c1 hU rr hnr ho).2]
            unfold mAr mov mhi
            rw [ji 35 (by omega), ji 36 (by omega), ji 37 (by omega)]
          · refine (sg_X6_build_160_32 _ _ _ _ _ _ _ _ _ _).mpr ?_
            rw [List.length_cons] at hWl'
            rw [zad_eq (by omega), show (s : Int) + ((D + 1 : Nat) : Int) = ((s + (D + 1) : Nat) : Int) by omega]
            refine ihr f1 J2 (s + (D + 1)) W1 _ _ c8 (by omega) (b6 f1 c7) (RF_Us hU hru c1 hbar c7) (fun x hx1 => ?_) (fun x hx1 => hx16 x (List.mem_cons_of_mem _ hx1)) (List.pairwise_cons.mp hpw).2 b1 (fun i hi => by rw [b7 i hi]; exact j39 i hi) (fun d hd => by rw [b8 d (by omega)]; exact jd d hd) (fun j a1 a2 a3 a4 => by rw [b9 j a1 a2 a3 a4]; exact j32 j a1 a2 a3 a4)
            have hp6 : p < 6 := by have := c5.2.2.1.1; omega
            have hmm := RF_mem hVf1 c1 hbar hp6 c7 x
            have hold := hx x hx1
            rw [List.mem_cons] at hold
            have hnd : x = r → x ∉ rest := fun e hm => by
              have := (List.pairwise_cons.mp hpw).1 x hm
              rw [e] at this
              exact xhi_asy this this
            rw [mem_plc, mem_plc] at hmm
            constructor
            · intro hm
              have h2 := hold.mp (Or.inr hm)
              refine ⟨h2.1, ?_⟩
              by_cases c : xplc f1 (x : Int) = -1
              · exact c
              · rcases hmm.mp ⟨hx1, c⟩ with z | z
                · exact absurd h2.2 z.2
                · exact absurd hm (hnd z)
            · rintro ⟨h1, h2⟩
              have h3 : xplc f (x : Int) = -1 := by
                by_cases c : xplc f (x : Int) = -1
                · exact c
                · exact absurd h2 (hmm.mpr (Or.inl ⟨hx1, c⟩)).2
              rcases hold.mpr ⟨h1, h3⟩ with z | z
              · exact absurd h2 (hmm.mpr (Or.inr z)).2
              · exact z
        have find : ∀ (j i : Nat), i + j = 16 → Wp 165 (65, [zA 32, zI (t : Int), zI (s : Int), zI 1, zI (zfold F (-1) i), zI (i : Int)], [], zH S J) Q := by
          intro j
          induction j with
          | zero =>
            intro i hi
            obtain rfl : i = 16 := by omega
            rw [hbest]
            refine (sg_X6_build_65_32 _ _ _ _ _ _ _ _).mpr ?_
            refine zcd (fun h => absurd h (by omega)) (fun _ => zcd (fun h => absurd h (by omega)) (fun _ => zcd (fun h => absurd h (by decide)) (fun _ => ?_)))
            rw [e1t]
            exact lay _
          | succ j ih =>
            intro i hi
            have nx := ih (i + 1) (by omega)
            rw [zfold_s, hF] at nx
            refine (sg_X6_build_65_32 _ _ _ _ _ _ _ _).mpr ?_
            rw [zad_s (i := i) (by omega), Int.toNat_natCast]
            refine zcd (fun _ => zgd (by omega) ?_) (fun h => absurd (by omega) h)
            refine zcd (fun h0 => ?_) (fun h0 => ?_)
            · rw [if_neg (fun c => c.1.1 h0)] at nx; exact nx
            refine m_placeOf ht jw hw6 ?_
            refine (sg_X6_build_89_32 _ _ _ _ _ _ _ _ _).mpr ?_
            rw [zad_s (i := i) (by omega)]
            refine zcd (fun h1 => ?_) (fun h1 => ?_)
            · rw [if_neg (fun c => c.1.2.1 h1)] at nx; exact nx
            rw [e1t]
            refine m_placeOf (t := 1 - t) (by omega) jw hw6 ?_
            refine (sg_X6_build_101_32 _ _ _ _ _ _ _ _ _).mpr ?_
            rw [zad_s (i := i) (by omega)]
            refine zcd (fun h2 => ?_) (fun h2 => ?_)
            · refine zcd (fun h3 => ?_) (fun h3 => ?_)
              · rw [if_pos ⟨⟨h0, h1, h2⟩, Or.inl h3⟩] at nx; exact nx
              · have hin : 0 ≤ zfold F (-1) i ∧ zfold F (-1) i < 16 := by
                  rcases M i with ⟨m1, _⟩ | ⟨b, m1, m2, _⟩
                  · rw [m1] at h3; exact absurd (by decide) h3
                  · rw [m1]; omega
                refine m_isHigher ⟨by omega, by omega⟩ ⟨by omega, by omega⟩ ?_
                refine (sg_X6_build_117_32 _ _ _ _ _ _ _ _ _).mpr ?_
                rw [zad_s (i := i) (by omega)]
                refine zcdB (fun h4 => ?_) (fun h4 => ?_)
                · rw [if_neg (fun c => c.2.elim h3 h4)] at nx; exact nx
                · rw [if_pos ⟨⟨h0, h1, h2⟩, Or.inr h4⟩] at nx; exact nx
            · rw [if_neg (fun c => h2 c.1.2.2)] at nx; exact nx
        exact find 16 0 (by omega)
    have hm0 : ∀ x : Int, x ≠ -1 → xplc f0 x = -1 := fun x hx => xplc_none (fun q hq e => by
      by_cases c : q < w
      · rw [hfree q c] at e; omega
      · rw [hV0.2.2.2.1 q (by omega) hq] at e; omega)
    refine loop rs f0 J0 0 W _ _ hb (by omega) (fun p hp => by rw [k8 39 (by decide) (by decide)]; exact hR0 p hp) (fun q hq hne => ?_) (fun x hx => ?_) (fun x hx => ?_) hs.2.2.2 (Mett_32 hMet (k9 16 (by decide)) (k8 41 (by decide) (by decide)) (k8 42 (by decide) (by decide))) (fun i _ => by rw [k8 39 (by decide) (by decide)]) (fun _ _ => rfl) (fun _ _ _ _ _ => rfl)
    · exfalso
      by_cases c : q < w
      · exact hne (hfree q c)
      · exact hne (hV0.2.2.2.1 q (by omega) hq)
    · rw [hs.2.1 x, mem_plc]
      exact ⟨fun z => ⟨z.2, hm0 _ (by omega)⟩, fun z => ⟨hx, z.1⟩⟩
    · exact (mem_plc.mp ((hs.2.1 x).mp hx)).1
  -- whether the other table is empty
  have look : ∀ (j i : Nat) (v3 v4 v5 : PV), i + j = w → (∀ p, p < i → f0 p = -1) → Wp 165 (11, [zA 32, zI (t : Int), zI (i : Int), v3, v4, v5], [], zH S I) Q := by
    intro j
    induction j with
    | zero =>
      intro i v3 v4 v5 hi hall
      obtain rfl : i = w := by omega
      refine (sg_X6_build_11_32 _ _ _ _ _ _ _ _).mpr ?_
      rw [hw]
      refine zcd (fun h => absurd h (by omega)) (fun _ => ?_)
      exact m_keep h9 hn20 (Or.inl (by decide)) (fun J0 hK => main hall J0 _ _ _ _ hK)
    | succ j ih =>
      intro i v3 v4 v5 hi hall
      have h3 := hV0.2.2.1 i (by omega)
      refine (sg_X6_build_11_32 _ _ _ _ _ _ _ _).mpr ?_
      rw [hw, e1t, zix (by omega) (by omega), zad_s (i := i) (by omega), Int.toNat_natCast, hR0 i (by omega)]
      refine zcd (fun _ => zgd (by omega) ?_) (fun h => absurd (by omega) h)
      by_cases e : f0 i = -1
      · rw [if_pos e]
        refine zcd (fun _ => ih (i + 1) _ _ _ (by omega) (fun p hp => ?_)) (fun h => absurd rfl h)
        by_cases c : p = i
        · subst c; exact e
        · exact hall p (by omega)
      · rw [if_neg e]
        exact zcd (fun h => by omega) (fun _ => hQ1 ⟨i, by omega, e⟩)
  exact look w 0 _ _ _ (by omega) (fun p hp => absurd hp (by omega))
