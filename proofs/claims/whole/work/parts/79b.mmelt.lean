/-! the reference: melt, whole -/
theorem mjud_congr {I J : Nat → Nat → Int} {w t : Nat} {k : Int} (e35 : J 35 = I 35) (e36 : J 36 = I 36) (e38 : J 38 = I 38) (e39 : J 39 = I 39) : mjud J w t k = mjud I w t k := by
  unfold mjud mfit
  rw [e35, e36, e38, e39]
theorem m_melt_n {S : PS} {I : Nat → Nat → Int} {Q : PV1 → Prop} {t a b : Int} {w4 w5 w6 w7 w8 w9 w10 w11 w12 : PV} (ht : t < 0 ∨ 2 ≤ t) (hQ : Q (some (zI (-1)), zH S I)) : Wp 162 (0, [zA 32, zI t, zI a, zI b, w4, w5, w6, w7, w8, w9, w10, w11, w12], [], zH S I) Q := by
  refine (sg_X6_melt_0_32 _ _ _ _ _ _ _ _ _ _ _ _ _ _ _).mpr ?_
  refine m_isTable ?_
  refine (sg_X6_melt_4_32 _ _ _ _ _ _ _ _ _ _ _ _ _ _ _ _).mpr ?_
  exact zcdB (fun _ => hQ) (fun h => absurd h (by omega))
set_option maxRecDepth 100000 in
/-- the trying, from the first loop on -/
theorem m_melt_try {S : PS} {I : Nat → Nat → Int} {Q : PV1 → Prop} {l g bit : Int} {v2 v3 v4 w9 w10 w11 w12 : PV} {t w n p : Nat} (ht : t < 2) (hw : I 32 6 = (w : Int)) (hw6 : w ≤ 6) (h9 : I 32 9 = (n : Int)) (hn20 : n ≤ 20) (hc : ∀ p, p < w → I 39 (6 * t + p) < 16)
    (hl : 0 ≤ l ∧ l < 16) (hg : mplc I w t g = (p : Int)) (hp : p < w) (hpg : I 39 (6 * t + p) = g)
    (hQ3 : ¬ (msafe (mmel I t p l bit) w t ∧ ∀ k : Nat, k < 32 → mjud (mmel I t p l bit) w t (k : Int) = mjud I w t (k : Int)) → Q (some (zI (-2)), zH S (zmapc I 50 32 (fun k => mjud I w t (k : Int)))))
    (hQ4 : (msafe (mmel I t p l bit) w t ∧ ∀ k : Nat, k < 32 → mjud (mmel I t p l bit) w t (k : Int) = mjud I w t (k : Int)) → ∀ J, Kep (zmapc I 50 32 (fun k => mjud I w t (k : Int))) J n l → Q (some (zI l), zH S (zs2 (mmel J t p l bit) 32 21 0))) :
    Wp 162 (191, [zA 32, zI (t : Int), v2, v3, v4, zI bit, zI l, zI g, zI 0, w9, w10, w11, w12], [], zH S I) Q := by
  generalize hI1 : zmapc I 50 32 (fun k => mjud I w t (k : Int)) = I1 at hQ3 hQ4
  have e1 : ∀ d, d ≠ 50 → I1 d = I d := fun d hd => by rw [← hI1, zmapc_ne _ _ _ _ hd]
  have a50 : ∀ k, k < 32 → I1 50 k = mjud I w t (k : Int) := fun k hk => by rw [← hI1, zmapc_at _ _ _ _ hk]
  have mm : ∀ d, d ≠ 50 → mmel I1 t p l bit d = mmel I t p l bit d := fun d hd => by
    have : ∀ x : Nat → Nat → Int, x 39 = x 39 := fun _ => rfl
    unfold mmel
    rw [e1 36 (by decide), e1 35 (by decide)]
    funext j
    by_cases h35 : d = 35
    · subst h35
      by_cases e : j = l.toNat
      · subst e; rw [zs2_at, zs2_at]
      · rw [zs2_ne2 _ _ _ _ e, zs2_ne2 _ _ _ _ e]
        simp (disch := decide) only [zs2_ne]
        rw [e1 35 hd]
    · rw [zs2_ne _ _ _ _ h35, zs2_ne _ _ _ _ h35]
      by_cases h36 : d = 36
      · subst h36
        by_cases e : j = l.toNat
        · subst e; rw [zs2_at, zs2_at]
        · rw [zs2_ne2 _ _ _ _ e, zs2_ne2 _ _ _ _ e]
          simp (disch := decide) only [zs2_ne]
          rw [e1 36 hd]
      · rw [zs2_ne _ _ _ _ h36, zs2_ne _ _ _ _ h36]
        by_cases h39 : d = 39
        · subst h39
          by_cases e : j = 6 * t + p
          · subst e; rw [zs2_at, zs2_at]
          · rw [zs2_ne2 _ _ _ _ e, zs2_ne2 _ _ _ _ e, e1 39 hd]
        · rw [zs2_ne _ _ _ _ h39, zs2_ne _ _ _ _ h39, e1 d hd]
  have hsafe : msafe (mmel I1 t p l bit) w t ↔ msafe (mmel I t p l bit) w t := by
    unfold msafe mbadp mov mhi
    rw [mm 39 (by decide), mm 35 (by decide), mm 36 (by decide), mm 37 (by decide)]
  have hjud : ∀ k : Int, mjud (mmel I1 t p l bit) w t k = mjud (mmel I t p l bit) w t k := fun k => mjud_congr (mm 35 (by decide)) (mm 36 (by decide)) (mm 38 (by decide)) (mm 39 (by decide))
  have fin : ∀ (j i : Nat) (x : Int), i + j = 32 → (x = 0 ∨ x = 1) → (x = 1 ↔ msafe (mmel I t p l bit) w t ∧ ∀ k : Nat, k < i → mjud (mmel I t p l bit) w t (k : Int) = mjud I w t (k : Int)) →
      Wp 162 (297, [zA 32, zI (t : Int), v2, v3, v4, zI bit, zI l, zI g, zI ((6 * t + p : Nat) : Int), zI (I1 36 l.toNat), zI (I1 35 l.toNat), zI x, zI (i : Int)], [], zH S (mmel I1 t p l bit)) Q := by
    intro j
    induction j with
    | zero =>
      intro i x hi h1 h2
      obtain rfl : i = 32 := by omega
      refine (sg_X6_melt_297_32 _ _ _ _ _ _ _ _ _ _ _ _ _ _ _).mpr ?_
      rw [Int.toNat_natCast, mmel_back (by rw [e1 39 (by decide)]; exact hpg)]
      refine zcd (fun h => absurd h (by omega)) (fun _ => zgd (by omega) (zgd (by omega) (zgd (by omega) ?_)))
      refine zcd (fun hx => hQ3 (fun c => by have := h2.mpr c; omega)) (fun hx => ?_)
      refine m_keep (n := n) (by rw [e1 32 (by decide)]; exact h9) hn20 (Or.inr ⟨hl.1, by omega⟩) (fun J hJ => ?_)
      refine (sg_X6_melt_380_32 _ _ _ _ _ _ _ _ _ _ _ _ _ _ _).mpr ?_
      have := hQ4 (h2.mp (by omega)) J hJ
      unfold mmel at this
      rw [Int.toNat_natCast]
      simp (disch := decide) only [zs2_ne]
      exact zgd (by omega) (zgd (by omega) (zgd (by omega) (zgd (by omega) (zgd (by omega) this))))
    | succ j ih =>
      intro i x hi h1 h2
      refine (sg_X6_melt_297_32 _ _ _ _ _ _ _ _ _ _ _ _ _ _ _).mpr ?_
      rw [zad_s (i := i) (by omega)]
      refine zcd (fun _ => ?_) (fun h => absurd (by omega) h)
      refine zcd (fun hx => ih (i + 1) 0 (by omega) (Or.inl rfl) ⟨fun c => absurd c (by decide), fun c => ?_⟩) (fun hx => ?_)
      · have := h2.mpr ⟨c.1, fun k hk => c.2 k (by omega)⟩; omega
      · have hy := h2.mp (by omega)
        refine m_judge ht (by rw [mmel_ne (by decide) (by decide) (by decide), e1 32 (by decide)]; exact hw) hw6 (fun q hq => ?_) ?_
        · rw [mm 39 (by decide), mmel, zs2_ne _ _ _ _ (by decide), zs2_ne _ _ _ _ (by decide)]
          by_cases e : q = p
          · subst e; rw [zs2_at]; decide
          · rw [zs2_ne2 _ _ _ _ (by omega)]; exact hc q hq
        refine (sg_X6_melt_316_32 _ _ _ _ _ _ _ _ _ _ _ _ _ _ _ _).mpr ?_
        rw [Int.toNat_natCast, mmel_ne (by decide) (by decide) (by decide), a50 i (by omega), zad_s (i := i) (by omega), hjud]
        refine zgd (by omega) ?_
        refine zcd (fun e => ih (i + 1) 1 (by omega) (Or.inr rfl) ⟨fun _ => ⟨hy.1, fun k hk => ?_⟩, fun _ => rfl⟩) (fun e => ih (i + 1) 0 (by omega) (Or.inl rfl) ⟨fun c => absurd c (by decide), fun c => absurd (c.2 i (by omega)) e⟩)
        by_cases e2 : k = i
        · subst e2; exact e
        · exact hy.2 k (by omega)
  have first : ∀ (j i : Nat), i + j = 32 → Wp 162 (191, [zA 32, zI (t : Int), v2, v3, v4, zI bit, zI l, zI g, zI (i : Int), w9, w10, w11, w12], [], zH S (zmapc I 50 i (fun k => mjud I w t (k : Int)))) Q := by
    intro j
    induction j with
    | zero =>
      intro i hi
      obtain rfl : i = 32 := by omega
      rw [hI1]
      refine (sg_X6_melt_191_32 _ _ _ _ _ _ _ _ _ _ _ _ _ _ _).mpr ?_
      refine zcd (fun h => absurd h (by omega)) (fun _ => ?_)
      refine m_placeOf ht (by rw [e1 32 (by decide)]; exact hw) hw6 ?_
      rw [show mplc I1 w t g = (p : Int) by unfold mplc; rw [e1 39 (by decide)]; exact hg]
      refine (sg_X6_melt_229_32 _ _ _ _ _ _ _ _ _ _ _ _ _ _ _ _ _).mpr ?_
      rw [zix ht (by omega), Int.toNat_natCast]
      simp (disch := decide) only [zs2_ne]
      refine zgd (by omega) (zgd (by omega) (zgd (by omega) (zgd (by omega) (zgd (by omega) (zgd (by omega) (zgd (by omega) ?_))))))
      show Wp 161 (0, _, [], zH S (mmel I1 t p l bit)) _
      refine m_isSafe ht (by rw [mmel_ne (by decide) (by decide) (by decide), e1 32 (by decide)]; exact hw) hw6 (fun q hq => ?_) (fun x x1 x2 => ?_)
      · rw [mm 39 (by decide), mmel, zs2_ne _ _ _ _ (by decide), zs2_ne _ _ _ _ (by decide)]
        by_cases e : q = p
        · subst e; rw [zs2_at]; decide
        · rw [zs2_ne2 _ _ _ _ (by omega)]; exact hc q hq
      refine (sg_X6_melt_292_32 _ _ _ _ _ _ _ _ _ _ _ _ _ _ _ _).mpr ?_
      exact fin 32 0 x (by omega) x1 (x2.trans ⟨fun h => ⟨hsafe.mp h, fun k hk => absurd hk (by omega)⟩, fun h => hsafe.mpr h.1⟩)
    | succ j ih =>
      intro i hi
      have ne : ∀ d, d ≠ 50 → zmapc I 50 i (fun k => mjud I w t (k : Int)) d = I d := fun d hd => zmapc_ne _ _ _ _ hd
      refine (sg_X6_melt_191_32 _ _ _ _ _ _ _ _ _ _ _ _ _ _ _).mpr ?_
      refine zcd (fun _ => ?_) (fun h => absurd (by omega) h)
      refine m_judge ht (by rw [ne 32 (by decide)]; exact hw) hw6 (fun q hq => by rw [ne 39 (by decide)]; exact hc q hq) ?_
      rw [mjud_congr (ne 35 (by decide)) (ne 36 (by decide)) (ne 38 (by decide)) (ne 39 (by decide))]
      refine (sg_X6_melt_211_32_50 _ _ _ _ _ _ _ _ _ _ _ _ _ _ _ _ _).mpr ?_
      rw [Int.toNat_natCast, zad_s (i := i) (by omega), zmapc_s I 50 i (fun k => mjud I w t (k : Int)) rfl]
      exact zgd (by omega) (ih (i + 1) (by omega))
  have := first 32 0 (by omega)
  rw [zmapc_0] at this
  exact this
set_option maxRecDepth 100000 in
theorem m_melt {S : PS} {I : Nat → Nat → Int} {Q : PV1 → Prop} {a b : Int} {w4 w5 w6 w7 w8 w9 w10 w11 w12 : PV} {t w n : Nat} (ht : t < 2) (hw : I 32 6 = (w : Int)) (hw6 : w ≤ 6) (h9 : I 32 9 = (n : Int)) (hn20 : n ≤ 20) (hc : ∀ u, u < 2 → ∀ p, p < w → I 39 (6 * u + p) < 16)
    (hQ1 : ¬ mmok I a b → Q (some (zI (-1)), zH S I)) (hQ2 : mmok I a b → ¬ (monly I w t a ∧ monly I w t b ∧ mbto I a b) → Q (some (zI (-2)), zH S I))
    (hQ3 : mmok I a b → (monly I w t a ∧ monly I w t b ∧ mbto I a b) → ∀ (l g : Int) (p : Nat), ((mhi I a b ∧ l = a ∧ g = b) ∨ (¬ mhi I a b ∧ l = b ∧ g = a)) → mplc I w t g = (p : Int) → p < w → I 39 (6 * t + p) = g → ¬ (msafe (mmel I t p l (zxr (I 35 a.toNat) (I 35 b.toNat))) w t ∧ ∀ k : Nat, k < 32 → mjud (mmel I t p l (zxr (I 35 a.toNat) (I 35 b.toNat))) w t (k : Int) = mjud I w t (k : Int)) → Q (some (zI (-2)), zH S (zmapc I 50 32 (fun k => mjud I w t (k : Int)))))
    (hQ4 : mmok I a b → (monly I w t a ∧ monly I w t b ∧ mbto I a b) → ∀ (l g : Int) (p : Nat), ((mhi I a b ∧ l = a ∧ g = b) ∨ (¬ mhi I a b ∧ l = b ∧ g = a)) → mplc I w t g = (p : Int) → p < w → I 39 (6 * t + p) = g → (msafe (mmel I t p l (zxr (I 35 a.toNat) (I 35 b.toNat))) w t ∧ ∀ k : Nat, k < 32 → mjud (mmel I t p l (zxr (I 35 a.toNat) (I 35 b.toNat))) w t (k : Int) = mjud I w t (k : Int)) → ∀ J, Kep (zmapc I 50 32 (fun k => mjud I w t (k : Int))) J n l → Q (some (zI l), zH S (zs2 (mmel J t p l (zxr (I 35 a.toNat) (I 35 b.toNat))) 32 21 0))) :
    Wp 162 (0, [zA 32, zI (t : Int), zI a, zI b, w4, w5, w6, w7, w8, w9, w10, w11, w12], [], zH S I) Q := by
  refine (sg_X6_melt_0_32 _ _ _ _ _ _ _ _ _ _ _ _ _ _ _).mpr ?_
  refine m_isTable ?_
  refine (sg_X6_melt_4_32 _ _ _ _ _ _ _ _ _ _ _ _ _ _ _ _).mpr ?_
  refine zcdB (fun h => absurd (by omega) h) (fun _ => ?_)
  refine m_isRule ?_
  refine (sg_X6_melt_12_32 _ _ _ _ _ _ _ _ _ _ _ _ _ _ _ _).mpr ?_
  refine zcdB (fun h => hQ1 (fun c => h c.1.1)) (fun ua => ?_)
  refine m_isRule ?_
  refine (sg_X6_melt_20_32 _ _ _ _ _ _ _ _ _ _ _ _ _ _ _ _).mpr ?_
  refine zcdB (fun h => hQ1 (fun c => h c.2.1.1)) (fun ub => ?_)
  have a1 := ua.1
  have a2 := ua.2.1
  have b1 := ub.1
  have b2 := ub.2.1
  refine zcd (fun h => hQ1 (fun c => c.2.2 h)) (fun hab => ?_)
  refine zgd (by omega) (zcd (fun h => hQ1 (fun c => c.1.2 h)) (fun ka => ?_))
  refine zgd (by omega) (zcd (fun h => hQ1 (fun c => c.2.1.2 h)) (fun kb => ?_))
  have hok : mmok I a b := ⟨⟨ua, ka⟩, ⟨ub, kb⟩, hab⟩
  have e1t : zsb 1 (t : Int) = ((1 - t : Nat) : Int) := by rw [zsb_eq (by omega)]; omega
  refine m_placeOf ht hw hw6 ?_
  refine (sg_X6_melt_56_32 _ _ _ _ _ _ _ _ _ _ _ _ _ _ _ _).mpr ?_
  refine zcd (fun h => zgd (by omega) (zgd (by omega) (zcd (fun _ => hQ2 hok (fun c => c.1.1 h)) (fun h => absurd rfl h)))) (fun n1 => ?_)
  refine m_placeOf ht hw hw6 ?_
  refine (sg_X6_melt_65_32 _ _ _ _ _ _ _ _ _ _ _ _ _ _ _ _).mpr ?_
  refine zcd (fun h => zgd (by omega) (zgd (by omega) (zcd (fun _ => hQ2 hok (fun c => c.2.1.1 h)) (fun h => absurd rfl h)))) (fun n2 => ?_)
  rw [e1t]
  refine m_placeOf (t := 1 - t) (by omega) hw hw6 ?_
  refine (sg_X6_melt_76_32 _ _ _ _ _ _ _ _ _ _ _ _ _ _ _ _).mpr ?_
  refine zcd (fun n3 => ?_) (fun h => zgd (by omega) (zgd (by omega) (zcd (fun _ => hQ2 hok (fun c => h c.1.2)) (fun h => absurd rfl h))))
  rw [e1t]
  refine m_placeOf (t := 1 - t) (by omega) hw hw6 ?_
  refine (sg_X6_melt_87_32 _ _ _ _ _ _ _ _ _ _ _ _ _ _ _ _).mpr ?_
  refine zcd (fun n4 => ?_) (fun h => zgd (by omega) (zgd (by omega) (zcd (fun _ => hQ2 hok (fun c => h c.2.1.2)) (fun h => absurd rfl h))))
  refine zgd (by omega) (zgd (by omega) (zcd (fun h => absurd h (by decide)) (fun _ => zgd (by omega) (zgd (by omega) ?_))))
  refine zcd (fun m1 => ?_) (fun h => hQ2 hok (fun c => h c.2.2.1))
  refine zgd (by omega) (zgd (by omega) ?_)
  refine zcd (fun m2 => ?_) (fun h => hQ2 hok (fun c => h c.2.2.2.1))
  refine m_ones ?_
  refine (sg_X6_melt_152_32 _ _ _ _ _ _ _ _ _ _ _ _ _ _ _ _).mpr ?_
  refine zcd (fun m3 => ?_) (fun h => hQ2 hok (fun c => h c.2.2.2.2))
  have hon : monly I w t a ∧ monly I w t b ∧ mbto I a b := ⟨⟨n1, n3⟩, ⟨n2, n4⟩, m1, m2, m3⟩
  refine m_isHigher ⟨by omega, by omega⟩ ⟨by omega, by omega⟩ ?_
  refine (sg_X6_melt_165_32 _ _ _ _ _ _ _ _ _ _ _ _ _ _ _ _).mpr ?_
  have main : ∀ (l g : Int) (v2 v3 v4 : PV), ((mhi I a b ∧ l = a ∧ g = b) ∨ (¬ mhi I a b ∧ l = b ∧ g = a)) → Wp 162 (191, [zA 32, zI (t : Int), v2, v3, v4, zI (zxr (I 35 a.toNat) (I 35 b.toNat)), zI l, zI g, zI 0, w9, w10, w11, w12], [], zH S I) Q := by
    intro l g v2 v3 v4 hlg
    have hl : 0 ≤ l ∧ l < 16 := by rcases hlg with ⟨_, e, _⟩ | ⟨_, e, _⟩ <;> (subst e; exact ⟨by omega, by omega⟩)
    have hg : ¬ mplc I w t g < 0 := by
      rcases hlg with ⟨_, _, e⟩ | ⟨_, _, e⟩
      · subst e; exact n2
      · subst e; exact n1
    rcases zfs_spec (P := fun p => I 39 (6 * t + p) = g) w 0 with ⟨g1, -⟩ | ⟨p, g1, -, g3, g4, -⟩
    · exact absurd (show mplc I w t g < 0 by rw [show mplc I w t g = -1 from g1]; decide) hg
    · have e : mplc I w t g = (p : Int) := g1
      exact m_melt_try ht hw hw6 h9 hn20 (hc t ht) hl e (by omega) g4 (hQ3 hok hon l g p hlg e (by omega) g4) (hQ4 hok hon l g p hlg e (by omega) g4)
  refine zcdB (fun h => ?_) (fun h => ?_)
  · refine zcd (fun e => absurd e.symm hab) (fun _ => main b a _ _ _ (Or.inr ⟨h, rfl, rfl⟩))
  · refine zcd (fun _ => main a b _ _ _ (Or.inl ⟨h, rfl, rfl⟩)) (fun e => absurd rfl e)
