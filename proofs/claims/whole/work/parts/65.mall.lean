/-! the reference's search, whole -/
theorem MQu_nil {I : Nat → Nat → Int} {w k : Nat} (h16 : I 32 16 = 0) (h : ∀ c, c < 117649 → I 41 c = 0) : MQu I w k [] := by
  refine ⟨by rw [h16]; rfl, fun j e he => by simp at he, fun c hc => ?_, by simp, fun e he => by simp at he⟩
  exact ⟨fun w => absurd (h c hc) w, fun ⟨e, he, _⟩ => by simp at he⟩
theorem rw7_f {f : Nat → Int} {k p o : Nat} (hd : ∀ p q, p < 6 → q < 6 → f p = f q → f p ≠ -1 → p = q) (hk : (mem f 16).length = k) (hp : p < 6) (ho : o < k) (h : f p = gD (mem f 16) o) : rw7 (ca0 f) p = (o : Int) := by
  obtain ⟨r, q, a1, a2, a3, a4, a5, a6⟩ := mem_i hk ho
  have : q = p := hd q p a3 hp (by rw [a5, h, a1]) (by rw [a5]; omega)
  subst this
  have := rw7_at (ca0_barr hk) ho
  rw [a6] at this; exact this
theorem rw7_nf {f : Nat → Int} {k p : Nat} (hk : (mem f 16).length = k) (h : ∀ o, o < k → f p ≠ gD (mem f 16) o) : rw7 (ca0 f) p = 6 := by
  apply rw7_no
  intro w
  obtain ⟨o, ho, e⟩ := (barr_ex (ca0_barr hk)).mp w
  obtain ⟨r, q, a1, a2, a3, a4, a5, a6⟩ := mem_i hk ho
  rw [a6] at e
  subst e
  exact h o ho (by rw [a5, a1])
set_option maxRecDepth 100000 in
theorem m_findStates {S : PS} {I Jc : Nat → Nat → Int} {Q : PV1 → Prop} {w2 w3 w4 w5 : PV} {w t k : Nat} {f : Nat → Int} {B A : Nat → Nat → Prop} (hw : I 32 6 = (w : Int)) (ht : t < 2) (hV : VT Jc (w : Int) f) (hR : MRow I w t f) (hk : (mem f 16).length = k) (hk5 : k ≤ 5) (hMet : Mett I)
    (hB : ∀ m o, m < k → o < k → (B m o ↔ o ≠ m ∧ mov I (gD (mem f 16) m) (gD (mem f 16) o) ∧ mhi I (gD (mem f 16) o) (gD (mem f 16) m))) (hA : ∀ m o, m < k → o < k → (A m o ↔ o ≠ m ∧ mov I (gD (mem f 16) m) (gD (mem f 16) o) ∧ ¬ mhi I (gD (mem f 16) o) (gD (mem f 16) m)))
    (hQ : ∀ I', MQu I' w k (bq (cmv w k B A) k (ca0 f) 720) → (∀ o, o < k → I' 46 o = gD (mem f 16) o) → I' 32 18 = (k : Int) → fmo8 I I' → Q (none, zH S I')) : Wp 142 (0, [zA 32, zI (t : Int), w2, w3, w4, w5], [], zH S I) Q := by
  have hw6 : w ≤ 6 := by have := hV.2.1; omega
  have hb0 := ca0_barr hk
  have ha0w : ∀ x ∈ ca0 f, x < w := fun x hx => by
    obtain ⟨o, ho, e⟩ := (barr_ex hb0).mp hx
    obtain ⟨r', q, _, _, h4, _, h6, h7⟩ := mem_i hk ho
    rw [h7] at e
    subst e
    by_cases c : q < w
    · exact c
    · have := hV.2.2.2.1 q (by omega) h4
      rw [this] at h6; omega
  refine m_clear hMet (fun I1 c1 c2 c3 c4 c5 => ?_)
  -- the rings
  have rings : ∀ (j s : Nat) (J : Nat → Nat → Int) (v3 v4 v5 : PV), j + s = 720 → MQu J w k (bq (cmv w k B A) k (ca0 f) s) → (∀ o, o < k → J 46 o = gD (mem f 16) o) → J 32 18 = (k : Int) → fmo8 I J → Wp 142 (170, [zA 32, zI (t : Int), zI (s : Int), v3, v4, v5], [], zH S J) Q := by
    intro j
    have stop : ∀ (s : Nat) (J : Nat → Nat → Int) (v3 v4 v5 : PV), s ≤ 720 → (bq (cmv w k B A) k (ca0 f) s)[s]? = none → MQu J w k (bq (cmv w k B A) k (ca0 f) s) → (∀ o, o < k → J 46 o = gD (mem f 16) o) → J 32 18 = (k : Int) → fmo8 I J → Wp 142 (170, [zA 32, zI (t : Int), zI (s : Int), v3, v4, v5], [], zH S J) Q := by
      intro s J v3 v4 v5 hs hn hM h46 h18 hf
      refine (sg_X6_findStates_170_32 _ _ _ _ _ _ _ _).mpr ?_
      have hl := List.getElem?_eq_none_iff.mp hn
      rw [hM.1]
      refine zcd (fun h => absurd h (by omega)) (fun _ => hQ J ?_ h46 h18 hf)
      have := bq_stay hn (720 - s)
      rw [show s + (720 - s) = 720 by omega] at this
      rw [this]; exact hM
    induction j with
    | zero =>
      intro s J v3 v4 v5 hj hM h46 h18 hf
      refine stop s J v3 v4 v5 (by omega) ?_ hM h46 h18 hf
      have := MQu_len hk5 hM
      exact List.getElem?_eq_none_iff.mpr (by omega)
    | succ j ih =>
      intro s J v3 v4 v5 hj hM h46 h18 hf
      cases hx : (bq (cmv w k B A) k (ca0 f) s)[s]? with
      | none => exact stop s J v3 v4 v5 (by omega) hx hM h46 h18 hf
      | some x =>
        have hlt := (List.getElem?_eq_some_iff.mp hx).1
        have hl := MQu_len hk5 hM
        have hbx := (hM.2.2.2.2 x (List.mem_of_getElem? hx)).1
        refine (sg_X6_findStates_170_32 _ _ _ _ _ _ _ _).mpr ?_
        rw [hM.1, Int.toNat_natCast, (hM.2.1 s x hx).1]
        refine zcd (fun _ => zgd (by omega) ?_) (fun h => absurd (by omega) h)
        refine m_setRow (by rw [hf.2 6 (by decide) (by decide)]; exact hw) hw6 (c7l_in (k := k) (by omega) hw6 hbx) ?_
        refine (sg_X6_findStates_188_32 _ _ _ _ _ _ _ _).mpr ?_
        generalize hJ2 : zmapc J 47 w (fun m => c7l w x.1 / 7 ^ m % 7) = J2
        have e2 : ∀ d, d ≠ 47 → J2 d = J d := fun d hd => by rw [← hJ2, zmapc_ne _ _ _ _ hd]
        have hM2 : MQu J2 w k (bq (cmv w k B A) k (ca0 f) s) := by
          have := hM
          unfold MQu at this ⊢
          rw [e2 32 (by decide), e2 41 (by decide), e2 42 (by decide), e2 43 (by decide), e2 44 (by decide), e2 45 (by decide)]
          exact this
        have hf2 : fmo8 I J2 := ⟨fun d h1 h2 h3 h4 h5 h6 h7 h8 => by rw [e2 d h8]; exact hf.1 d h1 h2 h3 h4 h5 h6 h7 h8, fun j h1 h2 => by rw [e2 32 (by decide)]; exact hf.2 j h1 h2⟩
        have j35 : J2 35 = I 35 := hf2.1 35 (by decide) (by decide) (by decide) (by decide) (by decide) (by decide) (by decide) (by decide)
        have j36 : J2 36 = I 36 := hf2.1 36 (by decide) (by decide) (by decide) (by decide) (by decide) (by decide) (by decide) (by decide)
        have j37 : J2 37 = I 37 := hf2.1 37 (by decide) (by decide) (by decide) (by decide) (by decide) (by decide) (by decide) (by decide)
        refine m_widen (B := B) (A := A) (gD (mem f 16)) hk5 (by rw [hf2.2 6 (by decide) (by decide)]; exact hw) hw6 (by rw [e2 32 (by decide)]; exact h18) hM2 hx (fun p hp => by rw [← hJ2, zmapc_at _ _ _ _ hp, c7l_dig (k := k) (by omega) hbx hp]) (fun o ho => by rw [e2 46 (by decide)]; exact h46 o ho) (fun o ho => ?_) (fun o o' ho ho' hne e => hne (gD_inj (mem_nodup f) (by omega) (by omega) e)) (fun m o hm ho => ?_) (fun m o hm ho => ?_) ?_ (fun J3 a3 a4 a5 g1 g2 => ?_)
        · obtain ⟨r, p, a1, a2, _⟩ := mem_i hk ho
          rw [a1]; exact ⟨by omega, by omega⟩
        · unfold mov mhi; rw [j35, j36, j37]; exact hB m o hm ho
        · unfold mov mhi; rw [j35, j36, j37]; exact hA m o hm ho
        · have := QW_dep (bq_good (mv := cmv w k B A) (k := k) cmv_out hb0 s).2.2.1 s s x (Nat.le_refl s) hx
          omega
        · refine ih (s + 1) J3 _ _ _ (by omega) (by rw [bq_s hx]; exact g1) (fun o ho => ?_) ?_ (fmo87 hf2 g2)
          · rw [g2.1 46 (by decide) (by decide) (by decide) (by decide) (by decide) (by decide) (by decide), e2 46 (by decide)]; exact h46 o ho
          · rw [g2.2 18 (by decide), e2 32 (by decide)]; exact h18
  -- the row
  have row : ∀ (j p : Nat) (J : Nat → Nat → Int) (v3 v4 v5 : PV), p + j = w → (∀ q, q < p → J 47 q = rw7 (ca0 f) q) → (∀ o, o < k → J 46 o = gD (mem f 16) o) → J 32 18 = (k : Int) → (∀ d, d ≠ 32 → d ≠ 46 → d ≠ 47 → J d = I1 d) → (∀ j, j ≠ 18 → J 32 j = I1 32 j) → Wp 142 (83, [zA 32, zI (t : Int), zI (p : Int), v3, v4, v5], [], zH S J) Q := by
    intro j
    induction j with
    | zero =>
      intro p J v3 v4 v5 hp h47 h46 h18 hf hf32
      obtain rfl : p = w := by omega
      refine (sg_X6_findStates_83_32 _ _ _ _ _ _ _ _).mpr ?_
      have e6 : J 32 6 = (p : Int) := by rw [hf32 6 (by decide), c4 6 (by decide) (by decide)]; exact hw
      rw [e6]
      refine zcd (fun h => absurd h (by omega)) (fun _ => ?_)
      refine m_codeOf e6 hw6 (fun o ho => by rw [h47 o ho]; exact rw7_in (by omega) hb0 o) ?_
      rw [show zc7 (J 47) p p = c7l p (ca0 f) from zc7_congr h47 p (Nat.le_refl p)]
      refine (sg_X6_findStates_162_32_32 _ _ _ _ _ _ _ _ _).mpr ?_
      refine m_meet (w := p) (k := k) (L := []) (e := (ca0 f, -1, 0, 0, 0)) hk5 hw6 (MQu_nil (by rw [hf32 16 (by decide)]; exact c2) (fun c hc => by rw [hf 41 (by decide) (by decide) (by decide)]; exact c1 c hc)) hb0 ha0w (fun J2 g1 g2 => ?_)
      refine (sg_X6_findStates_168_32 _ _ _ _ _ _ _ _).mpr ?_
      rw [qadd_new (by simp)] at g1
      refine rings 720 0 J2 _ _ _ (by omega) g1 (fun o ho => by rw [g2.1 46 (by decide) (by decide) (by decide) (by decide) (by decide) (by decide)]; exact h46 o ho) (by rw [g2.2 18 (by decide)]; exact h18) ⟨fun d h1 h2 h3 h4 h5 h6 h7 h8 => ?_, fun j h1 h2 => ?_⟩
      · rw [g2.1 d h1 h2 h3 h4 h5 h6, hf d h1 h7 h8, c5 d h1 h2]
      · rw [g2.2 j h1, hf32 j h2, c4 j h1 h2]
    | succ j ih =>
      intro p J v3 v4 v5 hp h47 h46 h18 hf hf32
      refine (sg_X6_findStates_83_32 _ _ _ _ _ _ _ _).mpr ?_
      have e6 : J 32 6 = (w : Int) := by rw [hf32 6 (by decide), c4 6 (by decide) (by decide)]; exact hw
      have e39 : J 39 (6 * t + p) = if f p = -1 then -2 else f p := by rw [hf 39 (by decide) (by decide) (by decide), c5 39 (by decide) (by decide)]; exact hR p (by omega)
      rw [e6, Int.toNat_natCast]
      refine zcd (fun _ => zgd (by omega) ?_) (fun h => absurd (by omega) h)
      have inn : ∀ (i o : Nat) (K : Nat → Nat → Int), o + i = k → (∀ q, q < p → K 47 q = rw7 (ca0 f) q) → (∀ d, d ≠ 47 → K d = J d) → ((K 47 p = 6 ∧ ∀ o', o' < o → f p ≠ gD (mem f 16) o') ∨ ∃ o', o' < o ∧ K 47 p = (o' : Int) ∧ f p = gD (mem f 16) o') → Wp 142 (101, [zA 32, zI (t : Int), zI (p : Int), zI (o : Int), v4, v5], [], zH S K) Q := by
        intro i
        induction i with
        | zero =>
          intro o K ho k1 k2 k3
          obtain rfl : o = k := by omega
          refine (sg_X6_findStates_101_32 _ _ _ _ _ _ _ _).mpr ?_
          rw [k2 32 (by decide), h18, zad_s (i := p) (by omega)]
          refine zcd (fun h => absurd h (by omega)) (fun _ => ?_)
          refine ih (p + 1) K _ _ _ (by omega) (fun q hq => ?_) (fun o' ho' => by rw [k2 46 (by decide)]; exact h46 o' ho') (by rw [k2 32 (by decide)]; exact h18) (fun d d1 d2 d3 => by rw [k2 d d3]; exact hf d d1 d2 d3) (fun j hj => by rw [k2 32 (by decide)]; exact hf32 j hj)
          by_cases e : q = p
          · subst e
            rcases k3 with ⟨z1, z2⟩ | ⟨o', z1, z2, z3⟩
            · rw [z1, rw7_nf hk z2]
            · rw [z2, rw7_f hV.2.2.2.2.1 hk (by omega) z1 z3]
          · exact k1 q (by omega)
        | succ i ihi =>
          intro o K ho k1 k2 k3
          refine (sg_X6_findStates_101_32 _ _ _ _ _ _ _ _).mpr ?_
          rw [k2 32 (by decide), h18, zix ht (by omega), zad_s (by omega), Int.toNat_natCast, Int.toNat_natCast, Int.toNat_natCast, k2 39 (by decide), k2 46 (by decide), e39, h46 o (by omega)]
          refine zcd (fun _ => zgd (by omega) (zgd (by omega) ?_)) (fun h => absurd (by omega) h)
          have hgn : gD (mem f 16) o ≠ -2 ∧ gD (mem f 16) o ≠ -1 := by rw [gD]; omega
          refine zcd (fun he => zgd (by omega) ?_) (fun he => zgd (by omega) (zgd (by omega) ?_))
          · have hfp : f p = gD (mem f 16) o := by
              by_cases c : f p = -1
              · rw [if_pos c] at he; exact absurd he.symm hgn.1
              · rw [if_neg c] at he; exact he
            exact ihi (o + 1) _ (by omega) (fun q hq => by rw [zs2_ne2 _ _ _ _ (by omega)]; exact k1 q hq) (fun d hd => by rw [zs2_ne _ _ _ _ hd]; exact k2 d hd) (Or.inr ⟨o, by omega, by rw [zs2_at], hfp⟩)
          · have hfp : f p ≠ gD (mem f 16) o := fun e => by
              rw [if_neg (by rw [e]; exact hgn.2)] at he; exact he e
            refine ihi (o + 1) _ (by omega) (fun q hq => by rw [zs2_ne2 _ _ _ _ (by omega)]; exact k1 q hq) (fun d hd => by rw [zs2_ne _ _ _ _ hd]; exact k2 d hd) ?_
            rw [zs2_at]
            rcases k3 with ⟨z1, z2⟩ | ⟨o', z1, z2, z3⟩
            · refine Or.inl ⟨z1, fun o' ho' => ?_⟩
              by_cases e : o' = o
              · subst e; exact hfp
              · exact z2 o' (by omega)
            · exact Or.inr ⟨o', by omega, z2, z3⟩
      exact inn k 0 _ (by omega) (fun q hq => by rw [zs2_ne2 _ _ _ _ (by omega)]; exact h47 q hq) (fun d hd => by rw [zs2_ne _ _ _ _ hd]) (Or.inl ⟨by rw [zs2_at], fun o' ho' => absurd ho' (by omega)⟩)
  -- the rules of the row
  have own : ∀ (j i : Nat) (J : Nat → Nat → Int), i + j = 16 → J 32 18 = ((mem f i).length : Int) → (∀ o, o < (mem f i).length → J 46 o = gD (mem f i) o) → (∀ d, d ≠ 32 → d ≠ 46 → J d = I1 d) → (∀ j, j ≠ 18 → J 32 j = I1 32 j) → Wp 142 (40, [zA 32, zI (t : Int), zI (i : Int), w3, w4, w5], [], zH S J) Q := by
    intro j
    induction j with
    | zero =>
      intro i J hi h18 h46 hf hf32
      obtain rfl : i = 16 := by omega
      refine (sg_X6_findStates_40_32 _ _ _ _ _ _ _ _).mpr ?_
      refine zcd (fun h => absurd h (by omega)) (fun _ => ?_)
      exact row w 0 J _ _ _ (by omega) (fun q hq => absurd hq (by omega)) (fun o ho => h46 o (by omega)) (by rw [h18, hk]) (fun d d1 d2 _ => hf d d1 d2) hf32
    | succ j ih =>
      intro i J hi h18 h46 hf hf32
      obtain ⟨rest, hrest⟩ := mem_pre f i (j + 1)
      rw [hi] at hrest
      have e6 : J 32 6 = (w : Int) := by rw [hf32 6 (by decide), c4 6 (by decide) (by decide)]; exact hw
      have hRJ : MRow J w t f := fun p hp => by rw [hf 39 (by decide) (by decide), c5 39 (by decide) (by decide)]; exact hR p hp
      refine (sg_X6_findStates_40_32 _ _ _ _ _ _ _ _).mpr ?_
      refine zcd (fun _ => ?_) (fun h => absurd (by omega) h)
      refine m_placeOf ht e6 hw6 ?_
      rw [mplc_eq hV hRJ (by omega)]
      refine (sg_X6_findStates_52_32 _ _ _ _ _ _ _ _ _).mpr ?_
      rw [zad_s (by omega)]
      refine zcd (fun hp => ?_) (fun hp => ?_)
      · have hp1 : xplc f (i : Int) = -1 := by
          by_cases c : xplc f (i : Int) = -1
          · exact c
          · obtain ⟨q, _, q2, _⟩ := xplc_in c; omega
        exact ih (i + 1) J (by omega) (by rw [mem_f hp1]; exact h18) (by rw [mem_f hp1]; exact h46) hf hf32
      · have hp1 : xplc f (i : Int) ≠ -1 := by omega
        have hl : (mem f i).length + 1 ≤ k := by
          obtain ⟨r2, hr2⟩ := mem_pre f (i + 1) j
          rw [show i + 1 + j = 16 by omega, mem_t hp1] at hr2
          rw [← hk, hr2, List.length_append, List.length_append, List.length_singleton]; omega
        rw [h18, Int.toNat_natCast]
        refine zgd (by omega) ?_
        rw [zs2_ne _ _ _ _ (by decide), h18, zad_s (by omega)]
        refine ih (i + 1) _ (by omega) (by rw [zs2_at, mem_t hp1, List.length_append, List.length_singleton]) (fun o ho => ?_) (fun d d1 d2 => by rw [zs2_ne _ _ _ _ d1, zs2_ne _ _ _ _ d2]; exact hf d d1 d2) (fun j hj => by rw [zs2_ne2 _ _ _ _ hj, zs2_ne _ _ _ _ (by decide)]; exact hf32 j hj)
        rw [mem_t hp1, List.length_append, List.length_singleton] at ho
        rw [mem_t hp1, zs2_ne _ _ _ _ (by decide)]
        by_cases e : o = (mem f i).length
        · subst e; rw [zs2_at, gD_snoc]
        · rw [zs2_ne2 _ _ _ _ e, gD_snoc_lt (by omega)]; exact h46 o (by omega)
  exact own 16 0 I1 (by omega) c3 (fun o ho => absurd ho (by simp [mem])) (fun _ _ _ => rfl) (fun _ _ => rfl)
