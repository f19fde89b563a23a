/-! melt -/
abbrev xmok (I : Nat → Nat → Int) (a b : Int) : Prop := (xuse I a ∧ I 2 a.toNat ≠ 2) ∧ (xuse I b ∧ I 2 b.toNat ≠ 2) ∧ a ≠ b
abbrev xonly_7 (I : Nat → Nat → Int) (r : Int) : Prop := ¬ xplc (I 8) r = -1 ∧ xplc (I 10) r = -1
def xmelt_7 (I : Nat → Nat → Int) (p : Nat) (l bit : Int) : Nat → Nat → Int := zs2 (zs2 (zs2 (xpush (zmapc I 31 32 (fun k => xjud I 8 (k : Int))) (xpk (I 8) 6) (xpk (I 10) 6) (I 0 8) l (I 4 l.toNat)) 8 p (-1)) 4 l.toNat (zan (I 4 l.toNat) (zxr bit (-1)))) 25 2 0
set_option maxRecDepth 100000 in
theorem c_melt_7 {S : PS} {I : Nat → Nat → Int} {Q : PV1 → Prop} {t a b : Int} {w4 w5 w6 w7 : PV} (ht : t = 0) (h5 : 0 ≤ I 19 5 ∧ I 19 5 < 20) (h6 : 0 ≤ I 19 6 ∧ I 19 6 ≤ 20) (hr8 : xrw I 8) (hr10 : xrw I 10) (hV : VT I (I 7 2) (I 8))
    (hQ1 : ¬ xmok I a b → Q (some (zI (-1)), zH S I)) (hQ2 : xmok I a b → ¬ (xbit I a b ≠ 0 ∧ xonly_7 I a ∧ xonly_7 I b) → Q (some (zI (-2)), zH S I))
    (hQ3 : xmok I a b → (xbit I a b ≠ 0 ∧ xonly_7 I a ∧ xonly_7 I b) → ∀ (l g : Int) (p : Nat), ((xhi I a b ∧ l = a ∧ g = b) ∨ (¬ xhi I a b ∧ l = b ∧ g = a)) → xplc (I 8) g = (p : Int) → p < 6 → (p : Int) < I 7 2 → I 8 p = g → ¬ xgood_7 I p l (xbit I a b) → Q (some (zI (-2)), zH S (zmapc I 31 32 (fun k => xjud I 8 (k : Int)))))
    (hQ4 : xmok I a b → (xbit I a b ≠ 0 ∧ xonly_7 I a ∧ xonly_7 I b) → ∀ (l g : Int) (p : Nat), ((xhi I a b ∧ l = a ∧ g = b) ∨ (¬ xhi I a b ∧ l = b ∧ g = a)) → xplc (I 8) g = (p : Int) → p < 6 → (p : Int) < I 7 2 → I 8 p = g → xgood_7 I p l (xbit I a b) → Q (some (zI l), zH S (xmelt_7 I p l (xbit I a b)))) : Wp 97 (0, [zA 0, zI t, zI a, zI b, w4, w5, w6, w7], [], zH S I) Q := by
  refine (sg_X5_melt_0_0 _ _ _ _ _ _ _ _ _ _).mpr ?_
  refine c_tab7 ht ?_
  refine (sg_X5_melt_5_0_7 _ _ _ _ _ _ _ _ _ _).mpr ?_
  refine c_isMeltable ?_
  refine (sg_X5_melt_17_0_7 _ _ _ _ _ _ _ _ _ _).mpr ?_
  refine zcdB (fun h => hQ1 (fun w => h w.1)) (fun m1 => ?_)
  refine c_isMeltable ?_
  refine (sg_X5_melt_25_0_7 _ _ _ _ _ _ _ _ _ _).mpr ?_
  refine zcdB (fun h => hQ1 (fun w => h w.2.1)) (fun m2 => ?_)
  refine zcd (fun h => hQ1 (fun w => w.2.2 h)) (fun m3 => ?_)
  have hok : xmok I a b := ⟨m1, m2, m3⟩
  have na : num a := ⟨m1.1.1, by have := m1.1.2.1; omega⟩
  have nb : num b := ⟨m2.1.1, by have := m2.1.2.1; omega⟩
  refine c_bitApart na nb ?_
  refine (sg_X5_melt_44_0_7 _ _ _ _ _ _ _ _ _ _).mpr ?_
  refine zcd (fun h => hQ2 hok (fun w => w.1 h)) (fun n1 => ?_)
  refine c_standsOnlyIn_7 ?_
  refine (sg_X5_melt_58_0_7 _ _ _ _ _ _ _ _ _ _).mpr ?_
  refine zcdB (fun h => hQ2 hok (fun w => h w.2.1)) (fun n2 => ?_)
  refine c_standsOnlyIn_7 ?_
  refine (sg_X5_melt_68_0_7 _ _ _ _ _ _ _ _ _ _).mpr ?_
  refine zcdB (fun h => hQ2 hok (fun w => h w.2.2)) (fun n3 => ?_)
  refine c_isHigher ?_
  refine (sg_X5_melt_83_0_7 _ _ _ _ _ _ _ _ _ _).mpr ?_
  have main : ∀ (l g : Int) (w1 w2 w3 : PV), ((xhi I a b ∧ l = a ∧ g = b) ∨ (¬ xhi I a b ∧ l = b ∧ g = a)) → Wp 114 (0, [zA 0, zA 7, zI l, zI g, zI (xbit I a b), zU, zU, zU], [], zH S I) (fun w => Wp 97 (118, [zA 0, w1, w2, w3, zA 7, zI (xbit I a b), zI l, zI g], w.1.toList ++ [], w.2) Q) := by
    intro l g w1 w2 w3 hlg
    have hl : 0 ≤ l ∧ l < 16 := by
      have := m1.1; have := m2.1
      rcases hlg with ⟨_, e, _⟩ | ⟨_, e, _⟩ <;> (subst e; exact ⟨by omega, by omega⟩)
    have hg : ¬ xplc (I 8) g = -1 := by
      rcases hlg with ⟨_, _, e⟩ | ⟨_, _, e⟩
      · subst e; exact n3.1
      · subst e; exact n2.1
    obtain ⟨p, p1, p2, p3, p4⟩ := xplc_in hg
    have p5 : (p : Int) < I 7 2 := by
      by_cases c : (p : Int) < I 7 2
      · exact c
      · have := hV.2.2.2.1 p (by omega) p1
        rw [p3] at this; exact absurd this p4
    refine c_meltHolds_7 hl p1 p5 p2 p3 (fun q hq hqp e => hqp (hV.2.2.2.2.1 q p hq p1 (by rw [e, p3]) (by rw [e]; exact p4))) p4 ?_
    refine (sg_X5_melt_118_0_7 _ _ _ _ _ _ _ _ _ _).mpr ?_
    refine zcdB (fun h => hQ3 hok ⟨n1, n2, n3⟩ l g p hlg p2 p1 p5 p3 h) (fun hgood => ?_)
    have e8 : zmapc I 31 32 (fun k => xjud I 8 (k : Int)) 8 = I 8 := zmapc_ne _ _ _ _ (by decide)
    have e10 : zmapc I 31 32 (fun k => xjud I 8 (k : Int)) 10 = I 10 := zmapc_ne _ _ _ _ (by decide)
    have e0 : zmapc I 31 32 (fun k => xjud I 8 (k : Int)) 0 = I 0 := zmapc_ne _ _ _ _ (by decide)
    have e4 : zmapc I 31 32 (fun k => xjud I 8 (k : Int)) 4 = I 4 := zmapc_ne _ _ _ _ (by decide)
    have e19 : zmapc I 31 32 (fun k => xjud I 8 (k : Int)) 19 = I 19 := zmapc_ne _ _ _ _ (by decide)
    have eT : zmapc I 31 32 (fun k => xjud I 8 (k : Int)) 7 = I 7 := zmapc_ne _ _ _ _ (by decide)
    refine c_packed_7 (by rw [e8]; exact hr8) ?_
    refine (sg_X5_melt_135_0_7_19 _ _ _ _ _ _ _ _ _ _).mpr ?_
    refine c_packed_9 (by rw [e10]; exact hr10) ?_
    refine (sg_X5_melt_142_0_7_19 _ _ _ _ _ _ _ _ _ _ _).mpr ?_
    have nl : num l := ⟨hl.1, by omega⟩
    refine c_maskOf' nl ?_
    refine (sg_X5_melt_157_0_7_19 _ _ _ _ _ _ _ _ _ _ _ _ _ _).mpr ?_
    refine c_push (by rw [e19]; exact h5) (by rw [e19]; exact h6) ?_
    refine (sg_X5_melt_160_0_7 _ _ _ _ _ _ _ _ _).mpr ?_
    refine c_placeOf_7 ?_
    refine (sg_X5_melt_169_0_7 _ _ _ _ _ _ _ _ _ _ _).mpr ?_
    rw [e8, e10, e0, e4, xpush_ne (by decide), e8, p2]
    refine c_makeFree_7 ?_
    refine (sg_X5_melt_172_0 _ _ _ _ _ _ _ _ _ _).mpr ?_
    have exf : xfree (xpush (zmapc I 31 32 (fun k => xjud I 8 (k : Int))) (xpk (I 8) 6) (xpk (I 10) 6) (I 0 8) l (I 4 l.toNat)) 7 8 (p : Int) = zs2 (xpush (zmapc I 31 32 (fun k => xjud I 8 (k : Int))) (xpk (I 8) 6) (xpk (I 10) 6) (I 0 8) l (I 4 l.toNat)) 8 p (-1) := by
      unfold xfree
      rw [xpush_ne (by decide), eT, if_pos ⟨by omega, p5, by omega⟩, Int.toNat_natCast]
    rw [exf]
    refine c_maskOf' nl ?_
    refine (sg_X5_melt_187_0_1 _ _ _ _ _ _ _ _ _ _ _ _).mpr ?_
    rw [zs2_ne _ _ _ _ (by decide), xpush_ne (by decide), e4]
    refine c_setMask' nl ?_
    refine (sg_X5_melt_195_0 _ _ _ _ _ _ _ _ _ _).mpr ?_
    refine c_pforget_25 ?_
    refine (sg_X5_melt_202 _ _ _ _ _ _ _ _ _ _ _).mpr ?_
    exact hQ4 hok ⟨n1, n2, n3⟩ l g p hlg p2 p1 p5 p3 hgood
  refine zcdB (fun h => ?_) (fun h => ?_)
  · refine zcd (fun e => absurd e.symm m3) (fun _ => ?_)
    exact main b a _ _ _ (Or.inr ⟨h, rfl, rfl⟩)
  · refine zcd (fun _ => ?_) (fun e => absurd rfl e)
    exact main a b _ _ _ (Or.inl ⟨h, rfl, rfl⟩)
abbrev xonly_9 (I : Nat → Nat → Int) (r : Int) : Prop := ¬ xplc (I 10) r = -1 ∧ xplc (I 8) r = -1
def xmelt_9 (I : Nat → Nat → Int) (p : Nat) (l bit : Int) : Nat → Nat → Int := zs2 (zs2 (zs2 (xpush (zmapc I 31 32 (fun k => xjud I 10 (k : Int))) (xpk (I 8) 6) (xpk (I 10) 6) (I 0 8) l (I 4 l.toNat)) 10 p (-1)) 4 l.toNat (zan (I 4 l.toNat) (zxr bit (-1)))) 25 2 0
set_option maxRecDepth 100000 in
theorem c_melt_9 {S : PS} {I : Nat → Nat → Int} {Q : PV1 → Prop} {t a b : Int} {w4 w5 w6 w7 : PV} (ht : t = 1) (h5 : 0 ≤ I 19 5 ∧ I 19 5 < 20) (h6 : 0 ≤ I 19 6 ∧ I 19 6 ≤ 20) (hr8 : xrw I 8) (hr10 : xrw I 10) (hV : VT I (I 9 2) (I 10))
    (hQ1 : ¬ xmok I a b → Q (some (zI (-1)), zH S I)) (hQ2 : xmok I a b → ¬ (xbit I a b ≠ 0 ∧ xonly_9 I a ∧ xonly_9 I b) → Q (some (zI (-2)), zH S I))
    (hQ3 : xmok I a b → (xbit I a b ≠ 0 ∧ xonly_9 I a ∧ xonly_9 I b) → ∀ (l g : Int) (p : Nat), ((xhi I a b ∧ l = a ∧ g = b) ∨ (¬ xhi I a b ∧ l = b ∧ g = a)) → xplc (I 10) g = (p : Int) → p < 6 → (p : Int) < I 9 2 → I 10 p = g → ¬ xgood_9 I p l (xbit I a b) → Q (some (zI (-2)), zH S (zmapc I 31 32 (fun k => xjud I 10 (k : Int)))))
    (hQ4 : xmok I a b → (xbit I a b ≠ 0 ∧ xonly_9 I a ∧ xonly_9 I b) → ∀ (l g : Int) (p : Nat), ((xhi I a b ∧ l = a ∧ g = b) ∨ (¬ xhi I a b ∧ l = b ∧ g = a)) → xplc (I 10) g = (p : Int) → p < 6 → (p : Int) < I 9 2 → I 10 p = g → xgood_9 I p l (xbit I a b) → Q (some (zI l), zH S (xmelt_9 I p l (xbit I a b)))) : Wp 97 (0, [zA 0, zI t, zI a, zI b, w4, w5, w6, w7], [], zH S I) Q := by
  refine (sg_X5_melt_0_0 _ _ _ _ _ _ _ _ _ _).mpr ?_
  refine c_tab9 ht ?_
  refine (sg_X5_melt_5_0_9 _ _ _ _ _ _ _ _ _ _).mpr ?_
  refine c_isMeltable ?_
  refine (sg_X5_melt_17_0_9 _ _ _ _ _ _ _ _ _ _).mpr ?_
  refine zcdB (fun h => hQ1 (fun w => h w.1)) (fun m1 => ?_)
  refine c_isMeltable ?_
  refine (sg_X5_melt_25_0_9 _ _ _ _ _ _ _ _ _ _).mpr ?_
  refine zcdB (fun h => hQ1 (fun w => h w.2.1)) (fun m2 => ?_)
  refine zcd (fun h => hQ1 (fun w => w.2.2 h)) (fun m3 => ?_)
  have hok : xmok I a b := ⟨m1, m2, m3⟩
  have na : num a := ⟨m1.1.1, by have := m1.1.2.1; omega⟩
  have nb : num b := ⟨m2.1.1, by have := m2.1.2.1; omega⟩
  refine c_bitApart na nb ?_
  refine (sg_X5_melt_44_0_9 _ _ _ _ _ _ _ _ _ _).mpr ?_
  refine zcd (fun h => hQ2 hok (fun w => w.1 h)) (fun n1 => ?_)
  refine c_standsOnlyIn_9 ?_
  refine (sg_X5_melt_58_0_9 _ _ _ _ _ _ _ _ _ _).mpr ?_
  refine zcdB (fun h => hQ2 hok (fun w => h w.2.1)) (fun n2 => ?_)
  refine c_standsOnlyIn_9 ?_
  refine (sg_X5_melt_68_0_9 _ _ _ _ _ _ _ _ _ _).mpr ?_
  refine zcdB (fun h => hQ2 hok (fun w => h w.2.2)) (fun n3 => ?_)
  refine c_isHigher ?_
  refine (sg_X5_melt_83_0_9 _ _ _ _ _ _ _ _ _ _).mpr ?_
  have main : ∀ (l g : Int) (w1 w2 w3 : PV), ((xhi I a b ∧ l = a ∧ g = b) ∨ (¬ xhi I a b ∧ l = b ∧ g = a)) → Wp 114 (0, [zA 0, zA 9, zI l, zI g, zI (xbit I a b), zU, zU, zU], [], zH S I) (fun w => Wp 97 (118, [zA 0, w1, w2, w3, zA 9, zI (xbit I a b), zI l, zI g], w.1.toList ++ [], w.2) Q) := by
    intro l g w1 w2 w3 hlg
    have hl : 0 ≤ l ∧ l < 16 := by
      have := m1.1; have := m2.1
      rcases hlg with ⟨_, e, _⟩ | ⟨_, e, _⟩ <;> (subst e; exact ⟨by omega, by omega⟩)
    have hg : ¬ xplc (I 10) g = -1 := by
      rcases hlg with ⟨_, _, e⟩ | ⟨_, _, e⟩
      · subst e; exact n3.1
      · subst e; exact n2.1
    obtain ⟨p, p1, p2, p3, p4⟩ := xplc_in hg
    have p5 : (p : Int) < I 9 2 := by
      by_cases c : (p : Int) < I 9 2
      · exact c
      · have := hV.2.2.2.1 p (by omega) p1
        rw [p3] at this; exact absurd this p4
    refine c_meltHolds_9 hl p1 p5 p2 p3 (fun q hq hqp e => hqp (hV.2.2.2.2.1 q p hq p1 (by rw [e, p3]) (by rw [e]; exact p4))) p4 ?_
    refine (sg_X5_melt_118_0_9 _ _ _ _ _ _ _ _ _ _).mpr ?_
    refine zcdB (fun h => hQ3 hok ⟨n1, n2, n3⟩ l g p hlg p2 p1 p5 p3 h) (fun hgood => ?_)
    have e8 : zmapc I 31 32 (fun k => xjud I 10 (k : Int)) 8 = I 8 := zmapc_ne _ _ _ _ (by decide)
    have e10 : zmapc I 31 32 (fun k => xjud I 10 (k : Int)) 10 = I 10 := zmapc_ne _ _ _ _ (by decide)
    have e0 : zmapc I 31 32 (fun k => xjud I 10 (k : Int)) 0 = I 0 := zmapc_ne _ _ _ _ (by decide)
    have e4 : zmapc I 31 32 (fun k => xjud I 10 (k : Int)) 4 = I 4 := zmapc_ne _ _ _ _ (by decide)
    have e19 : zmapc I 31 32 (fun k => xjud I 10 (k : Int)) 19 = I 19 := zmapc_ne _ _ _ _ (by decide)
    have eT : zmapc I 31 32 (fun k => xjud I 10 (k : Int)) 9 = I 9 := zmapc_ne _ _ _ _ (by decide)
    refine c_packed_7 (by rw [e8]; exact hr8) ?_
    refine (sg_X5_melt_135_0_9_19 _ _ _ _ _ _ _ _ _ _).mpr ?_
    refine c_packed_9 (by rw [e10]; exact hr10) ?_
    refine (sg_X5_melt_142_0_9_19 _ _ _ _ _ _ _ _ _ _ _).mpr ?_
    have nl : num l := ⟨hl.1, by omega⟩
    refine c_maskOf' nl ?_
    refine (sg_X5_melt_157_0_9_19 _ _ _ _ _ _ _ _ _ _ _ _ _ _).mpr ?_
    refine c_push (by rw [e19]; exact h5) (by rw [e19]; exact h6) ?_
    refine (sg_X5_melt_160_0_9 _ _ _ _ _ _ _ _ _).mpr ?_
    refine c_placeOf_9 ?_
    refine (sg_X5_melt_169_0_9 _ _ _ _ _ _ _ _ _ _ _).mpr ?_
    rw [e8, e10, e0, e4, xpush_ne (by decide), e10, p2]
    refine c_makeFree_9 ?_
    refine (sg_X5_melt_172_0 _ _ _ _ _ _ _ _ _ _).mpr ?_
    have exf : xfree (xpush (zmapc I 31 32 (fun k => xjud I 10 (k : Int))) (xpk (I 8) 6) (xpk (I 10) 6) (I 0 8) l (I 4 l.toNat)) 9 10 (p : Int) = zs2 (xpush (zmapc I 31 32 (fun k => xjud I 10 (k : Int))) (xpk (I 8) 6) (xpk (I 10) 6) (I 0 8) l (I 4 l.toNat)) 10 p (-1) := by
      unfold xfree
      rw [xpush_ne (by decide), eT, if_pos ⟨by omega, p5, by omega⟩, Int.toNat_natCast]
    rw [exf]
    refine c_maskOf' nl ?_
    refine (sg_X5_melt_187_0_1 _ _ _ _ _ _ _ _ _ _ _ _).mpr ?_
    rw [zs2_ne _ _ _ _ (by decide), xpush_ne (by decide), e4]
    refine c_setMask' nl ?_
    refine (sg_X5_melt_195_0 _ _ _ _ _ _ _ _ _ _).mpr ?_
    refine c_pforget_25 ?_
    refine (sg_X5_melt_202 _ _ _ _ _ _ _ _ _ _ _).mpr ?_
    exact hQ4 hok ⟨n1, n2, n3⟩ l g p hlg p2 p1 p5 p3 hgood
  refine zcdB (fun h => ?_) (fun h => ?_)
  · refine zcd (fun e => absurd e.symm m3) (fun _ => ?_)
    exact main b a _ _ _ (Or.inr ⟨h, rfl, rfl⟩)
  · refine zcd (fun _ => ?_) (fun e => absurd rfl e)
    exact main a b _ _ _ (Or.inl ⟨h, rfl, rfl⟩)
