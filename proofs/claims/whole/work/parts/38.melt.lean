/-! two melted -/
def bcnt (x : Int) : Int := (zan (zad (zad (zan (zad (zad (zan (zsb x (zan (zus x 1) 1431655765)) 858993459) (zan (zus (zsb x (zan (zus x 1) 1431655765)) 2) 858993459)) (zus (zad (zan (zsb x (zan (zus x 1) 1431655765)) 858993459) (zan (zus (zsb x (zan (zus x 1) 1431655765)) 2) 858993459)) 4)) 252645135) (zus (zan (zad (zad (zan (zsb x (zan (zus x 1) 1431655765)) 858993459) (zan (zus (zsb x (zan (zus x 1) 1431655765)) 2) 858993459)) (zus (zad (zan (zsb x (zan (zus x 1) 1431655765)) 858993459) (zan (zus (zsb x (zan (zus x 1) 1431655765)) 2) 858993459)) 4)) 252645135) 8)) (zus (zad (zan (zad (zad (zan (zsb x (zan (zus x 1) 1431655765)) 858993459) (zan (zus (zsb x (zan (zus x 1) 1431655765)) 2) 858993459)) (zus (zad (zan (zsb x (zan (zus x 1) 1431655765)) 858993459) (zan (zus (zsb x (zan (zus x 1) 1431655765)) 2) 858993459)) 4)) 252645135) (zus (zan (zad (zad (zan (zsb x (zan (zus x 1) 1431655765)) 858993459) (zan (zus (zsb x (zan (zus x 1) 1431655765)) 2) 858993459)) (zus (zad (zan (zsb x (zan (zus x 1) 1431655765)) 858993459) (zan (zus (zsb x (zan (zus x 1) 1431655765)) 2) 858993459)) 4)) 252645135) 8)) 16)) 63)
theorem c_bitCount {S : PS} {I : Nat → Nat → Int} {Q : PV1 → Prop} {x : Int} (hQ : Q (some (zI (bcnt x)), zH S I)) : Wp 167 (0, [zI x], [], zH S I) Q := (sg_J6_bitCount_0f7a4_0 _ _ _ _).mpr hQ
abbrev xval (I : Nat → Nat → Int) (r : Int) : Int := zan (I 3 r.toNat) (I 4 r.toNat)
def xbit (I : Nat → Nat → Int) (a b : Int) : Int := if I 4 a.toNat = I 4 b.toNat ∧ I 6 a.toNat = I 6 b.toNat ∧ bcnt (zxr (xval I a) (xval I b)) = 1 then zxr (xval I a) (xval I b) else 0
theorem c_actOf' {S : PS} {I : Nat → Nat → Int} {Q : PV1 → Prop} {r : Int} (h : num r) (hQ : Q (some (zI (I 6 r.toNat)), zH S I)) : Wp 33 (0, [zA 1, zI r], [], zH S I) Q := c_actOf (by rw [if_pos h]; exact hQ)
theorem c_valueOf' {S : PS} {I : Nat → Nat → Int} {Q : PV1 → Prop} {r : Int} (h : num r) (hQ : Q (some (zI (xval I r)), zH S I)) : Wp 30 (0, [zA 1, zI r], [], zH S I) Q := c_valueOf (by rw [if_pos h]; exact hQ)
theorem c_bitApart {S : PS} {I : Nat → Nat → Int} {Q : PV1 → Prop} {a : Int} {b : Int} {u3 : PV} (ha : num a) (hb : num b) (hQ : Q (some (zI (xbit I a b)), zH S I)) : Wp 37 (0, [zA 1, zI a, zI b, u3], [], zH S I) Q := by
  refine (sg_X2_bitApart_0_1 _ _ _ _ _ _).mpr ?_
  refine c_maskOf' (by omega) ?_
  refine (sg_X2_bitApart_5_1 _ _ _ _ _ _ _).mpr ?_
  refine c_maskOf' (by omega) ?_
  refine (sg_X2_bitApart_10_1 _ _ _ _ _ _ _ _).mpr ?_
  first | refine zcdB (fun h1 => ?_) (fun h1 => ?_) | refine zcd (fun h1 => ?_) (fun h1 => ?_)
  · refine c_actOf' (by omega) ?_
    refine (sg_X2_bitApart_18_1 _ _ _ _ _ _ _).mpr ?_
    refine c_actOf' (by omega) ?_
    refine (sg_X2_bitApart_23_1 _ _ _ _ _ _ _ _).mpr ?_
    first | refine zcdB (fun h2 => ?_) (fun h2 => ?_) | refine zcd (fun h2 => ?_) (fun h2 => ?_)
    · refine c_valueOf' (by omega) ?_
      refine (sg_X2_bitApart_33_1 _ _ _ _ _ _ _).mpr ?_
      refine c_valueOf' (by omega) ?_
      refine (sg_X2_bitApart_38 _ _ _ _ _ _ _ _ _).mpr ?_
      refine c_bitCount ?_
      refine (sg_X2_bitApart_44 _ _ _ _ _ _ _ _).mpr ?_
      first | refine zcdB (fun h3 => ?_) (fun h3 => ?_) | refine zcd (fun h3 => ?_) (fun h3 => ?_)
      · first | (simp only [xbit] at hQ; rw [if_pos (by omega)] at hQ; exact hQ) | (simp only [xbit] at hQ; rw [if_neg (by omega)] at hQ; exact hQ)
      · first | (simp only [xbit] at hQ; rw [if_pos (by omega)] at hQ; exact hQ) | (simp only [xbit] at hQ; rw [if_neg (by omega)] at hQ; exact hQ)
    · first | (simp only [xbit] at hQ; rw [if_pos (by omega)] at hQ; exact hQ) | (simp only [xbit] at hQ; rw [if_neg (by omega)] at hQ; exact hQ)
  · first | (simp only [xbit] at hQ; rw [if_pos (by omega)] at hQ; exact hQ) | (simp only [xbit] at hQ; rw [if_neg (by omega)] at hQ; exact hQ)
theorem xlay_back_7 {M : Nat → Nat → Int} {g : Int} {p : Nat} (hp : p < 6) (hs : (p : Int) < M 7 2) (hg : M 8 p = g) (hu : ∀ q, q < 6 → q ≠ p → M 8 q ≠ g) (hn : g ≠ -1) : xlay (zs2 M 8 p (-1)) 7 8 g (p : Int) = M := by
  have h1 : xplc (zs2 M 8 p (-1) 8) g = -1 := by
    refine xplc_none (fun q hq => ?_)
    rw [zs2_same]
    dsimp only
    by_cases e : q = p
    · rw [if_pos e]; exact fun w => hn w.symm
    · rw [if_neg e]; exact hu q hq e
  have h2 : xfree (zs2 M 8 p (-1)) 7 8 (-1) = zs2 M 8 p (-1) := by
    simp only [xfree]
    rw [if_neg (by omega)]
  simp only [xlay]
  rw [h1, h2, if_pos ⟨by omega, by rw [zs2_ne _ _ _ _ (by decide)]; exact hs, by omega⟩, Int.toNat_natCast, zs2_twice, ← hg, zs2_self]
def xmel_7 (I : Nat → Nat → Int) (p : Nat) (l bit : Int) : Nat → Nat → Int := zs2 (zs2 I 8 p (-1)) 4 l.toNat (zan (I 4 l.toNat) (zxr bit (-1)))
abbrev xgood_7 (I : Nat → Nat → Int) (p : Nat) (l bit : Int) : Prop := xsafe (xmel_7 I p l bit) 8 ∧ zfs (fun k => xjud I 8 (k : Int) ≠ xjud (xmel_7 I p l bit) 8 (k : Int)) 32 0 = -1
theorem c_meltHolds_7 {S : PS} {I : Nat → Nat → Int} {Q : PV1 → Prop} {l g bit : Int} {u5 u6 u7 : PV} {p : Nat} (hl : 0 ≤ l ∧ l < 16) (hp : p < 6) (hs : (p : Int) < I 7 2) (hpl : xplc (I 8) g = (p : Int)) (hg : I 8 p = g) (hu : ∀ q, q < 6 → q ≠ p → I 8 q ≠ g) (hn : g ≠ -1)
    (hQ : Q (some (zI (zB (xgood_7 I p l bit))), zH S (zmapc I 31 32 (fun k => xjud I 8 (k : Int))))) : Wp 114 (0, [zA 0, zA 7, zI l, zI g, zI bit, u5, u6, u7], [], zH S I) Q := by
  refine (sg_X5_meltHolds_0_0_7 _ _ _ _ _ _ _ _ _).mpr ?_
  refine c_placeOf_7 ?_
  refine (sg_X5_meltHolds_5_0_7 _ _ _ _ _ _ _ _ _ _).mpr ?_
  refine c_maskOf' (by omega) ?_
  rw [hpl]
  refine (sg_X5_meltHolds_15_0_7 _ _ _ _ _ _ _ _ _ _).mpr ?_
  refine c_noteActs_7 ?_
  refine (sg_X5_meltHolds_25_0_7 _ _ _ _ _ _ _ _ _).mpr ?_
  refine c_makeFree_7 ?_
  generalize hM : zmapc I 31 32 (fun k => xjud I 8 (k : Int)) = M at hQ ⊢
  have m4 : M 4 = I 4 := by rw [← hM]; exact zmapc_ne _ _ _ _ (by decide)
  have mt : M 7 = I 7 := by rw [← hM]; exact zmapc_ne _ _ _ _ (by decide)
  have mc : M 8 = I 8 := by rw [← hM]; exact zmapc_ne _ _ _ _ (by decide)
  have e1 : xfree M 7 8 (p : Int) = zs2 M 8 p (-1) := by
    simp only [xfree]
    rw [if_pos ⟨by omega, by rw [mt]; exact hs, by omega⟩, Int.toNat_natCast]
  rw [e1]
  refine (sg_X5_meltHolds_31_0_7 _ _ _ _ _ _ _ _ _).mpr ?_
  refine c_setMask' (by omega) ?_
  refine (sg_X5_meltHolds_46_0_7 _ _ _ _ _ _ _ _ _).mpr ?_
  have back : zs2 (zs2 (zs2 M 8 p (-1)) 4 l.toNat (zan (I 4 l.toNat) (zxr bit (-1)))) 4 l.toNat (I 4 l.toNat) = zs2 M 8 p (-1) := by
    rw [zs2_twice]
    have : I 4 l.toNat = zs2 M 8 p (-1) 4 l.toNat := by rw [zs2_ne _ _ _ _ (by decide), m4]
    rw [this, zs2_self]
  have fin : ∀ (y : Int) (u0 u2 u4 u6 : PV), y = zB (xgood_7 I p l bit) → Wp 114 (81, [u0, zA 7, u2, zI g, u4, zI (p : Int), u6, zI y], [], zH S (zs2 M 8 p (-1))) Q := by
    intro y u0 u2 u4 u6 hy
    refine (sg_X5_meltHolds_81_7 _ _ _ _ _ _ _ _ _ _).mpr ?_
    refine c_lay_7 ?_
    rw [xlay_back_7 hp (by rw [mt]; exact hs) (by rw [mc]; exact hg) (by rw [mc]; exact hu) hn]
    refine (sg_X5_meltHolds_88 _ _ _ _ _ _ _ _ _ _ _).mpr ?_
    refine zgb (by rw [hy]; exact zB01) ?_
    rw [hy]; exact hQ
  refine c_isSafe_7 ?_
  refine (sg_X5_meltHolds_50_0_7 _ _ _ _ _ _ _ _ _ _).mpr ?_
  have sf : xsafe (zs2 (zs2 M 8 p (-1)) 4 l.toNat (zan (I 4 l.toNat) (zxr bit (-1)))) 8 ↔ xsafe (xmel_7 I p l bit) 8 := by
    subst hM; exact Iff.rfl
  have ac : zfs (fun k => (zs2 (zs2 M 8 p (-1)) 4 l.toNat (zan (I 4 l.toNat) (zxr bit (-1)))) 31 k ≠ xjud (zs2 (zs2 M 8 p (-1)) 4 l.toNat (zan (I 4 l.toNat) (zxr bit (-1)))) 8 (k : Int)) 32 0 = zfs (fun k => xjud I 8 (k : Int) ≠ xjud (xmel_7 I p l bit) 8 (k : Int)) 32 0 := by
    refine zfs_congr 32 0 (fun k _ hk => ?_)
    subst hM
    rw [zs2_ne _ _ _ _ (by decide), zs2_ne _ _ _ _ (by decide), zmapc_at _ _ _ _ (by omega)]
    exact Iff.rfl
  refine zcdB (fun h1 => ?_) (fun h1 => ?_)
  · refine c_setMask' (by omega) ?_
    rw [back]
    exact fin 0 _ _ _ _ (zB_f (fun w => h1 (sf.mpr w.1))).symm
  · refine c_hasActs_7 ?_
    refine (sg_X5_meltHolds_61_0_7 _ _ _ _ _ _ _ _ _ _).mpr ?_
    rw [zB_iff (by rw [ac])]
    refine zcdB (fun h2 => ?_) (fun h2 => ?_)
    · refine c_setMask' (by omega) ?_
      rw [back]
      exact fin 0 _ _ _ _ (zB_f (fun w => h2 w.2)).symm
    · refine c_setMask' (by omega) ?_
      rw [back]
      exact fin 1 _ _ _ _ (zB_t ⟨sf.mp h1, h2⟩).symm
theorem xlay_back_9 {M : Nat → Nat → Int} {g : Int} {p : Nat} (hp : p < 6) (hs : (p : Int) < M 9 2) (hg : M 10 p = g) (hu : ∀ q, q < 6 → q ≠ p → M 10 q ≠ g) (hn : g ≠ -1) : xlay (zs2 M 10 p (-1)) 9 10 g (p : Int) = M := by
  have h1 : xplc (zs2 M 10 p (-1) 10) g = -1 := by
    refine xplc_none (fun q hq => ?_)
    rw [zs2_same]
    dsimp only
    by_cases e : q = p
    · rw [if_pos e]; exact fun w => hn w.symm
    · rw [if_neg e]; exact hu q hq e
  have h2 : xfree (zs2 M 10 p (-1)) 9 10 (-1) = zs2 M 10 p (-1) := by
    simp only [xfree]
    rw [if_neg (by omega)]
  simp only [xlay]
  rw [h1, h2, if_pos ⟨by omega, by rw [zs2_ne _ _ _ _ (by decide)]; exact hs, by omega⟩, Int.toNat_natCast, zs2_twice, ← hg, zs2_self]
def xmel_9 (I : Nat → Nat → Int) (p : Nat) (l bit : Int) : Nat → Nat → Int := zs2 (zs2 I 10 p (-1)) 4 l.toNat (zan (I 4 l.toNat) (zxr bit (-1)))
abbrev xgood_9 (I : Nat → Nat → Int) (p : Nat) (l bit : Int) : Prop := xsafe (xmel_9 I p l bit) 10 ∧ zfs (fun k => xjud I 10 (k : Int) ≠ xjud (xmel_9 I p l bit) 10 (k : Int)) 32 0 = -1
theorem c_meltHolds_9 {S : PS} {I : Nat → Nat → Int} {Q : PV1 → Prop} {l g bit : Int} {u5 u6 u7 : PV} {p : Nat} (hl : 0 ≤ l ∧ l < 16) (hp : p < 6) (hs : (p : Int) < I 9 2) (hpl : xplc (I 10) g = (p : Int)) (hg : I 10 p = g) (hu : ∀ q, q < 6 → q ≠ p → I 10 q ≠ g) (hn : g ≠ -1)
    (hQ : Q (some (zI (zB (xgood_9 I p l bit))), zH S (zmapc I 31 32 (fun k => xjud I 10 (k : Int))))) : Wp 114 (0, [zA 0, zA 9, zI l, zI g, zI bit, u5, u6, u7], [], zH S I) Q := by
  refine (sg_X5_meltHolds_0_0_9 _ _ _ _ _ _ _ _ _).mpr ?_
  refine c_placeOf_9 ?_
  refine (sg_X5_meltHolds_5_0_9 _ _ _ _ _ _ _ _ _ _).mpr ?_
  refine c_maskOf' (by omega) ?_
  rw [hpl]
  refine (sg_X5_meltHolds_15_0_9 _ _ _ _ _ _ _ _ _ _).mpr ?_
  refine c_noteActs_9 ?_
  refine (sg_X5_meltHolds_25_0_9 _ _ _ _ _ _ _ _ _).mpr ?_
  refine c_makeFree_9 ?_
  generalize hM : zmapc I 31 32 (fun k => xjud I 10 (k : Int)) = M at hQ ⊢
  have m4 : M 4 = I 4 := by rw [← hM]; exact zmapc_ne _ _ _ _ (by decide)
  have mt : M 9 = I 9 := by rw [← hM]; exact zmapc_ne _ _ _ _ (by decide)
  have mc : M 10 = I 10 := by rw [← hM]; exact zmapc_ne _ _ _ _ (by decide)
  have e1 : xfree M 9 10 (p : Int) = zs2 M 10 p (-1) := by
    simp only [xfree]
    rw [if_pos ⟨by omega, by rw [mt]; exact hs, by omega⟩, Int.toNat_natCast]
  rw [e1]
  refine (sg_X5_meltHolds_31_0_9 _ _ _ _ _ _ _ _ _).mpr ?_
  refine c_setMask' (by omega) ?_
  refine (sg_X5_meltHolds_46_0_9 _ _ _ _ _ _ _ _ _).mpr ?_
  have back : zs2 (zs2 (zs2 M 10 p (-1)) 4 l.toNat (zan (I 4 l.toNat) (zxr bit (-1)))) 4 l.toNat (I 4 l.toNat) = zs2 M 10 p (-1) := by
    rw [zs2_twice]
    have : I 4 l.toNat = zs2 M 10 p (-1) 4 l.toNat := by rw [zs2_ne _ _ _ _ (by decide), m4]
    rw [this, zs2_self]
  have fin : ∀ (y : Int) (u0 u2 u4 u6 : PV), y = zB (xgood_9 I p l bit) → Wp 114 (81, [u0, zA 9, u2, zI g, u4, zI (p : Int), u6, zI y], [], zH S (zs2 M 10 p (-1))) Q := by
    intro y u0 u2 u4 u6 hy
    refine (sg_X5_meltHolds_81_9 _ _ _ _ _ _ _ _ _ _).mpr ?_
    refine c_lay_9 ?_
    rw [xlay_back_9 hp (by rw [mt]; exact hs) (by rw [mc]; exact hg) (by rw [mc]; exact hu) hn]
    refine (sg_X5_meltHolds_88 _ _ _ _ _ _ _ _ _ _ _).mpr ?_
    refine zgb (by rw [hy]; exact zB01) ?_
    rw [hy]; exact hQ
  refine c_isSafe_9 ?_
  refine (sg_X5_meltHolds_50_0_9 _ _ _ _ _ _ _ _ _ _).mpr ?_
  have sf : xsafe (zs2 (zs2 M 10 p (-1)) 4 l.toNat (zan (I 4 l.toNat) (zxr bit (-1)))) 10 ↔ xsafe (xmel_9 I p l bit) 10 := by
    subst hM; exact Iff.rfl
  have ac : zfs (fun k => (zs2 (zs2 M 10 p (-1)) 4 l.toNat (zan (I 4 l.toNat) (zxr bit (-1)))) 31 k ≠ xjud (zs2 (zs2 M 10 p (-1)) 4 l.toNat (zan (I 4 l.toNat) (zxr bit (-1)))) 10 (k : Int)) 32 0 = zfs (fun k => xjud I 10 (k : Int) ≠ xjud (xmel_9 I p l bit) 10 (k : Int)) 32 0 := by
    refine zfs_congr 32 0 (fun k _ hk => ?_)
    subst hM
    rw [zs2_ne _ _ _ _ (by decide), zs2_ne _ _ _ _ (by decide), zmapc_at _ _ _ _ (by omega)]
    exact Iff.rfl
  refine zcdB (fun h1 => ?_) (fun h1 => ?_)
  · refine c_setMask' (by omega) ?_
    rw [back]
    exact fin 0 _ _ _ _ (zB_f (fun w => h1 (sf.mpr w.1))).symm
  · refine c_hasActs_9 ?_
    refine (sg_X5_meltHolds_61_0_9 _ _ _ _ _ _ _ _ _ _).mpr ?_
    rw [zB_iff (by rw [ac])]
    refine zcdB (fun h2 => ?_) (fun h2 => ?_)
    · refine c_setMask' (by omega) ?_
      rw [back]
      exact fin 0 _ _ _ _ (zB_f (fun w => h2 w.2)).symm
    · refine c_setMask' (by omega) ?_
      rw [back]
      exact fin 1 _ _ _ _ (zB_t ⟨sf.mp h1, h2⟩).symm
