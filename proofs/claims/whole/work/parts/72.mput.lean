/-! the reference: put -/
/-- what keeping leaves in the kept blocks -/
def Kpt (I K : Nat → Nat → Int) (n : Nat) (ml : Int) : Prop :=
  K 32 9 = ((min n 19 + 1 : Nat) : Int) ∧ (∀ i, i < 16 * min n 19 → K 40 i = if n = 20 then I 40 (i + 16) else I 40 i) ∧ (∀ i, i < 12 → K 40 (16 * min n 19 + i) = I 39 i) ∧
  K 40 (16 * min n 19 + 12) = I 32 7 ∧ K 40 (16 * min n 19 + 13) = ml ∧ K 40 (16 * min n 19 + 14) = (if ml < 0 then 0 else I 36 ml.toNat) ∧ K 40 (16 * min n 19 + 15) = (if ml < 0 then 0 else I 35 ml.toNat)
theorem Kpt_of {I J0 J K : Nat → Nat → Int} {n : Nat} {ml : Int} (h : Kep J0 J n ml) (e40 : J0 40 = I 40) (e39 : J0 39 = I 39) (e7 : J0 32 7 = I 32 7) (e36 : J0 36 = I 36) (e35 : J0 35 = I 35) (k40 : K 40 = J 40) (k9 : K 32 9 = J 32 9) : Kpt I K n ml := by
  obtain ⟨h1, h2, h3, h4, h5, h6, h7, -, -⟩ := h
  unfold Kpt
  rw [k40, k9, ← e40, ← e39, ← e7, ← e36, ← e35]
  exact ⟨h1, h2, h3, h4, h5, h6, h7⟩
theorem Mett_32 {I J : Nat → Nat → Int} (h : Mett I) (h16 : J 32 16 = I 32 16) (h41 : J 41 = I 41) (h42 : J 42 = I 42) : Mett J := by
  unfold Mett
  rw [h16, h41, h42]; exact h
theorem m_put_n {S : PS} {I : Nat → Nat → Int} {Q : PV1 → Prop} {t r : Int} {w3 : PV} (ht : t < 0 ∨ 2 ≤ t) (hQ : Q (some (zI (-1)), zH S I)) : Wp 148 (0, [zA 32, zI t, zI r, w3], [], zH S I) Q := by
  refine (sg_X6_put_0_32 _ _ _ _ _ _).mpr ?_
  refine m_writes_n ht ?_
  refine (sg_X6_put_6_32 _ _ _ _ _ _ _).mpr ?_
  exact zcd (fun _ => hQ) (fun h => absurd (by decide) h)
theorem m_put_no {S : PS} {I J : Nat → Nat → Int} {Q : PV1 → Prop} {r : Int} {t w : Nat} {f : Nat → Int} {w3 : PV} (ht : t < 2) (hw : I 32 6 = (w : Int)) (hV : VT J (w : Int) f) (hR : MRow I w t f) (hno : ¬ (muse I r ∧ xplc f r = -1 ∧ xst f < w))
    (hQ : Q (some (zI (if ¬ muse I r then (-1) else if ¬ xplc f r = -1 then (-2) else (-3))), zH S I)) : Wp 148 (0, [zA 32, zI (t : Int), zI r, w3], [], zH S I) Q := by
  refine (sg_X6_put_0_32 _ _ _ _ _ _).mpr ?_
  refine m_writes_no ht hw hV hR hno ?_
  refine (sg_X6_put_6_32 _ _ _ _ _ _ _).mpr ?_
  refine zcd (fun _ => hQ) (fun h => absurd ?_ h)
  split
  · decide
  · split <;> decide
set_option maxRecDepth 100000 in
theorem m_put_ok {S : PS} {I Jc : Nat → Nat → Int} {Q : PV1 → Prop} {w3 : PV} {w t k g D p n : Nat} {eg : QE} {f : Nat → Int} {r : Int} {B A : Nat → Nat → Prop} (hw : I 32 6 = (w : Int)) (ht : t < 2) (hV : VT Jc (w : Int) f) (hR : MRow I w t f) (hk : (mem f 16).length = k) (hk5 : k ≤ 5) (hMet : Mett I)
    (hu : muse I r) (hpl : xplc f r = -1) (hfr : xst f < w) (hB : ∀ m o, m ≤ k → o < k → (B m o ↔ mBr I f r k m o)) (hA : ∀ m o, m ≤ k → o < k → (A m o ↔ mAr I f r k m o))
    (hG : xgoal (cmv w k B A) k (bq (cmv w k B A) k (ca0 f) 720) g D p eg) (hD : D ≤ 15) (h9 : I 32 9 = (n : Int)) (hn20 : n ≤ 20)
    (hQ : ∀ J, Mett J → J 32 21 = ((D + 1 : Nat) : Int) → (∀ (x : Nat) (mp : Nat × Nat), (qway (bq (cmv w k B A) k (ca0 f) 720) D g)[x]? = some mp → J 48 x = mbr f r k mp.1 ∧ J 49 x = (mp.2 : Int)) → J 48 D = r → J 49 D = (p : Int) → (∀ f', RF f' (mem f 16) eg.1 r p k → MRow J w t f') → (∀ i, i < 6 * t ∨ 6 * t + w ≤ i → J 39 i = I 39 i) → Kpt I J n (-1) →
      (∀ d, d < 32 ∨ (32 < d ∧ d < 39) ∨ 49 < d → J d = I d) → (∀ j, j ≠ 9 → j ≠ 16 → j ≠ 18 → j ≠ 20 → j ≠ 21 → J 32 j = I 32 j) → Q (some (zI ((D + 1 : Nat) : Int)), zH S J)) : Wp 148 (0, [zA 32, zI (t : Int), zI r, w3], [], zH S I) Q := by
  refine (sg_X6_put_0_32 _ _ _ _ _ _).mpr ?_
  refine m_writes_ok hw ht hV hR hk hk5 hMet hu hpl hfr hB hA hG hD (fun I1 a1 a2 => ?_)
  refine (sg_X6_put_6_32 _ _ _ _ _ _ _).mpr ?_
  refine zcd (fun h => absurd h (by omega)) (fun _ => ?_)
  refine m_keep (n := n) (by rw [a2.2 9 (by decide) (by decide) (by decide)]; exact h9) hn20 (Or.inl (by decide)) (fun I2 b1 => ?_)
  refine (sg_X6_put_18_32 _ _ _ _ _ _).mpr ?_
  have c0 := b1
  obtain ⟨b2, b3, b4, b5, b6, b7, b8, b9, b10⟩ := b1
  have i2d : ∀ d, d ≠ 32 → d ≠ 40 → d ≠ 41 → d ≠ 42 → d ≠ 43 → d ≠ 44 → d ≠ 45 → d ≠ 46 → d ≠ 47 → I2 d = I d := fun d d1 d2 d3 d4 d5 d6 d7 d8 d9 => by rw [b9 d d1 d2]; exact a2.1 d d1 d3 d4 d5 d6 d7 d8 d9
  have i2s : ∀ j, j ≠ 9 → j ≠ 16 → j ≠ 18 → j ≠ 20 → I2 32 j = I 32 j := fun j j1 j2 j3 j4 => by rw [b10 j j1]; exact a2.2 j j2 j3 j4
  have e39 : I2 39 = I 39 := i2d 39 (by decide) (by decide) (by decide) (by decide) (by decide) (by decide) (by decide) (by decide) (by decide)
  have e35 : I2 35 = I 35 := i2d 35 (by decide) (by decide) (by decide) (by decide) (by decide) (by decide) (by decide) (by decide) (by decide)
  have e36 : I2 36 = I 36 := i2d 36 (by decide) (by decide) (by decide) (by decide) (by decide) (by decide) (by decide) (by decide) (by decide)
  have e37 : I2 37 = I 37 := i2d 37 (by decide) (by decide) (by decide) (by decide) (by decide) (by decide) (by decide) (by decide) (by decide)
  refine m_layIn (w := w) (p := p) (eg := eg) (B := B) (A := A) (by rw [i2s 6 (by decide) (by decide) (by decide) (by decide)]; exact hw) ht hV (fun q hq => by rw [e39]; exact hR q hq) hk hk5 (Mett_32 a1 (b10 16 (by decide)) (b9 41 (by decide) (by decide)) (b9 42 (by decide) (by decide))) ⟨hu.1, by have := hu.2.1; omega⟩ (xplc_free (by have := hu.1; omega) hpl) (fun m o hm ho => by rw [hB m o hm ho]; unfold mBr mov mhi; rw [e35, e36, e37]) (fun m o hm ho => by rw [hA m o hm ho]; unfold mAr mov mhi; rw [e35, e36, e37]) hG hD (fun K k1 k2 k3 k4 k5 k6 k7 k8 k9 => ?_)
  refine (sg_X6_put_24 _ _ _ _ _ _ _ _).mpr ?_
  refine hQ K k1 k2 k3 k4 k5 k6 (fun i hi => by rw [k7 i hi, e39]) ?_ (fun d hd => ?_) (fun j j1 j2 j3 j4 j5 => ?_)
  · refine Kpt_of c0 ?_ ?_ ?_ ?_ ?_ (k8 40 (by omega)) (k9 9 (by decide) (by decide) (by decide) (by decide))
    · exact a2.1 40 (by decide) (by decide) (by decide) (by decide) (by decide) (by decide) (by decide) (by decide)
    · exact a2.1 39 (by decide) (by decide) (by decide) (by decide) (by decide) (by decide) (by decide) (by decide)
    · exact a2.2 7 (by decide) (by decide) (by decide)
    · exact a2.1 36 (by decide) (by decide) (by decide) (by decide) (by decide) (by decide) (by decide) (by decide)
    · exact a2.1 35 (by decide) (by decide) (by decide) (by decide) (by decide) (by decide) (by decide) (by decide)
  · rw [k8 d (by omega)]
    exact i2d d (by omega) (by omega) (by omega) (by omega) (by omega) (by omega) (by omega) (by omega) (by omega)
  · rw [k9 j j2 j3 j4 j5]; exact i2s j j1 j2 j3 j4
