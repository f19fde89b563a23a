/-! the reference: writes where a table is there -/
theorem m_writes_no {S : PS} {I J : Nat → Nat → Int} {Q : PV1 → Prop} {r : Int} {t w : Nat} {f : Nat → Int} {w3 w4 : PV} (ht : t < 2) (hw : I 32 6 = (w : Int)) (hV : VT J (w : Int) f) (hR : MRow I w t f) (hno : ¬ (muse I r ∧ xplc f r = -1 ∧ xst f < w))
    (hQ : Q (some (zI (if ¬ muse I r then (-1) else if ¬ xplc f r = -1 then (-2) else (-3))), zH S I)) : Wp 146 (0, [zA 32, zI (t : Int), zI r, w3, w4], [], zH S I) Q := by
  refine (sg_X6_writes_0_32 _ _ _ _ _ _ _).mpr ?_
  refine m_refusal ht hw hV hR ?_
  refine (sg_X6_writes_6_32 _ _ _ _ _ _ _ _).mpr ?_
  by_cases a1 : muse I r
  · rw [if_neg (not_not_intro a1)] at hQ ⊢
    by_cases a2 : xplc f r = -1
    · rw [if_neg (not_not_intro a2)] at hQ ⊢
      rw [if_neg (fun c => hno ⟨a1, a2, c⟩)]
      exact zcd (fun _ => hQ) (fun h => absurd (by decide) h)
    · rw [if_pos a2] at hQ ⊢
      exact zcd (fun _ => hQ) (fun h => absurd (by decide) h)
  · rw [if_pos a1] at hQ ⊢
    exact zcd (fun _ => hQ) (fun h => absurd (by decide) h)
def fmo9 (I I' : Nat → Nat → Int) : Prop := (∀ d, d ≠ 32 → d ≠ 41 → d ≠ 42 → d ≠ 43 → d ≠ 44 → d ≠ 45 → d ≠ 46 → d ≠ 47 → I' d = I d) ∧ ∀ j, j ≠ 16 → j ≠ 18 → j ≠ 20 → I' 32 j = I 32 j
theorem MQu_32 {I J : Nat → Nat → Int} {w k : Nat} {L : List QE} (h : MQu I w k L) (h16 : J 32 16 = I 32 16) (h41 : J 41 = I 41) (h42 : J 42 = I 42) (h43 : J 43 = I 43) (h44 : J 44 = I 44) (h45 : J 45 = I 45) : MQu J w k L := by
  unfold MQu
  rw [h16, h41, h42, h43, h44, h45]; exact h
set_option maxRecDepth 100000 in
theorem m_writes_ok {S : PS} {I Jc : Nat → Nat → Int} {Q : PV1 → Prop} {w3 w4 : PV} {w t k g D p : Nat} {eg : QE} {f : Nat → Int} {r : Int} {B A : Nat → Nat → Prop} (hw : I 32 6 = (w : Int)) (ht : t < 2) (hV : VT Jc (w : Int) f) (hR : MRow I w t f) (hk : (mem f 16).length = k) (hk5 : k ≤ 5) (hMet : Mett I)
    (hu : muse I r) (hpl : xplc f r = -1) (hfr : xst f < w) (hB : ∀ m o, m ≤ k → o < k → (B m o ↔ mBr I f r k m o)) (hA : ∀ m o, m ≤ k → o < k → (A m o ↔ mAr I f r k m o))
    (hG : xgoal (cmv w k B A) k (bq (cmv w k B A) k (ca0 f) 720) g D p eg) (hD : D ≤ 15)
    (hQ : ∀ I', Mett I' → fmo9 I I' → Q (some (zI ((D + 1 : Nat) : Int)), zH S I')) : Wp 146 (0, [zA 32, zI (t : Int), zI r, w3, w4], [], zH S I) Q := by
  have hw6 : w ≤ 6 := by have := hV.2.1; omega
  refine (sg_X6_writes_0_32 _ _ _ _ _ _ _).mpr ?_
  refine m_refusal ht hw hV hR ?_
  rw [if_neg (not_not_intro hu), if_neg (not_not_intro hpl), if_pos hfr]
  refine (sg_X6_writes_6_32 _ _ _ _ _ _ _ _).mpr ?_
  refine zcd (fun h => absurd h (by decide)) (fun _ => ?_)
  refine m_search (Q2 := Q) hw ht hV hR hk hk5 hMet ⟨hu.1, by have := hu.2.1; omega⟩ (xplc_free (by have := hu.1; omega) hpl) hB hA hG (fun I1 h1 h2 h3 h4 h5 => ?_)
  refine (sg_X6_writes_18_32 _ _ _ _ _ _ _).mpr ?_
  refine h5 _ _ _ (fun J j1 j2 j3 => ?_)
  have hl := MQu_len hk5 h1
  have hgl := (List.getElem?_eq_some_iff.mp hG.1).1
  have hd := (h1.2.1 g eg hG.1).2.2.2
  refine (sg_X6_writes_23_32 _ _ _ _ _ _ _ _).mpr ?_
  refine zcd (fun h => absurd h (by omega)) (fun _ => zgd (by omega) ?_)
  rw [Int.toNat_natCast, j3 45 (by decide) (by decide), hd, hG.2.1, zad_s (by omega)]
  refine hQ J (Mett_of hk5 hw6 (MQu_32 h1 (j2 16 (by decide)) (j3 41 (by decide) (by decide)) (j3 42 (by decide) (by decide)) (j3 43 (by decide) (by decide)) (j3 44 (by decide) (by decide)) (j3 45 (by decide) (by decide)))) ⟨fun d d1 d2 d3 d4 d5 d6 d7 d8 => ?_, fun j i1 i2 i3 => ?_⟩
  · rw [j3 d d1 d8]; exact h4.1 d d1 d2 d3 d4 d5 d6 d7 d8
  · rw [j2 j i3]; exact h4.2 j i1 i2
