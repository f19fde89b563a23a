/-! the reference: refusal, writes -/
theorem zcnt_lt {P : Nat → Prop} [DecidablePred P] : ∀ n, (∃ p, p < n ∧ ¬ P p) → zcnt P n < n
  | 0, ⟨p, h, _⟩ => absurd h (by omega)
  | n + 1, ⟨p, h1, h2⟩ => by
    simp only [zcnt]
    by_cases e : p = n
    · subst e
      have := zcnt_le P p
      rw [if_neg h2]; omega
    · have := zcnt_lt n ⟨p, by omega, h2⟩
      split <;> omega
theorem zcnt_tail {P : Nat → Prop} [DecidablePred P] {n : Nat} : ∀ d, (∀ p, n ≤ p → p < n + d → ¬ P p) → zcnt P (n + d) = zcnt P n
  | 0, _ => rfl
  | d + 1, h => by
    rw [← Nat.add_assoc]
    simp only [zcnt]
    rw [zcnt_tail d (fun p h1 h2 => h p h1 (by omega)), if_neg (h (n + d) (by omega) (by omega)), Nat.add_zero]
theorem free_iff {J : Nat → Nat → Int} {w : Nat} {f : Nat → Int} (hV : VT J (w : Int) f) : (∃ p, p < w ∧ f p = -1) ↔ xst f < w := by
  have h6 := hV.2.1
  constructor
  · rintro ⟨p, p1, p2⟩
    have h1 := zcnt_lt (P := fun p => f p ≠ -1) w ⟨p, p1, by rw [p2]; decide⟩
    have h2 := zcnt_tail (P := fun p => f p ≠ -1) (n := w) (6 - w) (fun q q1 q2 => by rw [hV.2.2.2.1 q (by omega) (by omega)]; decide)
    rw [show w + (6 - w) = 6 by omega] at h2
    unfold xst
    omega
  · intro h
    exact zcnt_free 6 (by omega) h
theorem m_refusal_n {S : PS} {I : Nat → Nat → Int} {Q : PV1 → Prop} {t r : Int} (ht : t < 0 ∨ 2 ≤ t) (hQ : Q (some (zI (-1)), zH S I)) : Wp 145 (0, [zA 32, zI t, zI r], [], zH S I) Q := by
  refine (sg_X6_refusal_0_32 _ _ _ _ _).mpr ?_
  refine m_isTable ?_
  refine (sg_X6_refusal_4_32 _ _ _ _ _ _).mpr ?_
  exact zcdB (fun _ => hQ) (fun h => absurd h (by omega))
theorem m_refusal {S : PS} {I J : Nat → Nat → Int} {Q : PV1 → Prop} {r : Int} {t w : Nat} {f : Nat → Int} (ht : t < 2) (hw : I 32 6 = (w : Int)) (hV : VT J (w : Int) f) (hR : MRow I w t f)
    (hQ : Q (some (zI (if ¬ muse I r then (-1) else if ¬ xplc f r = -1 then (-2) else if xst f < w then 0 else (-3))), zH S I)) : Wp 145 (0, [zA 32, zI (t : Int), zI r], [], zH S I) Q := by
  have hw6 : w ≤ 6 := by have := hV.2.1; omega
  refine (sg_X6_refusal_0_32 _ _ _ _ _).mpr ?_
  refine m_isTable ?_
  refine (sg_X6_refusal_4_32 _ _ _ _ _ _).mpr ?_
  refine zcdB (fun h => absurd (by omega) h) (fun _ => ?_)
  refine m_isRule ?_
  refine (sg_X6_refusal_12_32 _ _ _ _ _ _).mpr ?_
  refine zcdB (fun h => by rw [if_pos h] at hQ; exact hQ) (fun hu => ?_)
  rw [if_neg (not_not_intro hu)] at hQ
  refine m_placeOf ht hw hw6 ?_
  rw [mplc_eq hV hR hu.1]
  refine (sg_X6_refusal_25_32 _ _ _ _ _ _).mpr ?_
  refine zcd (fun h => ?_) (fun h => ?_)
  · have h1 : xplc f r = -1 := by
      by_cases c : xplc f r = -1
      · exact c
      · obtain ⟨q, _, q2, _⟩ := xplc_in c; omega
    rw [if_neg (not_not_intro h1)] at hQ
    refine m_hasFree ht hw hw6 (fun x x1 x2 => ?_)
    have x3 : x = 1 ↔ xst f < w := by
      rw [x2, ← free_iff hV]
      constructor
      · rintro ⟨p, p1, p2⟩
        refine ⟨p, p1, ?_⟩
        rw [hR p p1] at p2
        have := hV.2.2.1 p (by omega)
        split at p2 <;> omega
      · rintro ⟨p, p1, p2⟩
        exact ⟨p, p1, by rw [hR p p1, if_pos p2]⟩
    refine (sg_X6_refusal_38 _ _ _ _ _ _ _).mpr ?_
    refine zcd (fun h0 => ?_) (fun h0 => ?_)
    · rw [if_neg (fun c => by have := x3.mpr c; omega)] at hQ; exact hQ
    · rw [if_pos (x3.mp (by omega))] at hQ; exact hQ
  · rw [if_pos (fun c => by omega)] at hQ; exact hQ
theorem m_writes_n {S : PS} {I : Nat → Nat → Int} {Q : PV1 → Prop} {t r : Int} {w3 w4 : PV} (ht : t < 0 ∨ 2 ≤ t) (hQ : Q (some (zI (-1)), zH S I)) : Wp 146 (0, [zA 32, zI t, zI r, w3, w4], [], zH S I) Q := by
  refine (sg_X6_writes_0_32 _ _ _ _ _ _ _).mpr ?_
  refine m_refusal_n ht ?_
  refine (sg_X6_writes_6_32 _ _ _ _ _ _ _ _).mpr ?_
  exact zcd (fun _ => hQ) (fun h => absurd (by decide) h)
/-- members' rules in the reference's words -/
def mBr (I : Nat → Nat → Int) (f : Nat → Int) (r : Int) (k m o : Nat) : Prop := o ≠ m ∧ mov I (mbr f r k m) (mbr f r k o) ∧ mhi I (mbr f r k o) (mbr f r k m)
def mAr (I : Nat → Nat → Int) (f : Nat → Int) (r : Int) (k m o : Nat) : Prop := o ≠ m ∧ mov I (mbr f r k m) (mbr f r k o) ∧ ¬ mhi I (mbr f r k o) (mbr f r k m)
/-- the search of the reference finds the same -/
theorem m_search {S : PS} {I Jc : Nat → Nat → Int} {Q : PV1 → Prop} {Q2 : PV1 → Prop} {w2 w3 w4 w5 : PV} {w t k g D p : Nat} {eg : QE} {f : Nat → Int} {r : Int} {B A : Nat → Nat → Prop} (hw : I 32 6 = (w : Int)) (ht : t < 2) (hV : VT Jc (w : Int) f) (hR : MRow I w t f) (hk : (mem f 16).length = k) (hk5 : k ≤ 5) (hMet : Mett I)
    (hr : num r) (hn : ∀ q, q < 6 → f q ≠ r) (hB : ∀ m o, m ≤ k → o < k → (B m o ↔ mBr I f r k m o)) (hA : ∀ m o, m ≤ k → o < k → (A m o ↔ mAr I f r k m o))
    (hG : xgoal (cmv w k B A) k (bq (cmv w k B A) k (ca0 f) 720) g D p eg)
    (hQ : ∀ I', MQu I' w k (bq (cmv w k B A) k (ca0 f) 720) → (∀ o, o < k → I' 46 o = mbr f r k o) → I' 32 18 = (k : Int) → fmo8 I I' →
      (∀ (Q2 : PV1 → Prop) (v2 v3 : PV), (∀ J, J 32 20 = (p : Int) → (∀ j, j ≠ 20 → J 32 j = I' 32 j) → (∀ d, d ≠ 32 → d ≠ 47 → J d = I' d) → Q2 (some (zI (g : Int)), zH S J)) → Wp 144 (0, [zA 32, zI r, v2, v3], [], zH S I') Q2) → Q (none, zH S I')) : Wp 142 (0, [zA 32, zI (t : Int), w2, w3, w4, w5], [], zH S I) Q := by
  have hw6 : w ≤ 6 := by have := hV.2.1; omega
  have em : ∀ o, o < k → mbr f r k o = gD (mem f 16) o := fun o ho => by rw [mbr, if_pos ho]
  have ek : mbr f r k k = r := by rw [mbr, if_neg (by omega)]
  refine m_findStates (B := B) (A := A) hw ht hV hR hk hk5 hMet (fun m o hm ho => ?_) (fun m o hm ho => ?_) (fun I' h1 h2 h3 h4 => hQ I' h1 (fun o ho => by rw [em o ho]; exact h2 o ho) h3 h4 (fun Q2 v2 v3 hq => ?_))
  · rw [hB m o (by omega) ho, mBr, em m hm, em o ho]
  · rw [hA m o (by omega) ho, mAr, em m hm, em o ho]
  · have e35 : I' 35 = I 35 := h4.1 35 (by decide) (by decide) (by decide) (by decide) (by decide) (by decide) (by decide) (by decide)
    have e36 : I' 36 = I 36 := h4.1 36 (by decide) (by decide) (by decide) (by decide) (by decide) (by decide) (by decide) (by decide)
    have e37 : I' 37 = I 37 := h4.1 37 (by decide) (by decide) (by decide) (by decide) (by decide) (by decide) (by decide) (by decide)
    have := m_stateFor (S := S) (Q := Q2) (w2 := v2) (w3 := v3) (B := B) (A := A) (mbr f r k) hk5 (by rw [h4.2 6 (by decide) (by decide)]; exact hw) hw6 h1 (fun o ho => by rw [em o ho]; exact h2 o ho) (fun o _ => mbr_num hk hr) (fun o ho => mbr_inj hk hn (by omega) (Nat.le_refl k) (by omega)) (fun o ho => by rw [hB k o (Nat.le_refl k) ho]; unfold mBr mov mhi; rw [e35, e36, e37]) (fun o ho => by rw [hA k o (Nat.le_refl k) ho]; unfold mAr mov mhi; rw [e35, e36, e37]) hG hq
    rw [ek] at this
    exact this
