/-! the reference widens its queue -/
theorem qadd_get {L : List QE} {e x : QE} {s : Nat} (h : L[s]? = some x) : (qadd L e)[s]? = some x := by
  obtain ⟨r, hr⟩ := qadd_pre L e
  rw [hr, List.getElem?_append_left (List.getElem?_eq_some_iff.mp h).1]; exact h
theorem qwp_get {mv : List Nat → Nat → Nat → Prop} {s' : Int} {a : List Nat} {d m s : Nat} {x : QE} {L : List QE} (h : L[s]? = some x) : ∀ p, (qwp mv s' a d m p L)[s]? = some x
  | 0 => h
  | p + 1 => by
    by_cases w : mv a m p
    · rw [qwp_s _ _ _ _ _ _ _ w]; exact qadd_get (qwp_get h p)
    · rw [qwp_n _ _ _ _ _ _ _ w]; exact qwp_get h p
theorem qwm_get {mv : List Nat → Nat → Nat → Prop} {s' : Int} {a : List Nat} {d s : Nat} {x : QE} {L : List QE} (h : L[s]? = some x) : ∀ m, (qwm mv s' a d m L)[s]? = some x
  | 0 => h
  | m + 1 => qwp_get (qwm_get h m) 6
def fm7 (I I' : Nat → Nat → Int) : Prop := (∀ d, d ≠ 32 → d ≠ 41 → d ≠ 42 → d ≠ 43 → d ≠ 44 → d ≠ 45 → d ≠ 47 → I' d = I d) ∧ ∀ j, j ≠ 16 → I' 32 j = I 32 j
theorem fm7_refl (I : Nat → Nat → Int) : fm7 I I := ⟨fun _ _ _ _ _ _ _ _ => rfl, fun _ _ => rfl⟩
theorem fm7_47 {I J : Nat → Nat → Int} {p : Nat} {x : Int} (h : fm7 I J) : fm7 I (zs2 J 47 p x) := ⟨fun d h1 h2 h3 h4 h5 h6 h7 => by rw [zs2_ne _ _ _ _ h7]; exact h.1 d h1 h2 h3 h4 h5 h6 h7, fun j hj => by rw [zs2_ne _ _ _ _ (by decide)]; exact h.2 j hj⟩
theorem MQu_47 {J : Nat → Nat → Int} {w k p : Nat} {x : Int} {L : List QE} (h : MQu J w k L) : MQu (zs2 J 47 p x) w k L := by
  unfold MQu
  simp (disch := decide) only [zs2_ne]
  exact h
/-- legal by the reference's columns -/
theorem msf_cmv {I J : Nat → Nat → Int} {w k m p : Nat} {a : List Nat} {B A : Nat → Nat → Prop} (hk : k ≤ 5) (hb : barr k a) (haw : ∀ x ∈ a, x < w) (hm : m ≤ k) (hpw : p < w) (hpa : p ∉ a) (r : Nat → Int)
    (hrow : ∀ q, q < w → (∃ o, o < k ∧ o ≠ m ∧ a.getD o 0 = q ∧ J 47 q = (o : Int)) ∨ ((∀ o, o < k → o ≠ m → a.getD o 0 ≠ q) ∧ J 47 q = 6)) (hown : ∀ o, o < k → J 46 o = r o) (hJ : J 35 = I 35 ∧ J 36 = I 36 ∧ J 37 = I 37)
    (hne : ∀ o, o < k → o ≠ m → r o ≠ r m)
    (hB : ∀ o, o < k → (B m o ↔ o ≠ m ∧ mov I (r m) (r o) ∧ mhi I (r o) (r m))) (hA : ∀ o, o < k → (A m o ↔ o ≠ m ∧ mov I (r m) (r o) ∧ ¬ mhi I (r o) (r m))) :
    (∀ q, q < w → msf J (r m) p q) ↔ cmv w k B A a m p := by
  obtain ⟨j35, j36, j37⟩ := hJ
  have ov : ∀ x y, mov J x y ↔ mov I x y := fun x y => by unfold mov; rw [j35, j36]
  have hi : ∀ x y, mhi J x y ↔ mhi I x y := fun x y => by unfold mhi; rw [j37]
  have tot : ∀ o, o < k → o ≠ m → (mhi I (r m) (r o) ↔ ¬ mhi I (r o) (r m)) := fun o ho hom => by
    have := hne o ho hom
    unfold mhi; omega
  constructor
  · intro h
    refine ⟨hpw, hpa, fun o ho => ?_⟩
    have hg := barr_get hb ho
    have hop : a.getD o 0 ≠ p := fun e => hpa (e ▸ hg.1)
    have hrw := hrow _ (haw _ hg.1)
    have key : o ≠ m → mov I (r m) (r o) → (a.getD o 0 < p ∧ mhi I (r o) (r m)) ∨ (¬ a.getD o 0 < p ∧ mhi I (r m) (r o)) := fun hom hov => by
      have h47 : J 47 (a.getD o 0) = (o : Int) := by
        rcases hrw with ⟨o', ho', _, e1, e2⟩ | ⟨h1, _⟩
        · rw [e2, barr_inj hb ho' ho e1]
        · exact absurd rfl (h1 o ho hom)
      have := h _ (haw _ hg.1) hop (by rw [h47]; omega)
      rw [h47, Int.toNat_natCast, hown o ho, ov, hi, hi] at this
      exact this hov
    constructor
    · intro hBB
      obtain ⟨b1, b2, b3⟩ := (hB o ho).mp hBB
      rcases key b1 b2 with w | w
      · exact w.1
      · exact absurd b3 ((tot o ho b1).mp w.2)
    · intro hAA
      obtain ⟨b1, b2, b3⟩ := (hA o ho).mp hAA
      rcases key b1 b2 with w | w
      · exact absurd w.2 b3
      · exact Nat.lt_of_le_of_ne (Nat.not_lt.mp w.1) (fun e => hop e.symm)
  · rintro ⟨_, _, h⟩ q hq hqp h6 hov
    rcases hrow q hq with ⟨o, ho, hom, e1, e2⟩ | ⟨_, e2⟩
    · rw [e2, Int.toNat_natCast, hown o ho] at hov ⊢
      rw [ov] at hov
      rw [hi, hi]
      by_cases c : mhi I (r o) (r m)
      · left
        exact ⟨by rw [← e1]; exact (h o ho).1 ((hB o ho).mpr ⟨hom, hov, c⟩), c⟩
      · right
        have := (h o ho).2 ((hA o ho).mpr ⟨hom, hov, c⟩)
        exact ⟨by omega, (tot o ho hom).mpr c⟩
    · rw [e2] at h6; omega
set_option maxRecDepth 100000 in
theorem m_widen {S : PS} {I : Nat → Nat → Int} {Q : PV1 → Prop} {u1 w4 w5 : PV} {w k s : Nat} {x : QE} {L : List QE} {B A : Nat → Nat → Prop} (r : Nat → Int) (hk5 : k ≤ 5) (hw : I 32 6 = (w : Int)) (hw6 : w ≤ 6) (ho : I 32 18 = (k : Int)) (hM : MQu I w k L) (hx : L[s]? = some x)
    (hrow : ∀ p, p < w → I 47 p = rw7 x.1 p) (hown : ∀ o, o < k → I 46 o = r o) (hnum : ∀ o, o < k → num (r o)) (hne : ∀ o o', o < k → o' < k → o ≠ o' → r o ≠ r o')
    (hB : ∀ m o, m < k → o < k → (B m o ↔ o ≠ m ∧ mov I (r m) (r o) ∧ mhi I (r o) (r m))) (hA : ∀ m o, m < k → o < k → (A m o ↔ o ≠ m ∧ mov I (r m) (r o) ∧ ¬ mhi I (r o) (r m)))
    (hdepth : x.2.2.2.2 < 2147483647)
    (hQ : ∀ I' v3 v4 v5, MQu I' w k (qwm (cmv w k B A) (s : Int) x.1 x.2.2.2.2 k L) → fm7 I I' → Wp 142 (170, [zA 32, u1, zI ((s + 1 : Nat) : Int), zI v3, v4, v5], [], zH S I') Q) : Wp 142 (190, [zA 32, u1, zI (s : Int), zI 0, w4, w5], [], zH S I) Q := by
  have hbx := hM.2.2.2.2 x (List.mem_of_getElem? hx)
  obtain ⟨hb, haw⟩ := hbx
  have hs : s < 2000 := by
    have := MQu_len hk5 hM
    have := (List.getElem?_eq_some_iff.mp hx).1; omega
  -- the places of one member
  have inner : ∀ (j p m : Nat) (J : Nat → Nat → Int) (Q : PV1 → Prop), j + p = w → m < k → MQu J w k (qwp (cmv w k B A) (s : Int) x.1 x.2.2.2.2 m p (qwm (cmv w k B A) (s : Int) x.1 x.2.2.2.2 m L)) → fm7 I J → (∀ q, q < w → J 47 q = if q = x.1.getD m 0 then 6 else rw7 x.1 q) →
      (∀ J', MQu J' w k (qwm (cmv w k B A) (s : Int) x.1 x.2.2.2.2 (m + 1) L) → fm7 I J' → (∀ q, q < w → J' 47 q = rw7 x.1 q) → ∀ v4 v5 : PV, Wp 142 (190, [zA 32, u1, zI (s : Int), zI ((m + 1 : Nat) : Int), v4, v5], [], zH S J') Q) →
      Wp 142 (230, [zA 32, u1, zI (s : Int), zI (m : Int), zI ((x.1.getD m 0 : Nat) : Int), zI (p : Int)], [], zH S J) Q := by
    intro j
    induction j with
    | zero =>
      intro p m J Q hp hm hMJ hf h47 nx
      obtain rfl : p = w := by omega
      have hg := barr_get hb hm
      refine (sg_X6_findStates_230_32 _ _ _ _ _ _ _ _).mpr ?_
      rw [hf.2 6 (by decide), hw]
      refine zcd (fun h => absurd h (by omega)) (fun _ => zgd (by omega) ?_)
      rw [Int.toNat_natCast, zad_s (by omega)]
      have e6 : qwm (cmv p k B A) (s : Int) x.1 x.2.2.2.2 (m + 1) L = qwp (cmv p k B A) (s : Int) x.1 x.2.2.2.2 m p (qwm (cmv p k B A) (s : Int) x.1 x.2.2.2.2 m L) := by
        have := qwp_same (cmv p k B A) (s : Int) x.1 x.2.2.2.2 m (qwm (cmv p k B A) (s : Int) x.1 x.2.2.2.2 m L) (p := p) (6 - p) (fun y hy _ c => by have := c.1; omega)
        rw [show p + (6 - p) = 6 by omega] at this
        exact this
      refine nx _ (by rw [e6]; exact MQu_47 hMJ) (fm7_47 hf) (fun q hq => ?_) _ _
      by_cases e : q = x.1.getD m 0
      · subst e; rw [zs2_at, rw7_at hb hm]
      · rw [zs2_ne2 _ _ _ _ e, h47 q hq, if_neg e]
    | succ j ih =>
      intro p m J Q hp hm hMJ hf h47 nx
      have hg := barr_get hb hm
      have hpw : p < w := by omega
      refine (sg_X6_findStates_230_32 _ _ _ _ _ _ _ _).mpr ?_
      rw [hf.2 6 (by decide), hw, Int.toNat_natCast, zad_s (by omega)]
      have skip : ¬ cmv w k B A x.1 m p → Wp 142 (230, [zA 32, u1, zI (s : Int), zI (m : Int), zI ((x.1.getD m 0 : Nat) : Int), zI ((p + 1 : Nat) : Int)], [], zH S J) Q := fun hno => ih (p + 1) m J Q (by omega) hm (by rw [qwp_n _ _ _ _ _ _ _ hno]; exact hMJ) hf h47 nx
      refine zcd (fun _ => ?_) (fun h => absurd (by omega) h)
      refine zcd (fun he => skip (fun c => c.2.1 (by rw [show p = x.1.getD m 0 by omega]; exact hg.1))) (fun he => ?_)
      refine zgd (by omega) ?_
      rw [h47 p hpw, if_neg (by omega)]
      refine zcd (fun h6 => ?_) (fun h6 => skip (fun c => h6 (rw7_no c.2.1)))
      have hpa : p ∉ x.1 := fun c => by
        obtain ⟨o, ho, e⟩ := (barr_ex hb).mp c
        rw [← e, rw7_at hb ho] at h6; omega
      refine zgd (by omega) ?_
      have j46 : J 46 = I 46 := hf.1 46 (by decide) (by decide) (by decide) (by decide) (by decide) (by decide) (by decide)
      rw [Int.toNat_natCast, j46, hown m hm]
      have hrow2 : ∀ q, q < w → (∃ o, o < k ∧ o ≠ m ∧ x.1.getD o 0 = q ∧ J 47 q = (o : Int)) ∨ ((∀ o, o < k → o ≠ m → x.1.getD o 0 ≠ q) ∧ J 47 q = 6) := fun q hq => by
        by_cases c : q = x.1.getD m 0
        · exact Or.inr ⟨fun o ho hom e => hom (barr_inj hb ho hm (by rw [e, c])), by rw [h47 q hq, if_pos c]⟩
        · by_cases c2 : q ∈ x.1
          · obtain ⟨o, ho, e⟩ := (barr_ex hb).mp c2
            refine Or.inl ⟨o, ho, fun e2 => c (by rw [← e, e2]), e, ?_⟩
            rw [h47 q hq, if_neg c, ← e, rw7_at hb ho]
          · exact Or.inr ⟨fun o ho _ e => c2 (e ▸ (barr_get hb ho).1), by rw [h47 q hq, if_neg c, rw7_no c2]⟩
      have hlow : ∀ q, q < w → 0 ≤ J 47 q := fun q hq => by
        rcases hrow2 q hq with ⟨o, _, _, _, e⟩ | ⟨_, e⟩ <;> (rw [e]; omega)
      refine m_isSafeAt (hnum m hm) (by rw [hf.2 6 (by decide)]; exact hw) hw6 hpw hlow (fun q hq h => by
        rcases hrow2 q hq with ⟨o, ho', _, _, e⟩ | ⟨_, e⟩
        · rw [e, Int.toNat_natCast, j46, hown o ho']; exact hnum o ho'
        · rw [e] at h; omega) (fun y hy1 hy2 => ?_)
      have hiff := msf_cmv (I := I) (J := J) (B := B) (A := A) hk5 hb haw (Nat.le_of_lt hm) hpw hpa r hrow2 (fun o ho' => by rw [j46]; exact hown o ho') ⟨hf.1 35 (by decide) (by decide) (by decide) (by decide) (by decide) (by decide) (by decide), hf.1 36 (by decide) (by decide) (by decide) (by decide) (by decide) (by decide) (by decide), hf.1 37 (by decide) (by decide) (by decide) (by decide) (by decide) (by decide) (by decide)⟩ (fun o ho' hom => hne o m ho' hm hom) (fun o ho' => hB m o hm ho') (fun o ho' => hA m o hm ho')
      refine (sg_X6_findStates_270_32 _ _ _ _ _ _ _ _ _).mpr ?_
      rw [Int.toNat_natCast, zad_s (by omega)]
      refine zcd (fun hy0 => skip (fun c => by have := hy2.mpr (hiff.mpr c); omega)) (fun hy0 => ?_)
      have hmv : cmv w k B A x.1 m p := hiff.mp (hy2.mp (by omega))
      refine zgd (by omega) ?_
      have hbs := barr_set (m := m) hb (by omega) hpa
      have hsw : ∀ y ∈ x.1.set m p, y < w := fun y hy => by
        rcases List.mem_or_eq_of_mem_set hy with c | rfl
        · exact haw y c
        · exact hpw
      have hlen : m < x.1.length := by rw [hb.1]; exact hm
      have hrow3 : ∀ q, q < w → zs2 J 47 p (m : Int) 47 q = rw7 (x.1.set m p) q := fun q hq => by
        by_cases c : q = p
        · subst c
          have := rw7_at hbs hm
          rw [getD_set hlen, if_pos rfl] at this
          rw [zs2_at, this]
        · rw [zs2_ne2 _ _ _ _ c]
          rcases hrow2 q hq with ⟨o, ho', hom, e1, e2⟩ | ⟨h1, e2⟩
          · have := rw7_at hbs ho'
            rw [getD_set hlen, if_neg hom, e1] at this
            rw [e2, this]
          · rw [e2, rw7_no]
            intro c2
            obtain ⟨o, ho', e⟩ := (barr_ex hbs).mp c2
            rw [getD_set hlen] at e
            by_cases hom : o = m
            · rw [if_pos hom] at e; exact c e.symm
            · rw [if_neg hom] at e; exact h1 o ho' hom e
      refine m_codeOf (by rw [zs2_ne _ _ _ _ (by decide), hf.2 6 (by decide)]; exact hw) hw6 (fun o ho' => by rw [hrow3 o ho']; exact rw7_in (by omega) hbs o) ?_
      rw [show zc7 (zs2 J 47 p (m : Int) 47) w w = c7l w (x.1.set m p) from zc7_congr hrow3 w (Nat.le_refl w)]
      refine (sg_X6_findStates_286_32_32 _ _ _ _ _ _ _ _ _).mpr ?_
      refine zgd (by omega) ?_
      have hget := qwp_get (mv := cmv w k B A) (s' := (s : Int)) (a := x.1) (d := x.2.2.2.2) (m := m) (qwm_get (mv := cmv w k B A) (s' := (s : Int)) (a := x.1) (d := x.2.2.2.2) hx m) p
      have hM2 := MQu_47 (p := p) (x := (m : Int)) hMJ
      have hdep := (hM2.2.1 s x hget).2.2.2
      rw [Int.toNat_natCast, hdep, zml_eq (by omega), zad_eq (by omega), show (8 : Int) * (m : Int) + (p : Int) = ((8 * m + p : Nat) : Int) by omega]
      have hd31 : x.2.2.2.2 < 2147483647 := hdepth
      rw [zad_s hd31]
      refine m_meet (e := (x.1.set m p, (s : Int), m, p, x.2.2.2.2 + 1)) hk5 hw6 hM2 hbs hsw (fun J2 hJ2 hf2 => ?_)
      refine (sg_X6_findStates_305_32 _ _ _ _ _ _ _ _).mpr ?_
      refine zgd (by omega) ?_
      rw [Int.toNat_natCast, zad_s (by omega)]
      refine ih (p + 1) m _ Q (by omega) hm (by rw [qwp_s _ _ _ _ _ _ _ hmv]; exact MQu_47 hJ2) ⟨fun d h1 h2 h3 h4 h5 h6 h7 => ?_, fun j hj => ?_⟩ (fun q hq => ?_) nx
      · rw [zs2_ne _ _ _ _ h7, hf2.1 d h1 h2 h3 h4 h5 h6, zs2_ne _ _ _ _ h7]; exact hf.1 d h1 h2 h3 h4 h5 h6 h7
      · rw [zs2_ne _ _ _ _ (by decide), hf2.2 j hj, zs2_ne _ _ _ _ (by decide)]; exact hf.2 j hj
      · have e47 : J2 47 = zs2 J 47 p (m : Int) 47 := hf2.1 47 (by decide) (by decide) (by decide) (by decide) (by decide) (by decide)
        by_cases c : q = p
        · subst c
          rw [zs2_at, if_neg (by omega), rw7_no hpa]
        · rw [zs2_ne2 _ _ _ _ c, e47, zs2_ne2 _ _ _ _ c]; exact h47 q hq
  -- where a member stands
  have seek : ∀ (j i m : Nat) (J : Nat → Nat → Int) (Q : PV1 → Prop) (w5 : PV), m < k → i + j = x.1.getD m 0 → fm7 I J → (∀ q, q < w → J 47 q = rw7 x.1 q) →
      (Wp 142 (230, [zA 32, u1, zI (s : Int), zI (m : Int), zI ((x.1.getD m 0 : Nat) : Int), zI 0], [], zH S (zs2 J 47 (x.1.getD m 0) 6)) Q) → Wp 142 (201, [zA 32, u1, zI (s : Int), zI (m : Int), zI (i : Int), w5], [], zH S J) Q := by
    intro j
    induction j with
    | zero =>
      intro i m J Q w5 hm hi hf h47 nx
      have hg := barr_get hb hm
      have hi2 : i = x.1.getD m 0 := by omega
      subst hi2
      refine (sg_X6_findStates_201_32 _ _ _ _ _ _ _ _).mpr ?_
      refine zgd (by omega) ?_
      rw [Int.toNat_natCast, h47 _ (haw _ hg.1), rw7_at hb hm]
      exact zcd (fun _ => zgd (by omega) nx) (fun h => absurd rfl h)
    | succ j ih =>
      intro i m J Q w5 hm hi hf h47 nx
      have hg := barr_get hb hm
      have hgw := haw _ hg.1
      refine (sg_X6_findStates_201_32 _ _ _ _ _ _ _ _).mpr ?_
      refine zgd (by omega) ?_
      rw [Int.toNat_natCast, h47 i (by omega), zad_s (by omega)]
      refine zcd (fun h => ?_) (fun _ => ih (i + 1) m J Q w5 hm (by omega) hf h47 nx)
      obtain ⟨_, o, ho', e1, e2⟩ := rw7_lt (by omega) hb (p := i) (by omega)
      have : o = m := by omega
      subst this
      omega
  have outer : ∀ (j m : Nat) (J : Nat → Nat → Int) (v4 v5 : PV), j + m = k → MQu J w k (qwm (cmv w k B A) (s : Int) x.1 x.2.2.2.2 m L) → fm7 I J → (∀ q, q < w → J 47 q = rw7 x.1 q) → Wp 142 (190, [zA 32, u1, zI (s : Int), zI (m : Int), v4, v5], [], zH S J) Q := by
    intro j
    induction j with
    | zero =>
      intro m J v4 v5 hj hMJ hf h47
      obtain rfl : m = k := by omega
      refine (sg_X6_findStates_190_32 _ _ _ _ _ _ _ _).mpr ?_
      rw [hf.2 18 (by decide), ho, zad_s (by omega)]
      exact zcd (fun h => absurd h (by omega)) (fun _ => hQ J _ _ _ hMJ hf)
    | succ j ih =>
      intro m J v4 v5 hj hMJ hf h47
      have hm : m < k := by omega
      refine (sg_X6_findStates_190_32 _ _ _ _ _ _ _ _).mpr ?_
      rw [hf.2 18 (by decide), ho]
      refine zcd (fun _ => ?_) (fun h => absurd (by omega) h)
      refine seek (x.1.getD m 0) 0 m J Q _ hm (by omega) hf h47 ?_
      refine inner w 0 m _ Q (by omega) hm (MQu_47 hMJ) (fm7_47 hf) (fun q hq => ?_) (fun J' g1 g2 g3 a4 a5 => ih (m + 1) J' a4 a5 (by omega) g1 g2 g3)
      by_cases c : q = x.1.getD m 0
      · subst c; rw [zs2_at, if_pos rfl]
      · rw [zs2_ne2 _ _ _ _ c, if_neg c]; exact h47 q hq
  exact outer k 0 I _ _ (by omega) hM (fm7_refl I) hrow
