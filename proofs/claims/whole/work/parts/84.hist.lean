/-! what both keep of the acts, coupled -/
/-- what an act found: both rows, which was live, the melted rule (-1: none) and its mask -/
abbrev HE : Type := (Nat → Int) × (Nat → Int) × Int × Int × Int
def hq (n : Int) (i : Nat) : Nat := (n.toNat + 39 - i) % 20
theorem VT_fc {I : Nat → Nat → Int} {n : Int} {f f' : Nat → Int} (h : VT I n f) (e : ∀ p, p < 6 → f' p = f p) : VT I n f' := by
  obtain ⟨a1, a2, a3, a4, a5, a6⟩ := h
  refine ⟨a1, a2, fun p hp => by rw [e p hp]; exact a3 p hp, fun p h1 h2 => by rw [e p h2]; exact a4 p h1 h2, fun p q hp hq => by rw [e p hp, e q hq]; exact a5 p q hp hq, fun p hp a ha => by rw [e p hp, e a (by omega)]; exact a6 p hp a ha⟩
/-- a row is good where its rules are as they were -/
theorem VT_us {I J : Nat → Nat → Int} {n : Int} {f : Nat → Int} (h : VT I n f) (hU : Us I f) (e : ∀ r, r < 16 → I 2 r ≠ -1 → J 3 r = I 3 r ∧ J 4 r = I 4 r ∧ J 5 r = I 5 r) : VT J n f := by
  obtain ⟨a1, a2, a3, a4, a5, a6⟩ := h
  refine ⟨a1, a2, a3, a4, a5, fun p hp a ha hc => a6 p hp a ha ?_⟩
  obtain ⟨⟨n1, n2, ov⟩, ⟨n3, n4, hi⟩⟩ := hc
  have b1 := a3 p hp
  have b2 := a3 a (by omega)
  have c1 := e (f a).toNat (by omega) (hU a (by omega) (by omega))
  have c2 := e (f p).toNat (by omega) (hU p hp (by omega))
  refine ⟨⟨n1, n2, ?_⟩, ⟨n3, n4, ?_⟩⟩
  · rw [← c1.1, ← c2.1, ← c1.2.1, ← c2.2.1]; exact ov
  · rw [← c1.2.2, ← c2.2.2]; exact hi
theorem Us_us {I J : Nat → Nat → Int} {f : Nat → Int} (hr : ∀ p, p < 6 → -1 ≤ f p ∧ f p ≤ 15) (hU : Us I f) (e : ∀ r, r < 16 → I 2 r ≠ -1 → J 2 r = I 2 r) : Us J f := fun q hq hne => by
  have h1 := hU q hq hne
  have := hr q hq
  rw [e (f q).toNat (by omega) h1]; exact h1
theorem Us_fc {I : Nat → Nat → Int} {f f' : Nat → Int} (hU : Us I f) (e : ∀ p, p < 6 → f' p = f p) : Us I f' := fun q hq hne => by
  rw [e q hq] at hne ⊢; exact hU q hq hne
/-- the masks behind an undo -/
def HM (M : Nat → Int) (e : HE) : Nat → Int := if e.2.2.2.1 = -1 then M else fun j => if j = e.2.2.2.1.toNat then e.2.2.2.2 else M j
/-- the heap with other masks -/
def wM (I : Nat → Nat → Int) (M : Nat → Int) : Nat → Nat → Int := fun d => if d = 4 then M else I d
theorem wM_4 (I : Nat → Nat → Int) (M : Nat → Int) : wM I M 4 = M := rfl
theorem wM_ne (I : Nat → Nat → Int) (M : Nat → Int) {d : Nat} (h : d ≠ 4) : wM I M d = I d := if_neg h
theorem wM_self (I : Nat → Nat → Int) : wM I (I 4) = I := by
  funext d
  by_cases h : d = 4
  · subst h; rfl
  · rw [wM_ne _ _ h]
/-- what was kept is good, one behind the other -/
def HV (I : Nat → Nat → Int) (w : Nat) : (Nat → Int) → List HE → Prop
  | _, [] => True
  | M, e :: es => (VT (wM I (HM M e)) (w : Int) e.1 ∧ Us I e.1) ∧ (VT (wM I (HM M e)) (w : Int) e.2.1 ∧ Us I e.2.1) ∧ (e.2.2.1 = 0 ∨ e.2.2.1 = 1) ∧ (e.2.2.2.1 = -1 ∨ (xuse I e.2.2.2.1 ∧ 0 ≤ e.2.2.2.2 ∧ e.2.2.2.2 ≤ 31)) ∧ HV I w (HM M e) es
theorem HV_congr {I J : Nat → Nat → Int} {w : Nat} : ∀ (es : List HE) (M M' : Nat → Int), HV I w M es → (∀ r, r < 16 → I 2 r ≠ -1 → J 2 r = I 2 r ∧ J 3 r = I 3 r ∧ M' r = M r ∧ J 5 r = I 5 r) → HV J w M' es
  | [], _, _, _, _ => trivial
  | e :: es, M, M', h, g => by
    obtain ⟨⟨h1, h2⟩, ⟨h3, h4⟩, h5, h6, h7⟩ := h
    have gM : ∀ r, r < 16 → I 2 r ≠ -1 → HM M' e r = HM M e r := fun r hr hu => by
      unfold HM
      by_cases c : e.2.2.2.1 = -1
      · rw [if_pos c, if_pos c]; exact (g r hr hu).2.2.1
      · rw [if_neg c, if_neg c]
        by_cases c2 : r = e.2.2.2.1.toNat
        · rw [if_pos c2, if_pos c2]
        · rw [if_neg c2, if_neg c2]; exact (g r hr hu).2.2.1
    have gw : ∀ r, r < 16 → wM I (HM M e) 2 r ≠ -1 → wM J (HM M' e) 3 r = wM I (HM M e) 3 r ∧ wM J (HM M' e) 4 r = wM I (HM M e) 4 r ∧ wM J (HM M' e) 5 r = wM I (HM M e) 5 r := fun r hr hu => by
      rw [wM_ne _ _ (by decide)] at hu
      rw [wM_ne (d := 3) _ _ (by decide), wM_ne (d := 3) _ _ (by decide), wM_ne (d := 5) _ _ (by decide), wM_ne (d := 5) _ _ (by decide), wM_4, wM_4]
      exact ⟨(g r hr hu).2.1, gM r hr hu, (g r hr hu).2.2.2⟩
    have gu : ∀ f, Us I f → Us (wM I (HM M e)) f := fun f hU q hq hne => by rw [wM_ne _ _ (by decide)]; exact hU q hq hne
    refine ⟨⟨VT_us h1 (gu _ h2) gw, Us_us h1.2.2.1 h2 (fun r hr hu => (g r hr hu).1)⟩, ⟨VT_us h3 (gu _ h4) gw, Us_us h3.2.2.1 h4 (fun r hr hu => (g r hr hu).1)⟩, h5, ?_, HV_congr es (HM M e) (HM M' e) h7 (fun r hr hu => ⟨(g r hr hu).1, (g r hr hu).2.1, gM r hr hu, (g r hr hu).2.2.2⟩)⟩
    rcases h6 with h6 | ⟨h6, h8⟩
    · exact Or.inl h6
    · have a1 := h6.1
      have a2 := h6.2.1
      exact Or.inr ⟨⟨a1, a2, by rw [(g e.2.2.2.1.toNat (by omega) h6.2.2).1]; exact h6.2.2⟩, h8⟩
theorem HV_take {I : Nat → Nat → Int} {w : Nat} : ∀ (n : Nat) (es : List HE) (M : Nat → Int), HV I w M es → HV I w M (es.take n)
  | 0, _, _, _ => by rw [List.take_zero]; trivial
  | n + 1, [], _, _ => by rw [List.take_nil]; trivial
  | n + 1, e :: es, M, h => by
    rw [List.take_succ_cons]
    exact ⟨h.1, h.2.1, h.2.2.1, h.2.2.2.1, HV_take n es _ h.2.2.2.2⟩
/-- the ring of the class -/
def HRing (I : Nat → Nat → Int) (es : List HE) : Prop := (0 ≤ I 19 5 ∧ I 19 5 < 20) ∧ I 19 6 = (es.length : Int) ∧ es.length ≤ 20 ∧
  ∀ (i : Nat) (e : HE), es[i]? = some e → I 20 (hq (I 19 5) i) = xpk e.1 6 ∧ I 21 (hq (I 19 5) i) = xpk e.2.1 6 ∧ I 22 (hq (I 19 5) i) = e.2.2.1 ∧ I 23 (hq (I 19 5) i) = e.2.2.2.1 ∧ (e.2.2.2.1 ≠ -1 → I 24 (hq (I 19 5) i) = e.2.2.2.2)
/-- the blocks of the reference -/
def HMod (I : Nat → Nat → Int) (w : Nat) (es : List HE) : Prop := I 32 9 = (es.length : Int) ∧
  ∀ (i : Nat) (e : HE), es[i]? = some e → (∀ p, p < w → I 40 (16 * (es.length - 1 - i) + p) = if e.1 p = -1 then -2 else e.1 p) ∧ (∀ p, p < w → I 40 (16 * (es.length - 1 - i) + (6 + p)) = if e.2.1 p = -1 then -2 else e.2.1 p) ∧
    I 40 (16 * (es.length - 1 - i) + 12) = e.2.2.1 ∧ I 40 (16 * (es.length - 1 - i) + 13) = e.2.2.2.1 ∧ (e.2.2.2.1 ≠ -1 → I 40 (16 * (es.length - 1 - i) + 14) = e.2.2.2.2 ∧ I 40 (16 * (es.length - 1 - i) + 15) = zan (I 3 e.2.2.2.1.toNat) e.2.2.2.2)
def CplH (I : Nat → Nat → Int) (w : Nat) (M : Nat → Int) : Prop := ∃ es : List HE, HRing I es ∧ HMod I w es ∧ HV I w M es
/-- nothing kept -/
theorem CplH_nil {I : Nat → Nat → Int} {w : Nat} {M : Nat → Int} (h5 : 0 ≤ I 19 5 ∧ I 19 5 < 20) (h6 : I 19 6 = 0) (h9 : I 32 9 = 0) : CplH I w M :=
  ⟨[], ⟨h5, h6, by simp, fun i e he => by simp at he⟩, ⟨h9, fun i e he => by simp at he⟩, trivial⟩
/-- nothing of it has changed -/
theorem CplH_same {I J : Nat → Nat → Int} {w : Nat} {M M' : Nat → Int} (h : CplH I w M) (h19 : J 19 = I 19) (h20 : J 20 = I 20) (h21 : J 21 = I 21) (h22 : J 22 = I 22) (h23 : J 23 = I 23) (h24 : J 24 = I 24) (h40 : J 40 = I 40) (h9 : J 32 9 = I 32 9)
    (g : ∀ r, r < 16 → I 2 r ≠ -1 → J 2 r = I 2 r ∧ J 3 r = I 3 r ∧ M' r = M r ∧ J 5 r = I 5 r) : CplH J w M' := by
  obtain ⟨es, r1, m1, v1⟩ := h
  refine ⟨es, ?_, ?_, HV_congr es M M' v1 g⟩
  · unfold HRing at r1 ⊢
    rw [h19, h20, h21, h22, h23, h24]; exact r1
  · refine ⟨by rw [h9]; exact m1.1, fun i e he => ?_⟩
    obtain ⟨a1, a2, a3, a4, a5⟩ := m1.2 i e he
    rw [h40]
    refine ⟨a1, a2, a3, a4, fun hne => ⟨(a5 hne).1, ?_⟩⟩
    rw [(a5 hne).2]
    -- the value of a melted rule stays
    have use : ∀ (l : List HE) (M : Nat → Int) (i : Nat), HV I w M l → l[i]? = some e → e.2.2.2.1 = -1 ∨ xuse I e.2.2.2.1 := by
      intro l
      induction l with
      | nil => intro M i _ he; simp at he
      | cons a l ih =>
        intro M i hv he
        cases i with
        | zero =>
          simp at he; subst he
          exact hv.2.2.2.1.imp id (fun z => z.1)
        | succ i =>
          rw [List.getElem?_cons_succ] at he
          exact ih _ i hv.2.2.2.2 he
    rcases use es M i v1 he with c | c
    · exact absurd c hne
    · have c1 := c.1
      have c2 := c.2.1
      rw [(g e.2.2.2.1.toNat (by omega) c.2.2).2.1]
theorem hq_s {n : Int} (h : 0 ≤ n ∧ n < 20) {i : Nat} (hi : i < 20) : hq ((n + 1) % 20) (i + 1) = hq n i := by
  unfold hq
  by_cases c : n = 19
  · subst c
    have : ((19 + 1 : Int) % 20).toNat = 0 := by decide
    rw [this]; omega
  · rw [Int.emod_eq_of_lt (by omega) (by omega)]
    have : (n + 1).toNat = n.toNat + 1 := by omega
    rw [this]; omega
theorem hq_0 {n : Int} (h : 0 ≤ n ∧ n < 20) : hq ((n + 1) % 20) 0 = n.toNat := by
  unfold hq
  by_cases c : n = 19
  · subst c; decide
  · rw [Int.emod_eq_of_lt (by omega) (by omega)]
    have : (n + 1).toNat = n.toNat + 1 := by omega
    rw [this]; omega
theorem hq_ne {n : Int} (h : 0 ≤ n ∧ n < 20) {i : Nat} (hi : i < 19) : hq n i ≠ n.toNat := by
  unfold hq
  omega
theorem hq_lt (n : Int) (i : Nat) : hq n i < 20 := Nat.mod_lt _ (by decide)
theorem take_get {α : Type} {l : List α} {n i : Nat} {x : α} (h : (l.take n)[i]? = some x) : i < n ∧ l[i]? = some x := by
  rw [List.getElem?_take] at h
  split at h
  · exact ⟨by omega, h⟩
  · cases h
/-- one more is kept on both sides -/
theorem CplH_push {I J : Nat → Nat → Int} {w : Nat} {M M' : Nat → Int} {e : HE} {n : Nat} (h : CplH I w M) (hn : I 32 9 = (n : Int)) (hM : HM M' e = M) (hg : (VT (wM J M) (w : Int) e.1 ∧ Us J e.1) ∧ (VT (wM J M) (w : Int) e.2.1 ∧ Us J e.2.1) ∧ (e.2.2.1 = 0 ∨ e.2.2.1 = 1) ∧ (e.2.2.2.1 = -1 ∨ (xuse J e.2.2.2.1 ∧ 0 ≤ e.2.2.2.2 ∧ e.2.2.2.2 ≤ 31)))
    (g : ∀ r, r < 16 → I 2 r ≠ -1 → J 2 r = I 2 r ∧ J 3 r = I 3 r ∧ M r = M r ∧ J 5 r = I 5 r)
    (c19 : J 19 5 = (I 19 5 + 1) % 20) (c6 : J 19 6 = min (I 19 6 + 1) 20) (c20 : ∀ j, J 20 j = if j = (I 19 5).toNat then xpk e.1 6 else I 20 j) (c21 : ∀ j, J 21 j = if j = (I 19 5).toNat then xpk e.2.1 6 else I 21 j)
    (c22 : ∀ j, J 22 j = if j = (I 19 5).toNat then e.2.2.1 else I 22 j) (c23 : ∀ j, J 23 j = if j = (I 19 5).toNat then e.2.2.2.1 else I 23 j) (c24 : ∀ j, J 24 j = if j = (I 19 5).toNat then e.2.2.2.2 else I 24 j)
    (m9 : J 32 9 = ((min n 19 + 1 : Nat) : Int)) (mo : ∀ i, i < 16 * min n 19 → J 40 i = if n = 20 then I 40 (i + 16) else I 40 i) (mr1 : ∀ p, p < w → J 40 (16 * min n 19 + p) = if e.1 p = -1 then -2 else e.1 p) (mr2 : ∀ p, p < w → J 40 (16 * min n 19 + (6 + p)) = if e.2.1 p = -1 then -2 else e.2.1 p)
    (m12 : J 40 (16 * min n 19 + 12) = e.2.2.1) (m13 : J 40 (16 * min n 19 + 13) = e.2.2.2.1) (m14 : e.2.2.2.1 ≠ -1 → J 40 (16 * min n 19 + 14) = e.2.2.2.2 ∧ J 40 (16 * min n 19 + 15) = zan (J 3 e.2.2.2.1.toNat) e.2.2.2.2) (hw6 : w ≤ 6) : CplH J w M' := by
  obtain ⟨es, ⟨r5, r6, rl, rr⟩, ⟨s9, sr⟩, v1⟩ := h
  have hnl : n = es.length := by omega
  have hlen : ((e :: es).take 20).length = min n 19 + 1 := by rw [List.length_take, List.length_cons]; omega
  have v2 : HV J w M es := HV_congr es M M v1 g
  refine ⟨(e :: es).take 20, ⟨?_, ?_, ?_, fun i x hx => ?_⟩, ⟨?_, fun i x hx => ?_⟩, HV_take 20 _ _ ⟨?_, ?_, hg.2.2.1, hg.2.2.2, ?_⟩⟩
  · rw [c19]; omega
  · rw [c6, r6, hlen]; omega
  · rw [hlen]; omega
  · obtain ⟨h20, hx2⟩ := take_get hx
    rw [c19]
    cases i with
    | zero =>
      simp at hx2; subst hx2
      rw [hq_0 r5, c20, c21, c22, c23, c24, if_pos rfl, if_pos rfl, if_pos rfl, if_pos rfl, if_pos rfl]
      exact ⟨rfl, rfl, rfl, rfl, fun _ => rfl⟩
    | succ i =>
      rw [List.getElem?_cons_succ] at hx2
      have hne := hq_ne r5 (i := i) (by omega)
      rw [hq_s r5 (by omega), c20, c21, c22, c23, c24, if_neg hne, if_neg hne, if_neg hne, if_neg hne, if_neg hne]
      exact rr i x hx2
  · rw [m9, hlen]
  · obtain ⟨h20, hx2⟩ := take_get hx
    rw [hlen]
    cases i with
    | zero =>
      simp at hx2; subst hx2
      rw [show min n 19 + 1 - 1 - 0 = min n 19 by omega]
      exact ⟨mr1, mr2, m12, m13, m14⟩
    | succ i =>
      rw [List.getElem?_cons_succ] at hx2
      have hil : i < es.length := (List.getElem?_eq_some_iff.mp hx2).1
      obtain ⟨a1, a2, a3, a4, a5⟩ := sr i x hx2
      have hb : ∀ y, y < 16 → J 40 (16 * (min n 19 + 1 - 1 - (i + 1)) + y) = I 40 (16 * (es.length - 1 - i) + y) := fun y hy => by
        rw [mo _ (by omega)]
        by_cases c : n = 20
        · rw [if_pos c]
          congr 1; omega
        · rw [if_neg c]
          congr 1; omega
      have hu : x.2.2.2.1 ≠ -1 → J 3 x.2.2.2.1.toNat = I 3 x.2.2.2.1.toNat := fun hne => by
        have use : ∀ (l : List HE) (M : Nat → Int) (i : Nat), HV I w M l → l[i]? = some x → x.2.2.2.1 = -1 ∨ xuse I x.2.2.2.1 := by
          intro l
          induction l with
          | nil => intro M i _ he; simp at he
          | cons a l ih =>
            intro M i hv he
            cases i with
            | zero =>
              simp at he; subst he
              exact hv.2.2.2.1.imp id (fun z => z.1)
            | succ i =>
              rw [List.getElem?_cons_succ] at he
              exact ih _ i hv.2.2.2.2 he
        rcases use es M i v1 hx2 with c | c
        · exact absurd c hne
        · have c1 := c.1
          have c2 := c.2.1
          rw [(g x.2.2.2.1.toNat (by omega) c.2.2).2.1]
      refine ⟨fun p hp => by rw [hb p (by omega)]; exact a1 p hp, fun p hp => by rw [hb (6 + p) (by omega)]; exact a2 p hp, by rw [hb 12 (by decide)]; exact a3, by rw [hb 13 (by decide)]; exact a4, fun hne => ?_⟩
      rw [hb 14 (by decide), hb 15 (by decide), hu hne]
      exact a5 hne
  · rw [hM]; exact hg.1
  · rw [hM]; exact hg.2.1
  · rw [hM]; exact v2
/-- the digits of a packed row -/
theorem xdg_xpk {f : Nat → Int} (h : ∀ p, p < 6 → -1 ≤ f p ∧ f p ≤ 15) : ∀ p, p < 6 → xdg (xpk f 6) p = f p := by
  have h0 := h 0 (by decide)
  have h1 := h 1 (by decide)
  have h2 := h 2 (by decide)
  have h3 := h 3 (by decide)
  have h4 := h 4 (by decide)
  have h5 := h 5 (by decide)
  intro p hp
  rcases (show p = 0 ∨ p = 1 ∨ p = 2 ∨ p = 3 ∨ p = 4 ∨ p = 5 by omega) with rfl | rfl | rfl | rfl | rfl | rfl <;> simp only [xdg, xpk, Nat.sub_zero, Nat.reduceSub, Int.reducePow] <;> omega
