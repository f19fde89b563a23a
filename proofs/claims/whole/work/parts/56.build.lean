/-! build -/
theorem sort_list {R : Nat → Nat → Prop} : ∀ (l : List Nat), l.Nodup → (∀ x ∈ l, ∀ y ∈ l, x ≠ y → R x y ∨ R y x) → (∀ x ∈ l, ∀ y ∈ l, ∀ z ∈ l, R x y → R y z → R x z) → ∃ l' : List Nat, l'.length = l.length ∧ (∀ x, x ∈ l' ↔ x ∈ l) ∧ l'.Nodup ∧ l'.Pairwise R
  | [], _, _, _ => ⟨[], rfl, fun _ => Iff.rfl, List.nodup_nil, List.Pairwise.nil⟩
  | n :: t, hn, ht, htr => by
    have hn2 := List.nodup_cons.mp hn
    obtain ⟨l, h1, h2, h3, h4⟩ := sort_list t hn2.2 (fun x hx y hy => ht x (List.mem_cons_of_mem _ hx) y (List.mem_cons_of_mem _ hy)) (fun x hx y hy z hz => htr x (List.mem_cons_of_mem _ hx) y (List.mem_cons_of_mem _ hy) z (List.mem_cons_of_mem _ hz))
    obtain ⟨l1, l2, e, g1, g2⟩ := sorted_in (R := R) n l (fun x hx => ht x (List.mem_cons_of_mem _ ((h2 x).mp hx)) n List.mem_cons_self (fun e => hn2.1 (e ▸ (h2 x).mp hx))) (fun x hx y hy => htr n List.mem_cons_self x (List.mem_cons_of_mem _ ((h2 x).mp hx)) y (List.mem_cons_of_mem _ ((h2 y).mp hy))) h4
    subst e
    refine ⟨l1 ++ n :: l2, ?_, fun x => ?_, ?_, ?_⟩
    · simp only [List.length_append, List.length_cons] at h1 ⊢; omega
    · have := h2 x
      simp only [List.mem_append, List.mem_cons] at this ⊢
      constructor
      · rintro (w | w | w)
        · exact Or.inr (this.mp (Or.inl w))
        · exact Or.inl w
        · exact Or.inr (this.mp (Or.inr w))
      · rintro (w | w)
        · exact Or.inr (Or.inl w)
        · rcases this.mpr w with w | w
          · exact Or.inl w
          · exact Or.inr (Or.inr w)
    · rw [List.nodup_append] at h3 ⊢
      refine ⟨h3.1, List.nodup_cons.mpr ⟨fun w => hn2.1 ((h2 n).mp (List.mem_append_right _ w)), h3.2.1⟩, fun x hx y hy => ?_⟩
      rcases List.mem_cons.mp hy with rfl | hy
      · intro e; subst e; exact hn2.1 ((h2 _).mp (List.mem_append_left _ hx))
      · exact h3.2.2 x hx y hy
    · rw [List.pairwise_append] at h4 ⊢
      refine ⟨h4.1, List.pairwise_cons.mpr ⟨g2, h4.2.1⟩, fun x hx y hy => ?_⟩
      rcases List.mem_cons.mp hy with rfl | hy
      · exact g1 x hx
      · exact h4.2.2 x hx y hy
/-- the rules of a row, the highest first -/
def srt (I : Nat → Nat → Int) (f : Nat → Int) (rs : List Nat) : Prop := rs.length = (mem f 16).length ∧ (∀ x, x ∈ rs ↔ x ∈ mem f 16) ∧ rs.Nodup ∧ rs.Pairwise (fun (x y : Nat) => xhi I (x : Int) (y : Int))
theorem srt_ex (I : Nat → Nat → Int) (f : Nat → Int) : ∃ rs, srt I f rs := by
  refine sort_list (R := fun (x y : Nat) => xhi I (x : Int) (y : Int)) (mem f 16) (mem_nodup f) (fun x hx y hy hxy => ?_) (fun x _ y _ z _ h1 h2 => ⟨h1.1, h2.2.1, by have := h1.2.2; have := h2.2.2; omega⟩)
  have h1 := (mem_mem.mp hx).1
  have h2 := (mem_mem.mp hy).1
  by_cases c : xhi I (x : Int) (y : Int)
  · exact Or.inl c
  · exact Or.inr ((xhi_tot ⟨by omega, by omega⟩ ⟨by omega, by omega⟩ (by omega)).mpr c)
theorem mem_iff {I : Nat → Nat → Int} {n : Int} {f : Nat → Int} (hV : VT I n f) {x : Nat} : x ∈ mem f 16 ↔ ∃ q, q < 6 ∧ f q = (x : Int) := by
  rw [mem_mem]
  constructor
  · rintro ⟨h1, h2⟩
    obtain ⟨q, q1, q2, q3, _⟩ := xplc_in h2
    exact ⟨q, q1, q3⟩
  · rintro ⟨q, q1, q2⟩
    have h1 := hV.2.2.1 q q1
    refine ⟨by omega, ?_⟩
    rw [← q2, xplc_at q1 hV.2.2.2.2.1 (by omega)]
    omega
theorem xhb_spec {I : Nat → Nat → Int} {c : Nat} {l : Int} (hr : ∀ p, p < 6 → -1 ≤ I c p ∧ I c p ≤ 15) : ∀ n, n ≤ 6 → (xhb I c l n = -1 ∧ ∀ q, q < n → ¬ (I c q ≠ -1 ∧ (l = -1 ∨ xhi I l (I c q)))) ∨
    ∃ q, q < n ∧ I c q = xhb I c l n ∧ (I c q ≠ -1 ∧ (l = -1 ∨ xhi I l (I c q))) ∧ ∀ q', q' < n → (I c q' ≠ -1 ∧ (l = -1 ∨ xhi I l (I c q'))) → I c q' = xhb I c l n ∨ xhi I (xhb I c l n) (I c q')
  | 0, _ => Or.inl ⟨rfl, fun q hq => absurd hq (by omega)⟩
  | n + 1, hn => by
    have ih := xhb_spec (l := l) hr n (by omega)
    have hv := hr n (by omega)
    rw [xhb_s]
    rcases ih with ⟨i1, i2⟩ | ⟨q, i1, i2, i3, i4⟩
    · by_cases w : I c n ≠ -1 ∧ (l = -1 ∨ xhi I l (I c n))
      · rw [if_pos ⟨w.1, w.2, Or.inl i1⟩]
        refine Or.inr ⟨n, by omega, rfl, w, fun q' h1 h2 => ?_⟩
        by_cases e : q' = n
        · subst e; exact Or.inl rfl
        · exact absurd h2 (i2 q' (by omega))
      · rw [if_neg (fun z => w ⟨z.1, z.2.1⟩)]
        refine Or.inl ⟨i1, fun q hq => ?_⟩
        by_cases e : q = n
        · subst e; exact w
        · exact i2 q (by omega)
    · by_cases w : I c n ≠ -1 ∧ (l = -1 ∨ xhi I l (I c n))
      · by_cases w2 : xhi I (I c n) (xhb I c l n)
        · rw [if_pos ⟨w.1, w.2, Or.inr w2⟩]
          refine Or.inr ⟨n, by omega, rfl, w, fun q' h1 h2 => ?_⟩
          by_cases e : q' = n
          · subst e; exact Or.inl rfl
          · rcases i4 q' (by omega) h2 with z | z
            · rw [z]; exact Or.inr w2
            · exact Or.inr ⟨w2.1, z.2.1, by have := w2.2.2; have := z.2.2; omega⟩
        · have hne : xhb I c l n ≠ -1 := by rw [← i2]; exact i3.1
          rw [if_neg (fun z => z.2.2.elim hne w2)]
          refine Or.inr ⟨q, by omega, i2, i3, fun q' h1 h2 => ?_⟩
          by_cases e : q' = n
          · subst e
            by_cases z : I c q' = xhb I c l q'
            · exact Or.inl z
            · have hq := hr q (by omega)
              rw [i2] at hq
              exact Or.inr ((xhi_tot ⟨by omega, by omega⟩ ⟨by omega, by omega⟩ (fun e => z e.symm)).mpr w2)
          · exact i4 q' (by omega) h2
      · rw [if_neg (fun z => w ⟨z.1, z.2.1⟩)]
        refine Or.inr ⟨q, by omega, i2, i3, fun q' h1 h2 => ?_⟩
        by_cases e : q' = n
        · subst e; exact absurd h2 w
        · exact i4 q' (by omega) h2
def headOf : List Nat → Int
  | [] => -1
  | r :: _ => (r : Int)
def lastOf : List Nat → Int
  | [] => -1
  | [x] => (x : Int)
  | _ :: y :: t => lastOf (y :: t)
theorem lastOf_snoc (l : List Nat) (x : Nat) : lastOf (l ++ [x]) = (x : Int) := by
  induction l with
  | nil => rfl
  | cons a t ih =>
    cases t with
    | nil => rfl
    | cons b t => exact ih
/-- the next rule of a row -/
theorem xhb_next {I : Nat → Nat → Int} {n : Int} {c : Nat} {pre post : List Nat} (hV : VT I n (I c)) (hs : srt I (I c) (pre ++ post)) : xhb I c (lastOf pre) 6 = headOf post := by
  obtain ⟨s1, s2, s3, s4⟩ := hs
  have s5 := List.pairwise_append.mp s4
  -- the last of those before
  have hl : pre = [] ∨ ∃ p x, pre = p ++ [x] := by
    rcases List.eq_nil_or_concat pre with h | ⟨p, x, h⟩
    · exact Or.inl h
    · exact Or.inr ⟨p, x, by rw [h, List.concat_eq_append]⟩
  have before : ∀ x ∈ pre, (x : Int) = lastOf pre ∨ xhi I (x : Int) (lastOf pre) := fun x hx => by
    rcases hl with h | ⟨p, y, h⟩
    · rw [h] at hx; simp at hx
    · subst h
      rw [lastOf_snoc]
      rcases List.mem_append.mp hx with w | w
      · exact Or.inr ((List.pairwise_append.mp s5.1).2.2 x w y (List.mem_singleton.mpr rfl))
      · rw [List.mem_singleton.mp w]; exact Or.inl rfl
  have notl : ∀ x ∈ pre, ¬ (lastOf pre = -1 ∨ xhi I (lastOf pre) (x : Int)) := fun x hx w => by
    rcases w with w | w
    · rcases hl with h | ⟨p, y, h⟩
      · rw [h] at hx; simp at hx
      · rw [h, lastOf_snoc] at w; omega
    · rcases before x hx with z | z
      · rw [z] at w; have := w.2.2; omega
      · have := w.2.2; have := z.2.2; omega
  have sp := xhb_spec (I := I) (c := c) (l := lastOf pre) hV.2.2.1 6 (Nat.le_refl 6)
  cases post with
  | nil =>
    rcases sp with ⟨h, _⟩ | ⟨q, q1, q2, q3, _⟩
    · exact h
    · exfalso
      have hr := hV.2.2.1 q q1
      obtain ⟨x, hx⟩ : ∃ x : Nat, I c q = (x : Int) := ⟨(I c q).toNat, by have := q3.1; omega⟩
      have hm := (s2 x).mpr ((mem_iff hV).mpr ⟨q, q1, hx⟩)
      rw [List.append_nil] at hm
      rw [hx] at q3
      exact notl x hm q3.2
  | cons r t =>
    obtain ⟨q0, z1, z2⟩ := (mem_iff hV).mp ((s2 r).mp (List.mem_append_right _ List.mem_cons_self))
    have hPr : I c q0 ≠ -1 ∧ (lastOf pre = -1 ∨ xhi I (lastOf pre) (I c q0)) := by
      refine ⟨by omega, ?_⟩
      rcases hl with h | ⟨p, y, h⟩
      · rw [h]; exact Or.inl rfl
      · subst h
        rw [lastOf_snoc, z2]
        exact Or.inr (s5.2.2 y (List.mem_append_right _ (List.mem_singleton.mpr rfl)) r List.mem_cons_self)
    rcases sp with ⟨_, h⟩ | ⟨q, q1, q2, q3, q4⟩
    · exact absurd hPr (h q0 z1)
    · show xhb I c (lastOf pre) 6 = (r : Int)
      rcases q4 q0 z1 hPr with w | w
      · rw [← w, z2]
      · exfalso
        have hr := hV.2.2.1 q q1
        obtain ⟨x, hx⟩ : ∃ x : Nat, I c q = (x : Int) := ⟨(I c q).toNat, by have := q3.1; omega⟩
        have hm := (s2 x).mpr ((mem_iff hV).mpr ⟨q, q1, hx⟩)
        rw [← q2, hx, z2] at w
        rw [hx] at q3
        rcases List.mem_append.mp hm with u | u
        · exact notl x u q3.2
        · rcases List.mem_cons.mp u with u | u
          · subst u; have := w.2.2; omega
          · have h2 := (List.pairwise_cons.mp s5.2.1).1 x u
            have := w.2.2; have := h2.2.2; omega
theorem RF_mem {I : Nat → Nat → Int} {n : Int} {f f1 : Nat → Int} {b : List Nat} {r p k : Nat} (hV : VT I n f1) (hk : (mem f 16).length = k) (hb : barr k b) (hp : p < 6) (h : RF f1 (mem f 16) b (r : Int) p k) (x : Nat) : x ∈ mem f1 16 ↔ x ∈ mem f 16 ∨ x = r := by
  obtain ⟨f1', f2, f3⟩ := h
  rw [mem_iff hV]
  constructor
  · rintro ⟨q, q1, q2⟩
    by_cases c : q ∈ b
    · obtain ⟨o, ho, e⟩ := (barr_ex hb).mp c
      have := f1' o ho
      rw [e, q2, gD, getD_el (by omega)] at this
      left
      have e2 : x = (mem f 16)[o]'(by omega) := by omega
      rw [e2]; exact List.getElem_mem _
    · by_cases c2 : q = p
      · subst c2; right; omega
      · have := f3 q q1 c c2; omega
  · rintro (w | rfl)
    · obtain ⟨o, ho, e⟩ := List.getElem_of_mem w
      have ho' : o < k := by omega
      refine ⟨b.getD o 0, (barr_get hb ho').2, ?_⟩
      rw [f1' o ho', gD, getD_el ho, e]
    · exact ⟨p, hp, f2⟩
theorem mem_nil {f : Nat → Int} (h : xst f = 0) : mem f 16 = [] ∧ ∀ p, p < 6 → f p = -1 := by
  have hf : ∀ p, p < 6 → f p = -1 := fun p hp => by
    by_cases c : f p = -1
    · exact c
    · exfalso
      have h2 := (zcnt_upd (P := fun p => f p ≠ -1) (P' := fun p' => f p' ≠ -1 ∧ p' ≠ p) (u := p) c (fun r => Iff.rfl) 6).2 hp
      unfold xst at h
      omega
  refine ⟨?_, hf⟩
  apply List.eq_nil_iff_forall_not_mem.mpr
  intro x hx
  obtain ⟨q, q1, q2, q3, q4⟩ := xplc_in (mem_mem.mp hx).2
  rw [hf q q1] at q3
  omega
theorem cmvI_congr {I J : Nat → Nat → Int} (h3 : J 3 = I 3) (h4 : J 4 = I 4) (h5 : J 5 = I 5) (n : Int) (f : Nat → Int) (r : Int) (k : Nat) : cmvI J n f r k = cmvI I n f r k := by
  have e1 : cB J f r k = cB I f r k := by funext m o; simp only [cB, xov, xhi, h3, h4, h5]
  have e2 : cA J f r k = cA I f r k := by funext m o; simp only [cA, xov, xhi, h3, h4, h5]
  rw [cmvI, cmvI, e1, e2]
/-- the other row built, rule by rule: how it stands behind, and the writes -/
def bldR (I : Nat → Nat → Int) (N : Nat) : List Nat → (Nat → Int) → (Nat → Int) → Nat → Prop
  | [], f, f', W => f' = f ∧ W = 0
  | r :: rs, f, f', W => ∃ (k g D p : Nat) (eg : QE) (f1 : Nat → Int) (W1 : Nat), (mem f 16).length = k ∧ k < N ∧ (∀ q, q < 6 → f q ≠ (r : Int)) ∧ VT I (N : Int) f ∧ xgoal (cmvI I (N : Int) f (r : Int) k) k (cQu I (N : Int) f (r : Int) k 720) g D p eg ∧ D ≤ 15 ∧ RF f1 (mem f 16) eg.1 (r : Int) p k ∧ bldR I N rs f1 f' W1 ∧ W = D + 1 + W1
set_option maxRecDepth 100000 in
theorem c_build_7 {S : PS} {I : Nat → Nat → Int} {Q : PV1 → Prop} {t : Int} {w2 w3 w4 w5 w6 : PV} (ht : t = 0) (h5 : 0 ≤ I 19 5 ∧ I 19 5 < 20) (h6 : 0 ≤ I 19 6 ∧ I 19 6 ≤ 20) (hV : VT I (I 7 2) (I 8)) (hVo : VT I (I 9 2) (I 10)) (hTO : I 9 2 = I 7 2)
    (hQ1 : 0 < xst (I 10) → Q (some (zI (-2)), zH S I))
    (hQ2 : xst (I 10) = 0 → ∀ (N : Nat) (rs : List Nat) (f' : Nat → Int) (W : Nat) (I' : Nat → Nat → Int), I 7 2 = (N : Int) → srt I (I 8) rs → bldR I N rs (I 10) f' W → I' 10 = f' → VT I (N : Int) f' → (∀ x, x ∈ mem f' 16 ↔ x ∈ rs) → (∀ d, 19 ≤ d → d ≤ 24 → I' d = xrem I d) → I' 25 2 = 0 → (∀ d, d < 11 ∨ 30 < d → d ≠ 10 → I' d = I d) → Q (some (zI (W : Int)), zH S I')) : Wp 100 (0, [zA 0, zI t, w2, w3, w4, w5, w6], [], zH S I) Q := by
  subst ht
  refine (sg_X5_build_0_0 _ _ _ _ _ _ _ _ _).mpr ?_
  refine c_tab7 rfl ?_
  refine (sg_X5_build_5_0_7 _ _ _ _ _ _ _ _ _).mpr ?_
  rw [show zsb 1 0 = 1 - 0 by decide]
  refine c_tab9 (by decide) ?_
  refine (sg_X5_build_13_0_7_9 _ _ _ _ _ _ _ _).mpr ?_
  refine c_standing_9 ?_
  refine (sg_X5_build_28_0_7_9 _ _ _ _ _ _ _ _).mpr ?_
  refine zcd (fun h => hQ1 (by omega)) (fun h0 => ?_)
  have hx0 : xst (I 10) = 0 := by omega
  refine c_remember h5 h6 hV.2.2.1 hVo.2.2.1 ?_
  refine (sg_X5_build_38_0_7_9 _ _ _ _ _ _ _).mpr ?_
  generalize hI1 : xrem I = I1
  have r1 : ∀ d, d < 19 ∨ 24 < d → I1 d = I d := fun d hd => by rw [← hI1]; exact xrem_ne hd
  obtain ⟨N, hN⟩ : ∃ N : Nat, I 7 2 = (N : Int) := ⟨(I 7 2).toNat, by have := hV.1; omega⟩
  obtain ⟨rs, hrs⟩ := srt_ex I (I 8)
  have hrsN : rs.length ≤ N := by
    rw [hrs.1]
    have hb := ca0_barr (f := I 8) rfl
    have := len_sub (ca0 (I 8)) (List.range N) hb.2.1 (fun x hx => by
      obtain ⟨o, ho, e⟩ := (barr_ex hb).mp hx
      obtain ⟨r', q, _, _, g4, _, g6, g7⟩ := mem_i rfl ho
      rw [g7] at e
      subst e
      rw [List.mem_range]
      by_cases w : q < N
      · exact w
      · have := hV.2.2.2.1 q (by omega) g4
        rw [this] at g6; omega)
    rw [List.length_range, hb.1] at this
    exact this
  have hN6 : N ≤ 6 := by have := hV.2.1; omega
  have next : ∀ (J : Nat → Nat → Int) (pre post : List Nat), J 3 = I 3 → J 5 = I 5 → J 8 = I 8 → rs = pre ++ post → xhb J 8 (lastOf pre) 6 = headOf post := fun J pre post j3 j5 j8 e => by
    have := xhb_next (pre := pre) (post := post) hV (by rw [← e]; exact hrs)
    rw [← this]
    unfold xhb xhi
    rw [j8, j5]
  have i3 : I1 3 = I 3 := r1 3 (by decide)
  have i4 : I1 4 = I 4 := r1 4 (by decide)
  have i5 : I1 5 = I 5 := r1 5 (by decide)
  refine c_highestBelow_7 ?_
  refine (sg_X5_build_46_0_7_9 _ _ _ _ _ _ _ _).mpr ?_
  rw [show xhb I1 8 (-1) 6 = _ from next I1 [] rs i3 i5 (r1 8 (by decide)) rfl]
  -- the rounds
  have loop : ∀ (post pre : List Nat) (J : Nat → Nat → Int) (W : Nat), rs = pre ++ post → VT I (N : Int) (J 10) → (∀ x, x ∈ mem (J 10) 16 ↔ x ∈ pre) → (∀ d, d < 11 ∨ (18 < d ∧ d < 28) ∨ 30 < d → d ≠ 10 → J d = I1 d) → W ≤ 16 * pre.length →
      (∀ (f' : Nat → Int) (W1 : Nat) (I' : Nat → Nat → Int), bldR I N post (J 10) f' W1 → I' 10 = f' → VT I (N : Int) f' → (∀ x, x ∈ mem f' 16 ↔ x ∈ rs) → (∀ d, d < 11 ∨ (18 < d ∧ d < 25) ∨ 30 < d → d ≠ 10 → I' d = I1 d) → I' 25 2 = 0 → Q (some (zI ((W + W1 : Nat) : Int)), zH S I')) →
      ∀ w1 : PV, Wp 100 (51, [zA 0, w1, zA 7, zA 9, zI (W : Int), zI (headOf post), zI (pre.length : Int)], [], zH S J) Q := by
    intro post
    induction post with
    | nil =>
      intro pre J W hrs2 hVJ hmem hfr hW hq w1
      have fin : Wp 13 (0, [zA 25], [], zH S J) (fun w => Wp 100 (119, [zA 0, w1, zA 7, zA 9, zI (W : Int), zI (-1), zI (pre.length : Int)], w.1.toList ++ [], w.2) Q) := by
        refine c_pforget_25 ?_
        refine (sg_X5_build_119 _ _ _ _ _ _ _ _ _ _).mpr ?_
        have := hq (J 10) 0 (zs2 J 25 2 0) ⟨rfl, rfl⟩ (by rw [zs2_ne _ _ _ _ (by decide)]) hVJ (fun x => by rw [hmem x, hrs2, List.append_nil]) (fun d hd hd2 => by rw [zs2_ne _ _ _ _ (by omega)]; exact hfr d (by omega) hd2) (by rw [zs2_at])
        exact this
      refine (sg_X5_build_51_0_7_9 _ _ _ _ _ _ _).mpr ?_
      exact zcd (fun _ => zcd (fun _ => fin) (fun h => absurd rfl h)) (fun _ => fin)
    | cons r post ih =>
      intro pre J W hrs2 hVJ hmem hfr hW hq w1
      rw [show headOf (r :: post) = (r : Int) from rfl]
      have hlen : pre.length + (post.length + 1) ≤ N := by
        rw [hrs2, List.length_append, List.length_cons] at hrsN; exact hrsN
      have hrm : r ∈ mem (I 8) 16 := (hrs.2.1 r).mp (by rw [hrs2]; exact List.mem_append_right _ List.mem_cons_self)
      have hr16 : r < 16 := (mem_mem.mp hrm).1
      have hrp : r ∉ pre := fun w => by
        have := hrs.2.2.1
        rw [hrs2, List.nodup_append] at this
        exact this.2.2 r w r List.mem_cons_self rfl
      have hn : ∀ q, q < 6 → J 10 q ≠ (r : Int) := fun q hq e => hrp ((hmem r).mp ((mem_iff hVJ).mpr ⟨q, hq, e⟩))
      have hk : (mem (J 10) 16).length < N := by
        have := len_sub (mem (J 10) 16) pre (mem_nodup _) (fun x hx => (hmem x).mp hx)
        omega
      have hr : num (r : Int) := ⟨by omega, by omega⟩
      have j3 : J 3 = I 3 := by rw [hfr 3 (by decide) (by decide)]; exact i3
      have j4 : J 4 = I 4 := by rw [hfr 4 (by decide) (by decide)]; exact i4
      have j5 : J 5 = I 5 := by rw [hfr 5 (by decide) (by decide)]; exact i5
      have jO : J 9 2 = (N : Int) := by rw [hfr 9 (by decide) (by decide), r1 9 (by decide), hTO]; exact hN
      obtain ⟨g, D, p, eg, hG, hD⟩ := goal_ex hVJ rfl (by omega) hr hn
      have hmvJ : ∀ k, cmvI J (N : Int) (J 10) (r : Int) k = cmvI I (N : Int) (J 10) (r : Int) k := fun k => cmvI_congr j3 j4 j5 _ _ _ k
      have hquJ : ∀ k M, cQu J (N : Int) (J 10) (r : Int) k M = cQu I (N : Int) (J 10) (r : Int) k M := fun k M => by unfold cQu; rw [hmvJ]
      refine (sg_X5_build_51_0_7_9 _ _ _ _ _ _ _).mpr ?_
      refine zcd (fun _ => zcd (fun h => absurd h (by omega)) (fun _ => ?_)) (fun h => absurd (by omega) h)
      refine c_find_9_28 (I := J) (k := (mem (J 10) 16).length) (g := g) (D := D) (p := p) (eg := eg) rfl (by omega) (by rw [jO]; omega) (by rw [jO, hmvJ, hquJ]; exact hG) hD (fun I2 b1 b2 b3 b4 b5 => ?_)
      rw [jO, hquJ] at b2
      refine (sg_X5_build_78_0_7_9 _ _ _ _ _ _ _).mpr ?_
      refine c_carryOut_9_28 (by rw [b1]; omega) ?_
      refine (sg_X5_build_86_0_7_9 _ _ _ _ _ _ _).mpr ?_
      refine c_length_28 ?_
      refine (sg_X5_build_95_0_7_9 _ _ _ _ _ _ _ _ _).mpr ?_
      have lenD : (I2 28 2).toNat = D + 1 := by rw [b1]; omega
      rw [lenD, xcarry_ne (by decide), b1, zad_eq (by omega)]
      have k2 : ∀ d, d < 11 ∨ 18 < d → d ≠ 28 → d ≠ 29 → d ≠ 30 → I2 d = J d := b5
      obtain ⟨c1, c2, c3⟩ := put_row (J := I2) (t := 9) (c := 10) (pt := 28) (by decide) hVJ rfl hr hn hG (by rw [k2 9 (by decide) (by decide) (by decide) (by decide)]; exact jO) (k2 10 (by decide) (by decide) (by decide) (by decide)) b2 b3 b4
      generalize hJ2 : xcarry I2 9 10 28 (D + 1) = J2 at c3 ⊢
      have m2 : ∀ d, d < 11 ∨ (18 < d ∧ d < 28) ∨ 30 < d → d ≠ 10 → J2 d = I1 d := fun d hd hd2 => by
        rw [← hJ2, xcarry_ne hd2, k2 d (by omega) (by omega) (by omega) (by omega)]
        exact hfr d hd hd2
      have hV2 : VT I (N : Int) (J2 10) := VT_put hVJ rfl ⟨by omega, by omega⟩ hn c1 c2 c3
      have hp6 : p < 6 := by have := c2.1; omega
      have hmem2 := RF_mem hV2 rfl c1.1 hp6 c3
      refine c_highestBelow_7 ?_
      refine (sg_X5_build_104_0_7_9 _ _ _ _ _ _ _ _).mpr ?_
      have nx := next J2 (pre ++ [r]) post (by rw [m2 3 (by decide) (by decide)]; exact i3) (by rw [m2 5 (by decide) (by decide)]; exact i5) (by rw [m2 8 (by decide) (by decide)]; exact r1 8 (by decide)) (by rw [hrs2, List.append_assoc]; rfl)
      rw [lastOf_snoc] at nx
      rw [nx, zad_s (by omega), show (W : Int) + ((D + 1 : Nat) : Int) = ((W + (D + 1) : Nat) : Int) by omega]
      have ih2 := ih (pre ++ [r]) J2 (W + (D + 1)) (by rw [hrs2, List.append_assoc]; rfl) hV2 (fun x => by rw [hmem2 x, hmem x]; simp) m2 (by rw [List.length_append, List.length_singleton]; omega) (fun f' W1 I' q1 q2 q3 q4 q5 q6 => by
        have := hq f' (D + 1 + W1) I' ⟨_, g, D, p, eg, J2 10, W1, rfl, hk, hn, hVJ, hG, hD, c3, q1, rfl⟩ q2 q3 q4 q5 q6
        rw [Nat.add_assoc]; exact this) w1
      rw [List.length_append, List.length_singleton] at ih2
      exact ih2
  have hme := mem_nil hx0
  have iO : I1 10 = I 10 := r1 10 (by decide)
  refine loop rs [] I1 0 rfl (by rw [iO]; have := hVo; rw [hTO, hN] at this; exact this) (fun x => by rw [iO, hme.1]) (fun _ _ _ => rfl) (by simp) (fun f' W1 I' q1 q2 q3 q4 q5 q6 => ?_) _
  rw [iO] at q1
  have := hQ2 hx0 N rs f' W1 I' hN hrs q1 q2 q3 q4 (fun d d1 d2 => by rw [q5 d (by omega) (by omega), ← hI1]) q6 (fun d d1 d2 => by rw [q5 d (by omega) d2]; exact r1 d (by omega))
  rw [Nat.zero_add]; exact this
set_option maxRecDepth 100000 in
theorem c_build_9 {S : PS} {I : Nat → Nat → Int} {Q : PV1 → Prop} {t : Int} {w2 w3 w4 w5 w6 : PV} (ht : t = 1) (h5 : 0 ≤ I 19 5 ∧ I 19 5 < 20) (h6 : 0 ≤ I 19 6 ∧ I 19 6 ≤ 20) (hV : VT I (I 9 2) (I 10)) (hVo : VT I (I 7 2) (I 8)) (hTO : I 7 2 = I 9 2)
    (hQ1 : 0 < xst (I 8) → Q (some (zI (-2)), zH S I))
    (hQ2 : xst (I 8) = 0 → ∀ (N : Nat) (rs : List Nat) (f' : Nat → Int) (W : Nat) (I' : Nat → Nat → Int), I 9 2 = (N : Int) → srt I (I 10) rs → bldR I N rs (I 8) f' W → I' 8 = f' → VT I (N : Int) f' → (∀ x, x ∈ mem f' 16 ↔ x ∈ rs) → (∀ d, 19 ≤ d → d ≤ 24 → I' d = xrem I d) → I' 25 2 = 0 → (∀ d, d < 11 ∨ 30 < d → d ≠ 8 → I' d = I d) → Q (some (zI (W : Int)), zH S I')) : Wp 100 (0, [zA 0, zI t, w2, w3, w4, w5, w6], [], zH S I) Q := by
  subst ht
  refine (sg_X5_build_0_0 _ _ _ _ _ _ _ _ _).mpr ?_
  refine c_tab9 rfl ?_
  refine (sg_X5_build_5_0_9 _ _ _ _ _ _ _ _ _).mpr ?_
  rw [show zsb 1 1 = 1 - 1 by decide]
  refine c_tab7 (by decide) ?_
  refine (sg_X5_build_13_0_9_7 _ _ _ _ _ _ _ _).mpr ?_
  refine c_standing_7 ?_
  refine (sg_X5_build_28_0_9_7 _ _ _ _ _ _ _ _).mpr ?_
  refine zcd (fun h => hQ1 (by omega)) (fun h0 => ?_)
  have hx0 : xst (I 8) = 0 := by omega
  refine c_remember h5 h6 hVo.2.2.1 hV.2.2.1 ?_
  refine (sg_X5_build_38_0_9_7 _ _ _ _ _ _ _).mpr ?_
  generalize hI1 : xrem I = I1
  have r1 : ∀ d, d < 19 ∨ 24 < d → I1 d = I d := fun d hd => by rw [← hI1]; exact xrem_ne hd
  obtain ⟨N, hN⟩ : ∃ N : Nat, I 9 2 = (N : Int) := ⟨(I 9 2).toNat, by have := hV.1; omega⟩
  obtain ⟨rs, hrs⟩ := srt_ex I (I 10)
  have hrsN : rs.length ≤ N := by
    rw [hrs.1]
    have hb := ca0_barr (f := I 10) rfl
    have := len_sub (ca0 (I 10)) (List.range N) hb.2.1 (fun x hx => by
      obtain ⟨o, ho, e⟩ := (barr_ex hb).mp hx
      obtain ⟨r', q, _, _, g4, _, g6, g7⟩ := mem_i rfl ho
      rw [g7] at e
      subst e
      rw [List.mem_range]
      by_cases w : q < N
      · exact w
      · have := hV.2.2.2.1 q (by omega) g4
        rw [this] at g6; omega)
    rw [List.length_range, hb.1] at this
    exact this
  have hN6 : N ≤ 6 := by have := hV.2.1; omega
  have next : ∀ (J : Nat → Nat → Int) (pre post : List Nat), J 3 = I 3 → J 5 = I 5 → J 10 = I 10 → rs = pre ++ post → xhb J 10 (lastOf pre) 6 = headOf post := fun J pre post j3 j5 j8 e => by
    have := xhb_next (pre := pre) (post := post) hV (by rw [← e]; exact hrs)
    rw [← this]
    unfold xhb xhi
    rw [j8, j5]
  have i3 : I1 3 = I 3 := r1 3 (by decide)
  have i4 : I1 4 = I 4 := r1 4 (by decide)
  have i5 : I1 5 = I 5 := r1 5 (by decide)
  refine c_highestBelow_9 ?_
  refine (sg_X5_build_46_0_9_7 _ _ _ _ _ _ _ _).mpr ?_
  rw [show xhb I1 10 (-1) 6 = _ from next I1 [] rs i3 i5 (r1 10 (by decide)) rfl]
  -- the rounds
  have loop : ∀ (post pre : List Nat) (J : Nat → Nat → Int) (W : Nat), rs = pre ++ post → VT I (N : Int) (J 8) → (∀ x, x ∈ mem (J 8) 16 ↔ x ∈ pre) → (∀ d, d < 11 ∨ (18 < d ∧ d < 28) ∨ 30 < d → d ≠ 8 → J d = I1 d) → W ≤ 16 * pre.length →
      (∀ (f' : Nat → Int) (W1 : Nat) (I' : Nat → Nat → Int), bldR I N post (J 8) f' W1 → I' 8 = f' → VT I (N : Int) f' → (∀ x, x ∈ mem f' 16 ↔ x ∈ rs) → (∀ d, d < 11 ∨ (18 < d ∧ d < 25) ∨ 30 < d → d ≠ 8 → I' d = I1 d) → I' 25 2 = 0 → Q (some (zI ((W + W1 : Nat) : Int)), zH S I')) →
      ∀ w1 : PV, Wp 100 (51, [zA 0, w1, zA 9, zA 7, zI (W : Int), zI (headOf post), zI (pre.length : Int)], [], zH S J) Q := by
    intro post
    induction post with
    | nil =>
      intro pre J W hrs2 hVJ hmem hfr hW hq w1
      have fin : Wp 13 (0, [zA 25], [], zH S J) (fun w => Wp 100 (119, [zA 0, w1, zA 9, zA 7, zI (W : Int), zI (-1), zI (pre.length : Int)], w.1.toList ++ [], w.2) Q) := by
        refine c_pforget_25 ?_
        refine (sg_X5_build_119 _ _ _ _ _ _ _ _ _ _).mpr ?_
        have := hq (J 8) 0 (zs2 J 25 2 0) ⟨rfl, rfl⟩ (by rw [zs2_ne _ _ _ _ (by decide)]) hVJ (fun x => by rw [hmem x, hrs2, List.append_nil]) (fun d hd hd2 => by rw [zs2_ne _ _ _ _ (by omega)]; exact hfr d (by omega) hd2) (by rw [zs2_at])
        exact this
      refine (sg_X5_build_51_0_9_7 _ _ _ _ _ _ _).mpr ?_
      exact zcd (fun _ => zcd (fun _ => fin) (fun h => absurd rfl h)) (fun _ => fin)
    | cons r post ih =>
      intro pre J W hrs2 hVJ hmem hfr hW hq w1
      rw [show headOf (r :: post) = (r : Int) from rfl]
      have hlen : pre.length + (post.length + 1) ≤ N := by
        rw [hrs2, List.length_append, List.length_cons] at hrsN; exact hrsN
      have hrm : r ∈ mem (I 10) 16 := (hrs.2.1 r).mp (by rw [hrs2]; exact List.mem_append_right _ List.mem_cons_self)
      have hr16 : r < 16 := (mem_mem.mp hrm).1
      have hrp : r ∉ pre := fun w => by
        have := hrs.2.2.1
        rw [hrs2, List.nodup_append] at this
        exact this.2.2 r w r List.mem_cons_self rfl
      have hn : ∀ q, q < 6 → J 8 q ≠ (r : Int) := fun q hq e => hrp ((hmem r).mp ((mem_iff hVJ).mpr ⟨q, hq, e⟩))
      have hk : (mem (J 8) 16).length < N := by
        have := len_sub (mem (J 8) 16) pre (mem_nodup _) (fun x hx => (hmem x).mp hx)
        omega
      have hr : num (r : Int) := ⟨by omega, by omega⟩
      have j3 : J 3 = I 3 := by rw [hfr 3 (by decide) (by decide)]; exact i3
      have j4 : J 4 = I 4 := by rw [hfr 4 (by decide) (by decide)]; exact i4
      have j5 : J 5 = I 5 := by rw [hfr 5 (by decide) (by decide)]; exact i5
      have jO : J 7 2 = (N : Int) := by rw [hfr 7 (by decide) (by decide), r1 7 (by decide), hTO]; exact hN
      obtain ⟨g, D, p, eg, hG, hD⟩ := goal_ex hVJ rfl (by omega) hr hn
      have hmvJ : ∀ k, cmvI J (N : Int) (J 8) (r : Int) k = cmvI I (N : Int) (J 8) (r : Int) k := fun k => cmvI_congr j3 j4 j5 _ _ _ k
      have hquJ : ∀ k M, cQu J (N : Int) (J 8) (r : Int) k M = cQu I (N : Int) (J 8) (r : Int) k M := fun k M => by unfold cQu; rw [hmvJ]
      refine (sg_X5_build_51_0_9_7 _ _ _ _ _ _ _).mpr ?_
      refine zcd (fun _ => zcd (fun h => absurd h (by omega)) (fun _ => ?_)) (fun h => absurd (by omega) h)
      refine c_find_7_28 (I := J) (k := (mem (J 8) 16).length) (g := g) (D := D) (p := p) (eg := eg) rfl (by omega) (by rw [jO]; omega) (by rw [jO, hmvJ, hquJ]; exact hG) hD (fun I2 b1 b2 b3 b4 b5 => ?_)
      rw [jO, hquJ] at b2
      refine (sg_X5_build_78_0_9_7 _ _ _ _ _ _ _).mpr ?_
      refine c_carryOut_7_28 (by rw [b1]; omega) ?_
      refine (sg_X5_build_86_0_9_7 _ _ _ _ _ _ _).mpr ?_
      refine c_length_28 ?_
      refine (sg_X5_build_95_0_9_7 _ _ _ _ _ _ _ _ _).mpr ?_
      have lenD : (I2 28 2).toNat = D + 1 := by rw [b1]; omega
      rw [lenD, xcarry_ne (by decide), b1, zad_eq (by omega)]
      have k2 : ∀ d, d < 11 ∨ 18 < d → d ≠ 28 → d ≠ 29 → d ≠ 30 → I2 d = J d := b5
      obtain ⟨c1, c2, c3⟩ := put_row (J := I2) (t := 7) (c := 8) (pt := 28) (by decide) hVJ rfl hr hn hG (by rw [k2 7 (by decide) (by decide) (by decide) (by decide)]; exact jO) (k2 8 (by decide) (by decide) (by decide) (by decide)) b2 b3 b4
      generalize hJ2 : xcarry I2 7 8 28 (D + 1) = J2 at c3 ⊢
      have m2 : ∀ d, d < 11 ∨ (18 < d ∧ d < 28) ∨ 30 < d → d ≠ 8 → J2 d = I1 d := fun d hd hd2 => by
        rw [← hJ2, xcarry_ne hd2, k2 d (by omega) (by omega) (by omega) (by omega)]
        exact hfr d hd hd2
      have hV2 : VT I (N : Int) (J2 8) := VT_put hVJ rfl ⟨by omega, by omega⟩ hn c1 c2 c3
      have hp6 : p < 6 := by have := c2.1; omega
      have hmem2 := RF_mem hV2 rfl c1.1 hp6 c3
      refine c_highestBelow_9 ?_
      refine (sg_X5_build_104_0_9_7 _ _ _ _ _ _ _ _).mpr ?_
      have nx := next J2 (pre ++ [r]) post (by rw [m2 3 (by decide) (by decide)]; exact i3) (by rw [m2 5 (by decide) (by decide)]; exact i5) (by rw [m2 10 (by decide) (by decide)]; exact r1 10 (by decide)) (by rw [hrs2, List.append_assoc]; rfl)
      rw [lastOf_snoc] at nx
      rw [nx, zad_s (by omega), show (W : Int) + ((D + 1 : Nat) : Int) = ((W + (D + 1) : Nat) : Int) by omega]
      have ih2 := ih (pre ++ [r]) J2 (W + (D + 1)) (by rw [hrs2, List.append_assoc]; rfl) hV2 (fun x => by rw [hmem2 x, hmem x]; simp) m2 (by rw [List.length_append, List.length_singleton]; omega) (fun f' W1 I' q1 q2 q3 q4 q5 q6 => by
        have := hq f' (D + 1 + W1) I' ⟨_, g, D, p, eg, J2 8, W1, rfl, hk, hn, hVJ, hG, hD, c3, q1, rfl⟩ q2 q3 q4 q5 q6
        rw [Nat.add_assoc]; exact this) w1
      rw [List.length_append, List.length_singleton] at ih2
      exact ih2
  have hme := mem_nil hx0
  have iO : I1 8 = I 8 := r1 8 (by decide)
  refine loop rs [] I1 0 rfl (by rw [iO]; have := hVo; rw [hTO, hN] at this; exact this) (fun x => by rw [iO, hme.1]) (fun _ _ _ => rfl) (by simp) (fun f' W1 I' q1 q2 q3 q4 q5 q6 => ?_) _
  rw [iO] at q1
  have := hQ2 hx0 N rs f' W1 I' hN hrs q1 q2 q3 q4 (fun d d1 d2 => by rw [q5 d (by omega) (by omega), ← hI1]) q6 (fun d d1 d2 => by rw [q5 d (by omega) d2]; exact r1 d (by omega))
  rw [Nat.zero_add]; exact this
theorem c_build_n {S : PS} {I : Nat → Nat → Int} {Q : PV1 → Prop} {t : Int} {w2 w3 w4 w5 w6 : PV} (ht : t < 0 ∨ 2 ≤ t) (hQ : Q (some (zI (-1)), zH S I)) : Wp 100 (0, [zA 0, zI t, w2, w3, w4, w5, w6], [], zH S I) Q := by
  refine (sg_X5_build_0_0 _ _ _ _ _ _ _ _ _).mpr ?_
  refine c_tabN ht ?_
  refine (sg_X5_build_5_0_n _ _ _ _ _ _ _ _ _).mpr ?_
  by_cases h0 : zsb 1 t = 0
  · refine c_tab7 h0 ?_
    exact (sg_X5_build_13_0_n_7 _ _ _ _ _ _ _ _).mpr hQ
  · by_cases h1 : zsb 1 t = 1
    · refine c_tab9 h1 ?_
      exact (sg_X5_build_13_0_n_9 _ _ _ _ _ _ _ _).mpr hQ
    · refine c_tabN (by omega) ?_
      exact (sg_X5_build_13_0_n_n _ _ _ _ _ _ _ _).mpr hQ
