/-! the search: bits, rooms, codes -/
def mk (x : Int) (P : Nat → Prop) : Prop := 0 ≤ x ∧ x < 64 ∧ ∀ q : Nat, q < 6 → (zan x (zsl 1 (q : Int)) ≠ 0 ↔ P q)
theorem mk_tab : ∀ x : Fin 64, ∀ p : Fin 6, 0 ≤ zor (x.val : Int) (zsl 1 (p.val : Int)) ∧ zor (x.val : Int) (zsl 1 (p.val : Int)) < 64 ∧ ∀ q : Fin 6, (zan (zor (x.val : Int) (zsl 1 (p.val : Int))) (zsl 1 (q.val : Int)) ≠ 0 ↔ (zan (x.val : Int) (zsl 1 (q.val : Int)) ≠ 0 ∨ q = p)) := by decide +kernel
theorem mk_tab0 : ∀ q : Fin 6, zan 0 (zsl 1 (q.val : Int)) = 0 := by decide +kernel
theorem mk_0 : mk 0 (fun _ => False) := ⟨by omega, by omega, fun q hq => ⟨fun h => h (mk_tab0 ⟨q, hq⟩), fun h => h.elim⟩⟩
theorem mk_or {x : Int} {P : Nat → Prop} {p : Nat} (h : mk x P) (hp : p < 6) : mk (zor x (zsl 1 (p : Int))) (fun q => P q ∨ q = p) := by
  obtain ⟨h0, h1, h2⟩ := h
  have e : ((x.toNat : Nat) : Int) = x := by omega
  obtain ⟨g1, g2, g3⟩ := mk_tab ⟨x.toNat, by omega⟩ ⟨p, hp⟩
  simp only [e] at g1 g2 g3
  refine ⟨g1, g2, fun q hq => ?_⟩
  rw [g3 ⟨q, hq⟩, h2 q hq]
  simp
theorem mk_congr {x : Int} {P P' : Nat → Prop} (h : mk x P) (e : ∀ q : Nat, q < 6 → (P q ↔ P' q)) : mk x P' := ⟨h.1, h.2.1, fun q hq => (h.2.2 q hq).trans (e q hq)⟩
abbrev zbt (x : Int) (q : Nat) : Prop := zan x (zsl 1 (q : Int)) ≠ 0
/-- the first and the last place but one that a member may have -/
def srm (I : Nat → Nat → Int) (m : Nat) : Nat → Int
  | 0 => 0
  | o + 1 => if zbt (I 13 m) o then max (srm I m o) (I 15 o + 1) else srm I m o
def erm (I : Nat → Nat → Int) (m : Nat) : Nat → Int
  | 0 => I 11 10
  | o + 1 => if zbt (I 14 m) o then min (erm I m o) (I 15 o) else erm I m o
theorem srm_le {I : Nat → Nat → Int} {m : Nat} {p : Int} : ∀ k, srm I m k ≤ p ↔ 0 ≤ p ∧ ∀ o, o < k → zbt (I 13 m) o → I 15 o < p
  | 0 => ⟨fun h => ⟨h, fun o h => absurd h (by omega)⟩, fun h => h.1⟩
  | k + 1 => by
    simp only [srm]
    have ih := srm_le (I := I) (m := m) (p := p) k
    by_cases hb : zbt (I 13 m) k
    · rw [if_pos hb, Int.max_le, ih]
      constructor
      · rintro ⟨⟨h0, h1⟩, h2⟩
        refine ⟨h0, fun o ho hbo => ?_⟩
        by_cases e : o = k
        · subst e; omega
        · exact h1 o (by omega) hbo
      · rintro ⟨h0, h1⟩
        have := h1 k (by omega) hb
        exact ⟨⟨h0, fun o ho => h1 o (by omega)⟩, by omega⟩
    · rw [if_neg hb, ih]
      constructor
      · rintro ⟨h0, h1⟩
        refine ⟨h0, fun o ho hbo => ?_⟩
        by_cases e : o = k
        · subst e; exact absurd hbo hb
        · exact h1 o (by omega) hbo
      · rintro ⟨h0, h1⟩
        exact ⟨h0, fun o ho => h1 o (by omega)⟩
theorem lt_erm {I : Nat → Nat → Int} {m : Nat} {p : Int} : ∀ k, p < erm I m k ↔ p < I 11 10 ∧ ∀ o, o < k → zbt (I 14 m) o → p < I 15 o
  | 0 => ⟨fun h => ⟨h, fun o h => absurd h (by omega)⟩, fun h => h.1⟩
  | k + 1 => by
    simp only [erm]
    have ih := lt_erm (I := I) (m := m) (p := p) k
    by_cases hb : zbt (I 14 m) k
    · rw [if_pos hb, Int.lt_min, ih]
      constructor
      · rintro ⟨⟨h0, h1⟩, h2⟩
        refine ⟨h0, fun o ho hbo => ?_⟩
        by_cases e : o = k
        · subst e; omega
        · exact h1 o (by omega) hbo
      · rintro ⟨h0, h1⟩
        have := h1 k (by omega) hb
        exact ⟨⟨h0, fun o ho => h1 o (by omega)⟩, by omega⟩
    · rw [if_neg hb, ih]
      constructor
      · rintro ⟨h0, h1⟩
        refine ⟨h0, fun o ho hbo => ?_⟩
        by_cases e : o = k
        · subst e; exact absurd hbo hb
        · exact h1 o (by omega) hbo
      · rintro ⟨h0, h1⟩
        exact ⟨h0, fun o ho => h1 o (by omega)⟩
theorem srm_in {I : Nat → Nat → Int} {m : Nat} : ∀ k, (∀ o, o < k → 0 ≤ I 15 o ∧ I 15 o < 6) → 0 ≤ srm I m k ∧ srm I m k ≤ 6
  | 0, _ => ⟨by simp [srm], by simp [srm]⟩
  | k + 1, h => by
    have ih := srm_in (I := I) (m := m) k (fun o ho => h o (by omega))
    have := h k (by omega)
    simp only [srm]
    split <;> omega

theorem c_isIn_13 {S : PS} {I : Nat → Nat → Int} {Q : PV1 → Prop} {m : Int} {o : Int} (hm : 0 ≤ m ∧ m < 6) (hQ : Q (some (zI (zB (zan (I 13 m.toNat) (zsl 1 o) ≠ 0))), zH S I)) : Wp 49 (0, [zA 13, zI m, zI o], [], zH S I) Q := by
  refine (sg_X3_isIn_0_13 _ _ _ _ _).mpr ?_
  first | refine zcdB (fun h1 => ?_) (fun h1 => ?_) | refine zcd (fun h1 => ?_) (fun h1 => ?_)
  · refine zgb (by first | omega | (simp (disch := decide) only [zs2_ne, zs2_ne2, zs2_at]; omega) | (simp; done)) ?_
    first | exact hQ | exact zq hQ (zB_t (by omega)) rfl | exact zq hQ (zB_f (by omega)) rfl | exact zq hQ (if_pos (by omega)) rfl | exact zq hQ (if_neg (by omega)) rfl | exact zqn hQ rfl
  · first | refine zcdB (fun h2 => ?_) (fun h2 => ?_) | refine zcd (fun h2 => ?_) (fun h2 => ?_)
    · refine zgd (by first | omega | (simp (disch := decide) only [zs2_ne, zs2_ne2, zs2_at]; omega) | (simp; done)) ?_
      first | refine zcdB (fun h3 => ?_) (fun h3 => ?_) | refine zcd (fun h3 => ?_) (fun h3 => ?_)
      · refine zgb (by first | omega | (simp (disch := decide) only [zs2_ne, zs2_ne2, zs2_at]; omega) | (simp; done)) ?_
        first | exact hQ | exact zq hQ (zB_t (by omega)) rfl | exact zq hQ (zB_f (by omega)) rfl | exact zq hQ (if_pos (by omega)) rfl | exact zq hQ (if_neg (by omega)) rfl | exact zqn hQ rfl
      · refine zgb (by first | omega | (simp (disch := decide) only [zs2_ne, zs2_ne2, zs2_at]; omega) | (simp; done)) ?_
        first | exact hQ | exact zq hQ (zB_t (by omega)) rfl | exact zq hQ (zB_f (by omega)) rfl | exact zq hQ (if_pos (by omega)) rfl | exact zq hQ (if_neg (by omega)) rfl | exact zqn hQ rfl
    · refine zgb (by first | omega | (simp (disch := decide) only [zs2_ne, zs2_ne2, zs2_at]; omega) | (simp; done)) ?_
      first | exact hQ | exact zq hQ (zB_t (by omega)) rfl | exact zq hQ (zB_f (by omega)) rfl | exact zq hQ (if_pos (by omega)) rfl | exact zq hQ (if_neg (by omega)) rfl | exact zqn hQ rfl
theorem c_isIn_14 {S : PS} {I : Nat → Nat → Int} {Q : PV1 → Prop} {m : Int} {o : Int} (hm : 0 ≤ m ∧ m < 6) (hQ : Q (some (zI (zB (zan (I 14 m.toNat) (zsl 1 o) ≠ 0))), zH S I)) : Wp 49 (0, [zA 14, zI m, zI o], [], zH S I) Q := by
  refine (sg_X3_isIn_0_14 _ _ _ _ _).mpr ?_
  first | refine zcdB (fun h1 => ?_) (fun h1 => ?_) | refine zcd (fun h1 => ?_) (fun h1 => ?_)
  · refine zgb (by first | omega | (simp (disch := decide) only [zs2_ne, zs2_ne2, zs2_at]; omega) | (simp; done)) ?_
    first | exact hQ | exact zq hQ (zB_t (by omega)) rfl | exact zq hQ (zB_f (by omega)) rfl | exact zq hQ (if_pos (by omega)) rfl | exact zq hQ (if_neg (by omega)) rfl | exact zqn hQ rfl
  · first | refine zcdB (fun h2 => ?_) (fun h2 => ?_) | refine zcd (fun h2 => ?_) (fun h2 => ?_)
    · refine zgd (by first | omega | (simp (disch := decide) only [zs2_ne, zs2_ne2, zs2_at]; omega) | (simp; done)) ?_
      first | refine zcdB (fun h3 => ?_) (fun h3 => ?_) | refine zcd (fun h3 => ?_) (fun h3 => ?_)
      · refine zgb (by first | omega | (simp (disch := decide) only [zs2_ne, zs2_ne2, zs2_at]; omega) | (simp; done)) ?_
        first | exact hQ | exact zq hQ (zB_t (by omega)) rfl | exact zq hQ (zB_f (by omega)) rfl | exact zq hQ (if_pos (by omega)) rfl | exact zq hQ (if_neg (by omega)) rfl | exact zqn hQ rfl
      · refine zgb (by first | omega | (simp (disch := decide) only [zs2_ne, zs2_ne2, zs2_at]; omega) | (simp; done)) ?_
        first | exact hQ | exact zq hQ (zB_t (by omega)) rfl | exact zq hQ (zB_f (by omega)) rfl | exact zq hQ (if_pos (by omega)) rfl | exact zq hQ (if_neg (by omega)) rfl | exact zqn hQ rfl
    · refine zgb (by first | omega | (simp (disch := decide) only [zs2_ne, zs2_ne2, zs2_at]; omega) | (simp; done)) ?_
      first | exact hQ | exact zq hQ (zB_t (by omega)) rfl | exact zq hQ (zB_f (by omega)) rfl | exact zq hQ (if_pos (by omega)) rfl | exact zq hQ (if_neg (by omega)) rfl | exact zqn hQ rfl
theorem c_placesTaken {S : PS} {I : Nat → Nat → Int} {Q : PV1 → Prop} {u1 u2 : PV} {k : Nat} (hk : I 11 9 = (k : Int)) (hk6 : k ≤ 6) (hw : ∀ o, o < k → 0 ≤ I 15 o ∧ I 15 o < 6) (hQ : ∀ x, mk x (fun q => ∃ m, m < k ∧ I 15 m = (q : Int)) → Q (some (zI x), zH S I)) : Wp 46 (0, [zA 11, u1, u2], [], zH S I) Q := by
  refine (sg_X3_placesTaken_0_11 _ _ _ _ _).mpr ?_
  have loop : ∀ (j i : Nat) (x : Int), i + j = k → mk x (fun q => ∃ m, m < i ∧ I 15 m = (q : Int)) → Wp 46 (4, [zA 11, zI x, zI (i : Int)], [], zH S I) Q := by
    intro j
    induction j with
    | zero =>
      intro i x hi hx
      obtain rfl : i = k := by omega
      refine (sg_X3_placesTaken_4_11 _ _ _ _ _).mpr ?_
      refine zcd (fun h => absurd h (by omega)) (fun _ => hQ x hx)
    | succ j ih =>
      intro i x hi hx
      refine (sg_X3_placesTaken_4_11 _ _ _ _ _).mpr ?_
      refine zcd (fun _ => ?_) (fun h => absurd (by omega) h)
      refine zcd (fun _ => ?_) (fun h => absurd (by omega) h)
      refine zgd (by omega) ?_
      rw [Int.toNat_natCast, zad_s (by omega)]
      have hi6 := hw i (by omega)
      obtain ⟨p, hp⟩ : ∃ p : Nat, I 15 i = (p : Int) := ⟨(I 15 i).toNat, by omega⟩
      rw [hp]
      refine ih (i + 1) _ (by omega) (mk_congr (mk_or hx (p := p) (by omega)) (fun q _ => ?_))
      constructor
      · rintro (⟨m, h1, h2⟩ | rfl)
        · exact ⟨m, by omega, h2⟩
        · exact ⟨i, by omega, hp⟩
      · rintro ⟨m, h1, h2⟩
        by_cases e : m = i
        · subst e; right; omega
        · exact Or.inl ⟨m, by omega, h2⟩
  exact loop k 0 0 (by omega) (mk_congr mk_0 (fun q _ => ⟨fun h => h.elim, fun ⟨m, h, _⟩ => absurd h (by omega)⟩))
theorem c_startOfRoom {S : PS} {I : Nat → Nat → Int} {Q : PV1 → Prop} {u2 u3 : PV} {k m : Nat} (hm : m < 6) (hk : I 11 9 = (k : Int)) (hk6 : k ≤ 6) (hw : ∀ o, o < k → 0 ≤ I 15 o ∧ I 15 o < 6) (hQ : Q (some (zI (srm I m k)), zH S I)) : Wp 47 (0, [zA 11, zI (m : Int), u2, u3], [], zH S I) Q := by
  refine (sg_X3_startOfRoom_0_11 _ _ _ _ _ _).mpr ?_
  have loop : ∀ (j i : Nat), i + j = k → Wp 47 (4, [zA 11, zI (m : Int), zI (srm I m i), zI (i : Int)], [], zH S I) Q := by
    intro j
    induction j with
    | zero =>
      intro i hi
      obtain rfl : i = k := by omega
      refine (sg_X3_startOfRoom_4_11 _ _ _ _ _ _).mpr ?_
      refine zcd (fun h => absurd h (by omega)) (fun _ => hQ)
    | succ j ih =>
      intro i hi
      have hi6 := hw i (by omega)
      have nx := ih (i + 1) (by omega)
      refine (sg_X3_startOfRoom_4_11 _ _ _ _ _ _).mpr ?_
      refine zcd (fun _ => ?_) (fun h => absurd (by omega) h)
      refine zcd (fun _ => ?_) (fun h => absurd (by omega) h)
      refine c_isIn_13 (by omega) ?_
      refine (sg_X3_startOfRoom_27_11 _ _ _ _ _ _ _).mpr ?_
      simp only [Int.toNat_natCast]
      refine zcdB (fun h1 => ?_) (fun h1 => ?_)
      · rw [zad_s (by omega)]
        exact zeq nx (by rw [show srm I m (i + 1) = srm I m i from if_neg h1])
      · refine zgd (by omega) ?_
        rw [zad_eq (by omega)]
        refine zmax_ok ?_
        refine (sg_X3_startOfRoom_42_11 _ _ _ _ _ _ _).mpr ?_
        rw [zad_s (by omega)]
        exact zeq nx (by rw [show srm I m (i + 1) = _ from if_pos h1])
  exact loop k 0 (by omega)
theorem c_endOfRoom {S : PS} {I : Nat → Nat → Int} {Q : PV1 → Prop} {u2 u3 : PV} {k m : Nat} (hm : m < 6) (hk : I 11 9 = (k : Int)) (hk6 : k ≤ 6) (hw : ∀ o, o < k → 0 ≤ I 15 o ∧ I 15 o < 6) (hQ : Q (some (zI (erm I m k)), zH S I)) : Wp 48 (0, [zA 11, zI (m : Int), u2, u3], [], zH S I) Q := by
  refine (sg_X3_endOfRoom_0_11 _ _ _ _ _ _).mpr ?_
  have loop : ∀ (j i : Nat), i + j = k → Wp 48 (7, [zA 11, zI (m : Int), zI (erm I m i), zI (i : Int)], [], zH S I) Q := by
    intro j
    induction j with
    | zero =>
      intro i hi
      obtain rfl : i = k := by omega
      refine (sg_X3_endOfRoom_7_11 _ _ _ _ _ _).mpr ?_
      refine zcd (fun h => absurd h (by omega)) (fun _ => hQ)
    | succ j ih =>
      intro i hi
      have hi6 := hw i (by omega)
      have nx := ih (i + 1) (by omega)
      refine (sg_X3_endOfRoom_7_11 _ _ _ _ _ _).mpr ?_
      refine zcd (fun _ => ?_) (fun h => absurd (by omega) h)
      refine zcd (fun _ => ?_) (fun h => absurd (by omega) h)
      refine c_isIn_14 (by omega) ?_
      refine (sg_X3_endOfRoom_30_11 _ _ _ _ _ _ _).mpr ?_
      simp only [Int.toNat_natCast]
      refine zcdB (fun h1 => ?_) (fun h1 => ?_)
      · rw [zad_s (by omega)]
        exact zeq nx (by rw [show erm I m (i + 1) = erm I m i from if_neg h1])
      · refine zgd (by omega) ?_
        skip
        refine zmin_ok ?_
        refine (sg_X3_endOfRoom_43_11 _ _ _ _ _ _ _).mpr ?_
        rw [zad_s (by omega)]
        exact zeq nx (by rw [show erm I m (i + 1) = _ from if_pos h1])
  exact loop k 0 (by omega)
