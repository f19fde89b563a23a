/-! the reference: ones, isSafe, melt -/
def monf (x : Int) : Nat → Int
  | 0 => 0
  | i + 1 => zad (monf x i) (zan (zsr x (i : Int)) 1)
theorem mon_tab : ∀ x : Fin 32, monf (x.val : Int) 5 = 1 ↔ bcnt (x.val : Int) = 1 := by decide +kernel
theorem m_ones {S : PS} {I : Nat → Nat → Int} {Q : PV1 → Prop} {x : Int} {w1 w2 : PV} (hQ : Q (some (zI (monf x 5)), zH S I)) : Wp 160 (0, [zI x, w1, w2], [], zH S I) Q := by
  refine (sg_X6_ones_0 _ _ _ _ _ _).mpr ?_
  have loop : ∀ (j i : Nat), i + j = 5 → Wp 160 (4, [zI x, zI (monf x i), zI (i : Int)], [], zH S I) Q := by
    intro j
    induction j with
    | zero =>
      intro i hi
      obtain rfl : i = 5 := by omega
      refine (sg_X6_ones_4 _ _ _ _ _ _).mpr ?_
      exact zcd (fun h => absurd h (by omega)) (fun _ => hQ)
    | succ j ih =>
      intro i hi
      refine (sg_X6_ones_4 _ _ _ _ _ _).mpr ?_
      rw [zad_s (i := i) (by omega)]
      exact zcd (fun _ => ih (i + 1) (by omega)) (fun h => absurd (by omega) h)
  exact loop 5 0 (by omega)
abbrev mbadp (I : Nat → Nat → Int) (t p q : Nat) : Prop := ¬ I 39 (6 * t + p) < 0 ∧ ¬ I 39 (6 * t + q) < 0 ∧ mov I (I 39 (6 * t + p)) (I 39 (6 * t + q)) ∧ ¬ mhi I (I 39 (6 * t + p)) (I 39 (6 * t + q))
abbrev msafe (I : Nat → Nat → Int) (w t : Nat) : Prop := ∀ p q, p < q → q < w → ¬ mbadp I t p q
theorem m_isSafe {S : PS} {I : Nat → Nat → Int} {Q : PV1 → Prop} {w2 w3 w4 w5 w6 : PV} {t w : Nat} (ht : t < 2) (hw : I 32 6 = (w : Int)) (hw6 : w ≤ 6) (hc : ∀ p, p < w → I 39 (6 * t + p) < 16) (hQ : ∀ x, (x = 0 ∨ x = 1) → (x = 1 ↔ msafe I w t) → Q (some (zI x), zH S I)) : Wp 161 (0, [zA 32, zI (t : Int), w2, w3, w4, w5, w6], [], zH S I) Q := by
  refine (sg_X6_isSafe_0_32 _ _ _ _ _ _ _ _ _).mpr ?_
  have outer : ∀ (j p : Nat) (x : Int) (v4 v5 v6 : PV), p + j = w → (x = 0 ∨ x = 1) → (x = 1 ↔ ∀ p' q, p' < p → p' < q → q < w → ¬ mbadp I t p' q) → Wp 161 (4, [zA 32, zI (t : Int), zI x, zI (p : Int), v4, v5, v6], [], zH S I) Q := by
    intro j
    induction j with
    | zero =>
      intro p x v4 v5 v6 hp h1 h2
      obtain rfl : p = w := by omega
      refine (sg_X6_isSafe_4_32 _ _ _ _ _ _ _ _ _).mpr ?_
      rw [hw]
      refine zcd (fun h => absurd h (by omega)) (fun _ => zgb h1 (hQ x h1 (h2.trans ⟨fun h p' q a b => h p' q (by omega) a b, fun h p' q _ a b => h p' q a b⟩)))
    | succ j ih =>
      intro p x v4 v5 v6 hp h1 h2
      refine (sg_X6_isSafe_4_32 _ _ _ _ _ _ _ _ _).mpr ?_
      rw [hw, zad_s (i := p) (by omega)]
      refine zcd (fun _ => ?_) (fun h => absurd (by omega) h)
      have inner : ∀ (i q : Nat) (y : Int) (v5 v6 : PV), q + i = w → p < q → (y = 0 ∨ y = 1) → (y = 1 ↔ (∀ p' q', p' < p → p' < q' → q' < w → ¬ mbadp I t p' q') ∧ ∀ q', p < q' → q' < q → ¬ mbadp I t p q') → Wp 161 (17, [zA 32, zI (t : Int), zI y, zI (p : Int), zI (q : Int), v5, v6], [], zH S I) Q := by
        intro i
        induction i with
        | zero =>
          intro q y v5 v6 hq hpq g1 g2
          obtain rfl : q = w := by omega
          refine (sg_X6_isSafe_17_32 _ _ _ _ _ _ _ _ _).mpr ?_
          rw [hw, zad_s (i := p) (by omega)]
          refine zcd (fun h => absurd h (by omega)) (fun _ => ?_)
          refine ih (p + 1) y _ _ _ (by omega) g1 (g2.trans ⟨fun h p' q' a b c => ?_, fun h => ⟨fun p' q' a b c => h p' q' (by omega) b c, fun q' a b => h p q' (by omega) a b⟩⟩)
          by_cases e : p' = p
          · subst e; exact h.2 q' b c
          · exact h.1 p' q' (by omega) b c
        | succ i ihi =>
          intro q y v5 v6 hq hpq g1 g2
          have c1 := hc p (by omega)
          have c2 := hc q (by omega)
          have yes : y = 1 → ¬ mbadp I t p q → ∀ v5 v6 : PV, Wp 161 (17, [zA 32, zI (t : Int), zI 1, zI (p : Int), zI ((q + 1 : Nat) : Int), v5, v6], [], zH S I) Q := fun hy hn v5 v6 => by
            refine ihi (q + 1) 1 v5 v6 (by omega) (by omega) (Or.inr rfl) ⟨fun _ => ⟨(g2.mp hy).1, fun q' a b => ?_⟩, fun _ => rfl⟩
            by_cases e : q' = q
            · subst e; exact hn
            · exact (g2.mp hy).2 q' a (by omega)
          have no : (y = 0 ∨ mbadp I t p q) → ∀ v5 v6 : PV, Wp 161 (17, [zA 32, zI (t : Int), zI 0, zI (p : Int), zI ((q + 1 : Nat) : Int), v5, v6], [], zH S I) Q := fun hy v5 v6 => by
            refine ihi (q + 1) 0 v5 v6 (by omega) (by omega) (Or.inl rfl) ⟨fun h => absurd h (by decide), fun h => ?_⟩
            rcases hy with hy | hy
            · have := g2.mpr ⟨h.1, fun q' a b => h.2 q' a (by omega)⟩; omega
            · exact absurd hy (h.2 q hpq (by omega))
          refine (sg_X6_isSafe_17_32 _ _ _ _ _ _ _ _ _).mpr ?_
          rw [hw, zix ht (by omega), zix ht (by omega), zad_s (i := q) (by omega), Int.toNat_natCast, Int.toNat_natCast]
          refine zcd (fun _ => zgd (by omega) (zgd (by omega) ?_)) (fun h => absurd (by omega) h)
          refine zcd (fun hy => no (Or.inl hy) _ _) (fun hy => ?_)
          have hy1 : y = 1 := by omega
          refine zcd (fun ha => yes hy1 (fun c => c.1 ha) _ _) (fun ha => ?_)
          refine zcd (fun hb => yes hy1 (fun c => c.2.1 hb) _ _) (fun hb => ?_)
          refine m_doOverlap ⟨by omega, by omega⟩ ⟨by omega, by omega⟩ ?_
          refine (sg_X6_isSafe_75_32 _ _ _ _ _ _ _ _ _ _).mpr ?_
          rw [zad_s (i := q) (by omega)]
          refine zcdB (fun hv => yes hy1 (fun c => hv c.2.2.1) _ _) (fun hv => ?_)
          refine m_isHigher ⟨by omega, by omega⟩ ⟨by omega, by omega⟩ ?_
          refine (sg_X6_isSafe_86_32 _ _ _ _ _ _ _ _ _ _).mpr ?_
          rw [zad_s (i := q) (by omega)]
          exact zcdB (fun hh => no (Or.inr ⟨ha, hb, hv, hh⟩) _ _) (fun hh => yes hy1 (fun c => c.2.2.2 hh) _ _)
      refine inner (w - (p + 1)) (p + 1) x _ _ (by omega) (by omega) h1 (h2.trans ⟨fun h => ⟨h, fun q' a b => by omega⟩, fun h => h.1⟩)
  exact outer w 0 1 _ _ _ (by omega) (Or.inr rfl) ⟨fun _ p' q a => absurd a (by omega), fun _ => rfl⟩
abbrev mmok (I : Nat → Nat → Int) (a b : Int) : Prop := (muse I a ∧ I 34 a.toNat ≠ 2) ∧ (muse I b ∧ I 34 b.toNat ≠ 2) ∧ a ≠ b
abbrev monly (I : Nat → Nat → Int) (w t : Nat) (r : Int) : Prop := ¬ mplc I w t r < 0 ∧ mplc I w (1 - t) r < 0
abbrev mbto (I : Nat → Nat → Int) (a b : Int) : Prop := I 36 a.toNat = I 36 b.toNat ∧ I 38 a.toNat = I 38 b.toNat ∧ monf (zxr (I 35 a.toNat) (I 35 b.toNat)) 5 = 1
/-- as the reference tries it -/
def mmel (I : Nat → Nat → Int) (t p : Nat) (l bit : Int) : Nat → Nat → Int := zs2 (zs2 (zs2 I 39 (6 * t + p) (-2)) 36 l.toNat (zan (I 36 l.toNat) (zxr bit (-1)))) 35 l.toNat (zan (I 35 l.toNat) (zxr bit (-1)))
theorem mmel_ne {I : Nat → Nat → Int} {t p : Nat} {l bit : Int} {d : Nat} (h1 : d ≠ 39) (h2 : d ≠ 36) (h3 : d ≠ 35) : mmel I t p l bit d = I d := by
  rw [mmel, zs2_ne _ _ _ _ h3, zs2_ne _ _ _ _ h2, zs2_ne _ _ _ _ h1]
theorem mmel_back {I : Nat → Nat → Int} {t p : Nat} {l bit g : Int} (hg : I 39 (6 * t + p) = g) : zs2 (zs2 (zs2 (mmel I t p l bit) 39 (6 * t + p) g) 36 l.toNat (I 36 l.toNat)) 35 l.toNat (I 35 l.toNat) = I := by
  funext d j
  by_cases h35 : d = 35
  · subst h35
    by_cases e : j = l.toNat
    · subst e; rw [zs2_at]
    · rw [zs2_ne2 _ _ _ _ e]
      simp (disch := decide) only [mmel, zs2_ne]
      rw [zs2_ne2 _ _ _ _ e]
      simp (disch := decide) only [zs2_ne]
  · rw [zs2_ne _ _ _ _ h35]
    by_cases h36 : d = 36
    · subst h36
      by_cases e : j = l.toNat
      · subst e; rw [zs2_at]
      · rw [zs2_ne2 _ _ _ _ e]
        simp (disch := decide) only [mmel, zs2_ne]
        rw [zs2_ne2 _ _ _ _ e]
        simp (disch := decide) only [zs2_ne]
    · rw [zs2_ne _ _ _ _ h36]
      by_cases h39 : d = 39
      · subst h39
        by_cases e : j = 6 * t + p
        · subst e; rw [zs2_at, hg]
        · rw [zs2_ne2 _ _ _ _ e]
          simp (disch := decide) only [mmel, zs2_ne]
          rw [zs2_ne2 _ _ _ _ e]
      · rw [zs2_ne _ _ _ _ h39, mmel_ne h39 h36 h35]
