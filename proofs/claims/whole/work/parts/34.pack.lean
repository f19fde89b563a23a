/-! the history's writes; packing; what a table judges, all keys; plans carried out -/
/-- the first n places of a cell are f's -/
def zmapc (I : Nat → Nat → Int) (c n : Nat) (f : Nat → Int) : Nat → Nat → Int := fun r => if r = c then (fun j => if j < n then f j else I c j) else I r
theorem zmapc_0 (I : Nat → Nat → Int) (c : Nat) (f : Nat → Int) : zmapc I c 0 f = I := by
  funext r
  simp only [zmapc]
  split
  · rename_i h; subst h; funext j; simp
  · rfl
theorem zmapc_s (I : Nat → Nat → Int) (c n : Nat) (f : Nat → Int) {x : Int} (hx : x = f n) : zs2 (zmapc I c n f) c n x = zmapc I c (n + 1) f := by
  subst hx
  funext r
  simp only [zmapc, zs2]
  split
  · rename_i h; subst h
    funext j
    by_cases h1 : j = n
    · subst h1; simp
    · by_cases h2 : j < n
      · simp [h1, h2, Nat.lt_succ_of_lt h2]
      · have : ¬ j < n + 1 := by omega
        simp [h1, h2, this]
  · rfl
theorem zmapc_ne (I : Nat → Nat → Int) (c n : Nat) (f : Nat → Int) {r : Nat} (h : r ≠ c) : zmapc I c n f r = I r := by simp [zmapc, h]
theorem zmapc_at (I : Nat → Nat → Int) (c n : Nat) (f : Nat → Int) {j : Nat} (h : j < n) : zmapc I c n f c j = f j := by simp [zmapc, h]
theorem zmapc_out (I : Nat → Nat → Int) (c n : Nat) (f : Nat → Int) {j : Nat} (h : ¬ j < n) : zmapc I c n f c j = I c j := by simp [zmapc, h]
theorem xfree_ne {I : Nat → Nat → Int} {t c : Nat} {p : Int} {d : Nat} (h : d ≠ c) : xfree I t c p d = I d := by
  simp only [xfree]
  split
  · exact zs2_ne _ _ _ _ h
  · rfl
theorem xlay_ne {I : Nat → Nat → Int} {t c : Nat} {r p : Int} {d : Nat} (h : d ≠ c) : xlay I t c r p d = I d := by
  simp only [xlay]
  split
  · rw [zs2_ne _ _ _ _ h, xfree_ne h]
  · rfl
def xpush (I : Nat → Nat → Int) (a b l r k : Int) : Nat → Nat → Int := zs2 (zs2 (zs2 (zs2 (zs2 (zs2 (zs2 I 20 (I 19 5).toNat a) 21 (I 19 5).toNat b) 22 (I 19 5).toNat l) 23 (I 19 5).toNat r) 24 (I 19 5).toNat k) 19 5 ((I 19 5 + 1) % 20)) 19 6 (min (I 19 6 + 1) 20)
def xpop (I : Nat → Nat → Int) : Nat → Nat → Int := zs2 (zs2 I 19 5 (hlast (I 19 5))) 19 6 (max (I 19 6 - 1) 0)
/-- the number of six places -/
def xpk (f : Nat → Int) : Nat → Int
  | 0 => 0
  | j + 1 => xpk f j * 17 + f (5 - j) + 1
theorem xpk_in {f : Nat → Int} (h : ∀ p, p < 6 → -1 ≤ f p ∧ f p ≤ 15) : ∀ j, j ≤ 6 → 0 ≤ xpk f j ∧ xpk f j < 17 ^ j
  | 0, _ => ⟨Int.le_refl 0, by show (0 : Int) < 17 ^ 0; decide⟩
  | j + 1, hj => by
    have h1 := xpk_in h j (by omega)
    have h2 := h (5 - j) (by omega)
    have h3 : (17 : Int) ^ (j + 1) = 17 ^ j * 17 := Int.pow_succ 17 j
    simp only [xpk]
    generalize (17 : Int) ^ j = M at *
    omega
def xdg (code : Int) (j : Nat) : Int := code / 17 ^ j % 17 - 1
def xcarry (I : Nat → Nat → Int) (t c pt : Nat) : Nat → Nat → Nat → Int
  | 0 => I
  | i + 1 => xlay (xcarry I t c pt i) t c (I (pt + 1) i) (I (pt + 2) i)
theorem xcarry_ne {I : Nat → Nat → Int} {t c pt : Nat} {d : Nat} (h : d ≠ c) : ∀ i, xcarry I t c pt i d = I d
  | 0 => rfl
  | i + 1 => by rw [xcarry, xlay_ne h, xcarry_ne h i]
abbrev xbad (I : Nat → Nat → Int) (c a p : Nat) : Prop := xov I (I c a) (I c p) ∧ xhi I (I c p) (I c a)
abbrev xsafe (I : Nat → Nat → Int) (c : Nat) : Prop := ∀ p, p < 6 → ∀ a, a < p → ¬ xbad I c a p

theorem c_push {S : PS} {I : Nat → Nat → Int} {Q : PV1 → Prop} {a : Int} {b : Int} {l : Int} {r : Int} {k : Int} (h5 : 0 ≤ I 19 5 ∧ I 19 5 < 20) (h6 : 0 ≤ I 19 6 ∧ I 19 6 ≤ 20) (hQ : Q (none, zH S (xpush I a b l r k))) : Wp 3 (0, [zA 19, zI a, zI b, zI l, zI r, zI k], [], zH S I) Q := by
  refine (sg_X0_push_0_19 _ _ _ _ _ _ _ _).mpr ?_
  first | refine zcdB (fun h1 => ?_) (fun h1 => ?_) | refine zcd (fun h1 => ?_) (fun h1 => ?_)
  · first | (exfalso; omega) | exact zqn hQ (by simp only [xpush]; simp (disch := decide) only [zs2_ne, zs2_at, zs2_ne2]; rw [zad_eq (by omega), zad_eq (by omega), zrm_eq (by omega) (by omega) (by omega) (by omega)])
  · first | refine zcdB (fun h2 => ?_) (fun h2 => ?_) | refine zcd (fun h2 => ?_) (fun h2 => ?_)
    · refine zgd (by first | omega | (simp (disch := decide) only [zs2_ne, zs2_ne2, zs2_at]; omega) | (simp; done)) ?_
      refine zgd (by first | omega | (simp (disch := decide) only [zs2_ne, zs2_ne2, zs2_at]; omega) | (simp; done)) ?_
      refine zgd (by first | omega | (simp (disch := decide) only [zs2_ne, zs2_ne2, zs2_at]; omega) | (simp; done)) ?_
      refine zgd (by first | omega | (simp (disch := decide) only [zs2_ne, zs2_ne2, zs2_at]; omega) | (simp; done)) ?_
      refine zgd (by first | omega | (simp (disch := decide) only [zs2_ne, zs2_ne2, zs2_at]; omega) | (simp; done)) ?_
      refine zgn (by decide) ?_
      refine zmin_ok ?_
      refine (sg_X0_push_94_19 _ _ _ _ _ _ _ _ _ _).mpr ?_
      first | (exfalso; omega) | exact zqn hQ (by simp only [xpush]; simp (disch := decide) only [zs2_ne, zs2_at, zs2_ne2]; rw [zad_eq (by omega), zad_eq (by omega), zrm_eq (by omega) (by omega) (by omega) (by omega)])
    · first | (exfalso; omega) | exact zqn hQ (by simp only [xpush]; simp (disch := decide) only [zs2_ne, zs2_at, zs2_ne2]; rw [zad_eq (by omega), zad_eq (by omega), zrm_eq (by omega) (by omega) (by omega) (by omega)])
theorem c_pop {S : PS} {I : Nat → Nat → Int} {Q : PV1 → Prop}  (h5 : 0 ≤ I 19 5 ∧ I 19 5 < 20) (h6 : 0 ≤ I 19 6 ∧ I 19 6 ≤ 20) (hQ : Q (none, zH S (xpop I))) : Wp 4 (0, [zA 19], [], zH S I) Q := by
  refine (sg_X0_pop_0_19 _ _  _).mpr ?_
  refine c_latest h5 ?_
  refine (sg_X0_pop_5_19_19 _ _ _ _).mpr ?_
  refine zmax_ok ?_
  refine (sg_X0_pop_19_19 _ _ _ _ _).mpr ?_
  exact zqn hQ (by simp only [xpop]; simp (disch := decide) only [zs2_ne, zs2_at, zs2_ne2]; rw [zsb_eq (by omega)])
theorem l_highestBelow_7 {S : PS} {I : Nat → Nat → Int} {Q : PV1 → Prop} {l : Int} : ∀ (k i : Nat) (u4 : PV) (u5 : PV), i + k = 6 →  Q (some (zI (xhb I 8 l 6)), zH S I) → Wp 74 (4, [zA 7, zI l, zI ((xhb I 8 l i)), zI ((i : Int)), u4, u5], [], zH S I) Q := by
  intro k
  induction k with
  | zero =>
    intro i u4 u5 hi hQ
    refine (sg_X4_highestBelow_4_7 _ _ _ _ _ _ _ _).mpr ?_
    try simp only [Int.toNat_natCast]
    first | refine zcdB (fun h1 => ?_) (fun h1 => ?_) | refine zcd (fun h1 => ?_) (fun h1 => ?_)
    · refine zgd (by first | omega | (simp (disch := decide) only [zs2_ne, zs2_ne2, zs2_at]; omega) | (simp; done)) ?_
      first | refine zcdB (fun h2 => ?_) (fun h2 => ?_) | refine zcd (fun h2 => ?_) (fun h2 => ?_)
      · first | refine zcdB (fun h3 => ?_) (fun h3 => ?_) | refine zcd (fun h3 => ?_) (fun h3 => ?_)
        · exfalso; omega
        · first | refine zcdB (fun h4 => ?_) (fun h4 => ?_) | refine zcd (fun h4 => ?_) (fun h4 => ?_)
          · exfalso; omega
          · first | refine zcdB (fun h5 => ?_) (fun h5 => ?_) | refine zcd (fun h5 => ?_) (fun h5 => ?_)
            · exfalso; omega
            · refine c_isHigher ?_
              refine (sg_X4_highestBelow_72_7 _ _ _ _ _ _ _ _ _).mpr ?_
              first | refine zcdB (fun h6 => ?_) (fun h6 => ?_) | refine zcd (fun h6 => ?_) (fun h6 => ?_)
              · exfalso; omega
              · exfalso; omega
      · refine c_isHigher ?_
        refine (sg_X4_highestBelow_36_7 _ _ _ _ _ _ _ _ _).mpr ?_
        first | refine zcdB (fun h7 => ?_) (fun h7 => ?_) | refine zcd (fun h7 => ?_) (fun h7 => ?_)
        · first | refine zcdB (fun h8 => ?_) (fun h8 => ?_) | refine zcd (fun h8 => ?_) (fun h8 => ?_)
          · exfalso; omega
          · first | refine zcdB (fun h9 => ?_) (fun h9 => ?_) | refine zcd (fun h9 => ?_) (fun h9 => ?_)
            · exfalso; omega
            · first | refine zcdB (fun h10 => ?_) (fun h10 => ?_) | refine zcd (fun h10 => ?_) (fun h10 => ?_)
              · exfalso; omega
              · refine c_isHigher ?_
                refine (sg_X4_highestBelow_72_7 _ _ _ _ _ _ _ _ _).mpr ?_
                first | refine zcdB (fun h11 => ?_) (fun h11 => ?_) | refine zcd (fun h11 => ?_) (fun h11 => ?_)
                · exfalso; omega
                · exfalso; omega
        · first | refine zcdB (fun h12 => ?_) (fun h12 => ?_) | refine zcd (fun h12 => ?_) (fun h12 => ?_)
          · exfalso; omega
          · first | refine zcdB (fun h13 => ?_) (fun h13 => ?_) | refine zcd (fun h13 => ?_) (fun h13 => ?_)
            · exfalso; omega
            · first | refine zcdB (fun h14 => ?_) (fun h14 => ?_) | refine zcd (fun h14 => ?_) (fun h14 => ?_)
              · exfalso; omega
              · refine c_isHigher ?_
                refine (sg_X4_highestBelow_72_7 _ _ _ _ _ _ _ _ _).mpr ?_
                first | refine zcdB (fun h15 => ?_) (fun h15 => ?_) | refine zcd (fun h15 => ?_) (fun h15 => ?_)
                · exfalso; omega
                · exfalso; omega
    · first | (exfalso; omega) | (obtain rfl : i = 6 := (by omega); exact hQ)
  | succ k ih =>
    intro i u4 u5 hi hQ
    refine (sg_X4_highestBelow_4_7 _ _ _ _ _ _ _ _).mpr ?_
    try simp only [Int.toNat_natCast]
    first | refine zcdB (fun h1 => ?_) (fun h1 => ?_) | refine zcd (fun h1 => ?_) (fun h1 => ?_)
    · refine zgd (by first | omega | (simp (disch := decide) only [zs2_ne, zs2_ne2, zs2_at]; omega) | (simp; done)) ?_
      first | refine zcdB (fun h2 => ?_) (fun h2 => ?_) | refine zcd (fun h2 => ?_) (fun h2 => ?_)
      · first | refine zcdB (fun h3 => ?_) (fun h3 => ?_) | refine zcd (fun h3 => ?_) (fun h3 => ?_)
        · first | (exfalso; omega) | (rw [zad_s (i := i) (by omega)]; exact zeq (ih (i + 1) _ _ (by omega) hQ) (by rw [xhb_s]; first | rw [if_pos ⟨by assumption, Or.inl (by assumption), Or.inl (by assumption)⟩] | rw [if_pos ⟨by assumption, Or.inl (by assumption), Or.inr (by assumption)⟩] | rw [if_pos ⟨by assumption, Or.inr (by assumption), Or.inl (by assumption)⟩] | rw [if_pos ⟨by assumption, Or.inr (by assumption), Or.inr (by assumption)⟩] | rw [if_neg (fun w => absurd (by assumption) w.1)] | rw [if_neg (fun w => w.2.1.elim (by assumption) (by assumption))] | rw [if_neg (fun w => w.2.2.elim (by assumption) (by assumption))]))
        · first | refine zcdB (fun h4 => ?_) (fun h4 => ?_) | refine zcd (fun h4 => ?_) (fun h4 => ?_)
          · first | (exfalso; omega) | (rw [zad_s (i := i) (by omega)]; exact zeq (ih (i + 1) _ _ (by omega) hQ) (by rw [xhb_s]; first | rw [if_pos ⟨by assumption, Or.inl (by assumption), Or.inl (by assumption)⟩] | rw [if_pos ⟨by assumption, Or.inl (by assumption), Or.inr (by assumption)⟩] | rw [if_pos ⟨by assumption, Or.inr (by assumption), Or.inl (by assumption)⟩] | rw [if_pos ⟨by assumption, Or.inr (by assumption), Or.inr (by assumption)⟩] | rw [if_neg (fun w => absurd (by assumption) w.1)] | rw [if_neg (fun w => w.2.1.elim (by assumption) (by assumption))] | rw [if_neg (fun w => w.2.2.elim (by assumption) (by assumption))]))
          · first | refine zcdB (fun h5 => ?_) (fun h5 => ?_) | refine zcd (fun h5 => ?_) (fun h5 => ?_)
            · first | (exfalso; omega) | (rw [zad_s (i := i) (by omega)]; exact zeq (ih (i + 1) _ _ (by omega) hQ) (by rw [xhb_s]; first | rw [if_pos ⟨by assumption, Or.inl (by assumption), Or.inl (by assumption)⟩] | rw [if_pos ⟨by assumption, Or.inl (by assumption), Or.inr (by assumption)⟩] | rw [if_pos ⟨by assumption, Or.inr (by assumption), Or.inl (by assumption)⟩] | rw [if_pos ⟨by assumption, Or.inr (by assumption), Or.inr (by assumption)⟩] | rw [if_neg (fun w => absurd (by assumption) w.1)] | rw [if_neg (fun w => w.2.1.elim (by assumption) (by assumption))] | rw [if_neg (fun w => w.2.2.elim (by assumption) (by assumption))]))
            · refine c_isHigher ?_
              refine (sg_X4_highestBelow_72_7 _ _ _ _ _ _ _ _ _).mpr ?_
              first | refine zcdB (fun h6 => ?_) (fun h6 => ?_) | refine zcd (fun h6 => ?_) (fun h6 => ?_)
              · first | (exfalso; omega) | (rw [zad_s (i := i) (by omega)]; exact zeq (ih (i + 1) _ _ (by omega) hQ) (by rw [xhb_s]; first | rw [if_pos ⟨by assumption, Or.inl (by assumption), Or.inl (by assumption)⟩] | rw [if_pos ⟨by assumption, Or.inl (by assumption), Or.inr (by assumption)⟩] | rw [if_pos ⟨by assumption, Or.inr (by assumption), Or.inl (by assumption)⟩] | rw [if_pos ⟨by assumption, Or.inr (by assumption), Or.inr (by assumption)⟩] | rw [if_neg (fun w => absurd (by assumption) w.1)] | rw [if_neg (fun w => w.2.1.elim (by assumption) (by assumption))] | rw [if_neg (fun w => w.2.2.elim (by assumption) (by assumption))]))
              · first | (exfalso; omega) | (rw [zad_s (i := i) (by omega)]; exact zeq (ih (i + 1) _ _ (by omega) hQ) (by rw [xhb_s]; first | rw [if_pos ⟨by assumption, Or.inl (by assumption), Or.inl (by assumption)⟩] | rw [if_pos ⟨by assumption, Or.inl (by assumption), Or.inr (by assumption)⟩] | rw [if_pos ⟨by assumption, Or.inr (by assumption), Or.inl (by assumption)⟩] | rw [if_pos ⟨by assumption, Or.inr (by assumption), Or.inr (by assumption)⟩] | rw [if_neg (fun w => absurd (by assumption) w.1)] | rw [if_neg (fun w => w.2.1.elim (by assumption) (by assumption))] | rw [if_neg (fun w => w.2.2.elim (by assumption) (by assumption))]))
      · refine c_isHigher ?_
        refine (sg_X4_highestBelow_36_7 _ _ _ _ _ _ _ _ _).mpr ?_
        first | refine zcdB (fun h7 => ?_) (fun h7 => ?_) | refine zcd (fun h7 => ?_) (fun h7 => ?_)
        · first | refine zcdB (fun h8 => ?_) (fun h8 => ?_) | refine zcd (fun h8 => ?_) (fun h8 => ?_)
          · first | (exfalso; omega) | (rw [zad_s (i := i) (by omega)]; exact zeq (ih (i + 1) _ _ (by omega) hQ) (by rw [xhb_s]; first | rw [if_pos ⟨by assumption, Or.inl (by assumption), Or.inl (by assumption)⟩] | rw [if_pos ⟨by assumption, Or.inl (by assumption), Or.inr (by assumption)⟩] | rw [if_pos ⟨by assumption, Or.inr (by assumption), Or.inl (by assumption)⟩] | rw [if_pos ⟨by assumption, Or.inr (by assumption), Or.inr (by assumption)⟩] | rw [if_neg (fun w => absurd (by assumption) w.1)] | rw [if_neg (fun w => w.2.1.elim (by assumption) (by assumption))] | rw [if_neg (fun w => w.2.2.elim (by assumption) (by assumption))]))
          · first | refine zcdB (fun h9 => ?_) (fun h9 => ?_) | refine zcd (fun h9 => ?_) (fun h9 => ?_)
            · first | (exfalso; omega) | (rw [zad_s (i := i) (by omega)]; exact zeq (ih (i + 1) _ _ (by omega) hQ) (by rw [xhb_s]; first | rw [if_pos ⟨by assumption, Or.inl (by assumption), Or.inl (by assumption)⟩] | rw [if_pos ⟨by assumption, Or.inl (by assumption), Or.inr (by assumption)⟩] | rw [if_pos ⟨by assumption, Or.inr (by assumption), Or.inl (by assumption)⟩] | rw [if_pos ⟨by assumption, Or.inr (by assumption), Or.inr (by assumption)⟩] | rw [if_neg (fun w => absurd (by assumption) w.1)] | rw [if_neg (fun w => w.2.1.elim (by assumption) (by assumption))] | rw [if_neg (fun w => w.2.2.elim (by assumption) (by assumption))]))
            · first | refine zcdB (fun h10 => ?_) (fun h10 => ?_) | refine zcd (fun h10 => ?_) (fun h10 => ?_)
              · first | (exfalso; omega) | (rw [zad_s (i := i) (by omega)]; exact zeq (ih (i + 1) _ _ (by omega) hQ) (by rw [xhb_s]; first | rw [if_pos ⟨by assumption, Or.inl (by assumption), Or.inl (by assumption)⟩] | rw [if_pos ⟨by assumption, Or.inl (by assumption), Or.inr (by assumption)⟩] | rw [if_pos ⟨by assumption, Or.inr (by assumption), Or.inl (by assumption)⟩] | rw [if_pos ⟨by assumption, Or.inr (by assumption), Or.inr (by assumption)⟩] | rw [if_neg (fun w => absurd (by assumption) w.1)] | rw [if_neg (fun w => w.2.1.elim (by assumption) (by assumption))] | rw [if_neg (fun w => w.2.2.elim (by assumption) (by assumption))]))
              · refine c_isHigher ?_
                refine (sg_X4_highestBelow_72_7 _ _ _ _ _ _ _ _ _).mpr ?_
                first | refine zcdB (fun h11 => ?_) (fun h11 => ?_) | refine zcd (fun h11 => ?_) (fun h11 => ?_)
                · first | (exfalso; omega) | (rw [zad_s (i := i) (by omega)]; exact zeq (ih (i + 1) _ _ (by omega) hQ) (by rw [xhb_s]; first | rw [if_pos ⟨by assumption, Or.inl (by assumption), Or.inl (by assumption)⟩] | rw [if_pos ⟨by assumption, Or.inl (by assumption), Or.inr (by assumption)⟩] | rw [if_pos ⟨by assumption, Or.inr (by assumption), Or.inl (by assumption)⟩] | rw [if_pos ⟨by assumption, Or.inr (by assumption), Or.inr (by assumption)⟩] | rw [if_neg (fun w => absurd (by assumption) w.1)] | rw [if_neg (fun w => w.2.1.elim (by assumption) (by assumption))] | rw [if_neg (fun w => w.2.2.elim (by assumption) (by assumption))]))
                · first | (exfalso; omega) | (rw [zad_s (i := i) (by omega)]; exact zeq (ih (i + 1) _ _ (by omega) hQ) (by rw [xhb_s]; first | rw [if_pos ⟨by assumption, Or.inl (by assumption), Or.inl (by assumption)⟩] | rw [if_pos ⟨by assumption, Or.inl (by assumption), Or.inr (by assumption)⟩] | rw [if_pos ⟨by assumption, Or.inr (by assumption), Or.inl (by assumption)⟩] | rw [if_pos ⟨by assumption, Or.inr (by assumption), Or.inr (by assumption)⟩] | rw [if_neg (fun w => absurd (by assumption) w.1)] | rw [if_neg (fun w => w.2.1.elim (by assumption) (by assumption))] | rw [if_neg (fun w => w.2.2.elim (by assumption) (by assumption))]))
        · first | refine zcdB (fun h12 => ?_) (fun h12 => ?_) | refine zcd (fun h12 => ?_) (fun h12 => ?_)
          · first | (exfalso; omega) | (rw [zad_s (i := i) (by omega)]; exact zeq (ih (i + 1) _ _ (by omega) hQ) (by rw [xhb_s]; first | rw [if_pos ⟨by assumption, Or.inl (by assumption), Or.inl (by assumption)⟩] | rw [if_pos ⟨by assumption, Or.inl (by assumption), Or.inr (by assumption)⟩] | rw [if_pos ⟨by assumption, Or.inr (by assumption), Or.inl (by assumption)⟩] | rw [if_pos ⟨by assumption, Or.inr (by assumption), Or.inr (by assumption)⟩] | rw [if_neg (fun w => absurd (by assumption) w.1)] | rw [if_neg (fun w => w.2.1.elim (by assumption) (by assumption))] | rw [if_neg (fun w => w.2.2.elim (by assumption) (by assumption))]))
          · first | refine zcdB (fun h13 => ?_) (fun h13 => ?_) | refine zcd (fun h13 => ?_) (fun h13 => ?_)
            · first | (exfalso; omega) | (rw [zad_s (i := i) (by omega)]; exact zeq (ih (i + 1) _ _ (by omega) hQ) (by rw [xhb_s]; first | rw [if_pos ⟨by assumption, Or.inl (by assumption), Or.inl (by assumption)⟩] | rw [if_pos ⟨by assumption, Or.inl (by assumption), Or.inr (by assumption)⟩] | rw [if_pos ⟨by assumption, Or.inr (by assumption), Or.inl (by assumption)⟩] | rw [if_pos ⟨by assumption, Or.inr (by assumption), Or.inr (by assumption)⟩] | rw [if_neg (fun w => absurd (by assumption) w.1)] | rw [if_neg (fun w => w.2.1.elim (by assumption) (by assumption))] | rw [if_neg (fun w => w.2.2.elim (by assumption) (by assumption))]))
            · first | refine zcdB (fun h14 => ?_) (fun h14 => ?_) | refine zcd (fun h14 => ?_) (fun h14 => ?_)
              · first | (exfalso; omega) | (rw [zad_s (i := i) (by omega)]; exact zeq (ih (i + 1) _ _ (by omega) hQ) (by rw [xhb_s]; first | rw [if_pos ⟨by assumption, Or.inl (by assumption), Or.inl (by assumption)⟩] | rw [if_pos ⟨by assumption, Or.inl (by assumption), Or.inr (by assumption)⟩] | rw [if_pos ⟨by assumption, Or.inr (by assumption), Or.inl (by assumption)⟩] | rw [if_pos ⟨by assumption, Or.inr (by assumption), Or.inr (by assumption)⟩] | rw [if_neg (fun w => absurd (by assumption) w.1)] | rw [if_neg (fun w => w.2.1.elim (by assumption) (by assumption))] | rw [if_neg (fun w => w.2.2.elim (by assumption) (by assumption))]))
              · refine c_isHigher ?_
                refine (sg_X4_highestBelow_72_7 _ _ _ _ _ _ _ _ _).mpr ?_
                first | refine zcdB (fun h15 => ?_) (fun h15 => ?_) | refine zcd (fun h15 => ?_) (fun h15 => ?_)
                · first | (exfalso; omega) | (rw [zad_s (i := i) (by omega)]; exact zeq (ih (i + 1) _ _ (by omega) hQ) (by rw [xhb_s]; first | rw [if_pos ⟨by assumption, Or.inl (by assumption), Or.inl (by assumption)⟩] | rw [if_pos ⟨by assumption, Or.inl (by assumption), Or.inr (by assumption)⟩] | rw [if_pos ⟨by assumption, Or.inr (by assumption), Or.inl (by assumption)⟩] | rw [if_pos ⟨by assumption, Or.inr (by assumption), Or.inr (by assumption)⟩] | rw [if_neg (fun w => absurd (by assumption) w.1)] | rw [if_neg (fun w => w.2.1.elim (by assumption) (by assumption))] | rw [if_neg (fun w => w.2.2.elim (by assumption) (by assumption))]))
                · first | (exfalso; omega) | (rw [zad_s (i := i) (by omega)]; exact zeq (ih (i + 1) _ _ (by omega) hQ) (by rw [xhb_s]; first | rw [if_pos ⟨by assumption, Or.inl (by assumption), Or.inl (by assumption)⟩] | rw [if_pos ⟨by assumption, Or.inl (by assumption), Or.inr (by assumption)⟩] | rw [if_pos ⟨by assumption, Or.inr (by assumption), Or.inl (by assumption)⟩] | rw [if_pos ⟨by assumption, Or.inr (by assumption), Or.inr (by assumption)⟩] | rw [if_neg (fun w => absurd (by assumption) w.1)] | rw [if_neg (fun w => w.2.1.elim (by assumption) (by assumption))] | rw [if_neg (fun w => w.2.2.elim (by assumption) (by assumption))]))
    · first | (exfalso; omega) | (obtain rfl : i = 6 := (by omega); exact hQ)
theorem c_highestBelow_7 {S : PS} {I : Nat → Nat → Int} {Q : PV1 → Prop} {l : Int} {u2 : PV} {u3 : PV} {u4 : PV} {u5 : PV}  (hQ : Q (some (zI (xhb I 8 l 6)), zH S I)) : Wp 74 (0, [zA 7, zI l, u2, u3, u4, u5], [], zH S I) Q := by
  refine (sg_X4_highestBelow_0_7 _ _ _ _ _ _ _ _).mpr ?_
  exact l_highestBelow_7 6 0 _ _ rfl hQ
theorem l_packed_7 {S : PS} {I : Nat → Nat → Int} {Q : PV1 → Prop} (hr : ∀ p, p < 6 → -1 ≤ I 8 p ∧ I 8 p ≤ 15) (hQ : Q (some (zI (xpk (I 8) 6)), zH S I)) : ∀ (k j : Nat), j + k = 6 → Wp 75 (10, [zA 7, zI (xpk (I 8) j), zI (5 - (j : Int))], [], zH S I) Q := by
  intro k
  induction k with
  | zero =>
    intro j hj
    obtain rfl : j = 6 := by omega
    refine (sg_X4_packed_10_7 _ _ _ _ _).mpr ?_
    refine zcd (fun _ => hQ) (fun h => absurd (by omega) h)
  | succ k ih =>
    intro j hj
    refine (sg_X4_packed_10_7 _ _ _ _ _).mpr ?_
    refine zcd (fun h => ?_) (fun _ => ?_)
    · exfalso; omega
    refine zgd (by omega) ?_
    have h1 := xpk_in hr j (by omega)
    have h2 := hr (5 - j) (by omega)
    have h3 : (17 : Int) ^ j ≤ 1419857 := by rcases (show j = 0 ∨ j = 1 ∨ j = 2 ∨ j = 3 ∨ j = 4 ∨ j = 5 by omega) with rfl | rfl | rfl | rfl | rfl | rfl <;> decide
    have h4 : ((5 : Int) - (j : Int)).toNat = 5 - j := by omega
    rw [h4, zml_eq (by omega), zad_eq (a := xpk (I 8) j * 17) (by omega), zad_eq (b := 1) (by omega), zad_eq (by omega)]
    exact zeq (ih (j + 1) (by omega)) (by rw [show (5 : Int) - (j : Int) + -1 = 5 - ((j + 1 : Nat) : Int) by omega]; rfl)
theorem c_packed_7 {S : PS} {I : Nat → Nat → Int} {Q : PV1 → Prop} {u1 : PV} {u2 : PV} (hr : ∀ p, p < 6 → -1 ≤ I 8 p ∧ I 8 p ≤ 15) (hQ : Q (some (zI (xpk (I 8) 6)), zH S I)) : Wp 75 (0, [zA 7, u1, u2], [], zH S I) Q := by
  refine (sg_X4_packed_0_7 _ _ _ _ _).mpr ?_
  rw [show zsb 6 1 = 5 - ((0 : Nat) : Int) by decide]
  exact l_packed_7 hr hQ 6 0 rfl
theorem l_unpack_7 {S : PS} {I : Nat → Nat → Int} {Q : PV1 → Prop} {code : Int} {u : PV} (hc : 0 ≤ code ∧ code < 2147483648) (hQ : Q (none, zH S (zmapc I 8 6 (xdg code)))) : ∀ (k i : Nat), i + k = 6 → Wp 76 (4, [zA 7, u, zI (code / 17 ^ i), zI (i : Int)], [], zH S (zmapc I 8 i (xdg code))) Q := by
  intro k
  induction k with
  | zero =>
    intro i hi
    obtain rfl : i = 6 := by omega
    refine (sg_X4_unpack_4_7 _ _ _ _ _ _).mpr ?_
    refine zcd (fun h => absurd h (by omega)) (fun _ => hQ)
  | succ k ih =>
    intro i hi
    refine (sg_X4_unpack_4_7 _ _ _ _ _ _).mpr ?_
    refine zcd (fun _ => ?_) (fun h => absurd (by omega) h)
    refine zgn (by decide) (zgd (by omega) (zgn (by decide) ?_))
    have h0 : (0 : Int) < 17 ^ i := Int.pow_pos (by decide)
    have h1 : 0 ≤ code / 17 ^ i := Int.ediv_nonneg hc.1 (by omega)
    have h2 : code / 17 ^ i ≤ code := Int.ediv_le_self _ hc.1
    have h3 := Int.emod_nonneg (code / 17 ^ i) (show (17 : Int) ≠ 0 by decide)
    have h4 := Int.emod_lt_of_pos (code / 17 ^ i) (show (0 : Int) < 17 by decide)
    rw [Int.toNat_natCast, zrm_eq h1 (by omega) (by decide) (by decide), zdv_eq h1 (by omega) (by decide) (by decide), zsb_eq (by omega), zad_s (by omega), zmapc_s I 8 i (xdg code) (x := code / 17 ^ i % 17 - 1) rfl]
    rw [Int.ediv_ediv_of_nonneg (by omega), ← Int.pow_succ]
    exact ih (i + 1) (by omega)
theorem c_unpack_7 {S : PS} {I : Nat → Nat → Int} {Q : PV1 → Prop} {code : Int} {u2 : PV} {u3 : PV} (hc : 0 ≤ code ∧ code < 2147483648) (hQ : Q (none, zH S (zmapc I 8 6 (xdg code)))) : Wp 76 (0, [zA 7, zI code, u2, u3], [], zH S I) Q := by
  refine (sg_X4_unpack_0_7 _ _ _ _ _ _).mpr ?_
  have q := l_unpack_7 (u := zI code) (I := I) hc hQ 6 0 rfl
  rw [zmapc_0] at q
  simpa using q
theorem l_noteActs_7 {S : PS} {I : Nat → Nat → Int} {Q : PV1 → Prop} (hQ : Q (none, zH S (zmapc I 31 32 (fun k => xjud I 8 (k : Int))))) : ∀ (k i : Nat), i + k = 32 → Wp 69 (2, [zA 7, zA 31, zI (i : Int)], [], zH S (zmapc I 31 i (fun k => xjud I 8 (k : Int)))) Q := by
  intro k
  induction k with
  | zero =>
    intro i hi
    obtain rfl : i = 32 := by omega
    refine (sg_X4_noteActs_2_7_31 _ _ _ _).mpr ?_
    refine zcd (fun h => absurd h (by omega)) (fun _ => hQ)
  | succ k ih =>
    intro i hi
    refine (sg_X4_noteActs_2_7_31 _ _ _ _).mpr ?_
    refine zcd (fun _ => ?_) (fun h => absurd (by omega) h)
    refine c_actFor_7 ?_
    refine (sg_X4_noteActs_15_7_31_31 _ _ _ _ _ _).mpr ?_
    refine zgd (by omega) ?_
    rw [Int.toNat_natCast, zad_s (by omega), zmapc_s I 31 i (fun k => xjud I 8 (k : Int)) (x := xjud (zmapc I 31 i fun k => xjud I 8 (k : Int)) 8 (i : Int)) rfl]
    exact ih (i + 1) (by omega)
theorem c_noteActs_7 {S : PS} {I : Nat → Nat → Int} {Q : PV1 → Prop} {u2 : PV}  (hQ : Q (none, zH S (zmapc I 31 32 (fun k => xjud I 8 (k : Int))))) : Wp 69 (0, [zA 7, zA 31, u2], [], zH S I) Q := by
  refine (sg_X4_noteActs_0_7_31 _ _ _ _).mpr ?_
  have q := l_noteActs_7 (I := I) hQ 32 0 rfl
  rw [zmapc_0] at q
  exact q
theorem l_hasActs_7 {S : PS} {I : Nat → Nat → Int} {Q : PV1 → Prop}  : ∀ (k i : Nat), i + k = 32 →  Q (some (zI (zB (zfs (fun k => I 31 k ≠ xjud I 8 (k : Int)) k i = -1))), zH S I) → Wp 70 (2, [zA 7, zA 31, zI ((i : Int))], [], zH S I) Q := by
  intro k
  induction k with
  | zero =>
    intro i hi hQ
    refine (sg_X4_hasActs_2_7_31 _ _ _ _).mpr ?_
    try simp only [Int.toNat_natCast]
    first | refine zcdB (fun h1 => ?_) (fun h1 => ?_) | refine zcd (fun h1 => ?_) (fun h1 => ?_)
    · refine zgd (by first | omega | (simp (disch := decide) only [zs2_ne, zs2_ne2, zs2_at]; omega) | (simp; done)) ?_
      refine c_actFor_7 ?_
      refine (sg_X4_hasActs_16_7_31 _ _ _ _ _ _).mpr ?_
      first | refine zcdB (fun h2 => ?_) (fun h2 => ?_) | refine zcd (fun h2 => ?_) (fun h2 => ?_)
      · exfalso; omega
      · refine zgb (by first | omega | (simp (disch := decide) only [zs2_ne, zs2_ne2, zs2_at]; omega) | (simp; done)) ?_
        first | (exfalso; omega) | exact zq hQ (zB_t (by simp [zfs])) rfl | (rw [zfs_t (by assumption)] at hQ; exact zq hQ (zB_f (by omega)) rfl)
    · refine zgb (by first | omega | (simp (disch := decide) only [zs2_ne, zs2_ne2, zs2_at]; omega) | (simp; done)) ?_
      first | (exfalso; omega) | exact zq hQ (zB_t (by simp [zfs])) rfl | (rw [zfs_t (by assumption)] at hQ; exact zq hQ (zB_f (by omega)) rfl)
  | succ k ih =>
    intro i hi hQ
    refine (sg_X4_hasActs_2_7_31 _ _ _ _).mpr ?_
    try simp only [Int.toNat_natCast]
    first | refine zcdB (fun h1 => ?_) (fun h1 => ?_) | refine zcd (fun h1 => ?_) (fun h1 => ?_)
    · refine zgd (by first | omega | (simp (disch := decide) only [zs2_ne, zs2_ne2, zs2_at]; omega) | (simp; done)) ?_
      refine c_actFor_7 ?_
      refine (sg_X4_hasActs_16_7_31 _ _ _ _ _ _).mpr ?_
      first | refine zcdB (fun h2 => ?_) (fun h2 => ?_) | refine zcd (fun h2 => ?_) (fun h2 => ?_)
      · rw [zad_s (by omega)]
        exact ih (i + 1) (by omega) (by rw [zfs_f (fun w => w (by assumption))] at hQ; exact hQ)
      · refine zgb (by first | omega | (simp (disch := decide) only [zs2_ne, zs2_ne2, zs2_at]; omega) | (simp; done)) ?_
        first | (exfalso; omega) | exact zq hQ (zB_t (by simp [zfs])) rfl | (rw [zfs_t (by assumption)] at hQ; exact zq hQ (zB_f (by omega)) rfl)
    · refine zgb (by first | omega | (simp (disch := decide) only [zs2_ne, zs2_ne2, zs2_at]; omega) | (simp; done)) ?_
      first | (exfalso; omega) | exact zq hQ (zB_t (by simp [zfs])) rfl | (rw [zfs_t (by assumption)] at hQ; exact zq hQ (zB_f (by omega)) rfl)
theorem c_hasActs_7 {S : PS} {I : Nat → Nat → Int} {Q : PV1 → Prop} {u2 : PV}  (hQ : Q (some (zI (zB (zfs (fun k => I 31 k ≠ xjud I 8 (k : Int)) 32 0 = -1))), zH S I)) : Wp 70 (0, [zA 7, zA 31, u2], [], zH S I) Q := by
  refine (sg_X4_hasActs_0_7_31 _ _ _ _).mpr ?_
  exact l_hasActs_7 32 0 rfl hQ
theorem l_highestBelow_9 {S : PS} {I : Nat → Nat → Int} {Q : PV1 → Prop} {l : Int} : ∀ (k i : Nat) (u4 : PV) (u5 : PV), i + k = 6 →  Q (some (zI (xhb I 10 l 6)), zH S I) → Wp 74 (4, [zA 9, zI l, zI ((xhb I 10 l i)), zI ((i : Int)), u4, u5], [], zH S I) Q := by
  intro k
  induction k with
  | zero =>
    intro i u4 u5 hi hQ
    refine (sg_X4_highestBelow_4_9 _ _ _ _ _ _ _ _).mpr ?_
    try simp only [Int.toNat_natCast]
    first | refine zcdB (fun h1 => ?_) (fun h1 => ?_) | refine zcd (fun h1 => ?_) (fun h1 => ?_)
    · refine zgd (by first | omega | (simp (disch := decide) only [zs2_ne, zs2_ne2, zs2_at]; omega) | (simp; done)) ?_
      first | refine zcdB (fun h2 => ?_) (fun h2 => ?_) | refine zcd (fun h2 => ?_) (fun h2 => ?_)
      · first | refine zcdB (fun h3 => ?_) (fun h3 => ?_) | refine zcd (fun h3 => ?_) (fun h3 => ?_)
        · exfalso; omega
        · first | refine zcdB (fun h4 => ?_) (fun h4 => ?_) | refine zcd (fun h4 => ?_) (fun h4 => ?_)
          · exfalso; omega
          · first | refine zcdB (fun h5 => ?_) (fun h5 => ?_) | refine zcd (fun h5 => ?_) (fun h5 => ?_)
            · exfalso; omega
            · refine c_isHigher ?_
              refine (sg_X4_highestBelow_72_9 _ _ _ _ _ _ _ _ _).mpr ?_
              first | refine zcdB (fun h6 => ?_) (fun h6 => ?_) | refine zcd (fun h6 => ?_) (fun h6 => ?_)
              · exfalso; omega
              · exfalso; omega
      · refine c_isHigher ?_
        refine (sg_X4_highestBelow_36_9 _ _ _ _ _ _ _ _ _).mpr ?_
        first | refine zcdB (fun h7 => ?_) (fun h7 => ?_) | refine zcd (fun h7 => ?_) (fun h7 => ?_)
        · first | refine zcdB (fun h8 => ?_) (fun h8 => ?_) | refine zcd (fun h8 => ?_) (fun h8 => ?_)
          · exfalso; omega
          · first | refine zcdB (fun h9 => ?_) (fun h9 => ?_) | refine zcd (fun h9 => ?_) (fun h9 => ?_)
            · exfalso; omega
            · first | refine zcdB (fun h10 => ?_) (fun h10 => ?_) | refine zcd (fun h10 => ?_) (fun h10 => ?_)
              · exfalso; omega
              · refine c_isHigher ?_
                refine (sg_X4_highestBelow_72_9 _ _ _ _ _ _ _ _ _).mpr ?_
                first | refine zcdB (fun h11 => ?_) (fun h11 => ?_) | refine zcd (fun h11 => ?_) (fun h11 => ?_)
                · exfalso; omega
                · exfalso; omega
        · first | refine zcdB (fun h12 => ?_) (fun h12 => ?_) | refine zcd (fun h12 => ?_) (fun h12 => ?_)
          · exfalso; omega
          · first | refine zcdB (fun h13 => ?_) (fun h13 => ?_) | refine zcd (fun h13 => ?_) (fun h13 => ?_)
            · exfalso; omega
            · first | refine zcdB (fun h14 => ?_) (fun h14 => ?_) | refine zcd (fun h14 => ?_) (fun h14 => ?_)
              · exfalso; omega
              · refine c_isHigher ?_
                refine (sg_X4_highestBelow_72_9 _ _ _ _ _ _ _ _ _).mpr ?_
                first | refine zcdB (fun h15 => ?_) (fun h15 => ?_) | refine zcd (fun h15 => ?_) (fun h15 => ?_)
                · exfalso; omega
                · exfalso; omega
    · first | (exfalso; omega) | (obtain rfl : i = 6 := (by omega); exact hQ)
  | succ k ih =>
    intro i u4 u5 hi hQ
    refine (sg_X4_highestBelow_4_9 _ _ _ _ _ _ _ _).mpr ?_
    try simp only [Int.toNat_natCast]
    first | refine zcdB (fun h1 => ?_) (fun h1 => ?_) | refine zcd (fun h1 => ?_) (fun h1 => ?_)
    · refine zgd (by first | omega | (simp (disch := decide) only [zs2_ne, zs2_ne2, zs2_at]; omega) | (simp; done)) ?_
      first | refine zcdB (fun h2 => ?_) (fun h2 => ?_) | refine zcd (fun h2 => ?_) (fun h2 => ?_)
      · first | refine zcdB (fun h3 => ?_) (fun h3 => ?_) | refine zcd (fun h3 => ?_) (fun h3 => ?_)
        · first | (exfalso; omega) | (rw [zad_s (i := i) (by omega)]; exact zeq (ih (i + 1) _ _ (by omega) hQ) (by rw [xhb_s]; first | rw [if_pos ⟨by assumption, Or.inl (by assumption), Or.inl (by assumption)⟩] | rw [if_pos ⟨by assumption, Or.inl (by assumption), Or.inr (by assumption)⟩] | rw [if_pos ⟨by assumption, Or.inr (by assumption), Or.inl (by assumption)⟩] | rw [if_pos ⟨by assumption, Or.inr (by assumption), Or.inr (by assumption)⟩] | rw [if_neg (fun w => absurd (by assumption) w.1)] | rw [if_neg (fun w => w.2.1.elim (by assumption) (by assumption))] | rw [if_neg (fun w => w.2.2.elim (by assumption) (by assumption))]))
        · first | refine zcdB (fun h4 => ?_) (fun h4 => ?_) | refine zcd (fun h4 => ?_) (fun h4 => ?_)
          · first | (exfalso; omega) | (rw [zad_s (i := i) (by omega)]; exact zeq (ih (i + 1) _ _ (by omega) hQ) (by rw [xhb_s]; first | rw [if_pos ⟨by assumption, Or.inl (by assumption), Or.inl (by assumption)⟩] | rw [if_pos ⟨by assumption, Or.inl (by assumption), Or.inr (by assumption)⟩] | rw [if_pos ⟨by assumption, Or.inr (by assumption), Or.inl (by assumption)⟩] | rw [if_pos ⟨by assumption, Or.inr (by assumption), Or.inr (by assumption)⟩] | rw [if_neg (fun w => absurd (by assumption) w.1)] | rw [if_neg (fun w => w.2.1.elim (by assumption) (by assumption))] | rw [if_neg (fun w => w.2.2.elim (by assumption) (by assumption))]))
          · first | refine zcdB (fun h5 => ?_) (fun h5 => ?_) | refine zcd (fun h5 => ?_) (fun h5 => ?_)
            · first | (exfalso; omega) | (rw [zad_s (i := i) (by omega)]; exact zeq (ih (i + 1) _ _ (by omega) hQ) (by rw [xhb_s]; first | rw [if_pos ⟨by assumption, Or.inl (by assumption), Or.inl (by assumption)⟩] | rw [if_pos ⟨by assumption, Or.inl (by assumption), Or.inr (by assumption)⟩] | rw [if_pos ⟨by assumption, Or.inr (by assumption), Or.inl (by assumption)⟩] | rw [if_pos ⟨by assumption, Or.inr (by assumption), Or.inr (by assumption)⟩] | rw [if_neg (fun w => absurd (by assumption) w.1)] | rw [if_neg (fun w => w.2.1.elim (by assumption) (by assumption))] | rw [if_neg (fun w => w.2.2.elim (by assumption) (by assumption))]))
            · refine c_isHigher ?_
              refine (sg_X4_highestBelow_72_9 _ _ _ _ _ _ _ _ _).mpr ?_
              first | refine zcdB (fun h6 => ?_) (fun h6 => ?_) | refine zcd (fun h6 => ?_) (fun h6 => ?_)
              · first | (exfalso; omega) | (rw [zad_s (i := i) (by omega)]; exact zeq (ih (i + 1) _ _ (by omega) hQ) (by rw [xhb_s]; first | rw [if_pos ⟨by assumption, Or.inl (by assumption), Or.inl (by assumption)⟩] | rw [if_pos ⟨by assumption, Or.inl (by assumption), Or.inr (by assumption)⟩] | rw [if_pos ⟨by assumption, Or.inr (by assumption), Or.inl (by assumption)⟩] | rw [if_pos ⟨by assumption, Or.inr (by assumption), Or.inr (by assumption)⟩] | rw [if_neg (fun w => absurd (by assumption) w.1)] | rw [if_neg (fun w => w.2.1.elim (by assumption) (by assumption))] | rw [if_neg (fun w => w.2.2.elim (by assumption) (by assumption))]))
              · first | (exfalso; omega) | (rw [zad_s (i := i) (by omega)]; exact zeq (ih (i + 1) _ _ (by omega) hQ) (by rw [xhb_s]; first | rw [if_pos ⟨by assumption, Or.inl (by assumption), Or.inl (by assumption)⟩] | rw [if_pos ⟨by assumption, Or.inl (by assumption), Or.inr (by assumption)⟩] | rw [if_pos ⟨by assumption, Or.inr (by assumption), Or.inl (by assumption)⟩] | rw [if_pos ⟨by assumption, Or.inr (by assumption), Or.inr (by assumption)⟩] | rw [if_neg (fun w => absurd (by assumption) w.1)] | rw [if_neg (fun w => w.2.1.elim (by assumption) (by assumption))] | rw [if_neg (fun w => w.2.2.elim (by assumption) (by assumption))]))
      · refine c_isHigher ?_
        refine (sg_X4_highestBelow_36_9 _ _ _ _ _ _ _ _ _).mpr ?_
        first | refine zcdB (fun h7 => ?_) (fun h7 => ?_) | refine zcd (fun h7 => ?_) (fun h7 => ?_)
        · first | refine zcdB (fun h8 => ?_) (fun h8 => ?_) | refine zcd (fun h8 => ?_) (fun h8 => ?_)
          · first | (exfalso; omega) | (rw [zad_s (i := i) (by omega)]; exact zeq (ih (i + 1) _ _ (by omega) hQ) (by rw [xhb_s]; first | rw [if_pos ⟨by assumption, Or.inl (by assumption), Or.inl (by assumption)⟩] | rw [if_pos ⟨by assumption, Or.inl (by assumption), Or.inr (by assumption)⟩] | rw [if_pos ⟨by assumption, Or.inr (by assumption), Or.inl (by assumption)⟩] | rw [if_pos ⟨by assumption, Or.inr (by assumption), Or.inr (by assumption)⟩] | rw [if_neg (fun w => absurd (by assumption) w.1)] | rw [if_neg (fun w => w.2.1.elim (by assumption) (by assumption))] | rw [if_neg (fun w => w.2.2.elim (by assumption) (by assumption))]))
          · first | refine zcdB (fun h9 => ?_) (fun h9 => ?_) | refine zcd (fun h9 => ?_) (fun h9 => ?_)
            · first | (exfalso; omega) | (rw [zad_s (i := i) (by omega)]; exact zeq (ih (i + 1) _ _ (by omega) hQ) (by rw [xhb_s]; first | rw [if_pos ⟨by assumption, Or.inl (by assumption), Or.inl (by assumption)⟩] | rw [if_pos ⟨by assumption, Or.inl (by assumption), Or.inr (by assumption)⟩] | rw [if_pos ⟨by assumption, Or.inr (by assumption), Or.inl (by assumption)⟩] | rw [if_pos ⟨by assumption, Or.inr (by assumption), Or.inr (by assumption)⟩] | rw [if_neg (fun w => absurd (by assumption) w.1)] | rw [if_neg (fun w => w.2.1.elim (by assumption) (by assumption))] | rw [if_neg (fun w => w.2.2.elim (by assumption) (by assumption))]))
            · first | refine zcdB (fun h10 => ?_) (fun h10 => ?_) | refine zcd (fun h10 => ?_) (fun h10 => ?_)
              · first | (exfalso; omega) | (rw [zad_s (i := i) (by omega)]; exact zeq (ih (i + 1) _ _ (by omega) hQ) (by rw [xhb_s]; first | rw [if_pos ⟨by assumption, Or.inl (by assumption), Or.inl (by assumption)⟩] | rw [if_pos ⟨by assumption, Or.inl (by assumption), Or.inr (by assumption)⟩] | rw [if_pos ⟨by assumption, Or.inr (by assumption), Or.inl (by assumption)⟩] | rw [if_pos ⟨by assumption, Or.inr (by assumption), Or.inr (by assumption)⟩] | rw [if_neg (fun w => absurd (by assumption) w.1)] | rw [if_neg (fun w => w.2.1.elim (by assumption) (by assumption))] | rw [if_neg (fun w => w.2.2.elim (by assumption) (by assumption))]))
              · refine c_isHigher ?_
                refine (sg_X4_highestBelow_72_9 _ _ _ _ _ _ _ _ _).mpr ?_
                first | refine zcdB (fun h11 => ?_) (fun h11 => ?_) | refine zcd (fun h11 => ?_) (fun h11 => ?_)
                · first | (exfalso; omega) | (rw [zad_s (i := i) (by omega)]; exact zeq (ih (i + 1) _ _ (by omega) hQ) (by rw [xhb_s]; first | rw [if_pos ⟨by assumption, Or.inl (by assumption), Or.inl (by assumption)⟩] | rw [if_pos ⟨by assumption, Or.inl (by assumption), Or.inr (by assumption)⟩] | rw [if_pos ⟨by assumption, Or.inr (by assumption), Or.inl (by assumption)⟩] | rw [if_pos ⟨by assumption, Or.inr (by assumption), Or.inr (by assumption)⟩] | rw [if_neg (fun w => absurd (by assumption) w.1)] | rw [if_neg (fun w => w.2.1.elim (by assumption) (by assumption))] | rw [if_neg (fun w => w.2.2.elim (by assumption) (by assumption))]))
                · first | (exfalso; omega) | (rw [zad_s (i := i) (by omega)]; exact zeq (ih (i + 1) _ _ (by omega) hQ) (by rw [xhb_s]; first | rw [if_pos ⟨by assumption, Or.inl (by assumption), Or.inl (by assumption)⟩] | rw [if_pos ⟨by assumption, Or.inl (by assumption), Or.inr (by assumption)⟩] | rw [if_pos ⟨by assumption, Or.inr (by assumption), Or.inl (by assumption)⟩] | rw [if_pos ⟨by assumption, Or.inr (by assumption), Or.inr (by assumption)⟩] | rw [if_neg (fun w => absurd (by assumption) w.1)] | rw [if_neg (fun w => w.2.1.elim (by assumption) (by assumption))] | rw [if_neg (fun w => w.2.2.elim (by assumption) (by assumption))]))
        · first | refine zcdB (fun h12 => ?_) (fun h12 => ?_) | refine zcd (fun h12 => ?_) (fun h12 => ?_)
          · first | (exfalso; omega) | (rw [zad_s (i := i) (by omega)]; exact zeq (ih (i + 1) _ _ (by omega) hQ) (by rw [xhb_s]; first | rw [if_pos ⟨by assumption, Or.inl (by assumption), Or.inl (by assumption)⟩] | rw [if_pos ⟨by assumption, Or.inl (by assumption), Or.inr (by assumption)⟩] | rw [if_pos ⟨by assumption, Or.inr (by assumption), Or.inl (by assumption)⟩] | rw [if_pos ⟨by assumption, Or.inr (by assumption), Or.inr (by assumption)⟩] | rw [if_neg (fun w => absurd (by assumption) w.1)] | rw [if_neg (fun w => w.2.1.elim (by assumption) (by assumption))] | rw [if_neg (fun w => w.2.2.elim (by assumption) (by assumption))]))
          · first | refine zcdB (fun h13 => ?_) (fun h13 => ?_) | refine zcd (fun h13 => ?_) (fun h13 => ?_)
            · first | (exfalso; omega) | (rw [zad_s (i := i) (by omega)]; exact zeq (ih (i + 1) _ _ (by omega) hQ) (by rw [xhb_s]; first | rw [if_pos ⟨by assumption, Or.inl (by assumption), Or.inl (by assumption)⟩] | rw [if_pos ⟨by assumption, Or.inl (by assumption), Or.inr (by assumption)⟩] | rw [if_pos ⟨by assumption, Or.inr (by assumption), Or.inl (by assumption)⟩] | rw [if_pos ⟨by assumption, Or.inr (by assumption), Or.inr (by assumption)⟩] | rw [if_neg (fun w => absurd (by assumption) w.1)] | rw [if_neg (fun w => w.2.1.elim (by assumption) (by assumption))] | rw [if_neg (fun w => w.2.2.elim (by assumption) (by assumption))]))
            · first | refine zcdB (fun h14 => ?_) (fun h14 => ?_) | refine zcd (fun h14 => ?_) (fun h14 => ?_)
              · first | (exfalso; omega) | (rw [zad_s (i := i) (by omega)]; exact zeq (ih (i + 1) _ _ (by omega) hQ) (by rw [xhb_s]; first | rw [if_pos ⟨by assumption, Or.inl (by assumption), Or.inl (by assumption)⟩] | rw [if_pos ⟨by assumption, Or.inl (by assumption), Or.inr (by assumption)⟩] | rw [if_pos ⟨by assumption, Or.inr (by assumption), Or.inl (by assumption)⟩] | rw [if_pos ⟨by assumption, Or.inr (by assumption), Or.inr (by assumption)⟩] | rw [if_neg (fun w => absurd (by assumption) w.1)] | rw [if_neg (fun w => w.2.1.elim (by assumption) (by assumption))] | rw [if_neg (fun w => w.2.2.elim (by assumption) (by assumption))]))
              · refine c_isHigher ?_
                refine (sg_X4_highestBelow_72_9 _ _ _ _ _ _ _ _ _).mpr ?_
                first | refine zcdB (fun h15 => ?_) (fun h15 => ?_) | refine zcd (fun h15 => ?_) (fun h15 => ?_)
                · first | (exfalso; omega) | (rw [zad_s (i := i) (by omega)]; exact zeq (ih (i + 1) _ _ (by omega) hQ) (by rw [xhb_s]; first | rw [if_pos ⟨by assumption, Or.inl (by assumption), Or.inl (by assumption)⟩] | rw [if_pos ⟨by assumption, Or.inl (by assumption), Or.inr (by assumption)⟩] | rw [if_pos ⟨by assumption, Or.inr (by assumption), Or.inl (by assumption)⟩] | rw [if_pos ⟨by assumption, Or.inr (by assumption), Or.inr (by assumption)⟩] | rw [if_neg (fun w => absurd (by assumption) w.1)] | rw [if_neg (fun w => w.2.1.elim (by assumption) (by assumption))] | rw [if_neg (fun w => w.2.2.elim (by assumption) (by assumption))]))
                · first | (exfalso; omega) | (rw [zad_s (i := i) (by omega)]; exact zeq (ih (i + 1) _ _ (by omega) hQ) (by rw [xhb_s]; first | rw [if_pos ⟨by assumption, Or.inl (by assumption), Or.inl (by assumption)⟩] | rw [if_pos ⟨by assumption, Or.inl (by assumption), Or.inr (by assumption)⟩] | rw [if_pos ⟨by assumption, Or.inr (by assumption), Or.inl (by assumption)⟩] | rw [if_pos ⟨by assumption, Or.inr (by assumption), Or.inr (by assumption)⟩] | rw [if_neg (fun w => absurd (by assumption) w.1)] | rw [if_neg (fun w => w.2.1.elim (by assumption) (by assumption))] | rw [if_neg (fun w => w.2.2.elim (by assumption) (by assumption))]))
    · first | (exfalso; omega) | (obtain rfl : i = 6 := (by omega); exact hQ)
theorem c_highestBelow_9 {S : PS} {I : Nat → Nat → Int} {Q : PV1 → Prop} {l : Int} {u2 : PV} {u3 : PV} {u4 : PV} {u5 : PV}  (hQ : Q (some (zI (xhb I 10 l 6)), zH S I)) : Wp 74 (0, [zA 9, zI l, u2, u3, u4, u5], [], zH S I) Q := by
  refine (sg_X4_highestBelow_0_9 _ _ _ _ _ _ _ _).mpr ?_
  exact l_highestBelow_9 6 0 _ _ rfl hQ
theorem l_packed_9 {S : PS} {I : Nat → Nat → Int} {Q : PV1 → Prop} (hr : ∀ p, p < 6 → -1 ≤ I 10 p ∧ I 10 p ≤ 15) (hQ : Q (some (zI (xpk (I 10) 6)), zH S I)) : ∀ (k j : Nat), j + k = 6 → Wp 75 (10, [zA 9, zI (xpk (I 10) j), zI (5 - (j : Int))], [], zH S I) Q := by
  intro k
  induction k with
  | zero =>
    intro j hj
    obtain rfl : j = 6 := by omega
    refine (sg_X4_packed_10_9 _ _ _ _ _).mpr ?_
    refine zcd (fun _ => hQ) (fun h => absurd (by omega) h)
  | succ k ih =>
    intro j hj
    refine (sg_X4_packed_10_9 _ _ _ _ _).mpr ?_
    refine zcd (fun h => ?_) (fun _ => ?_)
    · exfalso; omega
    refine zgd (by omega) ?_
    have h1 := xpk_in hr j (by omega)
    have h2 := hr (5 - j) (by omega)
    have h3 : (17 : Int) ^ j ≤ 1419857 := by rcases (show j = 0 ∨ j = 1 ∨ j = 2 ∨ j = 3 ∨ j = 4 ∨ j = 5 by omega) with rfl | rfl | rfl | rfl | rfl | rfl <;> decide
    have h4 : ((5 : Int) - (j : Int)).toNat = 5 - j := by omega
    rw [h4, zml_eq (by omega), zad_eq (a := xpk (I 10) j * 17) (by omega), zad_eq (b := 1) (by omega), zad_eq (by omega)]
    exact zeq (ih (j + 1) (by omega)) (by rw [show (5 : Int) - (j : Int) + -1 = 5 - ((j + 1 : Nat) : Int) by omega]; rfl)
theorem c_packed_9 {S : PS} {I : Nat → Nat → Int} {Q : PV1 → Prop} {u1 : PV} {u2 : PV} (hr : ∀ p, p < 6 → -1 ≤ I 10 p ∧ I 10 p ≤ 15) (hQ : Q (some (zI (xpk (I 10) 6)), zH S I)) : Wp 75 (0, [zA 9, u1, u2], [], zH S I) Q := by
  refine (sg_X4_packed_0_9 _ _ _ _ _).mpr ?_
  rw [show zsb 6 1 = 5 - ((0 : Nat) : Int) by decide]
  exact l_packed_9 hr hQ 6 0 rfl
theorem l_unpack_9 {S : PS} {I : Nat → Nat → Int} {Q : PV1 → Prop} {code : Int} {u : PV} (hc : 0 ≤ code ∧ code < 2147483648) (hQ : Q (none, zH S (zmapc I 10 6 (xdg code)))) : ∀ (k i : Nat), i + k = 6 → Wp 76 (4, [zA 9, u, zI (code / 17 ^ i), zI (i : Int)], [], zH S (zmapc I 10 i (xdg code))) Q := by
  intro k
  induction k with
  | zero =>
    intro i hi
    obtain rfl : i = 6 := by omega
    refine (sg_X4_unpack_4_9 _ _ _ _ _ _).mpr ?_
    refine zcd (fun h => absurd h (by omega)) (fun _ => hQ)
  | succ k ih =>
    intro i hi
    refine (sg_X4_unpack_4_9 _ _ _ _ _ _).mpr ?_
    refine zcd (fun _ => ?_) (fun h => absurd (by omega) h)
    refine zgn (by decide) (zgd (by omega) (zgn (by decide) ?_))
    have h0 : (0 : Int) < 17 ^ i := Int.pow_pos (by decide)
    have h1 : 0 ≤ code / 17 ^ i := Int.ediv_nonneg hc.1 (by omega)
    have h2 : code / 17 ^ i ≤ code := Int.ediv_le_self _ hc.1
    have h3 := Int.emod_nonneg (code / 17 ^ i) (show (17 : Int) ≠ 0 by decide)
    have h4 := Int.emod_lt_of_pos (code / 17 ^ i) (show (0 : Int) < 17 by decide)
    rw [Int.toNat_natCast, zrm_eq h1 (by omega) (by decide) (by decide), zdv_eq h1 (by omega) (by decide) (by decide), zsb_eq (by omega), zad_s (by omega), zmapc_s I 10 i (xdg code) (x := code / 17 ^ i % 17 - 1) rfl]
    rw [Int.ediv_ediv_of_nonneg (by omega), ← Int.pow_succ]
    exact ih (i + 1) (by omega)
theorem c_unpack_9 {S : PS} {I : Nat → Nat → Int} {Q : PV1 → Prop} {code : Int} {u2 : PV} {u3 : PV} (hc : 0 ≤ code ∧ code < 2147483648) (hQ : Q (none, zH S (zmapc I 10 6 (xdg code)))) : Wp 76 (0, [zA 9, zI code, u2, u3], [], zH S I) Q := by
  refine (sg_X4_unpack_0_9 _ _ _ _ _ _).mpr ?_
  have q := l_unpack_9 (u := zI code) (I := I) hc hQ 6 0 rfl
  rw [zmapc_0] at q
  simpa using q
theorem l_noteActs_9 {S : PS} {I : Nat → Nat → Int} {Q : PV1 → Prop} (hQ : Q (none, zH S (zmapc I 31 32 (fun k => xjud I 10 (k : Int))))) : ∀ (k i : Nat), i + k = 32 → Wp 69 (2, [zA 9, zA 31, zI (i : Int)], [], zH S (zmapc I 31 i (fun k => xjud I 10 (k : Int)))) Q := by
  intro k
  induction k with
  | zero =>
    intro i hi
    obtain rfl : i = 32 := by omega
    refine (sg_X4_noteActs_2_9_31 _ _ _ _).mpr ?_
    refine zcd (fun h => absurd h (by omega)) (fun _ => hQ)
  | succ k ih =>
    intro i hi
    refine (sg_X4_noteActs_2_9_31 _ _ _ _).mpr ?_
    refine zcd (fun _ => ?_) (fun h => absurd (by omega) h)
    refine c_actFor_9 ?_
    refine (sg_X4_noteActs_15_9_31_31 _ _ _ _ _ _).mpr ?_
    refine zgd (by omega) ?_
    rw [Int.toNat_natCast, zad_s (by omega), zmapc_s I 31 i (fun k => xjud I 10 (k : Int)) (x := xjud (zmapc I 31 i fun k => xjud I 10 (k : Int)) 10 (i : Int)) rfl]
    exact ih (i + 1) (by omega)
theorem c_noteActs_9 {S : PS} {I : Nat → Nat → Int} {Q : PV1 → Prop} {u2 : PV}  (hQ : Q (none, zH S (zmapc I 31 32 (fun k => xjud I 10 (k : Int))))) : Wp 69 (0, [zA 9, zA 31, u2], [], zH S I) Q := by
  refine (sg_X4_noteActs_0_9_31 _ _ _ _).mpr ?_
  have q := l_noteActs_9 (I := I) hQ 32 0 rfl
  rw [zmapc_0] at q
  exact q
theorem l_hasActs_9 {S : PS} {I : Nat → Nat → Int} {Q : PV1 → Prop}  : ∀ (k i : Nat), i + k = 32 →  Q (some (zI (zB (zfs (fun k => I 31 k ≠ xjud I 10 (k : Int)) k i = -1))), zH S I) → Wp 70 (2, [zA 9, zA 31, zI ((i : Int))], [], zH S I) Q := by
  intro k
  induction k with
  | zero =>
    intro i hi hQ
    refine (sg_X4_hasActs_2_9_31 _ _ _ _).mpr ?_
    try simp only [Int.toNat_natCast]
    first | refine zcdB (fun h1 => ?_) (fun h1 => ?_) | refine zcd (fun h1 => ?_) (fun h1 => ?_)
    · refine zgd (by first | omega | (simp (disch := decide) only [zs2_ne, zs2_ne2, zs2_at]; omega) | (simp; done)) ?_
      refine c_actFor_9 ?_
      refine (sg_X4_hasActs_16_9_31 _ _ _ _ _ _).mpr ?_
      first | refine zcdB (fun h2 => ?_) (fun h2 => ?_) | refine zcd (fun h2 => ?_) (fun h2 => ?_)
      · exfalso; omega
      · refine zgb (by first | omega | (simp (disch := decide) only [zs2_ne, zs2_ne2, zs2_at]; omega) | (simp; done)) ?_
        first | (exfalso; omega) | exact zq hQ (zB_t (by simp [zfs])) rfl | (rw [zfs_t (by assumption)] at hQ; exact zq hQ (zB_f (by omega)) rfl)
    · refine zgb (by first | omega | (simp (disch := decide) only [zs2_ne, zs2_ne2, zs2_at]; omega) | (simp; done)) ?_
      first | (exfalso; omega) | exact zq hQ (zB_t (by simp [zfs])) rfl | (rw [zfs_t (by assumption)] at hQ; exact zq hQ (zB_f (by omega)) rfl)
  | succ k ih =>
    intro i hi hQ
    refine (sg_X4_hasActs_2_9_31 _ _ _ _).mpr ?_
    try simp only [Int.toNat_natCast]
    first | refine zcdB (fun h1 => ?_) (fun h1 => ?_) | refine zcd (fun h1 => ?_) (fun h1 => ?_)
    · refine zgd (by first | omega | (simp (disch := decide) only [zs2_ne, zs2_ne2, zs2_at]; omega) | (simp; done)) ?_
      refine c_actFor_9 ?_
      refine (sg_X4_hasActs_16_9_31 _ _ _ _ _ _).mpr ?_
      first | refine zcdB (fun h2 => ?_) (fun h2 => ?_) | refine zcd (fun h2 => ?_) (fun h2 => ?_)
      · rw [zad_s (by omega)]
        exact ih (i + 1) (by omega) (by rw [zfs_f (fun w => w (by assumption))] at hQ; exact hQ)
      · refine zgb (by first | omega | (simp (disch := decide) only [zs2_ne, zs2_ne2, zs2_at]; omega) | (simp; done)) ?_
        first | (exfalso; omega) | exact zq hQ (zB_t (by simp [zfs])) rfl | (rw [zfs_t (by assumption)] at hQ; exact zq hQ (zB_f (by omega)) rfl)
    · refine zgb (by first | omega | (simp (disch := decide) only [zs2_ne, zs2_ne2, zs2_at]; omega) | (simp; done)) ?_
      first | (exfalso; omega) | exact zq hQ (zB_t (by simp [zfs])) rfl | (rw [zfs_t (by assumption)] at hQ; exact zq hQ (zB_f (by omega)) rfl)
theorem c_hasActs_9 {S : PS} {I : Nat → Nat → Int} {Q : PV1 → Prop} {u2 : PV}  (hQ : Q (some (zI (zB (zfs (fun k => I 31 k ≠ xjud I 10 (k : Int)) 32 0 = -1))), zH S I)) : Wp 70 (0, [zA 9, zA 31, u2], [], zH S I) Q := by
  refine (sg_X4_hasActs_0_9_31 _ _ _ _).mpr ?_
  exact l_hasActs_9 32 0 rfl hQ
