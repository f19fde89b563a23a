/-! the reference: rows and their numbers -/
def zc7 (f : Nat → Int) (k : Nat) : Nat → Int
  | 0 => 0
  | j + 1 => zc7 f k j * 7 + f (k - 1 - j)
theorem zc7_in {f : Nat → Int} {k : Nat} (h : ∀ o, o < k → 0 ≤ f o ∧ f o < 7) : ∀ j, j ≤ k → 0 ≤ zc7 f k j ∧ zc7 f k j < 7 ^ j
  | 0, _ => ⟨Int.le_refl 0, by show (0 : Int) < 7 ^ 0; decide⟩
  | j + 1, hj => by
    have h1 := zc7_in h j (by omega)
    have h2 := h (k - 1 - j) (by omega)
    have h3 : (7 : Int) ^ (j + 1) = 7 ^ j * 7 := Int.pow_succ 7 j
    simp only [zc7]
    generalize (7 : Int) ^ j = M at *
    omega
theorem zc7_step {f : Nat → Int} {k : Nat} (h : ∀ o, o < k → 0 ≤ f o ∧ f o < 7) {j : Nat} (hj : j < k) : zc7 f k (j + 1) / 7 = zc7 f k j ∧ zc7 f k (j + 1) % 7 = f (k - 1 - j) := by
  have h1 := zc7_in h j (by omega)
  have h2 := h (k - 1 - j) (by omega)
  simp only [zc7]
  omega
theorem zc7_div {f : Nat → Int} {k : Nat} (h : ∀ o, o < k → 0 ≤ f o ∧ f o < 7) : ∀ m, m ≤ k → zc7 f k k / 7 ^ m = zc7 f k (k - m)
  | 0, _ => by simp
  | m + 1, hm => by
    have e : (7 : Int) ^ (m + 1) = 7 ^ m * 7 := Int.pow_succ 7 m
    have h0 : (0 : Int) < 7 ^ m := Int.pow_pos (by decide)
    rw [e, ← Int.ediv_ediv_of_nonneg (by omega), zc7_div h m (by omega)]
    have e2 : k - m = (k - (m + 1)) + 1 := by omega
    rw [e2]
    exact (zc7_step h (by omega)).1
/-- the digits of a code are the places -/
theorem zc7_dig {f : Nat → Int} {k : Nat} (h : ∀ o, o < k → 0 ≤ f o ∧ f o < 7) {m : Nat} (hm : m < k) : zc7 f k k / 7 ^ m % 7 = f m := by
  rw [zc7_div h m (by omega), show k - m = (k - m - 1) + 1 by omega, (zc7_step h (by omega)).2]
  congr 1; omega
theorem zc7_congr {f f' : Nat → Int} {k : Nat} (h : ∀ o, o < k → f o = f' o) : ∀ j, j ≤ k → zc7 f k j = zc7 f' k j
  | 0, _ => rfl
  | j + 1, hj => by simp only [zc7]; rw [zc7_congr h j (by omega), h (k - 1 - j) (by omega)]
theorem zc7_lt {f : Nat → Int} {k : Nat} (hk : k ≤ 6) (h : ∀ o, o < k → 0 ≤ f o ∧ f o < 7) : 0 ≤ zc7 f k k ∧ zc7 f k k < 117649 := by
  have h1 := zc7_in h k (Nat.le_refl k)
  have h3 : (7 : Int) ^ k ≤ 117649 := by rcases (show k = 0 ∨ k = 1 ∨ k = 2 ∨ k = 3 ∨ k = 4 ∨ k = 5 ∨ k = 6 by omega) with rfl | rfl | rfl | rfl | rfl | rfl | rfl <;> decide
  omega
theorem m_codeOf {S : PS} {I : Nat → Nat → Int} {Q : PV1 → Prop} {u1 u2 : PV} {w : Nat} (hk : I 32 6 = (w : Int)) (hk6 : w ≤ 6) (hw : ∀ o, o < w → 0 ≤ I 47 o ∧ I 47 o < 7) (hQ : Q (some (zI (zc7 (I 47) w w)), zH S I)) : Wp 138 (0, [zA 32, u1, u2], [], zH S I) Q := by
  refine (sg_X6_codeOf_0_32 _ _ _ _ _).mpr ?_
  have loop : ∀ (i j : Nat), j + i = w → Wp 138 (9, [zA 32, zI (zc7 (I 47) w j), zI ((w : Int) - 1 - j)], [], zH S I) Q := by
    intro i
    induction i with
    | zero =>
      intro j hj
      obtain rfl : j = w := by omega
      refine (sg_X6_codeOf_9_32 _ _ _ _ _).mpr ?_
      refine zcd (fun _ => hQ) (fun h => absurd (by omega) h)
    | succ i ih =>
      intro j hj
      refine (sg_X6_codeOf_9_32 _ _ _ _ _).mpr ?_
      refine zcd (fun h => absurd h (by omega)) (fun _ => ?_)
      refine zgd (by omega) ?_
      have h1 := zc7_in hw j (by omega)
      have h2 := hw (w - 1 - j) (by omega)
      have h3 : (7 : Int) ^ j ≤ 16807 := by rcases (show j = 0 ∨ j = 1 ∨ j = 2 ∨ j = 3 ∨ j = 4 ∨ j = 5 by omega) with rfl | rfl | rfl | rfl | rfl | rfl <;> decide
      have h4 : ((w : Int) - 1 - (j : Int)).toNat = w - 1 - j := by omega
      rw [h4, zml_eq (by omega), zad_eq (a := 7 * zc7 (I 47) w j) (by omega), zad_eq (by omega)]
      exact zeq (ih (j + 1) (by omega)) (by rw [show (w : Int) - 1 - (j : Int) + -1 = (w : Int) - 1 - ((j + 1 : Nat) : Int) by omega, Int.mul_comm]; rfl)
  rw [hk, zsb_eq (by omega)]
  exact zeq (loop w 0 (by omega)) (by rw [show (w : Int) - 1 - ((0 : Nat) : Int) = (w : Int) - 1 by omega]; rfl)
theorem m_setRow {S : PS} {I : Nat → Nat → Int} {Q : PV1 → Prop} {u2 u3 : PV} {code : Int} {w : Nat} (hk : I 32 6 = (w : Int)) (hk6 : w ≤ 6) (hc : 0 ≤ code ∧ code < 117649) (hQ : Q (none, zH S (zmapc I 47 w (fun m => code / 7 ^ m % 7)))) : Wp 139 (0, [zA 32, zI code, u2, u3], [], zH S I) Q := by
  refine (sg_X6_setRow_0_32 _ _ _ _ _ _).mpr ?_
  have loop : ∀ (j i : Nat) (u1 : PV), i + j = w → Wp 139 (4, [zA 32, u1, zI (code / 7 ^ i), zI (i : Int)], [], zH S (zmapc I 47 i (fun m => code / 7 ^ m % 7))) Q := by
    intro j
    induction j with
    | zero =>
      intro i u1 hi
      obtain rfl : i = w := by omega
      refine (sg_X6_setRow_4_32 _ _ _ _ _ _).mpr ?_
      rw [zmapc_ne _ _ _ _ (by decide)]
      refine zcd (fun h => absurd h (by omega)) (fun _ => hQ)
    | succ j ih =>
      intro i u1 hi
      refine (sg_X6_setRow_4_32 _ _ _ _ _ _).mpr ?_
      rw [zmapc_ne _ _ _ _ (by decide)]
      refine zcd (fun _ => ?_) (fun h => absurd (by omega) h)
      refine zgn (by decide) (zgd (by omega) (zgn (by decide) ?_))
      have h0 : (0 : Int) < 7 ^ i := Int.pow_pos (by decide)
      have h1 : 0 ≤ code / 7 ^ i := Int.ediv_nonneg hc.1 (by omega)
      have h2 : code / 7 ^ i ≤ code := Int.ediv_le_self _ hc.1
      rw [Int.toNat_natCast, zrm_eq h1 (by omega) (by decide) (by decide), zdv_eq h1 (by omega) (by decide) (by decide), zad_s (by omega), zmapc_s I 47 i (fun m => code / 7 ^ m % 7) (x := code / 7 ^ i % 7) rfl]
      rw [Int.ediv_ediv_of_nonneg (by omega), ← Int.pow_succ]
      exact ih (i + 1) u1 (by omega)
  have := loop w 0 (zI code) (by omega)
  rw [zmapc_0] at this
  simpa using this
/-- whether a rule may stand at a place beside the others of the row -/
def msf (I : Nat → Nat → Int) (r : Int) (p q : Nat) : Prop := q ≠ p → I 47 q < 6 → mov I r (I 46 (I 47 q).toNat) → (q < p ∧ mhi I (I 46 (I 47 q).toNat) r) ∨ (¬ q < p ∧ mhi I r (I 46 (I 47 q).toNat))
theorem m_isSafeAt {S : PS} {I : Nat → Nat → Int} {Q : PV1 → Prop} {w3 w4 w5 : PV} {r : Int} {p w : Nat} (hr : num r) (hk : I 32 6 = (w : Int)) (hk6 : w ≤ 6) (hp : p < w) (hw : ∀ o, o < w → 0 ≤ I 47 o) (ho : ∀ o, o < w → I 47 o < 6 → num (I 46 (I 47 o).toNat)) (hQ : ∀ x, (x = 0 ∨ x = 1) → (x = 1 ↔ ∀ q, q < w → msf I r p q) → Q (some (zI x), zH S I)) : Wp 140 (0, [zA 32, zI r, zI (p : Int), w3, w4, w5], [], zH S I) Q := by
  refine (sg_X6_isSafeAt_0_32 _ _ _ _ _ _ _ _).mpr ?_
  have loop : ∀ (j i : Nat) (x : Int) (w5 : PV), i + j = w → (x = 0 ∨ x = 1) → (x = 1 ↔ ∀ q, q < i → msf I r p q) → Wp 140 (5, [zA 32, zI r, zI (p : Int), zI x, zI (i : Int), w5], [], zH S I) Q := by
    intro j
    induction j with
    | zero =>
      intro i x w5 hi h1 h2
      obtain rfl : i = w := by omega
      refine (sg_X6_isSafeAt_5_32 _ _ _ _ _ _ _ _).mpr ?_
      rw [hk]
      exact zcd (fun h => absurd h (by omega)) (fun _ => zgb h1 (hQ x h1 h2))
    | succ j ih =>
      intro i x w5 hi h1 h2
      -- this place says yes
      have yes : msf I r p i → ∀ w5 : PV, Wp 140 (5, [zA 32, zI r, zI (p : Int), zI x, zI (zad (i : Int) 1), w5], [], zH S I) Q := fun hm w5 => by
        rw [zad_s (by omega)]
        refine ih (i + 1) x w5 (by omega) h1 (h2.trans ⟨fun h q hq => ?_, fun h q hq => h q (by omega)⟩)
        by_cases e : q = i
        · subst e; exact hm
        · exact h q (by omega)
      have no : (x = 0 ∨ ¬ msf I r p i) → ∀ w5 : PV, Wp 140 (5, [zA 32, zI r, zI (p : Int), zI 0, zI (zad (i : Int) 1), w5], [], zH S I) Q := fun hm w5 => by
        rw [zad_s (by omega)]
        refine ih (i + 1) 0 w5 (by omega) (Or.inl rfl) ⟨fun h => absurd h (by decide), fun h => ?_⟩
        rcases hm with hm | hm
        · have := h2.mpr (fun q hq => h q (by omega)); omega
        · exact absurd (h i (by omega)) hm
      refine (sg_X6_isSafeAt_5_32 _ _ _ _ _ _ _ _).mpr ?_
      rw [hk, Int.toNat_natCast]
      refine zcd (fun _ => ?_) (fun h => absurd (by omega) h)
      refine zcd (fun he => yes (fun hne => absurd (by omega) hne) _) (fun hne => ?_)
      refine zgd (by omega) ?_
      refine zcd (fun h6 => ?_) (fun h6 => yes (fun _ w => absurd w h6) _)
      have h0 := hw i (by omega)
      have hn := ho i (by omega) h6
      refine zgd (by omega) (zgd (by omega) ?_)
      refine zcd (fun hx => no (Or.inl hx) _) (fun hx => ?_)
      have hx1 : x = 1 := by omega
      subst hx1
      refine m_doOverlap hr hn ?_
      refine (sg_X6_isSafeAt_57_32 _ _ _ _ _ _ _ _ _).mpr ?_
      refine zcdB (fun hv => yes (fun _ _ w => absurd w hv) _) (fun hv => ?_)
      refine zcd (fun hlt => ?_) (fun hlt => ?_)
      · refine m_isHigher hn hr ?_
        refine (sg_X6_isSafeAt_73_32 _ _ _ _ _ _ _ _ _).mpr ?_
        refine zcdB (fun hh => no (Or.inr (fun w => (w (by omega) h6 hv).elim (fun z => hh z.2) (fun z => z.1 (by omega)))) _) (fun hh => yes (fun _ _ _ => Or.inl ⟨by omega, hh⟩) _)
      · refine m_isHigher hr hn ?_
        refine (sg_X6_isSafeAt_86_32 _ _ _ _ _ _ _ _ _).mpr ?_
        refine zcdB (fun hh => no (Or.inr (fun w => (w (by omega) h6 hv).elim (fun z => absurd z.1 (by omega)) (fun z => hh z.2))) _) (fun hh => yes (fun _ _ _ => Or.inr ⟨by omega, hh⟩) _)
  exact loop w 0 1 _ (by omega) (Or.inr rfl) ⟨fun _ q hq => absurd hq (by omega), fun _ => rfl⟩
