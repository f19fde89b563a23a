/-! the search: codes, the least place, who bounds whom -/
def zc6 (f : Nat → Int) (k : Nat) : Nat → Int
  | 0 => 0
  | j + 1 => zc6 f k j * 6 + f (k - 1 - j)
theorem zc6_in {f : Nat → Int} {k : Nat} (h : ∀ o, o < k → 0 ≤ f o ∧ f o < 6) : ∀ j, j ≤ k → 0 ≤ zc6 f k j ∧ zc6 f k j < 6 ^ j
  | 0, _ => ⟨Int.le_refl 0, by show (0 : Int) < 6 ^ 0; decide⟩
  | j + 1, hj => by
    have h1 := zc6_in h j (by omega)
    have h2 := h (k - 1 - j) (by omega)
    have h3 : (6 : Int) ^ (j + 1) = 6 ^ j * 6 := Int.pow_succ 6 j
    simp only [zc6]
    generalize (6 : Int) ^ j = M at *
    omega
theorem zc6_step {f : Nat → Int} {k : Nat} (h : ∀ o, o < k → 0 ≤ f o ∧ f o < 6) {j : Nat} (hj : j < k) : zc6 f k (j + 1) / 6 = zc6 f k j ∧ zc6 f k (j + 1) % 6 = f (k - 1 - j) := by
  have h1 := zc6_in h j (by omega)
  have h2 := h (k - 1 - j) (by omega)
  simp only [zc6]
  omega
theorem zc6_div {f : Nat → Int} {k : Nat} (h : ∀ o, o < k → 0 ≤ f o ∧ f o < 6) : ∀ m, m ≤ k → zc6 f k k / 6 ^ m = zc6 f k (k - m)
  | 0, _ => by simp
  | m + 1, hm => by
    have e : (6 : Int) ^ (m + 1) = 6 ^ m * 6 := Int.pow_succ 6 m
    have h0 : (0 : Int) < 6 ^ m := Int.pow_pos (by decide)
    rw [e, ← Int.ediv_ediv_of_nonneg (by omega), zc6_div h m (by omega)]
    have e2 : k - m = (k - (m + 1)) + 1 := by omega
    rw [e2]
    exact (zc6_step h (by omega)).1
/-- the digits of a code are the places -/
theorem zc6_dig {f : Nat → Int} {k : Nat} (h : ∀ o, o < k → 0 ≤ f o ∧ f o < 6) {m : Nat} (hm : m < k) : zc6 f k k / 6 ^ m % 6 = f m := by
  rw [zc6_div h m (by omega), show k - m = (k - m - 1) + 1 by omega, (zc6_step h (by omega)).2]
  congr 1; omega
theorem zc6_congr {f f' : Nat → Int} {k : Nat} (h : ∀ o, o < k → f o = f' o) : ∀ j, j ≤ k → zc6 f k j = zc6 f' k j
  | 0, _ => rfl
  | j + 1, hj => by simp only [zc6]; rw [zc6_congr h j (by omega), h (k - 1 - j) (by omega)]
theorem zc6_lt {f : Nat → Int} {k : Nat} (hk : k ≤ 5) (h : ∀ o, o < k → 0 ≤ f o ∧ f o < 6) : 0 ≤ zc6 f k k ∧ zc6 f k k < 7776 := by
  have h1 := zc6_in h k (Nat.le_refl k)
  have h3 : (6 : Int) ^ k ≤ 7776 := by rcases (show k = 0 ∨ k = 1 ∨ k = 2 ∨ k = 3 ∨ k = 4 ∨ k = 5 by omega) with rfl | rfl | rfl | rfl | rfl | rfl <;> decide
  omega
theorem c_code {S : PS} {I : Nat → Nat → Int} {Q : PV1 → Prop} {u1 u2 : PV} {k : Nat} (hk : I 11 9 = (k : Int)) (hk5 : k ≤ 5) (hw : ∀ o, o < k → 0 ≤ I 15 o ∧ I 15 o < 6) (hQ : Q (some (zI (zc6 (I 15) k k)), zH S I)) : Wp 42 (0, [zA 11, u1, u2], [], zH S I) Q := by
  refine (sg_X3_code_0_11 _ _ _ _ _).mpr ?_
  refine zmin_ok ?_
  refine (sg_X3_code_11_11 _ _ _ _ _ _).mpr ?_
  have loop : ∀ (i j : Nat), j + i = k → Wp 42 (14, [zA 11, zI (zc6 (I 15) k j), zI ((k : Int) - 1 - j)], [], zH S I) Q := by
    intro i
    induction i with
    | zero =>
      intro j hj
      obtain rfl : j = k := by omega
      refine (sg_X3_code_14_11 _ _ _ _ _).mpr ?_
      refine zcd (fun _ => hQ) (fun h => absurd (by omega) h)
    | succ i ih =>
      intro j hj
      refine (sg_X3_code_14_11 _ _ _ _ _).mpr ?_
      refine zcd (fun h => absurd h (by omega)) (fun _ => ?_)
      refine zgd (by omega) ?_
      have h1 := zc6_in hw j (by omega)
      have h2 := hw (k - 1 - j) (by omega)
      have h3 : (6 : Int) ^ j ≤ 1296 := by rcases (show j = 0 ∨ j = 1 ∨ j = 2 ∨ j = 3 ∨ j = 4 by omega) with rfl | rfl | rfl | rfl | rfl <;> decide
      have h4 : ((k : Int) - 1 - (j : Int)).toNat = k - 1 - j := by omega
      rw [h4, zml_eq (by omega), zad_eq (a := zc6 (I 15) k j * 6) (by omega), zad_eq (by omega)]
      exact zeq (ih (j + 1) (by omega)) (by rw [show (k : Int) - 1 - (j : Int) + -1 = (k : Int) - 1 - ((j + 1 : Nat) : Int) by omega]; rfl)
  rw [hk, zsb_eq (by omega)]
  exact zeq (loop k 0 (by omega)) (by rw [show min (k : Int) 6 - 1 = (k : Int) - 1 - ((0 : Nat) : Int) by omega]; rfl)
theorem c_arrange {S : PS} {I : Nat → Nat → Int} {Q : PV1 → Prop} {u2 u3 : PV} {code : Int} {k : Nat} (hk : I 11 9 = (k : Int)) (hk5 : k ≤ 5) (hc : 0 ≤ code ∧ code < 7776) (hQ : Q (none, zH S (zmapc I 15 k (fun m => code / 6 ^ m % 6)))) : Wp 43 (0, [zA 11, zI code, u2, u3], [], zH S I) Q := by
  refine (sg_X3_arrange_0_11 _ _ _ _ _ _).mpr ?_
  have loop : ∀ (j i : Nat), i + j = k → Wp 43 (4, [zA 11, zI code, zI (code / 6 ^ i), zI (i : Int)], [], zH S (zmapc I 15 i (fun m => code / 6 ^ m % 6))) Q := by
    intro j
    induction j with
    | zero =>
      intro i hi
      obtain rfl : i = k := by omega
      refine (sg_X3_arrange_4_11 _ _ _ _ _ _).mpr ?_
      rw [zmapc_ne _ _ _ _ (by decide)]
      refine zcd (fun h => absurd h (by omega)) (fun _ => hQ)
    | succ j ih =>
      intro i hi
      refine (sg_X3_arrange_4_11 _ _ _ _ _ _).mpr ?_
      rw [zmapc_ne _ _ _ _ (by decide)]
      refine zcd (fun _ => ?_) (fun h => absurd (by omega) h)
      refine zcd (fun _ => ?_) (fun h => absurd (by omega) h)
      refine zgn (by decide) (zgd (by omega) (zgn (by decide) ?_))
      have h0 : (0 : Int) < 6 ^ i := Int.pow_pos (by decide)
      have h1 : 0 ≤ code / 6 ^ i := Int.ediv_nonneg hc.1 (by omega)
      have h2 : code / 6 ^ i ≤ code := Int.ediv_le_self _ hc.1
      rw [Int.toNat_natCast, zrm_eq h1 (by omega) (by decide) (by decide), zdv_eq h1 (by omega) (by decide) (by decide), zad_s (by omega), zmapc_s I 15 i (fun m => code / 6 ^ m % 6) (x := code / 6 ^ i % 6) rfl]
      rw [Int.ediv_ediv_of_nonneg (by omega), ← Int.pow_succ]
      exact ih (i + 1) (by omega)
  have := loop k 0 (by omega)
  rw [zmapc_0] at this
  simpa using this
/-- the places that a member may have -/
def xroom (I : Nat → Nat → Int) (k m p : Nat) : Prop := ¬ (∃ o, o < k ∧ I 15 o = (p : Int)) ∧ srm I m k ≤ (p : Int) ∧ (p : Int) < erm I m k
def xlpf (P : Nat → Prop) (r : Int) : Prop := (r = -1 ∧ ∀ p, p < 6 → ¬ P p) ∨ ∃ p : Nat, p < 6 ∧ r = (p : Int) ∧ P p ∧ ∀ q, q < p → ¬ P q
theorem c_leastPlaceFor {S : PS} {I : Nat → Nat → Int} {Q : PV1 → Prop} {u2 u3 u4 : PV} {k m : Nat} (hm : m < 6) (hk : I 11 9 = (k : Int)) (hk6 : k ≤ 5) (hw : ∀ o, o < k → 0 ≤ I 15 o ∧ I 15 o < 6) (hQ : ∀ r, xlpf (xroom I k m) r → Q (some (zI r), zH S I)) : Wp 50 (0, [zA 11, zI (m : Int), u2, u3, u4], [], zH S I) Q := by
  refine (sg_X3_leastPlaceFor_0_11 _ _ _ _ _ _ _).mpr ?_
  refine c_placesTaken hk (by omega) hw (fun x hx => ?_)
  refine (sg_X3_leastPlaceFor_4_11 _ _ _ _ _ _ _ _).mpr ?_
  refine c_endOfRoom hm hk (by omega) hw ?_
  refine (sg_X3_leastPlaceFor_10_11 _ _ _ _ _ _ _ _).mpr ?_
  refine c_startOfRoom hm hk (by omega) hw ?_
  refine (sg_X3_leastPlaceFor_16 _ _ _ _ _ _ _ _ _).mpr ?_
  have hs := srm_in (I := I) (m := m) k hw
  have loop : ∀ (j i : Nat) (u0 u1 : PV), i + j = 6 → srm I m k ≤ (i : Int) → (∀ q, q < i → ¬ xroom I k m q) → Wp 50 (18, [u0, u1, zI x, zI (erm I m k), zI (i : Int)], [], zH S I) Q := by
    intro j
    induction j with
    | zero =>
      intro i u0 u1 hi hsi hno
      obtain rfl : i = 6 := by omega
      refine (sg_X3_leastPlaceFor_18 _ _ _ _ _ _ _ _).mpr ?_
      refine zcd (fun _ => zcd (fun h => absurd h (by omega)) (fun _ => hQ _ (Or.inl ⟨rfl, hno⟩))) (fun _ => hQ _ (Or.inl ⟨rfl, hno⟩))
    | succ j ih =>
      intro i u0 u1 hi hsi hno
      refine (sg_X3_leastPlaceFor_18 _ _ _ _ _ _ _ _).mpr ?_
      refine zcd (fun he => ?_) (fun he => ?_)
      · refine zcd (fun _ => ?_) (fun h => absurd (by omega) h)
        refine zcd (fun hz => ?_) (fun hz => ?_)
        · refine hQ _ (Or.inr ⟨i, by omega, rfl, ⟨fun w => ?_, hsi, he⟩, hno⟩)
          exact ((hx.2.2 i (by omega)).mpr w) hz
        · rw [zad_s (by omega)]
          refine ih (i + 1) _ _ (by omega) (by omega) (fun q hq => ?_)
          by_cases e : q = i
          · subst e; exact fun w => w.1 ((hx.2.2 q (by omega)).mp hz)
          · exact hno q (by omega)
      · refine hQ _ (Or.inl ⟨rfl, fun p hp w => ?_⟩)
        by_cases e : p < i
        · exact hno p e w
        · have := w.2.2; omega
  obtain ⟨s, hs2⟩ : ∃ s : Nat, srm I m k = (s : Int) := ⟨(srm I m k).toNat, by omega⟩
  rw [hs2]
  exact loop (6 - s) s _ _ (by omega) (by omega) (fun q hq w => by have := w.2.1; omega)
/-- who a member must stand behind, and ahead of -/
def xbeh (I : Nat → Nat → Int) (k m o : Nat) : Prop := o < k ∧ o ≠ m ∧ xov I (I 12 m) (I 12 o) ∧ xhi I (I 12 o) (I 12 m)
def xahd (I : Nat → Nat → Int) (k m o : Nat) : Prop := o < k ∧ o ≠ m ∧ xov I (I 12 m) (I 12 o) ∧ ¬ xhi I (I 12 o) (I 12 m)
theorem c_relate {S : PS} {I : Nat → Nat → Int} {Q : PV1 → Prop} {u2 : PV} {k m : Nat} (hm : m < 6) (hk : I 11 9 = (k : Int)) (hk6 : k ≤ 5) (hQ : ∀ b a, mk b (xbeh I k m) → mk a (xahd I k m) → Q (none, zH S (zs2 (zs2 I 13 m b) 14 m a))) : Wp 41 (0, [zA 11, zI (m : Int), u2], [], zH S I) Q := by
  refine (sg_X3_relate_0_11 _ _ _ _ _).mpr ?_
  refine zcd (fun h => absurd h (by omega)) (fun _ => zcd (fun _ => zgd (by omega) (zgd (by omega) ?_)) (fun h => absurd (by omega) h))
  rw [Int.toNat_natCast]
  have loop : ∀ (j i : Nat) (b a : Int), i + j = k → mk b (fun o => o < i ∧ xbeh I k m o) → mk a (fun o => o < i ∧ xahd I k m o) → Wp 41 (27, [zA 11, zI (m : Int), zI (i : Int)], [], zH S (zs2 (zs2 I 13 m b) 14 m a)) Q := by
    intro j
    induction j with
    | zero =>
      intro i b a hi hb ha
      obtain rfl : i = k := by omega
      refine (sg_X3_relate_27_11 _ _ _ _ _).mpr ?_
      rw [zs2_ne _ _ _ _ (by decide), zs2_ne _ _ _ _ (by decide)]
      refine zcd (fun h => absurd h (by omega)) (fun _ => ?_)
      exact hQ b a (mk_congr hb (fun q _ => ⟨fun w => w.2, fun w => ⟨w.1, w⟩⟩)) (mk_congr ha (fun q _ => ⟨fun w => w.2, fun w => ⟨w.1, w⟩⟩))
    | succ j ih =>
      intro i b a hi hb ha
      refine (sg_X3_relate_27_11 _ _ _ _ _).mpr ?_
      rw [zs2_ne _ _ _ _ (by decide), zs2_ne _ _ _ _ (by decide)]
      refine zcd (fun _ => ?_) (fun h => absurd (by omega) h)
      refine zcd (fun _ => ?_) (fun h => absurd (by omega) h)
      have same : (¬ xbeh I k m i) → (¬ xahd I k m i) → Wp 41 (27, [zA 11, zI (m : Int), zI (zad (i : Int) 1)], [], zH S (zs2 (zs2 I 13 m b) 14 m a)) Q := fun h1 h2 => by
        rw [zad_s (by omega)]
        refine ih (i + 1) b a (by omega) (mk_congr hb (fun q _ => ?_)) (mk_congr ha (fun q _ => ?_))
        · exact ⟨fun w => ⟨by omega, w.2⟩, fun w => ⟨by
            by_cases e : q = i
            · subst e; exact absurd w.2 h1
            · omega, w.2⟩⟩
        · exact ⟨fun w => ⟨by omega, w.2⟩, fun w => ⟨by
            by_cases e : q = i
            · subst e; exact absurd w.2 h2
            · omega, w.2⟩⟩
      refine zcd (fun he => ?_) (fun he => ?_)
      · exact same (fun w => w.2.1 (by omega)) (fun w => w.2.1 (by omega))
      · refine zgd (by omega) (zgd (by omega) ?_)
        simp only [Int.toNat_natCast]
        refine c_doOverlap ?_
        refine (sg_X3_relate_65_11 _ _ _ _ _ _).mpr ?_
        refine zcdB (fun h1 => same (fun w => h1 w.2.2.1) (fun w => h1 w.2.2.1)) (fun h1 => ?_)
        refine zgd (by omega) (zgd (by omega) ?_)
        simp only [Int.toNat_natCast]
        refine c_isHigher ?_
        refine (sg_X3_relate_87_11 _ _ _ _ _ _).mpr ?_
        have h1' : xov I (I 12 m) (I 12 i) := h1
        refine zcdB (fun h2 => ?_) (fun h2 => ?_)
        · have h2' : ¬ xhi I (I 12 i) (I 12 m) := h2
          refine zgd (by omega) (zgd (by omega) ?_)
          rw [Int.toNat_natCast, zs2_at, zs2_twice, zad_s (by omega)]
          refine ih (i + 1) b _ (by omega) (mk_congr hb (fun q _ => ?_)) (mk_congr (mk_or ha (p := i) (by omega)) (fun q _ => ?_))
          · exact ⟨fun w => ⟨by omega, w.2⟩, fun w => ⟨by
              by_cases e : q = i
              · subst e; exact absurd w.2.2.2.2 h2'
              · omega, w.2⟩⟩
          · constructor
            · rintro (w | rfl)
              · exact ⟨by omega, w.2⟩
              · exact ⟨by omega, by omega, by omega, h1', h2'⟩
            · rintro ⟨w1, w2⟩
              by_cases e : q = i
              · exact Or.inr e
              · exact Or.inl ⟨by omega, w2⟩
        · have h2' : xhi I (I 12 i) (I 12 m) := h2
          refine zgd (by omega) (zgd (by omega) ?_)
          rw [Int.toNat_natCast, zs2_ne _ _ _ _ (by decide), zs2_at, zs2_comm _ _ _ _ _ (by decide), zs2_twice, zad_s (by omega)]
          refine ih (i + 1) _ a (by omega) (mk_congr (mk_or hb (p := i) (by omega)) (fun q _ => ?_)) (mk_congr ha (fun q _ => ?_))
          · constructor
            · rintro (w | rfl)
              · exact ⟨by omega, w.2⟩
              · exact ⟨by omega, by omega, by omega, h1', h2'⟩
            · rintro ⟨w1, w2⟩
              by_cases e : q = i
              · exact Or.inr e
              · exact Or.inl ⟨by omega, w2⟩
          · exact ⟨fun w => ⟨by omega, w.2⟩, fun w => ⟨by
              by_cases e : q = i
              · subst e; exact absurd h2' w.2.2.2.2
              · omega, w.2⟩⟩
  exact loop k 0 0 0 (by omega) (mk_congr mk_0 (fun q _ => ⟨fun h => h.elim, fun h => absurd h.1 (by omega)⟩)) (mk_congr mk_0 (fun q _ => ⟨fun h => h.elim, fun h => absurd h.1 (by omega)⟩))
