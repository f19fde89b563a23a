/-! span, undo -/
def krf (a b : Nat) : Nat → Nat → Nat
  | 0, n => n
  | f + 1, n => if a % (2 * n) = 0 ∧ a + 2 * n ≤ b + 1 then krf a b f (2 * n) else n
def kr (a b : Nat) : Nat := krf a b 5 1
theorem krf_in {a b : Nat} : ∀ f n, 1 ≤ n → a + n ≤ b + 1 → 1 ≤ krf a b f n ∧ a + krf a b f n ≤ b + 1
  | 0, n, h1, h2 => ⟨h1, h2⟩
  | f + 1, n, h1, h2 => by
    simp only [krf]
    split
    · rename_i h; exact krf_in f (2 * n) (by omega) h.2
    · exact ⟨h1, h2⟩
theorem kr_in {a b : Nat} (h : a ≤ b) : 1 ≤ kr a b ∧ a + kr a b ≤ b + 1 := krf_in 5 1 (by omega) (by omega)
theorem krf_pow {a b : Nat} : ∀ f i, i + f = 5 → ∃ j, j ≤ 5 ∧ krf a b f (2 ^ i) = 2 ^ j
  | 0, i, h => ⟨i, by omega, rfl⟩
  | f + 1, i, h => by
    simp only [krf]
    split
    · rw [show 2 * 2 ^ i = 2 ^ (i + 1) by rw [Nat.pow_succ]; omega]; exact krf_pow f (i + 1) (by omega)
    · exact ⟨i, by omega, rfl⟩
theorem kr_pow (a b : Nat) : ∃ j, j ≤ 5 ∧ kr a b = 2 ^ j := krf_pow 5 0 (by omega)
theorem kr_tab : ∀ a : Fin 32, ∀ i : Fin 5, zan (a.val : Int) ((2 * 2 ^ i.val : Nat) - 1 : Int) = 0 ↔ a.val % (2 * 2 ^ i.val) = 0 := by decide +kernel
theorem kr_tab2 : ∀ j : Fin 6, zan 31 (zxr (zsb ((2 ^ j.val : Nat) : Int) 1) (-1)) = 32 - ((2 ^ j.val : Nat) : Int) := by decide +kernel
theorem c_keysOfRow {S : PS} {I : Nat → Nat → Int} {Q : PV1 → Prop} {w2 w3 w4 : PV} {a b : Nat} (ha : a < 32) (hb : b < 32) (hQ : Q (some (zI ((kr a b : Nat) : Int)), zH S I)) : Wp 108 (0, [zI (a : Int), zI (b : Int), w2, w3, w4], [], zH S I) Q := by
  refine (sg_X5_keysOfRow_0 _ _ _ _ _ _ _ _).mpr ?_
  have loop : ∀ (f i : Nat) (w4 : PV), i + f = 5 → Q (some (zI ((krf a b f (2 ^ i) : Nat) : Int)), zH S I) → Wp 108 (4, [zI (a : Int), zI (b : Int), zI ((2 ^ i : Nat) : Int), zI (i : Int), w4], [], zH S I) Q := by
    intro f
    induction f with
    | zero =>
      intro i w4 hi hq
      refine (sg_X5_keysOfRow_4 _ _ _ _ _ _ _ _).mpr ?_
      exact zcd (fun h => absurd h (by omega)) (fun _ => hq)
    | succ f ih =>
      intro i w4 hi hq
      have hp : 2 ^ i ≤ 16 := by rcases (show i = 0 ∨ i = 1 ∨ i = 2 ∨ i = 3 ∨ i = 4 by omega) with rfl | rfl | rfl | rfl | rfl <;> decide
      have t := kr_tab ⟨a, ha⟩ ⟨i, by omega⟩
      have e2 : 2 * 2 ^ i = 2 ^ (i + 1) := by rw [Nat.pow_succ]; omega
      simp only at t
      generalize 2 ^ i = M at hp t e2 hq ⊢
      refine (sg_X5_keysOfRow_4 _ _ _ _ _ _ _ _).mpr ?_
      rw [zml_eq (by omega), show (M : Int) * 2 = ((2 * M : Nat) : Int) by omega, zsb_eq (by omega), zad_eq (by omega), zsb_eq (by omega), zad_s (by omega)]
      simp only [krf] at hq
      refine zcd (fun _ => zcd (fun h1 => zcd (fun h2 => ?_) (fun h2 => ?_)) (fun h1 => ?_)) (fun h => absurd (by omega) h)
      · rw [if_neg (fun w => by have := w.2; omega)] at hq
        exact hq
      · rw [if_pos ⟨t.mp h1, by omega⟩] at hq
        rw [e2] at hq ⊢
        exact ih (i + 1) _ (by omega) hq
      · rw [if_neg (fun w => h1 (t.mpr w.1))] at hq
        exact hq
  exact loop 5 0 _ (by omega) hQ
/-- the rows of a span from a place on -/
def rwf (b : Nat) : Nat → Nat → Nat
  | 0, _ => 0
  | f + 1, a => if a ≤ b then rwf b f (a + kr a b) + 1 else 0
theorem rwf_le (b : Nat) : ∀ f a, rwf b f a ≤ f
  | 0, _ => Nat.le_refl 0
  | f + 1, a => by
    simp only [rwf]
    have := rwf_le b f (a + kr a b)
    split <;> omega
theorem c_rowsOfSpan {S : PS} {I : Nat → Nat → Int} {Q : PV1 → Prop} {w2 w3 w4 : PV} {a b : Nat} (ha : a < 32) (hb : b < 32) (hQ : Q (some (zI ((rwf b 32 a : Nat) : Int)), zH S I)) : Wp 109 (0, [zI (a : Int), zI (b : Int), w2, w3, w4], [], zH S I) Q := by
  refine (sg_X5_rowsOfSpan_0 _ _ _ _ _ _ _ _).mpr ?_
  have loop : ∀ (f i c x : Nat) (w0 : PV), i + f = 32 → c ≤ i → x ≤ 32 → Q (some (zI ((c + rwf b f x : Nat) : Int)), zH S I) → Wp 109 (7, [w0, zI (b : Int), zI (c : Int), zI (x : Int), zI (i : Int)], [], zH S I) Q := by
    intro f
    induction f with
    | zero =>
      intro i c x w0 hi hc hx hq
      refine (sg_X5_rowsOfSpan_7 _ _ _ _ _ _ _ _).mpr ?_
      exact zcd (fun h => absurd h (by omega)) (fun _ => hq)
    | succ f ih =>
      intro i c x w0 hi hc hx hq
      simp only [rwf] at hq
      refine (sg_X5_rowsOfSpan_7 _ _ _ _ _ _ _ _).mpr ?_
      refine zcd (fun _ => zcd (fun h => ?_) (fun h => ?_)) (fun h => absurd (by omega) h)
      · rw [if_neg (by omega)] at hq; exact hq
      · have hxb : x ≤ b := by omega
        have hk := kr_in hxb
        rw [if_pos hxb] at hq
        refine c_keysOfRow (by omega) hb ?_
        refine (sg_X5_rowsOfSpan_25 _ _ _ _ _ _ _ _ _ _).mpr ?_
        rw [zad_s (by omega), zad_s (by omega), zad_eq (by omega), show (x : Int) + (kr x b : Nat) = ((x + kr x b : Nat) : Int) by omega]
        exact ih (i + 1) (c + 1) (x + kr x b) _ (by omega) (by omega) (by omega) (by rw [show c + 1 + rwf b f (x + kr x b) = c + (rwf b f (x + kr x b) + 1) by omega]; exact hq)
  exact loop 32 0 0 a _ (by omega) (by omega) (by omega) (by rw [Nat.zero_add]; exact hQ)
theorem zcnt_upd {P P' : Nat → Prop} [DecidablePred P] [DecidablePred P'] {u : Nat} (hu : P u) (h : ∀ r, P' r ↔ P r ∧ r ≠ u) : ∀ n, (n ≤ u → zcnt P' n = zcnt P n) ∧ (u < n → zcnt P' n + 1 = zcnt P n)
  | 0 => ⟨fun _ => rfl, fun h => absurd h (by omega)⟩
  | n + 1 => by
    obtain ⟨i1, i2⟩ := zcnt_upd hu h n
    constructor
    · intro hn
      simp only [zcnt]
      rw [i1 (by omega)]
      have : P' n ↔ P n := by rw [h n]; exact ⟨fun w => w.1, fun w => ⟨w, by omega⟩⟩
      by_cases c : P n
      · rw [if_pos c, if_pos (this.mpr c)]
      · rw [if_neg c, if_neg (fun w => c (this.mp w))]
    · intro hn
      simp only [zcnt]
      by_cases e : u = n
      · subst e
        rw [i1 (Nat.le_refl _), if_pos hu, if_neg (fun w => ((h u).mp w).2 rfl)]
      · have := i2 (by omega)
        have e2 : P' n ↔ P n := by rw [h n]; exact ⟨fun w => w.1, fun w => ⟨w, by omega⟩⟩
        by_cases c : P n
        · rw [if_pos c, if_pos (e2.mpr c)]; omega
        · rw [if_neg c, if_neg (fun w => c (e2.mp w))]; omega
theorem zcnt_0 {P : Nat → Prop} [DecidablePred P] : ∀ n, (∀ i, i < n → ¬ P i) → zcnt P n = 0
  | 0, _ => rfl
  | n + 1, h => by simp only [zcnt]; rw [zcnt_0 n (fun i hi => h i (by omega)), if_neg (h n (by omega))]
theorem xlu_ne {I : Nat → Nat → Int} (h : 1 ≤ zcnt (fun r => I 2 r = -1) 16) : ∃ u : Nat, xlu I = (u : Int) ∧ u < 16 ∧ I 2 u = -1 ∧ ∀ v, v < u → I 2 v ≠ -1 := by
  rcases zfs_spec (P := fun r => I 2 r = -1) 16 0 with ⟨-, h2⟩ | ⟨j, h1, -, h3, h4, h5⟩
  · have := zcnt_0 (P := fun r => I 2 r = -1) 16 (fun i hi => h2 i (Nat.zero_le _) (by omega))
    omega
  · exact ⟨j, h1, by omega, h4, fun v hv => h5 v (Nat.zero_le _) hv⟩
/-- the rules of a span, made -/
def spf (b : Nat) (rk ac : Int) : Nat → Nat → (Nat → Nat → Int) → Nat → Nat → Int
  | 0, _, I => I
  | n + 1, a, I => spf b rk ac n (a + kr a b) (xset I (xlu I) 1 (a : Int) (32 - ((kr a b : Nat) : Int)) rk ac)
theorem xset_cnt {I : Nat → Nat → Int} {k v m rk ac : Int} (hk : k ≠ -1) (h : 1 ≤ zcnt (fun r => I 2 r = -1) 16) : zcnt (fun r => xset I (xlu I) k v m rk ac 2 r = -1) 16 + 1 = zcnt (fun r => I 2 r = -1) 16 := by
  obtain ⟨u, h1, h2, h3, h4⟩ := xlu_ne h
  refine (zcnt_upd (P := fun r => I 2 r = -1) (u := u) h3 (fun r => ?_) 16).2 (by omega)
  rw [h1, xset, Int.toNat_natCast]
  simp (disch := decide) only [zs2_ne]
  by_cases e : r = u
  · subst e; rw [zs2_at]; exact ⟨fun w => absurd w hk, fun w => absurd rfl w.2⟩
  · rw [zs2_ne2 _ _ _ _ e]; exact ⟨fun w => ⟨w, e⟩, fun w => w.1⟩
abbrev spok (a b rk ac : Int) : Prop := (0 ≤ a ∧ a < 32) ∧ (0 ≤ b ∧ b < 32) ∧ (0 ≤ rk ∧ rk < 100) ∧ (0 ≤ ac ∧ ac < 16) ∧ a ≤ b
set_option maxRecDepth 100000 in
theorem c_span {S : PS} {I : Nat → Nat → Int} {Q : PV1 → Prop} {w5 w6 w7 w8 : PV} {a b rk ac : Int}
    (hQ1 : ¬ spok a b rk ac → Q (some (zI (-1)), zH S I)) (hQ2 : spok a b rk ac → zcnt (fun r => I 2 r = -1) 16 < rwf b.toNat 32 a.toNat → Q (some (zI (-3)), zH S I))
    (hQ3 : spok a b rk ac → rwf b.toNat 32 a.toNat ≤ zcnt (fun r => I 2 r = -1) 16 → Q (some (zI ((rwf b.toNat 32 a.toNat : Nat) : Int)), zH S (spf b.toNat rk ac (rwf b.toNat 32 a.toNat) a.toNat I))) : Wp 81 (0, [zA 0, zI a, zI b, zI rk, zI ac, w5, w6, w7, w8], [], zH S I) Q := by
  refine (sg_X5_span_0_0 _ _ _ _ _ _ _ _ _ _ _).mpr ?_
  refine c_isKey ?_
  refine (sg_X5_span_4_0 _ _ _ _ _ _ _ _ _ _ _ _).mpr ?_
  refine zcdB (fun h => hQ1 (fun w => h w.1)) (fun h1 => ?_)
  refine c_isKey ?_
  refine (sg_X5_span_11_0 _ _ _ _ _ _ _ _ _ _ _ _).mpr ?_
  refine zcdB (fun h => hQ1 (fun w => h w.2.1)) (fun h2 => ?_)
  refine c_isRank ?_
  refine (sg_X5_span_18_0 _ _ _ _ _ _ _ _ _ _ _ _).mpr ?_
  refine zcdB (fun h => hQ1 (fun w => h w.2.2.1)) (fun h3 => ?_)
  refine c_isAct ?_
  refine (sg_X5_span_26_0 _ _ _ _ _ _ _ _ _ _ _ _).mpr ?_
  refine zcdB (fun h => hQ1 (fun w => h w.2.2.2.1)) (fun h4 => ?_)
  refine zcd (fun h => hQ1 (fun w => by have := w.2.2.2.2; omega)) (fun h5 => ?_)
  have hok : spok a b rk ac := ⟨h1, h2, h3, h4, by omega⟩
  obtain ⟨A, rfl⟩ : ∃ A : Nat, a = (A : Int) := ⟨a.toNat, by omega⟩
  obtain ⟨B, rfl⟩ : ∃ B : Nat, b = (B : Int) := ⟨b.toNat, by omega⟩
  rw [Int.toNat_natCast, Int.toNat_natCast] at hQ2 hQ3
  refine c_rowsOfSpan (by omega) (by omega) ?_
  refine (sg_X5_span_41_0 _ _ _ _ _ _ _ _ _ _ _ _).mpr ?_
  refine c_unused ?_
  refine (sg_X5_span_52_0 _ _ _ _ _ _ _ _ _ _ _ _ _).mpr ?_
  refine zcd (fun h => hQ2 hok (by omega)) (fun h6 => ?_)
  have hle := rwf_le B 32 A
  have loop : ∀ (n i f x : Nat) (J : Nat → Nat → Int) (w1 w8 : PV), i + n = rwf B 32 A → rwf B f x = n → x ≤ 32 → n ≤ zcnt (fun r => J 2 r = -1) 16 → Q (some (zI ((rwf B 32 A : Nat) : Int)), zH S (spf B rk ac n x J)) → Wp 81 (64, [zA 0, w1, zI (B : Int), zI rk, zI ac, zI ((rwf B 32 A : Nat) : Int), zI (x : Int), zI (i : Int), w8], [], zH S J) Q := by
    intro n
    induction n with
    | zero =>
      intro i f x J w1 w8 hi hf hx hc hq
      refine (sg_X5_span_64_0 _ _ _ _ _ _ _ _ _ _ _).mpr ?_
      exact zcd (fun h => absurd h (by omega)) (fun _ => hq)
    | succ n ih =>
      intro i f x J w1 w8 hi hf hx hc hq
      cases f with
      | zero => simp [rwf] at hf
      | succ f =>
        simp only [rwf] at hf
        by_cases hxb : x ≤ B
        · rw [if_pos hxb] at hf
          have hk := kr_in hxb
          obtain ⟨j, hj, hjk⟩ := kr_pow x B
          have t2 := kr_tab2 ⟨j, by omega⟩
          simp only at t2
          rw [← hjk] at t2
          obtain ⟨u, u1, u2, u3, u4⟩ := xlu_ne (I := J) (by omega)
          refine (sg_X5_span_64_0 _ _ _ _ _ _ _ _ _ _ _).mpr ?_
          refine zcd (fun _ => zcd (fun h => absurd h (by omega)) (fun _ => ?_)) (fun h => absurd (by omega) h)
          refine c_keysOfRow (by omega) (by omega) ?_
          refine (sg_X5_span_83_0 _ _ _ _ _ _ _ _ _ _ _ _).mpr ?_
          rw [t2]
          refine c_ruleMade ?_
          rw [if_neg (show xlu J ≠ -1 by omega), if_neg (show xlu J ≠ -1 by omega)]
          refine (sg_X5_span_104_0 _ _ _ _ _ _ _ _ _ _ _ _).mpr ?_
          rw [zad_s (by omega), zad_eq (by omega), show (x : Int) + (kr x B : Nat) = ((x + kr x B : Nat) : Int) by omega]
          exact ih (i + 1) f (x + kr x B) _ _ _ (by omega) (by omega) (by omega) (by have := xset_cnt (I := J) (k := 1) (v := (x : Int)) (m := 32 - ((kr x B : Nat) : Int)) (rk := rk) (ac := ac) (by decide) (by omega); omega) hq
        · rw [if_neg hxb] at hf; omega
  exact loop (rwf B 32 A) 0 32 A I _ _ (by omega) rfl (by omega) (by omega) (hQ3 hok (by omega))
/-- what undo leaves -/
def xun1 (I : Nat → Nat → Int) : Nat → Nat → Int := zs2 (zmapc (zmapc I 8 6 (xdg (I 20 (hlast (I 19 5)).toNat))) 10 6 (xdg (I 21 (hlast (I 19 5)).toNat))) 0 8 (I 22 (hlast (I 19 5)).toNat)
def xund (I : Nat → Nat → Int) : Nat → Nat → Int := zs2 (xpop (if I 23 (hlast (I 19 5)).toNat = -1 then xun1 I else zs2 (xun1 I) 4 (I 23 (hlast (I 19 5)).toNat).toNat (I 24 (hlast (I 19 5)).toNat))) 25 2 0
theorem xun1_ne {I : Nat → Nat → Int} {d : Nat} (h0 : d ≠ 0) (h8 : d ≠ 8) (h10 : d ≠ 10) : xun1 I d = I d := by
  rw [xun1, zs2_ne _ _ _ _ h0, zmapc_ne _ _ _ _ h10, zmapc_ne _ _ _ _ h8]
theorem c_undo {S : PS} {I : Nat → Nat → Int} {Q : PV1 → Prop} (h5 : 0 ≤ I 19 5 ∧ I 19 5 < 20) (h6 : 0 ≤ I 19 6 ∧ I 19 6 ≤ 20)
    (hc : I 19 6 ≠ 0 → (0 ≤ I 20 (hlast (I 19 5)).toNat ∧ I 20 (hlast (I 19 5)).toNat < 2147483648) ∧ (0 ≤ I 21 (hlast (I 19 5)).toNat ∧ I 21 (hlast (I 19 5)).toNat < 2147483648) ∧ (I 23 (hlast (I 19 5)).toNat ≠ -1 → num (I 23 (hlast (I 19 5)).toNat)))
    (hQ1 : I 19 6 = 0 → Q (some (zI (-2)), zH S I)) (hQ2 : I 19 6 ≠ 0 → Q (some (zI (I 19 6 - 1)), zH S (xund I))) : Wp 101 (0, [zA 0], [], zH S I) Q := by
  refine (sg_X5_undo_0_0 _ _ _).mpr ?_
  refine c_hlength ?_
  refine (sg_X5_undo_7_0 _ _ _ _).mpr ?_
  refine zcd (fun h => hQ1 h) (fun h => ?_)
  obtain ⟨c1, c2, c3⟩ := hc h
  refine c_firstTable h5 ?_
  refine (sg_X5_undo_24_0_7 _ _ _ _).mpr ?_
  refine c_unpack_7 c1 ?_
  refine (sg_X5_undo_27_0 _ _ _).mpr ?_
  have e1 : ∀ d, d ≠ 8 → zmapc I 8 6 (xdg (I 20 (hlast (I 19 5)).toNat)) d = I d := fun d hd => zmapc_ne _ _ _ _ hd
  refine c_secondTable (by rw [e1 19 (by decide)]; exact h5) ?_
  refine (sg_X5_undo_38_0_9 _ _ _ _).mpr ?_
  rw [e1 19 (by decide), e1 21 (by decide)]
  refine c_unpack_9 c2 ?_
  refine (sg_X5_undo_41_0 _ _ _).mpr ?_
  have e2 : ∀ d, d ≠ 8 → d ≠ 10 → zmapc (zmapc I 8 6 (xdg (I 20 (hlast (I 19 5)).toNat))) 10 6 (xdg (I 21 (hlast (I 19 5)).toNat)) d = I d := fun d hd h2 => by rw [zmapc_ne _ _ _ _ h2, e1 d hd]
  refine c_liveTable (by rw [e2 19 (by decide) (by decide)]; exact h5) ?_
  refine (sg_X5_undo_49_0_0 _ _ _ _).mpr ?_
  rw [e2 19 (by decide) (by decide), e2 22 (by decide) (by decide)]
  have hx1 : zs2 (zmapc (zmapc I 8 6 (xdg (I 20 (hlast (I 19 5)).toNat))) 10 6 (xdg (I 21 (hlast (I 19 5)).toNat))) 0 8 (I 22 (hlast (I 19 5)).toNat) = xun1 I := rfl
  rw [hx1]
  have f19 : xun1 I 19 = I 19 := xun1_ne (by decide) (by decide) (by decide)
  have f23 : xun1 I 23 = I 23 := xun1_ne (by decide) (by decide) (by decide)
  have f24 : xun1 I 24 = I 24 := xun1_ne (by decide) (by decide) (by decide)
  have tail : ∀ J : Nat → Nat → Int, J 19 = I 19 → J = (if I 23 (hlast (I 19 5)).toNat = -1 then xun1 I else zs2 (xun1 I) 4 (I 23 (hlast (I 19 5)).toNat).toNat (I 24 (hlast (I 19 5)).toNat)) → Wp 101 (84, [zA 0], [], zH S J) Q := by
    intro J hJ e
    refine (sg_X5_undo_84_0 _ _ _).mpr ?_
    refine c_pop (by rw [hJ]; exact h5) (by rw [hJ]; exact h6) ?_
    refine (sg_X5_undo_91_0 _ _ _).mpr ?_
    refine c_pforget_25 ?_
    refine (sg_X5_undo_98_0 _ _ _).mpr ?_
    refine c_hlength ?_
    refine (sg_X5_undo_105 _ _ _ _ _).mpr ?_
    have h2 := hQ2 h
    rw [xund, ← e] at h2
    refine zq h2 ?_ rfl
    rw [zs2_ne _ _ _ _ (by decide), xpop, zs2_at, hJ]
    omega
  refine c_meltedRule (by rw [f19]; exact h5) ?_
  refine (sg_X5_undo_59_0 _ _ _ _).mpr ?_
  rw [f19, f23]
  refine zcd (fun hm => tail _ f19 (by rw [if_pos hm])) (fun hm => ?_)
  refine c_meltedRule (by rw [f19]; exact h5) ?_
  refine (sg_X5_undo_74_0_1 _ _ _ _).mpr ?_
  refine c_meltedMask (by rw [f19]; exact h5) ?_
  refine (sg_X5_undo_81_0_1 _ _ _ _ _).mpr ?_
  rw [f19, f23, f24]
  refine c_setMask' (c3 hm) ?_
  exact tail _ (by rw [zs2_ne _ _ _ _ (by decide)]; exact f19) (by rw [if_neg hm])
