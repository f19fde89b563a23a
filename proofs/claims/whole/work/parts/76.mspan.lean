/-! the reference: span -/
theorem m_sizeOf {S : PS} {I : Nat → Nat → Int} {Q : PV1 → Prop} {w2 : PV} {a b : Nat} (ha : a < 32) (hb : b < 32) (hQ : Q (some (zI ((kr a b : Nat) : Int)), zH S I)) : Wp 130 (0, [zI (a : Int), zI (b : Int), w2], [], zH S I) Q := by
  refine (sg_X6_sizeOf_0 _ _ _ _ _ _).mpr ?_
  have loop : ∀ (f i : Nat), i + f = 5 → Q (some (zI ((krf a b f (2 ^ i) : Nat) : Int)), zH S I) → Wp 130 (2, [zI (a : Int), zI (b : Int), zI ((2 ^ i : Nat) : Int)], [], zH S I) Q := by
    intro f
    induction f with
    | zero =>
      intro i hi hq
      obtain rfl : i = 5 := by omega
      refine (sg_X6_sizeOf_2 _ _ _ _ _ _).mpr ?_
      exact zcd (fun h => absurd h (by decide)) (fun _ => hq)
    | succ f ih =>
      intro i hi hq
      have hp : 2 ^ i ≤ 16 := by rcases (show i = 0 ∨ i = 1 ∨ i = 2 ∨ i = 3 ∨ i = 4 by omega) with rfl | rfl | rfl | rfl | rfl <;> decide
      have hp1 : 1 ≤ 2 ^ i := Nat.one_le_two_pow
      have e2 : 2 * 2 ^ i = 2 ^ (i + 1) := by rw [Nat.pow_succ]; omega
      have nx := ih (i + 1) (by omega)
      rw [← e2] at nx
      simp only [krf] at hq
      generalize 2 ^ i = M at hp hp1 hq nx ⊢
      refine (sg_X6_sizeOf_2 _ _ _ _ _ _).mpr ?_
      rw [zml_eq (a := 2) (by omega), zml_eq (a := (M : Int)) (by omega), zad_eq (by omega), zsb_eq (by omega)]
      refine zcd (fun _ => zgn (by omega) ?_) (fun h => absurd (by omega) h)
      rw [zrm_eq (by omega) (by omega) (by omega) (by omega), show (2 : Int) * (M : Int) = ((2 * M : Nat) : Int) by omega, show (a : Int) % ((2 * M : Nat) : Int) = ((a % (2 * M) : Nat) : Int) from rfl]
      refine zcd (fun h1 => zcd (fun h2 => ?_) (fun h2 => ?_)) (fun h1 => ?_)
      · rw [if_neg (fun w => by have := w.2; omega)] at hq; exact hq
      · rw [if_pos ⟨by omega, by omega⟩] at hq
        exact zeq (nx hq) (by rw [show (M : Int) * 2 = ((2 * M : Nat) : Int) by omega])
      · rw [if_neg (fun w => h1 (by have := w.1; omega))] at hq; exact hq
  exact loop 5 0 (by omega) hQ
def mlu (I : Nat → Nat → Int) : Nat := (zfs (fun r => I 33 r = 0) 16 0).toNat
theorem mlu_sp {I : Nat → Nat → Int} (h : 1 ≤ zcnt (fun r => I 33 r = 0) 16) : mlu I < 16 ∧ I 33 (mlu I) = 0 ∧ ∀ v, v < mlu I → I 33 v ≠ 0 := by
  rcases zfs_spec (P := fun r => I 33 r = 0) 16 0 with ⟨-, h2⟩ | ⟨j, h1, -, h3, h4, h5⟩
  · have := zcnt_0 (P := fun r => I 33 r = 0) 16 (fun i hi => h2 i (Nat.zero_le _) (by omega))
    omega
  · have e : mlu I = j := by rw [mlu, h1, Int.toNat_natCast]
    rw [e]
    exact ⟨by omega, h4, fun v hv => h5 v (Nat.zero_le _) hv⟩
/-- the rules of a span, made in the reference -/
def spm (b : Nat) (rk ac : Int) : Nat → Nat → (Nat → Nat → Int) → Nat → Nat → Int
  | 0, _, I => I
  | n + 1, a, I => spm b rk ac n (a + kr a b) (mset I (mlu I) 1 (a : Int) (32 - ((kr a b : Nat) : Int)) rk ac)
theorem mset_cnt {I : Nat → Nat → Int} {k v m rk ac : Int} (h : 1 ≤ zcnt (fun r => I 33 r = 0) 16) : zcnt (fun r => mset I (mlu I) k v m rk ac 33 r = 0) 16 + 1 = zcnt (fun r => I 33 r = 0) 16 := by
  obtain ⟨h2, h3, h4⟩ := mlu_sp h
  refine (zcnt_upd (P := fun r => I 33 r = 0) (u := mlu I) h3 (fun r => ?_) 16).2 h2
  rw [mset]
  simp (disch := decide) only [zs2_ne]
  by_cases e : r = mlu I
  · rw [e, zs2_at]; exact ⟨fun w => absurd w (by decide), fun w => absurd rfl w.2⟩
  · rw [zs2_ne2 _ _ _ _ e]; exact ⟨fun w => ⟨w, e⟩, fun w => w.1⟩
abbrev mspok (a b rk ac : Int) : Prop := (0 ≤ a ∧ a ≤ 31) ∧ (a ≤ b ∧ b ≤ 31) ∧ (0 ≤ rk ∧ rk ≤ 99) ∧ (0 ≤ ac ∧ ac ≤ 15)
set_option maxRecDepth 100000 in
theorem m_span {S : PS} {I : Nat → Nat → Int} {Q : PV1 → Prop} {w5 w6 w7 : PV} {a b rk ac : Int}
    (hQ1 : ¬ mspok a b rk ac → Q (some (zI (-1)), zH S I)) (hQ2 : mspok a b rk ac → zcnt (fun r => I 33 r = 0) 16 < rwf b.toNat 32 a.toNat → Q (some (zI (-3)), zH S I))
    (hQ3 : mspok a b rk ac → rwf b.toNat 32 a.toNat ≤ zcnt (fun r => I 33 r = 0) 16 → Q (some (zI ((rwf b.toNat 32 a.toNat : Nat) : Int)), zH S (spm b.toNat rk ac (rwf b.toNat 32 a.toNat) a.toNat I))) : Wp 131 (0, [zA 32, zI a, zI b, zI rk, zI ac, w5, w6, w7], [], zH S I) Q := by
  refine (sg_X6_span_0_32 _ _ _ _ _ _ _ _ _ _).mpr ?_
  refine m_in ?_
  refine (sg_X6_span_7_32 _ _ _ _ _ _ _ _ _ _ _).mpr ?_
  refine zcdB (fun h => hQ1 (fun w => h w.1)) (fun h1 => ?_)
  refine m_in ?_
  refine (sg_X6_span_17_32 _ _ _ _ _ _ _ _ _ _ _).mpr ?_
  refine zcdB (fun h => hQ1 (fun w => h w.2.1)) (fun h2 => ?_)
  refine m_in ?_
  refine (sg_X6_span_27_32 _ _ _ _ _ _ _ _ _ _ _).mpr ?_
  refine zcdB (fun h => hQ1 (fun w => h w.2.2.1)) (fun h3 => ?_)
  refine m_in ?_
  refine (sg_X6_span_38_32 _ _ _ _ _ _ _ _ _ _ _).mpr ?_
  refine zcdB (fun h => hQ1 (fun w => h w.2.2.2)) (fun h4 => ?_)
  have hok : mspok a b rk ac := ⟨h1, h2, h3, h4⟩
  obtain ⟨A, rfl⟩ : ∃ A : Nat, a = (A : Int) := ⟨a.toNat, by omega⟩
  obtain ⟨B, rfl⟩ : ∃ B : Nat, b = (B : Int) := ⟨b.toNat, by omega⟩
  rw [Int.toNat_natCast, Int.toNat_natCast] at hQ2 hQ3
  have hle := rwf_le B 32 A
  generalize hR : rwf B 32 A = R at hQ2 hQ3 hle
  -- the making
  have make : ∀ (n f x : Nat) (J : Nat → Nat → Int) (w1 w7 : PV), rwf B f x = n → B + 1 ≤ x + f → x ≤ 32 → n ≤ zcnt (fun r => J 33 r = 0) 16 → Q (some (zI (R : Int)), zH S (spm B rk ac n x J)) → Wp 131 (87, [zA 32, w1, zI (B : Int), zI rk, zI ac, zI (R : Int), zI (x : Int), w7], [], zH S J) Q := by
    intro n
    induction n with
    | zero =>
      intro f x J w1 w7 hf hfx hx hc hq
      refine (sg_X6_span_87_32 _ _ _ _ _ _ _ _ _ _).mpr ?_
      refine zcd (fun _ => hq) (fun h => ?_)
      exfalso
      cases f with
      | zero => omega
      | succ f => simp only [rwf] at hf; rw [if_pos (by omega)] at hf; omega
    | succ n ih =>
      intro f x J w1 w7 hf hfx hx hc hq
      cases f with
      | zero => simp [rwf] at hf
      | succ f =>
        simp only [rwf] at hf
        by_cases hxb : x ≤ B
        · rw [if_pos hxb] at hf
          have hk := kr_in hxb
          obtain ⟨u1, u2, u3⟩ := mlu_sp (I := J) (by omega)
          refine (sg_X6_span_87_32 _ _ _ _ _ _ _ _ _ _).mpr ?_
          refine zcd (fun h => absurd h (by omega)) (fun _ => ?_)
          refine m_sizeOf (by omega) (by omega) ?_
          refine (sg_X6_span_105_32_32 _ _ _ _ _ _ _ _ _ _ _ _ _ _).mpr ?_
          rw [zsb_eq (by omega)]
          refine m_add u1 u2 u3 ?_
          refine (sg_X6_span_112_32 _ _ _ _ _ _ _ _ _ _ _).mpr ?_
          refine m_sizeOf (by omega) (by omega) ?_
          refine (sg_X6_span_122_32 _ _ _ _ _ _ _ _ _ _ _ _).mpr ?_
          rw [zad_eq (by omega), show (x : Int) + (kr x B : Nat) = ((x + kr x B : Nat) : Int) by omega]
          exact ih f (x + kr x B) _ _ _ (by omega) (by omega) (by omega) (by have := mset_cnt (I := J) (k := 1) (v := (x : Int)) (m := 32 - ((kr x B : Nat) : Int)) (rk := rk) (ac := ac) (by omega); omega) hq
        · rw [if_neg hxb] at hf; omega
  -- the counting
  have count : ∀ (f c x : Nat) (w7 : PV), c + rwf B f x = R → B + 1 ≤ x + f → x ≤ 32 → Wp 131 (49, [zA 32, zI (A : Int), zI (B : Int), zI rk, zI ac, zI (c : Int), zI (x : Int), w7], [], zH S I) Q := by
    intro f
    have stop : ∀ (c x : Nat) (w7 : PV), c = R → B < x → Wp 131 (49, [zA 32, zI (A : Int), zI (B : Int), zI rk, zI ac, zI (c : Int), zI (x : Int), w7], [], zH S I) Q := by
      intro c x w7 hc hx
      subst hc
      refine (sg_X6_span_49_32 _ _ _ _ _ _ _ _ _ _).mpr ?_
      refine zcd (fun _ => ?_) (fun h => absurd (by omega) h)
      refine m_freeRules ?_
      refine (sg_X6_span_78_32 _ _ _ _ _ _ _ _ _ _ _ _).mpr ?_
      refine zcd (fun h => hQ2 hok (by omega)) (fun h => ?_)
      exact make c 32 A I _ _ hR (by omega) (by omega) (by omega) (hQ3 hok (by omega))
    induction f with
    | zero =>
      intro c x w7 hc hx hx2
      exact stop c x w7 (by simpa [rwf] using hc) (by omega)
    | succ f ih =>
      intro c x w7 hc hx hx2
      simp only [rwf] at hc
      by_cases hxb : x ≤ B
      · rw [if_pos hxb] at hc
        have hk := kr_in hxb
        refine (sg_X6_span_49_32 _ _ _ _ _ _ _ _ _ _).mpr ?_
        refine zcd (fun h => absurd h (by omega)) (fun _ => ?_)
        refine m_sizeOf (by omega) (by omega) ?_
        refine (sg_X6_span_66_32 _ _ _ _ _ _ _ _ _ _ _ _).mpr ?_
        rw [zad_s (by omega), zad_eq (by omega), show (x : Int) + (kr x B : Nat) = ((x + kr x B : Nat) : Int) by omega]
        exact ih (c + 1) (x + kr x B) _ (by omega) (by omega) (by omega)
      · rw [if_neg hxb] at hc
        exact stop c x w7 (by omega) (by omega)
  exact count 32 0 A _ (by rw [hR, Nat.zero_add]) (by omega) (by omega)
