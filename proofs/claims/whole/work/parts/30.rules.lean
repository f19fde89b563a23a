/-! the rules' own methods -/
theorem zcd {c : Prop} [Decidable c] {A B : Prop} (h1 : c → A) (h2 : ¬ c → B) : cond (decide c) A B := by
  by_cases h : c
  · rw [decide_eq_true h]; exact h1 h
  · rw [decide_eq_false h]; exact h2 h
theorem zgd {i : Int} {n : Nat} {A : Prop} (h : 0 ≤ i ∧ i < (n : Int)) (a : A) : cond (zib i n) A False := by
  rw [zib_iff.mpr h]; exact a
theorem zgb {x : Int} {A : Prop} (h : x = 0 ∨ x = 1) (a : A) : cond (zbb x) A False := by
  have : zbb x = true := by simpa [zbb] using h
  rw [this]; exact a
theorem zgdb {i x : Int} {n : Nat} {A : Prop} (h : 0 ≤ i ∧ i < (n : Int)) (hx : x = 0 ∨ x = 1) (a : A) : cond (zib i n && zbb x) A False := by
  have : zbb x = true := by simpa [zbb] using hx
  rw [this, zib_iff.mpr h]; exact a
theorem zgn {y : Int} {A : Prop} (h : y ≠ 0) (a : A) : cond (!decide (y = 0)) A False := by
  rw [decide_eq_false h]; exact a
def zB (p : Prop) [Decidable p] : Int := if p then 1 else 0
theorem zB0 {p : Prop} [Decidable p] : zB p = 0 ↔ ¬ p := by by_cases h : p <;> simp [zB, h]
theorem zB_t {p : Prop} [Decidable p] (h : p) : zB p = 1 := if_pos h
theorem zB_f {p : Prop} [Decidable p] (h : ¬ p) : zB p = 0 := if_neg h
theorem zB01 {p : Prop} [Decidable p] : zB p = 0 ∨ zB p = 1 := by by_cases h : p <;> simp [zB, h]
theorem zB_iff {p q : Prop} [Decidable p] [Decidable q] (h : p ↔ q) : zB p = zB q := by
  by_cases hp : p
  · rw [zB_t hp, zB_t (h.mp hp)]
  · rw [zB_f hp, zB_f (fun w => hp (h.mpr w))]
theorem zcdB {p : Prop} [Decidable p] {A B : Prop} (h1 : ¬ p → A) (h2 : p → B) : cond (decide (zB p = 0)) A B := zcd (fun h => h1 (zB0.mp h)) (fun h => h2 (Classical.not_not.mp (fun w => h (zB0.mpr w))))
theorem zq {Q : PV1 → Prop} {a b : Int} {h h' : PH} (hQ : Q (some (zI a), h)) (e : a = b) (e2 : h = h') : Q (some (zI b), h') := e ▸ e2 ▸ hQ
theorem zqn {Q : PV1 → Prop} {h h' : PH} (hQ : Q (none, h)) (e2 : h = h') : Q (none, h') := e2 ▸ hQ
theorem zad_s {i : Nat} (h : i < 2147483647) : zad (i : Int) 1 = ((i + 1 : Nat) : Int) := by rw [zad_eq (by omega)]; omega
/-- a loop, by its rounds -/
theorem Wp_loop {m : Nat} {Q : PV1 → Prop} (N : Nat) (T : Nat → PT → Prop) (hs : ∀ i t, i < N → T i t → (∀ t', T (i + 1) t' → Wp m t' Q) → Wp m t Q) (he : ∀ t, T N t → Wp m t Q) : ∀ (i : Nat) (t : PT), i ≤ N → T i t → Wp m t Q := by
  intro i
  generalize hk : N - i = k
  induction k generalizing i with
  | zero => intro t hi ht; have : i = N := by omega
            subst this; exact he t ht
  | succ k ih => intro t hi ht; exact hs i t (by omega) ht (fun t' ht' => ih (i + 1) (by omega) t' (by omega) ht')
abbrev num (r : Int) : Prop := 0 ≤ r ∧ r ≤ 16

theorem c_isNumber {S : PS} {I : Nat → Nat → Int} {Q : PV1 → Prop} {u0 : PV} {r : Int}  (hQ : Q (some (zI (zB (num r))), zH S I)) : Wp 22 (0, [u0, zI r], [], zH S I) Q := by
  refine (sg_X2_isNumber_0 _ _ _ _ _).mpr ?_
  first | refine zcdB (fun h1 => ?_) (fun h1 => ?_) | refine zcd (fun h1 => ?_) (fun h1 => ?_)
  · refine zgb (by first | omega | simp) ?_
    first | exact hQ | exact zq hQ (zB_t (by omega)) rfl | exact zq hQ (zB_f (by omega)) rfl | exact zq hQ (if_pos (by omega)) rfl | exact zq hQ (if_neg (by omega)) rfl | exact zqn hQ rfl
  · first | refine zcdB (fun h2 => ?_) (fun h2 => ?_) | refine zcd (fun h2 => ?_) (fun h2 => ?_)
    · refine zgb (by first | omega | simp) ?_
      first | exact hQ | exact zq hQ (zB_t (by omega)) rfl | exact zq hQ (zB_f (by omega)) rfl | exact zq hQ (if_pos (by omega)) rfl | exact zq hQ (if_neg (by omega)) rfl | exact zqn hQ rfl
    · refine zgb (by first | omega | simp) ?_
      first | exact hQ | exact zq hQ (zB_t (by omega)) rfl | exact zq hQ (zB_f (by omega)) rfl | exact zq hQ (if_pos (by omega)) rfl | exact zq hQ (if_neg (by omega)) rfl | exact zqn hQ rfl
theorem c_isInUse {S : PS} {I : Nat → Nat → Int} {Q : PV1 → Prop} {r : Int}  (hQ : Q (some (zI (zB (0 ≤ r ∧ r < 16 ∧ I 2 r.toNat ≠ -1))), zH S I)) : Wp 23 (0, [zA 1, zI r], [], zH S I) Q := by
  refine (sg_X2_isInUse_0_1 _ _ _ _).mpr ?_
  first | refine zcdB (fun h1 => ?_) (fun h1 => ?_) | refine zcd (fun h1 => ?_) (fun h1 => ?_)
  · refine zgb (by first | omega | simp) ?_
    first | exact hQ | exact zq hQ (zB_t (by omega)) rfl | exact zq hQ (zB_f (by omega)) rfl | exact zq hQ (if_pos (by omega)) rfl | exact zq hQ (if_neg (by omega)) rfl | exact zqn hQ rfl
  · first | refine zcdB (fun h2 => ?_) (fun h2 => ?_) | refine zcd (fun h2 => ?_) (fun h2 => ?_)
    · refine zgd (by first | omega | simp) ?_
      first | refine zcdB (fun h3 => ?_) (fun h3 => ?_) | refine zcd (fun h3 => ?_) (fun h3 => ?_)
      · refine zgb (by first | omega | simp) ?_
        first | exact hQ | exact zq hQ (zB_t (by omega)) rfl | exact zq hQ (zB_f (by omega)) rfl | exact zq hQ (if_pos (by omega)) rfl | exact zq hQ (if_neg (by omega)) rfl | exact zqn hQ rfl
      · refine zgb (by first | omega | simp) ?_
        first | exact hQ | exact zq hQ (zB_t (by omega)) rfl | exact zq hQ (zB_f (by omega)) rfl | exact zq hQ (if_pos (by omega)) rfl | exact zq hQ (if_neg (by omega)) rfl | exact zqn hQ rfl
    · refine zgb (by first | omega | simp) ?_
      first | exact hQ | exact zq hQ (zB_t (by omega)) rfl | exact zq hQ (zB_f (by omega)) rfl | exact zq hQ (if_pos (by omega)) rfl | exact zq hQ (if_neg (by omega)) rfl | exact zqn hQ rfl
theorem c_kindOf {S : PS} {I : Nat → Nat → Int} {Q : PV1 → Prop} {r : Int}  (hQ : Q (some (zI (if num r then I 2 r.toNat else (-1))), zH S I)) : Wp 29 (0, [zA 1, zI r], [], zH S I) Q := by
  refine (sg_X2_kindOf_0_1 _ _ _ _).mpr ?_
  refine c_isNumber ?_
  refine (sg_X2_kindOf_5_1 _ _ _ _ _).mpr ?_
  first | refine zcdB (fun h1 => ?_) (fun h1 => ?_) | refine zcd (fun h1 => ?_) (fun h1 => ?_)
  · first | exact hQ | exact zq hQ (zB_t (by omega)) rfl | exact zq hQ (zB_f (by omega)) rfl | exact zq hQ (if_pos (by omega)) rfl | exact zq hQ (if_neg (by omega)) rfl | exact zqn hQ rfl
  · refine zgd (by first | omega | simp) ?_
    first | exact hQ | exact zq hQ (zB_t (by omega)) rfl | exact zq hQ (zB_f (by omega)) rfl | exact zq hQ (if_pos (by omega)) rfl | exact zq hQ (if_neg (by omega)) rfl | exact zqn hQ rfl
theorem c_maskOf {S : PS} {I : Nat → Nat → Int} {Q : PV1 → Prop} {r : Int}  (hQ : Q (some (zI (if num r then I 4 r.toNat else 0)), zH S I)) : Wp 31 (0, [zA 1, zI r], [], zH S I) Q := by
  refine (sg_X2_maskOf_0_1 _ _ _ _).mpr ?_
  refine c_isNumber ?_
  refine (sg_X2_maskOf_5_1 _ _ _ _ _).mpr ?_
  first | refine zcdB (fun h1 => ?_) (fun h1 => ?_) | refine zcd (fun h1 => ?_) (fun h1 => ?_)
  · first | exact hQ | exact zq hQ (zB_t (by omega)) rfl | exact zq hQ (zB_f (by omega)) rfl | exact zq hQ (if_pos (by omega)) rfl | exact zq hQ (if_neg (by omega)) rfl | exact zqn hQ rfl
  · refine zgd (by first | omega | simp) ?_
    first | exact hQ | exact zq hQ (zB_t (by omega)) rfl | exact zq hQ (zB_f (by omega)) rfl | exact zq hQ (if_pos (by omega)) rfl | exact zq hQ (if_neg (by omega)) rfl | exact zqn hQ rfl
theorem c_rankOf {S : PS} {I : Nat → Nat → Int} {Q : PV1 → Prop} {r : Int}  (hQ : Q (some (zI (if num r then I 5 r.toNat else 0)), zH S I)) : Wp 32 (0, [zA 1, zI r], [], zH S I) Q := by
  refine (sg_X2_rankOf_0_1 _ _ _ _).mpr ?_
  refine c_isNumber ?_
  refine (sg_X2_rankOf_5_1 _ _ _ _ _).mpr ?_
  first | refine zcdB (fun h1 => ?_) (fun h1 => ?_) | refine zcd (fun h1 => ?_) (fun h1 => ?_)
  · first | exact hQ | exact zq hQ (zB_t (by omega)) rfl | exact zq hQ (zB_f (by omega)) rfl | exact zq hQ (if_pos (by omega)) rfl | exact zq hQ (if_neg (by omega)) rfl | exact zqn hQ rfl
  · refine zgd (by first | omega | simp) ?_
    first | exact hQ | exact zq hQ (zB_t (by omega)) rfl | exact zq hQ (zB_f (by omega)) rfl | exact zq hQ (if_pos (by omega)) rfl | exact zq hQ (if_neg (by omega)) rfl | exact zqn hQ rfl
theorem c_actOf {S : PS} {I : Nat → Nat → Int} {Q : PV1 → Prop} {r : Int}  (hQ : Q (some (zI (if num r then I 6 r.toNat else (-1))), zH S I)) : Wp 33 (0, [zA 1, zI r], [], zH S I) Q := by
  refine (sg_X2_actOf_0_1 _ _ _ _).mpr ?_
  refine c_isNumber ?_
  refine (sg_X2_actOf_5_1 _ _ _ _ _).mpr ?_
  first | refine zcdB (fun h1 => ?_) (fun h1 => ?_) | refine zcd (fun h1 => ?_) (fun h1 => ?_)
  · first | exact hQ | exact zq hQ (zB_t (by omega)) rfl | exact zq hQ (zB_f (by omega)) rfl | exact zq hQ (if_pos (by omega)) rfl | exact zq hQ (if_neg (by omega)) rfl | exact zqn hQ rfl
  · refine zgd (by first | omega | simp) ?_
    first | exact hQ | exact zq hQ (zB_t (by omega)) rfl | exact zq hQ (zB_f (by omega)) rfl | exact zq hQ (if_pos (by omega)) rfl | exact zq hQ (if_neg (by omega)) rfl | exact zqn hQ rfl
theorem c_valueOf {S : PS} {I : Nat → Nat → Int} {Q : PV1 → Prop} {r : Int}  (hQ : Q (some (zI (if num r then zan (I 3 r.toNat) (I 4 r.toNat) else 0)), zH S I)) : Wp 30 (0, [zA 1, zI r], [], zH S I) Q := by
  refine (sg_X2_valueOf_0_1 _ _ _ _).mpr ?_
  refine c_isNumber ?_
  refine (sg_X2_valueOf_5_1 _ _ _ _ _).mpr ?_
  first | refine zcdB (fun h1 => ?_) (fun h1 => ?_) | refine zcd (fun h1 => ?_) (fun h1 => ?_)
  · first | exact hQ | exact zq hQ (zB_t (by omega)) rfl | exact zq hQ (zB_f (by omega)) rfl | exact zq hQ (if_pos (by omega)) rfl | exact zq hQ (if_neg (by omega)) rfl | exact zqn hQ rfl
  · refine zgd (by first | omega | simp) ?_
    refine zgd (by first | omega | simp) ?_
    first | exact hQ | exact zq hQ (zB_t (by omega)) rfl | exact zq hQ (zB_f (by omega)) rfl | exact zq hQ (if_pos (by omega)) rfl | exact zq hQ (if_neg (by omega)) rfl | exact zqn hQ rfl
theorem c_doesFit {S : PS} {I : Nat → Nat → Int} {Q : PV1 → Prop} {r : Int} {k : Int}  (hQ : Q (some (zI (zB (num r ∧ zan (zxr (I 3 r.toNat) k) (I 4 r.toNat) = 0))), zH S I)) : Wp 34 (0, [zA 1, zI r, zI k], [], zH S I) Q := by
  refine (sg_X2_doesFit_0_1 _ _ _ _ _).mpr ?_
  refine c_isNumber ?_
  refine (sg_X2_doesFit_5_1 _ _ _ _ _ _).mpr ?_
  first | refine zcdB (fun h1 => ?_) (fun h1 => ?_) | refine zcd (fun h1 => ?_) (fun h1 => ?_)
  · refine zgb (by first | omega | simp) ?_
    first | exact hQ | exact zq hQ (zB_t (by omega)) rfl | exact zq hQ (zB_f (by omega)) rfl | exact zq hQ (if_pos (by omega)) rfl | exact zq hQ (if_neg (by omega)) rfl | exact zqn hQ rfl
  · refine zgd (by first | omega | simp) ?_
    refine zgd (by first | omega | simp) ?_
    first | refine zcdB (fun h2 => ?_) (fun h2 => ?_) | refine zcd (fun h2 => ?_) (fun h2 => ?_)
    · refine zgb (by first | omega | simp) ?_
      first | exact hQ | exact zq hQ (zB_t (by omega)) rfl | exact zq hQ (zB_f (by omega)) rfl | exact zq hQ (if_pos (by omega)) rfl | exact zq hQ (if_neg (by omega)) rfl | exact zqn hQ rfl
    · refine zgb (by first | omega | simp) ?_
      first | exact hQ | exact zq hQ (zB_t (by omega)) rfl | exact zq hQ (zB_f (by omega)) rfl | exact zq hQ (if_pos (by omega)) rfl | exact zq hQ (if_neg (by omega)) rfl | exact zqn hQ rfl
theorem c_doOverlap {S : PS} {I : Nat → Nat → Int} {Q : PV1 → Prop} {a : Int} {b : Int}  (hQ : Q (some (zI (zB (num a ∧ num b ∧ zan (zan (zxr (I 3 a.toNat) (I 3 b.toNat)) (I 4 a.toNat)) (I 4 b.toNat) = 0))), zH S I)) : Wp 35 (0, [zA 1, zI a, zI b], [], zH S I) Q := by
  refine (sg_X2_doOverlap_0_1 _ _ _ _ _).mpr ?_
  refine c_isNumber ?_
  refine (sg_X2_doOverlap_5_1 _ _ _ _ _ _).mpr ?_
  first | refine zcdB (fun h1 => ?_) (fun h1 => ?_) | refine zcd (fun h1 => ?_) (fun h1 => ?_)
  · refine zgb (by first | omega | simp) ?_
    first | exact hQ | exact zq hQ (zB_t (by omega)) rfl | exact zq hQ (zB_f (by omega)) rfl | exact zq hQ (if_pos (by omega)) rfl | exact zq hQ (if_neg (by omega)) rfl | exact zqn hQ rfl
  · refine c_isNumber ?_
    refine (sg_X2_doOverlap_13_1 _ _ _ _ _ _).mpr ?_
    first | refine zcdB (fun h2 => ?_) (fun h2 => ?_) | refine zcd (fun h2 => ?_) (fun h2 => ?_)
    · refine zgb (by first | omega | simp) ?_
      first | exact hQ | exact zq hQ (zB_t (by omega)) rfl | exact zq hQ (zB_f (by omega)) rfl | exact zq hQ (if_pos (by omega)) rfl | exact zq hQ (if_neg (by omega)) rfl | exact zqn hQ rfl
    · refine zgd (by first | omega | simp) ?_
      refine zgd (by first | omega | simp) ?_
      refine zgd (by first | omega | simp) ?_
      refine zgd (by first | omega | simp) ?_
      first | refine zcdB (fun h3 => ?_) (fun h3 => ?_) | refine zcd (fun h3 => ?_) (fun h3 => ?_)
      · refine zgb (by first | omega | simp) ?_
        first | exact hQ | exact zq hQ (zB_t (by omega)) rfl | exact zq hQ (zB_f (by omega)) rfl | exact zq hQ (if_pos (by omega)) rfl | exact zq hQ (if_neg (by omega)) rfl | exact zqn hQ rfl
      · refine zgb (by first | omega | simp) ?_
        first | exact hQ | exact zq hQ (zB_t (by omega)) rfl | exact zq hQ (zB_f (by omega)) rfl | exact zq hQ (if_pos (by omega)) rfl | exact zq hQ (if_neg (by omega)) rfl | exact zqn hQ rfl
theorem c_isHigher {S : PS} {I : Nat → Nat → Int} {Q : PV1 → Prop} {a : Int} {b : Int}  (hQ : Q (some (zI (zB (num a ∧ num b ∧ (I 5 b.toNat < I 5 a.toNat ∨ (I 5 a.toNat = I 5 b.toNat ∧ a < b))))), zH S I)) : Wp 36 (0, [zA 1, zI a, zI b], [], zH S I) Q := by
  refine (sg_X2_isHigher_0_1 _ _ _ _ _).mpr ?_
  refine c_isNumber ?_
  refine (sg_X2_isHigher_5_1 _ _ _ _ _ _).mpr ?_
  first | refine zcdB (fun h1 => ?_) (fun h1 => ?_) | refine zcd (fun h1 => ?_) (fun h1 => ?_)
  · refine zgb (by first | omega | simp) ?_
    first | exact hQ | exact zq hQ (zB_t (by omega)) rfl | exact zq hQ (zB_f (by omega)) rfl | exact zq hQ (if_pos (by omega)) rfl | exact zq hQ (if_neg (by omega)) rfl | exact zqn hQ rfl
  · refine c_isNumber ?_
    refine (sg_X2_isHigher_13_1 _ _ _ _ _ _).mpr ?_
    first | refine zcdB (fun h2 => ?_) (fun h2 => ?_) | refine zcd (fun h2 => ?_) (fun h2 => ?_)
    · refine zgb (by first | omega | simp) ?_
      first | exact hQ | exact zq hQ (zB_t (by omega)) rfl | exact zq hQ (zB_f (by omega)) rfl | exact zq hQ (if_pos (by omega)) rfl | exact zq hQ (if_neg (by omega)) rfl | exact zqn hQ rfl
    · refine zgd (by first | omega | simp) ?_
      refine zgd (by first | omega | simp) ?_
      first | refine zcdB (fun h3 => ?_) (fun h3 => ?_) | refine zcd (fun h3 => ?_) (fun h3 => ?_)
      · refine zgb (by first | omega | simp) ?_
        first | exact hQ | exact zq hQ (zB_t (by omega)) rfl | exact zq hQ (zB_f (by omega)) rfl | exact zq hQ (if_pos (by omega)) rfl | exact zq hQ (if_neg (by omega)) rfl | exact zqn hQ rfl
      · refine zgd (by first | omega | simp) ?_
        refine zgd (by first | omega | simp) ?_
        first | refine zcdB (fun h4 => ?_) (fun h4 => ?_) | refine zcd (fun h4 => ?_) (fun h4 => ?_)
        · first | refine zcdB (fun h5 => ?_) (fun h5 => ?_) | refine zcd (fun h5 => ?_) (fun h5 => ?_)
          · refine zgb (by first | omega | simp) ?_
            first | exact hQ | exact zq hQ (zB_t (by omega)) rfl | exact zq hQ (zB_f (by omega)) rfl | exact zq hQ (if_pos (by omega)) rfl | exact zq hQ (if_neg (by omega)) rfl | exact zqn hQ rfl
          · refine zgb (by first | omega | simp) ?_
            first | exact hQ | exact zq hQ (zB_t (by omega)) rfl | exact zq hQ (zB_f (by omega)) rfl | exact zq hQ (if_pos (by omega)) rfl | exact zq hQ (if_neg (by omega)) rfl | exact zqn hQ rfl
        · refine zgb (by first | omega | simp) ?_
          first | exact hQ | exact zq hQ (zB_t (by omega)) rfl | exact zq hQ (zB_f (by omega)) rfl | exact zq hQ (if_pos (by omega)) rfl | exact zq hQ (if_neg (by omega)) rfl | exact zqn hQ rfl
theorem c_setMask {S : PS} {I : Nat → Nat → Int} {Q : PV1 → Prop} {r : Int} {x : Int}  (hQ : Q (none, zH S (if num r then zs2 I 4 r.toNat x else I))) : Wp 27 (0, [zA 1, zI r, zI x], [], zH S I) Q := by
  refine (sg_X2_setMask_0_1 _ _ _ _ _).mpr ?_
  refine c_isNumber ?_
  refine (sg_X2_setMask_5_1 _ _ _ _ _ _).mpr ?_
  first | refine zcdB (fun h1 => ?_) (fun h1 => ?_) | refine zcd (fun h1 => ?_) (fun h1 => ?_)
  · first | exact hQ | (rw [if_pos (by omega)] at hQ; exact hQ) | (rw [if_neg (by omega)] at hQ; exact hQ)
  · refine zgd (by first | omega | simp) ?_
    first | exact hQ | (rw [if_pos (by omega)] at hQ; exact hQ) | (rw [if_neg (by omega)] at hQ; exact hQ)
theorem c_setAct {S : PS} {I : Nat → Nat → Int} {Q : PV1 → Prop} {r : Int} {x : Int}  (hQ : Q (none, zH S (if num r then zs2 I 6 r.toNat x else I))) : Wp 28 (0, [zA 1, zI r, zI x], [], zH S I) Q := by
  refine (sg_X2_setAct_0_1 _ _ _ _ _).mpr ?_
  refine c_isNumber ?_
  refine (sg_X2_setAct_5_1 _ _ _ _ _ _).mpr ?_
  first | refine zcdB (fun h1 => ?_) (fun h1 => ?_) | refine zcd (fun h1 => ?_) (fun h1 => ?_)
  · first | exact hQ | (rw [if_pos (by omega)] at hQ; exact hQ) | (rw [if_neg (by omega)] at hQ; exact hQ)
  · refine zgd (by first | omega | simp) ?_
    first | exact hQ | (rw [if_pos (by omega)] at hQ; exact hQ) | (rw [if_neg (by omega)] at hQ; exact hQ)
theorem c_forget {S : PS} {I : Nat → Nat → Int} {Q : PV1 → Prop} {r : Int}  (hQ : Q (none, zH S (if num r then zs2 I 2 r.toNat (-1) else I))) : Wp 21 (0, [zA 1, zI r], [], zH S I) Q := by
  refine (sg_X2_forget_0_1 _ _ _ _).mpr ?_
  refine c_isNumber ?_
  refine (sg_X2_forget_5_1 _ _ _ _ _).mpr ?_
  first | refine zcdB (fun h1 => ?_) (fun h1 => ?_) | refine zcd (fun h1 => ?_) (fun h1 => ?_)
  · first | exact hQ | (rw [if_pos (by omega)] at hQ; exact hQ) | (rw [if_neg (by omega)] at hQ; exact hQ)
  · refine zgd (by first | omega | simp) ?_
    first | exact hQ | (rw [if_pos (by omega)] at hQ; exact hQ) | (rw [if_neg (by omega)] at hQ; exact hQ)
theorem c_set {S : PS} {I : Nat → Nat → Int} {Q : PV1 → Prop} {r : Int} {k : Int} {v : Int} {mk : Int} {rk : Int} {ac : Int}  (hQ : Q (none, zH S (if num r then zs2 (zs2 (zs2 (zs2 (zs2 I 2 r.toNat k) 3 r.toNat v) 4 r.toNat mk) 5 r.toNat rk) 6 r.toNat ac else I))) : Wp 26 (0, [zA 1, zI r, zI k, zI v, zI mk, zI rk, zI ac], [], zH S I) Q := by
  refine (sg_X2_set_0_1 _ _ _ _ _ _ _ _ _).mpr ?_
  refine c_isNumber ?_
  refine (sg_X2_set_5_1 _ _ _ _ _ _ _ _ _ _).mpr ?_
  first | refine zcdB (fun h1 => ?_) (fun h1 => ?_) | refine zcd (fun h1 => ?_) (fun h1 => ?_)
  · first | exact hQ | (rw [if_pos (by omega)] at hQ; exact hQ) | (rw [if_neg (by omega)] at hQ; exact hQ)
  · refine zgd (by first | omega | simp) ?_
    refine zgd (by first | omega | simp) ?_
    refine zgd (by first | omega | simp) ?_
    refine zgd (by first | omega | simp) ?_
    refine zgd (by first | omega | simp) ?_
    first | exact hQ | (rw [if_pos (by omega)] at hQ; exact hQ) | (rw [if_neg (by omega)] at hQ; exact hQ)
