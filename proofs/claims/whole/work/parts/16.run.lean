/-! runs of the small machine, many steps at a time -/
abbrev PV1 : Type := Option PV × PH
def Run (m : Nat) (t : PT) (v : PV1) : Prop := ∃ n, pex n m t = some v
theorem pex_up : ∀ (n m : Nat) (t : PT) (v : PV1), pex n m t = some v → pex (n + 1) m t = some v := by
  intro n
  induction n with
  | zero => intro m t v h; cases h
  | succ n ih =>
    intro m t v h
    have e : pex (n + 1 + 1) m t = match pst m t.1 t.2.1 t.2.2.1 t.2.2.2 with
      | .inl l => l.foldr (fun q acc => cond q.1 (pex (n + 1) m q.2) acc) none
      | .inr (.inl (c, r)) => cond c (some (r, t.2.2.2)) none
      | .inr (.inr (m', as, rest)) => (pex (n + 1) m' (0, pfr m' as, [], t.2.2.2)).bind fun r => pex (n + 1) m (t.1 + 3, t.2.1, r.1.toList ++ rest, r.2) := rfl
    rw [e]
    unfold pex at h
    split at h
    · rename_i l hl
      simp only [hl]
      clear hl e
      induction l with
      | nil => cases h
      | cons a l ihl =>
        obtain ⟨c, x⟩ := a
        cases c with
        | true => exact ih _ _ _ h
        | false => exact ihl h
    · rename_i c r hl
      simp only [hl]
      exact h
    · rename_i m' as rest hl
      simp only [hl]
      obtain ⟨w, hw, hv⟩ := Option.bind_eq_some_iff.mp h
      exact Option.bind_eq_some_iff.mpr ⟨w, ih _ _ _ hw, ih _ _ _ hv⟩
theorem pex_le {n n' m : Nat} {t : PT} {v : PV1} (h : pex n m t = some v) (hn : n ≤ n') : pex n' m t = some v := by
  induction hn with
  | refl => exact h
  | step _ ih => exact pex_up _ _ _ _ ih
theorem Run_det {m : Nat} {t : PT} {v w : PV1} (h1 : Run m t v) (h2 : Run m t w) : v = w := by
  obtain ⟨n1, h1⟩ := h1
  obtain ⟨n2, h2⟩ := h2
  have a := pex_le h1 (Nat.le_max_left n1 n2)
  have b := pex_le h2 (Nat.le_max_right n1 n2)
  exact Option.some.inj (a.symm.trans b)
theorem Run_iff {m : Nat} {t : PT} {w : PV1} (h : Run m t w) (v : PV1) : Run m t v ↔ v = w := ⟨fun q => Run_det q h, fun q => q ▸ h⟩
def zmem (a : Nat) : List Nat → Bool
  | [] => false
  | b :: l => cond (Nat.beq a b) true (zmem a l)
def RunK (stops : List Nat) : Nat → Nat → PT → PV1 → Prop
  | 0, m, t, v => Run m t v
  | k + 1, m, t, v => match pst m t.1 t.2.1 t.2.2.1 t.2.2.2 with
    | .inl l => l.foldr (fun q acc => cond q.1 (cond (zmem q.2.1 stops) (Run m q.2 v) (RunK stops k m q.2 v)) acc) False
    | .inr (.inl (c, r)) => cond c (v = (r, t.2.2.2)) False
    | .inr (.inr (m', as, rest)) => ∃ w : PV1, Run m' (0, pfr m' as, [], t.2.2.2) w ∧ Run m (t.1 + 3, t.2.1, w.1.toList ++ rest, w.2) v
theorem Run_step (stops : List Nat) (m : Nat) (t : PT) (v : PV1) : RunK stops 1 m t v ↔ Run m t v := by
  unfold RunK
  constructor
  · intro h
    split at h
    · rename_i l hl
      have : ∃ n, l.foldr (fun q acc => cond q.1 (pex n m q.2) acc) none = some v := by
        clear hl
        induction l with
        | nil => exact h.elim
        | cons a l ihl =>
          obtain ⟨c, x⟩ := a
          cases c with
          | true =>
            have h2 : Run m x v := by
              simp only [List.foldr_cons, cond_true, RunK] at h
              cases hz : zmem x.1 stops <;> rw [hz] at h <;> exact h
            exact h2
          | false => exact ihl h
      obtain ⟨n, hn⟩ := this
      exact ⟨n + 1, by unfold pex; simp only [hl]; exact hn⟩
    · rename_i c r hl
      cases c with
      | true => exact ⟨1, by unfold pex; simp only [hl]; rw [show v = (r, t.2.2.2) from h]; rfl⟩
      | false => exact h.elim
    · rename_i m' as rest hl
      obtain ⟨w, ⟨n1, h1⟩, n2, h2⟩ := h
      refine ⟨max n1 n2 + 1, ?_⟩
      unfold pex
      simp only [hl]
      exact Option.bind_eq_some_iff.mpr ⟨w, pex_le h1 (Nat.le_max_left _ _), pex_le h2 (Nat.le_max_right _ _)⟩
  · rintro ⟨n, hn⟩
    cases n with
    | zero => cases hn
    | succ n =>
      unfold pex at hn
      split at hn
      · rename_i l hl
        simp only [hl]
        clear hl
        induction l with
        | nil => cases hn
        | cons a l ihl =>
          obtain ⟨c, x⟩ := a
          cases c with
          | true =>
            have h2 : Run m x v := ⟨n, hn⟩
            simp only [List.foldr_cons, cond_true, RunK]
            cases hz : zmem x.1 stops <;> exact h2
          | false => exact ihl hn
      · rename_i c r hl
        simp only [hl]
        cases c with
        | true => cases hn; rfl
        | false => cases hn
      · rename_i m' as rest hl
        simp only [hl]
        obtain ⟨w, hw, hv⟩ := Option.bind_eq_some_iff.mp hn
        exact ⟨w, ⟨n, hw⟩, n, hv⟩
theorem RunK_iff (stops : List Nat) : ∀ (k m : Nat) (t : PT) (v : PV1), RunK stops k m t v ↔ Run m t v := by
  intro k
  induction k with
  | zero => intro m t v; exact Iff.rfl
  | succ k ih =>
    intro m t v
    refine Iff.trans ?_ (Run_step stops m t v)
    show RunK stops (k + 1) m t v ↔ RunK stops (0 + 1) m t v
    unfold RunK
    split
    · rename_i l hl
      clear hl
      induction l with
      | nil => exact Iff.rfl
      | cons a l ihl =>
        obtain ⟨c, x⟩ := a
        simp only [List.foldr_cons]
        cases c with
        | true =>
          simp only [cond_true]
          cases hz : zmem x.1 stops
          · exact ih m x v
          · exact Iff.rfl
        | false => exact ihl
    · exact Iff.rfl
    · exact Iff.rfl
theorem zc_if {c : Prop} [Decidable c] {a b : Prop} : (cond (decide c) a b) = if c then a else b := by by_cases h : c <;> simp [h]
theorem zc_ib {i : Int} {n : Nat} {a : Prop} : (cond (zib i n) a False) = ((0 ≤ i ∧ i < (n : Int)) ∧ a) := by
  simp only [zib]
  by_cases h1 : 0 ≤ i <;> by_cases h2 : i < (n : Int) <;> simp [h1, h2]
theorem zc_bb {x : Int} {a : Prop} : (cond (zbb x) a False) = ((x = 0 ∨ x = 1) ∧ a) := by
  simp only [zbb]
  by_cases h1 : x = 0 <;> by_cases h2 : x = 1 <;> simp [h1, h2]
theorem zc_ibb {i x : Int} {n : Nat} {a : Prop} : (cond (zib i n && zbb x) a False) = ((0 ≤ i ∧ i < (n : Int)) ∧ (x = 0 ∨ x = 1) ∧ a) := by
  rw [← zc_bb, ← zc_ib]
  cases zib i n <;> rfl
theorem zc_n0 {y : Int} {a : Prop} : (cond (!decide (y = 0)) a False) = (y ≠ 0 ∧ a) := by by_cases h : y = 0 <;> simp [h]
def zSH : List (Nat × Nat) := [(5, 9), (2, 5), (7, 17), (7, 17), (7, 17), (7, 17), (7, 17), (4, 3), (7, 6), (4, 3), (7, 6), (3, 11), (7, 6), (7, 6), (7, 6), (7, 6), (7, 720), (7, 720), (7, 243), (0, 7), (7, 20), (7, 20), (7, 20), (7, 20), (7, 20), (1, 3), (7, 16), (7, 16), (1, 3), (7, 16), (7, 16), (7, 32), (6, 25), (8, 16), (7, 16), (7, 17), (7, 17), (7, 17), (7, 16), (7, 12), (7, 320), (8, 117649), (7, 2000), (7, 2000), (7, 2000), (7, 2000), (7, 6), (7, 6), (7, 2000), (7, 2000), (7, 32)]
def zPP : Nat → Nat → Option Nat := fun r k => match r with
  | 0 => match k with | 0 => some 1 | 1 => some 7 | 2 => some 9 | 3 => some 11 | 4 => some 19 | 5 => some 25 | 6 => some 28 | 7 => some 31 | _ => none
  | 1 => match k with | 0 => some 2 | 1 => some 3 | 2 => some 4 | 3 => some 5 | 4 => some 6 | _ => none
  | 7 => match k with | 0 => some 1 | 1 => some 8 | _ => none
  | 9 => match k with | 0 => some 1 | 1 => some 10 | _ => none
  | 11 => match k with | 0 => some 1 | 1 => some 12 | 2 => some 13 | 3 => some 14 | 4 => some 15 | 5 => some 16 | 6 => some 17 | 7 => some 18 | _ => none
  | 19 => match k with | 0 => some 20 | 1 => some 21 | 2 => some 22 | 3 => some 23 | 4 => some 24 | _ => none
  | 25 => match k with | 0 => some 26 | 1 => some 27 | _ => none
  | 28 => match k with | 0 => some 29 | 1 => some 30 | _ => none
  | 32 => match k with | 0 => some 33 | 1 => some 34 | 2 => some 35 | 3 => some 36 | 4 => some 37 | 5 => some 38 | 8 => some 39 | 10 => some 40 | 11 => some 41 | 12 => some 42 | 13 => some 43 | 14 => some 44 | 15 => some 45 | 17 => some 46 | 19 => some 47 | 22 => some 48 | 23 => some 49 | 24 => some 50 | _ => none
  | _ => none
abbrev zH (S : PS) (I : Nat → Nat → Int) : PH := (zSH, I, zPP, S)
/-- the run ends, and what stands then -/
def Wp (m : Nat) (t : PT) (Q : PV1 → Prop) : Prop := ∃ v, Run m t v ∧ Q v
theorem Wp_mono {m : Nat} {t : PT} {Q Q' : PV1 → Prop} (h : Wp m t Q) (k : ∀ v, Q v → Q' v) : Wp m t Q' := by
  obtain ⟨v, h1, h2⟩ := h
  exact ⟨v, h1, k v h2⟩
theorem Wp_of {m : Nat} {t : PT} {v : PV1} {Q : PV1 → Prop} (h : Run m t v) (k : Q v) : Wp m t Q := ⟨v, h, k⟩
theorem Run_of {m : Nat} {t : PT} {v : PV1} (h : Wp m t (fun w => w = v)) : Run m t v := by
  obtain ⟨w, h1, rfl⟩ := h
  exact h1
theorem Wp_det {m : Nat} {t : PT} {Q Q' : PV1 → Prop} (h : Wp m t Q) (h' : Wp m t Q') : Wp m t (fun v => Q v ∧ Q' v) := by
  obtain ⟨v, h1, h2⟩ := h
  obtain ⟨w, h3, h4⟩ := h'
  have e := Run_det h1 h3
  subst e
  exact ⟨v, h1, h2, h4⟩
def WpK (stops : List Nat) : Nat → Nat → PT → (PV1 → Prop) → Prop
  | 0, m, t, Q => Wp m t Q
  | k + 1, m, t, Q => match pst m t.1 t.2.1 t.2.2.1 t.2.2.2 with
    | .inl l => l.foldr (fun q acc => cond q.1 (cond (zmem q.2.1 stops) (Wp m q.2 Q) (WpK stops k m q.2 Q)) acc) False
    | .inr (.inl (c, r)) => cond c (Q (r, t.2.2.2)) False
    | .inr (.inr (m', as, rest)) => Wp m' (0, pfr m' as, [], t.2.2.2) (fun w => Wp m (t.1 + 3, t.2.1, w.1.toList ++ rest, w.2) Q)
theorem WpK_iff (stops : List Nat) : ∀ (k m : Nat) (t : PT) (Q : PV1 → Prop), WpK stops k m t Q ↔ Wp m t Q := by
  intro k
  induction k with
  | zero => intro m t Q; exact Iff.rfl
  | succ k ih =>
    intro m t Q
    have e : Wp m t Q ↔ ∃ v, RunK stops 1 m t v ∧ Q v := by
      simp only [Wp, Run_step]
    rw [e]
    unfold WpK RunK
    cases hp : pst m t.1 t.2.1 t.2.2.1 t.2.2.2 with
    | inl l =>
      simp only
      clear hp
      induction l with
      | nil => exact ⟨fun h => h.elim, fun ⟨v, h, _⟩ => h.elim⟩
      | cons a l ihl =>
        obtain ⟨c, x⟩ := a
        simp only [List.foldr_cons]
        cases c with
        | true =>
          simp only [cond_true, RunK]
          cases hz : zmem x.1 stops
          · exact ih m x Q
          · exact Iff.rfl
        | false => exact ihl
    | inr y =>
      cases y with
      | inl cr =>
        obtain ⟨c, r⟩ := cr
        cases c
        · exact ⟨fun h => h.elim, fun ⟨v, h, _⟩ => h.elim⟩
        · exact ⟨fun h => ⟨_, rfl, h⟩, fun ⟨v, h, k⟩ => by rw [show v = (r, t.2.2.2) from h] at k; exact k⟩
      | inr z =>
        obtain ⟨m', as, rest⟩ := z
        simp only
        constructor
        · rintro ⟨w, h1, v, h2, h3⟩
          exact ⟨v, ⟨w, h1, h2⟩, h3⟩
        · rintro ⟨v, ⟨w, h1, h2⟩, h3⟩
          exact ⟨w, h1, v, h2, h3⟩
