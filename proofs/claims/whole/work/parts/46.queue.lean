/-! the queue as mathematics -/
noncomputable def bq (mv : List Nat → Nat → Nat → Prop) (k : Nat) (a0 : List Nat) : Nat → List QE
  | 0 => [(a0, -1, 0, 0, 0)]
  | n + 1 => match (bq mv k a0 n)[n]? with
    | some e => qwm mv (n : Int) e.1 e.2.2.2.2 k (bq mv k a0 n)
    | none => bq mv k a0 n
theorem bq_s {mv : List Nat → Nat → Nat → Prop} {k : Nat} {a0 : List Nat} {n : Nat} {e : QE} (h : (bq mv k a0 n)[n]? = some e) : bq mv k a0 (n + 1) = qwm mv (n : Int) e.1 e.2.2.2.2 k (bq mv k a0 n) := by
  simp only [bq, h]
theorem bq_n {mv : List Nat → Nat → Nat → Prop} {k : Nat} {a0 : List Nat} {n : Nat} (h : (bq mv k a0 n)[n]? = none) : bq mv k a0 (n + 1) = bq mv k a0 n := by
  simp only [bq, h]
/-- what every widening keeps, told by a property of lists -/
theorem qwp_keep {mv : List Nat → Nat → Nat → Prop} {s : Int} {a : List Nat} {d m : Nat} (T : List QE → Prop) (h : ∀ L p, p < 6 → mv a m p → T L → T (qadd L (a.set m p, s, m, p, d + 1))) : ∀ (p : Nat) (L : List QE), p ≤ 6 → T L → T (qwp mv s a d m p L)
  | 0, _, _, hL => hL
  | p + 1, L, hp, hL => by
    have ih := qwp_keep T h p L (by omega) hL
    by_cases w : mv a m p
    · rw [qwp_s _ _ _ _ _ _ _ w]; exact h _ p (by omega) w ih
    · rw [qwp_n _ _ _ _ _ _ _ w]; exact ih
theorem qwm_keep {mv : List Nat → Nat → Nat → Prop} {s : Int} {a : List Nat} {d : Nat} (T : List QE → Prop) : ∀ (k : Nat) (L : List QE), (∀ L m p, m < k → p < 6 → mv a m p → T L → T (qadd L (a.set m p, s, m, p, d + 1))) → T L → T (qwm mv s a d k L)
  | 0, _, _, hL => hL
  | k + 1, L, h, hL => qwp_keep T (fun L p hp w hT => h L k p (by omega) hp w hT) 6 _ (Nat.le_refl 6) (qwm_keep T k L (fun L m p hm hp w hT => h L m p (by omega) hp w hT) hL)
theorem qadd_pre (L : List QE) (e : QE) : ∃ r, qadd L e = L ++ r := by
  unfold qadd
  split
  · exact ⟨[], by simp⟩
  · exact ⟨[e], rfl⟩
theorem qwm_pre (mv : List Nat → Nat → Nat → Prop) (s : Int) (a : List Nat) (d k : Nat) (L : List QE) : ∃ r, qwm mv s a d k L = L ++ r := by
  refine qwm_keep (fun L' => ∃ r, L' = L ++ r) k L (fun L' m p _ _ _ ⟨r, hr⟩ => ?_) ⟨[], by simp⟩
  obtain ⟨r2, h2⟩ := qadd_pre L' (a.set m p, s, m, p, d + 1)
  exact ⟨r ++ r2, by rw [h2, hr, List.append_assoc]⟩
theorem bq_pre1 (mv : List Nat → Nat → Nat → Prop) (k : Nat) (a0 : List Nat) (n : Nat) : ∃ r, bq mv k a0 (n + 1) = bq mv k a0 n ++ r := by
  cases h : (bq mv k a0 n)[n]? with
  | none => exact ⟨[], by rw [bq_n h]; simp⟩
  | some e => rw [bq_s h]; exact qwm_pre _ _ _ _ _ _
theorem bq_pre (mv : List Nat → Nat → Nat → Prop) (k : Nat) (a0 : List Nat) (n : Nat) : ∀ d, ∃ r, bq mv k a0 (n + d) = bq mv k a0 n ++ r
  | 0 => ⟨[], by simp⟩
  | d + 1 => by
    obtain ⟨r, hr⟩ := bq_pre mv k a0 n d
    obtain ⟨r2, h2⟩ := bq_pre1 mv k a0 (n + d)
    exact ⟨r ++ r2, by rw [← Nat.add_assoc, h2, hr, List.append_assoc]⟩
theorem bq_get {mv : List Nat → Nat → Nat → Prop} {k : Nat} {a0 : List Nat} {n n' j : Nat} {e : QE} (hn : n ≤ n') (h : (bq mv k a0 n)[j]? = some e) : (bq mv k a0 n')[j]? = some e := by
  obtain ⟨r, hr⟩ := bq_pre mv k a0 n (n' - n)
  rw [show n + (n' - n) = n' by omega] at hr
  rw [hr, List.getElem?_append_left (List.getElem?_eq_some_iff.mp h).1]
  exact h
/-- an entry that was come to was there when its turn came -/
theorem bq_turn {mv : List Nat → Nat → Nat → Prop} {k : Nat} {a0 : List Nat} {n j : Nat} {e : QE} (hj : j ≤ n) (h : (bq mv k a0 n)[j]? = some e) : (bq mv k a0 j)[j]? = some e := by
  cases hh : (bq mv k a0 j)[j]? with
  | some e' => rw [← h, bq_get hj hh]
  | none =>
    exfalso
    have stay : ∀ d, bq mv k a0 (j + d) = bq mv k a0 j := by
      intro d
      induction d with
      | zero => rfl
      | succ d ih =>
        rw [← Nat.add_assoc, bq_n, ih]
        rw [ih]
        have := List.getElem?_eq_none_iff.mp hh
        exact List.getElem?_eq_none_iff.mpr (by omega)
    have := stay (n - j)
    rw [show j + (n - j) = n by omega] at this
    rw [this, hh] at h
    cases h
/-- the good state of a queue whose entries below n are widened -/
def QG (mv : List Nat → Nat → Nat → Prop) (k n : Nat) (L : List QE) : Prop :=
  (L.map Prod.fst).Nodup ∧ (∀ e ∈ L, barr k e.1) ∧ QW k L ∧
  (∀ (i j : Nat) (x y : QE), i ≤ j → L[i]? = some x → L[j]? = some y → x.2.2.2.2 ≤ y.2.2.2.2) ∧
  (∀ (j : Nat) (x y : QE), L[n]? = some x → L[j]? = some y → y.2.2.2.2 ≤ x.2.2.2.2 + 1) ∧
  ∀ (i : Nat) (x : QE), i < n → L[i]? = some x → ∀ m p, m < k → p < 6 → mv x.1 m p → ∃ y ∈ L, y.1 = x.1.set m p ∧ y.2.2.2.2 ≤ x.2.2.2.2 + 1
theorem QW_snoc {k : Nat} {L : List QE} (h : QW k L) {e e' : QE} {j' : Nat} (h2 : L[j']? = some e') (h3 : e.2.1 = (j' : Int)) (h4 : e.2.2.1 < k) (h5 : e.2.2.2.1 < 6) (h6 : e.2.2.2.1 ∉ e'.1) (h7 : e.1 = e'.1.set e.2.2.1 e.2.2.2.1) (h8 : e.2.2.2.2 = e'.2.2.2.2 + 1) : QW k (L ++ [e]) := by
  intro j x hx
  have hj' := (List.getElem?_eq_some_iff.mp h2).1
  by_cases hj : j < L.length
  · rw [List.getElem?_append_left hj] at hx
    rcases h j x hx with w | ⟨j2, e2, g1, g2, g3⟩
    · exact Or.inl w
    · refine Or.inr ⟨j2, e2, g1, ?_, g3⟩
      rw [List.getElem?_append_left (by omega)]; exact g2
  · have hj2 : j = L.length := by
      have := (List.getElem?_eq_some_iff.mp hx).1
      simp at this; omega
    subst hj2
    rw [List.getElem?_append_right (Nat.le_refl _)] at hx
    simp at hx
    subst hx
    exact Or.inr ⟨j', e', hj', by rw [List.getElem?_append_left hj']; exact h2, h3, h4, h5, h6, h7, h8⟩
theorem snoc_get {L : List QE} {e : QE} {j : Nat} {x : QE} (h : (L ++ [e])[j]? = some x) : L[j]? = some x ∨ (j = L.length ∧ x = e) := by
  by_cases hj : j < L.length
  · rw [List.getElem?_append_left hj] at h; exact Or.inl h
  · have hj2 : j = L.length := by
      have := (List.getElem?_eq_some_iff.mp h).1
      simp at this; omega
    subst hj2
    rw [List.getElem?_append_right (Nat.le_refl _)] at h
    simp at h
    exact Or.inr ⟨rfl, h.symm⟩
theorem mem_get {L : List QE} {e : QE} (h : e ∈ L) : ∃ j : Nat, L[j]? = some e := List.getElem?_of_mem h
/-- one widening, half done: the ways in T are in -/
def QH (mv : List Nat → Nat → Nat → Prop) (k n : Nat) (x : QE) (T : Nat → Nat → Prop) (L : List QE) : Prop :=
  (L.map Prod.fst).Nodup ∧ (∀ e ∈ L, barr k e.1) ∧ QW k L ∧ L[n]? = some x ∧
  (∀ (i j : Nat) (u v : QE), i ≤ j → L[i]? = some u → L[j]? = some v → u.2.2.2.2 ≤ v.2.2.2.2) ∧
  (∀ (j : Nat) (y : QE), L[j]? = some y → y.2.2.2.2 ≤ x.2.2.2.2 + 1) ∧
  (∀ (i : Nat) (u : QE), i < n → L[i]? = some u → ∀ m p, m < k → p < 6 → mv u.1 m p → ∃ y ∈ L, y.1 = u.1.set m p ∧ y.2.2.2.2 ≤ u.2.2.2.2 + 1) ∧
  ∀ m p, T m p → mv x.1 m p → ∃ y ∈ L, y.1 = x.1.set m p ∧ y.2.2.2.2 ≤ x.2.2.2.2 + 1
theorem QH_add {mv : List Nat → Nat → Nat → Prop} {k n : Nat} {x : QE} {T : Nat → Nat → Prop} {L : List QE} (h : QH mv k n x T L) {m p : Nat} (hm : m < k) (hp : p < 6) (hn : p ∉ x.1) : QH mv k n x (fun m' p' => T m' p' ∨ (m' = m ∧ p' = p)) (qadd L (x.1.set m p, (n : Int), m, p, x.2.2.2.2 + 1)) := by
  obtain ⟨h1, h2, h3, h4, h5, h6, h7, h8⟩ := h
  have hbx := h2 x (List.mem_of_getElem? h4)
  unfold qadd
  by_cases w : (x.1.set m p) ∈ L.map Prod.fst
  · rw [if_pos w]
    refine ⟨h1, h2, h3, h4, h5, h6, h7, fun m' p' ht hmv => ?_⟩
    rcases ht with ht | ⟨rfl, rfl⟩
    · exact h8 m' p' ht hmv
    · obtain ⟨y, hy, e⟩ := List.mem_map.mp w
      obtain ⟨j, hj⟩ := mem_get hy
      exact ⟨y, hy, e, h6 j y hj⟩
  · rw [if_neg w]
    have hln := (List.getElem?_eq_some_iff.mp h4).1
    have up : ∀ (u : QE) (m' p' : Nat), (∃ y ∈ L, y.1 = u.1.set m' p' ∧ y.2.2.2.2 ≤ u.2.2.2.2 + 1) → ∃ y ∈ L ++ [(x.1.set m p, (n : Int), m, p, x.2.2.2.2 + 1)], y.1 = u.1.set m' p' ∧ y.2.2.2.2 ≤ u.2.2.2.2 + 1 := fun u m' p' ⟨y, hy, e⟩ => ⟨y, List.mem_append_left _ hy, e⟩
    refine ⟨by rw [List.map_append]; exact nodup_snoc h1 w, fun e he => ?_, QW_snoc h3 h4 rfl hm hp hn rfl rfl, by rw [List.getElem?_append_left hln]; exact h4, fun i j u v hij hu hv => ?_, fun j y hy => ?_, fun i u hi hu m' p' hm' hp' hmv => ?_, fun m' p' ht hmv => ?_⟩
    · rcases List.mem_append.mp he with he | he
      · exact h2 e he
      · rw [List.mem_singleton.mp he]
        exact barr_set hbx hp hn
    · rcases snoc_get hu with hu | ⟨hu, rfl⟩
      · rcases snoc_get hv with hv | ⟨hv, rfl⟩
        · exact h5 i j u v hij hu hv
        · exact h6 i u hu
      · rcases snoc_get hv with hv | ⟨hv, rfl⟩
        · have := (List.getElem?_eq_some_iff.mp hv).1; omega
        · exact Nat.le_refl _
    · rcases snoc_get hy with hy | ⟨_, rfl⟩
      · exact h6 j y hy
      · exact Nat.le_refl _
    · rcases snoc_get hu with hu | ⟨hu, _⟩
      · exact up u m' p' (h7 i u hi hu m' p' hm' hp' hmv)
      · omega
    · rcases ht with ht | ⟨rfl, rfl⟩
      · exact up x m' p' (h8 m' p' ht hmv)
      · exact ⟨_, List.mem_append_right _ (List.mem_singleton.mpr rfl), rfl, Nat.le_refl _⟩
theorem QH_mono {mv : List Nat → Nat → Nat → Prop} {k n : Nat} {x : QE} {T T' : Nat → Nat → Prop} {L : List QE} (h : QH mv k n x T L) (ht : ∀ m p, T' m p → mv x.1 m p → T m p) : QH mv k n x T' L :=
  ⟨h.1, h.2.1, h.2.2.1, h.2.2.2.1, h.2.2.2.2.1, h.2.2.2.2.2.1, h.2.2.2.2.2.2.1, fun m p h1 h2 => h.2.2.2.2.2.2.2 m p (ht m p h1 h2) h2⟩
theorem QH_wp {mv : List Nat → Nat → Nat → Prop} {k n : Nat} {x : QE} {T : Nat → Nat → Prop} {L : List QE} {m : Nat} (hmv : ∀ p, mv x.1 m p → p ∉ x.1) (hm : m < k) (h : QH mv k n x T L) : ∀ p, p ≤ 6 → QH mv k n x (fun m' p' => T m' p' ∨ (m' = m ∧ p' < p)) (qwp mv (n : Int) x.1 x.2.2.2.2 m p L)
  | 0, _ => QH_mono h (fun m' p' w _ => w.resolve_right (fun w => by omega))
  | p + 1, hp => by
    have ih := QH_wp hmv hm h p (by omega)
    by_cases w : mv x.1 m p
    · rw [qwp_s _ _ _ _ _ _ _ w]
      refine QH_mono (QH_add ih hm (by omega) (hmv p w)) (fun m' p' ht _ => ?_)
      rcases ht with ht | ⟨h1, h2⟩
      · exact Or.inl (Or.inl ht)
      · by_cases e : p' = p
        · exact Or.inr ⟨h1, e⟩
        · exact Or.inl (Or.inr ⟨h1, by omega⟩)
    · rw [qwp_n _ _ _ _ _ _ _ w]
      refine QH_mono ih (fun m' p' ht hv => ?_)
      rcases ht with ht | ⟨h1, h2⟩
      · exact Or.inl ht
      · by_cases e : p' = p
        · subst e; subst h1; exact absurd hv w
        · exact Or.inr ⟨h1, by omega⟩
theorem QH_wm {mv : List Nat → Nat → Nat → Prop} {k n : Nat} {x : QE} {T : Nat → Nat → Prop} {L : List QE} (hmv : ∀ m p, mv x.1 m p → p ∉ x.1) (h : QH mv k n x T L) : ∀ m, m ≤ k → QH mv k n x (fun m' p' => T m' p' ∨ (m' < m ∧ p' < 6)) (qwm mv (n : Int) x.1 x.2.2.2.2 m L)
  | 0, _ => QH_mono h (fun m' p' w _ => w.resolve_right (fun w => by omega))
  | m + 1, hm => by
    have ih := QH_wm hmv h m (by omega)
    refine QH_mono (QH_wp (fun p w => hmv m p w) (by omega) ih 6 (Nat.le_refl 6)) (fun m' p' ht _ => ?_)
    rcases ht with ht | ⟨h1, h2⟩
    · exact Or.inl (Or.inl ht)
    · by_cases e : m' = m
      · exact Or.inr ⟨e, h2⟩
      · exact Or.inl (Or.inr ⟨by omega, h2⟩)
theorem bq_good {mv : List Nat → Nat → Nat → Prop} {k : Nat} {a0 : List Nat} (hmv : ∀ a m p, mv a m p → p ∉ a) (h0 : barr k a0) : ∀ n, QG mv k n (bq mv k a0 n)
  | 0 => by
    have one : ∀ (j : Nat) (e : QE), (bq mv k a0 0)[j]? = some e → e = (a0, -1, 0, 0, 0) := fun j e h => by
      have := List.mem_of_getElem? h
      simpa [bq] using this
    refine ⟨by simp [bq], fun e he => ?_, fun j e h => Or.inl (by rw [one j e h]; exact ⟨rfl, rfl⟩), fun i j x y _ hx hy => ?_, fun j x y hx hy => ?_, fun i x hi => absurd hi (by omega)⟩
    · have : e = (a0, -1, 0, 0, 0) := by simpa [bq] using he
      rw [this]; exact h0
    · rw [one i x hx, one j y hy]; exact Nat.le_refl _
    · rw [one j y hy]; exact Nat.zero_le _
  | n + 1 => by
    obtain ⟨h1, h2, h3, h4, h5, h6⟩ := bq_good hmv h0 n
    cases hh : (bq mv k a0 n)[n]? with
    | none =>
      rw [bq_n hh]
      refine ⟨h1, h2, h3, h4, fun j x y hx _ => ?_, fun i x hi hx => ?_⟩
      · have a1 := List.getElem?_eq_none_iff.mp hh
        have a2 := (List.getElem?_eq_some_iff.mp hx).1
        omega
      · by_cases e : i = n
        · subst e; rw [hh] at hx; cases hx
        · exact h6 i x (by omega) hx
    | some e =>
      rw [bq_s hh]
      have hH : QH mv k n e (fun _ _ => False) (bq mv k a0 n) := ⟨h1, h2, h3, hh, h4, fun j y hy => h5 j e y hh hy, fun i u hi hu => h6 i u hi hu, fun _ _ w => w.elim⟩
      obtain ⟨g1, g2, g3, g4, g5, g6, g7, g8⟩ := QH_wm (fun m p w => hmv e.1 m p w) hH k (Nat.le_refl k)
      refine ⟨g1, g2, g3, g5, fun j x y hx hy => ?_, fun i x hi hx m p hm hp w => ?_⟩
      · exact Nat.le_trans (g6 j y hy) (Nat.add_le_add_right (g5 n (n + 1) e x (by omega) g4 hx) 1)
      · by_cases e2 : i = n
        · subst e2
          rw [g4] at hx
          cases hx
          exact g8 m p (Or.inr ⟨hm, hp⟩) w
        · exact g7 i x (by omega) hx m p hm hp w
theorem bq_len {mv : List Nat → Nat → Nat → Prop} {k : Nat} {a0 : List Nat} (hk : k ≤ 5) (hmv : ∀ a m p, mv a m p → p ∉ a) (h0 : barr k a0) (n : Nat) : (bq mv k a0 n).length ≤ 720 := by
  obtain ⟨h1, h2, -⟩ := bq_good hmv h0 n
  have := barr_bound hk h1 (fun a ha => by
    obtain ⟨e, he, rfl⟩ := List.mem_map.mp ha
    exact h2 e he)
  simpa using this
/-- arrangements by moves -/
def movs (mv : List Nat → Nat → Nat → Prop) (k : Nat) : List Nat → List (Nat × Nat) → List Nat → Prop
  | a, [], b => a = b
  | a, (m, p) :: w, b => m < k ∧ p < 6 ∧ mv a m p ∧ movs mv k (a.set m p) w b
theorem bq_reach {mv : List Nat → Nat → Nat → Prop} {k : Nat} {a0 : List Nat} (hk : k ≤ 5) (hmv : ∀ a m p, mv a m p → p ∉ a) (h0 : barr k a0) {M : Nat} (hM : 720 ≤ M) : ∀ (w : List (Nat × Nat)) (j : Nat) (e : QE) (b : List Nat), (bq mv k a0 M)[j]? = some e → movs mv k e.1 w b → ∃ (j' : Nat) (e' : QE), (bq mv k a0 M)[j']? = some e' ∧ e'.1 = b ∧ e'.2.2.2.2 ≤ e.2.2.2.2 + w.length
  | [], j, e, b, h, hw => ⟨j, e, h, hw, by simp⟩
  | (m, p) :: w, j, e, b, h, hw => by
    obtain ⟨h1, h2, h3, h4⟩ := hw
    have hj := (List.getElem?_eq_some_iff.mp h).1
    have hl := bq_len hk hmv h0 M
    obtain ⟨y, hy, e1, e2⟩ := (bq_good hmv h0 M).2.2.2.2.2 j e (by omega) h m p h1 h2 h3
    obtain ⟨jy, hjy⟩ := mem_get hy
    rw [← e1] at h4
    obtain ⟨j', e', g1, g2, g3⟩ := bq_reach hk hmv h0 hM w jy y b hjy h4
    exact ⟨j', e', g1, g2, by simp only [List.length_cons]; omega⟩
theorem bq_first {M : Nat} {mv : List Nat → Nat → Nat → Prop} {k : Nat} {a0 : List Nat} : (bq mv k a0 M)[0]? = some (a0, -1, 0, 0, 0) := bq_get (n := 0) (Nat.zero_le _) rfl
/-- the first entry that has a property -/
theorem first_of {L : List QE} {G : List Nat → Prop} (h : ∃ (j : Nat) (e : QE), L[j]? = some e ∧ G e.1) : ∃ (g : Nat) (e : QE), L[g]? = some e ∧ G e.1 ∧ ∀ (j : Nat) (x : QE), j < g → L[j]? = some x → ¬ G x.1 := by
  obtain ⟨j, e, h1, h2⟩ := h
  induction j using Nat.strongRecOn generalizing e with
  | _ j ih =>
    by_cases w : ∃ (i : Nat) (x : QE), i < j ∧ L[i]? = some x ∧ G x.1
    · obtain ⟨i, x, a, b, c⟩ := w
      exact ih i a x b c
    · exact ⟨j, e, h1, h2, fun i x a b c => w ⟨i, x, a, b, c⟩⟩
