/-! a way is always there, of fifteen moves at most -/
theorem wok_sp {k : Nat} {b c : List Nat} (h : wok k b c = true) : ∀ x y, x < y → y < k → b.getD x 0 < b.getD y 0 → c.getD x 0 < c.getD y 0 := by
  intro x y hxy hy hb
  have h1 := List.all_eq_true.mp h y (List.mem_range.mpr hy)
  have h2 := List.all_eq_true.mp h1 x (List.mem_range.mpr hxy)
  rw [Bool.or_eq_true, Bool.not_eq_true'] at h2
  rcases h2 with h2 | h2
  · have : Nat.blt (b.getD x 0) (b.getD y 0) = true := by simpa using hb
    rw [this] at h2; cases h2
  · simpa using h2
theorem wgoal_sp {N k j : Nat} {b : List Nat} (h : wgoal N k j b = true) : ∃ p, p < N ∧ p ∉ b ∧ ∀ x, x < k → (x < j → b.getD x 0 < p) ∧ (¬ x < j → p < b.getD x 0) := by
  obtain ⟨p, h1, h2⟩ := List.any_eq_true.mp h
  rw [Bool.and_eq_true, Bool.not_eq_true'] at h2
  refine ⟨p, List.mem_range.mp h1, fun w => ?_, fun x hx => ?_⟩
  · rw [List.elem_eq_true_of_mem w] at h2; exact absurd h2.1 (by decide)
  · have h3 := List.all_eq_true.mp h2.2 x (List.mem_range.mpr hx)
    by_cases e : x < j
    · have : Nat.blt x j = true := by simpa using e
      rw [this] at h3
      exact ⟨fun _ => by simpa using h3, fun w => absurd e w⟩
    · have : Nat.blt x j = false := by
        cases hh : Nat.blt x j with
        | false => rfl
        | true => exact absurd (by simpa using hh) e
      rw [this] at h3
      exact ⟨fun w => absurd w e, fun _ => by simpa using h3⟩
theorem wstep_sp {N k T : Nat} {b : List Nat} (h : wstep N k T b = true) : ∃ m p, m < k ∧ p < N ∧ p ∉ b ∧ wok k b (b.set m p) = true ∧ wdig T (b.set m p) / 32 < wdig T b / 32 := by
  simp only [wstep, Bool.and_eq_true] at h
  obtain ⟨⟨⟨⟨h1, h2⟩, h3⟩, h4⟩, h5⟩ := h
  refine ⟨_, _, by simpa using h1, by simpa using h2, fun w => ?_, h4, by simpa using h5⟩
  rw [List.elem_eq_true_of_mem w] at h3; cases h3
/-- the moves by the table -/
theorem wpath {N k j T : Nat} (hN : N ≤ 6) (hT : wall N k j T = true) : ∀ (n : Nat) (b : List Nat), barr k b → (∀ x ∈ b, x < N) → wdig T b / 32 ≤ n →
    ∃ (w : List (Nat × Nat)) (c : List Nat), w.length ≤ n ∧ movs (fun a m p => p < N ∧ p ∉ a ∧ wok k a (a.set m p) = true) k b w c ∧ wgoal N k j c = true := by
  intro n
  induction n with
  | zero =>
    intro b hb hbN hn
    have h1 := List.all_eq_true.mp hT b (by have := injs_mem b hb.2.1 hb.2.2; rwa [hb.1] at this)
    have h2 : (b.all fun x => Nat.blt x N) = true := List.all_eq_true.mpr (fun x hx => by simpa using hbN x hx)
    rw [h2, Bool.not_true, Bool.false_or, Bool.or_eq_true] at h1
    rcases h1 with h1 | h1
    · exact ⟨[], b, Nat.le_refl 0, rfl, h1⟩
    · obtain ⟨m, p, -, -, -, -, h5⟩ := wstep_sp h1
      omega
  | succ n ih =>
    intro b hb hbN hn
    have h1 := List.all_eq_true.mp hT b (by have := injs_mem b hb.2.1 hb.2.2; rwa [hb.1] at this)
    have h2 : (b.all fun x => Nat.blt x N) = true := List.all_eq_true.mpr (fun x hx => by simpa using hbN x hx)
    rw [h2, Bool.not_true, Bool.false_or, Bool.or_eq_true] at h1
    rcases h1 with h1 | h1
    · exact ⟨[], b, Nat.zero_le _, rfl, h1⟩
    · obtain ⟨m, p, g1, g2, g3, g4, g5⟩ := wstep_sp h1
      obtain ⟨w, c, e1, e2, e3⟩ := ih (b.set m p) (barr_set hb (by omega) g3) (fun x hx => by
        rcases List.mem_or_eq_of_mem_set hx with hx | rfl
        · exact hbN x hx
        · exact g2) (by omega)
      exact ⟨(m, p) :: w, c, by simp only [List.length_cons]; omega, ⟨g1, by omega, ⟨g2, g3, g4⟩, e2⟩, e3⟩
/-- where a new one comes in a sorted row -/
theorem sorted_in {R : Nat → Nat → Prop} (n : Nat) : ∀ (l : List Nat), (∀ x ∈ l, R x n ∨ R n x) → (∀ x ∈ l, ∀ y ∈ l, R n x → R x y → R n y) → l.Pairwise R → ∃ l1 l2, l = l1 ++ l2 ∧ (∀ x ∈ l1, R x n) ∧ ∀ x ∈ l2, R n x
  | [], _, _, _ => ⟨[], [], rfl, fun x h => by simp at h, fun x h => by simp at h⟩
  | x :: t, ht, htr, hp => by
    have hp2 := List.pairwise_cons.mp hp
    rcases ht x List.mem_cons_self with h | h
    · obtain ⟨l1, l2, e, h1, h2⟩ := sorted_in n t (fun y hy => ht y (List.mem_cons_of_mem _ hy)) (fun y hy z hz => htr y (List.mem_cons_of_mem _ hy) z (List.mem_cons_of_mem _ hz)) hp2.2
      refine ⟨x :: l1, l2, by rw [e]; rfl, fun y hy => ?_, h2⟩
      rcases List.mem_cons.mp hy with rfl | hy
      · exact h
      · exact h1 y hy
    · refine ⟨[], x :: t, rfl, fun y hy => by simp at hy, fun y hy => ?_⟩
      rcases List.mem_cons.mp hy with rfl | hy
      · exact h
      · exact htr x List.mem_cons_self y (List.mem_cons_of_mem _ hy) h (hp2.1 y hy)
/-- all of a row, the highest first -/
theorem sorted_ex {R : Nat → Nat → Prop} {k : Nat} (ht : ∀ x y, x ≤ k → y ≤ k → x ≠ y → R x y ∨ R y x) (htr : ∀ x y z, x ≤ k → y ≤ k → z ≤ k → R x y → R y z → R x z) : ∀ n, n ≤ k → ∃ l : List Nat, l.length = n ∧ (∀ x, x ∈ l ↔ x < n) ∧ l.Nodup ∧ l.Pairwise R
  | 0, _ => ⟨[], rfl, fun x => by simp, List.nodup_nil, List.Pairwise.nil⟩
  | n + 1, hn => by
    obtain ⟨l, h1, h2, h3, h4⟩ := sorted_ex ht htr n (by omega)
    obtain ⟨l1, l2, e, g1, g2⟩ := sorted_in (R := R) n l (fun x hx => ht x n (by have := (h2 x).mp hx; omega) (by omega) (by have := (h2 x).mp hx; omega)) (fun x hx y hy w1 w2 => htr n x y (by omega) (by have := (h2 x).mp hx; omega) (by have := (h2 y).mp hy; omega) w1 w2) h4
    subst e
    refine ⟨l1 ++ n :: l2, ?_, fun x => ?_, ?_, ?_⟩
    · simp only [List.length_append, List.length_cons] at h1 ⊢; omega
    · have := h2 x
      simp only [List.mem_append, List.mem_cons] at this ⊢
      constructor
      · rintro (w | rfl | w)
        · have := this.mp (Or.inl w); omega
        · omega
        · have := this.mp (Or.inr w); omega
      · intro w
        by_cases e : x = n
        · exact Or.inr (Or.inl e)
        · rcases this.mpr (by omega) with w | w
          · exact Or.inl w
          · exact Or.inr (Or.inr w)
    · rw [List.nodup_append] at h3 ⊢
      refine ⟨h3.1, List.nodup_cons.mpr ⟨fun w => ?_, h3.2.1⟩, fun x hx y hy => ?_⟩
      · have := (h2 n).mp (List.mem_append_right _ w); omega
      · rcases List.mem_cons.mp hy with rfl | hy
        · have := (h2 x).mp (List.mem_append_left _ hx); omega
        · exact h3.2.2 x hx y hy
    · rw [List.pairwise_append] at h4 ⊢
      refine ⟨h4.1, List.pairwise_cons.mpr ⟨g2, h4.2.1⟩, fun x hx y hy => ?_⟩
      rcases List.mem_cons.mp hy with rfl | hy
      · exact g1 x hx
      · exact h4.2.2 x hx y hy
theorem nodup_inj {l : List Nat} (h : l.Nodup) {i j : Nat} {hi : i < l.length} {hj : j < l.length} (e : l[i] = l[j]) : i = j := by
  have hp := List.pairwise_iff_getElem.mp (List.nodup_iff_pairwise_ne.mp h)
  rcases Nat.lt_trichotomy i j with w | w | w
  · exact absurd e (hp i j hi hj w)
  · exact w
  · exact absurd e.symm (hp j i hj hi w)
theorem getD_el {l : List Nat} {x : Nat} (h : x < l.length) : l.getD x 0 = l[x] := by simp [List.getD_eq_getElem?_getD, h]
/-- the way of the real ones -/
theorem way_ex {N k : Nat} {a : List Nat} {B A ov hi : Nat → Nat → Prop} (h2 : 2 ≤ N) (hN : N ≤ 6) (hkN : k < N) (ha : barr k a) (haN : ∀ x ∈ a, x < N)
    (ht : ∀ x y, x ≤ k → y ≤ k → x ≠ y → hi x y ∨ hi y x) (htr : ∀ x y z, x ≤ k → y ≤ k → z ≤ k → hi x y → hi y z → hi x z) (hirr : ∀ x y, hi x y → ¬ hi y x) (hsym : ∀ x y, ov x y → ov y x)
    (hB : ∀ m o, m ≤ k → (B m o ↔ o < k ∧ o ≠ m ∧ ov m o ∧ hi o m)) (hA : ∀ m o, m ≤ k → (A m o ↔ o < k ∧ o ≠ m ∧ ov m o ∧ ¬ hi o m))
    (hsafe : ∀ m o, m < k → o < k → ov m o → hi m o → a.getD m 0 < a.getD o 0) :
    ∃ (w : List (Nat × Nat)) (b : List Nat) (p : Nat), w.length ≤ 15 ∧ movs (cmv N k B A) k a w b ∧ cmv N k B A b k p := by
  obtain ⟨l, l1, l2, l3, l4⟩ := sorted_ex ht htr k (Nat.le_refl k)
  obtain ⟨q1, q2, e, g1, g2⟩ := sorted_in (R := hi) k l (fun x hx => ht x k (by have := (l2 x).mp hx; omega) (by omega) (by have := (l2 x).mp hx; omega)) (fun x hx y hy w1 w2 => htr k x y (by omega) (by have := (l2 x).mp hx; omega) (by have := (l2 y).mp hy; omega) w1 w2) l4
  have hj : q1.length ≤ k := by rw [← l1, e, List.length_append]; omega
  obtain ⟨T, hT⟩ := wall_ex h2 hN hkN hj
  -- members by their turn
  have hl : ∀ x, x < k → l.getD x 0 < k ∧ l.getD x 0 ∈ l := fun x hx => by
    have hx' : x < l.length := by omega
    rw [getD_el hx']
    have := List.getElem_mem hx'
    exact ⟨(l2 _).mp this, this⟩
  have hinj : ∀ x y, x < k → y < k → l.getD x 0 = l.getD y 0 → x = y := fun x y hx hy w => by
    rw [getD_el (by omega), getD_el (by omega)] at w
    exact nodup_inj l3 w
  have hsur : ∀ m, m < k → ∃ x, x < k ∧ l.getD x 0 = m := fun m hm => by
    obtain ⟨x, hx, hxe⟩ := List.getElem_of_mem ((l2 m).mpr hm)
    exact ⟨x, by omega, by rw [getD_el hx]; exact hxe⟩
  have hord : ∀ x y, x < y → y < k → hi (l.getD x 0) (l.getD y 0) := fun x y hxy hy => by
    rw [getD_el (by omega), getD_el (by omega)]
    exact List.pairwise_iff_getElem.mp l4 x y (by omega) (by omega) hxy
  have hq : ∀ x, x < k → (x < q1.length → hi (l.getD x 0) k) ∧ (¬ x < q1.length → hi k (l.getD x 0)) := fun x hx => by
    have hx' : x < l.length := by omega
    rw [getD_el hx']
    constructor
    · intro w
      refine g1 _ ?_
      have : l[x] = q1[x] := by simp [e, List.getElem_append_left w]
      rw [this]; exact List.getElem_mem w
    · intro w
      refine g2 _ ?_
      have hx2 : x - q1.length < q2.length := by rw [e, List.length_append] at hx'; omega
      have : l[x] = q2[x - q1.length] := by simp [e, List.getElem_append_right (Nat.not_lt.mp w)]
      rw [this]; exact List.getElem_mem hx2
  -- the row by turns
  have vmap : ∀ (a : List Nat), barr k a → barr k (l.map (fun m => a.getD m 0)) := fun a ha => by
    refine ⟨by rw [List.length_map]; exact l1, ?_, fun x hx => ?_⟩
    · rw [List.nodup_iff_pairwise_ne, List.pairwise_map]
      refine List.Pairwise.imp_of_mem ?_ (List.nodup_iff_pairwise_ne.mp l3)
      intro x y hx hy hxy w
      have hx' := (l2 x).mp hx
      have hy' := (l2 y).mp hy
      have ex : x < a.length := by rw [ha.1]; exact hx'
      have ey : y < a.length := by rw [ha.1]; exact hy'
      rw [getD_el ex, getD_el ey] at w
      exact hxy (nodup_inj ha.2.1 w)
    · obtain ⟨m, hm, rfl⟩ := List.mem_map.mp hx
      exact (barr_get ha ((l2 m).mp hm)).2
  have vget : ∀ (a : List Nat) (x : Nat), x < k → (l.map (fun m => a.getD m 0)).getD x 0 = a.getD (l.getD x 0) 0 := fun a x hx => by
    have hx' : x < l.length := by omega
    rw [getD_el (by rw [List.length_map]; exact hx'), List.getElem_map, getD_el hx']
  have vset : ∀ (a : List Nat) (x p : Nat), barr k a → x < k → l.map (fun m => (a.set (l.getD x 0) p).getD m 0) = (l.map (fun m => a.getD m 0)).set x p := fun a x p ha hx => by
    apply List.ext_getElem (by simp)
    intro i h1 h2
    rw [List.length_map] at h1
    rw [List.getElem_map, List.getElem_set, getD_set (by rw [ha.1]; exact (hl x hx).1), List.getElem_map]
    by_cases w : x = i
    · subst w
      rw [if_pos rfl, if_pos (getD_el h1).symm]
    · rw [if_neg w, if_neg]
      intro w2
      rw [← getD_el h1] at w2
      exact w (hinj i x (by omega) hx w2).symm
  -- the moves carried over
  have carry : ∀ (w : List (Nat × Nat)) (a : List Nat) (c : List Nat), barr k a → (∀ x ∈ a, x < N) → (∀ m o, m < k → o < k → ov m o → hi m o → a.getD m 0 < a.getD o 0) → movs (fun a m p => p < N ∧ p ∉ a ∧ wok k a (a.set m p) = true) k (l.map (fun m => a.getD m 0)) w c →
      ∃ (w' : List (Nat × Nat)) (b : List Nat), w'.length = w.length ∧ movs (cmv N k B A) k a w' b ∧ c = l.map (fun m => b.getD m 0) ∧ barr k b := by
    intro w
    induction w with
    | nil => intro a c ha _ _ hm; exact ⟨[], a, rfl, rfl, hm.symm, ha⟩
    | cons mp w ih =>
      obtain ⟨x, p⟩ := mp
      intro a c ha haN hs hm
      obtain ⟨m1, m2, ⟨m3, m4, m5⟩, m6⟩ := hm
      have hpa : p ∉ a := fun hp => by
        obtain ⟨o, ho, heo⟩ := (barr_ex ha).mp hp
        obtain ⟨y, hy, hye⟩ := hsur o ho
        refine m4 (List.mem_map.mpr ⟨o, (l2 o).mpr ho, heo⟩)
      have hs' : ∀ m o, m < k → o < k → ov m o → hi m o → (a.set (l.getD x 0) p).getD m 0 < (a.set (l.getD x 0) p).getD o 0 := by
        intro m o hm' ho' hov hhi
        obtain ⟨y, hy, rfl⟩ := hsur m hm'
        obtain ⟨z, hz, rfl⟩ := hsur o ho'
        have hyz : y < z := by
          rcases Nat.lt_trichotomy y z with w1 | w1 | w1
          · exact w1
          · subst w1; exact absurd hhi (hirr _ _ hhi)
          · exact absurd hhi (hirr _ _ (hord z y w1 hy))
        have h5 := wok_sp m5 y z hyz hz (by rw [vget a y hy, vget a z hz]; exact hs _ _ hm' ho' hov hhi)
        rw [← vset a x p ha m1, vget _ y hy, vget _ z hz] at h5
        exact h5
      rw [← vset a x p ha m1] at m6
      obtain ⟨w', b, e1, e2, e3, e4⟩ := ih (a.set (l.getD x 0) p) c (barr_set ha (by omega) hpa) (fun y hy => by
        rcases List.mem_or_eq_of_mem_set hy with hy | rfl
        · exact haN y hy
        · exact m3) hs' m6
      refine ⟨(l.getD x 0, p) :: w', b, by simp only [List.length_cons, e1], ⟨(hl x m1).1, by omega, ⟨m3, hpa, fun o ho => ?_⟩, e2⟩, e3, e4⟩
      have hlen : l.getD x 0 < a.length := by rw [ha.1]; exact (hl x m1).1
      constructor
      · intro hb
        obtain ⟨_, b2, b3, b4⟩ := (hB _ _ (Nat.le_of_lt (hl x m1).1)).mp hb
        have := hs' o (l.getD x 0) ho (hl x m1).1 (hsym _ _ b3) b4
        rw [getD_set hlen, getD_set hlen, if_neg b2, if_pos rfl] at this
        exact this
      · intro hb
        obtain ⟨_, b2, b3, b4⟩ := (hA _ _ (Nat.le_of_lt (hl x m1).1)).mp hb
        have b5 : hi (l.getD x 0) o := (ht (l.getD x 0) o (Nat.le_of_lt (hl x m1).1) (by omega) (Ne.symm b2)).resolve_right b4
        have := hs' (l.getD x 0) o (hl x m1).1 ho b3 b5
        rw [getD_set hlen, getD_set hlen, if_neg b2, if_pos rfl] at this
        exact this
  have hd : wdig T (l.map (fun m => a.getD m 0)) / 32 ≤ 15 := by
    have : wdig T (l.map (fun m => a.getD m 0)) < 512 := Nat.mod_lt _ (by decide)
    omega
  obtain ⟨w, c, w1, w2, w3⟩ := wpath hN hT 15 (l.map (fun m => a.getD m 0)) (vmap a ha) (fun x hx => by
    obtain ⟨m, hm, rfl⟩ := List.mem_map.mp hx
    exact haN _ (barr_get ha ((l2 m).mp hm)).1) hd
  obtain ⟨w', b, e1, e2, e3, e4⟩ := carry w a c ha haN hsafe w2
  subst e3
  obtain ⟨p, p1, p2, p3⟩ := wgoal_sp w3
  refine ⟨w', b, p, by omega, e2, p1, fun hp => ?_, fun o ho => ?_⟩
  · obtain ⟨o, ho, heo⟩ := (barr_ex e4).mp hp
    exact p2 (List.mem_map.mpr ⟨o, (l2 o).mpr ho, heo⟩)
  · obtain ⟨x, hx, rfl⟩ := hsur o ho
    have h3 := p3 x hx
    rw [vget b x hx] at h3
    constructor
    · intro hb
      obtain ⟨_, b2, b3, b4⟩ := (hB _ _ (Nat.le_refl k)).mp hb
      refine h3.1 ?_
      by_cases w : x < q1.length
      · exact w
      · exact absurd b4 (hirr _ _ ((hq x hx).2 w))
    · intro hb
      obtain ⟨_, b2, b3, b4⟩ := (hA _ _ (Nat.le_refl k)).mp hb
      refine h3.2 ?_
      intro w
      exact b4 ((hq x hx).1 w)
