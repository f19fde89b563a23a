/-! the class's search: who is there; the way back -/
def mem (f : Nat → Int) (j : Nat) : List Nat := (List.range j).filter (fun r => decide (xplc f (r : Int) ≠ -1))
theorem mem_t {f : Nat → Int} {j : Nat} (h : xplc f (j : Int) ≠ -1) : mem f (j + 1) = mem f j ++ [j] := by
  unfold mem
  rw [List.range_succ, List.filter_append]
  congr 1
  simp [h]
theorem mem_f {f : Nat → Int} {j : Nat} (h : xplc f (j : Int) = -1) : mem f (j + 1) = mem f j := by
  unfold mem
  rw [List.range_succ, List.filter_append]
  simp [h]
theorem mem_pre (f : Nat → Int) (j : Nat) : ∀ d, ∃ r, mem f (j + d) = mem f j ++ r
  | 0 => ⟨[], by simp⟩
  | d + 1 => by
    obtain ⟨r, hr⟩ := mem_pre f j d
    by_cases h : xplc f ((j + d : Nat) : Int) = -1
    · exact ⟨r, by rw [← Nat.add_assoc, mem_f h, hr]⟩
    · exact ⟨r ++ [j + d], by rw [← Nat.add_assoc, mem_t h, hr, List.append_assoc]⟩
theorem mem_mem {f : Nat → Int} {j r : Nat} : r ∈ mem f j ↔ r < j ∧ xplc f (r : Int) ≠ -1 := by
  simp [mem]
theorem gD_snoc_lt {a : List Nat} {x i : Nat} (h : i < a.length) : gD (a ++ [x]) i = gD a i := by
  simp [gD, List.getD_eq_getElem?_getD, List.getElem?_append_left h]
theorem gD_snoc {a : List Nat} {x : Nat} : gD (a ++ [x]) a.length = (x : Int) := by
  simp [gD, List.getD_eq_getElem?_getD]
theorem xbeh_congr {I I' : Nat → Nat → Int} {k m o : Nat} (h12 : I' 12 = I 12) (h3 : I' 3 = I 3) (h4 : I' 4 = I 4) (h5 : I' 5 = I 5) : xbeh I' k m o ↔ xbeh I k m o := by
  unfold xbeh xov xhi; rw [h12, h3, h4, h5]
theorem xahd_congr {I I' : Nat → Nat → Int} {k m o : Nat} (h12 : I' 12 = I 12) (h3 : I' 3 = I 3) (h4 : I' 4 = I 4) (h5 : I' 5 = I 5) : xahd I' k m o ↔ xahd I k m o := by
  unfold xahd xov xhi; rw [h12, h3, h4, h5]
theorem c_relates {S : PS} {I0 I : Nat → Nat → Int} {Q : PV1 → Prop} {w1 w2 w4 : PV} {k : Nat} (hk : I 11 9 = (k : Int)) (hk5 : k ≤ 5)
    (hQ : ∀ I', (∀ m, m ≤ k → mk (I' 13 m) (xbeh I k m) ∧ mk (I' 14 m) (xahd I k m)) → (∀ d, d ≠ 13 → d ≠ 14 → I' d = I d) → Q (none, zH S I')) : Wp 40 (115, [zA 11, w1, w2, zI 0, w4], [], zH S I) Q := by
  have loop : ∀ (j i : Nat) (I' : Nat → Nat → Int), i + j = k + 1 → (∀ m, m < i → mk (I' 13 m) (xbeh I k m) ∧ mk (I' 14 m) (xahd I k m)) → (∀ d, d ≠ 13 → d ≠ 14 → I' d = I d) → Wp 40 (115, [zA 11, w1, w2, zI (i : Int), w4], [], zH S I') Q := by
    intro j
    induction j with
    | zero =>
      intro i I' hi h1 h2
      refine (sg_X3_gather_115_11 _ _ _ _ _ _ _).mpr ?_
      rw [h2 11 (by decide) (by decide), hk]
      refine zcd (fun _ => hQ I' (fun m hm => h1 m (by omega)) h2) (fun h => absurd (by omega) h)
    | succ j ih =>
      intro i I' hi h1 h2
      refine (sg_X3_gather_115_11 _ _ _ _ _ _ _).mpr ?_
      rw [h2 11 (by decide) (by decide), hk]
      refine zcd (fun h => absurd h (by omega)) (fun _ => zcd (fun _ => ?_) (fun h => absurd (by omega) h))
      refine c_relate (by omega) (by rw [h2 11 (by decide) (by decide)]; exact hk) hk5 (fun b a hb ha => ?_)
      refine (sg_X3_gather_134_11 _ _ _ _ _ _ _).mpr ?_
      rw [zad_s (by omega)]
      have e12 := h2 12 (by decide) (by decide)
      have e3 := h2 3 (by decide) (by decide)
      have e4 := h2 4 (by decide) (by decide)
      have e5 := h2 5 (by decide) (by decide)
      refine ih (i + 1) _ (by omega) (fun m hm => ?_) (fun d g1 g2 => by rw [zs2_ne _ _ _ _ g2, zs2_ne _ _ _ _ g1]; exact h2 d g1 g2)
      by_cases e : m = i
      · subst e
        rw [zs2_at, zs2_ne _ _ _ _ (by decide), zs2_at]
        exact ⟨mk_congr hb (fun q _ => xbeh_congr e12 e3 e4 e5), mk_congr ha (fun q _ => xahd_congr e12 e3 e4 e5)⟩
      · rw [zs2_ne2 _ _ _ _ e, zs2_ne _ _ _ _ (by decide), zs2_ne2 _ _ _ _ e, zs2_ne _ _ _ _ (by decide)]
        exact h1 m (by omega)
  exact loop (k + 1) 0 I (by omega) (fun m hm => absurd hm (by omega)) (fun _ _ _ => rfl)
/-- what gather leaves -/
def Gat (I I' : Nat → Nat → Int) (t c : Nat) (r : Int) (k : Nat) : Prop :=
  I' 11 9 = (k : Int) ∧ I' 11 10 = min (I t 2) 6 ∧ (∀ i, i < k → I' 12 i = gD (mem (I c) 16) i) ∧ I' 12 k = r ∧ (∀ i, i < k → I' 15 i = xplc (I c) (gD (mem (I c) 16) i)) ∧
  (∀ m, m ≤ k → mk (I' 13 m) (xbeh I' k m) ∧ mk (I' 14 m) (xahd I' k m)) ∧ ∀ d, d ≠ 11 → d ≠ 12 → d ≠ 13 → d ≠ 14 → d ≠ 15 → I' d = I d
theorem c_gather_7 {S : PS} {I : Nat → Nat → Int} {Q : PV1 → Prop} {w3 w4 : PV} {r : Int} {k : Nat} (hk : (mem (I 8) 16).length = k) (hk5 : k ≤ 5) (hQ : ∀ I', Gat I I' 7 8 r k → Q (none, zH S I')) : Wp 40 (0, [zA 11, zA 7, zI r, w3, w4], [], zH S I) Q := by
  refine (sg_X3_gather_0_11_7 _ _ _ _ _ _).mpr ?_
  refine c_size_7 ?_
  refine (sg_X3_gather_5_11_7_11 _ _ _ _ _ _ _).mpr ?_
  refine zmin_ok ?_
  refine (sg_X3_gather_10_11_7_11 _ _ _ _ _ _ _).mpr ?_
  -- behind the loop
  have tail : ∀ (I' : Nat → Nat → Int) (w4 : PV), I' 11 9 = (k : Int) → I' 11 10 = min (I 7 2) 6 → (∀ i, i < k → I' 12 i = gD (mem (I 8) 16) i) → (∀ i, i < k → I' 15 i = xplc (I 8) (gD (mem (I 8) 16) i)) → (∀ d, d ≠ 11 → d ≠ 12 → d ≠ 15 → I' d = I d) →
      Wp 40 (115, [zA 11, zA 7, zI r, zI 0, w4], [], zH S (zs2 I' 12 k r)) Q := by
    intro I' w4 h1 h2 h3 h4 h5
    refine c_relates (I0 := I) (k := k) (by rw [zs2_ne _ _ _ _ (by decide)]; exact h1) hk5 (fun I'' g1 g2 => hQ I'' ⟨?_, ?_, ?_, ?_, ?_, ?_, ?_⟩)
    · rw [g2 11 (by decide) (by decide), zs2_ne _ _ _ _ (by decide)]; exact h1
    · rw [g2 11 (by decide) (by decide), zs2_ne _ _ _ _ (by decide)]; exact h2
    · intro i hi
      rw [g2 12 (by decide) (by decide), zs2_ne2 _ _ _ _ (by omega)]; exact h3 i hi
    · rw [g2 12 (by decide) (by decide), zs2_at]
    · intro i hi
      rw [g2 15 (by decide) (by decide), zs2_ne _ _ _ _ (by decide)]; exact h4 i hi
    · intro m hm
      have e12 := g2 12 (by decide) (by decide)
      have e3 := g2 3 (by decide) (by decide)
      have e4 := g2 4 (by decide) (by decide)
      have e5 := g2 5 (by decide) (by decide)
      obtain ⟨m1, m2⟩ := g1 m hm
      exact ⟨mk_congr m1 (fun q _ => (xbeh_congr e12 e3 e4 e5).symm), mk_congr m2 (fun q _ => (xahd_congr e12 e3 e4 e5).symm)⟩
    · intro d d1 d2 d3 d4 d5
      rw [g2 d d3 d4, zs2_ne _ _ _ _ d2]; exact h5 d d1 d2 d5
  have tail2 : ∀ (I' : Nat → Nat → Int) (w4 : PV), I' 11 9 = (k : Int) → I' 11 10 = min (I 7 2) 6 → (∀ i, i < k → I' 12 i = gD (mem (I 8) 16) i) → (∀ i, i < k → I' 15 i = xplc (I 8) (gD (mem (I 8) 16) i)) → (∀ d, d ≠ 11 → d ≠ 12 → d ≠ 15 → I' d = I d) →
      cond (decide (I' 11 9 < 0)) (Wp 40 (115, [zA 11, zA 7, zI r, zI 0, w4], [], zH S I') Q) (cond (decide (I' 11 9 < 6)) (cond (zib (I' 11 9) 6) (Wp 40 (115, [zA 11, zA 7, zI r, zI 0, w4], [], zH S (zs2 I' 12 (I' 11 9 : Int).toNat r)) Q) False) (Wp 40 (115, [zA 11, zA 7, zI r, zI 0, w4], [], zH S I') Q)) := by
    intro I' w4 h1 h2 h3 h4 h5
    rw [h1]
    refine zcd (fun h => absurd h (by omega)) (fun _ => zcd (fun _ => zgd (by omega) ?_) (fun h => absurd (by omega) h))
    rw [Int.toNat_natCast]
    exact tail I' w4 h1 h2 h3 h4 h5
  have loop : ∀ (j i s : Nat) (I' : Nat → Nat → Int) (w4 : PV), i + j = 16 → (mem (I 8) i).length = s → I' 11 9 = (s : Int) → I' 11 10 = min (I 7 2) 6 → (∀ i', i' < s → I' 12 i' = gD (mem (I 8) i) i') → (∀ i', i' < s → I' 15 i' = xplc (I 8) (gD (mem (I 8) i) i')) → (∀ d, d ≠ 11 → d ≠ 12 → d ≠ 15 → I' d = I d) →
      Wp 40 (20, [zA 11, zA 7, zI r, zI (i : Int), w4], [], zH S I') Q := by
    intro j
    induction j with
    | zero =>
      intro i s I' w4 hi hs h1 h2 h3 h4 h5
      obtain rfl : i = 16 := by omega
      obtain rfl : s = k := by omega
      refine (sg_X3_gather_20_11_7 _ _ _ _ _ _).mpr ?_
      exact zcd (fun h => absurd h (by omega)) (fun _ => tail2 I' w4 h1 h2 h3 h4 h5)
    | succ j ih =>
      intro i s I' w4 hi hs h1 h2 h3 h4 h5
      obtain ⟨rest, hrest⟩ := mem_pre (I 8) i (j + 1)
      rw [hi] at hrest
      have hsk : s ≤ k := by rw [← hk, hrest, List.length_append]; omega
      refine (sg_X3_gather_20_11_7 _ _ _ _ _ _).mpr ?_
      refine zcd (fun _ => zcd (fun h5' => ?_) (fun h5' => ?_)) (fun h => absurd (by omega) h)
      · refine c_placeOf_7 ?_
        rw [h5 8 (by decide) (by decide) (by decide)]
        refine (sg_X3_gather_39_11_7 _ _ _ _ _ _ _).mpr ?_
        rw [zad_s (by omega)]
        refine zcd (fun hp => ?_) (fun hp => ?_)
        · exact ih (i + 1) s I' _ (by omega) (by rw [mem_f hp]; exact hs) h1 h2 (by rw [mem_f hp]; exact h3) (by rw [mem_f hp]; exact h4) h5
        · refine zgd (by omega) ?_
          rw [zs2_ne _ _ _ _ (by decide), h1, Int.toNat_natCast]
          refine zgd (by omega) ?_
          rw [zs2_ne (zs2 I' 12 s (i : Int)) _ _ _ (by decide), zs2_ne _ _ _ _ (by decide), h1, zad_s (by omega)]
          refine ih (i + 1) (s + 1) _ _ (by omega) (by rw [mem_t hp, List.length_append, hs]; rfl) ?_ ?_ ?_ ?_ ?_
          · rw [zs2_at]
          · rw [zs2_ne2 _ _ _ _ (by decide), zs2_ne _ _ _ _ (by decide), zs2_ne _ _ _ _ (by decide)]; exact h2
          · intro i' hi'
            rw [mem_t hp, zs2_ne _ _ _ _ (by decide), zs2_ne _ _ _ _ (by decide)]
            by_cases e : i' = s
            · subst e; rw [zs2_at, ← hs, gD_snoc]
            · rw [zs2_ne2 _ _ _ _ e, gD_snoc_lt (by omega)]; exact h3 i' (by omega)
          · intro i' hi'
            rw [mem_t hp, zs2_ne _ _ _ _ (by decide)]
            by_cases e : i' = s
            · subst e; rw [zs2_at, ← hs, gD_snoc]
            · rw [zs2_ne2 _ _ _ _ e, zs2_ne _ _ _ _ (by decide), gD_snoc_lt (by omega)]; exact h4 i' (by omega)
          · intro d d1 d2 d3
            rw [zs2_ne _ _ _ _ d1, zs2_ne _ _ _ _ d3, zs2_ne _ _ _ _ d2]; exact h5 d d1 d2 d3
      · have hs5 : s = k := by omega
        have hr0 : rest = [] := by
          have : rest.length = 0 := by
            have e := hk
            rw [hrest, List.length_append] at e
            omega
          exact List.eq_nil_of_length_eq_zero this
        have e16 : mem (I 8) 16 = mem (I 8) i := by rw [hrest, hr0, List.append_nil]
        subst hs5
        exact tail2 I' w4 h1 h2 (by rw [e16]; exact h3) (by rw [e16]; exact h4) h5
  refine loop 16 0 0 _ _ rfl rfl ?_ ?_ (fun i' h => absurd h (by omega)) (fun i' h => absurd h (by omega)) ?_
  · rw [zs2_at]; rfl
  · rw [zs2_ne2 _ _ _ _ (by decide), zs2_at]
  · intro d d1 _ _
    rw [zs2_ne _ _ _ _ d1, zs2_ne _ _ _ _ d1]
theorem c_gather_9 {S : PS} {I : Nat → Nat → Int} {Q : PV1 → Prop} {w3 w4 : PV} {r : Int} {k : Nat} (hk : (mem (I 10) 16).length = k) (hk5 : k ≤ 5) (hQ : ∀ I', Gat I I' 9 10 r k → Q (none, zH S I')) : Wp 40 (0, [zA 11, zA 9, zI r, w3, w4], [], zH S I) Q := by
  refine (sg_X3_gather_0_11_9 _ _ _ _ _ _).mpr ?_
  refine c_size_9 ?_
  refine (sg_X3_gather_5_11_9_11 _ _ _ _ _ _ _).mpr ?_
  refine zmin_ok ?_
  refine (sg_X3_gather_10_11_9_11 _ _ _ _ _ _ _).mpr ?_
  -- behind the loop
  have tail : ∀ (I' : Nat → Nat → Int) (w4 : PV), I' 11 9 = (k : Int) → I' 11 10 = min (I 9 2) 6 → (∀ i, i < k → I' 12 i = gD (mem (I 10) 16) i) → (∀ i, i < k → I' 15 i = xplc (I 10) (gD (mem (I 10) 16) i)) → (∀ d, d ≠ 11 → d ≠ 12 → d ≠ 15 → I' d = I d) →
      Wp 40 (115, [zA 11, zA 9, zI r, zI 0, w4], [], zH S (zs2 I' 12 k r)) Q := by
    intro I' w4 h1 h2 h3 h4 h5
    refine c_relates (I0 := I) (k := k) (by rw [zs2_ne _ _ _ _ (by decide)]; exact h1) hk5 (fun I'' g1 g2 => hQ I'' ⟨?_, ?_, ?_, ?_, ?_, ?_, ?_⟩)
    · rw [g2 11 (by decide) (by decide), zs2_ne _ _ _ _ (by decide)]; exact h1
    · rw [g2 11 (by decide) (by decide), zs2_ne _ _ _ _ (by decide)]; exact h2
    · intro i hi
      rw [g2 12 (by decide) (by decide), zs2_ne2 _ _ _ _ (by omega)]; exact h3 i hi
    · rw [g2 12 (by decide) (by decide), zs2_at]
    · intro i hi
      rw [g2 15 (by decide) (by decide), zs2_ne _ _ _ _ (by decide)]; exact h4 i hi
    · intro m hm
      have e12 := g2 12 (by decide) (by decide)
      have e3 := g2 3 (by decide) (by decide)
      have e4 := g2 4 (by decide) (by decide)
      have e5 := g2 5 (by decide) (by decide)
      obtain ⟨m1, m2⟩ := g1 m hm
      exact ⟨mk_congr m1 (fun q _ => (xbeh_congr e12 e3 e4 e5).symm), mk_congr m2 (fun q _ => (xahd_congr e12 e3 e4 e5).symm)⟩
    · intro d d1 d2 d3 d4 d5
      rw [g2 d d3 d4, zs2_ne _ _ _ _ d2]; exact h5 d d1 d2 d5
  have tail2 : ∀ (I' : Nat → Nat → Int) (w4 : PV), I' 11 9 = (k : Int) → I' 11 10 = min (I 9 2) 6 → (∀ i, i < k → I' 12 i = gD (mem (I 10) 16) i) → (∀ i, i < k → I' 15 i = xplc (I 10) (gD (mem (I 10) 16) i)) → (∀ d, d ≠ 11 → d ≠ 12 → d ≠ 15 → I' d = I d) →
      cond (decide (I' 11 9 < 0)) (Wp 40 (115, [zA 11, zA 9, zI r, zI 0, w4], [], zH S I') Q) (cond (decide (I' 11 9 < 6)) (cond (zib (I' 11 9) 6) (Wp 40 (115, [zA 11, zA 9, zI r, zI 0, w4], [], zH S (zs2 I' 12 (I' 11 9 : Int).toNat r)) Q) False) (Wp 40 (115, [zA 11, zA 9, zI r, zI 0, w4], [], zH S I') Q)) := by
    intro I' w4 h1 h2 h3 h4 h5
    rw [h1]
    refine zcd (fun h => absurd h (by omega)) (fun _ => zcd (fun _ => zgd (by omega) ?_) (fun h => absurd (by omega) h))
    rw [Int.toNat_natCast]
    exact tail I' w4 h1 h2 h3 h4 h5
  have loop : ∀ (j i s : Nat) (I' : Nat → Nat → Int) (w4 : PV), i + j = 16 → (mem (I 10) i).length = s → I' 11 9 = (s : Int) → I' 11 10 = min (I 9 2) 6 → (∀ i', i' < s → I' 12 i' = gD (mem (I 10) i) i') → (∀ i', i' < s → I' 15 i' = xplc (I 10) (gD (mem (I 10) i) i')) → (∀ d, d ≠ 11 → d ≠ 12 → d ≠ 15 → I' d = I d) →
      Wp 40 (20, [zA 11, zA 9, zI r, zI (i : Int), w4], [], zH S I') Q := by
    intro j
    induction j with
    | zero =>
      intro i s I' w4 hi hs h1 h2 h3 h4 h5
      obtain rfl : i = 16 := by omega
      obtain rfl : s = k := by omega
      refine (sg_X3_gather_20_11_9 _ _ _ _ _ _).mpr ?_
      exact zcd (fun h => absurd h (by omega)) (fun _ => tail2 I' w4 h1 h2 h3 h4 h5)
    | succ j ih =>
      intro i s I' w4 hi hs h1 h2 h3 h4 h5
      obtain ⟨rest, hrest⟩ := mem_pre (I 10) i (j + 1)
      rw [hi] at hrest
      have hsk : s ≤ k := by rw [← hk, hrest, List.length_append]; omega
      refine (sg_X3_gather_20_11_9 _ _ _ _ _ _).mpr ?_
      refine zcd (fun _ => zcd (fun h5' => ?_) (fun h5' => ?_)) (fun h => absurd (by omega) h)
      · refine c_placeOf_9 ?_
        rw [h5 10 (by decide) (by decide) (by decide)]
        refine (sg_X3_gather_39_11_9 _ _ _ _ _ _ _).mpr ?_
        rw [zad_s (by omega)]
        refine zcd (fun hp => ?_) (fun hp => ?_)
        · exact ih (i + 1) s I' _ (by omega) (by rw [mem_f hp]; exact hs) h1 h2 (by rw [mem_f hp]; exact h3) (by rw [mem_f hp]; exact h4) h5
        · refine zgd (by omega) ?_
          rw [zs2_ne _ _ _ _ (by decide), h1, Int.toNat_natCast]
          refine zgd (by omega) ?_
          rw [zs2_ne (zs2 I' 12 s (i : Int)) _ _ _ (by decide), zs2_ne _ _ _ _ (by decide), h1, zad_s (by omega)]
          refine ih (i + 1) (s + 1) _ _ (by omega) (by rw [mem_t hp, List.length_append, hs]; rfl) ?_ ?_ ?_ ?_ ?_
          · rw [zs2_at]
          · rw [zs2_ne2 _ _ _ _ (by decide), zs2_ne _ _ _ _ (by decide), zs2_ne _ _ _ _ (by decide)]; exact h2
          · intro i' hi'
            rw [mem_t hp, zs2_ne _ _ _ _ (by decide), zs2_ne _ _ _ _ (by decide)]
            by_cases e : i' = s
            · subst e; rw [zs2_at, ← hs, gD_snoc]
            · rw [zs2_ne2 _ _ _ _ e, gD_snoc_lt (by omega)]; exact h3 i' (by omega)
          · intro i' hi'
            rw [mem_t hp, zs2_ne _ _ _ _ (by decide)]
            by_cases e : i' = s
            · subst e; rw [zs2_at, ← hs, gD_snoc]
            · rw [zs2_ne2 _ _ _ _ e, zs2_ne _ _ _ _ (by decide), gD_snoc_lt (by omega)]; exact h4 i' (by omega)
          · intro d d1 d2 d3
            rw [zs2_ne _ _ _ _ d1, zs2_ne _ _ _ _ d3, zs2_ne _ _ _ _ d2]; exact h5 d d1 d2 d3
      · have hs5 : s = k := by omega
        have hr0 : rest = [] := by
          have : rest.length = 0 := by
            have e := hk
            rw [hrest, List.length_append] at e
            omega
          exact List.eq_nil_of_length_eq_zero this
        have e16 : mem (I 10) 16 = mem (I 10) i := by rw [hrest, hr0, List.append_nil]
        subst hs5
        exact tail2 I' w4 h1 h2 (by rw [e16]; exact h3) (by rw [e16]; exact h4) h5
  refine loop 16 0 0 _ _ rfl rfl ?_ ?_ (fun i' h => absurd h (by omega)) (fun i' h => absurd h (by omega)) ?_
  · rw [zs2_at]; rfl
  · rw [zs2_ne2 _ _ _ _ (by decide), zs2_at]
  · intro d d1 _ _
    rw [zs2_ne _ _ _ _ d1, zs2_ne _ _ _ _ d1]
