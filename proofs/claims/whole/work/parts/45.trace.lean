/-! the way back from an arrangement -/
/-- how the queue's entries hang together -/
def QW (k : Nat) (L : List QE) : Prop := ∀ (j : Nat) (e : QE), L[j]? = some e → (e.2.1 = -1 ∧ e.2.2.2.2 = 0) ∨
  ∃ (j' : Nat) (e' : QE), j' < j ∧ L[j']? = some e' ∧ e.2.1 = (j' : Int) ∧ e.2.2.1 < k ∧ e.2.2.2.1 < 6 ∧ e.2.2.2.1 ∉ e'.1 ∧ e.1 = e'.1.set e.2.2.1 e.2.2.2.1 ∧ e.2.2.2.2 = e'.2.2.2.2 + 1
/-- the moves that led to an entry -/
def qway (L : List QE) : Nat → Nat → List (Nat × Nat)
  | 0, _ => []
  | d + 1, j => match L[j]? with
    | some e => qway L d e.2.1.toNat ++ [(e.2.2.1, e.2.2.2.1)]
    | none => []
theorem qway_s {L : List QE} {d j : Nat} {e : QE} (h : L[j]? = some e) : qway L (d + 1) j = qway L d e.2.1.toNat ++ [(e.2.2.1, e.2.2.2.1)] := by
  simp only [qway, h]
theorem qway_len {k : Nat} {L : List QE} (hW : QW k L) : ∀ (d j : Nat) (e : QE), L[j]? = some e → e.2.2.2.2 = d → (qway L d j).length = d
  | 0, _, _, _, _ => rfl
  | d + 1, j, e, h, hd => by
    rw [qway_s h]
    rcases hW j e h with ⟨_, h0⟩ | ⟨j', e', h1, h2, h3, h4, h5, h6, h7, h8⟩
    · omega
    · have ih := qway_len hW d j' e' h2 (by omega)
      rw [h3, Int.toNat_natCast, List.length_append, ih]; rfl
theorem c6l_dig {k : Nat} {a : List Nat} (h : barr k a) {o : Nat} (ho : o < k) : c6l a / 6 ^ o % 6 = gD a o := by
  have := zc6_dig (gD_in h) (m := o) (by rw [h.1]; exact ho)
  exact this
theorem CQ_at {I : Nat → Nat → Int} {k : Nat} {L : List QE} (hC : CQ I k (L.map qpr)) {j : Nat} {e : QE} (h : L[j]? = some e) : I 16 j = c6l e.1 ∧ I 17 j = e.2.1 ∧ barr k e.1 := by
  have h1 : (L.map qpr)[j]? = some (qpr e) := by rw [List.getElem?_map, h]; rfl
  have h2 := hC.2.1 j _ h1
  exact ⟨h2.1, h2.2, hC.2.2.2.2 _ (List.mem_of_getElem? h1)⟩
theorem QL_lt {I : Nat → Nat → Int} {k : Nat} {L : List QE} (hk : k ≤ 5) (hC : CQ I k (L.map qpr)) {j : Nat} {e : QE} (h : L[j]? = some e) : j < 720 := by
  have := CQ_len hk hC
  have h2 := (List.getElem?_eq_some_iff.mp h).1
  rw [List.length_map] at this
  omega
set_option maxRecDepth 100000 in
theorem c_cameFromOf {S : PS} {I : Nat → Nat → Int} {Q : PV1 → Prop} {j : Nat} (hj : j < 720) (hQ : Q (some (zI (I 17 j)), zH S I)) : Wp 52 (0, [zA 11, zI (j : Int)], [], zH S I) Q := by
  refine (sg_X3_cameFromOf_0_11 _ _ _ _).mpr ?_
  exact zcd (fun h => absurd h (by omega)) (fun _ => zcd (fun _ => zgd (by omega) (by rw [Int.toNat_natCast]; exact hQ)) (fun h => absurd (by omega) h))
set_option maxRecDepth 100000 in
theorem c_codeOf {S : PS} {I : Nat → Nat → Int} {Q : PV1 → Prop} {j : Nat} (hj : j < 720) (hQ : Q (some (zI (I 16 j)), zH S I)) : Wp 53 (0, [zA 11, zI (j : Int)], [], zH S I) Q := by
  refine (sg_X3_codeOf_0_11 _ _ _ _).mpr ?_
  exact zcd (fun h => absurd h (by omega)) (fun _ => zcd (fun _ => zgd (by omega) (by rw [Int.toNat_natCast]; exact hQ)) (fun h => absurd (by omega) h))
theorem c_tellMove_25 {S : PS} {I : Nat → Nat → Int} {Q : PV1 → Prop} {w5 w6 w7 : PV} {k m p w : Nat} {a : List Nat} (hk : I 11 9 = (k : Int)) (hk5 : k ≤ 5) (ha : barr k a) (hm : m < k) (hp : p < 6) (hn : p ∉ a) (hw : (w : Int) < I 25 2) (hw6 : w < 16)
    (hQ : Q (none, zH S (zs2 (zs2 I 26 w (I 12 m)) 27 w (p : Int)))) : Wp 54 (0, [zA 11, zI (c6l a), zI (c6l (a.set m p)), zI (w : Int), zA 25, w5, w6, w7], [], zH S I) Q := by
  refine (sg_X3_tellMove_0_11_25 _ _ _ _ _ _ _ _ _).mpr ?_
  have hb := barr_set (m := m) ha hp hn
  have i1 := c6l_in hk5 ha
  have i2 := c6l_in hk5 hb
  have loop : ∀ (j i : Nat), i + j = k → Wp 54 (9, [zA 11, zI (c6l a), zI (c6l (a.set m p)), zI (w : Int), zA 25, zI (c6l a / 6 ^ i), zI (c6l (a.set m p) / 6 ^ i), zI (i : Int)], [], zH S (if i ≤ m then I else zs2 (zs2 I 26 w (I 12 m)) 27 w (p : Int))) Q := by
    intro j
    induction j with
    | zero =>
      intro i hi
      obtain rfl : i = k := by omega
      rw [if_neg (by omega)]
      refine (sg_X3_tellMove_9_11_25 _ _ _ _ _ _ _ _ _).mpr ?_
      rw [zs2_ne _ _ _ _ (by decide), zs2_ne _ _ _ _ (by decide)]
      exact zcd (fun h => absurd h (by omega)) (fun _ => hQ)
    | succ j ih =>
      intro i hi
      have nx := ih (i + 1) (by omega)
      have h0 : (0 : Int) < 6 ^ i := Int.pow_pos (by decide)
      have n1 : 0 ≤ c6l a / 6 ^ i := Int.ediv_nonneg i1.1 (by omega)
      have n2 : c6l a / 6 ^ i ≤ c6l a := Int.ediv_le_self _ i1.1
      have n3 : 0 ≤ c6l (a.set m p) / 6 ^ i := Int.ediv_nonneg i2.1 (by omega)
      have n4 : c6l (a.set m p) / 6 ^ i ≤ c6l (a.set m p) := Int.ediv_le_self _ i2.1
      have d1 := c6l_dig ha (o := i) (by omega)
      have d2 := c6l_dig hb (o := i) (by omega)
      have d3 : gD (a.set m p) i = if i = m then (p : Int) else gD a i := by
        rw [gD, getD_set (by rw [ha.1]; exact hm)]
        split <;> rfl
      have step : ∀ I' : Nat → Nat → Int, I' = (if i + 1 ≤ m then I else zs2 (zs2 I 26 w (I 12 m)) 27 w (p : Int)) → Wp 54 (56, [zA 11, zI (c6l a), zI (c6l (a.set m p)), zI (w : Int), zA 25, zI (c6l a / 6 ^ i), zI (c6l (a.set m p) / 6 ^ i), zI (i : Int)], [], zH S I') Q := by
        intro I' e
        subst e
        refine (sg_X3_tellMove_56_11_25 _ _ _ _ _ _ _ _ _).mpr ?_
        refine zgn (by decide) (zgn (by decide) ?_)
        rw [zdv_eq n1 (by omega) (by decide) (by decide), zdv_eq n3 (by omega) (by decide) (by decide), zad_s (by omega), Int.ediv_ediv_of_nonneg (by omega), Int.ediv_ediv_of_nonneg (by omega), ← Int.pow_succ]
        exact nx
      by_cases e : i = m
      · subst e
        rw [if_pos (Nat.le_refl i)]
        refine (sg_X3_tellMove_9_11_25 _ _ _ _ _ _ _ _ _).mpr ?_
        rw [hk]
        refine zcd (fun _ => zcd (fun _ => zgn (by decide) (zgn (by decide) ?_)) (fun h => absurd (by omega) h)) (fun h => absurd (by omega) h)
        rw [zrm_eq n1 (by omega) (by decide) (by decide), zrm_eq n3 (by omega) (by decide) (by decide), d1, d2, d3, if_pos rfl, Int.toNat_natCast]
        refine zcd (fun h => ?_) (fun _ => ?_)
        · exfalso
          have := (barr_get ha hm).1
          rw [gD] at h
          rw [show a.getD i 0 = p by omega] at this
          exact hn this
        · refine zgd (by omega) (zgn (by decide) ?_)
          refine c_pset_25 ?_
          rw [if_pos ⟨by omega, hw, by omega⟩, Int.toNat_natCast]
          exact step _ (by rw [if_neg (by omega)])
      · have hh : ∀ I' : Nat → Nat → Int, I' 11 9 = (k : Int) → I' = (if i + 1 ≤ m then I else zs2 (zs2 I 26 w (I 12 m)) 27 w (p : Int)) → Wp 54 (9, [zA 11, zI (c6l a), zI (c6l (a.set m p)), zI (w : Int), zA 25, zI (c6l a / 6 ^ i), zI (c6l (a.set m p) / 6 ^ i), zI (i : Int)], [], zH S I') Q := by
          intro I' h9 e2
          refine (sg_X3_tellMove_9_11_25 _ _ _ _ _ _ _ _ _).mpr ?_
          rw [h9]
          refine zcd (fun _ => zcd (fun _ => zgn (by decide) (zgn (by decide) ?_)) (fun h => absurd (by omega) h)) (fun h => absurd (by omega) h)
          rw [zrm_eq n1 (by omega) (by decide) (by decide), zrm_eq n3 (by omega) (by decide) (by decide), d1, d2, d3, if_neg e]
          exact zcd (fun _ => step I' e2) (fun h => absurd rfl h)
        by_cases e2 : i ≤ m
        · rw [if_pos e2]
          exact hh I hk (by rw [if_pos (by omega)])
        · rw [if_neg e2]
          exact hh _ (by rw [zs2_ne _ _ _ _ (by decide), zs2_ne _ _ _ _ (by decide)]; exact hk) (by rw [if_neg (by omega)])
  have := loop k 0 (by omega)
  simpa using this
theorem c_trace_25 {S : PS} {I : Nat → Nat → Int} {Q : PV1 → Prop} {w3 w4 w5 w6 : PV} {k g D : Nat} {L : List QE} {eg : QE} (hk : I 11 9 = (k : Int)) (hk5 : k ≤ 5) (hC : CQ I k (L.map qpr)) (hW : QW k L) (hg : L[g]? = some eg) (hD : eg.2.2.2.2 = D) (hD15 : D ≤ 15)
    (hQ : ∀ I', I' 25 2 = ((D + 1 : Nat) : Int) → (∀ (w : Nat) (mp : Nat × Nat), (qway L D g)[w]? = some mp → I' 26 w = I 12 mp.1 ∧ I' 27 w = (mp.2 : Int)) → (∀ d, d ≠ 25 → d ≠ 26 → d ≠ 27 → I' d = I d) → Q (none, zH S I')) : Wp 51 (0, [zA 11, zI (g : Int), zA 25, w3, w4, w5, w6], [], zH S I) Q := by
  have eg' := CQ_at hC hg
  refine (sg_X3_trace_0_11_25 _ _ _ _ _ _ _ _).mpr ?_
  refine c_cameFromOf (QL_lt hk5 hC hg) ?_
  refine (sg_X3_trace_7_11_25 _ _ _ _ _ _ _ _ _).mpr ?_
  rw [eg'.2.1]
  -- the writes
  have back : ∀ (d i : Nat) (e : QE) (I' : Nat → Nat → Int) (x6 : PV) (u1 u3 : PV), L[i]? = some e → e.2.2.2.2 = d → d ≤ D → I' 25 2 = ((D + 1 : Nat) : Int) → (∃ rest, qway L D g = qway L d i ++ rest) → (∀ (w : Nat) (mp : Nat × Nat), d ≤ w → (qway L D g)[w]? = some mp → I' 26 w = I 12 mp.1 ∧ I' 27 w = (mp.2 : Int)) → (∀ d, d ≠ 25 → d ≠ 26 → d ≠ 27 → I' d = I d) →
      Wp 51 (50, [zA 11, u1, zA 25, u3, zI (i : Int), zI ((d : Int) - 1), x6], [], zH S I') Q := by
    intro d
    induction d with
    | zero =>
      intro i e I' x6 u1 u3 he hd hdD h2 hr hc hf
      refine (sg_X3_trace_50_11_25 _ _ _ _ _ _ _ _).mpr ?_
      exact zcd (fun _ => hQ I' h2 (fun w mp hw => hc w mp (Nat.zero_le w) hw) hf) (fun h => absurd (by omega) h)
    | succ d ih =>
      intro i e I' x6 u1 u3 he hd hdD h2 hr hc hf
      have hC' : CQ I' k (L.map qpr) := CQ_15 hC (by rw [hf 11 (by decide) (by decide) (by decide)]) (hf 16 (by decide) (by decide) (by decide)) (hf 17 (by decide) (by decide) (by decide)) (hf 18 (by decide) (by decide) (by decide))
      have hat := CQ_at hC' he
      rcases hW i e he with ⟨_, h0⟩ | ⟨j', e', g1, g2, g3, g4, g5, g6, g7, g8⟩
      · omega
      have hat' := CQ_at hC' g2
      refine (sg_X3_trace_50_11_25 _ _ _ _ _ _ _ _).mpr ?_
      refine zcd (fun h => absurd h (by omega)) (fun _ => ?_)
      refine c_cameFromOf (QL_lt hk5 hC' he) ?_
      rw [hat.2.1, g3]
      refine (sg_X3_trace_61_11_25 _ _ _ _ _ _ _ _ _).mpr ?_
      refine c_codeOf (QL_lt hk5 hC' g2) ?_
      refine (sg_X3_trace_70_11_25_11 _ _ _ _ _ _ _ _ _).mpr ?_
      refine c_codeOf (QL_lt hk5 hC' he) ?_
      refine (sg_X3_trace_76_11_25_11 _ _ _ _ _ _ _ _ _ _).mpr ?_
      rw [hat.1, hat'.1, g7, show ((d + 1 : Nat) : Int) - 1 = (d : Int) by omega]
      refine c_tellMove_25 (by rw [hf 11 (by decide) (by decide) (by decide)]; exact hk) hk5 hat'.2.2 g4 g5 g6 (by omega) (by omega) ?_
      refine (sg_X3_trace_82_11_25 _ _ _ _ _ _ _ _).mpr ?_
      rw [zad_eq (by omega), show (d : Int) + -1 = (d : Int) - 1 by omega]
      have e1 := qway_s (d := d) he
      rw [g3, Int.toNat_natCast] at e1
      have hlen : (qway L d j').length = d := qway_len hW d j' e' g2 (by omega)
      obtain ⟨rest, hrest⟩ := hr
      rw [e1, List.append_assoc] at hrest
      refine ih j' e' _ _ _ _ g2 (by omega) (by omega) (by rw [zs2_ne _ _ _ _ (by decide), zs2_ne _ _ _ _ (by decide)]; exact h2) ⟨_, hrest⟩ (fun w mp hw hget => ?_) (fun d' d1 d2 d3 => by rw [zs2_ne _ _ _ _ d3, zs2_ne _ _ _ _ d2]; exact hf d' d1 d2 d3)
      by_cases e : w = d
      · subst e
        rw [hrest, List.getElem?_append_right (by omega), hlen] at hget
        simp at hget
        subst hget
        rw [zs2_ne _ _ _ _ (show 26 ≠ 27 by decide), zs2_at, zs2_at, hf 12 (by decide) (by decide) (by decide)]
        exact ⟨rfl, rfl⟩
      · rw [zs2_ne _ _ _ _ (show 26 ≠ 27 by decide), zs2_ne2 _ _ _ _ e, zs2_ne2 _ _ _ _ e, zs2_ne _ _ _ _ (show 27 ≠ 26 by decide)]
        exact hc w mp (by omega) hget
  -- behind the counting
  have mid : ∀ (w4 w5 w6 : PV) (i : Int), i = (D : Int) → Wp 14 (0, [zA 25, zI (zad i 1)], [], zH S I) (fun w => Wp 51 (42, [zA 11, zI (g : Int), zA 25, zI i, w4, w5, w6], w.1.toList ++ [], w.2) Q) := by
    intro w4 w5 w6 i hi
    subst hi
    rw [zad_s (by omega)]
    refine c_setLength_25 ?_
    refine (sg_X3_trace_42_11_25 _ _ _ _ _ _ _ _).mpr ?_
    rw [zsb_eq (by omega), show max 0 (min ((D + 1 : Nat) : Int) 16) = ((D + 1 : Nat) : Int) by omega]
    refine back D g eg _ _ _ _ hg hD (Nat.le_refl D) (by rw [zs2_at]) ⟨[], by simp⟩ (fun w mp hw hget => ?_) (fun d d1 d2 d3 => by rw [zs2_ne _ _ _ _ d1])
    have h1 := (List.getElem?_eq_some_iff.mp hget).1
    rw [qway_len hW D g eg hg hD] at h1
    omega
  have count : ∀ (d t : Nat) (x : Int) (i : Nat) (e : QE), t + d = D → L[i]? = some e → e.2.2.2.2 = d → x = e.2.1 → ∀ w5 w6 : PV, Wp 51 (9, [zA 11, zI (g : Int), zA 25, zI (t : Int), zI x, w5, w6], [], zH S I) Q := by
    intro d
    induction d with
    | zero =>
      intro t x i e ht he hd hx w5 w6
      subst hx
      refine (sg_X3_trace_9_11_25 _ _ _ _ _ _ _ _).mpr ?_
      rcases hW i e he with ⟨h1, h0⟩ | ⟨j', e', g1, g2, g3, g4, g5, g6, g7, g8⟩
      · exact zcd (fun _ => mid _ _ _ _ (by omega)) (fun h => absurd h1 h)
      · omega
    | succ d ih =>
      intro t x i e ht he hd hx w5 w6
      subst hx
      refine (sg_X3_trace_9_11_25 _ _ _ _ _ _ _ _).mpr ?_
      rcases hW i e he with ⟨h1, h0⟩ | ⟨j', e', g1, g2, g3, g4, g5, g6, g7, g8⟩
      · omega
      · rw [g3]
        refine zcd (fun h => absurd h (by omega)) (fun _ => zcd (fun _ => ?_) (fun h => absurd (by omega) h))
        rw [zad_s (by omega)]
        refine c_cameFromOf (QL_lt hk5 hC g2) ?_
        refine (sg_X3_trace_30_11_25 _ _ _ _ _ _ _ _ _).mpr ?_
        exact ih (t + 1) _ j' e' (by omega) g2 (by omega) (CQ_at hC g2).2.1 _ _
  exact (sg_X3_trace_9_11_25 _ _ _ _ _ _ _ _).mpr ((sg_X3_trace_9_11_25 _ _ _ _ _ _ _ _).mp (count D 0 _ g eg (by omega) hg hD rfl _ _))
theorem c_tellMove_28 {S : PS} {I : Nat → Nat → Int} {Q : PV1 → Prop} {w5 w6 w7 : PV} {k m p w : Nat} {a : List Nat} (hk : I 11 9 = (k : Int)) (hk5 : k ≤ 5) (ha : barr k a) (hm : m < k) (hp : p < 6) (hn : p ∉ a) (hw : (w : Int) < I 28 2) (hw6 : w < 16)
    (hQ : Q (none, zH S (zs2 (zs2 I 29 w (I 12 m)) 30 w (p : Int)))) : Wp 54 (0, [zA 11, zI (c6l a), zI (c6l (a.set m p)), zI (w : Int), zA 28, w5, w6, w7], [], zH S I) Q := by
  refine (sg_X3_tellMove_0_11_28 _ _ _ _ _ _ _ _ _).mpr ?_
  have hb := barr_set (m := m) ha hp hn
  have i1 := c6l_in hk5 ha
  have i2 := c6l_in hk5 hb
  have loop : ∀ (j i : Nat), i + j = k → Wp 54 (9, [zA 11, zI (c6l a), zI (c6l (a.set m p)), zI (w : Int), zA 28, zI (c6l a / 6 ^ i), zI (c6l (a.set m p) / 6 ^ i), zI (i : Int)], [], zH S (if i ≤ m then I else zs2 (zs2 I 29 w (I 12 m)) 30 w (p : Int))) Q := by
    intro j
    induction j with
    | zero =>
      intro i hi
      obtain rfl : i = k := by omega
      rw [if_neg (by omega)]
      refine (sg_X3_tellMove_9_11_28 _ _ _ _ _ _ _ _ _).mpr ?_
      rw [zs2_ne _ _ _ _ (by decide), zs2_ne _ _ _ _ (by decide)]
      exact zcd (fun h => absurd h (by omega)) (fun _ => hQ)
    | succ j ih =>
      intro i hi
      have nx := ih (i + 1) (by omega)
      have h0 : (0 : Int) < 6 ^ i := Int.pow_pos (by decide)
      have n1 : 0 ≤ c6l a / 6 ^ i := Int.ediv_nonneg i1.1 (by omega)
      have n2 : c6l a / 6 ^ i ≤ c6l a := Int.ediv_le_self _ i1.1
      have n3 : 0 ≤ c6l (a.set m p) / 6 ^ i := Int.ediv_nonneg i2.1 (by omega)
      have n4 : c6l (a.set m p) / 6 ^ i ≤ c6l (a.set m p) := Int.ediv_le_self _ i2.1
      have d1 := c6l_dig ha (o := i) (by omega)
      have d2 := c6l_dig hb (o := i) (by omega)
      have d3 : gD (a.set m p) i = if i = m then (p : Int) else gD a i := by
        rw [gD, getD_set (by rw [ha.1]; exact hm)]
        split <;> rfl
      have step : ∀ I' : Nat → Nat → Int, I' = (if i + 1 ≤ m then I else zs2 (zs2 I 29 w (I 12 m)) 30 w (p : Int)) → Wp 54 (56, [zA 11, zI (c6l a), zI (c6l (a.set m p)), zI (w : Int), zA 28, zI (c6l a / 6 ^ i), zI (c6l (a.set m p) / 6 ^ i), zI (i : Int)], [], zH S I') Q := by
        intro I' e
        subst e
        refine (sg_X3_tellMove_56_11_28 _ _ _ _ _ _ _ _ _).mpr ?_
        refine zgn (by decide) (zgn (by decide) ?_)
        rw [zdv_eq n1 (by omega) (by decide) (by decide), zdv_eq n3 (by omega) (by decide) (by decide), zad_s (by omega), Int.ediv_ediv_of_nonneg (by omega), Int.ediv_ediv_of_nonneg (by omega), ← Int.pow_succ]
        exact nx
      by_cases e : i = m
      · subst e
        rw [if_pos (Nat.le_refl i)]
        refine (sg_X3_tellMove_9_11_28 _ _ _ _ _ _ _ _ _).mpr ?_
        rw [hk]
        refine zcd (fun _ => zcd (fun _ => zgn (by decide) (zgn (by decide) ?_)) (fun h => absurd (by omega) h)) (fun h => absurd (by omega) h)
        rw [zrm_eq n1 (by omega) (by decide) (by decide), zrm_eq n3 (by omega) (by decide) (by decide), d1, d2, d3, if_pos rfl, Int.toNat_natCast]
        refine zcd (fun h => ?_) (fun _ => ?_)
        · exfalso
          have := (barr_get ha hm).1
          rw [gD] at h
          rw [show a.getD i 0 = p by omega] at this
          exact hn this
        · refine zgd (by omega) (zgn (by decide) ?_)
          refine c_pset_28 ?_
          rw [if_pos ⟨by omega, hw, by omega⟩, Int.toNat_natCast]
          exact step _ (by rw [if_neg (by omega)])
      · have hh : ∀ I' : Nat → Nat → Int, I' 11 9 = (k : Int) → I' = (if i + 1 ≤ m then I else zs2 (zs2 I 29 w (I 12 m)) 30 w (p : Int)) → Wp 54 (9, [zA 11, zI (c6l a), zI (c6l (a.set m p)), zI (w : Int), zA 28, zI (c6l a / 6 ^ i), zI (c6l (a.set m p) / 6 ^ i), zI (i : Int)], [], zH S I') Q := by
          intro I' h9 e2
          refine (sg_X3_tellMove_9_11_28 _ _ _ _ _ _ _ _ _).mpr ?_
          rw [h9]
          refine zcd (fun _ => zcd (fun _ => zgn (by decide) (zgn (by decide) ?_)) (fun h => absurd (by omega) h)) (fun h => absurd (by omega) h)
          rw [zrm_eq n1 (by omega) (by decide) (by decide), zrm_eq n3 (by omega) (by decide) (by decide), d1, d2, d3, if_neg e]
          exact zcd (fun _ => step I' e2) (fun h => absurd rfl h)
        by_cases e2 : i ≤ m
        · rw [if_pos e2]
          exact hh I hk (by rw [if_pos (by omega)])
        · rw [if_neg e2]
          exact hh _ (by rw [zs2_ne _ _ _ _ (by decide), zs2_ne _ _ _ _ (by decide)]; exact hk) (by rw [if_neg (by omega)])
  have := loop k 0 (by omega)
  simpa using this
theorem c_trace_28 {S : PS} {I : Nat → Nat → Int} {Q : PV1 → Prop} {w3 w4 w5 w6 : PV} {k g D : Nat} {L : List QE} {eg : QE} (hk : I 11 9 = (k : Int)) (hk5 : k ≤ 5) (hC : CQ I k (L.map qpr)) (hW : QW k L) (hg : L[g]? = some eg) (hD : eg.2.2.2.2 = D) (hD15 : D ≤ 15)
    (hQ : ∀ I', I' 28 2 = ((D + 1 : Nat) : Int) → (∀ (w : Nat) (mp : Nat × Nat), (qway L D g)[w]? = some mp → I' 29 w = I 12 mp.1 ∧ I' 30 w = (mp.2 : Int)) → (∀ d, d ≠ 28 → d ≠ 29 → d ≠ 30 → I' d = I d) → Q (none, zH S I')) : Wp 51 (0, [zA 11, zI (g : Int), zA 28, w3, w4, w5, w6], [], zH S I) Q := by
  have eg' := CQ_at hC hg
  refine (sg_X3_trace_0_11_28 _ _ _ _ _ _ _ _).mpr ?_
  refine c_cameFromOf (QL_lt hk5 hC hg) ?_
  refine (sg_X3_trace_7_11_28 _ _ _ _ _ _ _ _ _).mpr ?_
  rw [eg'.2.1]
  -- the writes
  have back : ∀ (d i : Nat) (e : QE) (I' : Nat → Nat → Int) (x6 : PV) (u1 u3 : PV), L[i]? = some e → e.2.2.2.2 = d → d ≤ D → I' 28 2 = ((D + 1 : Nat) : Int) → (∃ rest, qway L D g = qway L d i ++ rest) → (∀ (w : Nat) (mp : Nat × Nat), d ≤ w → (qway L D g)[w]? = some mp → I' 29 w = I 12 mp.1 ∧ I' 30 w = (mp.2 : Int)) → (∀ d, d ≠ 28 → d ≠ 29 → d ≠ 30 → I' d = I d) →
      Wp 51 (50, [zA 11, u1, zA 28, u3, zI (i : Int), zI ((d : Int) - 1), x6], [], zH S I') Q := by
    intro d
    induction d with
    | zero =>
      intro i e I' x6 u1 u3 he hd hdD h2 hr hc hf
      refine (sg_X3_trace_50_11_28 _ _ _ _ _ _ _ _).mpr ?_
      exact zcd (fun _ => hQ I' h2 (fun w mp hw => hc w mp (Nat.zero_le w) hw) hf) (fun h => absurd (by omega) h)
    | succ d ih =>
      intro i e I' x6 u1 u3 he hd hdD h2 hr hc hf
      have hC' : CQ I' k (L.map qpr) := CQ_15 hC (by rw [hf 11 (by decide) (by decide) (by decide)]) (hf 16 (by decide) (by decide) (by decide)) (hf 17 (by decide) (by decide) (by decide)) (hf 18 (by decide) (by decide) (by decide))
      have hat := CQ_at hC' he
      rcases hW i e he with ⟨_, h0⟩ | ⟨j', e', g1, g2, g3, g4, g5, g6, g7, g8⟩
      · omega
      have hat' := CQ_at hC' g2
      refine (sg_X3_trace_50_11_28 _ _ _ _ _ _ _ _).mpr ?_
      refine zcd (fun h => absurd h (by omega)) (fun _ => ?_)
      refine c_cameFromOf (QL_lt hk5 hC' he) ?_
      rw [hat.2.1, g3]
      refine (sg_X3_trace_61_11_28 _ _ _ _ _ _ _ _ _).mpr ?_
      refine c_codeOf (QL_lt hk5 hC' g2) ?_
      refine (sg_X3_trace_70_11_28_11 _ _ _ _ _ _ _ _ _).mpr ?_
      refine c_codeOf (QL_lt hk5 hC' he) ?_
      refine (sg_X3_trace_76_11_28_11 _ _ _ _ _ _ _ _ _ _).mpr ?_
      rw [hat.1, hat'.1, g7, show ((d + 1 : Nat) : Int) - 1 = (d : Int) by omega]
      refine c_tellMove_28 (by rw [hf 11 (by decide) (by decide) (by decide)]; exact hk) hk5 hat'.2.2 g4 g5 g6 (by omega) (by omega) ?_
      refine (sg_X3_trace_82_11_28 _ _ _ _ _ _ _ _).mpr ?_
      rw [zad_eq (by omega), show (d : Int) + -1 = (d : Int) - 1 by omega]
      have e1 := qway_s (d := d) he
      rw [g3, Int.toNat_natCast] at e1
      have hlen : (qway L d j').length = d := qway_len hW d j' e' g2 (by omega)
      obtain ⟨rest, hrest⟩ := hr
      rw [e1, List.append_assoc] at hrest
      refine ih j' e' _ _ _ _ g2 (by omega) (by omega) (by rw [zs2_ne _ _ _ _ (by decide), zs2_ne _ _ _ _ (by decide)]; exact h2) ⟨_, hrest⟩ (fun w mp hw hget => ?_) (fun d' d1 d2 d3 => by rw [zs2_ne _ _ _ _ d3, zs2_ne _ _ _ _ d2]; exact hf d' d1 d2 d3)
      by_cases e : w = d
      · subst e
        rw [hrest, List.getElem?_append_right (by omega), hlen] at hget
        simp at hget
        subst hget
        rw [zs2_ne _ _ _ _ (show 29 ≠ 30 by decide), zs2_at, zs2_at, hf 12 (by decide) (by decide) (by decide)]
        exact ⟨rfl, rfl⟩
      · rw [zs2_ne _ _ _ _ (show 29 ≠ 30 by decide), zs2_ne2 _ _ _ _ e, zs2_ne2 _ _ _ _ e, zs2_ne _ _ _ _ (show 30 ≠ 29 by decide)]
        exact hc w mp (by omega) hget
  -- behind the counting
  have mid : ∀ (w4 w5 w6 : PV) (i : Int), i = (D : Int) → Wp 14 (0, [zA 28, zI (zad i 1)], [], zH S I) (fun w => Wp 51 (42, [zA 11, zI (g : Int), zA 28, zI i, w4, w5, w6], w.1.toList ++ [], w.2) Q) := by
    intro w4 w5 w6 i hi
    subst hi
    rw [zad_s (by omega)]
    refine c_setLength_28 ?_
    refine (sg_X3_trace_42_11_28 _ _ _ _ _ _ _ _).mpr ?_
    rw [zsb_eq (by omega), show max 0 (min ((D + 1 : Nat) : Int) 16) = ((D + 1 : Nat) : Int) by omega]
    refine back D g eg _ _ _ _ hg hD (Nat.le_refl D) (by rw [zs2_at]) ⟨[], by simp⟩ (fun w mp hw hget => ?_) (fun d d1 d2 d3 => by rw [zs2_ne _ _ _ _ d1])
    have h1 := (List.getElem?_eq_some_iff.mp hget).1
    rw [qway_len hW D g eg hg hD] at h1
    omega
  have count : ∀ (d t : Nat) (x : Int) (i : Nat) (e : QE), t + d = D → L[i]? = some e → e.2.2.2.2 = d → x = e.2.1 → ∀ w5 w6 : PV, Wp 51 (9, [zA 11, zI (g : Int), zA 28, zI (t : Int), zI x, w5, w6], [], zH S I) Q := by
    intro d
    induction d with
    | zero =>
      intro t x i e ht he hd hx w5 w6
      subst hx
      refine (sg_X3_trace_9_11_28 _ _ _ _ _ _ _ _).mpr ?_
      rcases hW i e he with ⟨h1, h0⟩ | ⟨j', e', g1, g2, g3, g4, g5, g6, g7, g8⟩
      · exact zcd (fun _ => mid _ _ _ _ (by omega)) (fun h => absurd h1 h)
      · omega
    | succ d ih =>
      intro t x i e ht he hd hx w5 w6
      subst hx
      refine (sg_X3_trace_9_11_28 _ _ _ _ _ _ _ _).mpr ?_
      rcases hW i e he with ⟨h1, h0⟩ | ⟨j', e', g1, g2, g3, g4, g5, g6, g7, g8⟩
      · omega
      · rw [g3]
        refine zcd (fun h => absurd h (by omega)) (fun _ => zcd (fun _ => ?_) (fun h => absurd (by omega) h))
        rw [zad_s (by omega)]
        refine c_cameFromOf (QL_lt hk5 hC g2) ?_
        refine (sg_X3_trace_30_11_28 _ _ _ _ _ _ _ _ _).mpr ?_
        exact ih (t + 1) _ j' e' (by omega) g2 (by omega) (CQ_at hC g2).2.1 _ _
  exact (sg_X3_trace_9_11_28 _ _ _ _ _ _ _ _).mpr ((sg_X3_trace_9_11_28 _ _ _ _ _ _ _ _).mp (count D 0 _ g eg (by omega) hg hD rfl _ _))
