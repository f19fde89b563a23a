/-! the class's queue -/
def CQ (I : Nat → Nat → Int) (k : Nat) (L : BQ) : Prop := I 11 8 = (L.length : Int) ∧ (∀ (j : Nat) (e : List Nat × Int), L[j]? = some e → I 16 j = c6l e.1 ∧ I 17 j = e.2) ∧
  (∀ c : Nat, c < 7776 → (zbt (I 18 (c / 32)) (c % 32) ↔ ∃ e ∈ L, c6l e.1 = (c : Int))) ∧ (L.map Prod.fst).Nodup ∧ ∀ e ∈ L, barr k e.1
theorem CQ_len {I : Nat → Nat → Int} {k : Nat} {L : BQ} (hk : k ≤ 5) (h : CQ I k L) : L.length ≤ 720 := by
  have := barr_bound hk h.2.2.2.1 (fun a ha => by
    obtain ⟨e, he, rfl⟩ := List.mem_map.mp ha
    exact h.2.2.2.2 e he)
  simpa using this
theorem CQ_mem {I : Nat → Nat → Int} {k : Nat} {L : BQ} (h : CQ I k L) {c : List Nat} (hc : barr k c) : c ∈ L.map Prod.fst ↔ ∃ e ∈ L, c6l e.1 = c6l c := by
  constructor
  · intro w
    obtain ⟨e, he, rfl⟩ := List.mem_map.mp w
    exact ⟨e, he, rfl⟩
  · rintro ⟨e, he, e2⟩
    rw [← c6l_inj (h.2.2.2.2 e he) hc e2]
    exact List.mem_map.mpr ⟨e, he, rfl⟩
theorem nodup_snoc {α : Type} {l : List α} {x : α} (h : l.Nodup) (hx : x ∉ l) : (l ++ [x]).Nodup := by
  rw [List.nodup_append]
  refine ⟨h, by simp, fun a ha b hb => ?_⟩
  have : b = x := by simpa using hb
  subst this
  intro e; subst e; exact hx ha
theorem badd_new {i : Int} {L : BQ} {c : List Nat} (h : c ∉ L.map Prod.fst) : badd i L c = L ++ [(c, i)] := if_neg h
theorem badd_old {i : Int} {L : BQ} {c : List Nat} (h : c ∈ L.map Prod.fst) : badd i L c = L := if_pos h
theorem CQ_room {I : Nat → Nat → Int} {k : Nat} {L : BQ} (hk : k ≤ 5) (h : CQ I k L) {c : List Nat} (hc : barr k c) (hn : c ∉ L.map Prod.fst) : L.length < 720 := by
  have := barr_bound hk (LL := L.map Prod.fst ++ [c]) (nodup_snoc h.2.2.2.1 hn) (fun a ha => by
    rcases List.mem_append.mp ha with ha | ha
    · obtain ⟨e, he, rfl⟩ := List.mem_map.mp ha
      exact h.2.2.2.2 e he
    · have : a = c := by simpa using ha
      subst this; exact hc)
  simp at this
  omega
set_option maxRecDepth 100000 in
theorem c_reach {S : PS} {I : Nat → Nat → Int} {Q : PV1 → Prop} {u3 u4 u5 : PV} {k : Nat} {L : BQ} {c : List Nat} {i : Int} (hk : k ≤ 5) (hC : CQ I k L) (hc : barr k c)
    (hQ : ∀ I', CQ I' k (badd i L c) → (∀ d, d ≠ 11 → d ≠ 16 → d ≠ 17 → d ≠ 18 → I' d = I d) → (∀ j, j ≠ 8 → I' 11 j = I 11 j) → Q (none, zH S I')) : Wp 44 (0, [zA 11, zI (c6l c), zI i, u3, u4, u5], [], zH S I) Q := by
  have hin := c6l_in hk hc
  have hlen := CQ_len hk hC
  obtain ⟨C, hCe⟩ : ∃ C : Nat, c6l c = (C : Int) := ⟨(c6l c).toNat, by omega⟩
  have hCl : C < 7776 := by omega
  have hbit := hC.2.2.1 C hCl
  have hmem := CQ_mem hC hc
  rw [hCe] at hmem
  rw [hCe]
  refine (sg_X3_reach_0_11 _ _ _ _ _ _ _ _).mpr ?_
  rw [zdv_eq (by omega) (by omega) (by omega) (by omega), zrm_eq (by omega) (by omega) (by omega) (by omega)]
  have e1 : ((C : Int) / 32).toNat = C / 32 := by omega
  have e2 : (C : Int) % 32 = ((C % 32 : Nat) : Int) := by omega
  rw [e1, e2]
  refine zgn (y := 32) (by omega) ?_
  refine zgn (y := 32) (by omega) ?_
  refine zcd (fun h => absurd h (by omega)) (fun _ => ?_)
  refine zcd (fun _ => zgd (by omega) ?_) (fun h => absurd (by omega) h)
  refine zcd (fun hz => ?_) (fun hz => ?_)
  · have hn : c ∉ L.map Prod.fst := fun w => (hbit.mpr (hmem.mp w)) hz
    have hroom := CQ_room hk hC hc hn
    have hA := hC.1
    refine zcd (fun _ => ?_) (fun h => absurd rfl h)
    refine zcd (fun h => absurd h (by omega)) (fun _ => ?_)
    refine zcd (fun _ => ?_) (fun h => absurd (by omega) h)
    refine zgd (by omega) (zgd (by omega) ?_)
    simp (disch := decide) only [zs2_ne]
    rw [hA, Int.toNat_natCast]
    refine zgd (by omega) (zgd (by omega) ?_)
    rw [zad_s (by omega)]
    refine hQ _ ?_ (fun d h1 h2 h3 h4 => by rw [zs2_ne _ _ _ _ h1, zs2_ne _ _ _ _ h3, zs2_ne _ _ _ _ h2, zs2_ne _ _ _ _ h4]) (fun j hj => by rw [zs2_ne2 _ _ _ _ hj]; simp (disch := decide) only [zs2_ne])
    rw [badd_new hn]
    refine ⟨by rw [zs2_at]; simp, fun j e he => ?_, fun c' hc' => ?_, ?_, fun e he => ?_⟩
    · simp (disch := decide) only [zs2_ne]
      by_cases hj : j < L.length
      · rw [List.getElem?_append_left hj] at he
        rw [zs2_ne2 _ _ _ _ (by omega), zs2_ne2 _ _ _ _ (by omega), zs2_ne _ _ _ _ (by decide)]
        exact hC.2.1 j e he
      · have hj2 : j = L.length := by
          have := (List.getElem?_eq_some_iff.mp he).1
          simp at this; omega
        subst hj2
        rw [List.getElem?_append_right (Nat.le_refl _)] at he
        simp at he
        subst he
        rw [zs2_at, zs2_at]
        exact ⟨hCe.symm, rfl⟩
    · simp (disch := decide) only [zs2_ne]
      have hold := hC.2.2.1 c' hc'
      by_cases hw : c' / 32 = C / 32
      · rw [hw, zs2_at, zbt_or (by omega) (by omega), ← hw, hold]
        constructor
        · rintro (⟨e, he, h1⟩ | h1)
          · exact ⟨e, List.mem_append_left _ he, h1⟩
          · refine ⟨(c, i), List.mem_append_right _ (by simp), ?_⟩
            rw [show c6l (c, i).1 = c6l c from rfl, hCe]; omega
        · rintro ⟨e, he, h1⟩
          rcases List.mem_append.mp he with he | he
          · exact Or.inl ⟨e, he, h1⟩
          · have : e = (c, i) := by simpa using he
            subst this
            right
            have h1 : c6l c = (c' : Int) := h1
            omega
      · rw [zs2_ne2 _ _ _ _ hw, hold]
        constructor
        · rintro ⟨e, he, h1⟩
          exact ⟨e, List.mem_append_left _ he, h1⟩
        · rintro ⟨e, he, h1⟩
          rcases List.mem_append.mp he with he | he
          · exact ⟨e, he, h1⟩
          · exfalso
            have : e = (c, i) := by simpa using he
            subst this
            have h1 : c6l c = (c' : Int) := h1
            omega
    · rw [List.map_append]; exact nodup_snoc hC.2.2.2.1 hn
    · rcases List.mem_append.mp he with he | he
      · exact hC.2.2.2.2 e he
      · have : e = (c, i) := by simpa using he
        subst this; exact hc
  · have hn : c ∈ L.map Prod.fst := hmem.mpr (hbit.mp hz)
    have hfin : Q (none, zH S I) := hQ I (by rw [badd_old hn]; exact hC) (fun _ _ _ _ _ => rfl) (fun _ _ => rfl)
    refine zcd (fun h => absurd h (by decide)) (fun _ => hfin)
