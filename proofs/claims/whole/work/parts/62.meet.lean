/-! the reference's queue -/
def rw7 (a : List Nat) (p : Nat) : Int := if p ∈ a then ((a.idxOf p : Nat) : Int) else 6
def c7l (w : Nat) (a : List Nat) : Int := zc7 (rw7 a) w w
theorem rw7_no {a : List Nat} {p : Nat} (h : p ∉ a) : rw7 a p = 6 := if_neg h
theorem rw7_at {k : Nat} {a : List Nat} (hb : barr k a) {o : Nat} (ho : o < k) : rw7 a (a.getD o 0) = (o : Int) := by
  have ho' : o < a.length := by rw [hb.1]; exact ho
  have hm := (barr_get hb ho).1
  rw [rw7, if_pos hm]
  have h1 := List.idxOf_lt_length_of_mem hm
  have h2 := List.getElem_idxOf h1
  have : a.idxOf (a.getD o 0) = o := barr_inj hb (by rw [← hb.1]; exact h1) ho (by rw [getD_el h1]; exact h2)
  rw [this]
theorem rw7_in {k : Nat} {a : List Nat} (hk : k ≤ 6) (hb : barr k a) (p : Nat) : 0 ≤ rw7 a p ∧ rw7 a p < 7 := by
  by_cases h : p ∈ a
  · obtain ⟨o, ho, e⟩ := (barr_ex hb).mp h
    rw [← e, rw7_at hb ho]; omega
  · rw [rw7_no h]; omega
theorem rw7_lt {k : Nat} {a : List Nat} (hk : k ≤ 6) (hb : barr k a) {p : Nat} (h : rw7 a p < 6) : p ∈ a ∧ ∃ o, o < k ∧ rw7 a p = (o : Int) ∧ a.getD o 0 = p := by
  by_cases c : p ∈ a
  · obtain ⟨o, ho, e⟩ := (barr_ex hb).mp c
    exact ⟨c, o, ho, by rw [← e, rw7_at hb ho], e⟩
  · rw [rw7_no c] at h; omega
theorem c7l_in {k w : Nat} {a : List Nat} (hk : k ≤ 6) (hw : w ≤ 6) (hb : barr k a) : 0 ≤ c7l w a ∧ c7l w a < 117649 := zc7_lt hw (fun o _ => rw7_in hk hb o)
theorem c7l_dig {k w : Nat} {a : List Nat} (hk : k ≤ 6) (hb : barr k a) {p : Nat} (hp : p < w) : c7l w a / 7 ^ p % 7 = rw7 a p := zc7_dig (fun o _ => rw7_in hk hb o) hp
theorem c7l_inj {k w : Nat} {a b : List Nat} (hk : k ≤ 5) (ha : barr k a) (hb : barr k b) (haw : ∀ x ∈ a, x < w) (e : c7l w a = c7l w b) : a = b := by
  apply List.ext_getElem (ha.1.trans hb.1.symm)
  intro o h1 h2
  have ho : o < k := by rw [← ha.1]; exact h1
  have hg := barr_get ha ho
  have hp := haw _ hg.1
  have d1 := c7l_dig (w := w) (by omega) ha hp
  have d2 := c7l_dig (w := w) (by omega) hb hp
  rw [e, d2, rw7_at ha ho] at d1
  obtain ⟨_, o', ho', e1, e2⟩ := rw7_lt (by omega) hb (p := a.getD o 0) (by omega)
  have : o' = o := by omega
  subst this
  rw [getD_el h1] at e2
  rw [getD_el h2] at e2
  exact e2.symm
def MQu (I : Nat → Nat → Int) (w k : Nat) (L : List QE) : Prop := I 32 16 = (L.length : Int) ∧
  (∀ (j : Nat) (e : QE), L[j]? = some e → I 42 j = c7l w e.1 ∧ I 43 j = e.2.1 ∧ I 44 j = ((8 * e.2.2.1 + e.2.2.2.1 : Nat) : Int) ∧ I 45 j = ((e.2.2.2.2 : Nat) : Int)) ∧
  (∀ c : Nat, c < 117649 → (I 41 c ≠ 0 ↔ ∃ e ∈ L, c7l w e.1 = (c : Int))) ∧ (L.map Prod.fst).Nodup ∧ ∀ e ∈ L, barr k e.1 ∧ ∀ x ∈ e.1, x < w
theorem MQu_len {I : Nat → Nat → Int} {w k : Nat} {L : List QE} (hk : k ≤ 5) (h : MQu I w k L) : L.length ≤ 720 := by
  have := barr_bound hk h.2.2.2.1 (fun a ha => by
    obtain ⟨e, he, rfl⟩ := List.mem_map.mp ha
    exact (h.2.2.2.2 e he).1)
  simpa using this
theorem MQu_mem {I : Nat → Nat → Int} {w k : Nat} {L : List QE} (hk : k ≤ 5) (h : MQu I w k L) {c : List Nat} (hc : barr k c) : c ∈ L.map Prod.fst ↔ ∃ e ∈ L, c7l w e.1 = c7l w c := by
  constructor
  · intro w
    obtain ⟨e, he, rfl⟩ := List.mem_map.mp w
    exact ⟨e, he, rfl⟩
  · rintro ⟨e, he, e2⟩
    have := h.2.2.2.2 e he
    rw [← c7l_inj hk this.1 hc this.2 e2]
    exact List.mem_map.mpr ⟨e, he, rfl⟩
theorem qadd_new {L : List QE} {e : QE} (h : e.1 ∉ L.map Prod.fst) : qadd L e = L ++ [e] := by unfold qadd; exact if_neg h
theorem qadd_old {L : List QE} {e : QE} (h : e.1 ∈ L.map Prod.fst) : qadd L e = L := by unfold qadd; exact if_pos h
def fm6 (I I' : Nat → Nat → Int) : Prop := (∀ d, d ≠ 32 → d ≠ 41 → d ≠ 42 → d ≠ 43 → d ≠ 44 → d ≠ 45 → I' d = I d) ∧ ∀ j, j ≠ 16 → I' 32 j = I 32 j
theorem zgd_n {i : Int} {n : Nat} {A : Prop} (h0 : 0 ≤ i) (h : i.toNat < n) (a : A) : cond (zib i n) A False := zgd ⟨h0, by omega⟩ a
theorem zgdb_n {i x : Int} {n : Nat} {A : Prop} (h0 : 0 ≤ i) (h : i.toNat < n) (hx : x = 0 ∨ x = 1) (a : A) : cond (zib i n && zbb x) A False := zgdb ⟨h0, by omega⟩ hx a
set_option maxRecDepth 100000 in
theorem m_meet {S : PS} {I : Nat → Nat → Int} {Q : PV1 → Prop} {w k : Nat} {L : List QE} {e : QE} (hk : k ≤ 5) (hw : w ≤ 6) (hM : MQu I w k L) (hc : barr k e.1) (hcw : ∀ x ∈ e.1, x < w)
    (hQ : ∀ I', MQu I' w k (qadd L e) → fm6 I I' → Q (none, zH S I')) : Wp 141 (0, [zA 32, zI (c7l w e.1), zI e.2.1, zI ((8 * e.2.2.1 + e.2.2.2.1 : Nat) : Int), zI ((e.2.2.2.2 : Nat) : Int)], [], zH S I) Q := by
  have hin := c7l_in (k := k) (by omega) hw hc
  have hlen := MQu_len hk hM
  obtain ⟨C, hCe⟩ : ∃ C : Nat, c7l w e.1 = (C : Int) := ⟨(c7l w e.1).toNat, by omega⟩
  have hCl : C < 117649 := by omega
  have hbit := hM.2.2.1 C hCl
  have hmem := MQu_mem hk hM hc
  rw [hCe] at hmem
  rw [hCe]
  refine (sg_X6_meet_0_32 _ _ _ _ _ _ _).mpr ?_
  rw [Int.toNat_natCast]
  have hcc : (C : Int).toNat < 117649 := by rw [Int.toNat_natCast]; exact hCl
  have hz7 : ∀ n : Nat, n = 117649 → zib (C : Int) n = true := fun n e => zib_iff.mpr ⟨Int.natCast_nonneg C, by omega⟩
  rw [hz7 _ rfl, cond_true]
  refine zcd (fun hz => ?_) (fun hz => ?_)
  · have hn : e.1 ∉ L.map Prod.fst := fun w => (hbit.mpr (hmem.mp w)) hz
    have hA := hM.1
    rw [Bool.true_and, show zbb 1 = true from rfl, cond_true]
    simp (disch := decide) only [zs2_ne]
    rw [hA, Int.toNat_natCast]
    refine zgd (by omega) (zgd (by omega) (zgd (by omega) (zgd (by omega) ?_)))
    rw [zad_s (by omega)]
    refine hQ _ ?_ ⟨fun d h1 h2 h3 h4 h5 h6 => by rw [zs2_ne _ _ _ _ h1, zs2_ne _ _ _ _ h6, zs2_ne _ _ _ _ h5, zs2_ne _ _ _ _ h4, zs2_ne _ _ _ _ h3, zs2_ne _ _ _ _ h2], fun j hj => by rw [zs2_ne2 _ _ _ _ hj]; simp (disch := decide) only [zs2_ne]⟩
    rw [qadd_new hn]
    refine ⟨by rw [zs2_at]; simp, fun j x hx => ?_, fun c' hc' => ?_, ?_, fun x hx => ?_⟩
    · simp (disch := decide) only [zs2_ne]
      rcases snoc_get hx with hx | ⟨hj, rfl⟩
      · have hj : j ≠ L.length := by have := (List.getElem?_eq_some_iff.mp hx).1; omega
        rw [zs2_ne2 _ _ _ _ hj, zs2_ne2 _ _ _ _ hj, zs2_ne2 _ _ _ _ hj, zs2_ne2 _ _ _ _ hj]
        simp (disch := decide) only [zs2_ne]
        exact hM.2.1 j x hx
      · subst hj
        rw [zs2_at, zs2_at, zs2_at, zs2_at]
        exact ⟨hCe.symm, rfl, rfl, rfl⟩
    · simp (disch := decide) only [zs2_ne]
      have hold := hM.2.2.1 c' hc'
      by_cases hw : c' = C
      · subst hw
        rw [zs2_at]
        exact ⟨fun _ => ⟨e, List.mem_append_right _ (List.mem_singleton.mpr rfl), hCe⟩, fun _ => by decide⟩
      · rw [zs2_ne2 _ _ _ _ hw, hold]
        constructor
        · rintro ⟨x, hx, h1⟩
          exact ⟨x, List.mem_append_left _ hx, h1⟩
        · rintro ⟨x, hx, h1⟩
          rcases List.mem_append.mp hx with hx | hx
          · exact ⟨x, hx, h1⟩
          · exfalso
            rw [List.mem_singleton.mp hx] at h1
            omega
    · rw [List.map_append]; exact nodup_snoc hM.2.2.2.1 hn
    · rcases List.mem_append.mp hx with hx | hx
      · exact hM.2.2.2.2 x hx
      · rw [List.mem_singleton.mp hx]; exact ⟨hc, hcw⟩
  · have hn : e.1 ∈ L.map Prod.fst := hmem.mpr (hbit.mp hz)
    exact hQ I (by rw [qadd_old hn]; exact hM) ⟨fun _ _ _ _ _ _ _ => rfl, fun _ _ => rfl⟩
