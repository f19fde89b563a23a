/-! the reference finds all arrangements -/
theorem QW_dep {k : Nat} {L : List QE} (h : QW k L) : ∀ (n j : Nat) (e : QE), j ≤ n → L[j]? = some e → e.2.2.2.2 ≤ j := by
  intro n
  induction n with
  | zero =>
    intro j e hj he
    rcases h j e he with ⟨_, w⟩ | ⟨j', e', h1, _⟩
    · omega
    · omega
  | succ n ih =>
    intro j e hj he
    rcases h j e he with ⟨_, w⟩ | ⟨j', e', h1, h2, _, _, _, _, _, h8⟩
    · omega
    · have := ih j' e' (by omega) h2; omega
theorem bq_stay {mv : List Nat → Nat → Nat → Prop} {k : Nat} {a0 : List Nat} {s : Nat} (h : (bq mv k a0 s)[s]? = none) : ∀ d, bq mv k a0 (s + d) = bq mv k a0 s
  | 0 => rfl
  | d + 1 => by
    have ih := bq_stay h d
    rw [← Nat.add_assoc, bq_n, ih]
    rw [ih]
    exact List.getElem?_eq_none_iff.mpr (by have := List.getElem?_eq_none_iff.mp h; omega)
/-- a row of the reference, told by a row of the class -/
def MRow (I : Nat → Nat → Int) (w t : Nat) (f : Nat → Int) : Prop := ∀ p, p < w → I 39 (6 * t + p) = if f p = -1 then -2 else f p
theorem mplc_eq {I J : Nat → Nat → Int} {w t : Nat} {f : Nat → Int} {r : Int} (hV : VT J (w : Int) f) (hM : MRow I w t f) (hr : 0 ≤ r) : mplc I w t r = xplc f r := by
  have hw6 : w ≤ 6 := by have := hV.2.1; omega
  have cell : ∀ p, p < w → (I 39 (6 * t + p) = r ↔ f p = r) := fun p hp => by
    rw [hM p hp]
    split <;> omega
  rcases zfs_spec (P := fun p => r ≠ -1 ∧ f p = r) 6 0 with ⟨h1, h2⟩ | ⟨j, h1, _, h3, h4, _⟩
  · rw [show xplc f r = -1 from h1]
    rcases zfs_spec (P := fun p => I 39 (6 * t + p) = r) w 0 with ⟨g1, _⟩ | ⟨i, g1, _, g3, g4, _⟩
    · exact g1
    · exact absurd ⟨by omega, (cell i (by omega)).mp g4⟩ (h2 i (Nat.zero_le _) (by omega))
  · rw [show xplc f r = (j : Int) from h1]
    have hjw : j < w := by
      by_cases c : j < w
      · exact c
      · have := hV.2.2.2.1 j (by omega) (by omega)
        omega
    rcases zfs_spec (P := fun p => I 39 (6 * t + p) = r) w 0 with ⟨_, g2⟩ | ⟨i, g1, _, g3, g4, _⟩
    · exact absurd ((cell j hjw).mpr h4.2) (g2 j (Nat.zero_le _) (by omega))
    · have e1 := (cell i (by omega)).mp g4
      have := hV.2.2.2.2.1 i j (by omega) (by omega) (by rw [e1, h4.2]) (by omega)
      rw [show mplc I w t r = (i : Int) from g1, this]
def Mett (I : Nat → Nat → Int) : Prop := ∃ n : Nat, I 32 16 = (n : Int) ∧ n ≤ 2000 ∧ (∀ j, j < n → 0 ≤ I 42 j ∧ (I 42 j).toNat < 117649) ∧ ∀ c, c < 117649 → I 41 c ≠ 0 → ∃ j, j < n ∧ I 42 j = (c : Int)
def fmo8 (I I' : Nat → Nat → Int) : Prop := (∀ d, d ≠ 32 → d ≠ 41 → d ≠ 42 → d ≠ 43 → d ≠ 44 → d ≠ 45 → d ≠ 46 → d ≠ 47 → I' d = I d) ∧ ∀ j, j ≠ 16 → j ≠ 18 → I' 32 j = I 32 j
theorem fmo87 {I J K : Nat → Nat → Int} (h : fmo8 I J) (g : fm7 J K) : fmo8 I K := ⟨fun d h1 h2 h3 h4 h5 h6 h7 h8 => by rw [g.1 d h1 h2 h3 h4 h5 h6 h8]; exact h.1 d h1 h2 h3 h4 h5 h6 h7 h8, fun j h1 h2 => by rw [g.2 j h1]; exact h.2 j h1 h2⟩
theorem Mett_of {I : Nat → Nat → Int} {w k : Nat} {L : List QE} (hk : k ≤ 5) (hw : w ≤ 6) (h : MQu I w k L) : Mett I := by
  have hl := MQu_len hk h
  refine ⟨L.length, h.1, by omega, fun j hj => ?_, fun c hc hn => ?_⟩
  · have he := List.getElem?_eq_getElem hj
    have := (h.2.1 j _ he).1
    have hb := (h.2.2.2.2 _ (List.getElem_mem hj)).1
    have hin := c7l_in (k := k) (w := w) (by omega) hw hb
    rw [this]
    exact ⟨hin.1, by omega⟩
  · obtain ⟨e, he, h1⟩ := (h.2.2.1 c hc).mp hn
    obtain ⟨j, hj⟩ := mem_get he
    exact ⟨j, (List.getElem?_eq_some_iff.mp hj).1, by rw [(h.2.1 j e hj).1, h1]⟩
set_option maxRecDepth 100000 in
/-- the first loop: nothing is met -/
theorem m_clear {S : PS} {I : Nat → Nat → Int} {Q : PV1 → Prop} {t : Int} {w2 w3 w4 w5 : PV} (hM : Mett I) (hQ : ∀ I', (∀ c, c < 117649 → I' 41 c = 0) → I' 32 16 = 0 → I' 32 18 = 0 → (∀ j, j ≠ 16 → j ≠ 18 → I' 32 j = I 32 j) → (∀ d, d ≠ 32 → d ≠ 41 → I' d = I d) → Wp 142 (40, [zA 32, zI t, zI 0, w3, w4, w5], [], zH S I') Q) : Wp 142 (0, [zA 32, zI t, w2, w3, w4, w5], [], zH S I) Q := by
  obtain ⟨n, h1, h2, h3, h4⟩ := hM
  refine (sg_X6_findStates_0_32 _ _ _ _ _ _ _ _).mpr ?_
  have loop : ∀ (j i : Nat) (J : Nat → Nat → Int), i + j = n → (∀ d, d ≠ 41 → J d = I d) → (∀ c, c < 117649 → J 41 c ≠ 0 → ∃ j, i ≤ j ∧ j < n ∧ I 42 j = (c : Int)) → Wp 142 (2, [zA 32, zI t, zI (i : Int), w3, w4, w5], [], zH S J) Q := by
    intro j
    induction j with
    | zero =>
      intro i J hi g1 g2
      obtain rfl : i = n := by omega
      refine (sg_X6_findStates_2_32 _ _ _ _ _ _ _ _).mpr ?_
      rw [g1 32 (by decide), h1]
      refine zcd (fun h => absurd h (by omega)) (fun _ => ?_)
      refine hQ _ (fun c hc => ?_) (by rw [zs2_ne2 _ _ _ _ (by decide), zs2_at]) (by rw [zs2_at]) (fun j j1 j2 => by rw [zs2_ne2 _ _ _ _ j2, zs2_ne2 _ _ _ _ j1, g1 32 (by decide)]) (fun d d1 d2 => by rw [zs2_ne _ _ _ _ d1, zs2_ne _ _ _ _ d1]; exact g1 d d2)
      rw [zs2_ne _ _ _ _ (by decide), zs2_ne _ _ _ _ (by decide)]
      by_cases e : J 41 c = 0
      · exact e
      · obtain ⟨j, j1, j2, _⟩ := g2 c hc e; omega
    | succ j ih =>
      intro i J hi g1 g2
      refine (sg_X6_findStates_2_32 _ _ _ _ _ _ _ _).mpr ?_
      rw [g1 32 (by decide), h1, Int.toNat_natCast, g1 42 (by decide), zad_s (by omega)]
      refine zcd (fun _ => zgd (by omega) ?_) (fun h => absurd (by omega) h)
      obtain ⟨a1, a2⟩ := h3 i (by omega)
      have hz7 : ∀ m : Nat, m = 117649 → zib (I 42 i) m = true := fun m e => zib_iff.mpr ⟨a1, by omega⟩
      rw [hz7 _ rfl, Bool.true_and, show zbb 0 = true from rfl, cond_true]
      refine ih (i + 1) _ (by omega) (fun d hd => by rw [zs2_ne _ _ _ _ hd]; exact g1 d hd) (fun c hc hne => ?_)
      by_cases e : c = (I 42 i).toNat
      · subst e; rw [zs2_at] at hne; exact absurd rfl hne
      · rw [zs2_ne2 _ _ _ _ e] at hne
        obtain ⟨j, j1, j2, j3⟩ := g2 c hc hne
        refine ⟨j, ?_, j2, j3⟩
        by_cases e2 : j = i
        · subst e2; rw [j3] at e; omega
        · omega
  exact loop n 0 I (by omega) (fun _ _ => rfl) (fun c hc hne => by
    obtain ⟨j, j1, j2⟩ := h4 c hc hne
    exact ⟨j, Nat.zero_le _, j1, j2⟩)
