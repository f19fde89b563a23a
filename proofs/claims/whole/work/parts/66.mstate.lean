/-! the reference: the first arrangement in which a rule can come -/
set_option maxRecDepth 100000 in
theorem m_stateFor {S : PS} {I : Nat → Nat → Int} {Q : PV1 → Prop} {w2 w3 : PV} {w k g D p : Nat} {eg : QE} {L : List QE} {B A : Nat → Nat → Prop} (r : Nat → Int) (hk5 : k ≤ 5) (hw : I 32 6 = (w : Int)) (hw6 : w ≤ 6) (hM : MQu I w k L)
    (hown : ∀ o, o < k → I 46 o = r o) (hnum : ∀ o, o ≤ k → num (r o)) (hne : ∀ o, o < k → r o ≠ r k)
    (hB : ∀ o, o < k → (B k o ↔ o ≠ k ∧ mov I (r k) (r o) ∧ mhi I (r o) (r k))) (hA : ∀ o, o < k → (A k o ↔ o ≠ k ∧ mov I (r k) (r o) ∧ ¬ mhi I (r o) (r k)))
    (hG : xgoal (cmv w k B A) k L g D p eg)
    (hQ : ∀ J, J 32 20 = (p : Int) → (∀ j, j ≠ 20 → J 32 j = I 32 j) → (∀ d, d ≠ 32 → d ≠ 47 → J d = I d) → Q (some (zI (g : Int)), zH S J)) : Wp 144 (0, [zA 32, zI (r k), w2, w3], [], zH S I) Q := by
  obtain ⟨G1, G2, G3, G4, G5⟩ := hG
  have hl := MQu_len hk5 hM
  refine (sg_X6_stateFor_0_32 _ _ _ _ _ _).mpr ?_
  have loop : ∀ (j s : Nat) (J : Nat → Nat → Int) (v3 : PV), s + j = g → (∀ d, d ≠ 47 → J d = I d) → Wp 144 (2, [zA 32, zI (r k), zI (s : Int), v3], [], zH S J) Q := by
    intro j
    -- one arrangement
    have one : ∀ (s : Nat) (J : Nat → Nat → Int) (v3 : PV) (x : QE), L[s]? = some x → (∀ d, d ≠ 47 → J d = I d) →
        (∀ (q : Nat) (J' : Nat → Nat → Int), (q = w ∨ (q < w ∧ cmv w k B A x.1 k q)) → (∀ q', q' < q → ¬ cmv w k B A x.1 k q') → (∀ d, d ≠ 47 → J' d = I d) → (q = w → Wp 144 (2, [zA 32, zI (r k), zI ((s + 1 : Nat) : Int), zI (q : Int)], [], zH S J') Q) ∧ (q < w → Q (some (zI (s : Int)), zH S (zs2 J' 32 20 (q : Int))))) →
        Wp 144 (2, [zA 32, zI (r k), zI (s : Int), v3], [], zH S J) Q := by
      intro s J v3 x hx hJ nx
      have hs := (List.getElem?_eq_some_iff.mp hx).1
      obtain ⟨hb, haw⟩ := hM.2.2.2.2 x (List.mem_of_getElem? hx)
      refine (sg_X6_stateFor_2_32 _ _ _ _ _ _).mpr ?_
      rw [hJ 32 (by decide), hM.1, hJ 42 (by decide), Int.toNat_natCast, (hM.2.1 s x hx).1]
      refine zcd (fun _ => zgd (by omega) ?_) (fun h => absurd (by omega) h)
      refine m_setRow (by rw [hJ 32 (by decide)]; exact hw) hw6 (c7l_in (k := k) (by omega) hw6 hb) ?_
      refine (sg_X6_stateFor_20_32 _ _ _ _ _ _).mpr ?_
      generalize hJ2 : zmapc J 47 w (fun m => c7l w x.1 / 7 ^ m % 7) = J2
      have e2 : ∀ d, d ≠ 47 → J2 d = I d := fun d hd => by rw [← hJ2, zmapc_ne _ _ _ _ hd]; exact hJ d hd
      have h47 : ∀ q, q < w → J2 47 q = rw7 x.1 q := fun q hq => by rw [← hJ2, zmapc_at _ _ _ _ hq, c7l_dig (k := k) (by omega) hb hq]
      have hrow2 : ∀ q, q < w → (∃ o, o < k ∧ o ≠ k ∧ x.1.getD o 0 = q ∧ J2 47 q = (o : Int)) ∨ ((∀ o, o < k → o ≠ k → x.1.getD o 0 ≠ q) ∧ J2 47 q = 6) := fun q hq => by
        by_cases c2 : q ∈ x.1
        · obtain ⟨o, ho, e⟩ := (barr_ex hb).mp c2
          refine Or.inl ⟨o, ho, by omega, e, ?_⟩
          rw [h47 q hq, ← e, rw7_at hb ho]
        · exact Or.inr ⟨fun o ho _ e => c2 (e ▸ (barr_get hb ho).1), by rw [h47 q hq, rw7_no c2]⟩
      have places : ∀ (i q : Nat), q + i = w → (∀ q', q' < q → ¬ cmv w k B A x.1 k q') → Wp 144 (22, [zA 32, zI (r k), zI (s : Int), zI (q : Int)], [], zH S J2) Q := by
        intro i
        induction i with
        | zero =>
          intro q hq hno
          obtain rfl : q = w := by omega
          refine (sg_X6_stateFor_22_32 _ _ _ _ _ _).mpr ?_
          rw [e2 32 (by decide), hw, zad_s (i := s) (by omega)]
          exact zcd (fun h => absurd h (by omega)) (fun _ => (nx q J2 (Or.inl rfl) hno e2).1 rfl)
        | succ i ih =>
          intro q hq hno
          have hqw : q < w := by omega
          refine (sg_X6_stateFor_22_32 _ _ _ _ _ _).mpr ?_
          rw [e2 32 (by decide), hw, Int.toNat_natCast, h47 q hqw, zad_s (i := q) (by omega)]
          have skip : ¬ cmv w k B A x.1 k q → Wp 144 (22, [zA 32, zI (r k), zI (s : Int), zI ((q + 1 : Nat) : Int)], [], zH S J2) Q := fun h => ih (q + 1) (by omega) (fun q' hq' => by
            by_cases e : q' = q
            · subst e; exact h
            · exact hno q' (by omega))
          refine zcd (fun _ => zgd (by omega) ?_) (fun h => absurd (by omega) h)
          refine zcd (fun h6 => ?_) (fun h6 => skip (fun c => h6 (rw7_no c.2.1)))
          have hpa : q ∉ x.1 := fun c => by
            obtain ⟨o, ho, e⟩ := (barr_ex hb).mp c
            rw [← e, rw7_at hb ho] at h6; omega
          refine m_isSafeAt (hnum k (Nat.le_refl k)) (by rw [e2 32 (by decide)]; exact hw) hw6 hqw (fun q' hq' => by rw [h47 q' hq']; exact (rw7_in (k := k) (by omega) hb q').1) (fun q' hq' h => by
            rcases hrow2 q' hq' with ⟨o, ho', _, _, e⟩ | ⟨_, e⟩
            · rw [e, Int.toNat_natCast, e2 46 (by decide), hown o ho']; exact hnum o (by omega)
            · rw [e] at h; omega) (fun y hy1 hy2 => ?_)
          have hiff := msf_cmv (I := I) (J := J2) (B := B) (A := A) hk5 hb haw (Nat.le_refl k) hqw hpa r hrow2 (fun o ho' => by rw [e2 46 (by decide)]; exact hown o ho') ⟨e2 35 (by decide), e2 36 (by decide), e2 37 (by decide)⟩ (fun o ho' _ => hne o ho') hB hA
          refine (sg_X6_stateFor_47_32 _ _ _ _ _ _ _).mpr ?_
          rw [zad_s (i := q) (by omega)]
          refine zcd (fun hy0 => skip (fun c => by have := hy2.mpr (hiff.mpr c); omega)) (fun hy0 => ?_)
          exact (nx q J2 (Or.inr ⟨hqw, hiff.mp (hy2.mp (by omega))⟩) hno e2).2 hqw
      exact places w 0 (by omega) (fun q' hq' => absurd hq' (by omega))
    induction j with
    | zero =>
      intro s J v3 hs hJ
      obtain rfl : s = g := by omega
      refine one s J v3 eg G1 hJ (fun q J' h1 h2 h3 => ⟨fun e => ?_, fun hq => ?_⟩)
      · subst e
        exact absurd G3 (h2 p G3.1)
      · have hqp : q = p := by
          rcases h1 with h1 | h1
          · omega
          · by_cases c : q < p
            · exact absurd h1.2 (G4 q c)
            · by_cases c2 : p < q
              · exact absurd G3 (h2 p c2)
              · omega
        subst hqp
        exact hQ _ (by rw [zs2_at]) (fun j hj => by rw [zs2_ne2 _ _ _ _ hj, h3 32 (by decide)]) (fun d d1 d2 => by rw [zs2_ne _ _ _ _ d1]; exact h3 d d2)
    | succ j ih =>
      intro s J v3 hs hJ
      obtain ⟨x, hx⟩ : ∃ x, L[s]? = some x := by
        have := (List.getElem?_eq_some_iff.mp G1).1
        exact ⟨_, List.getElem?_eq_getElem (by omega)⟩
      refine one s J v3 x hx hJ (fun q J' h1 h2 h3 => ⟨fun e => ih (s + 1) J' _ (by omega) h3, fun hq => ?_⟩)
      rcases h1 with h1 | h1
      · omega
      · exact absurd h1.2 (G5 s x (by omega) hx q)
  exact loop g 0 I _ (by omega) (fun _ _ => rfl)
