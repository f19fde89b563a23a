/-! the reference: the way back -/
set_option maxRecDepth 100000 in
theorem m_back {S : PS} {I : Nat → Nat → Int} {Q : PV1 → Prop} {w k g D : Nat} {eg : QE} {L : List QE} {u1 u2 u3 : PV} (hk5 : k ≤ 5) (hM : MQu I w k L) (hW : QW k L) (hg : L[g]? = some eg) (hD : eg.2.2.2.2 = D) (hD15 : D ≤ 15)
    (hQ : ∀ J, (∀ (x : Nat) (mp : Nat × Nat), (qway L D g)[x]? = some mp → J 48 x = I 46 mp.1 ∧ J 49 x = (mp.2 : Int)) → (∀ x, D ≤ x → J 48 x = I 48 x ∧ J 49 x = I 49 x) → (∀ d, d ≠ 48 → d ≠ 49 → J d = I d) → Q (some (zI (I 32 21)), zH S J)) :
    Wp 147 (133, [zA 32, u1, u2, u3, zI (D : Int), zI (g : Int)], [], zH S I) Q := by
  have hl := MQu_len hk5 hM
  have back : ∀ (d i : Nat) (e : QE) (J : Nat → Nat → Int), L[i]? = some e → e.2.2.2.2 = d → d ≤ D → (∃ rest, qway L D g = qway L d i ++ rest) → (∀ (x : Nat) (mp : Nat × Nat), d ≤ x → (qway L D g)[x]? = some mp → J 48 x = I 46 mp.1 ∧ J 49 x = (mp.2 : Int)) → (∀ x, D ≤ x → J 48 x = I 48 x ∧ J 49 x = I 49 x) → (∀ d, d ≠ 48 → d ≠ 49 → J d = I d) →
      Wp 147 (133, [zA 32, u1, u2, u3, zI (d : Int), zI (i : Int)], [], zH S J) Q := by
    intro d
    induction d with
    | zero =>
      intro i e J he hd hdD hr hc hc2 hf
      have hi := (List.getElem?_eq_some_iff.mp he).1
      refine (sg_X6_layIn_133_32 _ _ _ _ _ _ _ _).mpr ?_
      rw [Int.toNat_natCast, hf 43 (by decide) (by decide), (hM.2.1 i e he).2.1]
      refine zgd (by omega) ?_
      rcases hW i e he with ⟨h1, h0⟩ | ⟨j', e', g1, g2, g3, g4, g5, g6, g7, g8⟩
      · refine zcd (fun _ => ?_) (fun h => absurd (by omega) h)
        rw [hf 32 (by decide) (by decide)]
        exact hQ J (fun x mp hx => hc x mp (Nat.zero_le _) hx) hc2 hf
      · omega
    | succ d ih =>
      intro i e J he hd hdD hr hc hc2 hf
      have hi := (List.getElem?_eq_some_iff.mp he).1
      rcases hW i e he with ⟨_, h0⟩ | ⟨j', e', g1, g2, g3, g4, g5, g6, g7, g8⟩
      · omega
      have hq := hM.2.1 i e he
      refine (sg_X6_layIn_133_32 _ _ _ _ _ _ _ _).mpr ?_
      rw [Int.toNat_natCast, hf 43 (by decide) (by decide), hq.2.1, g3, hf 44 (by decide) (by decide), hq.2.2.1, zad_eq (by omega), show ((d + 1 : Nat) : Int) + -1 = (d : Int) by omega]
      refine zgd (by omega) (zcd (fun h => absurd h (by omega)) (fun _ => zgd (by omega) ?_))
      refine (sg_X6_layIn_165_32_48_46 _ _ _ _ _ _ _ _ _ _ _).mpr ?_
      refine zgn (by decide) ?_
      refine (sg_X6_layIn_166_32_48_46 _ _ _ _ _ _ _ _ _ _).mpr ?_
      rw [zdv_eq (by omega) (by omega) (by decide) (by decide), show ((8 * e.2.2.1 + e.2.2.2.1 : Nat) : Int) / 8 = (e.2.2.1 : Int) by omega]
      refine zgd (by omega) (zgd (by omega) ?_)
      rw [Int.toNat_natCast, Int.toNat_natCast, hf 46 (by decide) (by decide)]
      refine (sg_X6_layIn_168_32 _ _ _ _ _ _ _ _).mpr ?_
      rw [Int.toNat_natCast, Int.toNat_natCast, zs2_ne _ _ _ _ (show 44 ≠ 48 by decide), hf 44 (by decide) (by decide), hq.2.2.1, zrm_eq (by omega) (by omega) (by decide) (by decide), show ((8 * e.2.2.1 + e.2.2.2.1 : Nat) : Int) % 8 = (e.2.2.2.1 : Int) by omega]
      refine zgd (by omega) (zgn (by decide) (zgd (by omega) (zgd (by omega) ?_)))
      rw [zs2_ne _ _ _ _ (show 43 ≠ 49 by decide), zs2_ne _ _ _ _ (show 43 ≠ 48 by decide), hf 43 (by decide) (by decide), hq.2.1, g3]
      have e1 := qway_s (d := d) he
      rw [g3, Int.toNat_natCast] at e1
      have hlen : (qway L d j').length = d := qway_len hW d j' e' g2 (by omega)
      obtain ⟨rest, hrest⟩ := hr
      rw [e1, List.append_assoc] at hrest
      refine ih j' e' _ g2 (by omega) (by omega) ⟨_, hrest⟩ (fun x mp hx hget => ?_) (fun x hx => ?_) (fun d' d1 d2 => by rw [zs2_ne _ _ _ _ d2, zs2_ne _ _ _ _ d1]; exact hf d' d1 d2)
      · by_cases c : x = d
        · subst c
          rw [hrest, List.getElem?_append_right (by omega), hlen] at hget
          simp at hget
          subst hget
          rw [zs2_ne _ _ _ _ (show 48 ≠ 49 by decide), zs2_at, zs2_at]
          exact ⟨rfl, rfl⟩
        · rw [zs2_ne _ _ _ _ (show 48 ≠ 49 by decide), zs2_ne2 _ _ _ _ c, zs2_ne2 _ _ _ _ c, zs2_ne _ _ _ _ (show 49 ≠ 48 by decide)]
          exact hc x mp (by omega) hget
      · rw [zs2_ne _ _ _ _ (show 48 ≠ 49 by decide), zs2_ne2 _ _ _ _ (by omega), zs2_ne2 _ _ _ _ (by omega), zs2_ne _ _ _ _ (show 49 ≠ 48 by decide)]
        exact hc2 x hx
  refine back D g eg I hg hD (Nat.le_refl D) ⟨[], by simp⟩ (fun x mp hx hget => ?_) (fun _ _ => ⟨rfl, rfl⟩) (fun _ _ _ => rfl)
  have h1 := (List.getElem?_eq_some_iff.mp hget).1
  rw [qway_len hW D g eg hg hD] at h1
  omega
