/-! the reference keeps what an act found -/
/-- what keeping leaves: n acts were kept -/
def Kep (I I' : Nat → Nat → Int) (n : Nat) (ml : Int) : Prop :=
  I' 32 9 = ((min n 19 + 1 : Nat) : Int) ∧ (∀ i, i < 16 * min n 19 → I' 40 i = if n = 20 then I 40 (i + 16) else I 40 i) ∧ (∀ i, i < 12 → I' 40 (16 * min n 19 + i) = I 39 i) ∧
  I' 40 (16 * min n 19 + 12) = I 32 7 ∧ I' 40 (16 * min n 19 + 13) = ml ∧ I' 40 (16 * min n 19 + 14) = (if ml < 0 then 0 else I 36 ml.toNat) ∧ I' 40 (16 * min n 19 + 15) = (if ml < 0 then 0 else I 35 ml.toNat) ∧
  (∀ d, d ≠ 32 → d ≠ 40 → I' d = I d) ∧ ∀ j, j ≠ 9 → I' 32 j = I 32 j
set_option maxRecDepth 100000 in
theorem m_keep {S : PS} {I : Nat → Nat → Int} {Q : PV1 → Prop} {ml : Int} {w2 w3 : PV} {n : Nat} (hn : I 32 9 = (n : Int)) (hn20 : n ≤ 20) (hm : ml < 0 ∨ num ml) (hQ : ∀ I', Kep I I' n ml → Q (none, zH S I')) : Wp 123 (0, [zA 32, zI ml, w2, w3], [], zH S I) Q := by
  -- the copying
  have copy : ∀ (j i : Nat) (J : Nat → Nat → Int), i + j = 12 → J 32 9 = ((min n 19 : Nat) : Int) → (∀ x, x < 16 * min n 19 → J 40 x = if n = 20 then I 40 (x + 16) else I 40 x) → (∀ x, x < i → J 40 (16 * min n 19 + x) = I 39 x) → (∀ d, d ≠ 32 → d ≠ 40 → J d = I d) → (∀ j, j ≠ 9 → J 32 j = I 32 j) →
      Wp 123 (60, [zA 32, zI ml, zI ((16 * min n 19 : Nat) : Int), zI (i : Int)], [], zH S J) Q := by
    intro j
    generalize hb : 16 * min n 19 = b
    have hb2 : b ≤ 304 := by omega
    induction j with
    | zero =>
      intro i J hi h9 h1 h2 hf hf32
      obtain rfl : i = 12 := by omega
      refine (sg_X6_keep_60_32 _ _ _ _ _ _).mpr ?_
      refine zcd (fun h => absurd h (by omega)) (fun _ => ?_)
      rw [zad_eq (a := (b : Int)) (b := 12) (by omega), zad_eq (a := (b : Int)) (b := 13) (by omega), zad_eq (a := (b : Int)) (b := 14) (by omega), zad_eq (a := (b : Int)) (b := 15) (by omega)]
      have t12 : ((b : Int) + 12).toNat = b + 12 := by omega
      have t13 : ((b : Int) + 13).toNat = b + 13 := by omega
      have t14 : ((b : Int) + 14).toNat = b + 14 := by omega
      have t15 : ((b : Int) + 15).toNat = b + 15 := by omega
      rw [t12, t13, t14, t15]
      refine zgd (by omega) (zgd (by omega) ?_)
      have fin : ∀ y z : Int, y = (if ml < 0 then 0 else I 36 ml.toNat) → z = (if ml < 0 then 0 else I 35 ml.toNat) → Q (none, zH S (zs2 (zs2 (zs2 (zs2 (zs2 J 40 (b + 12) (J 32 7)) 40 (b + 13) ml) 40 (b + 14) y) 40 (b + 15) z) 32 9 (zad (J 32 9) 1))) := by
        intro y z hy hz
        rw [h9, zad_s (by omega)]
        refine hQ _ ?_
        unfold Kep
        rw [hb]
        refine ⟨by rw [zs2_at], fun x hx => ?_, fun x hx => ?_, ?_, ?_, ?_, ?_, fun d d1 d2 => ?_, fun j hj => ?_⟩
        · rw [zs2_ne _ _ _ _ (by decide), zs2_ne2 _ _ _ _ (by omega), zs2_ne2 _ _ _ _ (by omega), zs2_ne2 _ _ _ _ (by omega), zs2_ne2 _ _ _ _ (by omega)]; exact h1 x (by omega)
        · rw [zs2_ne _ _ _ _ (by decide), zs2_ne2 _ _ _ _ (by omega), zs2_ne2 _ _ _ _ (by omega), zs2_ne2 _ _ _ _ (by omega), zs2_ne2 _ _ _ _ (by omega)]; exact h2 x hx
        · rw [zs2_ne _ _ _ _ (by decide), zs2_ne2 _ _ _ _ (by omega), zs2_ne2 _ _ _ _ (by omega), zs2_ne2 _ _ _ _ (by omega), zs2_at]; exact hf32 7 (by decide)
        · rw [zs2_ne _ _ _ _ (by decide), zs2_ne2 _ _ _ _ (by omega), zs2_ne2 _ _ _ _ (by omega), zs2_at]
        · rw [zs2_ne _ _ _ _ (by decide), zs2_ne2 _ _ _ _ (by omega), zs2_at]; exact hy
        · rw [zs2_ne _ _ _ _ (by decide), zs2_at]; exact hz
        · rw [zs2_ne _ _ _ _ d1, zs2_ne _ _ _ _ d2, zs2_ne _ _ _ _ d2, zs2_ne _ _ _ _ d2, zs2_ne _ _ _ _ d2]; exact hf d d1 d2
        · rw [zs2_ne2 _ _ _ _ hj, zs2_ne _ _ _ _ (by decide), zs2_ne _ _ _ _ (by decide), zs2_ne _ _ _ _ (by decide), zs2_ne _ _ _ _ (by decide)]; exact hf32 j hj
      simp (disch := decide) only [zs2_ne]
      rw [hf 36 (by decide) (by decide), hf 35 (by decide) (by decide)]
      rcases hm with hm | hm
      · refine zcd (fun _ => zgd (by omega) (zcd (fun _ => zgd (by omega) (fin 0 0 (by rw [if_pos hm]) (by rw [if_pos hm]))) (fun h => absurd hm h))) (fun h => absurd hm h)
      · have hm2 : ¬ ml < 0 := by have := hm.1; omega
        refine zcd (fun h => absurd h hm2) (fun _ => zgd (by omega) (zgd (by omega) (zcd (fun h => absurd h hm2) (fun _ => zgd (by omega) (zgd (by omega) (fin _ _ (by rw [if_neg hm2]) (by rw [if_neg hm2])))))))
    | succ j ih =>
      intro i J hi h9 h1 h2 hf hf32
      refine (sg_X6_keep_60_32 _ _ _ _ _ _).mpr ?_
      rw [zad_eq (a := (b : Int)) (b := (i : Int)) (by omega), zad_s (by omega), show ((b : Int) + (i : Int)).toNat = b + i by omega, Int.toNat_natCast]
      refine zcd (fun _ => zgd (by omega) (zgd (by omega) ?_)) (fun h => absurd (by omega) h)
      refine ih (i + 1) _ (by omega) (by rw [zs2_ne _ _ _ _ (by decide)]; exact h9) (fun x hx => by rw [zs2_ne2 _ _ _ _ (by omega)]; exact h1 x hx) (fun x hx => ?_) (fun d d1 d2 => by rw [zs2_ne _ _ _ _ d2]; exact hf d d1 d2) (fun j hj => by rw [zs2_ne _ _ _ _ (by decide)]; exact hf32 j hj)
      by_cases e : x = i
      · subst e; rw [zs2_at, hf 39 (by decide) (by decide)]
      · rw [zs2_ne2 _ _ _ _ (by omega)]; exact h2 x (by omega)
  refine (sg_X6_keep_0_32 _ _ _ _ _ _).mpr ?_
  rw [hn]
  refine zcd (fun h => ?_) (fun h => ?_)
  · have e20 : n = 20 := by omega
    have shift : ∀ (j i : Nat) (J : Nat → Nat → Int) (v3 : PV), i + j = 304 → (∀ x, x < i → J 40 x = I 40 (x + 16)) → (∀ x, i ≤ x → J 40 x = I 40 x) → (∀ d, d ≠ 40 → J d = I d) → Wp 123 (12, [zA 32, zI ml, zI ((i + 16 : Nat) : Int), v3], [], zH S J) Q := by
      intro j
      induction j with
      | zero =>
        intro i J v3 hi h1 h2 hf
        obtain rfl : i = 304 := by omega
        refine (sg_X6_keep_12_32 _ _ _ _ _ _).mpr ?_
        refine zcd (fun h => absurd h (by omega)) (fun _ => ?_)
        rw [zs2_at, hf 32 (by decide), hn, zsb_eq (by omega), zml_eq (by omega)]
        have := copy 12 0 (zs2 J 32 9 ((n : Int) - 1)) (by omega) (by rw [zs2_at]; omega) (fun x hx => by rw [zs2_ne _ _ _ _ (by decide), if_pos e20]; exact h1 x (by omega)) (fun x hx => absurd hx (by omega)) (fun d d1 d2 => by rw [zs2_ne _ _ _ _ d1]; exact hf d d2) (fun j hj => by rw [zs2_ne2 _ _ _ _ hj, hf 32 (by decide)])
        exact zeq this (by rw [show (16 : Int) * ((n : Int) - 1) = ((16 * min n 19 : Nat) : Int) by omega]; rfl)
      | succ j ih =>
        intro i J v3 hi h1 h2 hf
        refine (sg_X6_keep_12_32 _ _ _ _ _ _).mpr ?_
        rw [zsb_eq (by omega), show ((i + 16 : Nat) : Int) - 16 = (i : Int) by omega, Int.toNat_natCast, Int.toNat_natCast, zad_s (by omega)]
        refine zcd (fun _ => zgd (by omega) (zgd (by omega) ?_)) (fun h => absurd (by omega) h)
        rw [show i + 16 + 1 = (i + 1) + 16 by omega]
        refine ih (i + 1) _ _ (by omega) (fun x hx => ?_) (fun x hx => ?_) (fun d hd => by rw [zs2_ne _ _ _ _ hd]; exact hf d hd)
        · by_cases e : x = i
          · subst e; rw [zs2_at]; exact h2 _ (by omega)
          · rw [zs2_ne2 _ _ _ _ e]; exact h1 x (by omega)
        · rw [zs2_ne2 _ _ _ _ (by omega)]; exact h2 x (by omega)
    exact shift 304 0 I _ (by omega) (fun x hx => absurd hx (by omega)) (fun _ _ => rfl) (fun _ _ => rfl)
  · rw [zml_eq (by omega)]
    have := copy 12 0 I (by omega) (by rw [hn]; omega) (fun x _ => by rw [if_neg (by omega)]) (fun x hx => absurd hx (by omega)) (fun _ _ _ => rfl) (fun _ _ => rfl)
    exact zeq this (by rw [show (16 : Int) * (n : Int) = ((16 * min n 19 : Nat) : Int) by omega]; rfl)
