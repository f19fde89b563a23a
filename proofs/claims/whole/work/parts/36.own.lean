/-! the class's own methods that don't search -/
abbrev xuse (I : Nat → Nat → Int) (r : Int) : Prop := 0 ≤ r ∧ r < 16 ∧ I 2 r.toNat ≠ -1
def xset (I : Nat → Nat → Int) (r k v m rk a : Int) : Nat → Nat → Int := zs2 (zs2 (zs2 (zs2 (zs2 I 2 r.toNat k) 3 r.toNat v) 4 r.toNat m) 5 r.toNat rk) 6 r.toNat a
abbrev xlu (I : Nat → Nat → Int) : Int := zfs (fun r => I 2 r = -1) 16 0
theorem xlu_in (I : Nat → Nat → Int) : xlu I = -1 ∨ (0 ≤ xlu I ∧ xlu I < 16) := by
  rcases zfs_spec (P := fun r => I 2 r = -1) 16 0 with ⟨h, -⟩ | ⟨j, h, -, h2, -⟩
  · exact Or.inl h
  · right; rw [show xlu I = (j : Int) from h]; omega
def xemp (I : Nat → Nat → Int) (n : Int) : Nat → Nat → Int := zs2 (zs2 (zs2 (zs2 (zfill (zs2 (zfill (zfill I 2 17 (-1)) 8 6 (-1)) 7 2 n) 10 6 (-1)) 9 2 n) 0 8 0) 19 6 0) 25 2 0

theorem c_isKey {S : PS} {I : Nat → Nat → Int} {Q : PV1 → Prop} {x : Int}  (hQ : Q (some (zI (zB (0 ≤ x ∧ x < 32))), zH S I)) : Wp 103 (0, [zI x], [], zH S I) Q := by
  refine (sg_X5_isKey_0 _ _ _ _).mpr ?_
  first | refine zcdB (fun h1 => ?_) (fun h1 => ?_) | refine zcd (fun h1 => ?_) (fun h1 => ?_)
  · refine zgb (by first | omega | (simp (disch := decide) only [zs2_ne, zs2_ne2, zs2_at]; omega) | (simp; done)) ?_
    first | exact hQ | exact zq hQ (zB_t (by omega)) rfl | exact zq hQ (zB_f (by omega)) rfl | exact zq hQ (by repeat (first | rw [if_pos (by omega)] | rw [if_neg (by omega)])) rfl
  · first | refine zcdB (fun h2 => ?_) (fun h2 => ?_) | refine zcd (fun h2 => ?_) (fun h2 => ?_)
    · refine zgb (by first | omega | (simp (disch := decide) only [zs2_ne, zs2_ne2, zs2_at]; omega) | (simp; done)) ?_
      first | exact hQ | exact zq hQ (zB_t (by omega)) rfl | exact zq hQ (zB_f (by omega)) rfl | exact zq hQ (by repeat (first | rw [if_pos (by omega)] | rw [if_neg (by omega)])) rfl
    · refine zgb (by first | omega | (simp (disch := decide) only [zs2_ne, zs2_ne2, zs2_at]; omega) | (simp; done)) ?_
      first | exact hQ | exact zq hQ (zB_t (by omega)) rfl | exact zq hQ (zB_f (by omega)) rfl | exact zq hQ (by repeat (first | rw [if_pos (by omega)] | rw [if_neg (by omega)])) rfl
theorem c_isRank {S : PS} {I : Nat → Nat → Int} {Q : PV1 → Prop} {x : Int}  (hQ : Q (some (zI (zB (0 ≤ x ∧ x < 100))), zH S I)) : Wp 104 (0, [zI x], [], zH S I) Q := by
  refine (sg_X5_isRank_0 _ _ _ _).mpr ?_
  first | refine zcdB (fun h1 => ?_) (fun h1 => ?_) | refine zcd (fun h1 => ?_) (fun h1 => ?_)
  · refine zgb (by first | omega | (simp (disch := decide) only [zs2_ne, zs2_ne2, zs2_at]; omega) | (simp; done)) ?_
    first | exact hQ | exact zq hQ (zB_t (by omega)) rfl | exact zq hQ (zB_f (by omega)) rfl | exact zq hQ (by repeat (first | rw [if_pos (by omega)] | rw [if_neg (by omega)])) rfl
  · first | refine zcdB (fun h2 => ?_) (fun h2 => ?_) | refine zcd (fun h2 => ?_) (fun h2 => ?_)
    · refine zgb (by first | omega | (simp (disch := decide) only [zs2_ne, zs2_ne2, zs2_at]; omega) | (simp; done)) ?_
      first | exact hQ | exact zq hQ (zB_t (by omega)) rfl | exact zq hQ (zB_f (by omega)) rfl | exact zq hQ (by repeat (first | rw [if_pos (by omega)] | rw [if_neg (by omega)])) rfl
    · refine zgb (by first | omega | (simp (disch := decide) only [zs2_ne, zs2_ne2, zs2_at]; omega) | (simp; done)) ?_
      first | exact hQ | exact zq hQ (zB_t (by omega)) rfl | exact zq hQ (zB_f (by omega)) rfl | exact zq hQ (by repeat (first | rw [if_pos (by omega)] | rw [if_neg (by omega)])) rfl
theorem c_isAct {S : PS} {I : Nat → Nat → Int} {Q : PV1 → Prop} {x : Int}  (hQ : Q (some (zI (zB (0 ≤ x ∧ x < 16))), zH S I)) : Wp 105 (0, [zI x], [], zH S I) Q := by
  refine (sg_X5_isAct_0 _ _ _ _).mpr ?_
  first | refine zcdB (fun h1 => ?_) (fun h1 => ?_) | refine zcd (fun h1 => ?_) (fun h1 => ?_)
  · refine zgb (by first | omega | (simp (disch := decide) only [zs2_ne, zs2_ne2, zs2_at]; omega) | (simp; done)) ?_
    first | exact hQ | exact zq hQ (zB_t (by omega)) rfl | exact zq hQ (zB_f (by omega)) rfl | exact zq hQ (by repeat (first | rw [if_pos (by omega)] | rw [if_neg (by omega)])) rfl
  · first | refine zcdB (fun h2 => ?_) (fun h2 => ?_) | refine zcd (fun h2 => ?_) (fun h2 => ?_)
    · refine zgb (by first | omega | (simp (disch := decide) only [zs2_ne, zs2_ne2, zs2_at]; omega) | (simp; done)) ?_
      first | exact hQ | exact zq hQ (zB_t (by omega)) rfl | exact zq hQ (zB_f (by omega)) rfl | exact zq hQ (by repeat (first | rw [if_pos (by omega)] | rw [if_neg (by omega)])) rfl
    · refine zgb (by first | omega | (simp (disch := decide) only [zs2_ne, zs2_ne2, zs2_at]; omega) | (simp; done)) ?_
      first | exact hQ | exact zq hQ (zB_t (by omega)) rfl | exact zq hQ (zB_f (by omega)) rfl | exact zq hQ (by repeat (first | rw [if_pos (by omega)] | rw [if_neg (by omega)])) rfl
theorem c_tabN {S : PS} {I : Nat → Nat → Int} {Q : PV1 → Prop} {t : Int} (ht : t < 0 ∨ 2 ≤ t) (hQ : Q (some (zR none), zH S I)) : Wp 106 (0, [zA 0, zI t], [], zH S I) Q := by
  refine (sg_X5_tableNumbered_0_0 _ _ _ _).mpr ?_
  refine zcd (fun _ => hQ) (fun h => zcd (fun h2 => ?_) (fun _ => hQ))
  exfalso; omega
theorem c_tab7 {S : PS} {I : Nat → Nat → Int} {Q : PV1 → Prop} {t : Int} (ht : t = 0) (hQ : Q (some (zA 7), zH S I)) : Wp 106 (0, [zA 0, zI t], [], zH S I) Q := by
  subst ht
  refine (sg_X5_tableNumbered_0_0 _ _ _ _).mpr ?_
  exact zcd (fun h => absurd h (by omega)) (fun _ => zcd (fun _ => zcd (fun _ => hQ) (fun h => absurd rfl h)) (fun h => absurd (by omega) h))
theorem c_tab9 {S : PS} {I : Nat → Nat → Int} {Q : PV1 → Prop} {t : Int} (ht : t = 1) (hQ : Q (some (zA 9), zH S I)) : Wp 106 (0, [zA 0, zI t], [], zH S I) Q := by
  subst ht
  refine (sg_X5_tableNumbered_0_0 _ _ _ _).mpr ?_
  exact zcd (fun h => absurd h (by omega)) (fun _ => zcd (fun _ => zcd (fun h => absurd h (by omega)) (fun _ => hQ)) (fun h => absurd (by omega) h))
theorem c_ruleMade {S : PS} {I : Nat → Nat → Int} {Q : PV1 → Prop} {k : Int} {v : Int} {m : Int} {rk : Int} {ac : Int} {u6 : PV}  (hQ : Q (some (zI (if xlu I = -1 then (-3) else xlu I)), zH S (if xlu I = -1 then I else xset I (xlu I) k v m rk ac))) : Wp 107 (0, [zA 0, zI k, zI v, zI m, zI rk, zI ac, u6], [], zH S I) Q := by
  refine (sg_X5_ruleMade_0_0 _ _ _ _ _ _ _ _ _).mpr ?_
  refine c_leastUnused ?_
  refine (sg_X5_ruleMade_7_0 _ _ _ _ _ _ _ _ _ _).mpr ?_
  first | refine zcdB (fun h1 => ?_) (fun h1 => ?_) | refine zcd (fun h1 => ?_) (fun h1 => ?_)
  · first | (rw [if_pos (by assumption), if_pos (by assumption)] at hQ; exact hQ) | (have hh := xlu_in I; dsimp only [xlu] at hh; rw [if_neg (by assumption), if_neg (by assumption)] at hQ; rw [if_pos (by omega)]; exact hQ)
  · refine c_set ?_
    refine (sg_X5_ruleMade_34 _ _ _ _ _ _ _ _ _ _).mpr ?_
    first | (rw [if_pos (by assumption), if_pos (by assumption)] at hQ; exact hQ) | (have hh := xlu_in I; dsimp only [xlu] at hh; rw [if_neg (by assumption), if_neg (by assumption)] at hQ; rw [if_pos (by omega)]; exact hQ)
theorem c_rule {S : PS} {I : Nat → Nat → Int} {Q : PV1 → Prop} {v : Int} {m : Int} {rk : Int} {ac : Int}  (hQ : Q (some (zI (if ¬ (0 ≤ v ∧ v < 32) ∨ ¬ (0 ≤ m ∧ m < 32) ∨ ¬ (0 ≤ rk ∧ rk < 100) ∨ ¬ (0 ≤ ac ∧ ac < 16) then (-1) else if xlu I = -1 then (-3) else xlu I)), zH S (if ¬ (0 ≤ v ∧ v < 32) ∨ ¬ (0 ≤ m ∧ m < 32) ∨ ¬ (0 ≤ rk ∧ rk < 100) ∨ ¬ (0 ≤ ac ∧ ac < 16) then I else if xlu I = -1 then I else xset I (xlu I) 0 v m rk ac))) : Wp 79 (0, [zA 0, zI v, zI m, zI rk, zI ac], [], zH S I) Q := by
  refine (sg_X5_rule_0_0 _ _ _ _ _ _ _).mpr ?_
  refine c_isKey ?_
  refine (sg_X5_rule_4_0 _ _ _ _ _ _ _ _).mpr ?_
  first | refine zcdB (fun h1 => ?_) (fun h1 => ?_) | refine zcd (fun h1 => ?_) (fun h1 => ?_)
  · first | (have hc : ¬ (0 ≤ v ∧ v < 32) ∨ ¬ (0 ≤ m ∧ m < 32) ∨ ¬ (0 ≤ rk ∧ rk < 100) ∨ ¬ (0 ≤ ac ∧ ac < 16) := (by omega); simp only [if_pos hc] at hQ; exact hQ) | (have hc : ¬ (¬ (0 ≤ v ∧ v < 32) ∨ ¬ (0 ≤ m ∧ m < 32) ∨ ¬ (0 ≤ rk ∧ rk < 100) ∨ ¬ (0 ≤ ac ∧ ac < 16)) := (by omega); simp only [if_neg hc] at hQ; exact hQ)
  · refine c_isKey ?_
    refine (sg_X5_rule_11_0 _ _ _ _ _ _ _ _).mpr ?_
    first | refine zcdB (fun h2 => ?_) (fun h2 => ?_) | refine zcd (fun h2 => ?_) (fun h2 => ?_)
    · first | (have hc : ¬ (0 ≤ v ∧ v < 32) ∨ ¬ (0 ≤ m ∧ m < 32) ∨ ¬ (0 ≤ rk ∧ rk < 100) ∨ ¬ (0 ≤ ac ∧ ac < 16) := (by omega); simp only [if_pos hc] at hQ; exact hQ) | (have hc : ¬ (¬ (0 ≤ v ∧ v < 32) ∨ ¬ (0 ≤ m ∧ m < 32) ∨ ¬ (0 ≤ rk ∧ rk < 100) ∨ ¬ (0 ≤ ac ∧ ac < 16)) := (by omega); simp only [if_neg hc] at hQ; exact hQ)
    · refine c_isRank ?_
      refine (sg_X5_rule_18_0 _ _ _ _ _ _ _ _).mpr ?_
      first | refine zcdB (fun h3 => ?_) (fun h3 => ?_) | refine zcd (fun h3 => ?_) (fun h3 => ?_)
      · first | (have hc : ¬ (0 ≤ v ∧ v < 32) ∨ ¬ (0 ≤ m ∧ m < 32) ∨ ¬ (0 ≤ rk ∧ rk < 100) ∨ ¬ (0 ≤ ac ∧ ac < 16) := (by omega); simp only [if_pos hc] at hQ; exact hQ) | (have hc : ¬ (¬ (0 ≤ v ∧ v < 32) ∨ ¬ (0 ≤ m ∧ m < 32) ∨ ¬ (0 ≤ rk ∧ rk < 100) ∨ ¬ (0 ≤ ac ∧ ac < 16)) := (by omega); simp only [if_neg hc] at hQ; exact hQ)
      · refine c_isAct ?_
        refine (sg_X5_rule_26_0 _ _ _ _ _ _ _ _).mpr ?_
        first | refine zcdB (fun h4 => ?_) (fun h4 => ?_) | refine zcd (fun h4 => ?_) (fun h4 => ?_)
        · first | (have hc : ¬ (0 ≤ v ∧ v < 32) ∨ ¬ (0 ≤ m ∧ m < 32) ∨ ¬ (0 ≤ rk ∧ rk < 100) ∨ ¬ (0 ≤ ac ∧ ac < 16) := (by omega); simp only [if_pos hc] at hQ; exact hQ) | (have hc : ¬ (¬ (0 ≤ v ∧ v < 32) ∨ ¬ (0 ≤ m ∧ m < 32) ∨ ¬ (0 ≤ rk ∧ rk < 100) ∨ ¬ (0 ≤ ac ∧ ac < 16)) := (by omega); simp only [if_neg hc] at hQ; exact hQ)
        · refine c_ruleMade ?_
          refine (sg_X5_rule_41 _ _ _ _ _ _ _ _ _).mpr ?_
          first | (have hc : ¬ (0 ≤ v ∧ v < 32) ∨ ¬ (0 ≤ m ∧ m < 32) ∨ ¬ (0 ≤ rk ∧ rk < 100) ∨ ¬ (0 ≤ ac ∧ ac < 16) := (by omega); simp only [if_pos hc] at hQ; exact hQ) | (have hc : ¬ (¬ (0 ≤ v ∧ v < 32) ∨ ¬ (0 ≤ m ∧ m < 32) ∨ ¬ (0 ≤ rk ∧ rk < 100) ∨ ¬ (0 ≤ ac ∧ ac < 16)) := (by omega); simp only [if_neg hc] at hQ; exact hQ)
theorem c_last {S : PS} {I : Nat → Nat → Int} {Q : PV1 → Prop} {ac : Int}  (hQ : Q (some (zI (if ¬ (0 ≤ ac ∧ ac < 16) then (-1) else if xlu I = -1 then (-3) else xlu I)), zH S (if ¬ (0 ≤ ac ∧ ac < 16) then I else if xlu I = -1 then I else xset I (xlu I) 2 0 0 0 ac))) : Wp 80 (0, [zA 0, zI ac], [], zH S I) Q := by
  refine (sg_X5_last_0_0 _ _ _ _).mpr ?_
  refine c_isAct ?_
  refine (sg_X5_last_4_0 _ _ _ _ _).mpr ?_
  first | refine zcdB (fun h1 => ?_) (fun h1 => ?_) | refine zcd (fun h1 => ?_) (fun h1 => ?_)
  · first | (have hc : ¬ (0 ≤ ac ∧ ac < 16) := (by omega); simp only [if_pos hc] at hQ; exact hQ) | (have hc : ¬ (¬ (0 ≤ ac ∧ ac < 16)) := (by omega); simp only [if_neg hc] at hQ; exact hQ)
  · refine c_ruleMade ?_
    refine (sg_X5_last_18 _ _ _ _ _ _).mpr ?_
    first | (have hc : ¬ (0 ≤ ac ∧ ac < 16) := (by omega); simp only [if_pos hc] at hQ; exact hQ) | (have hc : ¬ (¬ (0 ≤ ac ∧ ac < 16)) := (by omega); simp only [if_neg hc] at hQ; exact hQ)
theorem c_told {S : PS} {I : Nat → Nat → Int} {Q : PV1 → Prop} {r : Int} {w : Int}  (hQ : Q (some (zI (if ¬ xuse I r then (-101) else if w = 0 then I 2 r.toNat else if w = 1 then zan (I 3 r.toNat) (I 4 r.toNat) else if w = 2 then I 4 r.toNat else if w = 3 then I 5 r.toNat else if w = 4 then I 6 r.toNat else if w = 5 then xplc (I 8) r else if w = 6 then xplc (I 10) r else (-101))), zH S I)) : Wp 82 (0, [zA 0, zI r, zI w], [], zH S I) Q := by
  refine (sg_X5_told_0_0 _ _ _ _ _).mpr ?_
  refine c_isInUse ?_
  refine (sg_X5_told_8_0 _ _ _ _ _ _).mpr ?_
  first | refine zcdB (fun h1 => ?_) (fun h1 => ?_) | refine zcd (fun h1 => ?_) (fun h1 => ?_)
  · first | exact zq hQ (by repeat (first | rw [if_pos (by omega)] | rw [if_neg (by omega)])) rfl
  · first | refine zcdB (fun h2 => ?_) (fun h2 => ?_) | refine zcd (fun h2 => ?_) (fun h2 => ?_)
    · refine c_kindOf ?_
      refine (sg_X5_told_64 _ _ _ _ _ _ _).mpr ?_
      first | exact zq hQ (by repeat (first | rw [if_pos (by omega)] | rw [if_neg (by omega)])) rfl
    · first | refine zcdB (fun h3 => ?_) (fun h3 => ?_) | refine zcd (fun h3 => ?_) (fun h3 => ?_)
      · refine c_valueOf ?_
        refine (sg_X5_told_73 _ _ _ _ _ _ _).mpr ?_
        first | exact zq hQ (by repeat (first | rw [if_pos (by omega)] | rw [if_neg (by omega)])) rfl
      · first | refine zcdB (fun h4 => ?_) (fun h4 => ?_) | refine zcd (fun h4 => ?_) (fun h4 => ?_)
        · refine c_maskOf ?_
          refine (sg_X5_told_82 _ _ _ _ _ _ _).mpr ?_
          first | exact zq hQ (by repeat (first | rw [if_pos (by omega)] | rw [if_neg (by omega)])) rfl
        · first | refine zcdB (fun h5 => ?_) (fun h5 => ?_) | refine zcd (fun h5 => ?_) (fun h5 => ?_)
          · refine c_rankOf ?_
            refine (sg_X5_told_91 _ _ _ _ _ _ _).mpr ?_
            first | exact zq hQ (by repeat (first | rw [if_pos (by omega)] | rw [if_neg (by omega)])) rfl
          · first | refine zcdB (fun h6 => ?_) (fun h6 => ?_) | refine zcd (fun h6 => ?_) (fun h6 => ?_)
            · refine c_actOf ?_
              refine (sg_X5_told_100 _ _ _ _ _ _ _).mpr ?_
              first | exact zq hQ (by repeat (first | rw [if_pos (by omega)] | rw [if_neg (by omega)])) rfl
            · first | refine zcdB (fun h7 => ?_) (fun h7 => ?_) | refine zcd (fun h7 => ?_) (fun h7 => ?_)
              · refine c_placeOf_7 ?_
                refine (sg_X5_told_109 _ _ _ _ _ _ _).mpr ?_
                first | exact zq hQ (by repeat (first | rw [if_pos (by omega)] | rw [if_neg (by omega)])) rfl
              · first | refine zcdB (fun h8 => ?_) (fun h8 => ?_) | refine zcd (fun h8 => ?_) (fun h8 => ?_)
                · refine c_placeOf_9 ?_
                  refine (sg_X5_told_118 _ _ _ _ _ _ _).mpr ?_
                  first | exact zq hQ (by repeat (first | rw [if_pos (by omega)] | rw [if_neg (by omega)])) rfl
                · first | exact zq hQ (by repeat (first | rw [if_pos (by omega)] | rw [if_neg (by omega)])) rfl
theorem c_drop {S : PS} {I : Nat → Nat → Int} {Q : PV1 → Prop} {r : Int}  (hQ : Q (some (zI (if ¬ xuse I r then (-1) else if xplc (I 8) r = -1 ∧ xplc (I 10) r = -1 then 1 else (-2))), zH S (if ¬ xuse I r then I else if xplc (I 8) r = -1 ∧ xplc (I 10) r = -1 then zs2 (zs2 I 2 r.toNat (-1)) 19 6 0 else I))) : Wp 83 (0, [zA 0, zI r], [], zH S I) Q := by
  refine (sg_X5_drop_0_0 _ _ _ _).mpr ?_
  refine c_isInUse ?_
  refine (sg_X5_drop_8_0 _ _ _ _ _).mpr ?_
  first | refine zcdB (fun h1 => ?_) (fun h1 => ?_) | refine zcd (fun h1 => ?_) (fun h1 => ?_)
  · (repeat (first | rw [if_pos (by omega)] at hQ | rw [if_neg (by omega)] at hQ)); (repeat (first | rw [if_pos (by omega)] | rw [if_neg (by omega)])); exact hQ
  · refine c_hasRule_7 ?_
    refine (sg_X5_drop_21_0 _ _ _ _ _).mpr ?_
    first | refine zcdB (fun h2 => ?_) (fun h2 => ?_) | refine zcd (fun h2 => ?_) (fun h2 => ?_)
    · refine c_hasRule_9 ?_
      refine (sg_X5_drop_32_0 _ _ _ _ _).mpr ?_
      first | refine zcdB (fun h3 => ?_) (fun h3 => ?_) | refine zcd (fun h3 => ?_) (fun h3 => ?_)
      · refine c_forget ?_
        refine (sg_X5_drop_46_0 _ _ _ _).mpr ?_
        refine c_hforget ?_
        refine (sg_X5_drop_53 _ _ _ _ _).mpr ?_
        (repeat (first | rw [if_pos (by omega)] at hQ | rw [if_neg (by omega)] at hQ)); (repeat (first | rw [if_pos (by omega)] | rw [if_neg (by omega)])); exact hQ
      · (repeat (first | rw [if_pos (by omega)] at hQ | rw [if_neg (by omega)] at hQ)); (repeat (first | rw [if_pos (by omega)] | rw [if_neg (by omega)])); exact hQ
    · (repeat (first | rw [if_pos (by omega)] at hQ | rw [if_neg (by omega)] at hQ)); (repeat (first | rw [if_pos (by omega)] | rw [if_neg (by omega)])); exact hQ
theorem c_act {S : PS} {I : Nat → Nat → Int} {Q : PV1 → Prop} {r : Int} {ac : Int} {u3 : PV}  (hQ : Q (some (zI (if ¬ xuse I r ∨ ¬ (0 ≤ ac ∧ ac < 16) then (-1) else if I 2 r.toNat = 2 then (-13) else I 6 r.toNat)), zH S (if ¬ xuse I r ∨ ¬ (0 ≤ ac ∧ ac < 16) then I else if I 2 r.toNat = 2 then I else zs2 (zs2 I 6 r.toNat ac) 19 6 0))) : Wp 84 (0, [zA 0, zI r, zI ac, u3], [], zH S I) Q := by
  refine (sg_X5_act_0_0 _ _ _ _ _ _).mpr ?_
  refine c_isInUse ?_
  refine (sg_X5_act_8_0 _ _ _ _ _ _ _).mpr ?_
  first | refine zcdB (fun h1 => ?_) (fun h1 => ?_) | refine zcd (fun h1 => ?_) (fun h1 => ?_)
  · (repeat (first | rw [if_pos (by omega)] at hQ | rw [if_neg (by omega)] at hQ)); (repeat (first | rw [if_pos (by omega)] | rw [if_neg (by omega)])); exact hQ
  · refine c_isAct ?_
    refine (sg_X5_act_15_0 _ _ _ _ _ _ _).mpr ?_
    first | refine zcdB (fun h2 => ?_) (fun h2 => ?_) | refine zcd (fun h2 => ?_) (fun h2 => ?_)
    · (repeat (first | rw [if_pos (by omega)] at hQ | rw [if_neg (by omega)] at hQ)); (repeat (first | rw [if_pos (by omega)] | rw [if_neg (by omega)])); exact hQ
    · refine c_kindOf ?_
      refine (sg_X5_act_28_0 _ _ _ _ _ _ _).mpr ?_
      first | refine zcdB (fun h3 => ?_) (fun h3 => ?_) | refine zcd (fun h3 => ?_) (fun h3 => ?_)
      · (repeat (first | rw [if_pos (by omega)] at hQ | rw [if_neg (by omega)] at hQ)); (repeat (first | rw [if_pos (by omega)] | rw [if_neg (by omega)])); exact hQ
      · refine c_actOf ?_
        refine (sg_X5_act_43_0 _ _ _ _ _ _ _).mpr ?_
        refine c_setAct ?_
        refine (sg_X5_act_53_0 _ _ _ _ _ _).mpr ?_
        refine c_hforget ?_
        refine (sg_X5_act_60 _ _ _ _ _ _ _).mpr ?_
        (repeat (first | rw [if_pos (by omega)] at hQ | rw [if_neg (by omega)] at hQ)); (repeat (first | rw [if_pos (by omega)] | rw [if_neg (by omega)])); exact hQ
theorem c_overlap {S : PS} {I : Nat → Nat → Int} {Q : PV1 → Prop} {a : Int} {b : Int}  (hQ : Q (some (zI (if ¬ xuse I a ∨ ¬ xuse I b then (-1) else zB (xov I a b))), zH S I)) : Wp 85 (0, [zA 0, zI a, zI b], [], zH S I) Q := by
  refine (sg_X5_overlap_0_0 _ _ _ _ _).mpr ?_
  refine c_isInUse ?_
  refine (sg_X5_overlap_8_0 _ _ _ _ _ _).mpr ?_
  first | refine zcdB (fun h1 => ?_) (fun h1 => ?_) | refine zcd (fun h1 => ?_) (fun h1 => ?_)
  · (repeat (first | rw [if_pos (by omega)] at hQ | rw [if_neg (by omega)] at hQ)); first | exact hQ | exact zq hQ (zB_t (by assumption)) rfl | exact zq hQ (zB_f (by assumption)) rfl
  · refine c_isInUse ?_
    refine (sg_X5_overlap_19_0 _ _ _ _ _ _).mpr ?_
    first | refine zcdB (fun h2 => ?_) (fun h2 => ?_) | refine zcd (fun h2 => ?_) (fun h2 => ?_)
    · (repeat (first | rw [if_pos (by omega)] at hQ | rw [if_neg (by omega)] at hQ)); first | exact hQ | exact zq hQ (zB_t (by assumption)) rfl | exact zq hQ (zB_f (by assumption)) rfl
    · refine c_doOverlap ?_
      refine (sg_X5_overlap_33 _ _ _ _ _ _ _).mpr ?_
      first | refine zcdB (fun h3 => ?_) (fun h3 => ?_) | refine zcd (fun h3 => ?_) (fun h3 => ?_)
      · (repeat (first | rw [if_pos (by omega)] at hQ | rw [if_neg (by omega)] at hQ)); first | exact hQ | exact zq hQ (zB_t (by assumption)) rfl | exact zq hQ (zB_f (by assumption)) rfl
      · (repeat (first | rw [if_pos (by omega)] at hQ | rw [if_neg (by omega)] at hQ)); first | exact hQ | exact zq hQ (zB_t (by assumption)) rfl | exact zq hQ (zB_f (by assumption)) rfl
theorem c_higher {S : PS} {I : Nat → Nat → Int} {Q : PV1 → Prop} {a : Int} {b : Int}  (hQ : Q (some (zI (if ¬ xuse I a ∨ ¬ xuse I b then (-1) else if a = b then 0 else if xhi I a b then 1 else 2)), zH S I)) : Wp 86 (0, [zA 0, zI a, zI b], [], zH S I) Q := by
  refine (sg_X5_higher_0_0 _ _ _ _ _).mpr ?_
  refine c_isInUse ?_
  refine (sg_X5_higher_8_0 _ _ _ _ _ _).mpr ?_
  first | refine zcdB (fun h1 => ?_) (fun h1 => ?_) | refine zcd (fun h1 => ?_) (fun h1 => ?_)
  · (repeat (first | rw [if_pos (by omega)] at hQ | rw [if_neg (by omega)] at hQ)); first | exact hQ | (rw [if_pos (by assumption)] at hQ; exact hQ) | (rw [if_neg (by assumption)] at hQ; exact hQ)
  · refine c_isInUse ?_
    refine (sg_X5_higher_19_0 _ _ _ _ _ _).mpr ?_
    first | refine zcdB (fun h2 => ?_) (fun h2 => ?_) | refine zcd (fun h2 => ?_) (fun h2 => ?_)
    · (repeat (first | rw [if_pos (by omega)] at hQ | rw [if_neg (by omega)] at hQ)); first | exact hQ | (rw [if_pos (by assumption)] at hQ; exact hQ) | (rw [if_neg (by assumption)] at hQ; exact hQ)
    · first | refine zcdB (fun h3 => ?_) (fun h3 => ?_) | refine zcd (fun h3 => ?_) (fun h3 => ?_)
      · (repeat (first | rw [if_pos (by omega)] at hQ | rw [if_neg (by omega)] at hQ)); first | exact hQ | (rw [if_pos (by assumption)] at hQ; exact hQ) | (rw [if_neg (by assumption)] at hQ; exact hQ)
      · refine c_isHigher ?_
        refine (sg_X5_higher_40 _ _ _ _ _ _ _).mpr ?_
        first | refine zcdB (fun h4 => ?_) (fun h4 => ?_) | refine zcd (fun h4 => ?_) (fun h4 => ?_)
        · (repeat (first | rw [if_pos (by omega)] at hQ | rw [if_neg (by omega)] at hQ)); first | exact hQ | (rw [if_pos (by assumption)] at hQ; exact hQ) | (rw [if_neg (by assumption)] at hQ; exact hQ)
        · (repeat (first | rw [if_pos (by omega)] at hQ | rw [if_neg (by omega)] at hQ)); first | exact hQ | (rw [if_pos (by assumption)] at hQ; exact hQ) | (rw [if_neg (by assumption)] at hQ; exact hQ)
theorem c_refusedPut_7 {S : PS} {I : Nat → Nat → Int} {Q : PV1 → Prop} {r : Int}  (hQ : Q (some (zI (if ¬ xuse I r then (-1) else if ¬ xplc (I 8) r = -1 then (-2) else if I 7 2 ≤ ((xst (I 8) : Nat) : Int) then (-3) else 0)), zH S I)) : Wp 110 (0, [zA 0, zA 7, zI r], [], zH S I) Q := by
  refine (sg_X5_refusedPut_0_0_7 _ _ _ _).mpr ?_
  refine c_isInUse ?_
  refine (sg_X5_refusedPut_12_7 _ _ _ _ _ _).mpr ?_
  first | refine zcdB (fun h1 => ?_) (fun h1 => ?_) | refine zcd (fun h1 => ?_) (fun h1 => ?_)
  · first | exact hQ | exact zq hQ (zB_t (by omega)) rfl | exact zq hQ (zB_f (by omega)) rfl | exact zq hQ (by repeat (first | rw [if_pos (by omega)] | rw [if_neg (by omega)])) rfl
  · refine c_hasRule_7 ?_
    refine (sg_X5_refusedPut_22_7 _ _ _ _ _ _).mpr ?_
    first | refine zcdB (fun h2 => ?_) (fun h2 => ?_) | refine zcd (fun h2 => ?_) (fun h2 => ?_)
    · refine c_isFull_7 ?_
      refine (sg_X5_refusedPut_32 _ _ _ _ _ _ _).mpr ?_
      first | refine zcdB (fun h3 => ?_) (fun h3 => ?_) | refine zcd (fun h3 => ?_) (fun h3 => ?_)
      · first | exact hQ | exact zq hQ (zB_t (by omega)) rfl | exact zq hQ (zB_f (by omega)) rfl | exact zq hQ (by repeat (first | rw [if_pos (by omega)] | rw [if_neg (by omega)])) rfl
      · first | exact hQ | exact zq hQ (zB_t (by omega)) rfl | exact zq hQ (zB_f (by omega)) rfl | exact zq hQ (by repeat (first | rw [if_pos (by omega)] | rw [if_neg (by omega)])) rfl
    · first | exact hQ | exact zq hQ (zB_t (by omega)) rfl | exact zq hQ (zB_f (by omega)) rfl | exact zq hQ (by repeat (first | rw [if_pos (by omega)] | rw [if_neg (by omega)])) rfl
theorem c_refusedPut_9 {S : PS} {I : Nat → Nat → Int} {Q : PV1 → Prop} {r : Int}  (hQ : Q (some (zI (if ¬ xuse I r then (-1) else if ¬ xplc (I 10) r = -1 then (-2) else if I 9 2 ≤ ((xst (I 10) : Nat) : Int) then (-3) else 0)), zH S I)) : Wp 110 (0, [zA 0, zA 9, zI r], [], zH S I) Q := by
  refine (sg_X5_refusedPut_0_0_9 _ _ _ _).mpr ?_
  refine c_isInUse ?_
  refine (sg_X5_refusedPut_12_9 _ _ _ _ _ _).mpr ?_
  first | refine zcdB (fun h1 => ?_) (fun h1 => ?_) | refine zcd (fun h1 => ?_) (fun h1 => ?_)
  · first | exact hQ | exact zq hQ (zB_t (by omega)) rfl | exact zq hQ (zB_f (by omega)) rfl | exact zq hQ (by repeat (first | rw [if_pos (by omega)] | rw [if_neg (by omega)])) rfl
  · refine c_hasRule_9 ?_
    refine (sg_X5_refusedPut_22_9 _ _ _ _ _ _).mpr ?_
    first | refine zcdB (fun h2 => ?_) (fun h2 => ?_) | refine zcd (fun h2 => ?_) (fun h2 => ?_)
    · refine c_isFull_9 ?_
      refine (sg_X5_refusedPut_32 _ _ _ _ _ _ _).mpr ?_
      first | refine zcdB (fun h3 => ?_) (fun h3 => ?_) | refine zcd (fun h3 => ?_) (fun h3 => ?_)
      · first | exact hQ | exact zq hQ (zB_t (by omega)) rfl | exact zq hQ (zB_f (by omega)) rfl | exact zq hQ (by repeat (first | rw [if_pos (by omega)] | rw [if_neg (by omega)])) rfl
      · first | exact hQ | exact zq hQ (zB_t (by omega)) rfl | exact zq hQ (zB_f (by omega)) rfl | exact zq hQ (by repeat (first | rw [if_pos (by omega)] | rw [if_neg (by omega)])) rfl
    · first | exact hQ | exact zq hQ (zB_t (by omega)) rfl | exact zq hQ (zB_f (by omega)) rfl | exact zq hQ (by repeat (first | rw [if_pos (by omega)] | rw [if_neg (by omega)])) rfl
theorem c_refusedPut_n {S : PS} {I : Nat → Nat → Int} {Q : PV1 → Prop} {r : Int}  (hQ : Q (some (zI ((-1))), zH S I)) : Wp 110 (0, [zA 0, zR none, zI r], [], zH S I) Q := by
  refine (sg_X5_refusedPut_0_0_n _ _ _ _).mpr ?_
  first | exact hQ | exact zq hQ (zB_t (by omega)) rfl | exact zq hQ (zB_f (by omega)) rfl | exact zq hQ (by repeat (first | rw [if_pos (by omega)] | rw [if_neg (by omega)])) rfl
theorem c_write {S : PS} {I : Nat → Nat → Int} {Q : PV1 → Prop} {i : Int} {w : Int}  (hQ : Q (some (zI (if i = -1 then I 25 2 else if i < 0 ∨ I 25 2 ≤ i ∨ w < 0 ∨ 1 < w then (-1) else if w = 0 then (if 0 ≤ i ∧ i < I 25 2 ∧ i < 16 then I 26 i.toNat else (-1)) else (if 0 ≤ i ∧ i < I 25 2 ∧ i < 16 then I 27 i.toNat else (-1)))), zH S I)) : Wp 89 (0, [zA 0, zI i, zI w], [], zH S I) Q := by
  refine (sg_X5_write_0_0 _ _ _ _ _).mpr ?_
  first | refine zcdB (fun h1 => ?_) (fun h1 => ?_) | refine zcd (fun h1 => ?_) (fun h1 => ?_)
  · refine c_length_25 ?_
    refine (sg_X5_write_12 _ _ _ _ _ _ _).mpr ?_
    (repeat (first | rw [if_pos (by omega)] at hQ | rw [if_neg (by omega)] at hQ)); (repeat (first | rw [if_pos (by omega)] | rw [if_neg (by omega)])); exact hQ
  · first | refine zcdB (fun h2 => ?_) (fun h2 => ?_) | refine zcd (fun h2 => ?_) (fun h2 => ?_)
    · (repeat (first | rw [if_pos (by omega)] at hQ | rw [if_neg (by omega)] at hQ)); (repeat (first | rw [if_pos (by omega)] | rw [if_neg (by omega)])); exact hQ
    · refine c_length_25 ?_
      refine (sg_X5_write_25_0 _ _ _ _ _ _ _).mpr ?_
      first | refine zcdB (fun h3 => ?_) (fun h3 => ?_) | refine zcd (fun h3 => ?_) (fun h3 => ?_)
      · first | refine zcdB (fun h4 => ?_) (fun h4 => ?_) | refine zcd (fun h4 => ?_) (fun h4 => ?_)
        · (repeat (first | rw [if_pos (by omega)] at hQ | rw [if_neg (by omega)] at hQ)); (repeat (first | rw [if_pos (by omega)] | rw [if_neg (by omega)])); exact hQ
        · first | refine zcdB (fun h5 => ?_) (fun h5 => ?_) | refine zcd (fun h5 => ?_) (fun h5 => ?_)
          · (repeat (first | rw [if_pos (by omega)] at hQ | rw [if_neg (by omega)] at hQ)); (repeat (first | rw [if_pos (by omega)] | rw [if_neg (by omega)])); exact hQ
          · first | refine zcdB (fun h6 => ?_) (fun h6 => ?_) | refine zcd (fun h6 => ?_) (fun h6 => ?_)
            · refine c_ruleOf_25 ?_
              refine (sg_X5_write_51 _ _ _ _ _ _ _).mpr ?_
              refine (sg_X5_write_62 _ _ _ _ _ _ _).mpr ?_
              (repeat (first | rw [if_pos (by omega)] at hQ | rw [if_neg (by omega)] at hQ)); (repeat (first | rw [if_pos (by omega)] | rw [if_neg (by omega)])); exact hQ
            · refine c_pplaceOf_25 ?_
              refine (sg_X5_write_62 _ _ _ _ _ _ _).mpr ?_
              (repeat (first | rw [if_pos (by omega)] at hQ | rw [if_neg (by omega)] at hQ)); (repeat (first | rw [if_pos (by omega)] | rw [if_neg (by omega)])); exact hQ
      · (repeat (first | rw [if_pos (by omega)] at hQ | rw [if_neg (by omega)] at hQ)); (repeat (first | rw [if_pos (by omega)] | rw [if_neg (by omega)])); exact hQ
theorem c_at_n {S : PS} {I : Nat → Nat → Int} {Q : PV1 → Prop} {t : Int} {pl : Int} {u3 : PV} {u4 : PV} (ht : t < 0 ∨ 2 ≤ t)  (hQ : Q (some (zI ((-1))), zH S I)) : Wp 91 (0, [zA 0, zI t, zI pl, u3, u4], [], zH S I) Q := by
  refine (sg_X5_at_0_0 _ _ _ _ _ _ _).mpr ?_
  refine c_tabN ht ?_
  refine (sg_X5_at_5_n _ _ _ _ _ _ _ _).mpr ?_
  first | exact hQ | (rw [if_pos (by omega)] at hQ; exact hQ) | (rw [if_neg (by omega)] at hQ; first | (rw [if_pos (by assumption)] at hQ; exact hQ) | (rw [if_neg (by assumption)] at hQ; exact hQ))
theorem c_at_7 {S : PS} {I : Nat → Nat → Int} {Q : PV1 → Prop} {t : Int} {pl : Int} {u3 : PV} {u4 : PV} (ht : t = 0)  (hQ : Q (some (zI (if ¬ (0 ≤ pl ∧ pl < I 7 2) then (-1) else if (if xisp (I 7 2) pl then I 8 pl.toNat else (-1)) = -1 then (-2) else (if xisp (I 7 2) pl then I 8 pl.toNat else (-1)))), zH S I)) : Wp 91 (0, [zA 0, zI t, zI pl, u3, u4], [], zH S I) Q := by
  refine (sg_X5_at_0_0 _ _ _ _ _ _ _).mpr ?_
  refine c_tab7 ht ?_
  refine (sg_X5_at_5_7 _ _ _ _ _ _ _ _).mpr ?_
  first | refine zcdB (fun h1 => ?_) (fun h1 => ?_) | refine zcd (fun h1 => ?_) (fun h1 => ?_)
  · first | exact hQ | (rw [if_pos (by omega)] at hQ; exact hQ) | (rw [if_neg (by omega)] at hQ; first | (rw [if_pos (by assumption)] at hQ; exact hQ) | (rw [if_neg (by assumption)] at hQ; exact hQ))
  · refine c_size_7 ?_
    refine (sg_X5_at_19_7 _ _ _ _ _ _ _ _ _).mpr ?_
    first | refine zcdB (fun h2 => ?_) (fun h2 => ?_) | refine zcd (fun h2 => ?_) (fun h2 => ?_)
    · refine c_ruleAt_7 ?_
      refine (sg_X5_at_29 _ _ _ _ _ _ _ _ _).mpr ?_
      first | refine zcdB (fun h3 => ?_) (fun h3 => ?_) | refine zcd (fun h3 => ?_) (fun h3 => ?_)
      · first | exact hQ | (rw [if_pos (by omega)] at hQ; exact hQ) | (rw [if_neg (by omega)] at hQ; first | (rw [if_pos (by assumption)] at hQ; exact hQ) | (rw [if_neg (by assumption)] at hQ; exact hQ))
      · first | exact hQ | (rw [if_pos (by omega)] at hQ; exact hQ) | (rw [if_neg (by omega)] at hQ; first | (rw [if_pos (by assumption)] at hQ; exact hQ) | (rw [if_neg (by assumption)] at hQ; exact hQ))
    · first | exact hQ | (rw [if_pos (by omega)] at hQ; exact hQ) | (rw [if_neg (by omega)] at hQ; first | (rw [if_pos (by assumption)] at hQ; exact hQ) | (rw [if_neg (by assumption)] at hQ; exact hQ))
theorem c_at_9 {S : PS} {I : Nat → Nat → Int} {Q : PV1 → Prop} {t : Int} {pl : Int} {u3 : PV} {u4 : PV} (ht : t = 1)  (hQ : Q (some (zI (if ¬ (0 ≤ pl ∧ pl < I 9 2) then (-1) else if (if xisp (I 9 2) pl then I 10 pl.toNat else (-1)) = -1 then (-2) else (if xisp (I 9 2) pl then I 10 pl.toNat else (-1)))), zH S I)) : Wp 91 (0, [zA 0, zI t, zI pl, u3, u4], [], zH S I) Q := by
  refine (sg_X5_at_0_0 _ _ _ _ _ _ _).mpr ?_
  refine c_tab9 ht ?_
  refine (sg_X5_at_5_9 _ _ _ _ _ _ _ _).mpr ?_
  first | refine zcdB (fun h1 => ?_) (fun h1 => ?_) | refine zcd (fun h1 => ?_) (fun h1 => ?_)
  · first | exact hQ | (rw [if_pos (by omega)] at hQ; exact hQ) | (rw [if_neg (by omega)] at hQ; first | (rw [if_pos (by assumption)] at hQ; exact hQ) | (rw [if_neg (by assumption)] at hQ; exact hQ))
  · refine c_size_9 ?_
    refine (sg_X5_at_19_9 _ _ _ _ _ _ _ _ _).mpr ?_
    first | refine zcdB (fun h2 => ?_) (fun h2 => ?_) | refine zcd (fun h2 => ?_) (fun h2 => ?_)
    · refine c_ruleAt_9 ?_
      refine (sg_X5_at_29 _ _ _ _ _ _ _ _ _).mpr ?_
      first | refine zcdB (fun h3 => ?_) (fun h3 => ?_) | refine zcd (fun h3 => ?_) (fun h3 => ?_)
      · first | exact hQ | (rw [if_pos (by omega)] at hQ; exact hQ) | (rw [if_neg (by omega)] at hQ; first | (rw [if_pos (by assumption)] at hQ; exact hQ) | (rw [if_neg (by assumption)] at hQ; exact hQ))
      · first | exact hQ | (rw [if_pos (by omega)] at hQ; exact hQ) | (rw [if_neg (by omega)] at hQ; first | (rw [if_pos (by assumption)] at hQ; exact hQ) | (rw [if_neg (by assumption)] at hQ; exact hQ))
    · first | exact hQ | (rw [if_pos (by omega)] at hQ; exact hQ) | (rw [if_neg (by omega)] at hQ; first | (rw [if_pos (by assumption)] at hQ; exact hQ) | (rw [if_neg (by assumption)] at hQ; exact hQ))
theorem c_shown_n {S : PS} {I : Nat → Nat → Int} {Q : PV1 → Prop} {t : Int} {r : Int} {u3 : PV} (ht : t < 0 ∨ 2 ≤ t)  (hQ : Q (some (zI ((-1))), zH S I)) : Wp 95 (0, [zA 0, zI t, zI r, u3], [], zH S I) Q := by
  refine (sg_X5_shown_0_0 _ _ _ _ _ _).mpr ?_
  refine c_tabN ht ?_
  refine (sg_X5_shown_5_0_n _ _ _ _ _ _).mpr ?_
  first | exact hQ | exact zq hQ (zB_t (by omega)) rfl | exact zq hQ (zB_f (by omega)) rfl | exact zq hQ (by repeat (first | rw [if_pos (by omega)] | rw [if_neg (by omega)])) rfl
theorem c_shown_7 {S : PS} {I : Nat → Nat → Int} {Q : PV1 → Prop} {t : Int} {r : Int} {u3 : PV} (ht : t = 0)  (hQ : Q (some (zI (if ¬ xuse I r then (-1) else xshown I 8 r)), zH S I)) : Wp 95 (0, [zA 0, zI t, zI r, u3], [], zH S I) Q := by
  refine (sg_X5_shown_0_0 _ _ _ _ _ _).mpr ?_
  refine c_tab7 ht ?_
  refine (sg_X5_shown_5_0_7 _ _ _ _ _ _).mpr ?_
  refine c_isInUse ?_
  refine (sg_X5_shown_18_7 _ _ _ _ _ _ _).mpr ?_
  first | refine zcdB (fun h1 => ?_) (fun h1 => ?_) | refine zcd (fun h1 => ?_) (fun h1 => ?_)
  · first | exact hQ | exact zq hQ (zB_t (by omega)) rfl | exact zq hQ (zB_f (by omega)) rfl | exact zq hQ (by repeat (first | rw [if_pos (by omega)] | rw [if_neg (by omega)])) rfl
  · refine c_firstKeyShown_7 ?_
    refine (sg_X5_shown_28 _ _ _ _ _ _ _ _).mpr ?_
    first | exact hQ | exact zq hQ (zB_t (by omega)) rfl | exact zq hQ (zB_f (by omega)) rfl | exact zq hQ (by repeat (first | rw [if_pos (by omega)] | rw [if_neg (by omega)])) rfl
theorem c_shown_9 {S : PS} {I : Nat → Nat → Int} {Q : PV1 → Prop} {t : Int} {r : Int} {u3 : PV} (ht : t = 1)  (hQ : Q (some (zI (if ¬ xuse I r then (-1) else xshown I 10 r)), zH S I)) : Wp 95 (0, [zA 0, zI t, zI r, u3], [], zH S I) Q := by
  refine (sg_X5_shown_0_0 _ _ _ _ _ _).mpr ?_
  refine c_tab9 ht ?_
  refine (sg_X5_shown_5_0_9 _ _ _ _ _ _).mpr ?_
  refine c_isInUse ?_
  refine (sg_X5_shown_18_9 _ _ _ _ _ _ _).mpr ?_
  first | refine zcdB (fun h1 => ?_) (fun h1 => ?_) | refine zcd (fun h1 => ?_) (fun h1 => ?_)
  · first | exact hQ | exact zq hQ (zB_t (by omega)) rfl | exact zq hQ (zB_f (by omega)) rfl | exact zq hQ (by repeat (first | rw [if_pos (by omega)] | rw [if_neg (by omega)])) rfl
  · refine c_firstKeyShown_9 ?_
    refine (sg_X5_shown_28 _ _ _ _ _ _ _ _).mpr ?_
    first | exact hQ | exact zq hQ (zB_t (by omega)) rfl | exact zq hQ (zB_f (by omega)) rfl | exact zq hQ (by repeat (first | rw [if_pos (by omega)] | rw [if_neg (by omega)])) rfl
theorem c_covered_n {S : PS} {I : Nat → Nat → Int} {Q : PV1 → Prop} {t : Int} {r : Int} {u3 : PV} (ht : t < 0 ∨ 2 ≤ t)  (hQ : Q (some (zI ((-1))), zH S I)) : Wp 94 (0, [zA 0, zI t, zI r, u3], [], zH S I) Q := by
  refine (sg_X5_covered_0_0 _ _ _ _ _ _).mpr ?_
  refine c_tabN ht ?_
  refine (sg_X5_covered_5_0_n _ _ _ _ _ _).mpr ?_
  first | exact hQ | exact zq hQ (zB_t (by omega)) rfl | exact zq hQ (zB_f (by omega)) rfl | exact zq hQ (by repeat (first | rw [if_pos (by omega)] | rw [if_neg (by omega)])) rfl
theorem c_covered_7 {S : PS} {I : Nat → Nat → Int} {Q : PV1 → Prop} {t : Int} {r : Int} {u3 : PV} (ht : t = 0)  (hQ : Q (some (zI (if ¬ xuse I r then (-1) else if xplc (I 8) r = -1 then (-2) else if xshown I 8 r = -2 then 1 else 0)), zH S I)) : Wp 94 (0, [zA 0, zI t, zI r, u3], [], zH S I) Q := by
  refine (sg_X5_covered_0_0 _ _ _ _ _ _).mpr ?_
  refine c_tab7 ht ?_
  refine (sg_X5_covered_5_0_7 _ _ _ _ _ _).mpr ?_
  refine c_isInUse ?_
  refine (sg_X5_covered_18_7 _ _ _ _ _ _ _).mpr ?_
  first | refine zcdB (fun h1 => ?_) (fun h1 => ?_) | refine zcd (fun h1 => ?_) (fun h1 => ?_)
  · first | exact hQ | exact zq hQ (zB_t (by omega)) rfl | exact zq hQ (zB_f (by omega)) rfl | exact zq hQ (by repeat (first | rw [if_pos (by omega)] | rw [if_neg (by omega)])) rfl
  · refine c_hasRule_7 ?_
    refine (sg_X5_covered_28_7 _ _ _ _ _ _ _).mpr ?_
    first | refine zcdB (fun h2 => ?_) (fun h2 => ?_) | refine zcd (fun h2 => ?_) (fun h2 => ?_)
    · first | exact hQ | exact zq hQ (zB_t (by omega)) rfl | exact zq hQ (zB_f (by omega)) rfl | exact zq hQ (by repeat (first | rw [if_pos (by omega)] | rw [if_neg (by omega)])) rfl
    · refine c_firstKeyShown_7 ?_
      refine (sg_X5_covered_39 _ _ _ _ _ _ _ _).mpr ?_
      first | refine zcdB (fun h3 => ?_) (fun h3 => ?_) | refine zcd (fun h3 => ?_) (fun h3 => ?_)
      · first | exact hQ | exact zq hQ (zB_t (by omega)) rfl | exact zq hQ (zB_f (by omega)) rfl | exact zq hQ (by repeat (first | rw [if_pos (by omega)] | rw [if_neg (by omega)])) rfl
      · first | exact hQ | exact zq hQ (zB_t (by omega)) rfl | exact zq hQ (zB_f (by omega)) rfl | exact zq hQ (by repeat (first | rw [if_pos (by omega)] | rw [if_neg (by omega)])) rfl
theorem c_covered_9 {S : PS} {I : Nat → Nat → Int} {Q : PV1 → Prop} {t : Int} {r : Int} {u3 : PV} (ht : t = 1)  (hQ : Q (some (zI (if ¬ xuse I r then (-1) else if xplc (I 10) r = -1 then (-2) else if xshown I 10 r = -2 then 1 else 0)), zH S I)) : Wp 94 (0, [zA 0, zI t, zI r, u3], [], zH S I) Q := by
  refine (sg_X5_covered_0_0 _ _ _ _ _ _).mpr ?_
  refine c_tab9 ht ?_
  refine (sg_X5_covered_5_0_9 _ _ _ _ _ _).mpr ?_
  refine c_isInUse ?_
  refine (sg_X5_covered_18_9 _ _ _ _ _ _ _).mpr ?_
  first | refine zcdB (fun h1 => ?_) (fun h1 => ?_) | refine zcd (fun h1 => ?_) (fun h1 => ?_)
  · first | exact hQ | exact zq hQ (zB_t (by omega)) rfl | exact zq hQ (zB_f (by omega)) rfl | exact zq hQ (by repeat (first | rw [if_pos (by omega)] | rw [if_neg (by omega)])) rfl
  · refine c_hasRule_9 ?_
    refine (sg_X5_covered_28_9 _ _ _ _ _ _ _).mpr ?_
    first | refine zcdB (fun h2 => ?_) (fun h2 => ?_) | refine zcd (fun h2 => ?_) (fun h2 => ?_)
    · first | exact hQ | exact zq hQ (zB_t (by omega)) rfl | exact zq hQ (zB_f (by omega)) rfl | exact zq hQ (by repeat (first | rw [if_pos (by omega)] | rw [if_neg (by omega)])) rfl
    · refine c_firstKeyShown_9 ?_
      refine (sg_X5_covered_39 _ _ _ _ _ _ _ _).mpr ?_
      first | refine zcdB (fun h3 => ?_) (fun h3 => ?_) | refine zcd (fun h3 => ?_) (fun h3 => ?_)
      · first | exact hQ | exact zq hQ (zB_t (by omega)) rfl | exact zq hQ (zB_f (by omega)) rfl | exact zq hQ (by repeat (first | rw [if_pos (by omega)] | rw [if_neg (by omega)])) rfl
      · first | exact hQ | exact zq hQ (zB_t (by omega)) rfl | exact zq hQ (zB_f (by omega)) rfl | exact zq hQ (by repeat (first | rw [if_pos (by omega)] | rw [if_neg (by omega)])) rfl
theorem l_right_7 {S : PS} {I : Nat → Nat → Int} {Q : PV1 → Prop}  : ∀ (k i : Nat) (u0 : PV) (u1 : PV), i + k = 32 →  Q (some (zI (((zcnt (fun q => xjud I 8 (q : Int) = xdue I 8 (q : Int)) 32 : Nat) : Int))), zH S I) → Wp 93 (17, [u0, u1, zA 7, zI (((zcnt (fun q => xjud I 8 (q : Int) = xdue I 8 (q : Int)) i : Nat) : Int)), zI ((i : Int))], [], zH S I) Q := by
  intro k
  induction k with
  | zero =>
    intro i u0 u1 hi hQ
    refine (sg_X5_right_17_7 _ _ _ _ _ _ _).mpr ?_
    try simp only [Int.toNat_natCast]
    first | refine zcdB (fun h1 => ?_) (fun h1 => ?_) | refine zcd (fun h1 => ?_) (fun h1 => ?_)
    · refine c_actFor_7 ?_
      refine (sg_X5_right_30_7 _ _ _ _ _ _ _ _).mpr ?_
      refine c_dueActFor_7 ?_
      refine (sg_X5_right_36_7 _ _ _ _ _ _ _ _ _).mpr ?_
      first | refine zcdB (fun h2 => ?_) (fun h2 => ?_) | refine zcd (fun h2 => ?_) (fun h2 => ?_)
      · exfalso; omega
      · exfalso; omega
    · first | (exfalso; omega) | (obtain rfl : i = 32 := (by omega); exact hQ)
  | succ k ih =>
    intro i u0 u1 hi hQ
    refine (sg_X5_right_17_7 _ _ _ _ _ _ _).mpr ?_
    try simp only [Int.toNat_natCast]
    first | refine zcdB (fun h1 => ?_) (fun h1 => ?_) | refine zcd (fun h1 => ?_) (fun h1 => ?_)
    · refine c_actFor_7 ?_
      refine (sg_X5_right_30_7 _ _ _ _ _ _ _ _).mpr ?_
      refine c_dueActFor_7 ?_
      refine (sg_X5_right_36_7 _ _ _ _ _ _ _ _ _).mpr ?_
      first | refine zcdB (fun h2 => ?_) (fun h2 => ?_) | refine zcd (fun h2 => ?_) (fun h2 => ?_)
      · rw [zad_s (i := i) (by omega)]
        exact zeq (ih (i + 1) _ _ (by omega) hQ) (by first | rw [zcnt_t (by assumption) (by omega)] | rw [zcnt_f (by assumption)])
      · rw [zad_s (i := i) (by omega)]
        exact zeq (ih (i + 1) _ _ (by omega) hQ) (by first | rw [zcnt_t (by assumption) (by omega)] | rw [zcnt_f (by assumption)])
    · first | (exfalso; omega) | (obtain rfl : i = 32 := (by omega); exact hQ)
theorem l_right_9 {S : PS} {I : Nat → Nat → Int} {Q : PV1 → Prop}  : ∀ (k i : Nat) (u0 : PV) (u1 : PV), i + k = 32 →  Q (some (zI (((zcnt (fun q => xjud I 10 (q : Int) = xdue I 10 (q : Int)) 32 : Nat) : Int))), zH S I) → Wp 93 (17, [u0, u1, zA 9, zI (((zcnt (fun q => xjud I 10 (q : Int) = xdue I 10 (q : Int)) i : Nat) : Int)), zI ((i : Int))], [], zH S I) Q := by
  intro k
  induction k with
  | zero =>
    intro i u0 u1 hi hQ
    refine (sg_X5_right_17_9 _ _ _ _ _ _ _).mpr ?_
    try simp only [Int.toNat_natCast]
    first | refine zcdB (fun h1 => ?_) (fun h1 => ?_) | refine zcd (fun h1 => ?_) (fun h1 => ?_)
    · refine c_actFor_9 ?_
      refine (sg_X5_right_30_9 _ _ _ _ _ _ _ _).mpr ?_
      refine c_dueActFor_9 ?_
      refine (sg_X5_right_36_9 _ _ _ _ _ _ _ _ _).mpr ?_
      first | refine zcdB (fun h2 => ?_) (fun h2 => ?_) | refine zcd (fun h2 => ?_) (fun h2 => ?_)
      · exfalso; omega
      · exfalso; omega
    · first | (exfalso; omega) | (obtain rfl : i = 32 := (by omega); exact hQ)
  | succ k ih =>
    intro i u0 u1 hi hQ
    refine (sg_X5_right_17_9 _ _ _ _ _ _ _).mpr ?_
    try simp only [Int.toNat_natCast]
    first | refine zcdB (fun h1 => ?_) (fun h1 => ?_) | refine zcd (fun h1 => ?_) (fun h1 => ?_)
    · refine c_actFor_9 ?_
      refine (sg_X5_right_30_9 _ _ _ _ _ _ _ _).mpr ?_
      refine c_dueActFor_9 ?_
      refine (sg_X5_right_36_9 _ _ _ _ _ _ _ _ _).mpr ?_
      first | refine zcdB (fun h2 => ?_) (fun h2 => ?_) | refine zcd (fun h2 => ?_) (fun h2 => ?_)
      · rw [zad_s (i := i) (by omega)]
        exact zeq (ih (i + 1) _ _ (by omega) hQ) (by first | rw [zcnt_t (by assumption) (by omega)] | rw [zcnt_f (by assumption)])
      · rw [zad_s (i := i) (by omega)]
        exact zeq (ih (i + 1) _ _ (by omega) hQ) (by first | rw [zcnt_t (by assumption) (by omega)] | rw [zcnt_f (by assumption)])
    · first | (exfalso; omega) | (obtain rfl : i = 32 := (by omega); exact hQ)
theorem c_right_n {S : PS} {I : Nat → Nat → Int} {Q : PV1 → Prop} {t : Int} {u2 : PV} {u3 : PV} {u4 : PV} (ht : t < 0 ∨ 2 ≤ t)  (hQ : Q (some (zI ((-1))), zH S I)) : Wp 93 (0, [zA 0, zI t, u2, u3, u4], [], zH S I) Q := by
  refine (sg_X5_right_0_0 _ _ _ _ _ _ _).mpr ?_
  refine c_tabN ht ?_
  refine (sg_X5_right_5_n _ _ _ _ _ _ _ _).mpr ?_
  first | exact hQ | exact zq hQ (zB_t (by omega)) rfl | exact zq hQ (zB_f (by omega)) rfl | exact zq hQ (by repeat (first | rw [if_pos (by omega)] | rw [if_neg (by omega)])) rfl
theorem c_right_7 {S : PS} {I : Nat → Nat → Int} {Q : PV1 → Prop} {t : Int} {u2 : PV} {u3 : PV} {u4 : PV} (ht : t = 0)  (hQ : Q (some (zI (((zcnt (fun q => xjud I 8 (q : Int) = xdue I 8 (q : Int)) 32 : Nat) : Int))), zH S I)) : Wp 93 (0, [zA 0, zI t, u2, u3, u4], [], zH S I) Q := by
  refine (sg_X5_right_0_0 _ _ _ _ _ _ _).mpr ?_
  refine c_tab7 ht ?_
  refine (sg_X5_right_5_7 _ _ _ _ _ _ _ _).mpr ?_
  exact l_right_7 32 0 _ _ rfl hQ
theorem c_right_9 {S : PS} {I : Nat → Nat → Int} {Q : PV1 → Prop} {t : Int} {u2 : PV} {u3 : PV} {u4 : PV} (ht : t = 1)  (hQ : Q (some (zI (((zcnt (fun q => xjud I 10 (q : Int) = xdue I 10 (q : Int)) 32 : Nat) : Int))), zH S I)) : Wp 93 (0, [zA 0, zI t, u2, u3, u4], [], zH S I) Q := by
  refine (sg_X5_right_0_0 _ _ _ _ _ _ _).mpr ?_
  refine c_tab9 ht ?_
  refine (sg_X5_right_5_9 _ _ _ _ _ _ _ _).mpr ?_
  exact l_right_9 32 0 _ _ rfl hQ
theorem l_differ {S : PS} {I : Nat → Nat → Int} {Q : PV1 → Prop}  : ∀ (k i : Nat), i + k = 32 →  Q (some (zI (((zcnt (fun q => xjud I 8 (q : Int) ≠ xjud I 10 (q : Int)) 32 : Nat) : Int))), zH S I) → Wp 99 (4, [zA 0, zI (((zcnt (fun q => xjud I 8 (q : Int) ≠ xjud I 10 (q : Int)) i : Nat) : Int)), zI ((i : Int))], [], zH S I) Q := by
  intro k
  induction k with
  | zero =>
    intro i hi hQ
    refine (sg_X5_differ_4_0 _ _ _ _ _).mpr ?_
    try simp only [Int.toNat_natCast]
    first | refine zcdB (fun h1 => ?_) (fun h1 => ?_) | refine zcd (fun h1 => ?_) (fun h1 => ?_)
    · refine c_actFor_7 ?_
      refine (sg_X5_differ_18_0 _ _ _ _ _ _).mpr ?_
      refine c_actFor_9 ?_
      refine (sg_X5_differ_26_0 _ _ _ _ _ _ _).mpr ?_
      first | refine zcdB (fun h2 => ?_) (fun h2 => ?_) | refine zcd (fun h2 => ?_) (fun h2 => ?_)
      · exfalso; omega
      · exfalso; omega
    · first | (exfalso; omega) | (obtain rfl : i = 32 := (by omega); exact hQ)
  | succ k ih =>
    intro i hi hQ
    refine (sg_X5_differ_4_0 _ _ _ _ _).mpr ?_
    try simp only [Int.toNat_natCast]
    first | refine zcdB (fun h1 => ?_) (fun h1 => ?_) | refine zcd (fun h1 => ?_) (fun h1 => ?_)
    · refine c_actFor_7 ?_
      refine (sg_X5_differ_18_0 _ _ _ _ _ _).mpr ?_
      refine c_actFor_9 ?_
      refine (sg_X5_differ_26_0 _ _ _ _ _ _ _).mpr ?_
      first | refine zcdB (fun h2 => ?_) (fun h2 => ?_) | refine zcd (fun h2 => ?_) (fun h2 => ?_)
      · rw [zad_s (i := i) (by omega)]
        exact zeq (ih (i + 1) (by omega) hQ) (by first | rw [zcnt_t (by assumption) (by omega)] | rw [zcnt_f (fun w => w (by assumption))])
      · rw [zad_s (i := i) (by omega)]
        exact zeq (ih (i + 1) (by omega) hQ) (by first | rw [zcnt_t (by assumption) (by omega)] | rw [zcnt_f (fun w => w (by assumption))])
    · first | (exfalso; omega) | (obtain rfl : i = 32 := (by omega); exact hQ)
theorem c_differ {S : PS} {I : Nat → Nat → Int} {Q : PV1 → Prop} {u1 : PV} {u2 : PV}  (hQ : Q (some (zI (((zcnt (fun q => xjud I 8 (q : Int) ≠ xjud I 10 (q : Int)) 32 : Nat) : Int))), zH S I)) : Wp 99 (0, [zA 0, u1, u2], [], zH S I) Q := by
  refine (sg_X5_differ_0_0 _ _ _ _ _).mpr ?_
  exact l_differ 32 0 rfl hQ
theorem c_count {S : PS} {I : Nat → Nat → Int} {Q : PV1 → Prop} {w : Int}  (hQ : Q (some (zI (if w = 0 then 16 - ((zcnt (fun r => I 2 r = -1) 16 : Nat) : Int) else if w = 1 then ((xst (I 8) : Nat) : Int) else if w = 2 then ((xst (I 10) : Nat) : Int) else if w = 3 then I 7 2 else if w = 4 then I 0 8 else if w = 5 then I 19 6 else (-1))), zH S I)) : Wp 102 (0, [zA 0, zI w], [], zH S I) Q := by
  refine (sg_X5_count_0_0 _ _ _ _).mpr ?_
  first | refine zcdB (fun h1 => ?_) (fun h1 => ?_) | refine zcd (fun h1 => ?_) (fun h1 => ?_)
  · refine c_unused ?_
    refine (sg_X5_count_49 _ _ _ _ _ _ _).mpr ?_
    (repeat (first | rw [if_pos (by omega)] at hQ | rw [if_neg (by omega)] at hQ)); first | exact hQ | (have hh := zcnt_le (fun r => I 2 r = -1) 16; exact zq hQ (by rw [zsb_eq (by omega)]) rfl)
  · first | refine zcdB (fun h2 => ?_) (fun h2 => ?_) | refine zcd (fun h2 => ?_) (fun h2 => ?_)
    · refine c_standing_7 ?_
      refine (sg_X5_count_58 _ _ _ _ _ _).mpr ?_
      (repeat (first | rw [if_pos (by omega)] at hQ | rw [if_neg (by omega)] at hQ)); first | exact hQ | (have hh := zcnt_le (fun r => I 2 r = -1) 16; exact zq hQ (by rw [zsb_eq (by omega)]) rfl)
    · first | refine zcdB (fun h3 => ?_) (fun h3 => ?_) | refine zcd (fun h3 => ?_) (fun h3 => ?_)
      · refine c_standing_9 ?_
        refine (sg_X5_count_66 _ _ _ _ _ _).mpr ?_
        (repeat (first | rw [if_pos (by omega)] at hQ | rw [if_neg (by omega)] at hQ)); first | exact hQ | (have hh := zcnt_le (fun r => I 2 r = -1) 16; exact zq hQ (by rw [zsb_eq (by omega)]) rfl)
      · first | refine zcdB (fun h4 => ?_) (fun h4 => ?_) | refine zcd (fun h4 => ?_) (fun h4 => ?_)
        · refine c_size_7 ?_
          refine (sg_X5_count_74 _ _ _ _ _ _).mpr ?_
          (repeat (first | rw [if_pos (by omega)] at hQ | rw [if_neg (by omega)] at hQ)); first | exact hQ | (have hh := zcnt_le (fun r => I 2 r = -1) 16; exact zq hQ (by rw [zsb_eq (by omega)]) rfl)
        · first | refine zcdB (fun h5 => ?_) (fun h5 => ?_) | refine zcd (fun h5 => ?_) (fun h5 => ?_)
          · (repeat (first | rw [if_pos (by omega)] at hQ | rw [if_neg (by omega)] at hQ)); first | exact hQ | (have hh := zcnt_le (fun r => I 2 r = -1) 16; exact zq hQ (by rw [zsb_eq (by omega)]) rfl)
          · first | refine zcdB (fun h6 => ?_) (fun h6 => ?_) | refine zcd (fun h6 => ?_) (fun h6 => ?_)
            · refine c_hlength ?_
              refine (sg_X5_count_87 _ _ _ _ _ _).mpr ?_
              (repeat (first | rw [if_pos (by omega)] at hQ | rw [if_neg (by omega)] at hQ)); first | exact hQ | (have hh := zcnt_le (fun r => I 2 r = -1) 16; exact zq hQ (by rw [zsb_eq (by omega)]) rfl)
            · (repeat (first | rw [if_pos (by omega)] at hQ | rw [if_neg (by omega)] at hQ)); first | exact hQ | (have hh := zcnt_le (fun r => I 2 r = -1) 16; exact zq hQ (by rw [zsb_eq (by omega)]) rfl)
theorem c_places {S : PS} {I : Nat → Nat → Int} {Q : PV1 → Prop} {n : Int} {u2 : PV}  (hQ : Q (some (zI (if n < 2 ∨ 6 < n then (-1) else I 7 2)), zH S (if n < 2 ∨ 6 < n then I else xemp I n))) : Wp 78 (0, [zA 0, zI n, u2], [], zH S I) Q := by
  refine (sg_X5_places_0_0 _ _ _ _ _).mpr ?_
  first | refine zcdB (fun h1 => ?_) (fun h1 => ?_) | refine zcd (fun h1 => ?_) (fun h1 => ?_)
  · first | (rw [if_pos (by omega), if_pos (by omega)] at hQ; exact hQ) | (rw [if_neg (by omega), if_neg (by omega)] at hQ; exact hQ)
  · first | refine zcdB (fun h2 => ?_) (fun h2 => ?_) | refine zcd (fun h2 => ?_) (fun h2 => ?_)
    · first | (rw [if_pos (by omega), if_pos (by omega)] at hQ; exact hQ) | (rw [if_neg (by omega), if_neg (by omega)] at hQ; exact hQ)
    · refine c_size_7 ?_
      refine (sg_X5_places_20_0 _ _ _ _ _ _).mpr ?_
      refine c_forgetAll ?_
      refine (sg_X5_places_28_0 _ _ _ _ _).mpr ?_
      refine c_empty_7 ?_
      refine (sg_X5_places_36_0 _ _ _ _ _).mpr ?_
      refine c_empty_9 ?_
      refine (sg_X5_places_44_0 _ _ _ _ _).mpr ?_
      refine c_hforget ?_
      refine (sg_X5_places_56_0 _ _ _ _ _).mpr ?_
      refine c_pforget_25 ?_
      refine (sg_X5_places_63 _ _ _ _ _ _).mpr ?_
      first | (rw [if_pos (by omega), if_pos (by omega)] at hQ; exact hQ) | (rw [if_neg (by omega), if_neg (by omega)] at hQ; exact hQ)
