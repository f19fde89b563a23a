/-! judged (class); rules coupled -/
theorem c_judged_x {S : PS} {I : Nat → Nat → Int} {Q : PV1 → Prop} {t k : Int} {w3 : PV} (hl : I 0 8 = 0 ∨ I 0 8 = 1)
    (hQ1 : ¬ ((0 ≤ t ∧ t ≤ 2) ∧ (0 ≤ k ∧ k ≤ 31)) → Q (some (zI (-101)), zH S I)) (hQ2 : (0 ≤ k ∧ k ≤ 31) → ∀ u : Nat, u < 2 → ((t = 2 ∧ I 0 8 = (u : Int)) ∨ t = (u : Int)) → Q (some (zI (xjud I (if u = 0 then 8 else 10) k)), zH S I)) : Wp 92 (0, [zA 0, zI t, zI k, w3], [], zH S I) Q := by
  refine (sg_X5_judged_0_0 _ _ _ _ _ _).mpr ?_
  have seven : ((t = 2 ∧ I 0 8 = ((0 : Nat) : Int)) ∨ t = ((0 : Nat) : Int)) → ∀ (w0 w1 w3 : PV), Wp 92 (17, [w0, w1, zI k, w3], [zA 7], zH S I) Q := fun ht w0 w1 w3 => by
    refine (sg_X5_judged_17_7 _ _ _ _ _ _ _).mpr ?_
    refine c_isKey ?_
    refine (sg_X5_judged_26_7 _ _ _ _ _ _ _).mpr ?_
    refine zcdB (fun h => hQ1 (fun c => h ⟨c.2.1, by have := c.2.2; omega⟩)) (fun h => ?_)
    refine c_actFor_7 ?_
    refine (sg_X5_judged_37 _ _ _ _ _ _ _ _).mpr ?_
    have := hQ2 ⟨h.1, by omega⟩ 0 (by decide) ht
    exact this
  have nine : ((t = 2 ∧ I 0 8 = ((1 : Nat) : Int)) ∨ t = ((1 : Nat) : Int)) → ∀ (w0 w1 w3 : PV), Wp 92 (17, [w0, w1, zI k, w3], [zA 9], zH S I) Q := fun ht w0 w1 w3 => by
    refine (sg_X5_judged_17_9 _ _ _ _ _ _ _).mpr ?_
    refine c_isKey ?_
    refine (sg_X5_judged_26_9 _ _ _ _ _ _ _).mpr ?_
    refine zcdB (fun h => hQ1 (fun c => h ⟨c.2.1, by have := c.2.2; omega⟩)) (fun h => ?_)
    refine c_actFor_9 ?_
    refine (sg_X5_judged_37 _ _ _ _ _ _ _ _).mpr ?_
    have := hQ2 ⟨h.1, by omega⟩ 1 (by decide) ht
    exact this
  refine zcd (fun e => ?_) (fun e => ?_)
  · rcases hl with hl | hl
    · exact c_tab7 hl (seven (Or.inl ⟨e, hl⟩) _ _ _)
    · exact c_tab9 hl (nine (Or.inl ⟨e, hl⟩) _ _ _)
  · by_cases h0 : t = 0
    · exact c_tab7 h0 (seven (Or.inr h0) _ _ _)
    · by_cases h1 : t = 1
      · exact c_tab9 h1 (nine (Or.inr h1) _ _ _)
      · refine c_tabN (by omega) ?_
        refine (sg_X5_judged_17_n _ _ _ _ _ _ _).mpr ?_
        exact hQ1 (fun c => by have := c.1; omega)
theorem zan_inj {a b c d : Int} : zan a b = zan c d ↔ Int32.ofInt a &&& Int32.ofInt b = Int32.ofInt c &&& Int32.ofInt d := by
  rw [zan, zan, Int32.toInt_inj]
theorem zan_0 {a b : Int} : zan a b = 0 ↔ Int32.ofInt a &&& Int32.ofInt b = 0 := by
  rw [zan, ← Int32.toInt_zero, Int32.toInt_inj]
theorem bv_fit (v k m : BitVec 32) : (v ^^^ k) &&& m = 0#32 ↔ k &&& m = v &&& m := by
  constructor
  · intro h
    ext i hi
    have := congrArg (fun x : BitVec 32 => x[i]) h
    simp only [BitVec.getElem_and, BitVec.getElem_xor, BitVec.getElem_zero] at this ⊢
    revert this
    cases v[i] <;> cases k[i] <;> cases m[i] <;> decide
  · intro h
    ext i hi
    have := congrArg (fun x : BitVec 32 => x[i]) h
    simp only [BitVec.getElem_and, BitVec.getElem_xor, BitVec.getElem_zero] at this ⊢
    revert this
    cases v[i] <;> cases k[i] <;> cases m[i] <;> decide
theorem zfit_iff {v k m : Int} : zan (zxr v k) m = 0 ↔ zan k m = zan v m := by
  rw [zan_0, zan_inj, zxr, zofI, ← Int32.toBitVec_inj, ← Int32.toBitVec_inj]
  simp only [Int32.toBitVec_and, Int32.toBitVec_xor]
  exact bv_fit _ _ _
theorem zov_eq {va vb ma mb : Int} : zan (zan (zxr (zan va ma) (zan vb mb)) ma) mb = zan (zan (zxr va vb) ma) mb := by
  rw [zan_inj]
  simp only [zan, zxr, zofI]
  apply Int32.toBitVec_inj.mp
  simp only [Int32.toBitVec_and, Int32.toBitVec_xor]
  ext i hi
  simp only [BitVec.getElem_and, BitVec.getElem_xor]
  generalize (Int32.ofInt va).toBitVec[i] = a
  generalize (Int32.ofInt vb).toBitVec[i] = b
  generalize (Int32.ofInt ma).toBitVec[i] = c
  generalize (Int32.ofInt mb).toBitVec[i] = d
  revert a b c d
  decide
/-- a rule alike on both sides -/
def RA (I : Nat → Nat → Int) (r : Nat) : Prop := I 35 r = zan (I 3 r) (I 4 r) ∧ I 36 r = I 4 r ∧ I 37 r = I 5 r
theorem RA_fit {I : Nat → Nat → Int} {r k : Int} (hr : num r) (h : RA I r.toNat) : mfit I r k ↔ xfit I r k := by
  unfold mfit xfit
  rw [h.1, h.2.1, zfit_iff]
  exact ⟨fun w => ⟨hr, w⟩, fun w => w.2⟩
theorem RA_ov {I : Nat → Nat → Int} {a b : Int} (ha : num a) (hb : num b) (h : RA I a.toNat) (g : RA I b.toNat) : mov I a b ↔ xov I a b := by
  unfold mov xov
  rw [h.1, h.2.1, g.1, g.2.1, zov_eq]
  exact ⟨fun w => ⟨ha, hb, w⟩, fun w => w.2.2⟩
theorem RA_hi {I : Nat → Nat → Int} {a b : Int} (ha : num a) (hb : num b) (h : RA I a.toNat) (g : RA I b.toNat) : mhi I a b ↔ xhi I a b := by
  unfold mhi xhi
  rw [h.2.2, g.2.2]
  exact ⟨fun w => ⟨ha, hb, w⟩, fun w => w.2.2⟩
/-- all rules alike -/
def CR (I : Nat → Nat → Int) : Prop := ∀ r : Nat, r < 16 → (I 2 r = -1 ↔ I 33 r = 0) ∧ (I 33 r = 0 ∨ I 33 r = 1) ∧ (I 2 r ≠ -1 → RA I r ∧ I 34 r = I 2 r ∧ I 38 r = I 6 r ∧ (0 ≤ I 3 r ∧ I 3 r ≤ 31) ∧ (0 ≤ I 4 r ∧ I 4 r ≤ 31))
/-- the rules of a row are in use -/
def Us (I : Nat → Nat → Int) (f : Nat → Int) : Prop := ∀ q, q < 6 → f q ≠ -1 → I 2 (f q).toNat ≠ -1
theorem CR_use {I : Nat → Nat → Int} {r : Int} (h : CR I) : muse I r ↔ xuse I r := by
  constructor
  · rintro ⟨a, b, c⟩
    exact ⟨a, b, fun e => c (((h r.toNat (by omega)).1).mp e)⟩
  · rintro ⟨a, b, c⟩
    exact ⟨a, b, fun e => c (((h r.toNat (by omega)).1).mpr e)⟩
theorem CR_at {I : Nat → Nat → Int} {r : Int} (h : CR I) (hu : xuse I r) : RA I r.toNat ∧ I 34 r.toNat = I 2 r.toNat ∧ I 38 r.toNat = I 6 r.toNat ∧ (0 ≤ I 3 r.toNat ∧ I 3 r.toNat ≤ 31) ∧ (0 ≤ I 4 r.toNat ∧ I 4 r.toNat ≤ 31) := (h r.toNat (by have := hu.1; have := hu.2.1; omega)).2.2 hu.2.2
theorem use_num {I : Nat → Nat → Int} {r : Int} (hu : xuse I r) : num r := ⟨hu.1, by have := hu.2.1; omega⟩
theorem CR_cnt {I : Nat → Nat → Int} (h : CR I) : zcnt (fun r => I 33 r = 0) 16 = zcnt (fun r => I 2 r = -1) 16 := zcnt_congr 16 (fun r hr => ((h r hr).1).symm)
/-- the best of those that have P -/
theorem zfold_s (F : Nat → Int → Int) (a : Int) (i : Nat) : zfold F a (i + 1) = F i (zfold F a i) := rfl
theorem best_spec {P : Nat → Prop} [DecidablePred P] {h : Int → Int → Prop} [∀ a b, Decidable (h a b)] (tr : ∀ a b c, h a b → h b c → h a c) (tot : ∀ a b : Int, a ≠ b → ¬ h a b → h b a) {F : Nat → Int → Int} (hF : ∀ r a, F r a = if P r ∧ (a < 0 ∨ h (r : Int) a) then (r : Int) else a) :
    ∀ n, (zfold F (-1) n = -1 ∧ ∀ r, r < n → ¬ P r) ∨ ∃ b : Nat, zfold F (-1) n = (b : Int) ∧ b < n ∧ P b ∧ ∀ r, r < n → P r → r ≠ b → h (b : Int) (r : Int)
  | 0 => Or.inl ⟨rfl, fun r hr => absurd hr (by omega)⟩
  | n + 1 => by
    rw [zfold_s, hF]
    rcases best_spec tr tot hF n with ⟨h1, h2⟩ | ⟨b, h1, h2, h3, h4⟩
    · rw [h1]
      by_cases hp : P n
      · rw [if_pos ⟨hp, Or.inl (by decide)⟩]
        refine Or.inr ⟨n, rfl, by omega, hp, fun r hr hpr hne => ?_⟩
        exact absurd hpr (h2 r (by omega))
      · rw [if_neg (fun c => hp c.1)]
        refine Or.inl ⟨rfl, fun r hr => ?_⟩
        by_cases e : r = n
        · subst e; exact hp
        · exact h2 r (by omega)
    · rw [h1]
      by_cases hp : P n
      · by_cases hh : h (n : Int) (b : Int)
        · rw [if_pos ⟨hp, Or.inr hh⟩]
          refine Or.inr ⟨n, rfl, by omega, hp, fun r hr hpr hne => ?_⟩
          by_cases e : r = b
          · subst e; exact hh
          · exact tr _ _ _ hh (h4 r (by omega) hpr e)
        · rw [if_neg (fun c => c.2.elim (fun w => by omega) hh)]
          refine Or.inr ⟨b, rfl, by omega, h3, fun r hr hpr hne => ?_⟩
          by_cases e : r = n
          · subst e; exact tot _ _ (by omega) hh
          · exact h4 r (by omega) hpr hne
      · rw [if_neg (fun c => hp c.1)]
        refine Or.inr ⟨b, rfl, by omega, h3, fun r hr hpr hne => ?_⟩
        by_cases e : r = n
        · subst e; exact absurd hpr hp
        · exact h4 r (by omega) hpr hne
theorem mhi_tr {I : Nat → Nat → Int} (a b c : Int) (h1 : mhi I a b) (h2 : mhi I b c) : mhi I a c := by
  unfold mhi at *
  omega
theorem mhi_tot {I : Nat → Nat → Int} (a b : Int) (h : a ≠ b) (h1 : ¬ mhi I a b) : mhi I b a := by
  unfold mhi at *
  omega
theorem mhi_asy {I : Nat → Nat → Int} {a b : Int} (h1 : mhi I a b) (h2 : mhi I b a) : False := by
  unfold mhi at *
  omega
