/-! what both answer of a row is alike -/
theorem zfv_none {P : Nat → Prop} [DecidablePred P] {f : Nat → Int} {d : Int} : ∀ k i, (∀ j, i ≤ j → j < i + k → ¬ P j) → zfv P f d k i = d
  | 0, _, _ => rfl
  | k + 1, i, h => by rw [zfv_f (h i (Nat.le_refl i) (by omega))]; exact zfv_none k (i + 1) (fun j h1 h2 => h j (by omega) (by omega))
theorem zfv_tail {P : Nat → Prop} [DecidablePred P] {f : Nat → Int} {d : Int} {e : Nat} : ∀ w i, (∀ j, i + w ≤ j → j < i + w + e → ¬ P j) → zfv P f d (w + e) i = zfv P f d w i
  | 0, i, h => by
    rw [Nat.zero_add, zfv_none e i (fun j h1 h2 => h j (by omega) (by omega))]; rfl
  | w + 1, i, h => by
    rw [show w + 1 + e = (w + e) + 1 by omega]
    by_cases hp : P i
    · rw [zfv_t hp, zfv_t hp]
    · rw [zfv_f hp, zfv_f hp]
      exact zfv_tail w (i + 1) (fun j h1 h2 => h j (by omega) (by omega))
/-- a row on both sides -/
def Row (I : Nat → Nat → Int) (w t c : Nat) : Prop := VT I (w : Int) (I c) ∧ Us I (I c) ∧ MRow I w t (I c)
theorem Row_16 {I : Nat → Nat → Int} {w t c : Nat} (h : Row I w t c) : ∀ p, p < w → I 39 (6 * t + p) < 16 := fun p hp => by
  have h6 := h.1.2.1
  have h3 := h.1.2.2.1 p (by omega)
  rw [h.2.2 p hp]
  split <;> omega
theorem Row_cell {I : Nat → Nat → Int} {w t c p : Nat} (h : Row I w t c) (hp : p < w) : (I c p = -1 ∧ I 39 (6 * t + p) = -2) ∨ (I c p ≠ -1 ∧ I 39 (6 * t + p) = I c p ∧ xuse I (I c p)) := by
  have h6 := h.1.2.1
  have h3 := h.1.2.2.1 p (by omega)
  by_cases e : I c p = -1
  · exact Or.inl ⟨e, by rw [h.2.2 p hp, if_pos e]⟩
  · exact Or.inr ⟨e, by rw [h.2.2 p hp, if_neg e], by omega, by omega, h.2.1 p (by omega) e⟩
theorem Row_out {I : Nat → Nat → Int} {w t c p : Nat} (h : Row I w t c) (h1 : w ≤ p) (h2 : p < 6) : I c p = -1 := h.1.2.2.2.1 p (by omega) h2
theorem xfit_m1 {I : Nat → Nat → Int} {k : Int} : ¬ xfit I (-1) k := fun c => by have := c.1.1; omega
theorem Row_plc {I : Nat → Nat → Int} {w t c : Nat} {r : Int} (h : Row I w t c) (hr : 0 ≤ r) : mplc I w t r = xplc (I c) r := mplc_eq h.1 h.2.2 hr
theorem Row_jud {I : Nat → Nat → Int} {w t c : Nat} {k : Int} (hC : CR I) (h : Row I w t c) : mjud I w t k = xjud I c k := by
  have h6 := h.1.2.1
  have e : 6 = w + (6 - w) := by omega
  have t1 := zfv_tail (P := fun p => xfit I (I c p) k) (f := fun p => xact I (I c p)) (d := -1) (e := 6 - w) w 0 (fun j h1 h2 => by
    rw [Row_out h (by omega) (by omega)]; exact xfit_m1)
  rw [← e] at t1
  rw [xjud, t1, mjud]
  refine zfv_congr w 0 (fun j h1 h2 => ?_) (fun j h1 h2 hp => ?_)
  · rcases Row_cell h (p := j) (by omega) with ⟨a1, a2⟩ | ⟨a1, a2, a3⟩
    · rw [a1, a2]
      exact ⟨fun w => absurd (by decide) w.1, fun w => absurd w xfit_m1⟩
    · rw [a2, RA_fit (use_num a3) (CR_at hC a3).1]
      exact ⟨fun w => w.2, fun w => ⟨by have := a3.1; omega, w⟩⟩
  · rcases Row_cell h (p := j) (by omega) with ⟨a1, a2⟩ | ⟨a1, a2, a3⟩
    · rw [a2] at hp; exact absurd (by decide) hp.1
    · rw [a2, (CR_at hC a3).2.2.1, xact, if_pos (use_num a3)]
theorem xhi_tr {I : Nat → Nat → Int} {a b c : Int} (h1 : xhi I a b) (h2 : xhi I b c) : xhi I a c := by
  obtain ⟨p1, p2, p3⟩ := h1
  obtain ⟨q1, q2, q3⟩ := h2
  exact ⟨p1, q2, by omega⟩
theorem xhi_asy {I : Nat → Nat → Int} {a b : Int} (h1 : xhi I a b) (h2 : xhi I b a) : False := by
  have a3 := h1.2.2
  have b3 := h2.2.2
  omega
theorem xbest_spec {I : Nat → Nat → Int} {c : Nat} {k : Int} : ∀ n, (xbest I c k n = -1 ∧ ∀ q, q < n → ¬ xfit I (I c q) k) ∨ ∃ q, q < n ∧ xbest I c k n = I c q ∧ xfit I (I c q) k ∧ ∀ q', q' < n → xfit I (I c q') k → I c q' ≠ I c q → xhi I (I c q) (I c q')
  | 0 => Or.inl ⟨rfl, fun q hq => absurd hq (by omega)⟩
  | n + 1 => by
    rw [xbest_s]
    rcases xbest_spec (I := I) (c := c) (k := k) n with ⟨h1, h2⟩ | ⟨q, h1, h2, h3, h4⟩
    · rw [h1]
      by_cases hp : xfit I (I c n) k
      · rw [if_pos ⟨hp, Or.inl rfl⟩]
        refine Or.inr ⟨n, by omega, rfl, hp, fun q' hq' hf hne => ?_⟩
        by_cases e : q' = n
        · subst e; exact absurd rfl hne
        · exact absurd hf (h2 q' (by omega))
      · rw [if_neg (fun w => hp w.1)]
        refine Or.inl ⟨rfl, fun q' hq' => ?_⟩
        by_cases e : q' = n
        · subst e; exact hp
        · exact h2 q' (by omega)
    · rw [h2]
      have hq0 := h3.1.1
      by_cases hp : xfit I (I c n) k
      · by_cases hh : xhi I (I c n) (I c q)
        · rw [if_pos ⟨hp, Or.inr hh⟩]
          refine Or.inr ⟨n, by omega, rfl, hp, fun q' hq' hf hne => ?_⟩
          by_cases e : I c q' = I c q
          · rw [e]; exact hh
          · by_cases e2 : q' = n
            · subst e2; exact absurd rfl hne
            · exact xhi_tr hh (h4 q' (by omega) hf e)
        · rw [if_neg (fun w => w.2.elim (fun z => by omega) hh)]
          refine Or.inr ⟨q, by omega, rfl, h3, fun q' hq' hf hne => ?_⟩
          by_cases e2 : q' = n
          · subst e2; exact (xhi_tot h3.1 hf.1 (fun z => hne z.symm)).mpr hh
          · exact h4 q' (by omega) hf hne
      · rw [if_neg (fun w => hp w.1)]
        refine Or.inr ⟨q, by omega, rfl, h3, fun q' hq' hf hne => ?_⟩
        by_cases e2 : q' = n
        · subst e2; exact absurd hf hp
        · exact h4 q' (by omega) hf hne
theorem Row_due {I : Nat → Nat → Int} {w t c : Nat} {k : Int} (hC : CR I) (h : Row I w t c) : mdue I w t k = xdue I c k := by
  have h6 := h.1.2.1
  have hP : ∀ r : Nat, r < 16 → ((I 33 r ≠ 0 ∧ ¬ mplc I w t (r : Int) < 0 ∧ mfit I (r : Int) k) ↔ ∃ q, q < 6 ∧ I c q = (r : Int) ∧ xfit I (I c q) k) := fun r hr => by
    rw [Row_plc h (by omega)]
    constructor
    · rintro ⟨a1, a2, a3⟩
      obtain ⟨q, b1, b2, b3, b4⟩ := xplc_in (f := I c) (r := (r : Int)) (fun e => a2 (by rw [e]; decide))
      have hu : xuse I (r : Int) := ⟨by omega, by omega, by rw [← b3]; exact h.2.1 q b1 (by omega)⟩
      exact ⟨q, b1, b3, by rw [b3]; exact (RA_fit (use_num hu) (CR_at hC hu).1).mp a3⟩
    · rintro ⟨q, b1, b2, b3⟩
      have hu : xuse I (r : Int) := ⟨by omega, by omega, by rw [← b2]; exact h.2.1 q b1 (by omega)⟩
      refine ⟨((CR_use hC).mpr hu).2.2, ?_, ?_⟩
      · have := xplc_at b1 h.1.2.2.2.2.1 (by omega)
        rw [b2] at this
        rw [this]; omega
      · rw [b2] at b3; exact (RA_fit (use_num hu) (CR_at hC hu).1).mpr b3
  have M := best_spec (P := fun r => I 33 r ≠ 0 ∧ ¬ mplc I w t (r : Int) < 0 ∧ mfit I (r : Int) k) (h := mhi I) (fun a b c => mhi_tr a b c) (fun a b => mhi_tot a b) (F := fun r a => if I 33 r ≠ 0 ∧ ¬ mplc I w t (r : Int) < 0 ∧ mfit I (r : Int) k ∧ (a < 0 ∨ mhi I (r : Int) a) then (r : Int) else a) (fun r a => by
    refine ite_congr ?_ (fun _ => rfl) (fun _ => rfl)
    exact propext ⟨fun z => ⟨⟨z.1, z.2.1, z.2.2.1⟩, z.2.2.2⟩, fun z => ⟨z.1.1, z.1.2.1, z.1.2.2, z.2⟩⟩) 16
  have X := xbest_spec (I := I) (c := c) (k := k) 6
  unfold mdue xdue
  rcases M with ⟨m1, m2⟩ | ⟨b, m1, m2, m3, m4⟩
  · rw [show mdb I w t k 16 = -1 from m1, if_pos (by decide)]
    rcases X with ⟨x1, _⟩ | ⟨q, x1, x2, x3, _⟩
    · rw [x1, xact, if_neg (by decide)]
    · exfalso
      have r0 := x3.1
      have h3 := h.1.2.2.1 q x1
      obtain ⟨r, hr⟩ : ∃ r : Nat, I c q = (r : Int) := ⟨(I c q).toNat, by omega⟩
      exact m2 r (by omega) ((hP r (by omega)).mpr ⟨q, x1, hr, x3⟩)
  · rw [show mdb I w t k 16 = (b : Int) from m1, if_neg (by omega), Int.toNat_natCast]
    obtain ⟨q0, q1, q2, q3⟩ := (hP b m2).mp m3
    rcases X with ⟨_, x2⟩ | ⟨q, x1, x2, x3, x4⟩
    · exact absurd q3 (x2 q0 q1)
    · have r0 := x3.1
      have h3 := h.1.2.2.1 q x1
      obtain ⟨r, hr⟩ : ∃ r : Nat, I c q = (r : Int) := ⟨(I c q).toNat, by omega⟩
      have hu : xuse I (r : Int) := ⟨by omega, by omega, by rw [← hr]; exact h.2.1 q x1 (by omega)⟩
      have hub : xuse I (b : Int) := ⟨by omega, by omega, by rw [← q2]; exact h.2.1 q0 q1 (by omega)⟩
      have hrb : r = b := by
        by_cases e : r = b
        · exact e
        · exfalso
          have g1 := m4 r (by omega) ((hP r (by omega)).mpr ⟨q, x1, hr, x3⟩) e
          have g2 := x4 q0 q1 q3 (by rw [q2, hr]; omega)
          rw [hr, q2] at g2
          exact xhi_asy ((RA_hi (use_num hub) (use_num hu) (CR_at hC hub).1 (CR_at hC hu).1).mp g1) g2
      subst hrb
      have e6 := (CR_at hC hu).2.2.1
      rw [Int.toNat_natCast] at e6
      rw [x2, hr, xact, if_pos (use_num hu), e6, Int.toNat_natCast]
theorem Row_over {I : Nat → Nat → Int} {w t c : Nat} {k r : Int} (hC : CR I) (h : Row I w t c) (hu : xuse I r) : mova I w t k r = -1 ↔ xover I c k r = -1 := by
  have h6 := h.1.2.1
  rw [mova, xover, zfs_ex, zfs_ex]
  refine not_congr ⟨?_, ?_⟩
  · rintro ⟨p, p1, p2, p3, p4, p5⟩
    rcases Row_cell h p1 with ⟨a1, a2⟩ | ⟨a1, a2, a3⟩
    · rw [a2] at p2; exact absurd (by decide) p2
    · rw [a2] at p4 p5
      exact ⟨p, by omega, (RA_fit (use_num a3) (CR_at hC a3).1).mp p4, (RA_hi (use_num a3) (use_num hu) (CR_at hC a3).1 (CR_at hC hu).1).mp p5⟩
  · rintro ⟨p, p1, p2, p3⟩
    by_cases hp : p < w
    · rcases Row_cell h hp with ⟨a1, a2⟩ | ⟨a1, a2, a3⟩
      · rw [a1] at p2; exact absurd p2 xfit_m1
      · refine ⟨p, hp, ?_⟩
        rw [a2]
        exact ⟨by have := a3.1; omega, fun e => by rw [e] at p3; exact xhi_asy p3 p3, (RA_fit (use_num a3) (CR_at hC a3).1).mpr p2, (RA_hi (use_num a3) (use_num hu) (CR_at hC a3).1 (CR_at hC hu).1).mpr p3⟩
    · rw [Row_out h (by omega) p1] at p2; exact absurd p2 xfit_m1
theorem Row_shown {I : Nat → Nat → Int} {w t c : Nat} {r : Int} (hC : CR I) (h : Row I w t c) (hu : xuse I r) : mshw I w t r = xshown I c r := by
  rw [mshw, xshown]
  refine zfv_congr 32 0 (fun j _ _ => ?_) (fun j _ _ _ => rfl)
  rw [RA_fit (use_num hu) (CR_at hC hu).1, Row_over hC h hu]
theorem zfv_or {P : Nat → Prop} [DecidablePred P] {f : Nat → Int} {d : Int} : ∀ k i, zfv P f d k i = d ∨ ∃ j, zfv P f d k i = f j
  | 0, _ => Or.inl rfl
  | k + 1, i => by
    by_cases hp : P i
    · rw [zfv_t hp]; exact Or.inr ⟨i, rfl⟩
    · rw [zfv_f hp]; exact zfv_or k (i + 1)
theorem xshown_in {I : Nat → Nat → Int} {c : Nat} {r : Int} : xshown I c r = -2 ∨ 0 ≤ xshown I c r := by
  rcases zfv_or (P := fun k => xfit I r (k : Int) ∧ xover I c (k : Int) r = -1) (f := fun k => (k : Int)) (d := -2) 32 0 with h | ⟨j, h⟩
  · exact Or.inl h
  · right; rw [show xshown I c r = (j : Int) from h]; omega
theorem Row_std {I : Nat → Nat → Int} {w t c : Nat} (h : Row I w t c) : mstd I w t = xst (I c) := by
  have h6 := h.1.2.1
  have t1 := zcnt_tail (P := fun p => I c p ≠ -1) (n := w) (6 - w) (fun p h1 h2 w2 => w2 (Row_out h h1 (by omega)))
  rw [show w + (6 - w) = 6 by omega] at t1
  rw [mstd, xst, t1]
  refine zcnt_congr w (fun p hp => ?_)
  rcases Row_cell h hp with ⟨a1, a2⟩ | ⟨a1, a2, a3⟩
  · rw [a1, a2]; exact ⟨fun z => absurd (by decide) z, fun z => absurd rfl z⟩
  · rw [a2]; exact ⟨fun _ => a1, fun _ => by have := a3.1; omega⟩
/-- the bounds of a search are alike -/
theorem mbr_RA {I : Nat → Nat → Int} {f : Nat → Int} {r : Int} {k m : Nat} (hC : CR I) (hk : (mem f 16).length = k) (hU : Us I f) (hr : RA I r.toNat) : RA I (mbr f r k m).toNat := by
  unfold mbr
  split
  · rename_i hm
    obtain ⟨x, p, a1, a2, a3, a4, a5, a6⟩ := mem_i hk hm
    rw [a1, Int.toNat_natCast]
    have := hU p a3 (by omega)
    rw [a5, Int.toNat_natCast] at this
    exact ((hC x a2).2.2 this).1
  · exact hr
theorem cB_mBr {I : Nat → Nat → Int} {f : Nat → Int} {r : Int} {k m o : Nat} (hC : CR I) (hk : (mem f 16).length = k) (hU : Us I f) (hr : RA I r.toNat) (hn : num r) (ho : o < k) : (cB I f r k m o ↔ mBr I f r k m o) ∧ (cA I f r k m o ↔ mAr I f r k m o) := by
  have r1 := mbr_RA (m := m) hC hk hU hr
  have r2 := mbr_RA (m := o) hC hk hU hr
  have n1 : num (mbr f r k m) := mbr_num hk hn
  have n2 : num (mbr f r k o) := mbr_num hk hn
  unfold cB mBr cA mAr
  rw [RA_ov n1 n2 r1 r2, RA_hi n2 n1 r2 r1]
  exact ⟨⟨fun h => h.2, fun h => ⟨ho, h⟩⟩, ⟨fun h => h.2, fun h => ⟨ho, h⟩⟩⟩
