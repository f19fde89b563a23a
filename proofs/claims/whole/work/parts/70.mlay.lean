/-! the reference: a rule comes to a table -/
set_option maxRecDepth 100000 in
theorem m_layIn {S : PS} {I Jc : Nat → Nat → Int} {Q : PV1 → Prop} {w3 w4 w5 : PV} {w t k g D p : Nat} {eg : QE} {f : Nat → Int} {r : Int} {B A : Nat → Nat → Prop} (hw : I 32 6 = (w : Int)) (ht : t < 2) (hV : VT Jc (w : Int) f) (hR : MRow I w t f) (hk : (mem f 16).length = k) (hk5 : k ≤ 5) (hMet : Mett I)
    (hr : num r) (hn : ∀ q, q < 6 → f q ≠ r) (hB : ∀ m o, m ≤ k → o < k → (B m o ↔ mBr I f r k m o)) (hA : ∀ m o, m ≤ k → o < k → (A m o ↔ mAr I f r k m o))
    (hG : xgoal (cmv w k B A) k (bq (cmv w k B A) k (ca0 f) 720) g D p eg) (hD : D ≤ 15)
    (hQ : ∀ J, Mett J → J 32 21 = ((D + 1 : Nat) : Int) → (∀ (x : Nat) (mp : Nat × Nat), (qway (bq (cmv w k B A) k (ca0 f) 720) D g)[x]? = some mp → J 48 x = mbr f r k mp.1 ∧ J 49 x = (mp.2 : Int)) → J 48 D = r → J 49 D = (p : Int) → (∀ f', RF f' (mem f 16) eg.1 r p k → MRow J w t f') → (∀ i, i < 6 * t ∨ 6 * t + w ≤ i → J 39 i = I 39 i) →
      (∀ d, d < 32 ∨ (32 < d ∧ d < 39) ∨ d = 40 ∨ 49 < d → J d = I d) → (∀ j, j ≠ 16 → j ≠ 18 → j ≠ 20 → j ≠ 21 → J 32 j = I 32 j) → Q (some (zI ((D + 1 : Nat) : Int)), zH S J)) : Wp 147 (0, [zA 32, zI (t : Int), zI r, w3, w4, w5], [], zH S I) Q := by
  have hw6 : w ≤ 6 := by have := hV.2.1; omega
  refine (sg_X6_layIn_0_32 _ _ _ _ _ _ _ _).mpr ?_
  refine m_search (Q2 := Q) hw ht hV hR hk hk5 hMet hr hn hB hA hG (fun I1 h1 h2 h3 h4 h5 => ?_)
  refine (sg_X6_layIn_5_32 _ _ _ _ _ _ _ _).mpr ?_
  refine h5 _ _ _ (fun J j1 j2 j3 => ?_)
  have hl := MQu_len hk5 h1
  have hgl := (List.getElem?_eq_some_iff.mp hG.1).1
  have hqg := h1.2.1 g eg hG.1
  have hbx := h1.2.2.2.2 eg (List.mem_of_getElem? hG.1)
  refine (sg_X6_layIn_10_32 _ _ _ _ _ _ _ _ _).mpr ?_
  rw [Int.toNat_natCast, j3 45 (by decide) (by decide), hqg.2.2.2, hG.2.1, Int.toNat_natCast, zad_s (by omega), zs2_ne _ _ _ _ (show 42 ≠ 49 by decide), zs2_ne _ _ _ _ (show 42 ≠ 48 by decide), zs2_ne _ _ _ _ (show 42 ≠ 32 by decide), j3 42 (by decide) (by decide), hqg.1, zs2_ne _ _ _ _ (show 32 ≠ 48 by decide), zs2_ne2 _ _ _ _ (show 20 ≠ 21 by decide), j1]
  refine zgd (by omega) (zgd (by omega) (zgd (by omega) (zgd (by omega) ?_)))
  generalize hK : zs2 (zs2 (zs2 J 32 21 ((D + 1 : Nat) : Int)) 48 D r) 49 D (p : Int) = K
  have kd : ∀ d, d ≠ 32 → d ≠ 47 → d ≠ 48 → d ≠ 49 → K d = I1 d := fun d d1 d2 d3 d4 => by
    rw [← hK, zs2_ne _ _ _ _ d4, zs2_ne _ _ _ _ d3, zs2_ne _ _ _ _ d1]; exact j3 d d1 d2
  have k32 : ∀ j, j ≠ 20 → j ≠ 21 → K 32 j = I1 32 j := fun j i1 i2 => by
    rw [← hK, zs2_ne _ _ _ _ (show 32 ≠ 49 by decide), zs2_ne _ _ _ _ (show 32 ≠ 48 by decide), zs2_ne2 _ _ _ _ i2]; exact j2 j i1
  have k20 : K 32 20 = (p : Int) := by
    rw [← hK, zs2_ne _ _ _ _ (show 32 ≠ 49 by decide), zs2_ne _ _ _ _ (show 32 ≠ 48 by decide), zs2_ne2 _ _ _ _ (by decide)]; exact j1
  have k21 : K 32 21 = ((D + 1 : Nat) : Int) := by
    rw [← hK, zs2_ne _ _ _ _ (show 32 ≠ 49 by decide), zs2_ne _ _ _ _ (show 32 ≠ 48 by decide), zs2_at]
  have k48 : K 48 D = r := by rw [← hK, zs2_ne _ _ _ _ (show 48 ≠ 49 by decide), zs2_at]
  have k49 : K 49 D = (p : Int) := by rw [← hK, zs2_at]
  have kw : K 32 6 = (w : Int) := by rw [k32 6 (by decide) (by decide), h4.2 6 (by decide) (by decide)]; exact hw
  refine m_setRow kw hw6 (c7l_in (k := k) (by omega) hw6 hbx.1) ?_
  refine (sg_X6_layIn_56_32 _ _ _ _ _ _ _ _).mpr ?_
  have hbq := bq_good (mv := cmv w k B A) (k := k) cmv_out (ca0_barr hk) 720
  have loop : ∀ (j q : Nat) (M : Nat → Nat → Int), q + j = w → (∀ d, d ≠ 39 → d ≠ 47 → M d = K d) → (∀ x, x < w → M 47 x = rw7 eg.1 x) → (∀ i, i < 6 * t ∨ 6 * t + w ≤ i → M 39 i = K 39 i) → (∀ x, x < q → M 39 (6 * t + x) = if rw7 eg.1 x = 6 then -2 else mbr f r k (rw7 eg.1 x).toNat) →
      Wp 147 (59, [zA 32, zI (t : Int), zI r, zI (g : Int), zI (D : Int), zI (q : Int)], [], zH S M) Q := by
    intro j
    induction j with
    | zero =>
      intro q M hq m1 m2 m3 m4
      obtain rfl : q = w := by omega
      have hp := hG.2.2.1.1
      refine (sg_X6_layIn_59_32 _ _ _ _ _ _ _ _).mpr ?_
      rw [m1 32 (by decide) (by decide), kw, k20, zix (p := p) ht (by omega)]
      refine zcd (fun h => absurd h (by omega)) (fun _ => zgd (by omega) ?_)
      rw [Int.toNat_natCast]
      have hMM : MQu (zs2 M 39 (6 * t + p) r) q k (bq (cmv q k B A) k (ca0 f) 720) := by
        refine MQu_32 h1 ?_ ?_ ?_ ?_ ?_ ?_
        · rw [zs2_ne _ _ _ _ (by decide), m1 32 (by decide) (by decide)]; exact k32 16 (by decide) (by decide)
        · rw [zs2_ne _ _ _ _ (by decide), m1 41 (by decide) (by decide)]; exact kd 41 (by decide) (by decide) (by decide) (by decide)
        · rw [zs2_ne _ _ _ _ (by decide), m1 42 (by decide) (by decide)]; exact kd 42 (by decide) (by decide) (by decide) (by decide)
        · rw [zs2_ne _ _ _ _ (by decide), m1 43 (by decide) (by decide)]; exact kd 43 (by decide) (by decide) (by decide) (by decide)
        · rw [zs2_ne _ _ _ _ (by decide), m1 44 (by decide) (by decide)]; exact kd 44 (by decide) (by decide) (by decide) (by decide)
        · rw [zs2_ne _ _ _ _ (by decide), m1 45 (by decide) (by decide)]; exact kd 45 (by decide) (by decide) (by decide) (by decide)
      refine m_back hk5 hMM hbq.2.2.1 hG.1 hG.2.1 hD (fun N n1 n2 n3 => ?_)
      have e46 : zs2 M 39 (6 * t + p) r 46 = I1 46 := by rw [zs2_ne _ _ _ _ (by decide), m1 46 (by decide) (by decide)]; exact kd 46 (by decide) (by decide) (by decide) (by decide)
      have e32 : zs2 M 39 (6 * t + p) r 32 = K 32 := by rw [zs2_ne _ _ _ _ (by decide), m1 32 (by decide) (by decide)]
      rw [e32, k21]
      have n39 : ∀ i, N 39 i = zs2 M 39 (6 * t + p) r 39 i := fun i => by rw [n3 39 (by decide) (by decide)]
      refine hQ N (Mett_of hk5 hw6 (MQu_32 hMM (by rw [n3 32 (by decide) (by decide)]) (n3 41 (by decide) (by decide)) (n3 42 (by decide) (by decide)) (n3 43 (by decide) (by decide)) (n3 44 (by decide) (by decide)) (n3 45 (by decide) (by decide)))) (by rw [n3 32 (by decide) (by decide), e32]; exact k21) (fun x mp hx => ?_) ?_ ?_ (fun f' hF => ?_) (fun i hi => ?_) (fun d hd => ?_) (fun j i1 i2 i3 i4 => ?_)
      · have := n1 x mp hx
        have hm := qway_in hbq.2.2.1 D g eg hG.1 hG.2.1 x mp hx
        rw [e46, h2 mp.1 hm] at this
        exact this
      · rw [(n2 D (Nat.le_refl D)).1, zs2_ne _ _ _ _ (by decide), m1 48 (by decide) (by decide)]; exact k48
      · rw [(n2 D (Nat.le_refl D)).2, zs2_ne _ _ _ _ (by decide), m1 49 (by decide) (by decide)]; exact k49
      · intro x hx
        obtain ⟨f1, f2, f3⟩ := hF
        rw [n39]
        by_cases c : x = p
        · subst c
          rw [zs2_at, f2, if_neg (by have := hr.1; omega)]
        · rw [zs2_ne2 _ _ _ _ (by omega), m4 x hx]
          by_cases c2 : x ∈ eg.1
          · obtain ⟨o, ho, e⟩ := (barr_ex hbx.1).mp c2
            have h7 := rw7_at hbx.1 ho
            rw [e] at h7
            have hf := f1 o ho
            rw [e] at hf
            rw [h7, if_neg (by omega), Int.toNat_natCast, hf, if_neg gD_ne, mbr, if_pos ho]
          · rw [rw7_no c2, if_pos rfl, f3 x (by omega) c2 c, if_pos rfl]
      · rw [n39, zs2_ne2 _ _ _ _ (by omega), m3 i hi, kd 39 (by decide) (by decide) (by decide) (by decide), h4.1 39 (by decide) (by decide) (by decide) (by decide) (by decide) (by decide) (by decide) (by decide)]
      · rw [n3 d (by omega) (by omega), zs2_ne _ _ _ _ (by omega), m1 d (by omega) (by omega), kd d (by omega) (by omega) (by omega) (by omega)]
        exact h4.1 d (by omega) (by omega) (by omega) (by omega) (by omega) (by omega) (by omega) (by omega)
      · rw [n3 32 (by decide) (by decide), e32, k32 j i3 i4]; exact h4.2 j i1 i2
    | succ j ih =>
      intro q M hq m1 m2 m3 m4
      have hqw : q < w := by omega
      have h7 := rw7_in (k := k) (by omega) hbx.1 q
      refine (sg_X6_layIn_59_32 _ _ _ _ _ _ _ _).mpr ?_
      rw [m1 32 (by decide) (by decide), kw, zix ht (by omega), zad_s (i := q) (by omega), Int.toNat_natCast, Int.toNat_natCast, m2 q hqw, m1 46 (by decide) (by decide), kd 46 (by decide) (by decide) (by decide) (by decide)]
      refine zcd (fun _ => zgd (by omega) ?_) (fun h => absurd (by omega) h)
      have step : ∀ y : Int, y = (if rw7 eg.1 q = 6 then -2 else mbr f r k (rw7 eg.1 q).toNat) → Wp 147 (59, [zA 32, zI (t : Int), zI r, zI (g : Int), zI (D : Int), zI ((q + 1 : Nat) : Int)], [], zH S (zs2 M 39 (6 * t + q) y)) Q := fun y hy => by
        refine ih (q + 1) _ (by omega) (fun d d1 d2 => by rw [zs2_ne _ _ _ _ d1]; exact m1 d d1 d2) (fun x hx => by rw [zs2_ne _ _ _ _ (by decide)]; exact m2 x hx) (fun i hi => by rw [zs2_ne2 _ _ _ _ (by omega)]; exact m3 i hi) (fun x hx => ?_)
        by_cases c : x = q
        · subst c; rw [zs2_at]; exact hy
        · rw [zs2_ne2 _ _ _ _ (by omega)]; exact m4 x (by omega)
      refine zcd (fun h6 => zgd (by omega) (step _ (by rw [if_pos h6]))) (fun h6 => zgd (by omega) (zgd (by omega) (zgd (by omega) (step _ ?_))))
      rw [if_neg h6]
      obtain ⟨_, o, ho, e1, _⟩ := rw7_lt (by omega) hbx.1 (p := q) (by omega)
      rw [e1, Int.toNat_natCast, h2 o ho]
  refine loop w 0 _ (by omega) (fun d d1 d2 => by rw [zmapc_ne _ _ _ _ d2]) (fun x hx => by rw [zmapc_at _ _ _ _ hx, c7l_dig (k := k) (by omega) hbx.1 hx]) (fun i hi => by rw [zmapc_ne _ _ _ _ (by decide)]) (fun x hx => absurd hx (by omega))
