/-! the reference: spare -/
theorem m_spare_n {S : PS} {I : Nat → Nat → Int} {Q : PV1 → Prop} {t rk : Int} {w3 w4 w5 w6 : PV} (ht : t < 0 ∨ 2 ≤ t) (hQ : Q (some (zI (-1)), zH S I)) : Wp 159 (0, [zA 32, zI t, zI rk, w3, w4, w5, w6], [], zH S I) Q := by
  refine (sg_X6_spare_0_32 _ _ _ _ _ _ _ _ _).mpr ?_
  refine m_isTable ?_
  refine (sg_X6_spare_4_32 _ _ _ _ _ _ _ _ _ _).mpr ?_
  exact zcdB (fun _ => hQ) (fun h => absurd h (by omega))
/-- fewer bounds: a goal no later -/
theorem goal_less {k w g D p : Nat} {L : List QE} {eg : QE} {B A B' A' : Nat → Nat → Prop} (hG : xgoal (cmv w k B A) k L g D p eg) (hs : ∀ (i j : Nat) (x y : QE), i ≤ j → L[i]? = some x → L[j]? = some y → x.2.2.2.2 ≤ y.2.2.2.2) (hB : ∀ o, o < k → B' k o → B k o) (hA : ∀ o, o < k → A' k o → A k o) :
    ∃ g' D' p' eg', xgoal (cmv w k B' A') k L g' D' p' eg' ∧ D' ≤ D := by
  obtain ⟨G1, G2, G3, G4, G5⟩ := hG
  have ex : cmv w k B' A' eg.1 k p := ⟨G3.1, G3.2.1, fun o ho => ⟨fun b => (G3.2.2 o ho).1 (hB o ho b), fun b => (G3.2.2 o ho).2 (hA o ho b)⟩⟩
  obtain ⟨g', e', a1, a2, a3⟩ := first_of (L := L) (G := fun a => ∃ q, cmv w k B' A' a k q) ⟨g, eg, G1, p, ex⟩
  obtain ⟨p', b1, b2⟩ := least_of a2
  have hle : g' ≤ g := by
    by_cases c : g' ≤ g
    · exact c
    · exact absurd ⟨p, ex⟩ (a3 g eg (by omega) G1)
  exact ⟨g', e'.2.2.2.2, p', e', ⟨a1, rfl, b1, b2, fun j x hj hx q hq => a3 j x hj hx ⟨q, hq⟩⟩, by rw [← G2]; exact hs g' g e' eg hle a1 G1⟩
/-- what a spare leaves -/
def fsp (I J : Nat → Nat → Int) (rk : Int) : Prop := (∀ d, d ≠ 32 → d ≠ 35 → d ≠ 36 → d ≠ 37 → d ≠ 47 → J d = I d) ∧ (∀ j, j ≠ 20 → J 32 j = I 32 j) ∧ (∀ j, j ≠ 16 → J 35 j = I 35 j ∧ J 36 j = I 36 j ∧ J 37 j = I 37 j) ∧ J 37 16 = rk
theorem mbr_16 {f : Nat → Int} {r : Int} {k o : Nat} (hk : (mem f 16).length = k) (ho : o < k) : ∃ x : Nat, mbr f r k o = (x : Int) ∧ x < 16 := by
  obtain ⟨x, p, a1, a2, _⟩ := mem_i hk ho
  exact ⟨x, by rw [mbr, if_pos ho, a1], a2⟩
theorem zan_z (x y : Int) : zan (zan x 0) y = 0 := by
  rw [zan_0, zan, zofI]
  apply Int32.toBitVec_inj.mp
  simp
set_option maxRecDepth 100000 in
theorem m_spare {S : PS} {I Jc : Nat → Nat → Int} {Q : PV1 → Prop} {rk : Int} {w3 w4 w5 w6 : PV} {w t k g D p : Nat} {eg : QE} {f : Nat → Int} {B A : Nat → Nat → Prop} (hw : I 32 6 = (w : Int)) (ht : t < 2) (hV : VT Jc (w : Int) f) (hR : MRow I w t f)
    (hQ1 : ¬ (0 ≤ rk ∧ rk ≤ 99) → Q (some (zI (-1)), zH S I)) (hQ2 : (0 ≤ rk ∧ rk ≤ 99) → ¬ xst f < w → Q (some (zI (-3)), zH S I))
    (hQ3 : (0 ≤ rk ∧ rk ≤ 99) → xst f < w → ((mem f 16).length = k ∧ k ≤ 5 ∧ Mett I) ∧ (∀ m o, m < k → o < k → ((B m o ↔ mBr I f 16 k m o) ∧ (A m o ↔ mAr I f 16 k m o))) ∧
      (∀ o, o < k → ((B k o ↔ (rk < I 37 (mbr f 16 k o).toNat ∨ I 37 (mbr f 16 k o).toNat = rk)) ∧ (A k o ↔ ¬ (rk < I 37 (mbr f 16 k o).toNat ∨ I 37 (mbr f 16 k o).toNat = rk)))) ∧
      xgoal (cmv w k B A) k (bq (cmv w k B A) k (ca0 f) 720) g D p eg ∧ D ≤ 15 ∧
      ∀ J, Mett J → (∀ d, d ≠ 32 → d ≠ 35 → d ≠ 36 → d ≠ 37 → (d < 41 ∨ 47 < d) → J d = I d) → (∀ j, j ≠ 16 → j ≠ 18 → j ≠ 20 → J 32 j = I 32 j) → (∀ j, j ≠ 16 → J 35 j = I 35 j ∧ J 36 j = I 36 j ∧ J 37 j = I 37 j) → Q (some (zI ((D + 1 : Nat) : Int)), zH S J)) :
    Wp 159 (0, [zA 32, zI (t : Int), zI rk, w3, w4, w5, w6], [], zH S I) Q := by
  have hw6 : w ≤ 6 := by have := hV.2.1; omega
  refine (sg_X6_spare_0_32 _ _ _ _ _ _ _ _ _).mpr ?_
  refine m_isTable ?_
  refine (sg_X6_spare_4_32 _ _ _ _ _ _ _ _ _ _).mpr ?_
  refine zcdB (fun h => absurd (by omega) h) (fun _ => ?_)
  refine m_in ?_
  refine (sg_X6_spare_14_32 _ _ _ _ _ _ _ _ _ _).mpr ?_
  refine zcdB (fun h => hQ1 h) (fun hrk => ?_)
  refine m_hasFree ht hw hw6 (fun x x1 x2 => ?_)
  have x3 : x = 1 ↔ xst f < w := by
    rw [x2, ← free_iff hV]
    constructor
    · rintro ⟨p, p1, p2⟩
      refine ⟨p, p1, ?_⟩
      rw [hR p p1] at p2
      have := hV.2.2.1 p (by omega)
      split at p2 <;> omega
    · rintro ⟨p, p1, p2⟩
      exact ⟨p, p1, by rw [hR p p1, if_pos p2]⟩
  refine (sg_X6_spare_24_32 _ _ _ _ _ _ _ _ _ _).mpr ?_
  refine zcd (fun h0 => hQ2 hrk (fun c => by have := x3.mpr c; omega)) (fun h0 => ?_)
  obtain ⟨⟨hk, hk5, hMet⟩, hBA, hBk, hG, hD, hQ⟩ := hQ3 hrk (x3.mp (by omega))
  have em : ∀ o, o < k → mbr f 16 k o = gD (mem f 16) o := fun o ho => by rw [mbr, if_pos ho]
  have ek : mbr f 16 k k = 16 := by rw [mbr, if_neg (by omega)]
  have hbq := bq_good (mv := cmv w k B A) (k := k) cmv_out (ca0_barr hk) 720
  have hn16 : ∀ q, q < 6 → f q ≠ 16 := fun q hq e => by have := hV.2.2.1 q hq; omega
  refine m_findStates (B := B) (A := A) hw ht hV hR hk hk5 hMet (fun m o hm ho => by rw [(hBA m o hm ho).1, mBr, em m hm, em o ho]) (fun m o hm ho => by rw [(hBA m o hm ho).2, mAr, em m hm, em o ho]) (fun I1 h1 h2 h3 h4 => ?_)
  generalize hL : bq (cmv w k B A) k (ca0 f) 720 = L at hG hbq h1
  have hl := MQu_len hk5 h1
  refine (sg_X6_spare_35_32 _ _ _ _ _ _ _ _ _).mpr ?_
  refine zgd (by omega) ?_
  -- the end
  have fin : ∀ (J : Nat → Nat → Int), fsp I1 J rk → Q (some (zI ((D + 1 : Nat) : Int)), zH S J) := fun J hJ => by
    obtain ⟨j1, j2, j3, j4⟩ := hJ
    refine hQ J ?_ (fun d d1 d2 d3 d4 d5 => ?_) (fun j a1 a2 a3 => ?_) (fun j hj => ?_)
    · have hm := Mett_of hk5 hw6 h1
      exact Mett_32 hm (j2 16 (by decide)) (j1 41 (by decide) (by decide) (by decide) (by decide) (by decide)) (j1 42 (by decide) (by decide) (by decide) (by decide) (by decide))
    · rw [j1 d d1 d2 d3 d4 (by omega)]
      exact h4.1 d d1 (by omega) (by omega) (by omega) (by omega) (by omega) (by omega) (by omega)
    · rw [j2 j a3]; exact h4.2 j a1 a2
    · rw [(j3 j hj).1, (j3 j hj).2.1, (j3 j hj).2.2, h4.1 35 (by decide) (by decide) (by decide) (by decide) (by decide) (by decide) (by decide) (by decide), h4.1 36 (by decide) (by decide) (by decide) (by decide) (by decide) (by decide) (by decide) (by decide), h4.1 37 (by decide) (by decide) (by decide) (by decide) (by decide) (by decide) (by decide) (by decide)]
      exact ⟨rfl, rfl, rfl⟩
  -- one mask, one value
  have one : ∀ (J : Nat → Nat → Int) (mk vl x3 : Int) (v1 v2 v6 : PV), fsp I1 J rk → vl < 32 → zan vl (zxr mk (-1)) = 0 →
      (∀ (J' : Nat → Nat → Int) (D' : Nat) (v6 : PV), fsp I1 J' rk → D' ≤ D → (mk = 0 → D' = D) → (x3 < ((D' + 1 : Nat) : Int) → Wp 159 (58, [zA 32, v1, v2, zI ((D' + 1 : Nat) : Int), zI mk, zI (zad vl 1), v6], [], zH S J') Q) ∧ (¬ x3 < ((D' + 1 : Nat) : Int) → Wp 159 (58, [zA 32, v1, v2, zI x3, zI mk, zI (zad vl 1), v6], [], zH S J') Q)) →
      Wp 159 (58, [zA 32, v1, v2, zI x3, zI mk, zI vl, v6], [], zH S J) Q := by
    intro J mk vl x3 v1 v2 v6 hJ hv hz nx
    obtain ⟨j1, j2, j3, j4⟩ := hJ
    refine (sg_X6_spare_58_32 _ _ _ _ _ _ _ _ _).mpr ?_
    refine zcd (fun _ => zcd (fun _ => zgd (by omega) (zgd (by omega) ?_)) (fun h => absurd hz h)) (fun h => absurd hv h)
    rw [show (16 : Int).toNat = 16 from rfl]
    generalize hK : zs2 (zs2 J 36 16 mk) 35 16 vl = K
    have kd : ∀ d, d ≠ 35 → d ≠ 36 → K d = J d := fun d d1 d2 => by rw [← hK, zs2_ne _ _ _ _ d1, zs2_ne _ _ _ _ d2]
    have k35 : ∀ j, j ≠ 16 → K 35 j = J 35 j := fun j hj => by rw [← hK, zs2_ne2 _ _ _ _ hj, zs2_ne _ _ _ _ (by decide)]
    have k36 : ∀ j, j ≠ 16 → K 36 j = J 36 j := fun j hj => by rw [← hK, zs2_ne _ _ _ _ (by decide), zs2_ne2 _ _ _ _ hj]
    have k36m : K 36 16 = mk := by rw [← hK, zs2_ne _ _ _ _ (by decide), zs2_at]
    have kfs : fsp I1 K rk := ⟨fun d d1 d2 d3 d4 d5 => by rw [kd d d2 d3]; exact j1 d d1 d2 d3 d4 d5, fun j hj => by rw [kd 32 (by decide) (by decide)]; exact j2 j hj, fun j hj => by rw [k35 j hj, k36 j hj, kd 37 (by decide) (by decide)]; exact j3 j hj, by rw [kd 37 (by decide) (by decide)]; exact j4⟩
    have hMK : MQu K w k L := MQu_32 h1 (kfs.2.1 16 (by decide)) (kfs.1 41 (by decide) (by decide) (by decide) (by decide) (by decide)) (kfs.1 42 (by decide) (by decide) (by decide) (by decide) (by decide)) (kfs.1 43 (by decide) (by decide) (by decide) (by decide) (by decide)) (kfs.1 44 (by decide) (by decide) (by decide) (by decide) (by decide)) (kfs.1 45 (by decide) (by decide) (by decide) (by decide) (by decide))
    -- the rank of a member against the told one
    have hhi : ∀ o, o < k → (mhi K (mbr f 16 k o) (mbr f 16 k k) ↔ (rk < I 37 (mbr f 16 k o).toNat ∨ I 37 (mbr f 16 k o).toNat = rk)) := fun o ho => by
      obtain ⟨x, a1, a2⟩ := mbr_16 (r := 16) hk ho
      rw [ek, a1, mhi, Int.toNat_natCast, show (16 : Int).toNat = 16 from rfl, kfs.2.2.2, (kfs.2.2.1 x (by omega)).2.2, h4.1 37 (by decide) (by decide) (by decide) (by decide) (by decide) (by decide) (by decide) (by decide)]
      omega
    obtain ⟨g', D', p', e', hG', hD', hD0⟩ : ∃ g' D' p' e', xgoal (cmv w k (fun m o => mBr K f 16 k m o) (fun m o => mAr K f 16 k m o)) k L g' D' p' e' ∧ D' ≤ D ∧ (mk = 0 → D' = D) := by
      by_cases e0 : mk = 0
      · have ov : ∀ o, mov K (mbr f 16 k k) (mbr f 16 k o) := fun o => by
          rw [ek, mov, show (16 : Int).toNat = 16 from rfl, k36m, e0]
          exact zan_z _ _
        have same : ∀ a q, cmv w k (fun m o => mBr K f 16 k m o) (fun m o => mAr K f 16 k m o) a k q ↔ cmv w k B A a k q := fun a q => by
          unfold cmv
          refine and_congr_right (fun _ => and_congr_right (fun _ => forall_congr' (fun o => imp_congr_right (fun ho => ?_))))
          have e1 : mBr K f 16 k k o ↔ B k o := by
            rw [(hBk o ho).1, ← hhi o ho, mBr]
            exact ⟨fun z => z.2.2, fun z => ⟨by omega, ov o, z⟩⟩
          have e2 : mAr K f 16 k k o ↔ A k o := by
            rw [(hBk o ho).2, ← hhi o ho, mAr]
            exact ⟨fun z => z.2.2, fun z => ⟨by omega, ov o, z⟩⟩
          exact and_congr (imp_congr_left e1) (imp_congr_left e2)
        exact ⟨g, D, p, eg, ⟨hG.1, hG.2.1, (same _ _).mpr hG.2.2.1, fun q hq c => hG.2.2.2.1 q hq ((same _ _).mp c), fun j x hj hx q c => hG.2.2.2.2 j x hj hx q ((same _ _).mp c)⟩, Nat.le_refl D, fun _ => rfl⟩
      · obtain ⟨g', D', p', e', a1, a2⟩ := goal_less (B' := fun m o => mBr K f 16 k m o) (A' := fun m o => mAr K f 16 k m o) hG hbq.2.2.2.1 (fun o ho c => (hBk o ho).1.mpr ((hhi o ho).mp c.2.2)) (fun o ho c => (hBk o ho).2.mpr (fun z => c.2.2 ((hhi o ho).mpr z)))
        exact ⟨g', D', p', e', a1, a2, fun c => absurd c e0⟩
    have hgl := (List.getElem?_eq_some_iff.mp hG'.1).1
    have st := m_stateFor (S := S) (w2 := zU) (w3 := zU) (B := fun m o => mBr K f 16 k m o) (A := fun m o => mAr K f 16 k m o) (mbr f 16 k) hk5 (by rw [kfs.2.1 6 (by decide), h4.2 6 (by decide) (by decide)]; exact hw) hw6 hMK (fun o ho => by rw [kfs.1 46 (by decide) (by decide) (by decide) (by decide) (by decide), em o ho]; exact h2 o ho) (fun o _ => mbr_num hk (by decide)) (fun o ho => mbr_inj hk hn16 (by omega) (Nat.le_refl k) (by omega)) (fun o ho => Iff.rfl) (fun o ho => Iff.rfl) hG'
      (Q := fun w => Wp 159 (103, [zA 32, v1, v2, zI x3, zI mk, zI vl, v6], w.1.toList ++ [zA 45], w.2) Q) (fun J2 b1 b2 b3 => ?_)
    · rw [ek] at st; exact st
    have fJ2 : fsp I1 J2 rk := ⟨fun d d1 d2 d3 d4 d5 => by rw [b3 d d1 d5]; exact kfs.1 d d1 d2 d3 d4 d5, fun j hj => by rw [b2 j hj]; exact kfs.2.1 j hj, fun j hj => by rw [b3 35 (by decide) (by decide), b3 36 (by decide) (by decide), b3 37 (by decide) (by decide)]; exact kfs.2.2.1 j hj, by rw [b3 37 (by decide) (by decide)]; exact kfs.2.2.2⟩
    refine (sg_X6_spare_103_32_45 _ _ _ _ _ _ _ _ _ _).mpr ?_
    have hd := (hMK.2.1 g' e' hG'.1).2.2.2
    rw [Int.toNat_natCast, b3 45 (by decide) (by decide), hd, hG'.2.1, zad_s (i := D') (by omega)]
    refine zgd (by omega) ?_
    have n2 := nx J2 D' (zI ((D' + 1 : Nat) : Int)) fJ2 hD' hD0
    exact zcd (fun h => n2.1 h) (fun h => n2.2 h)
  -- the values of a mask, the most being told
  have vals : ∀ (j i : Nat) (mk : Nat) (J : Nat → Nat → Int) (v1 v2 v6 : PV), i + j = 32 → mk < 32 → fsp I1 J rk → (∀ (J' : Nat → Nat → Int) (v5 v6 : PV), fsp I1 J' rk → Wp 159 (48, [zA 32, v1, v2, zI ((D + 1 : Nat) : Int), zI ((mk + 1 : Nat) : Int), v5, v6], [], zH S J') Q) → Wp 159 (58, [zA 32, v1, v2, zI ((D + 1 : Nat) : Int), zI (mk : Int), zI (i : Int), v6], [], zH S J) Q := by
    intro j
    induction j with
    | zero =>
      intro i mk J v1 v2 v6 hi hmk hJ nx
      refine (sg_X6_spare_58_32 _ _ _ _ _ _ _ _ _).mpr ?_
      rw [zad_s (i := mk) (by omega)]
      exact zcd (fun h => absurd h (by omega)) (fun _ => nx J _ _ hJ)
    | succ j ih =>
      intro i mk J v1 v2 v6 hi hmk hJ nx
      by_cases hz : zan (i : Int) (zxr (mk : Int) (-1)) = 0
      · refine one J (mk : Int) (i : Int) _ v1 v2 v6 hJ (by omega) hz (fun J' D' v6 hJ' hD' _ => ⟨fun h => absurd h (by omega), fun _ => ?_⟩)
        rw [zad_s (i := i) (by omega)]
        exact ih (i + 1) mk J' v1 v2 v6 (by omega) hmk hJ' nx
      · refine (sg_X6_spare_58_32 _ _ _ _ _ _ _ _ _).mpr ?_
        rw [zad_s (i := i) (by omega)]
        exact zcd (fun _ => zcd (fun h => absurd h hz) (fun _ => ih (i + 1) mk J v1 v2 v6 (by omega) hmk hJ nx)) (fun h => absurd (by omega) h)
  have masks : ∀ (j mk : Nat) (J : Nat → Nat → Int) (v1 v2 v5 v6 : PV), mk + j = 32 → fsp I1 J rk → Wp 159 (48, [zA 32, v1, v2, zI ((D + 1 : Nat) : Int), zI (mk : Int), v5, v6], [], zH S J) Q := by
    intro j
    induction j with
    | zero =>
      intro mk J v1 v2 v5 v6 hmk hJ
      refine (sg_X6_spare_48_32 _ _ _ _ _ _ _ _ _).mpr ?_
      exact zcd (fun h => absurd h (by omega)) (fun _ => fin J hJ)
    | succ j ih =>
      intro mk J v1 v2 v5 v6 hmk hJ
      refine (sg_X6_spare_48_32 _ _ _ _ _ _ _ _ _).mpr ?_
      exact zcd (fun _ => vals 32 0 mk J v1 v2 v6 (by omega) (by omega) hJ (fun J' v5 v6 hJ' => ih (mk + 1) J' v1 v2 v5 v6 (by omega) hJ')) (fun h => absurd (by omega) h)
  rw [show (16 : Int).toNat = 16 from rfl]
  generalize hJ0 : zs2 I1 37 16 rk = J0
  have f0 : fsp I1 J0 rk := ⟨fun d _ _ _ d4 _ => by rw [← hJ0, zs2_ne _ _ _ _ d4], fun j _ => by rw [← hJ0, zs2_ne _ _ _ _ (by decide)], fun j hj => by rw [← hJ0, zs2_ne _ _ _ _ (by decide), zs2_ne _ _ _ _ (by decide), zs2_ne2 _ _ _ _ hj]; exact ⟨rfl, rfl, rfl⟩, by rw [← hJ0, zs2_at]⟩
  refine (sg_X6_spare_48_32 _ _ _ _ _ _ _ _ _).mpr ?_
  refine zcd (fun _ => ?_) (fun h => absurd (by decide) h)
  refine one J0 0 0 0 _ _ _ f0 (by decide) (by decide) (fun J' D' v6 hJ' hD' hD0 => ⟨fun _ => ?_, fun h => absurd (by omega) h⟩)
  rw [hD0 rfl]
  exact vals 31 1 0 J' _ _ _ (by omega) (by omega) hJ' (fun J2 v5 v6 hJ2 => masks 31 1 J2 _ _ v5 v6 (by omega) hJ2)
