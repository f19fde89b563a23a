/-! pairs: spare, build -/
theorem mbr_RB {I : Nat → Nat → Int} {f : Nat → Int} {r : Int} {k m : Nat} (hC : CR I) (hk : (mem f 16).length = k) (hU : Us I f) (hm : m < k) : ∃ x : Nat, mbr f r k m = (x : Int) ∧ x < 16 ∧ RA I x := by
  obtain ⟨x, p, a1, a2, a3, a4, a5, a6⟩ := mem_i hk hm
  have := hU p a3 (by omega)
  rw [a5, Int.toNat_natCast] at this
  exact ⟨x, by rw [mbr, if_pos hm, a1], a2, ((hC x a2).2.2 this).1⟩
theorem xset_at {I : Nat → Nat → Int} {k v m rk a : Int} {u j : Nat} : xset I (u : Int) k v m rk a 2 j = (if j = u then k else I 2 j) ∧ xset I (u : Int) k v m rk a 3 j = (if j = u then v else I 3 j) ∧ xset I (u : Int) k v m rk a 4 j = (if j = u then m else I 4 j) ∧ xset I (u : Int) k v m rk a 5 j = (if j = u then rk else I 5 j) ∧ xset I (u : Int) k v m rk a 6 j = (if j = u then a else I 6 j) := by
  unfold xset
  rw [Int.toNat_natCast]
  refine ⟨?_, ?_, ?_, ?_, ?_⟩
  all_goals
    try simp (disch := decide) only [zs2_ne]
    rw [zs2_j]
    try simp (disch := decide) only [zs2_ne]
theorem Us_16 {I J : Nat → Nat → Int} {f : Nat → Int} (hr : ∀ p, p < 6 → -1 ≤ f p ∧ f p ≤ 15) (hU : Us I f) (e : ∀ r, r < 16 → J 2 r = I 2 r) : Us J f := Us_us hr hU (fun r hr _ => e r hr)
set_option maxRecDepth 100000 in
theorem pr_spare_7 {S : PS} {I : Nat → Nat → Int} {w : Nat} {t rk : Int} (ht : t = 0) (h : Cpl I w) : Wp 96 (0, [zA 0, zI t, zI rk, zU], [], zH S I) (PQ S 159 [zA 32, zI t, zI rk, zU, zU, zU, zU]) := by
  have hC := h.2.2.1
  refine c_spare_7 ht (by rw [h.1.2.2.1]; exact h.2.2.2.1.1.1) (fun hno => ?_) (fun hok hfull => ?_) (fun hok hfree k N g D p eg I1 hF hd => ?_)
  · subst ht
    exact pq_ro h (fun Q hQ => m_spare (t := 0) (k := 0) (g := 0) (D := 0) (p := 0) (eg := ([], 0, 0, 0, 0)) (B := fun _ _ => True) (A := fun _ _ => True) h.1.2.1 (by decide) h.2.2.2.1.1.1 h.2.2.2.1.1.2.2 (fun _ => hQ) (fun c => absurd (by omega) hno) (fun c => absurd (by omega) hno))
  · subst ht
    rw [h.1.2.2.1] at hfull
    exact pq_ro h (fun Q hQ => m_spare (t := 0) (k := 0) (g := 0) (D := 0) (p := 0) (eg := ([], 0, 0, 0, 0)) (B := fun _ _ => True) (A := fun _ _ => True) h.1.2.1 (by decide) h.2.2.2.1.1.1 h.2.2.2.1.1.2.2 (fun c => absurd (by omega) c) (fun _ _ => hQ) (fun _ c => absurd c (by omega)))
  · obtain ⟨f1, f2, hk, hkN, hG, hD⟩ := hF
    have hX16 : xset I 16 0 0 0 rk 0 = xset I ((16 : Nat) : Int) 0 0 0 rk 0 := rfl
    rw [hX16] at f1 hk hG hd
    generalize hX : xset I ((16 : Nat) : Int) 0 0 0 rk 0 = X at f1 hk hG hd
    have xne : ∀ d, d < 2 ∨ 6 < d → X d = I d := fun d a => by rw [← hX]; exact xset_ne a
    have xat : ∀ j, X 2 j = (if j = 16 then 0 else I 2 j) ∧ X 3 j = (if j = 16 then 0 else I 3 j) ∧ X 4 j = (if j = 16 then 0 else I 4 j) ∧ X 5 j = (if j = 16 then rk else I 5 j) ∧ X 6 j = (if j = 16 then 0 else I 6 j) := fun j => by rw [← hX]; exact xset_at
    have x16 : ∀ j, j < 16 → X 2 j = I 2 j ∧ X 3 j = I 3 j ∧ X 4 j = I 4 j ∧ X 5 j = I 5 j ∧ X 6 j = I 6 j := fun j hj => by
      obtain ⟨a1, a2, a3, a4, a5⟩ := xat j
      rw [a1, a2, a3, a4, a5, if_neg (by omega), if_neg (by omega), if_neg (by omega), if_neg (by omega), if_neg (by omega)]
      exact ⟨rfl, rfl, rfl, rfl, rfl⟩
    have i1 : ∀ d, d ≠ 2 → d ≠ 3 → d ≠ 4 → d ≠ 5 → d ≠ 6 → (d < 11 ∨ (18 < d ∧ d < 28) ∨ 30 < d) → I1 d = I d := fun d a b c e f hd' => by rw [hd d hd', xne d (by omega)]
    have c16 : ∀ j, j < 16 → I1 2 j = I 2 j ∧ I1 3 j = I 3 j ∧ I1 4 j = I 4 j ∧ I1 5 j = I 5 j ∧ I1 6 j = I 6 j := fun j hj => by
      rw [hd 2 (by decide), hd 3 (by decide), hd 4 (by decide), hd 5 (by decide), hd 6 (by decide)]; exact x16 j hj
    have mi : ∀ d, 32 ≤ d → I1 d = I d := fun d a => i1 d (by omega) (by omega) (by omega) (by omega) (by omega) (by omega)
    have hC1 : CR I1 := fun r hr => by
      obtain ⟨a1, a2, a3, a4, a5⟩ := c16 r hr
      unfold RA
      rw [a1, a2, a3, a4, a5, mi 33 (by decide), mi 34 (by decide), mi 35 (by decide), mi 36 (by decide), mi 37 (by decide), mi 38 (by decide)]
      exact hC r hr
    rw [xne 7 (by decide), h.1.2.2.1] at f1
    have hNw : N = w := by omega
    subst N
    subst ht
    have hVR := h.2.2.2.1.1.1
    have hU1 : Us I1 (I 8) := Us_16 hVR.2.2.1 h.2.2.2.1.1.2.1 (fun r hr => (c16 r hr).1)
    have hcm : cmvI X (w : Int) (I 8) 16 k = cmv w k (cB X (I 8) 16 k) (cA X (I 8) 16 k) := by rw [cmvI, show (min (w : Int) 6).toNat = w by omega]
    rw [xne 8 (by decide)] at hk hG
    rw [cQu, hcm] at hG
    rw [h.1.2.2.1] at hfree
    have hkk : mbr (I 8) 16 k k = 16 := by rw [mbr, if_neg (by omega)]
    have hBA : ∀ m o, m < k → o < k → (cB X (I 8) 16 k m o ↔ mBr I1 (I 8) 16 k m o) ∧ (cA X (I 8) 16 k m o ↔ mAr I1 (I 8) 16 k m o) := fun m o hm ho => by
      obtain ⟨x, x1, x2, x3⟩ := mbr_RB (r := 16) hC1 hk hU1 hm
      obtain ⟨y, y1, y2, y3⟩ := mbr_RB (r := 16) hC1 hk hU1 ho
      have nx : num (x : Int) := ⟨by omega, by omega⟩
      have ny : num (y : Int) := ⟨by omega, by omega⟩
      have e1 : xov X (x : Int) (y : Int) ↔ mov I1 (x : Int) (y : Int) := by
        rw [RA_ov nx ny (by rw [Int.toNat_natCast]; exact x3) (by rw [Int.toNat_natCast]; exact y3)]
        unfold xov
        rw [hd 3 (by decide), hd 4 (by decide)]
      have e2 : xhi X (y : Int) (x : Int) ↔ mhi I1 (y : Int) (x : Int) := by
        rw [RA_hi ny nx (by rw [Int.toNat_natCast]; exact y3) (by rw [Int.toNat_natCast]; exact x3)]
        unfold xhi
        rw [hd 5 (by decide)]
      unfold cB cA mBr mAr
      rw [x1, y1, e1, e2]
      exact ⟨⟨fun z => z.2, fun z => ⟨ho, z⟩⟩, ⟨fun z => z.2, fun z => ⟨ho, z⟩⟩⟩
    have hBk : ∀ o, o < k → (cB X (I 8) 16 k k o ↔ (rk < I1 37 (mbr (I 8) 16 k o).toNat ∨ I1 37 (mbr (I 8) 16 k o).toNat = rk)) ∧ (cA X (I 8) 16 k k o ↔ ¬ (rk < I1 37 (mbr (I 8) 16 k o).toNat ∨ I1 37 (mbr (I 8) 16 k o).toNat = rk)) := fun o ho => by
      obtain ⟨y, y1, y2, y3⟩ := mbr_RB (r := 16) hC1 hk hU1 ho
      obtain ⟨b1, b2, b3, b4, b5⟩ := xat 16
      have ov : xov X 16 (y : Int) := by
        refine ⟨⟨by decide, by decide⟩, ⟨by omega, by omega⟩, ?_⟩
        rw [show (16 : Int).toNat = 16 from rfl, b3, if_pos rfl]
        exact zan_z _ _
      have hi : xhi X (y : Int) 16 ↔ (rk < I1 37 y ∨ I1 37 y = rk) := by
        unfold xhi
        rw [show (16 : Int).toNat = 16 from rfl, b4, if_pos rfl, Int.toNat_natCast, y3.2.2, (c16 y y2).2.2.2.1, (x16 y y2).2.2.2.1]
        constructor
        · rintro ⟨_, _, z⟩; omega
        · intro z; exact ⟨⟨by omega, by omega⟩, ⟨by decide, by decide⟩, by omega⟩
      unfold cB cA
      rw [hkk, y1, Int.toNat_natCast, ← hi]
      exact ⟨⟨fun z => z.2.2.2, fun z => ⟨ho, by omega, ov, z⟩⟩, ⟨fun z => z.2.2.2, fun z => ⟨ho, by omega, ov, z⟩⟩⟩
    have n32 := mi 32 (by decide)
    have n39 := mi 39 (by decide)
    refine ⟨_, I1, rfl, m_spare (t := 0) (w := w) (Jc := I) (f := I 8) (k := k) (g := g) (D := D) (p := p) (eg := eg) (B := cB X (I 8) 16 k) (A := cA X (I 8) 16 k) (by rw [n32]; exact h.1.2.1) (by decide) hVR (MRow_same h.2.2.2.1.1.2.2 (fun p _ => by rw [n39])) (fun c => absurd (by omega) c) (fun _ c => absurd (by omega) c) (fun _ _ => ⟨⟨hk, by omega, Mett_32 h.2.2.2.2.1 (by rw [n32]) (mi 41 (by decide)) (mi 42 (by decide))⟩, hBA, hBk, hG, hD, fun J j1 j2 j3 j4 => pq_fin (w := w) rfl ?_⟩)⟩
    have jd : ∀ d, d ≠ 2 → d ≠ 3 → d ≠ 4 → d ≠ 5 → d ≠ 6 → d ≠ 32 → d ≠ 35 → d ≠ 36 → d ≠ 37 → (d < 11 ∨ (18 < d ∧ d < 28) ∨ (30 < d ∧ d < 41) ∨ 47 < d) → J d = I d := fun d a1 a2 a3 a4 a5 a6 a7 a8 a9 a => by rw [j2 d a6 a7 a8 a9 (by omega), i1 d a1 a2 a3 a4 a5 (by omega)]
    have jr : ∀ r, r < 16 → J 2 r = I 2 r ∧ J 3 r = I 3 r ∧ J 4 r = I 4 r ∧ J 5 r = I 5 r ∧ J 6 r = I 6 r := fun r hr => by
      rw [j2 2 (by decide) (by decide) (by decide) (by decide) (by decide), j2 3 (by decide) (by decide) (by decide) (by decide) (by decide), j2 4 (by decide) (by decide) (by decide) (by decide) (by decide), j2 5 (by decide) (by decide) (by decide) (by decide) (by decide), j2 6 (by decide) (by decide) (by decide) (by decide) (by decide)]
      exact c16 r hr
    have j32 : ∀ j, j ≠ 16 → j ≠ 18 → j ≠ 20 → J 32 j = I 32 j := fun j a b c => by rw [j3 j a b c, n32]
    have jn : ∀ d, d ≠ 2 ∧ d ≠ 3 ∧ d ≠ 4 ∧ d ≠ 5 ∧ d ≠ 6 ∧ d ≠ 32 ∧ d ≠ 35 ∧ d ≠ 36 ∧ d ≠ 37 ∧ (d < 11 ∨ (18 < d ∧ d < 28) ∨ (30 < d ∧ d < 41) ∨ 47 < d) → J d = I d := fun d a => jd d a.1 a.2.1 a.2.2.1 a.2.2.2.1 a.2.2.2.2.1 a.2.2.2.2.2.1 a.2.2.2.2.2.2.1 a.2.2.2.2.2.2.2.1 a.2.2.2.2.2.2.2.2.1 a.2.2.2.2.2.2.2.2.2
    exact Cpl_frame h (by rw [jn 0 (by decide)]) (by rw [jn 7 (by decide)]) (by rw [jn 9 (by decide)]) (jn 8 (by decide)) (jn 10 (by decide)) (fun d d1 d2 => jn d (by omega)) (by rw [jn 25 (by decide)]) (jn 26 (by decide)) (jn 27 (by decide)) jr (fun r hr => by
      obtain ⟨a1, a2, a3⟩ := j4 r (by omega)
      rw [jn 33 (by decide), jn 34 (by decide), jn 38 (by decide), a1, a2, a3, mi 35 (by decide), mi 36 (by decide), mi 37 (by decide)]
      exact ⟨rfl, rfl, rfl, rfl, rfl, rfl⟩) (jn 39 (by decide)) (jn 40 (by decide)) (jn 48 (by decide)) (jn 49 (by decide)) (j32 6 (by decide) (by decide) (by decide)) (j32 7 (by decide) (by decide) (by decide)) (j32 9 (by decide) (by decide) (by decide)) (j32 21 (by decide) (by decide) (by decide)) j1
theorem pr_build_7 {S : PS} {I : Nat → Nat → Int} {w : Nat} {t : Int} (ht : t = 0) (h : Cpl I w) : Wp 100 (0, [zA 0, zI t, zU, zU, zU, zU, zU], [], zH S I) (PQ S 165 [zA 32, zI t, zU, zU, zU, zU]) := by
  have hC := h.2.2.1
  obtain ⟨r5, r6, n, hn20, b1, b2⟩ := CplH_59 h.2.2.2.2.2.2
  have hVC := h.2.2.2.1.1.1
  have hVO := h.2.2.2.1.2.1
  refine c_build_7 ht r5 r6 (by rw [h.1.2.2.1]; exact hVC) (by rw [h.1.2.2.2]; exact hVO) (by rw [h.1.2.2.1, h.1.2.2.2]) (fun hpos => ?_) (fun h0 N rs f' W I1 e1 hs hb ec hV' hmem hx h25 hd => ?_)
  · subst ht
    refine pq_ro h (fun Q hQ => m_build (t := 0) (n := n) (Ic := I) (by decide) h.1.2.1 b2 hn20 h.2.2.2.2.1 hC rfl rfl rfl hVC h.2.2.2.1.1.2.2 h.2.2.2.1.1.2.1 hVO h.2.2.2.1.2.2.2 (fun _ => hQ) (fun hall => ?_))
    exfalso
    have : xst (I 10) = 0 := zcnt_0 6 (fun p hp z => z (by
      by_cases c : p < w
      · exact hall p c
      · exact Row_out h.2.2.2.1.2 (by omega) hp))
    omega
  · have hNw : N = w := by rw [h.1.2.2.1] at e1; omega
    subst N
    subst ht
    have hall := (mem_nil h0).2
    have n32 : I1 32 = I 32 := hd 32 (by decide) (by decide)
    have n39 : I1 39 = I 39 := hd 39 (by decide) (by decide)
    have n2 : I1 2 = I 2 := hd 2 (by decide) (by decide)
    have usF : Us I f' := fun q hq hne => by
      have hr := hV'.2.2.1 q hq
      have hm : (f' q).toNat ∈ mem f' 16 := (mem_iff hV').mpr ⟨q, hq, by omega⟩
      obtain ⟨q', z1, z2⟩ := (mem_iff hVC).mp ((hs.2.1 _).mp ((hmem _).mp hm))
      have := h.2.2.2.1.1.2.1 q' z1 (by omega)
      rw [z2, Int.toNat_natCast] at this
      exact this
    refine ⟨_, I1, rfl, m_build (t := 0) (w := w) (n := n) (Ic := I) (fT := I 8) (f0 := I 10) (by decide) (by rw [n32]; exact h.1.2.1) (by rw [n32]; exact b2) hn20 (Mett_32 h.2.2.2.2.1 (by rw [n32]) (hd 41 (by decide) (by decide)) (hd 42 (by decide) (by decide))) (CR_of hC (fun d hd' => hd d (by omega) (by omega))) (hd 3 (by decide) (by decide)).symm (hd 4 (by decide) (by decide)).symm (hd 5 (by decide) (by decide)).symm hVC (MRow_same h.2.2.2.1.1.2.2 (fun p _ => by rw [n39])) (fun q hq hne => by rw [n2]; exact h.2.2.2.1.1.2.1 q hq hne) hVO (MRow_same h.2.2.2.1.2.2.2 (fun p _ => by rw [n39])) (fun ⟨p, p1, p2⟩ => absurd (hall p (by have := h.1.1.2; omega)) p2) (fun _ => ⟨rs, f', W, hs, hb, hV', fun J j1 j2 j3 j4 j5 j6 j7 => pq_fin (w := w) rfl ?_⟩)⟩
    have jd : ∀ d, (d < 11 ∨ (32 < d ∧ d < 39) ∨ 49 < d) → d ≠ 10 → J d = I d := fun d a b => by rw [j6 d (by omega), hd d (by omega) b]
    have jo : J 10 = f' := by rw [j6 10 (by decide), ec]
    have chg : VT I (w : Int) (J 10) ∧ Us I (J 10) ∧ MRow J w 1 (J 10) := by
      rw [jo]
      exact ⟨hV', usF, j3⟩
    have oth : VT I (w : Int) (J 8) ∧ Us I (J 8) ∧ MRow J w 0 (J 8) := by
      rw [jd 8 (by decide) (by decide)]
      exact ⟨hVC, h.2.2.2.1.1.2.1, MRow_same h.2.2.2.1.1.2.2 (fun p hp => by rw [j4 _ (by have := h.1.1.2; omega), n39])⟩
    exact Cpl_act h b2 (fun d d1 d2 => by rw [j6 d (by omega)]; exact hx d d1 d2) (Kpt_c j5 (hd 40 (by decide) (by decide)) n39 (by rw [n32])) (fun d hd' => jd d (by omega) (by omega)) (by rw [jd 7 (by decide) (by decide)]) (by rw [jd 9 (by decide) (by decide)]) (by rw [j7 6 (by decide) (by decide) (by decide) (by decide) (by decide), n32]) ⟨by rw [jd 0 (by decide) (by decide)]; exact h.2.1.1, by rw [j7 7 (by decide) (by decide) (by decide) (by decide) (by decide), n32, jd 0 (by decide) (by decide)]; exact h.2.1.2⟩ oth chg j1 (Way_0 (by rw [j6 25 (by decide)]; exact h25) j2)
set_option maxRecDepth 100000 in
theorem pr_spare_9 {S : PS} {I : Nat → Nat → Int} {w : Nat} {t rk : Int} (ht : t = 1) (h : Cpl I w) : Wp 96 (0, [zA 0, zI t, zI rk, zU], [], zH S I) (PQ S 159 [zA 32, zI t, zI rk, zU, zU, zU, zU]) := by
  have hC := h.2.2.1
  refine c_spare_9 ht (by rw [h.1.2.2.2]; exact h.2.2.2.1.2.1) (fun hno => ?_) (fun hok hfull => ?_) (fun hok hfree k N g D p eg I1 hF hd => ?_)
  · subst ht
    exact pq_ro h (fun Q hQ => m_spare (t := 1) (k := 0) (g := 0) (D := 0) (p := 0) (eg := ([], 0, 0, 0, 0)) (B := fun _ _ => True) (A := fun _ _ => True) h.1.2.1 (by decide) h.2.2.2.1.2.1 h.2.2.2.1.2.2.2 (fun _ => hQ) (fun c => absurd (by omega) hno) (fun c => absurd (by omega) hno))
  · subst ht
    rw [h.1.2.2.2] at hfull
    exact pq_ro h (fun Q hQ => m_spare (t := 1) (k := 0) (g := 0) (D := 0) (p := 0) (eg := ([], 0, 0, 0, 0)) (B := fun _ _ => True) (A := fun _ _ => True) h.1.2.1 (by decide) h.2.2.2.1.2.1 h.2.2.2.1.2.2.2 (fun c => absurd (by omega) c) (fun _ _ => hQ) (fun _ c => absurd c (by omega)))
  · obtain ⟨f1, f2, hk, hkN, hG, hD⟩ := hF
    have hX16 : xset I 16 0 0 0 rk 0 = xset I ((16 : Nat) : Int) 0 0 0 rk 0 := rfl
    rw [hX16] at f1 hk hG hd
    generalize hX : xset I ((16 : Nat) : Int) 0 0 0 rk 0 = X at f1 hk hG hd
    have xne : ∀ d, d < 2 ∨ 6 < d → X d = I d := fun d a => by rw [← hX]; exact xset_ne a
    have xat : ∀ j, X 2 j = (if j = 16 then 0 else I 2 j) ∧ X 3 j = (if j = 16 then 0 else I 3 j) ∧ X 4 j = (if j = 16 then 0 else I 4 j) ∧ X 5 j = (if j = 16 then rk else I 5 j) ∧ X 6 j = (if j = 16 then 0 else I 6 j) := fun j => by rw [← hX]; exact xset_at
    have x16 : ∀ j, j < 16 → X 2 j = I 2 j ∧ X 3 j = I 3 j ∧ X 4 j = I 4 j ∧ X 5 j = I 5 j ∧ X 6 j = I 6 j := fun j hj => by
      obtain ⟨a1, a2, a3, a4, a5⟩ := xat j
      rw [a1, a2, a3, a4, a5, if_neg (by omega), if_neg (by omega), if_neg (by omega), if_neg (by omega), if_neg (by omega)]
      exact ⟨rfl, rfl, rfl, rfl, rfl⟩
    have i1 : ∀ d, d ≠ 2 → d ≠ 3 → d ≠ 4 → d ≠ 5 → d ≠ 6 → (d < 11 ∨ (18 < d ∧ d < 28) ∨ 30 < d) → I1 d = I d := fun d a b c e f hd' => by rw [hd d hd', xne d (by omega)]
    have c16 : ∀ j, j < 16 → I1 2 j = I 2 j ∧ I1 3 j = I 3 j ∧ I1 4 j = I 4 j ∧ I1 5 j = I 5 j ∧ I1 6 j = I 6 j := fun j hj => by
      rw [hd 2 (by decide), hd 3 (by decide), hd 4 (by decide), hd 5 (by decide), hd 6 (by decide)]; exact x16 j hj
    have mi : ∀ d, 32 ≤ d → I1 d = I d := fun d a => i1 d (by omega) (by omega) (by omega) (by omega) (by omega) (by omega)
    have hC1 : CR I1 := fun r hr => by
      obtain ⟨a1, a2, a3, a4, a5⟩ := c16 r hr
      unfold RA
      rw [a1, a2, a3, a4, a5, mi 33 (by decide), mi 34 (by decide), mi 35 (by decide), mi 36 (by decide), mi 37 (by decide), mi 38 (by decide)]
      exact hC r hr
    rw [xne 9 (by decide), h.1.2.2.2] at f1
    have hNw : N = w := by omega
    subst N
    subst ht
    have hVR := h.2.2.2.1.2.1
    have hU1 : Us I1 (I 10) := Us_16 hVR.2.2.1 h.2.2.2.1.2.2.1 (fun r hr => (c16 r hr).1)
    have hcm : cmvI X (w : Int) (I 10) 16 k = cmv w k (cB X (I 10) 16 k) (cA X (I 10) 16 k) := by rw [cmvI, show (min (w : Int) 6).toNat = w by omega]
    rw [xne 10 (by decide)] at hk hG
    rw [cQu, hcm] at hG
    rw [h.1.2.2.2] at hfree
    have hkk : mbr (I 10) 16 k k = 16 := by rw [mbr, if_neg (by omega)]
    have hBA : ∀ m o, m < k → o < k → (cB X (I 10) 16 k m o ↔ mBr I1 (I 10) 16 k m o) ∧ (cA X (I 10) 16 k m o ↔ mAr I1 (I 10) 16 k m o) := fun m o hm ho => by
      obtain ⟨x, x1, x2, x3⟩ := mbr_RB (r := 16) hC1 hk hU1 hm
      obtain ⟨y, y1, y2, y3⟩ := mbr_RB (r := 16) hC1 hk hU1 ho
      have nx : num (x : Int) := ⟨by omega, by omega⟩
      have ny : num (y : Int) := ⟨by omega, by omega⟩
      have e1 : xov X (x : Int) (y : Int) ↔ mov I1 (x : Int) (y : Int) := by
        rw [RA_ov nx ny (by rw [Int.toNat_natCast]; exact x3) (by rw [Int.toNat_natCast]; exact y3)]
        unfold xov
        rw [hd 3 (by decide), hd 4 (by decide)]
      have e2 : xhi X (y : Int) (x : Int) ↔ mhi I1 (y : Int) (x : Int) := by
        rw [RA_hi ny nx (by rw [Int.toNat_natCast]; exact y3) (by rw [Int.toNat_natCast]; exact x3)]
        unfold xhi
        rw [hd 5 (by decide)]
      unfold cB cA mBr mAr
      rw [x1, y1, e1, e2]
      exact ⟨⟨fun z => z.2, fun z => ⟨ho, z⟩⟩, ⟨fun z => z.2, fun z => ⟨ho, z⟩⟩⟩
    have hBk : ∀ o, o < k → (cB X (I 10) 16 k k o ↔ (rk < I1 37 (mbr (I 10) 16 k o).toNat ∨ I1 37 (mbr (I 10) 16 k o).toNat = rk)) ∧ (cA X (I 10) 16 k k o ↔ ¬ (rk < I1 37 (mbr (I 10) 16 k o).toNat ∨ I1 37 (mbr (I 10) 16 k o).toNat = rk)) := fun o ho => by
      obtain ⟨y, y1, y2, y3⟩ := mbr_RB (r := 16) hC1 hk hU1 ho
      obtain ⟨b1, b2, b3, b4, b5⟩ := xat 16
      have ov : xov X 16 (y : Int) := by
        refine ⟨⟨by decide, by decide⟩, ⟨by omega, by omega⟩, ?_⟩
        rw [show (16 : Int).toNat = 16 from rfl, b3, if_pos rfl]
        exact zan_z _ _
      have hi : xhi X (y : Int) 16 ↔ (rk < I1 37 y ∨ I1 37 y = rk) := by
        unfold xhi
        rw [show (16 : Int).toNat = 16 from rfl, b4, if_pos rfl, Int.toNat_natCast, y3.2.2, (c16 y y2).2.2.2.1, (x16 y y2).2.2.2.1]
        constructor
        · rintro ⟨_, _, z⟩; omega
        · intro z; exact ⟨⟨by omega, by omega⟩, ⟨by decide, by decide⟩, by omega⟩
      unfold cB cA
      rw [hkk, y1, Int.toNat_natCast, ← hi]
      exact ⟨⟨fun z => z.2.2.2, fun z => ⟨ho, by omega, ov, z⟩⟩, ⟨fun z => z.2.2.2, fun z => ⟨ho, by omega, ov, z⟩⟩⟩
    have n32 := mi 32 (by decide)
    have n39 := mi 39 (by decide)
    refine ⟨_, I1, rfl, m_spare (t := 1) (w := w) (Jc := I) (f := I 10) (k := k) (g := g) (D := D) (p := p) (eg := eg) (B := cB X (I 10) 16 k) (A := cA X (I 10) 16 k) (by rw [n32]; exact h.1.2.1) (by decide) hVR (MRow_same h.2.2.2.1.2.2.2 (fun p _ => by rw [n39])) (fun c => absurd (by omega) c) (fun _ c => absurd (by omega) c) (fun _ _ => ⟨⟨hk, by omega, Mett_32 h.2.2.2.2.1 (by rw [n32]) (mi 41 (by decide)) (mi 42 (by decide))⟩, hBA, hBk, hG, hD, fun J j1 j2 j3 j4 => pq_fin (w := w) rfl ?_⟩)⟩
    have jd : ∀ d, d ≠ 2 → d ≠ 3 → d ≠ 4 → d ≠ 5 → d ≠ 6 → d ≠ 32 → d ≠ 35 → d ≠ 36 → d ≠ 37 → (d < 11 ∨ (18 < d ∧ d < 28) ∨ (30 < d ∧ d < 41) ∨ 47 < d) → J d = I d := fun d a1 a2 a3 a4 a5 a6 a7 a8 a9 a => by rw [j2 d a6 a7 a8 a9 (by omega), i1 d a1 a2 a3 a4 a5 (by omega)]
    have jr : ∀ r, r < 16 → J 2 r = I 2 r ∧ J 3 r = I 3 r ∧ J 4 r = I 4 r ∧ J 5 r = I 5 r ∧ J 6 r = I 6 r := fun r hr => by
      rw [j2 2 (by decide) (by decide) (by decide) (by decide) (by decide), j2 3 (by decide) (by decide) (by decide) (by decide) (by decide), j2 4 (by decide) (by decide) (by decide) (by decide) (by decide), j2 5 (by decide) (by decide) (by decide) (by decide) (by decide), j2 6 (by decide) (by decide) (by decide) (by decide) (by decide)]
      exact c16 r hr
    have j32 : ∀ j, j ≠ 16 → j ≠ 18 → j ≠ 20 → J 32 j = I 32 j := fun j a b c => by rw [j3 j a b c, n32]
    have jn : ∀ d, d ≠ 2 ∧ d ≠ 3 ∧ d ≠ 4 ∧ d ≠ 5 ∧ d ≠ 6 ∧ d ≠ 32 ∧ d ≠ 35 ∧ d ≠ 36 ∧ d ≠ 37 ∧ (d < 11 ∨ (18 < d ∧ d < 28) ∨ (30 < d ∧ d < 41) ∨ 47 < d) → J d = I d := fun d a => jd d a.1 a.2.1 a.2.2.1 a.2.2.2.1 a.2.2.2.2.1 a.2.2.2.2.2.1 a.2.2.2.2.2.2.1 a.2.2.2.2.2.2.2.1 a.2.2.2.2.2.2.2.2.1 a.2.2.2.2.2.2.2.2.2
    exact Cpl_frame h (by rw [jn 0 (by decide)]) (by rw [jn 7 (by decide)]) (by rw [jn 9 (by decide)]) (jn 8 (by decide)) (jn 10 (by decide)) (fun d d1 d2 => jn d (by omega)) (by rw [jn 25 (by decide)]) (jn 26 (by decide)) (jn 27 (by decide)) jr (fun r hr => by
      obtain ⟨a1, a2, a3⟩ := j4 r (by omega)
      rw [jn 33 (by decide), jn 34 (by decide), jn 38 (by decide), a1, a2, a3, mi 35 (by decide), mi 36 (by decide), mi 37 (by decide)]
      exact ⟨rfl, rfl, rfl, rfl, rfl, rfl⟩) (jn 39 (by decide)) (jn 40 (by decide)) (jn 48 (by decide)) (jn 49 (by decide)) (j32 6 (by decide) (by decide) (by decide)) (j32 7 (by decide) (by decide) (by decide)) (j32 9 (by decide) (by decide) (by decide)) (j32 21 (by decide) (by decide) (by decide)) j1
theorem pr_build_9 {S : PS} {I : Nat → Nat → Int} {w : Nat} {t : Int} (ht : t = 1) (h : Cpl I w) : Wp 100 (0, [zA 0, zI t, zU, zU, zU, zU, zU], [], zH S I) (PQ S 165 [zA 32, zI t, zU, zU, zU, zU]) := by
  have hC := h.2.2.1
  obtain ⟨r5, r6, n, hn20, b1, b2⟩ := CplH_59 h.2.2.2.2.2.2
  have hVC := h.2.2.2.1.2.1
  have hVO := h.2.2.2.1.1.1
  refine c_build_9 ht r5 r6 (by rw [h.1.2.2.2]; exact hVC) (by rw [h.1.2.2.1]; exact hVO) (by rw [h.1.2.2.2, h.1.2.2.1]) (fun hpos => ?_) (fun h0 N rs f' W I1 e1 hs hb ec hV' hmem hx h25 hd => ?_)
  · subst ht
    refine pq_ro h (fun Q hQ => m_build (t := 1) (n := n) (Ic := I) (by decide) h.1.2.1 b2 hn20 h.2.2.2.2.1 hC rfl rfl rfl hVC h.2.2.2.1.2.2.2 h.2.2.2.1.2.2.1 hVO h.2.2.2.1.1.2.2 (fun _ => hQ) (fun hall => ?_))
    exfalso
    have : xst (I 8) = 0 := zcnt_0 6 (fun p hp z => z (by
      by_cases c : p < w
      · exact hall p c
      · exact Row_out h.2.2.2.1.1 (by omega) hp))
    omega
  · have hNw : N = w := by rw [h.1.2.2.2] at e1; omega
    subst N
    subst ht
    have hall := (mem_nil h0).2
    have n32 : I1 32 = I 32 := hd 32 (by decide) (by decide)
    have n39 : I1 39 = I 39 := hd 39 (by decide) (by decide)
    have n2 : I1 2 = I 2 := hd 2 (by decide) (by decide)
    have usF : Us I f' := fun q hq hne => by
      have hr := hV'.2.2.1 q hq
      have hm : (f' q).toNat ∈ mem f' 16 := (mem_iff hV').mpr ⟨q, hq, by omega⟩
      obtain ⟨q', z1, z2⟩ := (mem_iff hVC).mp ((hs.2.1 _).mp ((hmem _).mp hm))
      have := h.2.2.2.1.2.2.1 q' z1 (by omega)
      rw [z2, Int.toNat_natCast] at this
      exact this
    refine ⟨_, I1, rfl, m_build (t := 1) (w := w) (n := n) (Ic := I) (fT := I 10) (f0 := I 8) (by decide) (by rw [n32]; exact h.1.2.1) (by rw [n32]; exact b2) hn20 (Mett_32 h.2.2.2.2.1 (by rw [n32]) (hd 41 (by decide) (by decide)) (hd 42 (by decide) (by decide))) (CR_of hC (fun d hd' => hd d (by omega) (by omega))) (hd 3 (by decide) (by decide)).symm (hd 4 (by decide) (by decide)).symm (hd 5 (by decide) (by decide)).symm hVC (MRow_same h.2.2.2.1.2.2.2 (fun p _ => by rw [n39])) (fun q hq hne => by rw [n2]; exact h.2.2.2.1.2.2.1 q hq hne) hVO (MRow_same h.2.2.2.1.1.2.2 (fun p _ => by rw [n39])) (fun ⟨p, p1, p2⟩ => absurd (hall p (by have := h.1.1.2; omega)) p2) (fun _ => ⟨rs, f', W, hs, hb, hV', fun J j1 j2 j3 j4 j5 j6 j7 => pq_fin (w := w) rfl ?_⟩)⟩
    have jd : ∀ d, (d < 11 ∨ (32 < d ∧ d < 39) ∨ 49 < d) → d ≠ 8 → J d = I d := fun d a b => by rw [j6 d (by omega), hd d (by omega) b]
    have jo : J 8 = f' := by rw [j6 8 (by decide), ec]
    have chg : VT I (w : Int) (J 8) ∧ Us I (J 8) ∧ MRow J w 0 (J 8) := by
      rw [jo]
      exact ⟨hV', usF, j3⟩
    have oth : VT I (w : Int) (J 10) ∧ Us I (J 10) ∧ MRow J w 1 (J 10) := by
      rw [jd 10 (by decide) (by decide)]
      exact ⟨hVC, h.2.2.2.1.2.2.1, MRow_same h.2.2.2.1.2.2.2 (fun p hp => by rw [j4 _ (by have := h.1.1.2; omega), n39])⟩
    exact Cpl_act h b2 (fun d d1 d2 => by rw [j6 d (by omega)]; exact hx d d1 d2) (Kpt_c j5 (hd 40 (by decide) (by decide)) n39 (by rw [n32])) (fun d hd' => jd d (by omega) (by omega)) (by rw [jd 7 (by decide) (by decide)]) (by rw [jd 9 (by decide) (by decide)]) (by rw [j7 6 (by decide) (by decide) (by decide) (by decide) (by decide), n32]) ⟨by rw [jd 0 (by decide) (by decide)]; exact h.2.1.1, by rw [j7 7 (by decide) (by decide) (by decide) (by decide) (by decide), n32, jd 0 (by decide) (by decide)]; exact h.2.1.2⟩ chg oth j1 (Way_0 (by rw [j6 25 (by decide)]; exact h25) j2)
theorem pr_spare {S : PS} {I : Nat → Nat → Int} {w : Nat} {t rk : Int} (h : Cpl I w) : Wp 96 (0, [zA 0, zI t, zI rk, zU], [], zH S I) (PQ S 159 [zA 32, zI t, zI rk, zU, zU, zU, zU]) := by
  by_cases h0 : t = 0
  · exact pr_spare_7 h0 h
  by_cases h1 : t = 1
  · exact pr_spare_9 h1 h
  · exact c_spare_n (by omega) (pq_ro h (fun Q hQ => m_spare_n (by omega) hQ))
theorem pr_build {S : PS} {I : Nat → Nat → Int} {w : Nat} {t : Int} (h : Cpl I w) : Wp 100 (0, [zA 0, zI t, zU, zU, zU, zU, zU], [], zH S I) (PQ S 165 [zA 32, zI t, zU, zU, zU, zU]) := by
  by_cases h0 : t = 0
  · exact pr_build_7 h0 h
  by_cases h1 : t = 1
  · exact pr_build_9 h1 h
  · exact c_build_n (by omega) (pq_ro h (fun Q hQ => m_build_n (by omega) hQ))
