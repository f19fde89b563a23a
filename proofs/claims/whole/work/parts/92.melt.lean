/-! pairs: melt -/
/-- alike in the reference's cells -/
def ag (I1 I : Nat → Nat → Int) : Prop := ∀ d, 32 ≤ d → I1 d = I d
theorem mmok_ag {I I1 : Nat → Nat → Int} (h : ag I1 I) (a b : Int) : mmok I1 a b ↔ mmok I a b := by
  unfold mmok muse
  rw [h 33 (by decide), h 34 (by decide)]
theorem monly_ag {I I1 : Nat → Nat → Int} (h : ag I1 I) (w t : Nat) (a : Int) : monly I1 w t a ↔ monly I w t a := by
  unfold monly mplc
  rw [h 39 (by decide)]
theorem mbto_ag {I I1 : Nat → Nat → Int} (h : ag I1 I) (a b : Int) : mbto I1 a b ↔ mbto I a b := by
  unfold mbto
  rw [h 35 (by decide), h 36 (by decide), h 38 (by decide)]
theorem mhi_ag {I I1 : Nat → Nat → Int} (h : ag I1 I) (a b : Int) : mhi I1 a b ↔ mhi I a b := by
  unfold mhi
  rw [h 37 (by decide)]
theorem mmel_ag {I I1 : Nat → Nat → Int} (h : ag I1 I) (t p : Nat) (l bit : Int) : ag (mmel I1 t p l bit) (mmel I t p l bit) := fun d hd => by
  funext j
  unfold mmel
  rw [h 35 (by decide), h 36 (by decide)]
  by_cases e5 : d = 35
  · subst e5; rw [zs2_j, zs2_j]; simp (disch := decide) only [zs2_ne]; rw [h 35 (by decide)]
  rw [zs2_ne _ _ _ _ e5, zs2_ne _ _ _ _ e5]
  by_cases e6 : d = 36
  · subst e6; rw [zs2_j, zs2_j]; simp (disch := decide) only [zs2_ne]; rw [h 36 (by decide)]
  rw [zs2_ne _ _ _ _ e6, zs2_ne _ _ _ _ e6]
  by_cases e9 : d = 39
  · subst e9; rw [zs2_j, zs2_j, h 39 (by decide)]
  rw [zs2_ne _ _ _ _ e9, zs2_ne _ _ _ _ e9, h d hd]
theorem msafe_ag {I I1 : Nat → Nat → Int} (h : ag I1 I) (w t : Nat) : msafe I1 w t ↔ msafe I w t := by
  unfold msafe mbadp mov mhi
  rw [h 35 (by decide), h 36 (by decide), h 37 (by decide), h 39 (by decide)]
theorem mjud_ag {I I1 : Nat → Nat → Int} (h : ag I1 I) (w t : Nat) (k : Int) : mjud I1 w t k = mjud I w t k := mjud_congr (h 35 (by decide)) (h 36 (by decide)) (h 38 (by decide)) (h 39 (by decide))
def mgood (I : Nat → Nat → Int) (w t p : Nat) (l bit : Int) : Prop := msafe (mmel I t p l bit) w t ∧ ∀ k : Nat, k < 32 → mjud (mmel I t p l bit) w t (k : Int) = mjud I w t (k : Int)
theorem mgood_ag {I I1 : Nat → Nat → Int} (h : ag I1 I) (w t p : Nat) (l bit : Int) : mgood I1 w t p l bit ↔ mgood I w t p l bit := by
  unfold mgood
  rw [msafe_ag (mmel_ag h t p l bit)]
  refine and_congr_right (fun _ => forall_congr' (fun k => imp_congr_right (fun _ => ?_)))
  rw [mjud_ag (mmel_ag h t p l bit), mjud_ag h]
theorem zan_tab : ∀ x y : Fin 32, 0 ≤ zan (x.val : Int) (y.val : Int) ∧ zan (x.val : Int) (y.val : Int) < 32 ∧ 0 ≤ zxr (x.val : Int) (y.val : Int) ∧ zxr (x.val : Int) (y.val : Int) < 32 ∧ 0 ≤ zan (x.val : Int) (zxr (y.val : Int) (-1)) ∧ zan (x.val : Int) (zxr (y.val : Int) (-1)) < 32 := by decide +kernel
theorem zan_31 {x y : Int} (hx : 0 ≤ x ∧ x ≤ 31) (hy : 0 ≤ y ∧ y ≤ 31) : (0 ≤ zan x y ∧ zan x y ≤ 31) ∧ (0 ≤ zxr x y ∧ zxr x y ≤ 31) ∧ (0 ≤ zan x (zxr y (-1)) ∧ zan x (zxr y (-1)) ≤ 31) := by
  obtain ⟨a, rfl⟩ : ∃ a : Nat, x = (a : Int) := ⟨x.toNat, by omega⟩
  obtain ⟨b, rfl⟩ : ∃ b : Nat, y = (b : Int) := ⟨y.toNat, by omega⟩
  have := zan_tab ⟨a, by omega⟩ ⟨b, by omega⟩
  simp only at this
  omega
theorem bcnt_0 : bcnt 0 ≠ 1 := by decide +kernel
theorem zan_as (x y z : Int) : zan x (zan y z) = zan (zan x y) z := by
  rw [zan_inj]
  simp only [zan, zofI]
  rw [i32_aa]
/-- the bit in which two rules differ -/
theorem xbit_iff {I : Nat → Nat → Int} {a b : Int} (hC : CR I) (ha : xuse I a) (hb : xuse I b) : (xbit I a b ≠ 0 ↔ mbto I a b) ∧ (mbto I a b → xbit I a b = zxr (I 35 a.toNat) (I 35 b.toNat)) ∧ (0 ≤ zxr (I 35 a.toNat) (I 35 b.toNat) ∧ zxr (I 35 a.toNat) (I 35 b.toNat) ≤ 31) := by
  obtain ⟨⟨a1, a2, a3⟩, a4, a5, a6, a7⟩ := CR_at hC ha
  obtain ⟨⟨b1, b2, b3⟩, b4, b5, b6, b7⟩ := CR_at hC hb
  have va := (zan_31 a6 a7).1
  have vb := (zan_31 b6 b7).1
  have hx := (zan_31 va vb).2.1
  have e1 : mbto I a b ↔ (I 4 a.toNat = I 4 b.toNat ∧ I 6 a.toNat = I 6 b.toNat ∧ bcnt (zxr (xval I a) (xval I b)) = 1) := by
    unfold mbto
    rw [a1, a2, a5, b1, b2, b5]
    obtain ⟨x, hxx⟩ : ∃ x : Nat, zxr (zan (I 3 a.toNat) (I 4 a.toNat)) (zan (I 3 b.toNat) (I 4 b.toNat)) = (x : Int) := ⟨(zxr (zan (I 3 a.toNat) (I 4 a.toNat)) (zan (I 3 b.toNat) (I 4 b.toNat))).toNat, by omega⟩
    rw [hxx] at hx ⊢
    have := mon_tab ⟨x, by omega⟩
    simp only at this
    rw [this]
  rw [a1, b1]
  refine ⟨?_, fun h => ?_, hx⟩
  · rw [e1]
    unfold xbit
    constructor
    · intro h
      by_cases c : I 4 a.toNat = I 4 b.toNat ∧ I 6 a.toNat = I 6 b.toNat ∧ bcnt (zxr (xval I a) (xval I b)) = 1
      · exact c
      · rw [if_neg c] at h; exact absurd rfl h
    · intro c
      rw [if_pos c]
      intro z
      rw [z] at c
      exact bcnt_0 c.2.2
  · unfold xbit
    rw [if_pos (e1.mp h)]
/-- a row is judged alike, safe or not -/
theorem jud_of {I : Nat → Nat → Int} {w t c : Nat} {k : Int} (hC : CR I) (h6 : w ≤ 6) (hcell : ∀ p, p < w → (I c p = -1 ∧ I 39 (6 * t + p) = -2) ∨ (I c p ≠ -1 ∧ I 39 (6 * t + p) = I c p ∧ xuse I (I c p))) (hout : ∀ p, w ≤ p → p < 6 → I c p = -1) : mjud I w t k = xjud I c k := by
  have e : 6 = w + (6 - w) := by omega
  have t1 := zfv_tail (P := fun p => xfit I (I c p) k) (f := fun p => xact I (I c p)) (d := -1) (e := 6 - w) w 0 (fun j h1 h2 => by
    rw [hout j (by omega) (by omega)]; exact xfit_m1)
  rw [← e] at t1
  rw [xjud, t1, mjud]
  refine zfv_congr w 0 (fun j h1 h2 => ?_) (fun j h1 h2 hp => ?_)
  · rcases hcell j (by omega) with ⟨a1, a2⟩ | ⟨a1, a2, a3⟩
    · rw [a1, a2]
      exact ⟨fun w => absurd (by decide) w.1, fun w => absurd w xfit_m1⟩
    · rw [a2, RA_fit (use_num a3) (CR_at hC a3).1]
      exact ⟨fun w => w.2, fun w => ⟨by have := a3.1; omega, w⟩⟩
  · rcases hcell j (by omega) with ⟨a1, a2⟩ | ⟨a1, a2, a3⟩
    · rw [a2] at hp; exact absurd (by decide) hp.1
    · rw [a2, (CR_at hC a3).2.2.1, xact, if_pos (use_num a3)]
theorem safe_of {I : Nat → Nat → Int} {w t c : Nat} (hC : CR I) (h6 : w ≤ 6) (hcell : ∀ p, p < w → (I c p = -1 ∧ I 39 (6 * t + p) = -2) ∨ (I c p ≠ -1 ∧ I 39 (6 * t + p) = I c p ∧ xuse I (I c p))) (hout : ∀ p, w ≤ p → p < 6 → I c p = -1) (hinj : ∀ p q, p < 6 → q < 6 → I c p = I c q → I c p ≠ -1 → p = q) : msafe I w t ↔ xsafe I c := by
  constructor
  · intro h p hp a ha hb
    have n1 := hb.1.1.1
    have n2 := hb.1.2.1.1
    have pw : p < w := by
      by_cases z : p < w
      · exact z
      · have := hout p (by omega) hp; omega
    rcases hcell a (by omega) with ⟨a1, a2⟩ | ⟨a1, a2, a3⟩
    · omega
    rcases hcell p pw with ⟨b1, b2⟩ | ⟨b1, b2, b3⟩
    · omega
    refine h a p ha pw ?_
    unfold mbadp
    rw [a2, b2]
    refine ⟨by omega, by omega, (RA_ov (use_num a3) (use_num b3) (CR_at hC a3).1 (CR_at hC b3).1).mpr hb.1, fun z => ?_⟩
    exact xhi_asy ((RA_hi (use_num a3) (use_num b3) (CR_at hC a3).1 (CR_at hC b3).1).mp z) hb.2
  · intro h a p ha pw hb
    obtain ⟨n1, n2, ov, nh⟩ := hb
    rcases hcell a (by omega) with ⟨a1, a2⟩ | ⟨a1, a2, a3⟩
    · rw [a2] at n1; exact n1 (by decide)
    rcases hcell p pw with ⟨b1, b2⟩ | ⟨b1, b2, b3⟩
    · rw [b2] at n2; exact n2 (by decide)
    rw [a2, b2] at ov nh
    refine h p (by omega) a ha ⟨(RA_ov (use_num a3) (use_num b3) (CR_at hC a3).1 (CR_at hC b3).1).mp ov, ?_⟩
    have hne : I c a ≠ I c p := fun e => by
      have := hinj a p (by omega) (by omega) e a1
      omega
    exact (RA_hi (use_num b3) (use_num a3) (CR_at hC b3).1 (CR_at hC a3).1).mp (mhi_tot _ _ hne nh)
theorem VT_on {I J : Nat → Nat → Int} {n : Int} {f : Nat → Int} (h : VT I n f) (e : ∀ q, q < 6 → f q ≠ -1 → J 3 (f q).toNat = I 3 (f q).toNat ∧ J 4 (f q).toNat = I 4 (f q).toNat ∧ J 5 (f q).toNat = I 5 (f q).toNat) : VT J n f := by
  obtain ⟨a1, a2, a3, a4, a5, a6⟩ := h
  refine ⟨a1, a2, a3, a4, a5, fun p hp a ha hc => a6 p hp a ha ?_⟩
  obtain ⟨⟨n1, n2, ov⟩, ⟨n3, n4, hi⟩⟩ := hc
  have m1 := n1.1
  have m2 := n2.1
  have c1 := e a (by omega) (by omega)
  have c2 := e p hp (by omega)
  refine ⟨⟨n1, n2, ?_⟩, ⟨n3, n4, ?_⟩⟩
  · rw [← c1.1, ← c2.1, ← c1.2.1, ← c2.2.1]; exact ov
  · rw [← c1.2.2, ← c2.2.2]; exact hi
/-- both try alike -/
theorem good_7 {I : Nat → Nat → Int} {w p : Nat} {l g bit : Int} (h : Cpl I w) (hl : xuse I l) (hb : 0 ≤ bit ∧ bit ≤ 31) (hpw : p < w) (hg : I 8 p = g) : (xgood_7 I p l bit ↔ mgood I w 0 p l bit) ∧ (xgood_7 I p l bit → VT (xmel_7 I p l bit) (w : Int) (fun q => if q = p then -1 else I 8 q)) := by
  have hC := h.2.2.1
  have hR := h.2.2.2.1.1
  have h6 := h.1.1.2
  have l1 := hl.1
  have l2 := hl.2.1
  obtain ⟨L, rfl⟩ : ∃ L : Nat, l = (L : Int) := ⟨l.toNat, by omega⟩
  obtain ⟨⟨d1, d2, d3⟩, d4, d5, d6, d7⟩ := CR_at hC hl
  rw [Int.toNat_natCast] at d1 d2 d3 d4 d5 d6 d7
  generalize hX : xmel_7 I p (L : Int) bit = X
  generalize hM : mmel I 0 p (L : Int) bit = M
  generalize hY : mg X M = Y
  have xne : ∀ d, d ≠ 8 → d ≠ 4 → X d = I d := fun d a b => by rw [← hX, xmel_7, zs2_ne _ _ _ _ b, zs2_ne _ _ _ _ a]
  have xc : ∀ q, X 8 q = if q = p then -1 else I 8 q := fun q => by rw [← hX, xmel_7, zs2_ne _ _ _ _ (by decide), zs2_j]
  have x4 : ∀ q, X 4 q = if q = L then zan (I 4 L) (zxr bit (-1)) else I 4 q := fun q => by
    rw [← hX, xmel_7, Int.toNat_natCast, zs2_j]
    simp (disch := decide) only [zs2_ne]
  have mne : ∀ d, d ≠ 39 → d ≠ 36 → d ≠ 35 → M d = I d := fun d a b c => by rw [← hM]; exact mmel_ne a b c
  have m39 : ∀ i, M 39 i = if i = 6 * 0 + p then -2 else I 39 i := fun i => by rw [← hM, mmel, zs2_ne _ _ _ _ (by decide), zs2_ne _ _ _ _ (by decide), zs2_j]
  have m36 : ∀ q, M 36 q = if q = L then zan (I 36 L) (zxr bit (-1)) else I 36 q := fun q => by
    rw [← hM, mmel, Int.toNat_natCast, zs2_ne _ _ _ _ (by decide), zs2_j]
    simp (disch := decide) only [zs2_ne]
  have m35 : ∀ q, M 35 q = if q = L then zan (I 35 L) (zxr bit (-1)) else I 35 q := fun q => by
    rw [← hM, mmel, Int.toNat_natCast, zs2_j]
    simp (disch := decide) only [zs2_ne]
  have lo : ∀ d, d < 32 → Y d = X d := fun d hd => by rw [← hY]; exact mg_lo hd
  have hi : ag Y M := fun d hd => by rw [← hY]; exact mg_hi (by omega)
  have hCY : CR Y := fun r hr => by
    obtain ⟨b1, b2, b3⟩ := hC r hr
    unfold RA
    rw [lo 2 (by decide), lo 3 (by decide), lo 4 (by decide), lo 5 (by decide), lo 6 (by decide), hi 33 (by decide), hi 34 (by decide), hi 35 (by decide), hi 36 (by decide), hi 37 (by decide), hi 38 (by decide), xne 2 (by decide) (by decide), xne 3 (by decide) (by decide), xne 5 (by decide) (by decide), xne 6 (by decide) (by decide), mne 33 (by decide) (by decide) (by decide), mne 34 (by decide) (by decide) (by decide), mne 37 (by decide) (by decide) (by decide), mne 38 (by decide) (by decide) (by decide), x4, m35, m36]
    refine ⟨b1, b2, fun z => ?_⟩
    obtain ⟨⟨c1, c2, c3⟩, c4, c5, c6, c7⟩ := b3 z
    by_cases e : r = L
    · subst e
      rw [if_pos rfl, if_pos rfl, if_pos rfl, zan_as, ← d1, d2]
      exact ⟨⟨rfl, rfl, c3⟩, c4, c5, c6, (zan_31 d7 hb).2.2⟩
    · rw [if_neg e, if_neg e, if_neg e]
      exact ⟨⟨c1, c2, c3⟩, c4, c5, c6, c7⟩
  have hcell : ∀ q, q < w → (Y 8 q = -1 ∧ Y 39 (6 * 0 + q) = -2) ∨ (Y 8 q ≠ -1 ∧ Y 39 (6 * 0 + q) = Y 8 q ∧ xuse Y (Y 8 q)) := fun q hq => by
    rw [lo 8 (by decide), hi 39 (by decide), xc, m39]
    by_cases e : q = p
    · rw [if_pos e, if_pos (by omega)]; exact Or.inl ⟨rfl, rfl⟩
    · rw [if_neg e, if_neg (by omega)]
      rcases Row_cell hR hq with ⟨a1, a2⟩ | ⟨a1, a2, a3⟩
      · exact Or.inl ⟨a1, a2⟩
      · refine Or.inr ⟨a1, a2, a3.1, a3.2.1, ?_⟩
        rw [lo 2 (by decide), xne 2 (by decide) (by decide)]; exact a3.2.2
  have hout : ∀ q, w ≤ q → q < 6 → Y 8 q = -1 := fun q h1 h2 => by
    rw [lo 8 (by decide), xc, if_neg (by omega)]; exact Row_out hR h1 h2
  have hdel := VT_del (q := p) hR.1
  have hinj : ∀ a b, a < 6 → b < 6 → Y 8 a = Y 8 b → Y 8 a ≠ -1 → a = b := fun a b ha hb' e1 e2 => by
    rw [lo 8 (by decide)] at e1 e2
    rw [xc, xc] at e1
    rw [xc] at e2
    exact hdel.2.2.2.2.1 a b ha hb' e1 e2
  have s1 : xsafe X 8 ↔ msafe M w 0 := by
    rw [← msafe_ag hi, safe_of hCY h6 hcell hout hinj]
    unfold xsafe xbad xov xhi
    rw [lo 8 (by decide), lo 3 (by decide), lo 4 (by decide), lo 5 (by decide)]
  have j1 : ∀ k : Int, mjud M w 0 k = xjud X 8 k := fun k => by
    rw [← mjud_ag hi, jud_of hCY h6 hcell hout]
    unfold xjud xfit xact
    rw [lo 8 (by decide), lo 3 (by decide), lo 4 (by decide), lo 6 (by decide)]
  refine ⟨?_, fun hgood => ?_⟩
  · unfold xgood_7 mgood
    rw [hX, hM, s1, zfs_ex]
    refine and_congr_right (fun _ => ?_)
    constructor
    · intro z k hk
      rw [j1, Row_jud hC hR]
      by_cases c : xjud I 8 (k : Int) = xjud X 8 (k : Int)
      · exact c.symm
      · exact absurd ⟨k, hk, c⟩ z
    · rintro z ⟨k, hk, c⟩
      have := z k hk
      rw [j1, Row_jud hC hR] at this
      exact c this.symm
  · have hs := hgood.1
    rw [hX] at hs
    refine ⟨hdel.1, hdel.2.1, hdel.2.2.1, hdel.2.2.2.1, hdel.2.2.2.2.1, fun q hq a ha hc => ?_⟩
    have e1 := xc q
    have e2 := xc a
    refine hs q hq a ha ?_
    unfold xbad
    rw [e1, e2]
    exact hc
set_option maxRecDepth 100000 in
theorem pr_melt_7 {S : PS} {I : Nat → Nat → Int} {w : Nat} {t a b : Int} (ht : t = 0) (h : Cpl I w) : Wp 97 (0, [zA 0, zI t, zI a, zI b, zU, zU, zU, zU], [], zH S I) (PQ S 162 [zA 32, zI t, zI a, zI b, zU, zU, zU, zU, zU, zU, zU, zU, zU]) := by
  have hC := h.2.2.1
  obtain ⟨r5, r6, n, hn20, b1, b2⟩ := CplH_59 h.2.2.2.2.2.2
  have hR := h.2.2.2.1.1
  have hO := h.2.2.2.1.2
  have okk : xmok I a b ↔ mmok I a b := by
    unfold xmok mmok
    rw [CR_use hC, CR_use hC]
    constructor
    · rintro ⟨⟨x1, x2⟩, ⟨x3, x4⟩, x5⟩
      exact ⟨⟨x1, by rw [(CR_at hC x1).2.1]; exact x2⟩, ⟨x3, by rw [(CR_at hC x3).2.1]; exact x4⟩, x5⟩
    · rintro ⟨⟨x1, x2⟩, ⟨x3, x4⟩, x5⟩
      rw [(CR_at hC x1).2.1] at x2
      rw [(CR_at hC x3).2.1] at x4
      exact ⟨⟨x1, x2⟩, ⟨x3, x4⟩, x5⟩
  have only1 : ∀ r, 0 ≤ r → (xonly_7 I r ↔ monly I w 0 r) := fun r hr => by
    unfold xonly_7 monly
    rw [Row_plc hR hr, show (1 - 0 : Nat) = 1 from rfl, Row_plc hO hr]
    constructor
    · rintro ⟨x1, x2⟩
      exact ⟨by have := plc_m1 x1; omega, by rw [x2]; decide⟩
    · rintro ⟨x1, x2⟩
      refine ⟨fun z => x1 (by rw [z]; decide), ?_⟩
      by_cases c : xplc (I 10) r = -1
      · exact c
      · have := plc_m1 c; omega
  have cond : xmok I a b → ((xbit I a b ≠ 0 ∧ xonly_7 I a ∧ xonly_7 I b) ↔ (monly I w 0 a ∧ monly I w 0 b ∧ mbto I a b)) := fun hok => by
    rw [(xbit_iff hC hok.1.1 hok.2.1.1).1, only1 a hok.1.1.1, only1 b hok.2.1.1.1]
    exact ⟨fun z => ⟨z.2.1, z.2.2, z.1⟩, fun z => ⟨z.2.2, z.1, z.2.1⟩⟩
  -- the reference, asked behind the class's call
  have ask : ∀ (I1 : Nat → Nat → Int) (Q : PV1 → Prop), ag I1 I → (¬ mmok I a b → Q (some (zI (-1)), zH S I1)) → (mmok I a b → ¬ (monly I w 0 a ∧ monly I w 0 b ∧ mbto I a b) → Q (some (zI (-2)), zH S I1)) →
      (mmok I a b → (monly I w 0 a ∧ monly I w 0 b ∧ mbto I a b) → ∀ (l g : Int) (p : Nat), ((mhi I a b ∧ l = a ∧ g = b) ∨ (¬ mhi I a b ∧ l = b ∧ g = a)) → mplc I w 0 g = (p : Int) → p < w → ¬ mgood I w 0 p l (zxr (I 35 a.toNat) (I 35 b.toNat)) → Q (some (zI (-2)), zH S (zmapc I1 50 32 (fun k => mjud I1 w 0 (k : Int))))) →
      (mmok I a b → (monly I w 0 a ∧ monly I w 0 b ∧ mbto I a b) → ∀ (l g : Int) (p : Nat), ((mhi I a b ∧ l = a ∧ g = b) ∨ (¬ mhi I a b ∧ l = b ∧ g = a)) → mplc I w 0 g = (p : Int) → p < w → mgood I w 0 p l (zxr (I 35 a.toNat) (I 35 b.toNat)) → ∀ J, Kep (zmapc I1 50 32 (fun k => mjud I1 w 0 (k : Int))) J n l → Q (some (zI l), zH S (zs2 (mmel J 0 p l (zxr (I 35 a.toNat) (I 35 b.toNat))) 32 21 0))) →
      Wp 162 (0, [zA 32, zI (0 : Int), zI a, zI b, zU, zU, zU, zU, zU, zU, zU, zU, zU], [], zH S I1) Q := by
    intro I1 Q hag q1 q2 q3 q4
    have e35 := hag 35 (by decide)
    have ei : ∀ w t : Nat, mplc I1 w t = mplc I w t := fun w t => by funext r; exact mplc_c (hag 39 (by decide))
    refine m_melt (t := 0) (w := w) (n := n) (by decide) (by rw [hag 32 (by decide)]; exact h.1.2.1) h.1.1.2 (by rw [hag 32 (by decide)]; exact b2) hn20 (fun u hu p hp => by rw [hag 39 (by decide)]; exact Cpl_16 h u hu p hp) (fun c => q1 (fun z => c ((mmok_ag hag a b).mpr z))) (fun c1 c2 => q2 ((mmok_ag hag a b).mp c1) (fun z => c2 ⟨(monly_ag hag w 0 a).mpr z.1, (monly_ag hag w 0 b).mpr z.2.1, (mbto_ag hag a b).mpr z.2.2⟩)) (fun c1 c2 l g p c3 c4 c5 _ c6 => ?_) (fun c1 c2 l g p c3 c4 c5 _ c6 J hJ => ?_)
    · rw [e35] at c6
      exact q3 ((mmok_ag hag a b).mp c1) ⟨(monly_ag hag w 0 a).mp c2.1, (monly_ag hag w 0 b).mp c2.2.1, (mbto_ag hag a b).mp c2.2.2⟩ l g p (by rw [mhi_ag hag] at c3; exact c3) (by rw [ei] at c4; exact c4) c5 (fun z => c6 ((mgood_ag hag w 0 p l _).mpr z))
    · rw [e35] at c6 ⊢
      exact q4 ((mmok_ag hag a b).mp c1) ⟨(monly_ag hag w 0 a).mp c2.1, (monly_ag hag w 0 b).mp c2.2.1, (mbto_ag hag a b).mp c2.2.2⟩ l g p (by rw [mhi_ag hag] at c3; exact c3) (by rw [ei] at c4; exact c4) c5 ((mgood_ag hag w 0 p l _).mp c6) J hJ
  -- who is left, who goes
  have who : xmok I a b → ∀ l g l' g' : Int, ((xhi I a b ∧ l = a ∧ g = b) ∨ (¬ xhi I a b ∧ l = b ∧ g = a)) → ((mhi I a b ∧ l' = a ∧ g' = b) ∨ (¬ mhi I a b ∧ l' = b ∧ g' = a)) → l' = l ∧ g' = g := fun hok l g l' g' z1 z2 => by
    have hh := RA_hi (use_num hok.1.1) (use_num hok.2.1.1) (CR_at hC hok.1.1).1 (CR_at hC hok.2.1.1).1
    rcases z1 with ⟨x1, x2, x3⟩ | ⟨x1, x2, x3⟩ <;> rcases z2 with ⟨y1, y2, y3⟩ | ⟨y1, y2, y3⟩
    · exact ⟨by rw [y2, x2], by rw [y3, x3]⟩
    · exact absurd (hh.mpr x1) y1
    · exact absurd (hh.mp y1) x1
    · exact ⟨by rw [y2, x2], by rw [y3, x3]⟩
  have lus : xmok I a b → ∀ l g : Int, ((xhi I a b ∧ l = a ∧ g = b) ∨ (¬ xhi I a b ∧ l = b ∧ g = a)) → xuse I l ∧ xuse I g := fun hok l g z => by
    rcases z with ⟨_, x2, x3⟩ | ⟨_, x2, x3⟩
    · rw [x2, x3]; exact ⟨hok.1.1, hok.2.1.1⟩
    · rw [x2, x3]; exact ⟨hok.2.1.1, hok.1.1⟩
  have agI : ag I I := fun _ _ => rfl
  refine c_melt_7 ht r5 r6 (Row_rw h.2.2.2.1.1) (Row_rw h.2.2.2.1.2) (by rw [h.1.2.2.1]; exact hR.1) (fun hno => ?_) (fun hok hno => ?_) (fun hok hcd l g p hlg hp p6 pT hg hbad => ?_) (fun hok hcd l g p hlg hp p6 pT hg hgood => ?_)
  · subst ht
    exact pq_ro h (fun Q hQ => ask I Q agI (fun _ => hQ) (fun c => absurd (okk.mpr c) hno) (fun c => absurd (okk.mpr c) hno) (fun c => absurd (okk.mpr c) hno))
  · subst ht
    have hno' := fun z => hno ((cond hok).mpr z)
    exact pq_ro h (fun Q hQ => ask I Q agI (fun c => absurd (okk.mp hok) c) (fun _ _ => hQ) (fun _ c => absurd c hno') (fun _ c => absurd c hno'))
  · subst ht
    rw [h.1.2.2.1] at pT
    have hcd' := (cond hok).mp hcd
    have hbit := (xbit_iff hC hok.1.1 hok.2.1.1).2.1 hcd'.2.2
    have hb31 := (xbit_iff hC hok.1.1 hok.2.1.1).2.2
    rw [hbit] at hbad
    have hgl := (good_7 h (lus hok l g hlg).1 hb31 (by omega) hg).1
    generalize hI1 : zmapc I 31 32 (fun k => xjud I 8 (k : Int)) = I1
    have n1 : ∀ d, d ≠ 31 → I1 d = I d := fun d hd => by rw [← hI1, zmapc_ne _ _ _ _ hd]
    refine ⟨_, I1, rfl, ask I1 _ (fun d hd => n1 d (by omega)) (fun c => absurd (okk.mp hok) c) (fun _ c => absurd hcd' c) (fun _ _ l' g' p' z1 z2 z3 z4 => pq_fin (w := w) rfl ?_) (fun _ _ l' g' p' z1 z2 z3 z4 => ?_)⟩
    · have jn : ∀ d, d ≠ 31 → d ≠ 50 → zmapc I1 50 32 (fun k => mjud I1 w 0 (k : Int)) d = I d := fun d x y => by rw [zmapc_ne _ _ _ _ y, n1 d x]
      generalize zmapc I1 50 32 (fun k => mjud I1 w 0 (k : Int)) = J at jn
      have jr : ∀ d, d < 31 ∨ (31 < d ∧ d < 50) → J d = I d := fun d z => jn d (by omega) (by omega)
      exact Cpl_frame h (by rw [jr 0 (by decide)]) (by rw [jr 7 (by decide)]) (by rw [jr 9 (by decide)]) (jr 8 (by decide)) (jr 10 (by decide)) (fun d d1 d2 => jr d (by omega)) (by rw [jr 25 (by decide)]) (jr 26 (by decide)) (jr 27 (by decide)) (fun r _ => by rw [jr 2 (by decide), jr 3 (by decide), jr 4 (by decide), jr 5 (by decide), jr 6 (by decide)]; exact ⟨rfl, rfl, rfl, rfl, rfl⟩) (fun r _ => by rw [jr 33 (by decide), jr 34 (by decide), jr 35 (by decide), jr 36 (by decide), jr 37 (by decide), jr 38 (by decide)]; exact ⟨rfl, rfl, rfl, rfl, rfl, rfl⟩) (jr 39 (by decide)) (jr 40 (by decide)) (jr 48 (by decide)) (jr 49 (by decide)) (by rw [jr 32 (by decide)]) (by rw [jr 32 (by decide)]) (by rw [jr 32 (by decide)]) (by rw [jr 32 (by decide)]) (Mett_32 h.2.2.2.2.1 (by rw [jr 32 (by decide)]) (jr 41 (by decide)) (jr 42 (by decide)))
    · exfalso
      obtain ⟨w1, w2⟩ := who hok l g l' g' hlg z1
      subst w1
      subst w2
      rw [Row_plc hR (lus hok l' g' hlg).2.1, hp] at z2
      have : p' = p := by omega
      subst this
      exact hbad (hgl.mpr z4)
  · subst ht
    rw [h.1.2.2.1] at pT
    have hcd' := (cond hok).mp hcd
    have hbit := (xbit_iff hC hok.1.1 hok.2.1.1).2.1 hcd'.2.2
    have hb31 := (xbit_iff hC hok.1.1 hok.2.1.1).2.2
    rw [hbit] at hgood ⊢
    generalize zxr (I 35 a.toNat) (I 35 b.toNat) = bit at hb31 hgood ask ⊢
    have hul := (lus hok l g hlg).1
    have hug := (lus hok l g hlg).2
    have hgl := good_7 h hul hb31 (by omega) hg
    have hVn := hgl.2 hgood
    generalize hI1 : xmelt_7 I p l bit = I1
    have l1 := hul.1
    have l2 := hul.2.1
    have i1 : ∀ d, d ≠ 8 → d ≠ 4 → d < 19 ∨ (25 < d ∧ d ≠ 31) → I1 d = I d := fun d x y z => by
      rw [← hI1, xmelt_7, zs2_ne _ _ _ _ (by omega), zs2_ne _ _ _ _ y, zs2_ne _ _ _ _ x, xpush_ne (by omega), zmapc_ne _ _ _ _ (by omega)]
    have hag : ag I1 I := fun d hd => i1 d (by omega) (by omega) (by omega)
    have hlo : xonly_7 I l := by
      rcases hlg with ⟨_, x2, _⟩ | ⟨_, x2, _⟩
      · rw [x2]; exact hcd.2.1
      · rw [x2]; exact hcd.2.2
    refine ⟨_, I1, rfl, ask I1 _ hag (fun c => absurd (okk.mp hok) c) (fun _ c => absurd hcd' c) (fun _ _ l' g' p' z1 z2 z3 z4 => ?_) (fun _ _ l' g' p' z1 z2 z3 z4 J hJ => ?_)⟩
    · exfalso
      obtain ⟨w1, w2⟩ := who hok l g l' g' hlg z1
      subst w1
      subst w2
      rw [Row_plc hR hug.1, hp] at z2
      have : p' = p := by omega
      subst this
      exact z4 (hgl.1.mp hgood)
    · obtain ⟨w1, w2⟩ := who hok l g l' g' hlg z1
      rw [w2, Row_plc hR hug.1, hp] at z2
      have hpp : p' = p := by omega
      rw [hpp, w1]
      rw [w1] at hJ
      refine pq_fin (w := w) rfl ?_
      obtain ⟨L, hL⟩ : ∃ L : Nat, l = (L : Int) := ⟨l.toNat, by omega⟩
      subst hL
      obtain ⟨⟨d1, d2, d3⟩, d4, d5, d6, d7⟩ := CR_at hC hul
      rw [Int.toNat_natCast] at d1 d2 d3 d4 d5 d6 d7
      have hK2 := hJ
      obtain ⟨k1, k2, k3, k4, k5, k6, k7, k8, k9⟩ := hK2
      have z50 : ∀ d, d ≠ 50 → zmapc I1 50 32 (fun k => mjud I1 w 0 (k : Int)) d = I1 d := fun d hd => zmapc_ne _ _ _ _ hd
      have jn : ∀ d, d ≠ 32 → d ≠ 40 → d ≠ 50 → J d = I1 d := fun d x y z => by rw [k8 d x y, z50 d z]
      generalize hK : zs2 (mmel J 0 p (L : Int) bit) 32 21 0 = K
      have kj : ∀ d, d ≠ 32 → d ≠ 39 → d ≠ 36 → d ≠ 35 → K d = J d := fun d x y z u => by rw [← hK, zs2_ne _ _ _ _ x, mmel_ne y z u]
      have kI : ∀ d, d ≠ 8 ∧ d ≠ 4 ∧ (d < 19 ∨ (25 < d ∧ d ≠ 31)) ∧ d ≠ 32 ∧ d ≠ 39 ∧ d ≠ 36 ∧ d ≠ 35 ∧ d ≠ 40 ∧ d ≠ 50 → K d = I d := fun d z => by rw [kj d z.2.2.2.1 z.2.2.2.2.1 z.2.2.2.2.2.1 z.2.2.2.2.2.2.1, jn d z.2.2.2.1 z.2.2.2.2.2.2.2.1 z.2.2.2.2.2.2.2.2, i1 d z.1 z.2.1 z.2.2.1]
      have J36 : J 36 = I 36 := by rw [jn 36 (by decide) (by decide) (by decide), hag 36 (by decide)]
      have J35 : J 35 = I 35 := by rw [jn 35 (by decide) (by decide) (by decide), hag 35 (by decide)]
      have J39 : J 39 = I 39 := by rw [jn 39 (by decide) (by decide) (by decide), hag 39 (by decide)]
      have K39 : ∀ i, K 39 i = if i = 6 * 0 + p then -2 else I 39 i := fun i => by
        rw [← hK, zs2_ne _ _ _ _ (by decide), mmel, zs2_ne _ _ _ _ (by decide), zs2_ne _ _ _ _ (by decide), zs2_j, J39]
      have K36 : ∀ q, K 36 q = if q = L then zan (I 4 L) (zxr bit (-1)) else I 36 q := fun q => by
        rw [← hK, zs2_ne _ _ _ _ (by decide), mmel, Int.toNat_natCast, zs2_ne _ _ _ _ (by decide), zs2_j]
        simp (disch := decide) only [zs2_ne]
        rw [J36, d2]
      have K35 : ∀ q, K 35 q = if q = L then zan (I 35 L) (zxr bit (-1)) else I 35 q := fun q => by
        rw [← hK, zs2_ne _ _ _ _ (by decide), mmel, Int.toNat_natCast, zs2_j]
        simp (disch := decide) only [zs2_ne]
        rw [J35]
      have K32 : ∀ j, j ≠ 9 → j ≠ 21 → K 32 j = I 32 j := fun j x y => by
        rw [← hK, zs2_ne2 _ _ _ _ y, mmel_ne (by decide) (by decide) (by decide), k9 j x, z50 32 (by decide), hag 32 (by decide)]
      have K329 : K 32 9 = ((min n 19 + 1 : Nat) : Int) := by rw [← hK, zs2_ne2 _ _ _ _ (by decide), mmel_ne (by decide) (by decide) (by decide)]; exact k1
      have K21 : K 32 21 = 0 := by rw [← hK, zs2_at]
      have K40 : K 40 = J 40 := kj 40 (by decide) (by decide) (by decide) (by decide)
      have low : ∀ d, d < 32 → K d = I1 d := fun d hd => by rw [kj d (by omega) (by omega) (by omega) (by omega), jn d (by omega) (by omega) (by omega)]
      have KC : K 8 = fun q => if q = p then -1 else I 8 q := by
        funext q
        rw [low 8 (by decide), ← hI1, xmelt_7, zs2_ne _ _ _ _ (by decide), zs2_ne _ _ _ _ (by decide), zs2_j, xpush_ne (by decide), zmapc_ne _ _ _ _ (by decide)]
      have K4 : K 4 = fun q => if q = L then zan (I 4 L) (zxr bit (-1)) else I 4 q := by
        funext q
        rw [low 4 (by decide), ← hI1, xmelt_7, Int.toNat_natCast, zs2_ne _ _ _ _ (by decide), zs2_j]
        simp (disch := decide) only [zs2_ne]
        rw [xpush_ne (by decide), zmapc_ne _ _ _ _ (by decide)]
      have pw : p < w := by omega
      have lOO : ∀ q, q < 6 → I 10 q ≠ (L : Int) := xplc_free (by omega) hlo.2
      have vold : ∀ f, VT I (w : Int) f → VT (wM K (I 4)) (w : Int) f := fun f hf => VT_congr (fun j _ => by rw [wM_ne _ _ (by decide), kI 3 (by decide)]) (fun j _ => by rw [wM_4]) (fun j _ => by rw [wM_ne _ _ (by decide), kI 5 (by decide)]) hf
      have uold : ∀ f, Us I f → Us K f := fun f hf q hq hne => by rw [kI 2 (by decide)]; exact hf q hq hne
      have hX : ∀ (d : Nat), d = 3 ∨ d = 5 → xmel_7 I p (L : Int) bit d = K d := fun d hd => by
        rw [xmel_7, zs2_ne _ _ _ _ (by omega), zs2_ne _ _ _ _ (by omega), kI d (by omega)]
      have hX4 : xmel_7 I p (L : Int) bit 4 = K 4 := by
        funext q
        rw [K4, xmel_7, Int.toNat_natCast, zs2_j]
        simp (disch := decide) only [zs2_ne]
      have rowC : Row K w 0 8 := by
        refine ⟨?_, ?_, fun q hq => ?_⟩
        · rw [KC]
          exact VT_congr (fun j _ => by rw [hX 3 (Or.inl rfl)]) (fun j _ => by rw [hX4]) (fun j _ => by rw [hX 5 (Or.inr rfl)]) hVn
        · rw [KC]; exact uold _ (Us_del hR.2.1)
        · rw [K39, KC]
          show (if 6 * 0 + q = 6 * 0 + p then -2 else I 39 (6 * 0 + q)) = if (if q = p then -1 else I 8 q) = -1 then -2 else (if q = p then -1 else I 8 q)
          by_cases c : q = p
          · rw [if_pos (by omega), if_pos c, if_pos rfl]
          · rw [if_neg (by omega), if_neg c]; exact hR.2.2 q hq
      have rowO : Row K w 1 10 := by
        have eO := kI 10 (by decide)
        refine ⟨?_, ?_, ?_⟩
        · rw [eO]
          refine VT_on hO.1 (fun q hq hne => ?_)
          have h3 := hO.1.2.2.1 q hq
          have hq2 : (I 10 q).toNat ≠ L := fun z => lOO q hq (by omega)
          rw [kI 3 (by decide), kI 5 (by decide), K4]
          show _ ∧ (if (I 10 q).toNat = L then zan (I 4 L) (zxr bit (-1)) else I 4 (I 10 q).toNat) = _ ∧ _
          rw [if_neg hq2]
          exact ⟨rfl, rfl, rfl⟩
        · rw [eO]; exact uold _ hO.2.1
        · rw [eO]
          exact MRow_same hO.2.2 (fun q hq => by rw [K39, if_neg (by have := h.1.1.2; omega)])
      have c19 : ∀ d, 19 ≤ d → d ≤ 24 → K d = xpush (zmapc I 31 32 (fun k => xjud I 8 (k : Int))) (xpk (I 8) 6) (xpk (I 10) 6) (I 0 8) (L : Int) (I 4 L) d := fun d x y => by
        rw [low d (by omega), ← hI1, xmelt_7, Int.toNat_natCast, zs2_ne _ _ _ _ (by omega), zs2_ne _ _ _ _ (by omega), zs2_ne _ _ _ _ (by omega)]
      have z31 : ∀ d, d ≠ 31 → zmapc I 31 32 (fun k => xjud I 8 (k : Int)) d = I d := fun d hd => zmapc_ne _ _ _ _ hd
      have cells : K 19 5 = (I 19 5 + 1) % 20 ∧ K 19 6 = min (I 19 6 + 1) 20 ∧ (∀ j, K 20 j = if j = (I 19 5).toNat then xpk (I 8) 6 else I 20 j) ∧ (∀ j, K 21 j = if j = (I 19 5).toNat then xpk (I 10) 6 else I 21 j) ∧ (∀ j, K 22 j = if j = (I 19 5).toNat then I 0 8 else I 22 j) ∧ (∀ j, K 23 j = if j = (I 19 5).toNat then (L : Int) else I 23 j) ∧ (∀ j, K 24 j = if j = (I 19 5).toNat then I 4 L else I 24 j) := by
        rw [c19 19 (by decide) (by decide), c19 20 (by decide) (by decide), c19 21 (by decide) (by decide), c19 22 (by decide) (by decide), c19 23 (by decide) (by decide), c19 24 (by decide) (by decide)]
        unfold xpush
        rw [z31 19 (by decide)]
        refine ⟨by rw [zs2_ne2 _ _ _ _ (by decide), zs2_at], by rw [zs2_at], fun j => ?_, fun j => ?_, fun j => ?_, fun j => ?_, fun j => ?_⟩
        all_goals
          simp (disch := decide) only [zs2_ne]
          rw [zs2_j]
          try simp (disch := decide) only [zs2_ne]
          rw [zmapc_ne _ _ _ _ (by decide)]
      obtain ⟨x1, x2, x3, x4, x5, x6, x7⟩ := cells
      have old : ∀ p', p' < w → ∀ u, u < 2 → zmapc I1 50 32 (fun k => mjud I1 w 0 (k : Int)) 39 (6 * u + p') = I 39 (6 * u + p') := fun p' _ u _ => by rw [z50 39 (by decide), hag 39 (by decide)]
      have h60 := h.1.1.2
      refine ⟨⟨h.1.1, by rw [K32 6 (by decide) (by decide)]; exact h.1.2.1, by rw [kI 7 (by decide)]; exact h.1.2.2.1, by rw [kI 9 (by decide)]; exact h.1.2.2.2⟩, ⟨by rw [kI 0 (by decide)]; exact h.2.1.1, by rw [K32 7 (by decide) (by decide), kI 0 (by decide)]; exact h.2.1.2⟩, fun r hr => ?_, ⟨rowC, rowO⟩, Mett_32 h.2.2.2.2.1 (K32 16 (by decide) (by decide)) (kI 41 (by decide)) (kI 42 (by decide)), Way_0 (by rw [low 25 (by decide), ← hI1, xmelt_7, zs2_at]) K21, ?_⟩
      · obtain ⟨e1, e2, e3⟩ := hC r hr
        unfold RA
        rw [kI 2 (by decide), kI 3 (by decide), kI 5 (by decide), kI 6 (by decide), kI 33 (by decide), kI 34 (by decide), kI 37 (by decide), kI 38 (by decide), K35, K36, K4]
        show _ ∧ _ ∧ (_ → ((if r = L then zan (I 35 L) (zxr bit (-1)) else I 35 r) = zan (I 3 r) (if r = L then zan (I 4 L) (zxr bit (-1)) else I 4 r) ∧ (if r = L then zan (I 4 L) (zxr bit (-1)) else I 36 r) = (if r = L then zan (I 4 L) (zxr bit (-1)) else I 4 r) ∧ _) ∧ _ ∧ _ ∧ _ ∧ (0 ≤ (if r = L then zan (I 4 L) (zxr bit (-1)) else I 4 r) ∧ (if r = L then zan (I 4 L) (zxr bit (-1)) else I 4 r) ≤ 31))
        refine ⟨e1, e2, fun z => ?_⟩
        obtain ⟨⟨c1, c2, c3⟩, c4, c5, c6, c7⟩ := e3 z
        by_cases e : r = L
        · rw [if_pos e, if_pos e, if_pos e, e, zan_as, ← d1]
          rw [e] at c3 c4 c5
          exact ⟨⟨rfl, rfl, c3⟩, c4, c5, d6, (zan_31 d7 hb31).2.2⟩
        · rw [if_neg e, if_neg e, if_neg e]
          exact ⟨⟨c1, c2, c3⟩, c4, c5, c6, c7⟩
      · have hL0 : ¬ ((L : Int) < 0) := by omega
        refine CplH_push (M := I 4) (e := (I 8, I 10, I 0 8, (L : Int), I 4 L)) (n := n) h.2.2.2.2.2.2 b2 ?_ ⟨⟨vold _ h.2.2.2.1.1.1, uold _ h.2.2.2.1.1.2.1⟩, ⟨vold _ h.2.2.2.1.2.1, uold _ h.2.2.2.1.2.2.1⟩, h.2.1.1, Or.inr ⟨⟨hul.1, hul.2.1, by rw [kI 2 (by decide)]; exact hul.2.2⟩, d7⟩⟩ (fun r _ _ => by rw [kI 2 (by decide), kI 3 (by decide), kI 5 (by decide)]; exact ⟨rfl, rfl, rfl, rfl⟩) x1 x2 x3 x4 x5 x6 x7 K329 (fun i hi => by rw [K40, k2 i hi, z50 40 (by decide), hag 40 (by decide)]) (fun p' hp' => ?_) (fun p' hp' => ?_) (by rw [K40, k4, z50 32 (by decide), hag 32 (by decide)]; exact h.2.1.2) (by rw [K40, k5]) (fun _ => ?_) h.1.1.2
        · funext j
          rw [HM, if_neg (show ¬ (L : Int) = -1 by omega)]
          show (if j = (L : Int).toNat then I 4 L else K 4 j) = I 4 j
          rw [Int.toNat_natCast, K4]
          show (if j = L then I 4 L else (if j = L then zan (I 4 L) (zxr bit (-1)) else I 4 j)) = I 4 j
          by_cases c : j = L
          · rw [if_pos c, c]
          · rw [if_neg c, if_neg c]
        · rw [K40, k3 p' (by omega)]
          have := old p' hp' 0 (by decide)
          rw [show 6 * 0 + p' = p' by omega] at this
          rw [this]
          have := h.2.2.2.1.1.2.2 p' hp'
          rw [show 6 * 0 + p' = p' by omega] at this
          exact this
        · rw [K40, k3 (6 + p') (by omega)]
          have := old p' hp' 1 (by decide)
          rw [show 6 * 1 + p' = 6 + p' by omega] at this
          rw [this]
          have := h.2.2.2.1.2.2.2 p' hp'
          rw [show 6 * 1 + p' = 6 + p' by omega] at this
          exact this
        · rw [K40, k6, k7, if_neg hL0, if_neg hL0, z50 36 (by decide), z50 35 (by decide), hag 36 (by decide), hag 35 (by decide), Int.toNat_natCast, kI 3 (by decide)]
          exact ⟨d2, d1⟩
/-- both try alike -/
theorem good_9 {I : Nat → Nat → Int} {w p : Nat} {l g bit : Int} (h : Cpl I w) (hl : xuse I l) (hb : 0 ≤ bit ∧ bit ≤ 31) (hpw : p < w) (hg : I 10 p = g) : (xgood_9 I p l bit ↔ mgood I w 1 p l bit) ∧ (xgood_9 I p l bit → VT (xmel_9 I p l bit) (w : Int) (fun q => if q = p then -1 else I 10 q)) := by
  have hC := h.2.2.1
  have hR := h.2.2.2.1.2
  have h6 := h.1.1.2
  have l1 := hl.1
  have l2 := hl.2.1
  obtain ⟨L, rfl⟩ : ∃ L : Nat, l = (L : Int) := ⟨l.toNat, by omega⟩
  obtain ⟨⟨d1, d2, d3⟩, d4, d5, d6, d7⟩ := CR_at hC hl
  rw [Int.toNat_natCast] at d1 d2 d3 d4 d5 d6 d7
  generalize hX : xmel_9 I p (L : Int) bit = X
  generalize hM : mmel I 1 p (L : Int) bit = M
  generalize hY : mg X M = Y
  have xne : ∀ d, d ≠ 10 → d ≠ 4 → X d = I d := fun d a b => by rw [← hX, xmel_9, zs2_ne _ _ _ _ b, zs2_ne _ _ _ _ a]
  have xc : ∀ q, X 10 q = if q = p then -1 else I 10 q := fun q => by rw [← hX, xmel_9, zs2_ne _ _ _ _ (by decide), zs2_j]
  have x4 : ∀ q, X 4 q = if q = L then zan (I 4 L) (zxr bit (-1)) else I 4 q := fun q => by
    rw [← hX, xmel_9, Int.toNat_natCast, zs2_j]
    simp (disch := decide) only [zs2_ne]
  have mne : ∀ d, d ≠ 39 → d ≠ 36 → d ≠ 35 → M d = I d := fun d a b c => by rw [← hM]; exact mmel_ne a b c
  have m39 : ∀ i, M 39 i = if i = 6 * 1 + p then -2 else I 39 i := fun i => by rw [← hM, mmel, zs2_ne _ _ _ _ (by decide), zs2_ne _ _ _ _ (by decide), zs2_j]
  have m36 : ∀ q, M 36 q = if q = L then zan (I 36 L) (zxr bit (-1)) else I 36 q := fun q => by
    rw [← hM, mmel, Int.toNat_natCast, zs2_ne _ _ _ _ (by decide), zs2_j]
    simp (disch := decide) only [zs2_ne]
  have m35 : ∀ q, M 35 q = if q = L then zan (I 35 L) (zxr bit (-1)) else I 35 q := fun q => by
    rw [← hM, mmel, Int.toNat_natCast, zs2_j]
    simp (disch := decide) only [zs2_ne]
  have lo : ∀ d, d < 32 → Y d = X d := fun d hd => by rw [← hY]; exact mg_lo hd
  have hi : ag Y M := fun d hd => by rw [← hY]; exact mg_hi (by omega)
  have hCY : CR Y := fun r hr => by
    obtain ⟨b1, b2, b3⟩ := hC r hr
    unfold RA
    rw [lo 2 (by decide), lo 3 (by decide), lo 4 (by decide), lo 5 (by decide), lo 6 (by decide), hi 33 (by decide), hi 34 (by decide), hi 35 (by decide), hi 36 (by decide), hi 37 (by decide), hi 38 (by decide), xne 2 (by decide) (by decide), xne 3 (by decide) (by decide), xne 5 (by decide) (by decide), xne 6 (by decide) (by decide), mne 33 (by decide) (by decide) (by decide), mne 34 (by decide) (by decide) (by decide), mne 37 (by decide) (by decide) (by decide), mne 38 (by decide) (by decide) (by decide), x4, m35, m36]
    refine ⟨b1, b2, fun z => ?_⟩
    obtain ⟨⟨c1, c2, c3⟩, c4, c5, c6, c7⟩ := b3 z
    by_cases e : r = L
    · subst e
      rw [if_pos rfl, if_pos rfl, if_pos rfl, zan_as, ← d1, d2]
      exact ⟨⟨rfl, rfl, c3⟩, c4, c5, c6, (zan_31 d7 hb).2.2⟩
    · rw [if_neg e, if_neg e, if_neg e]
      exact ⟨⟨c1, c2, c3⟩, c4, c5, c6, c7⟩
  have hcell : ∀ q, q < w → (Y 10 q = -1 ∧ Y 39 (6 * 1 + q) = -2) ∨ (Y 10 q ≠ -1 ∧ Y 39 (6 * 1 + q) = Y 10 q ∧ xuse Y (Y 10 q)) := fun q hq => by
    rw [lo 10 (by decide), hi 39 (by decide), xc, m39]
    by_cases e : q = p
    · rw [if_pos e, if_pos (by omega)]; exact Or.inl ⟨rfl, rfl⟩
    · rw [if_neg e, if_neg (by omega)]
      rcases Row_cell hR hq with ⟨a1, a2⟩ | ⟨a1, a2, a3⟩
      · exact Or.inl ⟨a1, a2⟩
      · refine Or.inr ⟨a1, a2, a3.1, a3.2.1, ?_⟩
        rw [lo 2 (by decide), xne 2 (by decide) (by decide)]; exact a3.2.2
  have hout : ∀ q, w ≤ q → q < 6 → Y 10 q = -1 := fun q h1 h2 => by
    rw [lo 10 (by decide), xc, if_neg (by omega)]; exact Row_out hR h1 h2
  have hdel := VT_del (q := p) hR.1
  have hinj : ∀ a b, a < 6 → b < 6 → Y 10 a = Y 10 b → Y 10 a ≠ -1 → a = b := fun a b ha hb' e1 e2 => by
    rw [lo 10 (by decide)] at e1 e2
    rw [xc, xc] at e1
    rw [xc] at e2
    exact hdel.2.2.2.2.1 a b ha hb' e1 e2
  have s1 : xsafe X 10 ↔ msafe M w 1 := by
    rw [← msafe_ag hi, safe_of hCY h6 hcell hout hinj]
    unfold xsafe xbad xov xhi
    rw [lo 10 (by decide), lo 3 (by decide), lo 4 (by decide), lo 5 (by decide)]
  have j1 : ∀ k : Int, mjud M w 1 k = xjud X 10 k := fun k => by
    rw [← mjud_ag hi, jud_of hCY h6 hcell hout]
    unfold xjud xfit xact
    rw [lo 10 (by decide), lo 3 (by decide), lo 4 (by decide), lo 6 (by decide)]
  refine ⟨?_, fun hgood => ?_⟩
  · unfold xgood_9 mgood
    rw [hX, hM, s1, zfs_ex]
    refine and_congr_right (fun _ => ?_)
    constructor
    · intro z k hk
      rw [j1, Row_jud hC hR]
      by_cases c : xjud I 10 (k : Int) = xjud X 10 (k : Int)
      · exact c.symm
      · exact absurd ⟨k, hk, c⟩ z
    · rintro z ⟨k, hk, c⟩
      have := z k hk
      rw [j1, Row_jud hC hR] at this
      exact c this.symm
  · have hs := hgood.1
    rw [hX] at hs
    refine ⟨hdel.1, hdel.2.1, hdel.2.2.1, hdel.2.2.2.1, hdel.2.2.2.2.1, fun q hq a ha hc => ?_⟩
    have e1 := xc q
    have e2 := xc a
    refine hs q hq a ha ?_
    unfold xbad
    rw [e1, e2]
    exact hc
set_option maxRecDepth 100000 in
theorem pr_melt_9 {S : PS} {I : Nat → Nat → Int} {w : Nat} {t a b : Int} (ht : t = 1) (h : Cpl I w) : Wp 97 (0, [zA 0, zI t, zI a, zI b, zU, zU, zU, zU], [], zH S I) (PQ S 162 [zA 32, zI t, zI a, zI b, zU, zU, zU, zU, zU, zU, zU, zU, zU]) := by
  have hC := h.2.2.1
  obtain ⟨r5, r6, n, hn20, b1, b2⟩ := CplH_59 h.2.2.2.2.2.2
  have hR := h.2.2.2.1.2
  have hO := h.2.2.2.1.1
  have okk : xmok I a b ↔ mmok I a b := by
    unfold xmok mmok
    rw [CR_use hC, CR_use hC]
    constructor
    · rintro ⟨⟨x1, x2⟩, ⟨x3, x4⟩, x5⟩
      exact ⟨⟨x1, by rw [(CR_at hC x1).2.1]; exact x2⟩, ⟨x3, by rw [(CR_at hC x3).2.1]; exact x4⟩, x5⟩
    · rintro ⟨⟨x1, x2⟩, ⟨x3, x4⟩, x5⟩
      rw [(CR_at hC x1).2.1] at x2
      rw [(CR_at hC x3).2.1] at x4
      exact ⟨⟨x1, x2⟩, ⟨x3, x4⟩, x5⟩
  have only1 : ∀ r, 0 ≤ r → (xonly_9 I r ↔ monly I w 1 r) := fun r hr => by
    unfold xonly_9 monly
    rw [Row_plc hR hr, show (1 - 1 : Nat) = 0 from rfl, Row_plc hO hr]
    constructor
    · rintro ⟨x1, x2⟩
      exact ⟨by have := plc_m1 x1; omega, by rw [x2]; decide⟩
    · rintro ⟨x1, x2⟩
      refine ⟨fun z => x1 (by rw [z]; decide), ?_⟩
      by_cases c : xplc (I 8) r = -1
      · exact c
      · have := plc_m1 c; omega
  have cond : xmok I a b → ((xbit I a b ≠ 0 ∧ xonly_9 I a ∧ xonly_9 I b) ↔ (monly I w 1 a ∧ monly I w 1 b ∧ mbto I a b)) := fun hok => by
    rw [(xbit_iff hC hok.1.1 hok.2.1.1).1, only1 a hok.1.1.1, only1 b hok.2.1.1.1]
    exact ⟨fun z => ⟨z.2.1, z.2.2, z.1⟩, fun z => ⟨z.2.2, z.1, z.2.1⟩⟩
  -- the reference, asked behind the class's call
  have ask : ∀ (I1 : Nat → Nat → Int) (Q : PV1 → Prop), ag I1 I → (¬ mmok I a b → Q (some (zI (-1)), zH S I1)) → (mmok I a b → ¬ (monly I w 1 a ∧ monly I w 1 b ∧ mbto I a b) → Q (some (zI (-2)), zH S I1)) →
      (mmok I a b → (monly I w 1 a ∧ monly I w 1 b ∧ mbto I a b) → ∀ (l g : Int) (p : Nat), ((mhi I a b ∧ l = a ∧ g = b) ∨ (¬ mhi I a b ∧ l = b ∧ g = a)) → mplc I w 1 g = (p : Int) → p < w → ¬ mgood I w 1 p l (zxr (I 35 a.toNat) (I 35 b.toNat)) → Q (some (zI (-2)), zH S (zmapc I1 50 32 (fun k => mjud I1 w 1 (k : Int))))) →
      (mmok I a b → (monly I w 1 a ∧ monly I w 1 b ∧ mbto I a b) → ∀ (l g : Int) (p : Nat), ((mhi I a b ∧ l = a ∧ g = b) ∨ (¬ mhi I a b ∧ l = b ∧ g = a)) → mplc I w 1 g = (p : Int) → p < w → mgood I w 1 p l (zxr (I 35 a.toNat) (I 35 b.toNat)) → ∀ J, Kep (zmapc I1 50 32 (fun k => mjud I1 w 1 (k : Int))) J n l → Q (some (zI l), zH S (zs2 (mmel J 1 p l (zxr (I 35 a.toNat) (I 35 b.toNat))) 32 21 0))) →
      Wp 162 (0, [zA 32, zI (1 : Int), zI a, zI b, zU, zU, zU, zU, zU, zU, zU, zU, zU], [], zH S I1) Q := by
    intro I1 Q hag q1 q2 q3 q4
    have e35 := hag 35 (by decide)
    have ei : ∀ w t : Nat, mplc I1 w t = mplc I w t := fun w t => by funext r; exact mplc_c (hag 39 (by decide))
    refine m_melt (t := 1) (w := w) (n := n) (by decide) (by rw [hag 32 (by decide)]; exact h.1.2.1) h.1.1.2 (by rw [hag 32 (by decide)]; exact b2) hn20 (fun u hu p hp => by rw [hag 39 (by decide)]; exact Cpl_16 h u hu p hp) (fun c => q1 (fun z => c ((mmok_ag hag a b).mpr z))) (fun c1 c2 => q2 ((mmok_ag hag a b).mp c1) (fun z => c2 ⟨(monly_ag hag w 1 a).mpr z.1, (monly_ag hag w 1 b).mpr z.2.1, (mbto_ag hag a b).mpr z.2.2⟩)) (fun c1 c2 l g p c3 c4 c5 _ c6 => ?_) (fun c1 c2 l g p c3 c4 c5 _ c6 J hJ => ?_)
    · rw [e35] at c6
      exact q3 ((mmok_ag hag a b).mp c1) ⟨(monly_ag hag w 1 a).mp c2.1, (monly_ag hag w 1 b).mp c2.2.1, (mbto_ag hag a b).mp c2.2.2⟩ l g p (by rw [mhi_ag hag] at c3; exact c3) (by rw [ei] at c4; exact c4) c5 (fun z => c6 ((mgood_ag hag w 1 p l _).mpr z))
    · rw [e35] at c6 ⊢
      exact q4 ((mmok_ag hag a b).mp c1) ⟨(monly_ag hag w 1 a).mp c2.1, (monly_ag hag w 1 b).mp c2.2.1, (mbto_ag hag a b).mp c2.2.2⟩ l g p (by rw [mhi_ag hag] at c3; exact c3) (by rw [ei] at c4; exact c4) c5 ((mgood_ag hag w 1 p l _).mp c6) J hJ
  -- who is left, who goes
  have who : xmok I a b → ∀ l g l' g' : Int, ((xhi I a b ∧ l = a ∧ g = b) ∨ (¬ xhi I a b ∧ l = b ∧ g = a)) → ((mhi I a b ∧ l' = a ∧ g' = b) ∨ (¬ mhi I a b ∧ l' = b ∧ g' = a)) → l' = l ∧ g' = g := fun hok l g l' g' z1 z2 => by
    have hh := RA_hi (use_num hok.1.1) (use_num hok.2.1.1) (CR_at hC hok.1.1).1 (CR_at hC hok.2.1.1).1
    rcases z1 with ⟨x1, x2, x3⟩ | ⟨x1, x2, x3⟩ <;> rcases z2 with ⟨y1, y2, y3⟩ | ⟨y1, y2, y3⟩
    · exact ⟨by rw [y2, x2], by rw [y3, x3]⟩
    · exact absurd (hh.mpr x1) y1
    · exact absurd (hh.mp y1) x1
    · exact ⟨by rw [y2, x2], by rw [y3, x3]⟩
  have lus : xmok I a b → ∀ l g : Int, ((xhi I a b ∧ l = a ∧ g = b) ∨ (¬ xhi I a b ∧ l = b ∧ g = a)) → xuse I l ∧ xuse I g := fun hok l g z => by
    rcases z with ⟨_, x2, x3⟩ | ⟨_, x2, x3⟩
    · rw [x2, x3]; exact ⟨hok.1.1, hok.2.1.1⟩
    · rw [x2, x3]; exact ⟨hok.2.1.1, hok.1.1⟩
  have agI : ag I I := fun _ _ => rfl
  refine c_melt_9 ht r5 r6 (Row_rw h.2.2.2.1.1) (Row_rw h.2.2.2.1.2) (by rw [h.1.2.2.2]; exact hR.1) (fun hno => ?_) (fun hok hno => ?_) (fun hok hcd l g p hlg hp p6 pT hg hbad => ?_) (fun hok hcd l g p hlg hp p6 pT hg hgood => ?_)
  · subst ht
    exact pq_ro h (fun Q hQ => ask I Q agI (fun _ => hQ) (fun c => absurd (okk.mpr c) hno) (fun c => absurd (okk.mpr c) hno) (fun c => absurd (okk.mpr c) hno))
  · subst ht
    have hno' := fun z => hno ((cond hok).mpr z)
    exact pq_ro h (fun Q hQ => ask I Q agI (fun c => absurd (okk.mp hok) c) (fun _ _ => hQ) (fun _ c => absurd c hno') (fun _ c => absurd c hno'))
  · subst ht
    rw [h.1.2.2.2] at pT
    have hcd' := (cond hok).mp hcd
    have hbit := (xbit_iff hC hok.1.1 hok.2.1.1).2.1 hcd'.2.2
    have hb31 := (xbit_iff hC hok.1.1 hok.2.1.1).2.2
    rw [hbit] at hbad
    have hgl := (good_9 h (lus hok l g hlg).1 hb31 (by omega) hg).1
    generalize hI1 : zmapc I 31 32 (fun k => xjud I 10 (k : Int)) = I1
    have n1 : ∀ d, d ≠ 31 → I1 d = I d := fun d hd => by rw [← hI1, zmapc_ne _ _ _ _ hd]
    refine ⟨_, I1, rfl, ask I1 _ (fun d hd => n1 d (by omega)) (fun c => absurd (okk.mp hok) c) (fun _ c => absurd hcd' c) (fun _ _ l' g' p' z1 z2 z3 z4 => pq_fin (w := w) rfl ?_) (fun _ _ l' g' p' z1 z2 z3 z4 => ?_)⟩
    · have jn : ∀ d, d ≠ 31 → d ≠ 50 → zmapc I1 50 32 (fun k => mjud I1 w 1 (k : Int)) d = I d := fun d x y => by rw [zmapc_ne _ _ _ _ y, n1 d x]
      generalize zmapc I1 50 32 (fun k => mjud I1 w 1 (k : Int)) = J at jn
      have jr : ∀ d, d < 31 ∨ (31 < d ∧ d < 50) → J d = I d := fun d z => jn d (by omega) (by omega)
      exact Cpl_frame h (by rw [jr 0 (by decide)]) (by rw [jr 7 (by decide)]) (by rw [jr 9 (by decide)]) (jr 8 (by decide)) (jr 10 (by decide)) (fun d d1 d2 => jr d (by omega)) (by rw [jr 25 (by decide)]) (jr 26 (by decide)) (jr 27 (by decide)) (fun r _ => by rw [jr 2 (by decide), jr 3 (by decide), jr 4 (by decide), jr 5 (by decide), jr 6 (by decide)]; exact ⟨rfl, rfl, rfl, rfl, rfl⟩) (fun r _ => by rw [jr 33 (by decide), jr 34 (by decide), jr 35 (by decide), jr 36 (by decide), jr 37 (by decide), jr 38 (by decide)]; exact ⟨rfl, rfl, rfl, rfl, rfl, rfl⟩) (jr 39 (by decide)) (jr 40 (by decide)) (jr 48 (by decide)) (jr 49 (by decide)) (by rw [jr 32 (by decide)]) (by rw [jr 32 (by decide)]) (by rw [jr 32 (by decide)]) (by rw [jr 32 (by decide)]) (Mett_32 h.2.2.2.2.1 (by rw [jr 32 (by decide)]) (jr 41 (by decide)) (jr 42 (by decide)))
    · exfalso
      obtain ⟨w1, w2⟩ := who hok l g l' g' hlg z1
      subst w1
      subst w2
      rw [Row_plc hR (lus hok l' g' hlg).2.1, hp] at z2
      have : p' = p := by omega
      subst this
      exact hbad (hgl.mpr z4)
  · subst ht
    rw [h.1.2.2.2] at pT
    have hcd' := (cond hok).mp hcd
    have hbit := (xbit_iff hC hok.1.1 hok.2.1.1).2.1 hcd'.2.2
    have hb31 := (xbit_iff hC hok.1.1 hok.2.1.1).2.2
    rw [hbit] at hgood ⊢
    generalize zxr (I 35 a.toNat) (I 35 b.toNat) = bit at hb31 hgood ask ⊢
    have hul := (lus hok l g hlg).1
    have hug := (lus hok l g hlg).2
    have hgl := good_9 h hul hb31 (by omega) hg
    have hVn := hgl.2 hgood
    generalize hI1 : xmelt_9 I p l bit = I1
    have l1 := hul.1
    have l2 := hul.2.1
    have i1 : ∀ d, d ≠ 10 → d ≠ 4 → d < 19 ∨ (25 < d ∧ d ≠ 31) → I1 d = I d := fun d x y z => by
      rw [← hI1, xmelt_9, zs2_ne _ _ _ _ (by omega), zs2_ne _ _ _ _ y, zs2_ne _ _ _ _ x, xpush_ne (by omega), zmapc_ne _ _ _ _ (by omega)]
    have hag : ag I1 I := fun d hd => i1 d (by omega) (by omega) (by omega)
    have hlo : xonly_9 I l := by
      rcases hlg with ⟨_, x2, _⟩ | ⟨_, x2, _⟩
      · rw [x2]; exact hcd.2.1
      · rw [x2]; exact hcd.2.2
    refine ⟨_, I1, rfl, ask I1 _ hag (fun c => absurd (okk.mp hok) c) (fun _ c => absurd hcd' c) (fun _ _ l' g' p' z1 z2 z3 z4 => ?_) (fun _ _ l' g' p' z1 z2 z3 z4 J hJ => ?_)⟩
    · exfalso
      obtain ⟨w1, w2⟩ := who hok l g l' g' hlg z1
      subst w1
      subst w2
      rw [Row_plc hR hug.1, hp] at z2
      have : p' = p := by omega
      subst this
      exact z4 (hgl.1.mp hgood)
    · obtain ⟨w1, w2⟩ := who hok l g l' g' hlg z1
      rw [w2, Row_plc hR hug.1, hp] at z2
      have hpp : p' = p := by omega
      rw [hpp, w1]
      rw [w1] at hJ
      refine pq_fin (w := w) rfl ?_
      obtain ⟨L, hL⟩ : ∃ L : Nat, l = (L : Int) := ⟨l.toNat, by omega⟩
      subst hL
      obtain ⟨⟨d1, d2, d3⟩, d4, d5, d6, d7⟩ := CR_at hC hul
      rw [Int.toNat_natCast] at d1 d2 d3 d4 d5 d6 d7
      have hK2 := hJ
      obtain ⟨k1, k2, k3, k4, k5, k6, k7, k8, k9⟩ := hK2
      have z50 : ∀ d, d ≠ 50 → zmapc I1 50 32 (fun k => mjud I1 w 1 (k : Int)) d = I1 d := fun d hd => zmapc_ne _ _ _ _ hd
      have jn : ∀ d, d ≠ 32 → d ≠ 40 → d ≠ 50 → J d = I1 d := fun d x y z => by rw [k8 d x y, z50 d z]
      generalize hK : zs2 (mmel J 1 p (L : Int) bit) 32 21 0 = K
      have kj : ∀ d, d ≠ 32 → d ≠ 39 → d ≠ 36 → d ≠ 35 → K d = J d := fun d x y z u => by rw [← hK, zs2_ne _ _ _ _ x, mmel_ne y z u]
      have kI : ∀ d, d ≠ 10 ∧ d ≠ 4 ∧ (d < 19 ∨ (25 < d ∧ d ≠ 31)) ∧ d ≠ 32 ∧ d ≠ 39 ∧ d ≠ 36 ∧ d ≠ 35 ∧ d ≠ 40 ∧ d ≠ 50 → K d = I d := fun d z => by rw [kj d z.2.2.2.1 z.2.2.2.2.1 z.2.2.2.2.2.1 z.2.2.2.2.2.2.1, jn d z.2.2.2.1 z.2.2.2.2.2.2.2.1 z.2.2.2.2.2.2.2.2, i1 d z.1 z.2.1 z.2.2.1]
      have J36 : J 36 = I 36 := by rw [jn 36 (by decide) (by decide) (by decide), hag 36 (by decide)]
      have J35 : J 35 = I 35 := by rw [jn 35 (by decide) (by decide) (by decide), hag 35 (by decide)]
      have J39 : J 39 = I 39 := by rw [jn 39 (by decide) (by decide) (by decide), hag 39 (by decide)]
      have K39 : ∀ i, K 39 i = if i = 6 * 1 + p then -2 else I 39 i := fun i => by
        rw [← hK, zs2_ne _ _ _ _ (by decide), mmel, zs2_ne _ _ _ _ (by decide), zs2_ne _ _ _ _ (by decide), zs2_j, J39]
      have K36 : ∀ q, K 36 q = if q = L then zan (I 4 L) (zxr bit (-1)) else I 36 q := fun q => by
        rw [← hK, zs2_ne _ _ _ _ (by decide), mmel, Int.toNat_natCast, zs2_ne _ _ _ _ (by decide), zs2_j]
        simp (disch := decide) only [zs2_ne]
        rw [J36, d2]
      have K35 : ∀ q, K 35 q = if q = L then zan (I 35 L) (zxr bit (-1)) else I 35 q := fun q => by
        rw [← hK, zs2_ne _ _ _ _ (by decide), mmel, Int.toNat_natCast, zs2_j]
        simp (disch := decide) only [zs2_ne]
        rw [J35]
      have K32 : ∀ j, j ≠ 9 → j ≠ 21 → K 32 j = I 32 j := fun j x y => by
        rw [← hK, zs2_ne2 _ _ _ _ y, mmel_ne (by decide) (by decide) (by decide), k9 j x, z50 32 (by decide), hag 32 (by decide)]
      have K329 : K 32 9 = ((min n 19 + 1 : Nat) : Int) := by rw [← hK, zs2_ne2 _ _ _ _ (by decide), mmel_ne (by decide) (by decide) (by decide)]; exact k1
      have K21 : K 32 21 = 0 := by rw [← hK, zs2_at]
      have K40 : K 40 = J 40 := kj 40 (by decide) (by decide) (by decide) (by decide)
      have low : ∀ d, d < 32 → K d = I1 d := fun d hd => by rw [kj d (by omega) (by omega) (by omega) (by omega), jn d (by omega) (by omega) (by omega)]
      have KC : K 10 = fun q => if q = p then -1 else I 10 q := by
        funext q
        rw [low 10 (by decide), ← hI1, xmelt_9, zs2_ne _ _ _ _ (by decide), zs2_ne _ _ _ _ (by decide), zs2_j, xpush_ne (by decide), zmapc_ne _ _ _ _ (by decide)]
      have K4 : K 4 = fun q => if q = L then zan (I 4 L) (zxr bit (-1)) else I 4 q := by
        funext q
        rw [low 4 (by decide), ← hI1, xmelt_9, Int.toNat_natCast, zs2_ne _ _ _ _ (by decide), zs2_j]
        simp (disch := decide) only [zs2_ne]
        rw [xpush_ne (by decide), zmapc_ne _ _ _ _ (by decide)]
      have pw : p < w := by omega
      have lOO : ∀ q, q < 6 → I 8 q ≠ (L : Int) := xplc_free (by omega) hlo.2
      have vold : ∀ f, VT I (w : Int) f → VT (wM K (I 4)) (w : Int) f := fun f hf => VT_congr (fun j _ => by rw [wM_ne _ _ (by decide), kI 3 (by decide)]) (fun j _ => by rw [wM_4]) (fun j _ => by rw [wM_ne _ _ (by decide), kI 5 (by decide)]) hf
      have uold : ∀ f, Us I f → Us K f := fun f hf q hq hne => by rw [kI 2 (by decide)]; exact hf q hq hne
      have hX : ∀ (d : Nat), d = 3 ∨ d = 5 → xmel_9 I p (L : Int) bit d = K d := fun d hd => by
        rw [xmel_9, zs2_ne _ _ _ _ (by omega), zs2_ne _ _ _ _ (by omega), kI d (by omega)]
      have hX4 : xmel_9 I p (L : Int) bit 4 = K 4 := by
        funext q
        rw [K4, xmel_9, Int.toNat_natCast, zs2_j]
        simp (disch := decide) only [zs2_ne]
      have rowC : Row K w 1 10 := by
        refine ⟨?_, ?_, fun q hq => ?_⟩
        · rw [KC]
          exact VT_congr (fun j _ => by rw [hX 3 (Or.inl rfl)]) (fun j _ => by rw [hX4]) (fun j _ => by rw [hX 5 (Or.inr rfl)]) hVn
        · rw [KC]; exact uold _ (Us_del hR.2.1)
        · rw [K39, KC]
          show (if 6 * 1 + q = 6 * 1 + p then -2 else I 39 (6 * 1 + q)) = if (if q = p then -1 else I 10 q) = -1 then -2 else (if q = p then -1 else I 10 q)
          by_cases c : q = p
          · rw [if_pos (by omega), if_pos c, if_pos rfl]
          · rw [if_neg (by omega), if_neg c]; exact hR.2.2 q hq
      have rowO : Row K w 0 8 := by
        have eO := kI 8 (by decide)
        refine ⟨?_, ?_, ?_⟩
        · rw [eO]
          refine VT_on hO.1 (fun q hq hne => ?_)
          have h3 := hO.1.2.2.1 q hq
          have hq2 : (I 8 q).toNat ≠ L := fun z => lOO q hq (by omega)
          rw [kI 3 (by decide), kI 5 (by decide), K4]
          show _ ∧ (if (I 8 q).toNat = L then zan (I 4 L) (zxr bit (-1)) else I 4 (I 8 q).toNat) = _ ∧ _
          rw [if_neg hq2]
          exact ⟨rfl, rfl, rfl⟩
        · rw [eO]; exact uold _ hO.2.1
        · rw [eO]
          exact MRow_same hO.2.2 (fun q hq => by rw [K39, if_neg (by have := h.1.1.2; omega)])
      have c19 : ∀ d, 19 ≤ d → d ≤ 24 → K d = xpush (zmapc I 31 32 (fun k => xjud I 10 (k : Int))) (xpk (I 8) 6) (xpk (I 10) 6) (I 0 8) (L : Int) (I 4 L) d := fun d x y => by
        rw [low d (by omega), ← hI1, xmelt_9, Int.toNat_natCast, zs2_ne _ _ _ _ (by omega), zs2_ne _ _ _ _ (by omega), zs2_ne _ _ _ _ (by omega)]
      have z31 : ∀ d, d ≠ 31 → zmapc I 31 32 (fun k => xjud I 10 (k : Int)) d = I d := fun d hd => zmapc_ne _ _ _ _ hd
      have cells : K 19 5 = (I 19 5 + 1) % 20 ∧ K 19 6 = min (I 19 6 + 1) 20 ∧ (∀ j, K 20 j = if j = (I 19 5).toNat then xpk (I 8) 6 else I 20 j) ∧ (∀ j, K 21 j = if j = (I 19 5).toNat then xpk (I 10) 6 else I 21 j) ∧ (∀ j, K 22 j = if j = (I 19 5).toNat then I 0 8 else I 22 j) ∧ (∀ j, K 23 j = if j = (I 19 5).toNat then (L : Int) else I 23 j) ∧ (∀ j, K 24 j = if j = (I 19 5).toNat then I 4 L else I 24 j) := by
        rw [c19 19 (by decide) (by decide), c19 20 (by decide) (by decide), c19 21 (by decide) (by decide), c19 22 (by decide) (by decide), c19 23 (by decide) (by decide), c19 24 (by decide) (by decide)]
        unfold xpush
        rw [z31 19 (by decide)]
        refine ⟨by rw [zs2_ne2 _ _ _ _ (by decide), zs2_at], by rw [zs2_at], fun j => ?_, fun j => ?_, fun j => ?_, fun j => ?_, fun j => ?_⟩
        all_goals
          simp (disch := decide) only [zs2_ne]
          rw [zs2_j]
          try simp (disch := decide) only [zs2_ne]
          rw [zmapc_ne _ _ _ _ (by decide)]
      obtain ⟨x1, x2, x3, x4, x5, x6, x7⟩ := cells
      have old : ∀ p', p' < w → ∀ u, u < 2 → zmapc I1 50 32 (fun k => mjud I1 w 1 (k : Int)) 39 (6 * u + p') = I 39 (6 * u + p') := fun p' _ u _ => by rw [z50 39 (by decide), hag 39 (by decide)]
      have h60 := h.1.1.2
      refine ⟨⟨h.1.1, by rw [K32 6 (by decide) (by decide)]; exact h.1.2.1, by rw [kI 7 (by decide)]; exact h.1.2.2.1, by rw [kI 9 (by decide)]; exact h.1.2.2.2⟩, ⟨by rw [kI 0 (by decide)]; exact h.2.1.1, by rw [K32 7 (by decide) (by decide), kI 0 (by decide)]; exact h.2.1.2⟩, fun r hr => ?_, ⟨rowO, rowC⟩, Mett_32 h.2.2.2.2.1 (K32 16 (by decide) (by decide)) (kI 41 (by decide)) (kI 42 (by decide)), Way_0 (by rw [low 25 (by decide), ← hI1, xmelt_9, zs2_at]) K21, ?_⟩
      · obtain ⟨e1, e2, e3⟩ := hC r hr
        unfold RA
        rw [kI 2 (by decide), kI 3 (by decide), kI 5 (by decide), kI 6 (by decide), kI 33 (by decide), kI 34 (by decide), kI 37 (by decide), kI 38 (by decide), K35, K36, K4]
        show _ ∧ _ ∧ (_ → ((if r = L then zan (I 35 L) (zxr bit (-1)) else I 35 r) = zan (I 3 r) (if r = L then zan (I 4 L) (zxr bit (-1)) else I 4 r) ∧ (if r = L then zan (I 4 L) (zxr bit (-1)) else I 36 r) = (if r = L then zan (I 4 L) (zxr bit (-1)) else I 4 r) ∧ _) ∧ _ ∧ _ ∧ _ ∧ (0 ≤ (if r = L then zan (I 4 L) (zxr bit (-1)) else I 4 r) ∧ (if r = L then zan (I 4 L) (zxr bit (-1)) else I 4 r) ≤ 31))
        refine ⟨e1, e2, fun z => ?_⟩
        obtain ⟨⟨c1, c2, c3⟩, c4, c5, c6, c7⟩ := e3 z
        by_cases e : r = L
        · rw [if_pos e, if_pos e, if_pos e, e, zan_as, ← d1]
          rw [e] at c3 c4 c5
          exact ⟨⟨rfl, rfl, c3⟩, c4, c5, d6, (zan_31 d7 hb31).2.2⟩
        · rw [if_neg e, if_neg e, if_neg e]
          exact ⟨⟨c1, c2, c3⟩, c4, c5, c6, c7⟩
      · have hL0 : ¬ ((L : Int) < 0) := by omega
        refine CplH_push (M := I 4) (e := (I 8, I 10, I 0 8, (L : Int), I 4 L)) (n := n) h.2.2.2.2.2.2 b2 ?_ ⟨⟨vold _ h.2.2.2.1.1.1, uold _ h.2.2.2.1.1.2.1⟩, ⟨vold _ h.2.2.2.1.2.1, uold _ h.2.2.2.1.2.2.1⟩, h.2.1.1, Or.inr ⟨⟨hul.1, hul.2.1, by rw [kI 2 (by decide)]; exact hul.2.2⟩, d7⟩⟩ (fun r _ _ => by rw [kI 2 (by decide), kI 3 (by decide), kI 5 (by decide)]; exact ⟨rfl, rfl, rfl, rfl⟩) x1 x2 x3 x4 x5 x6 x7 K329 (fun i hi => by rw [K40, k2 i hi, z50 40 (by decide), hag 40 (by decide)]) (fun p' hp' => ?_) (fun p' hp' => ?_) (by rw [K40, k4, z50 32 (by decide), hag 32 (by decide)]; exact h.2.1.2) (by rw [K40, k5]) (fun _ => ?_) h.1.1.2
        · funext j
          rw [HM, if_neg (show ¬ (L : Int) = -1 by omega)]
          show (if j = (L : Int).toNat then I 4 L else K 4 j) = I 4 j
          rw [Int.toNat_natCast, K4]
          show (if j = L then I 4 L else (if j = L then zan (I 4 L) (zxr bit (-1)) else I 4 j)) = I 4 j
          by_cases c : j = L
          · rw [if_pos c, c]
          · rw [if_neg c, if_neg c]
        · rw [K40, k3 p' (by omega)]
          have := old p' hp' 0 (by decide)
          rw [show 6 * 0 + p' = p' by omega] at this
          rw [this]
          have := h.2.2.2.1.1.2.2 p' hp'
          rw [show 6 * 0 + p' = p' by omega] at this
          exact this
        · rw [K40, k3 (6 + p') (by omega)]
          have := old p' hp' 1 (by decide)
          rw [show 6 * 1 + p' = 6 + p' by omega] at this
          rw [this]
          have := h.2.2.2.1.2.2.2 p' hp'
          rw [show 6 * 1 + p' = 6 + p' by omega] at this
          exact this
        · rw [K40, k6, k7, if_neg hL0, if_neg hL0, z50 36 (by decide), z50 35 (by decide), hag 36 (by decide), hag 35 (by decide), Int.toNat_natCast, kI 3 (by decide)]
          exact ⟨d2, d1⟩
theorem pr_melt {S : PS} {I : Nat → Nat → Int} {w : Nat} {t a b : Int} (h : Cpl I w) : Wp 97 (0, [zA 0, zI t, zI a, zI b, zU, zU, zU, zU], [], zH S I) (PQ S 162 [zA 32, zI t, zI a, zI b, zU, zU, zU, zU, zU, zU, zU, zU, zU]) := by
  by_cases h0 : t = 0
  · exact pr_melt_7 h0 h
  by_cases h1 : t = 1
  · exact pr_melt_9 h1 h
  · exact c_melt_n (by omega) (pq_ro h (fun Q hQ => m_melt_n (by omega) hQ))
