/-! pairs: rule, last, span, places, drop, act -/
theorem zfl_ne (I : Nat → Nat → Int) (r n : Nat) (x : Int) {i : Nat} (h : i ≠ r) : zfill I r n x i = I i := by simp [zfill, h]
theorem zfl_at (I : Nat → Nat → Int) (r n : Nat) (x : Int) {j : Nat} (h : j < n) : zfill I r n x r j = x := by simp [zfill, h]
theorem zcnt_pos {P : Nat → Prop} [DecidablePred P] {u : Nat} (h : P u) : ∀ n, u < n → 1 ≤ zcnt P n
  | 0, hu => absurd hu (by omega)
  | n + 1, hu => by
    simp only [zcnt]
    by_cases e : u = n
    · subst e; rw [if_pos h]; omega
    · have := zcnt_pos h n (by omega); omega
theorem xlu_sp {I : Nat → Nat → Int} : (xlu I = -1 ∧ ∀ r, r < 16 → I 2 r ≠ -1) ∨ ∃ u : Nat, xlu I = (u : Int) ∧ u < 16 ∧ I 2 u = -1 ∧ ∀ v, v < u → I 2 v ≠ -1 := by
  rcases zfs_spec (P := fun r => I 2 r = -1) 16 0 with ⟨h1, h2⟩ | ⟨j, h1, -, h3, h4, h5⟩
  · exact Or.inl ⟨h1, fun r hr => h2 r (Nat.zero_le _) (by omega)⟩
  · exact Or.inr ⟨j, h1, by omega, h4, fun v hv => h5 v (Nat.zero_le _) hv⟩
/-- a rule is made on both sides -/
theorem Cpl_set {I : Nat → Nat → Int} {w u : Nat} {k v m rk ac : Int} (h : Cpl I w) (hu : u < 16) (h0 : I 2 u = -1) (hk : k ≠ -1) (hv : 0 ≤ v ∧ v ≤ 31) (hm : 0 ≤ m ∧ m ≤ 31) : Cpl (mset (xset I (u : Int) k v m rk ac) u k v m rk ac) w := by
  obtain ⟨⟨h1, h2, h3, h4⟩, ⟨h5, h6⟩, h7, ⟨h8, h9⟩, h10, ⟨n, a1, a2, a3, a4⟩, h12⟩ := h
  generalize hJ : mset (xset I (u : Int) k v m rk ac) u k v m rk ac = J
  have ne : ∀ d, d ≠ 2 → d ≠ 3 → d ≠ 4 → d ≠ 5 → d ≠ 6 → d ≠ 33 → d ≠ 34 → d ≠ 35 → d ≠ 36 → d ≠ 37 → d ≠ 38 → J d = I d := fun d d2 d3 d4 d5 d6 e3 e4 e5 e6 e7 e8 => by
    rw [← hJ, mset, zs2_ne _ _ _ _ e8, zs2_ne _ _ _ _ e7, zs2_ne _ _ _ _ e6, zs2_ne _ _ _ _ e5, zs2_ne _ _ _ _ e4, zs2_ne _ _ _ _ e3, xset, zs2_ne _ _ _ _ d6, zs2_ne _ _ _ _ d5, zs2_ne _ _ _ _ d4, zs2_ne _ _ _ _ d3, zs2_ne _ _ _ _ d2]
  have cells : (∀ r, J 2 r = if r = u then k else I 2 r) ∧ (∀ r, J 3 r = if r = u then v else I 3 r) ∧ (∀ r, J 4 r = if r = u then m else I 4 r) ∧ (∀ r, J 5 r = if r = u then rk else I 5 r) ∧ (∀ r, J 6 r = if r = u then ac else I 6 r) ∧ (∀ r, J 33 r = if r = u then 1 else I 33 r) ∧ (∀ r, J 34 r = if r = u then k else I 34 r) ∧ (∀ r, J 35 r = if r = u then zan v m else I 35 r) ∧ (∀ r, J 36 r = if r = u then m else I 36 r) ∧ (∀ r, J 37 r = if r = u then rk else I 37 r) ∧ (∀ r, J 38 r = if r = u then ac else I 38 r) := by
    rw [← hJ]
    unfold mset xset
    rw [Int.toNat_natCast]
    refine ⟨fun r => ?_, fun r => ?_, fun r => ?_, fun r => ?_, fun r => ?_, fun r => ?_, fun r => ?_, fun r => ?_, fun r => ?_, fun r => ?_, fun r => ?_⟩
    all_goals
      try simp (disch := decide) only [zs2_ne]
      rw [zs2_j]
      try simp (disch := decide) only [zs2_ne]
  obtain ⟨c2, c3, c4, c5, c6, m33, m34, m35, m36, m37, m38⟩ := cells
  have g : ∀ r, r < 16 → I 2 r ≠ -1 → J 2 r = I 2 r ∧ J 3 r = I 3 r ∧ J 4 r = I 4 r ∧ J 5 r = I 5 r := fun r _ hr => by
    have hne : r ≠ u := fun e => hr (by rw [e]; exact h0)
    rw [c2, c3, c4, c5, if_neg hne, if_neg hne, if_neg hne, if_neg hne]
    exact ⟨rfl, rfl, rfl, rfl⟩
  have row : ∀ (t c : Nat), J c = I c → Row I w t c → Row J w t c := fun t c e hr => by
    obtain ⟨b1, b2, b3⟩ := hr
    unfold Row MRow
    rw [e, ne 39 (by decide) (by decide) (by decide) (by decide) (by decide) (by decide) (by decide) (by decide) (by decide) (by decide) (by decide)]
    exact ⟨VT_us b1 b2 (fun r hr hu => (g r hr hu).2), Us_us b1.2.2.1 b2 (fun r hr hu => (g r hr hu).1), b3⟩
  have n32 : J 32 = I 32 := ne 32 (by decide) (by decide) (by decide) (by decide) (by decide) (by decide) (by decide) (by decide) (by decide) (by decide) (by decide)
  refine ⟨⟨h1, by rw [n32]; exact h2, ?_, ?_⟩, ⟨?_, ?_⟩, fun r hr => ?_, ⟨row 0 8 ?_ h8, row 1 10 ?_ h9⟩, ?_, ⟨n, a1, ?_, by rw [n32]; exact a3, fun i hi => ?_⟩, ?_⟩
  · rw [ne 7 (by decide) (by decide) (by decide) (by decide) (by decide) (by decide) (by decide) (by decide) (by decide) (by decide) (by decide)]; exact h3
  · rw [ne 9 (by decide) (by decide) (by decide) (by decide) (by decide) (by decide) (by decide) (by decide) (by decide) (by decide) (by decide)]; exact h4
  · rw [ne 0 (by decide) (by decide) (by decide) (by decide) (by decide) (by decide) (by decide) (by decide) (by decide) (by decide) (by decide)]; exact h5
  · rw [n32, ne 0 (by decide) (by decide) (by decide) (by decide) (by decide) (by decide) (by decide) (by decide) (by decide) (by decide) (by decide)]; exact h6
  · unfold RA
    rw [c2, c3, c4, c5, c6, m33, m34, m35, m36, m37, m38]
    by_cases e : r = u
    · simp only [if_pos e]
      exact ⟨⟨fun z => absurd z hk, fun z => absurd z (by decide)⟩, Or.inr (by trivial), fun _ => ⟨⟨by trivial, by trivial, by trivial⟩, by trivial, by trivial, hv, hm⟩⟩
    · simp only [if_neg e]
      exact h7 r hr
  · exact ne 8 (by decide) (by decide) (by decide) (by decide) (by decide) (by decide) (by decide) (by decide) (by decide) (by decide) (by decide)
  · exact ne 10 (by decide) (by decide) (by decide) (by decide) (by decide) (by decide) (by decide) (by decide) (by decide) (by decide) (by decide)
  · exact Mett_32 h10 (by rw [n32]) (ne 41 (by decide) (by decide) (by decide) (by decide) (by decide) (by decide) (by decide) (by decide) (by decide) (by decide) (by decide)) (ne 42 (by decide) (by decide) (by decide) (by decide) (by decide) (by decide) (by decide) (by decide) (by decide) (by decide) (by decide))
  · rw [ne 25 (by decide) (by decide) (by decide) (by decide) (by decide) (by decide) (by decide) (by decide) (by decide) (by decide) (by decide)]; exact a2
  · rw [ne 48 (by decide) (by decide) (by decide) (by decide) (by decide) (by decide) (by decide) (by decide) (by decide) (by decide) (by decide), ne 49 (by decide) (by decide) (by decide) (by decide) (by decide) (by decide) (by decide) (by decide) (by decide) (by decide) (by decide), ne 26 (by decide) (by decide) (by decide) (by decide) (by decide) (by decide) (by decide) (by decide) (by decide) (by decide) (by decide), ne 27 (by decide) (by decide) (by decide) (by decide) (by decide) (by decide) (by decide) (by decide) (by decide) (by decide) (by decide)]
    exact a4 i hi
  · have e : ∀ d, 19 ≤ d → d ≤ 24 ∨ d = 40 → J d = I d := fun d d1 d2 => ne d (by omega) (by omega) (by omega) (by omega) (by omega) (by omega) (by omega) (by omega) (by omega) (by omega) (by omega)
    exact CplH_same h12 (e 19 (by decide) (by decide)) (e 20 (by decide) (by decide)) (e 21 (by decide) (by decide)) (e 22 (by decide) (by decide)) (e 23 (by decide) (by decide)) (e 24 (by decide) (by decide)) (e 40 (by decide) (by decide)) (by rw [n32]) (fun r hr hu => ⟨(g r hr hu).1, (g r hr hu).2.1, (g r hr hu).2.2.1, (g r hr hu).2.2.2⟩)
theorem xset_ne {I : Nat → Nat → Int} {r k v m rk a : Int} {d : Nat} (h : d < 2 ∨ 6 < d) : xset I r k v m rk a d = I d := by
  rw [xset, zs2_ne _ _ _ _ (by omega), zs2_ne _ _ _ _ (by omega), zs2_ne _ _ _ _ (by omega), zs2_ne _ _ _ _ (by omega), zs2_ne _ _ _ _ (by omega)]
theorem pr_rule {S : PS} {I : Nat → Nat → Int} {w : Nat} {v m rk ac : Int} (h : Cpl I w) : Wp 79 (0, [zA 0, zI v, zI m, zI rk, zI ac], [], zH S I) (PQ S 128 [zA 32, zI v, zI m, zI rk, zI ac]) := by
  have hC := h.2.2.1
  refine c_rule ?_
  by_cases hok : mrok v m rk ac
  · have hn : ¬ (¬ (0 ≤ v ∧ v < 32) ∨ ¬ (0 ≤ m ∧ m < 32) ∨ ¬ (0 ≤ rk ∧ rk < 100) ∨ ¬ (0 ≤ ac ∧ ac < 16)) := by omega
    rw [if_neg hn, if_neg hn]
    rcases xlu_sp (I := I) with ⟨e, hno⟩ | ⟨u, e, u1, u2, u3⟩
    · rw [if_pos e, if_pos e]
      exact pq_ro h (fun Q hQ => m_rule (fun c => absurd hok c) (fun _ _ => hQ) (fun _ u hu h0 _ => absurd ((hC u hu).1.mpr h0) (hno u hu)))
    · have e2 : ¬ xlu I = -1 := by omega
      rw [if_neg e2, if_neg e2, e]
      refine ⟨(u : Int), _, rfl, m_rule (fun c => absurd hok c) (fun _ hz => ?_) (fun _ u' hu' h0 hn => ?_)⟩
      · have := zcnt_pos (P := fun r => xset I (u : Int) 0 v m rk ac 33 r = 0) (u := u) (by rw [xset_ne (by omega)]; exact (hC u u1).1.mp u2) 16 u1
        omega
      · rw [xset_ne (by omega)] at h0 hn
        have : u' = u := by
          by_cases c : u' < u
          · exact absurd ((hC u' hu').1.mpr h0) (u3 u' c)
          · by_cases c2 : u < u'
            · exact absurd ((hC u u1).1.mp u2) (hn u c2)
            · omega
        subst this
        exact ⟨_, w, rfl, Cpl_set h u1 u2 (by decide) hok.1 hok.2.1⟩
  · have hn : ¬ (0 ≤ v ∧ v < 32) ∨ ¬ (0 ≤ m ∧ m < 32) ∨ ¬ (0 ≤ rk ∧ rk < 100) ∨ ¬ (0 ≤ ac ∧ ac < 16) := by omega
    rw [if_pos hn, if_pos hn]
    exact pq_ro h (fun Q hQ => m_rule (fun _ => hQ) (fun c => absurd c hok) (fun c => absurd c hok))
theorem pr_last {S : PS} {I : Nat → Nat → Int} {w : Nat} {ac : Int} (h : Cpl I w) : Wp 80 (0, [zA 0, zI ac], [], zH S I) (PQ S 129 [zA 32, zI ac]) := by
  have hC := h.2.2.1
  refine c_last ?_
  by_cases hok : 0 ≤ ac ∧ ac ≤ 15
  · have hn : ¬ (¬ (0 ≤ ac ∧ ac < 16)) := by omega
    rw [if_neg hn, if_neg hn]
    rcases xlu_sp (I := I) with ⟨e, hno⟩ | ⟨u, e, u1, u2, u3⟩
    · rw [if_pos e, if_pos e]
      exact pq_ro h (fun Q hQ => m_last (fun c => absurd hok c) (fun _ _ => hQ) (fun _ u hu h0 _ => absurd ((hC u hu).1.mpr h0) (hno u hu)))
    · have e2 : ¬ xlu I = -1 := by omega
      rw [if_neg e2, if_neg e2, e]
      refine ⟨(u : Int), _, rfl, m_last (fun c => absurd hok c) (fun _ hz => ?_) (fun _ u' hu' h0 hn => ?_)⟩
      · have := zcnt_pos (P := fun r => xset I (u : Int) 2 0 0 0 ac 33 r = 0) (u := u) (by rw [xset_ne (by omega)]; exact (hC u u1).1.mp u2) 16 u1
        omega
      · rw [xset_ne (by omega)] at h0 hn
        have : u' = u := by
          by_cases c : u' < u
          · exact absurd ((hC u' hu').1.mpr h0) (u3 u' c)
          · by_cases c2 : u < u'
            · exact absurd ((hC u u1).1.mp u2) (hn u c2)
            · omega
        subst this
        exact ⟨_, w, rfl, Cpl_set h u1 u2 (by decide) (by decide) (by decide)⟩
  · have hn : ¬ (0 ≤ ac ∧ ac < 16) := by omega
    rw [if_pos hn, if_pos hn]
    exact pq_ro h (fun Q hQ => m_last (fun _ => hQ) (fun c => absurd c hok) (fun c => absurd c hok))
/-- the class's cells of one heap, the reference's of another one -/
def mg (A B : Nat → Nat → Int) : Nat → Nat → Int := fun d => if d < 32 then A d else B d
theorem mg_lo {A B : Nat → Nat → Int} {d : Nat} (h : d < 32) : mg A B d = A d := if_pos h
theorem mg_hi {A B : Nat → Nat → Int} {d : Nat} (h : ¬ d < 32) : mg A B d = B d := if_neg h
theorem xlu_c {A B : Nat → Nat → Int} (h : A 2 = B 2) : xlu A = xlu B := by unfold xlu; rw [h]
theorem mlu_c {A B : Nat → Nat → Int} (h : A 33 = B 33) : mlu A = mlu B := by unfold mlu; rw [h]
theorem xset_c {A B : Nat → Nat → Int} {r k v m rk a : Int} (h : ∀ d, d < 32 → A d = B d) : ∀ d, d < 32 → xset A r k v m rk a d = xset B r k v m rk a d := fun d hd => by
  funext j
  by_cases e6 : d = 6
  · subst e6; unfold xset; rw [zs2_j, zs2_j]; simp (disch := decide) only [zs2_ne]; rw [h 6 hd]
  by_cases e5 : d = 5
  · subst e5; unfold xset; rw [zs2_ne _ _ _ _ e6, zs2_ne _ _ _ _ e6, zs2_j, zs2_j]; simp (disch := decide) only [zs2_ne]; rw [h 5 hd]
  by_cases e4 : d = 4
  · subst e4; unfold xset; rw [zs2_ne _ _ _ _ e6, zs2_ne _ _ _ _ e6, zs2_ne _ _ _ _ e5, zs2_ne _ _ _ _ e5, zs2_j, zs2_j]; simp (disch := decide) only [zs2_ne]; rw [h 4 hd]
  by_cases e3 : d = 3
  · subst e3; unfold xset; rw [zs2_ne _ _ _ _ e6, zs2_ne _ _ _ _ e6, zs2_ne _ _ _ _ e5, zs2_ne _ _ _ _ e5, zs2_ne _ _ _ _ e4, zs2_ne _ _ _ _ e4, zs2_j, zs2_j]; simp (disch := decide) only [zs2_ne]; rw [h 3 hd]
  by_cases e2 : d = 2
  · subst e2; unfold xset; rw [zs2_ne _ _ _ _ e6, zs2_ne _ _ _ _ e6, zs2_ne _ _ _ _ e5, zs2_ne _ _ _ _ e5, zs2_ne _ _ _ _ e4, zs2_ne _ _ _ _ e4, zs2_ne _ _ _ _ e3, zs2_ne _ _ _ _ e3, zs2_j, zs2_j, h 2 hd]
  rw [xset_ne (by omega), xset_ne (by omega), h d hd]
theorem mset_ne {I : Nat → Nat → Int} {u : Nat} {k v m rk a : Int} {d : Nat} (h : d < 33 ∨ 38 < d) : mset I u k v m rk a d = I d := by
  rw [mset, zs2_ne _ _ _ _ (by omega), zs2_ne _ _ _ _ (by omega), zs2_ne _ _ _ _ (by omega), zs2_ne _ _ _ _ (by omega), zs2_ne _ _ _ _ (by omega), zs2_ne _ _ _ _ (by omega)]
theorem mset_c {A B : Nat → Nat → Int} {u : Nat} {k v m rk a : Int} (h : ∀ d, ¬ d < 32 → A d = B d) : ∀ d, ¬ d < 32 → mset A u k v m rk a d = mset B u k v m rk a d := fun d hd => by
  have key : ∀ (X : Nat → Nat → Int) (j : Nat), mset X u k v m rk a d j = (if d = 38 then (if j = u then a else X 38 j) else if d = 37 then (if j = u then rk else X 37 j) else if d = 36 then (if j = u then m else X 36 j) else if d = 35 then (if j = u then zan v m else X 35 j) else if d = 34 then (if j = u then k else X 34 j) else if d = 33 then (if j = u then 1 else X 33 j) else X d j) := fun X j => by
    unfold mset
    by_cases e8 : d = 38
    · subst e8; rw [if_pos rfl, zs2_j]; simp (disch := decide) only [zs2_ne]
    rw [if_neg e8, zs2_ne _ _ _ _ e8]
    by_cases e7 : d = 37
    · subst e7; rw [if_pos rfl, zs2_j]; simp (disch := decide) only [zs2_ne]
    rw [if_neg e7, zs2_ne _ _ _ _ e7]
    by_cases e6 : d = 36
    · subst e6; rw [if_pos rfl, zs2_j]; simp (disch := decide) only [zs2_ne]
    rw [if_neg e6, zs2_ne _ _ _ _ e6]
    by_cases e5 : d = 35
    · subst e5; rw [if_pos rfl, zs2_j]; simp (disch := decide) only [zs2_ne]
    rw [if_neg e5, zs2_ne _ _ _ _ e5]
    by_cases e4 : d = 34
    · subst e4; rw [if_pos rfl, zs2_j]; simp (disch := decide) only [zs2_ne]
    rw [if_neg e4, zs2_ne _ _ _ _ e4]
    by_cases e3 : d = 33
    · subst e3; rw [if_pos rfl, zs2_j]
    rw [if_neg e3, zs2_ne _ _ _ _ e3]
  funext j
  rw [key A j, key B j, h 38 (by decide), h 37 (by decide), h 36 (by decide), h 35 (by decide), h 34 (by decide), h 33 (by decide), h d hd]
theorem spf_c {b : Nat} {rk ac : Int} : ∀ (n a : Nat) (A B : Nat → Nat → Int), (∀ d, d < 32 → A d = B d) → ∀ d, d < 32 → spf b rk ac n a A d = spf b rk ac n a B d
  | 0, _, _, _, h => h
  | n + 1, a, A, B, h => by
    intro d hd
    simp only [spf]
    rw [xlu_c (h 2 (by decide))]
    exact spf_c n _ _ _ (xset_c h) d hd
theorem spf_hi {b : Nat} {rk ac : Int} : ∀ (n a : Nat) (A : Nat → Nat → Int) (d : Nat), ¬ d < 32 → spf b rk ac n a A d = A d
  | 0, _, _, _, _ => rfl
  | n + 1, a, A, d, hd => by
    simp only [spf]
    rw [spf_hi n _ _ d hd, xset_ne (by omega)]
theorem spm_c {b : Nat} {rk ac : Int} : ∀ (n a : Nat) (A B : Nat → Nat → Int), (∀ d, ¬ d < 32 → A d = B d) → ∀ d, ¬ d < 32 → spm b rk ac n a A d = spm b rk ac n a B d
  | 0, _, _, _, h => h
  | n + 1, a, A, B, h => by
    intro d hd
    simp only [spm]
    rw [mlu_c (h 33 (by decide))]
    exact spm_c n _ _ _ (mset_c h) d hd
theorem spm_lo {b : Nat} {rk ac : Int} : ∀ (n a : Nat) (A : Nat → Nat → Int) (d : Nat), d < 32 → spm b rk ac n a A d = A d
  | 0, _, _, _, _ => rfl
  | n + 1, a, A, d, hd => by
    simp only [spm]
    rw [spm_lo n _ _ d hd, mset_ne (by omega)]
theorem Cpl_span {b : Nat} {rk ac : Int} {w : Nat} (hb : b < 32) : ∀ (n f a : Nat) (I : Nat → Nat → Int), Cpl I w → rwf b f a = n → n ≤ zcnt (fun r => I 2 r = -1) 16 → Cpl (mg (spf b rk ac n a I) (spm b rk ac n a I)) w
  | 0, f, a, I, h, _, _ => by
    have : mg (spf b rk ac 0 a I) (spm b rk ac 0 a I) = I := by
      funext d
      by_cases c : d < 32
      · rw [mg_lo c]; rfl
      · rw [mg_hi c]; rfl
    rw [this]; exact h
  | n + 1, f, a, I, h, hf, hc => by
    cases f with
    | zero => simp [rwf] at hf
    | succ f =>
      simp only [rwf] at hf
      by_cases hab : a ≤ b
      · rw [if_pos hab] at hf
        have hC := h.2.2.1
        have hk := kr_in hab
        obtain ⟨u, e1, u1, u2, u3⟩ := xlu_ne (I := I) (by omega)
        have e2 : mlu I = u := by
          obtain ⟨v1, v2, v3⟩ := mlu_sp (I := I) (by rw [CR_cnt hC]; omega)
          by_cases c : mlu I < u
          · exact absurd ((hC _ v1).1.mpr v2) (u3 _ c)
          · by_cases c2 : u < mlu I
            · exact absurd ((hC u u1).1.mp u2) (v3 u c2)
            · omega
        generalize hI' : mset (xset I (u : Int) 1 (a : Int) (32 - ((kr a b : Nat) : Int)) rk ac) u 1 (a : Int) (32 - ((kr a b : Nat) : Int)) rk ac = I'
        have hC' : Cpl I' w := by rw [← hI']; exact Cpl_set h u1 u2 (by decide) (by omega) (by omega)
        have lo : ∀ d, d < 32 → xset I (u : Int) 1 (a : Int) (32 - ((kr a b : Nat) : Int)) rk ac d = I' d := fun d hd => by rw [← hI', mset_ne (by omega)]
        have hi : ∀ d, ¬ d < 32 → mset I u 1 (a : Int) (32 - ((kr a b : Nat) : Int)) rk ac d = I' d := fun d hd => by
          rw [← hI']; exact mset_c (fun d' hd' => by rw [xset_ne (by omega)]) d hd
        have hcnt : n ≤ zcnt (fun r => I' 2 r = -1) 16 := by
          have := xset_cnt (I := I) (k := 1) (v := (a : Int)) (m := 32 - ((kr a b : Nat) : Int)) (rk := rk) (ac := ac) (by decide) (by omega)
          rw [e1, lo 2 (by decide)] at this
          omega
        have ih := Cpl_span (rk := rk) (ac := ac) hb n f (a + kr a b) I' hC' (by omega) hcnt
        have : mg (spf b rk ac (n + 1) a I) (spm b rk ac (n + 1) a I) = mg (spf b rk ac n (a + kr a b) I') (spm b rk ac n (a + kr a b) I') := by
          funext d
          by_cases c : d < 32
          · rw [mg_lo c, mg_lo c]
            simp only [spf]
            rw [e1]
            exact spf_c n _ _ _ lo d c
          · rw [mg_hi c, mg_hi c]
            simp only [spm]
            rw [e2]
            exact spm_c n _ _ _ hi d c
        rw [this]; exact ih
      · rw [if_neg hab] at hf; omega
theorem pr_span {S : PS} {I : Nat → Nat → Int} {w : Nat} {a b rk ac : Int} (h : Cpl I w) : Wp 81 (0, [zA 0, zI a, zI b, zI rk, zI ac, zU, zU, zU, zU], [], zH S I) (PQ S 131 [zA 32, zI a, zI b, zI rk, zI ac, zU, zU, zU]) := by
  have hC := h.2.2.1
  have okk : spok a b rk ac ↔ mspok a b rk ac := by unfold spok mspok; omega
  refine c_span (fun hn => ?_) (fun hok hl => ?_) (fun hok hl => ?_)
  · exact pq_ro h (fun Q hQ => m_span (fun _ => hQ) (fun c => absurd (okk.mpr c) hn) (fun c => absurd (okk.mpr c) hn))
  · exact pq_ro h (fun Q hQ => m_span (fun c => absurd (okk.mp hok) c) (fun _ _ => hQ) (fun _ c => by rw [CR_cnt hC] at c; omega))
  · have hcnt : ∀ X : Nat → Nat → Int, X 33 = I 33 → zcnt (fun r => X 33 r = 0) 16 = zcnt (fun r => I 2 r = -1) 16 := fun X e => by rw [e]; exact CR_cnt hC
    have e33 : spf b.toNat rk ac (rwf b.toNat 32 a.toNat) a.toNat I 33 = I 33 := spf_hi _ _ _ _ (by decide)
    refine ⟨_, _, rfl, m_span (fun c => absurd (okk.mp hok) c) (fun _ c => by rw [hcnt _ e33] at c; omega) (fun _ _ => ⟨_, w, rfl, ?_⟩)⟩
    have hJ : spm b.toNat rk ac (rwf b.toNat 32 a.toNat) a.toNat (spf b.toNat rk ac (rwf b.toNat 32 a.toNat) a.toNat I) = mg (spf b.toNat rk ac (rwf b.toNat 32 a.toNat) a.toNat I) (spm b.toNat rk ac (rwf b.toNat 32 a.toNat) a.toNat I) := by
      funext d
      by_cases c : d < 32
      · rw [mg_lo c, spm_lo _ _ _ _ c]
      · rw [mg_hi c]
        exact spm_c _ _ _ _ (fun d' hd' => spf_hi _ _ _ _ hd') d c
    rw [hJ]
    exact Cpl_span (by have := hok.2.1; omega) _ 32 _ I h rfl hl
theorem pr_places {S : PS} {I : Nat → Nat → Int} {w : Nat} {n : Int} (h : Cpl I w) : Wp 78 (0, [zA 0, zI n, zU], [], zH S I) (PQ S 125 [zA 32, zI n, zU, zU]) := by
  refine c_places ?_
  by_cases hok : 2 ≤ n ∧ n ≤ 6
  · have hn : ¬ (n < 2 ∨ 6 < n) := by omega
    rw [if_neg hn, if_neg hn]
    refine ⟨_, _, rfl, m_places (fun c => absurd hok c) (fun _ => ?_)⟩
    obtain ⟨⟨h1, h2, h3, h4⟩, ⟨h5, h6⟩, h7, ⟨h8, h9⟩, h10, h11, h12⟩ := h
    obtain ⟨r5, r6, -⟩ := CplH_59 h12
    obtain ⟨N, rfl⟩ : ∃ N : Nat, n = (N : Int) := ⟨n.toNat, by omega⟩
    have e1 : xemp I (N : Int) 32 = I 32 := by
      unfold xemp
      simp (disch := decide) only [zs2_ne, zfl_ne]
    generalize hJ : zfill (zfill (zs2 (zs2 (zs2 (zs2 (xemp I (N : Int)) 32 6 (N : Int)) 32 7 0) 32 9 0) 32 21 0) 39 12 (-2)) 33 16 0 = J
    refine ⟨J, N, ?_, ?_⟩
    · rw [e1, h2, h3]
    have j32 : ∀ j, j ≠ 6 → j ≠ 7 → j ≠ 9 → j ≠ 21 → J 32 j = I 32 j := fun j a b c d => by
      rw [← hJ, zfl_ne _ _ _ _ (by decide), zfl_ne _ _ _ _ (by decide), zs2_ne2 _ _ _ _ d, zs2_ne2 _ _ _ _ c, zs2_ne2 _ _ _ _ b, zs2_ne2 _ _ _ _ a, e1]
    have lo : ∀ d, d ≠ 32 → d ≠ 33 → d ≠ 39 → J d = xemp I (N : Int) d := fun d a b c => by
      rw [← hJ, zfl_ne _ _ _ _ b, zfl_ne _ _ _ _ c, zs2_ne _ _ _ _ a, zs2_ne _ _ _ _ a, zs2_ne _ _ _ _ a, zs2_ne _ _ _ _ a]
    have c2 : ∀ r, r < 16 → J 2 r = -1 := fun r hr => by
      rw [lo 2 (by decide) (by decide) (by decide), xemp]
      simp (disch := decide) only [zs2_ne, zfl_ne]
      exact zfl_at _ _ _ _ (by omega)
    have c8 : ∀ p, p < 6 → J 8 p = -1 := fun p hp => by
      rw [lo 8 (by decide) (by decide) (by decide), xemp]
      simp (disch := decide) only [zs2_ne, zfl_ne]
      exact zfl_at _ _ _ _ hp
    have c10 : ∀ p, p < 6 → J 10 p = -1 := fun p hp => by
      rw [lo 10 (by decide) (by decide) (by decide), xemp]
      simp (disch := decide) only [zs2_ne, zfl_ne]
      exact zfl_at _ _ _ _ hp
    have c39 : ∀ i, i < 12 → J 39 i = -2 := fun i hi => by
      rw [← hJ, zfl_ne _ _ _ _ (by decide)]; exact zfl_at _ _ _ _ hi
    have c33 : ∀ r, r < 16 → J 33 r = 0 := fun r hr => by
      rw [← hJ]; exact zfl_at _ _ _ _ hr
    have row : ∀ (t c : Nat), t < 2 → (∀ p, p < 6 → J c p = -1) → Row J N t c := fun t c ht hc => by
      refine ⟨⟨by omega, by omega, fun p hp => by rw [hc p hp]; decide, fun p _ hp => hc p hp, fun p q hp hq _ hne => absurd (hc p hp) hne, fun p hp a ha z => ?_⟩, fun q hq hne => absurd (hc q hq) hne, fun p hp => by rw [c39 _ (by omega), hc p (by omega), if_pos rfl]⟩
      have := z.1.1.1
      rw [hc a (by omega)] at this
      omega
    have j196 : J 19 6 = 0 := by
      rw [lo 19 (by decide) (by decide) (by decide), xemp, zs2_ne _ _ _ _ (by decide), zs2_at]
    have j195 : J 19 5 = I 19 5 := by
      rw [lo 19 (by decide) (by decide) (by decide), xemp, zs2_ne _ _ _ _ (by decide), zs2_ne2 _ _ _ _ (by decide)]
      simp (disch := decide) only [zs2_ne, zfl_ne]
    have j329 : J 32 9 = 0 := by
      rw [← hJ, zfl_ne _ _ _ _ (by decide), zfl_ne _ _ _ _ (by decide), zs2_ne2 _ _ _ _ (by decide), zs2_at]
    refine ⟨⟨by omega, ?_, ?_, ?_⟩, ⟨?_, ?_⟩, fun r hr => ?_, ⟨row 0 8 (by decide) c8, row 1 10 (by decide) c10⟩, ?_, ⟨0, by omega, ?_, ?_, fun i hi => absurd hi (by omega)⟩, CplH_nil (by rw [j195]; exact r5) j196 j329⟩
    · rw [← hJ, zfl_ne _ _ _ _ (by decide), zfl_ne _ _ _ _ (by decide), zs2_ne2 _ _ _ _ (by decide), zs2_ne2 _ _ _ _ (by decide), zs2_ne2 _ _ _ _ (by decide), zs2_at]
    · rw [lo 7 (by decide) (by decide) (by decide), xemp]
      simp (disch := decide) only [zs2_ne, zfl_ne]
      exact zs2_at _ _ _ _
    · rw [lo 9 (by decide) (by decide) (by decide), xemp]
      simp (disch := decide) only [zs2_ne]
      exact zs2_at _ _ _ _
    · left
      rw [lo 0 (by decide) (by decide) (by decide), xemp]
      simp (disch := decide) only [zs2_ne]
      exact zs2_at _ _ _ _
    · rw [lo 0 (by decide) (by decide) (by decide), xemp, ← hJ, zfl_ne _ _ _ _ (by decide), zfl_ne _ _ _ _ (by decide), zs2_ne2 _ _ _ _ (by decide), zs2_ne2 _ _ _ _ (by decide), zs2_at]
      simp (disch := decide) only [zs2_ne]
      exact (zs2_at _ _ _ _).symm
    · refine ⟨⟨fun _ => c33 r hr, fun _ => c2 r hr⟩, Or.inl (c33 r hr), fun z => absurd (c2 r hr) z⟩
    · refine Mett_32 h10 (j32 16 (by decide) (by decide) (by decide) (by decide)) ?_ ?_
      · rw [lo 41 (by decide) (by decide) (by decide), xemp]
        simp (disch := decide) only [zs2_ne, zfl_ne]
      · rw [lo 42 (by decide) (by decide) (by decide), xemp]
        simp (disch := decide) only [zs2_ne, zfl_ne]
    · rw [lo 25 (by decide) (by decide) (by decide), xemp, zs2_at]; rfl
    · rw [← hJ, zfl_ne _ _ _ _ (by decide), zfl_ne _ _ _ _ (by decide), zs2_at]; rfl
  · have hn : n < 2 ∨ 6 < n := by omega
    rw [if_pos hn, if_pos hn]
    exact pq_ro h (fun Q hQ => m_places (fun _ => hQ) (fun c => absurd c hok))
theorem plc_m1 {f : Nat → Int} {r : Int} (h : ¬ xplc f r = -1) : 0 ≤ xplc f r := by
  obtain ⟨q, _, q2, _⟩ := xplc_in h
  omega
