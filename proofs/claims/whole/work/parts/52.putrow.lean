/-! the row behind a put -/
theorem xhi_tot {I : Nat → Nat → Int} {a b : Int} (ha : num a) (hb : num b) (h : a ≠ b) : xhi I a b ↔ ¬ xhi I b a := by
  unfold xhi
  constructor
  · intro h1 h2; have := h1.2.2; have := h2.2.2; omega
  · intro h1
    refine ⟨ha, hb, ?_⟩
    by_cases c1 : I 5 b.toNat < I 5 a.toNat
    · exact Or.inl c1
    · by_cases c2 : I 5 a.toNat < I 5 b.toNat
      · exact absurd ⟨hb, ha, Or.inl c2⟩ h1
      · by_cases c3 : a < b
        · exact Or.inr ⟨by omega, c3⟩
        · exact absurd ⟨hb, ha, Or.inr ⟨by omega, by omega⟩⟩ h1
theorem cBA {I : Nat → Nat → Int} {f : Nat → Int} {r : Int} {k : Nat} (hk : (mem f 16).length = k) (hr : num r) (hn : ∀ p, p < 6 → f p ≠ r) {m o : Nat} (hm : m < k) (ho : o < k) : cB I f r k m o ↔ cA I f r k o m := by
  unfold cB cA
  have n1 := mbr_num (k := k) (i := m) hk hr
  have n2 := mbr_num (k := k) (i := o) hk hr
  constructor
  · rintro ⟨h1, h2, h3, h4⟩
    exact ⟨hm, Ne.symm h2, xov_sym h3, (xhi_tot n2 n1 (mbr_inj hk hn (by omega) (by omega) h2)).mp h4⟩
  · rintro ⟨h1, h2, h3, h4⟩
    exact ⟨ho, Ne.symm h2, xov_sym h3, (xhi_tot n2 n1 (mbr_inj hk hn (by omega) (by omega) (Ne.symm h2))).mpr h4⟩
theorem sfA_0 {I : Nat → Nat → Int} {f : Nat → Int} {r : Int} {k N : Nat} (hV : VT I (N : Int) f) (hk : (mem f 16).length = k) (hr : num r) (hn : ∀ p, p < 6 → f p ≠ r) : sfA (cB I f r k) (cA I f r k) N k (ca0 f) := by
  obtain ⟨v1, v2, v3, v4, v5, v6⟩ := hV
  have hb := ca0_barr hk
  have key : ∀ m o, m < k → o < k → cB I f r k m o → (ca0 f).getD o 0 < (ca0 f).getD m 0 := fun m o hm ho h => by
    obtain ⟨_, h2, h3, h4⟩ := h
    obtain ⟨rm, pm, a1, a2, a3, a4, a5, a6⟩ := mem_i hk hm
    obtain ⟨ro, po, b1, b2, b3, b4, b5, b6⟩ := mem_i hk ho
    have e1 : mbr f r k m = f pm := by rw [mbr, if_pos hm, a1, a5]
    have e2 : mbr f r k o = f po := by rw [mbr, if_pos ho, b1, b5]
    rw [e1, e2] at h3 h4
    rw [a6, b6]
    rcases Nat.lt_trichotomy po pm with c | c | c
    · exact c
    · subst c
      have := h4.2.2; omega
    · exact absurd ⟨h3, h4⟩ (v6 po b3 pm c)
  refine ⟨hb, fun x hx => ?_, fun m o hm ho => ⟨key m o hm ho, fun hA => key o m ho hm ((cBA hk hr hn ho hm).mpr hA)⟩⟩
  obtain ⟨o, ho, e⟩ := (barr_ex hb).mp hx
  obtain ⟨r', q, _, _, h4, _, h6, h7⟩ := mem_i hk ho
  rw [h7] at e
  subst e
  by_cases w : q < N
  · exact w
  · have := v4 q (by omega) h4
    rw [this] at h6; omega
theorem mem_nodup (f : Nat → Int) : (mem f 16).Nodup := List.Nodup.sublist List.filter_sublist List.nodup_range
theorem mem_ner {f : Nat → Int} {r : Int} {k : Nat} (hk : (mem f 16).length = k) (hn : ∀ p, p < 6 → f p ≠ r) : ∀ o, o < k → gD (mem f 16) o ≠ r := fun o ho => by
  obtain ⟨x, p, e, _, h4, _, h6, _⟩ := mem_i hk ho
  rw [e, ← h6]; exact hn p h4
/-- a put row is a good table -/
theorem VT_put {I : Nat → Nat → Int} {f f' : Nat → Int} {r : Int} {k N p : Nat} {b : List Nat} (hV : VT I (N : Int) f) (hk : (mem f 16).length = k) (hr : 0 ≤ r ∧ r < 16) (hn : ∀ p, p < 6 → f p ≠ r) (hs : sfA (cB I f r k) (cA I f r k) N k b) (hp : cmv N k (cB I f r k) (cA I f r k) b k p) (hF : RF f' (mem f 16) b r p k) : VT I (N : Int) f' := by
  obtain ⟨v1, v2, -⟩ := hV
  obtain ⟨s1, s2, s3⟩ := hs
  obtain ⟨p1, p2, p3⟩ := hp
  obtain ⟨f1, f2, f3⟩ := hF
  have hr' : num r := ⟨by omega, by omega⟩
  have hp6 : p < 6 := by omega
  -- where they stand
  have pos : ∀ q, q < 6 → f' q = -1 ∨ ∃ o, o ≤ k ∧ f' q = mbr f r k o ∧ q = if o < k then b.getD o 0 else p := fun q hq => by
    by_cases c : q ∈ b
    · obtain ⟨o, ho, e⟩ := (barr_ex s1).mp c
      exact Or.inr ⟨o, by omega, by rw [← e, f1 o ho, mbr, if_pos ho], by rw [if_pos ho, e]⟩
    · by_cases c2 : q = p
      · exact Or.inr ⟨k, Nat.le_refl k, by rw [c2, f2, mbr, if_neg (by omega)], by rw [if_neg (by omega), c2]⟩
      · exact Or.inl (f3 q hq c c2)
  have ord : ∀ o1 o2, o1 ≤ k → o2 ≤ k → xov I (mbr f r k o1) (mbr f r k o2) → xhi I (mbr f r k o2) (mbr f r k o1) → (if o2 < k then b.getD o2 0 else p) < (if o1 < k then b.getD o1 0 else p) := fun o1 o2 h1 h2 hov hhi => by
    have hne : o2 ≠ o1 := fun e => by
      subst e; have := hhi.2.2; omega
    by_cases c1 : o1 < k
    · rw [if_pos c1]
      by_cases c2 : o2 < k
      · rw [if_pos c2]
        exact (s3 o1 o2 c1 c2).1 ⟨c2, hne, hov, hhi⟩
      · rw [if_neg c2]
        have e2 : o2 = k := by omega
        subst e2
        refine (p3 o1 c1).2 ⟨c1, Ne.symm hne, xov_sym hov, ?_⟩
        intro w
        have := hhi.2.2; have := w.2.2; omega
    · have e1 : o1 = k := by omega
      subst e1
      rw [if_neg c1, if_pos (by omega)]
      exact (p3 o2 (by omega)).1 ⟨by omega, hne, hov, hhi⟩
  have rng : ∀ o, o ≤ k → 0 ≤ mbr f r k o ∧ mbr f r k o ≤ 15 := fun o ho => by
    unfold mbr
    split
    · rename_i h
      obtain ⟨x, q, e, h1, -⟩ := mem_i hk h
      rw [e]; omega
    · omega
  refine ⟨v1, v2, fun q hq => ?_, fun q hq1 hq2 => ?_, fun q1 q2 h1 h2 e hne => ?_, fun q1 h1 q2 h2 => ?_⟩
  · rcases pos q hq with w | ⟨o, ho, w, _⟩
    · rw [w]; omega
    · have := rng o ho; rw [w]; omega
  · refine f3 q hq2 (fun w => ?_) (fun w => ?_)
    · have := s2 q w; omega
    · omega
  · rcases pos q1 h1 with w | ⟨o1, ho1, w1, e1⟩
    · exact absurd w hne
    · rcases pos q2 h2 with w | ⟨o2, ho2, w2, e2⟩
      · rw [w] at e; exact absurd e hne
      · rw [w1, w2] at e
        have : o1 = o2 := by
          by_cases c : o1 = o2
          · exact c
          · exact absurd e (mbr_inj hk hn ho1 ho2 c)
        subst this
        rw [e1, e2]
  · rintro ⟨w1, w2⟩
    rcases pos q1 h1 with z | ⟨o1, ho1, z1, e1⟩
    · rw [z] at w2; have := w2.1.1; omega
    · rcases pos q2 (by omega) with z | ⟨o2, ho2, z2, e2⟩
      · rw [z] at w1; have := w1.1.1; omega
      · rw [z1, z2] at w1 w2
        have := ord o2 o1 ho2 ho1 w1 w2
        rw [← e1, ← e2] at this
        omega
/-- the row when a found way is carried out -/
theorem put_row {I J : Nat → Nat → Int} {t c pt : Nat} {f : Nat → Int} {r : Int} {k N g D p : Nat} {eg : QE} (htc : t ≠ c) (hV : VT I (N : Int) f) (hk : (mem f 16).length = k) (hr : num r) (hn : ∀ p, p < 6 → f p ≠ r)
    (hG : xgoal (cmvI I (N : Int) f r k) k (cQu I (N : Int) f r k 720) g D p eg) (hJt : J t 2 = (N : Int)) (hJ : J c = f)
    (hw : ∀ (w : Nat) (mp : Nat × Nat), (qway (cQu I (N : Int) f r k 720) D g)[w]? = some mp → J (pt + 1) w = mbr f r k mp.1 ∧ J (pt + 2) w = (mp.2 : Int)) (hwr : J (pt + 1) D = r) (hwp : J (pt + 2) D = (p : Int)) :
    sfA (cB I f r k) (cA I f r k) N k eg.1 ∧ cmv N k (cB I f r k) (cA I f r k) eg.1 k p ∧ RF (xcarry J t c pt (D + 1) c) (mem f 16) eg.1 r p k := by
  have hN6 : N ≤ 6 := by have := hV.2.1; omega
  have hmv : cmvI I (N : Int) f r k = cmv N k (cB I f r k) (cA I f r k) := by rw [cmvI, show (min (N : Int) 6).toNat = N by omega]
  rw [cQu, hmv] at hG hw
  have hs0 := sfA_0 hV hk hr hn
  have hall := bq_sf hN6 (fun m o hm ho => cBA (I := I) hk hr hn hm ho) (fun m w => w.2.1 rfl) hs0 720
  have hgood := bq_good (mv := cmv N k (cB I f r k) (cA I f r k)) (k := k) cmv_out hs0.1 720
  obtain ⟨g1, g2, g3, g4, g5⟩ := hG
  have hme := List.mem_of_getElem? g1
  have hse := (hall eg hme).1
  have hin := qway_in hgood.2.2.1 D g eg g1 g2
  refine ⟨hse, g3, ?_⟩
  have hc := RW_carry (J := J) (t := t) (c := c) (pt := pt) (a0 := ca0 f) (ms := mem f 16) htc hJt hN6 hgood.2.2.1 hgood.2.1 (fun e he => (hall e he).2) (fun e he => (hall e he).1.2.1) (mem_nodup f) hk (by rw [hJ]; exact RW_self hV hk) D g eg g1 g2 (fun w mp hwm => by
    have h1 := hw w mp hwm
    refine ⟨?_, h1.2⟩
    rw [h1.1, mbr, if_pos (hin w mp hwm)])
  rw [xcarry, hwr, hwp]
  exact RF_lay (by rw [xcarry_ne htc]; exact hJt) hN6 hc hse.1 (mem_ner hk hn) g3.1 g3.2.1
