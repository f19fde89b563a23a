/-! the law's own loop; the first coupling -/
theorem Row_empty {J : Nat → Nat → Int} {N t c : Nat} (hN : 2 ≤ N ∧ N ≤ 6) (ht : t < 2) (hc : ∀ p, p < 6 → J c p = -1) (h39 : ∀ i, i < 12 → J 39 i = -2) : Row J N t c := by
  refine ⟨⟨by omega, by omega, fun p hp => by rw [hc p hp]; decide, fun p _ hp => hc p hp, fun p q hp hq _ hne => absurd (hc p hp) hne, fun p hp a ha z => ?_⟩, fun q hq hne => absurd (hc q hq) hne, fun p hp => by rw [h39 _ (by omega), hc p (by omega), if_pos rfl]⟩
  have := z.1.1.1
  rw [hc a (by omega)] at this
  omega
theorem ci_t1 : ∀ r : Fin 16, ci_30 2 r.val = -1 ∧ ci_30 33 r.val = 0 := by decide +kernel
theorem ci_t2 : ∀ p : Fin 6, ci_30 8 p.val = -1 ∧ ci_30 10 p.val = -1 := by decide +kernel
theorem ci_t3 : ∀ i : Fin 12, ci_30 39 i.val = -2 := by decide +kernel
theorem ci_t4 : ci_30 32 6 = 6 ∧ ci_30 7 2 = 6 ∧ ci_30 9 2 = 6 ∧ ci_30 0 8 = 0 ∧ ci_30 32 7 = 0 ∧ ci_30 32 16 = 0 ∧ ci_30 25 2 = 0 ∧ ci_30 32 21 = 0 ∧ ci_30 19 5 = 0 ∧ ci_30 19 6 = 0 ∧ ci_30 32 9 = 0 := by decide +kernel
theorem ci_41 : ci_30 41 = fun _ => 0 := rfl
theorem Cpl_first : Cpl ci_30 6 := by
  obtain ⟨a1, a2, a3, a4, a5, a6, a7, a8, a9, a10, a11⟩ := ci_t4
  refine ⟨⟨by decide, a1, a2, a3⟩, ⟨Or.inl a4, by rw [a4, a5]⟩, fun r hr => ?_, ⟨Row_empty (by decide) (by decide) (fun p hp => (ci_t2 ⟨p, hp⟩).1) (fun i hi => ci_t3 ⟨i, hi⟩), Row_empty (by decide) (by decide) (fun p hp => (ci_t2 ⟨p, hp⟩).2) (fun i hi => ci_t3 ⟨i, hi⟩)⟩, ⟨0, a6, by decide, fun j hj => absurd hj (by omega), fun c _ h => absurd (by rw [ci_41]) h⟩, Way_0 a7 a8, CplH_nil (by rw [a9]; decide) a10 a11⟩
  have h1 := (ci_t1 ⟨r, hr⟩).1
  have h2 := (ci_t1 ⟨r, hr⟩).2
  simp only at h1 h2
  exact ⟨⟨fun _ => h2, fun _ => h1⟩, Or.inl h2, fun z => absurd h1 z⟩
/-- one call on both sides, and back to the loop's head -/
theorem PQ_go {S : PS} {mc mm : Nat} {t : PT} {ls : List PV} (h : Wp mc t (PQ S mm ls)) {K : PV1 → Prop} (k : ∀ (x : Int) (I1 : Nat → Nat → Int), Wp mm (0, ls, [], zH S I1) (fun z' => ∃ (J : Nat → Nat → Int) (w : Nat), z' = (some (zI x), zH S J) ∧ Cpl J w) → K (some (zI x), zH S I1)) : Wp mc t K :=
  Wp_mono h (fun v hv => by
    obtain ⟨x, I1, rfl, hm⟩ := hv
    exact k x I1 hm)
theorem MQ_go {S : PS} {mm : Nat} {t : PT} {x : Int} (h : Wp mm t (fun z' => ∃ (J : Nat → Nat → Int) (w : Nat), z' = (some (zI x), zH S J) ∧ Cpl J w)) {K : PV1 → Prop} (k : ∀ (J : Nat → Nat → Int) (w : Nat), Cpl J w → K (some (zI x), zH S J)) : Wp mm t K :=
  Wp_mono h (fun v hv => by
    obtain ⟨J, w, rfl, hc⟩ := hv
    exact k J w hc)
set_option maxRecDepth 100000 in
theorem law_loop {S : PS} {Q : PV1 → Prop} (hS : S.1 ≤ 2560) (hQ : ∀ J, Q (some (zI 1), zH S J)) : ∀ (k i : Nat) (I : Nat → Nat → Int) (w : Nat), S.1 < i + 5 * (k + 1) → i ≤ 2600 → Cpl I w → Wp 172 (18, [zS, zA 0, zA 32, zI (i : Int)], [], zH S I) Q := by
  intro k
  induction k with
  | zero =>
    intro i I w hk hi h
    refine (sg_L_law_18_0_32 _ _ _ _).mpr ?_
    rw [zsb_eq (by omega)]
    exact zcd (fun _ => zgb (Or.inr rfl) (hQ I)) (fun c => absurd (by omega) c)
  | succ k ih =>
    intro i I w hk hi h
    refine (sg_L_law_18_0_32 _ _ _ _).mpr ?_
    rw [zsb_eq (by omega)]
    refine zcd (fun _ => zgb (Or.inr rfl) (hQ I)) (fun c0 => ?_)
    have hlt : i + 5 ≤ S.1 := by omega
    have g1 : 0 ≤ zad (i : Int) 1 ∧ zad (i : Int) 1 < (S.1 : Int) := by rw [zad_eq (by omega)]; omega
    have g2 : 0 ≤ zad (i : Int) 2 ∧ zad (i : Int) 2 < (S.1 : Int) := by rw [zad_eq (by omega)]; omega
    have g3 : 0 ≤ zad (i : Int) 3 ∧ zad (i : Int) 3 < (S.1 : Int) := by rw [zad_eq (by omega)]; omega
    have g4 : 0 ≤ zad (i : Int) 4 ∧ zad (i : Int) 4 < (S.1 : Int) := by rw [zad_eq (by omega)]; omega
    have nx : ∀ (J : Nat → Nat → Int) (w : Nat), Cpl J w → Wp 172 (18, [zS, zA 0, zA 32, zI (zad (i : Int) 5)], [], zH S J) Q := fun J w hJ => by
      rw [zad_eq (by omega), show (i : Int) + 5 = ((i + 5 : Nat) : Int) by omega]
      exact ih (i + 5) J w (by omega) (by omega) hJ
    refine zgd (by omega) ?_
    refine zcd (fun _ => zgd g1 (PQ_go (pr_places h) (fun x I1 hm => (sg_L_law_157_0_32 _ _ _ _ _).mpr (zgd g1 (MQ_go hm (fun J w hJ => (sg_L_law_166_0_32 _ _ _ _ _ _).mpr (zcd (fun _ => nx J w hJ) (fun c => absurd rfl c)))))))) (fun _ => ?_)
    refine zcd (fun _ => zgd g1 (zgd g2 (zgd g3 (zgd g4 (PQ_go (pr_rule h) (fun x I1 hm => (sg_L_law_195_0_32 _ _ _ _ _).mpr (zgd g1 (zgd g2 (zgd g3 (zgd g4 (MQ_go hm (fun J w hJ => (sg_L_law_219_0_32 _ _ _ _ _ _).mpr (zcd (fun _ => nx J w hJ) (fun c => absurd rfl c)))))))))))))) (fun _ => ?_)
    refine zcd (fun _ => zgd g1 (PQ_go (pr_last h) (fun x I1 hm => (sg_L_law_233_0_32 _ _ _ _ _).mpr (zgd g1 (MQ_go hm (fun J w hJ => (sg_L_law_242_0_32 _ _ _ _ _ _).mpr (zcd (fun _ => nx J w hJ) (fun c => absurd rfl c)))))))) (fun _ => ?_)
    refine zcd (fun _ => zgd g1 (zgd g2 (zgd g3 (zgd g4 (PQ_go (pr_span h) (fun x I1 hm => (sg_L_law_271_0_32 _ _ _ _ _).mpr (zgd g1 (zgd g2 (zgd g3 (zgd g4 (MQ_go hm (fun J w hJ => (sg_L_law_295_0_32 _ _ _ _ _ _).mpr (zcd (fun _ => nx J w hJ) (fun c => absurd rfl c)))))))))))))) (fun _ => ?_)
    refine zcd (fun _ => zgd g1 (zgd g2 (PQ_go (pr_told h) (fun x I1 hm => (sg_L_law_314_0_32 _ _ _ _ _).mpr (zgd g1 (zgd g2 (MQ_go hm (fun J w hJ => (sg_L_law_328_0_32 _ _ _ _ _ _).mpr (zcd (fun _ => nx J w hJ) (fun c => absurd rfl c)))))))))) (fun _ => ?_)
    refine zcd (fun _ => zgd g1 (PQ_go (pr_drop h) (fun x I1 hm => (sg_L_law_342_0_32 _ _ _ _ _).mpr (zgd g1 (MQ_go hm (fun J w hJ => (sg_L_law_351_0_32 _ _ _ _ _ _).mpr (zcd (fun _ => nx J w hJ) (fun c => absurd rfl c)))))))) (fun _ => ?_)
    refine zcd (fun _ => zgd g1 (zgd g2 (PQ_go (pr_act h) (fun x I1 hm => (sg_L_law_370_0_32 _ _ _ _ _).mpr (zgd g1 (zgd g2 (MQ_go hm (fun J w hJ => (sg_L_law_384_0_32 _ _ _ _ _ _).mpr (zcd (fun _ => nx J w hJ) (fun c => absurd rfl c)))))))))) (fun _ => ?_)
    refine zcd (fun _ => zgd g1 (zgd g2 (PQ_go (pr_overlap h) (fun x I1 hm => (sg_L_law_403_0_32 _ _ _ _ _).mpr (zgd g1 (zgd g2 (MQ_go hm (fun J w hJ => (sg_L_law_417_0_32 _ _ _ _ _ _).mpr (zcd (fun _ => nx J w hJ) (fun c => absurd rfl c)))))))))) (fun _ => ?_)
    refine zcd (fun _ => zgd g1 (zgd g2 (PQ_go (pr_higher h) (fun x I1 hm => (sg_L_law_436_0_32 _ _ _ _ _).mpr (zgd g1 (zgd g2 (MQ_go hm (fun J w hJ => (sg_L_law_450_0_32 _ _ _ _ _ _).mpr (zcd (fun _ => nx J w hJ) (fun c => absurd rfl c)))))))))) (fun _ => ?_)
    refine zcd (fun _ => zgd g1 (zgd g2 (PQ_go (pr_put h) (fun x I1 hm => (sg_L_law_469_0_32 _ _ _ _ _).mpr (zgd g1 (zgd g2 (MQ_go hm (fun J w hJ => (sg_L_law_483_0_32 _ _ _ _ _ _).mpr (zcd (fun _ => nx J w hJ) (fun c => absurd rfl c)))))))))) (fun _ => ?_)
    refine zcd (fun _ => zgd g1 (zgd g2 (PQ_go (pr_writes h) (fun x I1 hm => (sg_L_law_502_0_32 _ _ _ _ _).mpr (zgd g1 (zgd g2 (MQ_go hm (fun J w hJ => (sg_L_law_516_0_32 _ _ _ _ _ _).mpr (zcd (fun _ => nx J w hJ) (fun c => absurd rfl c)))))))))) (fun _ => ?_)
    refine zcd (fun _ => zgd g1 (zgd g2 (PQ_go (pr_write h) (fun x I1 hm => (sg_L_law_535_0_32 _ _ _ _ _).mpr (zgd g1 (zgd g2 (MQ_go hm (fun J w hJ => (sg_L_law_549_0_32 _ _ _ _ _ _).mpr (zcd (fun _ => nx J w hJ) (fun c => absurd rfl c)))))))))) (fun _ => ?_)
    refine zcd (fun _ => zgd g1 (zgd g2 (PQ_go (pr_strike h) (fun x I1 hm => (sg_L_law_568_0_32 _ _ _ _ _).mpr (zgd g1 (zgd g2 (MQ_go hm (fun J w hJ => (sg_L_law_582_0_32 _ _ _ _ _ _).mpr (zcd (fun _ => nx J w hJ) (fun c => absurd rfl c)))))))))) (fun _ => ?_)
    refine zcd (fun _ => zgd g1 (zgd g2 (PQ_go (pr_at h) (fun x I1 hm => (sg_L_law_601_0_32 _ _ _ _ _).mpr (zgd g1 (zgd g2 (MQ_go hm (fun J w hJ => (sg_L_law_615_0_32 _ _ _ _ _ _).mpr (zcd (fun _ => nx J w hJ) (fun c => absurd rfl c)))))))))) (fun _ => ?_)
    refine zcd (fun _ => zgd g1 (zgd g2 (PQ_go (pr_judged h) (fun x I1 hm => (sg_L_law_634_0_32 _ _ _ _ _).mpr (zgd g1 (zgd g2 (MQ_go hm (fun J w hJ => (sg_L_law_648_0_32 _ _ _ _ _ _).mpr (zcd (fun _ => nx J w hJ) (fun c => absurd rfl c)))))))))) (fun _ => ?_)
    refine zcd (fun _ => zgd g1 (PQ_go (pr_right h) (fun x I1 hm => (sg_L_law_662_0_32 _ _ _ _ _).mpr (zgd g1 (MQ_go hm (fun J w hJ => (sg_L_law_671_0_32 _ _ _ _ _ _).mpr (zcd (fun _ => nx J w hJ) (fun c => absurd rfl c)))))))) (fun _ => ?_)
    refine zcd (fun _ => zgd g1 (zgd g2 (PQ_go (pr_covered h) (fun x I1 hm => (sg_L_law_690_0_32 _ _ _ _ _).mpr (zgd g1 (zgd g2 (MQ_go hm (fun J w hJ => (sg_L_law_704_0_32 _ _ _ _ _ _).mpr (zcd (fun _ => nx J w hJ) (fun c => absurd rfl c)))))))))) (fun _ => ?_)
    refine zcd (fun _ => zgd g1 (zgd g2 (PQ_go (pr_shown h) (fun x I1 hm => (sg_L_law_723_0_32 _ _ _ _ _).mpr (zgd g1 (zgd g2 (MQ_go hm (fun J w hJ => (sg_L_law_737_0_32 _ _ _ _ _ _).mpr (zcd (fun _ => nx J w hJ) (fun c => absurd rfl c)))))))))) (fun _ => ?_)
    refine zcd (fun _ => zgd g1 (zgd g2 (PQ_go (pr_spare h) (fun x I1 hm => (sg_L_law_756_0_32 _ _ _ _ _).mpr (zgd g1 (zgd g2 (MQ_go hm (fun J w hJ => (sg_L_law_770_0_32 _ _ _ _ _ _).mpr (zcd (fun _ => nx J w hJ) (fun c => absurd rfl c)))))))))) (fun _ => ?_)
    refine zcd (fun _ => zgd g1 (zgd g2 (zgd g3 (PQ_go (pr_melt h) (fun x I1 hm => (sg_L_law_794_0_32 _ _ _ _ _).mpr (zgd g1 (zgd g2 (zgd g3 (MQ_go hm (fun J w hJ => (sg_L_law_813_0_32 _ _ _ _ _ _).mpr (zcd (fun _ => nx J w hJ) (fun c => absurd rfl c)))))))))))) (fun _ => ?_)
    refine zcd (fun _ => PQ_go (pr_over h) (fun x I1 hm => (sg_L_law_822_0_32 _ _ _ _ _).mpr (MQ_go hm (fun J w hJ => (sg_L_law_826_0_32 _ _ _ _ _ _).mpr (zcd (fun _ => nx J w hJ) (fun c => absurd rfl c)))))) (fun _ => ?_)
    refine zcd (fun _ => PQ_go (pr_differ h) (fun x I1 hm => (sg_L_law_835_0_32 _ _ _ _ _).mpr (MQ_go hm (fun J w hJ => (sg_L_law_839_0_32 _ _ _ _ _ _).mpr (zcd (fun _ => nx J w hJ) (fun c => absurd rfl c)))))) (fun _ => ?_)
    refine zcd (fun _ => zgd g1 (PQ_go (pr_build h) (fun x I1 hm => (sg_L_law_853_0_32 _ _ _ _ _).mpr (zgd g1 (MQ_go hm (fun J w hJ => (sg_L_law_862_0_32 _ _ _ _ _ _).mpr (zcd (fun _ => nx J w hJ) (fun c => absurd rfl c)))))))) (fun _ => ?_)
    refine zcd (fun _ => PQ_go (pr_undo h) (fun x I1 hm => (sg_L_law_871_0_32 _ _ _ _ _).mpr (MQ_go hm (fun J w hJ => (sg_L_law_875_0_32 _ _ _ _ _ _).mpr (zcd (fun _ => nx J w hJ) (fun c => absurd rfl c)))))) (fun _ => ?_)
    refine zcd (fun _ => zgd g1 (PQ_go (pr_count h) (fun x I1 hm => (sg_L_law_889_0_32 _ _ _ _ _).mpr (zgd g1 (MQ_go hm (fun J w hJ => (sg_L_law_898_0_32 _ _ _ _ _ _).mpr (zcd (fun _ => nx J w hJ) (fun c => absurd rfl c)))))))) (fun _ => ?_)
    exact nx I w h
theorem law_run {S : PS} (hS : S.1 ≤ 2560) : ∃ J, Run 172 (16, [zS, zA 0, zA 32, zU], [], zH S ci_30) (some (zI 1), zH S J) := by
  have : Wp 172 (16, [zS, zA 0, zA 32, zU], [], zH S ci_30) (fun v => ∃ J, v = (some (zI 1), zH S J)) := by
    refine (sg_L_law_16_0_32 _ _ _ _).mpr ?_
    exact law_loop hS (fun J => ⟨J, rfl⟩) 520 0 ci_30 6 (by omega) (by omega) Cpl_first
  obtain ⟨v, hr, J, rfl⟩ := this
  exact ⟨J, hr⟩
theorem zsz_SH : zSH.length ≤ 600000 ∧ zsz zSH ≤ 7302250 := by decide +kernel
