/-! the class's search, whole -/
def mbr (f : Nat → Int) (r : Int) (k i : Nat) : Int := if i < k then gD (mem f 16) i else r
def cB (I : Nat → Nat → Int) (f : Nat → Int) (r : Int) (k m o : Nat) : Prop := o < k ∧ o ≠ m ∧ xov I (mbr f r k m) (mbr f r k o) ∧ xhi I (mbr f r k o) (mbr f r k m)
def cA (I : Nat → Nat → Int) (f : Nat → Int) (r : Int) (k m o : Nat) : Prop := o < k ∧ o ≠ m ∧ xov I (mbr f r k m) (mbr f r k o) ∧ ¬ xhi I (mbr f r k o) (mbr f r k m)
/-- the first arrangement -/
def ca0 (f : Nat → Int) : List Nat := (mem f 16).map (fun (r : Nat) => (xplc f (r : Int)).toNat)
def cmvI (I : Nat → Nat → Int) (n : Int) (f : Nat → Int) (r : Int) (k : Nat) : List Nat → Nat → Nat → Prop := cmv (min n 6).toNat k (cB I f r k) (cA I f r k)
noncomputable def cQu (I : Nat → Nat → Int) (n : Int) (f : Nat → Int) (r : Int) (k M : Nat) : List QE := bq (cmvI I n f r k) k (ca0 f) M
/-- the goal of a search -/
def xgoal (mv : List Nat → Nat → Nat → Prop) (k : Nat) (L : List QE) (g D p : Nat) (e : QE) : Prop := L[g]? = some e ∧ e.2.2.2.2 = D ∧ mv e.1 k p ∧ (∀ q, q < p → ¬ mv e.1 k q) ∧ ∀ (j : Nat) (x : QE), j < g → L[j]? = some x → ∀ q, ¬ mv x.1 k q
theorem ca0_gD {f : Nat → Int} {i : Nat} (h : i < (mem f 16).length) : gD (ca0 f) i = xplc f (gD (mem f 16) i) := by
  have hm : (mem f 16)[i] ∈ mem f 16 := List.getElem_mem h
  obtain ⟨j, -, h2, -⟩ := xplc_in (mem_mem.mp hm).2
  have e : ((ca0 f).getD i 0 : Nat) = (xplc f ((mem f 16)[i] : Int)).toNat := by
    simp [ca0, List.getD_eq_getElem?_getD, h]
  have e2 : (mem f 16).getD i 0 = (mem f 16)[i] := by simp [List.getD_eq_getElem?_getD, h]
  rw [gD, gD, e, e2, h2, Int.toNat_natCast]
theorem ca0_barr {f : Nat → Int} {k : Nat} (hk : (mem f 16).length = k) : barr k (ca0 f) := by
  refine ⟨by rw [ca0, List.length_map]; exact hk, ?_, fun x hx => ?_⟩
  · have hn : (mem f 16).Nodup := List.Nodup.sublist List.filter_sublist List.nodup_range
    rw [ca0, List.nodup_iff_pairwise_ne, List.pairwise_map]
    refine List.Pairwise.imp_of_mem ?_ (List.nodup_iff_pairwise_ne.mp hn)
    intro a b ha hb hab e
    obtain ⟨j, -, h2, h3, -⟩ := xplc_in (mem_mem.mp ha).2
    obtain ⟨j', -, h2', h3', -⟩ := xplc_in (mem_mem.mp hb).2
    rw [h2, h2', Int.toNat_natCast, Int.toNat_natCast] at e
    subst e
    rw [h3] at h3'
    exact hab (by omega)
  · obtain ⟨r, hr, rfl⟩ := List.mem_map.mp hx
    obtain ⟨j, h1, h2, -⟩ := xplc_in (mem_mem.mp hr).2
    rw [h2, Int.toNat_natCast]; exact h1
theorem CQ_nil {I : Nat → Nat → Int} {k : Nat} (h8 : I 11 8 = 0) (h : ∀ c, c < 243 → I 18 c = 0) : CQ I k [] := by
  refine ⟨by rw [h8]; rfl, fun j e he => by simp at he, fun c hc => ?_, by simp, fun e he => by simp at he⟩
  rw [h (c / 32) (by omega)]
  exact ⟨fun w => absurd w (zbt_0 _), fun ⟨e, he, _⟩ => by simp at he⟩
theorem qway_pre {k : Nat} {L L' : List QE} (hW : QW k L) (sub : ∀ (j : Nat) (e : QE), L[j]? = some e → L'[j]? = some e) : ∀ (d j : Nat) (e : QE), L[j]? = some e → e.2.2.2.2 = d → qway L d j = qway L' d j
  | 0, _, _, _, _ => rfl
  | d + 1, j, e, h, hd => by
    rw [qway_s h, qway_s (sub j e h)]
    rcases hW j e h with ⟨_, h0⟩ | ⟨j', e', h1, h2, h3, h4, h5, h6, h7, h8⟩
    · omega
    · rw [h3, Int.toNat_natCast, qway_pre hW sub d j' e' h2 (by omega)]
theorem cmv_out {N k : Nat} {B A : Nat → Nat → Prop} : ∀ a m p, cmv N k B A a m p → p ∉ a := fun _ _ _ h => h.2.1
theorem mk_xbeh {I I' : Nat → Nat → Int} {t c : Nat} {r : Int} {k m o : Nat} (hc : c = 8 ∨ c = 10) (h : Gat I I' t c r k) (hk : k ≤ 5) (hm : m ≤ k) (ho : o < k) : (zbt (I' 13 m) o ↔ cB I (I c) r k m o) ∧ (zbt (I' 14 m) o ↔ cA I (I c) r k m o) := by
  obtain ⟨h1, h2, h3, h4, h5, h6, h7⟩ := h
  have e : ∀ i, i ≤ k → I' 12 i = mbr (I c) r k i := fun i hi => by
    unfold mbr
    by_cases w : i < k
    · rw [if_pos w]; exact h3 i w
    · rw [if_neg w, show i = k by omega]; exact h4
  have e3 := h7 3 (by decide) (by decide) (by decide) (by decide) (by decide)
  have e4 := h7 4 (by decide) (by decide) (by decide) (by decide) (by decide)
  have e5 := h7 5 (by decide) (by decide) (by decide) (by decide) (by decide)
  obtain ⟨g1, g2⟩ := h6 m hm
  constructor
  · refine (g1.2.2 o (by omega)).trans ?_
    unfold xbeh cB xov xhi
    rw [e m hm, e o (by omega), e3, e4, e5]
  · refine (g2.2.2 o (by omega)).trans ?_
    unfold xahd cA xov xhi
    rw [e m hm, e o (by omega), e3, e4, e5]
theorem qway_in {k : Nat} {L : List QE} (hW : QW k L) : ∀ (d j : Nat) (e : QE), L[j]? = some e → e.2.2.2.2 = d → ∀ (w : Nat) (mp : Nat × Nat), (qway L d j)[w]? = some mp → mp.1 < k
  | 0, _, _, _, _ => fun w mp h => by simp [qway] at h
  | d + 1, j, e, h, hd => by
    intro w mp hw
    rw [qway_s h] at hw
    rcases hW j e h with ⟨_, h0⟩ | ⟨j', e', h1, h2, h3, h4, h5, h6, h7, h8⟩
    · omega
    · rw [h3, Int.toNat_natCast] at hw
      have hl := qway_len hW d j' e' h2 (by omega)
      by_cases hlt : w < d
      · rw [List.getElem?_append_left (by omega)] at hw
        exact qway_in hW d j' e' h2 (by omega) w mp hw
      · rw [List.getElem?_append_right (by omega)] at hw
        have hm := List.mem_of_getElem? hw
        rw [List.mem_singleton.mp hm]; exact h4
set_option maxRecDepth 100000 in
theorem c_find_7_25 {S : PS} {I : Nat → Nat → Int} {Q : PV1 → Prop} {w4 w5 : PV} {r : Int} {k g D p : Nat} {eg : QE} (hk : (mem (I 8) 16).length = k) (hk5 : k ≤ 5) (hn : 0 ≤ I 7 2) (hG : xgoal (cmvI I (I 7 2) (I 8) r k) k (cQu I (I 7 2) (I 8) r k 720) g D p eg) (hD : D ≤ 15)
    (hQ : ∀ I', I' 25 2 = ((D + 1 : Nat) : Int) → (∀ (w : Nat) (mp : Nat × Nat), (qway (cQu I (I 7 2) (I 8) r k 720) D g)[w]? = some mp → I' 26 w = mbr (I 8) r k mp.1 ∧ I' 27 w = (mp.2 : Int)) → I' 26 D = r → I' 27 D = (p : Int) → (∀ d, d < 11 ∨ 18 < d → d ≠ 25 → d ≠ 26 → d ≠ 27 → I' d = I d) → Q (none, zH S I')) : Wp 39 (0, [zA 11, zA 7, zI r, zA 25, w4, w5], [], zH S I) Q := by
  refine (sg_X3_find_0_11_7_25 _ _ _ _ _ _).mpr ?_
  refine c_pforget_25 ?_
  refine (sg_X3_find_4_11_7_25 _ _ _ _ _ _).mpr ?_
  refine c_gather_7 (k := k) (by rw [zs2_ne _ _ _ _ (by decide)]; exact hk) hk5 (fun I1 hg1 => ?_)
  refine (sg_X3_find_10_11_25 _ _ _ _ _ _ _).mpr ?_
  refine c_fill (r := 18) (n := 243) rfl (by decide) rfl rfl ?_
  refine (sg_X3_find_18_11_25 _ _ _ _ _ _ _).mpr ?_
  -- what holds before the first ring
  have hg : Gat I I1 7 8 r k ∨ True := Or.inr trivial
  have hG1 := hg1
  obtain ⟨a1, a2, a3, a4, a5, a6, a7⟩ := hg1
  rw [zs2_ne _ _ _ _ (by decide)] at a2 a3 a5
  obtain ⟨N, hN⟩ : ∃ N : Nat, min (I 7 2) 6 = (N : Int) := ⟨(min (I 7 2) 6).toNat, by omega⟩
  have hN6 : N ≤ 6 := by omega
  have hmvN : cmvI I (I 7 2) (I 8) r k = cmv N k (cB I (I 8) r k) (cA I (I 8) r k) := by rw [cmvI, hN, Int.toNat_natCast]
  rw [hmvN] at hG
  have hb0 := ca0_barr hk
  have hx : ∀ m o, m ≤ k → o < k → (zbt (I1 13 m) o ↔ cB I (I 8) r k m o) ∧ (zbt (I1 14 m) o ↔ cA I (I 8) r k m o) := fun m o hm ho => by
    have := mk_xbeh (by decide) hG1 hk5 hm ho
    unfold cB cA xov xhi at this ⊢
    rw [zs2_ne _ _ _ _ (by decide), zs2_ne _ _ _ _ (by decide), zs2_ne _ _ _ _ (by decide), zs2_ne _ _ _ _ (by decide)] at this
    exact this
  -- the heap before the first ring
  generalize hI2 : zs2 (zfill I1 18 243 0) 11 8 0 = I2
  have f18 : ∀ c, c < 243 → I2 18 c = 0 := fun c hc => by
    rw [← hI2, zs2_ne _ _ _ _ (by decide)]; simp [zfill, hc]
  have f8 : I2 11 8 = 0 := by rw [← hI2, zs2_at]
  have f11 : ∀ j, j ≠ 8 → I2 11 j = I1 11 j := fun j hj => by
    rw [← hI2, zs2_ne2 _ _ _ _ hj]; simp [zfill]
  have fo : ∀ d, d ≠ 11 → d ≠ 18 → I2 d = I1 d := fun d h1 h2 => by
    rw [← hI2, zs2_ne _ _ _ _ h1]; simp [zfill, h2]
  have w2 : ∀ o, o < k → I2 15 o = gD (ca0 (I 8)) o := fun o ho => by
    rw [fo 15 (by decide) (by decide), a5 o ho, ca0_gD (by rw [hk]; exact ho)]
  have k2 : I2 11 9 = (k : Int) := by rw [f11 9 (by decide)]; exact a1
  refine c_code k2 hk5 (fun o ho => by rw [w2 o ho]; exact gD_in hb0 o (by rw [hb0.1]; exact ho)) ?_
  have ecode : zc6 (I2 15) k k = c6l (ca0 (I 8)) := by
    rw [zc6_congr w2 k (Nat.le_refl k), c6l, hb0.1]
  rw [ecode]
  refine (sg_X3_find_28_11_25_11 _ _ _ _ _ _ _ _).mpr ?_
  refine c_reach hk5 (CQ_nil f8 f18) hb0 (fun I3 hC3 g1 g2 => ?_)
  refine (sg_X3_find_32_11_25 _ _ _ _ _ _ _).mpr ?_
  rw [badd_new (by simp)] at hC3
  have hW := fun n => (bq_good (mv := cmv N k (cB I (I 8) r k) (cA I (I 8) r k)) (k := k) cmv_out hb0 n)
  have hqu : ∀ M, cQu I (I 7 2) (I 8) r k M = bq (cmv N k (cB I (I 8) r k) (cA I (I 8) r k)) k (ca0 (I 8)) M := fun M => by unfold cQu; rw [hmvN]
  rw [hqu] at hG
  simp only [hqu] at hQ
  obtain ⟨G1, G2, G3, G4, G5⟩ := hG
  have hlen := bq_len hk5 cmv_out hb0 (mv := cmv N k (cB I (I 8) r k) (cA I (I 8) r k)) 720
  have hg720 : g < 720 := by have := (List.getElem?_eq_some_iff.mp G1).1; omega
  -- the rings
  have loop : ∀ (j i : Nat) (I' : Nat → Nat → Int) (w5 : PV), i + j = g → CQ I' k ((bq (cmv N k (cB I (I 8) r k) (cA I (I 8) r k)) k (ca0 (I 8)) i).map qpr) → fr5 I2 I' → Wp 39 (35, [zA 11, zA 7, zI r, zA 25, zI (i : Int), w5], [], zH S I') Q := by
    intro j
    have head : ∀ (i : Nat) (I' : Nat → Nat → Int) (w5 : PV), i ≤ g → CQ I' k ((bq (cmv N k (cB I (I 8) r k) (cA I (I 8) r k)) k (ca0 (I 8)) i).map qpr) → fr5 I2 I' →
        (∀ (x : QE) (I'' : Nat → Nat → Int) (y : Int), (bq (cmv N k (cB I (I 8) r k) (cA I (I 8) r k)) k (ca0 (I 8)) 720)[i]? = some x → (bq (cmv N k (cB I (I 8) r k) (cA I (I 8) r k)) k (ca0 (I 8)) i)[i]? = some x → CQ I'' k ((bq (cmv N k (cB I (I 8) r k) (cA I (I 8) r k)) k (ca0 (I 8)) i).map qpr) → fr5 I2 I'' → (∀ o, o < k → I'' 15 o = gD x.1 o) → xlpf (fun p => cmv N k (cB I (I 8) r k) (cA I (I 8) r k) x.1 k p) y →
          Wp 39 (71, [zA 11, zA 7, zI r, zA 25, zI (i : Int), w5], [zI y], zH S I'') Q) →
        Wp 39 (35, [zA 11, zA 7, zI r, zA 25, zI (i : Int), w5], [], zH S I') Q := by
      intro i I' w5 hi hC hfr nx
      obtain ⟨x, hx1⟩ : ∃ x, (bq (cmv N k (cB I (I 8) r k) (cA I (I 8) r k)) k (ca0 (I 8)) 720)[i]? = some x := by
        have := (List.getElem?_eq_some_iff.mp G1).1
        exact ⟨_, List.getElem?_eq_getElem (by omega)⟩
      have hx2 := bq_turn (by omega) hx1
      have hi2 := (List.getElem?_eq_some_iff.mp hx2).1
      have hat := CQ_at hC hx2
      have h8 := hC.1
      rw [List.length_map] at h8
      have hin := c6l_in hk5 hat.2.2
      refine (sg_X3_find_35_11_25 _ _ _ _ _ _ _).mpr ?_
      rw [h8]
      refine zcd (fun _ => zcd (fun _ => zgd (by omega) ?_) (fun h => absurd (by omega) h)) (fun h => absurd (by omega) h)
      rw [Int.toNat_natCast, hat.1]
      have k3 : I' 11 9 = (k : Int) := by rw [hfr.2 9 (by decide)]; exact k2
      refine c_arrange k3 hk5 hin ?_
      refine (sg_X3_find_63_11_25 _ _ _ _ _ _ _).mpr ?_
      generalize hI4 : zmapc I' 15 k (fun m => c6l x.1 / 6 ^ m % 6) = I4
      have f15 : ∀ o, o < k → I4 15 o = gD x.1 o := fun o ho => by
        rw [← hI4, zmapc_at _ _ _ _ ho, c6l_dig hat.2.2 ho]
      have fo4 : ∀ d, d ≠ 15 → I4 d = I' d := fun d hd => by rw [← hI4, zmapc_ne _ _ _ _ hd]
      have k4 : I4 11 9 = (k : Int) := by rw [fo4 11 (by decide)]; exact k3
      rw [k4]
      refine c_leastPlaceFor (by omega) k4 hk5 (fun o ho => by rw [f15 o ho]; exact gD_in hat.2.2 o (by rw [hat.2.2.1]; exact ho)) (fun y hy => ?_)
      refine nx x I4 y hx1 hx2 (CQ_15 hC (by rw [fo4 11 (by decide)]) (fo4 16 (by decide)) (fo4 17 (by decide)) (fo4 18 (by decide))) ⟨fun d h1 h2 h3 h4 h5 => by rw [fo4 d h2]; exact hfr.1 d h1 h2 h3 h4 h5, fun j hj => by rw [fo4 11 (by decide)]; exact hfr.2 j hj⟩ f15 ?_
      have conv : ∀ q, xroom I4 k k q ↔ cmv N k (cB I (I 8) r k) (cA I (I 8) r k) x.1 k q := fun q => by
        refine xroom_cmv (by rw [fo4 11 (by decide), hfr.2 10 (by decide), f11 10 (by decide), a2, hN]) hat.2.2 f15 (fun o ho => ?_) (fun o ho => ?_)
        · rw [fo4 13 (by decide), hfr.1 13 (by decide) (by decide) (by decide) (by decide) (by decide), fo 13 (by decide) (by decide)]
          exact (hx k o (Nat.le_refl k) ho).1
        · rw [fo4 14 (by decide), hfr.1 14 (by decide) (by decide) (by decide) (by decide) (by decide), fo 14 (by decide) (by decide)]
          exact (hx k o (Nat.le_refl k) ho).2
      rcases hy with ⟨y1, y2⟩ | ⟨q, y1, y2, y3, y4⟩
      · exact Or.inl ⟨y1, fun q hq w => y2 q hq ((conv q).mpr w)⟩
      · exact Or.inr ⟨q, y1, y2, (conv q).mp y3, fun q' hq' w => y4 q' hq' ((conv q').mpr w)⟩
    induction j with
    | zero =>
      intro i I' w5 hi hC hfr
      obtain rfl : i = g := by omega
      refine head i I' w5 (Nat.le_refl _) hC hfr (fun x I4 y hx1 hx2 hC4 hfr4 f15 hy => ?_)
      rw [G1] at hx1
      cases hx1
      have hyp : y = (p : Int) := by
        rcases hy with ⟨y1, y2⟩ | ⟨q, y1, y2, y3, y4⟩
        · have : p < 6 := by have := G3.1; omega
          exact absurd G3 (y2 p this)
        · rw [y2]
          by_cases e1 : q < p
          · exact absurd y3 (G4 q e1)
          · by_cases e2 : p < q
            · exact absurd G3 (y4 p e2)
            · omega
      subst hyp
      refine (sg_X3_find_71_11_25 _ _ _ _ _ _ _ _).mpr ?_
      refine zcd (fun h => absurd h (by omega)) (fun _ => ?_)
      refine c_trace_25 (by rw [hfr4.2 9 (by decide)]; exact k2) hk5 hC4 (hW i).2.2.1 hx2 G2 hD (fun I5 t1 t2 t3 => ?_)
      refine (sg_X3_find_86_25 _ _ _ _ _ _ _ _).mpr ?_
      refine c_length_25 ?_
      rw [t1]
      refine (sg_X3_find_91_25 _ _ _ _ _ _ _ _ _ _).mpr ?_
      rw [zsb_eq (by omega), show ((D + 1 : Nat) : Int) - 1 = (D : Int) by omega]
      refine c_pset_25 ?_
      rw [if_pos ⟨by omega, by omega, by omega⟩, Int.toNat_natCast]
      refine (sg_X3_find_99 _ _ _ _ _ _ _ _ _).mpr ?_
      have hway : qway (bq (cmv N k (cB I (I 8) r k) (cA I (I 8) r k)) k (ca0 (I 8)) i) D i = qway (bq (cmv N k (cB I (I 8) r k) (cA I (I 8) r k)) k (ca0 (I 8)) 720) D i := qway_pre (hW i).2.2.1 (fun j e h => bq_get (by omega) h) D i eg hx2 G2
      have hl := qway_len (hW 720).2.2.1 D i eg G1 G2
      have hmm : ∀ (w : Nat) (mp : Nat × Nat), (qway (bq (cmv N k (cB I (I 8) r k) (cA I (I 8) r k)) k (ca0 (I 8)) 720) D i)[w]? = some mp → mp.1 < k := qway_in (hW 720).2.2.1 D i eg G1 G2
      refine hQ _ ?_ (fun w mp hw => ?_) ?_ ?_ (fun d d1 d2 d3 d4 => ?_)
      · rw [zs2_ne _ _ _ _ (by decide), zs2_ne _ _ _ _ (by decide)]; exact t1
      · have hwl : w ≠ D := by have := (List.getElem?_eq_some_iff.mp hw).1; omega
        rw [zs2_ne _ _ _ _ (show 26 ≠ 27 by decide), zs2_ne2 _ _ _ _ hwl, zs2_ne2 _ _ _ _ hwl, zs2_ne _ _ _ _ (show 27 ≠ 26 by decide)]
        have := t2 w mp (by rw [hway]; exact hw)
        refine ⟨this.1.trans ?_, this.2⟩
        have hm := hmm w mp hw
        rw [hfr4.1 12 (by decide) (by decide) (by decide) (by decide) (by decide), fo 12 (by decide) (by decide), a3 _ hm, mbr, if_pos hm]
      · rw [zs2_ne _ _ _ _ (show 26 ≠ 27 by decide), zs2_at]
      · rw [zs2_at]
      · rw [zs2_ne _ _ _ _ d4, zs2_ne _ _ _ _ d3, t3 d d2 d3 d4, hfr4.1 d (by omega) (by omega) (by omega) (by omega) (by omega), fo d (by omega) (by omega), a7 d (by omega) (by omega) (by omega) (by omega) (by omega), zs2_ne _ _ _ _ d2]
    | succ j ih =>
      intro i I' w5 hi hC hfr
      refine head i I' w5 (by omega) hC hfr (fun x I4 y hx1 hx2 hC4 hfr4 f15 hy => ?_)
      have hyn : y = -1 := by
        rcases hy with ⟨y1, y2⟩ | ⟨q, y1, y2, y3, y4⟩
        · exact y1
        · exact absurd y3 (G5 i x (by omega) hx1 q)
      refine (sg_X3_find_71_11_25 _ _ _ _ _ _ _ _).mpr ?_
      refine zcd (fun _ => ?_) (fun h => absurd hyn h)
      have hbx := (hW i).2.1 x (List.mem_of_getElem? hx2)
      refine c_widen (by rw [hfr4.2 9 (by decide)]; exact k2) hk5 (by rw [hfr4.2 10 (by decide), f11 10 (by decide), a2, hN]) hN6 hbx f15 (B := cB I (I 8) r k) (A := cA I (I 8) r k) (d := x.2.2.2.2) (fun m hm o ho => ?_) (fun m hm o ho => ?_) hC4 (fun I5 c1 c2 c3 => ?_)
      · rw [hfr4.1 13 (by decide) (by decide) (by decide) (by decide) (by decide), fo 13 (by decide) (by decide)]
        exact (hx m o (by omega) ho).1
      · rw [hfr4.1 14 (by decide) (by decide) (by decide) (by decide) (by decide), fo 14 (by decide) (by decide)]
        exact (hx m o (by omega) ho).2
      · refine (sg_X3_find_106_11_25 _ _ _ _ _ _ _).mpr ?_
        rw [zad_s (by omega)]
        refine ih (i + 1) I5 _ (by omega) (by rw [bq_s hx2]; exact c1) ⟨fun d h1 h2 h3 h4 h5 => ?_, fun j hj => ?_⟩
        · rw [c3.1 d h1 h2 h3 h4 h5]; exact hfr4.1 d h1 h2 h3 h4 h5
        · rw [c3.2 j hj]; exact hfr4.2 j hj
  exact loop g 0 I3 _ (by omega) hC3 ⟨fun d h1 h2 h3 h4 h5 => g1 d h1 h3 h4 h5, fun j hj => g2 j hj⟩
set_option maxRecDepth 100000 in
theorem c_find_7_28 {S : PS} {I : Nat → Nat → Int} {Q : PV1 → Prop} {w4 w5 : PV} {r : Int} {k g D p : Nat} {eg : QE} (hk : (mem (I 8) 16).length = k) (hk5 : k ≤ 5) (hn : 0 ≤ I 7 2) (hG : xgoal (cmvI I (I 7 2) (I 8) r k) k (cQu I (I 7 2) (I 8) r k 720) g D p eg) (hD : D ≤ 15)
    (hQ : ∀ I', I' 28 2 = ((D + 1 : Nat) : Int) → (∀ (w : Nat) (mp : Nat × Nat), (qway (cQu I (I 7 2) (I 8) r k 720) D g)[w]? = some mp → I' 29 w = mbr (I 8) r k mp.1 ∧ I' 30 w = (mp.2 : Int)) → I' 29 D = r → I' 30 D = (p : Int) → (∀ d, d < 11 ∨ 18 < d → d ≠ 28 → d ≠ 29 → d ≠ 30 → I' d = I d) → Q (none, zH S I')) : Wp 39 (0, [zA 11, zA 7, zI r, zA 28, w4, w5], [], zH S I) Q := by
  refine (sg_X3_find_0_11_7_28 _ _ _ _ _ _).mpr ?_
  refine c_pforget_28 ?_
  refine (sg_X3_find_4_11_7_28 _ _ _ _ _ _).mpr ?_
  refine c_gather_7 (k := k) (by rw [zs2_ne _ _ _ _ (by decide)]; exact hk) hk5 (fun I1 hg1 => ?_)
  refine (sg_X3_find_10_11_28 _ _ _ _ _ _ _).mpr ?_
  refine c_fill (r := 18) (n := 243) rfl (by decide) rfl rfl ?_
  refine (sg_X3_find_18_11_28 _ _ _ _ _ _ _).mpr ?_
  -- what holds before the first ring
  have hg : Gat I I1 7 8 r k ∨ True := Or.inr trivial
  have hG1 := hg1
  obtain ⟨a1, a2, a3, a4, a5, a6, a7⟩ := hg1
  rw [zs2_ne _ _ _ _ (by decide)] at a2 a3 a5
  obtain ⟨N, hN⟩ : ∃ N : Nat, min (I 7 2) 6 = (N : Int) := ⟨(min (I 7 2) 6).toNat, by omega⟩
  have hN6 : N ≤ 6 := by omega
  have hmvN : cmvI I (I 7 2) (I 8) r k = cmv N k (cB I (I 8) r k) (cA I (I 8) r k) := by rw [cmvI, hN, Int.toNat_natCast]
  rw [hmvN] at hG
  have hb0 := ca0_barr hk
  have hx : ∀ m o, m ≤ k → o < k → (zbt (I1 13 m) o ↔ cB I (I 8) r k m o) ∧ (zbt (I1 14 m) o ↔ cA I (I 8) r k m o) := fun m o hm ho => by
    have := mk_xbeh (by decide) hG1 hk5 hm ho
    unfold cB cA xov xhi at this ⊢
    rw [zs2_ne _ _ _ _ (by decide), zs2_ne _ _ _ _ (by decide), zs2_ne _ _ _ _ (by decide), zs2_ne _ _ _ _ (by decide)] at this
    exact this
  -- the heap before the first ring
  generalize hI2 : zs2 (zfill I1 18 243 0) 11 8 0 = I2
  have f18 : ∀ c, c < 243 → I2 18 c = 0 := fun c hc => by
    rw [← hI2, zs2_ne _ _ _ _ (by decide)]; simp [zfill, hc]
  have f8 : I2 11 8 = 0 := by rw [← hI2, zs2_at]
  have f11 : ∀ j, j ≠ 8 → I2 11 j = I1 11 j := fun j hj => by
    rw [← hI2, zs2_ne2 _ _ _ _ hj]; simp [zfill]
  have fo : ∀ d, d ≠ 11 → d ≠ 18 → I2 d = I1 d := fun d h1 h2 => by
    rw [← hI2, zs2_ne _ _ _ _ h1]; simp [zfill, h2]
  have w2 : ∀ o, o < k → I2 15 o = gD (ca0 (I 8)) o := fun o ho => by
    rw [fo 15 (by decide) (by decide), a5 o ho, ca0_gD (by rw [hk]; exact ho)]
  have k2 : I2 11 9 = (k : Int) := by rw [f11 9 (by decide)]; exact a1
  refine c_code k2 hk5 (fun o ho => by rw [w2 o ho]; exact gD_in hb0 o (by rw [hb0.1]; exact ho)) ?_
  have ecode : zc6 (I2 15) k k = c6l (ca0 (I 8)) := by
    rw [zc6_congr w2 k (Nat.le_refl k), c6l, hb0.1]
  rw [ecode]
  refine (sg_X3_find_28_11_28_11 _ _ _ _ _ _ _ _).mpr ?_
  refine c_reach hk5 (CQ_nil f8 f18) hb0 (fun I3 hC3 g1 g2 => ?_)
  refine (sg_X3_find_32_11_28 _ _ _ _ _ _ _).mpr ?_
  rw [badd_new (by simp)] at hC3
  have hW := fun n => (bq_good (mv := cmv N k (cB I (I 8) r k) (cA I (I 8) r k)) (k := k) cmv_out hb0 n)
  have hqu : ∀ M, cQu I (I 7 2) (I 8) r k M = bq (cmv N k (cB I (I 8) r k) (cA I (I 8) r k)) k (ca0 (I 8)) M := fun M => by unfold cQu; rw [hmvN]
  rw [hqu] at hG
  simp only [hqu] at hQ
  obtain ⟨G1, G2, G3, G4, G5⟩ := hG
  have hlen := bq_len hk5 cmv_out hb0 (mv := cmv N k (cB I (I 8) r k) (cA I (I 8) r k)) 720
  have hg720 : g < 720 := by have := (List.getElem?_eq_some_iff.mp G1).1; omega
  -- the rings
  have loop : ∀ (j i : Nat) (I' : Nat → Nat → Int) (w5 : PV), i + j = g → CQ I' k ((bq (cmv N k (cB I (I 8) r k) (cA I (I 8) r k)) k (ca0 (I 8)) i).map qpr) → fr5 I2 I' → Wp 39 (35, [zA 11, zA 7, zI r, zA 28, zI (i : Int), w5], [], zH S I') Q := by
    intro j
    have head : ∀ (i : Nat) (I' : Nat → Nat → Int) (w5 : PV), i ≤ g → CQ I' k ((bq (cmv N k (cB I (I 8) r k) (cA I (I 8) r k)) k (ca0 (I 8)) i).map qpr) → fr5 I2 I' →
        (∀ (x : QE) (I'' : Nat → Nat → Int) (y : Int), (bq (cmv N k (cB I (I 8) r k) (cA I (I 8) r k)) k (ca0 (I 8)) 720)[i]? = some x → (bq (cmv N k (cB I (I 8) r k) (cA I (I 8) r k)) k (ca0 (I 8)) i)[i]? = some x → CQ I'' k ((bq (cmv N k (cB I (I 8) r k) (cA I (I 8) r k)) k (ca0 (I 8)) i).map qpr) → fr5 I2 I'' → (∀ o, o < k → I'' 15 o = gD x.1 o) → xlpf (fun p => cmv N k (cB I (I 8) r k) (cA I (I 8) r k) x.1 k p) y →
          Wp 39 (71, [zA 11, zA 7, zI r, zA 28, zI (i : Int), w5], [zI y], zH S I'') Q) →
        Wp 39 (35, [zA 11, zA 7, zI r, zA 28, zI (i : Int), w5], [], zH S I') Q := by
      intro i I' w5 hi hC hfr nx
      obtain ⟨x, hx1⟩ : ∃ x, (bq (cmv N k (cB I (I 8) r k) (cA I (I 8) r k)) k (ca0 (I 8)) 720)[i]? = some x := by
        have := (List.getElem?_eq_some_iff.mp G1).1
        exact ⟨_, List.getElem?_eq_getElem (by omega)⟩
      have hx2 := bq_turn (by omega) hx1
      have hi2 := (List.getElem?_eq_some_iff.mp hx2).1
      have hat := CQ_at hC hx2
      have h8 := hC.1
      rw [List.length_map] at h8
      have hin := c6l_in hk5 hat.2.2
      refine (sg_X3_find_35_11_28 _ _ _ _ _ _ _).mpr ?_
      rw [h8]
      refine zcd (fun _ => zcd (fun _ => zgd (by omega) ?_) (fun h => absurd (by omega) h)) (fun h => absurd (by omega) h)
      rw [Int.toNat_natCast, hat.1]
      have k3 : I' 11 9 = (k : Int) := by rw [hfr.2 9 (by decide)]; exact k2
      refine c_arrange k3 hk5 hin ?_
      refine (sg_X3_find_63_11_28 _ _ _ _ _ _ _).mpr ?_
      generalize hI4 : zmapc I' 15 k (fun m => c6l x.1 / 6 ^ m % 6) = I4
      have f15 : ∀ o, o < k → I4 15 o = gD x.1 o := fun o ho => by
        rw [← hI4, zmapc_at _ _ _ _ ho, c6l_dig hat.2.2 ho]
      have fo4 : ∀ d, d ≠ 15 → I4 d = I' d := fun d hd => by rw [← hI4, zmapc_ne _ _ _ _ hd]
      have k4 : I4 11 9 = (k : Int) := by rw [fo4 11 (by decide)]; exact k3
      rw [k4]
      refine c_leastPlaceFor (by omega) k4 hk5 (fun o ho => by rw [f15 o ho]; exact gD_in hat.2.2 o (by rw [hat.2.2.1]; exact ho)) (fun y hy => ?_)
      refine nx x I4 y hx1 hx2 (CQ_15 hC (by rw [fo4 11 (by decide)]) (fo4 16 (by decide)) (fo4 17 (by decide)) (fo4 18 (by decide))) ⟨fun d h1 h2 h3 h4 h5 => by rw [fo4 d h2]; exact hfr.1 d h1 h2 h3 h4 h5, fun j hj => by rw [fo4 11 (by decide)]; exact hfr.2 j hj⟩ f15 ?_
      have conv : ∀ q, xroom I4 k k q ↔ cmv N k (cB I (I 8) r k) (cA I (I 8) r k) x.1 k q := fun q => by
        refine xroom_cmv (by rw [fo4 11 (by decide), hfr.2 10 (by decide), f11 10 (by decide), a2, hN]) hat.2.2 f15 (fun o ho => ?_) (fun o ho => ?_)
        · rw [fo4 13 (by decide), hfr.1 13 (by decide) (by decide) (by decide) (by decide) (by decide), fo 13 (by decide) (by decide)]
          exact (hx k o (Nat.le_refl k) ho).1
        · rw [fo4 14 (by decide), hfr.1 14 (by decide) (by decide) (by decide) (by decide) (by decide), fo 14 (by decide) (by decide)]
          exact (hx k o (Nat.le_refl k) ho).2
      rcases hy with ⟨y1, y2⟩ | ⟨q, y1, y2, y3, y4⟩
      · exact Or.inl ⟨y1, fun q hq w => y2 q hq ((conv q).mpr w)⟩
      · exact Or.inr ⟨q, y1, y2, (conv q).mp y3, fun q' hq' w => y4 q' hq' ((conv q').mpr w)⟩
    induction j with
    | zero =>
      intro i I' w5 hi hC hfr
      obtain rfl : i = g := by omega
      refine head i I' w5 (Nat.le_refl _) hC hfr (fun x I4 y hx1 hx2 hC4 hfr4 f15 hy => ?_)
      rw [G1] at hx1
      cases hx1
      have hyp : y = (p : Int) := by
        rcases hy with ⟨y1, y2⟩ | ⟨q, y1, y2, y3, y4⟩
        · have : p < 6 := by have := G3.1; omega
          exact absurd G3 (y2 p this)
        · rw [y2]
          by_cases e1 : q < p
          · exact absurd y3 (G4 q e1)
          · by_cases e2 : p < q
            · exact absurd G3 (y4 p e2)
            · omega
      subst hyp
      refine (sg_X3_find_71_11_28 _ _ _ _ _ _ _ _).mpr ?_
      refine zcd (fun h => absurd h (by omega)) (fun _ => ?_)
      refine c_trace_28 (by rw [hfr4.2 9 (by decide)]; exact k2) hk5 hC4 (hW i).2.2.1 hx2 G2 hD (fun I5 t1 t2 t3 => ?_)
      refine (sg_X3_find_86_28 _ _ _ _ _ _ _ _).mpr ?_
      refine c_length_28 ?_
      rw [t1]
      refine (sg_X3_find_91_28 _ _ _ _ _ _ _ _ _ _).mpr ?_
      rw [zsb_eq (by omega), show ((D + 1 : Nat) : Int) - 1 = (D : Int) by omega]
      refine c_pset_28 ?_
      rw [if_pos ⟨by omega, by omega, by omega⟩, Int.toNat_natCast]
      refine (sg_X3_find_99 _ _ _ _ _ _ _ _ _).mpr ?_
      have hway : qway (bq (cmv N k (cB I (I 8) r k) (cA I (I 8) r k)) k (ca0 (I 8)) i) D i = qway (bq (cmv N k (cB I (I 8) r k) (cA I (I 8) r k)) k (ca0 (I 8)) 720) D i := qway_pre (hW i).2.2.1 (fun j e h => bq_get (by omega) h) D i eg hx2 G2
      have hl := qway_len (hW 720).2.2.1 D i eg G1 G2
      have hmm : ∀ (w : Nat) (mp : Nat × Nat), (qway (bq (cmv N k (cB I (I 8) r k) (cA I (I 8) r k)) k (ca0 (I 8)) 720) D i)[w]? = some mp → mp.1 < k := qway_in (hW 720).2.2.1 D i eg G1 G2
      refine hQ _ ?_ (fun w mp hw => ?_) ?_ ?_ (fun d d1 d2 d3 d4 => ?_)
      · rw [zs2_ne _ _ _ _ (by decide), zs2_ne _ _ _ _ (by decide)]; exact t1
      · have hwl : w ≠ D := by have := (List.getElem?_eq_some_iff.mp hw).1; omega
        rw [zs2_ne _ _ _ _ (show 29 ≠ 30 by decide), zs2_ne2 _ _ _ _ hwl, zs2_ne2 _ _ _ _ hwl, zs2_ne _ _ _ _ (show 30 ≠ 29 by decide)]
        have := t2 w mp (by rw [hway]; exact hw)
        refine ⟨this.1.trans ?_, this.2⟩
        have hm := hmm w mp hw
        rw [hfr4.1 12 (by decide) (by decide) (by decide) (by decide) (by decide), fo 12 (by decide) (by decide), a3 _ hm, mbr, if_pos hm]
      · rw [zs2_ne _ _ _ _ (show 29 ≠ 30 by decide), zs2_at]
      · rw [zs2_at]
      · rw [zs2_ne _ _ _ _ d4, zs2_ne _ _ _ _ d3, t3 d d2 d3 d4, hfr4.1 d (by omega) (by omega) (by omega) (by omega) (by omega), fo d (by omega) (by omega), a7 d (by omega) (by omega) (by omega) (by omega) (by omega), zs2_ne _ _ _ _ d2]
    | succ j ih =>
      intro i I' w5 hi hC hfr
      refine head i I' w5 (by omega) hC hfr (fun x I4 y hx1 hx2 hC4 hfr4 f15 hy => ?_)
      have hyn : y = -1 := by
        rcases hy with ⟨y1, y2⟩ | ⟨q, y1, y2, y3, y4⟩
        · exact y1
        · exact absurd y3 (G5 i x (by omega) hx1 q)
      refine (sg_X3_find_71_11_28 _ _ _ _ _ _ _ _).mpr ?_
      refine zcd (fun _ => ?_) (fun h => absurd hyn h)
      have hbx := (hW i).2.1 x (List.mem_of_getElem? hx2)
      refine c_widen (by rw [hfr4.2 9 (by decide)]; exact k2) hk5 (by rw [hfr4.2 10 (by decide), f11 10 (by decide), a2, hN]) hN6 hbx f15 (B := cB I (I 8) r k) (A := cA I (I 8) r k) (d := x.2.2.2.2) (fun m hm o ho => ?_) (fun m hm o ho => ?_) hC4 (fun I5 c1 c2 c3 => ?_)
      · rw [hfr4.1 13 (by decide) (by decide) (by decide) (by decide) (by decide), fo 13 (by decide) (by decide)]
        exact (hx m o (by omega) ho).1
      · rw [hfr4.1 14 (by decide) (by decide) (by decide) (by decide) (by decide), fo 14 (by decide) (by decide)]
        exact (hx m o (by omega) ho).2
      · refine (sg_X3_find_106_11_28 _ _ _ _ _ _ _).mpr ?_
        rw [zad_s (by omega)]
        refine ih (i + 1) I5 _ (by omega) (by rw [bq_s hx2]; exact c1) ⟨fun d h1 h2 h3 h4 h5 => ?_, fun j hj => ?_⟩
        · rw [c3.1 d h1 h2 h3 h4 h5]; exact hfr4.1 d h1 h2 h3 h4 h5
        · rw [c3.2 j hj]; exact hfr4.2 j hj
  exact loop g 0 I3 _ (by omega) hC3 ⟨fun d h1 h2 h3 h4 h5 => g1 d h1 h3 h4 h5, fun j hj => g2 j hj⟩
set_option maxRecDepth 100000 in
theorem c_find_9_25 {S : PS} {I : Nat → Nat → Int} {Q : PV1 → Prop} {w4 w5 : PV} {r : Int} {k g D p : Nat} {eg : QE} (hk : (mem (I 10) 16).length = k) (hk5 : k ≤ 5) (hn : 0 ≤ I 9 2) (hG : xgoal (cmvI I (I 9 2) (I 10) r k) k (cQu I (I 9 2) (I 10) r k 720) g D p eg) (hD : D ≤ 15)
    (hQ : ∀ I', I' 25 2 = ((D + 1 : Nat) : Int) → (∀ (w : Nat) (mp : Nat × Nat), (qway (cQu I (I 9 2) (I 10) r k 720) D g)[w]? = some mp → I' 26 w = mbr (I 10) r k mp.1 ∧ I' 27 w = (mp.2 : Int)) → I' 26 D = r → I' 27 D = (p : Int) → (∀ d, d < 11 ∨ 18 < d → d ≠ 25 → d ≠ 26 → d ≠ 27 → I' d = I d) → Q (none, zH S I')) : Wp 39 (0, [zA 11, zA 9, zI r, zA 25, w4, w5], [], zH S I) Q := by
  refine (sg_X3_find_0_11_9_25 _ _ _ _ _ _).mpr ?_
  refine c_pforget_25 ?_
  refine (sg_X3_find_4_11_9_25 _ _ _ _ _ _).mpr ?_
  refine c_gather_9 (k := k) (by rw [zs2_ne _ _ _ _ (by decide)]; exact hk) hk5 (fun I1 hg1 => ?_)
  refine (sg_X3_find_10_11_25 _ _ _ _ _ _ _).mpr ?_
  refine c_fill (r := 18) (n := 243) rfl (by decide) rfl rfl ?_
  refine (sg_X3_find_18_11_25 _ _ _ _ _ _ _).mpr ?_
  -- what holds before the first ring
  have hg : Gat I I1 9 10 r k ∨ True := Or.inr trivial
  have hG1 := hg1
  obtain ⟨a1, a2, a3, a4, a5, a6, a7⟩ := hg1
  rw [zs2_ne _ _ _ _ (by decide)] at a2 a3 a5
  obtain ⟨N, hN⟩ : ∃ N : Nat, min (I 9 2) 6 = (N : Int) := ⟨(min (I 9 2) 6).toNat, by omega⟩
  have hN6 : N ≤ 6 := by omega
  have hmvN : cmvI I (I 9 2) (I 10) r k = cmv N k (cB I (I 10) r k) (cA I (I 10) r k) := by rw [cmvI, hN, Int.toNat_natCast]
  rw [hmvN] at hG
  have hb0 := ca0_barr hk
  have hx : ∀ m o, m ≤ k → o < k → (zbt (I1 13 m) o ↔ cB I (I 10) r k m o) ∧ (zbt (I1 14 m) o ↔ cA I (I 10) r k m o) := fun m o hm ho => by
    have := mk_xbeh (by decide) hG1 hk5 hm ho
    unfold cB cA xov xhi at this ⊢
    rw [zs2_ne _ _ _ _ (by decide), zs2_ne _ _ _ _ (by decide), zs2_ne _ _ _ _ (by decide), zs2_ne _ _ _ _ (by decide)] at this
    exact this
  -- the heap before the first ring
  generalize hI2 : zs2 (zfill I1 18 243 0) 11 8 0 = I2
  have f18 : ∀ c, c < 243 → I2 18 c = 0 := fun c hc => by
    rw [← hI2, zs2_ne _ _ _ _ (by decide)]; simp [zfill, hc]
  have f8 : I2 11 8 = 0 := by rw [← hI2, zs2_at]
  have f11 : ∀ j, j ≠ 8 → I2 11 j = I1 11 j := fun j hj => by
    rw [← hI2, zs2_ne2 _ _ _ _ hj]; simp [zfill]
  have fo : ∀ d, d ≠ 11 → d ≠ 18 → I2 d = I1 d := fun d h1 h2 => by
    rw [← hI2, zs2_ne _ _ _ _ h1]; simp [zfill, h2]
  have w2 : ∀ o, o < k → I2 15 o = gD (ca0 (I 10)) o := fun o ho => by
    rw [fo 15 (by decide) (by decide), a5 o ho, ca0_gD (by rw [hk]; exact ho)]
  have k2 : I2 11 9 = (k : Int) := by rw [f11 9 (by decide)]; exact a1
  refine c_code k2 hk5 (fun o ho => by rw [w2 o ho]; exact gD_in hb0 o (by rw [hb0.1]; exact ho)) ?_
  have ecode : zc6 (I2 15) k k = c6l (ca0 (I 10)) := by
    rw [zc6_congr w2 k (Nat.le_refl k), c6l, hb0.1]
  rw [ecode]
  refine (sg_X3_find_28_11_25_11 _ _ _ _ _ _ _ _).mpr ?_
  refine c_reach hk5 (CQ_nil f8 f18) hb0 (fun I3 hC3 g1 g2 => ?_)
  refine (sg_X3_find_32_11_25 _ _ _ _ _ _ _).mpr ?_
  rw [badd_new (by simp)] at hC3
  have hW := fun n => (bq_good (mv := cmv N k (cB I (I 10) r k) (cA I (I 10) r k)) (k := k) cmv_out hb0 n)
  have hqu : ∀ M, cQu I (I 9 2) (I 10) r k M = bq (cmv N k (cB I (I 10) r k) (cA I (I 10) r k)) k (ca0 (I 10)) M := fun M => by unfold cQu; rw [hmvN]
  rw [hqu] at hG
  simp only [hqu] at hQ
  obtain ⟨G1, G2, G3, G4, G5⟩ := hG
  have hlen := bq_len hk5 cmv_out hb0 (mv := cmv N k (cB I (I 10) r k) (cA I (I 10) r k)) 720
  have hg720 : g < 720 := by have := (List.getElem?_eq_some_iff.mp G1).1; omega
  -- the rings
  have loop : ∀ (j i : Nat) (I' : Nat → Nat → Int) (w5 : PV), i + j = g → CQ I' k ((bq (cmv N k (cB I (I 10) r k) (cA I (I 10) r k)) k (ca0 (I 10)) i).map qpr) → fr5 I2 I' → Wp 39 (35, [zA 11, zA 9, zI r, zA 25, zI (i : Int), w5], [], zH S I') Q := by
    intro j
    have head : ∀ (i : Nat) (I' : Nat → Nat → Int) (w5 : PV), i ≤ g → CQ I' k ((bq (cmv N k (cB I (I 10) r k) (cA I (I 10) r k)) k (ca0 (I 10)) i).map qpr) → fr5 I2 I' →
        (∀ (x : QE) (I'' : Nat → Nat → Int) (y : Int), (bq (cmv N k (cB I (I 10) r k) (cA I (I 10) r k)) k (ca0 (I 10)) 720)[i]? = some x → (bq (cmv N k (cB I (I 10) r k) (cA I (I 10) r k)) k (ca0 (I 10)) i)[i]? = some x → CQ I'' k ((bq (cmv N k (cB I (I 10) r k) (cA I (I 10) r k)) k (ca0 (I 10)) i).map qpr) → fr5 I2 I'' → (∀ o, o < k → I'' 15 o = gD x.1 o) → xlpf (fun p => cmv N k (cB I (I 10) r k) (cA I (I 10) r k) x.1 k p) y →
          Wp 39 (71, [zA 11, zA 9, zI r, zA 25, zI (i : Int), w5], [zI y], zH S I'') Q) →
        Wp 39 (35, [zA 11, zA 9, zI r, zA 25, zI (i : Int), w5], [], zH S I') Q := by
      intro i I' w5 hi hC hfr nx
      obtain ⟨x, hx1⟩ : ∃ x, (bq (cmv N k (cB I (I 10) r k) (cA I (I 10) r k)) k (ca0 (I 10)) 720)[i]? = some x := by
        have := (List.getElem?_eq_some_iff.mp G1).1
        exact ⟨_, List.getElem?_eq_getElem (by omega)⟩
      have hx2 := bq_turn (by omega) hx1
      have hi2 := (List.getElem?_eq_some_iff.mp hx2).1
      have hat := CQ_at hC hx2
      have h8 := hC.1
      rw [List.length_map] at h8
      have hin := c6l_in hk5 hat.2.2
      refine (sg_X3_find_35_11_25 _ _ _ _ _ _ _).mpr ?_
      rw [h8]
      refine zcd (fun _ => zcd (fun _ => zgd (by omega) ?_) (fun h => absurd (by omega) h)) (fun h => absurd (by omega) h)
      rw [Int.toNat_natCast, hat.1]
      have k3 : I' 11 9 = (k : Int) := by rw [hfr.2 9 (by decide)]; exact k2
      refine c_arrange k3 hk5 hin ?_
      refine (sg_X3_find_63_11_25 _ _ _ _ _ _ _).mpr ?_
      generalize hI4 : zmapc I' 15 k (fun m => c6l x.1 / 6 ^ m % 6) = I4
      have f15 : ∀ o, o < k → I4 15 o = gD x.1 o := fun o ho => by
        rw [← hI4, zmapc_at _ _ _ _ ho, c6l_dig hat.2.2 ho]
      have fo4 : ∀ d, d ≠ 15 → I4 d = I' d := fun d hd => by rw [← hI4, zmapc_ne _ _ _ _ hd]
      have k4 : I4 11 9 = (k : Int) := by rw [fo4 11 (by decide)]; exact k3
      rw [k4]
      refine c_leastPlaceFor (by omega) k4 hk5 (fun o ho => by rw [f15 o ho]; exact gD_in hat.2.2 o (by rw [hat.2.2.1]; exact ho)) (fun y hy => ?_)
      refine nx x I4 y hx1 hx2 (CQ_15 hC (by rw [fo4 11 (by decide)]) (fo4 16 (by decide)) (fo4 17 (by decide)) (fo4 18 (by decide))) ⟨fun d h1 h2 h3 h4 h5 => by rw [fo4 d h2]; exact hfr.1 d h1 h2 h3 h4 h5, fun j hj => by rw [fo4 11 (by decide)]; exact hfr.2 j hj⟩ f15 ?_
      have conv : ∀ q, xroom I4 k k q ↔ cmv N k (cB I (I 10) r k) (cA I (I 10) r k) x.1 k q := fun q => by
        refine xroom_cmv (by rw [fo4 11 (by decide), hfr.2 10 (by decide), f11 10 (by decide), a2, hN]) hat.2.2 f15 (fun o ho => ?_) (fun o ho => ?_)
        · rw [fo4 13 (by decide), hfr.1 13 (by decide) (by decide) (by decide) (by decide) (by decide), fo 13 (by decide) (by decide)]
          exact (hx k o (Nat.le_refl k) ho).1
        · rw [fo4 14 (by decide), hfr.1 14 (by decide) (by decide) (by decide) (by decide) (by decide), fo 14 (by decide) (by decide)]
          exact (hx k o (Nat.le_refl k) ho).2
      rcases hy with ⟨y1, y2⟩ | ⟨q, y1, y2, y3, y4⟩
      · exact Or.inl ⟨y1, fun q hq w => y2 q hq ((conv q).mpr w)⟩
      · exact Or.inr ⟨q, y1, y2, (conv q).mp y3, fun q' hq' w => y4 q' hq' ((conv q').mpr w)⟩
    induction j with
    | zero =>
      intro i I' w5 hi hC hfr
      obtain rfl : i = g := by omega
      refine head i I' w5 (Nat.le_refl _) hC hfr (fun x I4 y hx1 hx2 hC4 hfr4 f15 hy => ?_)
      rw [G1] at hx1
      cases hx1
      have hyp : y = (p : Int) := by
        rcases hy with ⟨y1, y2⟩ | ⟨q, y1, y2, y3, y4⟩
        · have : p < 6 := by have := G3.1; omega
          exact absurd G3 (y2 p this)
        · rw [y2]
          by_cases e1 : q < p
          · exact absurd y3 (G4 q e1)
          · by_cases e2 : p < q
            · exact absurd G3 (y4 p e2)
            · omega
      subst hyp
      refine (sg_X3_find_71_11_25 _ _ _ _ _ _ _ _).mpr ?_
      refine zcd (fun h => absurd h (by omega)) (fun _ => ?_)
      refine c_trace_25 (by rw [hfr4.2 9 (by decide)]; exact k2) hk5 hC4 (hW i).2.2.1 hx2 G2 hD (fun I5 t1 t2 t3 => ?_)
      refine (sg_X3_find_86_25 _ _ _ _ _ _ _ _).mpr ?_
      refine c_length_25 ?_
      rw [t1]
      refine (sg_X3_find_91_25 _ _ _ _ _ _ _ _ _ _).mpr ?_
      rw [zsb_eq (by omega), show ((D + 1 : Nat) : Int) - 1 = (D : Int) by omega]
      refine c_pset_25 ?_
      rw [if_pos ⟨by omega, by omega, by omega⟩, Int.toNat_natCast]
      refine (sg_X3_find_99 _ _ _ _ _ _ _ _ _).mpr ?_
      have hway : qway (bq (cmv N k (cB I (I 10) r k) (cA I (I 10) r k)) k (ca0 (I 10)) i) D i = qway (bq (cmv N k (cB I (I 10) r k) (cA I (I 10) r k)) k (ca0 (I 10)) 720) D i := qway_pre (hW i).2.2.1 (fun j e h => bq_get (by omega) h) D i eg hx2 G2
      have hl := qway_len (hW 720).2.2.1 D i eg G1 G2
      have hmm : ∀ (w : Nat) (mp : Nat × Nat), (qway (bq (cmv N k (cB I (I 10) r k) (cA I (I 10) r k)) k (ca0 (I 10)) 720) D i)[w]? = some mp → mp.1 < k := qway_in (hW 720).2.2.1 D i eg G1 G2
      refine hQ _ ?_ (fun w mp hw => ?_) ?_ ?_ (fun d d1 d2 d3 d4 => ?_)
      · rw [zs2_ne _ _ _ _ (by decide), zs2_ne _ _ _ _ (by decide)]; exact t1
      · have hwl : w ≠ D := by have := (List.getElem?_eq_some_iff.mp hw).1; omega
        rw [zs2_ne _ _ _ _ (show 26 ≠ 27 by decide), zs2_ne2 _ _ _ _ hwl, zs2_ne2 _ _ _ _ hwl, zs2_ne _ _ _ _ (show 27 ≠ 26 by decide)]
        have := t2 w mp (by rw [hway]; exact hw)
        refine ⟨this.1.trans ?_, this.2⟩
        have hm := hmm w mp hw
        rw [hfr4.1 12 (by decide) (by decide) (by decide) (by decide) (by decide), fo 12 (by decide) (by decide), a3 _ hm, mbr, if_pos hm]
      · rw [zs2_ne _ _ _ _ (show 26 ≠ 27 by decide), zs2_at]
      · rw [zs2_at]
      · rw [zs2_ne _ _ _ _ d4, zs2_ne _ _ _ _ d3, t3 d d2 d3 d4, hfr4.1 d (by omega) (by omega) (by omega) (by omega) (by omega), fo d (by omega) (by omega), a7 d (by omega) (by omega) (by omega) (by omega) (by omega), zs2_ne _ _ _ _ d2]
    | succ j ih =>
      intro i I' w5 hi hC hfr
      refine head i I' w5 (by omega) hC hfr (fun x I4 y hx1 hx2 hC4 hfr4 f15 hy => ?_)
      have hyn : y = -1 := by
        rcases hy with ⟨y1, y2⟩ | ⟨q, y1, y2, y3, y4⟩
        · exact y1
        · exact absurd y3 (G5 i x (by omega) hx1 q)
      refine (sg_X3_find_71_11_25 _ _ _ _ _ _ _ _).mpr ?_
      refine zcd (fun _ => ?_) (fun h => absurd hyn h)
      have hbx := (hW i).2.1 x (List.mem_of_getElem? hx2)
      refine c_widen (by rw [hfr4.2 9 (by decide)]; exact k2) hk5 (by rw [hfr4.2 10 (by decide), f11 10 (by decide), a2, hN]) hN6 hbx f15 (B := cB I (I 10) r k) (A := cA I (I 10) r k) (d := x.2.2.2.2) (fun m hm o ho => ?_) (fun m hm o ho => ?_) hC4 (fun I5 c1 c2 c3 => ?_)
      · rw [hfr4.1 13 (by decide) (by decide) (by decide) (by decide) (by decide), fo 13 (by decide) (by decide)]
        exact (hx m o (by omega) ho).1
      · rw [hfr4.1 14 (by decide) (by decide) (by decide) (by decide) (by decide), fo 14 (by decide) (by decide)]
        exact (hx m o (by omega) ho).2
      · refine (sg_X3_find_106_11_25 _ _ _ _ _ _ _).mpr ?_
        rw [zad_s (by omega)]
        refine ih (i + 1) I5 _ (by omega) (by rw [bq_s hx2]; exact c1) ⟨fun d h1 h2 h3 h4 h5 => ?_, fun j hj => ?_⟩
        · rw [c3.1 d h1 h2 h3 h4 h5]; exact hfr4.1 d h1 h2 h3 h4 h5
        · rw [c3.2 j hj]; exact hfr4.2 j hj
  exact loop g 0 I3 _ (by omega) hC3 ⟨fun d h1 h2 h3 h4 h5 => g1 d h1 h3 h4 h5, fun j hj => g2 j hj⟩
set_option maxRecDepth 100000 in
theorem c_find_9_28 {S : PS} {I : Nat → Nat → Int} {Q : PV1 → Prop} {w4 w5 : PV} {r : Int} {k g D p : Nat} {eg : QE} (hk : (mem (I 10) 16).length = k) (hk5 : k ≤ 5) (hn : 0 ≤ I 9 2) (hG : xgoal (cmvI I (I 9 2) (I 10) r k) k (cQu I (I 9 2) (I 10) r k 720) g D p eg) (hD : D ≤ 15)
    (hQ : ∀ I', I' 28 2 = ((D + 1 : Nat) : Int) → (∀ (w : Nat) (mp : Nat × Nat), (qway (cQu I (I 9 2) (I 10) r k 720) D g)[w]? = some mp → I' 29 w = mbr (I 10) r k mp.1 ∧ I' 30 w = (mp.2 : Int)) → I' 29 D = r → I' 30 D = (p : Int) → (∀ d, d < 11 ∨ 18 < d → d ≠ 28 → d ≠ 29 → d ≠ 30 → I' d = I d) → Q (none, zH S I')) : Wp 39 (0, [zA 11, zA 9, zI r, zA 28, w4, w5], [], zH S I) Q := by
  refine (sg_X3_find_0_11_9_28 _ _ _ _ _ _).mpr ?_
  refine c_pforget_28 ?_
  refine (sg_X3_find_4_11_9_28 _ _ _ _ _ _).mpr ?_
  refine c_gather_9 (k := k) (by rw [zs2_ne _ _ _ _ (by decide)]; exact hk) hk5 (fun I1 hg1 => ?_)
  refine (sg_X3_find_10_11_28 _ _ _ _ _ _ _).mpr ?_
  refine c_fill (r := 18) (n := 243) rfl (by decide) rfl rfl ?_
  refine (sg_X3_find_18_11_28 _ _ _ _ _ _ _).mpr ?_
  -- what holds before the first ring
  have hg : Gat I I1 9 10 r k ∨ True := Or.inr trivial
  have hG1 := hg1
  obtain ⟨a1, a2, a3, a4, a5, a6, a7⟩ := hg1
  rw [zs2_ne _ _ _ _ (by decide)] at a2 a3 a5
  obtain ⟨N, hN⟩ : ∃ N : Nat, min (I 9 2) 6 = (N : Int) := ⟨(min (I 9 2) 6).toNat, by omega⟩
  have hN6 : N ≤ 6 := by omega
  have hmvN : cmvI I (I 9 2) (I 10) r k = cmv N k (cB I (I 10) r k) (cA I (I 10) r k) := by rw [cmvI, hN, Int.toNat_natCast]
  rw [hmvN] at hG
  have hb0 := ca0_barr hk
  have hx : ∀ m o, m ≤ k → o < k → (zbt (I1 13 m) o ↔ cB I (I 10) r k m o) ∧ (zbt (I1 14 m) o ↔ cA I (I 10) r k m o) := fun m o hm ho => by
    have := mk_xbeh (by decide) hG1 hk5 hm ho
    unfold cB cA xov xhi at this ⊢
    rw [zs2_ne _ _ _ _ (by decide), zs2_ne _ _ _ _ (by decide), zs2_ne _ _ _ _ (by decide), zs2_ne _ _ _ _ (by decide)] at this
    exact this
  -- the heap before the first ring
  generalize hI2 : zs2 (zfill I1 18 243 0) 11 8 0 = I2
  have f18 : ∀ c, c < 243 → I2 18 c = 0 := fun c hc => by
    rw [← hI2, zs2_ne _ _ _ _ (by decide)]; simp [zfill, hc]
  have f8 : I2 11 8 = 0 := by rw [← hI2, zs2_at]
  have f11 : ∀ j, j ≠ 8 → I2 11 j = I1 11 j := fun j hj => by
    rw [← hI2, zs2_ne2 _ _ _ _ hj]; simp [zfill]
  have fo : ∀ d, d ≠ 11 → d ≠ 18 → I2 d = I1 d := fun d h1 h2 => by
    rw [← hI2, zs2_ne _ _ _ _ h1]; simp [zfill, h2]
  have w2 : ∀ o, o < k → I2 15 o = gD (ca0 (I 10)) o := fun o ho => by
    rw [fo 15 (by decide) (by decide), a5 o ho, ca0_gD (by rw [hk]; exact ho)]
  have k2 : I2 11 9 = (k : Int) := by rw [f11 9 (by decide)]; exact a1
  refine c_code k2 hk5 (fun o ho => by rw [w2 o ho]; exact gD_in hb0 o (by rw [hb0.1]; exact ho)) ?_
  have ecode : zc6 (I2 15) k k = c6l (ca0 (I 10)) := by
    rw [zc6_congr w2 k (Nat.le_refl k), c6l, hb0.1]
  rw [ecode]
  refine (sg_X3_find_28_11_28_11 _ _ _ _ _ _ _ _).mpr ?_
  refine c_reach hk5 (CQ_nil f8 f18) hb0 (fun I3 hC3 g1 g2 => ?_)
  refine (sg_X3_find_32_11_28 _ _ _ _ _ _ _).mpr ?_
  rw [badd_new (by simp)] at hC3
  have hW := fun n => (bq_good (mv := cmv N k (cB I (I 10) r k) (cA I (I 10) r k)) (k := k) cmv_out hb0 n)
  have hqu : ∀ M, cQu I (I 9 2) (I 10) r k M = bq (cmv N k (cB I (I 10) r k) (cA I (I 10) r k)) k (ca0 (I 10)) M := fun M => by unfold cQu; rw [hmvN]
  rw [hqu] at hG
  simp only [hqu] at hQ
  obtain ⟨G1, G2, G3, G4, G5⟩ := hG
  have hlen := bq_len hk5 cmv_out hb0 (mv := cmv N k (cB I (I 10) r k) (cA I (I 10) r k)) 720
  have hg720 : g < 720 := by have := (List.getElem?_eq_some_iff.mp G1).1; omega
  -- the rings
  have loop : ∀ (j i : Nat) (I' : Nat → Nat → Int) (w5 : PV), i + j = g → CQ I' k ((bq (cmv N k (cB I (I 10) r k) (cA I (I 10) r k)) k (ca0 (I 10)) i).map qpr) → fr5 I2 I' → Wp 39 (35, [zA 11, zA 9, zI r, zA 28, zI (i : Int), w5], [], zH S I') Q := by
    intro j
    have head : ∀ (i : Nat) (I' : Nat → Nat → Int) (w5 : PV), i ≤ g → CQ I' k ((bq (cmv N k (cB I (I 10) r k) (cA I (I 10) r k)) k (ca0 (I 10)) i).map qpr) → fr5 I2 I' →
        (∀ (x : QE) (I'' : Nat → Nat → Int) (y : Int), (bq (cmv N k (cB I (I 10) r k) (cA I (I 10) r k)) k (ca0 (I 10)) 720)[i]? = some x → (bq (cmv N k (cB I (I 10) r k) (cA I (I 10) r k)) k (ca0 (I 10)) i)[i]? = some x → CQ I'' k ((bq (cmv N k (cB I (I 10) r k) (cA I (I 10) r k)) k (ca0 (I 10)) i).map qpr) → fr5 I2 I'' → (∀ o, o < k → I'' 15 o = gD x.1 o) → xlpf (fun p => cmv N k (cB I (I 10) r k) (cA I (I 10) r k) x.1 k p) y →
          Wp 39 (71, [zA 11, zA 9, zI r, zA 28, zI (i : Int), w5], [zI y], zH S I'') Q) →
        Wp 39 (35, [zA 11, zA 9, zI r, zA 28, zI (i : Int), w5], [], zH S I') Q := by
      intro i I' w5 hi hC hfr nx
      obtain ⟨x, hx1⟩ : ∃ x, (bq (cmv N k (cB I (I 10) r k) (cA I (I 10) r k)) k (ca0 (I 10)) 720)[i]? = some x := by
        have := (List.getElem?_eq_some_iff.mp G1).1
        exact ⟨_, List.getElem?_eq_getElem (by omega)⟩
      have hx2 := bq_turn (by omega) hx1
      have hi2 := (List.getElem?_eq_some_iff.mp hx2).1
      have hat := CQ_at hC hx2
      have h8 := hC.1
      rw [List.length_map] at h8
      have hin := c6l_in hk5 hat.2.2
      refine (sg_X3_find_35_11_28 _ _ _ _ _ _ _).mpr ?_
      rw [h8]
      refine zcd (fun _ => zcd (fun _ => zgd (by omega) ?_) (fun h => absurd (by omega) h)) (fun h => absurd (by omega) h)
      rw [Int.toNat_natCast, hat.1]
      have k3 : I' 11 9 = (k : Int) := by rw [hfr.2 9 (by decide)]; exact k2
      refine c_arrange k3 hk5 hin ?_
      refine (sg_X3_find_63_11_28 _ _ _ _ _ _ _).mpr ?_
      generalize hI4 : zmapc I' 15 k (fun m => c6l x.1 / 6 ^ m % 6) = I4
      have f15 : ∀ o, o < k → I4 15 o = gD x.1 o := fun o ho => by
        rw [← hI4, zmapc_at _ _ _ _ ho, c6l_dig hat.2.2 ho]
      have fo4 : ∀ d, d ≠ 15 → I4 d = I' d := fun d hd => by rw [← hI4, zmapc_ne _ _ _ _ hd]
      have k4 : I4 11 9 = (k : Int) := by rw [fo4 11 (by decide)]; exact k3
      rw [k4]
      refine c_leastPlaceFor (by omega) k4 hk5 (fun o ho => by rw [f15 o ho]; exact gD_in hat.2.2 o (by rw [hat.2.2.1]; exact ho)) (fun y hy => ?_)
      refine nx x I4 y hx1 hx2 (CQ_15 hC (by rw [fo4 11 (by decide)]) (fo4 16 (by decide)) (fo4 17 (by decide)) (fo4 18 (by decide))) ⟨fun d h1 h2 h3 h4 h5 => by rw [fo4 d h2]; exact hfr.1 d h1 h2 h3 h4 h5, fun j hj => by rw [fo4 11 (by decide)]; exact hfr.2 j hj⟩ f15 ?_
      have conv : ∀ q, xroom I4 k k q ↔ cmv N k (cB I (I 10) r k) (cA I (I 10) r k) x.1 k q := fun q => by
        refine xroom_cmv (by rw [fo4 11 (by decide), hfr.2 10 (by decide), f11 10 (by decide), a2, hN]) hat.2.2 f15 (fun o ho => ?_) (fun o ho => ?_)
        · rw [fo4 13 (by decide), hfr.1 13 (by decide) (by decide) (by decide) (by decide) (by decide), fo 13 (by decide) (by decide)]
          exact (hx k o (Nat.le_refl k) ho).1
        · rw [fo4 14 (by decide), hfr.1 14 (by decide) (by decide) (by decide) (by decide) (by decide), fo 14 (by decide) (by decide)]
          exact (hx k o (Nat.le_refl k) ho).2
      rcases hy with ⟨y1, y2⟩ | ⟨q, y1, y2, y3, y4⟩
      · exact Or.inl ⟨y1, fun q hq w => y2 q hq ((conv q).mpr w)⟩
      · exact Or.inr ⟨q, y1, y2, (conv q).mp y3, fun q' hq' w => y4 q' hq' ((conv q').mpr w)⟩
    induction j with
    | zero =>
      intro i I' w5 hi hC hfr
      obtain rfl : i = g := by omega
      refine head i I' w5 (Nat.le_refl _) hC hfr (fun x I4 y hx1 hx2 hC4 hfr4 f15 hy => ?_)
      rw [G1] at hx1
      cases hx1
      have hyp : y = (p : Int) := by
        rcases hy with ⟨y1, y2⟩ | ⟨q, y1, y2, y3, y4⟩
        · have : p < 6 := by have := G3.1; omega
          exact absurd G3 (y2 p this)
        · rw [y2]
          by_cases e1 : q < p
          · exact absurd y3 (G4 q e1)
          · by_cases e2 : p < q
            · exact absurd G3 (y4 p e2)
            · omega
      subst hyp
      refine (sg_X3_find_71_11_28 _ _ _ _ _ _ _ _).mpr ?_
      refine zcd (fun h => absurd h (by omega)) (fun _ => ?_)
      refine c_trace_28 (by rw [hfr4.2 9 (by decide)]; exact k2) hk5 hC4 (hW i).2.2.1 hx2 G2 hD (fun I5 t1 t2 t3 => ?_)
      refine (sg_X3_find_86_28 _ _ _ _ _ _ _ _).mpr ?_
      refine c_length_28 ?_
      rw [t1]
      refine (sg_X3_find_91_28 _ _ _ _ _ _ _ _ _ _).mpr ?_
      rw [zsb_eq (by omega), show ((D + 1 : Nat) : Int) - 1 = (D : Int) by omega]
      refine c_pset_28 ?_
      rw [if_pos ⟨by omega, by omega, by omega⟩, Int.toNat_natCast]
      refine (sg_X3_find_99 _ _ _ _ _ _ _ _ _).mpr ?_
      have hway : qway (bq (cmv N k (cB I (I 10) r k) (cA I (I 10) r k)) k (ca0 (I 10)) i) D i = qway (bq (cmv N k (cB I (I 10) r k) (cA I (I 10) r k)) k (ca0 (I 10)) 720) D i := qway_pre (hW i).2.2.1 (fun j e h => bq_get (by omega) h) D i eg hx2 G2
      have hl := qway_len (hW 720).2.2.1 D i eg G1 G2
      have hmm : ∀ (w : Nat) (mp : Nat × Nat), (qway (bq (cmv N k (cB I (I 10) r k) (cA I (I 10) r k)) k (ca0 (I 10)) 720) D i)[w]? = some mp → mp.1 < k := qway_in (hW 720).2.2.1 D i eg G1 G2
      refine hQ _ ?_ (fun w mp hw => ?_) ?_ ?_ (fun d d1 d2 d3 d4 => ?_)
      · rw [zs2_ne _ _ _ _ (by decide), zs2_ne _ _ _ _ (by decide)]; exact t1
      · have hwl : w ≠ D := by have := (List.getElem?_eq_some_iff.mp hw).1; omega
        rw [zs2_ne _ _ _ _ (show 29 ≠ 30 by decide), zs2_ne2 _ _ _ _ hwl, zs2_ne2 _ _ _ _ hwl, zs2_ne _ _ _ _ (show 30 ≠ 29 by decide)]
        have := t2 w mp (by rw [hway]; exact hw)
        refine ⟨this.1.trans ?_, this.2⟩
        have hm := hmm w mp hw
        rw [hfr4.1 12 (by decide) (by decide) (by decide) (by decide) (by decide), fo 12 (by decide) (by decide), a3 _ hm, mbr, if_pos hm]
      · rw [zs2_ne _ _ _ _ (show 29 ≠ 30 by decide), zs2_at]
      · rw [zs2_at]
      · rw [zs2_ne _ _ _ _ d4, zs2_ne _ _ _ _ d3, t3 d d2 d3 d4, hfr4.1 d (by omega) (by omega) (by omega) (by omega) (by omega), fo d (by omega) (by omega), a7 d (by omega) (by omega) (by omega) (by omega) (by omega), zs2_ne _ _ _ _ d2]
    | succ j ih =>
      intro i I' w5 hi hC hfr
      refine head i I' w5 (by omega) hC hfr (fun x I4 y hx1 hx2 hC4 hfr4 f15 hy => ?_)
      have hyn : y = -1 := by
        rcases hy with ⟨y1, y2⟩ | ⟨q, y1, y2, y3, y4⟩
        · exact y1
        · exact absurd y3 (G5 i x (by omega) hx1 q)
      refine (sg_X3_find_71_11_28 _ _ _ _ _ _ _ _).mpr ?_
      refine zcd (fun _ => ?_) (fun h => absurd hyn h)
      have hbx := (hW i).2.1 x (List.mem_of_getElem? hx2)
      refine c_widen (by rw [hfr4.2 9 (by decide)]; exact k2) hk5 (by rw [hfr4.2 10 (by decide), f11 10 (by decide), a2, hN]) hN6 hbx f15 (B := cB I (I 10) r k) (A := cA I (I 10) r k) (d := x.2.2.2.2) (fun m hm o ho => ?_) (fun m hm o ho => ?_) hC4 (fun I5 c1 c2 c3 => ?_)
      · rw [hfr4.1 13 (by decide) (by decide) (by decide) (by decide) (by decide), fo 13 (by decide) (by decide)]
        exact (hx m o (by omega) ho).1
      · rw [hfr4.1 14 (by decide) (by decide) (by decide) (by decide) (by decide), fo 14 (by decide) (by decide)]
        exact (hx m o (by omega) ho).2
      · refine (sg_X3_find_106_11_28 _ _ _ _ _ _ _).mpr ?_
        rw [zad_s (by omega)]
        refine ih (i + 1) I5 _ (by omega) (by rw [bq_s hx2]; exact c1) ⟨fun d h1 h2 h3 h4 h5 => ?_, fun j hj => ?_⟩
        · rw [c3.1 d h1 h2 h3 h4 h5]; exact hfr4.1 d h1 h2 h3 h4 h5
        · rw [c3.2 j hj]; exact hfr4.2 j hj
  exact loop g 0 I3 _ (by omega) hC3 ⟨fun d h1 h2 h3 h4 h5 => g1 d h1 h3 h4 h5, fun j hj => g2 j hj⟩
