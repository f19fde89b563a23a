/-! the queue in full, and how the class widens it -/
abbrev QE : Type := List Nat × Int × Nat × Nat × Nat
def qpr (e : QE) : List Nat × Int := (e.1, e.2.1)
noncomputable def zite {α : Type} (p : Prop) (a b : α) : α := @ite α p (Classical.propDecidable p) a b
theorem zite_t {α : Type} {p : Prop} {a b : α} (h : p) : zite p a b = a := by unfold zite; exact if_pos h
theorem zite_f {α : Type} {p : Prop} {a b : α} (h : ¬ p) : zite p a b = b := by unfold zite; exact if_neg h
def qadd (L : List QE) (e : QE) : List QE := if e.1 ∈ L.map Prod.fst then L else L ++ [e]
/-- the ways of one member to the places below p -/
noncomputable def qwp (mv : List Nat → Nat → Nat → Prop) (s : Int) (a : List Nat) (d m : Nat) : Nat → List QE → List QE
  | 0, L => L
  | p + 1, L => zite (mv a m p) (qadd (qwp mv s a d m p L) (a.set m p, s, m, p, d + 1)) (qwp mv s a d m p L)
noncomputable def qwm (mv : List Nat → Nat → Nat → Prop) (s : Int) (a : List Nat) (d : Nat) : Nat → List QE → List QE
  | 0, L => L
  | m + 1, L => qwp mv s a d m 6 (qwm mv s a d m L)
theorem qadd_pr (L : List QE) (e : QE) : (qadd L e).map qpr = badd e.2.1 (L.map qpr) e.1 := by
  have h : (L.map qpr).map Prod.fst = L.map Prod.fst := by rw [List.map_map]; rfl
  unfold qadd badd
  rw [h]
  by_cases w : e.1 ∈ L.map Prod.fst
  · rw [if_pos w, if_pos w]
  · rw [if_neg w, if_neg w, List.map_append]; rfl
theorem qwp_same (mv : List Nat → Nat → Nat → Prop) (s : Int) (a : List Nat) (d m : Nat) (L : List QE) {p : Nat} : ∀ q, (∀ x, p ≤ x → x < p + q → ¬ mv a m x) → qwp mv s a d m (p + q) L = qwp mv s a d m p L
  | 0, _ => rfl
  | q + 1, h => by
    show zite (mv a m (p + q)) _ _ = _
    rw [zite_f (h (p + q) (by omega) (by omega))]
    exact qwp_same mv s a d m L q (fun x h1 h2 => h x h1 (by omega))
theorem qwp_0 (mv : List Nat → Nat → Nat → Prop) (s : Int) (a : List Nat) (d m : Nat) (L : List QE) {p : Nat} (h : ∀ x, x < p → ¬ mv a m x) : qwp mv s a d m p L = L := by
  have := qwp_same mv s a d m L (p := 0) p (fun x _ h2 => h x (by omega))
  rwa [Nat.zero_add] at this
theorem qwp_s (mv : List Nat → Nat → Nat → Prop) (s : Int) (a : List Nat) (d m p : Nat) (L : List QE) (h : mv a m p) : qwp mv s a d m (p + 1) L = qadd (qwp mv s a d m p L) (a.set m p, s, m, p, d + 1) := zite_t h
theorem qwp_n (mv : List Nat → Nat → Nat → Prop) (s : Int) (a : List Nat) (d m p : Nat) (L : List QE) (h : ¬ mv a m p) : qwp mv s a d m (p + 1) L = qwp mv s a d m p L := zite_f h
/-- whether a member may go to a place -/
def cmv (N k : Nat) (B A : Nat → Nat → Prop) (a : List Nat) (m p : Nat) : Prop := p < N ∧ p ∉ a ∧ ∀ o, o < k → (B m o → a.getD o 0 < p) ∧ (A m o → p < a.getD o 0)
theorem barr_get {k : Nat} {a : List Nat} (h : barr k a) {o : Nat} (ho : o < k) : a.getD o 0 ∈ a ∧ a.getD o 0 < 6 := by
  have ho' : o < a.length := by rw [h.1]; exact ho
  have e : a.getD o 0 = a[o] := by simp [List.getD_eq_getElem?_getD, ho']
  rw [e]
  exact ⟨List.getElem_mem ho', h.2.2 _ (List.getElem_mem ho')⟩
theorem barr_ex {k : Nat} {a : List Nat} (h : barr k a) {p : Nat} : p ∈ a ↔ ∃ o, o < k ∧ a.getD o 0 = p := by
  constructor
  · intro w
    obtain ⟨o, ho, e⟩ := List.getElem_of_mem w
    exact ⟨o, by rw [← h.1]; exact ho, by simp [List.getD_eq_getElem?_getD, ho, e]⟩
  · rintro ⟨o, ho, rfl⟩
    exact (barr_get h ho).1
theorem getD_set {a : List Nat} {m p o : Nat} (hm : m < a.length) : (a.set m p).getD o 0 = if o = m then p else a.getD o 0 := by
  by_cases e : o = m
  · subst e; simp [List.getD_eq_getElem?_getD, hm]
  · rw [if_neg e]; simp [List.getD_eq_getElem?_getD, List.getElem?_set, Ne.symm e]
theorem barr_set {k : Nat} {a : List Nat} (h : barr k a) {m p : Nat} (hp : p < 6) (hn : p ∉ a) : barr k (a.set m p) := by
  refine ⟨by rw [List.length_set]; exact h.1, ?_, fun x hx => ?_⟩
  · rw [List.nodup_iff_pairwise_ne, List.pairwise_iff_getElem]
    have hd := List.pairwise_iff_getElem.mp (List.nodup_iff_pairwise_ne.mp h.2.1)
    intro i j hi hj hij
    rw [List.length_set] at hi hj
    rw [List.getElem_set, List.getElem_set]
    split
    · split
      · omega
      · intro e; exact hn (e ▸ List.getElem_mem _)
    · split
      · intro e; exact hn (e ▸ List.getElem_mem _)
      · exact hd i j hi hj hij
  · rcases List.mem_or_eq_of_mem_set hx with w | rfl
    · exact h.2.2 x w
    · exact hp
theorem xroom_cmv {I : Nat → Nat → Int} {k m N p : Nat} {a : List Nat} {B A : Nat → Nat → Prop} (hN : I 11 10 = (N : Int)) (ha : barr k a) (hw : ∀ o, o < k → I 15 o = gD a o) (hB : ∀ o, o < k → (zbt (I 13 m) o ↔ B m o)) (hA : ∀ o, o < k → (zbt (I 14 m) o ↔ A m o)) : xroom I k m p ↔ cmv N k B A a m p := by
  unfold xroom cmv
  rw [srm_le, lt_erm, hN, barr_ex ha]
  constructor
  · rintro ⟨h1, ⟨h2, h3⟩, h4, h5⟩
    refine ⟨by omega, fun ⟨o, ho, e⟩ => h1 ⟨o, ho, by rw [hw o ho, gD, e]⟩, fun o ho => ⟨fun b => ?_, fun b => ?_⟩⟩
    · have := h3 o ho ((hB o ho).mpr b)
      rw [hw o ho, gD] at this; omega
    · have := h5 o ho ((hA o ho).mpr b)
      rw [hw o ho, gD] at this; omega
  · rintro ⟨h1, h2, h3⟩
    refine ⟨fun ⟨o, ho, e⟩ => h2 ⟨o, ho, by rw [hw o ho, gD] at e; omega⟩, ⟨by omega, fun o ho b => ?_⟩, by omega, fun o ho b => ?_⟩
    · have := (h3 o ho).1 ((hB o ho).mp b)
      rw [hw o ho, gD]; omega
    · have := (h3 o ho).2 ((hA o ho).mp b)
      rw [hw o ho, gD]; omega
theorem srm_congr {I I' : Nat → Nat → Int} {m : Nat} (h13 : I' 13 = I 13) (h15 : I' 15 = I 15) : ∀ k, srm I' m k = srm I m k
  | 0 => rfl
  | k + 1 => by simp only [srm]; rw [srm_congr h13 h15 k, h13, h15]
theorem erm_congr {I I' : Nat → Nat → Int} {m : Nat} (h14 : I' 14 = I 14) (h15 : I' 15 = I 15) (h11 : I' 11 10 = I 11 10) : ∀ k, erm I' m k = erm I m k
  | 0 => h11
  | k + 1 => by simp only [erm]; rw [erm_congr h14 h15 h11 k, h14, h15]
def fr5 (I I' : Nat → Nat → Int) : Prop := (∀ d, d ≠ 11 → d ≠ 15 → d ≠ 16 → d ≠ 17 → d ≠ 18 → I' d = I d) ∧ ∀ j, j ≠ 8 → I' 11 j = I 11 j
theorem CQ_15 {I I' : Nat → Nat → Int} {k : Nat} {L : BQ} (h : CQ I k L) (e11 : I' 11 8 = I 11 8) (e16 : I' 16 = I 16) (e17 : I' 17 = I 17) (e18 : I' 18 = I 18) : CQ I' k L := by
  unfold CQ
  rw [e11, e16, e17, e18]
  exact h
set_option maxRecDepth 100000 in
theorem c_widen {S : PS} {I : Nat → Nat → Int} {Q : PV1 → Prop} {u2 u3 u4 u5 u6 : PV} {k N d : Nat} {a : List Nat} {L : List QE} {i : Int} {B A : Nat → Nat → Prop} (hk : I 11 9 = (k : Int)) (hk5 : k ≤ 5) (hN : I 11 10 = (N : Int)) (hN6 : N ≤ 6) (ha : barr k a) (hw : ∀ o, o < k → I 15 o = gD a o)
    (hB : ∀ m, m < k → ∀ o, o < k → (zbt (I 13 m) o ↔ B m o)) (hA : ∀ m, m < k → ∀ o, o < k → (zbt (I 14 m) o ↔ A m o)) (hC : CQ I k (L.map qpr))
    (hQ : ∀ I', CQ I' k ((qwm (cmv N k B A) i a d k L).map qpr) → I' 15 = I 15 → fr5 I I' → Q (none, zH S I')) : Wp 45 (0, [zA 11, zI i, u2, u3, u4, u5, u6], [], zH S I) Q := by
  have hwb : ∀ o, o < k → 0 ≤ I 15 o ∧ I 15 o < 6 := fun o ho => by
    have := barr_get ha ho
    rw [hw o ho, gD]; omega
  refine (sg_X3_widen_0_11 _ _ _ _ _ _ _ _ _).mpr ?_
  refine c_placesTaken hk (by omega) hwb (fun x hx => ?_)
  refine (sg_X3_widen_4_11 _ _ _ _ _ _ _ _ _ _).mpr ?_
  have hmv : ∀ m p, m < k → (xroom I k m p ↔ cmv N k B A a m p) := fun m p hm => xroom_cmv hN ha hw (hB m hm) (hA m hm)
  -- the inner loop
  have inner : ∀ (j p m : Nat) (I' : Nat → Nat → Int) (Q : PV1 → Prop), j + p = 6 → m < k → srm I m k ≤ (p : Int) → CQ I' k ((qwp (cmv N k B A) i a d m p (qwm (cmv N k B A) i a d m L)).map qpr) → (∀ o, o ≠ m → I' 15 o = I 15 o) → fr5 I I' →
      (∀ I'', CQ I'' k ((qwm (cmv N k B A) i a d (m + 1) L).map qpr) → I'' 15 = I 15 → fr5 I I'' → ∀ w4 w5 w6 : PV, Wp 45 (7, [zA 11, zI i, zI x, zI ((m + 1 : Nat) : Int), w4, w5, w6], [], zH S I'') Q) →
      Wp 45 (43, [zA 11, zI i, zI x, zI (m : Int), zI (I 15 m), zI (erm I m k), zI (p : Int)], [], zH S I') Q := by
    intro j
    induction j with
    | zero =>
      intro p m I' Q hj hm hs hC' h15 hfr nx
      obtain rfl : p = 6 := by omega
      refine (sg_X3_widen_43_11 _ _ _ _ _ _ _ _ _).mpr ?_
      have fin : cond (zib (m : Int) 6) (Wp 45 (7, [zA 11, zI i, zI x, zI (zad (m : Int) 1), zI (I 15 m), zI (erm I m k), zI ((6 : Nat) : Int)], [], zH S (zs2 I' 15 (m : Int).toNat (I 15 m))) Q) False := by
        refine zgd (by omega) ?_
        rw [zad_s (by omega), Int.toNat_natCast]
        refine nx _ (CQ_15 hC' ?_ ?_ ?_ ?_) ?_ ⟨fun d h1 h2 h3 h4 h5 => ?_, fun j hj => ?_⟩ _ _ _
        · simp (disch := decide) only [zs2_ne]
        · simp (disch := decide) only [zs2_ne]
        · simp (disch := decide) only [zs2_ne]
        · simp (disch := decide) only [zs2_ne]
        · funext o
          by_cases e : o = m
          · subst e; rw [zs2_at]
          · rw [zs2_ne2 _ _ _ _ e]; exact h15 o e
        · rw [zs2_ne _ _ _ _ h2]; exact hfr.1 d h1 h2 h3 h4 h5
        · rw [zs2_ne _ _ _ _ (by decide)]; exact hfr.2 j hj
      refine zcd (fun _ => zcd (fun h => absurd h (by omega)) (fun _ => fin)) (fun _ => fin)
    | succ j ih =>
      intro p m I' Q hj hm hs hC' h15 hfr nx
      have hp6 : p < 6 := by omega
      refine (sg_X3_widen_43_11 _ _ _ _ _ _ _ _ _).mpr ?_
      refine zcd (fun he => zcd (fun _ => ?_) (fun h => absurd (by omega) h)) (fun he => ?_)
      · refine zcd (fun hz => ?_) (fun hz => ?_)
        · have hx1 : xroom I k m p := ⟨fun w => ((hx.2.2 p hp6).mpr w) hz, hs, he⟩
          have hmv1 := (hmv m p hm).mp hx1
          refine zgd (by omega) ?_
          rw [Int.toNat_natCast]
          have hbs : barr k (a.set m p) := barr_set ha hp6 hmv1.2.1
          have hcode : ∀ o, o < k → zs2 I' 15 m (p : Int) 15 o = gD (a.set m p) o := fun o ho => by
            rw [gD, getD_set (by rw [ha.1]; exact hm)]
            by_cases e : o = m
            · subst e; rw [zs2_at, if_pos rfl]
            · rw [zs2_ne2 _ _ _ _ e, if_neg e, h15 o e, hw o ho, gD]
          refine c_code (k := k) (by rw [zs2_ne _ _ _ _ (by decide), hfr.2 9 (by decide)]; exact hk) hk5 (fun o ho => by
            rw [hcode o ho]; have := barr_get hbs ho; rw [gD]; omega) ?_
          have ecode : zc6 (zs2 I' 15 m (p : Int) 15) k k = c6l (a.set m p) := by
            rw [zc6_congr hcode k (Nat.le_refl k), c6l, hbs.1]
          rw [ecode]
          refine (sg_X3_widen_79_11_11 _ _ _ _ _ _ _ _ _ _).mpr ?_
          refine c_reach hk5 (L := (qwp (cmv N k B A) i a d m p (qwm (cmv N k B A) i a d m L)).map qpr) (CQ_15 hC' ?_ ?_ ?_ ?_) hbs (fun I'' hC'' hf1 hf2 => ?_)
          · simp (disch := decide) only [zs2_ne]
          · simp (disch := decide) only [zs2_ne]
          · simp (disch := decide) only [zs2_ne]
          · simp (disch := decide) only [zs2_ne]
          refine (sg_X3_widen_83_11 _ _ _ _ _ _ _ _ _).mpr ?_
          rw [zad_s (by omega)]
          refine ih (p + 1) m I'' Q (by omega) hm (by omega) ?_ (fun o ho => ?_) ⟨fun d h1 h2 h3 h4 h5 => ?_, fun j hj => ?_⟩ nx
          · rw [qwp_s _ _ _ _ _ _ _ hmv1, qadd_pr]; exact hC''
          · rw [hf1 15 (by decide) (by decide) (by decide) (by decide), zs2_ne2 _ _ _ _ ho]; exact h15 o ho
          · rw [hf1 d h1 h3 h4 h5, zs2_ne _ _ _ _ h2]; exact hfr.1 d h1 h2 h3 h4 h5
          · rw [hf2 j hj, zs2_ne _ _ _ _ (by decide)]; exact hfr.2 j hj
        · have hmv0 : ¬ cmv N k B A a m p := fun w => ((hmv m p hm).mpr w).1 ((hx.2.2 p hp6).mp hz)
          refine (sg_X3_widen_83_11 _ _ _ _ _ _ _ _ _).mpr ?_
          rw [zad_s (by omega)]
          exact ih (p + 1) m I' Q (by omega) hm (by omega) (by rw [qwp_n _ _ _ _ _ _ _ hmv0]; exact hC') h15 hfr nx
      · have hmv0 : ∀ y, p ≤ y → y < p + (6 - p) → ¬ cmv N k B A a m y := fun y h1 _ w => by
          have := ((hmv m y hm).mpr w).2.2; omega
        have e6 : qwp (cmv N k B A) i a d m 6 (qwm (cmv N k B A) i a d m L) = qwp (cmv N k B A) i a d m p (qwm (cmv N k B A) i a d m L) := by
          have := qwp_same (cmv N k B A) i a d m (qwm (cmv N k B A) i a d m L) (6 - p) hmv0
          rwa [show p + (6 - p) = 6 by omega] at this
        refine zgd (by omega) ?_
        rw [zad_s (by omega), Int.toNat_natCast]
        refine nx _ (CQ_15 (by rw [show qwm (cmv N k B A) i a d (m + 1) L = _ from e6]; exact hC') ?_ ?_ ?_ ?_) ?_ ⟨fun d h1 h2 h3 h4 h5 => ?_, fun j hj => ?_⟩ _ _ _
        · simp (disch := decide) only [zs2_ne]
        · simp (disch := decide) only [zs2_ne]
        · simp (disch := decide) only [zs2_ne]
        · simp (disch := decide) only [zs2_ne]
        · funext o
          by_cases e : o = m
          · subst e; rw [zs2_at]
          · rw [zs2_ne2 _ _ _ _ e]; exact h15 o e
        · rw [zs2_ne _ _ _ _ h2]; exact hfr.1 d h1 h2 h3 h4 h5
        · rw [zs2_ne _ _ _ _ (by decide)]; exact hfr.2 j hj
  -- the outer loop
  have outer : ∀ (j m : Nat) (I' : Nat → Nat → Int) (w4 w5 w6 : PV), j + m = k → CQ I' k ((qwm (cmv N k B A) i a d m L).map qpr) → I' 15 = I 15 → fr5 I I' → Wp 45 (7, [zA 11, zI i, zI x, zI (m : Int), w4, w5, w6], [], zH S I') Q := by
    intro j
    induction j with
    | zero =>
      intro m I' w4 w5 w6 hj hC' h15 hfr
      obtain rfl : m = k := by omega
      refine (sg_X3_widen_7_11 _ _ _ _ _ _ _ _ _).mpr ?_
      rw [hfr.2 9 (by decide), hk]
      refine zcd (fun h => absurd h (by omega)) (fun _ => hQ _ hC' h15 hfr)
    | succ j ih =>
      intro m I' w4 w5 w6 hj hC' h15 hfr
      have hm : m < k := by omega
      refine (sg_X3_widen_7_11 _ _ _ _ _ _ _ _ _).mpr ?_
      rw [hfr.2 9 (by decide), hk]
      refine zcd (fun _ => zcd (fun _ => zgd (by omega) ?_) (fun h => absurd (by omega) h)) (fun h => absurd (by omega) h)
      rw [Int.toNat_natCast, h15]
      have es : srm I' m k = srm I m k := srm_congr (hfr.1 13 (by decide) (by decide) (by decide) (by decide) (by decide)) h15 k
      have ee : erm I' m k = erm I m k := erm_congr (hfr.1 14 (by decide) (by decide) (by decide) (by decide) (by decide)) h15 (hfr.2 10 (by decide)) k
      refine c_endOfRoom (by omega) (by rw [hfr.2 9 (by decide)]; exact hk) (by omega) (fun o ho => by rw [h15]; exact hwb o ho) ?_
      refine (sg_X3_widen_34_11 _ _ _ _ _ _ _ _ _ _).mpr ?_
      refine c_startOfRoom (by omega) (by rw [hfr.2 9 (by decide)]; exact hk) (by omega) (fun o ho => by rw [h15]; exact hwb o ho) ?_
      refine (sg_X3_widen_41_11 _ _ _ _ _ _ _ _ _ _).mpr ?_
      rw [es, ee]
      have hs := srm_in (I := I) (m := m) k hwb
      obtain ⟨s, hs2⟩ : ∃ s : Nat, srm I m k = (s : Int) := ⟨(srm I m k).toNat, by omega⟩
      rw [hs2]
      refine inner (6 - s) s m I' Q (by omega) hm (by omega) ?_ (fun o _ => by rw [h15]) hfr (fun I'' h1 h2 h3 _ _ _ => ih (m + 1) I'' _ _ _ (by omega) h1 h2 h3)
      rw [qwp_0]
      · exact hC'
      · intro y hy w
        have := ((hmv m y hm).mpr w).2.1; omega
  exact outer k 0 I _ _ _ (by omega) hC rfl ⟨fun _ _ _ _ _ _ => rfl, fun _ _ => rfl⟩
