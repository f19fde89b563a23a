/-! rows and arrangements -/
def RW (f : Nat → Int) (ms a : List Nat) (k : Nat) : Prop := (∀ o, o < k → f (a.getD o 0) = gD ms o) ∧ ∀ p, p < 6 → p ∉ a → f p = -1
def RF (f : Nat → Int) (ms b : List Nat) (r : Int) (p k : Nat) : Prop := (∀ o, o < k → f (b.getD o 0) = gD ms o) ∧ f p = r ∧ ∀ q, q < 6 → q ∉ b → q ≠ p → f q = -1
theorem gD_inj {ms : List Nat} (h : ms.Nodup) {i j : Nat} (hi : i < ms.length) (hj : j < ms.length) (e : gD ms i = gD ms j) : i = j := by
  rw [gD, gD, getD_el hi, getD_el hj] at e
  exact nodup_inj h (by omega : ms[i] = ms[j])
theorem barr_inj {k : Nat} {a : List Nat} (h : barr k a) {i j : Nat} (hi : i < k) (hj : j < k) (e : a.getD i 0 = a.getD j 0) : i = j := by
  have hi' : i < a.length := by rw [h.1]; exact hi
  have hj' : j < a.length := by rw [h.1]; exact hj
  rw [getD_el hi', getD_el hj'] at e
  exact nodup_inj h.2.1 e
theorem gD_ne {ms : List Nat} {i : Nat} : gD ms i ≠ -1 := by rw [gD]; omega
theorem RW_self {I : Nat → Nat → Int} {n : Int} {f : Nat → Int} {k : Nat} (hV : VT I n f) (hk : (mem f 16).length = k) : RW f (mem f 16) (ca0 f) k := by
  obtain ⟨v1, v2, v3, v4, v5, v6⟩ := hV
  constructor
  · intro o ho
    obtain ⟨r, p, a1, a2, a3, a4, a5, a6⟩ := mem_i hk ho
    rw [a6, a5, a1]
  · intro p hp hpa
    by_cases c : f p = -1
    · exact c
    · exfalso
      apply hpa
      have h1 := v3 p hp
      have h2 := xplc_at hp v5 c
      obtain ⟨r, hr⟩ : ∃ r : Nat, f p = (r : Int) := ⟨(f p).toNat, by omega⟩
      rw [hr] at h2
      exact List.mem_map.mpr ⟨r, mem_mem.mpr ⟨by omega, by rw [h2]; omega⟩, by rw [h2, Int.toNat_natCast]⟩
theorem RW_plc {f : Nat → Int} {ms a : List Nat} {k : Nat} (h : RW f ms a k) (hb : barr k a) (hn : ms.Nodup) (hl : ms.length = k) {m : Nat} (hm : m < k) : xplc f (gD ms m) = ((a.getD m 0 : Nat) : Int) := by
  have hg := barr_get hb hm
  rcases zfs_spec (P := fun q => gD ms m ≠ -1 ∧ f q = gD ms m) 6 0 with ⟨-, h2⟩ | ⟨j, h1, -, h3, h4, -⟩
  · exact absurd ⟨gD_ne, h.1 m hm⟩ (h2 _ (Nat.zero_le _) (by omega))
  · rw [show xplc f (gD ms m) = (j : Int) from h1]
    by_cases w : j ∈ a
    · obtain ⟨o, ho, e⟩ := (barr_ex hb).mp w
      have := h.1 o ho
      rw [e, h4.2] at this
      have := gD_inj hn (by omega) (by omega) this
      subst this
      rw [e]
    · have := h.2 j (by omega) w
      rw [h4.2] at this
      exact absurd this gD_ne
theorem RW_none {f : Nat → Int} {ms a : List Nat} {k : Nat} (h : RW f ms a k) (hb : barr k a) {r : Int} (hr : ∀ o, o < k → gD ms o ≠ r) : xplc f r = -1 := by
  by_cases hr1 : r = -1
  · subst hr1
    rcases zfs_spec (P := fun q => (-1 : Int) ≠ -1 ∧ f q = -1) 6 0 with ⟨h1, -⟩ | ⟨j, h1, -, h3, h4, -⟩
    · exact h1
    · exact absurd rfl h4.1
  refine xplc_none (fun p hp e => ?_)
  by_cases w : p ∈ a
  · obtain ⟨o, ho, e2⟩ := (barr_ex hb).mp w
    have := h.1 o ho
    rw [e2, e] at this
    exact hr o ho this.symm
  · have := h.2 p hp w
    rw [e] at this
    exact hr1 this
theorem RW_lay {J : Nat → Nat → Int} {t c N k m p : Nat} {ms a : List Nat} (htc : t ≠ c) (hN : J t 2 = (N : Int)) (hN6 : N ≤ 6) (h : RW (J c) ms a k) (hb : barr k a) (haN : ∀ x ∈ a, x < N) (hn : ms.Nodup) (hl : ms.length = k) (hm : m < k) (hp : p < N) (hpa : p ∉ a) :
    RW (xlay J t c (gD ms m) (p : Int) c) ms (a.set m p) k := by
  have hg := barr_get hb hm
  have hgN := haN _ hg.1
  have e : xlay J t c (gD ms m) (p : Int) = zs2 (zs2 J c (a.getD m 0) (-1)) c p (gD ms m) := by
    unfold xlay xfree
    rw [RW_plc h hb hn hl hm, if_pos ⟨by omega, by omega, by omega⟩, if_pos ⟨by omega, by omega, by omega⟩, Int.toNat_natCast, Int.toNat_natCast]
  rw [e]
  have hlen : m < a.length := by rw [hb.1]; exact hm
  constructor
  · intro o ho
    rw [getD_set hlen]
    by_cases w : o = m
    · subst w; rw [if_pos rfl, zs2_at]
    · have h1 := barr_get hb ho
      have h2 : a.getD o 0 ≠ p := fun e2 => hpa (e2 ▸ h1.1)
      have h3 : a.getD o 0 ≠ a.getD m 0 := fun e2 => w (barr_inj hb ho hm e2)
      rw [if_neg w, zs2_ne2 _ _ _ _ h2, zs2_ne2 _ _ _ _ h3]
      exact h.1 o ho
  · intro q hq hqa
    have h1 : q ≠ p := fun e2 => hqa (e2 ▸ List.mem_set hlen p)
    rw [zs2_ne2 _ _ _ _ h1]
    by_cases w : q = a.getD m 0
    · rw [w, zs2_at]
    · rw [zs2_ne2 _ _ _ _ w]
      refine h.2 q hq (fun hq2 => hqa ?_)
      obtain ⟨o, ho, e2⟩ := (barr_ex hb).mp hq2
      have hom : o ≠ m := fun e3 => w (by rw [← e2, e3])
      refine (barr_ex (barr_set hb (by omega) hpa)).mpr ⟨o, ho, ?_⟩
      rw [getD_set hlen, if_neg hom]; exact e2
/-- the way, carried out -/
theorem RW_carry {J : Nat → Nat → Int} {t c pt N k : Nat} {ms a0 : List Nat} {L : List QE} (htc : t ≠ c) (hN : J t 2 = (N : Int)) (hN6 : N ≤ 6) (hW : QW k L) (hb : ∀ e ∈ L, barr k e.1) (hz : ∀ e ∈ L, e.2.2.2.2 = 0 → e.1 = a0) (haN : ∀ e ∈ L, ∀ x ∈ e.1, x < N) (hn : ms.Nodup) (hl : ms.length = k) (h0 : RW (J c) ms a0 k) :
    ∀ (d j : Nat) (e : QE), L[j]? = some e → e.2.2.2.2 = d → (∀ (w : Nat) (mp : Nat × Nat), (qway L d j)[w]? = some mp → J (pt + 1) w = gD ms mp.1 ∧ J (pt + 2) w = (mp.2 : Int)) → RW (xcarry J t c pt d c) ms e.1 k
  | 0, j, e, h, hd, _ => by rw [hz e (List.mem_of_getElem? h) hd]; exact h0
  | d + 1, j, e, h, hd, hw => by
    rcases hW j e h with ⟨_, w0⟩ | ⟨j', e', g1, g2, g3, g4, g5, g6, g7, g8⟩
    · omega
    have e1 := qway_s (d := d) h
    rw [g3, Int.toNat_natCast] at e1
    have hlen := qway_len hW d j' e' g2 (by omega)
    have ih := RW_carry (pt := pt) htc hN hN6 hW hb hz haN hn hl h0 d j' e' g2 (by omega) (fun w mp hwm => hw w mp (by
      rw [e1, List.getElem?_append_left (List.getElem?_eq_some_iff.mp hwm).1]; exact hwm))
    have hd1 := hw d (e.2.2.1, e.2.2.2.1) (by rw [e1, List.getElem?_append_right (by omega), hlen]; simp)
    rw [xcarry, hd1.1, hd1.2, g7]
    have hmem := hb e' (List.mem_of_getElem? g2)
    have hpN : e.2.2.2.1 < N := haN e (List.mem_of_getElem? h) _ (by rw [g7]; exact List.mem_set (by rw [hmem.1]; exact g4) _)
    exact RW_lay htc (by rw [xcarry_ne htc]; exact hN) hN6 ih hmem (haN e' (List.mem_of_getElem? g2)) hn hl g4 hpN g6
theorem RF_lay {J : Nat → Nat → Int} {t c N k p : Nat} {ms b : List Nat} {r : Int} (hN : J t 2 = (N : Int)) (hN6 : N ≤ 6) (h : RW (J c) ms b k) (hb : barr k b) (hr : ∀ o, o < k → gD ms o ≠ r) (hp : p < N) (hpb : p ∉ b) : RF (xlay J t c r (p : Int) c) ms b r p k := by
  have e : xlay J t c r (p : Int) = zs2 J c p r := by
    unfold xlay xfree
    rw [RW_none h hb hr, if_pos ⟨by omega, by omega, by omega⟩, if_neg (fun w => by have := w.1; omega), Int.toNat_natCast]
  rw [e]
  refine ⟨fun o ho => ?_, by rw [zs2_at], fun q hq h1 h2 => by rw [zs2_ne2 _ _ _ _ h2]; exact h.2 q hq h1⟩
  have : b.getD o 0 ≠ p := fun e2 => hpb (e2 ▸ (barr_get hb ho).1)
  rw [zs2_ne2 _ _ _ _ this]
  exact h.1 o ho
/-- what all arrangements of a queue have -/
def sfA (B A : Nat → Nat → Prop) (N k : Nat) (a : List Nat) : Prop := barr k a ∧ (∀ x ∈ a, x < N) ∧ ∀ m o, m < k → o < k → (B m o → a.getD o 0 < a.getD m 0) ∧ (A m o → a.getD m 0 < a.getD o 0)
theorem sfA_set {B A : Nat → Nat → Prop} {N k m p : Nat} {a : List Nat} (hN : N ≤ 6) (hBA : ∀ m o, m < k → o < k → (B m o ↔ A o m)) (hBs : ∀ m, ¬ B m m) (h : sfA B A N k a) (hm : m < k) (hmv : cmv N k B A a m p) : sfA B A N k (a.set m p) := by
  obtain ⟨h1, h2, h3⟩ := h
  obtain ⟨g1, g2, g3⟩ := hmv
  have hlen : m < a.length := by rw [h1.1]; exact hm
  have key : ∀ x o, x < k → o < k → B x o → (a.set m p).getD o 0 < (a.set m p).getD x 0 := fun x o hx ho hB => by
    rw [getD_set hlen, getD_set hlen]
    have hxo : x ≠ o := fun e => by subst e; exact hBs x hB
    by_cases c1 : o = m
    · subst c1
      rw [if_pos rfl, if_neg hxo]
      exact (g3 x hx).2 ((hBA x o hx ho).mp hB)
    · rw [if_neg c1]
      by_cases c2 : x = m
      · subst c2; rw [if_pos rfl]; exact (g3 o ho).1 hB
      · rw [if_neg c2]; exact (h3 x o hx ho).1 hB
  refine ⟨barr_set h1 (by omega) g2, fun x hx => ?_, fun x o hx ho => ⟨key x o hx ho, fun hA => key o x ho hx ((hBA o x ho hx).mpr hA)⟩⟩
  rcases List.mem_or_eq_of_mem_set hx with w | rfl
  · exact h2 x w
  · exact g1
theorem qadd_mem {L : List QE} {e x : QE} (h : x ∈ qadd L e) : x ∈ L ∨ x = e := by
  unfold qadd at h
  split at h
  · exact Or.inl h
  · rcases List.mem_append.mp h with w | w
    · exact Or.inl w
    · exact Or.inr (List.mem_singleton.mp w)
theorem bq_sf {B A : Nat → Nat → Prop} {N k : Nat} {a0 : List Nat} (hN : N ≤ 6) (hBA : ∀ m o, m < k → o < k → (B m o ↔ A o m)) (hBs : ∀ m, ¬ B m m) (h0 : sfA B A N k a0) : ∀ n, ∀ e ∈ bq (cmv N k B A) k a0 n, sfA B A N k e.1 ∧ (e.2.2.2.2 = 0 → e.1 = a0)
  | 0 => fun e he => by
    have : e = (a0, -1, 0, 0, 0) := by simpa [bq] using he
    subst this
    exact ⟨h0, fun _ => rfl⟩
  | n + 1 => by
    have ih := bq_sf hN hBA hBs h0 n
    cases hh : (bq (cmv N k B A) k a0 n)[n]? with
    | none => rw [bq_n hh]; exact ih
    | some x =>
      rw [bq_s hh]
      have hx := ih x (List.mem_of_getElem? hh)
      refine qwm_keep (fun L => ∀ e ∈ L, sfA B A N k e.1 ∧ (e.2.2.2.2 = 0 → e.1 = a0)) k _ (fun L m p hm hp hmv hT e he => ?_) ih
      rcases qadd_mem he with w | w
      · exact hT e w
      · subst w
        exact ⟨sfA_set hN hBA hBs hx.1 hm hmv, fun w => by simp at w⟩
