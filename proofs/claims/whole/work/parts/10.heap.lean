/-! the instructions on cells -/
theorem zcl_ok : ∀ (ci : Nat) (q : vw_C), vwCl[ci]? = some q → (∀ w ∈ u_ws q.1 q.2.1 q.2.2, w ∈ WS) ∧ ∃ ty0 : Nat → FieldType, (∀ k, k < q.2.2 → parseFieldDescriptor (q.2.1 k).2.2.1 = some (ty0 k)) ∧ (∀ a, a < q.2.2 → ∀ b, b < q.2.2 → a ≠ b → (q.2.1 a).2.1 ≠ (q.2.1 b).2.1) ∧
    (∀ j, j < q.2.2 → defaultValue (ty0 j) = if zfr ci j = true then .null else .int 0) := by
  have g : ∀ {ws : List Jvm.Cond}, (∀ w ∈ ws, w ∈ lw_tbl) → ws.all goodWord = true → ∀ w ∈ ws, w ∈ WS := fun h1 h2 w hw => List.mem_filter.mpr ⟨h1 w hw, List.all_eq_true.mp h2 w hw⟩
  intro ci q hq
  match ci, hq with
  | 0, hq => cases hq; exact ⟨g inX0 (by decide +kernel), tyX0, tyX0_ok, nmX0, by decide +kernel⟩
  | 1, hq => cases hq; exact ⟨g inX1 (by decide +kernel), tyX1, tyX1_ok, nmX1, by decide +kernel⟩
  | 2, hq => cases hq; exact ⟨g inX2 (by decide +kernel), tyX2, tyX2_ok, nmX2, by decide +kernel⟩
  | 3, hq => cases hq; exact ⟨g inX3 (by decide +kernel), tyX3, tyX3_ok, nmX3, by decide +kernel⟩
  | 4, hq => cases hq; exact ⟨g inX4 (by decide +kernel), tyX4, tyX4_ok, nmX4, by decide +kernel⟩
  | 5, hq => cases hq; exact ⟨g inX5 (by decide +kernel), tyX5, tyX5_ok, nmX5, by decide +kernel⟩
  | 6, hq => cases hq; exact ⟨g inX6 (by decide +kernel), tyX6, tyX6_ok, nmX6, by decide +kernel⟩
  | n + 7, hq => simp [vwCl] at hq
theorem flk_use {o d a b : Nat} (h : flk.contains (o, d, a, b) = true) : ∃ (C : String) (T : u_T) (N : Nat), vwCl[a]? = some (C, T, N) ∧ Jvm.Cond.fieldLink (zwn o) d C (T b).2.1 (T b).2.2.1 ∈ WS ∧ b < N ∧ (T b).1 = C ∧
    ∃ ty : FieldType, parseFieldDescriptor (T b).2.2.1 = some ty ∧ ((zfr a b = false ∧ ty = .int) ∨ (zfr a b = true ∧ ((∃ t, ty = .array t) ∨ ∃ n, ty = .object n))) := by
  have hm : (o, d, a, b) ∈ flk := by simpa using h
  obtain ⟨i, hi⟩ := zip_in (b := flkP) (by decide +kernel) hm
  have hB := List.all_eq_true.mp flk_ok _ hi
  simp only [flkB] at hB
  split at hB
  · rename_i C T N hq
    simp only [Bool.and_eq_true, decide_eq_true_eq] at hB
    obtain ⟨⟨⟨h1, h2⟩, h3⟩, h4⟩ := hB
    refine ⟨C, T, N, hq, zAt_mem h1, h2, h3, ?_⟩
    split at h4
    · rename_i e; exact ⟨_, e, Or.inl ⟨by simpa using h4, rfl⟩⟩
    · rename_i t e; exact ⟨_, e, Or.inr ⟨h4, Or.inl ⟨t, rfl⟩⟩⟩
    · rename_i t e; exact ⟨_, e, Or.inr ⟨h4, Or.inr ⟨t, rfl⟩⟩⟩
    · cases h4
  · cases hB
theorem vwCl_lt {c : Nat} {q : vw_C} (h : vwCl[c]? = some q) : c < 7 := (List.getElem?_eq_some_iff.mp h).1
theorem ze_obj {cI cZ : ClassId} {ad : Nat → Nat} {h : PH} {k c n : Nat} (hc : c < 7) : ze cI cZ ad h k (c, n) = .inr (c, (List.range n).map (zf ad h k c)) := by
  simp only [ze]
  rw [if_neg (by omega), if_neg (by omega)]
theorem ze_int {cI cZ : ClassId} {ad : Nat → Nat} {h : PH} {k n : Nat} : ze cI cZ ad h k (7, n) = .inl (cI, n, .inl (fun j => Int32.ofInt (h.2.1 k j))) := by simp [ze]
theorem ze_bool {cI cZ : ClassId} {ad : Nat → Nat} {h : PH} {k n : Nat} : ze cI cZ ad h k (8, n) = .inl (cZ, n, .inl (fun j => Int32.ofInt (h.2.1 k j))) := by simp [ze]
theorem ze_congr {cI cZ : ClassId} {ad ad' : Nat → Nat} {h h' : PH} {k : Nat} {s : Nat × Nat} (h1 : ∀ i, h'.2.1 k i = h.2.1 k i) (h2 : ∀ i, (h'.2.2.1 k i).map ad' = (h.2.2.1 k i).map ad) : ze cI cZ ad' h' k s = ze cI cZ ad h k s := by
  have e : zf ad' h' k s.1 = zf ad h k s.1 := by funext j; simp only [zf, h1, h2]
  simp only [ze, e, h1]
theorem zn_of {h : PH} {r c n a : Nat} {C : String} {T : u_T} {N : Nat} (W : zwf h) (hr : h.1[r]? = some (c, n)) (hc : c = a) (hv : vwCl[a]? = some (C, T, N)) : n = N := by
  subst hc
  rcases W.2.2.1 r (c, n) hr with ⟨h1, -⟩ | ⟨q, h1, h2⟩
  · have := vwCl_lt hv
    exfalso
    rcases h1 with h1 | h1 <;> (simp only at h1; omega)
  · rw [hv] at h1
    cases h1
    exact h2.symm
theorem zwf_I {h : PH} {r k : Nat} {x : Int} (W : zwf h) (hx : zin x) : zwf (h.1, zs2 h.2.1 r k x, h.2.2) := by
  refine ⟨fun i j => ?_, W.2⟩
  simp only [zs2]
  split
  · dsimp only
    split
    · exact hx
    · exact W.1 _ _
  · exact W.1 _ _
theorem zwf_P {h : PH} {r k : Nat} {x : Option Nat} (W : zwf h) (hx : ∀ y, x = some y → y < h.1.length) : zwf (h.1, h.2.1, zs2 h.2.2.1 r k x, h.2.2.2) := by
  refine ⟨W.1, fun i j y hy => ?_, W.2.2⟩
  simp only [zs2] at hy
  split at hy
  · dsimp only at hy
    split at hy
    · exact hx y hy
    · exact W.2.1 _ _ _ hy
  · exact W.2.1 _ _ _ hy
section HEAP
variable {p : Program} {l : Launch} {e : Env} {R : Room} {s : State} {m : MethodId} {args : Array Value} {below : List Frame} {meth : Method} {c : Code} {Q : State → Prop}
variable {mi : Nat} {sc : Prop} {b : Nat} {D : va_G} {cI cZ : ClassId} {A : Nat → Prop} {k0 s0 : Nat} {ad0 : Nat → Nat}
variable {len a b2 d : Nat} {z : Int} {ts : List Nat} {pc : Nat} {pl st : List PV} {h : PH} {q : PT} {ll : List (Bool × PT)}
theorem so_gfi (C : zcx p R s m args meth c mi sc D cI cZ A) (hd : decode (zmC mi) pc = .ok (.getfield d, len)) (hk : len = 3) (hf : flk.contains (zmO mi, d, a, b2) = true) (hr : zfr a b2 = false) (hh : h_gfi len a b2 d z ts pc pl st h = .inl ll) (hc : zch ll q) (G : zG p l e R s m args below meth c Q mi sc b D cI cZ A k0 s0 ad0 q) : zG p l e R s m args below meth c Q mi sc b D cI cZ A k0 s0 ad0 (pc, pl, st, h) := by
  subst hk
  unfold h_gfi at hh
  split at hh
  · rename_i r st'
    split at hh
    · rename_i c' n hcell
      cases hg : (Nat.beq c' a && Nat.blt b2 n) with
      | false => rw [hg] at hh; cases hh; exact (zch_0 hc).elim
      | true =>
        rw [hg] at hh
        cases hh
        obtain ⟨-, rfl⟩ := zch_1 hc
        simp only [Bool.and_eq_true] at hg
        have e1 : c' = a := Nat.eq_of_beq_eq_true hg.1
        subst e1
        obtain ⟨Cn, T, N, hv, hw, hb, hT, -⟩ := flk_use hf
        intro ad H locs ls cells slots Z
        have en : n = N := zn_of Z.1 hcell rfl hv
        subst en
        obtain ⟨h1, h2⟩ := zok1 (zst_ok Z)
        have K := G ad H locs ls cells slots (zst_st Z (zok2 (v := .inl (h.2.1 r b2)) (Z.1.1 _ _) h2))
        have he := zw_at (cI := cI) (cZ := cZ) (ad := ad) hcell
        rw [ze_obj (vwCl_lt hv)] at he
        refine va_get C.1 C.2.1 (Ts := WS) C.2.2.2.2.1 (zcl_ok c' _ hv).1 C.2.2.2.1 C.2.2.2.2.2.1 Z.2.1 r he hv b2 hb (C.2.2.2.2.1 _ hw) (by rw [hT]; exact fun _ h => h) (v := .int (Int32.ofInt (h.2.1 r b2))) ?_ hd K
        simp [hb, zf, hr]
    · cases hh
      exact (zch_0 hc).elim
  · cases hh
    exact (zch_0 hc).elim
theorem so_gfr (C : zcx p R s m args meth c mi sc D cI cZ A) (hd : decode (zmC mi) pc = .ok (.getfield d, len)) (hk : len = 3) (hf : flk.contains (zmO mi, d, a, b2) = true) (hr : zfr a b2 = true) (hh : h_gfr len a b2 d z ts pc pl st h = .inl ll) (hc : zch ll q) (G : zG p l e R s m args below meth c Q mi sc b D cI cZ A k0 s0 ad0 q) : zG p l e R s m args below meth c Q mi sc b D cI cZ A k0 s0 ad0 (pc, pl, st, h) := by
  subst hk
  unfold h_gfr at hh
  split at hh
  · rename_i r st'
    split at hh
    · rename_i c' n hcell
      cases hg : (Nat.beq c' a && Nat.blt b2 n) with
      | false => rw [hg] at hh; cases hh; exact (zch_0 hc).elim
      | true =>
        rw [hg] at hh
        cases hh
        obtain ⟨-, rfl⟩ := zch_1 hc
        simp only [Bool.and_eq_true] at hg
        have e1 : c' = a := Nat.eq_of_beq_eq_true hg.1
        subst e1
        obtain ⟨Cn, T, N, hv, hw, hb, hT, -⟩ := flk_use hf
        intro ad H locs ls cells slots Z
        have en : n = N := zn_of Z.1 hcell rfl hv
        subst en
        obtain ⟨h1, h2⟩ := zok1 (zst_ok Z)
        have hok : zok sc h.1.length (.inr (.inl (h.2.2.1 r b2))) := by
          cases hP : h.2.2.1 r b2 with
          | none => trivial
          | some y => exact Z.1.2.1 _ _ _ hP
        have K := G ad H locs ls cells slots (zst_st Z (zok2 hok h2))
        have he := zw_at (cI := cI) (cZ := cZ) (ad := ad) hcell
        rw [ze_obj (vwCl_lt hv)] at he
        refine va_get C.1 C.2.1 (Ts := WS) C.2.2.2.2.1 (zcl_ok c' _ hv).1 C.2.2.2.1 C.2.2.2.2.2.1 Z.2.1 r he hv b2 hb (C.2.2.2.2.1 _ hw) (by rw [hT]; exact fun _ h => h) (v := va_rf ((h.2.2.1 r b2).map ad)) ?_ hd K
        simp [hb, zf, hr]
    · cases hh
      exact (zch_0 hc).elim
  · cases hh
    exact (zch_0 hc).elim
theorem so_pfi (C : zcx p R s m args meth c mi sc D cI cZ A) (hd : decode (zmC mi) pc = .ok (.putfield d, len)) (hk : len = 3) (hf : flk.contains (zmO mi, d, a, b2) = true) (hr : zfr a b2 = false) (hfin : ∀ q, vwCl[a]? = some q → (q.2.1 b2).2.2.2 = false) (hh : h_pfi len a b2 d z ts pc pl st h = .inl ll) (hc : zch ll q) (G : zG p l e R s m args below meth c Q mi sc b D cI cZ A k0 s0 ad0 q) : zG p l e R s m args below meth c Q mi sc b D cI cZ A k0 s0 ad0 (pc, pl, st, h) := by
  subst hk
  unfold h_pfi at hh
  split at hh
  · rename_i x r st'
    split at hh
    · rename_i c' n hcell
      cases hg : (Nat.beq c' a && Nat.blt b2 n) with
      | false => rw [hg] at hh; cases hh; exact (zch_0 hc).elim
      | true =>
        rw [hg] at hh
        cases hh
        obtain ⟨-, rfl⟩ := zch_1 hc
        simp only [Bool.and_eq_true] at hg
        have e1 : c' = a := Nat.eq_of_beq_eq_true hg.1
        subst e1
        obtain ⟨Cn, T, N, hv, hw, hb, hT, ty, hty, hty2⟩ := flk_use hf
        have hty3 : ty = .int := by
          rcases hty2 with ⟨-, h⟩ | ⟨h, -⟩
          · exact h
          · rw [hr] at h; cases h
        subst hty3
        intro ad H locs ls cells slots Z
        have en : n = N := zn_of Z.1 hcell rfl hv
        subst en
        obtain ⟨h0, h1⟩ := zok1 (zst_ok Z)
        obtain ⟨h1, h2⟩ := zok1 h1
        have he := zw_at (cI := cI) (cZ := cZ) (ad := ad) hcell
        rw [ze_obj (vwCl_lt hv)] at he
        obtain ⟨hin, ty0, hty0, hnm, -⟩ := zcl_ok c' _ hv
        refine va_put C.1 C.2.1 (Ts := WS) C.2.2.2.2.1 hin ty0 hty0 hnm C.2.2.2.1 C.2.2.2.2.2.1 Z.2.1 Z.2.2.1 Z.2.2.2.1 r he hv b2 hb (C.2.2.2.2.1 _ hw) (by rw [hT]; exact fun _ h => h) (hfin _ hv) hty (v := .int (Int32.ofInt x)) rfl rfl (by simpa using hb) hd (fun H1 locs1 hP hD hS => ?_)
        have es : (zw cI cZ ad h).set r (ad r, .inr (c', ((List.range n).map (zf ad h r c')).set b2 (.int (Int32.ofInt x)))) = zw cI cZ ad (h.1, zs2 h.2.1 r b2 x, h.2.2) := by
          refine zw_set hcell rfl ?_ (fun j s' hj => ze_congr (fun i => by simp only [zs2_ne _ _ _ _ hj]) (fun i => rfl))
          rw [ze_obj (vwCl_lt hv), zrg_set]
          congr 2
          apply List.map_congr_left
          intro j _
          by_cases hj : j = b2
          · subst hj
            simp [zf, hr, zs2_at]
          · simp [zf, hj, zs2_ne2 _ _ _ _ hj]
        rw [es] at hP hD
        exact G ad H1 locs1 ls cells slots ⟨zwf_I Z.1 h0, hP, hD, hS, Z.2.2.2.2.1, h2, Z.2.2.2.2.2.2⟩
    · cases hh
      exact (zch_0 hc).elim
  · cases hh
    exact (zch_0 hc).elim
theorem so_pfr (C : zcx p R s m args meth c mi sc D cI cZ A) (hd : decode (zmC mi) pc = .ok (.putfield d, len)) (hk : len = 3) (hf : flk.contains (zmO mi, d, a, b2) = true) (hr : zfr a b2 = true) (hfin : ∀ q, vwCl[a]? = some q → (q.2.1 b2).2.2.2 = true ∧ (q.2.1 b2).1 = zwn (zmO mi)) (hin1 : zmK mi = 1) (hh : h_pfr len a b2 d z ts pc pl st h = .inl ll) (hc : zch ll q) (G : zG p l e R s m args below meth c Q mi sc b D cI cZ A k0 s0 ad0 q) : zG p l e R s m args below meth c Q mi sc b D cI cZ A k0 s0 ad0 (pc, pl, st, h) := by
  subst hk
  unfold h_pfr at hh
  split at hh
  · rename_i x r st'
    split at hh
    · rename_i c' n hcell
      cases hg : (Nat.beq c' a && Nat.blt b2 n) with
      | false => rw [hg] at hh; cases hh; exact (zch_0 hc).elim
      | true =>
        rw [hg] at hh
        cases hh
        obtain ⟨-, rfl⟩ := zch_1 hc
        simp only [Bool.and_eq_true] at hg
        have e1 : c' = a := Nat.eq_of_beq_eq_true hg.1
        subst e1
        obtain ⟨Cn, T, N, hv, hw, hb, hT, ty, hty, hty2⟩ := flk_use hf
        have hty3 : (∃ t, ty = .array t) ∨ ∃ n, ty = .object n := by
          rcases hty2 with ⟨h, -⟩ | ⟨-, h⟩
          · rw [hr] at h; cases h
          · exact h
        intro ad H locs ls cells slots Z
        have en : n = N := zn_of Z.1 hcell rfl hv
        subst en
        obtain ⟨h0, h1⟩ := zok1 (zst_ok Z)
        obtain ⟨h1, h2⟩ := zok1 h1
        have he := zw_at (cI := cI) (cZ := cZ) (ad := ad) hcell
        rw [ze_obj (vwCl_lt hv)] at he
        obtain ⟨hin, ty0, hty0, hnm, -⟩ := zcl_ok c' _ hv
        have hnr : narrow ty (va_rf (x.map ad)) = va_rf (x.map ad) ∧ fits ty (va_rf (x.map ad)) = true := by
          rcases hty3 with ⟨t, rfl⟩ | ⟨t, rfl⟩ <;> cases x <;> exact ⟨rfl, rfl⟩
        refine va_putF C.1 C.2.1 (Ts := WS) C.2.2.2.2.1 hin ty0 hty0 hnm C.2.2.2.1 C.2.2.2.2.2.1 Z.2.1 Z.2.2.1 Z.2.2.2.1 r he hv b2 hb (C.2.2.2.2.1 _ hw) (by rw [hT]; exact fun _ h => h) (hfin _ hv).1 (C.2.2.2.2.2.2.2.1 hin1) (hfin _ hv).2 hty (v := va_rf (x.map ad)) hnr.1 hnr.2 (by simpa using hb) hd (fun H1 locs1 hP hD hS => ?_)
        have es : (zw cI cZ ad h).set r (ad r, .inr (c', ((List.range n).map (zf ad h r c')).set b2 (va_rf (x.map ad)))) = zw cI cZ ad (h.1, h.2.1, zs2 h.2.2.1 r b2 x, h.2.2.2) := by
          refine zw_set hcell rfl ?_ (fun j s' hj => ze_congr (fun i => rfl) (fun i => by simp only [zs2_ne _ _ _ _ hj]))
          rw [ze_obj (vwCl_lt hv), zrg_set]
          congr 2
          apply List.map_congr_left
          intro j _
          by_cases hj : j = b2
          · subst hj
            simp [zf, hr, zs2_at]
          · simp [zf, hj, zs2_ne2 _ _ _ _ hj]
        rw [es] at hP hD
        exact G ad H1 locs1 ls cells slots ⟨zwf_P Z.1 (fun y hy => by subst hy; exact h0), hP, hD, hS, Z.2.2.2.2.1, h2, Z.2.2.2.2.2.2⟩
    · cases hh
      exact (zch_0 hc).elim
  · cases hh
    exact (zch_0 hc).elim
-- arrays
theorem so_iald (C : zcx p R s m args meth c mi sc D cI cZ A) (hd : decode (zmC mi) pc = .ok (.iaload, len)) (hk : len = 1) (hh : h_ald 7 len a b2 d z ts pc pl st h = .inl ll) (hc : zch ll q) (G : zG p l e R s m args below meth c Q mi sc b D cI cZ A k0 s0 ad0 q) : zG p l e R s m args below meth c Q mi sc b D cI cZ A k0 s0 ad0 (pc, pl, st, h) := by
  subst hk
  unfold h_ald at hh
  split at hh
  · rename_i i r st'
    split at hh
    · rename_i c' n hcell
      cases hg : Nat.beq c' 7 with
      | false => rw [hg] at hh; cases hh; exact (zch_0 hc).elim
      | true =>
        rw [hg] at hh
        cases hh
        obtain ⟨hb, rfl⟩ := zch_1 hc
        have e1 : c' = 7 := Nat.eq_of_beq_eq_true hg
        subst e1
        intro ad H locs ls cells slots Z
        obtain ⟨h0, h1⟩ := zok1 (zst_ok Z)
        obtain ⟨h1, h2⟩ := zok1 h1
        have K := G ad H locs ls cells slots (zst_st Z (zok2 (v := .inl (h.2.1 r i.toNat)) (Z.1.1 _ _) h2))
        have he := zw_at (cI := cI) (cZ := cZ) (ad := ad) hcell
        rw [ze_int] at he
        refine va_iald C.1 C.2.1 C.2.2.2.2.2.1 Z.2.1 r 0 he rfl (zvpin h0 hb) hd ?_
        simp only [zclamp h0]
        exact K
    · cases hh
      exact (zch_0 hc).elim
  · cases hh
    exact (zch_0 hc).elim
theorem so_zald (C : zcx p R s m args meth c mi sc D cI cZ A) (hd : decode (zmC mi) pc = .ok (.baload, len)) (hk : len = 1) (hh : h_ald 8 len a b2 d z ts pc pl st h = .inl ll) (hc : zch ll q) (G : zG p l e R s m args below meth c Q mi sc b D cI cZ A k0 s0 ad0 q) : zG p l e R s m args below meth c Q mi sc b D cI cZ A k0 s0 ad0 (pc, pl, st, h) := by
  subst hk
  unfold h_ald at hh
  split at hh
  · rename_i i r st'
    split at hh
    · rename_i c' n hcell
      cases hg : Nat.beq c' 8 with
      | false => rw [hg] at hh; cases hh; exact (zch_0 hc).elim
      | true =>
        rw [hg] at hh
        cases hh
        obtain ⟨hb, rfl⟩ := zch_1 hc
        have e1 : c' = 8 := Nat.eq_of_beq_eq_true hg
        subst e1
        intro ad H locs ls cells slots Z
        obtain ⟨h0, h1⟩ := zok1 (zst_ok Z)
        obtain ⟨h1, h2⟩ := zok1 h1
        have K := G ad H locs ls cells slots (zst_st Z (zok2 (v := .inl (h.2.1 r i.toNat)) (Z.1.1 _ _) h2))
        have he := zw_at (cI := cI) (cZ := cZ) (ad := ad) hcell
        rw [ze_bool] at he
        refine va_zald C.1 C.2.1 C.2.2.2.2.2.1 Z.2.1 r 1 he rfl (zvpin h0 hb) hd ?_
        simp only [zclamp h0]
        exact K
    · cases hh
      exact (zch_0 hc).elim
  · cases hh
    exact (zch_0 hc).elim
theorem zup_eq {f : Nat → Int} {k : Nat} {x : Int} : upd (fun j => Int32.ofInt (f j)) k (Int32.ofInt x) = fun j => Int32.ofInt (if j = k then x else f j) := by
  funext j
  simp only [upd]
  split <;> rfl
theorem so_iast (C : zcx p R s m args meth c mi sc D cI cZ A) (hd : decode (zmC mi) pc = .ok (.iastore, len)) (hk : len = 1) (hh : h_iast len a b2 d z ts pc pl st h = .inl ll) (hc : zch ll q) (G : zG p l e R s m args below meth c Q mi sc b D cI cZ A k0 s0 ad0 q) : zG p l e R s m args below meth c Q mi sc b D cI cZ A k0 s0 ad0 (pc, pl, st, h) := by
  subst hk
  unfold h_iast at hh
  split at hh
  · rename_i x i r st'
    split at hh
    · rename_i c' n hcell
      cases hg : Nat.beq c' 7 with
      | false => rw [hg] at hh; cases hh; exact (zch_0 hc).elim
      | true =>
        rw [hg] at hh
        cases hh
        obtain ⟨hb, rfl⟩ := zch_1 hc
        have e1 : c' = 7 := Nat.eq_of_beq_eq_true hg
        subst e1
        intro ad H locs ls cells slots Z
        obtain ⟨hx, h1⟩ := zok1 (zst_ok Z)
        obtain ⟨h0, h1⟩ := zok1 h1
        obtain ⟨h1, h2⟩ := zok1 h1
        have he := zw_at (cI := cI) (cZ := cZ) (ad := ad) hcell
        rw [ze_int] at he
        refine va_iast C.1 C.2.1 C.2.2.2.2.2.1 Z.2.1 Z.2.2.1 Z.2.2.2.1 r 0 he rfl (zvpin h0 hb) hd (fun H1 locs1 hP hD hS => ?_)
        have es : (zw cI cZ ad h).set r (ad r, .inl (cI, n, .inl (upd (fun j => Int32.ofInt (h.2.1 r j)) (Int32.ofInt i).toNatClampNeg (Int32.ofInt x)))) = zw cI cZ ad (h.1, zs2 h.2.1 r i.toNat x, h.2.2) := by
          refine zw_set hcell rfl ?_ (fun j s' hj => ze_congr (fun i => by simp only [zs2_ne _ _ _ _ hj]) (fun i => rfl))
          rw [ze_int, zclamp h0, zup_eq]
          simp only [zs2_same]
        rw [es] at hP hD
        exact G ad H1 locs1 ls cells slots ⟨zwf_I Z.1 hx, hP, hD, hS, Z.2.2.2.2.1, h2, Z.2.2.2.2.2.2⟩
    · cases hh
      exact (zch_0 hc).elim
  · cases hh
    exact (zch_0 hc).elim
theorem zbb_nar {x : Int} (h : zbb x = true) : vp_nar .boolean (Int32.ofInt x) = Int32.ofInt x ∧ narrow .boolean (.int (Int32.ofInt x)) = .int (Int32.ofInt x) ∧ zin x := by
  have : x = 0 ∨ x = 1 := by simpa [zbb] using h
  rcases this with rfl | rfl
  · exact ⟨by decide +kernel, by decide +kernel, zin_0⟩
  · exact ⟨by decide +kernel, by decide +kernel, ⟨by omega, by omega⟩⟩
theorem so_zast (C : zcx p R s m args meth c mi sc D cI cZ A) (hd : decode (zmC mi) pc = .ok (.bastore, len)) (hk : len = 1) (hh : h_zast len a b2 d z ts pc pl st h = .inl ll) (hc : zch ll q) (G : zG p l e R s m args below meth c Q mi sc b D cI cZ A k0 s0 ad0 q) : zG p l e R s m args below meth c Q mi sc b D cI cZ A k0 s0 ad0 (pc, pl, st, h) := by
  subst hk
  unfold h_zast at hh
  split at hh
  · rename_i x i r st'
    split at hh
    · rename_i c' n hcell
      cases hg : Nat.beq c' 8 with
      | false => rw [hg] at hh; cases hh; exact (zch_0 hc).elim
      | true =>
        rw [hg] at hh
        cases hh
        obtain ⟨hb, rfl⟩ := zch_1 hc
        simp only [Bool.and_eq_true] at hb
        obtain ⟨hb, hbx⟩ := hb
        have e1 : c' = 8 := Nat.eq_of_beq_eq_true hg
        subst e1
        intro ad H locs ls cells slots Z
        obtain ⟨hx, h1⟩ := zok1 (zst_ok Z)
        obtain ⟨h0, h1⟩ := zok1 h1
        obtain ⟨h1, h2⟩ := zok1 h1
        have he := zw_at (cI := cI) (cZ := cZ) (ad := ad) hcell
        rw [ze_bool] at he
        refine va_zast C.1 C.2.1 C.2.2.2.2.2.1 Z.2.1 Z.2.2.1 Z.2.2.2.1 r 1 he rfl (zvpin h0 hb) hd (fun H1 locs1 hP hD hS => ?_)
        have es : (zw cI cZ ad h).set r (ad r, .inl (cZ, n, .inl (upd (fun j => Int32.ofInt (h.2.1 r j)) (Int32.ofInt i).toNatClampNeg (vp_nar .boolean (Int32.ofInt x))))) = zw cI cZ ad (h.1, zs2 h.2.1 r i.toNat x, h.2.2) := by
          refine zw_set hcell rfl ?_ (fun j s' hj => ze_congr (fun i => by simp only [zs2_ne _ _ _ _ hj]) (fun i => rfl))
          rw [ze_bool, zclamp h0, (zbb_nar hbx).1, zup_eq]
          simp only [zs2_same]
        rw [es] at hP hD
        exact G ad H1 locs1 ls cells slots ⟨zwf_I Z.1 hx, hP, hD, hS, Z.2.2.2.2.1, h2, Z.2.2.2.2.2.2⟩
    · cases hh
      exact (zch_0 hc).elim
  · cases hh
    exact (zch_0 hc).elim
theorem so_aln (C : zcx p R s m args meth c mi sc D cI cZ A) (hd : decode (zmC mi) pc = .ok (.arraylength, len)) (hk : len = 1) (hh : h_aln len a b2 d z ts pc pl st h = .inl ll) (hc : zch ll q) (G : zG p l e R s m args below meth c Q mi sc b D cI cZ A k0 s0 ad0 q) : zG p l e R s m args below meth c Q mi sc b D cI cZ A k0 s0 ad0 (pc, pl, st, h) := by
  subst hk
  unfold h_aln at hh
  split at hh
  · rename_i r st'
    split at hh
    · rename_i c' n hcell
      cases hg : (Nat.beq c' 7 || Nat.beq c' 8) with
      | false => rw [hg] at hh; cases hh; exact (zch_0 hc).elim
      | true =>
        rw [hg] at hh
        cases hh
        obtain ⟨-, rfl⟩ := zch_1 hc
        have e1 : c' = 7 ∨ c' = 8 := by
          rcases Bool.or_eq_true_iff.mp hg with q | q
          · exact Or.inl (Nat.eq_of_beq_eq_true q)
          · exact Or.inr (Nat.eq_of_beq_eq_true q)
        intro ad H locs ls cells slots Z
        obtain ⟨h1, h2⟩ := zok1 (zst_ok Z)
        have hn : n < 1000000 := by
          rcases Z.1.2.2.1 r _ hcell with ⟨-, q⟩ | ⟨q, q1, q2⟩
          · exact q
          · exfalso
            have : c' < 7 := vwCl_lt q1
            omega
        have K := G ad H locs ls cells slots (zst_st Z (zok2 (v := .inl (n : Int)) ⟨by omega, by omega⟩ h2))
        have he := zw_at (cI := cI) (cZ := cZ) (ad := ad) hcell
        simp only [List.map_cons, zv, Int32.ofInt_eq_ofNat] at K
        rcases e1 with rfl | rfl
        · rw [ze_int] at he
          exact va_alen C.1 C.2.1 C.2.2.2.2.2.1 Z.2.1 r 0 he (ty := .int) rfl rfl hd K
        · rw [ze_bool] at he
          exact va_alen C.1 C.2.1 C.2.2.2.2.2.1 Z.2.1 r 1 he (ty := .boolean) rfl rfl hd K
    · cases hh
      exact (zch_0 hc).elim
  · cases hh
    exact (zch_0 hc).elim
end HEAP
