/-! making, returning, calling -/
theorem zw_push {cI cZ : ClassId} {ad ad' : Nat → Nat} {h h' : PH} {sh : Nat × Nat} {q : Nat} (W : zwf h) (h1 : h'.1 = h.1 ++ [sh]) (had : ∀ k, k < h.1.length → ad' k = ad k) (hq : ad' h.1.length = q)
    (hI : ∀ k, k < h.1.length → ∀ i, h'.2.1 k i = h.2.1 k i) (hP : ∀ k, k < h.1.length → ∀ i, h'.2.2.1 k i = h.2.2.1 k i) : zw cI cZ ad' h' = zw cI cZ ad h ++ [(q, ze cI cZ ad' h' h.1.length sh)] := by
  have hl : (zw cI cZ ad h).length = h.1.length := by simp [zw]
  apply List.ext_getElem?
  intro i
  rw [zw_get, h1]
  by_cases hi : i < h.1.length
  · rw [List.getElem?_append_left hi, List.getElem?_append_left (by omega), zw_get]
    cases hs : h.1[i]? with
    | none => rfl
    | some s =>
      simp only [Option.map_some]
      rw [had i hi, ze_congr (hI i hi) (fun j => ?_)]
      rw [hP i hi j]
      cases hr : h.2.2.1 i j with
      | none => rfl
      | some r => simp only [Option.map_some]; rw [had r (W.2.1 _ _ _ hr)]
  · by_cases hi2 : i = h.1.length
    · subst hi2
      rw [List.getElem?_append_right (Nat.le_refl _), List.getElem?_append_right (by omega), hl]
      simp [hq]
    · rw [List.getElem?_append_right (by omega), List.getElem?_append_right (by omega), hl]
      have : 1 ≤ i - h.1.length := by omega
      rw [List.getElem?_eq_none (by simpa using this), List.getElem?_eq_none (by simpa using this)]
      rfl
theorem zmap_ad {sc : Prop} {n b : Nat} {ad ad' : Nat → Nat} {st : List PV} (h : ∀ v ∈ st, zok sc n v) (hd : ∀ k, k < n → ad' k = ad k) : st.map (zv b ad') = st.map (zv b ad) :=
  List.map_congr_left fun v hv => zv_ad (h v hv) hd
theorem zok_plain {sc : Prop} {n : Nat} {v : PV} (h : zok sc n v) (hp : zpl v = true) : zok False n v := by
  match v, h, hp with
  | .inl z, h, _ => exact h
  | .inr (.inl none), _, _ => trivial
  | .inr (.inl (some k)), h, _ => exact h
theorem zok_sc {sc : Prop} {n : Nat} {v : PV} (h : zok False n v) : zok sc n v := by
  match v, h with
  | .inl z, h => exact h
  | .inr (.inl none), _ => trivial
  | .inr (.inl (some k)), h => exact h
section MAKE
variable {p : Program} {l : Launch} {e : Env} {R : Room} {s : State} {m : MethodId} {args : Array Value} {below : List Frame} {meth : Method} {c : Code} {Q : State → Prop}
variable {mi : Nat} {sc : Prop} {b : Nat} {D : va_G} {cI cZ : ClassId} {A : Nat → Prop} {k0 s0 : Nat} {ad0 : Nat → Nat}
variable {len a b2 d : Nat} {z : Int} {ts : List Nat} {pc : Nat} {pl st : List PV} {h : PH} {q : PT} {ll : List (Bool × PT)}
theorem so_oin (C : zcx p R s m args meth c mi sc D cI cZ A) (hd : decode (zmC mi) pc = .ok (.invokespecial d, len)) (hk : len = 3) (ho : olk.contains (zmO mi, d) = true) (hf : 1 ≤ zmF mi) (hl : 20 ≤ zmL mi) (hh : h_oin len a b2 d z ts pc pl st h = .inl ll) (hc : zch ll q) (G : zG p l e R s m args below meth c Q mi sc b D cI cZ A k0 s0 ad0 q) : zG p l e R s m args below meth c Q mi sc b D cI cZ A k0 s0 ad0 (pc, pl, st, h) := by
  subst hk
  unfold h_oin at hh
  split at hh
  · rename_i r st'
    cases hg : Nat.blt st'.length 9 with
    | false => rw [hg] at hh; cases hh; exact (zch_0 hc).elim
    | true =>
      rw [hg] at hh
      cases hh
      obtain ⟨-, rfl⟩ := zch_1 hc
      have hg : st'.length < 9 := Nat.ble_eq.mp hg
      intro ad H locs ls cells slots Z
      have K := G ad H locs ls cells slots (zst_st Z (zok1 (zst_ok Z)).2)
      have hrm := lv_room (m := m) (pc := pc) (ls := ls) (rest := Value.ref (ad r) :: st'.map (zv b ad)) (st := st'.map (zv b ad)) (by rw [zcats]; omega)
      exact W.objInit C.1 C.2.1 C.2.2.2.1 (C.2.2.2.2.1 _ (olk_use ho)) (C.2.2.2.2.1 _ (zAt_mem zwOI)) (C.2.2.2.2.1 _ (zAt_mem zwOC)) (g := F0 m pc ls (Value.ref (ad r) :: st'.map (zv b ad))) rfl ((zst_ls Z).1.trans C.2.2.1.symm) rfl hd
        (Nat.le_trans hf C.2.2.2.2.2.2.2.2.2.1) (by have := C.2.2.2.2.2.2.2.2.2.2.1; omega) K
  · cases hh
    exact (zch_0 hc).elim
theorem so_nar (C : zcx p R s m args meth c mi sc D cI cZ A) (hd : decode (zmC mi) pc = .ok (.newarray (if a = 7 then .int else .boolean), len)) (hk : len = 2) (ha : a = 7 ∨ a = 8) (hh : h_nar len a b2 d z ts pc pl st h = .inl ll) (hc : zch ll q) (hroom : q.2.2.2.1.length ≤ R.cells + k0 ∧ zsz q.2.2.2.1 ≤ R.slots + s0) (G : zG p l e R s m args below meth c Q mi sc b D cI cZ A k0 s0 ad0 q) : zG p l e R s m args below meth c Q mi sc b D cI cZ A k0 s0 ad0 (pc, pl, st, h) := by
  subst hk
  unfold h_nar at hh
  split at hh
  · rename_i n st'
    cases hh
    obtain ⟨hb, rfl⟩ := zch_1 hc
    simp only [Bool.and_eq_true, decide_eq_true_eq] at hb
    simp only [List.length_append, List.length_singleton, zsz_app] at hroom
    intro ad H locs ls cells slots Z
    obtain ⟨h0, h2⟩ := zok1 (zst_ok Z)
    have h0 : zin n := h0
    have e0 : (Int32.ofInt n).toNatClampNeg = n.toNat := zclamp h0
    have ec := Z.2.2.2.2.2.2.1
    have eS := Z.2.2.2.2.2.2.2.1
    simp only at ec eS
    have es : zsz [(a, n.toNat)] = n.toNat := by simp [zsz]
    have hneg : ¬ Int32.ofInt n < 0 := fun q => by have := (zilt h0 zin_0).mp q; omega
    have main : ∀ (ty : FieldType) (cA : ClassId) (q : Nat) (H1 : Heap), (∀ h' ad', h'.1 = h.1 ++ [(a, n.toNat)] → (∀ i, h'.2.1 h.1.length i = 0) → ze cI cZ ad' h' h.1.length (a, n.toNat) = .inl (cA, n.toNat, .inl (fun _ => 0))) →
        va_P D vwCl (zw cI cZ ad h ++ [(q, .inl (cA, n.toNat, .inl (fun _ => 0)))]) H1 → va_D A (zw cI cZ ad h ++ [(q, .inl (cA, n.toNat, .inl (fun _ => 0)))]) → va_S A s.heap H1 locs →
        W p l e R s m args below meth c H1 locs (cells + 1) (slots + n.toNat) Q (F0 m (pc + 2) ls (.ref q :: st'.map (zv b ad))) := by
      intro ty cA q H1 hze hP hD hS
      have had : ∀ k, k < h.1.length → (fun k => if k = h.1.length then q else ad k) k = ad k := fun k hk => by simp only; rw [if_neg (by omega)]
      have hI : ∀ k, k < h.1.length → ∀ i, (fun i => if i = h.1.length then (fun _ => (0 : Int)) else h.2.1 i) k i = h.2.1 k i := fun k hk i => by simp only; rw [if_neg (by omega)]
      have ew := zw_push (cI := cI) (cZ := cZ) (ad := ad) (ad' := fun k => if k = h.1.length then q else ad k) (h := h) (h' := (h.1 ++ [(a, n.toNat)], (fun i => if i = h.1.length then (fun _ => 0) else h.2.1 i), h.2.2)) (sh := (a, n.toNat)) (q := q) Z.1 rfl had (by simp) hI (fun k hk i => rfl)
      rw [hze _ _ rfl (fun i => by simp)] at ew
      rw [← ew] at hP hD
      have hwf : zwf (h.1 ++ [(a, n.toNat)], (fun i => if i = h.1.length then (fun _ => 0) else h.2.1 i), h.2.2) := by
        refine ⟨fun i j => ?_, fun i j r hr => ?_, fun k sh hk => ?_, Z.1.2.2.2⟩
        · show zin ((if i = h.1.length then (fun _ => 0) else h.2.1 i) j)
          split
          · exact zin_0
          · exact Z.1.1 _ _
        · have := Z.1.2.1 _ _ _ hr
          show r < (h.1 ++ [(a, n.toNat)]).length
          simp
          simp only at this
          omega
        · rcases List.mem_append.mp (List.mem_of_getElem? hk) with hm | hm
          · obtain ⟨k2, hk2⟩ := List.getElem?_of_mem hm
            exact Z.1.2.2.1 k2 sh hk2
          · have : sh = (a, n.toNat) := by simpa using hm
            subst this
            exact Or.inl ⟨ha, by simp only; omega⟩
      have K := G (fun k => if k = h.1.length then q else ad k) H1 locs ls (cells + 1) (slots + n.toNat) ⟨hwf, hP, hD, hS, zls_ad (zst_ls Z) (by simp) had, zok2 (v := .inr (.inl (some h.1.length))) (by show h.1.length < (h.1 ++ [(a, n.toNat)]).length; simp) (fun v hv => zok_mono (by simp) (h2 v hv)), by show cells + 1 + k0 = (h.1 ++ [(a, n.toNat)]).length; simp; omega, by show slots + n.toNat + s0 = zsz (h.1 ++ [(a, n.toNat)]); rw [zsz_app, es]; omega, fun k hk => by rw [had k (by omega)]; exact Z.2.2.2.2.2.2.2.2.1 k hk, Z.2.2.2.2.2.2.2.2.2⟩
      simp only [List.map_cons, zv, Option.map_some, if_true, va_rf] at K
      rw [zmap_ad h2 had] at K
      exact K
    have hA := C.2.2.2.2.2.2.1
    rcases ha with rfl | rfl
    · refine va_newa (atype := .int) (ty := .int) (N' := n.toNat) (a0 := (n.toNat, .inl (fun _ => 0))) C.1 C.2.1 (C.2.2.2.2.1 _ (zAt_mem zwAI)) rfl C.2.2.2.2.2.1 Z.2.1 Z.2.2.1 Z.2.2.2.1 hA (fun cA => rfl) hneg e0 (by show n.toNat * 4 ≤ _; omega) (by omega) (by omega) hd (fun q cA H1 hK hP hD hS => ?_)
      have e1 : cA = cI := by
        have g1 : s.vm.findClass ("[" ++ FieldType.int.toString) = some cA := (hK.2 2 _ rfl).2
        have g2 : s.vm.findClass ("[" ++ FieldType.int.toString) = some cI := (hK.2 0 _ rfl).2
        exact Option.some.inj (g1.symm.trans g2)
      subst e1
      exact main .int cA q H1 (fun h' ad' _ hz => by rw [ze_int]; simp only [hz]; rfl) hP hD hS
    · refine va_newa (atype := .boolean) (ty := .boolean) (N' := n.toNat) (a0 := (n.toNat, .inl (fun _ => 0))) C.1 C.2.1 (C.2.2.2.2.1 _ (zAt_mem zwAZ)) rfl C.2.2.2.2.2.1 Z.2.1 Z.2.2.1 Z.2.2.2.1 hA (fun cA => rfl) hneg e0 (by show n.toNat * 1 ≤ _; omega) (by omega) (by omega) hd (fun q cA H1 hK hP hD hS => ?_)
      have e1 : cA = cZ := by
        have g1 : s.vm.findClass ("[" ++ FieldType.boolean.toString) = some cA := (hK.2 2 _ rfl).2
        have g2 : s.vm.findClass ("[" ++ FieldType.boolean.toString) = some cZ := (hK.2 1 _ rfl).2
        exact Option.some.inj (g1.symm.trans g2)
      subst e1
      exact main .boolean cA q H1 (fun h' ad' _ hz => by rw [ze_bool]; simp only [hz]; rfl) hP hD hS
  · cases hh
    exact (zch_0 hc).elim
theorem so_new (C : zcx p R s m args meth c mi sc D cI cZ A) (hd : decode (zmC mi) pc = .ok (.new d, len)) (hk : len = 3) (hcl : clk.contains (zmO mi, d, a) = true) (hb2 : ∀ q, vwCl[a]? = some q → q.2.2 = b2) (hh : h_new len a b2 d z ts pc pl st h = .inl ll) (hc : zch ll q) (hroom : q.2.2.2.1.length ≤ R.cells + k0 ∧ zsz q.2.2.2.1 ≤ R.slots + s0) (G : zG p l e R s m args below meth c Q mi sc b D cI cZ A k0 s0 ad0 q) : zG p l e R s m args below meth c Q mi sc b D cI cZ A k0 s0 ad0 (pc, pl, st, h) := by
  subst hk
  cases hh
  obtain ⟨-, rfl⟩ := zch_1 hc
  obtain ⟨Cn, T, N, hv, hw1, hw2, hw3⟩ := clk_use hcl
  have eN : N = b2 := hb2 _ hv
  subst eN
  simp only [List.length_append, List.length_singleton, zsz_app] at hroom
  intro ad H locs ls cells slots Z
  have h2 := zst_ok Z
  have ec := Z.2.2.2.2.2.2.1
  have eS := Z.2.2.2.2.2.2.2.1
  simp only at ec eS
  have es : zsz [(a, N)] = N := by simp [zsz]
  obtain ⟨hin, ty0, hty0, -, hdef⟩ := zcl_ok a _ hv
  have hA := C.2.2.2.2.2.2.1
  refine va_new (ci := a) (fs := (List.range N).map (fun j => if zfr a j = true then Value.null else .int 0)) C.1 C.2.1 (Ts := WS) C.2.2.2.2.1 hin ty0 hty0 C.2.2.2.1 (C.2.2.2.2.1 _ hw1) (C.2.2.2.2.1 _ hw2) (C.2.2.2.2.1 _ hw3) C.2.2.2.2.2.1 Z.2.1 Z.2.2.1 Z.2.2.2.1 hA hv (fun j hj => by rw [hdef j hj]; simp [vp_V, hj]) (by omega) (by show slots + N ≤ R.slots; omega) hd (fun q H1 hP hD hS => ?_)
  have had : ∀ k, k < h.1.length → (fun k => if k = h.1.length then q else ad k) k = ad k := fun k hk => by simp only; rw [if_neg (by omega)]
  have ew := zw_push (cI := cI) (cZ := cZ) (ad := ad) (ad' := fun k => if k = h.1.length then q else ad k) (h := h) (h' := (h.1 ++ [(a, N)], (fun i => if i = h.1.length then (fun _ => 0) else h.2.1 i), (fun i => if i = h.1.length then (fun _ => none) else h.2.2.1 i), h.2.2.2)) (sh := (a, N)) (q := q) Z.1 rfl had (by simp) (fun k hk i => by simp only; rw [if_neg (by omega)]) (fun k hk i => by simp only; rw [if_neg (by omega)])
  have hze : ze cI cZ (fun k => if k = h.1.length then q else ad k) (h.1 ++ [(a, N)], (fun i => if i = h.1.length then (fun _ => 0) else h.2.1 i), (fun i => if i = h.1.length then (fun _ => none) else h.2.2.1 i), h.2.2.2) h.1.length (a, N) = .inr (a, (List.range N).map (fun j => if zfr a j = true then Value.null else .int 0)) := by
    rw [ze_obj (vwCl_lt hv)]
    congr 2
    apply List.map_congr_left
    intro j _
    simp only [zf, if_true]
    rfl
  rw [hze] at ew
  rw [← ew] at hP hD
  have hwf : zwf (h.1 ++ [(a, N)], (fun i => if i = h.1.length then (fun _ => 0) else h.2.1 i), (fun i => if i = h.1.length then (fun _ => none) else h.2.2.1 i), h.2.2.2) := by
    refine ⟨fun i j => ?_, fun i j r hr => ?_, fun k sh hk => ?_, Z.1.2.2.2⟩
    · show zin ((if i = h.1.length then (fun _ => 0) else h.2.1 i) j)
      split
      · exact zin_0
      · exact Z.1.1 _ _
    · have hr : (if i = h.1.length then (fun _ => none) else h.2.2.1 i) j = some r := hr
      split at hr
      · cases hr
      · have := Z.1.2.1 _ _ _ hr
        show r < (h.1 ++ [(a, N)]).length
        simp
        simp only at this
        omega
    · rcases List.mem_append.mp (List.mem_of_getElem? hk) with hm | hm
      · obtain ⟨k2, hk2⟩ := List.getElem?_of_mem hm
        exact Z.1.2.2.1 k2 sh hk2
      · have : sh = (a, N) := by simpa using hm
        subst this
        exact Or.inr ⟨_, hv, rfl⟩
  have K := G (fun k => if k = h.1.length then q else ad k) H1 locs ls (cells + 1) (slots + N) ⟨hwf, hP, hD, hS, zls_ad (zst_ls Z) (by simp) had, zok2 (v := .inr (.inl (some h.1.length))) (by show h.1.length < (h.1 ++ [(a, N)]).length; simp) (fun v hv => zok_mono (by simp) (h2 v hv)), by show cells + 1 + k0 = (h.1 ++ [(a, N)]).length; simp; omega, by show slots + N + s0 = zsz (h.1 ++ [(a, N)]); rw [zsz_app, es]; omega, fun k hk => by rw [had k (by omega)]; exact Z.2.2.2.2.2.2.2.2.1 k hk, Z.2.2.2.2.2.2.2.2.2⟩
  simp only [List.map_cons, zv, Option.map_some, if_true, va_rf] at K
  rw [zmap_ad h2 had] at K
  exact K
theorem so_ast (C : zcx p R s m args meth c mi sc D cI cZ A) (hd : decode (zmC mi) pc = .ok (if len = 1 then .astore_n (Fin.ofNat 4 a) else .astore a, len)) (hk : (len = 1 ∧ a < 4) ∨ len = 2) (hh : h_ast len a b2 d z ts pc pl st h = .inl ll) (hc : zch ll q) (G : zG p l e R s m args below meth c Q mi sc b D cI cZ A k0 s0 ad0 q) : zG p l e R s m args below meth c Q mi sc b D cI cZ A k0 s0 ad0 (pc, pl, st, h) := by
  unfold h_ast at hh
  split at hh
  · rename_i r st'
    cases hl : Nat.blt a pl.length with
    | false => rw [hl] at hh; cases hh; exact (zch_0 hc).elim
    | true =>
      rw [hl] at hh
      cases hh
      obtain ⟨-, rfl⟩ := zch_1 hc
      intro ad H locs ls cells slots Z
      obtain ⟨hx1, hs⟩ := zok1 (zst_ok Z)
      have hn : a < zmN mi := by rw [← (zst_ls Z).2.2.1]; exact Nat.ble_eq.mp hl
      cases r with
      | none =>
        rcases hk with ⟨rfl, ha⟩ | rfl
        · exact lv_astore_nN (lv := zlv b ad pl) C.1 C.2.1 hd (by simp [Fin.ofNat, Nat.mod_eq_of_lt ha]) (zls_has (zst_ls Z)) hn rfl (fun ls' h' => G ad H locs ls' cells slots (zst_loc Z hx1 hs h'))
        · exact lv_astoreN (lv := zlv b ad pl) C.1 C.2.1 hd (zls_has (zst_ls Z)) hn rfl (fun ls' h' => G ad H locs ls' cells slots (zst_loc Z hx1 hs h'))
      | some k =>
        rcases hk with ⟨rfl, ha⟩ | rfl
        · exact lv_astore_n (lv := zlv b ad pl) C.1 C.2.1 hd (by simp [Fin.ofNat, Nat.mod_eq_of_lt ha]) (zls_has (zst_ls Z)) hn rfl (fun ls' h' => G ad H locs ls' cells slots (zst_loc Z hx1 hs h'))
        · exact lv_astore (lv := zlv b ad pl) C.1 C.2.1 hd (zls_has (zst_ls Z)) hn rfl (fun ls' h' => G ad H locs ls' cells slots (zst_loc Z hx1 hs h'))
  · cases hh
    exact (zch_0 hc).elim
end MAKE
