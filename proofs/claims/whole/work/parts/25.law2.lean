/-! the law from the place where both objects stand -/
theorem zPP_lt : ∀ (i j r : Nat), zPP i j = some r → r < 51 := by
  intro i j r h
  unfold zPP at h
  repeat' split at h
  all_goals first | (cases h; decide) | cases h
theorem cp_eq : ∀ r, r < 51 → ∀ j, j < 25 → cp_30 r j = zPP r j := by decide +kernel
theorem zSH_len : zSH.length = 51 := by decide +kernel
theorem zSH_25 : ∀ s ∈ zSH, s.1 < 7 → s.2 ≤ 25 := by decide +kernel
theorem zw_sw (cI cZ : ClassId) (ad : Nat → Nat) (I : Nat → Nat → Int) (S : PS) : zw cI cZ ad (zSH, I, cp_30, S) = zw cI cZ ad (zH S I) := by
  apply List.ext_getElem?
  intro k
  rw [zw_get, zw_get]
  show (zSH[k]?).map _ = (zSH[k]?).map _
  cases hk : zSH[k]? with
  | none => rfl
  | some s =>
    have hlt : k < 51 := by rw [← zSH_len]; exact (List.getElem?_eq_some_iff.mp hk).1
    simp only [Option.map_some, ze]
    by_cases h7 : s.1 = 7
    · simp only [h7, if_true]
    · by_cases h8 : s.1 = 8
      · simp only [h8, if_true]
      · rw [if_neg h7, if_neg h8, if_neg h7, if_neg h8]
        congr 4
        apply List.map_congr_left
        intro j hj
        have hs : s.1 < 7 := by
          have : ∀ s ∈ zSH, s.1 ≤ 8 := by decide +kernel
          have := this s (List.mem_of_getElem? hk)
          omega
        have hj25 : j < 25 := Nat.lt_of_lt_of_le (List.mem_range.mp hj) (zSH_25 s (List.mem_of_getElem? hk) hs)
        simp only [zf, cp_eq k hlt j hj25]
theorem zch_one {q : PT} : zch [(true, q)] q := ⟨[], [], rfl, fun e h => by cases h⟩
theorem zrm0 : ([(5, 9)] : List (Nat × Nat)).length ≤ 600000 + 0 ∧ zsz [(5, 9)] ≤ 7302250 + 0 := by decide +kernel
theorem zrm1 : ([(5, 9), (2, 5), (7, 17), (7, 17), (7, 17), (7, 17), (7, 17), (4, 3), (7, 6), (4, 3), (7, 6), (3, 11), (7, 6), (7, 6), (7, 6), (7, 6), (7, 720), (7, 720), (7, 243), (0, 7), (7, 20), (7, 20), (7, 20), (7, 20), (7, 20), (1, 3), (7, 16), (7, 16), (1, 3), (7, 16), (7, 16), (7, 32)] : List (Nat × Nat)).length ≤ 600000 + 0 ∧ zsz [(5, 9), (2, 5), (7, 17), (7, 17), (7, 17), (7, 17), (7, 17), (4, 3), (7, 6), (4, 3), (7, 6), (3, 11), (7, 6), (7, 6), (7, 6), (7, 6), (7, 720), (7, 720), (7, 243), (0, 7), (7, 20), (7, 20), (7, 20), (7, 20), (7, 20), (1, 3), (7, 16), (7, 16), (1, 3), (7, 16), (7, 16), (7, 32)] ≤ 7302250 + 0 := by decide +kernel
theorem zrm2 : ([(5, 9), (2, 5), (7, 17), (7, 17), (7, 17), (7, 17), (7, 17), (4, 3), (7, 6), (4, 3), (7, 6), (3, 11), (7, 6), (7, 6), (7, 6), (7, 6), (7, 720), (7, 720), (7, 243), (0, 7), (7, 20), (7, 20), (7, 20), (7, 20), (7, 20), (1, 3), (7, 16), (7, 16), (1, 3), (7, 16), (7, 16), (7, 32), (6, 25)] : List (Nat × Nat)).length ≤ 600000 + 0 ∧ zsz [(5, 9), (2, 5), (7, 17), (7, 17), (7, 17), (7, 17), (7, 17), (4, 3), (7, 6), (4, 3), (7, 6), (3, 11), (7, 6), (7, 6), (7, 6), (7, 6), (7, 720), (7, 720), (7, 243), (0, 7), (7, 20), (7, 20), (7, 20), (7, 20), (7, 20), (1, 3), (7, 16), (7, 16), (1, 3), (7, 16), (7, 16), (7, 32), (6, 25)] ≤ 7302250 + 0 := by decide +kernel
theorem zrm3 : ([(5, 9), (2, 5), (7, 17), (7, 17), (7, 17), (7, 17), (7, 17), (4, 3), (7, 6), (4, 3), (7, 6), (3, 11), (7, 6), (7, 6), (7, 6), (7, 6), (7, 720), (7, 720), (7, 243), (0, 7), (7, 20), (7, 20), (7, 20), (7, 20), (7, 20), (1, 3), (7, 16), (7, 16), (1, 3), (7, 16), (7, 16), (7, 32), (6, 25), (8, 16), (7, 16), (7, 17), (7, 17), (7, 17), (7, 16), (7, 12), (7, 320), (8, 117649), (7, 2000), (7, 2000), (7, 2000), (7, 2000), (7, 6), (7, 6), (7, 2000), (7, 2000), (7, 32)] : List (Nat × Nat)).length ≤ 600000 + 0 ∧ zsz [(5, 9), (2, 5), (7, 17), (7, 17), (7, 17), (7, 17), (7, 17), (4, 3), (7, 6), (4, 3), (7, 6), (3, 11), (7, 6), (7, 6), (7, 6), (7, 6), (7, 720), (7, 720), (7, 243), (0, 7), (7, 20), (7, 20), (7, 20), (7, 20), (7, 20), (1, 3), (7, 16), (7, 16), (1, 3), (7, 16), (7, 16), (7, 32), (6, 25), (8, 16), (7, 16), (7, 17), (7, 17), (7, 17), (7, 16), (7, 12), (7, 320), (8, 117649), (7, 2000), (7, 2000), (7, 2000), (7, 2000), (7, 6), (7, 6), (7, 2000), (7, 2000), (7, 32)] ≤ 7302250 + 0 := by decide +kernel
set_option maxRecDepth 100000 in
set_option maxHeartbeats 8000000 in
theorem whole_of2 {p : Program} {e : Env} {s : State} {m : MethodId} {below : List Frame} {meth : Method} {c : Code} (l : Launch) {b L : Nat} {xs : Nat → Int32} (hL : L ≤ 2560) (C0 : lw_At p s m meth c b L xs)
    {h' : PH} (hx : Run 172 (16, [zS, zA 0, zA 32, zU], [], zH (L, fun j => (xs j).toInt) ci_30) (some (zI 1), h')) (hr1 : h'.1.length ≤ 600000) (hr2 : zsz h'.1 ≤ 7302250) :
    W p l e room_1 s m #[Value.ref b] below meth c s.heap [] 0 0 (lw_Z below #[Value.ref b] s) (entryFrame m ([Value.ref b] : List Value).toArray 4) := by
  obtain ⟨hx0, hb, hr, hml, hown, hts, hX, hbl, hlocks, hgv⟩ := id C0
  have htsW : ∀ w ∈ WS, w.before #[Value.ref b] s = true := fun w hw => hts w (List.mem_filter.mp hw).1
  have hk0 : ∀ k : Nat, ∃ x : ClassId × (Nat → Nat), ∀ q : vw_C, vwCl[k]? = some q → u_Kn s q.1 q.2.1 q.2.2 x.1 x.2 := by
    intro k
    cases hq : vwCl[k]? with
    | none => exact ⟨(0, fun _ => 0), fun q h => by cases h⟩
    | some q =>
      obtain ⟨cC, iS, h⟩ := u_known (ws := WS) (args := #[Value.ref b]) (n := q.2.2) htsW (zcl_ok k q hq).1 (htsW _ (zIn_mem (List.all_eq_true.mp zinst_ok q (List.mem_of_getElem? hq))))
      exact ⟨(cC, iS), fun q' h' => by cases h'; exact h⟩
  obtain ⟨f, hf⟩ := Classical.axiomOfChoice hk0
  obtain ⟨cI, kI, compI, i1, i2, i3⟩ := Cond.arrayClass_spec (htsW _ (zAt_mem zwAI))
  obtain ⟨cZ, kZ, compZ, z1, z2, z3⟩ := Cond.arrayClass_spec (htsW _ (zAt_mem zwAZ))
  have hK : va_K (fun k => (f k).1, fun k => (f k).2) vwCl [(cI, .int), (cZ, .boolean)] s := by
    refine ⟨fun k q hq => hf k q hq, fun k q hq => ?_⟩
    match k, hq with
    | 0, hq => cases hq; exact ⟨fun n z => ⟨fun k h => (by cases h), kI, i2, compI, i3⟩, i1⟩
    | 1, hq => cases hq; exact ⟨fun n z => ⟨fun k h => (by cases h), kZ, z2, compZ, z3⟩, z1⟩
    | k + 2, hq => simp at hq
  have C : zcx p room_1 s m #[Value.ref b] meth c 172 True (fun k => (f k).1, fun k => (f k).2) cI cZ (fun q => s.heap.size ≤ q) :=
    ⟨hx0, hb, hml, hown, htsW, hK, fun q h => h, fun h => absurd h (by decide), fun _ => trivial, by decide, by decide, va_Nw.of rfl (hts _ znest_in.1), va_Nw.of rfl (hts _ znest_in.2)⟩
  obtain ⟨n, hx⟩ := hx
  have G16 : zG p l e room_1 s m #[Value.ref b] below meth c (lw_Z below #[Value.ref b] s) 172 True b (fun k => (f k).1, fun k => (f k).2) cI cZ (fun q => s.heap.size ≤ q) 0 0 (fun _ => 0) (16, [zS, zA 0, zA 32, zU], [], zH ((L, fun j => (xs j).toInt) : PS) ci_30) := by
    refine zmain l n 172 _ _ h' hx C (by show h'.1.length ≤ 600000 + 0; omega) (by show zsz h'.1 ≤ 7302250 + 0; omega) ?_
    intro pc pl st ad H locs ls cells slots Z hrk
    have ec := Z.2.2.2.2.2.2.1
    have eS := Z.2.2.2.2.2.2.2.1
    simp only at ec eS
    rcases hrk with ⟨x, -, -, hR, -⟩ | ⟨x, rfl, hx1, -, -, hdg⟩ | ⟨q, ty, -, h2, -⟩ | ⟨-, h2, -⟩
    · exact absurd hR (by decide)
    · cases hx1
      refine va_forget (fun q hq => Z.2.2.2.1.2.2 q hq) ?_
      refine W.widen (k := 600000) (n := 7302250) (by omega) (by omega) ?_
      exact lw_ret hx0 hb hr hlocks hdg
    · cases h2
    · cases h2
  have G16' : zG p l e room_1 s m #[Value.ref b] below meth c (lw_Z below #[Value.ref b] s) 172 True b (fun k => (f k).1, fun k => (f k).2) cI cZ (fun q => s.heap.size ≤ q) 0 0 (fun _ => 0) (16, [zS, zA 0, zA 32, zU], [], ([(5, 9), (2, 5), (7, 17), (7, 17), (7, 17), (7, 17), (7, 17), (4, 3), (7, 6), (4, 3), (7, 6), (3, 11), (7, 6), (7, 6), (7, 6), (7, 6), (7, 720), (7, 720), (7, 243), (0, 7), (7, 20), (7, 20), (7, 20), (7, 20), (7, 20), (1, 3), (7, 16), (7, 16), (1, 3), (7, 16), (7, 16), (7, 32), (6, 25), (8, 16), (7, 16), (7, 17), (7, 17), (7, 17), (7, 16), (7, 12), (7, 320), (8, 117649), (7, 2000), (7, 2000), (7, 2000), (7, 2000), (7, 6), (7, 6), (7, 2000), (7, 2000), (7, 32)], ci_30, cp_30, ((L, fun j => (xs j).toInt) : PS))) := by
    intro ad H locs ls cells slots Z
    refine G16 ad H locs ls cells slots ⟨⟨Z.1.1, fun i j r h => by rw [show (zH ((L, fun j => (xs j).toInt) : PS) ci_30).1.length = 51 from zSH_len]; exact zPP_lt i j r h, Z.1.2.2⟩, ?_, ?_, Z.2.2.2⟩
    · show va_P _ vwCl (zw cI cZ ad (zH ((L, fun j => (xs j).toInt) : PS) ci_30)) H
      rw [← zw_sw]; exact Z.2.1
    · show va_D _ (zw cI cZ ad (zH ((L, fun j => (xs j).toInt) : PS) ci_30))
      rw [← zw_sw]; exact Z.2.2.1
  have G15 : zG p l e room_1 s m #[Value.ref b] below meth c (lw_Z below #[Value.ref b] s) 172 True b (fun k => (f k).1, fun k => (f k).2) cI cZ (fun q => s.heap.size ≤ q) 0 0 (fun _ => 0) (15, [zS, zA 0, zU, zU], [zA 32], ([(5, 9), (2, 5), (7, 17), (7, 17), (7, 17), (7, 17), (7, 17), (4, 3), (7, 6), (4, 3), (7, 6), (3, 11), (7, 6), (7, 6), (7, 6), (7, 6), (7, 720), (7, 720), (7, 243), (0, 7), (7, 20), (7, 20), (7, 20), (7, 20), (7, 20), (1, 3), (7, 16), (7, 16), (1, 3), (7, 16), (7, 16), (7, 32), (6, 25), (8, 16), (7, 16), (7, 17), (7, 17), (7, 17), (7, 16), (7, 12), (7, 320), (8, 117649), (7, 2000), (7, 2000), (7, 2000), (7, 2000), (7, 6), (7, 6), (7, 2000), (7, 2000), (7, 32)], ci_30, cp_30, ((L, fun j => (xs j).toInt) : PS))) :=
    zstep C (q := (16, [zS, zA 0, zA 32, zU], [], ([(5, 9), (2, 5), (7, 17), (7, 17), (7, 17), (7, 17), (7, 17), (4, 3), (7, 6), (4, 3), (7, 6), (3, 11), (7, 6), (7, 6), (7, 6), (7, 6), (7, 720), (7, 720), (7, 243), (0, 7), (7, 20), (7, 20), (7, 20), (7, 20), (7, 20), (1, 3), (7, 16), (7, 16), (1, 3), (7, 16), (7, 16), (7, 32), (6, 25), (8, 16), (7, 16), (7, 17), (7, 17), (7, 17), (7, 16), (7, 12), (7, 320), (8, 117649), (7, 2000), (7, 2000), (7, 2000), (7, 2000), (7, 6), (7, 6), (7, 2000), (7, 2000), (7, 32)], ci_30, cp_30, ((L, fun j => (xs j).toInt) : PS)))) (by rfl) zch_one zrm3 G16'
  obtain ⟨n6, h6⟩ := ct_9 ((L, fun j => (xs j).toInt) : PS)
  have G12 : zG p l e room_1 s m #[Value.ref b] below meth c (lw_Z below #[Value.ref b] s) 172 True b (fun k => (f k).1, fun k => (f k).2) cI cZ (fun q => s.heap.size ≤ q) 0 0 (fun _ => 0) (12, [zS, zA 0, zU, zU], [zA 32, zA 32], ([(5, 9), (2, 5), (7, 17), (7, 17), (7, 17), (7, 17), (7, 17), (4, 3), (7, 6), (4, 3), (7, 6), (3, 11), (7, 6), (7, 6), (7, 6), (7, 6), (7, 720), (7, 720), (7, 243), (0, 7), (7, 20), (7, 20), (7, 20), (7, 20), (7, 20), (1, 3), (7, 16), (7, 16), (1, 3), (7, 16), (7, 16), (7, 32), (6, 25)], ci_24, cp_24, ((L, fun j => (xs j).toInt) : PS))) :=
    zcallT (r1 := none) (m' := 116) (as := [zA 32]) (rest := [zA 32]) (zmain l n6) C (by rfl) h6 zrm3 G15
  have G11 : zG p l e room_1 s m #[Value.ref b] below meth c (lw_Z below #[Value.ref b] s) 172 True b (fun k => (f k).1, fun k => (f k).2) cI cZ (fun q => s.heap.size ≤ q) 0 0 (fun _ => 0) (11, [zS, zA 0, zU, zU], [zA 32], ([(5, 9), (2, 5), (7, 17), (7, 17), (7, 17), (7, 17), (7, 17), (4, 3), (7, 6), (4, 3), (7, 6), (3, 11), (7, 6), (7, 6), (7, 6), (7, 6), (7, 720), (7, 720), (7, 243), (0, 7), (7, 20), (7, 20), (7, 20), (7, 20), (7, 20), (1, 3), (7, 16), (7, 16), (1, 3), (7, 16), (7, 16), (7, 32), (6, 25)], ci_24, cp_24, ((L, fun j => (xs j).toInt) : PS))) :=
    zstep C (q := (12, [zS, zA 0, zU, zU], [zA 32, zA 32], ([(5, 9), (2, 5), (7, 17), (7, 17), (7, 17), (7, 17), (7, 17), (4, 3), (7, 6), (4, 3), (7, 6), (3, 11), (7, 6), (7, 6), (7, 6), (7, 6), (7, 720), (7, 720), (7, 243), (0, 7), (7, 20), (7, 20), (7, 20), (7, 20), (7, 20), (1, 3), (7, 16), (7, 16), (1, 3), (7, 16), (7, 16), (7, 32), (6, 25)], ci_24, cp_24, ((L, fun j => (xs j).toInt) : PS)))) (by rfl) zch_one zrm2 G12
  have G8 : zG p l e room_1 s m #[Value.ref b] below meth c (lw_Z below #[Value.ref b] s) 172 True b (fun k => (f k).1, fun k => (f k).2) cI cZ (fun q => s.heap.size ≤ q) 0 0 (fun _ => 0) (8, [zS, zA 0, zU, zU], [], ([(5, 9), (2, 5), (7, 17), (7, 17), (7, 17), (7, 17), (7, 17), (4, 3), (7, 6), (4, 3), (7, 6), (3, 11), (7, 6), (7, 6), (7, 6), (7, 6), (7, 720), (7, 720), (7, 243), (0, 7), (7, 20), (7, 20), (7, 20), (7, 20), (7, 20), (1, 3), (7, 16), (7, 16), (1, 3), (7, 16), (7, 16), (7, 32)], ci_23, cp_23, ((L, fun j => (xs j).toInt) : PS))) :=
    zstep C (q := (11, [zS, zA 0, zU, zU], [zA 32], ([(5, 9), (2, 5), (7, 17), (7, 17), (7, 17), (7, 17), (7, 17), (4, 3), (7, 6), (4, 3), (7, 6), (3, 11), (7, 6), (7, 6), (7, 6), (7, 6), (7, 720), (7, 720), (7, 243), (0, 7), (7, 20), (7, 20), (7, 20), (7, 20), (7, 20), (1, 3), (7, 16), (7, 16), (1, 3), (7, 16), (7, 16), (7, 32), (6, 25)], ci_24, cp_24, ((L, fun j => (xs j).toInt) : PS)))) (by rfl) zch_one zrm2 G11
  have G7 : zG p l e room_1 s m #[Value.ref b] below meth c (lw_Z below #[Value.ref b] s) 172 True b (fun k => (f k).1, fun k => (f k).2) cI cZ (fun q => s.heap.size ≤ q) 0 0 (fun _ => 0) (7, [zS, zU, zU, zU], [zA 0], ([(5, 9), (2, 5), (7, 17), (7, 17), (7, 17), (7, 17), (7, 17), (4, 3), (7, 6), (4, 3), (7, 6), (3, 11), (7, 6), (7, 6), (7, 6), (7, 6), (7, 720), (7, 720), (7, 243), (0, 7), (7, 20), (7, 20), (7, 20), (7, 20), (7, 20), (1, 3), (7, 16), (7, 16), (1, 3), (7, 16), (7, 16), (7, 32)], ci_23, cp_23, ((L, fun j => (xs j).toInt) : PS))) :=
    zstep C (q := (8, [zS, zA 0, zU, zU], [], ([(5, 9), (2, 5), (7, 17), (7, 17), (7, 17), (7, 17), (7, 17), (4, 3), (7, 6), (4, 3), (7, 6), (3, 11), (7, 6), (7, 6), (7, 6), (7, 6), (7, 720), (7, 720), (7, 243), (0, 7), (7, 20), (7, 20), (7, 20), (7, 20), (7, 20), (1, 3), (7, 16), (7, 16), (1, 3), (7, 16), (7, 16), (7, 32)], ci_23, cp_23, ((L, fun j => (xs j).toInt) : PS)))) (by rfl) zch_one zrm1 G8
  obtain ⟨n5, h5⟩ := ct_8 ((L, fun j => (xs j).toInt) : PS)
  have G4 : zG p l e room_1 s m #[Value.ref b] below meth c (lw_Z below #[Value.ref b] s) 172 True b (fun k => (f k).1, fun k => (f k).2) cI cZ (fun q => s.heap.size ≤ q) 0 0 (fun _ => 0) (4, [zS, zU, zU, zU], [zA 0, zA 0], ([(5, 9)], ci_1, cp_1, ((L, fun j => (xs j).toInt) : PS))) :=
    zcallT (r1 := none) (m' := 77) (as := [zA 0]) (rest := [zA 0]) (zmain l n5) C (by rfl) h5 zrm1 G7
  have G3 : zG p l e room_1 s m #[Value.ref b] below meth c (lw_Z below #[Value.ref b] s) 172 True b (fun k => (f k).1, fun k => (f k).2) cI cZ (fun q => s.heap.size ≤ q) 0 0 (fun _ => 0) (3, [zS, zU, zU, zU], [zA 0], ([(5, 9)], ci_1, cp_1, ((L, fun j => (xs j).toInt) : PS))) :=
    zstep C (q := (4, [zS, zU, zU, zU], [zA 0, zA 0], ([(5, 9)], ci_1, cp_1, ((L, fun j => (xs j).toInt) : PS)))) (by rfl) zch_one zrm0 G4
  have G0 : zG p l e room_1 s m #[Value.ref b] below meth c (lw_Z below #[Value.ref b] s) 172 True b (fun k => (f k).1, fun k => (f k).2) cI cZ (fun q => s.heap.size ≤ q) 0 0 (fun _ => 0) (zS0 L xs) :=
    zstep C (q := (3, [zS, zU, zU, zU], [zA 0], ([(5, 9)], ci_1, cp_1, ((L, fun j => (xs j).toInt) : PS)))) (by rfl) zch_one zrm0 G3
  rw [lg_entry_eq]
  refine G0 (fun _ => 0) s.heap [] _ 0 0 ?_
  refine ⟨⟨fun i j => zin_0, fun i j r h => (by cases h), fun k sh h => (by simp [zS0] at h), by show L < 2 ^ 31; omega, fun j => zin_I _⟩, fun k q h => (by simp [zw, zS0] at h), ⟨fun i j p q h => (by simp [zw, zS0] at h), fun k q h => (by simp [zw, zS0] at h)⟩, va_S.rf, ?_, fun v hv => (by cases hv), rfl, rfl, fun k h => absurd h (by omega), fun _ => ⟨?_, hbl, Nat.not_le.mpr hbl⟩⟩
  · exact zls_entry (as := [zS]) (b := b) (ad := fun _ => 0) (by show 1 ≤ 4; omega) (fun v hv => by rcases List.mem_singleton.mp hv with rfl; trivial)
  · show va_X b L (fun j => Int32.ofInt (xs j).toInt) s s.heap
    have : (fun j => Int32.ofInt (xs j).toInt) = xs := by funext j; exact zofI _
    rw [this]
    exact hX
