/-! THE CLAIM OUT OF ONE WALK OF THE LAW'S BODY. Your part is whole_start (and what it stands on); all else here is the same for every law, but numbers. -/
def R_law : String := "MatchRowsLaw"
def lw_P (b : Addr) (xs : List Int32) (args : Array Value) (s : State) : Prop := args = #[.ref b] ∧ s.IntsAt b xs ∧ xs.length ≤ 2560 ∧ (Jvm.Cond.and given_1 narrow_1).before args s = true
def lw_Q (_ : Array Value) (s : State) (o : Outcome) (t : State) : Prop := o = .returned (some (.int 1)) ∧ Framed s o t [] 600000 7302250
def lw_Z (below : List Frame) (a : Array Value) (s : State) : State → Prop := fun t => ∃ o, t.status = .running ∧ Ended t below o ∧ lw_Q a s o t
/-- the law's own end, with 1 on the stack, nothing written that was there before, its room as the claim has it -/
theorem lw_ret {p : Program} {l : Launch} {e : Env} {s : State} {m : MethodId} {below : List Frame} {meth : Method} {c : Code} {b : Nat} (hx : p.tables.exec = Jvm.exec) (hb : c.code = code) (hr : meth.sig.returnType = ret) (hlocks : meth.locks = false) {pc : Nat} {H : Heap} {ls : Array Slot} (hdg : decode code pc = .ok (.ireturn, 1)) : W p l e room_1 s m #[Value.ref b] below meth c H [] 600000 7302250 (lw_Z below #[Value.ref b] s) (F0 m pc ls [.int 1]) := by
  intro T hT X
  obtain ⟨fs, hret, hrun, hended, hW, hframe⟩ := X.leave (v := some (.int 1)) (hlocks := hlocks) (fun h => by rw [hr] at h; cases h)
  have hmeth' : T.vm.method? m = some meth := X.method'
  refine ⟨T.setFrames fs, ?_, .returned (some (.int 1)), hrun, hended, rfl, ⟨_, rfl⟩, hW, hframe⟩
  jvm_step X.here [X.here.top, hx, hb, hdg, hmeth', hr, ret, narrow_b1]
  (try refine ⟨rfl, ?_⟩); (try refine ⟨rfl, ?_⟩)
  first | (intro acts; rw [hret _ acts rfl rfl rfl]) | rw [hret _ _ rfl rfl rfl]
  exact Steps.refl _
/-- what holds at the law's entry: the machine, the code, the tables' words (any of lw_tbl by 'hts w (by decide +kernel)'), the script of L ints xs at the cell b, what the Statement gives of the start (any of its parts by flat_of_before) -/
def lw_At (p : Program) (s : State) (m : MethodId) (meth : Method) (c : Code) (b L : Nat) (xs : Nat → Int32) : Prop :=
  p.tables.exec = Jvm.exec ∧ c.code = code ∧ meth.sig.returnType = ret ∧ c.maxLocals = 4 ∧ s.vm.findClass R_law = some m.cls ∧ (∀ w ∈ lw_tbl, w.before #[Value.ref b] s = true) ∧ va_X b L xs s s.heap ∧ b < s.heap.size ∧ meth.locks = false ∧ (Jvm.Cond.and given_1 narrow_1).before #[Value.ref b] s = true
theorem zinst_ok : vwCl.all (fun q => zIn (.instantiable q.1 q.2.2)) = true := by decide +kernel
theorem znest_ok : (zIn (.methodLinkNest RX5 37 yX0_init RX5) || decide ((Jvm.Cond.methodLinkNest RX5 37 yX0_init RX5) ∈ lw_tbl)) = true ∧ (zIn (.methodLinkNest RX5 44 yX1_init RX5) || decide ((Jvm.Cond.methodLinkNest RX5 44 yX1_init RX5) ∈ lw_tbl)) = true := by decide +kernel
theorem znest_in : (Jvm.Cond.methodLinkNest RX5 37 yX0_init RX5) ∈ lw_tbl ∧ (Jvm.Cond.methodLinkNest RX5 44 yX1_init RX5) ∈ lw_tbl := by
  have h := znest_ok
  simp only [Bool.or_eq_true, decide_eq_true_eq] at h
  refine ⟨?_, ?_⟩
  · rcases h.1 with q | q
    · exact (List.mem_filter.mp (zIn_mem q)).1
    · exact q
  · rcases h.2 with q | q
    · exact (List.mem_filter.mp (zIn_mem q)).1
    · exact q
/-- the start of the law, in my machine -/
def zS0 (L : Nat) (xs : Nat → Int32) : PT := (0, [zS, zU, zU, zU], [], ([], fun _ _ => 0, fun _ _ => none, (L, fun j => (xs j).toInt)))
theorem whole_of {p : Program} {e : Env} {s : State} {m : MethodId} {below : List Frame} {meth : Method} {c : Code} (l : Launch) {b L : Nat} {xs : Nat → Int32} (hL : L ≤ 2560) (C0 : lw_At p s m meth c b L xs)
    {n : Nat} {h' : PH} (hx : pex n 172 (zS0 L xs) = some (some (zI 1), h')) (hr1 : h'.1.length ≤ 600000) (hr2 : zsz h'.1 ≤ 7302250) :
    W p l e room_1 s m #[Value.ref b] below meth c s.heap [] 0 0 (lw_Z below #[Value.ref b] s) (entryFrame m ([Value.ref b] : List Value).toArray 4) := by
  obtain ⟨hx0, hb, hr, hml, hown, hts, hX, hbl, hlocks, hgv⟩ := id C0
  have htsW : ∀ w ∈ WS, w.before #[Value.ref b] s = true := fun w hw => hts w (List.mem_filter.mp hw).1
  have hk0 : ∀ k : Nat, ∃ x : ClassId × (Nat → Nat), ∀ q : vw_C, vwCl[k]? = some q → u_Kn s q.1 q.2.1 q.2.2 x.1 x.2 := by
    intro k
    cases hq : vwCl[k]? with
    | none => exact ⟨(0, fun _ => 0), fun q h => by cases h⟩
    | some q =>
      obtain ⟨cC, iS, h⟩ := u_known (ws := WS) (args := #[Value.ref b]) (n := q.2.2) htsW (zcl_ok k q hq).1 (htsW _ (zIn_mem (List.all_eq_true.mp zinst_ok q (List.mem_of_getElem? hq))))
      exact ⟨(cC, iS), fun q' h' => by cases h'; exact h⟩
  obtain ⟨f, hf⟩ := Classical.axiomOfChoice hk0
  obtain ⟨cI, kI, compI, i1, i2, i3⟩ := Cond.arrayClass_spec (htsW _ (zAt_mem zwAI))
  obtain ⟨cZ, kZ, compZ, z1, z2, z3⟩ := Cond.arrayClass_spec (htsW _ (zAt_mem zwAZ))
  have hK : va_K (fun k => (f k).1, fun k => (f k).2) vwCl [(cI, .int), (cZ, .boolean)] s := by
    refine ⟨fun k q hq => hf k q hq, fun k q hq => ?_⟩
    match k, hq with
    | 0, hq => cases hq; exact ⟨fun n z => ⟨fun k h => (by cases h), kI, i2, compI, i3⟩, i1⟩
    | 1, hq => cases hq; exact ⟨fun n z => ⟨fun k h => (by cases h), kZ, z2, compZ, z3⟩, z1⟩
    | k + 2, hq => simp at hq
  have C : zcx p room_1 s m #[Value.ref b] meth c 172 True (fun k => (f k).1, fun k => (f k).2) cI cZ (fun q => s.heap.size ≤ q) :=
    ⟨hx0, hb, hml, hown, htsW, hK, fun q h => h, fun h => absurd h (by decide), fun _ => trivial, by decide, by decide, va_Nw.of rfl (hts _ znest_in.1), va_Nw.of rfl (hts _ znest_in.2)⟩
  rw [lg_entry_eq]
  refine zmain l n 172 (zS0 L xs) _ h' hx (k0 := 0) (s0 := 0) (ad0 := fun _ => 0) (b := b) C (by show h'.1.length ≤ 600000 + 0; omega) (by show zsz h'.1 ≤ 7302250 + 0; omega) ?_ (fun _ => 0) s.heap [] _ 0 0 ?_
  · intro pc pl st ad H locs ls cells slots Z hrk
    have ec := Z.2.2.2.2.2.2.1
    have eS := Z.2.2.2.2.2.2.2.1
    simp only at ec eS
    rcases hrk with ⟨x, -, -, hR, -⟩ | ⟨x, rfl, hx1, -, -, hdg⟩ | ⟨q, ty, -, h2, -⟩ | ⟨-, h2, -⟩
    · exact absurd hR (by decide)
    · cases hx1
      refine va_forget (fun q hq => Z.2.2.2.1.2.2 q hq) ?_
      refine W.widen (k := 600000) (n := 7302250) (by omega) (by omega) ?_
      exact lw_ret hx0 hb hr hlocks hdg
    · cases h2
    · cases h2
  · refine ⟨⟨fun i j => zin_0, fun i j r h => (by cases h), fun k sh h => (by simp [zS0] at h), by show L < 2 ^ 31; omega, fun j => zin_I _⟩, fun k q h => (by simp [zw, zS0] at h), ⟨fun i j p q h => (by simp [zw, zS0] at h), fun k q h => (by simp [zw, zS0] at h)⟩, va_S.rf, ?_, fun v hv => (by cases hv), rfl, rfl, fun k h => absurd h (by omega), fun _ => ⟨?_, hbl, Nat.not_le.mpr hbl⟩⟩
    · exact zls_entry (as := [zS]) (b := b) (ad := fun _ => 0) (by show 1 ≤ 4; omega) (fun v hv => by rcases List.mem_singleton.mp hv with rfl; trivial)
    · show va_X b L (fun j => Int32.ofInt (xs j).toInt) s s.heap
      have : (fun j => Int32.ofInt (xs j).toInt) = xs := by funext j; exact zofI _
      rw [this]
      exact hX
