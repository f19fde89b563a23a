/-! each instruction that neither calls nor makes nor returns -/
def zG (p : Program) (l : Launch) (e : Env) (R : Room) (s : State) (m : MethodId) (args : Array Value) (below : List Frame) (meth : Method) (c : Code) (Q : State → Prop) (mi : Nat) (sc : Prop) (b : Nat) (D : va_G) (cI cZ : ClassId) (A : Nat → Prop) (k0 s0 : Nat) (ad0 : Nat → Nat) (t : PT) : Prop :=
  ∀ (ad : Nat → Nat) (H : Heap) (locs : List Loc) (ls : Array Slot) (cells slots : Nat), zst sc b D cI cZ A s (zmN mi) k0 s0 ad0 t ad H locs ls cells slots → W p l e R s m args below meth c H locs cells slots Q (F0 m t.1 ls (t.2.2.1.map (zv b ad)))
theorem zch_0 {q : PT} (h : zch [] q) : False := by
  obtain ⟨l1, l2, e, -⟩ := h
  cases l1 <;> cases e
section OPS
variable {p : Program} {l : Launch} {e : Env} {R : Room} {s : State} {m : MethodId} {args : Array Value} {below : List Frame} {meth : Method} {c : Code} {Q : State → Prop}
variable {mi : Nat} {sc : Prop} {b : Nat} {D : va_G} {cI cZ : ClassId} {A : Nat → Prop} {k0 s0 : Nat} {ad0 : Nat → Nat}
variable {ad : Nat → Nat} {H : Heap} {locs : List Loc} {ls : Array Slot} {cells slots : Nat}
variable {len a b2 d : Nat} {z : Int} {ts : List Nat} {pc : Nat} {pl st : List PV} {h : PH} {q : PT} {ll : List (Bool × PT)}
theorem zst_st {pc' : Nat} {st' : List PV} (Z : zst sc b D cI cZ A s (zmN mi) k0 s0 ad0 (pc, pl, st, h) ad H locs ls cells slots) (hs : ∀ v ∈ st', zok sc h.1.length v) : zst sc b D cI cZ A s (zmN mi) k0 s0 ad0 (pc', pl, st', h) ad H locs ls cells slots :=
  ⟨Z.1, Z.2.1, Z.2.2.1, Z.2.2.2.1, Z.2.2.2.2.1, hs, Z.2.2.2.2.2.2⟩
theorem zst_ok (Z : zst sc b D cI cZ A s (zmN mi) k0 s0 ad0 (pc, pl, st, h) ad H locs ls cells slots) : ∀ v ∈ st, zok sc h.1.length v := Z.2.2.2.2.2.1
theorem zst_ls (Z : zst sc b D cI cZ A s (zmN mi) k0 s0 ad0 (pc, pl, st, h) ad H locs ls cells slots) : zls sc b ad h.1.length (zmN mi) ls pl := Z.2.2.2.2.1
theorem zok1 {n : Nat} {v : PV} {st : List PV} (h : ∀ w ∈ v :: st, zok sc n w) : zok sc n v ∧ ∀ w ∈ st, zok sc n w := List.forall_mem_cons.mp h
theorem zok2 {n : Nat} {v : PV} {st : List PV} (h : zok sc n v) (h' : ∀ w ∈ st, zok sc n w) : ∀ w ∈ v :: st, zok sc n w := List.forall_mem_cons.mpr ⟨h, h'⟩
theorem zst_loc {i : Nat} {v : PV} {ls' : Array Slot} {pc' : Nat} {st' : List PV} (Z : zst sc b D cI cZ A s (zmN mi) k0 s0 ad0 (pc, pl, st, h) ad H locs ls cells slots) (hv : zok sc h.1.length v) (hs : ∀ w ∈ st', zok sc h.1.length w)
    (h' : lv_has ls' (zmN mi) ((i, zv b ad v) :: (zlv b ad pl).filter (fun q => !(q.1 == i) && !(q.1 + 1 == i && q.2.category == 2)))) : zst sc b D cI cZ A s (zmN mi) k0 s0 ad0 (pc', pl.set i v, st', h) ad H locs ls' cells slots :=
  ⟨Z.1, Z.2.1, Z.2.2.1, Z.2.2.2.1, zls_set Z.2.2.2.2.1 hv h', hs, Z.2.2.2.2.2.2⟩
-- 1, 2: loads
theorem so_ilo (C : zcx p R s m args meth c mi sc D cI cZ A) (hd : decode (zmC mi) pc = .ok (if len = 1 then .iload_n (Fin.ofNat 4 a) else .iload a, len)) (hk : (len = 1 ∧ a < 4) ∨ len = 2) (hh : h_ilo len a b2 d z ts pc pl st h = .inl ll) (hc : zch ll q) (G : zG p l e R s m args below meth c Q mi sc b D cI cZ A k0 s0 ad0 q) : zG p l e R s m args below meth c Q mi sc b D cI cZ A k0 s0 ad0 (pc, pl, st, h) := by
  unfold h_ilo at hh
  split at hh
  · rename_i x hx
    cases hh
    obtain ⟨-, rfl⟩ := zch_1 hc
    intro ad H locs ls cells slots Z
    obtain ⟨hx1, hx2⟩ : zok sc h.1.length (.inl x) ∧ ls[a]? = some (.val (zv b ad (.inl x))) := by
      rcases (zst_ls Z).2.2.2 a _ hx with h4 | h4
      · cases h4
      · exact h4
    have K := G ad H locs ls cells slots (zst_st Z (zok2 hx1 (zst_ok Z)))
    rcases hk with ⟨rfl, ha⟩ | rfl
    · exact lv_iload_n C.1 C.2.1 hd (by simp [Fin.ofNat, Nat.mod_eq_of_lt ha]) hx2 K
    · exact lv_iload C.1 C.2.1 hd hx2 K
  · cases hh
    exact (zch_0 hc).elim
theorem so_alo (C : zcx p R s m args meth c mi sc D cI cZ A) (hd : decode (zmC mi) pc = .ok (if len = 1 then .aload_n (Fin.ofNat 4 a) else .aload a, len)) (hk : (len = 1 ∧ a < 4) ∨ len = 2) (hh : h_alo len a b2 d z ts pc pl st h = .inl ll) (hc : zch ll q) (G : zG p l e R s m args below meth c Q mi sc b D cI cZ A k0 s0 ad0 q) : zG p l e R s m args below meth c Q mi sc b D cI cZ A k0 s0 ad0 (pc, pl, st, h) := by
  unfold h_alo at hh
  split at hh
  · rename_i r hx
    cases hh
    obtain ⟨-, rfl⟩ := zch_1 hc
    intro ad H locs ls cells slots Z
    obtain ⟨hx1, hx2⟩ : zok sc h.1.length (.inr (.inl r)) ∧ ls[a]? = some (.val (zv b ad (.inr (.inl r)))) := by
      rcases (zst_ls Z).2.2.2 a _ hx with h4 | h4
      · cases h4
      · exact h4
    have K := G ad H locs ls cells slots (zst_st Z (zok2 hx1 (zst_ok Z)))
    cases r with
    | none =>
      rcases hk with ⟨rfl, ha⟩ | rfl
      · exact lv_aload_nN C.1 C.2.1 hd (by simp [Fin.ofNat, Nat.mod_eq_of_lt ha]) hx2 K
      · exact lv_aloadN C.1 C.2.1 hd hx2 K
    | some k =>
      rcases hk with ⟨rfl, ha⟩ | rfl
      · exact lv_aload_n C.1 C.2.1 hd (by simp [Fin.ofNat, Nat.mod_eq_of_lt ha]) hx2 K
      · exact lv_aload C.1 C.2.1 hd hx2 K
  · rename_i hx
    cases hh
    obtain ⟨-, rfl⟩ := zch_1 hc
    intro ad H locs ls cells slots Z
    obtain ⟨hx1, hx2⟩ : zok sc h.1.length zS ∧ ls[a]? = some (.val (zv b ad zS)) := by
      rcases (zst_ls Z).2.2.2 a _ hx with h4 | h4
      · cases h4
      · exact h4
    have K := G ad H locs ls cells slots (zst_st Z (zok2 hx1 (zst_ok Z)))
    rcases hk with ⟨rfl, ha⟩ | rfl
    · exact lv_aload_n C.1 C.2.1 hd (by simp [Fin.ofNat, Nat.mod_eq_of_lt ha]) hx2 K
    · exact lv_aload C.1 C.2.1 hd hx2 K
  · cases hh
    exact (zch_0 hc).elim
-- 3, 4: stores
theorem so_ist (C : zcx p R s m args meth c mi sc D cI cZ A) (hd : decode (zmC mi) pc = .ok (if len = 1 then .istore_n (Fin.ofNat 4 a) else .istore a, len)) (hk : (len = 1 ∧ a < 4) ∨ len = 2) (hh : h_ist len a b2 d z ts pc pl st h = .inl ll) (hc : zch ll q) (G : zG p l e R s m args below meth c Q mi sc b D cI cZ A k0 s0 ad0 q) : zG p l e R s m args below meth c Q mi sc b D cI cZ A k0 s0 ad0 (pc, pl, st, h) := by
  unfold h_ist at hh
  split at hh
  · rename_i x st'
    cases hl : Nat.blt a pl.length with
    | false => rw [hl] at hh; cases hh; exact (zch_0 hc).elim
    | true =>
      rw [hl] at hh
      cases hh
      obtain ⟨-, rfl⟩ := zch_1 hc
      intro ad H locs ls cells slots Z
      obtain ⟨hx1, hs⟩ := zok1 (zst_ok Z)
      have hn : a < zmN mi := by rw [← (zst_ls Z).2.2.1]; exact Nat.ble_eq.mp hl
      rcases hk with ⟨rfl, ha⟩ | rfl
      · exact lv_istore_n (lv := zlv b ad pl) C.1 C.2.1 hd (by simp [Fin.ofNat, Nat.mod_eq_of_lt ha]) (zls_has (zst_ls Z)) hn rfl (fun ls' h' => G ad H locs ls' cells slots (zst_loc Z hx1 hs h'))
      · exact lv_istore (lv := zlv b ad pl) C.1 C.2.1 hd (zls_has (zst_ls Z)) hn rfl (fun ls' h' => G ad H locs ls' cells slots (zst_loc Z hx1 hs h'))
  · cases hh
    exact (zch_0 hc).elim
-- 5: constants
theorem so_con (C : zcx p R s m args meth c mi sc D cI cZ A) (hd : decode (zmC mi) pc = .ok (if d = 0 then (if len = 1 then .iconst z else if len = 2 then .bipush z else .sipush z) else (if len = 2 then .ldc d else .ldc_w d), len))
    (hz : zin z) (hk : if d = 0 then (len = 1 ∨ (len = 2 ∧ (Int8.ofInt z).toInt32 = Int32.ofInt z)) ∨ (len = 3 ∧ (Int16.ofInt z).toInt32 = Int32.ofInt z) else (len = 2 ∨ len = 3) ∧ Jvm.Cond.constant (zwn (zmO mi)) d (Int32.ofInt z) ∈ WS) (hh : h_con len a b2 d z ts pc pl st h = .inl ll) (hc : zch ll q) (G : zG p l e R s m args below meth c Q mi sc b D cI cZ A k0 s0 ad0 q) : zG p l e R s m args below meth c Q mi sc b D cI cZ A k0 s0 ad0 (pc, pl, st, h) := by
  cases hh
  obtain ⟨-, rfl⟩ := zch_1 hc
  intro ad H locs ls cells slots Z
  have K := G ad H locs ls cells slots (zst_st Z (zok2 (v := .inl z) hz (zst_ok Z)))
  by_cases h0 : d = 0
  · subst h0
    rw [if_pos rfl] at hk
    rw [if_pos rfl] at hd
    rcases hk with (rfl | ⟨rfl, hk⟩) | ⟨rfl, hk⟩
    · exact lv_iconst C.1 C.2.1 hd rfl K
    · exact lv_bipush C.1 C.2.1 hd hk K
    · exact lv_sipush C.1 C.2.1 hd hk K
  · rw [if_neg h0] at hk hd
    rcases hk with ⟨rfl | rfl, hw⟩
    · exact lv_ldc C.1 C.2.1 C.2.2.2.1 (C.2.2.2.2.1 _ hw) hd K
    · exact lv_ldcw C.1 C.2.1 C.2.2.2.1 (C.2.2.2.2.1 _ hw) hd K
theorem so_nul (C : zcx p R s m args meth c mi sc D cI cZ A) (hd : decode (zmC mi) pc = .ok (.aconst_null, len)) (hk : len = 1) (hh : h_nul len a b2 d z ts pc pl st h = .inl ll) (hc : zch ll q) (G : zG p l e R s m args below meth c Q mi sc b D cI cZ A k0 s0 ad0 q) : zG p l e R s m args below meth c Q mi sc b D cI cZ A k0 s0 ad0 (pc, pl, st, h) := by
  subst hk
  cases hh
  obtain ⟨-, rfl⟩ := zch_1 hc
  intro ad H locs ls cells slots Z
  exact lv_null C.1 C.2.1 hd (G ad H locs ls cells slots (zst_st Z (zok2 (v := .inr (.inl none)) trivial (zst_ok Z))))
-- numbers
theorem so_bin {f : Int → Int → Int} {g : Int32 → Int32 → Int32} (ins : Instr) (hf : ∀ x y, f x y = (g (Int32.ofInt x) (Int32.ofInt y)).toInt)
    (row : ∀ {H : Heap} {locs : List Loc} {cells slots : Nat} {ls : Array Slot} {rest : List Value} {pc : Nat} {x y : Int32}, decode (zmC mi) pc = .ok (ins, 1) → W p l e R s m args below meth c H locs cells slots Q (F0 m (pc + 1) ls (.int (g x y) :: rest)) → W p l e R s m args below meth c H locs cells slots Q (F0 m pc ls (.int y :: .int x :: rest)))
    (hd : decode (zmC mi) pc = .ok (ins, len)) (hk : len = 1) (hh : h_bin f len a b2 d z ts pc pl st h = .inl ll) (hc : zch ll q) (G : zG p l e R s m args below meth c Q mi sc b D cI cZ A k0 s0 ad0 q) : zG p l e R s m args below meth c Q mi sc b D cI cZ A k0 s0 ad0 (pc, pl, st, h) := by
  subst hk
  unfold h_bin at hh
  split at hh
  · rename_i y x st'
    cases hh
    obtain ⟨-, rfl⟩ := zch_1 hc
    intro ad H locs ls cells slots Z
    obtain ⟨hy, hs⟩ := zok1 (zst_ok Z)
    obtain ⟨hx, hs⟩ := zok1 hs
    refine row hd ?_
    have K := G ad H locs ls cells slots (zst_st Z (zok2 (v := .inl (f x y)) (by rw [hf]; exact zin_I _) hs))
    simp only [List.map_cons, zv, hf, zofI] at K
    exact K
  · cases hh
    exact (zch_0 hc).elim
theorem so_bin0 {f : Int → Int → Int} {g : Int32 → Int32 → Int32} (ins : Instr) (hf : ∀ x y, f x y = (g (Int32.ofInt x) (Int32.ofInt y)).toInt)
    (row : ∀ {H : Heap} {locs : List Loc} {cells slots : Nat} {ls : Array Slot} {rest : List Value} {pc : Nat} {x y : Int32}, decode (zmC mi) pc = .ok (ins, 1) → ¬ y = 0 → W p l e R s m args below meth c H locs cells slots Q (F0 m (pc + 1) ls (.int (g x y) :: rest)) → W p l e R s m args below meth c H locs cells slots Q (F0 m pc ls (.int y :: .int x :: rest)))
    (hd : decode (zmC mi) pc = .ok (ins, len)) (hk : len = 1) (hh : h_bin0 f len a b2 d z ts pc pl st h = .inl ll) (hc : zch ll q) (G : zG p l e R s m args below meth c Q mi sc b D cI cZ A k0 s0 ad0 q) : zG p l e R s m args below meth c Q mi sc b D cI cZ A k0 s0 ad0 (pc, pl, st, h) := by
  subst hk
  unfold h_bin0 at hh
  split at hh
  · rename_i y x st'
    cases hh
    obtain ⟨h0, rfl⟩ := zch_1 hc
    have h0 : ¬ y = 0 := by simpa using h0
    intro ad H locs ls cells slots Z
    obtain ⟨hy, hs⟩ := zok1 (zst_ok Z)
    obtain ⟨hx, hs⟩ := zok1 hs
    refine row hd (fun q => h0 ((zieq hy zin_0).mp q)) ?_
    have K := G ad H locs ls cells slots (zst_st Z (zok2 (v := .inl (f x y)) (by rw [hf]; exact zin_I _) hs))
    simp only [List.map_cons, zv, hf, zofI] at K
    exact K
  · cases hh
    exact (zch_0 hc).elim
theorem so_inc (C : zcx p R s m args meth c mi sc D cI cZ A) (hd : decode (zmC mi) pc = .ok (.iinc a z, len)) (hk : len = 3) (ha : a < zmN mi) (hh : h_inc len a b2 d z ts pc pl st h = .inl ll) (hc : zch ll q) (G : zG p l e R s m args below meth c Q mi sc b D cI cZ A k0 s0 ad0 q) : zG p l e R s m args below meth c Q mi sc b D cI cZ A k0 s0 ad0 (pc, pl, st, h) := by
  subst hk
  unfold h_inc at hh
  split at hh
  · rename_i x hx
    cases hh
    obtain ⟨-, rfl⟩ := zch_1 hc
    intro ad H locs ls cells slots Z
    have hm : (a, zv b ad (.inl x)) ∈ zlv b ad pl := zlv_mem hx (fun q => by cases q)
    obtain ⟨k, hk⟩ := List.getElem?_of_mem hm
    refine lv_iinc (lv := zlv b ad pl) (k := k) (x := Int32.ofInt x) (v := Int32.ofInt (zad x z)) C.1 C.2.1 hd (zls_has (zst_ls Z)) hk ?_ ha rfl (fun ls' h' => G ad H locs ls' cells slots (zst_loc Z (v := .inl (zad x z)) (by exact zin_I _) (zst_ok Z) h'))
    rw [zad, zofI]
  · cases hh
    exact (zch_0 hc).elim
-- jumps
theorem so_gto (C : zcx p R s m args meth c mi sc D cI cZ A) (hd : decode (zmC mi) pc = .ok (.goto ((d : Int) - pc), len)) (hk : len = 3) (hh : h_gto len a b2 d z ts pc pl st h = .inl ll) (hc : zch ll q) (G : zG p l e R s m args below meth c Q mi sc b D cI cZ A k0 s0 ad0 q) : zG p l e R s m args below meth c Q mi sc b D cI cZ A k0 s0 ad0 (pc, pl, st, h) := by
  subst hk
  cases hh
  obtain ⟨-, rfl⟩ := zch_1 hc
  intro ad H locs ls cells slots Z
  exact lv_goto C.1 C.2.1 hd (by omega) (G ad H locs ls cells slots (zst_st Z (zst_ok Z)))
theorem so_icm (C : zcx p R s m args meth c mi sc D cI cZ A) (hd : decode (zmC mi) pc = .ok (.if_icmp (zcond a) ((d : Int) - pc), len)) (hk : len = 3) (ha : a < 6) (hh : h_icm len a b2 d z ts pc pl st h = .inl ll) (hc : zch ll q) (G : zG p l e R s m args below meth c Q mi sc b D cI cZ A k0 s0 ad0 q) : zG p l e R s m args below meth c Q mi sc b D cI cZ A k0 s0 ad0 (pc, pl, st, h) := by
  subst hk
  unfold h_icm at hh
  split at hh
  · rename_i y x st'
    intro ad H locs ls cells slots Z
    obtain ⟨hy, hs⟩ := zok1 (zst_ok Z)
    obtain ⟨hx, hs⟩ := zok1 hs
    have ht : (pc : Int) + ((d : Int) - pc) = (d : Int) := by omega
    have K : ∀ pc', q = (pc', pl, st', h) → W p l e R s m args below meth c H locs cells slots Q (F0 m pc' ls (st'.map (zv b ad))) := fun pc' hq => by
      subst hq
      exact G ad H locs ls cells slots (zst_st Z hs)
    have e1 := zieq hx hy
    have e2 := zilt hx hy
    have e3 := zile hx hy
    have e4 := zilt hy hx
    have e5 := zile hy hx
    rcases (show a = 0 ∨ a = 1 ∨ a = 2 ∨ a = 3 ∨ a = 4 ∨ a = 5 by omega) with rfl | rfl | rfl | rfl | rfl | rfl
    · cases hh
      rcases zch_2 hc with ⟨h1, h2⟩ | ⟨h1, h2⟩ <;> simp only [decide_eq_true_eq, decide_eq_false_iff_not] at h1
      · exact lv_icmp_eq C.1 C.2.1 hd ht (fun _ => K _ h2) (fun n => absurd (e1.mpr h1) n)
      · exact lv_icmp_eq C.1 C.2.1 hd ht (fun n => absurd (e1.mp n) h1) (fun _ => K _ h2)
    · cases hh
      rcases zch_2 hc with ⟨h1, h2⟩ | ⟨h1, h2⟩ <;> simp only [decide_eq_true_eq, decide_eq_false_iff_not] at h1
      · exact lv_icmp_ne C.1 C.2.1 hd ht (fun n => absurd (e1.mpr h1) n) (fun _ => K _ h2)
      · exact lv_icmp_ne C.1 C.2.1 hd ht (fun _ => K _ h2) (fun n => absurd (e1.mp n) h1)
    · cases hh
      rcases zch_2 hc with ⟨h1, h2⟩ | ⟨h1, h2⟩ <;> simp only [decide_eq_true_eq, decide_eq_false_iff_not] at h1
      · exact lv_icmp_lt C.1 C.2.1 hd ht (fun _ => K _ h2) (fun n => absurd (e2.mpr h1) n)
      · exact lv_icmp_lt C.1 C.2.1 hd ht (fun n => absurd (e2.mp n) h1) (fun _ => K _ h2)
    · cases hh
      rcases zch_2 hc with ⟨h1, h2⟩ | ⟨h1, h2⟩ <;> simp only [decide_eq_true_eq, decide_eq_false_iff_not] at h1
      · exact lv_icmp_ge C.1 C.2.1 hd ht (fun n => absurd (e5.mp n) (by omega)) (fun _ => K _ h2)
      · exact lv_icmp_ge C.1 C.2.1 hd ht (fun _ => K _ h2) (fun n => absurd (e5.mpr (by omega)) n)
    · cases hh
      rcases zch_2 hc with ⟨h1, h2⟩ | ⟨h1, h2⟩ <;> simp only [decide_eq_true_eq, decide_eq_false_iff_not] at h1
      · exact lv_icmp_gt C.1 C.2.1 hd ht (fun _ => K _ h2) (fun n => absurd (e4.mpr h1) n)
      · exact lv_icmp_gt C.1 C.2.1 hd ht (fun n => absurd (e4.mp n) h1) (fun _ => K _ h2)
    · cases hh
      rcases zch_2 hc with ⟨h1, h2⟩ | ⟨h1, h2⟩ <;> simp only [decide_eq_true_eq, decide_eq_false_iff_not] at h1
      · exact lv_icmp_le C.1 C.2.1 hd ht (fun n => absurd (e3.mp n) (by omega)) (fun _ => K _ h2)
      · exact lv_icmp_le C.1 C.2.1 hd ht (fun _ => K _ h2) (fun n => absurd (e3.mpr (by omega)) n)
  · cases hh
    exact (zch_0 hc).elim
theorem so_ifc (C : zcx p R s m args meth c mi sc D cI cZ A) (hd : decode (zmC mi) pc = .ok (.ifCond (zcond a) ((d : Int) - pc), len)) (hk : len = 3) (ha : a < 6) (hh : h_ifc len a b2 d z ts pc pl st h = .inl ll) (hc : zch ll q) (G : zG p l e R s m args below meth c Q mi sc b D cI cZ A k0 s0 ad0 q) : zG p l e R s m args below meth c Q mi sc b D cI cZ A k0 s0 ad0 (pc, pl, st, h) := by
  subst hk
  unfold h_ifc at hh
  split at hh
  · rename_i x st'
    intro ad H locs ls cells slots Z
    obtain ⟨hx, hs⟩ := zok1 (zst_ok Z)
    have ht : (pc : Int) + ((d : Int) - pc) = (d : Int) := by omega
    have K : ∀ pc', q = (pc', pl, st', h) → W p l e R s m args below meth c H locs cells slots Q (F0 m pc' ls (st'.map (zv b ad))) := fun pc' hq => by
      subst hq
      exact G ad H locs ls cells slots (zst_st Z hs)
    have e1 : Int32.ofInt x = 0 ↔ x = 0 := zieq hx zin_0
    have e2 : Int32.ofInt x < 0 ↔ x < 0 := zilt hx zin_0
    have e3 : Int32.ofInt x ≤ 0 ↔ x ≤ 0 := zile hx zin_0
    have e4 : 0 < Int32.ofInt x ↔ 0 < x := zilt zin_0 hx
    have e5 : 0 ≤ Int32.ofInt x ↔ 0 ≤ x := zile zin_0 hx
    rcases (show a = 0 ∨ a = 1 ∨ a = 2 ∨ a = 3 ∨ a = 4 ∨ a = 5 by omega) with rfl | rfl | rfl | rfl | rfl | rfl
    · cases hh
      rcases zch_2 hc with ⟨h1, h2⟩ | ⟨h1, h2⟩ <;> simp only [decide_eq_true_eq, decide_eq_false_iff_not] at h1
      · exact lv_if_eq C.1 C.2.1 hd ht (fun _ => K _ h2) (fun n => absurd (e1.mpr h1) n)
      · exact lv_if_eq C.1 C.2.1 hd ht (fun n => absurd (e1.mp n) h1) (fun _ => K _ h2)
    · cases hh
      rcases zch_2 hc with ⟨h1, h2⟩ | ⟨h1, h2⟩ <;> simp only [decide_eq_true_eq, decide_eq_false_iff_not] at h1
      · exact lv_if_ne C.1 C.2.1 hd ht (fun n => absurd (e1.mpr h1) n) (fun _ => K _ h2)
      · exact lv_if_ne C.1 C.2.1 hd ht (fun _ => K _ h2) (fun n => absurd (e1.mp n) h1)
    · cases hh
      rcases zch_2 hc with ⟨h1, h2⟩ | ⟨h1, h2⟩ <;> simp only [decide_eq_true_eq, decide_eq_false_iff_not] at h1
      · exact lv_if_lt C.1 C.2.1 hd ht (fun _ => K _ h2) (fun n => absurd (e2.mpr h1) n)
      · exact lv_if_lt C.1 C.2.1 hd ht (fun n => absurd (e2.mp n) h1) (fun _ => K _ h2)
    · cases hh
      rcases zch_2 hc with ⟨h1, h2⟩ | ⟨h1, h2⟩ <;> simp only [decide_eq_true_eq, decide_eq_false_iff_not] at h1
      · exact lv_if_ge C.1 C.2.1 hd ht (fun n => absurd (e5.mp n) (by omega)) (fun _ => K _ h2)
      · exact lv_if_ge C.1 C.2.1 hd ht (fun _ => K _ h2) (fun n => absurd (e5.mpr (by omega)) n)
    · cases hh
      rcases zch_2 hc with ⟨h1, h2⟩ | ⟨h1, h2⟩ <;> simp only [decide_eq_true_eq, decide_eq_false_iff_not] at h1
      · exact lv_if_gt C.1 C.2.1 hd ht (fun _ => K _ h2) (fun n => absurd (e4.mpr h1) n)
      · exact lv_if_gt C.1 C.2.1 hd ht (fun n => absurd (e4.mp n) h1) (fun _ => K _ h2)
    · cases hh
      rcases zch_2 hc with ⟨h1, h2⟩ | ⟨h1, h2⟩ <;> simp only [decide_eq_true_eq, decide_eq_false_iff_not] at h1
      · exact lv_if_le C.1 C.2.1 hd ht (fun n => absurd (e3.mp n) (by omega)) (fun _ => K _ h2)
      · exact lv_if_le C.1 C.2.1 hd ht (fun _ => K _ h2) (fun n => absurd (e3.mpr (by omega)) n)
  · cases hh
    exact (zch_0 hc).elim
theorem so_ifn (C : zcx p R s m args meth c mi sc D cI cZ A) (hd : decode (zmC mi) pc = .ok (.ifnull ((d : Int) - pc), len)) (hk : len = 3) (hh : h_ifn len a b2 d z ts pc pl st h = .inl ll) (hc : zch ll q) (G : zG p l e R s m args below meth c Q mi sc b D cI cZ A k0 s0 ad0 q) : zG p l e R s m args below meth c Q mi sc b D cI cZ A k0 s0 ad0 (pc, pl, st, h) := by
  subst hk
  unfold h_ifn at hh
  split at hh
  · cases hh
    obtain ⟨-, rfl⟩ := zch_1 hc
    intro ad H locs ls cells slots Z
    exact lv_ifnullN C.1 C.2.1 hd (by omega) (G ad H locs ls cells slots (zst_st Z (zok1 (zst_ok Z)).2))
  · cases hh
    obtain ⟨-, rfl⟩ := zch_1 hc
    intro ad H locs ls cells slots Z
    exact lv_ifnull C.1 C.2.1 hd (G ad H locs ls cells slots (zst_st Z (zok1 (zst_ok Z)).2))
  · cases hh
    exact (zch_0 hc).elim
theorem so_inn (C : zcx p R s m args meth c mi sc D cI cZ A) (hd : decode (zmC mi) pc = .ok (.ifnonnull ((d : Int) - pc), len)) (hk : len = 3) (hh : h_inn len a b2 d z ts pc pl st h = .inl ll) (hc : zch ll q) (G : zG p l e R s m args below meth c Q mi sc b D cI cZ A k0 s0 ad0 q) : zG p l e R s m args below meth c Q mi sc b D cI cZ A k0 s0 ad0 (pc, pl, st, h) := by
  subst hk
  unfold h_inn at hh
  split at hh
  · cases hh
    obtain ⟨-, rfl⟩ := zch_1 hc
    intro ad H locs ls cells slots Z
    exact lv_ifnonnullN C.1 C.2.1 hd (G ad H locs ls cells slots (zst_st Z (zok1 (zst_ok Z)).2))
  · cases hh
    obtain ⟨-, rfl⟩ := zch_1 hc
    intro ad H locs ls cells slots Z
    exact lv_ifnonnull C.1 C.2.1 hd (by omega) (G ad H locs ls cells slots (zst_st Z (zok1 (zst_ok Z)).2))
  · cases hh
    exact (zch_0 hc).elim
theorem so_acn (C : zcx p R s m args meth c mi sc D cI cZ A) (hd : decode (zmC mi) pc = .ok (.if_acmp .ne ((d : Int) - pc), len)) (hk : len = 3) (hh : h_acn len a b2 d z ts pc pl st h = .inl ll) (hc : zch ll q) (G : zG p l e R s m args below meth c Q mi sc b D cI cZ A k0 s0 ad0 q) : zG p l e R s m args below meth c Q mi sc b D cI cZ A k0 s0 ad0 (pc, pl, st, h) := by
  subst hk
  unfold h_acn at hh
  split at hh
  · rename_i r r' st'
    cases hh
    intro ad H locs ls cells slots Z
    obtain ⟨hy, hs⟩ := zok1 (zst_ok Z)
    obtain ⟨hx, hs⟩ := zok1 hs
    have hy : r < h.1.length := hy
    have hx : r' < h.1.length := hx
    have K : ∀ pc', q = (pc', pl, st', h) → W p l e R s m args below meth c H locs cells slots Q (F0 m pc' ls (st'.map (zv b ad))) := fun pc' hq => by
      subst hq
      exact G ad H locs ls cells slots (zst_st Z hs)
    have inj : ad r' = ad r → r' = r := fun q => by
      have q1 := zw_at (cI := cI) (cZ := cZ) (ad := ad) (List.getElem?_eq_getElem hx)
      have q2 := zw_at (cI := cI) (cZ := cZ) (ad := ad) (List.getElem?_eq_getElem hy)
      exact Z.2.2.1.1 _ _ _ _ q1 q2 q
    rcases zch_2 hc with ⟨h1, h2⟩ | ⟨h1, h2⟩
    · have h1 : r' = r := Nat.eq_of_beq_eq_true h1
      exact lv_acmp_ne (tgt := d) (rx := some (ad r')) (ry := some (ad r)) C.1 C.2.1 hd (by omega) (fun n => absurd (by rw [h1]) n) (fun _ => K _ h2)
    · have h1 : ¬ r' = r := Nat.ne_of_beq_eq_false h1
      exact lv_acmp_ne (tgt := d) (rx := some (ad r')) (ry := some (ad r)) C.1 C.2.1 hd (by omega) (fun _ => K _ h2) (fun n => absurd (inj (Option.some.inj n)) h1)
  · cases hh
    exact (zch_0 hc).elim
theorem so_tsw (C : zcx p R s m args meth c mi sc D cI cZ A) (hd : decode (zmC mi) pc = .ok (.tableswitch ((d : Int) - pc) 0 z (ts.map (fun (t : Nat) => (t : Int) - pc)).toArray, len)) (hk : (ts.length : Int) = z + 1) (hh : h_tsw len a b2 d z ts pc pl st h = .inl ll) (hc : zch ll q) (G : zG p l e R s m args below meth c Q mi sc b D cI cZ A k0 s0 ad0 q) : zG p l e R s m args below meth c Q mi sc b D cI cZ A k0 s0 ad0 (pc, pl, st, h) := by
  unfold h_tsw at hh
  split at hh
  · rename_i x st'
    cases hh
    intro ad H locs ls cells slots Z
    obtain ⟨hx, hs⟩ := zok1 (zst_ok Z)
    have hx : zin x := hx
    have K : ∀ pc', q = (pc', pl, st', h) → W p l e R s m args below meth c H locs cells slots Q (F0 m pc' ls (st'.map (zv b ad))) := fun pc' hq => by
      subst hq
      exact G ad H locs ls cells slots (zst_st Z hs)
    obtain ⟨l1, l2, e1, e2⟩ := hc
    by_cases hin : 0 ≤ x ∧ x < (ts.length : Int)
    · -- inside
      have hlt : x.toNat < ts.length := by omega
      have hmem : (ts[x.toNat], x.toNat) ∈ ts.zipIdx := List.mem_zipIdx_iff_getElem?.mpr (List.getElem?_eq_getElem hlt)
      have hq : q = (ts[x.toNat], pl, st', h) := by
        have hall : ∀ E ∈ ts.zipIdx.map (fun q => (decide (x = (q.2 : Int)), ((q.1, pl, st', h) : PT))), E.1 = true → E.2 = (ts[x.toNat], pl, st', h) := by
          intro E hE hE1
          obtain ⟨w, hw, rfl⟩ := List.mem_map.mp hE
          have hw2 : x = (w.2 : Int) := by simpa using hE1
          have hw3 := List.mem_zipIdx_iff_getElem?.mp hw
          have : w.2 = x.toNat := by omega
          rw [this] at hw3
          rw [List.getElem?_eq_getElem hlt] at hw3
          show (w.1, pl, st', h) = _
          rw [Option.some.inj hw3]
        have g1 : (ts.zipIdx.map (fun q => (decide (x = (q.2 : Int)), ((q.1, pl, st', h) : PT))) ++ [(true, (d, pl, st', h))])[l1.length]? = some (true, q) := by rw [e1]; simp
        have g2 : l1.length ≤ x.toNat := by
          by_cases hc : x.toNat < l1.length
          · have g3 : (ts.zipIdx.map (fun q => (decide (x = (q.2 : Int)), ((q.1, pl, st', h) : PT))) ++ [(true, (d, pl, st', h))])[x.toNat]? = some (l1[x.toNat]) := by
              rw [e1, List.getElem?_append_left hc]; exact List.getElem?_eq_getElem hc
            have g4 : (ts.zipIdx.map (fun q => (decide (x = (q.2 : Int)), ((q.1, pl, st', h) : PT))) ++ [(true, (d, pl, st', h))])[x.toNat]? = some (decide (x = ((x.toNat : Nat) : Int)), (ts[x.toNat], pl, st', h)) := by
              rw [List.getElem?_append_left (by simpa using hlt)]
              simp [hlt]
            have g5 := e2 l1[x.toNat] (List.getElem_mem hc)
            rw [g3] at g4
            rw [Option.some.inj g4] at g5
            simp at g5
            omega
          · omega
        have g6 : (true, q) ∈ ts.zipIdx.map (fun q => (decide (x = (q.2 : Int)), ((q.1, pl, st', h) : PT))) := by
          rw [List.getElem?_append_left (by simp; omega)] at g1
          exact List.mem_of_getElem? g1
        exact hall _ g6 rfl
      refine lv_tableIn (off := (ts[x.toNat] : Int) - pc) (tgt := ts[x.toNat]) C.1 C.2.1 hd (by rw [ztoI hx]; omega) (by rw [ztoI hx]; omega) ?_ (by omega) (K _ hq)
      rw [ztoI hx]
      simp [hlt]
    · have hq : q = (d, pl, st', h) := by
        have hqm : (true, q) ∈ ts.zipIdx.map (fun q => (decide (x = (q.2 : Int)), ((q.1, pl, st', h) : PT))) ++ [(true, (d, pl, st', h))] := by rw [e1]; simp
        rcases List.mem_append.mp hqm with hm | hm
        · exfalso
          obtain ⟨w, hw, hw2⟩ := List.mem_map.mp hm
          have hw3 := List.mem_zipIdx_iff_getElem?.mp hw
          have hw4 : w.2 < ts.length := (List.getElem?_eq_some_iff.mp hw3).1
          have hw5 : x = (w.2 : Int) := by
            have := congrArg Prod.fst hw2
            simpa using this
          omega
        · simpa using hm
      exact lv_tableOut C.1 C.2.1 hd (by rw [ztoI hx]; omega) (by omega) (K _ hq)
  · cases hh
    exact (zch_0 hc).elim
-- the stack
theorem so_dup (C : zcx p R s m args meth c mi sc D cI cZ A) (hd : decode (zmC mi) pc = .ok (.dup, len)) (hk : len = 1) (hh : h_dup len a b2 d z ts pc pl st h = .inl ll) (hc : zch ll q) (G : zG p l e R s m args below meth c Q mi sc b D cI cZ A k0 s0 ad0 q) : zG p l e R s m args below meth c Q mi sc b D cI cZ A k0 s0 ad0 (pc, pl, st, h) := by
  subst hk
  unfold h_dup at hh
  split at hh
  · cases hh
    obtain ⟨-, rfl⟩ := zch_1 hc
    intro ad H locs ls cells slots Z
    obtain ⟨h1, h2⟩ := zok1 (zst_ok Z)
    exact lv_dup C.1 C.2.1 hd (zv_cat b ad _) (G ad H locs ls cells slots (zst_st Z (zok2 h1 (zok2 h1 h2))))
  · cases hh
    exact (zch_0 hc).elim
theorem so_du2 (C : zcx p R s m args meth c mi sc D cI cZ A) (hd : decode (zmC mi) pc = .ok (.dup2, len)) (hk : len = 1) (hh : h_du2 len a b2 d z ts pc pl st h = .inl ll) (hc : zch ll q) (G : zG p l e R s m args below meth c Q mi sc b D cI cZ A k0 s0 ad0 q) : zG p l e R s m args below meth c Q mi sc b D cI cZ A k0 s0 ad0 (pc, pl, st, h) := by
  subst hk
  unfold h_du2 at hh
  split at hh
  · cases hh
    obtain ⟨-, rfl⟩ := zch_1 hc
    intro ad H locs ls cells slots Z
    obtain ⟨h1, h2⟩ := zok1 (zst_ok Z)
    obtain ⟨h3, h4⟩ := zok1 h2
    exact lv_dup2_11 C.1 C.2.1 hd (zv_cat b ad _) (zv_cat b ad _) (G ad H locs ls cells slots (zst_st Z (zok2 h1 (zok2 h3 (zok2 h1 (zok2 h3 h4))))))
  · cases hh
    exact (zch_0 hc).elim
theorem so_pop (C : zcx p R s m args meth c mi sc D cI cZ A) (hd : decode (zmC mi) pc = .ok (.pop, len)) (hk : len = 1) (hh : h_pop len a b2 d z ts pc pl st h = .inl ll) (hc : zch ll q) (G : zG p l e R s m args below meth c Q mi sc b D cI cZ A k0 s0 ad0 q) : zG p l e R s m args below meth c Q mi sc b D cI cZ A k0 s0 ad0 (pc, pl, st, h) := by
  subst hk
  unfold h_pop at hh
  split at hh
  · cases hh
    obtain ⟨-, rfl⟩ := zch_1 hc
    intro ad H locs ls cells slots Z
    exact lv_pop C.1 C.2.1 hd (zv_cat b ad _) (G ad H locs ls cells slots (zst_st Z (zok1 (zst_ok Z)).2))
  · cases hh
    exact (zch_0 hc).elim
-- the script
theorem so_sln (C : zcx p R s m args meth c mi sc D cI cZ A) (hd : decode (zmC mi) pc = .ok (.arraylength, len)) (hk : len = 1) (hh : h_sln len a b2 d z ts pc pl st h = .inl ll) (hc : zch ll q) (G : zG p l e R s m args below meth c Q mi sc b D cI cZ A k0 s0 ad0 q) : zG p l e R s m args below meth c Q mi sc b D cI cZ A k0 s0 ad0 (pc, pl, st, h) := by
  subst hk
  unfold h_sln at hh
  split at hh
  · cases hh
    obtain ⟨-, rfl⟩ := zch_1 hc
    intro ad H locs ls cells slots Z
    obtain ⟨h1, h2⟩ := zok1 (zst_ok Z)
    obtain ⟨x1, x2, x3⟩ := Z.2.2.2.2.2.2.2.2.2 h1
    have hl : h.2.2.2.1 < 2 ^ 31 := Z.1.2.2.2.1
    have K := G ad H locs ls cells slots (zst_st Z (zok2 (v := .inl (h.2.2.2.1 : Int)) ⟨by omega, by omega⟩ h2))
    refine va_slen C.1 C.2.1 x1 x2 x3 Z.2.2.2.1 hd ?_
    simp only [List.map_cons, zv, Int32.ofInt_eq_ofNat] at K
    exact K
  · cases hh
    exact (zch_0 hc).elim
theorem so_sld (C : zcx p R s m args meth c mi sc D cI cZ A) (hd : decode (zmC mi) pc = .ok (.iaload, len)) (hk : len = 1) (hh : h_sld len a b2 d z ts pc pl st h = .inl ll) (hc : zch ll q) (G : zG p l e R s m args below meth c Q mi sc b D cI cZ A k0 s0 ad0 q) : zG p l e R s m args below meth c Q mi sc b D cI cZ A k0 s0 ad0 (pc, pl, st, h) := by
  subst hk
  unfold h_sld at hh
  split at hh
  · rename_i i st'
    cases hh
    obtain ⟨hb, rfl⟩ := zch_1 hc
    intro ad H locs ls cells slots Z
    obtain ⟨h0, h2⟩ := zok1 (zst_ok Z)
    obtain ⟨h1, h2⟩ := zok1 h2
    obtain ⟨x1, x2, x3⟩ := Z.2.2.2.2.2.2.2.2.2 h1
    have K := G ad H locs ls cells slots (zst_st Z (zok2 (v := .inl (h.2.2.2.2 i.toNat)) (Z.1.2.2.2.2 _) h2))
    refine va_sld C.1 C.2.1 x1 x2 x3 Z.2.2.2.1 (zvpin h0 hb) hd ?_
    simp only [zclamp h0]
    exact K
  · cases hh
    exact (zch_0 hc).elim
end OPS
