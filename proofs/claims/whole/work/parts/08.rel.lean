/-! what a state of my machine says of a state of the claim's -/
def zin (x : Int) : Prop := -2147483648 ≤ x ∧ x < 2147483648
theorem zofI (w : Int32) : Int32.ofInt w.toInt = w := Int32.ofInt_toInt w
theorem zin_I (w : Int32) : zin w.toInt := ⟨by have := Int32.le_toInt w; omega, by have := Int32.toInt_lt w; omega⟩
theorem ztoI {x : Int} (h : zin x) : (Int32.ofInt x).toInt = x := Int32.toInt_ofInt_of_le (by have := h.1; omega) (by have := h.2; omega)
theorem zin_b {z : Int} (h : znb z = true) : zin z := by
  simp only [znb, Bool.and_eq_true, decide_eq_true_eq] at h
  exact h
theorem zieq {x y : Int} (hx : zin x) (hy : zin y) : Int32.ofInt x = Int32.ofInt y ↔ x = y := by
  rw [← Int32.toInt_inj, ztoI hx, ztoI hy]
theorem zilt {x y : Int} (hx : zin x) (hy : zin y) : Int32.ofInt x < Int32.ofInt y ↔ x < y := by
  rw [Int32.lt_iff_toInt_lt, ztoI hx, ztoI hy]
theorem zile {x y : Int} (hx : zin x) (hy : zin y) : Int32.ofInt x ≤ Int32.ofInt y ↔ x ≤ y := by
  rw [Int32.le_iff_toInt_le, ztoI hx, ztoI hy]
theorem zin_0 : zin 0 := ⟨by omega, by omega⟩
theorem zclamp {i : Int} (hi : zin i) : (Int32.ofInt i).toNatClampNeg = i.toNat := by
  show (Int32.ofInt i).toInt.toNat = i.toNat
  rw [ztoI hi]
theorem zib_iff {i : Int} {n : Nat} : zib i n = true ↔ 0 ≤ i ∧ i < (n : Int) := by simp [zib]
theorem zvpin {i : Int} {n : Nat} (hi : zin i) (h : zib i n = true) : vp_in (Int32.ofInt i) n := by
  obtain ⟨h0, h1⟩ := zib_iff.mp h
  intro q
  rcases q with q | q
  · have := (zilt hi zin_0).mp q
    omega
  · rw [zclamp hi] at q
    omega
/-- values -/
def zv (b : Nat) (ad : Nat → Nat) : PV → Value
  | .inl z => .int (Int32.ofInt z)
  | .inr (.inl r) => va_rf (r.map ad)
  | .inr (.inr _) => .ref b
def zok (sc : Prop) (n : Nat) : PV → Prop
  | .inl z => zin z
  | .inr (.inl none) => True
  | .inr (.inl (some k)) => k < n
  | .inr (.inr true) => sc
  | .inr (.inr false) => False
theorem zv_cat (b : Nat) (ad : Nat → Nat) (v : PV) : (zv b ad v).category = 1 := by
  match v with
  | .inl z => rfl
  | .inr (.inl none) => rfl
  | .inr (.inl (some k)) => rfl
  | .inr (.inr _) => rfl
theorem zok_mono {sc : Prop} {n n' : Nat} {v : PV} (hn : n ≤ n') (h : zok sc n v) : zok sc n' v := by
  match v, h with
  | .inl z, h => exact h
  | .inr (.inl none), _ => trivial
  | .inr (.inl (some k)), h => exact Nat.lt_of_lt_of_le h hn
  | .inr (.inr true), h => exact h
theorem zv_ad {sc : Prop} {n b : Nat} {ad ad' : Nat → Nat} {v : PV} (h : zok sc n v) (hd : ∀ k, k < n → ad' k = ad k) : zv b ad' v = zv b ad v := by
  match v, h with
  | .inl z, _ => rfl
  | .inr (.inl none), _ => rfl
  | .inr (.inl (some k)), h => simp only [zv, Option.map_some]; rw [hd k h]
  | .inr (.inr true), _ => rfl
theorem zcats (b : Nat) (ad : Nat → Nat) (st : List PV) : ((st.map (zv b ad)).map fun v => v.category).sum = st.length := by
  induction st with
  | nil => rfl
  | cons v st ih => simp only [List.map_cons, List.sum_cons, List.length_cons, zv_cat, ih]; omega
/-- locals -/
def zls (sc : Prop) (b : Nat) (ad : Nat → Nat) (n nL : Nat) (ls : Array Slot) (pl : List PV) : Prop :=
  ls.size = nL ∧ lv_wf ls ∧ pl.length = nL ∧ ∀ (i : Nat) (v : PV), pl[i]? = some v → v = zU ∨ (zok sc n v ∧ ls[i]? = some (.val (zv b ad v)))
def zl1 (b : Nat) (ad : Nat → Nat) (q : PV × Nat) : Option (Nat × Value) := match q.1 with
  | .inr (.inr false) => none
  | v => some (q.2, zv b ad v)
def zlv (b : Nat) (ad : Nat → Nat) (pl : List PV) : List (Nat × Value) := pl.zipIdx.filterMap (zl1 b ad)
theorem zl1_of {b : Nat} {ad : Nat → Nat} {v : PV} {i : Nat} (h : v ≠ zU) : zl1 b ad (v, i) = some (i, zv b ad v) := by
  match v, h with
  | .inl z, _ => rfl
  | .inr (.inl r), _ => rfl
  | .inr (.inr true), _ => rfl
  | .inr (.inr false), h => exact absurd rfl h
theorem zlv_mem {b : Nat} {ad : Nat → Nat} {pl : List PV} {i : Nat} {v : PV} (h : pl[i]? = some v) (hv : v ≠ zU) : (i, zv b ad v) ∈ zlv b ad pl :=
  List.mem_filterMap.mpr ⟨(v, i), List.mem_zipIdx_iff_getElem?.mpr h, zl1_of hv⟩
theorem zls_has {sc : Prop} {b : Nat} {ad : Nat → Nat} {n nL : Nat} {ls : Array Slot} {pl : List PV} (h : zls sc b ad n nL ls pl) : lv_has ls nL (zlv b ad pl) := by
  refine ⟨h.1, h.2.1, fun q hq => ?_⟩
  obtain ⟨⟨v, i⟩, h1, h2⟩ := List.mem_filterMap.mp hq
  have h3 := List.mem_zipIdx_iff_getElem?.mp h1
  by_cases hv : v = zU
  · subst hv; cases h2
  · rw [zl1_of hv] at h2
    cases h2
    rcases h.2.2.2 i v h3 with h4 | h4
    · exact absurd h4 hv
    · exact h4.2
theorem zls_set {sc : Prop} {b : Nat} {ad : Nat → Nat} {n nL a : Nat} {ls ls' : Array Slot} {pl : List PV} {v : PV} (h : zls sc b ad n nL ls pl) (hv : zok sc n v)
    (h' : lv_has ls' nL ((a, zv b ad v) :: (zlv b ad pl).filter (fun q => !(q.1 == a) && !(q.1 + 1 == a && q.2.category == 2)))) : zls sc b ad n nL ls' (pl.set a v) := by
  refine ⟨h'.1, h'.2.1, by rw [List.length_set]; exact h.2.2.1, fun i w hw => ?_⟩
  by_cases hi : a = i
  · subst hi
    have : w = v := by
      rw [List.getElem?_set] at hw
      by_cases hl : a < pl.length
      · simp [hl] at hw; exact hw.symm
      · simp [hl] at hw
    subst this
    exact Or.inr ⟨hv, h'.2.2 _ List.mem_cons_self⟩
  · rw [List.getElem?_set_ne hi] at hw
    by_cases hu : w = zU
    · exact Or.inl hu
    · rcases h.2.2.2 i w hw with h4 | h4
      · exact Or.inl h4
      · refine Or.inr ⟨h4.1, h'.2.2 (i, zv b ad w) (List.mem_cons_of_mem _ (List.mem_filter.mpr ⟨zlv_mem hw hu, ?_⟩))⟩
        have e : (i == a) = false := by simp; exact fun q => hi q.symm
        simp only [e, zv_cat]
        simp
theorem zls_ad {sc : Prop} {b : Nat} {ad ad' : Nat → Nat} {n n' nL : Nat} {ls : Array Slot} {pl : List PV} (h : zls sc b ad n nL ls pl) (hn : n ≤ n') (hd : ∀ k, k < n → ad' k = ad k) : zls sc b ad' n' nL ls pl := by
  refine ⟨h.1, h.2.1, h.2.2.1, fun i v hv => ?_⟩
  rcases h.2.2.2 i v hv with h4 | h4
  · exact Or.inl h4
  · exact Or.inr ⟨zok_mono hn h4.1, by rw [zv_ad h4.1 hd]; exact h4.2⟩
/-- cells -/
def zf (ad : Nat → Nat) (h : PH) (k c j : Nat) : Value := if zfr c j = true then va_rf ((h.2.2.1 k j).map ad) else .int (Int32.ofInt (h.2.1 k j))
def ze (cI cZ : ClassId) (ad : Nat → Nat) (h : PH) (k : Nat) (s : Nat × Nat) : va_E :=
  if s.1 = 7 then .inl (cI, s.2, .inl (fun j => Int32.ofInt (h.2.1 k j))) else
  if s.1 = 8 then .inl (cZ, s.2, .inl (fun j => Int32.ofInt (h.2.1 k j))) else
  .inr (s.1, (List.range s.2).map (zf ad h k s.1))
def zw (cI cZ : ClassId) (ad : Nat → Nat) (h : PH) : va_W := h.1.zipIdx.map (fun q => (ad q.2, ze cI cZ ad h q.2 q.1))
theorem zw_get (cI cZ : ClassId) (ad : Nat → Nat) (h : PH) (k : Nat) : (zw cI cZ ad h)[k]? = h.1[k]?.map (fun s => (ad k, ze cI cZ ad h k s)) := by
  simp only [zw, List.getElem?_map, List.getElem?_zipIdx]
  cases h.1[k]? with
  | none => rfl
  | some s => simp
theorem zw_at {cI cZ : ClassId} {ad : Nat → Nat} {h : PH} {k : Nat} {s : Nat × Nat} (hk : h.1[k]? = some s) : (zw cI cZ ad h)[k]? = some (ad k, ze cI cZ ad h k s) := by
  rw [zw_get, hk]; rfl
theorem zw_set {cI cZ : ClassId} {ad : Nat → Nat} {h h' : PH} {k : Nat} {s : Nat × Nat} {E : va_E} (hk : h.1[k]? = some s) (h1 : h'.1 = h.1) (hE : E = ze cI cZ ad h' k s)
    (ho : ∀ j s', j ≠ k → ze cI cZ ad h' j s' = ze cI cZ ad h j s') : (zw cI cZ ad h).set k (ad k, E) = zw cI cZ ad h' := by
  apply List.ext_getElem?
  intro i
  rw [List.getElem?_set, zw_get, zw_get, h1]
  by_cases hi : k = i
  · subst hi
    have hl : k < (zw cI cZ ad h).length := (List.getElem?_eq_some_iff.mp (zw_at hk)).1
    rw [if_pos rfl, if_pos hl, hk, hE]
    rfl
  · rw [if_neg hi]
    cases h.1[i]? with
    | none => rfl
    | some s' => simp only [Option.map_some]; rw [ho i s' (fun q => hi q.symm)]
theorem zs2_at {α : Type} (f : Nat → Nat → α) (r k : Nat) (x : α) : zs2 f r k x r k = x := by simp [zs2]
theorem zs2_ne {α : Type} (f : Nat → Nat → α) (r k : Nat) (x : α) {i : Nat} (h : i ≠ r) : zs2 f r k x i = f i := by simp [zs2, h]
theorem zs2_ne2 {α : Type} (f : Nat → Nat → α) (r k : Nat) (x : α) {j : Nat} (h : j ≠ k) : zs2 f r k x r j = f r j := by simp [zs2, h]
theorem zs2_same {α : Type} (f : Nat → Nat → α) (r k : Nat) (x : α) : zs2 f r k x r = fun j => if j = k then x else f r j := by simp [zs2]
theorem zrg_set {n b : Nat} {f : Nat → Value} {v : Value} : ((List.range n).map f).set b v = (List.range n).map (fun j => if j = b then v else f j) := by
  apply List.ext_getElem?
  intro i
  rw [List.getElem?_set]
  simp only [List.getElem?_map, List.length_map, List.length_range]
  by_cases hi : b = i
  · subst hi
    by_cases hl : b < n
    · simp [hl]
    · simp [hl]
  · rw [if_neg hi]
    by_cases hl : i < n
    · simp only [List.getElem?_range hl, Option.map_some, if_neg (fun q : i = b => hi q.symm)]
    · have : (List.range n)[i]? = none := List.getElem?_eq_none (by simp; omega)
      rw [this]; rfl
def zsz (l : List (Nat × Nat)) : Nat := (l.map (fun s => s.2)).sum
def zwf (h : PH) : Prop := (∀ i j, zin (h.2.1 i j)) ∧ (∀ i j r, h.2.2.1 i j = some r → r < h.1.length) ∧
  (∀ (k : Nat) (s : Nat × Nat), h.1[k]? = some s → ((s.1 = 7 ∨ s.1 = 8) ∧ s.2 < 1000000) ∨ ∃ q : vw_C, vwCl[s.1]? = some q ∧ q.2.2 = s.2) ∧ h.2.2.2.1 < 2 ^ 31 ∧ ∀ j, zin (h.2.2.2.2 j)
def zsx (b : Nat) (s : State) (A : Nat → Prop) (S : PS) : Prop := va_X b S.1 (fun j => Int32.ofInt (S.2 j)) s s.heap ∧ b < s.heap.size ∧ ¬ A b
def zst (sc : Prop) (b : Nat) (D : va_G) (cI cZ : ClassId) (A : Nat → Prop) (s : State) (nL k0 s0 : Nat) (ad0 : Nat → Nat) (t : PT) (ad : Nat → Nat) (H : Heap) (locs : List Loc) (ls : Array Slot) (cells slots : Nat) : Prop :=
  zwf t.2.2.2 ∧ va_P D vwCl (zw cI cZ ad t.2.2.2) H ∧ va_D A (zw cI cZ ad t.2.2.2) ∧ va_S A s.heap H locs ∧ zls sc b ad t.2.2.2.1.length nL ls t.2.1 ∧ (∀ v ∈ t.2.2.1, zok sc t.2.2.2.1.length v) ∧
  cells + k0 = t.2.2.2.1.length ∧ slots + s0 = zsz t.2.2.2.1 ∧ (∀ k, k < k0 → ad k = ad0 k) ∧ (sc → zsx b s A t.2.2.2.2.2.2)
def zEX (s : State) : Prop := va_Nw (.methodLinkNest RX5 37 yX0_init RX5) s ∧ va_Nw (.methodLinkNest RX5 44 yX1_init RX5) s
/-- what stays the same throughout a method -/
def zcx (p : Program) (R : Room) (s : State) (m : MethodId) (args : Array Value) (meth : Method) (c : Code) (mi : Nat) (sc : Prop) (D : va_G) (cI cZ : ClassId) (A : Nat → Prop) : Prop :=
  p.tables.exec = Jvm.exec ∧ c.code = zmC mi ∧ c.maxLocals = zmN mi ∧ s.vm.findClass (zwn (zmO mi)) = some m.cls ∧ (∀ w ∈ WS, w.before args s = true) ∧ va_K D vwCl [(cI, .int), (cZ, .boolean)] s ∧
  (∀ q, s.heap.size ≤ q → A q) ∧ (zmK mi = 1 → meth.name = "<init>") ∧ (mi = 172 → sc) ∧ zmF mi ≤ R.frames ∧ zmL mi ≤ R.locals ∧ zEX s
/-- the chosen one of the branches -/
def zch (l : List (Bool × PT)) (q : PT) : Prop := ∃ l1 l2, l = l1 ++ (true, q) :: l2 ∧ ∀ e ∈ l1, e.1 = false
theorem zch_1 {c : Bool} {x q : PT} (h : zch [(c, x)] q) : c = true ∧ q = x := by
  obtain ⟨l1, l2, e, -⟩ := h
  cases l1 with
  | nil => cases e; exact ⟨rfl, rfl⟩
  | cons a l1 => simp at e
theorem zch_2 {c : Bool} {x y q : PT} (h : zch [(c, x), (true, y)] q) : (c = true ∧ q = x) ∨ (c = false ∧ q = y) := by
  obtain ⟨l1, l2, e, hl⟩ := h
  cases l1 with
  | nil => cases e; exact Or.inl ⟨rfl, rfl⟩
  | cons a l1 =>
    cases l1 with
    | nil => simp at e; obtain ⟨rfl, rfl, -⟩ := e; exact Or.inr ⟨by simpa using hl _ List.mem_cons_self, rfl⟩
    | cons b l1 => simp at e
theorem zch_of {l : List (Bool × PT)} {F : PT → Option (Option PV × PH)} {v : Option PV × PH} (h : l.foldr (fun q acc => cond q.1 (F q.2) acc) none = some v) : ∃ q, zch l q ∧ F q = some v := by
  induction l with
  | nil => cases h
  | cons a l ih =>
    obtain ⟨c, x⟩ := a
    cases c with
    | true => exact ⟨x, ⟨[], l, rfl, fun _ h => by cases h⟩, h⟩
    | false =>
      obtain ⟨q, ⟨l1, l2, e, hl⟩, hq⟩ := ih h
      refine ⟨q, ⟨(false, x) :: l1, l2, by rw [e]; rfl, fun e he => ?_⟩, hq⟩
      rcases List.mem_cons.mp he with rfl | he
      · rfl
      · exact hl e he
