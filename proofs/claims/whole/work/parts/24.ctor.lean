/-! the constructors: what stands when both objects are made -/
def zfill (I : Nat → Nat → Int) (r n : Nat) (x : Int) : Nat → Nat → Int := fun i => if i = r then (fun j => if j < n then x else I r j) else I i
theorem zfill_0 (I : Nat → Nat → Int) (r : Nat) (x : Int) : zfill I r 0 x = I := by
  funext i
  simp only [zfill]
  split
  · rename_i h; subst h; funext j; simp
  · rfl
theorem zfill_s (I : Nat → Nat → Int) (r n : Nat) (x : Int) : zs2 (zfill I r n x) r n x = zfill I r (n + 1) x := by
  funext i
  simp only [zfill, zs2]
  split
  · rename_i h; subst h
    funext j
    by_cases h1 : j = n
    · subst h1; simp
    · by_cases h2 : j < n
      · simp [h1, h2, Nat.lt_succ_of_lt h2]
      · have : ¬ j < n + 1 := by omega
        simp [h1, h2, this]
  · rfl
theorem Run_go {m pc pc' : Nat} {ls ls' st st' : List PV} {h h' : PH} {v : PV1} (hp : pst m pc ls st h = .inl [(true, (pc', ls', st', h'))]) (k : Run m (pc', ls', st', h') v) : Run m (pc, ls, st, h) v := by
  obtain ⟨n, hn⟩ := k
  refine ⟨n + 1, ?_⟩
  unfold pex
  simp only [hp]
  exact hn
theorem Run_br {m pc : Nat} {ls st : List PV} {h : PH} {v : PV1} {c : Bool} {x y : PT} (hp : pst m pc ls st h = .inl [(c, x), (true, y)]) (k : Run m (cond c x y) v) : Run m (pc, ls, st, h) v := by
  obtain ⟨n, hn⟩ := k
  refine ⟨n + 1, ?_⟩
  unfold pex
  simp only [hp]
  cases c <;> exact hn
theorem Run_ret {m pc : Nat} {ls st : List PV} {h : PH} {r : Option PV} (hp : pst m pc ls st h = .inr (.inl (true, r))) : Run m (pc, ls, st, h) (r, h) := by
  refine ⟨1, ?_⟩
  unfold pex
  simp only [hp]
  rfl
theorem zwr {x : Int} (h1 : -2147483648 ≤ x) (h2 : x < 2147483648) : (Int32.ofInt x).toInt = x := ztoI ⟨h1, h2⟩
theorem zad_eq {a b : Int} (h : -2147483648 ≤ a + b ∧ a + b < 2147483648) : zad a b = a + b := by rw [zad, ← Int32.ofInt_add]; exact ztoI h
theorem zsb_eq {a b : Int} (h : -2147483648 ≤ a - b ∧ a - b < 2147483648) : zsb a b = a - b := by rw [zsb, ← Int32.ofInt_sub]; exact ztoI h
theorem zml_eq {a b : Int} (h : -2147483648 ≤ a * b ∧ a * b < 2147483648) : zml a b = a * b := by rw [zml, ← Int32.ofInt_mul]; exact ztoI h
theorem Run_fill {h : PH} {r n : Nat} {x : Int} (hr : h.1[r]? = some (7, n)) (h0 : 0 ≤ n) (hn : n < 1000000) : Run 171 (0, [zA r, zI x, zU, zU], [], h) (none, (h.1, zfill h.2.1 r n x, h.2.2)) := by
  obtain ⟨sh, I, P, S⟩ := h
  have loop : ∀ k i : Nat, i + k = n → Run 171 (5, [zA r, zI x, zI i, zI n], [], (sh, zfill I r i x, P, S)) (none, (sh, zfill I r n x, P, S)) := by
    intro k
    induction k with
    | zero =>
      intro i hi
      have : i = n := by omega
      subst this
      refine Run_go rfl (Run_go rfl (Run_br rfl ?_))
      rw [show decide (((i : Nat) : Int) < (i : Int)) = false from decide_eq_false (by omega)]
      exact Run_ret rfl
    | succ k ih =>
      intro i hi
      refine Run_go rfl (Run_go rfl (Run_br rfl ?_))
      rw [show decide (((i : Nat) : Int) < (n : Int)) = true from decide_eq_true (by omega)]
      refine Run_go rfl (Run_go rfl (Run_go rfl ?_))
      have e : pst 171 13 [zA r, zI x, zI i, zI n] [zI x, zI i, zA r] (sh, zfill I r i x, P, S) = .inl [(true, (14, [zA r, zI x, zI i, zI n], [], (sh, zfill I r (i + 1) x, P, S)))] := by
        show h_iast 1 0 0 0 0 [] 13 [zA r, zI x, zI i, zI n] [zI x, zI i, zA r] (sh, zfill I r i x, P, S) = _
        have hr' : sh[r]? = some (7, n) := hr
        have hz : zib (i : Int) n = true := zib_iff.mpr ⟨by omega, by omega⟩
        simp only [h_iast, hr', pgi, hz]
        rw [show ((i : Int)).toNat = i from Int.toNat_natCast i, zfill_s]
        rfl
      refine Run_go e (Run_go rfl (Run_go rfl ?_))
      have e2 : zad (i : Int) 1 = ((i + 1 : Nat) : Int) := by rw [zad_eq (by omega)]; omega
      have := ih (i + 1) (by omega)
      rw [← e2] at this
      exact this
  have e3 : pst 171 3 [zA r, zI x, zI 0, zU] [zA r] (sh, I, P, S) = .inl [(true, (4, [zA r, zI x, zI 0, zU], [zI (n : Int)], (sh, I, P, S)))] := by
    show h_aln 1 0 0 0 0 [] 3 [zA r, zI x, zI 0, zU] [zA r] (sh, I, P, S) = _
    have hr' : sh[r]? = some (7, n) := hr
    simp only [h_aln, hr']
    rfl
  refine Run_go rfl (Run_go rfl (Run_go rfl (Run_go e3 (Run_go rfl ?_))))
  have := loop n 0 (by omega)
  rw [zfill_0] at this
  exact this
theorem Run_clear {h : PH} (h1 : h.1[32]? = some (6, 25)) (h2 : h.2.2.1 32 8 = some 39) (h3 : h.1[39]? = some (7, 12)) : Run 117 (0, [zA 32, zU], [], h) (none, (h.1, zfill h.2.1 39 12 (-2), h.2.2)) := by
  obtain ⟨sh, I, P, S⟩ := h
  have h1 : sh[32]? = some (6, 25) := h1
  have h2 : P 32 8 = some 39 := h2
  have h3 : sh[39]? = some (7, 12) := h3
  have loop : ∀ k i : Nat, i + k = 12 → Run 117 (2, [zA 32, zI i], [], (sh, zfill I 39 i (-2), P, S)) (none, (sh, zfill I 39 12 (-2), P, S)) := by
    intro k
    induction k with
    | zero =>
      intro i hi
      have : i = 12 := by omega
      subst this
      refine Run_go rfl (Run_go rfl (Run_br rfl ?_))
      exact Run_ret rfl
    | succ k ih =>
      intro i hi
      refine Run_go rfl (Run_go rfl (Run_br rfl ?_))
      rw [show decide (((i : Nat) : Int) < 12) = true from decide_eq_true (by omega)]
      have e0 : pst 117 9 [zA 32, zI i] [zA 32] (sh, zfill I 39 i (-2), P, S) = .inl [(true, (12, [zA 32, zI i], [zA 39], (sh, zfill I 39 i (-2), P, S)))] := by
        show h_gfr 3 6 8 33 0 [] 9 [zA 32, zI i] [zA 32] (sh, zfill I 39 i (-2), P, S) = _
        simp only [h_gfr, h1, h2]
        rfl
      refine Run_go rfl (Run_go e0 (Run_go rfl (Run_go rfl ?_)))
      have e : pst 117 15 [zA 32, zI i] [zI (-2), zI i, zA 39] (sh, zfill I 39 i (-2), P, S) = .inl [(true, (16, [zA 32, zI i], [], (sh, zfill I 39 (i + 1) (-2), P, S)))] := by
        show h_iast 1 0 0 0 0 [] 15 [zA 32, zI i] [zI (-2), zI i, zA 39] (sh, zfill I 39 i (-2), P, S) = _
        have hz : zib (i : Int) 12 = true := zib_iff.mpr ⟨by omega, by omega⟩
        simp only [h_iast, h3, pgi, hz]
        rw [show ((i : Int)).toNat = i from Int.toNat_natCast i, zfill_s]
        rfl
      refine Run_go e (Run_go rfl (Run_go rfl ?_))
      have e2 : zad (i : Int) 1 = ((i + 1 : Nat) : Int) := by rw [zad_eq (by omega)]; omega
      have := ih (i + 1) (by omega)
      rw [← e2] at this
      exact this
  refine Run_go rfl (Run_go rfl ?_)
  have := loop 12 0 (by omega)
  rw [zfill_0] at this
  exact this
def ci_1 : Nat → Nat → Int := (fun i => if i = 0 then (fun _ => 0) else (fun _ _ => 0) i)
def cp_1 : Nat → Nat → Option Nat := (fun i => if i = 0 then (fun _ => none) else (fun _ _ => none) i)
def ci_2 : Nat → Nat → Int := (fun i => if i = 1 then (fun _ => 0) else ci_1 i)
def cp_2 : Nat → Nat → Option Nat := (fun i => if i = 1 then (fun _ => none) else cp_1 i)
def ci_3 : Nat → Nat → Int := (fun i => if i = 4 then (fun _ => 0) else (fun i => if i = 3 then (fun _ => 0) else (fun i => if i = 2 then (fun _ => 0) else ci_2 i) i) i)
def cp_3 : Nat → Nat → Option Nat := (zs2 (zs2 (zs2 cp_2 1 0 (some 2)) 1 1 (some 3)) 1 2 (some 4))
def ci_4 : Nat → Nat → Int := (fun i => if i = 6 then (fun _ => 0) else (fun i => if i = 5 then (fun _ => 0) else ci_3 i) i)
def cp_4 : Nat → Nat → Option Nat := (zs2 (zs2 cp_3 1 3 (some 5)) 1 4 (some 6))
def ci_5 : Nat → Nat → Int := (zfill ci_4 2 17 ((-1)))
def cp_5 : Nat → Nat → Option Nat := cp_4
set_option maxRecDepth 100000 in
theorem ct_1 (S : PS) : Run 19 (0, [zA 1], [], ([(5, 9), (2, 5)], ci_2, cp_2, S)) (none, ([(5, 9), (2, 5), (7, 17), (7, 17), (7, 17), (7, 17), (7, 17)], ci_5, cp_5, S)) := by
  refine (RunK_iff [] 16 19 (0, [zA 1], [], ([(5, 9), (2, 5)], ci_2, cp_2, S)) _).mp (show Run 19 (31, [zA 1], [zI 17, zA 1], ([(5, 9), (2, 5), (7, 17), (7, 17), (7, 17)], ci_3, cp_3, S)) _ from ?_)
  refine (RunK_iff [] 10 19 (31, [zA 1], [zI 17, zA 1], ([(5, 9), (2, 5), (7, 17), (7, 17), (7, 17)], ci_3, cp_3, S)) _).mp (show ∃ w : PV1, Run 171 (0, [zA 2, zI ((-1)), zU, zU], [], ([(5, 9), (2, 5), (7, 17), (7, 17), (7, 17), (7, 17), (7, 17)], ci_4, cp_4, S)) w ∧ Run 19 (52, [zA 1], w.1.toList ++ [], w.2) _ from ⟨_, Run_fill (h := ([(5, 9), (2, 5), (7, 17), (7, 17), (7, 17), (7, 17), (7, 17)], ci_4, cp_4, S)) (r := 2) (n := 17) (x := (-1)) rfl (by omega) (by decide), ?_⟩)
  exact (RunK_iff [] 1 19 (52, [zA 1], [], ([(5, 9), (2, 5), (7, 17), (7, 17), (7, 17), (7, 17), (7, 17)], (zfill ci_4 2 17 ((-1))), cp_4, S)) _).mp (show _ = _ from rfl)
def ci_6 : Nat → Nat → Int := (fun i => if i = 7 then (fun _ => 0) else ci_5 i)
def cp_6 : Nat → Nat → Option Nat := (fun i => if i = 7 then (fun _ => none) else (zs2 cp_5 0 0 (some 1)) i)
def ci_7 : Nat → Nat → Int := (zs2 (fun i => if i = 8 then (fun _ => 0) else ci_6 i) 7 2 6)
def cp_7 : Nat → Nat → Option Nat := (zs2 (zs2 cp_6 7 1 (some 8)) 7 0 (some 1))
def ci_8 : Nat → Nat → Int := (zfill ci_7 8 6 ((-1)))
def cp_8 : Nat → Nat → Option Nat := cp_7
set_option maxRecDepth 100000 in
theorem ct_2 (S : PS) : Run 55 (0, [zA 7, zA 1], [], ([(5, 9), (2, 5), (7, 17), (7, 17), (7, 17), (7, 17), (7, 17), (4, 3)], ci_6, cp_6, S)) (none, ([(5, 9), (2, 5), (7, 17), (7, 17), (7, 17), (7, 17), (7, 17), (4, 3), (7, 6)], ci_8, cp_8, S)) := by
  refine (RunK_iff [] 16 55 (0, [zA 7, zA 1], [], ([(5, 9), (2, 5), (7, 17), (7, 17), (7, 17), (7, 17), (7, 17), (4, 3)], ci_6, cp_6, S)) _).mp (show ∃ w : PV1, Run 171 (0, [zA 8, zI ((-1)), zU, zU], [], ([(5, 9), (2, 5), (7, 17), (7, 17), (7, 17), (7, 17), (7, 17), (4, 3), (7, 6)], ci_7, cp_7, S)) w ∧ Run 55 (31, [zA 7, zA 1], w.1.toList ++ [], w.2) _ from ⟨_, Run_fill (h := ([(5, 9), (2, 5), (7, 17), (7, 17), (7, 17), (7, 17), (7, 17), (4, 3), (7, 6)], ci_7, cp_7, S)) (r := 8) (n := 6) (x := (-1)) rfl (by omega) (by decide), ?_⟩)
  exact (RunK_iff [] 1 55 (31, [zA 7, zA 1], [], ([(5, 9), (2, 5), (7, 17), (7, 17), (7, 17), (7, 17), (7, 17), (4, 3), (7, 6)], (zfill ci_7 8 6 ((-1))), cp_7, S)) _).mp (show _ = _ from rfl)
def ci_9 : Nat → Nat → Int := (fun i => if i = 9 then (fun _ => 0) else ci_8 i)
def cp_9 : Nat → Nat → Option Nat := (fun i => if i = 9 then (fun _ => none) else (zs2 cp_8 0 1 (some 7)) i)
def ci_10 : Nat → Nat → Int := (zs2 (fun i => if i = 10 then (fun _ => 0) else ci_9 i) 9 2 6)
def cp_10 : Nat → Nat → Option Nat := (zs2 (zs2 cp_9 9 1 (some 10)) 9 0 (some 1))
def ci_11 : Nat → Nat → Int := (zfill ci_10 10 6 ((-1)))
def cp_11 : Nat → Nat → Option Nat := cp_10
set_option maxRecDepth 100000 in
theorem ct_3 (S : PS) : Run 55 (0, [zA 9, zA 1], [], ([(5, 9), (2, 5), (7, 17), (7, 17), (7, 17), (7, 17), (7, 17), (4, 3), (7, 6), (4, 3)], ci_9, cp_9, S)) (none, ([(5, 9), (2, 5), (7, 17), (7, 17), (7, 17), (7, 17), (7, 17), (4, 3), (7, 6), (4, 3), (7, 6)], ci_11, cp_11, S)) := by
  refine (RunK_iff [] 16 55 (0, [zA 9, zA 1], [], ([(5, 9), (2, 5), (7, 17), (7, 17), (7, 17), (7, 17), (7, 17), (4, 3), (7, 6), (4, 3)], ci_9, cp_9, S)) _).mp (show ∃ w : PV1, Run 171 (0, [zA 10, zI ((-1)), zU, zU], [], ([(5, 9), (2, 5), (7, 17), (7, 17), (7, 17), (7, 17), (7, 17), (4, 3), (7, 6), (4, 3), (7, 6)], ci_10, cp_10, S)) w ∧ Run 55 (31, [zA 9, zA 1], w.1.toList ++ [], w.2) _ from ⟨_, Run_fill (h := ([(5, 9), (2, 5), (7, 17), (7, 17), (7, 17), (7, 17), (7, 17), (4, 3), (7, 6), (4, 3), (7, 6)], ci_10, cp_10, S)) (r := 10) (n := 6) (x := (-1)) rfl (by omega) (by decide), ?_⟩)
  exact (RunK_iff [] 1 55 (31, [zA 9, zA 1], [], ([(5, 9), (2, 5), (7, 17), (7, 17), (7, 17), (7, 17), (7, 17), (4, 3), (7, 6), (4, 3), (7, 6)], (zfill ci_10 10 6 ((-1))), cp_10, S)) _).mp (show _ = _ from rfl)
def ci_12 : Nat → Nat → Int := (fun i => if i = 11 then (fun _ => 0) else ci_11 i)
def cp_12 : Nat → Nat → Option Nat := (fun i => if i = 11 then (fun _ => none) else (zs2 cp_11 0 2 (some 9)) i)
def ci_13 : Nat → Nat → Int := (fun i => if i = 14 then (fun _ => 0) else (fun i => if i = 13 then (fun _ => 0) else (fun i => if i = 12 then (fun _ => 0) else ci_12 i) i) i)
def cp_13 : Nat → Nat → Option Nat := (zs2 (zs2 (zs2 cp_12 11 1 (some 12)) 11 2 (some 13)) 11 3 (some 14))
def ci_14 : Nat → Nat → Int := (fun i => if i = 18 then (fun _ => 0) else (fun i => if i = 17 then (fun _ => 0) else (fun i => if i = 16 then (fun _ => 0) else (fun i => if i = 15 then (fun _ => 0) else ci_13 i) i) i) i)
def cp_14 : Nat → Nat → Option Nat := (zs2 (zs2 (zs2 (zs2 cp_13 11 4 (some 15)) 11 5 (some 16)) 11 6 (some 17)) 11 7 (some 18))
def ci_15 : Nat → Nat → Int := (zs2 (zs2 (zs2 ci_14 11 8 0) 11 9 0) 11 10 0)
def cp_15 : Nat → Nat → Option Nat := (zs2 cp_14 11 0 (some 1))
set_option maxRecDepth 100000 in
theorem ct_4 (S : PS) : Run 38 (0, [zA 11, zA 1], [], ([(5, 9), (2, 5), (7, 17), (7, 17), (7, 17), (7, 17), (7, 17), (4, 3), (7, 6), (4, 3), (7, 6), (3, 11)], ci_12, cp_12, S)) (none, ([(5, 9), (2, 5), (7, 17), (7, 17), (7, 17), (7, 17), (7, 17), (4, 3), (7, 6), (4, 3), (7, 6), (3, 11), (7, 6), (7, 6), (7, 6), (7, 6), (7, 720), (7, 720), (7, 243)], ci_15, cp_15, S)) := by
  refine (RunK_iff [] 16 38 (0, [zA 11, zA 1], [], ([(5, 9), (2, 5), (7, 17), (7, 17), (7, 17), (7, 17), (7, 17), (4, 3), (7, 6), (4, 3), (7, 6), (3, 11)], ci_12, cp_12, S)) _).mp (show Run 38 (31, [zA 11, zA 1], [zI 6, zA 11], ([(5, 9), (2, 5), (7, 17), (7, 17), (7, 17), (7, 17), (7, 17), (4, 3), (7, 6), (4, 3), (7, 6), (3, 11), (7, 6), (7, 6), (7, 6)], ci_13, cp_13, S)) _ from ?_)
  refine (RunK_iff [] 16 38 (31, [zA 11, zA 1], [zI 6, zA 11], ([(5, 9), (2, 5), (7, 17), (7, 17), (7, 17), (7, 17), (7, 17), (4, 3), (7, 6), (4, 3), (7, 6), (3, 11), (7, 6), (7, 6), (7, 6)], ci_13, cp_13, S)) _).mp (show Run 38 (65, [zA 11, zA 1], [zI 0, zA 11], ([(5, 9), (2, 5), (7, 17), (7, 17), (7, 17), (7, 17), (7, 17), (4, 3), (7, 6), (4, 3), (7, 6), (3, 11), (7, 6), (7, 6), (7, 6), (7, 6), (7, 720), (7, 720), (7, 243)], ci_14, cp_14, S)) _ from ?_)
  exact (RunK_iff [] 11 38 (65, [zA 11, zA 1], [zI 0, zA 11], ([(5, 9), (2, 5), (7, 17), (7, 17), (7, 17), (7, 17), (7, 17), (4, 3), (7, 6), (4, 3), (7, 6), (3, 11), (7, 6), (7, 6), (7, 6), (7, 6), (7, 720), (7, 720), (7, 243)], ci_14, cp_14, S)) _).mp (show _ = _ from rfl)
def ci_16 : Nat → Nat → Int := (fun i => if i = 19 then (fun _ => 0) else ci_15 i)
def cp_16 : Nat → Nat → Option Nat := (fun i => if i = 19 then (fun _ => none) else (zs2 cp_15 0 3 (some 11)) i)
def ci_17 : Nat → Nat → Int := (fun i => if i = 22 then (fun _ => 0) else (fun i => if i = 21 then (fun _ => 0) else (fun i => if i = 20 then (fun _ => 0) else ci_16 i) i) i)
def cp_17 : Nat → Nat → Option Nat := (zs2 (zs2 (zs2 cp_16 19 0 (some 20)) 19 1 (some 21)) 19 2 (some 22))
def ci_18 : Nat → Nat → Int := (zs2 (zs2 (fun i => if i = 24 then (fun _ => 0) else (fun i => if i = 23 then (fun _ => 0) else ci_17 i) i) 19 5 0) 19 6 0)
def cp_18 : Nat → Nat → Option Nat := (zs2 (zs2 cp_17 19 3 (some 23)) 19 4 (some 24))
set_option maxRecDepth 100000 in
theorem ct_5 (S : PS) : Run 0 (0, [zA 19], [], ([(5, 9), (2, 5), (7, 17), (7, 17), (7, 17), (7, 17), (7, 17), (4, 3), (7, 6), (4, 3), (7, 6), (3, 11), (7, 6), (7, 6), (7, 6), (7, 6), (7, 720), (7, 720), (7, 243), (0, 7)], ci_16, cp_16, S)) (none, ([(5, 9), (2, 5), (7, 17), (7, 17), (7, 17), (7, 17), (7, 17), (4, 3), (7, 6), (4, 3), (7, 6), (3, 11), (7, 6), (7, 6), (7, 6), (7, 6), (7, 720), (7, 720), (7, 243), (0, 7), (7, 20), (7, 20), (7, 20), (7, 20), (7, 20)], ci_18, cp_18, S)) := by
  refine (RunK_iff [] 16 0 (0, [zA 19], [], ([(5, 9), (2, 5), (7, 17), (7, 17), (7, 17), (7, 17), (7, 17), (4, 3), (7, 6), (4, 3), (7, 6), (3, 11), (7, 6), (7, 6), (7, 6), (7, 6), (7, 720), (7, 720), (7, 243), (0, 7)], ci_16, cp_16, S)) _).mp (show Run 0 (31, [zA 19], [zI 20, zA 19], ([(5, 9), (2, 5), (7, 17), (7, 17), (7, 17), (7, 17), (7, 17), (4, 3), (7, 6), (4, 3), (7, 6), (3, 11), (7, 6), (7, 6), (7, 6), (7, 6), (7, 720), (7, 720), (7, 243), (0, 7), (7, 20), (7, 20), (7, 20)], ci_17, cp_17, S)) _ from ?_)
  exact (RunK_iff [] 13 0 (31, [zA 19], [zI 20, zA 19], ([(5, 9), (2, 5), (7, 17), (7, 17), (7, 17), (7, 17), (7, 17), (4, 3), (7, 6), (4, 3), (7, 6), (3, 11), (7, 6), (7, 6), (7, 6), (7, 6), (7, 720), (7, 720), (7, 243), (0, 7), (7, 20), (7, 20), (7, 20)], ci_17, cp_17, S)) _).mp (show _ = _ from rfl)
def ci_19 : Nat → Nat → Int := (fun i => if i = 25 then (fun _ => 0) else ci_18 i)
def cp_19 : Nat → Nat → Option Nat := (fun i => if i = 25 then (fun _ => none) else (zs2 cp_18 0 4 (some 19)) i)
def ci_20 : Nat → Nat → Int := (zs2 (fun i => if i = 27 then (fun _ => 0) else (fun i => if i = 26 then (fun _ => 0) else ci_19 i) i) 25 2 0)
def cp_20 : Nat → Nat → Option Nat := (zs2 (zs2 cp_19 25 0 (some 26)) 25 1 (some 27))
set_option maxRecDepth 100000 in
theorem ct_6 (S : PS) : Run 12 (0, [zA 25], [], ([(5, 9), (2, 5), (7, 17), (7, 17), (7, 17), (7, 17), (7, 17), (4, 3), (7, 6), (4, 3), (7, 6), (3, 11), (7, 6), (7, 6), (7, 6), (7, 6), (7, 720), (7, 720), (7, 243), (0, 7), (7, 20), (7, 20), (7, 20), (7, 20), (7, 20), (1, 3)], ci_19, cp_19, S)) (none, ([(5, 9), (2, 5), (7, 17), (7, 17), (7, 17), (7, 17), (7, 17), (4, 3), (7, 6), (4, 3), (7, 6), (3, 11), (7, 6), (7, 6), (7, 6), (7, 6), (7, 720), (7, 720), (7, 243), (0, 7), (7, 20), (7, 20), (7, 20), (7, 20), (7, 20), (1, 3), (7, 16), (7, 16)], ci_20, cp_20, S)) := by
  exact (RunK_iff [] 14 12 (0, [zA 25], [], ([(5, 9), (2, 5), (7, 17), (7, 17), (7, 17), (7, 17), (7, 17), (4, 3), (7, 6), (4, 3), (7, 6), (3, 11), (7, 6), (7, 6), (7, 6), (7, 6), (7, 720), (7, 720), (7, 243), (0, 7), (7, 20), (7, 20), (7, 20), (7, 20), (7, 20), (1, 3)], ci_19, cp_19, S)) _).mp (show _ = _ from rfl)
def ci_21 : Nat → Nat → Int := (fun i => if i = 28 then (fun _ => 0) else ci_20 i)
def cp_21 : Nat → Nat → Option Nat := (fun i => if i = 28 then (fun _ => none) else (zs2 cp_20 0 5 (some 25)) i)
def ci_22 : Nat → Nat → Int := (zs2 (fun i => if i = 30 then (fun _ => 0) else (fun i => if i = 29 then (fun _ => 0) else ci_21 i) i) 28 2 0)
def cp_22 : Nat → Nat → Option Nat := (zs2 (zs2 cp_21 28 0 (some 29)) 28 1 (some 30))
set_option maxRecDepth 100000 in
theorem ct_7 (S : PS) : Run 12 (0, [zA 28], [], ([(5, 9), (2, 5), (7, 17), (7, 17), (7, 17), (7, 17), (7, 17), (4, 3), (7, 6), (4, 3), (7, 6), (3, 11), (7, 6), (7, 6), (7, 6), (7, 6), (7, 720), (7, 720), (7, 243), (0, 7), (7, 20), (7, 20), (7, 20), (7, 20), (7, 20), (1, 3), (7, 16), (7, 16), (1, 3)], ci_21, cp_21, S)) (none, ([(5, 9), (2, 5), (7, 17), (7, 17), (7, 17), (7, 17), (7, 17), (4, 3), (7, 6), (4, 3), (7, 6), (3, 11), (7, 6), (7, 6), (7, 6), (7, 6), (7, 720), (7, 720), (7, 243), (0, 7), (7, 20), (7, 20), (7, 20), (7, 20), (7, 20), (1, 3), (7, 16), (7, 16), (1, 3), (7, 16), (7, 16)], ci_22, cp_22, S)) := by
  exact (RunK_iff [] 14 12 (0, [zA 28], [], ([(5, 9), (2, 5), (7, 17), (7, 17), (7, 17), (7, 17), (7, 17), (4, 3), (7, 6), (4, 3), (7, 6), (3, 11), (7, 6), (7, 6), (7, 6), (7, 6), (7, 720), (7, 720), (7, 243), (0, 7), (7, 20), (7, 20), (7, 20), (7, 20), (7, 20), (1, 3), (7, 16), (7, 16), (1, 3)], ci_21, cp_21, S)) _).mp (show _ = _ from rfl)
def ci_23 : Nat → Nat → Int := (zs2 (fun i => if i = 31 then (fun _ => 0) else ci_22 i) 0 8 0)
def cp_23 : Nat → Nat → Option Nat := (zs2 (zs2 cp_22 0 6 (some 28)) 0 7 (some 31))
set_option maxRecDepth 100000 in
theorem ct_8 (S : PS) : Run 77 (0, [zA 0], [], ([(5, 9)], ci_1, cp_1, S)) (none, ([(5, 9), (2, 5), (7, 17), (7, 17), (7, 17), (7, 17), (7, 17), (4, 3), (7, 6), (4, 3), (7, 6), (3, 11), (7, 6), (7, 6), (7, 6), (7, 6), (7, 720), (7, 720), (7, 243), (0, 7), (7, 20), (7, 20), (7, 20), (7, 20), (7, 20), (1, 3), (7, 16), (7, 16), (1, 3), (7, 16), (7, 16), (7, 32)], ci_23, cp_23, S)) := by
  refine (RunK_iff [] 6 77 (0, [zA 0], [], ([(5, 9)], ci_1, cp_1, S)) _).mp (show ∃ w : PV1, Run 19 (0, [zA 1], [], ([(5, 9), (2, 5)], ci_2, cp_2, S)) w ∧ Run 77 (12, [zA 0], w.1.toList ++ [zA 1, zA 0], w.2) _ from ⟨_, ct_1 S, ?_⟩)
  refine (RunK_iff [] 7 77 (12, [zA 0], [zA 1, zA 0], ([(5, 9), (2, 5), (7, 17), (7, 17), (7, 17), (7, 17), (7, 17)], ci_5, cp_5, S)) _).mp (show ∃ w : PV1, Run 55 (0, [zA 7, zA 1], [], ([(5, 9), (2, 5), (7, 17), (7, 17), (7, 17), (7, 17), (7, 17), (4, 3)], ci_6, cp_6, S)) w ∧ Run 77 (27, [zA 0], w.1.toList ++ [zA 7, zA 0], w.2) _ from ⟨_, ct_2 S, ?_⟩)
  refine (RunK_iff [] 7 77 (27, [zA 0], [zA 7, zA 0], ([(5, 9), (2, 5), (7, 17), (7, 17), (7, 17), (7, 17), (7, 17), (4, 3), (7, 6)], ci_8, cp_8, S)) _).mp (show ∃ w : PV1, Run 55 (0, [zA 9, zA 1], [], ([(5, 9), (2, 5), (7, 17), (7, 17), (7, 17), (7, 17), (7, 17), (4, 3), (7, 6), (4, 3)], ci_9, cp_9, S)) w ∧ Run 77 (42, [zA 0], w.1.toList ++ [zA 9, zA 0], w.2) _ from ⟨_, ct_3 S, ?_⟩)
  refine (RunK_iff [] 7 77 (42, [zA 0], [zA 9, zA 0], ([(5, 9), (2, 5), (7, 17), (7, 17), (7, 17), (7, 17), (7, 17), (4, 3), (7, 6), (4, 3), (7, 6)], ci_11, cp_11, S)) _).mp (show ∃ w : PV1, Run 38 (0, [zA 11, zA 1], [], ([(5, 9), (2, 5), (7, 17), (7, 17), (7, 17), (7, 17), (7, 17), (4, 3), (7, 6), (4, 3), (7, 6), (3, 11)], ci_12, cp_12, S)) w ∧ Run 77 (57, [zA 0], w.1.toList ++ [zA 11, zA 0], w.2) _ from ⟨_, ct_4 S, ?_⟩)
  refine (RunK_iff [] 5 77 (57, [zA 0], [zA 11, zA 0], ([(5, 9), (2, 5), (7, 17), (7, 17), (7, 17), (7, 17), (7, 17), (4, 3), (7, 6), (4, 3), (7, 6), (3, 11), (7, 6), (7, 6), (7, 6), (7, 6), (7, 720), (7, 720), (7, 243)], ci_15, cp_15, S)) _).mp (show ∃ w : PV1, Run 0 (0, [zA 19], [], ([(5, 9), (2, 5), (7, 17), (7, 17), (7, 17), (7, 17), (7, 17), (4, 3), (7, 6), (4, 3), (7, 6), (3, 11), (7, 6), (7, 6), (7, 6), (7, 6), (7, 720), (7, 720), (7, 243), (0, 7)], ci_16, cp_16, S)) w ∧ Run 77 (68, [zA 0], w.1.toList ++ [zA 19, zA 0], w.2) _ from ⟨_, ct_5 S, ?_⟩)
  refine (RunK_iff [] 5 77 (68, [zA 0], [zA 19, zA 0], ([(5, 9), (2, 5), (7, 17), (7, 17), (7, 17), (7, 17), (7, 17), (4, 3), (7, 6), (4, 3), (7, 6), (3, 11), (7, 6), (7, 6), (7, 6), (7, 6), (7, 720), (7, 720), (7, 243), (0, 7), (7, 20), (7, 20), (7, 20), (7, 20), (7, 20)], ci_18, cp_18, S)) _).mp (show ∃ w : PV1, Run 12 (0, [zA 25], [], ([(5, 9), (2, 5), (7, 17), (7, 17), (7, 17), (7, 17), (7, 17), (4, 3), (7, 6), (4, 3), (7, 6), (3, 11), (7, 6), (7, 6), (7, 6), (7, 6), (7, 720), (7, 720), (7, 243), (0, 7), (7, 20), (7, 20), (7, 20), (7, 20), (7, 20), (1, 3)], ci_19, cp_19, S)) w ∧ Run 77 (79, [zA 0], w.1.toList ++ [zA 25, zA 0], w.2) _ from ⟨_, ct_6 S, ?_⟩)
  refine (RunK_iff [] 5 77 (79, [zA 0], [zA 25, zA 0], ([(5, 9), (2, 5), (7, 17), (7, 17), (7, 17), (7, 17), (7, 17), (4, 3), (7, 6), (4, 3), (7, 6), (3, 11), (7, 6), (7, 6), (7, 6), (7, 6), (7, 720), (7, 720), (7, 243), (0, 7), (7, 20), (7, 20), (7, 20), (7, 20), (7, 20), (1, 3), (7, 16), (7, 16)], ci_20, cp_20, S)) _).mp (show ∃ w : PV1, Run 12 (0, [zA 28], [], ([(5, 9), (2, 5), (7, 17), (7, 17), (7, 17), (7, 17), (7, 17), (4, 3), (7, 6), (4, 3), (7, 6), (3, 11), (7, 6), (7, 6), (7, 6), (7, 6), (7, 720), (7, 720), (7, 243), (0, 7), (7, 20), (7, 20), (7, 20), (7, 20), (7, 20), (1, 3), (7, 16), (7, 16), (1, 3)], ci_21, cp_21, S)) w ∧ Run 77 (90, [zA 0], w.1.toList ++ [zA 28, zA 0], w.2) _ from ⟨_, ct_7 S, ?_⟩)
  exact (RunK_iff [] 9 77 (90, [zA 0], [zA 28, zA 0], ([(5, 9), (2, 5), (7, 17), (7, 17), (7, 17), (7, 17), (7, 17), (4, 3), (7, 6), (4, 3), (7, 6), (3, 11), (7, 6), (7, 6), (7, 6), (7, 6), (7, 720), (7, 720), (7, 243), (0, 7), (7, 20), (7, 20), (7, 20), (7, 20), (7, 20), (1, 3), (7, 16), (7, 16), (1, 3), (7, 16), (7, 16)], ci_22, cp_22, S)) _).mp (show _ = _ from rfl)
def ci_24 : Nat → Nat → Int := (fun i => if i = 32 then (fun _ => 0) else ci_23 i)
def cp_24 : Nat → Nat → Option Nat := (fun i => if i = 32 then (fun _ => none) else cp_23 i)
def ci_25 : Nat → Nat → Int := (fun i => if i = 35 then (fun _ => 0) else (fun i => if i = 34 then (fun _ => 0) else (fun i => if i = 33 then (fun _ => 0) else ci_24 i) i) i)
def cp_25 : Nat → Nat → Option Nat := (zs2 (zs2 (zs2 cp_24 32 0 (some 33)) 32 1 (some 34)) 32 2 (some 35))
def ci_26 : Nat → Nat → Int := (fun i => if i = 39 then (fun _ => 0) else (zs2 (fun i => if i = 38 then (fun _ => 0) else (fun i => if i = 37 then (fun _ => 0) else (fun i => if i = 36 then (fun _ => 0) else ci_25 i) i) i) 32 6 6) i)
def cp_26 : Nat → Nat → Option Nat := (zs2 (zs2 (zs2 cp_25 32 3 (some 36)) 32 4 (some 37)) 32 5 (some 38))
def ci_27 : Nat → Nat → Int := (fun i => if i = 43 then (fun _ => 0) else (fun i => if i = 42 then (fun _ => 0) else (fun i => if i = 41 then (fun _ => 0) else (fun i => if i = 40 then (fun _ => 0) else ci_26 i) i) i) i)
def cp_27 : Nat → Nat → Option Nat := (zs2 (zs2 (zs2 (zs2 cp_26 32 8 (some 39)) 32 10 (some 40)) 32 11 (some 41)) 32 12 (some 42))
def ci_28 : Nat → Nat → Int := (fun i => if i = 47 then (fun _ => 0) else (fun i => if i = 46 then (fun _ => 0) else (fun i => if i = 45 then (fun _ => 0) else (fun i => if i = 44 then (fun _ => 0) else ci_27 i) i) i) i)
def cp_28 : Nat → Nat → Option Nat := (zs2 (zs2 (zs2 (zs2 cp_27 32 13 (some 43)) 32 14 (some 44)) 32 15 (some 45)) 32 17 (some 46))
def ci_29 : Nat → Nat → Int := (fun i => if i = 50 then (fun _ => 0) else (fun i => if i = 49 then (fun _ => 0) else (fun i => if i = 48 then (fun _ => 0) else ci_28 i) i) i)
def cp_29 : Nat → Nat → Option Nat := (zs2 (zs2 (zs2 (zs2 cp_28 32 19 (some 47)) 32 22 (some 48)) 32 23 (some 49)) 32 24 (some 50))
def ci_30 : Nat → Nat → Int := (zfill ci_29 39 12 (-2))
def cp_30 : Nat → Nat → Option Nat := cp_29
set_option maxRecDepth 100000 in
theorem ct_9 (S : PS) : Run 116 (0, [zA 32], [], ([(5, 9), (2, 5), (7, 17), (7, 17), (7, 17), (7, 17), (7, 17), (4, 3), (7, 6), (4, 3), (7, 6), (3, 11), (7, 6), (7, 6), (7, 6), (7, 6), (7, 720), (7, 720), (7, 243), (0, 7), (7, 20), (7, 20), (7, 20), (7, 20), (7, 20), (1, 3), (7, 16), (7, 16), (1, 3), (7, 16), (7, 16), (7, 32), (6, 25)], ci_24, cp_24, S)) (none, ([(5, 9), (2, 5), (7, 17), (7, 17), (7, 17), (7, 17), (7, 17), (4, 3), (7, 6), (4, 3), (7, 6), (3, 11), (7, 6), (7, 6), (7, 6), (7, 6), (7, 720), (7, 720), (7, 243), (0, 7), (7, 20), (7, 20), (7, 20), (7, 20), (7, 20), (1, 3), (7, 16), (7, 16), (1, 3), (7, 16), (7, 16), (7, 32), (6, 25), (8, 16), (7, 16), (7, 17), (7, 17), (7, 17), (7, 16), (7, 12), (7, 320), (8, 117649), (7, 2000), (7, 2000), (7, 2000), (7, 2000), (7, 6), (7, 6), (7, 2000), (7, 2000), (7, 32)], ci_30, cp_30, S)) := by
  refine (RunK_iff [] 16 116 (0, [zA 32], [], ([(5, 9), (2, 5), (7, 17), (7, 17), (7, 17), (7, 17), (7, 17), (4, 3), (7, 6), (4, 3), (7, 6), (3, 11), (7, 6), (7, 6), (7, 6), (7, 6), (7, 720), (7, 720), (7, 243), (0, 7), (7, 20), (7, 20), (7, 20), (7, 20), (7, 20), (1, 3), (7, 16), (7, 16), (1, 3), (7, 16), (7, 16), (7, 32), (6, 25)], ci_24, cp_24, S)) _).mp (show Run 116 (31, [zA 32], [zI 17, zA 32], ([(5, 9), (2, 5), (7, 17), (7, 17), (7, 17), (7, 17), (7, 17), (4, 3), (7, 6), (4, 3), (7, 6), (3, 11), (7, 6), (7, 6), (7, 6), (7, 6), (7, 720), (7, 720), (7, 243), (0, 7), (7, 20), (7, 20), (7, 20), (7, 20), (7, 20), (1, 3), (7, 16), (7, 16), (1, 3), (7, 16), (7, 16), (7, 32), (6, 25), (8, 16), (7, 16), (7, 17)], ci_25, cp_25, S)) _ from ?_)
  refine (RunK_iff [] 16 116 (31, [zA 32], [zI 17, zA 32], ([(5, 9), (2, 5), (7, 17), (7, 17), (7, 17), (7, 17), (7, 17), (4, 3), (7, 6), (4, 3), (7, 6), (3, 11), (7, 6), (7, 6), (7, 6), (7, 6), (7, 720), (7, 720), (7, 243), (0, 7), (7, 20), (7, 20), (7, 20), (7, 20), (7, 20), (1, 3), (7, 16), (7, 16), (1, 3), (7, 16), (7, 16), (7, 32), (6, 25), (8, 16), (7, 16), (7, 17)], ci_25, cp_25, S)) _).mp (show Run 116 (63, [zA 32], [zA 39, zA 32], ([(5, 9), (2, 5), (7, 17), (7, 17), (7, 17), (7, 17), (7, 17), (4, 3), (7, 6), (4, 3), (7, 6), (3, 11), (7, 6), (7, 6), (7, 6), (7, 6), (7, 720), (7, 720), (7, 243), (0, 7), (7, 20), (7, 20), (7, 20), (7, 20), (7, 20), (1, 3), (7, 16), (7, 16), (1, 3), (7, 16), (7, 16), (7, 32), (6, 25), (8, 16), (7, 16), (7, 17), (7, 17), (7, 17), (7, 16), (7, 12)], ci_26, cp_26, S)) _ from ?_)
  refine (RunK_iff [] 16 116 (63, [zA 32], [zA 39, zA 32], ([(5, 9), (2, 5), (7, 17), (7, 17), (7, 17), (7, 17), (7, 17), (4, 3), (7, 6), (4, 3), (7, 6), (3, 11), (7, 6), (7, 6), (7, 6), (7, 6), (7, 720), (7, 720), (7, 243), (0, 7), (7, 20), (7, 20), (7, 20), (7, 20), (7, 20), (1, 3), (7, 16), (7, 16), (1, 3), (7, 16), (7, 16), (7, 32), (6, 25), (8, 16), (7, 16), (7, 17), (7, 17), (7, 17), (7, 16), (7, 12)], ci_26, cp_26, S)) _).mp (show Run 116 (98, [zA 32], [zA 43, zA 32], ([(5, 9), (2, 5), (7, 17), (7, 17), (7, 17), (7, 17), (7, 17), (4, 3), (7, 6), (4, 3), (7, 6), (3, 11), (7, 6), (7, 6), (7, 6), (7, 6), (7, 720), (7, 720), (7, 243), (0, 7), (7, 20), (7, 20), (7, 20), (7, 20), (7, 20), (1, 3), (7, 16), (7, 16), (1, 3), (7, 16), (7, 16), (7, 32), (6, 25), (8, 16), (7, 16), (7, 17), (7, 17), (7, 17), (7, 16), (7, 12), (7, 320), (8, 117649), (7, 2000), (7, 2000)], ci_27, cp_27, S)) _ from ?_)
  refine (RunK_iff [] 16 116 (98, [zA 32], [zA 43, zA 32], ([(5, 9), (2, 5), (7, 17), (7, 17), (7, 17), (7, 17), (7, 17), (4, 3), (7, 6), (4, 3), (7, 6), (3, 11), (7, 6), (7, 6), (7, 6), (7, 6), (7, 720), (7, 720), (7, 243), (0, 7), (7, 20), (7, 20), (7, 20), (7, 20), (7, 20), (1, 3), (7, 16), (7, 16), (1, 3), (7, 16), (7, 16), (7, 32), (6, 25), (8, 16), (7, 16), (7, 17), (7, 17), (7, 17), (7, 16), (7, 12), (7, 320), (8, 117649), (7, 2000), (7, 2000)], ci_27, cp_27, S)) _).mp (show Run 116 (132, [zA 32], [zA 47, zA 32], ([(5, 9), (2, 5), (7, 17), (7, 17), (7, 17), (7, 17), (7, 17), (4, 3), (7, 6), (4, 3), (7, 6), (3, 11), (7, 6), (7, 6), (7, 6), (7, 6), (7, 720), (7, 720), (7, 243), (0, 7), (7, 20), (7, 20), (7, 20), (7, 20), (7, 20), (1, 3), (7, 16), (7, 16), (1, 3), (7, 16), (7, 16), (7, 32), (6, 25), (8, 16), (7, 16), (7, 17), (7, 17), (7, 17), (7, 16), (7, 12), (7, 320), (8, 117649), (7, 2000), (7, 2000), (7, 2000), (7, 2000), (7, 6), (7, 6)], ci_28, cp_28, S)) _ from ?_)
  refine (RunK_iff [] 15 116 (132, [zA 32], [zA 47, zA 32], ([(5, 9), (2, 5), (7, 17), (7, 17), (7, 17), (7, 17), (7, 17), (4, 3), (7, 6), (4, 3), (7, 6), (3, 11), (7, 6), (7, 6), (7, 6), (7, 6), (7, 720), (7, 720), (7, 243), (0, 7), (7, 20), (7, 20), (7, 20), (7, 20), (7, 20), (1, 3), (7, 16), (7, 16), (1, 3), (7, 16), (7, 16), (7, 32), (6, 25), (8, 16), (7, 16), (7, 17), (7, 17), (7, 17), (7, 16), (7, 12), (7, 320), (8, 117649), (7, 2000), (7, 2000), (7, 2000), (7, 2000), (7, 6), (7, 6)], ci_28, cp_28, S)) _).mp (show ∃ w : PV1, Run 117 (0, [zA 32, zU], [], ([(5, 9), (2, 5), (7, 17), (7, 17), (7, 17), (7, 17), (7, 17), (4, 3), (7, 6), (4, 3), (7, 6), (3, 11), (7, 6), (7, 6), (7, 6), (7, 6), (7, 720), (7, 720), (7, 243), (0, 7), (7, 20), (7, 20), (7, 20), (7, 20), (7, 20), (1, 3), (7, 16), (7, 16), (1, 3), (7, 16), (7, 16), (7, 32), (6, 25), (8, 16), (7, 16), (7, 17), (7, 17), (7, 17), (7, 16), (7, 12), (7, 320), (8, 117649), (7, 2000), (7, 2000), (7, 2000), (7, 2000), (7, 6), (7, 6), (7, 2000), (7, 2000), (7, 32)], ci_29, cp_29, S)) w ∧ Run 116 (165, [zA 32], w.1.toList ++ [], w.2) _ from ⟨_, Run_clear (h := ([(5, 9), (2, 5), (7, 17), (7, 17), (7, 17), (7, 17), (7, 17), (4, 3), (7, 6), (4, 3), (7, 6), (3, 11), (7, 6), (7, 6), (7, 6), (7, 6), (7, 720), (7, 720), (7, 243), (0, 7), (7, 20), (7, 20), (7, 20), (7, 20), (7, 20), (1, 3), (7, 16), (7, 16), (1, 3), (7, 16), (7, 16), (7, 32), (6, 25), (8, 16), (7, 16), (7, 17), (7, 17), (7, 17), (7, 16), (7, 12), (7, 320), (8, 117649), (7, 2000), (7, 2000), (7, 2000), (7, 2000), (7, 6), (7, 6), (7, 2000), (7, 2000), (7, 32)], ci_29, cp_29, S)) rfl rfl rfl, ?_⟩)
  exact (RunK_iff [] 1 116 (165, [zA 32], [], ([(5, 9), (2, 5), (7, 17), (7, 17), (7, 17), (7, 17), (7, 17), (4, 3), (7, 6), (4, 3), (7, 6), (3, 11), (7, 6), (7, 6), (7, 6), (7, 6), (7, 720), (7, 720), (7, 243), (0, 7), (7, 20), (7, 20), (7, 20), (7, 20), (7, 20), (1, 3), (7, 16), (7, 16), (1, 3), (7, 16), (7, 16), (7, 32), (6, 25), (8, 16), (7, 16), (7, 17), (7, 17), (7, 17), (7, 16), (7, 12), (7, 320), (8, 117649), (7, 2000), (7, 2000), (7, 2000), (7, 2000), (7, 6), (7, 6), (7, 2000), (7, 2000), (7, 32)], (zfill ci_29 39 12 (-2)), cp_29, S)) _).mp (show _ = _ from rfl)
