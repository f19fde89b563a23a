/-! every instruction, and the whole -/
def zil (r : PR) : Prop := ∃ l, r = .inl l
theorem zil_cond {c : Bool} {x y : PR} (h1 : zil x) (h2 : zil y) : zil (cond c x y) := by cases c <;> assumption
theorem zil_cm {c : Nat} {x y : Int} {pc1 pc2 : Nat} {ls st : List PV} {h : PH} : zil (zcm c x y pc1 pc2 ls st h) := by
  unfold zcm; split <;> exact ⟨_, rfl⟩
theorem zil_all : ∀ (op : Nat) (f : PF), ptab[op]? = some f → op ≠ 40 → op ≠ 41 → op ≠ 42 → op ≠ 43 → op ≠ 44 → op ≠ 48 → op ≠ 49 → op ≠ 50 → ∀ len a b d z ts pc ls st h, zil (f len a b d z ts pc ls st h) := by
  intro op f hf h40 h41 h42 h43 h44 h48 h49 h50 len a b d z ts pc ls st h
  match op, hf with
  | 0, hf => cases hf; exact ⟨_, rfl⟩
  | 1, hf =>
    cases hf
    unfold h_ilo
    (repeat' split)
    all_goals first | exact ⟨_, rfl⟩ | exact zil_cond ⟨_, rfl⟩ ⟨_, rfl⟩ | exact zil_cm
  | 2, hf =>
    cases hf
    unfold h_alo
    (repeat' split)
    all_goals first | exact ⟨_, rfl⟩ | exact zil_cond ⟨_, rfl⟩ ⟨_, rfl⟩ | exact zil_cm
  | 3, hf =>
    cases hf
    unfold h_ist
    (repeat' split)
    all_goals first | exact ⟨_, rfl⟩ | exact zil_cond ⟨_, rfl⟩ ⟨_, rfl⟩ | exact zil_cm
  | 4, hf =>
    cases hf
    unfold h_ast
    (repeat' split)
    all_goals first | exact ⟨_, rfl⟩ | exact zil_cond ⟨_, rfl⟩ ⟨_, rfl⟩ | exact zil_cm
  | 5, hf => cases hf; exact ⟨_, rfl⟩
  | 6, hf => cases hf; exact ⟨_, rfl⟩
  | 7, hf =>
    cases hf
    unfold h_gfi
    (repeat' split)
    all_goals first | exact ⟨_, rfl⟩ | exact zil_cond ⟨_, rfl⟩ ⟨_, rfl⟩ | exact zil_cm
  | 8, hf =>
    cases hf
    unfold h_gfr
    (repeat' split)
    all_goals first | exact ⟨_, rfl⟩ | exact zil_cond ⟨_, rfl⟩ ⟨_, rfl⟩ | exact zil_cm
  | 9, hf =>
    cases hf
    unfold h_pfi
    (repeat' split)
    all_goals first | exact ⟨_, rfl⟩ | exact zil_cond ⟨_, rfl⟩ ⟨_, rfl⟩ | exact zil_cm
  | 10, hf =>
    cases hf
    unfold h_pfr
    (repeat' split)
    all_goals first | exact ⟨_, rfl⟩ | exact zil_cond ⟨_, rfl⟩ ⟨_, rfl⟩ | exact zil_cm
  | 11, hf =>
    cases hf
    unfold h_ald
    (repeat' split)
    all_goals first | exact ⟨_, rfl⟩ | exact zil_cond ⟨_, rfl⟩ ⟨_, rfl⟩ | exact zil_cm
  | 12, hf =>
    cases hf
    unfold h_iast
    (repeat' split)
    all_goals first | exact ⟨_, rfl⟩ | exact zil_cond ⟨_, rfl⟩ ⟨_, rfl⟩ | exact zil_cm
  | 13, hf =>
    cases hf
    unfold h_ald
    (repeat' split)
    all_goals first | exact ⟨_, rfl⟩ | exact zil_cond ⟨_, rfl⟩ ⟨_, rfl⟩ | exact zil_cm
  | 14, hf =>
    cases hf
    unfold h_zast
    (repeat' split)
    all_goals first | exact ⟨_, rfl⟩ | exact zil_cond ⟨_, rfl⟩ ⟨_, rfl⟩ | exact zil_cm
  | 15, hf =>
    cases hf
    unfold h_aln
    (repeat' split)
    all_goals first | exact ⟨_, rfl⟩ | exact zil_cond ⟨_, rfl⟩ ⟨_, rfl⟩ | exact zil_cm
  | 16, hf =>
    cases hf
    unfold h_bin
    (repeat' split)
    all_goals first | exact ⟨_, rfl⟩ | exact zil_cond ⟨_, rfl⟩ ⟨_, rfl⟩ | exact zil_cm
  | 17, hf =>
    cases hf
    unfold h_bin
    (repeat' split)
    all_goals first | exact ⟨_, rfl⟩ | exact zil_cond ⟨_, rfl⟩ ⟨_, rfl⟩ | exact zil_cm
  | 18, hf =>
    cases hf
    unfold h_bin
    (repeat' split)
    all_goals first | exact ⟨_, rfl⟩ | exact zil_cond ⟨_, rfl⟩ ⟨_, rfl⟩ | exact zil_cm
  | 19, hf =>
    cases hf
    unfold h_bin0
    (repeat' split)
    all_goals first | exact ⟨_, rfl⟩ | exact zil_cond ⟨_, rfl⟩ ⟨_, rfl⟩ | exact zil_cm
  | 20, hf =>
    cases hf
    unfold h_bin0
    (repeat' split)
    all_goals first | exact ⟨_, rfl⟩ | exact zil_cond ⟨_, rfl⟩ ⟨_, rfl⟩ | exact zil_cm
  | 21, hf =>
    cases hf
    unfold h_bin
    (repeat' split)
    all_goals first | exact ⟨_, rfl⟩ | exact zil_cond ⟨_, rfl⟩ ⟨_, rfl⟩ | exact zil_cm
  | 22, hf =>
    cases hf
    unfold h_bin
    (repeat' split)
    all_goals first | exact ⟨_, rfl⟩ | exact zil_cond ⟨_, rfl⟩ ⟨_, rfl⟩ | exact zil_cm
  | 23, hf =>
    cases hf
    unfold h_bin
    (repeat' split)
    all_goals first | exact ⟨_, rfl⟩ | exact zil_cond ⟨_, rfl⟩ ⟨_, rfl⟩ | exact zil_cm
  | 24, hf =>
    cases hf
    unfold h_bin
    (repeat' split)
    all_goals first | exact ⟨_, rfl⟩ | exact zil_cond ⟨_, rfl⟩ ⟨_, rfl⟩ | exact zil_cm
  | 25, hf =>
    cases hf
    unfold h_bin
    (repeat' split)
    all_goals first | exact ⟨_, rfl⟩ | exact zil_cond ⟨_, rfl⟩ ⟨_, rfl⟩ | exact zil_cm
  | 26, hf =>
    cases hf
    unfold h_bin
    (repeat' split)
    all_goals first | exact ⟨_, rfl⟩ | exact zil_cond ⟨_, rfl⟩ ⟨_, rfl⟩ | exact zil_cm
  | 27, hf =>
    cases hf
    unfold h_inc
    (repeat' split)
    all_goals first | exact ⟨_, rfl⟩ | exact zil_cond ⟨_, rfl⟩ ⟨_, rfl⟩ | exact zil_cm
  | 28, hf => cases hf; exact ⟨_, rfl⟩
  | 29, hf =>
    cases hf
    unfold h_ifc
    (repeat' split)
    all_goals first | exact ⟨_, rfl⟩ | exact zil_cond ⟨_, rfl⟩ ⟨_, rfl⟩ | exact zil_cm
  | 30, hf =>
    cases hf
    unfold h_icm
    (repeat' split)
    all_goals first | exact ⟨_, rfl⟩ | exact zil_cond ⟨_, rfl⟩ ⟨_, rfl⟩ | exact zil_cm
  | 31, hf =>
    cases hf
    unfold h_ifn
    (repeat' split)
    all_goals first | exact ⟨_, rfl⟩ | exact zil_cond ⟨_, rfl⟩ ⟨_, rfl⟩ | exact zil_cm
  | 32, hf =>
    cases hf
    unfold h_inn
    (repeat' split)
    all_goals first | exact ⟨_, rfl⟩ | exact zil_cond ⟨_, rfl⟩ ⟨_, rfl⟩ | exact zil_cm
  | 33, hf =>
    cases hf
    unfold h_acn
    (repeat' split)
    all_goals first | exact ⟨_, rfl⟩ | exact zil_cond ⟨_, rfl⟩ ⟨_, rfl⟩ | exact zil_cm
  | 34, hf =>
    cases hf
    unfold h_tsw
    (repeat' split)
    all_goals first | exact ⟨_, rfl⟩ | exact zil_cond ⟨_, rfl⟩ ⟨_, rfl⟩ | exact zil_cm
  | 35, hf =>
    cases hf
    unfold h_nar
    (repeat' split)
    all_goals first | exact ⟨_, rfl⟩ | exact zil_cond ⟨_, rfl⟩ ⟨_, rfl⟩ | exact zil_cm
  | 36, hf => cases hf; exact ⟨_, rfl⟩
  | 37, hf =>
    cases hf
    unfold h_dup
    (repeat' split)
    all_goals first | exact ⟨_, rfl⟩ | exact zil_cond ⟨_, rfl⟩ ⟨_, rfl⟩ | exact zil_cm
  | 38, hf =>
    cases hf
    unfold h_du2
    (repeat' split)
    all_goals first | exact ⟨_, rfl⟩ | exact zil_cond ⟨_, rfl⟩ ⟨_, rfl⟩ | exact zil_cm
  | 39, hf =>
    cases hf
    unfold h_pop
    (repeat' split)
    all_goals first | exact ⟨_, rfl⟩ | exact zil_cond ⟨_, rfl⟩ ⟨_, rfl⟩ | exact zil_cm
  | 40, _ => exact absurd rfl h40
  | 41, _ => exact absurd rfl h41
  | 42, _ => exact absurd rfl h42
  | 43, _ => exact absurd rfl h43
  | 44, _ => exact absurd rfl h44
  | 45, hf =>
    cases hf
    unfold h_oin
    (repeat' split)
    all_goals first | exact ⟨_, rfl⟩ | exact zil_cond ⟨_, rfl⟩ ⟨_, rfl⟩ | exact zil_cm
  | 46, hf =>
    cases hf
    unfold h_sln
    (repeat' split)
    all_goals first | exact ⟨_, rfl⟩ | exact zil_cond ⟨_, rfl⟩ ⟨_, rfl⟩ | exact zil_cm
  | 47, hf =>
    cases hf
    unfold h_sld
    (repeat' split)
    all_goals first | exact ⟨_, rfl⟩ | exact zil_cond ⟨_, rfl⟩ ⟨_, rfl⟩ | exact zil_cm
  | 48, _ => exact absurd rfl h48
  | 49, _ => exact absurd rfl h49
  | 50, _ => exact absurd rfl h50
  | n + 51, hf => simp [ptab] at hf
theorem zinv_inl {recv : Bool} {len a b d : Nat} {z : Int} {ts : List Nat} {pc : Nat} {ls st : List PV} {h : PH} {ll : List (Bool × PT)} {q : PT} (hh : h_inv recv len a b d z ts pc ls st h = .inl ll) (hc : zch ll q) : False := by
  unfold h_inv at hh
  cases hg : (Nat.ble b st.length && (st.take b).all zpl && Nat.blt (st.length - b) 9) with
  | false => rw [hg] at hh; cases hh; exact zch_0 hc
  | true =>
    rw [hg] at hh
    simp only [cond_true] at hh
    split at hh
    · cases hh
    · split at hh
      · rename_i c n hcc
        cases hg4 : Nat.beq c z.toNat with
        | false => rw [hg4] at hh; cases hh; exact zch_0 hc
        | true => rw [hg4] at hh; cases hh
      · cases hh; exact zch_0 hc
    · cases hh; exact zch_0 hc
theorem zinv_ret {recv : Bool} {len a b d : Nat} {z : Int} {ts : List Nat} {pc : Nat} {ls st : List PV} {h : PH} {w : Bool × Option PV} (hh : h_inv recv len a b d z ts pc ls st h = .inr (.inl w)) : False := by
  unfold h_inv at hh
  cases hg : (Nat.ble b st.length && (st.take b).all zpl && Nat.blt (st.length - b) 9) with
  | false => rw [hg] at hh; cases hh
  | true =>
    rw [hg] at hh
    simp only [cond_true] at hh
    split at hh
    · cases hh
    · split at hh
      · rename_i c n hcc
        cases hg4 : Nat.beq c z.toNat with
        | false => rw [hg4] at hh; cases hh
        | true => rw [hg4] at hh; cases hh
      · cases hh
    · cases hh
/-- the row of the code table at a place, and what is known of it -/
theorem pst_row {mi pc : Nat} {ls st : List PV} {h : PH} {r : PR} (hp : pst mi pc ls st h = r) (hr : r ≠ pko) : ∃ (op len a b d : Nat) (z : Int) (ts : List Nat) (f : PF) (k : PK), ptab[op]? = some f ∧ f len a b d z ts pc ls st h = r ∧ zckt[op]? = some k ∧ k mi pc len a b d z ts = true ∧ decode (zmC mi) pc = .ok (zun pc (op, len, a, b, d, z, ts), len) := by
  unfold pst at hp
  split at hp
  · exact absurd hp.symm hr
  · rename_i L hL
    split at hp
    · rename_i op len a b d z ts hq
      split at hp
      · rename_i f hf
        have hck := zck_ok hL hq
        simp only [zck, Bool.and_eq_true, decide_eq_true_eq] at hck
        obtain ⟨h1, h2⟩ := hck
        split at h2
        · rename_i k hk
          exact ⟨op, len, a, b, d, z, ts, f, k, hf, hp, hk, h2, h1⟩
        · cases h2
      · exact absurd hp.symm hr
    · exact absurd hp.symm hr
section MAIN
variable {p : Program} {l : Launch} {e : Env} {R : Room} {s : State} {m : MethodId} {args : Array Value} {below : List Frame} {meth : Method} {c : Code} {Q : State → Prop}
variable {mi : Nat} {sc : Prop} {b : Nat} {D : va_G} {cI cZ : ClassId} {A : Nat → Prop} {k0 s0 : Nat} {ad0 : Nat → Nat}
variable {pc : Nat} {pl st : List PV} {h : PH} {q : PT} {ll : List (Bool × PT)}
theorem zstep (C : zcx p R s m args meth c mi sc D cI cZ A) (hp : pst mi pc pl st h = .inl ll) (hc : zch ll q) (hroom : q.2.2.2.1.length ≤ R.cells + k0 ∧ zsz q.2.2.2.1 ≤ R.slots + s0) (G : zG p l e R s m args below meth c Q mi sc b D cI cZ A k0 s0 ad0 q) : zG p l e R s m args below meth c Q mi sc b D cI cZ A k0 s0 ad0 (pc, pl, st, h) := by
  obtain ⟨op, len, a, b2, d, z, ts, f, k, hf, hh, hk, hck, hd⟩ := pst_row hp (fun w => by cases w; exact zch_0 hc)
  match op, hf, hk, hd with
  | 0, hf, hk, hd =>
    cases hf; cases hk
    cases hh
    exact (zch_0 hc).elim
  | 1, hf, hk, hd =>
    cases hf; cases hk
    simp only [zk_1, Bool.and_eq_true, Bool.or_eq_true, decide_eq_true_eq] at hck
    exact so_ilo C hd hck hh hc G
  | 2, hf, hk, hd =>
    cases hf; cases hk
    simp only [zk_2, Bool.and_eq_true, Bool.or_eq_true, decide_eq_true_eq] at hck
    exact so_alo C hd hck hh hc G
  | 3, hf, hk, hd =>
    cases hf; cases hk
    simp only [zk_3, Bool.and_eq_true, Bool.or_eq_true, decide_eq_true_eq] at hck
    exact so_ist C hd hck hh hc G
  | 4, hf, hk, hd =>
    cases hf; cases hk
    simp only [zk_4, Bool.and_eq_true, Bool.or_eq_true, decide_eq_true_eq] at hck
    exact so_ast C hd hck hh hc G
  | 5, hf, hk, hd =>
    cases hf; cases hk
    simp only [zk_5, Bool.and_eq_true, Bool.or_eq_true, decide_eq_true_eq] at hck
    obtain ⟨hz, hck⟩ := hck
    refine so_con C hd (zin_b hz) ?_ hh hc G
    by_cases h0 : d = 0
    · rw [if_pos h0] at hck ⊢
      simpa only [Bool.and_eq_true, Bool.or_eq_true, decide_eq_true_eq] using hck
    · rw [if_neg h0] at hck ⊢
      simp only [Bool.and_eq_true, Bool.or_eq_true, decide_eq_true_eq] at hck
      exact ⟨hck.1, klk_use hck.2⟩
  | 6, hf, hk, hd =>
    cases hf; cases hk
    simp only [zk_6, Bool.and_eq_true, Bool.or_eq_true, decide_eq_true_eq] at hck
    exact so_nul C hd hck hh hc G
  | 7, hf, hk, hd =>
    cases hf; cases hk
    simp only [zk_7, Bool.and_eq_true, decide_eq_true_eq, Bool.not_eq_true'] at hck
    exact so_gfi C hd hck.1.1 hck.1.2 hck.2 hh hc G
  | 8, hf, hk, hd =>
    cases hf; cases hk
    simp only [zk_8, Bool.and_eq_true, decide_eq_true_eq] at hck
    exact so_gfr C hd hck.1.1 hck.1.2 hck.2 hh hc G
  | 9, hf, hk, hd =>
    cases hf; cases hk
    simp only [zk_9, Bool.and_eq_true, decide_eq_true_eq, Bool.not_eq_true'] at hck
    refine so_pfi C hd hck.1.1.1 hck.1.1.2 hck.1.2 (fun q hq => ?_) hh hc G
    have g := hck.2
    rw [hq] at g
    simpa using g
  | 10, hf, hk, hd =>
    cases hf; cases hk
    simp only [zk_10, Bool.and_eq_true, decide_eq_true_eq] at hck
    refine so_pfr C hd hck.1.1.1.1 hck.1.1.1.2 hck.1.1.2 (fun q hq => ?_) hck.2 hh hc G
    have g := hck.1.2
    rw [hq] at g
    simpa using g
  | 11, hf, hk, hd =>
    cases hf; cases hk
    simp only [zk_11, Bool.and_eq_true, Bool.or_eq_true, decide_eq_true_eq] at hck
    exact so_iald C hd hck hh hc G
  | 12, hf, hk, hd =>
    cases hf; cases hk
    simp only [zk_12, Bool.and_eq_true, Bool.or_eq_true, decide_eq_true_eq] at hck
    exact so_iast C hd hck hh hc G
  | 13, hf, hk, hd =>
    cases hf; cases hk
    simp only [zk_13, Bool.and_eq_true, Bool.or_eq_true, decide_eq_true_eq] at hck
    exact so_zald C hd hck hh hc G
  | 14, hf, hk, hd =>
    cases hf; cases hk
    simp only [zk_14, Bool.and_eq_true, Bool.or_eq_true, decide_eq_true_eq] at hck
    exact so_zast C hd hck hh hc G
  | 15, hf, hk, hd =>
    cases hf; cases hk
    simp only [zk_15, Bool.and_eq_true, Bool.or_eq_true, decide_eq_true_eq] at hck
    exact so_aln C hd hck hh hc G
  | 16, hf, hk, hd =>
    cases hf; cases hk
    simp only [zk_16, Bool.and_eq_true, Bool.or_eq_true, decide_eq_true_eq] at hck
    exact so_bin (g := fun x y => x + y) .iadd (fun _ _ => rfl) (fun hd K => lv_iadd C.1 C.2.1 hd K) hd hck hh hc G
  | 17, hf, hk, hd =>
    cases hf; cases hk
    simp only [zk_17, Bool.and_eq_true, Bool.or_eq_true, decide_eq_true_eq] at hck
    exact so_bin (g := fun x y => x - y) .isub (fun _ _ => rfl) (fun hd K => lv_isub C.1 C.2.1 hd K) hd hck hh hc G
  | 18, hf, hk, hd =>
    cases hf; cases hk
    simp only [zk_18, Bool.and_eq_true, Bool.or_eq_true, decide_eq_true_eq] at hck
    exact so_bin (g := fun x y => x * y) .imul (fun _ _ => rfl) (fun hd K => lv_imul C.1 C.2.1 hd K) hd hck hh hc G
  | 21, hf, hk, hd =>
    cases hf; cases hk
    simp only [zk_21, Bool.and_eq_true, Bool.or_eq_true, decide_eq_true_eq] at hck
    exact so_bin (g := fun x y => x &&& y) .iand (fun _ _ => rfl) (fun hd K => lv_iand C.1 C.2.1 hd K) hd hck hh hc G
  | 22, hf, hk, hd =>
    cases hf; cases hk
    simp only [zk_22, Bool.and_eq_true, Bool.or_eq_true, decide_eq_true_eq] at hck
    exact so_bin (g := fun x y => x ||| y) .ior (fun _ _ => rfl) (fun hd K => lv_ior C.1 C.2.1 hd K) hd hck hh hc G
  | 23, hf, hk, hd =>
    cases hf; cases hk
    simp only [zk_23, Bool.and_eq_true, Bool.or_eq_true, decide_eq_true_eq] at hck
    exact so_bin (g := fun x y => x ^^^ y) .ixor (fun _ _ => rfl) (fun hd K => lv_ixor C.1 C.2.1 hd K) hd hck hh hc G
  | 24, hf, hk, hd =>
    cases hf; cases hk
    simp only [zk_24, Bool.and_eq_true, Bool.or_eq_true, decide_eq_true_eq] at hck
    exact so_bin (g := fun x y => x <<< (y &&& 31)) .ishl (fun _ _ => rfl) (fun hd K => lv_ishl C.1 C.2.1 hd K) hd hck hh hc G
  | 25, hf, hk, hd =>
    cases hf; cases hk
    simp only [zk_25, Bool.and_eq_true, Bool.or_eq_true, decide_eq_true_eq] at hck
    exact so_bin (g := fun x y => x >>> (y &&& 31)) .ishr (fun _ _ => rfl) (fun hd K => lv_ishr C.1 C.2.1 hd K) hd hck hh hc G
  | 26, hf, hk, hd =>
    cases hf; cases hk
    simp only [zk_26, Bool.and_eq_true, Bool.or_eq_true, decide_eq_true_eq] at hck
    exact so_bin (g := fun x y => (x.toUInt32 >>> (y.toUInt32 &&& Int32.toUInt32 31)).toInt32) .iushr (fun _ _ => rfl) (fun hd K => lv_iushr C.1 C.2.1 hd rfl K) hd hck hh hc G
  | 19, hf, hk, hd =>
    cases hf; cases hk
    simp only [zk_19, Bool.and_eq_true, Bool.or_eq_true, decide_eq_true_eq] at hck
    exact so_bin0 (g := fun x y => x / y) .idiv (fun _ _ => rfl) (fun hd n K => lv_idiv C.1 C.2.1 hd n K) hd hck hh hc G
  | 20, hf, hk, hd =>
    cases hf; cases hk
    simp only [zk_20, Bool.and_eq_true, Bool.or_eq_true, decide_eq_true_eq] at hck
    exact so_bin0 (g := fun x y => x - x / y * y) .irem (fun _ _ => rfl) (fun hd n K => lv_irem C.1 C.2.1 hd n K) hd hck hh hc G
  | 27, hf, hk, hd =>
    cases hf; cases hk
    simp only [zk_27, Bool.and_eq_true, Bool.or_eq_true, decide_eq_true_eq] at hck
    exact so_inc C hd hck.1.1 hck.2 hh hc G
  | 28, hf, hk, hd =>
    cases hf; cases hk
    simp only [zk_28, Bool.and_eq_true, Bool.or_eq_true, decide_eq_true_eq] at hck
    exact so_gto C hd hck hh hc G
  | 29, hf, hk, hd =>
    cases hf; cases hk
    simp only [zk_29, Bool.and_eq_true, Bool.or_eq_true, decide_eq_true_eq] at hck
    exact so_ifc C hd hck.1 hck.2 hh hc G
  | 30, hf, hk, hd =>
    cases hf; cases hk
    simp only [zk_30, Bool.and_eq_true, Bool.or_eq_true, decide_eq_true_eq] at hck
    exact so_icm C hd hck.1 hck.2 hh hc G
  | 31, hf, hk, hd =>
    cases hf; cases hk
    simp only [zk_31, Bool.and_eq_true, Bool.or_eq_true, decide_eq_true_eq] at hck
    exact so_ifn C hd hck hh hc G
  | 32, hf, hk, hd =>
    cases hf; cases hk
    simp only [zk_32, Bool.and_eq_true, Bool.or_eq_true, decide_eq_true_eq] at hck
    exact so_inn C hd hck hh hc G
  | 33, hf, hk, hd =>
    cases hf; cases hk
    simp only [zk_33, Bool.and_eq_true, Bool.or_eq_true, decide_eq_true_eq] at hck
    exact so_acn C hd hck hh hc G
  | 34, hf, hk, hd =>
    cases hf; cases hk
    simp only [zk_34, Bool.and_eq_true, Bool.or_eq_true, decide_eq_true_eq] at hck
    exact so_tsw C hd hck hh hc G
  | 35, hf, hk, hd =>
    cases hf; cases hk
    simp only [zk_35, Bool.and_eq_true, Bool.or_eq_true, decide_eq_true_eq] at hck
    exact so_nar C hd hck.1 hck.2 hh hc hroom G
  | 36, hf, hk, hd =>
    cases hf; cases hk
    simp only [zk_36, Bool.and_eq_true, decide_eq_true_eq] at hck
    refine so_new C hd hck.1.1 hck.1.2 (fun q hq => ?_) hh hc hroom G
    have g := hck.2
    rw [hq] at g
    simpa using g
  | 37, hf, hk, hd =>
    cases hf; cases hk
    simp only [zk_37, Bool.and_eq_true, Bool.or_eq_true, decide_eq_true_eq] at hck
    exact so_dup C hd hck hh hc G
  | 38, hf, hk, hd =>
    cases hf; cases hk
    simp only [zk_38, Bool.and_eq_true, Bool.or_eq_true, decide_eq_true_eq] at hck
    exact so_du2 C hd hck hh hc G
  | 39, hf, hk, hd =>
    cases hf; cases hk
    simp only [zk_39, Bool.and_eq_true, Bool.or_eq_true, decide_eq_true_eq] at hck
    exact so_pop C hd hck hh hc G
  | 40, hf, hk, hd =>
    cases hf; cases hk
    exact (zinv_inl hh hc).elim
  | 48, hf, hk, hd =>
    cases hf; cases hk
    exact (zinv_inl hh hc).elim
  | 49, hf, hk, hd =>
    cases hf; cases hk
    exact (zinv_inl hh hc).elim
  | 50, hf, hk, hd =>
    cases hf; cases hk
    exact (zinv_inl hh hc).elim
  | 41, hf, hk, hd =>
    cases hf; cases hk
    unfold h_irt at hh
    split at hh <;> cases hh
    exact (zch_0 hc).elim
  | 42, hf, hk, hd =>
    cases hf; cases hk
    unfold h_zrt at hh
    split at hh <;> cases hh
    exact (zch_0 hc).elim
  | 43, hf, hk, hd =>
    cases hf; cases hk
    unfold h_art at hh
    split at hh <;> cases hh
    exact (zch_0 hc).elim
  | 44, hf, hk, hd =>
    cases hf; cases hk
    unfold h_vrt at hh
    split at hh <;> cases hh
    exact (zch_0 hc).elim
  | 45, hf, hk, hd =>
    cases hf; cases hk
    simp only [zk_45, Bool.and_eq_true, decide_eq_true_eq] at hck
    exact so_oin C hd hck.1.1.1 hck.1.1.2 hck.1.2 hck.2 hh hc G
  | 46, hf, hk, hd =>
    cases hf; cases hk
    simp only [zk_46, Bool.and_eq_true, Bool.or_eq_true, decide_eq_true_eq] at hck
    exact so_sln C hd hck.1 hh hc G
  | 47, hf, hk, hd =>
    cases hf; cases hk
    simp only [zk_47, Bool.and_eq_true, Bool.or_eq_true, decide_eq_true_eq] at hck
    exact so_sld C hd hck.1 hh hc G
  | n + 51, hf, hk, hd => simp [ptab] at hf
theorem zreturn {r : Option PV} (hp : pst mi pc pl st h = .inr (.inl (true, r))) : zrk mi pc st r := by
  obtain ⟨op, len, a, b2, d, z, ts, f, k, hf, hh, hk, hck, hd⟩ := pst_row hp (fun w => by cases w)
  by_cases h41 : op = 41
  · subst h41; cases hf; cases hk
    simp only [zk_41, Bool.and_eq_true, decide_eq_true_eq] at hck
    obtain ⟨rfl, hR⟩ := hck
    unfold h_irt at hh
    split at hh
    · cases hh; exact Or.inl ⟨_, rfl, rfl, hR, hd⟩
    · cases hh
  by_cases h42 : op = 42
  · subst h42; cases hf; cases hk
    simp only [zk_42, Bool.and_eq_true, decide_eq_true_eq] at hck
    obtain ⟨rfl, hR⟩ := hck
    unfold h_zrt at hh
    split at hh
    · simp only [Sum.inr.injEq, Sum.inl.injEq, Prod.mk.injEq] at hh
      exact Or.inr (Or.inl ⟨_, rfl, hh.2.symm, hh.1, hR, hd⟩)
    · cases hh
  by_cases h43 : op = 43
  · subst h43; cases hf; cases hk
    simp only [zk_43, Bool.and_eq_true, decide_eq_true_eq] at hck
    obtain ⟨rfl, hR⟩ := hck
    unfold h_art at hh
    split at hh
    · cases hh
      split at hR
      · rename_i n hn; exact Or.inr (Or.inr (Or.inl ⟨_, _, rfl, rfl, hn, Or.inl ⟨n, rfl⟩, hd⟩))
      · rename_i n hn; exact Or.inr (Or.inr (Or.inl ⟨_, _, rfl, rfl, hn, Or.inr ⟨n, rfl⟩, hd⟩))
      · cases hR
    · cases hh
  by_cases h44 : op = 44
  · subst h44; cases hf; cases hk
    simp only [zk_44, Bool.and_eq_true, decide_eq_true_eq] at hck
    obtain ⟨rfl, hR⟩ := hck
    unfold h_vrt at hh
    split at hh
    · cases hh; exact Or.inr (Or.inr (Or.inr ⟨rfl, rfl, hR, hd⟩))
    · cases hh
  by_cases h40 : op = 40
  · subst h40; cases hf; exact (zinv_ret hh).elim
  by_cases h48 : op = 48
  · subst h48; cases hf; exact (zinv_ret hh).elim
  by_cases h49 : op = 49
  · subst h49; cases hf; exact (zinv_ret hh).elim
  by_cases h50 : op = 50
  · subst h50; cases hf; exact (zinv_ret hh).elim
  obtain ⟨l, hl⟩ := zil_all op f hf h40 h41 h42 h43 h44 h48 h49 h50 len a b2 d z ts pc pl st h
  rw [hl] at hh
  cases hh
theorem zcallT {n m' : Nat} {as rest : List PV} {r1 : Option PV} {h1 : PH} (IH : zTH l n) (C : zcx p R s m args meth c mi sc D cI cZ A) (hp : pst mi pc pl st h = .inr (.inr (m', as, rest))) (hx : pex n m' (0, pfr m' as, [], h) = some (r1, h1))
    (hroom : h1.1.length ≤ R.cells + k0 ∧ zsz h1.1 ≤ R.slots + s0) (G : zG p l e R s m args below meth c Q mi sc b D cI cZ A k0 s0 ad0 (pc + 3, pl, r1.toList ++ rest, h1)) : zG p l e R s m args below meth c Q mi sc b D cI cZ A k0 s0 ad0 (pc, pl, st, h) := by
  obtain ⟨op, len, a, b2, d, z, ts, f, k, hf, hh, hk, hck, hd⟩ := pst_row hp (fun w => by cases w)
  have hgr := pex_gr _ _ _ _ hx
  simp only at hgr
  have hle : h.1.length ≤ h1.1.length := by obtain ⟨⟨ext, e1⟩, -⟩ := hgr; rw [e1]; simp
  have hle2 : zsz h.1 ≤ zsz h1.1 := by obtain ⟨⟨ext, e1⟩, -⟩ := hgr; rw [e1, zsz_app]; omega
  by_cases h40 : op = 40
  · subst h40; cases hf; cases hk
    simp only [zk_40, Bool.and_eq_true, decide_eq_true_eq] at hck
    obtain ⟨⟨⟨rfl, hc0⟩, hz⟩, hz7⟩ := hck
    obtain ⟨hl, hK, hb2, ha, hF, hLL⟩ := zcall_in 0 C 0 hc0
    obtain ⟨rfl, i2, i3, i4, i5, i6⟩ := inv_use hh
    obtain ⟨r, as', cc, nn, rfl, hcell, hcc⟩ := i6 rfl
    intro ad H locs ls cells slots Z
    have ec := Z.2.2.2.2.2.2.1
    have eS := Z.2.2.2.2.2.2.2.1
    simp only at ec eS
    have hst := zst_ok Z
    rw [i5] at hst
    have hrest : ∀ v ∈ rest, zok sc h.1.length v := fun v hv => hst v (List.mem_append_right _ hv)
    have hok : ∀ v ∈ (zA r :: as'), zok False h.1.length v := fun v hv => zok_plain (hst v (List.mem_append_left _ (List.mem_reverse.mpr hv))) (i3 v hv)
    have hM := zmet (b := b) (D := D) (sz := H.size) IH hx ha (i4.trans hb2) hok Z.1 Z.2.2.1
    obtain ⟨i, hB⟩ := zmB_use ha
    simp only [zmB, Bool.and_eq_true, decide_eq_true_eq] at hB
    obtain ⟨⟨⟨⟨⟨⟨⟨⟨-, -⟩, -⟩, -⟩, -⟩, -⟩, -⟩, -⟩, hkk⟩ := hB
    rw [if_pos hK] at hkk
    simp only [Bool.and_eq_true] at hkk
    have hcc7 : ∃ q, vwCl[cc]? = some q ∧ q.1 = (zmY m').cls := by
      have : cc < vwCl.length := by rw [hcc]; exact hz7
      refine ⟨vwCl[cc], List.getElem?_eq_getElem this, ?_⟩
      rw [← hz, ← hcc]
      simp only [zcn, List.getElem?_eq_getElem this]
    obtain ⟨vq, hv, hvn⟩ := hcc7
    have he := zw_at (cI := cI) (cZ := cZ) (ad := ad) hcell
    rw [ze_obj (vwCl_lt hv)] at he
    refine zcall_tail (rest := rest) (h1 := h1) (r1 := r1) (av := (Value.ref (ad r) :: as'.map (zv b ad)).toArray) C Z hrest hgr G ?_
    refine va_runV (As := as'.map (zv b ad)) (C := (zmY m').cls) ⟨C.1, C.2.1, C.2.2.1, C.2.2.2.1, C.2.2.2.2.1⟩ hM ⟨zcallB C ha hl hF hLL, C.2.2.2.2.1 _ (zAt_mem hkk.1), C.2.2.2.2.1 _ (zAt_mem hkk.2)⟩ ⟨zblind, ?_, fun U hU hW => zpre C Z _ U hU hW⟩ rfl ?_ (zst_ls Z).1 ?_ (lv_room (by rw [zcats]; omega)) hd ⟨by omega, by omega⟩
    · rw [← hvn]; exact va_recv C.2.2.2.2.2.1 Z.2.1 hv he
    · rw [hK]; simp at i4 ⊢; omega
    · rw [i5]; simp [zv, va_rf]
  by_cases h48 : op = 48
  · subst h48; cases hf; cases hk
    simp only [zk_48, Bool.and_eq_true, decide_eq_true_eq] at hck
    obtain ⟨⟨⟨rfl, hc0⟩, hz⟩, hz7⟩ := hck
    obtain ⟨hl, hK, hb2, ha, hF, hLL⟩ := zcall_in 0 C 1 hc0
    obtain ⟨rfl, i2, i3, i4, i5, i6⟩ := inv_use hh
    obtain ⟨r, as', cc, nn, rfl, hcell, hcc⟩ := i6 rfl
    intro ad H locs ls cells slots Z
    have ec := Z.2.2.2.2.2.2.1
    have eS := Z.2.2.2.2.2.2.2.1
    simp only at ec eS
    have hst := zst_ok Z
    rw [i5] at hst
    have hrest : ∀ v ∈ rest, zok sc h.1.length v := fun v hv => hst v (List.mem_append_right _ hv)
    have hok : ∀ v ∈ (zA r :: as'), zok False h.1.length v := fun v hv => zok_plain (hst v (List.mem_append_left _ (List.mem_reverse.mpr hv))) (i3 v hv)
    have hM := zmet (b := b) (D := D) (sz := H.size) IH hx ha (i4.trans hb2) hok Z.1 Z.2.2.1
    obtain ⟨i, hB⟩ := zmB_use ha
    simp only [zmB, Bool.and_eq_true, decide_eq_true_eq] at hB
    obtain ⟨⟨⟨⟨⟨⟨⟨⟨-, -⟩, -⟩, -⟩, -⟩, -⟩, -⟩, -⟩, hkk⟩ := hB
    rw [if_neg (by omega), if_pos hK] at hkk
    simp only [Bool.and_eq_true, decide_eq_true_eq] at hkk
    have hCB := zcallB (mc := h1.1.length - h.1.length) (ms := zsz h1.1 - zsz h.1) C ha hl hF hLL
    rw [hkk.2] at hCB hM
    refine zcall_tail (rest := rest) (h1 := h1) (r1 := r1) (av := (Value.ref (ad r) :: as'.map (zv b ad)).toArray) C Z hrest hgr G ?_
    refine va_runI (As := as'.map (zv b ad)) ⟨C.1, C.2.1, C.2.2.1, C.2.2.2.1, C.2.2.2.2.1⟩ hM ⟨hCB, hkk.1.2, C.2.2.2.2.1 _ (zAt_mem hkk.1.1)⟩ ⟨zblind, fun U hU hW => zpre C Z _ U hU hW⟩ rfl ?_ (zst_ls Z).1 ?_ (lv_room (by rw [zcats]; omega)) hd ⟨by omega, by omega⟩
    · rw [hK]; simp at i4 ⊢; omega
    · rw [i5]; simp [zv, va_rf]
  by_cases h49 : op = 49
  · subst h49; cases hf; cases hk
    simp only [zk_49, Bool.and_eq_true, decide_eq_true_eq] at hck
    obtain ⟨rfl, hc0⟩ := hck
    obtain ⟨hl, hK, hb2, ha, hF, hLL⟩ := zcall_in 0 C 2 hc0
    obtain ⟨rfl, i2, i3, i4, i5, -⟩ := inv_use hh
    intro ad H locs ls cells slots Z
    have ec := Z.2.2.2.2.2.2.1
    have eS := Z.2.2.2.2.2.2.2.1
    simp only at ec eS
    have hst := zst_ok Z
    rw [i5] at hst
    have hrest : ∀ v ∈ rest, zok sc h.1.length v := fun v hv => hst v (List.mem_append_right _ hv)
    have hok : ∀ v ∈ as, zok False h.1.length v := fun v hv => zok_plain (hst v (List.mem_append_left _ (List.mem_reverse.mpr hv))) (i3 v hv)
    have hM := zmet (b := b) (D := D) (sz := H.size) IH hx ha (i4.trans hb2) hok Z.1 Z.2.2.1
    obtain ⟨i, hB⟩ := zmB_use ha
    simp only [zmB, Bool.and_eq_true, decide_eq_true_eq] at hB
    obtain ⟨⟨⟨⟨⟨⟨⟨⟨-, -⟩, -⟩, -⟩, -⟩, -⟩, -⟩, -⟩, hkk⟩ := hB
    rw [if_neg (by omega), if_neg (by omega)] at hkk
    refine zcall_tail (rest := rest) (h1 := h1) (r1 := r1) (av := (as.map (zv b ad)).toArray) C Z hrest hgr G ?_
    refine va_runS (As := as.map (zv b ad)) ⟨C.1, C.2.1, C.2.2.1, C.2.2.2.1, C.2.2.2.2.1⟩ hM ⟨zcallB C ha hl hF hLL, C.2.2.2.2.1 _ (zAt_mem hkk)⟩ ⟨zblind, fun U hU hW => zpre C Z _ U hU hW⟩ rfl ?_ (zst_ls Z).1 ?_ (lv_room (by rw [zcats]; omega)) hd ⟨by omega, by omega⟩
    · rw [hK]; simp at i4 ⊢; omega
    · rw [i5]; simp
  by_cases h50 : op = 50
  · subst h50; cases hf; cases hk
    simp only [zk_50, Bool.and_eq_true, Bool.or_eq_true, decide_eq_true_eq] at hck
    obtain ⟨⟨⟨⟨⟨⟨⟨⟨⟨rfl, hy⟩, hO⟩, hK⟩, hb2⟩, ha⟩, hF⟩, hLL⟩, hz⟩, hz7⟩ := hck
    have hF : zmF a + 1 ≤ R.frames := Nat.le_trans hF C.2.2.2.2.2.2.2.2.2.1
    have hLL : 8 + (zmN a + 11) + zmL a ≤ R.locals := Nat.le_trans hLL C.2.2.2.2.2.2.2.2.2.2.1
    have hnest : va_Nw (.methodLinkNest (zwn (zmO mi)) d (zmY a) RX5) s := by
      rw [hO]
      rcases hy with ⟨rfl, e2⟩ | ⟨rfl, e2⟩
      · rw [e2]; exact C.2.2.2.2.2.2.2.2.2.2.2.1
      · rw [e2]; exact C.2.2.2.2.2.2.2.2.2.2.2.2
    obtain ⟨rfl, i2, i3, i4, i5, i6⟩ := inv_use hh
    obtain ⟨r, as', cc, nn, rfl, hcell, hcc⟩ := i6 rfl
    intro ad H locs ls cells slots Z
    have ec := Z.2.2.2.2.2.2.1
    have eS := Z.2.2.2.2.2.2.2.1
    simp only at ec eS
    have hst := zst_ok Z
    rw [i5] at hst
    have hrest : ∀ v ∈ rest, zok sc h.1.length v := fun v hv => hst v (List.mem_append_right _ hv)
    have hok : ∀ v ∈ (zA r :: as'), zok False h.1.length v := fun v hv => zok_plain (hst v (List.mem_append_left _ (List.mem_reverse.mpr hv))) (i3 v hv)
    have hM := zmet (b := b) (D := D) (sz := H.size) IH hx ha (i4.trans hb2) hok Z.1 Z.2.2.1
    obtain ⟨i, hB⟩ := zmB_use ha
    simp only [zmB, Bool.and_eq_true, decide_eq_true_eq] at hB
    obtain ⟨⟨⟨⟨⟨⟨⟨⟨hi, -⟩, hmh⟩, hpar⟩, -⟩, -⟩, -⟩, -⟩, hkk⟩ := hB
    rw [if_neg (by omega), if_pos hK] at hkk
    simp only [Bool.and_eq_true, decide_eq_true_eq] at hkk
    have hcode := zcw_all m' ha
    rw [hkk.2] at hM hcode
    refine zcall_tail (rest := rest) (h1 := h1) (r1 := r1) (av := (Value.ref (ad r) :: as'.map (zv b ad)).toArray) C Z hrest hgr G ?_
    refine va_runIN (As := as'.map (zv b ad)) ⟨C.1, C.2.1, C.2.2.1, C.2.2.2.1, C.2.2.2.2.1⟩ hM ⟨va_cnB (ws' := WS) _ C.2.2.2.2.1 (fun w hw => by
      rcases List.mem_cons.mp hw with rfl | hw
      · exact ⟨hcode, WS_ok hcode⟩
      · exact ⟨hw, WS_ok hw⟩) rfl rfl rfl hnest (C.2.2.2.2.1 _ (zAt_mem hi)) ⟨hmh.1, hmh.2, hpar⟩ ⟨hF, hLL⟩, hkk.1.2, C.2.2.2.2.1 _ (zAt_mem hkk.1.1)⟩ ⟨zblind, fun U hU hW => zpre C Z _ U hU hW⟩ rfl ?_ (zst_ls Z).1 ?_ (lv_room (by rw [zcats]; omega)) hd ⟨by omega, by omega⟩
    · rw [hK]; simp at i4 ⊢; omega
    · rw [i5]; simp [zv, va_rf]
  by_cases h41 : op = 41
  · subst h41; cases hf; unfold h_irt at hh; split at hh <;> cases hh
  by_cases h42 : op = 42
  · subst h42; cases hf; unfold h_zrt at hh; split at hh <;> cases hh
  by_cases h43 : op = 43
  · subst h43; cases hf; unfold h_art at hh; split at hh <;> cases hh
  by_cases h44 : op = 44
  · subst h44; cases hf; unfold h_vrt at hh; split at hh <;> cases hh
  obtain ⟨l, hl⟩ := zil_all op f hf h40 h41 h42 h43 h44 h48 h49 h50 len a b2 d z ts pc pl st h
  rw [hl] at hh
  cases hh
end MAIN
/-- WHAT MY MACHINE DOES, THE CLAIM'S DOES -/
theorem zmain (l : Launch) : ∀ n, zTH l n := by
  intro n
  induction n with
  | zero => intro mi t r h' hx; cases hx
  | succ n ih =>
    intro mi t r h' hx p e R s m args below meth c Q sc b D cI cZ A k0 s0 ad0 C hR1 hR2 hret
    obtain ⟨pc, pl, st, h⟩ := t
    unfold pex at hx
    split at hx
    · rename_i ll hl
      obtain ⟨q, hq, hv⟩ := zch_of hx
      obtain ⟨⟨ext, e1⟩, -⟩ := pex_gr _ _ _ _ hv
      simp only at e1
      have g1 : q.2.2.2.1.length ≤ h'.1.length := by rw [e1]; simp
      have g2 : zsz q.2.2.2.1 ≤ zsz h'.1 := by rw [e1, zsz_app]; omega
      exact zstep C hl hq ⟨by omega, by omega⟩ (ih mi q r h' hv C hR1 hR2 hret)
    · rename_i cc r0 hl
      cases cc with
      | false => cases hx
      | true =>
        cases hx
        intro ad H locs ls cells slots Z
        exact hret pc pl st ad H locs ls cells slots Z (zreturn hl)
    · rename_i m' as rest hl
      obtain ⟨⟨r1, h1⟩, hw, hv⟩ := Option.bind_eq_some_iff.mp hx
      obtain ⟨⟨ext, e1⟩, -⟩ := pex_gr _ _ _ _ hv
      simp only at e1
      have g1 : h1.1.length ≤ h'.1.length := by rw [e1]; simp
      have g2 : zsz h1.1 ≤ zsz h'.1 := by rw [e1, zsz_app]; omega
      exact zcallT ih C hl hw ⟨by omega, by omega⟩ (ih mi _ r h' hv C hR1 hR2 hret)
