/-! A small machine of my own, over numbers: what the bytecode does, as a function. Part 05 ties it to the machine of the claim. -/
abbrev PV : Type := Int ⊕ (Option Nat ⊕ Bool)
abbrev PS : Type := Nat × (Nat → Int)
abbrev PH : Type := List (Nat × Nat) × (Nat → Nat → Int) × (Nat → Nat → Option Nat) × PS
abbrev PI : Type := Nat × Nat × Nat × Nat × Nat × Int × List Nat
abbrev PT : Type := Nat × List PV × List PV × PH
abbrev PR : Type := List (Bool × PT) ⊕ ((Bool × Option PV) ⊕ (Nat × List PV × List PV))
abbrev PF : Type := Nat → Nat → Nat → Nat → Int → List Nat → Nat → List PV → List PV → PH → PR
abbrev zI (z : Int) : PV := .inl z
abbrev zR (r : Option Nat) : PV := .inr (.inl r)
abbrev zA (r : Nat) : PV := .inr (.inl (some r))
abbrev zU : PV := .inr (.inr false)
abbrev zS : PV := .inr (.inr true)
def zpl : PV → Bool
  | .inr (.inr _) => false
  | _ => true
def pgo (pc : Nat) (ls st : List PV) (h : PH) : PR := .inl [(true, (pc, ls, st, h))]
def pgi (c : Bool) (pc : Nat) (ls st : List PV) (h : PH) : PR := .inl [(c, (pc, ls, st, h))]
def pbr (c : Bool) (pc1 pc2 : Nat) (ls st : List PV) (h : PH) : PR := .inl [(c, (pc1, ls, st, h)), (true, (pc2, ls, st, h))]
def pko : PR := .inl []
-- numbers
def zad (a b : Int) : Int := (Int32.ofInt a + Int32.ofInt b).toInt
def zsb (a b : Int) : Int := (Int32.ofInt a - Int32.ofInt b).toInt
def zml (a b : Int) : Int := (Int32.ofInt a * Int32.ofInt b).toInt
def zdv (a b : Int) : Int := (Int32.ofInt a / Int32.ofInt b).toInt
def zrm (a b : Int) : Int := (Int32.ofInt a - Int32.ofInt a / Int32.ofInt b * Int32.ofInt b).toInt
def zan (a b : Int) : Int := (Int32.ofInt a &&& Int32.ofInt b).toInt
def zor (a b : Int) : Int := (Int32.ofInt a ||| Int32.ofInt b).toInt
def zxr (a b : Int) : Int := (Int32.ofInt a ^^^ Int32.ofInt b).toInt
def zsl (a b : Int) : Int := (Int32.ofInt a <<< (Int32.ofInt b &&& 31)).toInt
def zsr (a b : Int) : Int := (Int32.ofInt a >>> (Int32.ofInt b &&& 31)).toInt
def zus (a b : Int) : Int := (((Int32.ofInt a).toUInt32 >>> ((Int32.ofInt b).toUInt32 &&& Int32.toUInt32 31)).toInt32).toInt
def zib (i : Int) (n : Nat) : Bool := decide (0 ≤ i) && decide (i < (n : Int))
def zbb (x : Int) : Bool := decide (x = 0) || decide (x = 1)
def zs2 {α : Type} (f : Nat → Nat → α) (r k : Nat) (x : α) : Nat → Nat → α := fun i => if i = r then (fun j => if j = k then x else f r j) else f i
-- the instructions
def h_ilo : PF := fun len a _ _ _ _ pc ls st h => match ls[a]? with
  | some (.inl x) => pgo (pc + len) ls (.inl x :: st) h
  | _ => pko
def h_alo : PF := fun len a _ _ _ _ pc ls st h => match ls[a]? with
  | some (.inr (.inl r)) => pgo (pc + len) ls (.inr (.inl r) :: st) h
  | some (.inr (.inr true)) => pgo (pc + len) ls (.inr (.inr true) :: st) h
  | _ => pko
def h_ist : PF := fun len a _ _ _ _ pc ls st h => match st with
  | .inl x :: st' => cond (Nat.blt a ls.length) (pgo (pc + len) (ls.set a (.inl x)) st' h) pko
  | _ => pko
def h_ast : PF := fun len a _ _ _ _ pc ls st h => match st with
  | .inr (.inl r) :: st' => cond (Nat.blt a ls.length) (pgo (pc + len) (ls.set a (.inr (.inl r))) st' h) pko
  | _ => pko
def h_con : PF := fun len _ _ _ z _ pc ls st h => pgo (pc + len) ls (.inl z :: st) h
def h_nul : PF := fun len _ _ _ _ _ pc ls st h => pgo (pc + len) ls (.inr (.inl none) :: st) h
def h_gfi : PF := fun len a b _ _ _ pc ls st h => match st with
  | .inr (.inl (some r)) :: st' => match h.1[r]? with
    | some (c, n) => cond (Nat.beq c a && Nat.blt b n) (pgo (pc + len) ls (.inl (h.2.1 r b) :: st') h) pko
    | none => pko
  | _ => pko
def h_gfr : PF := fun len a b _ _ _ pc ls st h => match st with
  | .inr (.inl (some r)) :: st' => match h.1[r]? with
    | some (c, n) => cond (Nat.beq c a && Nat.blt b n) (pgo (pc + len) ls (.inr (.inl (h.2.2.1 r b)) :: st') h) pko
    | none => pko
  | _ => pko
def h_pfi : PF := fun len a b _ _ _ pc ls st h => match st with
  | .inl x :: .inr (.inl (some r)) :: st' => match h.1[r]? with
    | some (c, n) => cond (Nat.beq c a && Nat.blt b n) (pgo (pc + len) ls st' (h.1, zs2 h.2.1 r b x, h.2.2)) pko
    | none => pko
  | _ => pko
def h_pfr : PF := fun len a b _ _ _ pc ls st h => match st with
  | .inr (.inl x) :: .inr (.inl (some r)) :: st' => match h.1[r]? with
    | some (c, n) => cond (Nat.beq c a && Nat.blt b n) (pgo (pc + len) ls st' (h.1, h.2.1, zs2 h.2.2.1 r b x, h.2.2.2)) pko
    | none => pko
  | _ => pko
def h_ald (ty : Nat) : PF := fun len _ _ _ _ _ pc ls st h => match st with
  | .inl i :: .inr (.inl (some r)) :: st' => match h.1[r]? with
    | some (c, n) => cond (Nat.beq c ty) (pgi (zib i n) (pc + len) ls (.inl (h.2.1 r i.toNat) :: st') h) pko
    | none => pko
  | _ => pko
def h_iast : PF := fun len _ _ _ _ _ pc ls st h => match st with
  | .inl x :: .inl i :: .inr (.inl (some r)) :: st' => match h.1[r]? with
    | some (c, n) => cond (Nat.beq c 7) (pgi (zib i n) (pc + len) ls st' (h.1, zs2 h.2.1 r i.toNat x, h.2.2)) pko
    | none => pko
  | _ => pko
def h_zast : PF := fun len _ _ _ _ _ pc ls st h => match st with
  | .inl x :: .inl i :: .inr (.inl (some r)) :: st' => match h.1[r]? with
    | some (c, n) => cond (Nat.beq c 8) (pgi (zib i n && zbb x) (pc + len) ls st' (h.1, zs2 h.2.1 r i.toNat x, h.2.2)) pko
    | none => pko
  | _ => pko
def h_aln : PF := fun len _ _ _ _ _ pc ls st h => match st with
  | .inr (.inl (some r)) :: st' => match h.1[r]? with
    | some (c, n) => cond (Nat.beq c 7 || Nat.beq c 8) (pgo (pc + len) ls (.inl (n : Int) :: st') h) pko
    | none => pko
  | _ => pko
def h_bin (f : Int → Int → Int) : PF := fun len _ _ _ _ _ pc ls st h => match st with
  | .inl y :: .inl x :: st' => pgo (pc + len) ls (.inl (f x y) :: st') h
  | _ => pko
def h_bin0 (f : Int → Int → Int) : PF := fun len _ _ _ _ _ pc ls st h => match st with
  | .inl y :: .inl x :: st' => pgi (!decide (y = 0)) (pc + len) ls (.inl (f x y) :: st') h
  | _ => pko
def h_inc : PF := fun len a _ _ z _ pc ls st h => match ls[a]? with
  | some (.inl x) => pgo (pc + len) (ls.set a (.inl (zad x z))) st h
  | _ => pko
def h_gto : PF := fun _ _ _ d _ _ _ ls st h => pgo d ls st h
def zcm (c : Nat) (x y : Int) (pc1 pc2 : Nat) (ls st : List PV) (h : PH) : PR := match c with
  | 0 => pbr (decide (x = y)) pc1 pc2 ls st h
  | 1 => pbr (decide (x = y)) pc2 pc1 ls st h
  | 2 => pbr (decide (x < y)) pc1 pc2 ls st h
  | 3 => pbr (decide (x < y)) pc2 pc1 ls st h
  | 4 => pbr (decide (y < x)) pc1 pc2 ls st h
  | 5 => pbr (decide (y < x)) pc2 pc1 ls st h
  | _ => pko
def h_ifc : PF := fun len a _ d _ _ pc ls st h => match st with
  | .inl x :: st' => zcm a x 0 d (pc + len) ls st' h
  | _ => pko
def h_icm : PF := fun len a _ d _ _ pc ls st h => match st with
  | .inl y :: .inl x :: st' => zcm a x y d (pc + len) ls st' h
  | _ => pko
def h_ifn : PF := fun len _ _ d _ _ pc ls st h => match st with
  | .inr (.inl none) :: st' => pgo d ls st' h
  | .inr (.inl (some _)) :: st' => pgo (pc + len) ls st' h
  | _ => pko
def h_inn : PF := fun len _ _ d _ _ pc ls st h => match st with
  | .inr (.inl none) :: st' => pgo (pc + len) ls st' h
  | .inr (.inl (some _)) :: st' => pgo d ls st' h
  | _ => pko
def h_acn : PF := fun len _ _ d _ _ pc ls st h => match st with
  | .inr (.inl (some r)) :: .inr (.inl (some q)) :: st' => pbr (Nat.beq q r) (pc + len) d ls st' h
  | _ => pko
def h_tsw : PF := fun _ _ _ d _ ts _ ls st h => match st with
  | .inl x :: st' => .inl (ts.zipIdx.map (fun q => (decide (x = (q.2 : Int)), (q.1, ls, st', h))) ++ [(true, (d, ls, st', h))])
  | _ => pko
def h_nar : PF := fun len a _ _ _ _ pc ls st h => match st with
  | .inl n :: st' => pgi (decide (0 ≤ n) && decide (n < 1000000)) (pc + len) ls (.inr (.inl (some h.1.length)) :: st') (h.1 ++ [(a, n.toNat)], (fun i => if i = h.1.length then (fun _ => 0) else h.2.1 i), h.2.2)
  | _ => pko
def h_new : PF := fun len a b _ _ _ pc ls st h => pgo (pc + len) ls (.inr (.inl (some h.1.length)) :: st) (h.1 ++ [(a, b)], (fun i => if i = h.1.length then (fun _ => 0) else h.2.1 i), (fun i => if i = h.1.length then (fun _ => none) else h.2.2.1 i), h.2.2.2)
def h_dup : PF := fun len _ _ _ _ _ pc ls st h => match st with
  | v :: st' => pgo (pc + len) ls (v :: v :: st') h
  | _ => pko
def h_du2 : PF := fun len _ _ _ _ _ pc ls st h => match st with
  | v :: w :: st' => pgo (pc + len) ls (v :: w :: v :: w :: st') h
  | _ => pko
def h_pop : PF := fun len _ _ _ _ _ pc ls st h => match st with
  | _ :: st' => pgo (pc + len) ls st' h
  | _ => pko
def h_irt : PF := fun _ _ _ _ _ _ _ _ st _ => match st with
  | [.inl x] => .inr (.inl (true, some (.inl x)))
  | _ => pko
def h_zrt : PF := fun _ _ _ _ _ _ _ _ st _ => match st with
  | [.inl x] => .inr (.inl (zbb x, some (.inl x)))
  | _ => pko
def h_art : PF := fun _ _ _ _ _ _ _ _ st _ => match st with
  | [.inr (.inl r)] => .inr (.inl (true, some (.inr (.inl r))))
  | _ => pko
def h_vrt : PF := fun _ _ _ _ _ _ _ _ st _ => match st with
  | [] => .inr (.inl (true, none))
  | _ => pko
def h_oin : PF := fun len _ _ _ _ _ pc ls st h => match st with
  | .inr (.inl (some _)) :: st' => cond (Nat.blt st'.length 9) (pgo (pc + len) ls st' h) pko
  | _ => pko
def h_sln : PF := fun len _ _ _ _ _ pc ls st h => match st with
  | .inr (.inr true) :: st' => pgo (pc + len) ls (.inl (h.2.2.2.1 : Int) :: st') h
  | _ => pko
def h_sld : PF := fun len _ _ _ _ _ pc ls st h => match st with
  | .inl i :: .inr (.inr true) :: st' => pgi (zib i h.2.2.2.1) (pc + len) ls (.inl (h.2.2.2.2 i.toNat) :: st') h
  | _ => pko
/-- a call: b values, the receiver first where there is one, of the class z -/
def h_inv (recv : Bool) : PF := fun _ a b _ z _ _ _ st h => cond (Nat.ble b st.length && (st.take b).all zpl && Nat.blt (st.length - b) 9)
  (match recv, (st.take b).reverse with
    | false, as => .inr (.inr (a, as, st.drop b))
    | true, .inr (.inl (some r)) :: as => match h.1[r]? with
      | some (c, _) => cond (Nat.beq c z.toNat) (.inr (.inr (a, .inr (.inl (some r)) :: as, st.drop b))) pko
      | none => pko
    | true, _ => pko) pko
def ptab : List PF := [fun _ _ _ _ _ _ _ _ _ _ => pko, h_ilo, h_alo, h_ist, h_ast, h_con, h_nul, h_gfi, h_gfr, h_pfi, h_pfr, h_ald 7, h_iast, h_ald 8, h_zast, h_aln,
  h_bin zad, h_bin zsb, h_bin zml, h_bin0 zdv, h_bin0 zrm, h_bin zan, h_bin zor, h_bin zxr, h_bin zsl, h_bin zsr, h_bin zus,
  h_inc, h_gto, h_ifc, h_icm, h_ifn, h_inn, h_acn, h_tsw, h_nar, h_new, h_dup, h_du2, h_pop, h_inv true, h_irt, h_zrt, h_art, h_vrt, h_oin, h_sln, h_sld, h_inv true, h_inv false, h_inv true]
