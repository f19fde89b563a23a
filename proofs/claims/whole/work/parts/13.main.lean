/-! the whole: what my machine does, the claim's does -/
theorem Met.ofWF {y : MethodName} {ws ws' : List Jvm.Cond} {l : Launch} {rm : Room} {Pc : Array Value → State → Prop} {Qc : Array Value → State → Outcome → State → Prop} {mc ms : Nat} {free : Addr → Prop} {cc : ByteArray} {maxL : Nat} {ret : Option FieldType}
    (hy : plainFor y = true) (hw : ws = Jvm.Cond.code y cc maxL ret :: ws')
    (body : ∀ p e s m args below meth c s₁, BodyLoose p l y (headSpec ws rm) cc maxL ret e s m args below meth c s₁ → c.maxLocals = maxL → Pc args s →
      W p l e (headSpec ws rm).room s m args below meth c s.heap [] 0 0 (MQ below Qc args s mc ms free) (entryFrame m args maxL)) : Met l y ws rm Pc Qc mc ms free := by
  refine MetFree.of_bodySF (code := cc) (maxLocals := maxL) (ret := ret) hy ?_ ?_
  · intro args s m h hn
    obtain ⟨meth, c, h1, h2, h3, h4, h5, h6, -, -⟩ := Cond.code_spec hn (atoms_spec (ws := ws) h _ (by rw [hw]; exact List.mem_cons_self))
    exact ⟨meth, c, h1, h2, h3, h4, h5, h6⟩
  · intro p e s m args below meth c s₁ B hml hP _
    have hh0 : s₁.heap = s.heap := by rw [B.state]; rfl
    obtain ⟨t, a1, o, b1, b2, b3⟩ := body p e s m args below meth c s₁ B hml hP s₁ hh0 (Stand.of_body B)
    exact ⟨t, o, a1, b1, b2, ⟨b3.1, b3.2⟩⟩
def zrk (mi pc : Nat) (st : List PV) (r : Option PV) : Prop :=
  (∃ x, st = [.inl x] ∧ r = some (.inl x) ∧ zmR mi = some .int ∧ decode (zmC mi) pc = .ok (.ireturn, 1)) ∨
  (∃ x, st = [.inl x] ∧ r = some (.inl x) ∧ zbb x = true ∧ zmR mi = some .boolean ∧ decode (zmC mi) pc = .ok (.ireturn, 1)) ∨
  (∃ q ty, st = [.inr (.inl q)] ∧ r = some (.inr (.inl q)) ∧ zmR mi = some ty ∧ ((∃ n, ty = .object n) ∨ ∃ t, ty = .array t) ∧ decode (zmC mi) pc = .ok (.areturn, 1)) ∨
  (st = [] ∧ r = none ∧ zmR mi = none ∧ decode (zmC mi) pc = .ok (.return_, 1))
def zTH (l : Launch) (n : Nat) : Prop := ∀ (mi : Nat) (t : PT) (r : Option PV) (h' : PH), pex n mi t = some (r, h') →
  ∀ {p : Program} {e : Env} {R : Room} {s : State} {m : MethodId} {args : Array Value} {below : List Frame} {meth : Method} {c : Code} {Q : State → Prop} {sc : Prop} {b : Nat} {D : va_G} {cI cZ : ClassId} {A : Nat → Prop} {k0 s0 : Nat} {ad0 : Nat → Nat},
  zcx p R s m args meth c mi sc D cI cZ A → h'.1.length ≤ R.cells + k0 → zsz h'.1 ≤ R.slots + s0 →
  (∀ (pc : Nat) (pl st : List PV) (ad : Nat → Nat) (H : Heap) (locs : List Loc) (ls : Array Slot) (cells slots : Nat), zst sc b D cI cZ A s (zmN mi) k0 s0 ad0 (pc, pl, st, h') ad H locs ls cells slots → zrk mi pc st r → W p l e R s m args below meth c H locs cells slots Q (F0 m pc ls (st.map (zv b ad)))) →
  zG p l e R s m args below meth c Q mi sc b D cI cZ A k0 s0 ad0 t
def zQ (b : Nat) (D : va_G) (cI cZ : ClassId) (ad : Nat → Nat) (n0 : Nat) (r1 : Option PV) (h1 : PH) (A1 : Nat → Prop) : Array Value → State → Outcome → State → Prop := fun _ st o t =>
  ∃ ad1 : Nat → Nat, (∀ k, k < n0 → ad1 k = ad k) ∧ o = .returned (r1.map (zv b ad1)) ∧ zwf h1 ∧ va_P D vwCl (zw cI cZ ad1 h1) t.heap ∧ va_D A1 (zw cI cZ ad1 h1) ∧ va_F A1 st t ∧ ∀ v, r1 = some v → zok False h1.1.length v
theorem lv_args_mem : ∀ (vs : List Value) (k i : Nat) (v : Value), (∀ w ∈ vs, w.category = 1) → vs[i]? = some v → (k + i, v) ∈ lv_args k vs
  | [], _, _, _, _, h => by simp at h
  | w :: vs, k, i, v, hc, h => by
    have h1 : w.category = 1 := hc w List.mem_cons_self
    rw [lv_args, if_neg (by omega)]
    cases i with
    | zero => simp at h; subst h; exact List.mem_cons_self
    | succ i =>
      have := lv_args_mem vs (k + 1) i v (fun w hw => hc w (List.mem_cons_of_mem _ hw)) (by simpa using h)
      rw [show k + (i + 1) = k + 1 + i by omega]
      exact List.mem_cons_of_mem _ this
theorem lg_sl_one (vs : List Value) (hc : ∀ w ∈ vs, w.category = 1) : (lg_sl vs).length = vs.length := by
  induction vs with
  | nil => rfl
  | cons w vs ih =>
    have h1 : w.category = 1 := hc w List.mem_cons_self
    have h2 := ih (fun w hw => hc w (List.mem_cons_of_mem _ hw))
    simp only [lg_sl, List.flatMap_cons, h1] at h2 ⊢
    simp
    simpa using h2
theorem zls_entry {b nL n : Nat} {ad : Nat → Nat} {as : List PV} {sc : Prop} (hl : as.length ≤ nL) (hk : ∀ v ∈ as, zok sc n v) :
    zls sc b ad n nL ((lg_sl (as.map (zv b ad)) ++ List.replicate (nL - (lg_sl (as.map (zv b ad))).length) Slot.unset).toArray) (as ++ List.replicate (nL - as.length) zU) := by
  have hc : ∀ w ∈ as.map (zv b ad), w.category = 1 := fun w hw => by
    obtain ⟨v, -, rfl⟩ := List.mem_map.mp hw
    exact zv_cat b ad v
  have hlen := lg_sl_one _ hc
  rw [List.length_map] at hlen
  obtain ⟨h1, h2, h3⟩ := lv_entry (as.map (zv b ad)) (n := nL) (by rw [hlen]; exact hl)
  refine ⟨h1, h2, by simp; omega, fun i v hv => ?_⟩
  by_cases hi : i < as.length
  · rw [List.getElem?_append_left hi] at hv
    refine Or.inr ⟨hk v (List.mem_of_getElem? hv), ?_⟩
    have := lv_args_mem (as.map (zv b ad)) 0 i (zv b ad v) hc (by rw [List.getElem?_map, hv]; rfl)
    rw [Nat.zero_add] at this
    exact h3 _ this
  · rw [List.getElem?_append_right (by omega)] at hv
    exact Or.inl (List.eq_of_mem_replicate (List.mem_of_getElem? hv))
/-- a method's contract at given values and cells -/
theorem zmet {l : Launch} {n m' b sz : Nat} {D : va_G} {cI cZ : ClassId} {A0 : Nat → Prop} {ad : Nat → Nat} {as : List PV} {h h1 : PH} {r1 : Option PV} (IH : zTH l n) (hx : pex n m' (0, pfr m' as, [], h) = some (r1, h1)) (hm : m' < 172) (hlen : as.length = zmP m')
    (hok : ∀ v ∈ as, zok False h.1.length v) (W0 : zwf h) (hD0 : va_D A0 (zw cI cZ ad h)) :
    Met l (zmY m') (.code (zmY m') (zmC m') (zmN m') (zmR m') :: WS) { frames := zmF m', cells := h1.1.length - h.1.length, slots := zsz h1.1 - zsz h.1, locals := zmL m' }
      (va_Pc (as.map (zv b ad)) (fun U => U.heap.size = sz ∧ va_P D vwCl (zw cI cZ ad h) U.heap ∧ va_K D vwCl [(cI, .int), (cZ, .boolean)] U ∧ zEX U))
      (zQ b D cI cZ ad h.1.length r1 h1 (va_A (zw cI cZ ad h) sz)) (h1.1.length - h.1.length) (zsz h1.1 - zsz h.1) (va_A (zw cI cZ ad h) sz) := by
  obtain ⟨i, hB⟩ := zmB_use hm
  simp only [zmB, Bool.and_eq_true, decide_eq_true_eq] at hB
  obtain ⟨⟨⟨⟨⟨⟨⟨⟨-, hpl⟩, -⟩, -⟩, hpn⟩, -⟩, hcls⟩, hk3⟩, hkk⟩ := hB
  obtain ⟨⟨ext, hext⟩, hS1⟩ := pex_gr _ _ _ _ hx
  simp only at hext hS1
  have hle : h.1.length ≤ h1.1.length := by rw [hext]; simp
  have hle2 : zsz h.1 ≤ zsz h1.1 := by rw [hext, zsz_app]; omega
  refine Met.ofWF (cc := zmC m') (maxL := zmN m') (ret := zmR m') hpl rfl ?_
  intro p e s m args below meth c s₁ B hml hv
  obtain ⟨rfl, hsz, hP, hK, hEX⟩ := hv
  have hts := atoms_spec (ws := .code (zmY m') (zmC m') (zmN m') (zmR m') :: WS) B.pre
  have hown : s.vm.findClass (zmY m').cls = some m.cls := findClass_of_methodNamed B.named
  have hlocks := B.notSynchronized
  have hin : meth.name = (zmY m').name := (name_of_methodNamed B.named B.method).1
  have hr := B.returns
  subst hsz
  rw [lg_entry_eq]
  have hD : va_D (va_A (zw cI cZ ad h) s.heap.size) (zw cI cZ ad h) := hD0.self
  have C : zcx p (headSpec (.code (zmY m') (zmC m') (zmN m') (zmR m') :: WS) { frames := zmF m', cells := h1.1.length - h.1.length, slots := zsz h1.1 - zsz h.1, locals := zmL m' }).room s m (as.map (zv b ad)).toArray meth c m' False D cI cZ (va_A (zw cI cZ ad h) s.heap.size) := by
    refine ⟨B.exec, B.bytes, hml, by rw [← hcls]; exact hown, fun w hw => hts w (List.mem_cons_of_mem _ hw), hK, fun q hq => Or.inr hq, fun h1 => ?_, fun h => absurd h (by omega), Nat.le_refl _, Nat.le_refl _, hEX⟩
    rw [if_neg (by omega), if_pos h1] at hkk
    simp only [Bool.and_eq_true, decide_eq_true_eq] at hkk
    rw [hin]
    exact hkk.1.2
  refine IH m' (0, pfr m' as, [], h) r1 h1 hx (k0 := h.1.length) (s0 := zsz h.1) (ad0 := ad) (b := b) C (by show h1.1.length ≤ h1.1.length - h.1.length + h.1.length; omega) (by show zsz h1.1 ≤ zsz h1.1 - zsz h.1 + zsz h.1; omega) ?_ ad s.heap [] _ 0 0
    ⟨W0, hP, hD, va_S.rf, zls_entry (by rw [hlen]; exact hpn) hok, fun v hv => by (cases hv), by show 0 + h.1.length = h.1.length; omega, by show 0 + zsz h.1 = zsz h.1; omega, fun k _ => rfl, fun h => h.elim⟩
  intro pc pl st ad1 H locs ls cells slots Z hrk
  have ec : cells = h1.1.length - h.1.length := by have := Z.2.2.2.2.2.2.1; simp only at this; omega
  have es : slots = zsz h1.1 - zsz h.1 := by have := Z.2.2.2.2.2.2.2.1; simp only at this; omega
  rw [← ec, ← es]
  have hf : ∀ q ∈ locs, va_A (zw cI cZ ad h) s.heap.size q.base := Z.2.2.2.1.2.2
  have hq : ∀ (o : Option Value) (t : State), o = r1.map (zv b ad1) → (∀ v, r1 = some v → zok False h1.1.length v) → t.heap = H → zQ b D cI cZ ad h.1.length r1 h1 (va_A (zw cI cZ ad h) s.heap.size) (as.map (zv b ad)).toArray s (.returned o) t := by
    intro o t ho hv ht
    refine ⟨ad1, fun k hk => Z.2.2.2.2.2.2.2.2.1 k hk, by rw [ho], Z.1, by rw [ht]; exact Z.2.1, Z.2.2.1, Z.2.2.2.1.F ht, hv⟩
  rcases hrk with ⟨x, rfl, rfl, hR, hdg⟩ | ⟨x, rfl, rfl, hb, hR, hdg⟩ | ⟨q, ty, rfl, rfl, hR, hty, hdg⟩ | ⟨rfl, rfl, hR, hdg⟩
  · exact W.iret (cc := zmC m') B.exec B.bytes (hr.trans hR) (fun t ht _ => hq _ t rfl (fun v hv => by cases hv; exact zok_sc (zok1 (zst_ok Z)).1) ht) hf hdg hlocks
  · exact W.zret (cc := zmC m') B.exec B.bytes (hr.trans hR) (zbb_nar hb).2.1 (fun t ht _ => hq _ t rfl (fun v hv => by cases hv; exact zok_sc (zok1 (zst_ok Z)).1) ht) hf hdg hlocks
  · exact W.aret (cc := zmC m') B.exec B.bytes (hr.trans hR) hty (by cases q with | none => exact Or.inl rfl | some k => exact Or.inr ⟨_, rfl⟩) (fun t ht _ => hq _ t rfl (fun v hv => by cases hv; exact zok_sc (zok1 (zst_ok Z)).1) ht) hf hdg hlocks
  · exact W.vret (cc := zmC m') B.exec B.bytes (hr.trans hR) (fun t ht _ => hq _ t rfl (fun v hv => by cases hv) ht) hf hdg hlocks
theorem inv_use {recv : Bool} {len a b2 d : Nat} {z : Int} {ts : List Nat} {pc : Nat} {pl st : List PV} {h : PH} {m' : Nat} {as rest : List PV} (hh : h_inv recv len a b2 d z ts pc pl st h = .inr (.inr (m', as, rest))) :
    m' = a ∧ rest.length ≤ 8 ∧ (∀ v ∈ as, zpl v = true) ∧ as.length = b2 ∧ st = as.reverse ++ rest ∧ (recv = true → ∃ r as' c n, as = zA r :: as' ∧ h.1[r]? = some (c, n) ∧ c = z.toNat) := by
  unfold h_inv at hh
  cases hg : (Nat.ble b2 st.length && (st.take b2).all zpl && Nat.blt (st.length - b2) 9) with
  | false => rw [hg] at hh; cases hh
  | true =>
    rw [hg] at hh
    simp only [Bool.and_eq_true] at hg
    obtain ⟨⟨g1, g2⟩, g3⟩ := hg
    have g1 : b2 ≤ st.length := Nat.ble_eq.mp g1
    have g3 : st.length - b2 < 9 := Nat.ble_eq.mp g3
    have g2 := List.all_eq_true.mp g2
    simp only [cond_true] at hh
    have key : as = (st.take b2).reverse → rest = st.drop b2 → rest.length ≤ 8 ∧ (∀ v ∈ as, zpl v = true) ∧ as.length = b2 ∧ st = as.reverse ++ rest := by
      intro e1 e2
      subst e1; subst e2
      refine ⟨by simp; omega, fun v hv => g2 v (List.mem_reverse.mp hv), by simp; omega, by simp⟩
    split at hh
    · rename_i ass hs
      cases hh
      obtain ⟨k1, k2, k3, k4⟩ := key rfl rfl
      exact ⟨rfl, k1, k2, k3, k4, fun h => by cases h⟩
    · rename_i r as' hs
      split at hh
      · rename_i c n hc
        cases hg4 : Nat.beq c z.toNat with
        | false => rw [hg4] at hh; cases hh
        | true =>
          rw [hg4] at hh
          cases hh
          obtain ⟨k1, k2, k3, k4⟩ := key hs.symm rfl
          exact ⟨rfl, k1, k2, k3, k4, fun _ => ⟨r, as', c, n, rfl, hc, Nat.eq_of_beq_eq_true hg4⟩⟩
      · cases hh
    · cases hh
section CALL
variable {p : Program} {l : Launch} {e : Env} {R : Room} {s : State} {m : MethodId} {args : Array Value} {below : List Frame} {meth : Method} {c : Code} {Q : State → Prop}
variable {mi : Nat} {sc : Prop} {b : Nat} {D : va_G} {cI cZ : ClassId} {A : Nat → Prop} {k0 s0 : Nat} {ad0 : Nat → Nat}
variable {len a b2 d : Nat} {z : Int} {ts : List Nat} {pc : Nat} {pl st : List PV} {h h1 : PH} {r1 : Option PV} {as rest : List PV}
theorem zcall_tail {ad : Nat → Nat} {H : Heap} {locs : List Loc} {ls : Array Slot} {cells slots : Nat} {st0 : List Value} {av : Array Value} (C : zcx p R s m args meth c mi sc D cI cZ A) (Z : zst sc b D cI cZ A s (zmN mi) k0 s0 ad0 (pc, pl, st, h) ad H locs ls cells slots) (hrest : ∀ v ∈ rest, zok sc h.1.length v)
    (hgr : (∃ ext, h1.1 = h.1 ++ ext) ∧ h1.2.2.2 = h.2.2.2) (G : zG p l e R s m args below meth c Q mi sc b D cI cZ A k0 s0 ad0 (pc + 3, pl, r1.toList ++ rest, h1))
    (hr : va_Run p l e R s m args below meth c H locs cells slots (h1.1.length - h.1.length) (zsz h1.1 - zsz h.1) (F0 m pc ls st0) (rest.map (zv b ad)) (zQ b D cI cZ ad h.1.length r1 h1 (va_A (zw cI cZ ad h) H.size) av) (va_A (zw cI cZ ad h) H.size)) :
    W p l e R s m args below meth c H locs cells slots Q (F0 m pc ls st0) := by
  intro T hT X
  obtain ⟨v, st₀, t, T', L, g0, X', hL, e1, e2, ⟨ad1, q1, q2, q3, q4, q5, q6, q7⟩, stp⟩ := hr T hT X
  obtain ⟨⟨ext, hext⟩, hSS⟩ := hgr
  have hle : h.1.length ≤ h1.1.length := by rw [hext]; simp
  have hle2 : zsz h.1 ≤ zsz h1.1 := by rw [hext, zsz_app]; omega
  have hA1 : ∀ q, va_A (zw cI cZ ad h) H.size q → A q := by
    intro q hq
    rcases hq with ⟨k, E, hk⟩ | hq
    · exact Z.2.2.1.2 k _ hk
    · exact C.2.2.2.2.2.2.1 q (Nat.le_trans Z.2.2.2.1.1 hq)
  have ev : v = r1.map (zv b ad1) := by cases q2; rfl
  have hS1 : va_S A s.heap T'.heap (locs ++ L) := by
    obtain ⟨f1, f2⟩ := q6
    rw [g0] at f1 f2
    refine ⟨Nat.le_trans Z.2.2.2.1.1 (by rw [e1]; exact f1), fun q hq1 hq2 => ?_, fun q hq => ?_⟩
    · rw [e1, f2 q (Nat.lt_of_lt_of_le hq1 Z.2.2.2.1.1) (fun w => hq2 (hA1 q w))]
      exact Z.2.2.2.1.2.1 q hq1 hq2
    · rcases List.mem_append.mp hq with hq | hq
      · exact Z.2.2.2.1.2.2 q hq
      · exact hA1 _ (hL q hq)
  have Z1 : zst sc b D cI cZ A s (zmN mi) k0 s0 ad0 (pc + 3, pl, r1.toList ++ rest, h1) ad1 T'.heap (locs ++ L) ls (cells + (h1.1.length - h.1.length)) (slots + (zsz h1.1 - zsz h.1)) := by
    refine ⟨q3, by show va_P D vwCl (zw cI cZ ad1 h1) T'.heap; rw [e1]; exact q4, q5.weaken (fun _ _ _ w => hA1 _ w), hS1, zls_ad (zst_ls Z) hle q1, fun w hw => ?_, ?_, ?_, fun k hk => ?_, fun hsc => ?_⟩
    · rcases List.mem_append.mp hw with hw | hw
      · exact zok_sc (q7 w (by simpa using hw))
      · exact zok_mono hle (hrest w hw)
    · have := Z.2.2.2.2.2.2.1; simp only at this ⊢; omega
    · have := Z.2.2.2.2.2.2.2.1; simp only at this ⊢; omega
    · have := Z.2.2.2.2.2.2.1
      simp only at this
      rw [q1 k (by omega)]
      exact Z.2.2.2.2.2.2.2.2.1 k hk
    · have := Z.2.2.2.2.2.2.2.2.2 hsc
      simp only at this ⊢
      rw [hSS]
      exact this
  obtain ⟨t2, a1, b1⟩ := G ad1 T'.heap (locs ++ L) ls _ _ Z1 T' rfl X'
  refine ⟨t2, stp t2 ?_, b1⟩
  have ek : (r1.toList ++ rest).map (zv b ad1) = v.toList ++ rest.map (zv b ad) := by
    rw [List.map_append, zmap_ad hrest q1, ev]
    cases r1 <;> rfl
  simp only at a1
  rw [ek] at a1
  exact a1
theorem zcall_in (mi' : Nat) (C : zcx p R s m args meth c mi sc D cI cZ A) (k : Nat) (hc : zcall k mi a b2 d = true) : Jvm.Cond.methodLink (zwn (zmO mi)) d (zmY a) ∈ WS ∧ zmK a = k ∧ b2 = zmP a ∧ a < 172 ∧ zmF a + 1 ≤ R.frames ∧ 8 + (zmN a + 11) + zmL a ≤ R.locals := by
  simp only [zcall, Bool.and_eq_true, decide_eq_true_eq] at hc
  obtain ⟨⟨⟨⟨⟨g1, g2⟩, g3⟩, g4⟩, g5⟩, g6⟩ := hc
  exact ⟨mlk_use g1, g2, g3, g4, Nat.le_trans g5 C.2.2.2.2.2.2.2.2.2.1, Nat.le_trans g6 C.2.2.2.2.2.2.2.2.2.2.1⟩
theorem zcallB (C : zcx p R s m args meth c mi sc D cI cZ A) {mc ms : Nat} (ha : a < 172) (hl : Jvm.Cond.methodLink (zwn (zmO mi)) d (zmY a) ∈ WS) (h1 : zmF a + 1 ≤ R.frames) (h2 : 8 + (zmN a + 11) + zmL a ≤ R.locals) :
    CallB R s args (zwn (zmO mi)) d (zmY a) (zmC a) (zmN a) (zmR a) (.code (zmY a) (zmC a) (zmN a) (zmR a) :: WS) { frames := zmF a, cells := mc, slots := ms, locals := zmL a } mc ms (zmP a - (if zmK a < 2 then 1 else 0)) := by
  obtain ⟨i, hB⟩ := zmB_use ha
  simp only [zmB, Bool.and_eq_true, decide_eq_true_eq] at hB
  obtain ⟨⟨⟨⟨⟨⟨⟨⟨hi, hpl⟩, hmh⟩, hpar⟩, hpn⟩, -⟩, hcls⟩, hk3⟩, hkk⟩ := hB
  exact callB_of (ws' := WS) _ C.2.2.2.2.1 (fun w hw => by
    rcases List.mem_cons.mp hw with rfl | hw
    · exact ⟨zcw_all a ha, WS_ok (zcw_all a ha)⟩
    · exact ⟨hw, WS_ok hw⟩) rfl rfl rfl (C.2.2.2.2.1 _ (zAt_mem hi)) (C.2.2.2.2.1 _ hl) ⟨hmh.1, hmh.2, hpar⟩ ⟨h1, h2⟩
theorem zblind {av : List Value} {sz : Nat} {ws : va_W} : FrameBlind (va_Pc av (fun U => U.heap.size = sz ∧ va_P D vwCl ws U.heap ∧ va_K D vwCl [(cI, .int), (cZ, .boolean)] U ∧ zEX U)) := fun a U g mk q => by
  obtain ⟨q1, q2, q3, q4, q5⟩ := q
  exact ⟨q1, q2, q3, va_K.moved (u := U) (U := U.calling g mk a) (Vm.Alike.refl U.vm) q4, va_Nw.same rfl (u := U) (U := U.calling g mk a) rfl q5.1, va_Nw.same rfl (u := U) (U := U.calling g mk a) rfl q5.2⟩
theorem zpre {ad : Nat → Nat} {H : Heap} {locs : List Loc} {ls : Array Slot} {cells slots : Nat} (C : zcx p R s m args meth c mi sc D cI cZ A) (Z : zst sc b D cI cZ A s (zmN mi) k0 s0 ad0 (pc, pl, st, h) ad H locs ls cells slots) (av : List Value) (U : State) (hU : U.heap = H) (hW : s.WarmedH U.vm) :
    va_Pc av (fun U => U.heap.size = H.size ∧ va_P D vwCl (zw cI cZ ad h) U.heap ∧ va_K D vwCl [(cI, .int), (cZ, .boolean)] U ∧ zEX U) av.toArray U := by
  refine ⟨rfl, by rw [hU], by rw [hU]; exact Z.2.1, va_K.moved hW.alike C.2.2.2.2.2.1, va_Nw.warmM hW C.2.2.2.2.2.2.2.2.2.2.2.1, va_Nw.warmM hW C.2.2.2.2.2.2.2.2.2.2.2.2⟩
end CALL
