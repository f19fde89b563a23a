/-! a heap only grows; the tables' facts in the form of use -/
def zgr (r : PR) (h : PH) : Prop := ∀ l q, r = .inl l → zch l q → (∃ ext, q.2.2.2.1 = h.1 ++ ext) ∧ q.2.2.2.2.2.2 = h.2.2.2
theorem zgr_ko {h : PH} : zgr pko h := fun l q e hq => by cases e; exact (zch_0 hq).elim
theorem zgr_gi {c : Bool} {pc : Nat} {ls st : List PV} {h h' : PH} (h1 : ∃ ext, h'.1 = h.1 ++ ext) (h2 : h'.2.2.2 = h.2.2.2) : zgr (pgi c pc ls st h') h := fun l q e hq => by
  cases e
  obtain ⟨-, rfl⟩ := zch_1 hq
  exact ⟨h1, h2⟩
theorem zgr_go {pc : Nat} {ls st : List PV} {h h' : PH} (h1 : ∃ ext, h'.1 = h.1 ++ ext) (h2 : h'.2.2.2 = h.2.2.2) : zgr (pgo pc ls st h') h := zgr_gi (c := true) h1 h2
theorem zgr_same {pc : Nat} {ls st : List PV} {h : PH} : zgr (pgo pc ls st h) h := zgr_go ⟨[], by simp⟩ rfl
theorem zgr_br {c : Bool} {pc pc2 : Nat} {ls st : List PV} {h : PH} : zgr (pbr c pc pc2 ls st h) h := fun l q e hq => by
  cases e
  rcases zch_2 hq with ⟨-, rfl⟩ | ⟨-, rfl⟩ <;> exact ⟨⟨[], by simp⟩, rfl⟩
theorem zgr_cond {c : Bool} {x y : PR} {h : PH} (h1 : zgr x h) (h2 : zgr y h) : zgr (cond c x y) h := by cases c <;> assumption
theorem zgr_r {x : (Bool × Option PV) ⊕ (Nat × List PV × List PV)} {h : PH} : zgr (.inr x) h := fun l q e => by cases e
theorem zgr_all : ∀ f ∈ ptab, ∀ len a b d z ts pc ls st h, zgr (f len a b d z ts pc ls st h) h := by
  have hbin : ∀ g len a b d z ts pc ls st h, zgr (h_bin g len a b d z ts pc ls st h) h := by
    intro g len a b d z ts pc ls st h; unfold h_bin; split <;> first | exact zgr_same | exact zgr_ko
  have hald : ∀ g len a b d z ts pc ls st h, zgr (h_ald g len a b d z ts pc ls st h) h := by
    intro g len a b d z ts pc ls st h; unfold h_ald; repeat' split
    all_goals first | exact zgr_ko | exact zgr_cond (zgr_gi ⟨[], by simp⟩ rfl) zgr_ko
  have hinv : ∀ g len a b d z ts pc ls st h, zgr (h_inv g len a b d z ts pc ls st h) h := by
    intro g len a b d z ts pc ls st h; unfold h_inv; apply zgr_cond _ zgr_ko; repeat' split
    all_goals first | exact zgr_ko | exact zgr_r | exact zgr_cond zgr_r zgr_ko
  have hbin0 : ∀ g len a b d z ts pc ls st h, zgr (h_bin0 g len a b d z ts pc ls st h) h := by
    intro g len a b d z ts pc ls st h; unfold h_bin0; split <;> first | exact zgr_gi ⟨[], by simp⟩ rfl | exact zgr_ko
  have hcm : ∀ c x y pc1 pc2 ls st h, zgr (zcm c x y pc1 pc2 ls st h) h := by
    intro c x y pc1 pc2 ls st h; unfold zcm; split <;> first | exact zgr_br | exact zgr_ko
  intro f hf
  simp only [ptab, List.mem_cons, List.not_mem_nil, or_false] at hf
  rcases hf with rfl | rfl | rfl | rfl | rfl | rfl | rfl | rfl | rfl | rfl | rfl | rfl | rfl | rfl | rfl | rfl | rfl | rfl | rfl | rfl | rfl | rfl | rfl | rfl | rfl | rfl | rfl | rfl | rfl | rfl | rfl | rfl | rfl | rfl | rfl | rfl | rfl | rfl | rfl | rfl | rfl | rfl | rfl | rfl | rfl | rfl | rfl | rfl | rfl | rfl | rfl <;> intro len a b d z ts pc ls st h
  · exact zgr_ko
  · unfold h_ilo; split <;> first | exact zgr_same | exact zgr_ko
  · unfold h_alo; split <;> first | exact zgr_same | exact zgr_ko
  · unfold h_ist; split <;> first | exact zgr_cond zgr_same zgr_ko | exact zgr_ko
  · unfold h_ast; split <;> first | exact zgr_cond zgr_same zgr_ko | exact zgr_ko
  · exact zgr_same
  · exact zgr_same
  · unfold h_gfi; repeat' split
    all_goals first | exact zgr_ko | exact zgr_cond zgr_same zgr_ko
  · unfold h_gfr; repeat' split
    all_goals first | exact zgr_ko | exact zgr_cond zgr_same zgr_ko
  · unfold h_pfi; repeat' split
    all_goals first | exact zgr_ko | exact zgr_cond (zgr_go ⟨[], by simp⟩ rfl) zgr_ko
  · unfold h_pfr; repeat' split
    all_goals first | exact zgr_ko | exact zgr_cond (zgr_go ⟨[], by simp⟩ rfl) zgr_ko
  · exact hald _ _ _ _ _ _ _ _ _ _ _
  · unfold h_iast; repeat' split
    all_goals first | exact zgr_ko | exact zgr_cond (zgr_gi ⟨[], by simp⟩ rfl) zgr_ko
  · exact hald _ _ _ _ _ _ _ _ _ _ _
  · unfold h_zast; repeat' split
    all_goals first | exact zgr_ko | exact zgr_cond (zgr_gi ⟨[], by simp⟩ rfl) zgr_ko
  · unfold h_aln; repeat' split
    all_goals first | exact zgr_ko | exact zgr_cond zgr_same zgr_ko
  · exact hbin _ _ _ _ _ _ _ _ _ _ _
  · exact hbin _ _ _ _ _ _ _ _ _ _ _
  · exact hbin _ _ _ _ _ _ _ _ _ _ _
  · exact hbin0 _ _ _ _ _ _ _ _ _ _ _
  · exact hbin0 _ _ _ _ _ _ _ _ _ _ _
  · exact hbin _ _ _ _ _ _ _ _ _ _ _
  · exact hbin _ _ _ _ _ _ _ _ _ _ _
  · exact hbin _ _ _ _ _ _ _ _ _ _ _
  · exact hbin _ _ _ _ _ _ _ _ _ _ _
  · exact hbin _ _ _ _ _ _ _ _ _ _ _
  · exact hbin _ _ _ _ _ _ _ _ _ _ _
  · unfold h_inc; split <;> first | exact zgr_same | exact zgr_ko
  · exact zgr_same
  · unfold h_ifc; split <;> first | exact hcm _ _ _ _ _ _ _ _ | exact zgr_ko
  · unfold h_icm; split <;> first | exact hcm _ _ _ _ _ _ _ _ | exact zgr_ko
  · unfold h_ifn; split <;> first | exact zgr_same | exact zgr_ko
  · unfold h_inn; split <;> first | exact zgr_same | exact zgr_ko
  · unfold h_acn; split <;> first | exact zgr_br | exact zgr_ko
  · unfold h_tsw; split
    · rename_i x st'
      intro l q e hq
      cases e
      obtain ⟨l1, l2, e1, -⟩ := hq
      have hm : (true, q) ∈ ts.zipIdx.map (fun q => (decide (x = (q.2 : Int)), ((q.1, ls, st', h) : PT))) ++ [(true, (d, ls, st', h))] := by rw [e1]; simp
      rcases List.mem_append.mp hm with hm | hm
      · obtain ⟨w, -, hw⟩ := List.mem_map.mp hm
        have := congrArg Prod.snd hw
        simp only at this
        rw [← this]
        exact ⟨⟨[], by simp⟩, rfl⟩
      · have : q = (d, ls, st', h) := by simpa using hm
        rw [this]
        exact ⟨⟨[], by simp⟩, rfl⟩
    · exact zgr_ko
  · unfold h_nar; split
    · exact zgr_gi ⟨_, rfl⟩ rfl
    · exact zgr_ko
  · exact zgr_go ⟨_, rfl⟩ rfl
  · unfold h_dup; split <;> first | exact zgr_same | exact zgr_ko
  · unfold h_du2; split <;> first | exact zgr_same | exact zgr_ko
  · unfold h_pop; split <;> first | exact zgr_same | exact zgr_ko
  · exact hinv _ _ _ _ _ _ _ _ _ _ _
  · unfold h_irt; split <;> first | exact zgr_r | exact zgr_ko
  · unfold h_zrt; split <;> first | exact zgr_r | exact zgr_ko
  · unfold h_art; split <;> first | exact zgr_r | exact zgr_ko
  · unfold h_vrt; split <;> first | exact zgr_r | exact zgr_ko
  · unfold h_oin; split <;> first | exact zgr_cond zgr_same zgr_ko | exact zgr_ko
  · unfold h_sln; split <;> first | exact zgr_same | exact zgr_ko
  · unfold h_sld; split <;> first | exact zgr_gi ⟨[], by simp⟩ rfl | exact zgr_ko
  · exact hinv _ _ _ _ _ _ _ _ _ _ _
  · exact hinv _ _ _ _ _ _ _ _ _ _ _
  · exact hinv _ _ _ _ _ _ _ _ _ _ _
theorem zgr_st {m pc : Nat} {ls st : List PV} {h : PH} : zgr (pst m pc ls st h) h := by
  unfold pst
  split
  · exact zgr_ko
  · split
    · split
      · rename_i f hf; exact zgr_all f (List.mem_of_getElem? hf) _ _ _ _ _ _ _ _ _ _
      · exact zgr_ko
    · exact zgr_ko
theorem pex_gr : ∀ (n m : Nat) (t : PT) (v : Option PV × PH), pex n m t = some v → (∃ ext, v.2.1 = t.2.2.2.1 ++ ext) ∧ v.2.2.2.2 = t.2.2.2.2.2.2 := by
  intro n
  induction n with
  | zero => intro m t v h; cases h
  | succ n ih =>
    intro m t v h
    unfold pex at h
    split at h
    · rename_i l hl
      obtain ⟨q, hq, hv⟩ := zch_of h
      obtain ⟨⟨e1, h1⟩, h2⟩ := zgr_st l q hl hq
      obtain ⟨⟨e2, h3⟩, h4⟩ := ih m q v hv
      exact ⟨⟨e1 ++ e2, by rw [h3, h1, List.append_assoc]⟩, h4.trans h2⟩
    · rename_i c r hl
      cases c with
      | true => cases h; exact ⟨⟨[], by simp⟩, rfl⟩
      | false => cases h
    · rename_i m' as rest hl
      obtain ⟨w, hw, hv⟩ := Option.bind_eq_some_iff.mp h
      obtain ⟨⟨e1, h1⟩, h2⟩ := ih _ _ _ hw
      obtain ⟨⟨e2, h3⟩, h4⟩ := ih _ _ _ hv
      exact ⟨⟨e1 ++ e2, by rw [h3]; simp only; rw [h1, List.append_assoc]⟩, by rw [h4]; exact h2⟩
theorem zsz_app (a b : List (Nat × Nat)) : zsz (a ++ b) = zsz a + zsz b := by simp [zsz]
-- the words of a method
theorem WS_good {w : Jvm.Cond} (h : w ∈ WS) : goodWord w = true := (List.mem_filter.mp h).2
theorem WS_ok {w : Jvm.Cond} (h : w ∈ WS) : (w.onTables && w.keeps) = true ∨ ∃ ty, w = .arrayClass ty := good_of_word (WS_good h)
theorem zcode_of {i : Nat} {y : MethodName} {bs : ByteArray} {k : Nat} {r : Option FieldType} (h : lw_tbl[i]? = some (.code y bs k r)) : Jvm.Cond.code y bs k r ∈ WS := List.mem_filter.mpr ⟨List.mem_of_getElem? h, rfl⟩
theorem zmB_use {m : Nat} (hm : m < 172) : ∃ i, zmB m i = true := by
  by_cases h0 : m < 43
  · exact ⟨_, List.all_eq_true.mp zmB_0 m (List.mem_range.mpr h0)⟩
  by_cases h1 : m < 86
  · have := List.all_eq_true.mp zmB_43 (m - 43) (List.mem_range.mpr (by omega))
    rw [Nat.sub_add_cancel (by omega)] at this
    exact ⟨_, this⟩
  by_cases h2 : m < 129
  · have := List.all_eq_true.mp zmB_86 (m - 86) (List.mem_range.mpr (by omega))
    rw [Nat.sub_add_cancel (by omega)] at this
    exact ⟨_, this⟩
  · have := List.all_eq_true.mp zmB_129 (m - 129) (List.mem_range.mpr (by omega))
    rw [Nat.sub_add_cancel (by omega)] at this
    exact ⟨_, this⟩
theorem mlk_use {o d a : Nat} (h : mlk.contains (o, d, a) = true) : Jvm.Cond.methodLink (zwn o) d (zmY a) ∈ WS := by
  have hm : (o, d, a) ∈ mlk := by simpa using h
  obtain ⟨i, hi⟩ := zip_in (b := mlkP) (by decide +kernel) hm
  exact zAt_mem (List.all_eq_true.mp mlk_ok _ hi)
theorem klk_use {o d : Nat} {z : Int} (h : klk.contains (o, d, z) = true) : Jvm.Cond.constant (zwn o) d (Int32.ofInt z) ∈ WS := by
  have hm : (o, d, z) ∈ klk := by simpa using h
  obtain ⟨i, hi⟩ := zip_in (b := klkP) (by decide +kernel) hm
  exact zAt_mem (List.all_eq_true.mp klk_ok _ hi)
theorem olk_use {o d : Nat} (h : olk.contains (o, d) = true) : Jvm.Cond.methodLink (zwn o) d Lib.objectInit ∈ WS := by
  have hm : (o, d) ∈ olk := by simpa using h
  obtain ⟨i, hi⟩ := zip_in (b := olkP) (by decide +kernel) hm
  exact zAt_mem (List.all_eq_true.mp olk_ok _ hi)
theorem clk_use {o d a : Nat} (h : clk.contains (o, d, a) = true) : ∃ (C : String) (T : u_T) (N : Nat), vwCl[a]? = some (C, T, N) ∧ Jvm.Cond.classLink (zwn o) d C ∈ WS ∧ Jvm.Cond.instantiable C N ∈ WS ∧ Jvm.Cond.initialized C ∈ WS := by
  have hm : (o, d, a) ∈ clk := by simpa using h
  obtain ⟨i, hi⟩ := zip_in (b := clkP) (by decide +kernel) hm
  have hB := List.all_eq_true.mp clk_ok _ hi
  simp only [clkB] at hB
  split at hB
  · rename_i C T N hq
    simp only [Bool.and_eq_true] at hB
    exact ⟨C, T, N, hq, zAt_mem hB.1.1, zAt_mem hB.1.2, zAt_mem hB.2⟩
  · cases hB
theorem zcw_all : ∀ m, m < 172 → Jvm.Cond.code (zmY m) (zmC m) (zmN m) (zmR m) ∈ WS := fun m hm => match m, hm with
  | 0, _ => zcode_of zcw_0
  | 1, _ => zcode_of zcw_1
  | 2, _ => zcode_of zcw_2
  | 3, _ => zcode_of zcw_3
  | 4, _ => zcode_of zcw_4
  | 5, _ => zcode_of zcw_5
  | 6, _ => zcode_of zcw_6
  | 7, _ => zcode_of zcw_7
  | 8, _ => zcode_of zcw_8
  | 9, _ => zcode_of zcw_9
  | 10, _ => zcode_of zcw_10
  | 11, _ => zcode_of zcw_11
  | 12, _ => zcode_of zcw_12
  | 13, _ => zcode_of zcw_13
  | 14, _ => zcode_of zcw_14
  | 15, _ => zcode_of zcw_15
  | 16, _ => zcode_of zcw_16
  | 17, _ => zcode_of zcw_17
  | 18, _ => zcode_of zcw_18
  | 19, _ => zcode_of zcw_19
  | 20, _ => zcode_of zcw_20
  | 21, _ => zcode_of zcw_21
  | 22, _ => zcode_of zcw_22
  | 23, _ => zcode_of zcw_23
  | 24, _ => zcode_of zcw_24
  | 25, _ => zcode_of zcw_25
  | 26, _ => zcode_of zcw_26
  | 27, _ => zcode_of zcw_27
  | 28, _ => zcode_of zcw_28
  | 29, _ => zcode_of zcw_29
  | 30, _ => zcode_of zcw_30
  | 31, _ => zcode_of zcw_31
  | 32, _ => zcode_of zcw_32
  | 33, _ => zcode_of zcw_33
  | 34, _ => zcode_of zcw_34
  | 35, _ => zcode_of zcw_35
  | 36, _ => zcode_of zcw_36
  | 37, _ => zcode_of zcw_37
  | 38, _ => zcode_of zcw_38
  | 39, _ => zcode_of zcw_39
  | 40, _ => zcode_of zcw_40
  | 41, _ => zcode_of zcw_41
  | 42, _ => zcode_of zcw_42
  | 43, _ => zcode_of zcw_43
  | 44, _ => zcode_of zcw_44
  | 45, _ => zcode_of zcw_45
  | 46, _ => zcode_of zcw_46
  | 47, _ => zcode_of zcw_47
  | 48, _ => zcode_of zcw_48
  | 49, _ => zcode_of zcw_49
  | 50, _ => zcode_of zcw_50
  | 51, _ => zcode_of zcw_51
  | 52, _ => zcode_of zcw_52
  | 53, _ => zcode_of zcw_53
  | 54, _ => zcode_of zcw_54
  | 55, _ => zcode_of zcw_55
  | 56, _ => zcode_of zcw_56
  | 57, _ => zcode_of zcw_57
  | 58, _ => zcode_of zcw_58
  | 59, _ => zcode_of zcw_59
  | 60, _ => zcode_of zcw_60
  | 61, _ => zcode_of zcw_61
  | 62, _ => zcode_of zcw_62
  | 63, _ => zcode_of zcw_63
  | 64, _ => zcode_of zcw_64
  | 65, _ => zcode_of zcw_65
  | 66, _ => zcode_of zcw_66
  | 67, _ => zcode_of zcw_67
  | 68, _ => zcode_of zcw_68
  | 69, _ => zcode_of zcw_69
  | 70, _ => zcode_of zcw_70
  | 71, _ => zcode_of zcw_71
  | 72, _ => zcode_of zcw_72
  | 73, _ => zcode_of zcw_73
  | 74, _ => zcode_of zcw_74
  | 75, _ => zcode_of zcw_75
  | 76, _ => zcode_of zcw_76
  | 77, _ => zcode_of zcw_77
  | 78, _ => zcode_of zcw_78
  | 79, _ => zcode_of zcw_79
  | 80, _ => zcode_of zcw_80
  | 81, _ => zcode_of zcw_81
  | 82, _ => zcode_of zcw_82
  | 83, _ => zcode_of zcw_83
  | 84, _ => zcode_of zcw_84
  | 85, _ => zcode_of zcw_85
  | 86, _ => zcode_of zcw_86
  | 87, _ => zcode_of zcw_87
  | 88, _ => zcode_of zcw_88
  | 89, _ => zcode_of zcw_89
  | 90, _ => zcode_of zcw_90
  | 91, _ => zcode_of zcw_91
  | 92, _ => zcode_of zcw_92
  | 93, _ => zcode_of zcw_93
  | 94, _ => zcode_of zcw_94
  | 95, _ => zcode_of zcw_95
  | 96, _ => zcode_of zcw_96
  | 97, _ => zcode_of zcw_97
  | 98, _ => zcode_of zcw_98
  | 99, _ => zcode_of zcw_99
  | 100, _ => zcode_of zcw_100
  | 101, _ => zcode_of zcw_101
  | 102, _ => zcode_of zcw_102
  | 103, _ => zcode_of zcw_103
  | 104, _ => zcode_of zcw_104
  | 105, _ => zcode_of zcw_105
  | 106, _ => zcode_of zcw_106
  | 107, _ => zcode_of zcw_107
  | 108, _ => zcode_of zcw_108
  | 109, _ => zcode_of zcw_109
  | 110, _ => zcode_of zcw_110
  | 111, _ => zcode_of zcw_111
  | 112, _ => zcode_of zcw_112
  | 113, _ => zcode_of zcw_113
  | 114, _ => zcode_of zcw_114
  | 115, _ => zcode_of zcw_115
  | 116, _ => zcode_of zcw_116
  | 117, _ => zcode_of zcw_117
  | 118, _ => zcode_of zcw_118
  | 119, _ => zcode_of zcw_119
  | 120, _ => zcode_of zcw_120
  | 121, _ => zcode_of zcw_121
  | 122, _ => zcode_of zcw_122
  | 123, _ => zcode_of zcw_123
  | 124, _ => zcode_of zcw_124
  | 125, _ => zcode_of zcw_125
  | 126, _ => zcode_of zcw_126
  | 127, _ => zcode_of zcw_127
  | 128, _ => zcode_of zcw_128
  | 129, _ => zcode_of zcw_129
  | 130, _ => zcode_of zcw_130
  | 131, _ => zcode_of zcw_131
  | 132, _ => zcode_of zcw_132
  | 133, _ => zcode_of zcw_133
  | 134, _ => zcode_of zcw_134
  | 135, _ => zcode_of zcw_135
  | 136, _ => zcode_of zcw_136
  | 137, _ => zcode_of zcw_137
  | 138, _ => zcode_of zcw_138
  | 139, _ => zcode_of zcw_139
  | 140, _ => zcode_of zcw_140
  | 141, _ => zcode_of zcw_141
  | 142, _ => zcode_of zcw_142
  | 143, _ => zcode_of zcw_143
  | 144, _ => zcode_of zcw_144
  | 145, _ => zcode_of zcw_145
  | 146, _ => zcode_of zcw_146
  | 147, _ => zcode_of zcw_147
  | 148, _ => zcode_of zcw_148
  | 149, _ => zcode_of zcw_149
  | 150, _ => zcode_of zcw_150
  | 151, _ => zcode_of zcw_151
  | 152, _ => zcode_of zcw_152
  | 153, _ => zcode_of zcw_153
  | 154, _ => zcode_of zcw_154
  | 155, _ => zcode_of zcw_155
  | 156, _ => zcode_of zcw_156
  | 157, _ => zcode_of zcw_157
  | 158, _ => zcode_of zcw_158
  | 159, _ => zcode_of zcw_159
  | 160, _ => zcode_of zcw_160
  | 161, _ => zcode_of zcw_161
  | 162, _ => zcode_of zcw_162
  | 163, _ => zcode_of zcw_163
  | 164, _ => zcode_of zcw_164
  | 165, _ => zcode_of zcw_165
  | 166, _ => zcode_of zcw_166
  | 167, _ => zcode_of zcw_167
  | 168, _ => zcode_of zcw_168
  | 169, _ => zcode_of zcw_169
  | 170, _ => zcode_of zcw_170
  | 171, _ => zcode_of zcw_171
  | n + 172, h => absurd h (by omega)
