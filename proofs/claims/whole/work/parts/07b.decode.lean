theorem zcM_of (m : Nat) (hm : m < 172) : zcM m = true := by
  by_cases h0 : 0 ≤ m ∧ m < 12
  · have := List.all_eq_true.mp zcM_0 (m - 0) (List.mem_range.mpr (by omega))
    rwa [Nat.sub_add_cancel h0.1] at this
  by_cases h12 : 12 ≤ m ∧ m < 24
  · have := List.all_eq_true.mp zcM_12 (m - 12) (List.mem_range.mpr (by omega))
    rwa [Nat.sub_add_cancel h12.1] at this
  by_cases h24 : 24 ≤ m ∧ m < 36
  · have := List.all_eq_true.mp zcM_24 (m - 24) (List.mem_range.mpr (by omega))
    rwa [Nat.sub_add_cancel h24.1] at this
  by_cases h36 : 36 ≤ m ∧ m < 48
  · have := List.all_eq_true.mp zcM_36 (m - 36) (List.mem_range.mpr (by omega))
    rwa [Nat.sub_add_cancel h36.1] at this
  by_cases h48 : 48 ≤ m ∧ m < 60
  · have := List.all_eq_true.mp zcM_48 (m - 48) (List.mem_range.mpr (by omega))
    rwa [Nat.sub_add_cancel h48.1] at this
  by_cases h60 : 60 ≤ m ∧ m < 72
  · have := List.all_eq_true.mp zcM_60 (m - 60) (List.mem_range.mpr (by omega))
    rwa [Nat.sub_add_cancel h60.1] at this
  by_cases h72 : 72 ≤ m ∧ m < 84
  · have := List.all_eq_true.mp zcM_72 (m - 72) (List.mem_range.mpr (by omega))
    rwa [Nat.sub_add_cancel h72.1] at this
  by_cases h84 : 84 ≤ m ∧ m < 96
  · have := List.all_eq_true.mp zcM_84 (m - 84) (List.mem_range.mpr (by omega))
    rwa [Nat.sub_add_cancel h84.1] at this
  by_cases h96 : 96 ≤ m ∧ m < 108
  · have := List.all_eq_true.mp zcM_96 (m - 96) (List.mem_range.mpr (by omega))
    rwa [Nat.sub_add_cancel h96.1] at this
  by_cases h108 : 108 ≤ m ∧ m < 120
  · have := List.all_eq_true.mp zcM_108 (m - 108) (List.mem_range.mpr (by omega))
    rwa [Nat.sub_add_cancel h108.1] at this
  by_cases h120 : 120 ≤ m ∧ m < 132
  · have := List.all_eq_true.mp zcM_120 (m - 120) (List.mem_range.mpr (by omega))
    rwa [Nat.sub_add_cancel h120.1] at this
  by_cases h132 : 132 ≤ m ∧ m < 144
  · have := List.all_eq_true.mp zcM_132 (m - 132) (List.mem_range.mpr (by omega))
    rwa [Nat.sub_add_cancel h132.1] at this
  by_cases h144 : 144 ≤ m ∧ m < 156
  · have := List.all_eq_true.mp zcM_144 (m - 144) (List.mem_range.mpr (by omega))
    rwa [Nat.sub_add_cancel h144.1] at this
  by_cases h156 : 156 ≤ m ∧ m < 168
  · have := List.all_eq_true.mp zcM_156 (m - 156) (List.mem_range.mpr (by omega))
    rwa [Nat.sub_add_cancel h156.1] at this
  by_cases h168 : 168 ≤ m ∧ m < 172
  · have := List.all_eq_true.mp zcM_168 (m - 168) (List.mem_range.mpr (by omega))
    rwa [Nat.sub_add_cancel h168.1] at this
  omega
theorem zcL_in {lo n pc : Nat} {q : PI} (h : zcL lo n = true) (h1 : lo ≤ pc) (h2 : pc < lo + n) (hq : zc_172[pc]? = some (some q)) : zck 172 pc q = true := by
  have h3 : ((zc_172.zipIdx.drop lo).take n)[pc - lo]? = some (some q, pc) := by
    rw [List.getElem?_take_of_lt (by omega), List.getElem?_drop, show lo + (pc - lo) = pc by omega]
    rw [List.getElem?_zipIdx, hq]
    simp
  unfold zcL at h
  exact (List.all_eq_true.mp h) (some q, pc) (List.mem_of_getElem? h3)
theorem zck_ok {m pc : Nat} {L : List (Option PI)} {q : PI} (hL : pcodes[m]? = some L) (hq : L[pc]? = some (some q)) : zck m pc q = true := by
  have hm : m < 173 := by rw [← pcodes_len]; exact (List.getElem?_eq_some_iff.mp hL).1
  by_cases hl : m = 172
  · subst hl
    have e : pcodes[172]? = some zc_172 := rfl
    rw [e] at hL
    cases hL
    have hp : pc < 911 := by rw [← zc_law_len]; exact (List.getElem?_eq_some_iff.mp hq).1
    by_cases h0 : pc < 76
    · exact zcL_in zcL_0 (by omega) (by omega) hq
    by_cases h76 : pc < 152
    · exact zcL_in zcL_76 (by omega) (by omega) hq
    by_cases h152 : pc < 228
    · exact zcL_in zcL_152 (by omega) (by omega) hq
    by_cases h228 : pc < 304
    · exact zcL_in zcL_228 (by omega) (by omega) hq
    by_cases h304 : pc < 380
    · exact zcL_in zcL_304 (by omega) (by omega) hq
    by_cases h380 : pc < 456
    · exact zcL_in zcL_380 (by omega) (by omega) hq
    by_cases h456 : pc < 532
    · exact zcL_in zcL_456 (by omega) (by omega) hq
    by_cases h532 : pc < 608
    · exact zcL_in zcL_532 (by omega) (by omega) hq
    by_cases h608 : pc < 684
    · exact zcL_in zcL_608 (by omega) (by omega) hq
    by_cases h684 : pc < 760
    · exact zcL_in zcL_684 (by omega) (by omega) hq
    by_cases h760 : pc < 836
    · exact zcL_in zcL_760 (by omega) (by omega) hq
    by_cases h836 : pc < 912
    · exact zcL_in zcL_836 (by omega) (by omega) hq
    omega
  · have h := zcM_of m (by omega)
    simp only [zcM, hL] at h
    exact List.all_eq_true.mp h (some q, pc) (List.mem_zipIdx_iff_getElem?.mpr hq)
