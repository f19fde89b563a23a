theorem zcM_96 : (List.range 12).all (fun k => zcM (k + 96)) = true := by decide +kernel
theorem zcM_108 : (List.range 12).all (fun k => zcM (k + 108)) = true := by decide +kernel
theorem zcM_120 : (List.range 12).all (fun k => zcM (k + 120)) = true := by decide +kernel
theorem zcM_132 : (List.range 12).all (fun k => zcM (k + 132)) = true := by decide +kernel
theorem zcM_144 : (List.range 12).all (fun k => zcM (k + 144)) = true := by decide +kernel
theorem zcM_156 : (List.range 12).all (fun k => zcM (k + 156)) = true := by decide +kernel
theorem zcM_168 : (List.range 4).all (fun k => zcM (k + 168)) = true := by decide +kernel
def zcL (lo n : Nat) : Bool := ((zc_172.zipIdx.drop lo).take n).all (fun e => match e.1 with | none => true | some q => zck 172 e.2 q)
theorem zcL_0 : zcL 0 76 = true := by decide +kernel
theorem zcL_76 : zcL 76 76 = true := by decide +kernel
theorem zcL_152 : zcL 152 76 = true := by decide +kernel
theorem zcL_228 : zcL 228 76 = true := by decide +kernel
theorem zcL_304 : zcL 304 76 = true := by decide +kernel
theorem zcL_380 : zcL 380 76 = true := by decide +kernel
theorem zcL_456 : zcL 456 76 = true := by decide +kernel
theorem zcL_532 : zcL 532 76 = true := by decide +kernel
theorem zcL_608 : zcL 608 76 = true := by decide +kernel
theorem zcL_684 : zcL 684 76 = true := by decide +kernel
theorem zcL_760 : zcL 760 76 = true := by decide +kernel
theorem zcL_836 : zcL 836 76 = true := by decide +kernel
theorem pcodes_len : pcodes.length = 173 := by decide +kernel
theorem zc_law_len : zc_172.length = 911 := by decide +kernel
