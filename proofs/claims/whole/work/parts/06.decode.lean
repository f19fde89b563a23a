theorem zcM_0 : (List.range 12).all (fun k => zcM (k + 0)) = true := by decide +kernel
theorem zcM_12 : (List.range 12).all (fun k => zcM (k + 12)) = true := by decide +kernel
theorem zcM_24 : (List.range 12).all (fun k => zcM (k + 24)) = true := by decide +kernel
theorem zcM_36 : (List.range 12).all (fun k => zcM (k + 36)) = true := by decide +kernel
theorem zcM_48 : (List.range 12).all (fun k => zcM (k + 48)) = true := by decide +kernel
theorem zcM_60 : (List.range 12).all (fun k => zcM (k + 60)) = true := by decide +kernel
theorem zcM_72 : (List.range 12).all (fun k => zcM (k + 72)) = true := by decide +kernel
theorem zcM_84 : (List.range 12).all (fun k => zcM (k + 84)) = true := by decide +kernel
