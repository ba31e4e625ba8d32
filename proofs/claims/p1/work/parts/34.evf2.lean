set_option maxRecDepth 100000 in
theorem ev_f7 : se_ck (pg_G false 6 (fun _ => 0)) 6 pg_fin (pg_pr false) 60000 [(100, 42, 47, [])] (pg_mL false) 0 [(0, .ref (rm_K + 2000))] [] [] [] 0 0 = true := by decide +kernel
set_option maxRecDepth 100000 in
theorem ev_f8 : se_ck (pg_G false 6 (fun _ => 0)) 6 pg_fin (pg_pr false) 60000 [(100, 48, 53, [])] (pg_mL false) 0 [(0, .ref (rm_K + 2000))] [] [] [] 0 0 = true := by decide +kernel
set_option maxRecDepth 100000 in
theorem ev_f9 : se_ck (pg_G false 6 (fun _ => 0)) 6 pg_fin (pg_pr false) 60000 [(100, 54, 59, [])] (pg_mL false) 0 [(0, .ref (rm_K + 2000))] [] [] [] 0 0 = true := by decide +kernel
set_option maxRecDepth 100000 in
theorem ev_f10 : se_ck (pg_G false 6 (fun _ => 0)) 6 pg_fin (pg_pr false) 60000 [(100, 60, 65, [])] (pg_mL false) 0 [(0, .ref (rm_K + 2000))] [] [] [] 0 0 = true := by decide +kernel
set_option maxRecDepth 100000 in
theorem ev_f11 : se_ck (pg_G false 6 (fun _ => 0)) 6 pg_fin (pg_pr false) 60000 [(100, 66, 71, [])] (pg_mL false) 0 [(0, .ref (rm_K + 2000))] [] [] [] 0 0 = true := by decide +kernel
set_option maxRecDepth 100000 in
theorem ev_f12 : se_ck (pg_G false 6 (fun _ => 0)) 6 pg_fin (pg_pr false) 60000 [(100, 72, 73, [])] (pg_mL false) 0 [(0, .ref (rm_K + 2000))] [] [] [] 0 0 = true := by decide +kernel
set_option maxRecDepth 100000 in
theorem ev_f13 : se_ck (pg_G false 6 (fun _ => 0)) 6 pg_fin (pg_pr false) 60000 [(100, 74, 127, [])] (pg_mL false) 0 [(0, .ref (rm_K + 2000))] [] [] [] 0 0 = true := by decide +kernel
