set_option maxRecDepth 100000 in
theorem ev_t7 : se_ck (pg_G true 6 (fun _ => 0)) 6 pg_fin (pg_pr true) 60000 [(100, 42, 47, [])] (pg_mL true) 0 [(0, .ref (rm_K + 2000))] [] [] [] 0 0 = true := by decide +kernel
set_option maxRecDepth 100000 in
theorem ev_t8 : se_ck (pg_G true 6 (fun _ => 0)) 6 pg_fin (pg_pr true) 60000 [(100, 48, 53, [])] (pg_mL true) 0 [(0, .ref (rm_K + 2000))] [] [] [] 0 0 = true := by decide +kernel
set_option maxRecDepth 100000 in
theorem ev_t9 : se_ck (pg_G true 6 (fun _ => 0)) 6 pg_fin (pg_pr true) 60000 [(100, 54, 59, [])] (pg_mL true) 0 [(0, .ref (rm_K + 2000))] [] [] [] 0 0 = true := by decide +kernel
set_option maxRecDepth 100000 in
theorem ev_t10 : se_ck (pg_G true 6 (fun _ => 0)) 6 pg_fin (pg_pr true) 60000 [(100, 60, 65, [])] (pg_mL true) 0 [(0, .ref (rm_K + 2000))] [] [] [] 0 0 = true := by decide +kernel
set_option maxRecDepth 100000 in
theorem ev_t11 : se_ck (pg_G true 6 (fun _ => 0)) 6 pg_fin (pg_pr true) 60000 [(100, 66, 71, [])] (pg_mL true) 0 [(0, .ref (rm_K + 2000))] [] [] [] 0 0 = true := by decide +kernel
set_option maxRecDepth 100000 in
theorem ev_t12 : se_ck (pg_G true 6 (fun _ => 0)) 6 pg_fin (pg_pr true) 60000 [(100, 72, 73, [])] (pg_mL true) 0 [(0, .ref (rm_K + 2000))] [] [] [] 0 0 = true := by decide +kernel
set_option maxRecDepth 100000 in
theorem ev_t13 : se_ck (pg_G true 6 (fun _ => 0)) 6 pg_fin (pg_pr true) 60000 [(100, 74, 127, [])] (pg_mL true) 0 [(0, .ref (rm_K + 2000))] [] [] [] 0 0 = true := by decide +kernel
