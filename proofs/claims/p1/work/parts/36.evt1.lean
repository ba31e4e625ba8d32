set_option maxRecDepth 100000 in
theorem ev_t0 : se_ck (pg_G true 6 (fun _ => 0)) 6 pg_fin (pg_pr true) 60000 [(100, 0, 5, [])] (pg_mL true) 0 [(0, .ref (rm_K + 2000))] [] [] [] 0 0 = true := by decide +kernel
set_option maxRecDepth 100000 in
theorem ev_t1 : se_ck (pg_G true 6 (fun _ => 0)) 6 pg_fin (pg_pr true) 60000 [(100, 6, 11, [])] (pg_mL true) 0 [(0, .ref (rm_K + 2000))] [] [] [] 0 0 = true := by decide +kernel
set_option maxRecDepth 100000 in
theorem ev_t2 : se_ck (pg_G true 6 (fun _ => 0)) 6 pg_fin (pg_pr true) 60000 [(100, 12, 17, [])] (pg_mL true) 0 [(0, .ref (rm_K + 2000))] [] [] [] 0 0 = true := by decide +kernel
set_option maxRecDepth 100000 in
theorem ev_t3 : se_ck (pg_G true 6 (fun _ => 0)) 6 pg_fin (pg_pr true) 60000 [(100, 18, 23, [])] (pg_mL true) 0 [(0, .ref (rm_K + 2000))] [] [] [] 0 0 = true := by decide +kernel
set_option maxRecDepth 100000 in
theorem ev_t4 : se_ck (pg_G true 6 (fun _ => 0)) 6 pg_fin (pg_pr true) 60000 [(100, 24, 29, [])] (pg_mL true) 0 [(0, .ref (rm_K + 2000))] [] [] [] 0 0 = true := by decide +kernel
set_option maxRecDepth 100000 in
theorem ev_t5 : se_ck (pg_G true 6 (fun _ => 0)) 6 pg_fin (pg_pr true) 60000 [(100, 30, 35, [])] (pg_mL true) 0 [(0, .ref (rm_K + 2000))] [] [] [] 0 0 = true := by decide +kernel
set_option maxRecDepth 100000 in
theorem ev_t6 : se_ck (pg_G true 6 (fun _ => 0)) 6 pg_fin (pg_pr true) 60000 [(100, 36, 41, [])] (pg_mL true) 0 [(0, .ref (rm_K + 2000))] [] [] [] 0 0 = true := by decide +kernel
