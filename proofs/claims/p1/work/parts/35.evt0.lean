set_option maxRecDepth 100000 in
theorem ev_tL0 : se_ck (pg_G true 0 (fun _ => 0)) 0 pg_fin (pg_pr true) 60000 [] (pg_mL true) 0 [(0, .ref (rm_K + 2000))] [] [] [] 0 0 = true := by decide +kernel
set_option maxRecDepth 100000 in
theorem ev_tL1 : se_ck (pg_G true 1 (fun _ => 0)) 1 pg_fin (pg_pr true) 60000 [] (pg_mL true) 0 [(0, .ref (rm_K + 2000))] [] [] [] 0 0 = true := by decide +kernel
set_option maxRecDepth 100000 in
theorem ev_tL2 : se_ck (pg_G true 2 (fun _ => 0)) 2 pg_fin (pg_pr true) 60000 [] (pg_mL true) 0 [(0, .ref (rm_K + 2000))] [] [] [] 0 0 = true := by decide +kernel
set_option maxRecDepth 100000 in
theorem ev_tL3 : se_ck (pg_G true 3 (fun _ => 0)) 3 pg_fin (pg_pr true) 60000 [] (pg_mL true) 0 [(0, .ref (rm_K + 2000))] [] [] [] 0 0 = true := by decide +kernel
set_option maxRecDepth 100000 in
theorem ev_tL4 : se_ck (pg_G true 4 (fun _ => 0)) 4 pg_fin (pg_pr true) 60000 [] (pg_mL true) 0 [(0, .ref (rm_K + 2000))] [] [] [] 0 0 = true := by decide +kernel
set_option maxRecDepth 100000 in
theorem ev_tL5 : se_ck (pg_G true 5 (fun _ => 0)) 5 pg_fin (pg_pr true) 60000 [] (pg_mL true) 0 [(0, .ref (rm_K + 2000))] [] [] [] 0 0 = true := by decide +kernel
