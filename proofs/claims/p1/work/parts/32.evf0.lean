set_option maxRecDepth 100000 in
theorem ev_fL0 : se_ck (pg_G false 0 (fun _ => 0)) 0 pg_fin (pg_pr false) 60000 [] (pg_mL false) 0 [(0, .ref (rm_K + 2000))] [] [] [] 0 0 = true := by decide +kernel
set_option maxRecDepth 100000 in
theorem ev_fL1 : se_ck (pg_G false 1 (fun _ => 0)) 1 pg_fin (pg_pr false) 60000 [] (pg_mL false) 0 [(0, .ref (rm_K + 2000))] [] [] [] 0 0 = true := by decide +kernel
set_option maxRecDepth 100000 in
theorem ev_fL2 : se_ck (pg_G false 2 (fun _ => 0)) 2 pg_fin (pg_pr false) 60000 [] (pg_mL false) 0 [(0, .ref (rm_K + 2000))] [] [] [] 0 0 = true := by decide +kernel
set_option maxRecDepth 100000 in
theorem ev_fL3 : se_ck (pg_G false 3 (fun _ => 0)) 3 pg_fin (pg_pr false) 60000 [] (pg_mL false) 0 [(0, .ref (rm_K + 2000))] [] [] [] 0 0 = true := by decide +kernel
set_option maxRecDepth 100000 in
theorem ev_fL4 : se_ck (pg_G false 4 (fun _ => 0)) 4 pg_fin (pg_pr false) 60000 [] (pg_mL false) 0 [(0, .ref (rm_K + 2000))] [] [] [] 0 0 = true := by decide +kernel
set_option maxRecDepth 100000 in
theorem ev_fL5 : se_ck (pg_G false 5 (fun _ => 0)) 5 pg_fin (pg_pr false) 60000 [] (pg_mL false) 0 [(0, .ref (rm_K + 2000))] [] [] [] 0 0 = true := by decide +kernel
