set_option maxRecDepth 100000 in
theorem ck_0_270 : ((q_0.drop 270).take 30).all (mm_chk code 0) = true := by decide +kernel
set_option maxRecDepth 100000 in
theorem ck_0_300 : ((q_0.drop 300).take 30).all (mm_chk code 0) = true := by decide +kernel
set_option maxRecDepth 100000 in
theorem ck_0_330 : ((q_0.drop 330).take 30).all (mm_chk code 0) = true := by decide +kernel
set_option maxRecDepth 100000 in
theorem ck_0_360 : ((q_0.drop 360).take 30).all (mm_chk code 0) = true := by decide +kernel
set_option maxRecDepth 100000 in
theorem ck_0_390 : ((q_0.drop 390).take 30).all (mm_chk code 0) = true := by decide +kernel
set_option maxRecDepth 100000 in
theorem ck_0_420 : ((q_0.drop 420).take 30).all (mm_chk code 0) = true := by decide +kernel
set_option maxRecDepth 100000 in
theorem ck_0_450 : ((q_0.drop 450).take 30).all (mm_chk code 0) = true := by decide +kernel
set_option maxRecDepth 100000 in
theorem ck_0_480 : ((q_0.drop 480).take 30).all (mm_chk code 0) = true := by decide +kernel
set_option maxRecDepth 100000 in
theorem ck_0_510 : ((q_0.drop 510).take 30).all (mm_chk code 0) = true := by decide +kernel
set_option maxRecDepth 100000 in
theorem ck_0_540 : ((q_0.drop 540).take 30).all (mm_chk code 0) = true := by decide +kernel
