set_option maxRecDepth 100000 in
theorem ck_0_0 : ((q_0.drop 0).take 30).all (mm_chk code 0) = true := by decide +kernel
set_option maxRecDepth 100000 in
theorem ck_0_30 : ((q_0.drop 30).take 30).all (mm_chk code 0) = true := by decide +kernel
set_option maxRecDepth 100000 in
theorem ck_0_60 : ((q_0.drop 60).take 30).all (mm_chk code 0) = true := by decide +kernel
set_option maxRecDepth 100000 in
theorem ck_0_90 : ((q_0.drop 90).take 30).all (mm_chk code 0) = true := by decide +kernel
set_option maxRecDepth 100000 in
theorem ck_0_120 : ((q_0.drop 120).take 30).all (mm_chk code 0) = true := by decide +kernel
set_option maxRecDepth 100000 in
theorem ck_0_150 : ((q_0.drop 150).take 30).all (mm_chk code 0) = true := by decide +kernel
set_option maxRecDepth 100000 in
theorem ck_0_180 : ((q_0.drop 180).take 30).all (mm_chk code 0) = true := by decide +kernel
set_option maxRecDepth 100000 in
theorem ck_0_210 : ((q_0.drop 210).take 30).all (mm_chk code 0) = true := by decide +kernel
set_option maxRecDepth 100000 in
theorem ck_0_240 : ((q_0.drop 240).take 30).all (mm_chk code 0) = true := by decide +kernel
