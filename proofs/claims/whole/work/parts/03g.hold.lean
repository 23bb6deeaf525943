set_option maxRecDepth 100000 in
set_option maxHeartbeats 0 in
theorem ok_228_0 : ((rows_228.drop 0).take 80).all okRow = true := by decide +kernel
set_option maxRecDepth 100000 in
set_option maxHeartbeats 0 in
theorem ok_228_80 : ((rows_228.drop 80).take 80).all okRow = true := by decide +kernel
set_option maxRecDepth 100000 in
set_option maxHeartbeats 0 in
theorem ok_228_160 : ((rows_228.drop 160).take 80).all okRow = true := by decide +kernel
set_option maxRecDepth 100000 in
set_option maxHeartbeats 0 in
theorem ok_228_240 : ((rows_228.drop 240).take 80).all okRow = true := by decide +kernel
set_option maxRecDepth 100000 in
set_option maxHeartbeats 0 in
theorem ok_228_320 : ((rows_228.drop 320).take 80).all okRow = true := by decide +kernel
set_option maxRecDepth 100000 in
set_option maxHeartbeats 0 in
theorem ok_228_400 : ((rows_228.drop 400).take 80).all okRow = true := by decide +kernel
set_option maxRecDepth 100000 in
set_option maxHeartbeats 0 in
theorem ok_228_480 : ((rows_228.drop 480).take 80).all okRow = true := by decide +kernel
