set_option maxRecDepth 100000 in
set_option maxHeartbeats 0 in
theorem ok_228_560 : ((rows_228.drop 560).take 80).all okRow = true := by decide +kernel
set_option maxRecDepth 100000 in
set_option maxHeartbeats 0 in
theorem ok_228_640 : ((rows_228.drop 640).take 80).all okRow = true := by decide +kernel
set_option maxRecDepth 100000 in
set_option maxHeartbeats 0 in
theorem ok_228_720 : ((rows_228.drop 720).take 80).all okRow = true := by decide +kernel
set_option maxRecDepth 100000 in
set_option maxHeartbeats 0 in
theorem ok_228_800 : ((rows_228.drop 800).take 80).all okRow = true := by decide +kernel
set_option maxRecDepth 100000 in
set_option maxHeartbeats 0 in
theorem ok_228_880 : ((rows_228.drop 880).take 80).all okRow = true := by decide +kernel
set_option maxRecDepth 100000 in
set_option maxHeartbeats 0 in
theorem ok_228_960 : ((rows_228.drop 960).take 80).all okRow = true := by decide +kernel
