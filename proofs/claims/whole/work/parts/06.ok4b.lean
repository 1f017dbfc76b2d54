set_option maxRecDepth 1000000 in
theorem okL_6 : okL aM156 ((aE156.drop 360).take 60) ((aH156.drop 360).take 60) = true := by decide +kernel
set_option maxRecDepth 1000000 in
theorem okL_7 : okL aM156 ((aE156.drop 420).take 60) ((aH156.drop 420).take 60) = true := by decide +kernel
set_option maxRecDepth 1000000 in
theorem okL_8 : okL aM156 ((aE156.drop 480).take 60) ((aH156.drop 480).take 60) = true := by decide +kernel
set_option maxRecDepth 1000000 in
theorem okL_9 : okL aM156 ((aE156.drop 540).take 60) ((aH156.drop 540).take 60) = true := by decide +kernel
set_option maxRecDepth 1000000 in
theorem okL_10 : okL aM156 ((aE156.drop 600).take 60) ((aH156.drop 600).take 60) = true := by decide +kernel
