set_option maxRecDepth 100000 in
theorem okl_0 : ((pc_L_law.drop 0).take 100).all (fun z => ckq mi_L_law z.1 z.2) = true := by decide +kernel
set_option maxRecDepth 100000 in
theorem okl_1 : ((pc_L_law.drop 100).take 100).all (fun z => ckq mi_L_law z.1 z.2) = true := by decide +kernel
set_option maxRecDepth 100000 in
theorem okl_2 : ((pc_L_law.drop 200).take 100).all (fun z => ckq mi_L_law z.1 z.2) = true := by decide +kernel
set_option maxRecDepth 100000 in
theorem okl_3 : ((pc_L_law.drop 300).take 100).all (fun z => ckq mi_L_law z.1 z.2) = true := by decide +kernel
set_option maxRecDepth 100000 in
theorem okl_4 : ((pc_L_law.drop 400).take 100).all (fun z => ckq mi_L_law z.1 z.2) = true := by decide +kernel
set_option maxRecDepth 100000 in
theorem okl_5 : ((pc_L_law.drop 500).take 100).all (fun z => ckq mi_L_law z.1 z.2) = true := by decide +kernel
set_option maxRecDepth 100000 in
theorem okl_6 : ((pc_L_law.drop 600).take 100).all (fun z => ckq mi_L_law z.1 z.2) = true := by decide +kernel
set_option maxRecDepth 100000 in
theorem okl_7 : ((pc_L_law.drop 700).take 100).all (fun z => ckq mi_L_law z.1 z.2) = true := by decide +kernel
set_option maxRecDepth 100000 in
theorem okl_8 : ((pc_L_law.drop 800).take 100).all (fun z => ckq mi_L_law z.1 z.2) = true := by decide +kernel
set_option maxRecDepth 100000 in
theorem okl_9 : ((pc_L_law.drop 900).take 100).all (fun z => ckq mi_L_law z.1 z.2) = true := by decide +kernel
set_option maxRecDepth 100000 in
theorem okl_10 : ((pc_L_law.drop 1000).take 100).all (fun z => ckq mi_L_law z.1 z.2) = true := by decide +kernel
set_option maxRecDepth 100000 in
theorem okl_11 : ((pc_L_law.drop 1100).take 100).all (fun z => ckq mi_L_law z.1 z.2) = true := by decide +kernel
set_option maxRecDepth 100000 in
theorem okl_12 : ((pc_L_law.drop 1200).take 100).all (fun z => ckq mi_L_law z.1 z.2) = true := by decide +kernel
