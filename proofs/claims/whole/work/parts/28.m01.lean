/-! The check of the methods -/
set_option maxRecDepth 100000 in
theorem mokg_0 : (List.range 2).all (fun k => mOk (0 + k)) = true := by decide +kernel
set_option maxRecDepth 100000 in
theorem mokp_2_0 : ((mzip 2).drop 0 |>.take 55).all (fun q => eOk 2 q.1 q.2) = true := by decide +kernel
set_option maxRecDepth 100000 in
theorem mokp_2_55 : ((mzip 2).drop 55 |>.take 12).all (fun q => eOk 2 q.1 q.2) = true := by decide +kernel
set_option maxRecDepth 100000 in
theorem mokr_2 : mrest 2 = true := by decide +kernel
set_option maxRecDepth 100000 in
theorem mokl_2 : (mzip 2).length = 67 := by decide +kernel
theorem mokw_2 : mOk 2 = true := mk_join mokr_2 (mk_cut (n := 55) mokp_2_0 (mk_cut (n := 12) mokp_2_55 (mk_end mokl_2)))
set_option maxRecDepth 100000 in
theorem mokg_3 : (List.range 1).all (fun k => mOk (3 + k)) = true := by decide +kernel
set_option maxRecDepth 100000 in
theorem mokp_4_0 : ((mzip 4).drop 0 |>.take 70).all (fun q => eOk 4 q.1 q.2) = true := by decide +kernel
set_option maxRecDepth 100000 in
theorem mokp_4_70 : ((mzip 4).drop 70 |>.take 5).all (fun q => eOk 4 q.1 q.2) = true := by decide +kernel
set_option maxRecDepth 100000 in
theorem mokr_4 : mrest 4 = true := by decide +kernel
set_option maxRecDepth 100000 in
theorem mokl_4 : (mzip 4).length = 75 := by decide +kernel
theorem mokw_4 : mOk 4 = true := mk_join mokr_4 (mk_cut (n := 70) mokp_4_0 (mk_cut (n := 5) mokp_4_70 (mk_end mokl_4)))
set_option maxRecDepth 100000 in
theorem mokg_5 : (List.range 5).all (fun k => mOk (5 + k)) = true := by decide +kernel
set_option maxRecDepth 100000 in
theorem mokg_10 : (List.range 3).all (fun k => mOk (10 + k)) = true := by decide +kernel
set_option maxRecDepth 100000 in
theorem mokg_13 : (List.range 3).all (fun k => mOk (13 + k)) = true := by decide +kernel
set_option maxRecDepth 100000 in
theorem mokg_16 : (List.range 1).all (fun k => mOk (16 + k)) = true := by decide +kernel
set_option maxRecDepth 100000 in
theorem mokg_17 : (List.range 2).all (fun k => mOk (17 + k)) = true := by decide +kernel
set_option maxRecDepth 100000 in
theorem mokg_19 : (List.range 3).all (fun k => mOk (19 + k)) = true := by decide +kernel
set_option maxRecDepth 100000 in
theorem mokg_22 : (List.range 2).all (fun k => mOk (22 + k)) = true := by decide +kernel
set_option maxRecDepth 100000 in
theorem mokg_24 : (List.range 2).all (fun k => mOk (24 + k)) = true := by decide +kernel
set_option maxRecDepth 100000 in
theorem mokg_26 : (List.range 3).all (fun k => mOk (26 + k)) = true := by decide +kernel
set_option maxRecDepth 100000 in
theorem mokg_29 : (List.range 2).all (fun k => mOk (29 + k)) = true := by decide +kernel
set_option maxRecDepth 100000 in
theorem mokg_31 : (List.range 4).all (fun k => mOk (31 + k)) = true := by decide +kernel
set_option maxRecDepth 100000 in
theorem mokg_35 : (List.range 2).all (fun k => mOk (35 + k)) = true := by decide +kernel
set_option maxRecDepth 100000 in
theorem mokg_37 : (List.range 3).all (fun k => mOk (37 + k)) = true := by decide +kernel
set_option maxRecDepth 100000 in
theorem mokg_40 : (List.range 2).all (fun k => mOk (40 + k)) = true := by decide +kernel
set_option maxRecDepth 100000 in
theorem mokp_42_0 : ((mzip 42).drop 0 |>.take 67).all (fun q => eOk 42 q.1 q.2) = true := by decide +kernel
set_option maxRecDepth 100000 in
theorem mokp_42_67 : ((mzip 42).drop 67 |>.take 21).all (fun q => eOk 42 q.1 q.2) = true := by decide +kernel
set_option maxRecDepth 100000 in
theorem mokr_42 : mrest 42 = true := by decide +kernel
set_option maxRecDepth 100000 in
theorem mokl_42 : (mzip 42).length = 88 := by decide +kernel
theorem mokw_42 : mOk 42 = true := mk_join mokr_42 (mk_cut (n := 67) mokp_42_0 (mk_cut (n := 21) mokp_42_67 (mk_end mokl_42)))
set_option maxRecDepth 100000 in
theorem mokg_43 : (List.range 3).all (fun k => mOk (43 + k)) = true := by decide +kernel
set_option maxRecDepth 100000 in
theorem mokg_46 : (List.range 2).all (fun k => mOk (46 + k)) = true := by decide +kernel
set_option maxRecDepth 100000 in
theorem mokg_48 : (List.range 1).all (fun k => mOk (48 + k)) = true := by decide +kernel
set_option maxRecDepth 100000 in
theorem mokp_49_0 : ((mzip 49).drop 0 |>.take 28).all (fun q => eOk 49 q.1 q.2) = true := by decide +kernel
set_option maxRecDepth 100000 in
theorem mokp_49_28 : ((mzip 49).drop 28 |>.take 53).all (fun q => eOk 49 q.1 q.2) = true := by decide +kernel
