/-! The check of the methods -/
set_option maxRecDepth 100000 in
theorem mokp_80_0 : ((mzip 80).drop 0 |>.take 42).all (fun q => eOk 80 q.1 q.2) = true := by decide +kernel
set_option maxRecDepth 100000 in
theorem mokp_80_42 : ((mzip 80).drop 42 |>.take 6).all (fun q => eOk 80 q.1 q.2) = true := by decide +kernel
set_option maxRecDepth 100000 in
theorem mokr_80 : mrest 80 = true := by decide +kernel
set_option maxRecDepth 100000 in
theorem mokl_80 : (mzip 80).length = 48 := by decide +kernel
theorem mokw_80 : mOk 80 = true := mk_join mokr_80 (mk_cut (n := 42) mokp_80_0 (mk_cut (n := 6) mokp_80_42 (mk_end mokl_80)))
set_option maxRecDepth 100000 in
theorem mokp_81_0 : ((mzip 81).drop 0 |>.take 65).all (fun q => eOk 81 q.1 q.2) = true := by decide +kernel
set_option maxRecDepth 100000 in
theorem mokp_81_65 : ((mzip 81).drop 65 |>.take 25).all (fun q => eOk 81 q.1 q.2) = true := by decide +kernel
set_option maxRecDepth 100000 in
theorem mokr_81 : mrest 81 = true := by decide +kernel
set_option maxRecDepth 100000 in
theorem mokl_81 : (mzip 81).length = 90 := by decide +kernel
theorem mokw_81 : mOk 81 = true := mk_join mokr_81 (mk_cut (n := 65) mokp_81_0 (mk_cut (n := 25) mokp_81_65 (mk_end mokl_81)))
set_option maxRecDepth 100000 in
theorem mokg_82 : (List.range 2).all (fun k => mOk (82 + k)) = true := by decide +kernel
set_option maxRecDepth 100000 in
theorem mokg_84 : (List.range 1).all (fun k => mOk (84 + k)) = true := by decide +kernel
set_option maxRecDepth 100000 in
theorem mokg_85 : (List.range 2).all (fun k => mOk (85 + k)) = true := by decide +kernel
set_option maxRecDepth 100000 in
theorem mokg_87 : (List.range 3).all (fun k => mOk (87 + k)) = true := by decide +kernel
set_option maxRecDepth 100000 in
theorem mokg_90 : (List.range 2).all (fun k => mOk (90 + k)) = true := by decide +kernel
set_option maxRecDepth 100000 in
theorem mokg_92 : (List.range 1).all (fun k => mOk (92 + k)) = true := by decide +kernel
set_option maxRecDepth 100000 in
theorem mokg_93 : (List.range 1).all (fun k => mOk (93 + k)) = true := by decide +kernel
set_option maxRecDepth 100000 in
theorem mokg_94 : (List.range 1).all (fun k => mOk (94 + k)) = true := by decide +kernel
set_option maxRecDepth 100000 in
theorem mokg_95 : (List.range 2).all (fun k => mOk (95 + k)) = true := by decide +kernel
set_option maxRecDepth 100000 in
theorem mokg_97 : (List.range 3).all (fun k => mOk (97 + k)) = true := by decide +kernel
set_option maxRecDepth 100000 in
theorem mokg_100 : (List.range 3).all (fun k => mOk (100 + k)) = true := by decide +kernel
set_option maxRecDepth 100000 in
theorem mokg_103 : (List.range 1).all (fun k => mOk (103 + k)) = true := by decide +kernel
set_option maxRecDepth 100000 in
theorem mokp_104_0 : ((mzip 104).drop 0 |>.take 61).all (fun q => eOk 104 q.1 q.2) = true := by decide +kernel
set_option maxRecDepth 100000 in
theorem mokp_104_61 : ((mzip 104).drop 61 |>.take 17).all (fun q => eOk 104 q.1 q.2) = true := by decide +kernel
set_option maxRecDepth 100000 in
theorem mokr_104 : mrest 104 = true := by decide +kernel
set_option maxRecDepth 100000 in
theorem mokl_104 : (mzip 104).length = 78 := by decide +kernel
theorem mokw_104 : mOk 104 = true := mk_join mokr_104 (mk_cut (n := 61) mokp_104_0 (mk_cut (n := 17) mokp_104_61 (mk_end mokl_104)))
set_option maxRecDepth 100000 in
theorem mokg_105 : (List.range 1).all (fun k => mOk (105 + k)) = true := by decide +kernel
set_option maxRecDepth 100000 in
theorem mokg_106 : (List.range 2).all (fun k => mOk (106 + k)) = true := by decide +kernel
set_option maxRecDepth 100000 in
theorem mokp_108_0 : ((mzip 108).drop 0 |>.take 55).all (fun q => eOk 108 q.1 q.2) = true := by decide +kernel
set_option maxRecDepth 100000 in
theorem mokp_108_55 : ((mzip 108).drop 55 |>.take 11).all (fun q => eOk 108 q.1 q.2) = true := by decide +kernel
set_option maxRecDepth 100000 in
theorem mokr_108 : mrest 108 = true := by decide +kernel
set_option maxRecDepth 100000 in
theorem mokl_108 : (mzip 108).length = 66 := by decide +kernel
theorem mokw_108 : mOk 108 = true := mk_join mokr_108 (mk_cut (n := 55) mokp_108_0 (mk_cut (n := 11) mokp_108_55 (mk_end mokl_108)))
set_option maxRecDepth 100000 in
theorem mokg_109 : (List.range 1).all (fun k => mOk (109 + k)) = true := by decide +kernel
set_option maxRecDepth 100000 in
theorem mokg_110 : (List.range 3).all (fun k => mOk (110 + k)) = true := by decide +kernel
set_option maxRecDepth 100000 in
theorem mokg_113 : (List.range 3).all (fun k => mOk (113 + k)) = true := by decide +kernel
set_option maxRecDepth 100000 in
theorem mokp_116_0 : ((mzip 116).drop 0 |>.take 57).all (fun q => eOk 116 q.1 q.2) = true := by decide +kernel
set_option maxRecDepth 100000 in
theorem mokp_116_57 : ((mzip 116).drop 57 |>.take 5).all (fun q => eOk 116 q.1 q.2) = true := by decide +kernel
set_option maxRecDepth 100000 in
theorem mokr_116 : mrest 116 = true := by decide +kernel
set_option maxRecDepth 100000 in
theorem mokl_116 : (mzip 116).length = 62 := by decide +kernel
theorem mokw_116 : mOk 116 = true := mk_join mokr_116 (mk_cut (n := 57) mokp_116_0 (mk_cut (n := 5) mokp_116_57 (mk_end mokl_116)))
set_option maxRecDepth 100000 in
theorem mokg_117 : (List.range 2).all (fun k => mOk (117 + k)) = true := by decide +kernel
