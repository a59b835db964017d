/-! The check of the methods -/
set_option maxRecDepth 100000 in
theorem mokp_49_81 : ((mzip 49).drop 81 |>.take 13).all (fun q => eOk 49 q.1 q.2) = true := by decide +kernel
set_option maxRecDepth 100000 in
theorem mokr_49 : mrest 49 = true := by decide +kernel
set_option maxRecDepth 100000 in
theorem mokl_49 : (mzip 49).length = 94 := by decide +kernel
theorem mokw_49 : mOk 49 = true := mk_join mokr_49 (mk_cut (n := 28) mokp_49_0 (mk_cut (n := 53) mokp_49_28 (mk_cut (n := 13) mokp_49_81 (mk_end mokl_49))))
set_option maxRecDepth 100000 in
theorem mokg_50 : (List.range 3).all (fun k => mOk (50 + k)) = true := by decide +kernel
set_option maxRecDepth 100000 in
theorem mokg_53 : (List.range 3).all (fun k => mOk (53 + k)) = true := by decide +kernel
set_option maxRecDepth 100000 in
theorem mokg_56 : (List.range 1).all (fun k => mOk (56 + k)) = true := by decide +kernel
set_option maxRecDepth 100000 in
theorem mokg_57 : (List.range 1).all (fun k => mOk (57 + k)) = true := by decide +kernel
set_option maxRecDepth 100000 in
theorem mokg_58 : (List.range 1).all (fun k => mOk (58 + k)) = true := by decide +kernel
set_option maxRecDepth 100000 in
theorem mokg_59 : (List.range 1).all (fun k => mOk (59 + k)) = true := by decide +kernel
set_option maxRecDepth 100000 in
theorem mokg_60 : (List.range 1).all (fun k => mOk (60 + k)) = true := by decide +kernel
set_option maxRecDepth 100000 in
theorem mokg_61 : (List.range 1).all (fun k => mOk (61 + k)) = true := by decide +kernel
set_option maxRecDepth 100000 in
theorem mokg_62 : (List.range 1).all (fun k => mOk (62 + k)) = true := by decide +kernel
set_option maxRecDepth 100000 in
theorem mokp_63_0 : ((mzip 63).drop 0 |>.take 52).all (fun q => eOk 63 q.1 q.2) = true := by decide +kernel
set_option maxRecDepth 100000 in
theorem mokp_63_52 : ((mzip 63).drop 52 |>.take 3).all (fun q => eOk 63 q.1 q.2) = true := by decide +kernel
set_option maxRecDepth 100000 in
theorem mokr_63 : mrest 63 = true := by decide +kernel
set_option maxRecDepth 100000 in
theorem mokl_63 : (mzip 63).length = 55 := by decide +kernel
theorem mokw_63 : mOk 63 = true := mk_join mokr_63 (mk_cut (n := 52) mokp_63_0 (mk_cut (n := 3) mokp_63_52 (mk_end mokl_63)))
set_option maxRecDepth 100000 in
theorem mokg_64 : (List.range 3).all (fun k => mOk (64 + k)) = true := by decide +kernel
set_option maxRecDepth 100000 in
theorem mokg_67 : (List.range 2).all (fun k => mOk (67 + k)) = true := by decide +kernel
set_option maxRecDepth 100000 in
theorem mokg_69 : (List.range 1).all (fun k => mOk (69 + k)) = true := by decide +kernel
set_option maxRecDepth 100000 in
theorem mokg_70 : (List.range 2).all (fun k => mOk (70 + k)) = true := by decide +kernel
set_option maxRecDepth 100000 in
theorem mokp_72_0 : ((mzip 72).drop 0 |>.take 17).all (fun q => eOk 72 q.1 q.2) = true := by decide +kernel
set_option maxRecDepth 100000 in
theorem mokp_72_17 : ((mzip 72).drop 17 |>.take 15).all (fun q => eOk 72 q.1 q.2) = true := by decide +kernel
set_option maxRecDepth 100000 in
theorem mokr_72 : mrest 72 = true := by decide +kernel
set_option maxRecDepth 100000 in
theorem mokl_72 : (mzip 72).length = 32 := by decide +kernel
theorem mokw_72 : mOk 72 = true := mk_join mokr_72 (mk_cut (n := 17) mokp_72_0 (mk_cut (n := 15) mokp_72_17 (mk_end mokl_72)))
set_option maxRecDepth 100000 in
theorem mokp_73_0 : ((mzip 73).drop 0 |>.take 43).all (fun q => eOk 73 q.1 q.2) = true := by decide +kernel
set_option maxRecDepth 100000 in
theorem mokp_73_43 : ((mzip 73).drop 43 |>.take 31).all (fun q => eOk 73 q.1 q.2) = true := by decide +kernel
set_option maxRecDepth 100000 in
theorem mokr_73 : mrest 73 = true := by decide +kernel
set_option maxRecDepth 100000 in
theorem mokl_73 : (mzip 73).length = 74 := by decide +kernel
theorem mokw_73 : mOk 73 = true := mk_join mokr_73 (mk_cut (n := 43) mokp_73_0 (mk_cut (n := 31) mokp_73_43 (mk_end mokl_73)))
set_option maxRecDepth 100000 in
theorem mokg_74 : (List.range 2).all (fun k => mOk (74 + k)) = true := by decide +kernel
set_option maxRecDepth 100000 in
theorem mokp_76_0 : ((mzip 76).drop 0 |>.take 51).all (fun q => eOk 76 q.1 q.2) = true := by decide +kernel
set_option maxRecDepth 100000 in
theorem mokp_76_51 : ((mzip 76).drop 51 |>.take 11).all (fun q => eOk 76 q.1 q.2) = true := by decide +kernel
set_option maxRecDepth 100000 in
theorem mokr_76 : mrest 76 = true := by decide +kernel
set_option maxRecDepth 100000 in
theorem mokl_76 : (mzip 76).length = 62 := by decide +kernel
theorem mokw_76 : mOk 76 = true := mk_join mokr_76 (mk_cut (n := 51) mokp_76_0 (mk_cut (n := 11) mokp_76_51 (mk_end mokl_76)))
set_option maxRecDepth 100000 in
theorem mokg_77 : (List.range 1).all (fun k => mOk (77 + k)) = true := by decide +kernel
set_option maxRecDepth 100000 in
theorem mokp_78_0 : ((mzip 78).drop 0 |>.take 50).all (fun q => eOk 78 q.1 q.2) = true := by decide +kernel
set_option maxRecDepth 100000 in
theorem mokp_78_50 : ((mzip 78).drop 50 |>.take 4).all (fun q => eOk 78 q.1 q.2) = true := by decide +kernel
set_option maxRecDepth 100000 in
theorem mokr_78 : mrest 78 = true := by decide +kernel
set_option maxRecDepth 100000 in
theorem mokl_78 : (mzip 78).length = 54 := by decide +kernel
theorem mokw_78 : mOk 78 = true := mk_join mokr_78 (mk_cut (n := 50) mokp_78_0 (mk_cut (n := 4) mokp_78_50 (mk_end mokl_78)))
set_option maxRecDepth 100000 in
theorem mokg_79 : (List.range 1).all (fun k => mOk (79 + k)) = true := by decide +kernel
