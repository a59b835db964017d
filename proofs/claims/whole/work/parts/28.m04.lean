/-! The check of the methods -/
set_option maxRecDepth 100000 in
theorem mokg_119 : (List.range 1).all (fun k => mOk (119 + k)) = true := by decide +kernel
set_option maxRecDepth 100000 in
theorem mokg_120 : (List.range 1).all (fun k => mOk (120 + k)) = true := by decide +kernel
set_option maxRecDepth 100000 in
theorem mokg_121 : (List.range 1).all (fun k => mOk (121 + k)) = true := by decide +kernel
set_option maxRecDepth 100000 in
theorem mokg_122 : (List.range 4).all (fun k => mOk (122 + k)) = true := by decide +kernel
set_option maxRecDepth 100000 in
theorem mokg_126 : (List.range 1).all (fun k => mOk (126 + k)) = true := by decide +kernel
set_option maxRecDepth 100000 in
theorem mokp_127_0 : ((mzip 127).drop 0 |>.take 52).all (fun q => eOk 127 q.1 q.2) = true := by decide +kernel
set_option maxRecDepth 100000 in
theorem mokp_127_52 : ((mzip 127).drop 52 |>.take 5).all (fun q => eOk 127 q.1 q.2) = true := by decide +kernel
set_option maxRecDepth 100000 in
theorem mokr_127 : mrest 127 = true := by decide +kernel
set_option maxRecDepth 100000 in
theorem mokl_127 : (mzip 127).length = 57 := by decide +kernel
theorem mokw_127 : mOk 127 = true := mk_join mokr_127 (mk_cut (n := 52) mokp_127_0 (mk_cut (n := 5) mokp_127_52 (mk_end mokl_127)))
set_option maxRecDepth 100000 in
theorem mokg_128 : (List.range 1).all (fun k => mOk (128 + k)) = true := by decide +kernel
set_option maxRecDepth 100000 in
theorem mokg_129 : (List.range 1).all (fun k => mOk (129 + k)) = true := by decide +kernel
set_option maxRecDepth 100000 in
theorem mokg_130 : (List.range 2).all (fun k => mOk (130 + k)) = true := by decide +kernel
set_option maxRecDepth 100000 in
theorem mokp_132_0 : ((mzip 132).drop 0 |>.take 56).all (fun q => eOk 132 q.1 q.2) = true := by decide +kernel
set_option maxRecDepth 100000 in
theorem mokp_132_56 : ((mzip 132).drop 56 |>.take 27).all (fun q => eOk 132 q.1 q.2) = true := by decide +kernel
set_option maxRecDepth 100000 in
theorem mokr_132 : mrest 132 = true := by decide +kernel
set_option maxRecDepth 100000 in
theorem mokl_132 : (mzip 132).length = 83 := by decide +kernel
theorem mokw_132 : mOk 132 = true := mk_join mokr_132 (mk_cut (n := 56) mokp_132_0 (mk_cut (n := 27) mokp_132_56 (mk_end mokl_132)))
set_option maxRecDepth 100000 in
theorem mokg_133 : (List.range 2).all (fun k => mOk (133 + k)) = true := by decide +kernel
set_option maxRecDepth 100000 in
theorem mokp_135_0 : ((mzip 135).drop 0 |>.take 60).all (fun q => eOk 135 q.1 q.2) = true := by decide +kernel
set_option maxRecDepth 100000 in
theorem mokp_135_60 : ((mzip 135).drop 60 |>.take 10).all (fun q => eOk 135 q.1 q.2) = true := by decide +kernel
set_option maxRecDepth 100000 in
theorem mokr_135 : mrest 135 = true := by decide +kernel
set_option maxRecDepth 100000 in
theorem mokl_135 : (mzip 135).length = 70 := by decide +kernel
theorem mokw_135 : mOk 135 = true := mk_join mokr_135 (mk_cut (n := 60) mokp_135_0 (mk_cut (n := 10) mokp_135_60 (mk_end mokl_135)))
set_option maxRecDepth 100000 in
theorem mokp_136_0 : ((mzip 136).drop 0 |>.take 35).all (fun q => eOk 136 q.1 q.2) = true := by decide +kernel
set_option maxRecDepth 100000 in
theorem mokp_136_35 : ((mzip 136).drop 35 |>.take 21).all (fun q => eOk 136 q.1 q.2) = true := by decide +kernel
set_option maxRecDepth 100000 in
theorem mokr_136 : mrest 136 = true := by decide +kernel
set_option maxRecDepth 100000 in
theorem mokl_136 : (mzip 136).length = 56 := by decide +kernel
theorem mokw_136 : mOk 136 = true := mk_join mokr_136 (mk_cut (n := 35) mokp_136_0 (mk_cut (n := 21) mokp_136_35 (mk_end mokl_136)))
set_option maxRecDepth 100000 in
theorem mokg_137 : (List.range 1).all (fun k => mOk (137 + k)) = true := by decide +kernel
set_option maxRecDepth 100000 in
theorem mokp_138_0 : ((mzip 138).drop 0 |>.take 50).all (fun q => eOk 138 q.1 q.2) = true := by decide +kernel
set_option maxRecDepth 100000 in
theorem mokp_138_50 : ((mzip 138).drop 50 |>.take 5).all (fun q => eOk 138 q.1 q.2) = true := by decide +kernel
set_option maxRecDepth 100000 in
theorem mokr_138 : mrest 138 = true := by decide +kernel
set_option maxRecDepth 100000 in
theorem mokl_138 : (mzip 138).length = 55 := by decide +kernel
theorem mokw_138 : mOk 138 = true := mk_join mokr_138 (mk_cut (n := 50) mokp_138_0 (mk_cut (n := 5) mokp_138_50 (mk_end mokl_138)))
set_option maxRecDepth 100000 in
theorem mokg_139 : (List.range 2).all (fun k => mOk (139 + k)) = true := by decide +kernel
set_option maxRecDepth 100000 in
theorem mokp_141_0 : ((mzip 141).drop 0 |>.take 33).all (fun q => eOk 141 q.1 q.2) = true := by decide +kernel
set_option maxRecDepth 100000 in
theorem mokp_141_33 : ((mzip 141).drop 33 |>.take 19).all (fun q => eOk 141 q.1 q.2) = true := by decide +kernel
set_option maxRecDepth 100000 in
theorem mokr_141 : mrest 141 = true := by decide +kernel
set_option maxRecDepth 100000 in
theorem mokl_141 : (mzip 141).length = 52 := by decide +kernel
theorem mokw_141 : mOk 141 = true := mk_join mokr_141 (mk_cut (n := 33) mokp_141_0 (mk_cut (n := 19) mokp_141_33 (mk_end mokl_141)))
set_option maxRecDepth 100000 in
theorem mokg_142 : (List.range 1).all (fun k => mOk (142 + k)) = true := by decide +kernel
set_option maxRecDepth 100000 in
theorem mokg_143 : (List.range 2).all (fun k => mOk (143 + k)) = true := by decide +kernel
set_option maxRecDepth 100000 in
theorem mokg_145 : (List.range 1).all (fun k => mOk (145 + k)) = true := by decide +kernel
set_option maxRecDepth 100000 in
theorem mokg_146 : (List.range 1).all (fun k => mOk (146 + k)) = true := by decide +kernel
set_option maxRecDepth 100000 in
theorem mokg_147 : (List.range 1).all (fun k => mOk (147 + k)) = true := by decide +kernel
set_option maxRecDepth 100000 in
theorem mokg_148 : (List.range 1).all (fun k => mOk (148 + k)) = true := by decide +kernel
set_option maxRecDepth 100000 in
theorem mokg_149 : (List.range 1).all (fun k => mOk (149 + k)) = true := by decide +kernel
