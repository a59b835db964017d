/-! The check of the methods -/
set_option maxRecDepth 100000 in
theorem mokp_150_0 : ((mzip 150).drop 0 |>.take 31).all (fun q => eOk 150 q.1 q.2) = true := by decide +kernel
set_option maxRecDepth 100000 in
theorem mokp_150_31 : ((mzip 150).drop 31 |>.take 30).all (fun q => eOk 150 q.1 q.2) = true := by decide +kernel
set_option maxRecDepth 100000 in
theorem mokr_150 : mrest 150 = true := by decide +kernel
set_option maxRecDepth 100000 in
theorem mokl_150 : (mzip 150).length = 61 := by decide +kernel
theorem mokw_150 : mOk 150 = true := mk_join mokr_150 (mk_cut (n := 31) mokp_150_0 (mk_cut (n := 30) mokp_150_31 (mk_end mokl_150)))
set_option maxRecDepth 100000 in
theorem mokg_151 : (List.range 1).all (fun k => mOk (151 + k)) = true := by decide +kernel
set_option maxRecDepth 100000 in
theorem mokg_152 : (List.range 2).all (fun k => mOk (152 + k)) = true := by decide +kernel
set_option maxRecDepth 100000 in
theorem mokg_154 : (List.range 2).all (fun k => mOk (154 + k)) = true := by decide +kernel
set_option maxRecDepth 100000 in
theorem mokp_156_0 : ((mzip 156).drop 0 |>.take 32).all (fun q => eOk 156 q.1 q.2) = true := by decide +kernel
set_option maxRecDepth 100000 in
theorem mokp_156_32 : ((mzip 156).drop 32 |>.take 13).all (fun q => eOk 156 q.1 q.2) = true := by decide +kernel
set_option maxRecDepth 100000 in
theorem mokr_156 : mrest 156 = true := by decide +kernel
set_option maxRecDepth 100000 in
theorem mokl_156 : (mzip 156).length = 45 := by decide +kernel
theorem mokw_156 : mOk 156 = true := mk_join mokr_156 (mk_cut (n := 32) mokp_156_0 (mk_cut (n := 13) mokp_156_32 (mk_end mokl_156)))
set_option maxRecDepth 100000 in
theorem mokg_157 : (List.range 2).all (fun k => mOk (157 + k)) = true := by decide +kernel
set_option maxRecDepth 100000 in
theorem mokg_159 : (List.range 2).all (fun k => mOk (159 + k)) = true := by decide +kernel
set_option maxRecDepth 100000 in
theorem mokg_161 : (List.range 2).all (fun k => mOk (161 + k)) = true := by decide +kernel
set_option maxRecDepth 100000 in
theorem mokp_163_0 : ((mzip 163).drop 0 |>.take 56).all (fun q => eOk 163 q.1 q.2) = true := by decide +kernel
set_option maxRecDepth 100000 in
theorem mokp_163_56 : ((mzip 163).drop 56 |>.take 3).all (fun q => eOk 163 q.1 q.2) = true := by decide +kernel
set_option maxRecDepth 100000 in
theorem mokr_163 : mrest 163 = true := by decide +kernel
set_option maxRecDepth 100000 in
theorem mokl_163 : (mzip 163).length = 59 := by decide +kernel
theorem mokw_163 : mOk 163 = true := mk_join mokr_163 (mk_cut (n := 56) mokp_163_0 (mk_cut (n := 3) mokp_163_56 (mk_end mokl_163)))
set_option maxRecDepth 100000 in
theorem mokg_164 : (List.range 1).all (fun k => mOk (164 + k)) = true := by decide +kernel
set_option maxRecDepth 100000 in
theorem mokg_165 : (List.range 2).all (fun k => mOk (165 + k)) = true := by decide +kernel
set_option maxRecDepth 100000 in
theorem mokg_167 : (List.range 4).all (fun k => mOk (167 + k)) = true := by decide +kernel
set_option maxRecDepth 100000 in
theorem mokg_171 : (List.range 1).all (fun k => mOk (171 + k)) = true := by decide +kernel
set_option maxRecDepth 100000 in
theorem mokg_172 : (List.range 1).all (fun k => mOk (172 + k)) = true := by decide +kernel
set_option maxRecDepth 100000 in
theorem mokp_173_0 : ((mzip 173).drop 0 |>.take 51).all (fun q => eOk 173 q.1 q.2) = true := by decide +kernel
set_option maxRecDepth 100000 in
theorem mokp_173_51 : ((mzip 173).drop 51 |>.take 9).all (fun q => eOk 173 q.1 q.2) = true := by decide +kernel
set_option maxRecDepth 100000 in
theorem mokr_173 : mrest 173 = true := by decide +kernel
set_option maxRecDepth 100000 in
theorem mokl_173 : (mzip 173).length = 60 := by decide +kernel
theorem mokw_173 : mOk 173 = true := mk_join mokr_173 (mk_cut (n := 51) mokp_173_0 (mk_cut (n := 9) mokp_173_51 (mk_end mokl_173)))
set_option maxRecDepth 100000 in
theorem mokg_174 : (List.range 3).all (fun k => mOk (174 + k)) = true := by decide +kernel
set_option maxRecDepth 100000 in
theorem mokp_177_0 : ((mzip 177).drop 0 |>.take 5).all (fun q => eOk 177 q.1 q.2) = true := by decide +kernel
set_option maxRecDepth 100000 in
theorem mokp_177_5 : ((mzip 177).drop 5 |>.take 47).all (fun q => eOk 177 q.1 q.2) = true := by decide +kernel
set_option maxRecDepth 100000 in
theorem mokp_177_52 : ((mzip 177).drop 52 |>.take 17).all (fun q => eOk 177 q.1 q.2) = true := by decide +kernel
set_option maxRecDepth 100000 in
theorem mokr_177 : mrest 177 = true := by decide +kernel
set_option maxRecDepth 100000 in
theorem mokl_177 : (mzip 177).length = 69 := by decide +kernel
theorem mokw_177 : mOk 177 = true := mk_join mokr_177 (mk_cut (n := 5) mokp_177_0 (mk_cut (n := 47) mokp_177_5 (mk_cut (n := 17) mokp_177_52 (mk_end mokl_177))))
set_option maxRecDepth 100000 in
theorem mokg_178 : (List.range 5).all (fun k => mOk (178 + k)) = true := by decide +kernel
set_option maxRecDepth 100000 in
theorem mokp_183_0 : ((mzip 183).drop 0 |>.take 61).all (fun q => eOk 183 q.1 q.2) = true := by decide +kernel
