/-! The check of the methods -/
set_option maxRecDepth 100000 in
theorem mokp_326_892 : ((mzip 326).drop 892 |>.take 12).all (fun q => eOk 326 q.1 q.2) = true := by decide +kernel
set_option maxRecDepth 100000 in
theorem mokp_326_904 : ((mzip 326).drop 904 |>.take 11).all (fun q => eOk 326 q.1 q.2) = true := by decide +kernel
set_option maxRecDepth 100000 in
theorem mokp_326_915 : ((mzip 326).drop 915 |>.take 11).all (fun q => eOk 326 q.1 q.2) = true := by decide +kernel
set_option maxRecDepth 100000 in
theorem mokp_326_926 : ((mzip 326).drop 926 |>.take 11).all (fun q => eOk 326 q.1 q.2) = true := by decide +kernel
set_option maxRecDepth 100000 in
theorem mokp_326_937 : ((mzip 326).drop 937 |>.take 7).all (fun q => eOk 326 q.1 q.2) = true := by decide +kernel
set_option maxRecDepth 100000 in
theorem mokr_326 : mrest 326 = true := by decide +kernel
set_option maxRecDepth 100000 in
theorem mokl_326 : (mzip 326).length = 944 := by decide +kernel
theorem mokw_326 : mOk 326 = true := mk_join mokr_326 (mk_cut (n := 24) mokp_326_0 (mk_cut (n := 1) mokp_326_24 (mk_cut (n := 52) mokp_326_25 (mk_cut (n := 35) mokp_326_77 (mk_cut (n := 33) mokp_326_112 (mk_cut (n := 32) mokp_326_145 (mk_cut (n := 32) mokp_326_177 (mk_cut (n := 26) mokp_326_209 (mk_cut (n := 27) mokp_326_235 (mk_cut (n := 24) mokp_326_262 (mk_cut (n := 25) mokp_326_286 (mk_cut (n := 23) mokp_326_311 (mk_cut (n := 22) mokp_326_334 (mk_cut (n := 22) mokp_326_356 (mk_cut (n := 22) mokp_326_378 (mk_cut (n := 21) mokp_326_400 (mk_cut (n := 20) mokp_326_421 (mk_cut (n := 21) mokp_326_441 (mk_cut (n := 19) mokp_326_462 (mk_cut (n := 19) mokp_326_481 (mk_cut (n := 18) mokp_326_500 (mk_cut (n := 16) mokp_326_518 (mk_cut (n := 17) mokp_326_534 (mk_cut (n := 17) mokp_326_551 (mk_cut (n := 18) mokp_326_568 (mk_cut (n := 16) mokp_326_586 (mk_cut (n := 16) mokp_326_602 (mk_cut (n := 17) mokp_326_618 (mk_cut (n := 16) mokp_326_635 (mk_cut (n := 16) mokp_326_651 (mk_cut (n := 16) mokp_326_667 (mk_cut (n := 16) mokp_326_683 (mk_cut (n := 13) mokp_326_699 (mk_cut (n := 16) mokp_326_712 (mk_cut (n := 15) mokp_326_728 (mk_cut (n := 15) mokp_326_743 (mk_cut (n := 14) mokp_326_758 (mk_cut (n := 13) mokp_326_772 (mk_cut (n := 14) mokp_326_785 (mk_cut (n := 13) mokp_326_799 (mk_cut (n := 14) mokp_326_812 (mk_cut (n := 13) mokp_326_826 (mk_cut (n := 13) mokp_326_839 (mk_cut (n := 13) mokp_326_852 (mk_cut (n := 14) mokp_326_865 (mk_cut (n := 13) mokp_326_879 (mk_cut (n := 12) mokp_326_892 (mk_cut (n := 11) mokp_326_904 (mk_cut (n := 11) mokp_326_915 (mk_cut (n := 11) mokp_326_926 (mk_cut (n := 7) mokp_326_937 (mk_end mokl_326))))))))))))))))))))))))))))))))))))))))))))))))))))
