/-! The check of the methods -/
set_option maxRecDepth 100000 in
theorem mokp_326_602 : ((mzip 326).drop 602 |>.take 16).all (fun q => eOk 326 q.1 q.2) = true := by decide +kernel
set_option maxRecDepth 100000 in
theorem mokp_326_618 : ((mzip 326).drop 618 |>.take 17).all (fun q => eOk 326 q.1 q.2) = true := by decide +kernel
set_option maxRecDepth 100000 in
theorem mokp_326_635 : ((mzip 326).drop 635 |>.take 16).all (fun q => eOk 326 q.1 q.2) = true := by decide +kernel
set_option maxRecDepth 100000 in
theorem mokp_326_651 : ((mzip 326).drop 651 |>.take 16).all (fun q => eOk 326 q.1 q.2) = true := by decide +kernel
set_option maxRecDepth 100000 in
theorem mokp_326_667 : ((mzip 326).drop 667 |>.take 16).all (fun q => eOk 326 q.1 q.2) = true := by decide +kernel
set_option maxRecDepth 100000 in
theorem mokp_326_683 : ((mzip 326).drop 683 |>.take 16).all (fun q => eOk 326 q.1 q.2) = true := by decide +kernel
set_option maxRecDepth 100000 in
theorem mokp_326_699 : ((mzip 326).drop 699 |>.take 13).all (fun q => eOk 326 q.1 q.2) = true := by decide +kernel
set_option maxRecDepth 100000 in
theorem mokp_326_712 : ((mzip 326).drop 712 |>.take 16).all (fun q => eOk 326 q.1 q.2) = true := by decide +kernel
set_option maxRecDepth 100000 in
theorem mokp_326_728 : ((mzip 326).drop 728 |>.take 15).all (fun q => eOk 326 q.1 q.2) = true := by decide +kernel
set_option maxRecDepth 100000 in
theorem mokp_326_743 : ((mzip 326).drop 743 |>.take 15).all (fun q => eOk 326 q.1 q.2) = true := by decide +kernel
set_option maxRecDepth 100000 in
theorem mokp_326_758 : ((mzip 326).drop 758 |>.take 14).all (fun q => eOk 326 q.1 q.2) = true := by decide +kernel
set_option maxRecDepth 100000 in
theorem mokp_326_772 : ((mzip 326).drop 772 |>.take 13).all (fun q => eOk 326 q.1 q.2) = true := by decide +kernel
set_option maxRecDepth 100000 in
theorem mokp_326_785 : ((mzip 326).drop 785 |>.take 14).all (fun q => eOk 326 q.1 q.2) = true := by decide +kernel
set_option maxRecDepth 100000 in
theorem mokp_326_799 : ((mzip 326).drop 799 |>.take 13).all (fun q => eOk 326 q.1 q.2) = true := by decide +kernel
set_option maxRecDepth 100000 in
theorem mokp_326_812 : ((mzip 326).drop 812 |>.take 14).all (fun q => eOk 326 q.1 q.2) = true := by decide +kernel
set_option maxRecDepth 100000 in
theorem mokp_326_826 : ((mzip 326).drop 826 |>.take 13).all (fun q => eOk 326 q.1 q.2) = true := by decide +kernel
set_option maxRecDepth 100000 in
theorem mokp_326_839 : ((mzip 326).drop 839 |>.take 13).all (fun q => eOk 326 q.1 q.2) = true := by decide +kernel
set_option maxRecDepth 100000 in
theorem mokp_326_852 : ((mzip 326).drop 852 |>.take 13).all (fun q => eOk 326 q.1 q.2) = true := by decide +kernel
set_option maxRecDepth 100000 in
theorem mokp_326_865 : ((mzip 326).drop 865 |>.take 14).all (fun q => eOk 326 q.1 q.2) = true := by decide +kernel
set_option maxRecDepth 100000 in
theorem mokp_326_879 : ((mzip 326).drop 879 |>.take 13).all (fun q => eOk 326 q.1 q.2) = true := by decide +kernel
