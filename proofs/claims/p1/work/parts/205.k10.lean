def zD9 : List (List (Int × Int)) := [[(-2147483648, 2147483647)], [(-2147483648, -1), (0, 0), (1, 1), (2, 2), (3, 2147483647)]]
theorem zv9 : zD9.all (fun d => zcov d (-2147483648)) = true := by decide +kernel
theorem zk9 : (zprod zD9).all (zcase (9, 9)) = true := by decide +kernel
def zD10 : List (List (Int × Int)) := [[(-2147483648, 2147483647)]]
theorem zv10 : zD10.all (fun d => zcov d (-2147483648)) = true := by decide +kernel
theorem zk10 : (zprod zD10).all (zcase (10, 10)) = true := by decide +kernel
def zD11 : List (List (Int × Int)) := [[(-2147483648, 2147483647)]]
theorem zv11 : zD11.all (fun d => zcov d (-2147483648)) = true := by decide +kernel
theorem zk11 : (zprod zD11).all (zcase (11, 11)) = true := by decide +kernel
def zD12 : List (List (Int × Int)) := [[(-2147483648, 2147483647)], [(-2147483648, -1), (0, 0), (1, 1), (2, 2), (3, 3), (4, 2147483647)]]
theorem zv12 : zD12.all (fun d => zcov d (-2147483648)) = true := by decide +kernel
theorem zk12_0 : zcase (12, 12) [(-2147483648, 2147483647), (-2147483648, -1)] = true := by decide +kernel
