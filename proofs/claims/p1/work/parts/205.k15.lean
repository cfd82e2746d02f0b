def zD19 : List (List (Int × Int)) := [[(-2147483648, 2147483647)], [(-2147483648, -1), (0, 0), (1, 1), (2, 2147483647)]]
theorem zv19 : zD19.all (fun d => zcov d (-2147483648)) = true := by decide +kernel
theorem zk19 : (zprod zD19).all (zcase (19, 19)) = true := by decide +kernel
def zD20 : List (List (Int × Int)) := [[(-2147483648, 2147483647)], [(-2147483648, -1), (0, 0), (1, 1), (2, 2), (3, 2147483647)]]
theorem zv20 : zD20.all (fun d => zcov d (-2147483648)) = true := by decide +kernel
theorem zk20_0 : zcase (20, 20) [(-2147483648, 2147483647), (-2147483648, -1)] = true := by decide +kernel
theorem zk20_1 : zcase (20, 20) [(-2147483648, 2147483647), (0, 0)] = true := by decide +kernel
