def zD31 : List (List (Int × Int)) := [[(-2147483648, 2147483647)], [(-2147483648, -1), (0, 9999), (10000, 2147483647)], [(-2147483648, 0), (1, 50), (51, 2147483647)], [(-2147483648, -1), (0, 3), (4, 2147483647)]]
theorem zv31 : zD31.all (fun d => zcov d (-2147483648)) = true := by decide +kernel
theorem zk31 : (zprod zD31).all (zcase (31, 31)) = true := by decide +kernel
def zD32 : List (List (Int × Int)) := [[(-2147483648, 2147483647)], [(-2147483648, -1), (0, 9999), (10000, 2147483647)], [(-2147483648, 0), (1, 200), (201, 2147483647)], [(-2147483648, -2), (-1, 2147483647)]]
theorem zv32 : zD32.all (fun d => zcov d (-2147483648)) = true := by decide +kernel
theorem zk32 : (zprod zD32).all (zcase (32, 32)) = true := by decide +kernel
def zD33 : List (List (Int × Int)) := [[(-2147483648, 2147483647)], [(-2147483648, -1), (0, 0), (1, 1), (2, 2), (3, 3), (4, 2147483647)], [(-2147483648, -1), (0, 0), (1, 2147483647)]]
theorem zv33 : zD33.all (fun d => zcov d (-2147483648)) = true := by decide +kernel
theorem zk33_0 : zcase (33, 33) [(-2147483648, 2147483647), (-2147483648, -1), (-2147483648, -1)] = true := by decide +kernel
theorem zk33_1 : zcase (33, 33) [(-2147483648, 2147483647), (-2147483648, -1), (0, 0)] = true := by decide +kernel
theorem zk33_2 : zcase (33, 33) [(-2147483648, 2147483647), (-2147483648, -1), (1, 2147483647)] = true := by decide +kernel
theorem zk33_3 : zcase (33, 33) [(-2147483648, 2147483647), (0, 0), (-2147483648, -1)] = true := by decide +kernel
theorem zk33_4 : zcase (33, 33) [(-2147483648, 2147483647), (0, 0), (0, 0)] = true := by decide +kernel
theorem zk33_5 : zcase (33, 33) [(-2147483648, 2147483647), (0, 0), (1, 2147483647)] = true := by decide +kernel
theorem zk33_6 : zcase (33, 33) [(-2147483648, 2147483647), (1, 1), (-2147483648, -1)] = true := by decide +kernel
