def zD24 : List (List (Int × Int)) := [[(-2147483648, 2147483647)], [(-2147483648, 0), (1, 1), (2, 2), (3, 3), (4, 4), (5, 5), (6, 6), (7, 2147483647)], [(-2147483648, -2), (-1, 2147483647)]]
theorem zv24 : zD24.all (fun d => zcov d (-2147483648)) = true := by decide +kernel
theorem zk24_0 : zcase (24, 24) [(-2147483648, 2147483647), (-2147483648, 0), (-2147483648, -2)] = true := by decide +kernel
theorem zk24_1 : zcase (24, 24) [(-2147483648, 2147483647), (-2147483648, 0), (-1, 2147483647)] = true := by decide +kernel
theorem zk24_2 : zcase (24, 24) [(-2147483648, 2147483647), (1, 1), (-2147483648, -2)] = true := by decide +kernel
theorem zk24_3 : zcase (24, 24) [(-2147483648, 2147483647), (1, 1), (-1, 2147483647)] = true := by decide +kernel
theorem zk24_4 : zcase (24, 24) [(-2147483648, 2147483647), (2, 2), (-2147483648, -2)] = true := by decide +kernel
