def zD24 : List (List (Int × Int)) := [[(-2147483648, 2147483647)], [(-2147483648, 0), (1, 1), (2, 2), (3, 3), (4, 4), (5, 5), (6, 6), (7, 2147483647)], [(-2147483648, -2), (-1, 2147483647)]]
theorem zk24 : (zprod zD24).all (zcase (24, 24)) = true := by decide +kernel
theorem zv24 : zD24.all (fun d => zcov d (-2147483648)) = true := by decide +kernel
