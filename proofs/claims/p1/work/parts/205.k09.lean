def zD8 : List (List (Int × Int)) := [[(-2147483648, 2147483647)], [(-2147483648, 0), (1, 1000), (1001, 2147483647)]]
theorem zv8 : zD8.all (fun d => zcov d (-2147483648)) = true := by decide +kernel
theorem zk8 : (zprod zD8).all (zcase (8, 8)) = true := by decide +kernel
