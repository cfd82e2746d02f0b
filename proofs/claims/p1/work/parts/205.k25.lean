theorem zk33_10 : zcase (33, 33) [(-2147483648, 2147483647), (2, 2), (0, 0)] = true := by decide +kernel
theorem zk33_11 : zcase (33, 33) [(-2147483648, 2147483647), (2, 2), (1, 2147483647)] = true := by decide +kernel
theorem zk33_12 : zcase (33, 33) [(-2147483648, 2147483647), (3, 3), (-2147483648, -1)] = true := by decide +kernel
