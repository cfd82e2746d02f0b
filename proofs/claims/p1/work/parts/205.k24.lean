theorem zk33_7 : zcase (33, 33) [(-2147483648, 2147483647), (1, 1), (0, 0)] = true := by decide +kernel
theorem zk33_8 : zcase (33, 33) [(-2147483648, 2147483647), (1, 1), (1, 2147483647)] = true := by decide +kernel
theorem zk33_9 : zcase (33, 33) [(-2147483648, 2147483647), (2, 2), (-2147483648, -1)] = true := by decide +kernel
