theorem zk24_3 : zcase (24, 24) [(-2147483648, 2147483647), (1, 1), (-1, 2147483647)] = true := by decide +kernel
theorem zk24_4 : zcase (24, 24) [(-2147483648, 2147483647), (2, 2), (-2147483648, -2)] = true := by decide +kernel
