theorem zk24_5 : zcase (24, 24) [(-2147483648, 2147483647), (2, 2), (-1, 2147483647)] = true := by decide +kernel
theorem zk24_6 : zcase (24, 24) [(-2147483648, 2147483647), (3, 3), (-2147483648, -2)] = true := by decide +kernel
