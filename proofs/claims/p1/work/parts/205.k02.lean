theorem zk24_7 : zcase (24, 24) [(-2147483648, 2147483647), (3, 3), (-1, 2147483647)] = true := by decide +kernel
theorem zk24_8 : zcase (24, 24) [(-2147483648, 2147483647), (4, 4), (-2147483648, -2)] = true := by decide +kernel
