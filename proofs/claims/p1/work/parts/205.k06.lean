theorem zk24_12 : zcase (24, 24) [(-2147483648, 2147483647), (6, 6), (-2147483648, -2)] = true := by decide +kernel
