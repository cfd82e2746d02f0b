theorem zk24_10 : zcase (24, 24) [(-2147483648, 2147483647), (5, 5), (-2147483648, -2)] = true := by decide +kernel
