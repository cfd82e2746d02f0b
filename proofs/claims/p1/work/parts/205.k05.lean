theorem zk24_11 : zcase (24, 24) [(-2147483648, 2147483647), (5, 5), (-1, 2147483647)] = true := by decide +kernel
