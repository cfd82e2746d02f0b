theorem zk24_13 : zcase (24, 24) [(-2147483648, 2147483647), (6, 6), (-1, 2147483647)] = true := by decide +kernel
