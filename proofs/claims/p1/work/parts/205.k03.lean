theorem zk24_9 : zcase (24, 24) [(-2147483648, 2147483647), (4, 4), (-1, 2147483647)] = true := by decide +kernel
