theorem zk12_2 : zcase (12, 12) [(-2147483648, 2147483647), (1, 1)] = true := by decide +kernel
