theorem zk12_1 : zcase (12, 12) [(-2147483648, 2147483647), (0, 0)] = true := by decide +kernel
