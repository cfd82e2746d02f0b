theorem zk12_3 : zcase (12, 12) [(-2147483648, 2147483647), (2, 2)] = true := by decide +kernel
