theorem zk20_2 : zcase (20, 20) [(-2147483648, 2147483647), (1, 1)] = true := by decide +kernel
