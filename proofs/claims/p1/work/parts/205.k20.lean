theorem zk23_1 : zcase (23, 23) [(-2147483648, 2147483647), (0, 0)] = true := by decide +kernel
