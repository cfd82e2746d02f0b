theorem zk22_4 : zcase (22, 22) [(-2147483648, 2147483647), (0, 0), (1, 100)] = true := by decide +kernel
theorem zk22_5 : zcase (22, 22) [(-2147483648, 2147483647), (0, 0), (101, 2147483647)] = true := by decide +kernel
theorem zk22_6 : zcase (22, 22) [(-2147483648, 2147483647), (1, 1), (-2147483648, 0)] = true := by decide +kernel
