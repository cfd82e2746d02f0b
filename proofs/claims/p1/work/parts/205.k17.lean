theorem zk20_3 : zcase (20, 20) [(-2147483648, 2147483647), (2, 2)] = true := by decide +kernel
theorem zk20_4 : zcase (20, 20) [(-2147483648, 2147483647), (3, 2147483647)] = true := by decide +kernel
theorem zk20 : (zprod zD20).all (zcase (20, 20)) = true := by
  rw [show zprod zD20 = [[(-2147483648, 2147483647), (-2147483648, -1)], [(-2147483648, 2147483647), (0, 0)], [(-2147483648, 2147483647), (1, 1)], [(-2147483648, 2147483647), (2, 2)], [(-2147483648, 2147483647), (3, 2147483647)]] by decide +kernel]
  simp only [List.all_cons, List.all_nil, zk20_0, zk20_1, zk20_2, zk20_3, zk20_4, Bool.and_self]
def zD21 : List (List (Int × Int)) := [[(-2147483648, 2147483647)]]
theorem zv21 : zD21.all (fun d => zcov d (-2147483648)) = true := by decide +kernel
theorem zk21 : (zprod zD21).all (zcase (21, 21)) = true := by decide +kernel
def zD22 : List (List (Int × Int)) := [[(-2147483648, 2147483647)], [(-2147483648, -1), (0, 0), (1, 1), (2, 2147483647)], [(-2147483648, 0), (1, 100), (101, 2147483647)]]
theorem zv22 : zD22.all (fun d => zcov d (-2147483648)) = true := by decide +kernel
theorem zk22_0 : zcase (22, 22) [(-2147483648, 2147483647), (-2147483648, -1), (-2147483648, 0)] = true := by decide +kernel
theorem zk22_1 : zcase (22, 22) [(-2147483648, 2147483647), (-2147483648, -1), (1, 100)] = true := by decide +kernel
theorem zk22_2 : zcase (22, 22) [(-2147483648, 2147483647), (-2147483648, -1), (101, 2147483647)] = true := by decide +kernel
theorem zk22_3 : zcase (22, 22) [(-2147483648, 2147483647), (0, 0), (-2147483648, 0)] = true := by decide +kernel
