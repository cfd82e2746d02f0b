theorem zk23_2 : zcase (23, 23) [(-2147483648, 2147483647), (1, 1)] = true := by decide +kernel
theorem zk23_3 : zcase (23, 23) [(-2147483648, 2147483647), (2, 2147483647)] = true := by decide +kernel
theorem zk23 : (zprod zD23).all (zcase (23, 23)) = true := by
  rw [show zprod zD23 = [[(-2147483648, 2147483647), (-2147483648, -1)], [(-2147483648, 2147483647), (0, 0)], [(-2147483648, 2147483647), (1, 1)], [(-2147483648, 2147483647), (2, 2147483647)]] by decide +kernel]
  simp only [List.all_cons, List.all_nil, zk23_0, zk23_1, zk23_2, zk23_3, Bool.and_self]
def zD25 : List (List (Int × Int)) := [[(-2147483648, 2147483647)], [(-2147483648, 0), (1, 1), (2, 2), (3, 3), (4, 4), (5, 2147483647)]]
theorem zv25 : zD25.all (fun d => zcov d (-2147483648)) = true := by decide +kernel
theorem zk25_0 : zcase (25, 25) [(-2147483648, 2147483647), (-2147483648, 0)] = true := by decide +kernel
