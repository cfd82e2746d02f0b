theorem zk25_1 : zcase (25, 25) [(-2147483648, 2147483647), (1, 1)] = true := by decide +kernel
theorem zk25_2 : zcase (25, 25) [(-2147483648, 2147483647), (2, 2)] = true := by decide +kernel
theorem zk25_3 : zcase (25, 25) [(-2147483648, 2147483647), (3, 3)] = true := by decide +kernel
theorem zk25_4 : zcase (25, 25) [(-2147483648, 2147483647), (4, 4)] = true := by decide +kernel
theorem zk25_5 : zcase (25, 25) [(-2147483648, 2147483647), (5, 2147483647)] = true := by decide +kernel
theorem zk25 : (zprod zD25).all (zcase (25, 25)) = true := by
  rw [show zprod zD25 = [[(-2147483648, 2147483647), (-2147483648, 0)], [(-2147483648, 2147483647), (1, 1)], [(-2147483648, 2147483647), (2, 2)], [(-2147483648, 2147483647), (3, 3)], [(-2147483648, 2147483647), (4, 4)], [(-2147483648, 2147483647), (5, 2147483647)]] by decide +kernel]
  simp only [List.all_cons, List.all_nil, zk25_0, zk25_1, zk25_2, zk25_3, zk25_4, zk25_5, Bool.and_self]
def zD26 : List (List (Int × Int)) := [[(-2147483648, 2147483647)], [(-2147483648, -1), (0, 0), (1, 1), (2, 2), (3, 3), (4, 2147483647)]]
theorem zv26 : zD26.all (fun d => zcov d (-2147483648)) = true := by decide +kernel
theorem zk26 : (zprod zD26).all (zcase (26, 26)) = true := by decide +kernel
def zD27 : List (List (Int × Int)) := [[(-2147483648, 2147483647)], [(-2147483648, -1), (0, 2147483647)]]
theorem zv27 : zD27.all (fun d => zcov d (-2147483648)) = true := by decide +kernel
theorem zk27 : (zprod zD27).all (zcase (27, 27)) = true := by decide +kernel
def zD28 : List (List (Int × Int)) := [[(-2147483648, 2147483647)]]
theorem zv28 : zD28.all (fun d => zcov d (-2147483648)) = true := by decide +kernel
theorem zk28 : (zprod zD28).all (zcase (28, 28)) = true := by decide +kernel
def zD29 : List (List (Int × Int)) := [[(-2147483648, 2147483647)]]
theorem zv29 : zD29.all (fun d => zcov d (-2147483648)) = true := by decide +kernel
theorem zk29 : (zprod zD29).all (zcase (29, 29)) = true := by decide +kernel
def zD30 : List (List (Int × Int)) := [[(-2147483648, 2147483647)], [(-2147483648, -1), (0, 9999), (10000, 2147483647)]]
theorem zv30 : zD30.all (fun d => zcov d (-2147483648)) = true := by decide +kernel
theorem zk30 : (zprod zD30).all (zcase (30, 30)) = true := by decide +kernel
