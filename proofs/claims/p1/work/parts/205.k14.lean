theorem zk12_4 : zcase (12, 12) [(-2147483648, 2147483647), (3, 3)] = true := by decide +kernel
theorem zk12_5 : zcase (12, 12) [(-2147483648, 2147483647), (4, 2147483647)] = true := by decide +kernel
theorem zk12 : (zprod zD12).all (zcase (12, 12)) = true := by
  rw [show zprod zD12 = [[(-2147483648, 2147483647), (-2147483648, -1)], [(-2147483648, 2147483647), (0, 0)], [(-2147483648, 2147483647), (1, 1)], [(-2147483648, 2147483647), (2, 2)], [(-2147483648, 2147483647), (3, 3)], [(-2147483648, 2147483647), (4, 2147483647)]] by decide +kernel]
  simp only [List.all_cons, List.all_nil, zk12_0, zk12_1, zk12_2, zk12_3, zk12_4, zk12_5, Bool.and_self]
def zD13 : List (List (Int × Int)) := [[(-2147483648, 2147483647)], [(-2147483648, -1), (0, 6), (7, 2147483647)]]
theorem zv13 : zD13.all (fun d => zcov d (-2147483648)) = true := by decide +kernel
theorem zk13 : (zprod zD13).all (zcase (13, 13)) = true := by decide +kernel
def zD14 : List (List (Int × Int)) := [[(-2147483648, 2147483647)], [(-2147483648, 2147483647)], [(-2147483648, 2147483647)]]
theorem zv14 : zD14.all (fun d => zcov d (-2147483648)) = true := by decide +kernel
theorem zk14 : (zprod zD14).all (zcase (14, 14)) = true := by decide +kernel
def zD15 : List (List (Int × Int)) := [[(-2147483648, 2147483647)], [(-2147483648, -1), (0, 2), (3, 2147483647)]]
theorem zv15 : zD15.all (fun d => zcov d (-2147483648)) = true := by decide +kernel
theorem zk15 : (zprod zD15).all (zcase (15, 15)) = true := by decide +kernel
def zD16 : List (List (Int × Int)) := [[(-2147483648, 2147483647)], [(-2147483648, -1), (0, 2147483647)], [(-2147483648, 2147483647)]]
theorem zv16 : zD16.all (fun d => zcov d (-2147483648)) = true := by decide +kernel
theorem zk16 : (zprod zD16).all (zcase (16, 16)) = true := by decide +kernel
def zD17 : List (List (Int × Int)) := [[(-2147483648, 2147483647)], [(-2147483648, 0), (1, 20), (21, 2147483647)], [(-2147483648, -1), (0, 3), (4, 2147483647)]]
theorem zv17 : zD17.all (fun d => zcov d (-2147483648)) = true := by decide +kernel
theorem zk17 : (zprod zD17).all (zcase (17, 17)) = true := by decide +kernel
def zD18 : List (List (Int × Int)) := [[(-2147483648, 2147483647)], [(-2147483648, -1), (0, 2147483647)], [(-2147483648, 2147483647)], [(-2147483648, 2147483647)]]
theorem zv18 : zD18.all (fun d => zcov d (-2147483648)) = true := by decide +kernel
theorem zk18 : (zprod zD18).all (zcase (18, 18)) = true := by decide +kernel
