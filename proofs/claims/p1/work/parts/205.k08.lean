theorem zk24_14 : zcase (24, 24) [(-2147483648, 2147483647), (7, 2147483647), (-2147483648, -2)] = true := by decide +kernel
theorem zk24_15 : zcase (24, 24) [(-2147483648, 2147483647), (7, 2147483647), (-1, 2147483647)] = true := by decide +kernel
theorem zk24 : (zprod zD24).all (zcase (24, 24)) = true := by
  rw [show zprod zD24 = [[(-2147483648, 2147483647), (-2147483648, 0), (-2147483648, -2)], [(-2147483648, 2147483647), (-2147483648, 0), (-1, 2147483647)], [(-2147483648, 2147483647), (1, 1), (-2147483648, -2)], [(-2147483648, 2147483647), (1, 1), (-1, 2147483647)], [(-2147483648, 2147483647), (2, 2), (-2147483648, -2)], [(-2147483648, 2147483647), (2, 2), (-1, 2147483647)], [(-2147483648, 2147483647), (3, 3), (-2147483648, -2)], [(-2147483648, 2147483647), (3, 3), (-1, 2147483647)], [(-2147483648, 2147483647), (4, 4), (-2147483648, -2)], [(-2147483648, 2147483647), (4, 4), (-1, 2147483647)], [(-2147483648, 2147483647), (5, 5), (-2147483648, -2)], [(-2147483648, 2147483647), (5, 5), (-1, 2147483647)], [(-2147483648, 2147483647), (6, 6), (-2147483648, -2)], [(-2147483648, 2147483647), (6, 6), (-1, 2147483647)], [(-2147483648, 2147483647), (7, 2147483647), (-2147483648, -2)], [(-2147483648, 2147483647), (7, 2147483647), (-1, 2147483647)]] by decide +kernel]
  simp only [List.all_cons, List.all_nil, zk24_0, zk24_1, zk24_2, zk24_3, zk24_4, zk24_5, zk24_6, zk24_7, zk24_8, zk24_9, zk24_10, zk24_11, zk24_12, zk24_13, zk24_14, zk24_15, Bool.and_self]
def zD1 : List (List (Int × Int)) := [[(-2147483648, 2147483647)]]
theorem zv1 : zD1.all (fun d => zcov d (-2147483648)) = true := by decide +kernel
theorem zk1 : (zprod zD1).all (zcase (1, 1)) = true := by decide +kernel
def zD2 : List (List (Int × Int)) := [[(-2147483648, 2147483647)]]
theorem zv2 : zD2.all (fun d => zcov d (-2147483648)) = true := by decide +kernel
theorem zk2 : (zprod zD2).all (zcase (2, 2)) = true := by decide +kernel
def zD3 : List (List (Int × Int)) := [[(-2147483648, 2147483647)]]
theorem zv3 : zD3.all (fun d => zcov d (-2147483648)) = true := by decide +kernel
theorem zk3 : (zprod zD3).all (zcase (3, 3)) = true := by decide +kernel
def zD4 : List (List (Int × Int)) := [[(-2147483648, 2147483647)], [(-2147483648, -1), (0, 2147483647)], [(-2147483648, 2147483647)]]
theorem zv4 : zD4.all (fun d => zcov d (-2147483648)) = true := by decide +kernel
theorem zk4 : (zprod zD4).all (zcase (4, 4)) = true := by decide +kernel
def zD5 : List (List (Int × Int)) := [[(-2147483648, 2147483647)], [(-2147483648, -1), (0, 0), (1, 1), (2, 2147483647)], [(-2147483648, -1), (0, 2147483647)]]
theorem zv5 : zD5.all (fun d => zcov d (-2147483648)) = true := by decide +kernel
theorem zk5 : (zprod zD5).all (zcase (5, 5)) = true := by decide +kernel
def zD6 : List (List (Int × Int)) := [[(-2147483648, 2147483647)], [(-2147483648, -1), (0, 2147483647)]]
theorem zv6 : zD6.all (fun d => zcov d (-2147483648)) = true := by decide +kernel
theorem zk6 : (zprod zD6).all (zcase (6, 6)) = true := by decide +kernel
def zD7 : List (List (Int × Int)) := [[(-2147483648, 2147483647)], [(-2147483648, -1), (0, 2147483647)], [(-2147483648, 2147483647)]]
theorem zv7 : zD7.all (fun d => zcov d (-2147483648)) = true := by decide +kernel
theorem zk7 : (zprod zD7).all (zcase (7, 7)) = true := by decide +kernel
