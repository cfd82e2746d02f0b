def zD1 : List (List (Int × Int)) := [[(-2147483648, 2147483647)]]
theorem zv1 : zD1.all (fun d => zcov d (-2147483648)) = true := by decide +kernel
theorem zk1 : (zprod zD1).all (zcase (1, 1)) = true := by decide +kernel
def zD2 : List (List (Int × Int)) := [[(-2147483648, 2147483647)]]
theorem zv2 : zD2.all (fun d => zcov d (-2147483648)) = true := by decide +kernel
theorem zk2 : (zprod zD2).all (zcase (2, 2)) = true := by decide +kernel
def zD3 : List (List (Int × Int)) := [[(-2147483648, 2147483647)]]
theorem zv3 : zD3.all (fun d => zcov d (-2147483648)) = true := by decide +kernel
theorem zk3 : (zprod zD3).all (zcase (3, 3)) = true := by decide +kernel
def zD4 : List (List (Int × Int)) := [[(-2147483648, 2147483647)], [(-2147483648, -1), (0, 2147483647)], [(-2147483648, 2147483647)]]
theorem zv4 : zD4.all (fun d => zcov d (-2147483648)) = true := by decide +kernel
theorem zk4 : (zprod zD4).all (zcase (4, 4)) = true := by decide +kernel
def zD5 : List (List (Int × Int)) := [[(-2147483648, 2147483647)], [(-2147483648, -1), (0, 0), (1, 1), (2, 2147483647)], [(-2147483648, -1), (0, 2147483647)]]
theorem zv5 : zD5.all (fun d => zcov d (-2147483648)) = true := by decide +kernel
theorem zk5 : (zprod zD5).all (zcase (5, 5)) = true := by decide +kernel
def zD6 : List (List (Int × Int)) := [[(-2147483648, 2147483647)], [(-2147483648, -1), (0, 2147483647)]]
theorem zv6 : zD6.all (fun d => zcov d (-2147483648)) = true := by decide +kernel
theorem zk6 : (zprod zD6).all (zcase (6, 6)) = true := by decide +kernel
def zD7 : List (List (Int × Int)) := [[(-2147483648, 2147483647)], [(-2147483648, -1), (0, 2147483647)], [(-2147483648, 2147483647)]]
theorem zv7 : zD7.all (fun d => zcov d (-2147483648)) = true := by decide +kernel
theorem zk7 : (zprod zD7).all (zcase (7, 7)) = true := by decide +kernel
