def zD1 : List (List (Int × Int)) := [[(-2147483648, 2147483647)]]
theorem zk1 : (zprod zD1).all (zcase (1, 1)) = true := by decide +kernel
theorem zv1 : zD1.all (fun d => zcov d (-2147483648)) = true := by decide +kernel
def zD2 : List (List (Int × Int)) := [[(-2147483648, 2147483647)]]
theorem zk2 : (zprod zD2).all (zcase (2, 2)) = true := by decide +kernel
theorem zv2 : zD2.all (fun d => zcov d (-2147483648)) = true := by decide +kernel
def zD3 : List (List (Int × Int)) := [[(-2147483648, 2147483647)]]
theorem zk3 : (zprod zD3).all (zcase (3, 3)) = true := by decide +kernel
theorem zv3 : zD3.all (fun d => zcov d (-2147483648)) = true := by decide +kernel
def zD4 : List (List (Int × Int)) := [[(-2147483648, 2147483647)], [(-2147483648, -1), (0, 2147483647)], [(-2147483648, 2147483647)]]
theorem zk4 : (zprod zD4).all (zcase (4, 4)) = true := by decide +kernel
theorem zv4 : zD4.all (fun d => zcov d (-2147483648)) = true := by decide +kernel
def zD5 : List (List (Int × Int)) := [[(-2147483648, 2147483647)], [(-2147483648, -1), (0, 0), (1, 1), (2, 2147483647)], [(-2147483648, -1), (0, 2147483647)]]
theorem zk5 : (zprod zD5).all (zcase (5, 5)) = true := by decide +kernel
theorem zv5 : zD5.all (fun d => zcov d (-2147483648)) = true := by decide +kernel
def zD6 : List (List (Int × Int)) := [[(-2147483648, 2147483647)], [(-2147483648, -1), (0, 2147483647)]]
theorem zk6 : (zprod zD6).all (zcase (6, 6)) = true := by decide +kernel
theorem zv6 : zD6.all (fun d => zcov d (-2147483648)) = true := by decide +kernel
def zD7 : List (List (Int × Int)) := [[(-2147483648, 2147483647)], [(-2147483648, -1), (0, 2147483647)], [(-2147483648, 2147483647)]]
theorem zk7 : (zprod zD7).all (zcase (7, 7)) = true := by decide +kernel
theorem zv7 : zD7.all (fun d => zcov d (-2147483648)) = true := by decide +kernel
def zD8 : List (List (Int × Int)) := [[(-2147483648, 2147483647)], [(-2147483648, 0), (1, 1000), (1001, 2147483647)]]
theorem zk8 : (zprod zD8).all (zcase (8, 8)) = true := by decide +kernel
theorem zv8 : zD8.all (fun d => zcov d (-2147483648)) = true := by decide +kernel
def zD9 : List (List (Int × Int)) := [[(-2147483648, 2147483647)], [(-2147483648, -1), (0, 0), (1, 1), (2, 2), (3, 2147483647)]]
theorem zk9 : (zprod zD9).all (zcase (9, 9)) = true := by decide +kernel
theorem zv9 : zD9.all (fun d => zcov d (-2147483648)) = true := by decide +kernel
def zD10 : List (List (Int × Int)) := [[(-2147483648, 2147483647)]]
theorem zk10 : (zprod zD10).all (zcase (10, 10)) = true := by decide +kernel
theorem zv10 : zD10.all (fun d => zcov d (-2147483648)) = true := by decide +kernel
def zD11 : List (List (Int × Int)) := [[(-2147483648, 2147483647)]]
theorem zk11 : (zprod zD11).all (zcase (11, 11)) = true := by decide +kernel
theorem zv11 : zD11.all (fun d => zcov d (-2147483648)) = true := by decide +kernel
def zD12 : List (List (Int × Int)) := [[(-2147483648, 2147483647)], [(-2147483648, -1), (0, 0), (1, 1), (2, 2), (3, 3), (4, 2147483647)]]
theorem zk12 : (zprod zD12).all (zcase (12, 12)) = true := by decide +kernel
theorem zv12 : zD12.all (fun d => zcov d (-2147483648)) = true := by decide +kernel
