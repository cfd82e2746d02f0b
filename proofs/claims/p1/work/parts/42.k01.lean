def zD13 : List (List (Int × Int)) := [[(-2147483648, 2147483647)], [(-2147483648, -1), (0, 6), (7, 2147483647)]]
theorem zk13 : (zprod zD13).all (zcase (13, 13)) = true := by decide +kernel
theorem zv13 : zD13.all (fun d => zcov d (-2147483648)) = true := by decide +kernel
def zD14 : List (List (Int × Int)) := [[(-2147483648, 2147483647)], [(-2147483648, 2147483647)], [(-2147483648, 2147483647)]]
theorem zk14 : (zprod zD14).all (zcase (14, 14)) = true := by decide +kernel
theorem zv14 : zD14.all (fun d => zcov d (-2147483648)) = true := by decide +kernel
def zD15 : List (List (Int × Int)) := [[(-2147483648, 2147483647)], [(-2147483648, -1), (0, 2), (3, 2147483647)]]
theorem zk15 : (zprod zD15).all (zcase (15, 15)) = true := by decide +kernel
theorem zv15 : zD15.all (fun d => zcov d (-2147483648)) = true := by decide +kernel
def zD16 : List (List (Int × Int)) := [[(-2147483648, 2147483647)], [(-2147483648, -1), (0, 2147483647)], [(-2147483648, 2147483647)]]
theorem zk16 : (zprod zD16).all (zcase (16, 16)) = true := by decide +kernel
theorem zv16 : zD16.all (fun d => zcov d (-2147483648)) = true := by decide +kernel
def zD17 : List (List (Int × Int)) := [[(-2147483648, 2147483647)], [(-2147483648, 0), (1, 20), (21, 2147483647)], [(-2147483648, -1), (0, 3), (4, 2147483647)]]
theorem zk17 : (zprod zD17).all (zcase (17, 17)) = true := by decide +kernel
theorem zv17 : zD17.all (fun d => zcov d (-2147483648)) = true := by decide +kernel
def zD18 : List (List (Int × Int)) := [[(-2147483648, 2147483647)], [(-2147483648, -1), (0, 2147483647)], [(-2147483648, 2147483647)], [(-2147483648, 2147483647)]]
theorem zk18 : (zprod zD18).all (zcase (18, 18)) = true := by decide +kernel
theorem zv18 : zD18.all (fun d => zcov d (-2147483648)) = true := by decide +kernel
def zD19 : List (List (Int × Int)) := [[(-2147483648, 2147483647)], [(-2147483648, -1), (0, 0), (1, 1), (2, 2147483647)]]
theorem zk19 : (zprod zD19).all (zcase (19, 19)) = true := by decide +kernel
theorem zv19 : zD19.all (fun d => zcov d (-2147483648)) = true := by decide +kernel
def zD20 : List (List (Int × Int)) := [[(-2147483648, 2147483647)], [(-2147483648, -1), (0, 0), (1, 1), (2, 2), (3, 2147483647)]]
theorem zk20 : (zprod zD20).all (zcase (20, 20)) = true := by decide +kernel
theorem zv20 : zD20.all (fun d => zcov d (-2147483648)) = true := by decide +kernel
