def zD21 : List (List (Int × Int)) := [[(-2147483648, 2147483647)]]
theorem zk21 : (zprod zD21).all (zcase (21, 21)) = true := by decide +kernel
theorem zv21 : zD21.all (fun d => zcov d (-2147483648)) = true := by decide +kernel
def zD22 : List (List (Int × Int)) := [[(-2147483648, 2147483647)], [(-2147483648, -1), (0, 0), (1, 1), (2, 2147483647)], [(-2147483648, 0), (1, 100), (101, 2147483647)]]
theorem zk22 : (zprod zD22).all (zcase (22, 22)) = true := by decide +kernel
theorem zv22 : zD22.all (fun d => zcov d (-2147483648)) = true := by decide +kernel
def zD23 : List (List (Int × Int)) := [[(-2147483648, 2147483647)], [(-2147483648, -1), (0, 0), (1, 1), (2, 2147483647)]]
theorem zk23 : (zprod zD23).all (zcase (23, 23)) = true := by decide +kernel
theorem zv23 : zD23.all (fun d => zcov d (-2147483648)) = true := by decide +kernel
