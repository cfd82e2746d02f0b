def zD25 : List (List (Int × Int)) := [[(-2147483648, 2147483647)], [(-2147483648, 0), (1, 1), (2, 2), (3, 3), (4, 4), (5, 2147483647)]]
theorem zk25 : (zprod zD25).all (zcase (25, 25)) = true := by decide +kernel
theorem zv25 : zD25.all (fun d => zcov d (-2147483648)) = true := by decide +kernel
def zD26 : List (List (Int × Int)) := [[(-2147483648, 2147483647)], [(-2147483648, -1), (0, 0), (1, 1), (2, 2), (3, 3), (4, 2147483647)]]
theorem zk26 : (zprod zD26).all (zcase (26, 26)) = true := by decide +kernel
theorem zv26 : zD26.all (fun d => zcov d (-2147483648)) = true := by decide +kernel
def zD27 : List (List (Int × Int)) := [[(-2147483648, 2147483647)], [(-2147483648, -1), (0, 2147483647)]]
theorem zk27 : (zprod zD27).all (zcase (27, 27)) = true := by decide +kernel
theorem zv27 : zD27.all (fun d => zcov d (-2147483648)) = true := by decide +kernel
def zD28 : List (List (Int × Int)) := [[(-2147483648, 2147483647)]]
theorem zk28 : (zprod zD28).all (zcase (28, 28)) = true := by decide +kernel
theorem zv28 : zD28.all (fun d => zcov d (-2147483648)) = true := by decide +kernel
def zD29 : List (List (Int × Int)) := [[(-2147483648, 2147483647)]]
theorem zk29 : (zprod zD29).all (zcase (29, 29)) = true := by decide +kernel
theorem zv29 : zD29.all (fun d => zcov d (-2147483648)) = true := by decide +kernel
def zD30 : List (List (Int × Int)) := [[(-2147483648, 2147483647)], [(-2147483648, -1), (0, 9999), (10000, 2147483647)]]
theorem zk30 : (zprod zD30).all (zcase (30, 30)) = true := by decide +kernel
theorem zv30 : zD30.all (fun d => zcov d (-2147483648)) = true := by decide +kernel
def zD31 : List (List (Int × Int)) := [[(-2147483648, 2147483647)], [(-2147483648, -1), (0, 9999), (10000, 2147483647)], [(-2147483648, 0), (1, 50), (51, 2147483647)], [(-2147483648, -1), (0, 3), (4, 2147483647)]]
theorem zk31 : (zprod zD31).all (zcase (31, 31)) = true := by decide +kernel
theorem zv31 : zD31.all (fun d => zcov d (-2147483648)) = true := by decide +kernel
def zD32 : List (List (Int × Int)) := [[(-2147483648, 2147483647)], [(-2147483648, -1), (0, 9999), (10000, 2147483647)], [(-2147483648, 0), (1, 200), (201, 2147483647)], [(-2147483648, -2), (-1, 2147483647)]]
theorem zk32 : (zprod zD32).all (zcase (32, 32)) = true := by decide +kernel
theorem zv32 : zD32.all (fun d => zcov d (-2147483648)) = true := by decide +kernel
def zD33 : List (List (Int × Int)) := [[(-2147483648, 2147483647)], [(-2147483648, -1), (0, 0), (1, 1), (2, 2), (3, 3), (4, 2147483647)], [(-2147483648, -1), (0, 0), (1, 2147483647)]]
theorem zk33 : (zprod zD33).all (zcase (33, 33)) = true := by decide +kernel
theorem zv33 : zD33.all (fun d => zcov d (-2147483648)) = true := by decide +kernel
