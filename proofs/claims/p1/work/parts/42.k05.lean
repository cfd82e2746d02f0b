def zD34 : List (List (Int × Int)) := [[(-2147483648, 2147483647)], [(-2147483648, -1), (0, 0), (1, 1), (2, 2), (3, 3), (4, 4), (5, 5), (6, 6), (7, 7), (8, 8), (9, 9), (10, 10), (11, 11), (12, 12), (13, 13), (14, 14), (15, 15), (16, 16), (17, 17), (18, 18), (19, 2147483647)]]
theorem zk34 : (zprod zD34).all (zcase (34, 34)) = true := by decide +kernel
theorem zv34 : zD34.all (fun d => zcov d (-2147483648)) = true := by decide +kernel
def zD35 : List (List (Int × Int)) := []
theorem zk35 : (zprod zD35).all (zcase (35, 63)) = true := by decide +kernel
theorem zv35 : zD35.all (fun d => zcov d (-2147483648)) = true := by decide +kernel
