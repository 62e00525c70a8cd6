/-! the kinds of places: (0, _, _, lo, hi) an int in bounds; (1, t, c) a reference to an object of class c (t = 0) or to an array with tag t - 1; (2, t, c) the same or null; (3, ..) a long -/
abbrev FTy : Type := Nat × Nat × Nat × Int × Int
def ft_0 : List FTy := [(0, 0, 0, 0, 3599), (0, 0, 0, -2147483648, 2147483647), (0, 0, 0, -2147483648, 2147483647), (0, 0, 0, 4, 12), (0, 0, 0, 4, 12), (1, 126, 0, 0, 0), (1, 127, 0, 0, 0), (1, 128, 0, 0, 0), (1, 129, 0, 0, 0), (1, 132, 0, 0, 0), (1, 133, 0, 0, 0), (1, 130, 0, 0, 0), (1, 131, 0, 0, 0)]
def ft_1 : List FTy := [(1, 9, 0, 0, 0), (0, 0, 0, 0, 20), (1, 0, 32, 0, 0), (1, 158, 0, 0, 0), (1, 134, 0, 0, 0), (1, 135, 0, 0, 0), (0, 0, 0, -2147483648, 2147483647), (0, 0, 0, -2147483648, 2147483647), (1, 136, 0, 0, 0), (1, 137, 0, 0, 0), (0, 0, 0, -2147483648, 2147483647), (0, 0, 0, -2147483648, 2147483647), (0, 0, 0, -2147483648, 2147483647)]
def ft_2 : List FTy := [(0, 0, 0, -2147483648, 2147483647), (0, 0, 0, -2147483648, 2147483647), (0, 0, 0, -2147483648, 2147483647), (1, 124, 0, 0, 0), (1, 125, 0, 0, 0)]
def ft_3 : List FTy := [(0, 0, 0, -2147483648, 2147483647), (0, 0, 0, -2147483648, 2147483647), (0, 0, 0, -2147483648, 2147483647), (0, 0, 0, -2147483648, 2147483647), (0, 0, 0, -2147483648, 2147483647), (0, 0, 0, 0, 1), (0, 0, 0, -2147483648, 2147483647), (0, 0, 0, -2147483648, 2147483647), (0, 0, 0, -2147483648, 2147483647), (0, 0, 0, -2147483648, 2147483647), (0, 0, 0, 0, 3599), (0, 0, 0, -2147483648, 2147483647), (0, 0, 0, -2147483648, 2147483647), (2, 1, 0, 0, 0), (2, 1, 0, 0, 0), (2, 0, 34, 0, 0)]
def ft_4 : List FTy := [(1, 154, 0, 0, 0), (0, 0, 0, -2147483648, 2147483647), (1, 0, 8, 0, 0), (0, 0, 0, -2147483648, 2147483647), (0, 0, 0, -2147483648, 2147483647), (0, 0, 0, -2147483648, 2147483647), (0, 0, 0, -2147483648, 2147483647)]
def ft_5 : List FTy := [(1, 0, 24, 0, 0), (1, 138, 0, 0, 0), (1, 139, 0, 0, 0), (1, 140, 0, 0, 0), (1, 141, 0, 0, 0), (1, 142, 0, 0, 0), (1, 143, 0, 0, 0), (1, 144, 0, 0, 0), (0, 0, 0, -2147483648, 2147483647), (0, 0, 0, -2147483648, 2147483647)]
def ft_6 : List FTy := [(0, 0, 0, -2147483648, 2147483647), (0, 0, 0, -2147483648, 2147483647), (0, 0, 0, -2147483648, 2147483647), (0, 0, 0, -2147483648, 2147483647), (0, 0, 0, -2147483648, 2147483647), (0, 0, 0, -2147483648, 2147483647), (0, 0, 0, -2147483648, 2147483647), (0, 0, 0, -2147483648, 2147483647), (0, 0, 0, -2147483648, 2147483647), (0, 0, 0, -2147483648, 2147483647), (0, 0, 0, -2147483648, 2147483647)]
def ft_7 : List FTy := [(0, 0, 0, -2147483648, 2147483647), (0, 0, 0, -2147483648, 2147483647), (1, 1, 0, 0, 0), (0, 0, 0, -2147483648, 2147483647)]
def ft_8 : List FTy := [(0, 0, 0, -2147483648, 2147483647), (0, 0, 0, -2147483648, 2147483647), (1, 0, 33, 0, 0), (1, 145, 0, 0, 0), (0, 0, 0, -2147483648, 2147483647)]
def ft_9 : List FTy := [(0, 0, 0, -2147483648, 2147483647), (0, 0, 0, -2147483648, 2147483647), (0, 0, 0, -2147483648, 2147483647), (0, 0, 0, -2147483648, 2147483647), (0, 0, 0, -2147483648, 2147483647), (0, 0, 0, -2147483648, 2147483647), (0, 0, 0, -2147483648, 2147483647), (0, 0, 0, -2147483648, 2147483647), (0, 0, 0, -2147483648, 2147483647), (0, 0, 0, -2147483648, 2147483647), (0, 0, 0, -2147483648, 2147483647), (0, 0, 0, -2147483648, 2147483647), (0, 0, 0, -2147483648, 2147483647), (0, 0, 0, -2147483648, 2147483647), (0, 0, 0, -2147483648, 2147483647)]
def ft_10 : List FTy := [(1, 0, 0, 0, 0), (1, 0, 1, 0, 0), (1, 0, 5, 0, 0), (1, 5, 0, 0, 0), (0, 0, 0, 0, 9), (1, 6, 0, 0, 0), (0, 0, 0, 0, 60), (1, 7, 0, 0, 0), (0, 0, 0, 0, 100), (1, 8, 0, 0, 0), (0, 0, 0, 0, 10), (1, 0, 27, 0, 0), (1, 0, 28, 0, 0), (1, 0, 29, 0, 0), (1, 0, 26, 0, 0), (1, 0, 30, 0, 0), (1, 0, 25, 0, 0), (1, 0, 31, 0, 0), (1, 146, 0, 0, 0), (1, 2, 0, 0, 0)]
def ft_11 : List FTy := [(0, 0, 0, 4, 12), (0, 0, 0, 4, 12), (0, 0, 0, 0, 3599), (0, 0, 0, -2147483648, 2147483647), (0, 0, 0, -2147483648, 2147483647), (1, 10, 0, 0, 0), (1, 11, 0, 0, 0), (1, 12, 0, 0, 0), (1, 13, 0, 0, 0), (0, 0, 0, 0, 9), (0, 0, 0, 0, 60), (1, 14, 0, 0, 0), (1, 15, 0, 0, 0), (1, 16, 0, 0, 0), (1, 17, 0, 0, 0), (1, 18, 0, 0, 0), (1, 19, 0, 0, 0), (1, 20, 0, 0, 0), (1, 21, 0, 0, 0), (1, 22, 0, 0, 0), (1, 23, 0, 0, 0), (1, 24, 0, 0, 0), (1, 25, 0, 0, 0), (1, 26, 0, 0, 0), (1, 27, 0, 0, 0), (1, 28, 0, 0, 0), (1, 29, 0, 0, 0), (1, 30, 0, 0, 0), (1, 31, 0, 0, 0), (1, 32, 0, 0, 0), (0, 0, 0, 0, 400), (0, 0, 0, 0, 200), (0, 0, 0, 0, 200), (0, 0, 0, -2147483648, 2147483647), (0, 0, 0, -2147483648, 2147483647), (0, 0, 0, -2147483648, 2147483647), (0, 0, 0, 0, 220), (0, 0, 0, 0, 220), (0, 0, 0, 0, 12), (1, 33, 0, 0, 0), (1, 34, 0, 0, 0), (1, 35, 0, 0, 0), (1, 36, 0, 0, 0), (1, 37, 0, 0, 0), (1, 38, 0, 0, 0), (1, 39, 0, 0, 0), (1, 40, 0, 0, 0), (0, 0, 0, 0, 20), (0, 0, 0, 0, 20), (1, 41, 0, 0, 0), (1, 42, 0, 0, 0), (1, 43, 0, 0, 0), (1, 44, 0, 0, 0), (1, 45, 0, 0, 0), (1, 46, 0, 0, 0), (1, 47, 0, 0, 0), (1, 48, 0, 0, 0), (1, 49, 0, 0, 0), (1, 50, 0, 0, 0), (1, 51, 0, 0, 0), (1, 52, 0, 0, 0), (1, 53, 0, 0, 0), (1, 54, 0, 0, 0), (1, 55, 0, 0, 0), (1, 56, 0, 0, 0), (1, 57, 0, 0, 0), (0, 0, 0, 0, 100), (1, 58, 0, 0, 0), (1, 59, 0, 0, 0), (1, 60, 0, 0, 0), (1, 61, 0, 0, 0), (1, 62, 0, 0, 0), (1, 63, 0, 0, 0), (1, 64, 0, 0, 0), (1, 65, 0, 0, 0), (1, 66, 0, 0, 0), (1, 67, 0, 0, 0), (1, 68, 0, 0, 0), (1, 69, 0, 0, 0), (1, 70, 0, 0, 0), (1, 71, 0, 0, 0), (1, 72, 0, 0, 0), (0, 0, 0, -2147483648, 2147483647), (3, 0, 0, 0, 0), (3, 0, 0, 0, 0), (3, 0, 0, 0, 0), (3, 0, 0, 0, 0), (3, 0, 0, 0, 0), (3, 0, 0, 0, 0), (3, 0, 0, 0, 0), (3, 0, 0, 0, 0), (0, 0, 0, 0, 10), (0, 0, 0, 0, 40), (0, 0, 0, 0, 60), (1, 73, 0, 0, 0), (1, 74, 0, 0, 0), (1, 75, 0, 0, 0), (1, 76, 0, 0, 0), (1, 77, 0, 0, 0), (1, 78, 0, 0, 0), (1, 79, 0, 0, 0), (1, 80, 0, 0, 0), (1, 81, 0, 0, 0), (1, 82, 0, 0, 0), (1, 83, 0, 0, 0), (1, 84, 0, 0, 0), (1, 85, 0, 0, 0), (1, 86, 0, 0, 0), (1, 87, 0, 0, 0), (1, 88, 0, 0, 0), (1, 89, 0, 0, 0), (1, 90, 0, 0, 0), (1, 91, 0, 0, 0), (1, 92, 0, 0, 0), (1, 93, 0, 0, 0), (1, 94, 0, 0, 0), (1, 95, 0, 0, 0), (1, 96, 0, 0, 0), (0, 0, 0, 0, 10), (0, 0, 0, -2147483648, 2147483647), (0, 0, 0, 0, 200), (1, 97, 0, 0, 0), (1, 98, 0, 0, 0), (1, 99, 0, 0, 0), (1, 100, 0, 0, 0), (1, 101, 0, 0, 0), (1, 102, 0, 0, 0), (1, 103, 0, 0, 0), (1, 104, 0, 0, 0), (1, 105, 0, 0, 0), (1, 106, 0, 0, 0), (1, 107, 0, 0, 0), (1, 108, 0, 0, 0), (0, 0, 0, 0, 7), (1, 109, 0, 0, 0), (1, 110, 0, 0, 0), (1, 111, 0, 0, 0), (0, 0, 0, 0, 8), (0, 0, 0, -2147483648, 2147483647), (1, 112, 0, 0, 0), (1, 113, 0, 0, 0), (1, 114, 0, 0, 0), (1, 115, 0, 0, 0), (1, 116, 0, 0, 0), (1, 117, 0, 0, 0), (0, 0, 0, 0, 200), (1, 118, 0, 0, 0), (1, 119, 0, 0, 0), (1, 120, 0, 0, 0), (1, 121, 0, 0, 0), (1, 122, 0, 0, 0)]
def ft_12 : List FTy := []
def ft_13 : List FTy := []
def ft_14 : List FTy := []
def ft_15 : List FTy := []
def ft_16 : List FTy := []
def ft_17 : List FTy := []
def ft_18 : List FTy := []
def ft_19 : List FTy := []
def ft_20 : List FTy := []
def ft_21 : List FTy := []
def ft_22 : List FTy := []
def ft_23 : List FTy := []
def ft_24 : List FTy := [(0, 0, 0, 2, 2), (0, 0, 0, 8, 8), (1, 147, 0, 0, 0), (0, 0, 0, 0, 8)]
def ft_25 : List FTy := [(0, 0, 0, 1, 1), (0, 0, 0, 7, 7), (1, 148, 0, 0, 0), (0, 0, 0, 0, 7)]
def ft_26 : List FTy := [(0, 0, 0, 5, 5), (0, 0, 0, 200, 200), (1, 149, 0, 0, 0), (0, 0, 0, 0, 200)]
def ft_27 : List FTy := [(0, 0, 0, 5, 5), (0, 0, 0, 40, 40), (1, 150, 0, 0, 0), (0, 0, 0, 0, 40)]
def ft_28 : List FTy := [(0, 0, 0, 5, 5), (0, 0, 0, 60, 60), (1, 151, 0, 0, 0), (0, 0, 0, 0, 60)]
def ft_29 : List FTy := [(0, 0, 0, 3, 3), (0, 0, 0, 10, 10), (1, 152, 0, 0, 0), (0, 0, 0, 0, 10)]
def ft_30 : List FTy := [(0, 0, 0, 5, 5), (0, 0, 0, 200, 200), (1, 153, 0, 0, 0), (0, 0, 0, 0, 200)]
def ft_31 : List FTy := [(0, 0, 0, 1, 1), (0, 0, 0, 400, 400), (1, 154, 0, 0, 0), (0, 0, 0, 0, 400)]
def ft_32 : List FTy := [(0, 0, 0, 3, 3), (0, 0, 0, 20, 20), (1, 155, 0, 0, 0), (0, 0, 0, 0, 20)]
def ft_33 : List FTy := [(0, 0, 0, 6, 6), (0, 0, 0, 1, 12), (1, 156, 0, 0, 0), (0, 0, 0, 0, 12)]
def ft_34 : List FTy := [(0, 0, 0, 2, 2), (0, 0, 0, 8, 8), (1, 157, 0, 0, 0), (0, 0, 0, 0, 8)]
def ftab : List (List FTy) := [ft_0, ft_1, ft_2, ft_3, ft_4, ft_5, ft_6, ft_7, ft_8, ft_9, ft_10, ft_11, ft_12, ft_13, ft_14, ft_15, ft_16, ft_17, ft_18, ft_19, ft_20, ft_21, ft_22, ft_23, ft_24, ft_25, ft_26, ft_27, ft_28, ft_29, ft_30, ft_31, ft_32, ft_33, ft_34]
def eltab : List FTy := [(0, 0, 0, -2147483648, 2147483647), (3, 0, 0, 0, 0), (0, 0, 0, -128, 127), (0, 0, 0, 0, 1), (2, 0, 2, 0, 0), (2, 0, 3, 0, 0), (2, 0, 9, 0, 0), (2, 0, 6, 0, 0), (2, 0, 8, 0, 0), (0, 0, 0, 0, 40), (0, 0, 0, 0, 3), (0, 0, 0, -1, 7), (0, 0, 0, 0, 3600), (0, 0, 0, -2147483648, 2147483647), (0, 0, 0, -2147483648, 2147483647), (0, 0, 0, 0, 5), (0, 0, 0, -1, 8), (0, 0, 0, 0, 143), (0, 0, 0, -1, 143), (0, 0, 0, -2147483648, 2147483647), (0, 0, 0, 0, 3599), (0, 0, 0, 0, 500), (0, 0, 0, -2147483648, 2147483647), (0, 0, 0, -2147483648, 2147483647), (0, 0, 0, -2147483648, 2147483647), (0, 0, 0, -2147483648, 2147483647), (0, 0, 0, -2147483648, 2147483647), (0, 0, 0, -2147483648, 2147483647), (0, 0, 0, -2147483648, 2147483647), (0, 0, 0, -2147483648, 2147483647), (0, 0, 0, 0, 1), (0, 0, 0, -128, 127), (0, 0, 0, 0, 14680063), (0, 0, 0, 0, 15728639), (0, 0, 0, -2147483648, 2147483647), (0, 0, 0, 0, 220), (0, 0, 0, 0, 220), (0, 0, 0, -2147483648, 2147483647), (0, 0, 0, 0, 19), (0, 0, 0, 0, 11), (0, 0, 0, 0, 14680063), (0, 0, 0, 0, 12), (0, 0, 0, -2147483648, 2147483647), (0, 0, 0, -2147483648, 2147483647), (0, 0, 0, -2147483648, 2147483647), (0, 0, 0, 0, 4400), (0, 0, 0, 0, 4400), (0, 0, 0, -2147483648, 2147483647), (0, 0, 0, 0, 19), (0, 0, 0, 0, 11), (0, 0, 0, -1, 3599), (0, 0, 0, 0, 14680063), (0, 0, 0, 0, 110), (0, 0, 0, -2147483648, 2147483647), (0, 0, 0, -2147483648, 2147483647), (0, 0, 0, 0, 1), (0, 0, 0, 0, 1), (0, 0, 0, -2147483648, 2147483647), (0, 0, 0, 0, 8), (0, 0, 0, 0, 143), (0, 0, 0, -2147483648, 2147483647), (0, 0, 0, -2147483648, 2147483647), (0, 0, 0, -2147483648, 2147483647), (0, 0, 0, -2147483648, 2147483647), (0, 0, 0, -2147483648, 2147483647), (0, 0, 0, -2147483648, 2147483647), (0, 0, 0, -2147483648, 2147483647), (0, 0, 0, -2147483648, 2147483647), (0, 0, 0, -2147483648, 2147483647), (0, 0, 0, -2147483648, 2147483647), (0, 0, 0, -2147483648, 2147483647), (0, 0, 0, -2147483648, 2147483647), (0, 0, 0, 0, 8), (0, 0, 0, -2147483648, 2147483647), (0, 0, 0, -2147483648, 2147483647), (0, 0, 0, -2147483648, 2147483647), (0, 0, 0, -2147483648, 2147483647), (0, 0, 0, -2147483648, 2147483647), (0, 0, 0, -2147483648, 2147483647), (0, 0, 0, -2147483648, 2147483647), (0, 0, 0, 0, 3), (0, 0, 0, 0, 59), (0, 0, 0, -2147483648, 2147483647), (0, 0, 0, -2147483648, 2147483647), (0, 0, 0, -2147483648, 2147483647), (0, 0, 0, 0, 59), (0, 0, 0, -2147483648, 2147483647), (0, 0, 0, -2147483648, 2147483647), (0, 0, 0, -2147483648, 2147483647), (0, 0, 0, 0, 1), (0, 0, 0, -2147483648, 2147483647), (0, 0, 0, -2147483648, 2147483647), (0, 0, 0, -2147483648, 2147483647), (0, 0, 0, -2147483648, 2147483647), (0, 0, 0, -2147483648, 2147483647), (0, 0, 0, 0, 1000000), (0, 0, 0, 0, 8), (0, 0, 0, -2147483648, 2147483647), (0, 0, 0, -2147483648, 2147483647), (0, 0, 0, 0, 59), (0, 0, 0, -2147483648, 2147483647), (0, 0, 0, 0, 2147483647), (0, 0, 0, -2147483648, 2147483647), (0, 0, 0, 0, 9), (0, 0, 0, 0, 3), (0, 0, 0, 0, 3), (0, 0, 0, -2147483648, 2147483647), (0, 0, 0, 0, 3599), (0, 0, 0, -2147483648, 2147483647), (0, 0, 0, 0, 1), (0, 0, 0, 0, 1), (0, 0, 0, 0, 59), (0, 0, 0, -2147483648, 2147483647), (0, 0, 0, -2147483648, 2147483647), (0, 0, 0, -2147483648, 2147483647), (0, 0, 0, 0, 7), (0, 0, 0, -2147483648, 2147483647), (0, 0, 0, -2147483648, 2147483647), (0, 0, 0, -2147483648, 2147483647), (0, 0, 0, -2147483648, 2147483647), (0, 0, 0, -2147483648, 2147483647), (0, 0, 0, 0, 1), (0, 0, 0, -1, 1), (0, 0, 0, -1, 3599), (0, 0, 0, -2147483648, 2147483647), (0, 0, 0, -2147483648, 2147483647), (0, 0, 0, -2147483648, 2147483647), (0, 0, 0, -2147483648, 2147483647), (0, 0, 0, -2147483648, 2147483647), (0, 0, 0, -2147483648, 2147483647), (0, 0, 0, -2147483648, 2147483647), (0, 0, 0, -2147483648, 2147483647), (0, 0, 0, 0, 90), (0, 0, 0, -2147483648, 2147483647), (0, 0, 0, -2147483648, 2147483647), (0, 0, 0, -2147483648, 2147483647), (0, 0, 0, -2147483648, 2147483647), (0, 0, 0, -2147483648, 2147483647), (0, 0, 0, -2147483648, 2147483647), (0, 0, 0, -2147483648, 2147483647), (0, 0, 0, -2147483648, 2147483647), (0, 0, 0, -2147483648, 2147483647), (0, 0, 0, -2147483648, 2147483647), (0, 0, 0, -2147483648, 2147483647), (0, 0, 0, -2147483648, 2147483647), (0, 0, 0, -2147483648, 2147483647), (0, 0, 0, -2147483648, 2147483647), (0, 0, 0, -2147483648, 2147483647), (0, 0, 0, -2147483648, 2147483647), (0, 0, 0, -2147483648, 2147483647), (0, 0, 0, -2147483648, 2147483647), (0, 0, 0, -2147483648, 2147483647), (0, 0, 0, -2147483648, 2147483647), (0, 0, 0, 0, 255), (0, 0, 0, -2147483648, 2147483647), (0, 0, 0, -2147483648, 2147483647), (0, 0, 0, -2147483648, 2147483647), (2, 0, 8, 0, 0)]
def lentab : List Nat := [0, 8, 0, 0, 9, 60, 100, 10, 20, 144, 144, 144, 144, 9, 9, 60, 60, 60, 60, 60, 60, 60, 60, 60, 60, 240, 60, 60, 600, 600, 60, 400, 220, 220, 12, 12, 12, 12, 12, 12, 4400, 20, 20, 20, 240, 240, 240, 240, 240, 240, 180, 2200, 20, 20, 20, 20, 240, 100, 100, 100, 100, 100, 100, 100, 100, 100, 100, 100, 100, 100, 900, 220, 10, 10, 10, 10, 10, 10, 10, 10, 10, 10, 10, 48, 4, 40, 40, 40, 40, 40, 60, 60, 60, 60, 60, 144, 60, 480, 480, 10, 10, 10, 10, 200, 200, 200, 200, 200, 7, 63, 441, 8, 8, 24, 24, 8, 8, 200, 200, 200, 200, 200, 8, 20, 7, 144, 144, 144, 144, 144, 144, 48, 4, 20, 20, 14, 32, 24, 24, 64, 24, 8, 2048, 8, 0, 11, 16, 7, 1000, 200, 300, 30, 1000, 400, 60, 0, 16, 20]
def sztab : List Nat := [13, 13, 5, 16, 7, 10, 11, 4, 5, 15, 20, 151, 0, 0, 0, 0, 0, 0, 0, 0, 0, 0, 0, 0, 4, 4, 4, 4, 4, 4, 4, 4, 4, 4, 4]
def kbtab : List Nat := [0, 13, 26, 31, 47, 54, 64, 75, 79, 84, 99, 119, 0, 0, 0, 0, 0, 0, 0, 0, 0, 0, 0, 0, 640, 644, 648, 652, 656, 660, 664, 668, 672, 676, 680]
abbrev abase : Nat := 270
def fT (kd : Nat × Nat) (j : Nat) : FTy := match kd.1 with
  | 0 => (ftab.getD kd.2 []).getD j (3, 0, 0, 0, 0)
  | t + 1 => eltab.getD t (3, 0, 0, 0, 0)
def szK (kd : Nat × Nat) : Nat := match kd.1 with
  | 0 => sztab.getD kd.2 0
  | _ + 1 => kd.2
def lenK (kd : Nat × Nat) : Prop := match kd.1 with
  | 0 => True
  | t + 1 => t < NT ∧ kd.2 ≤ 5000 ∧ (lentab.getD t 0 = 0 ∨ kd.2 = lentab.getD t 0)
/-- the number of a place in the sets of what is written -/
def keyK (kd : Nat × Nat) (j : Nat) : Nat := match kd.1 with
  | 0 => if kd.2 < 12 || 24 ≤ kd.2 then kbtab.getD kd.2 0 + j else 588 + kd.2
  | t + 1 => abase + (t + 1)
def rk (K : Kmap) (t c q : Nat) : Prop := match t with
  | 0 => K q = some (0, c)
  | t + 1 => ∃ n, K q = some (t + 1, n)
def okv (K : Kmap) (f : FTy) (v : Value) : Prop := match f.1 with
  | 0 => ∃ x : Int32, v = .int x ∧ f.2.2.2.1 ≤ x.toInt ∧ x.toInt ≤ f.2.2.2.2
  | 1 => ∃ q, v = .ref q ∧ rk K f.2.1 f.2.2.1 q
  | 2 => v = .null ∨ ∃ q, v = .ref q ∧ rk K f.2.1 f.2.2.1 q
  | _ => ∃ x : Int64, v = .long x
/-- what all memory keeps -/
def WT (K : Kmap) (V : Vmap) : Prop := ∀ a kd, K a = some kd → lenK kd ∧ ∀ j, j < szK kd → okv K (fT kd j) (V a j)
/-- K1 knows what K knows; what was raw may be whole -/
def ext (K K1 : Kmap) : Prop := ∀ a k, K a = some k → K1 a = some k ∨ ∃ ci cj, (12 ≤ ci ∧ ci < 24) ∧ k = (0, ci) ∧ (cj < 12 ∨ 24 ≤ cj) ∧ K1 a = some (0, cj)
theorem ext.rf {K : Kmap} : ext K K := fun _ _ h => Or.inl h
theorem ext.tr {K K1 K2 : Kmap} (h : ext K K1) (h2 : ext K1 K2) : ext K K2 := fun a k e => by
  rcases h a k e with e1 | ⟨ci, cj, hc, rfl, hj, e1⟩
  · exact h2 a k e1
  · rcases h2 a _ e1 with e2 | ⟨ck, cl, hk, e3, hl, e2⟩
    · exact Or.inr ⟨ci, cj, hc, rfl, hj, e2⟩
    · cases e3
      omega
/-- a kind that stays for good -/
def fullK (k : Nat × Nat) : Prop := k.1 = 0 → (k.2 < 12 ∨ 24 ≤ k.2)
theorem ext.full {K K1 : Kmap} (h : ext K K1) {a : Nat} {k : Nat × Nat} (ha : K a = some k) (hk : fullK k) : K1 a = some k := by
  rcases h a k ha with e | ⟨ci, cj, hc, rfl, hj, e⟩
  · exact e
  · have h9 : ci < 12 ∨ 24 ≤ ci := hk rfl
    omega
theorem ext.obj {K K1 : Kmap} (h : ext K K1) {a c : Nat} (hc : c < 12 ∨ 24 ≤ c) (ha : K a = some (0, c)) : K1 a = some (0, c) := h.full ha (fun _ => hc)
theorem ext.arr {K K1 : Kmap} (h : ext K K1) {a t n : Nat} (ha : K a = some (t + 1, n)) : K1 a = some (t + 1, n) := h.full ha (fun e => by cases e)
theorem ext.upd {K : Kmap} {q : Nat} {k : Nat × Nat} (hq : K q = none) : ext K (updK K q k) := fun a kk h => Or.inl (by rw [updK_ne (K_old h hq)]; exact h)
theorem rk.ext {K K1 : Kmap} (h : ext K K1) {t c q : Nat} (hc : t = 0 → (c < 12 ∨ 24 ≤ c)) (hr : rk K t c q) : rk K1 t c q := by
  cases t with
  | zero => exact h.obj (hc rfl) hr
  | succ t => obtain ⟨n, e⟩ := hr; exact ⟨n, h.arr e⟩
/-- no place's type names a raw kind -/
def cleanF (f : FTy) : Bool := f.1 == 0 || f.1 ≥ 3 || f.2.1 ≠ 0 || (f.2.2.1 < 12 || 24 ≤ f.2.2.1)
theorem ftab_clean : ftab.all (fun r => r.all cleanF) = true := by decide +kernel
theorem eltab_clean : eltab.all cleanF = true := by decide +kernel
theorem fT_clean (kd : Nat × Nat) (j : Nat) : cleanF (fT kd j) = true := by
  obtain ⟨t, n⟩ := kd
  cases t with
  | zero =>
    show cleanF ((ftab.getD n []).getD j (3, 0, 0, 0, 0)) = true
    by_cases h : n < ftab.length
    · have e : ftab.getD n [] = ftab[n] := by simp [List.getD, h]
      rw [e]
      have h1 := List.all_eq_true.mp ftab_clean _ (List.getElem_mem h)
      by_cases hj : j < (ftab[n]).length
      · have e2 : (ftab[n]).getD j (3, 0, 0, 0, 0) = (ftab[n])[j] := by simp [List.getD, hj]
        rw [e2]
        exact List.all_eq_true.mp h1 _ (List.getElem_mem hj)
      · simp [List.getD, List.getElem?_eq_none (Nat.not_lt.mp hj), cleanF]
    · simp [List.getD, List.getElem?_eq_none (Nat.not_lt.mp h), cleanF]
  | succ t =>
    show cleanF (eltab.getD t (3, 0, 0, 0, 0)) = true
    by_cases h : t < eltab.length
    · have e : eltab.getD t (3, 0, 0, 0, 0) = eltab[t] := by simp [List.getD, h]
      rw [e]
      exact List.all_eq_true.mp eltab_clean _ (List.getElem_mem h)
    · simp [List.getD, List.getElem?_eq_none (Nat.not_lt.mp h), cleanF]
theorem okv.ext {K K1 : Kmap} (h : ext K K1) {f : FTy} {v : Value} (hc : cleanF f = true) (ho : okv K f v) : okv K1 f v := by
  obtain ⟨tg, t, c, lo, hi⟩ := f
  match tg, hc, ho with
  | 0, _, ho => exact ho
  | 1, hc, ho =>
    obtain ⟨q, e, hr⟩ := ho
    refine ⟨q, e, hr.ext h (fun ht => ?_)⟩
    simp only at ht; subst ht
    simpa [cleanF] using hc
  | 2, hc, ho =>
    rcases ho with e | ⟨q, e, hr⟩
    · exact Or.inl e
    · refine Or.inr ⟨q, e, hr.ext h (fun ht => ?_)⟩
      simp only at ht; subst ht
      simpa [cleanF] using hc
  | n + 3, _, ho => exact ho
theorem WT.put {K : Kmap} {V V1 : Vmap} (h : WT K V) {a j : Nat} {kd : Nat × Nat} {v : Value} (ha : K a = some kd) (hv : okv K (fT kd j) v) (e : V1 = upd2 V a j v) : WT K V1 := by
  subst e
  intro b kb hb
  refine ⟨(h b kb hb).1, fun i hi => ?_⟩
  by_cases hba : b = a
  · subst hba
    cases ha.symm.trans hb
    by_cases hij : i = j
    · subst hij
      rw [upd2_same]; exact hv
    · rw [upd2_ne (Or.inr hij)]
      exact (h b _ hb).2 i hi
  · rw [upd2_ne (Or.inl hba)]
    exact (h b kb hb).2 i hi
theorem WT.new {K K1 : Kmap} {V V1 : Vmap} (h : WT K V) {q : Nat} {kd : Nat × Nat} (hq : K q = none) (hK : K1 = updK K q kd) (hl : lenK kd) (hf : ∀ j, j < szK kd → okv K (fT kd j) (V1 q j)) (hV : ∀ b, b ≠ q → V1 b = V b) : WT K1 V1 := by
  have hE : ext K K1 := hK ▸ ext.upd hq
  intro b kb hb
  by_cases hbq : b = q
  · subst hbq
    rw [hK, updK_same] at hb
    cases hb
    exact ⟨hl, fun j hj => (hf j hj).ext hE (fT_clean _ _)⟩
  · rw [hK, updK_ne hbq] at hb
    exact ⟨(h b kb hb).1, fun j hj => by rw [hV b hbq]; exact ((h b kb hb).2 j hj).ext hE (fT_clean _ _)⟩
/-- what may be written: a set of numbers of places, as bits -/
def FR (ws : Nat) (K : Kmap) (V : Vmap) (K1 : Kmap) (V1 : Vmap) : Prop := ∀ a kd j, K a = some kd → K1 a = some kd → ws.testBit (keyK kd j) = false → V1 a j = V a j
theorem FR.rf {ws : Nat} {K : Kmap} {V : Vmap} : FR ws K V K V := fun _ _ _ _ _ _ => rfl
theorem FR.put {ws : Nat} {K0 K : Kmap} {V0 V V1 : Vmap} (h : FR ws K0 V0 K V) {a j : Nat} {kd : Nat × Nat} {v : Value} (ha : K a = some kd) (hw : ws.testBit (keyK kd j) = true) (e : V1 = upd2 V a j v) : FR ws K0 V0 K V1 := by
  intro b kb i hb hb1 hk
  rw [e, upd2_ne]
  · exact h b kb i hb hb1 hk
  · by_cases hba : b = a
    · subst hba
      refine Or.inr fun hij => ?_
      subst hij
      cases hb1.symm.trans ha
      rw [hk] at hw; cases hw
    · exact Or.inl hba
theorem ext.back {K0 K K1 : Kmap} (hE : ext K0 K) (hE1 : ext K K1) {a : Nat} {kd : Nat × Nat} (h0 : K0 a = some kd) (h1 : K1 a = some kd) : K a = some kd := by
  rcases hE a kd h0 with e | ⟨ci, cj, hc, rfl, hj, e⟩
  · exact e
  · have h2 := hE1.obj hj e
    rw [h1] at h2
    have h3 : ci = cj := by cases h2; rfl
    omega
theorem FR.new {ws : Nat} {K0 K K1 : Kmap} {V0 V V1 : Vmap} (h : FR ws K0 V0 K V) (hE : ext K0 K) {q : Nat} {kq : Nat × Nat} (hq : K q = none) (hK : K1 = updK K q kq) (hV : ∀ b, b ≠ q → V1 b = V b) : FR ws K0 V0 K1 V1 := by
  intro b kb i hb hb1 hk
  have hbK : K b = some kb := hE.back (hK ▸ ext.upd hq) hb hb1
  rw [hV b (fun e => by subst e; rw [hbK] at hq; cases hq)]
  exact h b kb i hb hbK hk
/-- w1 is among w2 -/
def subW (w1 w2 : Nat) : Bool := w1 &&& w2 == w1
theorem subW_bit {w1 w2 n : Nat} (h : subW w1 w2 = true) (h2 : w2.testBit n = false) : w1.testBit n = false := by
  have e : w1 &&& w2 = w1 := by simpa [subW] using h
  rw [← e, Nat.testBit_and, h2, Bool.and_false]
theorem FR.call {ws w1 : Nat} {K0 K K1 : Kmap} {V0 V V1 : Vmap} (h : FR ws K0 V0 K V) (hE : ext K0 K) (hE1 : ext K K1) (hs : subW w1 ws = true) (h1 : FR w1 K V K1 V1) : FR ws K0 V0 K1 V1 := by
  intro b kb i hb hb1 hk
  have hbK := hE.back hE1 hb hb1
  rw [h1 b kb i hbK hb1 (subW_bit hs hk)]
  exact h b kb i hb hbK hk
/-! ints on the stack, by what they are as numbers -/
def ti (X : Int) : Value := .int (Int32.ofInt X)
def ir (X : Int) : Prop := -2147483648 ≤ X ∧ X ≤ 2147483647
theorem ti_int {X : Int} (h : ir X) : (Int32.ofInt X).toInt = X := by
  rw [Int32.toInt_ofInt]
  obtain ⟨h1, h2⟩ := h
  have e : ((Int32.size : Nat) : Int) = 4294967296 := rfl
  exact Int.bmod_eq_of_le (by omega) (by omega)
theorem of_toInt (x : Int32) : Int32.ofInt x.toInt = x := Int32.toInt_inj.mp (ti_int (th_rng x))
theorem ti_of (x : Int32) : Value.int x = ti x.toInt := by rw [ti, of_toInt]
def vi (V : Vmap) (a k : Nat) : Int := match V a k with
  | .int x => x.toInt
  | _ => 0
def vq (V : Vmap) (a k : Nat) : Nat := match V a k with
  | .ref q => q
  | _ => 0
def vlg (V : Vmap) (a k : Nat) : Int64 := match V a k with
  | .long x => x
  | _ => 0
theorem vi_ir {V : Vmap} {a k : Nat} : ir (vi V a k) := by
  unfold vi
  split
  · exact th_rng _
  · exact ⟨by omega, by omega⟩
theorem vi_of {V : Vmap} {a k : Nat} {x : Int32} (h : V a k = .int x) : vi V a k = x.toInt := by unfold vi; rw [h]
theorem vi_ti {V : Vmap} {a k : Nat} {x : Int32} (h : V a k = .int x) : V a k = ti (vi V a k) := by rw [vi_of h, h, ti_of]
theorem vq_of {V : Vmap} {a k q : Nat} (h : V a k = .ref q) : vq V a k = q := by unfold vq; rw [h]
theorem WT.int {K : Kmap} {V : Vmap} (h : WT K V) {a j : Nat} {kd : Nat × Nat} {lo hi : Int} (ha : K a = some kd) (hj : j < szK kd) (hf : fT kd j = (0, 0, 0, lo, hi)) : V a j = ti (vi V a j) ∧ lo ≤ vi V a j ∧ vi V a j ≤ hi := by
  have h1 := (h a kd ha).2 j hj
  rw [hf] at h1
  obtain ⟨x, e, h2, h3⟩ := h1
  exact ⟨vi_ti e, by rw [vi_of e]; exact h2, by rw [vi_of e]; exact h3⟩
theorem WT.ref {K : Kmap} {V : Vmap} (h : WT K V) {a j t c : Nat} {kd : Nat × Nat} {lo hi : Int} (ha : K a = some kd) (hj : j < szK kd) (hf : fT kd j = (1, t, c, lo, hi)) : V a j = .ref (vq V a j) ∧ rk K t c (vq V a j) := by
  have h1 := (h a kd ha).2 j hj
  rw [hf] at h1
  obtain ⟨q, e, h2⟩ := h1
  rw [vq_of e]
  exact ⟨e, h2⟩
theorem WT.nul {K : Kmap} {V : Vmap} (h : WT K V) {a j t c : Nat} {kd : Nat × Nat} {lo hi : Int} (ha : K a = some kd) (hj : j < szK kd) (hf : fT kd j = (2, t, c, lo, hi)) : V a j = .null ∨ (V a j = .ref (vq V a j) ∧ rk K t c (vq V a j)) := by
  have h1 := (h a kd ha).2 j hj
  rw [hf] at h1
  rcases h1 with e | ⟨q, e, h2⟩
  · exact Or.inl e
  · rw [vq_of e]; exact Or.inr ⟨e, h2⟩
theorem WT.lng {K : Kmap} {V : Vmap} (h : WT K V) {a j t c : Nat} {kd : Nat × Nat} {lo hi : Int} (ha : K a = some kd) (hj : j < szK kd) (hf : fT kd j = (3, t, c, lo, hi)) : V a j = .long (vlg V a j) := by
  have h1 := (h a kd ha).2 j hj
  rw [hf] at h1
  obtain ⟨x, e⟩ := h1
  unfold vlg
  rw [e]
theorem WT.len {K : Kmap} {V : Vmap} (h : WT K V) {a t n : Nat} (ha : K a = some (t + 1, n)) : t < NT ∧ n ≤ 5000 ∧ (lentab.getD t 0 = 0 ∨ n = lentab.getD t 0) := (h a _ ha).1
/-! locals by their places -/
def isLong (w : Option Value) : Bool := match w with
  | some (.long _) => true
  | some (.double _) => true
  | _ => false
def setL (ls : List (Option Value)) (i : Nat) (v : Option Value) : List (Option Value) := match ls, i with
  | [], _ => []
  | _ :: t, 0 => v :: t
  | w :: t, 1 => (if isLong w then none else w) :: setL t 0 v
  | w :: t, n + 2 => w :: setL t (n + 1) v
theorem isLong_cat {v : Value} (h : isLong (some v) = false) : ¬ v.category = 2 := by
  cases v <;> simp [isLong, Value.category] at h ⊢
theorem setL_get : ∀ (ls : List (Option Value)) (i : Nat) (v w : Value) (j : Nat), (setL ls i (some v))[j]? = some (some w) → (j = i ∧ w = v) ∨ (j ≠ i ∧ ls[j]? = some (some w) ∧ ¬ (j + 1 = i ∧ w.category = 2)) := by
  intro ls
  induction ls with
  | nil => intro i v w j h; simp [setL] at h
  | cons u t ih =>
    intro i v w j h
    match i with
    | 0 =>
      cases j with
      | zero => simp [setL] at h; exact Or.inl ⟨rfl, h.symm⟩
      | succ j => simp [setL] at h; exact Or.inr ⟨by omega, by simpa using h, by omega⟩
    | 1 =>
      cases j with
      | zero =>
        simp only [setL, List.getElem?_cons_zero, Option.some.injEq] at h
        by_cases hu : isLong u = true
        · rw [if_pos hu] at h; cases h
        · rw [if_neg hu] at h
          subst h
          exact Or.inr ⟨by omega, by simp, fun q => isLong_cat (by simpa using hu) q.2⟩
      | succ j =>
        simp only [setL, List.getElem?_cons_succ] at h
        rcases ih 0 v w j h with ⟨e1, e2⟩ | ⟨e1, e2, e3⟩
        · exact Or.inl ⟨by omega, e2⟩
        · exact Or.inr ⟨by omega, by simpa using e2, by omega⟩
    | n + 2 =>
      cases j with
      | zero => simp [setL] at h; exact Or.inr ⟨by omega, by simp [h], by omega⟩
      | succ j =>
        simp only [setL, List.getElem?_cons_succ] at h
        rcases ih (n + 1) v w j h with ⟨e1, e2⟩ | ⟨e1, e2, e3⟩
        · exact Or.inl ⟨by omega, e2⟩
        · exact Or.inr ⟨by omega, by simpa using e2, fun q => e3 ⟨by omega, q.2⟩⟩
def enumL (ls : List (Option Value)) : List (Nat × Value) := (List.range ls.length).filterMap (fun j => match ls[j]? with
  | some (some w) => some (j, w)
  | _ => none)
theorem enumL_mem {ls : List (Option Value)} {j : Nat} {w : Value} : (j, w) ∈ enumL ls ↔ ls[j]? = some (some w) := by
  unfold enumL
  rw [List.mem_filterMap]
  constructor
  · rintro ⟨i, -, h⟩
    split at h
    · rename_i w' hw
      cases h
      exact hw
    · cases h
  · intro h
    refine ⟨j, List.mem_range.mpr (List.getElem?_eq_some_iff.mp h).1, ?_⟩
    rw [h]
/-- the machine's locals are at least these -/
def lvH (lsA : Array Slot) (nL : Nat) (ls : List (Option Value)) : Prop := lv_has lsA nL (enumL ls)
theorem lvH.at {lsA : Array Slot} {nL : Nat} {ls : List (Option Value)} (h : lvH lsA nL ls) {i : Nat} {v : Value} (hi : ls[i]? = some (some v)) : lsA[i]? = some (.val v) := h.2.2 (i, v) (enumL_mem.mpr hi)
theorem lvH.to {lsA : Array Slot} {nL : Nat} {ls : List (Option Value)} {l : List (Nat × Value)} (h : lv_has lsA nL l) (hs : ∀ j w, ls[j]? = some (some w) → (j, w) ∈ l) : lvH lsA nL ls := ⟨h.1, h.2.1, fun q hq => h.2.2 q (hs q.1 q.2 (enumL_mem.mp hq))⟩
theorem lvH.store {lsB : Array Slot} {nL i : Nat} {ls : List (Option Value)} {v : Value} (h : lv_has lsB nL ((i, v) :: (enumL ls).filter (fun q => !(q.1 == i) && !(q.1 + 1 == i && q.2.category == 2)))) : lvH lsB nL (setL ls i (some v)) := by
  refine lvH.to h fun j w hj => ?_
  rcases setL_get ls i v w j hj with ⟨rfl, rfl⟩ | ⟨h1, h2, h3⟩
  · exact List.mem_cons_self
  · refine List.mem_cons_of_mem _ (List.mem_filter.mpr ⟨enumL_mem.mpr h2, ?_⟩)
    simp only [Bool.and_eq_true, Bool.not_eq_true', beq_eq_false_iff_ne, ne_eq, Bool.and_eq_false_iff]
    refine ⟨h1, ?_⟩
    by_cases e : j + 1 = i
    · exact Or.inr fun q => h3 ⟨e, q⟩
    · exact Or.inl e
