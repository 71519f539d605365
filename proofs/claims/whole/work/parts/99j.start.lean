/-! ===== the start ===== -/
set_option maxRecDepth 100000 in
def y_T1 : dT := [(1, 1, 7, 0, 0), (1, 1, 6, 101, 0), (2, 101, 5, 0, 0), (1, 101, 4, 106, 0), (0, 106, 14, 12, 0), (1, 101, 3, 105, 0), (0, 105, 14, 12, 0), (1, 101, 2, 104, 0), (0, 104, 14, 12, 0), (1, 101, 1, 103, 0), (0, 103, 14, 12, 0), (1, 101, 0, 102, 0), (0, 102, 14, 12, 0), (0, 101, 2, 6, 0), (1, 1, 5, 98, 0), (1, 98, 0, 28, 0), (1, 98, 2, 100, 0), (0, 100, 14, 8, 0), (1, 98, 1, 99, 0), (0, 99, 14, 256, 0), (0, 98, 9, 3, 0), (1, 1, 4, 93, 0), (2, 93, 0, 0, 1), (2, 93, 11, 0, 0), (2, 93, 10, 0, 0), (2, 93, 9, 0, 0), (2, 93, 8, 0, 0), (2, 93, 7, 0, 0), (2, 93, 6, 0, 0), (2, 93, 5, 0, 0), (1, 93, 4, 97, 0), (0, 97, 14, 12, 0), (1, 93, 3, 96, 0), (0, 96, 14, 12, 0), (1, 93, 2, 95, 0), (0, 95, 14, 16, 0), (1, 93, 1, 94, 0), (0, 94, 14, 16, 0), (0, 93, 4, 12, 0), (1, 1, 3, 80, 0), (1, 80, 0, 3, 0), (2, 80, 11, 0, -1), (2, 80, 10, 0, 0), (2, 80, 9, 0, 0), (1, 80, 8, 91, 0), (1, 91, 0, 92, 0), (0, 92, 14, 64, 0), (2, 91, 1, 0, 4), (2, 91, 2, 0, 16), (2, 91, 3, 0, 0), (0, 91, 7, 4, 0), (1, 80, 7, 85, 0), (2, 85, 6, 0, 0), (2, 85, 5, 0, 0), (1, 85, 4, 90, 0), (0, 90, 14, 16, 0), (1, 85, 3, 89, 0), (0, 89, 14, 16, 0), (1, 85, 2, 88, 0), (0, 88, 14, 16, 0), (1, 85, 1, 87, 0), (0, 87, 14, 16, 0), (1, 85, 0, 86, 0), (0, 86, 14, 400, 0), (0, 85, 3, 7, 0), (2, 80, 6, 0, 0), (2, 80, 5, 0, 0), (1, 80, 4, 84, 0), (0, 84, 14, 401, 0), (1, 80, 3, 83, 0), (0, 83, 14, 401, 0), (1, 80, 2, 82, 0), (0, 82, 14, 401, 0), (1, 80, 1, 81, 0), (0, 81, 13, 400, 0), (0, 80, 6, 12, 0), (1, 1, 2, 48, 0), (1, 49, 5, 75, 0), (2, 75, 0, 0, 0), (2, 75, 11, 0, 0), (2, 75, 10, 0, 0), (2, 75, 9, 0, 0), (2, 75, 8, 0, 0), (2, 75, 7, 0, 0), (2, 75, 6, 0, 0), (2, 75, 5, 0, 0), (1, 75, 4, 79, 0), (0, 79, 14, 12, 0), (1, 75, 3, 78, 0), (0, 78, 14, 12, 0), (1, 75, 2, 77, 0), (0, 77, 14, 16, 0), (1, 75, 1, 76, 0), (0, 76, 14, 16, 0), (0, 75, 4, 12, 0), (1, 49, 4, 70, 0), (2, 70, 0, 0, 0), (2, 70, 11, 0, 0), (2, 70, 10, 0, 0), (2, 70, 9, 0, 0), (2, 70, 8, 0, 0), (2, 70, 7, 0, 0), (2, 70, 6, 0, 0), (2, 70, 5, 0, 0), (1, 70, 4, 74, 0), (0, 74, 14, 12, 0), (1, 70, 3, 73, 0), (0, 73, 14, 12, 0), (1, 70, 2, 72, 0), (0, 72, 14, 16, 0), (1, 70, 1, 71, 0), (0, 71, 14, 16, 0), (0, 70, 4, 12, 0), (1, 49, 3, 65, 0), (2, 65, 0, 0, 0), (2, 65, 11, 0, 0), (2, 65, 10, 0, 0), (2, 65, 9, 0, 0), (2, 65, 8, 0, 0), (2, 65, 7, 0, 0), (2, 65, 6, 0, 0), (2, 65, 5, 0, 0), (1, 65, 4, 69, 0), (0, 69, 14, 12, 0), (1, 65, 3, 68, 0), (0, 68, 14, 12, 0), (1, 65, 2, 67, 0), (0, 67, 14, 16, 0), (1, 65, 1, 66, 0), (0, 66, 14, 16, 0), (0, 65, 4, 12, 0), (1, 49, 2, 60, 0), (2, 60, 0, 0, 0), (2, 60, 11, 0, 0), (2, 60, 10, 0, 0), (2, 60, 9, 0, 0), (2, 60, 8, 0, 0), (2, 60, 7, 0, 0), (2, 60, 6, 0, 0), (2, 60, 5, 0, 0), (1, 60, 4, 64, 0), (0, 64, 14, 12, 0), (1, 60, 3, 63, 0), (0, 63, 14, 12, 0), (1, 60, 2, 62, 0), (0, 62, 14, 16, 0), (1, 60, 1, 61, 0), (0, 61, 14, 16, 0), (0, 60, 4, 12, 0), (1, 49, 1, 55, 0), (2, 55, 0, 0, 0), (2, 55, 11, 0, 0), (2, 55, 10, 0, 0), (2, 55, 9, 0, 0), (2, 55, 8, 0, 0), (2, 55, 7, 0, 0), (2, 55, 6, 0, 0), (2, 55, 5, 0, 0), (1, 55, 4, 59, 0), (0, 59, 14, 12, 0), (1, 55, 3, 58, 0), (0, 58, 14, 12, 0), (1, 55, 2, 57, 0), (0, 57, 14, 16, 0), (1, 55, 1, 56, 0), (0, 56, 14, 16, 0), (0, 55, 4, 12, 0), (1, 49, 0, 50, 0), (2, 50, 0, 0, 0), (2, 50, 11, 0, 0), (2, 50, 10, 0, 0), (2, 50, 9, 0, 0), (2, 50, 8, 0, 0), (2, 50, 7, 0, 0), (2, 50, 6, 0, 0), (2, 50, 5, 0, 0), (1, 50, 4, 54, 0), (0, 54, 14, 12, 0), (1, 50, 3, 53, 0), (0, 53, 14, 12, 0), (1, 50, 2, 52, 0), (0, 52, 14, 16, 0), (1, 50, 1, 51, 0), (0, 51, 14, 16, 0), (0, 50, 4, 12, 0), (2, 48, 2, 0, 0), (2, 48, 1, 0, 0), (1, 48, 0, 49, 0), (0, 49, 15, 6, 0), (0, 48, 5, 3, 0), (1, 1, 1, 45, 0), (1, 45, 0, 2, 0), (1, 45, 2, 47, 0), (0, 47, 14, 48, 0), (1, 45, 1, 46, 0), (0, 46, 14, 11, 0), (0, 45, 0, 3, 0), (1, 1, 0, 2, 0), (1, 2, 7, 28, 0), (3, 43, 0, 12, 2), (1, 28, 8, 44, 0), (0, 44, 14, 36, 0), (1, 28, 7, 43, 0), (0, 43, 14, 12, 0), (1, 28, 6, 41, 0), (1, 41, 0, 42, 0), (0, 42, 14, 5, 0), (2, 41, 1, 0, 1), (2, 41, 2, 0, 5), (2, 41, 3, 0, 0), (0, 41, 7, 4, 0), (1, 28, 5, 39, 0), (1, 39, 0, 40, 0), (0, 40, 14, 6, 0), (2, 39, 1, 0, 1), (2, 39, 2, 0, 6), (2, 39, 3, 0, 0), (0, 39, 7, 4, 0), (1, 28, 4, 37, 0), (1, 37, 0, 38, 0), (0, 38, 14, 30, 0), (2, 37, 1, 0, 3), (2, 37, 2, 0, 10), (2, 37, 3, 0, 0), (0, 37, 7, 4, 0), (1, 28, 3, 35, 0), (1, 35, 0, 36, 0), (0, 36, 14, 24, 0), (2, 35, 1, 0, 2), (2, 35, 2, 0, 12), (2, 35, 3, 0, 0), (0, 35, 7, 4, 0), (1, 28, 2, 33, 0), (1, 33, 0, 34, 0), (0, 34, 14, 16, 0), (2, 33, 1, 0, 2), (2, 33, 2, 0, 8), (2, 33, 3, 0, 0), (0, 33, 7, 4, 0), (1, 28, 1, 31, 0), (1, 31, 0, 32, 0), (0, 32, 14, 4, 0), (2, 31, 1, 0, 1), (2, 31, 2, 0, 4), (2, 31, 3, 0, 0), (0, 31, 7, 4, 0), (1, 28, 0, 29, 0), (1, 29, 0, 30, 0), (0, 30, 14, 32, 0), (2, 29, 1, 0, 2), (2, 29, 2, 0, 16), (2, 29, 3, 0, 0), (0, 29, 7, 4, 0), (0, 28, 10, 9, 0), (1, 2, 6, 26, 0), (1, 26, 0, 27, 0), (0, 27, 14, 64, 0), (2, 26, 1, 0, 4), (2, 26, 2, 0, 16), (2, 26, 3, 0, 0), (0, 26, 7, 4, 0), (1, 2, 5, 24, 0), (1, 24, 0, 25, 0), (0, 25, 14, 64, 0), (2, 24, 1, 0, 4), (2, 24, 2, 0, 16), (2, 24, 3, 0, 0), (0, 24, 7, 4, 0), (1, 2, 4, 22, 0), (1, 22, 0, 23, 0), (0, 23, 14, 64, 0), (2, 22, 1, 0, 4), (2, 22, 2, 0, 16), (2, 22, 3, 0, 0), (0, 22, 7, 4, 0), (1, 2, 3, 16, 0), (2, 16, 6, 0, 0), (2, 16, 5, 0, 0), (1, 16, 4, 21, 0), (0, 21, 14, 16, 0), (1, 16, 3, 20, 0), (0, 20, 14, 16, 0), (1, 16, 2, 19, 0), (0, 19, 14, 16, 0), (1, 16, 1, 18, 0), (0, 18, 14, 16, 0), (1, 16, 0, 17, 0), (0, 17, 14, 400, 0), (0, 16, 3, 7, 0), (1, 2, 2, 14, 0), (1, 14, 0, 15, 0), (0, 15, 14, 600, 0), (2, 14, 1, 0, 4), (2, 14, 2, 0, 150), (2, 14, 3, 0, 0), (0, 14, 7, 4, 0), (1, 2, 1, 9, 0), (2, 9, 0, 0, 0), (2, 9, 11, 0, 0), (2, 9, 10, 0, 0), (2, 9, 9, 0, 0), (2, 9, 8, 0, 0), (2, 9, 7, 0, 0), (2, 9, 6, 0, 0), (2, 9, 5, 0, 0), (1, 9, 4, 13, 0), (0, 13, 14, 12, 0), (1, 9, 3, 12, 0), (0, 12, 14, 12, 0), (1, 9, 2, 11, 0), (0, 11, 14, 16, 0), (1, 9, 1, 10, 0), (0, 10, 14, 16, 0), (0, 9, 4, 12, 0), (1, 2, 0, 3, 0), (3, 4, 0, 12, 9), (2, 3, 6, 0, 0), (2, 3, 5, 0, 0), (1, 3, 4, 8, 0), (0, 8, 14, 12, 0), (1, 3, 3, 7, 0), (0, 7, 14, 12, 0), (1, 3, 2, 6, 0), (0, 6, 14, 16, 0), (1, 3, 1, 5, 0), (0, 5, 14, 16, 0), (1, 3, 0, 4, 0), (0, 4, 14, 12, 0), (0, 3, 8, 7, 0), (0, 2, 1, 8, 0), (0, 1, 11, 8, 0)]
set_option maxRecDepth 100000 in
def y_T2 : dT := [(1, 107, 78, 151, 0), (0, 151, 14, 2400, 0), (1, 107, 74, 150, 0), (0, 150, 14, 31, 0), (1, 107, 73, 149, 0), (0, 149, 14, 5, 0), (1, 107, 71, 148, 0), (0, 148, 14, 6, 0), (1, 107, 69, 147, 0), (0, 147, 14, 8, 0), (1, 107, 68, 146, 0), (0, 146, 14, 10, 0), (1, 107, 67, 145, 0), (0, 145, 14, 10, 0), (1, 107, 66, 144, 0), (0, 144, 14, 10, 0), (1, 107, 63, 143, 0), (0, 143, 14, 36, 0), (1, 107, 59, 142, 0), (0, 142, 14, 12, 0), (1, 107, 58, 141, 0), (0, 141, 14, 12, 0), (1, 107, 57, 140, 0), (0, 140, 14, 40, 0), (1, 107, 56, 139, 0), (0, 139, 14, 10, 0), (1, 107, 54, 138, 0), (0, 138, 14, 8, 0), (1, 107, 53, 137, 0), (0, 137, 14, 8, 0), (1, 107, 52, 136, 0), (0, 136, 14, 8, 0), (1, 107, 50, 135, 0), (0, 135, 14, 4, 0), (1, 107, 48, 134, 0), (0, 134, 14, 16, 0), (1, 107, 47, 133, 0), (0, 133, 14, 16, 0), (1, 107, 45, 132, 0), (0, 132, 14, 420, 0), (1, 107, 44, 131, 0), (0, 131, 14, 11, 0), (1, 107, 43, 130, 0), (0, 130, 14, 12, 0), (1, 107, 42, 129, 0), (0, 129, 14, 24, 0), (1, 107, 40, 128, 0), (0, 128, 14, 128, 0), (1, 107, 38, 127, 0), (0, 127, 14, 128, 0), (2, 107, 36, 0, -1), (1, 107, 31, 126, 0), (0, 126, 14, 40, 0), (1, 107, 27, 125, 0), (0, 125, 14, 1200, 0), (1, 107, 26, 124, 0), (0, 124, 14, 1200, 0), (1, 107, 25, 123, 0), (0, 123, 14, 48, 0), (1, 107, 24, 122, 0), (0, 122, 14, 48, 0), (1, 107, 23, 121, 0), (0, 121, 14, 48, 0), (1, 107, 22, 120, 0), (0, 120, 14, 48, 0), (1, 107, 21, 119, 0), (0, 119, 14, 2, 0), (1, 107, 20, 118, 0), (2, 118, 144, 0, 32), (2, 118, 143, 0, 102), (2, 118, 142, 0, 111), (2, 118, 141, 0, 32), (2, 118, 140, 0, 100), (2, 118, 139, 0, 108), (2, 118, 138, 0, 105), (2, 118, 137, 0, 104), (2, 118, 136, 0, 99), (2, 118, 135, 0, 32), (2, 118, 134, 0, 104), (2, 118, 133, 0, 99), (2, 118, 132, 0, 114), (2, 118, 131, 0, 97), (2, 118, 130, 0, 101), (2, 118, 129, 0, 115), (2, 118, 128, 0, 32), (2, 118, 127, 0, 110), (2, 118, 126, 0, 101), (2, 118, 125, 0, 112), (2, 118, 124, 0, 111), (2, 118, 123, 0, 32), (2, 118, 122, 0, 101), (2, 118, 121, 0, 115), (2, 118, 120, 0, 111), (2, 118, 119, 0, 111), (2, 118, 118, 0, 108), (2, 118, 117, 0, 32), (2, 118, 116, 0, 101), (2, 118, 115, 0, 105), (2, 118, 114, 0, 116), (2, 118, 113, 0, 32), (2, 118, 112, 0, 110), (2, 118, 111, 0, 105), (2, 118, 110, 0, 32), (2, 118, 109, 0, 115), (2, 118, 108, 0, 116), (2, 118, 107, 0, 117), (2, 118, 106, 0, 112), (2, 118, 105, 0, 32), (2, 118, 104, 0, 110), (2, 118, 103, 0, 111), (2, 118, 102, 0, 115), (2, 118, 101, 0, 114), (2, 118, 100, 0, 101), (2, 118, 99, 0, 112), (2, 118, 98, 0, 32), (2, 118, 97, 0, 116), (2, 118, 96, 0, 97), (2, 118, 95, 0, 32), (2, 118, 94, 0, 114), (2, 118, 93, 0, 117), (2, 118, 92, 0, 111), (2, 118, 91, 0, 104), (2, 118, 90, 0, 32), (2, 118, 89, 0, 100), (2, 118, 88, 0, 101), (2, 118, 87, 0, 109), (2, 118, 86, 0, 108), (2, 118, 85, 0, 97), (2, 118, 84, 0, 112), (2, 118, 83, 0, 32), (2, 118, 82, 0, 116), (2, 118, 81, 0, 115), (2, 118, 80, 0, 111), (2, 118, 79, 0, 108), (2, 118, 78, 0, 32), (2, 118, 77, 0, 100), (2, 118, 76, 0, 101), (2, 118, 75, 0, 118), (2, 118, 74, 0, 111), (2, 118, 73, 0, 109), (2, 118, 72, 0, 32), (2, 118, 71, 0, 107), (2, 118, 70, 0, 99), (2, 118, 69, 0, 111), (2, 118, 68, 0, 108), (2, 118, 67, 0, 32), (2, 118, 66, 0, 108), (2, 118, 65, 0, 108), (2, 118, 64, 0, 117), (2, 118, 63, 0, 102), (2, 118, 62, 0, 32), (2, 118, 61, 0, 101), (2, 118, 60, 0, 99), (2, 118, 59, 0, 97), (2, 118, 58, 0, 108), (2, 118, 57, 0, 112), (2, 118, 56, 0, 32), (2, 118, 55, 0, 104), (2, 118, 54, 0, 116), (2, 118, 53, 0, 114), (2, 118, 52, 0, 111), (2, 118, 51, 0, 119), (2, 118, 50, 0, 32), (2, 118, 49, 0, 101), (2, 118, 48, 0, 122), (2, 118, 47, 0, 105), (2, 118, 46, 0, 115), (2, 118, 45, 0, 32), (2, 118, 44, 0, 115), (2, 118, 43, 0, 116), (2, 118, 42, 0, 105), (2, 118, 41, 0, 119), (2, 118, 40, 0, 32), (2, 118, 39, 0, 116), (2, 118, 38, 0, 104), (2, 118, 37, 0, 103), (2, 118, 36, 0, 105), (2, 118, 35, 0, 101), (2, 118, 34, 0, 108), (2, 118, 33, 0, 115), (2, 118, 32, 0, 32), (2, 118, 31, 0, 116), (2, 118, 30, 0, 111), (2, 118, 29, 0, 110), (2, 118, 28, 0, 32), (2, 118, 27, 0, 100), (2, 118, 26, 0, 110), (2, 118, 25, 0, 97), (2, 118, 24, 0, 32), (2, 118, 23, 0, 114), (2, 118, 22, 0, 111), (2, 118, 21, 0, 32), (2, 118, 20, 0, 110), (2, 118, 19, 0, 101), (2, 118, 18, 0, 104), (2, 118, 17, 0, 119), (2, 118, 16, 0, 32), (2, 118, 15, 0, 115), (2, 118, 14, 0, 100), (2, 118, 13, 0, 110), (2, 118, 12, 0, 105), (2, 118, 11, 0, 102), (2, 118, 10, 0, 32), (2, 118, 9, 0, 114), (2, 118, 8, 0, 97), (2, 118, 7, 0, 102), (2, 118, 6, 0, 32), (2, 118, 5, 0, 115), (2, 118, 4, 0, 109), (2, 118, 3, 0, 108), (2, 118, 2, 0, 97), (2, 118, 1, 0, 112), (2, 118, 0, 0, 32), (0, 118, 14, 145, 0), (1, 107, 14, 117, 0), (0, 117, 14, 400, 0), (1, 107, 13, 116, 0), (0, 116, 14, 600, 0), (1, 107, 12, 115, 0), (0, 115, 14, 12, 0), (1, 107, 11, 114, 0), (0, 114, 14, 12, 0), (1, 107, 10, 113, 0), (0, 113, 14, 16, 0), (1, 107, 9, 112, 0), (0, 112, 14, 16, 0), (1, 107, 8, 111, 0), (0, 111, 14, 12, 0), (1, 107, 4, 110, 0), (0, 110, 14, 100, 0), (1, 107, 2, 109, 0), (0, 109, 14, 600, 0), (1, 107, 1, 108, 0), (0, 108, 14, 100, 0), (0, 107, 12, 79, 0), (1, 1, 7, 0, 0), (1, 1, 6, 101, 0), (2, 101, 5, 0, 0), (1, 101, 4, 106, 0), (0, 106, 14, 12, 0), (1, 101, 3, 105, 0), (0, 105, 14, 12, 0), (1, 101, 2, 104, 0), (0, 104, 14, 12, 0), (1, 101, 1, 103, 0), (0, 103, 14, 12, 0), (1, 101, 0, 102, 0), (0, 102, 14, 12, 0), (0, 101, 2, 6, 0), (1, 1, 5, 98, 0), (1, 98, 0, 28, 0), (1, 98, 2, 100, 0), (0, 100, 14, 8, 0), (1, 98, 1, 99, 0), (0, 99, 14, 256, 0), (0, 98, 9, 3, 0), (1, 1, 4, 93, 0), (2, 93, 0, 0, 1), (2, 93, 11, 0, 0), (2, 93, 10, 0, 0), (2, 93, 9, 0, 0), (2, 93, 8, 0, 0), (2, 93, 7, 0, 0), (2, 93, 6, 0, 0), (2, 93, 5, 0, 0), (1, 93, 4, 97, 0), (0, 97, 14, 12, 0), (1, 93, 3, 96, 0), (0, 96, 14, 12, 0), (1, 93, 2, 95, 0), (0, 95, 14, 16, 0), (1, 93, 1, 94, 0), (0, 94, 14, 16, 0), (0, 93, 4, 12, 0), (1, 1, 3, 80, 0), (1, 80, 0, 3, 0), (2, 80, 11, 0, -1), (2, 80, 10, 0, 0), (2, 80, 9, 0, 0), (1, 80, 8, 91, 0), (1, 91, 0, 92, 0), (0, 92, 14, 64, 0), (2, 91, 1, 0, 4), (2, 91, 2, 0, 16), (2, 91, 3, 0, 0), (0, 91, 7, 4, 0), (1, 80, 7, 85, 0), (2, 85, 6, 0, 0), (2, 85, 5, 0, 0), (1, 85, 4, 90, 0), (0, 90, 14, 16, 0), (1, 85, 3, 89, 0), (0, 89, 14, 16, 0), (1, 85, 2, 88, 0), (0, 88, 14, 16, 0), (1, 85, 1, 87, 0), (0, 87, 14, 16, 0), (1, 85, 0, 86, 0), (0, 86, 14, 400, 0), (0, 85, 3, 7, 0), (2, 80, 6, 0, 0), (2, 80, 5, 0, 0), (1, 80, 4, 84, 0), (0, 84, 14, 401, 0), (1, 80, 3, 83, 0), (0, 83, 14, 401, 0), (1, 80, 2, 82, 0), (0, 82, 14, 401, 0), (1, 80, 1, 81, 0), (0, 81, 13, 400, 0), (0, 80, 6, 12, 0), (1, 1, 2, 48, 0), (1, 49, 5, 75, 0), (2, 75, 0, 0, 0), (2, 75, 11, 0, 0), (2, 75, 10, 0, 0), (2, 75, 9, 0, 0), (2, 75, 8, 0, 0), (2, 75, 7, 0, 0), (2, 75, 6, 0, 0), (2, 75, 5, 0, 0), (1, 75, 4, 79, 0), (0, 79, 14, 12, 0), (1, 75, 3, 78, 0), (0, 78, 14, 12, 0), (1, 75, 2, 77, 0), (0, 77, 14, 16, 0), (1, 75, 1, 76, 0), (0, 76, 14, 16, 0), (0, 75, 4, 12, 0), (1, 49, 4, 70, 0), (2, 70, 0, 0, 0), (2, 70, 11, 0, 0), (2, 70, 10, 0, 0), (2, 70, 9, 0, 0), (2, 70, 8, 0, 0), (2, 70, 7, 0, 0), (2, 70, 6, 0, 0), (2, 70, 5, 0, 0), (1, 70, 4, 74, 0), (0, 74, 14, 12, 0), (1, 70, 3, 73, 0), (0, 73, 14, 12, 0), (1, 70, 2, 72, 0), (0, 72, 14, 16, 0), (1, 70, 1, 71, 0), (0, 71, 14, 16, 0), (0, 70, 4, 12, 0), (1, 49, 3, 65, 0), (2, 65, 0, 0, 0), (2, 65, 11, 0, 0), (2, 65, 10, 0, 0), (2, 65, 9, 0, 0), (2, 65, 8, 0, 0), (2, 65, 7, 0, 0), (2, 65, 6, 0, 0), (2, 65, 5, 0, 0), (1, 65, 4, 69, 0), (0, 69, 14, 12, 0), (1, 65, 3, 68, 0), (0, 68, 14, 12, 0), (1, 65, 2, 67, 0), (0, 67, 14, 16, 0), (1, 65, 1, 66, 0), (0, 66, 14, 16, 0), (0, 65, 4, 12, 0), (1, 49, 2, 60, 0), (2, 60, 0, 0, 0), (2, 60, 11, 0, 0), (2, 60, 10, 0, 0), (2, 60, 9, 0, 0), (2, 60, 8, 0, 0), (2, 60, 7, 0, 0), (2, 60, 6, 0, 0), (2, 60, 5, 0, 0), (1, 60, 4, 64, 0), (0, 64, 14, 12, 0), (1, 60, 3, 63, 0), (0, 63, 14, 12, 0), (1, 60, 2, 62, 0), (0, 62, 14, 16, 0), (1, 60, 1, 61, 0), (0, 61, 14, 16, 0), (0, 60, 4, 12, 0), (1, 49, 1, 55, 0), (2, 55, 0, 0, 0), (2, 55, 11, 0, 0), (2, 55, 10, 0, 0), (2, 55, 9, 0, 0), (2, 55, 8, 0, 0), (2, 55, 7, 0, 0), (2, 55, 6, 0, 0), (2, 55, 5, 0, 0), (1, 55, 4, 59, 0), (0, 59, 14, 12, 0), (1, 55, 3, 58, 0), (0, 58, 14, 12, 0), (1, 55, 2, 57, 0), (0, 57, 14, 16, 0), (1, 55, 1, 56, 0), (0, 56, 14, 16, 0), (0, 55, 4, 12, 0), (1, 49, 0, 50, 0), (2, 50, 0, 0, 0), (2, 50, 11, 0, 0), (2, 50, 10, 0, 0), (2, 50, 9, 0, 0), (2, 50, 8, 0, 0), (2, 50, 7, 0, 0), (2, 50, 6, 0, 0), (2, 50, 5, 0, 0), (1, 50, 4, 54, 0), (0, 54, 14, 12, 0), (1, 50, 3, 53, 0), (0, 53, 14, 12, 0), (1, 50, 2, 52, 0), (0, 52, 14, 16, 0), (1, 50, 1, 51, 0), (0, 51, 14, 16, 0), (0, 50, 4, 12, 0), (2, 48, 2, 0, 0), (2, 48, 1, 0, 0), (1, 48, 0, 49, 0), (0, 49, 15, 6, 0), (0, 48, 5, 3, 0), (1, 1, 1, 45, 0), (1, 45, 0, 2, 0), (1, 45, 2, 47, 0), (0, 47, 14, 48, 0), (1, 45, 1, 46, 0), (0, 46, 14, 11, 0), (0, 45, 0, 3, 0), (1, 1, 0, 2, 0), (1, 2, 7, 28, 0), (3, 43, 0, 12, 2), (1, 28, 8, 44, 0), (0, 44, 14, 36, 0), (1, 28, 7, 43, 0), (0, 43, 14, 12, 0), (1, 28, 6, 41, 0), (1, 41, 0, 42, 0), (0, 42, 14, 5, 0), (2, 41, 1, 0, 1), (2, 41, 2, 0, 5), (2, 41, 3, 0, 0), (0, 41, 7, 4, 0), (1, 28, 5, 39, 0), (1, 39, 0, 40, 0), (0, 40, 14, 6, 0), (2, 39, 1, 0, 1), (2, 39, 2, 0, 6), (2, 39, 3, 0, 0), (0, 39, 7, 4, 0), (1, 28, 4, 37, 0), (1, 37, 0, 38, 0), (0, 38, 14, 30, 0), (2, 37, 1, 0, 3), (2, 37, 2, 0, 10), (2, 37, 3, 0, 0), (0, 37, 7, 4, 0), (1, 28, 3, 35, 0), (1, 35, 0, 36, 0), (0, 36, 14, 24, 0), (2, 35, 1, 0, 2), (2, 35, 2, 0, 12), (2, 35, 3, 0, 0), (0, 35, 7, 4, 0), (1, 28, 2, 33, 0), (1, 33, 0, 34, 0), (0, 34, 14, 16, 0), (2, 33, 1, 0, 2), (2, 33, 2, 0, 8), (2, 33, 3, 0, 0), (0, 33, 7, 4, 0), (1, 28, 1, 31, 0), (1, 31, 0, 32, 0), (0, 32, 14, 4, 0), (2, 31, 1, 0, 1), (2, 31, 2, 0, 4), (2, 31, 3, 0, 0), (0, 31, 7, 4, 0), (1, 28, 0, 29, 0), (1, 29, 0, 30, 0), (0, 30, 14, 32, 0), (2, 29, 1, 0, 2), (2, 29, 2, 0, 16), (2, 29, 3, 0, 0), (0, 29, 7, 4, 0), (0, 28, 10, 9, 0), (1, 2, 6, 26, 0), (1, 26, 0, 27, 0), (0, 27, 14, 64, 0), (2, 26, 1, 0, 4), (2, 26, 2, 0, 16), (2, 26, 3, 0, 0), (0, 26, 7, 4, 0), (1, 2, 5, 24, 0), (1, 24, 0, 25, 0), (0, 25, 14, 64, 0), (2, 24, 1, 0, 4), (2, 24, 2, 0, 16), (2, 24, 3, 0, 0), (0, 24, 7, 4, 0), (1, 2, 4, 22, 0), (1, 22, 0, 23, 0), (0, 23, 14, 64, 0), (2, 22, 1, 0, 4), (2, 22, 2, 0, 16), (2, 22, 3, 0, 0), (0, 22, 7, 4, 0), (1, 2, 3, 16, 0), (2, 16, 6, 0, 0), (2, 16, 5, 0, 0), (1, 16, 4, 21, 0), (0, 21, 14, 16, 0), (1, 16, 3, 20, 0), (0, 20, 14, 16, 0), (1, 16, 2, 19, 0), (0, 19, 14, 16, 0), (1, 16, 1, 18, 0), (0, 18, 14, 16, 0), (1, 16, 0, 17, 0), (0, 17, 14, 400, 0), (0, 16, 3, 7, 0), (1, 2, 2, 14, 0), (1, 14, 0, 15, 0), (0, 15, 14, 600, 0), (2, 14, 1, 0, 4), (2, 14, 2, 0, 150), (2, 14, 3, 0, 0), (0, 14, 7, 4, 0), (1, 2, 1, 9, 0), (2, 9, 0, 0, 0), (2, 9, 11, 0, 0), (2, 9, 10, 0, 0), (2, 9, 9, 0, 0), (2, 9, 8, 0, 0), (2, 9, 7, 0, 0), (2, 9, 6, 0, 0), (2, 9, 5, 0, 0), (1, 9, 4, 13, 0), (0, 13, 14, 12, 0), (1, 9, 3, 12, 0), (0, 12, 14, 12, 0), (1, 9, 2, 11, 0), (0, 11, 14, 16, 0), (1, 9, 1, 10, 0), (0, 10, 14, 16, 0), (0, 9, 4, 12, 0), (1, 2, 0, 3, 0), (3, 4, 0, 12, 9), (2, 3, 6, 0, 0), (2, 3, 5, 0, 0), (1, 3, 4, 8, 0), (0, 8, 14, 12, 0), (1, 3, 3, 7, 0), (0, 7, 14, 12, 0), (1, 3, 2, 6, 0), (0, 6, 14, 16, 0), (1, 3, 1, 5, 0), (0, 5, 14, 16, 0), (1, 3, 0, 4, 0), (0, 4, 14, 12, 0), (0, 3, 8, 7, 0), (0, 2, 1, 8, 0), (0, 1, 11, 8, 0)]
set_option maxRecDepth 100000 in
theorem y_e1 : zX11_init 1 (y_al [] 11 8) = some y_T1 := by decide +kernel
set_option maxRecDepth 100000 in
theorem y_e2 : zX12_init 107 (y_al y_T1 12 79) = some y_T2 := by decide +kernel
theorem y_Q0 : y_Q n_h0 [] := ⟨rfl, rfl, fun _ => rfl, fun _ => rfl, fun _ _ => rfl, fun _ _ => rfl⟩
theorem y_start {N : Nat} (hN : 1000 ≤ N) : ∃ h1 h2 : nH, fX11_init N 1 (n_alloc n_h0 11 8) = some ((), h1) ∧ n_n h1.1 = 106 ∧ fX12_init 107 (n_alloc h1 12 79) = some ((), h2) ∧ y_Q h2 y_T2 := by
  obtain ⟨h1, a1, a2⟩ := sX11_init (N := N) (x0 := 1) hN (y_qal y_Q0 11 8) y_T1 y_e1
  obtain ⟨h2, b1, b2⟩ := sX12_init (N := N) (x0 := 107) hN (y_qal a2 12 79) y_T2 y_e2
  refine ⟨h1, h2, a1, ?_, b1, b2⟩
  rw [a2.1]
  decide +kernel
set_option maxRecDepth 100000 in
theorem y_kdT : ∀ a, a < 152 → y_k y_T2 a = n_nN n_kdL a 99 := by decide +kernel
set_option maxRecDepth 100000 in
theorem y_lenT : ∀ a, a < 152 → y_l y_T2 a = n_nN n_lenL a 0 := by decide +kernel
set_option maxRecDepth 100000 in
theorem y_mrT : ∀ a, a < 152 → ∀ k, k < (n_nL n_mrL a).length → y_r y_T2 a k = n_nN (n_nL n_mrL a) k 0 := by decide +kernel
theorem y_r_big {a k : Nat} : ∀ t : dT, t.all (fun x => Nat.blt x.2.2.1 (n_nL n_mrL x.2.1).length || !Nat.beq x.1 1) = true → (n_nL n_mrL a).length ≤ k → y_r t a k = 0
  | [], _, _ => rfl
  | (o, b, j, v, w) :: t, h, hk => by
    rw [List.all_cons, Bool.and_eq_true] at h
    have ih := y_r_big (a := a) (k := k) t h.2 hk
    unfold y_r
    cases e0 : (Nat.beq o 0 && Nat.beq a b) with
    | true => rfl
    | false =>
      cases e1 : (Nat.beq o 1 && (Nat.beq a b && Nat.beq k j)) with
      | false => exact ih
      | true =>
        exfalso
        rw [Bool.and_eq_true, Bool.and_eq_true] at e1
        have hj : k = j := Nat.eq_of_beq_eq_true e1.2.2
        have ha : a = b := Nat.eq_of_beq_eq_true e1.2.1
        have h1 := h.1
        rw [show Nat.beq (o, b, j, v, w).1 1 = true from e1.1, Bool.not_true, Bool.or_false] at h1
        have : j < (n_nL n_mrL b).length := Nat.le_of_ble_eq_true h1
        rw [ha] at hk
        omega
theorem n_nN_big : ∀ (l : List Nat) (k x : Nat), l.length ≤ k → n_nN l k x = x
  | [], _, _, _ => rfl
  | v :: l, 0, x, h => absurd h (by simp)
  | v :: l, k + 1, x, h => n_nN_big l k x (by rw [List.length_cons] at h; omega)
set_option maxRecDepth 100000 in
theorem y_all : y_T2.all (fun x => Nat.blt x.2.2.1 (n_nL n_mrL x.2.1).length || !Nat.beq x.1 1) = true := by decide +kernel
theorem y_GOK {h : nH} (hQ : y_Q h y_T2) : n_GOK h.1 := by
  refine ⟨fun a ha => by rw [hQ.2.2.1]; exact y_kdT a ha, fun a ha => by rw [hQ.2.2.2.1]; exact y_lenT a ha, fun a k ha _ => ?_⟩
  rw [hQ.2.2.2.2.1]
  by_cases z : k < (n_nL n_mrL a).length
  · exact y_mrT a ha k z
  · rw [y_r_big y_T2 y_all (by omega), n_nN_big _ _ _ (by omega)]
theorem y_m_no {a i : Nat} : ∀ t : dT, t.all (fun x => Nat.blt x.1 2 || !Nat.beq a x.2.1) = true → y_m t a i = 0
  | [], _ => rfl
  | (o, b, j, l, v) :: t, h => by
    rw [List.all_cons, Bool.and_eq_true] at h
    have ih := y_m_no (a := a) (i := i) t h.2
    unfold y_m
    cases e0 : (Nat.beq o 0 && Nat.beq a b) with
    | true => rfl
    | false =>
      have h1 : (Nat.blt o 2 || !Nat.beq a b) = true := h.1
      have e1 : (Nat.beq o 2 && (Nat.beq a b && Nat.beq i j)) = false := by
        cases eb : Nat.beq a b with
        | false => rw [Bool.false_and, Bool.and_false]
        | true =>
          rw [eb, Bool.not_true, Bool.or_false] at h1
          have : o < 2 := Nat.le_of_ble_eq_true h1
          rw [y_beq, decide_eq_false (by omega), Bool.false_and]
      have e2 : (Nat.beq o 3 && (Nat.beq a b && Nat.blt i l)) = false := by
        cases eb : Nat.beq a b with
        | false => rw [Bool.false_and, Bool.and_false]
        | true =>
          rw [eb, Bool.not_true, Bool.or_false] at h1
          have : o < 2 := Nat.le_of_ble_eq_true h1
          rw [y_beq, decide_eq_false (by omega), Bool.false_and]
      rw [e1, e2]
      exact ih
set_option maxRecDepth 100000 in
theorem y_d1 : y_m y_T2 3 5 = nI 0 := by decide +kernel
set_option maxRecDepth 100000 in
theorem y_d2 : y_m y_T2 3 6 = nI 0 := by decide +kernel
set_option maxRecDepth 100000 in
theorem y_d3 : y_m y_T2 107 6 = nI 0 := by decide +kernel
set_option maxRecDepth 100000 in
theorem y_d4 : y_m y_T2 107 7 = nI 0 := by decide +kernel
set_option maxRecDepth 100000 in
theorem y_d5 : ∀ k, k < 12 → y_m y_T2 4 k = y_m y_T2 111 k + 9 := by decide +kernel
set_option maxRecDepth 100000 in
theorem y_z5 : ∀ i, y_m y_T2 5 i = 0 := fun i => y_m_no _ (by decide +kernel)
set_option maxRecDepth 100000 in
theorem y_z112 : ∀ i, y_m y_T2 112 i = 0 := fun i => y_m_no _ (by decide +kernel)
theorem y_d6 : ∀ k, k < 16 → y_m y_T2 5 k = y_m y_T2 112 k := fun _ _ => (y_z5 _).trans (y_z112 _).symm
set_option maxRecDepth 100000 in
theorem y_z6 : ∀ i, y_m y_T2 6 i = 0 := fun i => y_m_no _ (by decide +kernel)
set_option maxRecDepth 100000 in
theorem y_z113 : ∀ i, y_m y_T2 113 i = 0 := fun i => y_m_no _ (by decide +kernel)
theorem y_d7 : ∀ k, k < 16 → y_m y_T2 6 k = y_m y_T2 113 k := fun _ _ => (y_z6 _).trans (y_z113 _).symm
set_option maxRecDepth 100000 in
theorem y_z7 : ∀ i, y_m y_T2 7 i = 0 := fun i => y_m_no _ (by decide +kernel)
set_option maxRecDepth 100000 in
theorem y_z114 : ∀ i, y_m y_T2 114 i = 0 := fun i => y_m_no _ (by decide +kernel)
theorem y_d8 : ∀ k, k < 12 → y_m y_T2 7 k = y_m y_T2 114 k := fun _ _ => (y_z7 _).trans (y_z114 _).symm
set_option maxRecDepth 100000 in
theorem y_z8 : ∀ i, y_m y_T2 8 i = 0 := fun i => y_m_no _ (by decide +kernel)
set_option maxRecDepth 100000 in
theorem y_z115 : ∀ i, y_m y_T2 115 i = 0 := fun i => y_m_no _ (by decide +kernel)
theorem y_d9 : ∀ k, k < 12 → y_m y_T2 8 k = y_m y_T2 115 k := fun _ _ => (y_z8 _).trans (y_z115 _).symm
set_option maxRecDepth 100000 in
theorem y_z10 : ∀ i, y_m y_T2 10 i = 0 := fun i => y_m_no _ (by decide +kernel)
set_option maxRecDepth 100000 in
theorem y_z108 : ∀ i, y_m y_T2 108 i = 0 := fun i => y_m_no _ (by decide +kernel)
theorem y_d10 : ∀ t, t < 16 → y_m y_T2 10 t = y_m y_T2 108 (28 + t) := fun _ _ => (y_z10 _).trans (y_z108 _).symm
theorem y_d11 : ∀ t, t < 16 → y_m y_T2 10 t = nI 0 := fun _ _ => (y_z10 _).trans (by decide)
set_option maxRecDepth 100000 in
theorem y_z11 : ∀ i, y_m y_T2 11 i = 0 := fun i => y_m_no _ (by decide +kernel)
theorem y_d12 : ∀ t, t < 16 → y_m y_T2 11 t = y_m y_T2 108 (44 + t) := fun _ _ => (y_z11 _).trans (y_z108 _).symm
set_option maxRecDepth 100000 in
theorem y_z12 : ∀ i, y_m y_T2 12 i = 0 := fun i => y_m_no _ (by decide +kernel)
theorem y_d13 : ∀ t, t < 12 → y_m y_T2 12 t = y_m y_T2 108 (88 + t) := fun _ _ => (y_z12 _).trans (y_z108 _).symm
theorem y_d14 : ∀ t, t < 12 → y_m y_T2 12 t = 0 := fun _ _ => (y_z12 _).trans (by decide)
set_option maxRecDepth 100000 in
theorem y_z13 : ∀ i, y_m y_T2 13 i = 0 := fun i => y_m_no _ (by decide +kernel)
theorem y_d15 : ∀ t, t < 12 → y_m y_T2 13 t = y_m y_T2 108 (16 + t) := fun _ _ => (y_z13 _).trans (y_z108 _).symm
set_option maxRecDepth 100000 in
theorem y_d16 : y_m y_T2 9 5 = 0 := by decide +kernel
theorem y_d17 : ∀ t, t < 16 → y_m y_T2 108 (60 + t) = 0 := fun _ _ => (y_z108 _).trans (by decide)
set_option maxRecDepth 100000 in
theorem y_d18 : y_m y_T2 9 6 = 0 := by decide +kernel
theorem y_d19 : ∀ t, t < 12 → y_m y_T2 108 (76 + t) = 0 := fun _ _ => (y_z108 _).trans (by decide)
set_option maxRecDepth 100000 in
theorem y_d20 : y_m y_T2 9 7 = 0 := by decide +kernel
theorem y_d21 : ∀ t, t < 12 → y_m y_T2 108 (4 + t) = 0 := fun _ _ => (y_z108 _).trans (by decide)
set_option maxRecDepth 100000 in
theorem y_d22 : y_m y_T2 9 8 = y_m y_T2 108 3 := by decide +kernel
set_option maxRecDepth 100000 in
theorem y_d23 : y_m y_T2 9 9 = y_m y_T2 108 0 := by decide +kernel
set_option maxRecDepth 100000 in
theorem y_d24 : y_m y_T2 9 10 = y_m y_T2 108 1 := by decide +kernel
set_option maxRecDepth 100000 in
theorem y_d25 : y_m y_T2 9 11 = y_m y_T2 108 2 := by decide +kernel
set_option maxRecDepth 100000 in
theorem y_d26 : y_m y_T2 9 11 = nI 0 := by decide +kernel
set_option maxRecDepth 100000 in
theorem y_z15 : ∀ i, y_m y_T2 15 i = 0 := fun i => y_m_no _ (by decide +kernel)
set_option maxRecDepth 100000 in
theorem y_z116 : ∀ i, y_m y_T2 116 i = 0 := fun i => y_m_no _ (by decide +kernel)
theorem y_d27 : ∀ k, k < 600 → y_m y_T2 15 k = y_m y_T2 116 k := fun _ _ => (y_z15 _).trans (y_z116 _).symm
set_option maxRecDepth 100000 in
theorem y_d28 : y_m y_T2 16 6 = nI 0 := by decide +kernel
set_option maxRecDepth 100000 in
theorem y_z119 : ∀ i, y_m y_T2 119 i = 0 := fun i => y_m_no _ (by decide +kernel)
theorem y_d29 : y_m y_T2 119 0 = nI 0 := (y_z119 _).trans (by decide)
set_option maxRecDepth 100000 in
theorem y_d30 : y_m y_T2 22 3 = nI 0 := by decide +kernel
set_option maxRecDepth 100000 in
theorem y_d31 : y_m y_T2 107 37 = nI 0 := by decide +kernel
set_option maxRecDepth 100000 in
theorem y_d32 : y_m y_T2 24 3 = nI 0 := by decide +kernel
set_option maxRecDepth 100000 in
theorem y_d33 : y_m y_T2 107 39 = nI 0 := by decide +kernel
set_option maxRecDepth 100000 in
theorem y_z129 : ∀ i, y_m y_T2 129 i = 0 := fun i => y_m_no _ (by decide +kernel)
theorem y_d34 : ∀ c, c < 12 → y_m y_T2 129 c = 0 := fun _ _ => (y_z129 _).trans (by decide)
set_option maxRecDepth 100000 in
theorem y_d35 : y_m y_T2 26 3 = nI 0 := by decide +kernel
set_option maxRecDepth 100000 in
theorem y_d36 : y_m y_T2 107 41 = nI 0 := by decide +kernel
set_option maxRecDepth 100000 in
theorem y_d37 : y_m y_T2 29 3 = nI 0 := by decide +kernel
set_option maxRecDepth 100000 in
theorem y_d38 : y_m y_T2 107 46 = nI 0 := by decide +kernel
set_option maxRecDepth 100000 in
theorem y_d39 : y_m y_T2 31 3 = nI 0 := by decide +kernel
set_option maxRecDepth 100000 in
theorem y_d40 : y_m y_T2 107 49 = nI 0 := by decide +kernel
set_option maxRecDepth 100000 in
theorem y_d41 : y_m y_T2 33 3 = nI 0 := by decide +kernel
set_option maxRecDepth 100000 in
theorem y_d42 : y_m y_T2 107 51 = nI 0 := by decide +kernel
set_option maxRecDepth 100000 in
theorem y_z139 : ∀ i, y_m y_T2 139 i = 0 := fun i => y_m_no _ (by decide +kernel)
theorem y_d43 : ∀ c, c < 10 → y_m y_T2 139 c = 0 := fun _ _ => (y_z139 _).trans (by decide)
set_option maxRecDepth 100000 in
theorem y_d44 : y_m y_T2 35 3 = nI 0 := by decide +kernel
set_option maxRecDepth 100000 in
theorem y_d45 : y_m y_T2 107 55 = nI 0 := by decide +kernel
set_option maxRecDepth 100000 in
theorem y_d46 : y_m y_T2 37 3 = nI 0 := by decide +kernel
set_option maxRecDepth 100000 in
theorem y_d47 : y_m y_T2 107 65 = nI 0 := by decide +kernel
set_option maxRecDepth 100000 in
theorem y_d48 : y_m y_T2 39 3 = nI 0 := by decide +kernel
set_option maxRecDepth 100000 in
theorem y_d49 : y_m y_T2 107 70 = nI 0 := by decide +kernel
set_option maxRecDepth 100000 in
theorem y_d50 : y_m y_T2 41 3 = nI 0 := by decide +kernel
set_option maxRecDepth 100000 in
theorem y_d51 : y_m y_T2 107 72 = nI 0 := by decide +kernel
set_option maxRecDepth 100000 in
theorem y_d52 : ∀ k, k < 12 → y_m y_T2 43 k = nI 2 := by decide +kernel
set_option maxRecDepth 100000 in
theorem y_z141 : ∀ i, y_m y_T2 141 i = 0 := fun i => y_m_no _ (by decide +kernel)
theorem y_d53 : ∀ k, k < 12 → y_m y_T2 141 k = nI 2 - 2 := fun _ _ => (y_z141 _).trans (by decide)
set_option maxRecDepth 100000 in
theorem y_z44 : ∀ i, y_m y_T2 44 i = 0 := fun i => y_m_no _ (by decide +kernel)
theorem y_d54 : ∀ k, k < 36 → y_m y_T2 44 k = nI 0 := fun _ _ => (y_z44 _).trans (by decide)
set_option maxRecDepth 100000 in
theorem y_z143 : ∀ i, y_m y_T2 143 i = 0 := fun i => y_m_no _ (by decide +kernel)
theorem y_d55 : ∀ k, k < 36 → y_m y_T2 143 k = nI 0 := fun _ _ => (y_z143 _).trans (by decide)
set_option maxRecDepth 100000 in
theorem y_d56 : y_m y_T2 48 2 = nI 0 := by decide +kernel
set_option maxRecDepth 100000 in
theorem y_d57 : y_m y_T2 48 1 = nI 0 := by decide +kernel
set_option maxRecDepth 100000 in
theorem y_d58 : y_m y_T2 107 3 = nI 0 := by decide +kernel
set_option maxRecDepth 100000 in
theorem y_d59 : y_m y_T2 80 9 = nI 0 := by decide +kernel
set_option maxRecDepth 100000 in
theorem y_d60 : y_m y_T2 107 15 = nI 0 := by decide +kernel
set_option maxRecDepth 100000 in
theorem y_d61 : y_m y_T2 80 10 = y_m y_T2 107 35 := by decide +kernel
set_option maxRecDepth 100000 in
theorem y_d62 : y_m y_T2 80 11 = y_m y_T2 107 36 := by decide +kernel
set_option maxRecDepth 100000 in
theorem y_d63 : y_m y_T2 9 0 = 0 := by decide +kernel
set_option maxRecDepth 100000 in
theorem y_d64 : y_m y_T2 93 0 = 1 := by decide +kernel
set_option maxRecDepth 100000 in
theorem y_d65 : y_m y_T2 14 1 = nI 4 := by decide +kernel
set_option maxRecDepth 100000 in
theorem y_d66 : y_m y_T2 14 2 = nI 150 := by decide +kernel
set_option maxRecDepth 100000 in
theorem y_d67 : y_m y_T2 22 1 = nI 4 := by decide +kernel
set_option maxRecDepth 100000 in
theorem y_d68 : y_m y_T2 22 2 = nI 16 := by decide +kernel
set_option maxRecDepth 100000 in
theorem y_d69 : y_m y_T2 24 1 = nI 4 := by decide +kernel
set_option maxRecDepth 100000 in
theorem y_d70 : y_m y_T2 24 2 = nI 16 := by decide +kernel
set_option maxRecDepth 100000 in
theorem y_d71 : y_m y_T2 26 1 = nI 4 := by decide +kernel
set_option maxRecDepth 100000 in
theorem y_d72 : y_m y_T2 26 2 = nI 16 := by decide +kernel
set_option maxRecDepth 100000 in
theorem y_d73 : y_m y_T2 29 1 = nI 2 := by decide +kernel
set_option maxRecDepth 100000 in
theorem y_d74 : y_m y_T2 29 2 = nI 16 := by decide +kernel
set_option maxRecDepth 100000 in
theorem y_d75 : y_m y_T2 31 1 = nI 1 := by decide +kernel
set_option maxRecDepth 100000 in
theorem y_d76 : y_m y_T2 31 2 = nI 4 := by decide +kernel
set_option maxRecDepth 100000 in
theorem y_d77 : y_m y_T2 33 1 = nI 2 := by decide +kernel
set_option maxRecDepth 100000 in
theorem y_d78 : y_m y_T2 33 2 = nI 8 := by decide +kernel
set_option maxRecDepth 100000 in
theorem y_d79 : y_m y_T2 35 1 = nI 2 := by decide +kernel
set_option maxRecDepth 100000 in
theorem y_d80 : y_m y_T2 35 2 = nI 12 := by decide +kernel
set_option maxRecDepth 100000 in
theorem y_d81 : y_m y_T2 37 1 = nI 3 := by decide +kernel
set_option maxRecDepth 100000 in
theorem y_d82 : y_m y_T2 37 2 = nI 10 := by decide +kernel
set_option maxRecDepth 100000 in
theorem y_d83 : y_m y_T2 39 1 = nI 1 := by decide +kernel
set_option maxRecDepth 100000 in
theorem y_d84 : y_m y_T2 39 2 = nI 6 := by decide +kernel
set_option maxRecDepth 100000 in
theorem y_d85 : y_m y_T2 41 1 = nI 1 := by decide +kernel
set_option maxRecDepth 100000 in
theorem y_d86 : y_m y_T2 41 2 = nI 5 := by decide +kernel
set_option maxRecDepth 100000 in
theorem y_d87 : y_m y_T2 91 1 = nI 4 := by decide +kernel
set_option maxRecDepth 100000 in
theorem y_d88 : y_m y_T2 91 2 = nI 16 := by decide +kernel
set_option maxRecDepth 100000 in
theorem y_d89 : y_m y_T2 107 5 = 0 := by decide +kernel
set_option maxRecDepth 100000 in
theorem y_d90 : ∀ k, k < 145 → y_m y_T2 118 k = nI (n_mw.getD k 0) := by decide +kernel
set_option maxRecDepth 100000 in
theorem y_d91 : y_n y_T2 = 151 := by decide +kernel
set_option maxRecDepth 100000 in
theorem y_d92 : y_s y_T2 ≤ 100000 := by decide +kernel
set_option maxRecDepth 100000 in
theorem y_d93 : y_r y_T2 1 7 = 0 := by decide +kernel
set_option maxRecDepth 100000 in
theorem y_d94 : y_m y_T2 107 76 = 0 := by decide +kernel
theorem y_Rel {h : nH} (hQ : y_Q h y_T2) : Rel h.1 h.2 0 0 := by
  have e : h.2 = y_m y_T2 := funext fun a => funext fun i => hQ.2.2.2.2.2 a i
  rw [e]
  exact ⟨⟨⟨⟨by decide, by decide⟩, ⟨y_d1, y_d2⟩, ⟨y_d3, y_d4⟩, y_d5, y_d6, y_d7, y_d8, y_d9⟩, ⟨⟨y_d10, fun t ht => ⟨0, by decide, y_d11 t ht⟩⟩, y_d12, ⟨y_d13, fun t _ ht => y_d14 t ht⟩, y_d15, ⟨fun t ht => Or.inr ⟨by rw [y_d16]; exact b_0 t, y_d17 t ht⟩, fun t _ => by rw [y_d16]; exact b_0 t⟩, ⟨fun t ht => Or.inr ⟨by rw [y_d18]; exact b_0 t, y_d19 t ht⟩, fun t _ => by rw [y_d18]; exact b_0 t⟩, ⟨fun t ht => Or.inr ⟨by rw [y_d20]; exact b_0 t, y_d21 t ht⟩, fun t _ => by rw [y_d20]; exact b_0 t⟩, y_d22, y_d23, y_d24, y_d25, 0, by decide, y_d26⟩, y_d27, ⟨[], by decide, y_d28, y_d29, fun i x hx => absurd hx (by simp)⟩, ⟨0, by decide, y_d30, y_d31, fun i hi => absurd hi (by omega), fun i hi => absurd hi (by omega)⟩, ⟨0, by decide, y_d32, y_d33, fun i hi => absurd hi (by omega), fun i hi => absurd hi (by omega)⟩, ⟨[], by decide, y_d35, y_d36, fun i x hx => absurd hx (by simp), fun c hc t => by rw [y_d34 c hc, b_0]; simp, fun c => Nat.zero_le _⟩, ⟨[], by decide, y_d37, y_d38, fun i x hx => absurd hx (by simp)⟩, ⟨[], by decide, y_d39, y_d40, fun i x hx => absurd hx (by simp)⟩, ⟨[], by decide, y_d41, y_d42, fun i x hx => absurd hx (by simp)⟩, ⟨[], by decide, y_d44, y_d45, fun i x hx => absurd hx (by simp), fun c hc t => by rw [y_d43 c hc, b_0]; simp⟩, ⟨[], by decide, y_d46, y_d47, fun i x hx => absurd hx (by simp)⟩, ⟨[], by decide, y_d48, y_d49, fun i x hx => absurd hx (by simp)⟩, ⟨[], by decide, y_d50, y_d51, fun i x hx => absurd hx (by simp)⟩, fun k hk => ⟨2, by decide, y_d52 k hk, y_d53 k hk⟩, fun k hk => ⟨0, by decide, y_d54 k hk, y_d55 k hk⟩⟩, ⟨0, 0, by decide, by decide, y_d56, y_d57, y_d58, fun j hj => absurd hj (by omega)⟩, ⟨⟨0, by decide, y_d59, y_d60, fun i hi => absurd hi (by omega)⟩, y_d61, y_d62⟩, ⟨y_d63, y_d64, ⟨y_d65, y_d66⟩, ⟨y_d67, y_d68⟩, ⟨y_d69, y_d70⟩, ⟨y_d71, y_d72⟩, ⟨y_d73, y_d74⟩, ⟨y_d75, y_d76⟩, ⟨y_d77, y_d78⟩, ⟨y_d79, y_d80⟩, ⟨y_d81, y_d82⟩, ⟨y_d83, y_d84⟩, ⟨y_d85, y_d86⟩, ⟨y_d87, y_d88⟩, y_d89⟩, y_d90, Or.inl ⟨by rw [hQ.1]; exact y_d91, by rw [hQ.2.1]; exact y_d92, by rw [hQ.2.2.2.2.1]; exact y_d93, y_d94⟩⟩
