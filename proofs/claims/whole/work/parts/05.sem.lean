/-! THE SEMANTICS of the abstract machine; its tables of fields, links, lengths (by program) -/
def zFTY : List (List Nat) := [[2, 2, 0], [2, 2, 2], [2, 2, 0, 0], [2, 2, 2, 2, 2, 2, 2, 2, 0, 0, 0, 0, 0, 0, 0], [2, 0, 0], [2, 2, 0, 0], [2, 2, 0, 0, 0, 0, 0, 0], [2, 2, 2, 0], [2, 5, 5, 0], [2, 2, 2, 2, 3, 1, 0, 0, 0, 0, 0], [2, 2, 2, 2, 2, 2, 2, 2, 2, 2, 2], [2, 2, 2, 2, 2, 2, 2, 2, 2, 1], [0, 2, 2, 0, 2, 1, 0, 0, 2, 2, 2, 2, 0, 0, 0, 0, 0, 2, 2, 2, 2, 2, 2, 2, 2, 0, 0, 0, 2, 0, 0, 0, 0, 0, 0, 2, 0, 2, 0, 2, 2, 2, 0, 0, 0, 2, 2, 1, 0, 2, 2, 0, 2, 2, 2, 2, 2, 0, 2, 0, 2, 2, 0, 2, 2, 1, 1, 0, 2], [], [], [2, 4]]
def zTGT : List (List (Nat → Nat × Nat × Nat)) := [[fun i => (0, i, 1), fun i => (0, i, 2), fun _ => (99, 0, 0)], [fun _ => (2, 0, 0), fun i => (1, i, 2), fun i => (1, i, 3)], [fun i => (2, i, 1), fun i => (2, i, 2), fun _ => (99, 0, 0), fun _ => (99, 0, 0)], [fun i => (3, i, 1), fun i => (3, i, 2), fun i => (3, i, 3), fun i => (3, i, 4), fun i => (3, i, 5), fun i => (3, i, 6), fun i => (3, i, 7), fun i => (3, i, 8), fun _ => (99, 0, 0), fun _ => (99, 0, 0), fun _ => (99, 0, 0), fun _ => (99, 0, 0), fun _ => (99, 0, 0), fun _ => (99, 0, 0), fun _ => (99, 0, 0)], [fun i => (4, i, 1), fun _ => (99, 0, 0), fun _ => (99, 0, 0)], [fun i => (5, i, 1), fun i => (5, i, 2), fun _ => (99, 0, 0), fun _ => (99, 0, 0)], [fun _ => (7, 0, 0), fun _ => (2, 8, 0), fun _ => (99, 0, 0), fun _ => (99, 0, 0), fun _ => (99, 0, 0), fun _ => (99, 0, 0), fun _ => (99, 0, 0), fun _ => (99, 0, 0)], [fun i => (7, i, 1), fun i => (7, i, 2), fun i => (7, i, 3), fun _ => (99, 0, 0)], [fun i => (8, i, 1), fun _ => (99, 0, 0), fun _ => (99, 0, 0), fun _ => (99, 0, 0)], [fun _ => (10, 0, 0), fun _ => (1, 0, 0), fun i => (9, i, 3), fun i => (9, i, 4), fun _ => (99, 0, 0), fun _ => (99, 0, 0), fun _ => (99, 0, 0), fun _ => (99, 0, 0), fun _ => (99, 0, 0), fun _ => (99, 0, 0), fun _ => (99, 0, 0)], [fun i => (3, i, 0), fun i => (10, i, 2), fun i => (2, 4 * i, 0), fun i => (2, 4 * i + 1, 0), fun i => (2, 4 * i + 2, 0), fun i => (2, 4 * i + 3, 0), fun i => (8, 5 * i, 0), fun i => (8, 5 * i + 1, 0), fun i => (8, 5 * i + 2, 0), fun i => (8, 5 * i + 3, 0), fun i => (8, 5 * i + 4, 0)], [fun _ => (10, 0, 0), fun _ => (10, 1, 0), fun _ => (3, 2, 0), fun _ => (4, 0, 0), fun _ => (7, 0, 0), fun _ => (6, 0, 0), fun _ => (9, 0, 0), fun _ => (0, 0, 0), fun _ => (5, 0, 0), fun _ => (99, 0, 0)], [fun _ => (99, 0, 0), fun i => (12, i, 2), fun i => (12, i, 3), fun _ => (99, 0, 0), fun i => (12, i, 5), fun _ => (99, 0, 0), fun _ => (99, 0, 0), fun _ => (99, 0, 0), fun i => (12, i, 9), fun i => (12, i, 10), fun i => (12, i, 11), fun i => (12, i, 12), fun _ => (99, 0, 0), fun _ => (99, 0, 0), fun _ => (99, 0, 0), fun _ => (99, 0, 0), fun _ => (99, 0, 0), fun i => (12, i, 18), fun i => (12, i, 19), fun i => (12, i, 20), fun i => (12, i, 21), fun i => (12, i, 22), fun i => (12, i, 23), fun i => (12, i, 24), fun i => (12, i, 25), fun _ => (99, 0, 0), fun _ => (99, 0, 0), fun _ => (99, 0, 0), fun i => (12, i, 29), fun _ => (99, 0, 0), fun _ => (99, 0, 0), fun _ => (99, 0, 0), fun _ => (99, 0, 0), fun _ => (99, 0, 0), fun _ => (99, 0, 0), fun i => (12, i, 36), fun _ => (99, 0, 0), fun i => (12, i, 38), fun _ => (99, 0, 0), fun i => (12, i, 40), fun i => (12, i, 41), fun i => (12, i, 42), fun _ => (99, 0, 0), fun _ => (99, 0, 0), fun _ => (99, 0, 0), fun i => (12, i, 46), fun i => (12, i, 47), fun _ => (99, 0, 0), fun _ => (99, 0, 0), fun i => (12, i, 50), fun i => (12, i, 51), fun _ => (99, 0, 0), fun i => (12, i, 53), fun i => (12, i, 54), fun i => (12, i, 55), fun i => (12, i, 56), fun i => (12, i, 57), fun _ => (99, 0, 0), fun i => (12, i, 59), fun _ => (99, 0, 0), fun i => (12, i, 61), fun i => (12, i, 62), fun _ => (99, 0, 0), fun i => (12, i, 64), fun i => (12, i, 65), fun _ => (99, 0, 0), fun _ => (99, 0, 0), fun _ => (99, 0, 0), fun i => (12, i, 69)], [], [], [fun i => (15, i, 1), fun _ => (99, 0, 0)]]
def zATY : List (List Nat) := [[9, 0, 1, 9], [9, 9, 0, 0], [9, 0, 0, 9, 9], [9, 0, 0, 0, 0, 0, 0, 0, 0, 9, 9, 9, 9, 9, 9, 9], [9, 2, 9, 9], [9, 0, 0, 9, 9], [9, 9, 9, 9, 9, 9, 9, 9, 9], [9, 1, 0, 0, 9], [9, 0, 9, 9, 9], [9, 9, 9, 0, 0, 9, 9, 9, 9, 9, 9, 9], [9, 9, 0, 9, 9, 9, 9, 9, 9, 9, 9, 9], [9, 9, 9, 9, 9, 9, 9, 9, 9, 9, 9], [9, 9, 0, 0, 9, 0, 9, 9, 9, 0, 0, 0, 0, 9, 9, 9, 9, 9, 0, 0, 0, 0, 0, 0, 0, 0, 9, 9, 9, 0, 9, 9, 9, 9, 9, 9, 0, 9, 0, 9, 0, 0, 0, 9, 9, 9, 0, 0, 9, 9, 0, 0, 9, 0, 0, 0, 0, 0, 9, 0, 9, 0, 0, 9, 0, 0, 9, 9, 9, 0], [0], [0], [9, 1]]
def zALN : List (List (Nat → Nat → Nat)) := [[fun _ _ => 0, fun _ _ => 12, fun _ _ => 4096, fun _ _ => 0], [fun _ _ => 0, fun _ _ => 0, fun _ _ => 11, fun _ _ => 64], [fun _ _ => 0, fun _ _ => 80, fun _ i => if i % 4 = 0 then 400 else 0, fun _ _ => 0, fun _ _ => 0], [fun _ _ => 0, fun _ _ => 60, fun _ _ => 12, fun _ _ => 12, fun _ _ => 12, fun _ _ => 10, fun _ _ => 10, fun _ _ => 10, fun _ _ => 10, fun _ _ => 0, fun _ _ => 0, fun _ _ => 0, fun _ _ => 0, fun _ _ => 0, fun _ _ => 0, fun _ _ => 0], [fun _ _ => 0, fun _ _ => 6, fun _ _ => 0, fun _ _ => 0], [fun _ _ => 0, fun _ _ => 9, fun _ _ => 4, fun _ _ => 0, fun _ _ => 0], [fun _ _ => 0, fun _ _ => 0, fun _ _ => 0, fun _ _ => 0, fun _ _ => 0, fun _ _ => 0, fun _ _ => 0, fun _ _ => 0, fun _ _ => 0], [fun _ _ => 0, fun _ _ => 400, fun _ _ => 401, fun _ _ => 401, fun _ _ => 0], [fun _ _ => 0, fun _ i => [16, 9, 5, 7, 6].getD (i % 5) 0, fun _ _ => 0, fun _ _ => 0, fun _ _ => 0], [fun _ _ => 0, fun _ _ => 0, fun _ _ => 0, fun _ _ => 5, fun _ _ => 5, fun _ _ => 0, fun _ _ => 0, fun _ _ => 0, fun _ _ => 0, fun _ _ => 0, fun _ _ => 0, fun _ _ => 0], [fun _ _ => 0, fun _ _ => 0, fun _ _ => 600, fun _ _ => 0, fun _ _ => 0, fun _ _ => 0, fun _ _ => 0, fun _ _ => 0, fun _ _ => 0, fun _ _ => 0, fun _ _ => 0, fun _ _ => 0], [fun _ _ => 0, fun _ _ => 0, fun _ _ => 0, fun _ _ => 0, fun _ _ => 0, fun _ _ => 0, fun _ _ => 0, fun _ _ => 0, fun _ _ => 0, fun _ _ => 0, fun _ _ => 0], [fun _ _ => 0, fun _ _ => 0, fun _ _ => 121, fun _ _ => 726, fun _ _ => 0, fun _ _ => 121, fun _ _ => 0, fun _ _ => 0, fun _ _ => 0, fun _ _ => 10, fun _ _ => 10, fun _ _ => 600, fun _ _ => 400, fun _ _ => 0, fun _ _ => 0, fun _ _ => 0, fun _ _ => 0, fun _ _ => 0, fun _ _ => 140, fun _ _ => 2, fun _ _ => 48, fun _ _ => 48, fun _ _ => 48, fun _ _ => 48, fun _ _ => 1200, fun _ _ => 1200, fun _ _ => 0, fun _ _ => 0, fun _ _ => 0, fun _ _ => 40, fun _ _ => 0, fun _ _ => 0, fun _ _ => 0, fun _ _ => 0, fun _ _ => 0, fun _ _ => 0, fun _ _ => 160, fun _ _ => 0, fun _ _ => 160, fun _ _ => 0, fun _ _ => 24, fun _ _ => 11, fun _ _ => 420, fun _ _ => 0, fun _ _ => 0, fun _ _ => 0, fun _ _ => 5, fun _ _ => 5, fun _ _ => 0, fun _ _ => 0, fun _ _ => 16, fun _ _ => 16, fun _ _ => 0, fun _ _ => 9, fun _ _ => 9, fun _ _ => 13, fun _ _ => 4096, fun _ _ => 3600, fun _ _ => 0, fun _ _ => 5, fun _ _ => 0, fun _ _ => 7, fun _ _ => 4, fun _ _ => 0, fun _ _ => 6, fun _ _ => 21, fun _ _ => 0, fun _ _ => 0, fun _ _ => 0, fun _ _ => 2400], [fun L _ => L], [fun _ _ => 21], [fun _ _ => 0, fun _ _ => 139]]
def zNIN : List Nat := [1, 1, 9, 9, 1, 1, 1, 1, 10, 1, 2, 1, 1, 1, 1, 1]
def zFLK : List (Nat × Nat × Nat × Nat) := [(3, 9, 3, 0), (11, 110, 3, 0), (9, 150, 3, 0), (3, 15, 3, 1), (9, 79, 3, 1), (11, 114, 3, 1), (3, 18, 3, 2), (9, 117, 3, 2), (11, 149, 3, 2), (3, 21, 3, 3), (9, 76, 3, 3), (11, 200, 3, 3), (3, 24, 3, 4), (9, 110, 3, 4), (11, 206, 3, 4), (3, 27, 3, 5), (9, 70, 3, 5), (11, 120, 3, 5), (3, 30, 3, 6), (9, 73, 3, 6), (11, 123, 3, 6), (3, 33, 3, 7), (9, 125, 3, 7), (11, 209, 3, 7), (3, 42, 3, 8), (11, 82, 3, 8), (3, 46, 3, 9), (11, 93, 3, 9), (3, 49, 3, 10), (9, 136, 3, 10), (11, 240, 3, 10), (3, 52, 3, 11), (9, 161, 3, 11), (11, 243, 3, 11), (3, 55, 3, 12), (9, 86, 3, 12), (11, 152, 3, 12), (3, 58, 3, 13), (9, 164, 3, 13), (11, 226, 3, 13), (11, 75, 3, 14), (3, 61, 3, 14), (9, 157, 3, 14), (2, 9, 2, 0), (2, 15, 2, 1), (1, 50, 2, 1), (1, 22, 2, 2), (2, 24, 2, 2), (6, 43, 2, 2), (10, 79, 2, 2), (11, 188, 2, 2), (9, 173, 2, 2), (2, 28, 2, 3), (6, 46, 2, 3), (8, 9, 8, 0), (5, 24, 8, 0), (8, 15, 8, 1), (8, 19, 8, 2), (5, 18, 8, 3), (8, 28, 8, 3), (10, 12, 10, 0), (9, 36, 10, 0), (11, 72, 10, 0), (10, 18, 10, 1), (9, 167, 10, 1), (11, 229, 10, 1), (9, 24, 10, 2), (10, 27, 10, 2), (10, 31, 10, 3), (9, 185, 10, 3), (10, 34, 10, 4), (9, 170, 10, 4), (10, 37, 10, 5), (10, 45, 10, 6), (11, 252, 10, 6), (10, 51, 10, 7), (11, 273, 10, 7), (10, 54, 10, 8), (11, 302, 10, 8), (10, 57, 10, 9), (11, 329, 10, 9), (10, 60, 10, 10), (11, 351, 10, 10), (4, 11, 4, 0), (4, 22, 4, 1), (4, 18, 4, 2), (11, 357, 4, 2), (7, 11, 7, 0), (7, 15, 7, 1), (6, 31, 7, 1), (7, 19, 7, 2), (6, 68, 7, 2), (7, 22, 7, 3), (11, 158, 7, 3), (6, 24, 6, 0), (6, 14, 6, 1), (11, 178, 6, 1), (6, 28, 6, 2), (6, 37, 6, 3), (6, 40, 6, 4), (11, 191, 6, 4), (6, 20, 6, 5), (11, 194, 6, 5), (6, 49, 6, 6), (6, 52, 6, 7), (1, 18, 1, 0), (1, 11, 1, 1), (9, 61, 1, 1), (1, 15, 1, 2), (9, 18, 9, 0), (9, 33, 9, 1), (9, 9, 9, 2), (9, 15, 9, 3), (9, 40, 9, 4), (9, 41, 9, 5), (9, 45, 9, 6), (9, 49, 9, 7), (9, 52, 9, 8), (9, 55, 9, 9), (9, 58, 9, 10), (0, 9, 0, 0), (0, 15, 0, 1), (0, 19, 0, 2), (5, 11, 5, 0), (5, 15, 5, 1), (5, 49, 5, 2), (11, 336, 5, 2), (5, 52, 5, 3), (11, 339, 5, 3), (11, 10, 11, 0), (11, 16, 11, 1), (11, 22, 11, 2), (11, 29, 11, 3), (11, 36, 11, 4), (11, 45, 11, 5), (11, 54, 11, 6), (11, 61, 11, 7), (11, 68, 11, 8), (11, 363, 11, 9), (12, 122, 12, 0), (12, 7, 12, 1), (12, 13, 12, 2), (12, 126, 12, 3), (12, 16, 12, 4), (12, 129, 12, 5), (12, 135, 12, 6), (12, 138, 12, 7), (12, 19, 12, 8), (12, 22, 12, 9), (12, 25, 12, 10), (12, 28, 12, 11), (12, 163, 12, 12), (12, 170, 12, 13), (12, 177, 12, 14), (12, 180, 12, 15), (12, 183, 12, 16), (12, 31, 12, 17), (12, 34, 12, 18), (12, 37, 12, 19), (12, 40, 12, 20), (12, 43, 12, 21), (12, 46, 12, 22), (12, 49, 12, 23), (12, 52, 12, 24), (12, 259, 12, 25), (12, 205, 12, 26), (12, 237, 12, 27), (12, 55, 12, 28), (12, 234, 12, 29), (12, 199, 12, 30), (12, 202, 12, 31), (12, 301, 12, 32), (12, 58, 12, 33), (12, 295, 12, 34), (12, 62, 12, 35), (12, 298, 12, 36), (12, 65, 12, 37), (12, 292, 12, 38), (12, 68, 12, 39), (12, 71, 12, 40), (12, 74, 12, 41), (12, 322, 12, 42), (12, 325, 12, 43), (12, 328, 12, 44), (12, 77, 12, 45), (12, 80, 12, 46), (12, 360, 12, 47), (12, 419, 12, 48), (12, 83, 12, 49), (12, 86, 12, 50), (12, 428, 12, 51), (12, 89, 12, 52), (12, 92, 12, 53), (12, 95, 12, 54), (12, 98, 12, 55), (12, 101, 12, 56), (12, 455, 12, 57), (12, 104, 12, 58), (12, 472, 12, 59), (12, 107, 12, 60), (12, 110, 12, 61), (12, 481, 12, 62), (12, 113, 12, 63), (12, 116, 12, 64), (12, 490, 12, 65), (12, 496, 12, 66), (12, 487, 12, 67), (12, 119, 12, 68), (15, 9, 15, 0), (15, 15, 15, 1)]
def zMLK : List (Nat × Nat × Nat) := [(13, 9, 108), (11, 1, 998), (11, 9, 104), (10, 3, 998), (10, 11, 22), (3, 3, 998), (10, 24, 17), (2, 3, 998), (10, 42, 82), (8, 3, 998), (11, 21, 22), (11, 28, 36), (4, 3, 998), (4, 17, 22), (11, 35, 73), (7, 5, 998), (11, 42, 56), (6, 3, 998), (6, 11, 17), (11, 51, 85), (9, 3, 998), (9, 30, 11), (1, 3, 998), (11, 60, 0), (0, 3, 998), (11, 67, 40), (5, 3, 998), (13, 13, 109), (11, 79, 37), (13, 18, 110), (11, 85, 153), (11, 89, 27), (13, 23, 111), (11, 96, 24), (11, 100, 28), (13, 28, 112), (11, 104, 113), (11, 107, 114), (11, 117, 25), (13, 33, 115), (11, 126, 91), (9, 92, 24), (9, 107, 25), (9, 96, 153), (9, 100, 88), (9, 104, 92), (9, 113, 89), (9, 64, 26), (9, 82, 107), (10, 83, 19), (9, 89, 12), (1, 28, 19), (1, 32, 15), (1, 53, 16), (1, 35, 14), (1, 42, 996), (1, 47, 997), (1, 38, 13), (11, 130, 38), (4, 25, 23), (3, 36, 999), (4, 29, 996), (11, 134, 93), (9, 120, 996), (9, 128, 100), (11, 138, 94), (9, 132, 95), (9, 147, 96), (9, 139, 97), (9, 153, 98), (9, 143, 99), (13, 38, 116), (11, 142, 90), (11, 145, 100), (13, 42, 117), (13, 47, 118), (11, 155, 101), (9, 178, 19), (9, 181, 102), (9, 198, 103), (9, 201, 997), (9, 188, 91), (9, 192, 93), (9, 195, 94), (13, 51, 119), (11, 161, 74), (13, 56, 120), (13, 61, 121), (11, 165, 75), (7, 26, 77), (7, 30, 79), (7, 50, 288), (15, 335, 290), (7, 55, 289), (15, 492, 291), (15, 495, 293), (17, 9, 292), (15, 1059, 294), (7, 34, 76), (7, 38, 78), (7, 41, 80), (7, 44, 81), (11, 168, 57), (11, 171, 58), (6, 55, 67), (6, 82, 62), (6, 71, 60), (6, 75, 59), (6, 78, 20), (6, 93, 70), (6, 107, 71), (6, 104, 21), (6, 110, 72), (6, 96, 68), (6, 99, 69), (6, 90, 61), (6, 59, 64), (6, 86, 63), (6, 62, 65), (6, 65, 66), (11, 174, 106), (11, 182, 18), (2, 18, 999), (2, 31, 996), (13, 65, 122), (13, 69, 123), (11, 197, 26), (11, 203, 107), (13, 73, 124), (13, 77, 125), (11, 212, 128), (11, 216, 88), (11, 222, 89), (13, 81, 126), (13, 85, 127), (13, 89, 129), (13, 93, 130), (11, 232, 23), (11, 234, 86), (11, 237, 87), (11, 246, 29), (11, 249, 30), (13, 97, 131), (13, 101, 132), (11, 256, 84), (13, 105, 133), (11, 261, 43), (5, 27, 44), (11, 265, 41), (11, 269, 42), (13, 109, 134), (13, 113, 135), (11, 276, 45), (5, 31, 46), (5, 35, 996), (13, 118, 136), (11, 280, 47), (13, 122, 137), (11, 283, 1), (0, 23, 107), (11, 287, 2), (0, 29, 286), (0, 34, 287), (0, 37, 997), (11, 290, 3), (0, 43, 2), (0, 47, 4), (13, 126, 138), (11, 293, 8), (0, 50, 7), (0, 53, 5), (0, 56, 10), (11, 296, 9), (0, 59, 8), (13, 130, 139), (11, 299, 48), (13, 134, 140), (13, 138, 141), (11, 305, 50), (5, 45, 49), (11, 308, 49), (13, 142, 142), (11, 312, 6), (11, 315, 5), (11, 318, 287), (13, 146, 143), (11, 323, 32), (3, 74, 31), (3, 64, 26), (3, 68, 995), (11, 326, 31), (13, 150, 144), (13, 154, 145), (11, 332, 51), (5, 55, 52), (5, 59, 53), (5, 63, 997), (13, 158, 146), (11, 342, 33), (11, 345, 34), (3, 77, 35), (13, 162, 147), (11, 348, 54), (13, 166, 148), (13, 170, 149), (11, 354, 55), (13, 174, 150), (11, 358, 39), (13, 179, 151), (11, 361, 105), (10, 63, 23), (10, 67, 999), (10, 73, 18), (10, 76, 83), (8, 22, 999), (13, 184, 152), (13, 12, 154), (12, 1, 998), (13, 178, 164), (13, 17, 167), (13, 22, 173), (12, 145, 155), (12, 149, 172), (12, 141, 156), (13, 27, 174), (12, 153, 169), (13, 32, 176), (12, 160, 175), (12, 157, 170), (13, 55, 178), (12, 166, 177), (13, 60, 179), (13, 64, 212), (12, 304, 210), (12, 218, 185), (12, 173, 180), (12, 186, 181), (12, 189, 184), (12, 193, 182), (12, 196, 183), (12, 280, 205), (12, 240, 187), (12, 211, 186), (12, 271, 204), (12, 265, 203), (12, 262, 201), (12, 268, 202), (12, 225, 188), (12, 283, 207), (12, 274, 206), (12, 286, 209), (12, 277, 208), (12, 289, 199), (12, 252, 198), (12, 231, 193), (12, 228, 192), (12, 221, 191), (12, 208, 190), (12, 214, 189), (12, 256, 197), (12, 243, 195), (12, 246, 194), (12, 249, 196), (12, 307, 200), (12, 310, 211), (13, 68, 213), (13, 37, 233), (12, 390, 231), (12, 375, 230), (12, 378, 222), (12, 381, 221), (12, 338, 217), (12, 319, 171), (12, 331, 162), (12, 342, 218), (12, 335, 216), (12, 316, 215), (12, 313, 214), (12, 394, 163), (12, 397, 232), (12, 384, 229), (12, 348, 158), (12, 351, 223), (12, 387, 228), (12, 363, 224), (12, 366, 225), (12, 345, 219), (12, 369, 227), (12, 354, 220), (12, 357, 168), (12, 372, 226), (13, 41, 234), (13, 46, 235), (13, 50, 238), (12, 404, 237), (12, 401, 236), (13, 72, 239), (13, 76, 240), (13, 80, 242), (12, 407, 241), (13, 84, 243), (13, 88, 244), (13, 92, 245), (13, 96, 247), (12, 410, 165), (12, 413, 246), (12, 416, 166), (13, 100, 248), (13, 104, 249), (13, 108, 252), (12, 422, 251), (12, 425, 250), (13, 112, 253), (13, 117, 255), (12, 431, 254), (13, 121, 257), (12, 437, 256), (12, 434, 160), (13, 125, 260), (12, 443, 258), (12, 440, 157), (12, 446, 259), (13, 129, 262), (12, 449, 161), (12, 452, 261), (13, 133, 263), (13, 137, 264), (13, 141, 266), (12, 459, 265), (13, 145, 268), (12, 463, 267), (13, 149, 270), (12, 469, 269), (12, 466, 159), (13, 153, 271), (13, 157, 273), (12, 475, 272), (13, 161, 275), (12, 478, 274), (13, 165, 276), (13, 169, 277), (13, 173, 279), (12, 484, 278), (13, 183, 284), (12, 493, 280), (12, 499, 282), (12, 502, 283), (12, 505, 281), (13, 187, 285)]
def zSLK : List (Nat × Nat × Nat) := [(15, 38, 1), (15, 1053, 2), (5, 66, 0)]
def zCLK : List (Nat × Nat × Int32) := [(9, 156, 1664525), (9, 160, 1013904223), (19, 264, 65536), (19, 265, 1431655765), (19, 266, 858993459), (19, 267, 252645135), (12, 133, 1664525), (12, 134, 1013904223), (12, 125, 1000000007), (12, 458, 100000000)]
def zLLK : List (Nat × Nat × Int64) := [(5, 41, 2), (5, 43, 1000000007)]
def zOWN : List Nat := [0, 0, 0, 0, 0, 0, 0, 0, 0, 0, 0, 1, 1, 1, 1, 1, 1, 2, 2, 2, 2, 2, 3, 3, 3, 3, 3, 3, 3, 3, 3, 3, 3, 3, 3, 3, 4, 4, 4, 4, 5, 5, 5, 5, 5, 5, 5, 5, 5, 5, 5, 5, 5, 5, 5, 5, 6, 6, 6, 6, 6, 6, 6, 6, 6, 6, 6, 6, 6, 6, 6, 6, 6, 7, 7, 7, 7, 7, 7, 7, 7, 7, 8, 8, 8, 9, 9, 9, 9, 9, 9, 9, 9, 9, 9, 9, 9, 9, 9, 9, 9, 9, 9, 9, 10, 10, 10, 10, 11, 11, 11, 11, 11, 11, 11, 11, 11, 11, 11, 11, 11, 11, 11, 11, 11, 11, 11, 11, 11, 11, 11, 11, 11, 11, 11, 11, 11, 11, 11, 11, 11, 11, 11, 11, 11, 11, 11, 11, 11, 11, 11, 11, 11, 11, 12, 12, 12, 12, 12, 12, 12, 12, 12, 12, 12, 12, 12, 12, 12, 12, 12, 12, 12, 12, 12, 12, 12, 12, 12, 12, 12, 12, 12, 12, 12, 12, 12, 12, 12, 12, 12, 12, 12, 12, 12, 12, 12, 12, 12, 12, 12, 12, 12, 12, 12, 12, 12, 12, 12, 12, 12, 12, 12, 12, 12, 12, 12, 12, 12, 12, 12, 12, 12, 12, 12, 12, 12, 12, 12, 12, 12, 12, 12, 12, 12, 12, 12, 12, 12, 12, 12, 12, 12, 12, 12, 12, 12, 12, 12, 12, 12, 12, 12, 12, 12, 12, 12, 12, 12, 12, 12, 12, 12, 12, 12, 12, 12, 12, 12, 12, 12, 12, 12, 12, 12, 12, 12, 12, 12, 12, 12, 12, 12, 12, 12, 12, 19, 19, 15, 15, 15, 15, 15, 17, 18, 13]
def zMXL : List Nat := [1, 4, 9, 5, 5, 5, 6, 4, 3, 1, 3, 2, 6, 2, 2, 7, 3, 2, 2, 3, 3, 2, 1, 2, 2, 2, 3, 4, 4, 3, 3, 5, 4, 4, 4, 4, 2, 1, 2, 2, 1, 6, 7, 4, 1, 7, 5, 5, 4, 5, 3, 4, 6, 5, 7, 9, 2, 1, 6, 1, 2, 2, 3, 5, 1, 2, 2, 2, 5, 5, 4, 1, 2, 1, 3, 4, 4, 3, 2, 8, 5, 1, 4, 2, 2, 2, 2, 1, 6, 7, 4, 5, 2, 2, 3, 7, 3, 2, 1, 4, 5, 5, 5, 4, 1, 2, 2, 6, 1, 3, 4, 5, 5, 5, 5, 5, 4, 4, 4, 6, 2, 3, 2, 4, 4, 5, 4, 5, 3, 3, 4, 5, 3, 3, 2, 1, 2, 3, 2, 4, 2, 3, 3, 4, 2, 3, 3, 2, 2, 2, 1, 2, 3, 3, 1, 4, 4, 3, 3, 3, 3, 4, 3, 2, 2, 2, 2, 3, 2, 2, 2, 3, 4, 4, 4, 4, 4, 3, 6, 2, 2, 2, 2, 2, 6, 2, 2, 2, 2, 3, 2, 2, 2, 2, 2, 2, 2, 4, 1, 3, 3, 4, 2, 4, 2, 2, 3, 2, 3, 2, 2, 4, 3, 2, 4, 6, 3, 5, 5, 4, 3, 3, 4, 5, 3, 9, 5, 4, 4, 3, 3, 6, 8, 5, 4, 3, 4, 3, 4, 3, 3, 4, 5, 4, 4, 3, 5, 4, 7, 3, 5, 3, 4, 2, 4, 7, 6, 4, 6, 7, 2, 5, 6, 7, 2, 8, 4, 4, 5, 5, 5, 2, 7, 6, 4, 6, 7, 2, 5, 8, 2, 2, 1, 2, 3, 2, 2, 1, 1, 2, 1, 1, 2, 2, 3, 4]
def zNAR : List Nat := [1, 3, 1, 2, 3, 3, 2, 2, 1, 1, 1, 2, 2, 2, 2, 3, 3, 2, 2, 3, 3, 2, 1, 2, 2, 2, 3, 3, 4, 1, 1, 3, 2, 2, 2, 3, 1, 1, 2, 2, 1, 3, 4, 2, 1, 2, 2, 2, 3, 5, 2, 3, 4, 2, 2, 3, 2, 1, 4, 1, 2, 2, 3, 4, 1, 1, 1, 1, 2, 2, 1, 1, 1, 1, 2, 1, 4, 2, 2, 3, 3, 1, 4, 2, 2, 2, 2, 1, 6, 5, 4, 5, 2, 1, 2, 1, 3, 1, 1, 3, 4, 1, 3, 4, 1, 2, 2, 2, 1, 2, 3, 4, 4, 4, 4, 5, 4, 3, 2, 6, 2, 2, 2, 3, 3, 5, 4, 4, 3, 3, 3, 5, 3, 3, 2, 1, 2, 2, 2, 4, 2, 3, 3, 3, 2, 3, 3, 2, 2, 2, 1, 2, 2, 3, 1, 4, 4, 3, 3, 3, 3, 2, 3, 1, 1, 1, 1, 2, 2, 2, 2, 3, 4, 3, 4, 4, 4, 2, 6, 2, 2, 2, 2, 2, 3, 1, 2, 2, 2, 3, 2, 1, 1, 1, 1, 2, 2, 1, 1, 1, 2, 3, 2, 4, 2, 1, 2, 1, 1, 1, 2, 3, 2, 2, 4, 4, 2, 5, 4, 4, 3, 3, 4, 4, 3, 3, 4, 3, 3, 3, 3, 5, 5, 5, 4, 3, 2, 1, 2, 3, 3, 4, 5, 4, 4, 3, 3, 3, 5, 3, 3, 1, 3, 2, 2, 1, 3, 2, 1, 2, 2, 2, 2, 4, 2, 3, 3, 2, 3, 3, 3, 2, 3, 3, 3, 3, 2, 2, 1, 2, 2, 1, 1, 1, 2, 2, 1, 1, 1, 2, 1, 1, 2, 2, 3, 1]
def zSTA : List Bool := [false, false, false, false, false, false, false, false, false, false, false, false, false, false, true, false, true, false, false, false, false, false, false, false, false, false, false, false, false, false, false, false, false, false, false, false, false, false, false, false, false, false, false, false, true, false, false, false, false, false, false, false, false, false, false, false, false, false, false, false, false, false, false, false, false, false, false, false, false, false, false, false, false, false, false, false, false, false, false, false, false, true, false, false, false, false, false, false, false, false, false, false, false, false, false, false, false, false, false, false, false, false, false, false, false, false, false, false, false, false, false, false, false, false, false, false, false, false, false, false, false, false, false, false, false, false, false, false, false, false, false, false, false, false, false, false, false, false, false, false, false, false, false, false, false, false, false, false, false, false, false, false, false, true, false, false, false, false, false, false, false, false, false, false, false, false, false, false, false, false, false, false, false, false, false, false, false, false, false, false, false, false, false, false, false, false, false, false, false, false, false, false, false, false, false, false, false, false, false, false, false, false, false, false, false, false, false, false, false, false, false, false, false, false, false, false, false, false, false, false, false, false, false, false, false, false, false, false, false, false, false, false, false, false, false, false, false, false, false, false, false, false, false, false, false, false, false, false, false, false, false, false, false, false, false, false, false, false, false, false, false, false, false, false, false, false, false, false, false, false, false, false, false, false, false, false, false, false, false, false, false, false, false, false, false, false, true, true, false, false, false, false, true, true, true, true]
def zRET : List (Option FieldType) := [none, none, (some .int), (some .int), (some .int), (some .int), (some .int), (some .int), (some .int), (some .int), (some .int), none, (some .int), (some .int), (some .int), (some .int), (some .int), none, none, (some .int), none, none, none, none, (some .boolean), (some .boolean), (some .int), (some .int), (some .int), (some .int), (some .int), (some .int), (some .int), (some .int), (some .int), (some .boolean), none, none, none, none, none, (some .int), (some .int), (some .int), (some .int), (some .boolean), none, (some .int), (some .boolean), (some .boolean), (some .int), none, none, none, (some .int), (some .int), none, none, (some .boolean), none, (some .boolean), (some .boolean), (some .boolean), (some .boolean), (some .boolean), (some .boolean), (some .boolean), (some .boolean), (some .boolean), (some .boolean), (some .boolean), (some .boolean), (some .boolean), none, none, none, none, (some .boolean), (some .boolean), (some .int), (some .int), (some .int), none, none, (some .int), none, none, none, none, (some .int), (some .boolean), (some .boolean), (some .boolean), (some .int), (some .int), (some .int), none, (some .boolean), (some .int), none, none, (some .int), none, none, none, none, (some (.object "ClaspedFair$Lines")), (some .int), none, (some .int), (some .int), (some .int), (some .boolean), (some .boolean), (some .boolean), (some .int), (some .int), (some .boolean), (some .int), (some .int), (some .boolean), (some .int), (some .int), (some .int), (some .int), (some .int), (some .int), (some .int), (some .boolean), (some .int), (some .int), (some .int), (some .int), (some .int), (some .int), (some .int), (some .int), (some .int), (some .int), (some .int), (some .int), (some .int), (some .int), (some .int), (some .int), (some .int), (some .int), (some .int), (some .int), (some .int), (some .boolean), (some .boolean), (some .int), (some .boolean), none, (some .boolean), (some .int), (some .int), (some .int), (some .int), (some .int), (some .int), (some .boolean), none, (some .boolean), none, none, (some .int), (some .int), (some .boolean), (some .boolean), (some .int), none, (some .int), (some .int), (some .boolean), (some .boolean), none, (some .int), (some .boolean), (some .int), (some .boolean), (some .boolean), (some .boolean), (some .int), none, (some .int), (some .boolean), (some .boolean), none, (some .boolean), (some .int), (some .int), (some .int), (some .int), none, none, (some .int), (some .boolean), (some .int), none, (some .int), (some .int), (some .int), (some .int), (some .int), (some .int), (some .int), (some .int), (some .int), (some .int), none, (some .int), (some .int), (some .int), (some .int), (some .int), none, (some .int), (some .int), (some .int), (some .int), none, none, (some .boolean), (some .int), none, (some .boolean), (some .int), none, (some .boolean), (some .boolean), (some .int), (some .int), (some .int), (some .boolean), none, (some .int), (some .int), (some .int), (some .int), (some .boolean), (some .int), (some .int), (some .int), (some .int), (some .int), (some .int), (some .int), (some .int), (some .int), (some .int), (some .int), (some .int), (some .int), (some .int), (some .int), (some .int), none, (some .int), (some .int), (some .int), (some .int), (some .int), (some .int), (some .boolean), (some .int), (some .int), (some .int), (some .int), (some .int), (some .int), (some .int), (some .int), (some .boolean), (some .int), (some .int), (some .int), none, (some .int), (some .int), none, none, none, (some .boolean), (some .int), (some .int), (some .int), (some .int), (some .char), (some .byte), (some .boolean), none, (some .char), (some .int), (some .boolean)]
def zfty (k f : Nat) : Nat := (zFTY.getD k []).getD f 9
def ztgt (k i f : Nat) : Nat × Nat × Nat := ((zTGT.getD k []).getD f (fun _ => (99, 0, 0))) i
def zaty (k s : Nat) : Nat := (zATY.getD k []).getD s 9
def zaln (L k i s : Nat) : Nat := ((zALN.getD k []).getD s (fun _ _ => 0)) L i
def zflk (o x : Nat) : Option (Nat × Nat) := match zFLK.find? (fun q => Nat.beq q.1 o && Nat.beq q.2.1 x) with
  | some q => some q.2.2
  | none => none
def zmlk (o x : Nat) : Option Nat := match zMLK.find? (fun q => Nat.beq q.1 o && Nat.beq q.2.1 x) with
  | some q => some q.2.2
  | none => none
def zslk (o x : Nat) : Option Nat := match zSLK.find? (fun q => Nat.beq q.1 o && Nat.beq q.2.1 x) with
  | some q => some q.2.2
  | none => none
def zclk (o x : Nat) : Option Int32 := match zCLK.find? (fun q => Nat.beq q.1 o && Nat.beq q.2.1 x) with
  | some q => some q.2.2
  | none => none
def zllk (o x : Nat) : Option Int64 := match zLLK.find? (fun q => Nat.beq q.1 o && Nat.beq q.2.1 x) with
  | some q => some q.2.2
  | none => none
def zown (m : Nat) : Nat := zOWN.getD m 99
def zmxl (m : Nat) : Nat := zMXL.getD m 0
def znar (m : Nat) : Nat := zNAR.getD m 0
def zsta (m : Nat) : Bool := zSTA.getD m false
def zret (m : Nat) : Option FieldType := zRET.getD m none
/-- how long an instruction is, where its kind says it -/
def zwd (i : Instr) : Nat := match i with
  | .bipush _ | .ldc _ | .iload _ | .aload _ | .istore _ | .astore _ | .lload _ | .lstore _ => 2
  | .sipush _ | .ldc_w _ | .ldc2_w _ | .getstatic _ | .getfield _ | .putfield _ | .invokevirtual _ | .invokespecial _ | .invokestatic _ | .ifCond _ _ | .if_icmp _ _ | .goto _ | .iinc _ _ => 3
  | _ => 1
def zfet (m pc : Nat) : Option Instr := match (zTAB.getD m []).find? (fun q => Nat.beq q.1 pc) with
  | some q => if zsw q.2.1 || Nat.beq q.2.2 (zwd q.2.1) then some q.2.1 else none
  | none => none
def zent (m : Nat) (as : List zV) : zLS := as.map some ++ List.replicate (zmxl m - as.length) none
def znx (pc : Nat) (ls : zLS) (h : zH) (o : Option (List zV)) : Option zAR := match o with
  | some st => some (.inl (pc, ls, st, h))
  | none => none
def zld (ls : zLS) (i : Nat) (st : List zV) : Option (List zV) := match zlg ls i with
  | some (.inl x) => some (.inl x :: st)
  | _ => none
def zlda (ls : zLS) (i : Nat) (st : List zV) : Option (List zV) := match zlg ls i with
  | some (.inr (.inl (k, j, s))) => if k ≤ 15 then some (.inr (.inl (k, j, s)) :: st) else none
  | _ => none
def zldl (ls : zLS) (i : Nat) (st : List zV) : Option (List zV) := match zlg ls i with
  | some (.inr (.inr x)) => some (.inr (.inr x) :: st)
  | _ => none
def zsti (pc : Nat) (ls : zLS) (i : Nat) (st : List zV) (h : zH) : Option zAR := match st with
  | .inl x :: r => match zlsI ls i (.inl x) with
    | some ls' => some (.inl (pc, ls', r, h))
    | none => none
  | _ => none
def zsta_ (pc : Nat) (ls : zLS) (i : Nat) (st : List zV) (h : zH) : Option zAR := match st with
  | .inr (.inl (k, j, s)) :: r => if k ≤ 15 then (match zlsI ls i (.inr (.inl (k, j, s))) with
    | some ls' => some (.inl (pc, ls', r, h))
    | none => none) else none
  | _ => none
def zstl (pc : Nat) (ls : zLS) (i : Nat) (st : List zV) (h : zH) : Option zAR := match st with
  | .inr (.inr x) :: r => match zlsL ls i x with
    | some ls' => some (.inl (pc, ls', r, h))
    | none => none
  | _ => none
def zjmp (t : Option Nat) (ls : zLS) (st : List zV) (h : zH) : Option zAR := match t with
  | some p => some (.inl (p, ls, st, h))
  | none => none
def zgetf (q : Nat × Nat) (st : List zV) (h : zH) : Option (List zV) := match st with
  | .inr (.inl (k, i, s)) :: r => if k = q.1 ∧ s = 0 then (match zfty k q.2 with
      | 2 => some (.inr (.inl (ztgt k i q.2)) :: r)
      | 3 => some (.inr (.inl (3, (h k i 0 q.2).toNatClampNeg, 0)) :: r)
      | 9 => none
      | _ => some (.inl (h k i 0 q.2) :: r)) else none
  | _ => none
def zputf (q : Nat × Nat) (pc : Nat) (ls : zLS) (st : List zV) (h : zH) : Option zAR := match st with
  | .inl v :: .inr (.inl (k, i, s)) :: r => if k = q.1 ∧ s = 0 ∧ k ≤ 12 then (match zfty k q.2 with
      | 0 => some (.inl (pc, ls, r, zup h k i 0 q.2 v))
      | 1 => if v = 0 ∨ v = 1 then some (.inl (pc, ls, r, zup h k i 0 q.2 v)) else none
      | _ => none) else none
  | .inr (.inl (k', i', s')) :: .inr (.inl (k, i, s)) :: r => if k = q.1 ∧ s = 0 ∧ k' = 3 ∧ s' = 0 ∧ k ≤ 12 then (match zfty k q.2 with
      | 3 => some (.inl (pc, ls, r, zup h k i 0 q.2 (Int32.ofNat i')))
      | _ => none) else none
  | _ => none
def zaldi (L ty : Nat) (st : List zV) (h : zH) : Option (List zV) := match st with
  | .inl j :: .inr (.inl (k, i, s)) :: r => if zaty k s = ty ∧ zIn j (zaln L k i s) = true then some (.inl (h k i s j.toNatClampNeg) :: r) else none
  | _ => none
def zalda (L : Nat) (st : List zV) : Option (List zV) := match st with
  | .inl j :: .inr (.inl (k, i, s)) :: r => if zaty k s = 2 ∧ zIn j (zaln L k i s) = true then some (.inr (.inl (3, 3 + j.toNatClampNeg, 0)) :: r) else none
  | _ => none
def zasti (L pc : Nat) (ls : zLS) (st : List zV) (h : zH) : Option zAR := match st with
  | .inl v :: .inl j :: .inr (.inl (k, i, s)) :: r => if zaty k s = 0 ∧ k ≤ 12 ∧ zIn j (zaln L k i s) = true then some (.inl (pc, ls, r, zup h k i s j.toNatClampNeg v)) else none
  | _ => none
def zastb (L pc : Nat) (ls : zLS) (st : List zV) (h : zH) : Option zAR := match st with
  | .inl v :: .inl j :: .inr (.inl (k, i, s)) :: r => if zaty k s = 1 ∧ k ≤ 12 ∧ zIn j (zaln L k i s) = true then some (.inl (pc, ls, r, zup h k i s j.toNatClampNeg v.toInt8.toInt32)) else none
  | _ => none
def zalen (L : Nat) (st : List zV) : Option (List zV) := match st with
  | .inr (.inl (k, i, s)) :: r => if zaty k s ≤ 2 then some (.inl (Int32.ofNat (zaln L k i s)) :: r) else none
  | _ => none
def zcopy (L pc : Nat) (ls : zLS) (st : List zV) (h : zH) : Option zAR := match st with
  | .inl n :: .inl dp :: .inr (.inl (k, i, s)) :: .inl sp :: .inr (.inl (k', i', s')) :: r =>
    if zaty k s = 0 ∧ zaty k' s' = 0 ∧ k ≤ 12 ∧ k' ≤ 12 ∧ ¬ sp < 0 ∧ ¬ dp < 0 ∧ ¬ n < 0 ∧ sp.toNatClampNeg + n.toNatClampNeg ≤ zaln L k' i' s' ∧ dp.toNatClampNeg + n.toNatClampNeg ≤ zaln L k i s ∧ r.length ≤ 4
    then some (.inl (pc, ls, r, zupA h k i s (va_cpy (h k' i' s') (h k i s) sp.toNatClampNeg dp.toNatClampNeg n.toNatClampNeg))) else none
  | _ => none
def zcallV (m' : Nat) (st : List zV) : Option zAR :=
  if zsta m' = false ∧ znar m' ≤ st.length ∧ st.length ≤ znar m' + 4 then (match (st.take (znar m')).reverse with
    | .inr (.inl (k, i, s)) :: as => if k = zown m' ∧ s = 0 ∧ k ≤ 15 then some (.inr (.inl (m', .inr (.inl (k, i, s)) :: as, st.drop (znar m')))) else none
    | _ => none) else none
def zcallS (m' : Nat) (st : List zV) : Option zAR :=
  if zsta m' = true ∧ znar m' ≤ st.length ∧ st.length ≤ znar m' + 4 then some (.inr (.inl (m', (st.take (znar m')).reverse, st.drop (znar m')))) else none
def zmath (st : List zV) (f : Int32 → Int32 → Int32) : Option (List zV) := match st with
  | .inl y :: .inl x :: r => if r.length ≤ 4 then some (.inl (f x y) :: r) else none
  | _ => none
def zabs (st : List zV) : Option (List zV) := match st with
  | .inl x :: r => if r.length ≤ 4 then some (.inl (if 0 ≤ x then x else 0 - x) :: r) else none
  | _ => none
def zgets (x : Nat) (st : List zV) : Option (List zV) := match x with
  | 0 => some (.inr (.inl (14, 0, 0)) :: st)
  | 1 => some (.inl 1 :: st)
  | 2 => some (.inr (.inl (16, 0, 0)) :: st)
  | _ => none
/-- one instruction -/
def zstep (L m pc : Nat) (i : Instr) (ls : zLS) (st : List zV) (h : zH) : Option zAR := match i with
  | .iconst n => znx (pc + 1) ls h (some (.inl (Int32.ofInt n) :: st))
  | .bipush n => znx (pc + 2) ls h (some (.inl (Int8.ofInt n).toInt32 :: st))
  | .sipush n => znx (pc + 3) ls h (some (.inl (Int16.ofInt n).toInt32 :: st))
  | .lconst n => znx (pc + 1) ls h (some (.inr (.inr (Int64.ofNat n.val)) :: st))
  | .ldc x => if zown m = 7 ∧ x = 48 then some (.inl (pc + 2, ls, .inr (.inl (15, 0, 0)) :: st, h)) else (match zclk (zown m) x with
    | some v => some (.inl (pc + 2, ls, .inl v :: st, h))
    | none => none)
  | .ldc_w x => (match zclk (zown m) x with
    | some v => some (.inl (pc + 3, ls, .inl v :: st, h))
    | none => none)
  | .ldc2_w x => (match zllk (zown m) x with
    | some v => some (.inl (pc + 3, ls, .inr (.inr v) :: st, h))
    | none => none)
  | .iload x => znx (pc + 2) ls h (zld ls x st)
  | .iload_n x => znx (pc + 1) ls h (zld ls x.val st)
  | .aload x => znx (pc + 2) ls h (zlda ls x st)
  | .aload_n x => znx (pc + 1) ls h (zlda ls x.val st)
  | .lload_n x => znx (pc + 1) ls h (zldl ls x.val st)
  | .istore x => zsti (pc + 2) ls x st h
  | .istore_n x => zsti (pc + 1) ls x.val st h
  | .astore x => zsta_ (pc + 2) ls x st h
  | .astore_n x => zsta_ (pc + 1) ls x.val st h
  | .lstore_n x => zstl (pc + 1) ls x.val st h
  | .iinc x n => (match zlg ls x with
    | some (.inl v) => (match zlsI ls x (.inl (v + Int32.ofInt n)) with
      | some ls' => some (.inl (pc + 3, ls', st, h))
      | none => none)
    | _ => none)
  | .iadd => znx (pc + 1) ls h (zop2 st fun x y => some (.inl (x + y)))
  | .isub => znx (pc + 1) ls h (zop2 st fun x y => some (.inl (x - y)))
  | .imul => znx (pc + 1) ls h (zop2 st fun x y => some (.inl (x * y)))
  | .idiv => znx (pc + 1) ls h (zop2 st fun x y => if y = 0 then none else some (.inl (x / y)))
  | .irem => znx (pc + 1) ls h (zop2 st fun x y => if y = 0 then none else some (.inl (x - x / y * y)))
  | .ineg => znx (pc + 1) ls h (zop1 st fun x => some (.inl (-x)))
  | .iand => znx (pc + 1) ls h (zop2 st fun x y => some (.inl (x &&& y)))
  | .ior => znx (pc + 1) ls h (zop2 st fun x y => some (.inl (x ||| y)))
  | .ixor => znx (pc + 1) ls h (zop2 st fun x y => some (.inl (x ^^^ y)))
  | .ishl => znx (pc + 1) ls h (zop2 st fun x y => some (.inl (x <<< (y &&& 31))))
  | .ishr => znx (pc + 1) ls h (zop2 st fun x y => some (.inl (x >>> (y &&& 31))))
  | .iushr => znx (pc + 1) ls h (zop2 st fun x y => some (.inl ((x.toUInt32 >>> (y.toUInt32 &&& Int32.toUInt32 31)).toInt32)))
  | .i2b => znx (pc + 1) ls h (zop1 st fun x => some (.inl x.toInt8.toInt32))
  | .i2c => znx (pc + 1) ls h (zop1 st fun x => some (.inl (x.toUInt32 % 65536).toInt32))
  | .i2l => znx (pc + 1) ls h (zop1 st fun x => some (.inr (.inr x.toInt64)))
  | .l2i => (match st with
    | .inr (.inr x) :: r => some (.inl (pc + 1, ls, .inl x.toInt32 :: r, h))
    | _ => none)
  | .lmul => znx (pc + 1) ls h (zopL st fun x y => some (.inr (.inr (x * y))))
  | .ldiv => znx (pc + 1) ls h (zopL st fun x y => if y = 0 then none else some (.inr (.inr (x / y))))
  | .lrem => znx (pc + 1) ls h (zopL st fun x y => if y = 0 then none else some (.inr (.inr (x - x / y * y))))
  | .dup => (match st with
    | .inl x :: r => some (.inl (pc + 1, ls, .inl x :: .inl x :: r, h))
    | .inr (.inl q) :: r => some (.inl (pc + 1, ls, .inr (.inl q) :: .inr (.inl q) :: r, h))
    | _ => none)
  | .dup2 => (match st with
    | .inl x :: .inr (.inl q) :: r => some (.inl (pc + 1, ls, .inl x :: .inr (.inl q) :: .inl x :: .inr (.inl q) :: r, h))
    | _ => none)
  | .pop => (match st with
    | .inl _ :: r => some (.inl (pc + 1, ls, r, h))
    | _ => none)
  | .ifCond c off => (match st with
    | .inl x :: r => if zcmp c x 0 = true then zjmp (zjt pc off) ls r h else some (.inl (pc + 3, ls, r, h))
    | _ => none)
  | .if_icmp c off => (match st with
    | .inl y :: .inl x :: r => if zcmp c x y = true then zjmp (zjt pc off) ls r h else some (.inl (pc + 3, ls, r, h))
    | _ => none)
  | .goto off => zjmp (zjt pc off) ls st h
  | .tableswitch d lo hi offs => (match st with
    | .inl x :: r => if x.toInt < lo ∨ hi < x.toInt then zjmp (zjt pc d) ls r h else (match offs[(x.toInt - lo).toNat]? with
      | some off => zjmp (zjt pc off) ls r h
      | none => none)
    | _ => none)
  | .lookupswitch d ps => (match st with
    | .inl x :: r => if (ps.toList.zip (ps.toList.drop 1)).all (fun (a, next) => a.1 < next.1) = true then zjmp (zjt pc (Op.lookupswitch.offset ps.toList d x.toInt)) ls r h else none
    | _ => none)
  | .getfield x => (match zflk (zown m) x with
    | some q => znx (pc + 3) ls h (zgetf q st h)
    | none => none)
  | .putfield x => (match zflk (zown m) x with
    | some q => zputf q (pc + 3) ls st h
    | none => none)
  | .getstatic x => (match zslk (zown m) x with
    | some q => znx (pc + 3) ls h (zgets q st)
    | none => none)
  | .iaload => znx (pc + 1) ls h (zaldi L 0 st h)
  | .baload => znx (pc + 1) ls h (zaldi L 1 st h)
  | .aaload => znx (pc + 1) ls h (zalda L st)
  | .iastore => zasti L (pc + 1) ls st h
  | .bastore => zastb L (pc + 1) ls st h
  | .arraylength => znx (pc + 1) ls h (zalen L st)
  | .invokevirtual x => (match zmlk (zown m) x with
    | some m' => zcallV m' st
    | none => none)
  | .invokestatic x => (match zmlk (zown m) x with
    | some m' => if m' = 999 then zcopy L (pc + 3) ls st h else if m' = 997 then znx (pc + 3) ls h (zmath st fun x y => if x < y then y else x) else if m' = 996 then znx (pc + 3) ls h (zmath st fun x y => if y < x then y else x) else if m' = 995 then znx (pc + 3) ls h (zabs st) else zcallS m' st
    | none => none)
  | .ireturn => (match st with
    | [.inl v] => if zrOk (zret m) st = true then some (.inr (.inr (some (.inl v)))) else none
    | _ => none)
  | .areturn => (match st with
    | [.inr (.inl q)] => if zrOkA (zret m) st = true then some (.inr (.inr (some (.inr (.inl q))))) else none
    | _ => none)
  | .return_ => (match st with
    | [] => if zret m = none then some (.inr (.inr none)) else none
    | _ => none)
  | _ => none
/-- n instructions at most, d calls deep at most -/
def zex (L : Nat) : Nat → Nat → Nat → Nat → zLS → List zV → zH → Option zRS
  | 0, _, _, _, _, _, _ => none
  | n + 1, d, m, pc, ls, st, h => match zfet m pc with
    | none => none
    | some i => match zstep L m pc i ls st h with
      | none => none
      | some (.inl (pc', ls', st', h')) => zex L n d m pc' ls' st' h'
      | some (.inr (.inl (m', as, r))) => match d with
        | 0 => none
        | d' + 1 => match zex L n d' m' 0 (zent m' as) [] h with
          | none => none
          | some (v, h') => zex L n (d' + 1) m (pc + 3) ls (v.toList ++ r) h'
      | some (.inr (.inr v)) => some (v, h)
theorem zex_mono (L : Nat) : ∀ (n d m pc : Nat) (ls : zLS) (st : List zV) (h : zH) (r : zRS), zex L n d m pc ls st h = some r → zex L (n + 1) d m pc ls st h = some r := by
  intro n
  induction n with
  | zero => intro d m pc ls st h r e; cases e
  | succ n ih =>
    intro d m pc ls st h r e
    rw [zex] at e ⊢
    cases hi : zfet m pc with
    | none => rw [hi] at e; cases e
    | some i =>
      rw [hi] at e
      simp only at e ⊢
      cases hs : zstep L m pc i ls st h with
      | none => rw [hs] at e; cases e
      | some x =>
        rw [hs] at e
        obtain ⟨pc', ls', st', h'⟩ | ⟨m', as, r'⟩ | v := x
        · exact ih _ _ _ _ _ _ _ e
        · cases d with
          | zero => cases e
          | succ d' =>
            simp only at e ⊢
            cases hc : zex L n d' m' 0 (zent m' as) [] h with
            | none => rw [hc] at e; cases e
            | some q =>
              rw [hc] at e
              rw [ih _ _ _ _ _ _ _ hc]
              exact ih _ _ _ _ _ _ _ e
        · exact e
theorem zex_le {L n n' d m pc : Nat} {ls : zLS} {st : List zV} {h : zH} {r : zRS} (hn : n ≤ n') (e : zex L n d m pc ls st h = some r) : zex L n' d m pc ls st h = some r := by
  induction hn with
  | refl => exact e
  | step _ ih => exact zex_mono L _ _ _ _ _ _ _ _ ih

noncomputable def zev (L d m pc : Nat) (ls : zLS) (st : List zV) (h : zH) : Option zRS := @dite _ (∃ r : zRS, ∃ n, zex L n d m pc ls st h = some r) (Classical.propDecidable _) (fun hx => some (Classical.choose hx)) (fun _ => none)
theorem zev_of {L n d m pc : Nat} {ls : zLS} {st : List zV} {h : zH} {r : zRS} (e : zex L n d m pc ls st h = some r) : zev L d m pc ls st h = some r := by
  unfold zev
  have hx : ∃ r : zRS, ∃ n, zex L n d m pc ls st h = some r := ⟨r, n, e⟩
  rw [dif_pos hx]
  obtain ⟨n', e'⟩ := Classical.choose_spec hx
  have h1 := zex_le (Nat.le_max_left n n') e
  have h2 := zex_le (Nat.le_max_right n n') e'
  exact h2.symm.trans h1
theorem zev_ex {L d m pc : Nat} {ls : zLS} {st : List zV} {h : zH} {r : zRS} (e : zev L d m pc ls st h = some r) : ∃ n, zex L n d m pc ls st h = some r := by
  unfold zev at e
  split at e
  · next hx =>
    obtain ⟨n, e'⟩ := Classical.choose_spec hx
    cases e
    exact ⟨n, e'⟩
  · cases e
theorem zopt_ext {α : Type} {a b : Option α} (h1 : ∀ r, a = some r → b = some r) (h2 : ∀ r, b = some r → a = some r) : a = b := by
  cases a with
  | some r => exact (h1 r rfl).symm
  | none =>
    cases b with
    | some r => exact h2 r rfl
    | none => rfl
theorem zev_go {L d m pc pc' : Nat} {ls ls' : zLS} {st st' : List zV} {h h' : zH} {i : Instr} (hf : zfet m pc = some i) (hs : zstep L m pc i ls st h = some (.inl (pc', ls', st', h'))) : zev L d m pc ls st h = zev L d m pc' ls' st' h' := by
  refine zopt_ext (fun r e => ?_) (fun r e => ?_)
  · obtain ⟨n, e⟩ := zev_ex e
    cases n with
    | zero => cases e
    | succ n =>
      rw [zex, hf] at e
      simp only [hs] at e
      exact zev_of e
  · obtain ⟨n, e⟩ := zev_ex e
    refine zev_of (n := n + 1) ?_
    rw [zex, hf]
    simp only [hs]
    exact e
theorem zev_ret {L d m pc : Nat} {ls : zLS} {st : List zV} {h : zH} {v : Option zV} {i : Instr} (hf : zfet m pc = some i) (hs : zstep L m pc i ls st h = some (.inr (.inr v))) : zev L d m pc ls st h = some (v, h) := by
  refine zev_of (n := 1) ?_
  rw [zex, hf]
  simp only [hs]
theorem zev_call {L d m pc m' : Nat} {ls : zLS} {st as r : List zV} {h : zH} {i : Instr} (hf : zfet m pc = some i) (hs : zstep L m pc i ls st h = some (.inr (.inl (m', as, r)))) : zev L (d + 1) m pc ls st h = (zev L d m' 0 (zent m' as) [] h).bind fun q => zev L (d + 1) m (pc + 3) ls (q.1.toList ++ r) q.2 := by
  refine zopt_ext (fun x e => ?_) (fun x e => ?_)
  · obtain ⟨n, e⟩ := zev_ex e
    cases n with
    | zero => cases e
    | succ n =>
      rw [zex, hf] at e
      simp only [hs] at e
      cases hc : zex L n d m' 0 (zent m' as) [] h with
      | none => rw [hc] at e; cases e
      | some q =>
        rw [hc] at e
        rw [zev_of hc]
        exact zev_of e
  · cases hc : zev L d m' 0 (zent m' as) [] h with
    | none => rw [hc] at e; cases e
    | some q =>
      rw [hc] at e
      obtain ⟨n, e1⟩ := zev_ex hc
      obtain ⟨n', e2⟩ := zev_ex (show zev L (d + 1) m (pc + 3) ls (q.1.toList ++ r) q.2 = some x from e)
      refine zev_of (n := max n n' + 1) ?_
      rw [zex, hf]
      simp only [hs]
      rw [zex_le (Nat.le_max_left n n') e1]
      exact zex_le (Nat.le_max_right n n') e2

