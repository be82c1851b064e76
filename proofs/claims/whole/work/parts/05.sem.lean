/-! THE SEMANTICS of the abstract machine; its tables of fields, links, lengths (by program) -/
def zFTY : List (List Nat) := [[2, 2, 0], [2, 2, 2], [2, 2, 0, 0], [2, 2, 2, 2, 2, 2, 2, 2, 0, 0, 0, 0, 0, 0, 0], [2, 0, 0], [2, 2, 0, 0], [2, 2, 0, 0, 0, 0, 0, 0], [2, 2, 2, 0], [2, 0, 0, 0], [2, 2, 2, 2, 3, 1, 0, 0, 0, 0, 0], [2, 2, 2, 2, 2, 2, 2, 2, 2, 2, 2], [2, 2, 2, 2, 2, 2, 2, 2, 2, 1], [0, 2, 2, 0, 2, 1, 0, 0, 2, 2, 2, 2, 0, 0, 0, 0, 0, 2, 2, 2, 2, 2, 2, 2, 2, 0, 0, 0, 2, 0, 0, 0, 0, 0, 0, 2, 0, 2, 0, 2, 2, 2, 0, 0, 0, 2, 2, 1, 0, 2, 2, 0, 2, 2, 2, 2, 2, 0, 2, 0, 2, 2, 0, 2, 2, 1, 1, 0, 2], [], [], [2, 4]]
def zTGT : List (List (Nat → Nat × Nat × Nat)) := [[fun i => (0, i, 1), fun i => (0, i, 2), fun _ => (99, 0, 0)], [fun _ => (2, 0, 0), fun i => (1, i, 2), fun i => (1, i, 3)], [fun i => (2, i, 1), fun i => (2, i, 2), fun _ => (99, 0, 0), fun _ => (99, 0, 0)], [fun i => (3, i, 1), fun i => (3, i, 2), fun i => (3, i, 3), fun i => (3, i, 4), fun i => (3, i, 5), fun i => (3, i, 6), fun i => (3, i, 7), fun i => (3, i, 8), fun _ => (99, 0, 0), fun _ => (99, 0, 0), fun _ => (99, 0, 0), fun _ => (99, 0, 0), fun _ => (99, 0, 0), fun _ => (99, 0, 0), fun _ => (99, 0, 0)], [fun i => (4, i, 1), fun _ => (99, 0, 0), fun _ => (99, 0, 0)], [fun i => (5, i, 1), fun i => (5, i, 2), fun _ => (99, 0, 0), fun _ => (99, 0, 0)], [fun _ => (7, 0, 0), fun _ => (2, 8, 0), fun _ => (99, 0, 0), fun _ => (99, 0, 0), fun _ => (99, 0, 0), fun _ => (99, 0, 0), fun _ => (99, 0, 0), fun _ => (99, 0, 0)], [fun i => (7, i, 1), fun i => (7, i, 2), fun i => (7, i, 3), fun _ => (99, 0, 0)], [fun i => (8, i, 1), fun _ => (99, 0, 0), fun _ => (99, 0, 0), fun _ => (99, 0, 0)], [fun _ => (10, 0, 0), fun _ => (1, 0, 0), fun i => (9, i, 3), fun i => (9, i, 4), fun _ => (99, 0, 0), fun _ => (99, 0, 0), fun _ => (99, 0, 0), fun _ => (99, 0, 0), fun _ => (99, 0, 0), fun _ => (99, 0, 0), fun _ => (99, 0, 0)], [fun i => (3, i, 0), fun i => (10, i, 2), fun i => (2, 4 * i, 0), fun i => (2, 4 * i + 1, 0), fun i => (2, 4 * i + 2, 0), fun i => (2, 4 * i + 3, 0), fun i => (8, 5 * i, 0), fun i => (8, 5 * i + 1, 0), fun i => (8, 5 * i + 2, 0), fun i => (8, 5 * i + 3, 0), fun i => (8, 5 * i + 4, 0)], [fun _ => (10, 0, 0), fun _ => (10, 1, 0), fun _ => (3, 2, 0), fun _ => (4, 0, 0), fun _ => (7, 0, 0), fun _ => (6, 0, 0), fun _ => (9, 0, 0), fun _ => (0, 0, 0), fun _ => (5, 0, 0), fun _ => (99, 0, 0)], [fun _ => (99, 0, 0), fun i => (12, i, 2), fun i => (12, i, 3), fun _ => (99, 0, 0), fun i => (12, i, 5), fun _ => (99, 0, 0), fun _ => (99, 0, 0), fun _ => (99, 0, 0), fun i => (12, i, 9), fun i => (12, i, 10), fun i => (12, i, 11), fun i => (12, i, 12), fun _ => (99, 0, 0), fun _ => (99, 0, 0), fun _ => (99, 0, 0), fun _ => (99, 0, 0), fun _ => (99, 0, 0), fun i => (12, i, 18), fun i => (12, i, 19), fun i => (12, i, 20), fun i => (12, i, 21), fun i => (12, i, 22), fun i => (12, i, 23), fun i => (12, i, 24), fun i => (12, i, 25), fun _ => (99, 0, 0), fun _ => (99, 0, 0), fun _ => (99, 0, 0), fun i => (12, i, 29), fun _ => (99, 0, 0), fun _ => (99, 0, 0), fun _ => (99, 0, 0), fun _ => (99, 0, 0), fun _ => (99, 0, 0), fun _ => (99, 0, 0), fun i => (12, i, 36), fun _ => (99, 0, 0), fun i => (12, i, 38), fun _ => (99, 0, 0), fun i => (12, i, 40), fun i => (12, i, 41), fun i => (12, i, 42), fun _ => (99, 0, 0), fun _ => (99, 0, 0), fun _ => (99, 0, 0), fun i => (12, i, 46), fun i => (12, i, 47), fun _ => (99, 0, 0), fun _ => (99, 0, 0), fun i => (12, i, 50), fun i => (12, i, 51), fun _ => (99, 0, 0), fun i => (12, i, 53), fun i => (12, i, 54), fun i => (12, i, 55), fun i => (12, i, 56), fun i => (12, i, 57), fun _ => (99, 0, 0), fun i => (12, i, 59), fun _ => (99, 0, 0), fun i => (12, i, 61), fun i => (12, i, 62), fun _ => (99, 0, 0), fun i => (12, i, 64), fun i => (12, i, 65), fun _ => (99, 0, 0), fun _ => (99, 0, 0), fun _ => (99, 0, 0), fun i => (12, i, 69)], [], [], [fun i => (15, i, 1), fun _ => (99, 0, 0)]]
def zATY : List (List Nat) := [[9, 0, 1, 9], [9, 9, 0, 0], [9, 0, 0, 9, 9], [9, 0, 0, 0, 0, 0, 0, 0, 0, 9, 9, 9, 9, 9, 9, 9], [9, 2, 9, 9], [9, 0, 0, 9, 9], [9, 9, 9, 9, 9, 9, 9, 9, 9], [9, 1, 0, 0, 9], [9, 0, 9, 9, 9], [9, 9, 9, 0, 0, 9, 9, 9, 9, 9, 9, 9], [9, 9, 0, 9, 9, 9, 9, 9, 9, 9, 9, 9], [9, 9, 9, 9, 9, 9, 9, 9, 9, 9, 9], [9, 9, 0, 0, 9, 0, 9, 9, 9, 0, 0, 0, 0, 9, 9, 9, 9, 9, 0, 0, 0, 0, 0, 0, 0, 0, 9, 9, 9, 0, 9, 9, 9, 9, 9, 9, 0, 9, 0, 9, 0, 0, 0, 9, 9, 9, 0, 0, 9, 9, 0, 0, 9, 0, 0, 0, 0, 0, 9, 0, 9, 0, 0, 9, 0, 0, 9, 9, 9, 0], [0], [0], [9, 1]]
def zALN : List (List (Nat → Nat → Nat)) := [[fun _ _ => 0, fun _ _ => 12, fun _ _ => 4096, fun _ _ => 0], [fun _ _ => 0, fun _ _ => 0, fun _ _ => 11, fun _ _ => 64], [fun _ _ => 0, fun _ _ => 80, fun _ i => if i % 4 = 0 then 400 else 0, fun _ _ => 0, fun _ _ => 0], [fun _ _ => 0, fun _ _ => 60, fun _ _ => 12, fun _ _ => 12, fun _ _ => 12, fun _ _ => 10, fun _ _ => 10, fun _ _ => 10, fun _ _ => 10, fun _ _ => 0, fun _ _ => 0, fun _ _ => 0, fun _ _ => 0, fun _ _ => 0, fun _ _ => 0, fun _ _ => 0], [fun _ _ => 0, fun _ _ => 6, fun _ _ => 0, fun _ _ => 0], [fun _ _ => 0, fun _ _ => 9, fun _ _ => 4, fun _ _ => 0, fun _ _ => 0], [fun _ _ => 0, fun _ _ => 0, fun _ _ => 0, fun _ _ => 0, fun _ _ => 0, fun _ _ => 0, fun _ _ => 0, fun _ _ => 0, fun _ _ => 0], [fun _ _ => 0, fun _ _ => 400, fun _ _ => 401, fun _ _ => 401, fun _ _ => 0], [fun _ _ => 0, fun _ i => [16, 9, 5, 7, 6].getD (i % 5) 0, fun _ _ => 0, fun _ _ => 0, fun _ _ => 0], [fun _ _ => 0, fun _ _ => 0, fun _ _ => 0, fun _ _ => 5, fun _ _ => 5, fun _ _ => 0, fun _ _ => 0, fun _ _ => 0, fun _ _ => 0, fun _ _ => 0, fun _ _ => 0, fun _ _ => 0], [fun _ _ => 0, fun _ _ => 0, fun _ _ => 600, fun _ _ => 0, fun _ _ => 0, fun _ _ => 0, fun _ _ => 0, fun _ _ => 0, fun _ _ => 0, fun _ _ => 0, fun _ _ => 0, fun _ _ => 0], [fun _ _ => 0, fun _ _ => 0, fun _ _ => 0, fun _ _ => 0, fun _ _ => 0, fun _ _ => 0, fun _ _ => 0, fun _ _ => 0, fun _ _ => 0, fun _ _ => 0, fun _ _ => 0], [fun _ _ => 0, fun _ _ => 0, fun _ _ => 121, fun _ _ => 726, fun _ _ => 0, fun _ _ => 121, fun _ _ => 0, fun _ _ => 0, fun _ _ => 0, fun _ _ => 10, fun _ _ => 10, fun _ _ => 600, fun _ _ => 400, fun _ _ => 0, fun _ _ => 0, fun _ _ => 0, fun _ _ => 0, fun _ _ => 0, fun _ _ => 140, fun _ _ => 2, fun _ _ => 48, fun _ _ => 48, fun _ _ => 48, fun _ _ => 48, fun _ _ => 1200, fun _ _ => 1200, fun _ _ => 0, fun _ _ => 0, fun _ _ => 0, fun _ _ => 40, fun _ _ => 0, fun _ _ => 0, fun _ _ => 0, fun _ _ => 0, fun _ _ => 0, fun _ _ => 0, fun _ _ => 160, fun _ _ => 0, fun _ _ => 160, fun _ _ => 0, fun _ _ => 24, fun _ _ => 11, fun _ _ => 420, fun _ _ => 0, fun _ _ => 0, fun _ _ => 0, fun _ _ => 5, fun _ _ => 5, fun _ _ => 0, fun _ _ => 0, fun _ _ => 16, fun _ _ => 16, fun _ _ => 0, fun _ _ => 9, fun _ _ => 9, fun _ _ => 13, fun _ _ => 4096, fun _ _ => 3600, fun _ _ => 0, fun _ _ => 5, fun _ _ => 0, fun _ _ => 7, fun _ _ => 4, fun _ _ => 0, fun _ _ => 6, fun _ _ => 21, fun _ _ => 0, fun _ _ => 0, fun _ _ => 0, fun _ _ => 2400], [fun L _ => L], [fun _ _ => 21], [fun _ _ => 0, fun _ _ => 139]]
def zNIN : List Nat := [1, 1, 9, 9, 1, 1, 1, 1, 10, 1, 2, 1, 1, 1, 1, 1]
def zFLK : List (Nat × Nat × Nat) := [(12297, 3, 0), (45166, 3, 0), (37014, 3, 0), (12303, 3, 1), (36943, 3, 1), (45170, 3, 1), (12306, 3, 2), (36981, 3, 2), (45205, 3, 2), (12309, 3, 3), (36940, 3, 3), (45256, 3, 3), (12312, 3, 4), (36974, 3, 4), (45262, 3, 4), (12315, 3, 5), (36934, 3, 5), (45176, 3, 5), (12318, 3, 6), (36937, 3, 6), (45179, 3, 6), (12321, 3, 7), (36989, 3, 7), (45265, 3, 7), (12330, 3, 8), (45138, 3, 8), (12334, 3, 9), (45149, 3, 9), (12337, 3, 10), (37000, 3, 10), (45296, 3, 10), (12340, 3, 11), (37025, 3, 11), (45299, 3, 11), (12343, 3, 12), (36950, 3, 12), (45208, 3, 12), (12346, 3, 13), (37028, 3, 13), (45282, 3, 13), (45131, 3, 14), (12349, 3, 14), (37021, 3, 14), (8201, 2, 0), (8207, 2, 1), (4146, 2, 1), (4118, 2, 2), (8216, 2, 2), (24619, 2, 2), (41039, 2, 2), (45244, 2, 2), (37037, 2, 2), (8220, 2, 3), (24622, 2, 3), (32777, 8, 0), (20504, 8, 0), (32783, 8, 1), (32787, 8, 2), (20498, 8, 3), (32796, 8, 3), (40972, 10, 0), (36900, 10, 0), (45128, 10, 0), (40978, 10, 1), (37031, 10, 1), (45285, 10, 1), (36888, 10, 2), (40987, 10, 2), (40991, 10, 3), (37049, 10, 3), (40994, 10, 4), (37034, 10, 4), (40997, 10, 5), (41005, 10, 6), (45308, 10, 6), (41011, 10, 7), (45329, 10, 7), (41014, 10, 8), (45358, 10, 8), (41017, 10, 9), (45385, 10, 9), (41020, 10, 10), (45407, 10, 10), (16395, 4, 0), (16406, 4, 1), (16402, 4, 2), (45413, 4, 2), (28683, 7, 0), (28687, 7, 1), (24607, 7, 1), (28691, 7, 2), (24644, 7, 2), (28694, 7, 3), (45214, 7, 3), (24600, 6, 0), (24590, 6, 1), (45234, 6, 1), (24604, 6, 2), (24613, 6, 3), (24616, 6, 4), (45247, 6, 4), (24596, 6, 5), (45250, 6, 5), (24625, 6, 6), (24628, 6, 7), (4114, 1, 0), (4107, 1, 1), (36925, 1, 1), (4111, 1, 2), (36882, 9, 0), (36897, 9, 1), (36873, 9, 2), (36879, 9, 3), (36904, 9, 4), (36905, 9, 5), (36909, 9, 6), (36913, 9, 7), (36916, 9, 8), (36919, 9, 9), (36922, 9, 10), (9, 0, 0), (15, 0, 1), (19, 0, 2), (20491, 5, 0), (20495, 5, 1), (20529, 5, 2), (45392, 5, 2), (20532, 5, 3), (45395, 5, 3), (45066, 11, 0), (45072, 11, 1), (45078, 11, 2), (45085, 11, 3), (45092, 11, 4), (45101, 11, 5), (45110, 11, 6), (45117, 11, 7), (45124, 11, 8), (45419, 11, 9), (49274, 12, 0), (49159, 12, 1), (49165, 12, 2), (49278, 12, 3), (49168, 12, 4), (49281, 12, 5), (49287, 12, 6), (49290, 12, 7), (49171, 12, 8), (49174, 12, 9), (49177, 12, 10), (49180, 12, 11), (49315, 12, 12), (49322, 12, 13), (49329, 12, 14), (49332, 12, 15), (49335, 12, 16), (49183, 12, 17), (49186, 12, 18), (49189, 12, 19), (49192, 12, 20), (49195, 12, 21), (49198, 12, 22), (49201, 12, 23), (49204, 12, 24), (49411, 12, 25), (49357, 12, 26), (49389, 12, 27), (49207, 12, 28), (49386, 12, 29), (49351, 12, 30), (49354, 12, 31), (49453, 12, 32), (49210, 12, 33), (49447, 12, 34), (49214, 12, 35), (49450, 12, 36), (49217, 12, 37), (49444, 12, 38), (49220, 12, 39), (49223, 12, 40), (49226, 12, 41), (49474, 12, 42), (49477, 12, 43), (49480, 12, 44), (49229, 12, 45), (49232, 12, 46), (49512, 12, 47), (49571, 12, 48), (49235, 12, 49), (49238, 12, 50), (49580, 12, 51), (49241, 12, 52), (49244, 12, 53), (49247, 12, 54), (49250, 12, 55), (49253, 12, 56), (49607, 12, 57), (49256, 12, 58), (49624, 12, 59), (49259, 12, 60), (49262, 12, 61), (49633, 12, 62), (49265, 12, 63), (49268, 12, 64), (49642, 12, 65), (49648, 12, 66), (49639, 12, 67), (49271, 12, 68), (61449, 15, 0), (61455, 15, 1)]
def zMLK : List (Nat × Nat) := [(53257, 108), (45057, 998), (45065, 104), (40963, 998), (40971, 22), (12291, 998), (40984, 17), (8195, 998), (41002, 82), (32771, 998), (45077, 22), (45084, 36), (16387, 998), (16401, 22), (45091, 73), (28677, 998), (45098, 56), (24579, 998), (24587, 17), (45107, 85), (36867, 998), (36894, 11), (4099, 998), (45116, 0), (3, 998), (45123, 40), (20483, 998), (53261, 109), (45135, 37), (53266, 110), (45141, 153), (45145, 27), (53271, 111), (45152, 24), (45156, 28), (53276, 112), (45160, 113), (45163, 114), (45173, 25), (53281, 115), (45182, 91), (36956, 24), (36971, 25), (36960, 153), (36964, 88), (36968, 92), (36977, 89), (36928, 26), (36946, 107), (41043, 19), (36953, 12), (4124, 19), (4128, 15), (4149, 16), (4131, 14), (4138, 290), (4143, 289), (4134, 13), (45186, 38), (16409, 23), (12324, 999), (16413, 290), (45190, 93), (36984, 290), (36992, 100), (45194, 94), (36996, 95), (37011, 96), (37003, 97), (37017, 98), (37007, 99), (53286, 116), (45198, 90), (45201, 100), (53290, 117), (53295, 118), (45211, 101), (37042, 19), (37045, 102), (37062, 103), (37065, 289), (37052, 91), (37056, 93), (37059, 94), (53299, 119), (45217, 74), (53304, 120), (53309, 121), (45221, 75), (28698, 77), (28702, 79), (28722, 291), (61775, 293), (28727, 292), (61932, 294), (61935, 296), (69641, 295), (62499, 297), (28706, 76), (28710, 78), (28713, 80), (28716, 81), (45224, 57), (45227, 58), (24631, 67), (24658, 62), (24647, 60), (24651, 59), (24654, 20), (24669, 70), (24683, 71), (24680, 21), (24686, 72), (24672, 68), (24675, 69), (24666, 61), (24635, 64), (24662, 63), (24638, 65), (24641, 66), (45230, 106), (45238, 18), (8210, 999), (8223, 290), (53313, 122), (53317, 123), (45253, 26), (45259, 107), (53321, 124), (53325, 125), (45268, 128), (45272, 88), (45278, 89), (53329, 126), (53333, 127), (53337, 129), (53341, 130), (45288, 23), (45290, 86), (45293, 87), (45302, 29), (45305, 30), (53345, 131), (53349, 132), (45312, 84), (53353, 133), (45317, 43), (20507, 44), (45321, 41), (45325, 42), (53357, 134), (53361, 135), (45332, 45), (20511, 46), (20515, 290), (53366, 136), (45336, 47), (53370, 137), (45339, 1), (23, 107), (45343, 2), (29, 286), (34, 287), (37, 289), (45346, 3), (43, 2), (47, 4), (53374, 138), (45349, 8), (50, 7), (53, 5), (56, 10), (45352, 9), (59, 8), (53378, 139), (45355, 48), (53382, 140), (53386, 141), (45361, 50), (20525, 49), (45364, 49), (53390, 142), (45368, 6), (45371, 5), (45374, 287), (53394, 143), (45379, 32), (12362, 31), (12352, 26), (12356, 288), (45382, 31), (53398, 144), (53402, 145), (45388, 51), (20535, 52), (20539, 53), (20543, 289), (53406, 146), (45398, 33), (45401, 34), (12365, 35), (53410, 147), (45404, 54), (53414, 148), (53418, 149), (45410, 55), (53422, 150), (45414, 39), (53427, 151), (45417, 105), (41023, 23), (41027, 999), (41033, 18), (41036, 83), (32790, 999), (53432, 152), (53260, 154), (49153, 998), (53426, 164), (53265, 167), (53270, 173), (49297, 155), (49301, 172), (49293, 156), (53275, 174), (49305, 169), (53280, 176), (49312, 175), (49309, 170), (53303, 178), (49318, 177), (53308, 179), (53312, 212), (49456, 210), (49370, 185), (49325, 180), (49338, 181), (49341, 184), (49345, 182), (49348, 183), (49432, 205), (49392, 187), (49363, 186), (49423, 204), (49417, 203), (49414, 201), (49420, 202), (49377, 188), (49435, 207), (49426, 206), (49438, 209), (49429, 208), (49441, 199), (49404, 198), (49383, 193), (49380, 192), (49373, 191), (49360, 190), (49366, 189), (49408, 197), (49395, 195), (49398, 194), (49401, 196), (49459, 200), (49462, 211), (53316, 213), (53285, 233), (49542, 231), (49527, 230), (49530, 222), (49533, 221), (49490, 217), (49471, 171), (49483, 162), (49494, 218), (49487, 216), (49468, 215), (49465, 214), (49546, 163), (49549, 232), (49536, 229), (49500, 158), (49503, 223), (49539, 228), (49515, 224), (49518, 225), (49497, 219), (49521, 227), (49506, 220), (49509, 168), (49524, 226), (53289, 234), (53294, 235), (53298, 238), (49556, 237), (49553, 236), (53320, 239), (53324, 240), (53328, 242), (49559, 241), (53332, 243), (53336, 244), (53340, 245), (53344, 247), (49562, 165), (49565, 246), (49568, 166), (53348, 248), (53352, 249), (53356, 252), (49574, 251), (49577, 250), (53360, 253), (53365, 255), (49583, 254), (53369, 257), (49589, 256), (49586, 160), (53373, 260), (49595, 258), (49592, 157), (49598, 259), (53377, 262), (49601, 161), (49604, 261), (53381, 263), (53385, 264), (53389, 266), (49611, 265), (53393, 268), (49615, 267), (53397, 270), (49621, 269), (49618, 159), (53401, 271), (53405, 273), (49627, 272), (53409, 275), (49630, 274), (53413, 276), (53417, 277), (53421, 279), (49636, 278), (53431, 284), (49645, 280), (49651, 282), (49654, 283), (49657, 281), (53435, 285)]
def zSLK : List (Nat × Nat) := [(61478, 1), (62493, 2), (20546, 0)]
def zCLK : List (Nat × Int32) := [(37020, 1664525), (37024, 1013904223), (78088, 65536), (78089, 1431655765), (78090, 858993459), (78091, 252645135), (49285, 1664525), (49286, 1013904223), (49277, 1000000007), (49610, 100000000)]
def zLLK : List (Nat × Int64) := [(20521, 2), (20523, 1000000007)]
def zOWN : List Nat := [0, 0, 0, 0, 0, 0, 0, 0, 0, 0, 0, 1, 1, 1, 1, 1, 1, 2, 2, 2, 2, 2, 3, 3, 3, 3, 3, 3, 3, 3, 3, 3, 3, 3, 3, 3, 4, 4, 4, 4, 5, 5, 5, 5, 5, 5, 5, 5, 5, 5, 5, 5, 5, 5, 5, 5, 6, 6, 6, 6, 6, 6, 6, 6, 6, 6, 6, 6, 6, 6, 6, 6, 6, 7, 7, 7, 7, 7, 7, 7, 7, 7, 8, 8, 8, 9, 9, 9, 9, 9, 9, 9, 9, 9, 9, 9, 9, 9, 9, 9, 9, 9, 9, 9, 10, 10, 10, 10, 11, 11, 11, 11, 11, 11, 11, 11, 11, 11, 11, 11, 11, 11, 11, 11, 11, 11, 11, 11, 11, 11, 11, 11, 11, 11, 11, 11, 11, 11, 11, 11, 11, 11, 11, 11, 11, 11, 11, 11, 11, 11, 11, 11, 11, 11, 12, 12, 12, 12, 12, 12, 12, 12, 12, 12, 12, 12, 12, 12, 12, 12, 12, 12, 12, 12, 12, 12, 12, 12, 12, 12, 12, 12, 12, 12, 12, 12, 12, 12, 12, 12, 12, 12, 12, 12, 12, 12, 12, 12, 12, 12, 12, 12, 12, 12, 12, 12, 12, 12, 12, 12, 12, 12, 12, 12, 12, 12, 12, 12, 12, 12, 12, 12, 12, 12, 12, 12, 12, 12, 12, 12, 12, 12, 12, 12, 12, 12, 12, 12, 12, 12, 12, 12, 12, 12, 12, 12, 12, 12, 12, 12, 12, 12, 12, 12, 12, 12, 12, 12, 12, 12, 12, 12, 12, 12, 12, 12, 12, 12, 12, 12, 12, 12, 12, 12, 12, 12, 12, 12, 12, 12, 12, 12, 12, 12, 12, 12, 19, 19, 20, 20, 20, 15, 15, 15, 15, 15, 17, 18, 13]
def zMXL : List Nat := [1, 4, 9, 5, 5, 5, 6, 4, 3, 1, 3, 2, 6, 2, 2, 7, 3, 2, 2, 3, 3, 2, 1, 2, 2, 2, 3, 4, 4, 3, 3, 5, 4, 4, 4, 4, 2, 1, 2, 2, 1, 6, 7, 4, 1, 7, 5, 5, 4, 5, 3, 4, 6, 5, 7, 9, 2, 1, 6, 1, 2, 2, 3, 5, 1, 2, 2, 2, 5, 5, 4, 1, 2, 1, 3, 4, 4, 3, 2, 8, 5, 1, 4, 2, 2, 2, 2, 1, 6, 7, 4, 5, 2, 2, 3, 7, 3, 2, 1, 4, 5, 5, 5, 4, 1, 2, 2, 6, 1, 3, 4, 5, 5, 5, 5, 5, 4, 4, 4, 6, 2, 3, 2, 4, 4, 5, 4, 5, 3, 3, 4, 5, 3, 3, 2, 1, 2, 3, 2, 4, 2, 3, 3, 4, 2, 3, 3, 2, 2, 2, 1, 2, 3, 3, 1, 4, 4, 3, 3, 3, 3, 4, 3, 2, 2, 2, 2, 3, 2, 2, 2, 3, 4, 4, 4, 4, 4, 3, 6, 2, 2, 2, 2, 2, 6, 2, 2, 2, 2, 3, 2, 2, 2, 2, 2, 2, 2, 4, 1, 3, 3, 4, 2, 4, 2, 2, 3, 2, 3, 2, 2, 4, 3, 2, 4, 6, 3, 5, 5, 4, 3, 3, 4, 5, 3, 9, 5, 4, 4, 3, 3, 6, 8, 5, 4, 3, 4, 3, 4, 3, 3, 4, 5, 4, 4, 3, 5, 4, 7, 3, 5, 3, 4, 2, 4, 7, 6, 4, 6, 7, 2, 5, 6, 7, 2, 8, 4, 4, 5, 5, 5, 2, 7, 6, 4, 6, 7, 2, 5, 8, 2, 2, 1, 2, 3, 2, 2, 1, 1, 2, 2, 1, 2, 1, 1, 2, 2, 3, 4]
def zNAR : List Nat := [1, 3, 1, 2, 3, 3, 2, 2, 1, 1, 1, 2, 2, 2, 2, 3, 3, 2, 2, 3, 3, 2, 1, 2, 2, 2, 3, 3, 4, 1, 1, 3, 2, 2, 2, 3, 1, 1, 2, 2, 1, 3, 4, 2, 1, 2, 2, 2, 3, 5, 2, 3, 4, 2, 2, 3, 2, 1, 4, 1, 2, 2, 3, 4, 1, 1, 1, 1, 2, 2, 1, 1, 1, 1, 2, 1, 4, 2, 2, 3, 3, 1, 4, 2, 2, 2, 2, 1, 6, 5, 4, 5, 2, 1, 2, 1, 3, 1, 1, 3, 4, 1, 3, 4, 1, 2, 2, 2, 1, 2, 3, 4, 4, 4, 4, 5, 4, 3, 2, 6, 2, 2, 2, 3, 3, 5, 4, 4, 3, 3, 3, 5, 3, 3, 2, 1, 2, 2, 2, 4, 2, 3, 3, 3, 2, 3, 3, 2, 2, 2, 1, 2, 2, 3, 1, 4, 4, 3, 3, 3, 3, 2, 3, 1, 1, 1, 1, 2, 2, 2, 2, 3, 4, 3, 4, 4, 4, 2, 6, 2, 2, 2, 2, 2, 3, 1, 2, 2, 2, 3, 2, 1, 1, 1, 1, 2, 2, 1, 1, 1, 2, 3, 2, 4, 2, 1, 2, 1, 1, 1, 2, 3, 2, 2, 4, 4, 2, 5, 4, 4, 3, 3, 4, 4, 3, 3, 4, 3, 3, 3, 3, 5, 5, 5, 4, 3, 2, 1, 2, 3, 3, 4, 5, 4, 4, 3, 3, 3, 5, 3, 3, 1, 3, 2, 2, 1, 3, 2, 1, 2, 2, 2, 2, 4, 2, 3, 3, 2, 3, 3, 3, 2, 3, 3, 3, 3, 2, 2, 1, 2, 2, 1, 1, 1, 2, 2, 1, 1, 1, 2, 2, 1, 2, 1, 1, 2, 2, 3, 1]
def zSTA : List Bool := [false, false, false, false, false, false, false, false, false, false, false, false, false, false, true, false, true, false, false, false, false, false, false, false, false, false, false, false, false, false, false, false, false, false, false, false, false, false, false, false, false, false, false, false, true, false, false, false, false, false, false, false, false, false, false, false, false, false, false, false, false, false, false, false, false, false, false, false, false, false, false, false, false, false, false, false, false, false, false, false, false, true, false, false, false, false, false, false, false, false, false, false, false, false, false, false, false, false, false, false, false, false, false, false, false, false, false, false, false, false, false, false, false, false, false, false, false, false, false, false, false, false, false, false, false, false, false, false, false, false, false, false, false, false, false, false, false, false, false, false, false, false, false, false, false, false, false, false, false, false, false, false, false, true, false, false, false, false, false, false, false, false, false, false, false, false, false, false, false, false, false, false, false, false, false, false, false, false, false, false, false, false, false, false, false, false, false, false, false, false, false, false, false, false, false, false, false, false, false, false, false, false, false, false, false, false, false, false, false, false, false, false, false, false, false, false, false, false, false, false, false, false, false, false, false, false, false, false, false, false, false, false, false, false, false, false, false, false, false, false, false, false, false, false, false, false, false, false, false, false, false, false, false, false, false, false, false, false, false, false, false, false, false, false, false, false, false, false, false, false, false, false, false, false, false, false, false, false, false, false, false, false, false, false, false, false, true, true, true, true, true, false, false, false, false, true, true, true, true]
def zRET : List (Option FieldType) := [none, none, (some .int), (some .int), (some .int), (some .int), (some .int), (some .int), (some .int), (some .int), (some .int), none, (some .int), (some .int), (some .int), (some .int), (some .int), none, none, (some .int), none, none, none, none, (some .boolean), (some .boolean), (some .int), (some .int), (some .int), (some .int), (some .int), (some .int), (some .int), (some .int), (some .int), (some .boolean), none, none, none, none, none, (some .int), (some .int), (some .int), (some .int), (some .boolean), none, (some .int), (some .boolean), (some .boolean), (some .int), none, none, none, (some .int), (some .int), none, none, (some .boolean), none, (some .boolean), (some .boolean), (some .boolean), (some .boolean), (some .boolean), (some .boolean), (some .boolean), (some .boolean), (some .boolean), (some .boolean), (some .boolean), (some .boolean), (some .boolean), none, none, none, none, (some .boolean), (some .boolean), (some .int), (some .int), (some .int), none, none, (some .int), none, none, none, none, (some .int), (some .boolean), (some .boolean), (some .boolean), (some .int), (some .int), (some .int), none, (some .boolean), (some .int), none, none, (some .int), none, none, none, none, (some (.object "ClaspedFair$Lines")), (some .int), none, (some .int), (some .int), (some .int), (some .boolean), (some .boolean), (some .boolean), (some .int), (some .int), (some .boolean), (some .int), (some .int), (some .boolean), (some .int), (some .int), (some .int), (some .int), (some .int), (some .int), (some .int), (some .boolean), (some .int), (some .int), (some .int), (some .int), (some .int), (some .int), (some .int), (some .int), (some .int), (some .int), (some .int), (some .int), (some .int), (some .int), (some .int), (some .int), (some .int), (some .int), (some .int), (some .int), (some .int), (some .boolean), (some .boolean), (some .int), (some .boolean), none, (some .boolean), (some .int), (some .int), (some .int), (some .int), (some .int), (some .int), (some .boolean), none, (some .boolean), none, none, (some .int), (some .int), (some .boolean), (some .boolean), (some .int), none, (some .int), (some .int), (some .boolean), (some .boolean), none, (some .int), (some .boolean), (some .int), (some .boolean), (some .boolean), (some .boolean), (some .int), none, (some .int), (some .boolean), (some .boolean), none, (some .boolean), (some .int), (some .int), (some .int), (some .int), none, none, (some .int), (some .boolean), (some .int), none, (some .int), (some .int), (some .int), (some .int), (some .int), (some .int), (some .int), (some .int), (some .int), (some .int), none, (some .int), (some .int), (some .int), (some .int), (some .int), none, (some .int), (some .int), (some .int), (some .int), none, none, (some .boolean), (some .int), none, (some .boolean), (some .int), none, (some .boolean), (some .boolean), (some .int), (some .int), (some .int), (some .boolean), none, (some .int), (some .int), (some .int), (some .int), (some .boolean), (some .int), (some .int), (some .int), (some .int), (some .int), (some .int), (some .int), (some .int), (some .int), (some .int), (some .int), (some .int), (some .int), (some .int), (some .int), (some .int), none, (some .int), (some .int), (some .int), (some .int), (some .int), (some .int), (some .boolean), (some .int), (some .int), (some .int), (some .int), (some .int), (some .int), (some .int), (some .int), (some .boolean), (some .int), (some .int), (some .int), none, (some .int), (some .int), none, none, none, (some .boolean), (some .int), (some .int), (some .int), (some .int), (some .int), (some .int), (some .int), (some .char), (some .byte), (some .boolean), none, (some .char), (some .int), (some .boolean)]
def zfty (k f : Nat) : Nat := (zFTY.getD k []).getD f 9
def ztgt (k i f : Nat) : Nat × Nat × Nat := ((zTGT.getD k []).getD f (fun _ => (99, 0, 0))) i
def zaty (k s : Nat) : Nat := (zATY.getD k []).getD s 9
def zaln (L k i s : Nat) : Nat := ((zALN.getD k []).getD s (fun _ _ => 0)) L i
def zflk (o x : Nat) : Option (Nat × Nat) := match zFLK.find? (fun q => Nat.beq q.1 (o * 4096 + x)) with
  | some q => some q.2
  | none => none
def zmlk (o x : Nat) : Option Nat := match zMLK.find? (fun q => Nat.beq q.1 (o * 4096 + x)) with
  | some q => some q.2
  | none => none
def zslk (o x : Nat) : Option Nat := match zSLK.find? (fun q => Nat.beq q.1 (o * 4096 + x)) with
  | some q => some q.2
  | none => none
def zclk (o x : Nat) : Option Int32 := match zCLK.find? (fun q => Nat.beq q.1 (o * 4096 + x)) with
  | some q => some q.2
  | none => none
def zllk (o x : Nat) : Option Int64 := match zLLK.find? (fun q => Nat.beq q.1 (o * 4096 + x)) with
  | some q => some q.2
  | none => none
def zown (m : Nat) : Nat := zOWN.getD m 99
def zmxl (m : Nat) : Nat := zMXL.getD m 0
def znar (m : Nat) : Nat := zNAR.getD m 0
def zsta (m : Nat) : Bool := zSTA.getD m false
def zret (m : Nat) : Option FieldType := zRET.getD m none
/-- how long an instruction is, where its kind says it -/
def zwd (i : Instr) : Nat := match i with
  | .bipush _ | .ldc _ | .iload _ | .aload _ | .istore _ | .astore _ | .lload _ | .lstore _ => 2
  | .sipush _ | .ldc_w _ | .ldc2_w _ | .getstatic _ | .getfield _ | .putfield _ | .invokevirtual _ | .invokespecial _ | .invokestatic _ | .ifCond _ _ | .if_icmp _ _ | .goto _ | .iinc _ _ => 3
  | _ => 1
def zfet (m pc : Nat) : Option Instr := match (zTAB.getD m []).find? (fun q => Nat.beq q.1 pc) with
  | some q => if zsw q.2.1 || Nat.beq q.2.2 (zwd q.2.1) then some q.2.1 else none
  | none => none
def zent (m : Nat) (as : List zV) : zLS := as.map some ++ List.replicate (zmxl m - as.length) none
def znx (pc : Nat) (ls : zLS) (h : zH) (o : Option (List zV)) : Option zAR := match o with
  | some st => some (.inl (pc, ls, st, h))
  | none => none
def zld (ls : zLS) (i : Nat) (st : List zV) : Option (List zV) := match zlg ls i with
  | some (.inl x) => some (.inl x :: st)
  | _ => none
def zlda (ls : zLS) (i : Nat) (st : List zV) : Option (List zV) := match zlg ls i with
  | some (.inr (.inl (k, j, s))) => if k ≤ 15 then some (.inr (.inl (k, j, s)) :: st) else none
  | _ => none
def zldl (ls : zLS) (i : Nat) (st : List zV) : Option (List zV) := match zlg ls i with
  | some (.inr (.inr x)) => some (.inr (.inr x) :: st)
  | _ => none
def zsti (pc : Nat) (ls : zLS) (i : Nat) (st : List zV) (h : zH) : Option zAR := match st with
  | .inl x :: r => match zlsI ls i (.inl x) with
    | some ls' => some (.inl (pc, ls', r, h))
    | none => none
  | _ => none
def zsta_ (pc : Nat) (ls : zLS) (i : Nat) (st : List zV) (h : zH) : Option zAR := match st with
  | .inr (.inl (k, j, s)) :: r => if k ≤ 15 then (match zlsI ls i (.inr (.inl (k, j, s))) with
    | some ls' => some (.inl (pc, ls', r, h))
    | none => none) else none
  | _ => none
def zstl (pc : Nat) (ls : zLS) (i : Nat) (st : List zV) (h : zH) : Option zAR := match st with
  | .inr (.inr x) :: r => match zlsL ls i x with
    | some ls' => some (.inl (pc, ls', r, h))
    | none => none
  | _ => none
def zjmp (t : Option Nat) (ls : zLS) (st : List zV) (h : zH) : Option zAR := match t with
  | some p => some (.inl (p, ls, st, h))
  | none => none
def zgetf (q : Nat × Nat) (st : List zV) (h : zH) : Option (List zV) := match st with
  | .inr (.inl (k, i, s)) :: r => if k = q.1 ∧ s = 0 then (match zfty k q.2 with
      | 2 => some (.inr (.inl (ztgt k i q.2)) :: r)
      | 3 => some (.inr (.inl (3, (h k i 0 q.2).toNatClampNeg, 0)) :: r)
      | 9 => none
      | _ => some (.inl (h k i 0 q.2) :: r)) else none
  | _ => none
def zputf (q : Nat × Nat) (pc : Nat) (ls : zLS) (st : List zV) (h : zH) : Option zAR := match st with
  | .inl v :: .inr (.inl (k, i, s)) :: r => if k = q.1 ∧ s = 0 ∧ k ≤ 12 then (match zfty k q.2 with
      | 0 => some (.inl (pc, ls, r, zup h k i 0 q.2 v))
      | 1 => if v = 0 ∨ v = 1 then some (.inl (pc, ls, r, zup h k i 0 q.2 v)) else none
      | _ => none) else none
  | .inr (.inl (k', i', s')) :: .inr (.inl (k, i, s)) :: r => if k = q.1 ∧ s = 0 ∧ k' = 3 ∧ s' = 0 ∧ k ≤ 12 then (match zfty k q.2 with
      | 3 => some (.inl (pc, ls, r, zup h k i 0 q.2 (Int32.ofNat i')))
      | _ => none) else none
  | _ => none
def zaldi (L ty : Nat) (st : List zV) (h : zH) : Option (List zV) := match st with
  | .inl j :: .inr (.inl (k, i, s)) :: r => if zaty k s = ty ∧ zIn j (zaln L k i s) = true then some (.inl (h k i s j.toNatClampNeg) :: r) else none
  | _ => none
def zalda (L : Nat) (st : List zV) : Option (List zV) := match st with
  | .inl j :: .inr (.inl (k, i, s)) :: r => if zaty k s = 2 ∧ zIn j (zaln L k i s) = true then some (.inr (.inl (3, 3 + j.toNatClampNeg, 0)) :: r) else none
  | _ => none
def zasti (L pc : Nat) (ls : zLS) (st : List zV) (h : zH) : Option zAR := match st with
  | .inl v :: .inl j :: .inr (.inl (k, i, s)) :: r => if zaty k s = 0 ∧ k ≤ 12 ∧ zIn j (zaln L k i s) = true then some (.inl (pc, ls, r, zup h k i s j.toNatClampNeg v)) else none
  | _ => none
def zastb (L pc : Nat) (ls : zLS) (st : List zV) (h : zH) : Option zAR := match st with
  | .inl v :: .inl j :: .inr (.inl (k, i, s)) :: r => if zaty k s = 1 ∧ k ≤ 12 ∧ zIn j (zaln L k i s) = true then some (.inl (pc, ls, r, zup h k i s j.toNatClampNeg v.toInt8.toInt32)) else none
  | _ => none
def zalen (L : Nat) (st : List zV) : Option (List zV) := match st with
  | .inr (.inl (k, i, s)) :: r => if zaty k s ≤ 2 then some (.inl (Int32.ofNat (zaln L k i s)) :: r) else none
  | _ => none
def zcopy (L pc : Nat) (ls : zLS) (st : List zV) (h : zH) : Option zAR := match st with
  | .inl n :: .inl dp :: .inr (.inl (k, i, s)) :: .inl sp :: .inr (.inl (k', i', s')) :: r =>
    if zaty k s = 0 ∧ zaty k' s' = 0 ∧ k ≤ 12 ∧ k' ≤ 12 ∧ ¬ sp < 0 ∧ ¬ dp < 0 ∧ ¬ n < 0 ∧ sp.toNatClampNeg + n.toNatClampNeg ≤ zaln L k' i' s' ∧ dp.toNatClampNeg + n.toNatClampNeg ≤ zaln L k i s ∧ r.length ≤ 4
    then some (.inl (pc, ls, r, zupA h k i s (va_cpy (h k' i' s') (h k i s) sp.toNatClampNeg dp.toNatClampNeg n.toNatClampNeg))) else none
  | _ => none
def zcallV (m' : Nat) (st : List zV) : Option zAR :=
  if zsta m' = false ∧ znar m' ≤ st.length ∧ st.length ≤ znar m' + 4 then (match (st.take (znar m')).reverse with
    | .inr (.inl (k, i, s)) :: as => if k = zown m' ∧ s = 0 ∧ k ≤ 15 then some (.inr (.inl (m', .inr (.inl (k, i, s)) :: as, st.drop (znar m')))) else none
    | _ => none) else none
def zcallS (m' : Nat) (st : List zV) : Option zAR :=
  if zsta m' = true ∧ znar m' ≤ st.length ∧ st.length ≤ znar m' + 4 then some (.inr (.inl (m', (st.take (znar m')).reverse, st.drop (znar m')))) else none
def zgets (x : Nat) (st : List zV) : Option (List zV) := match x with
  | 0 => some (.inr (.inl (14, 0, 0)) :: st)
  | 1 => some (.inl 1 :: st)
  | 2 => some (.inr (.inl (16, 0, 0)) :: st)
  | _ => none
/-- one instruction -/
def zstep (L m pc : Nat) (i : Instr) (ls : zLS) (st : List zV) (h : zH) : Option zAR := match i with
  | .iconst n => znx (pc + 1) ls h (some (.inl (Int32.ofInt n) :: st))
  | .bipush n => znx (pc + 2) ls h (some (.inl (Int8.ofInt n).toInt32 :: st))
  | .sipush n => znx (pc + 3) ls h (some (.inl (Int16.ofInt n).toInt32 :: st))
  | .lconst n => znx (pc + 1) ls h (some (.inr (.inr (Int64.ofNat n.val)) :: st))
  | .ldc x => if zown m = 7 ∧ x = 48 then some (.inl (pc + 2, ls, .inr (.inl (15, 0, 0)) :: st, h)) else (match zclk (zown m) x with
    | some v => some (.inl (pc + 2, ls, .inl v :: st, h))
    | none => none)
  | .ldc_w x => (match zclk (zown m) x with
    | some v => some (.inl (pc + 3, ls, .inl v :: st, h))
    | none => none)
  | .ldc2_w x => (match zllk (zown m) x with
    | some v => some (.inl (pc + 3, ls, .inr (.inr v) :: st, h))
    | none => none)
  | .iload x => znx (pc + 2) ls h (zld ls x st)
  | .iload_n x => znx (pc + 1) ls h (zld ls x.val st)
  | .aload x => znx (pc + 2) ls h (zlda ls x st)
  | .aload_n x => znx (pc + 1) ls h (zlda ls x.val st)
  | .lload_n x => znx (pc + 1) ls h (zldl ls x.val st)
  | .istore x => zsti (pc + 2) ls x st h
  | .istore_n x => zsti (pc + 1) ls x.val st h
  | .astore x => zsta_ (pc + 2) ls x st h
  | .astore_n x => zsta_ (pc + 1) ls x.val st h
  | .lstore_n x => zstl (pc + 1) ls x.val st h
  | .iinc x n => (match zlg ls x with
    | some (.inl v) => (match zlsI ls x (.inl (v + Int32.ofInt n)) with
      | some ls' => some (.inl (pc + 3, ls', st, h))
      | none => none)
    | _ => none)
  | .iadd => znx (pc + 1) ls h (zop2 st fun x y => some (.inl (x + y)))
  | .isub => znx (pc + 1) ls h (zop2 st fun x y => some (.inl (x - y)))
  | .imul => znx (pc + 1) ls h (zop2 st fun x y => some (.inl (x * y)))
  | .idiv => znx (pc + 1) ls h (zop2 st fun x y => if y = 0 then none else some (.inl (x / y)))
  | .irem => znx (pc + 1) ls h (zop2 st fun x y => if y = 0 then none else some (.inl (x - x / y * y)))
  | .ineg => znx (pc + 1) ls h (zop1 st fun x => some (.inl (-x)))
  | .iand => znx (pc + 1) ls h (zop2 st fun x y => some (.inl (x &&& y)))
  | .ior => znx (pc + 1) ls h (zop2 st fun x y => some (.inl (x ||| y)))
  | .ixor => znx (pc + 1) ls h (zop2 st fun x y => some (.inl (x ^^^ y)))
  | .ishl => znx (pc + 1) ls h (zop2 st fun x y => some (.inl (x <<< (y &&& 31))))
  | .ishr => znx (pc + 1) ls h (zop2 st fun x y => some (.inl (x >>> (y &&& 31))))
  | .iushr => znx (pc + 1) ls h (zop2 st fun x y => some (.inl ((x.toUInt32 >>> (y.toUInt32 &&& Int32.toUInt32 31)).toInt32)))
  | .i2b => znx (pc + 1) ls h (zop1 st fun x => some (.inl x.toInt8.toInt32))
  | .i2c => znx (pc + 1) ls h (zop1 st fun x => some (.inl (x.toUInt32 % 65536).toInt32))
  | .i2l => znx (pc + 1) ls h (zop1 st fun x => some (.inr (.inr x.toInt64)))
  | .l2i => (match st with
    | .inr (.inr x) :: r => some (.inl (pc + 1, ls, .inl x.toInt32 :: r, h))
    | _ => none)
  | .lmul => znx (pc + 1) ls h (zopL st fun x y => some (.inr (.inr (x * y))))
  | .ldiv => znx (pc + 1) ls h (zopL st fun x y => if y = 0 then none else some (.inr (.inr (x / y))))
  | .lrem => znx (pc + 1) ls h (zopL st fun x y => if y = 0 then none else some (.inr (.inr (x - x / y * y))))
  | .dup => (match st with
    | .inl x :: r => some (.inl (pc + 1, ls, .inl x :: .inl x :: r, h))
    | .inr (.inl q) :: r => some (.inl (pc + 1, ls, .inr (.inl q) :: .inr (.inl q) :: r, h))
    | _ => none)
  | .dup2 => (match st with
    | .inl x :: .inr (.inl q) :: r => some (.inl (pc + 1, ls, .inl x :: .inr (.inl q) :: .inl x :: .inr (.inl q) :: r, h))
    | _ => none)
  | .pop => (match st with
    | .inl _ :: r => some (.inl (pc + 1, ls, r, h))
    | _ => none)
  | .ifCond c off => (match st with
    | .inl x :: r => if zcmp c x 0 = true then zjmp (zjt pc off) ls r h else some (.inl (pc + 3, ls, r, h))
    | _ => none)
  | .if_icmp c off => (match st with
    | .inl y :: .inl x :: r => if zcmp c x y = true then zjmp (zjt pc off) ls r h else some (.inl (pc + 3, ls, r, h))
    | _ => none)
  | .goto off => zjmp (zjt pc off) ls st h
  | .tableswitch d lo hi offs => (match st with
    | .inl x :: r => if x.toInt < lo ∨ hi < x.toInt then zjmp (zjt pc d) ls r h else (match offs[(x.toInt - lo).toNat]? with
      | some off => zjmp (zjt pc off) ls r h
      | none => none)
    | _ => none)
  | .lookupswitch d ps => (match st with
    | .inl x :: r => if (ps.toList.zip (ps.toList.drop 1)).all (fun (a, next) => a.1 < next.1) = true then zjmp (zjt pc (Op.lookupswitch.offset ps.toList d x.toInt)) ls r h else none
    | _ => none)
  | .getfield x => (match zflk (zown m) x with
    | some q => znx (pc + 3) ls h (zgetf q st h)
    | none => none)
  | .putfield x => (match zflk (zown m) x with
    | some q => zputf q (pc + 3) ls st h
    | none => none)
  | .getstatic x => (match zslk (zown m) x with
    | some q => znx (pc + 3) ls h (zgets q st)
    | none => none)
  | .iaload => znx (pc + 1) ls h (zaldi L 0 st h)
  | .baload => znx (pc + 1) ls h (zaldi L 1 st h)
  | .aaload => znx (pc + 1) ls h (zalda L st)
  | .iastore => zasti L (pc + 1) ls st h
  | .bastore => zastb L (pc + 1) ls st h
  | .arraylength => znx (pc + 1) ls h (zalen L st)
  | .invokevirtual x => (match zmlk (zown m) x with
    | some m' => zcallV m' st
    | none => none)
  | .invokestatic x => (match zmlk (zown m) x with
    | some m' => if m' = 999 then zcopy L (pc + 3) ls st h else zcallS m' st
    | none => none)
  | .ireturn => (match st with
    | [.inl v] => if zrOk (zret m) st = true then some (.inr (.inr (some (.inl v)))) else none
    | _ => none)
  | .areturn => (match st with
    | [.inr (.inl q)] => if zrOkA (zret m) st = true then some (.inr (.inr (some (.inr (.inl q))))) else none
    | _ => none)
  | .return_ => (match st with
    | [] => if zret m = none then some (.inr (.inr none)) else none
    | _ => none)
  | _ => none
/-- n instructions at most, d calls deep at most -/
def zex (L : Nat) : Nat → Nat → Nat → Nat → zLS → List zV → zH → Option zRS
  | 0, _, _, _, _, _, _ => none
  | n + 1, d, m, pc, ls, st, h => match zfet m pc with
    | none => none
    | some i => match zstep L m pc i ls st h with
      | none => none
      | some (.inl (pc', ls', st', h')) => zex L n d m pc' ls' st' h'
      | some (.inr (.inl (m', as, r))) => match d with
        | 0 => none
        | d' + 1 => match zex L n d' m' 0 (zent m' as) [] h with
          | none => none
          | some (v, h') => zex L n (d' + 1) m (pc + 3) ls (v.toList ++ r) h'
      | some (.inr (.inr v)) => some (v, h)
theorem zex_mono (L : Nat) : ∀ (n d m pc : Nat) (ls : zLS) (st : List zV) (h : zH) (r : zRS), zex L n d m pc ls st h = some r → zex L (n + 1) d m pc ls st h = some r := by
  intro n
  induction n with
  | zero => intro d m pc ls st h r e; cases e
  | succ n ih =>
    intro d m pc ls st h r e
    rw [zex] at e ⊢
    cases hi : zfet m pc with
    | none => rw [hi] at e; cases e
    | some i =>
      rw [hi] at e
      simp only at e ⊢
      cases hs : zstep L m pc i ls st h with
      | none => rw [hs] at e; cases e
      | some x =>
        rw [hs] at e
        obtain ⟨pc', ls', st', h'⟩ | ⟨m', as, r'⟩ | v := x
        · exact ih _ _ _ _ _ _ _ e
        · cases d with
          | zero => cases e
          | succ d' =>
            simp only at e ⊢
            cases hc : zex L n d' m' 0 (zent m' as) [] h with
            | none => rw [hc] at e; cases e
            | some q =>
              rw [hc] at e
              rw [ih _ _ _ _ _ _ _ hc]
              exact ih _ _ _ _ _ _ _ e
        · exact e
theorem zex_le {L n n' d m pc : Nat} {ls : zLS} {st : List zV} {h : zH} {r : zRS} (hn : n ≤ n') (e : zex L n d m pc ls st h = some r) : zex L n' d m pc ls st h = some r := by
  induction hn with
  | refl => exact e
  | step _ ih => exact zex_mono L _ _ _ _ _ _ _ _ ih

noncomputable def zev (L d m pc : Nat) (ls : zLS) (st : List zV) (h : zH) : Option zRS := @dite _ (∃ r : zRS, ∃ n, zex L n d m pc ls st h = some r) (Classical.propDecidable _) (fun hx => some (Classical.choose hx)) (fun _ => none)
theorem zev_of {L n d m pc : Nat} {ls : zLS} {st : List zV} {h : zH} {r : zRS} (e : zex L n d m pc ls st h = some r) : zev L d m pc ls st h = some r := by
  unfold zev
  have hx : ∃ r : zRS, ∃ n, zex L n d m pc ls st h = some r := ⟨r, n, e⟩
  rw [dif_pos hx]
  obtain ⟨n', e'⟩ := Classical.choose_spec hx
  have h1 := zex_le (Nat.le_max_left n n') e
  have h2 := zex_le (Nat.le_max_right n n') e'
  exact h2.symm.trans h1
theorem zev_ex {L d m pc : Nat} {ls : zLS} {st : List zV} {h : zH} {r : zRS} (e : zev L d m pc ls st h = some r) : ∃ n, zex L n d m pc ls st h = some r := by
  unfold zev at e
  split at e
  · next hx =>
    obtain ⟨n, e'⟩ := Classical.choose_spec hx
    cases e
    exact ⟨n, e'⟩
  · cases e
theorem zopt_ext {α : Type} {a b : Option α} (h1 : ∀ r, a = some r → b = some r) (h2 : ∀ r, b = some r → a = some r) : a = b := by
  cases a with
  | some r => exact (h1 r rfl).symm
  | none =>
    cases b with
    | some r => exact h2 r rfl
    | none => rfl
theorem zev_go {L d m pc pc' : Nat} {ls ls' : zLS} {st st' : List zV} {h h' : zH} {i : Instr} (hf : zfet m pc = some i) (hs : zstep L m pc i ls st h = some (.inl (pc', ls', st', h'))) : zev L d m pc ls st h = zev L d m pc' ls' st' h' := by
  refine zopt_ext (fun r e => ?_) (fun r e => ?_)
  · obtain ⟨n, e⟩ := zev_ex e
    cases n with
    | zero => cases e
    | succ n =>
      rw [zex, hf] at e
      simp only [hs] at e
      exact zev_of e
  · obtain ⟨n, e⟩ := zev_ex e
    refine zev_of (n := n + 1) ?_
    rw [zex, hf]
    simp only [hs]
    exact e
theorem zev_ret {L d m pc : Nat} {ls : zLS} {st : List zV} {h : zH} {v : Option zV} {i : Instr} (hf : zfet m pc = some i) (hs : zstep L m pc i ls st h = some (.inr (.inr v))) : zev L d m pc ls st h = some (v, h) := by
  refine zev_of (n := 1) ?_
  rw [zex, hf]
  simp only [hs]
theorem zev_call {L d m pc m' : Nat} {ls : zLS} {st as r : List zV} {h : zH} {i : Instr} (hf : zfet m pc = some i) (hs : zstep L m pc i ls st h = some (.inr (.inl (m', as, r)))) : zev L (d + 1) m pc ls st h = (zev L d m' 0 (zent m' as) [] h).bind fun q => zev L (d + 1) m (pc + 3) ls (q.1.toList ++ r) q.2 := by
  refine zopt_ext (fun x e => ?_) (fun x e => ?_)
  · obtain ⟨n, e⟩ := zev_ex e
    cases n with
    | zero => cases e
    | succ n =>
      rw [zex, hf] at e
      simp only [hs] at e
      cases hc : zex L n d m' 0 (zent m' as) [] h with
      | none => rw [hc] at e; cases e
      | some q =>
        rw [hc] at e
        rw [zev_of hc]
        exact zev_of e
  · cases hc : zev L d m' 0 (zent m' as) [] h with
    | none => rw [hc] at e; cases e
    | some q =>
      rw [hc] at e
      obtain ⟨n, e1⟩ := zev_ex hc
      obtain ⟨n', e2⟩ := zev_ex (show zev L (d + 1) m (pc + 3) ls (q.1.toList ++ r) q.2 = some x from e)
      refine zev_of (n := max n n' + 1) ?_
      rw [zex, hf]
      simp only [hs]
      rw [zex_le (Nat.le_max_left n n') e1]
      exact zex_le (Nat.le_max_right n n') e2

