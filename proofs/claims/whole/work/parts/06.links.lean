/-! ===== what the code links, checked against the tables ===== -/
def v_own (i : Nat) : String := match i with
  | 0 => RX0
  | 1 => RX1
  | 2 => RX2
  | 3 => RX3
  | 4 => RX4
  | 5 => RX5
  | 6 => RX6
  | 7 => RX7
  | 8 => RX8
  | 9 => RX9
  | 10 => RX10
  | 11 => RL
  | _ => RJ9
/-- field links: own class, pool number, class, place -/
def v_flk : List (Nat × Nat × Nat × Nat) := [(0, 9, 0, 0), (0, 35, 7, 0), (0, 85, 7, 1), (0, 88, 7, 5), (0, 97, 7, 7), (1, 9, 1, 0), (1, 15, 1, 1), (1, 18, 1, 2), (1, 21, 1, 3), (2, 9, 2, 0), (2, 15, 2, 1), (2, 46, 3, 2), (2, 51, 3, 3), (3, 9, 3, 0), (3, 15, 3, 1), (3, 19, 3, 2), (3, 22, 3, 3), (3, 25, 3, 4), (3, 28, 3, 5), (3, 31, 3, 6), (3, 34, 3, 7), (3, 37, 3, 8), (3, 40, 3, 9), (3, 43, 3, 10), (3, 46, 3, 11), (3, 62, 7, 0), (3, 67, 7, 7), (3, 70, 7, 8), (4, 9, 4, 0), (4, 15, 4, 1), (4, 19, 4, 2), (4, 22, 4, 3), (4, 25, 4, 4), (4, 29, 4, 5), (4, 35, 8, 7), (4, 44, 7, 2), (4, 53, 7, 3), (4, 56, 7, 4), (5, 14, 5, 0), (5, 20, 5, 1), (5, 24, 5, 2), (5, 27, 5, 3), (5, 30, 5, 4), (5, 33, 5, 5), (5, 52, 6, 0), (5, 55, 8, 5), (5, 64, 3, 9), (5, 73, 3, 8), (5, 76, 3, 7), (5, 79, 3, 10), (6, 9, 6, 1), (6, 15, 6, 2), (6, 19, 6, 0), (7, 9, 7, 0), (7, 15, 7, 1), (7, 18, 7, 2), (7, 21, 7, 3), (7, 24, 7, 4), (7, 27, 7, 5), (7, 30, 7, 6), (7, 33, 7, 7), (7, 36, 7, 8), (8, 11, 8, 0), (8, 19, 8, 1), (8, 25, 8, 2), (8, 29, 8, 3), (8, 36, 8, 4), (8, 40, 8, 5), (8, 44, 8, 6), (8, 47, 8, 7), (8, 50, 8, 8), (8, 53, 8, 9), (8, 56, 8, 10), (8, 59, 8, 11), (8, 62, 8, 12), (8, 113, 3, 0), (8, 149, 3, 5), (8, 152, 7, 8), (8, 161, 3, 9), (8, 164, 3, 8), (8, 186, 3, 2), (8, 190, 3, 11), (8, 208, 3, 4), (8, 211, 3, 3), (8, 226, 7, 0), (8, 229, 7, 1), (8, 233, 1, 3), (9, 12, 9, 0), (9, 16, 9, 1), (9, 19, 9, 2), (9, 23, 9, 3), (9, 27, 9, 4), (9, 30, 9, 5), (9, 36, 9, 6), (9, 43, 9, 7), (9, 50, 9, 8), (9, 59, 9, 9), (9, 63, 9, 10), (9, 66, 8, 5), (9, 89, 3, 1), (9, 101, 8, 6), (9, 117, 8, 3), (9, 138, 2, 0), (9, 143, 8, 11), (9, 165, 8, 12), (9, 168, 8, 4), (9, 172, 1, 3), (9, 180, 8, 9), (9, 214, 8, 7), (9, 228, 7, 2), (9, 233, 7, 3), (9, 240, 7, 4), (9, 254, 7, 0), (9, 272, 3, 5), (9, 275, 7, 5), (9, 285, 8, 8), (9, 303, 3, 2), (9, 309, 6, 0), (9, 315, 3, 6), (9, 318, 3, 7), (9, 321, 3, 8), (9, 330, 3, 9), (9, 333, 3, 10), (9, 345, 5, 0), (9, 348, 2, 1), (9, 355, 6, 2), (9, 358, 6, 1), (9, 365, 0, 0), (10, 7, 10, 0), (10, 13, 10, 1), (10, 16, 10, 4), (10, 19, 10, 7), (10, 22, 10, 8), (10, 26, 10, 9), (10, 29, 10, 10), (10, 32, 10, 11), (10, 35, 10, 12), (10, 38, 10, 13), (10, 42, 10, 14), (10, 45, 10, 15), (10, 48, 10, 16), (10, 51, 10, 17), (10, 55, 10, 18), (10, 58, 10, 19), (10, 61, 10, 5), (10, 64, 10, 2), (10, 131, 10, 3), (10, 140, 10, 6)]
/-- method links: own class, pool number, method, kind, arguments -/
def v_mlk_0 : List (Nat × Nat × Nat × Nat × Nat) := [(11, 9, 121, 2, 1), (11, 12, 185, 2, 1), (11, 13, 122, 0, 2), (11, 17, 210, 0, 2), (11, 18, 123, 0, 2), (11, 21, 211, 0, 2), (11, 22, 124, 0, 3), (11, 26, 212, 0, 3), (11, 27, 125, 0, 2), (11, 30, 213, 0, 2), (11, 31, 126, 0, 3), (11, 34, 214, 0, 3), (11, 35, 127, 0, 2), (11, 38, 215, 0, 2), (11, 39, 128, 0, 2), (11, 42, 216, 0, 2), (11, 43, 129, 0, 3), (11, 46, 218, 0, 3), (11, 47, 130, 0, 4), (11, 51, 219, 0, 4), (11, 52, 134, 0, 3), (11, 55, 220, 0, 3), (11, 56, 135, 0, 2), (11, 59, 222, 0, 2), (11, 60, 136, 0, 3), (11, 63, 223, 0, 3), (11, 64, 137, 0, 2), (11, 67, 225, 0, 2)]
def v_mlk_1 : List (Nat × Nat × Nat × Nat × Nat) := [(11, 68, 138, 0, 4), (11, 71, 228, 0, 4), (11, 72, 139, 0, 1), (11, 76, 229, 0, 1), (11, 77, 140, 0, 3), (11, 80, 232, 0, 3), (11, 81, 141, 0, 3), (11, 84, 233, 0, 3), (11, 85, 142, 0, 4), (11, 88, 234, 0, 4), (11, 89, 143, 0, 2), (11, 92, 236, 0, 2), (11, 93, 144, 0, 4), (11, 96, 240, 0, 4), (11, 97, 145, 0, 3), (11, 100, 243, 0, 3), (11, 101, 146, 0, 3), (11, 104, 248, 0, 3), (11, 105, 147, 0, 3), (11, 108, 249, 0, 3), (11, 109, 148, 0, 3), (11, 112, 250, 0, 3), (11, 113, 149, 0, 3), (11, 116, 251, 0, 3), (11, 117, 150, 0, 2), (11, 120, 257, 0, 2), (11, 121, 151, 0, 3), (11, 124, 258, 0, 3)]
def v_mlk_2 : List (Nat × Nat × Nat × Nat × Nat) := [(11, 125, 152, 0, 3), (11, 128, 259, 0, 3), (11, 129, 153, 0, 3), (11, 132, 260, 0, 3), (11, 133, 154, 0, 2), (11, 136, 261, 0, 2), (11, 137, 155, 0, 4), (11, 140, 262, 0, 4), (11, 141, 156, 0, 3), (11, 144, 264, 0, 3), (11, 145, 157, 0, 3), (11, 148, 265, 0, 3), (11, 149, 158, 0, 2), (11, 152, 266, 0, 2), (11, 153, 159, 0, 4), (11, 156, 267, 0, 4), (11, 157, 160, 0, 3), (11, 160, 271, 0, 3), (11, 161, 161, 0, 2), (11, 164, 272, 0, 2), (11, 165, 133, 0, 3), (11, 168, 275, 0, 3), (11, 169, 132, 0, 2), (11, 172, 276, 0, 2), (11, 173, 131, 0, 3), (11, 176, 278, 0, 3), (11, 177, 162, 0, 2), (11, 180, 280, 0, 2)]
def v_mlk_3 : List (Nat × Nat × Nat × Nat × Nat) := [(11, 181, 163, 0, 2), (11, 184, 281, 0, 2), (11, 185, 164, 0, 4), (11, 188, 282, 0, 4), (11, 189, 165, 0, 2), (11, 192, 283, 0, 2), (11, 193, 166, 0, 1), (11, 196, 284, 0, 1), (11, 197, 167, 0, 1), (11, 200, 285, 0, 1), (11, 201, 168, 0, 1), (11, 204, 286, 0, 1), (0, 3, 0, 5, 1), (0, 15, 3, 0, 2), (0, 19, 4, 0, 2), (0, 22, 5, 0, 2), (0, 25, 8, 0, 2), (0, 29, 9, 0, 2), (0, 32, 7, 0, 2), (0, 41, 19, 0, 2), (0, 44, 12, 0, 2), (0, 47, 22, 0, 2), (0, 50, 14, 0, 2), (0, 53, 21, 0, 2), (0, 56, 23, 0, 2), (0, 59, 13, 0, 1), (0, 63, 17, 0, 2), (0, 66, 18, 0, 2)]
def v_mlk_4 : List (Nat × Nat × Nat × Nat × Nat) := [(0, 69, 15, 0, 1), (0, 72, 16, 0, 2), (0, 76, 20, 0, 2), (0, 79, 11, 0, 2), (0, 82, 6, 0, 2), (0, 91, 0, 7, 2), (0, 100, 0, 8, 2), (1, 3, 0, 5, 1), (1, 25, 0, 6, 5), (2, 3, 0, 5, 1), (2, 19, 0, 6, 5), (2, 25, 180, 3, 1), (2, 29, 0, 8, 2), (2, 35, 32, 0, 1), (2, 39, 34, 0, 2), (2, 42, 181, 3, 1), (2, 54, 183, 3, 2), (2, 57, 40, 0, 3), (2, 61, 182, 3, 1), (3, 3, 0, 5, 1), (3, 49, 52, 0, 1), (3, 52, 0, 6, 5), (3, 58, 45, 0, 1), (3, 73, 54, 0, 1), (4, 3, 0, 5, 1), (4, 32, 59, 0, 1), (4, 40, 93, 0, 2), (4, 49, 58, 0, 2)]
def v_mlk_5 : List (Nat × Nat × Nat × Nat × Nat) := [(4, 59, 62, 0, 3), (4, 63, 0, 7, 2), (4, 68, 65, 0, 4), (4, 72, 67, 0, 2), (4, 76, 69, 0, 1), (4, 79, 71, 0, 3), (4, 82, 70, 0, 3), (4, 87, 72, 0, 3), (4, 90, 66, 0, 2), (4, 94, 68, 0, 4), (4, 99, 0, 8, 2), (5, 3, 0, 5, 1), (5, 11, 79, 2, 2), (5, 37, 75, 0, 4), (5, 41, 77, 0, 2), (5, 45, 78, 0, 3), (5, 49, 80, 0, 2), (5, 60, 91, 0, 2), (5, 69, 76, 0, 4), (5, 84, 0, 9, 2), (5, 90, 0, 7, 2), (6, 3, 0, 5, 1), (7, 3, 0, 5, 1), (8, 3, 0, 5, 1), (8, 35, 24, 4, 1), (8, 65, 91, 0, 2), (8, 69, 44, 0, 2), (8, 73, 92, 0, 2)]
def v_mlk_6 : List (Nat × Nat × Nat × Nat × Nat) := [(8, 77, 30, 0, 2), (8, 80, 93, 0, 2), (8, 84, 84, 0, 2), (8, 87, 0, 6, 5), (8, 93, 27, 0, 2), (8, 96, 42, 4, 1), (8, 97, 28, 4, 1), (8, 98, 82, 4, 1), (8, 99, 43, 0, 2), (8, 103, 29, 0, 2), (8, 104, 99, 0, 3), (8, 108, 83, 0, 2), (8, 109, 45, 0, 1), (8, 116, 98, 0, 2), (8, 120, 102, 0, 2), (8, 123, 97, 0, 2), (8, 127, 100, 0, 2), (8, 130, 31, 0, 2), (8, 133, 36, 0, 2), (8, 137, 33, 0, 2), (8, 140, 108, 0, 1), (8, 143, 32, 0, 1), (8, 146, 39, 0, 2), (8, 155, 110, 0, 2), (8, 158, 111, 0, 2), (8, 167, 10, 0, 2), (8, 172, 116, 0, 2), (8, 175, 117, 0, 3)]
def v_mlk_7 : List (Nat × Nat × Nat × Nat × Nat) := [(8, 179, 118, 0, 3), (8, 183, 119, 0, 2), (8, 189, 37, 0, 2), (8, 193, 86, 0, 1), (8, 197, 5, 0, 2), (8, 201, 183, 3, 2), (8, 205, 38, 0, 3), (8, 214, 34, 0, 2), (8, 217, 0, 8, 2), (8, 222, 56, 0, 2), (8, 225, 41, 0, 2), (8, 230, 107, 0, 2), (9, 3, 0, 5, 1), (9, 11, 89, 2, 1), (9, 35, 1, 4, 1), (9, 42, 57, 4, 1), (9, 49, 73, 4, 1), (9, 56, 79, 2, 2), (9, 69, 170, 0, 2), (9, 73, 171, 0, 1), (9, 76, 94, 0, 2), (9, 79, 169, 0, 2), (9, 82, 172, 0, 2), (9, 85, 91, 0, 2), (9, 94, 46, 0, 1), (9, 98, 175, 0, 2), (9, 104, 98, 0, 2), (9, 107, 95, 0, 3)]
def v_mlk_8 : List (Nat × Nat × Nat × Nat × Nat) := [(9, 111, 176, 0, 2), (9, 114, 101, 0, 1), (9, 121, 99, 0, 3), (9, 125, 102, 0, 2), (9, 128, 103, 0, 2), (9, 131, 177, 0, 3), (9, 134, 100, 0, 2), (9, 146, 180, 1, 1), (9, 149, 104, 0, 3), (9, 152, 53, 0, 1), (9, 155, 55, 0, 2), (9, 158, 109, 0, 3), (9, 162, 106, 0, 3), (9, 177, 35, 0, 1), (9, 183, 25, 0, 4), (9, 187, 26, 0, 3), (9, 190, 107, 0, 2), (9, 193, 178, 0, 3), (9, 196, 105, 0, 3), (9, 199, 173, 0, 3), (9, 202, 47, 0, 3), (9, 206, 48, 0, 2), (9, 210, 49, 0, 4), (9, 217, 96, 0, 2), (9, 220, 179, 0, 4), (9, 224, 93, 0, 2), (9, 236, 63, 0, 2), (9, 243, 174, 0, 2)]
def v_mlk_9 : List (Nat × Nat × Nat × Nat × Nat) := [(9, 246, 64, 0, 4), (9, 250, 86, 0, 1), (9, 257, 110, 0, 2), (9, 260, 111, 0, 2), (9, 263, 2, 0, 3), (9, 267, 88, 0, 2), (9, 268, 112, 0, 2), (9, 278, 85, 0, 2), (9, 281, 115, 0, 2), (9, 288, 50, 0, 2), (9, 292, 87, 0, 1), (9, 295, 4, 0, 2), (9, 299, 51, 0, 3), (9, 306, 80, 0, 2), (9, 312, 81, 0, 2), (9, 324, 184, 1, 2), (9, 327, 52, 0, 1), (9, 336, 113, 0, 1), (9, 339, 114, 0, 1), (9, 342, 74, 0, 4), (9, 351, 182, 1, 1), (9, 359, 0, 6, 5), (9, 368, 120, 0, 2), (9, 371, 90, 0, 2), (9, 374, 97, 0, 2), (9, 377, 60, 0, 3), (9, 381, 58, 0, 2), (9, 384, 61, 0, 5)]
def v_mlk_10 : List (Nat × Nat × Nat × Nat × Nat) := [(10, 1, 0, 5, 1), (10, 68, 189, 1, 3), (10, 72, 190, 0, 3), (10, 76, 200, 0, 2), (10, 80, 194, 0, 2), (10, 83, 192, 0, 3), (10, 86, 205, 0, 2), (10, 90, 193, 0, 4), (10, 94, 186, 0, 2), (10, 97, 188, 0, 1), (10, 100, 191, 0, 4), (10, 103, 187, 0, 2), (10, 106, 198, 0, 2), (10, 109, 197, 0, 4), (10, 112, 201, 0, 2), (10, 115, 195, 0, 2), (10, 118, 217, 0, 3), (10, 121, 196, 0, 3), (10, 124, 203, 1, 1), (10, 128, 221, 0, 2), (10, 134, 224, 0, 2), (10, 137, 202, 1, 2), (10, 143, 226, 0, 3), (10, 146, 227, 0, 3), (10, 150, 230, 0, 3), (10, 153, 231, 0, 4), (10, 156, 235, 0, 2), (10, 159, 199, 0, 2)]
def v_mlk_11 : List (Nat × Nat × Nat × Nat × Nat) := [(10, 162, 204, 0, 2), (10, 165, 239, 0, 3), (10, 169, 238, 0, 2), (10, 172, 237, 0, 2), (10, 175, 241, 0, 3), (10, 179, 242, 0, 1), (10, 182, 206, 0, 2), (10, 185, 208, 0, 2), (10, 188, 209, 0, 2), (10, 191, 246, 1, 1), (10, 195, 247, 0, 3), (10, 198, 244, 0, 2), (10, 201, 245, 0, 2), (10, 204, 253, 1, 2), (10, 207, 254, 0, 4), (10, 212, 207, 0, 2), (10, 215, 252, 0, 2), (10, 218, 255, 0, 2), (10, 221, 256, 0, 2), (10, 224, 263, 1, 2), (10, 229, 269, 0, 3), (10, 233, 268, 0, 4), (10, 237, 270, 0, 2), (10, 240, 273, 1, 1), (10, 243, 274, 0, 3), (10, 246, 277, 0, 3), (10, 250, 279, 1, 1)]
def v_mlk : List (Nat × Nat × Nat × Nat × Nat) := v_mlk_0 ++ (v_mlk_1 ++ (v_mlk_2 ++ (v_mlk_3 ++ (v_mlk_4 ++ (v_mlk_5 ++ (v_mlk_6 ++ (v_mlk_7 ++ (v_mlk_8 ++ (v_mlk_9 ++ (v_mlk_10 ++ (v_mlk_11)))))))))))
def v_clk : List (Nat × Nat × Nat × Nat) := [(11, 7, 9, 0), (11, 10, 10, 0), (5, 9, 6, 0), (8, 9, 3, 1), (8, 17, 2, 1), (8, 23, 7, 1), (8, 33, 1, 0), (8, 9, 3, 0), (8, 17, 2, 0), (8, 23, 7, 0), (9, 9, 8, 0), (9, 33, 0, 0), (9, 40, 4, 0), (9, 47, 5, 0), (9, 54, 6, 0)]
def v_ck : List (Nat × Nat × Int) := [(4, 98, 1073741824), (10, 41, 40000), (10, 178, 1073741824)]
def v_ckl : List (Nat × Nat × Int) := [(4, 85, 2), (5, 82, 100000), (10, 210, 100), (10, 227, -1)]
/-- a field's type: 0 an int, 1 a reference, 2 a boolean -/
def v_fts : List (List Nat) := [[1], [1, 1, 1, 0], [1, 0], [1, 0, 0, 0, 0, 0, 0, 0, 0, 0, 0, 0], [1, 1, 1, 1, 0, 1], [1, 1, 1, 1, 1, 0], [1, 0, 2], [0, 0, 0, 0, 0, 0, 0, 0, 0], [1, 1, 1, 1, 1, 0, 0, 0, 0, 0, 0, 0, 0], [1, 1, 2, 0, 0, 0, 1, 1, 1, 1, 1], [1, 1, 2, 0, 1, 0, 0, 1, 0, 1, 0, 1, 0, 1, 1, 1, 1, 1, 1, 1]]
def v_nthL : List (List Nat) → Nat → List Nat
  | [], _ => []
  | x :: _, 0 => x
  | _ :: l, n + 1 => v_nthL l n
def v_fty (ci k : Nat) : Nat := v_nth (v_nthL v_fts ci) k
def v_fin (ci k : Nat) : Bool := match vcl[ci]? with
  | some r => (r.2.1 k).2.2.2
  | none => false
def v_cls3 (k : Nat) : Nat := v_nth [3, 2, 7] (k - 14)
def v_okI (oi : Nat) (m : VM) (pc : Nat) (i : Instr) (len : Nat) (x : VX) : Bool := match i with
  | .iconst _ => len == 1
  | .bipush _ => len == 2
  | .sipush _ => len == 3
  | .ldc idx => (len == 2) && v_ck.elem (oi, idx, x.2.2.2)
  | .ldc2_w idx => (len == 3) && v_ckl.elem (oi, idx, x.2.2.2)
  | .lconst _ => len == 1
  | .iload _ => len == 2
  | .lload _ => len == 2
  | .aload _ => len == 2
  | .iload_n _ => len == 1
  | .lload_n _ => len == 1
  | .aload_n _ => len == 1
  | .istore k => (len == 2) && decide (k < m.2.2.2.1)
  | .astore k => (len == 2) && decide (k < m.2.2.2.1)
  | .lstore k => (len == 2) && decide (k + 1 < m.2.2.2.1)
  | .istore_n k => (len == 1) && decide (k.val < m.2.2.2.1)
  | .astore_n k => (len == 1) && decide (k.val < m.2.2.2.1)
  | .lstore_n k => (len == 1) && decide (k.val + 1 < m.2.2.2.1)
  | .iinc k _ => (len == 3) && decide (k < m.2.2.2.1)
  | .if_icmp _ off => (len == 3) && decide ((pc : Int) + off = (x.1 : Int))
  | .ifCond _ off => (len == 3) && decide ((pc : Int) + off = (x.1 : Int))
  | .ifnonnull off => (len == 3) && decide ((pc : Int) + off = (x.1 : Int))
  | .goto off => (len == 3) && decide ((pc : Int) + off = (x.1 : Int))
  | .tableswitch d _ _ offs => decide (0 ≤ (pc : Int) + d) && offs.toList.all (fun o => decide (0 ≤ (pc : Int) + o))
  | .lookupswitch d ps => decide (0 ≤ (pc : Int) + d) && ps.toList.all (fun o => decide (0 ≤ (pc : Int) + o.2)) && (ps.toList.zip (ps.toList.drop 1)).all (fun (a, next) => a.1 < next.1)
  | .getfield idx => (len == 3) && v_flk.elem (oi, idx, x.1, x.2.1) && ((x.2.2.1 == 1) == (v_fty x.1 x.2.1 == 1)) && decide (x.2.2.1 ≤ 1)
  | .putfield idx => (len == 3) && v_flk.elem (oi, idx, x.1, x.2.1) && (x.2.2.1 == v_fty x.1 x.2.1) && (!(v_fin x.1 x.2.1) || ((m.2.1.name == "<init>") && (oi == x.1))) && decide (x.2.2.1 ≤ 2)
  | .new idx => (len == 3) && v_clk.elem (oi, idx, x.1, 0) && decide (x.1 < 11) && !(x.2.2.1 == 60)
  | .newarray t => (len == 2) && (((x.1 == 11) && (t == .int)) || ((x.1 == 12) && (t == .boolean)) || ((x.1 == 13) && (t == .long))) && !(x.2.2.1 == 60)
  | .anewarray idx => (len == 3) && v_clk.elem (oi, idx, v_cls3 x.1, 1) && decide (14 ≤ x.1 ∧ x.1 ≤ 16) && !(x.2.2.1 == 60)
  | .invokevirtual idx => (len == 3) && v_mlk.elem (oi, idx, x.1, 0, x.2.1) && (x.2.2.1 == 0) && decide ((v_m x.1).2.2.2.2.2.1 + 1 ≤ m.2.2.2.2.2.1) && decide (8 + ((v_m x.1).2.2.2.1 + 11) + (v_m x.1).2.2.2.2.2.2.1 ≤ m.2.2.2.2.2.2.1)
  | .invokestatic idx => (len == 3) && v_mlk.elem (oi, idx, x.1, x.2.2.1, x.2.1) && (((x.2.2.1 == 6) && (x.2.1 == 5) && decide (1 ≤ m.2.2.2.2.2.1) && decide (68 ≤ m.2.2.2.2.2.2.1)) || (((x.2.2.1 == 7) || (x.2.2.1 == 8) || (x.2.2.1 == 9)) && (x.2.1 == 2) && decide (1 ≤ m.2.2.2.2.2.1) && decide (23 ≤ m.2.2.2.2.2.2.1)) || (((x.2.2.1 == 1) || (x.2.2.1 == 3)) && decide ((v_m x.1).2.2.2.2.2.1 + 1 ≤ m.2.2.2.2.2.1) && decide (8 + ((v_m x.1).2.2.2.1 + 11) + (v_m x.1).2.2.2.2.2.2.1 ≤ m.2.2.2.2.2.2.1)))
  | .invokespecial idx => (len == 3) && v_mlk.elem (oi, idx, x.1, x.2.2.1, x.2.1) && (((x.2.2.1 == 5) && (x.2.1 == 1) && decide (1 ≤ m.2.2.2.2.2.1) && decide (20 ≤ m.2.2.2.2.2.2.1)) || (((x.2.2.1 == 2) || (x.2.2.1 == 4)) && decide ((v_m x.1).2.2.2.2.2.1 + 1 ≤ m.2.2.2.2.2.1) && decide (8 + ((v_m x.1).2.2.2.1 + 11) + (v_m x.1).2.2.2.2.2.2.1 ≤ m.2.2.2.2.2.2.1)))
  | .ireturn => (len == 1) && (((x.1 == 0) && decide (m.2.2.2.2.1 = some .int)) || ((x.1 == 1) && decide (m.2.2.2.2.1 = some .boolean)) || ((x.1 == 2) && decide (m.2.2.2.2.1 = some .char)))
  | .lreturn => (len == 1) && decide (m.2.2.2.2.1 = some .long)
  | .areturn => (len == 1) && (decide (m.2.2.2.2.1 = some (.object "BeeYard$Hive")) || decide (m.2.2.2.2.1 = some (.object "BeeYard$Frame")) || decide (m.2.2.2.2.1 = some (.object "BeeYard$Thing")))
  | .return_ => (len == 1) && decide (m.2.2.2.2.1 = none)
  | _ => len == 1
theorem ok_0 : m_0.2.2.2.2.2.2.2.all (fun e => v_okI 11 m_0 e.1 e.2.1 e.2.2.1 e.2.2.2) = true := by decide +kernel
theorem ok_1 : m_1.2.2.2.2.2.2.2.all (fun e => v_okI 0 m_1 e.1 e.2.1 e.2.2.1 e.2.2.2) = true := by decide +kernel
theorem ok_2 : m_2.2.2.2.2.2.2.2.all (fun e => v_okI 0 m_2 e.1 e.2.1 e.2.2.1 e.2.2.2) = true := by decide +kernel
theorem ok_3 : m_3.2.2.2.2.2.2.2.all (fun e => v_okI 0 m_3 e.1 e.2.1 e.2.2.1 e.2.2.2) = true := by decide +kernel
theorem ok_4 : m_4.2.2.2.2.2.2.2.all (fun e => v_okI 0 m_4 e.1 e.2.1 e.2.2.1 e.2.2.2) = true := by decide +kernel
theorem ok_5 : m_5.2.2.2.2.2.2.2.all (fun e => v_okI 0 m_5 e.1 e.2.1 e.2.2.1 e.2.2.2) = true := by decide +kernel
theorem ok_6 : m_6.2.2.2.2.2.2.2.all (fun e => v_okI 0 m_6 e.1 e.2.1 e.2.2.1 e.2.2.2) = true := by decide +kernel
theorem ok_7 : m_7.2.2.2.2.2.2.2.all (fun e => v_okI 0 m_7 e.1 e.2.1 e.2.2.1 e.2.2.2) = true := by decide +kernel
theorem ok_8 : m_8.2.2.2.2.2.2.2.all (fun e => v_okI 0 m_8 e.1 e.2.1 e.2.2.1 e.2.2.2) = true := by decide +kernel
theorem ok_9 : m_9.2.2.2.2.2.2.2.all (fun e => v_okI 0 m_9 e.1 e.2.1 e.2.2.1 e.2.2.2) = true := by decide +kernel
theorem ok_10 : m_10.2.2.2.2.2.2.2.all (fun e => v_okI 0 m_10 e.1 e.2.1 e.2.2.1 e.2.2.2) = true := by decide +kernel
theorem ok_11 : m_11.2.2.2.2.2.2.2.all (fun e => v_okI 0 m_11 e.1 e.2.1 e.2.2.1 e.2.2.2) = true := by decide +kernel
theorem ok_12 : m_12.2.2.2.2.2.2.2.all (fun e => v_okI 0 m_12 e.1 e.2.1 e.2.2.1 e.2.2.2) = true := by decide +kernel
theorem ok_13 : m_13.2.2.2.2.2.2.2.all (fun e => v_okI 0 m_13 e.1 e.2.1 e.2.2.1 e.2.2.2) = true := by decide +kernel
theorem ok_14 : m_14.2.2.2.2.2.2.2.all (fun e => v_okI 0 m_14 e.1 e.2.1 e.2.2.1 e.2.2.2) = true := by decide +kernel
theorem ok_15 : m_15.2.2.2.2.2.2.2.all (fun e => v_okI 0 m_15 e.1 e.2.1 e.2.2.1 e.2.2.2) = true := by decide +kernel
theorem ok_16 : m_16.2.2.2.2.2.2.2.all (fun e => v_okI 0 m_16 e.1 e.2.1 e.2.2.1 e.2.2.2) = true := by decide +kernel
theorem ok_17 : m_17.2.2.2.2.2.2.2.all (fun e => v_okI 0 m_17 e.1 e.2.1 e.2.2.1 e.2.2.2) = true := by decide +kernel
theorem ok_18 : m_18.2.2.2.2.2.2.2.all (fun e => v_okI 0 m_18 e.1 e.2.1 e.2.2.1 e.2.2.2) = true := by decide +kernel
theorem ok_19 : m_19.2.2.2.2.2.2.2.all (fun e => v_okI 0 m_19 e.1 e.2.1 e.2.2.1 e.2.2.2) = true := by decide +kernel
theorem ok_20 : m_20.2.2.2.2.2.2.2.all (fun e => v_okI 0 m_20 e.1 e.2.1 e.2.2.1 e.2.2.2) = true := by decide +kernel
theorem ok_21 : m_21.2.2.2.2.2.2.2.all (fun e => v_okI 0 m_21 e.1 e.2.1 e.2.2.1 e.2.2.2) = true := by decide +kernel
theorem ok_22 : m_22.2.2.2.2.2.2.2.all (fun e => v_okI 0 m_22 e.1 e.2.1 e.2.2.1 e.2.2.2) = true := by decide +kernel
theorem ok_23 : m_23.2.2.2.2.2.2.2.all (fun e => v_okI 0 m_23 e.1 e.2.1 e.2.2.1 e.2.2.2) = true := by decide +kernel
theorem ok_24 : m_24.2.2.2.2.2.2.2.all (fun e => v_okI 1 m_24 e.1 e.2.1 e.2.2.1 e.2.2.2) = true := by decide +kernel
theorem ok_25 : m_25.2.2.2.2.2.2.2.all (fun e => v_okI 1 m_25 e.1 e.2.1 e.2.2.1 e.2.2.2) = true := by decide +kernel
theorem ok_26 : m_26.2.2.2.2.2.2.2.all (fun e => v_okI 1 m_26 e.1 e.2.1 e.2.2.1 e.2.2.2) = true := by decide +kernel
theorem ok_27 : m_27.2.2.2.2.2.2.2.all (fun e => v_okI 1 m_27 e.1 e.2.1 e.2.2.1 e.2.2.2) = true := by decide +kernel
theorem ok_28 : m_28.2.2.2.2.2.2.2.all (fun e => v_okI 2 m_28 e.1 e.2.1 e.2.2.1 e.2.2.2) = true := by decide +kernel
theorem ok_29 : m_29.2.2.2.2.2.2.2.all (fun e => v_okI 2 m_29 e.1 e.2.1 e.2.2.1 e.2.2.2) = true := by decide +kernel
theorem ok_30 : m_30.2.2.2.2.2.2.2.all (fun e => v_okI 2 m_30 e.1 e.2.1 e.2.2.1 e.2.2.2) = true := by decide +kernel
theorem ok_31 : m_31.2.2.2.2.2.2.2.all (fun e => v_okI 2 m_31 e.1 e.2.1 e.2.2.1 e.2.2.2) = true := by decide +kernel
theorem ok_32 : m_32.2.2.2.2.2.2.2.all (fun e => v_okI 2 m_32 e.1 e.2.1 e.2.2.1 e.2.2.2) = true := by decide +kernel
theorem ok_33 : m_33.2.2.2.2.2.2.2.all (fun e => v_okI 2 m_33 e.1 e.2.1 e.2.2.1 e.2.2.2) = true := by decide +kernel
theorem ok_34 : m_34.2.2.2.2.2.2.2.all (fun e => v_okI 2 m_34 e.1 e.2.1 e.2.2.1 e.2.2.2) = true := by decide +kernel
theorem ok_35 : m_35.2.2.2.2.2.2.2.all (fun e => v_okI 2 m_35 e.1 e.2.1 e.2.2.1 e.2.2.2) = true := by decide +kernel
theorem ok_36 : m_36.2.2.2.2.2.2.2.all (fun e => v_okI 2 m_36 e.1 e.2.1 e.2.2.1 e.2.2.2) = true := by decide +kernel
theorem ok_37 : m_37.2.2.2.2.2.2.2.all (fun e => v_okI 2 m_37 e.1 e.2.1 e.2.2.1 e.2.2.2) = true := by decide +kernel
theorem ok_38 : m_38.2.2.2.2.2.2.2.all (fun e => v_okI 2 m_38 e.1 e.2.1 e.2.2.1 e.2.2.2) = true := by decide +kernel
theorem ok_39 : m_39.2.2.2.2.2.2.2.all (fun e => v_okI 2 m_39 e.1 e.2.1 e.2.2.1 e.2.2.2) = true := by decide +kernel
theorem ok_40 : m_40.2.2.2.2.2.2.2.all (fun e => v_okI 2 m_40 e.1 e.2.1 e.2.2.1 e.2.2.2) = true := by decide +kernel
theorem ok_41 : m_41.2.2.2.2.2.2.2.all (fun e => v_okI 2 m_41 e.1 e.2.1 e.2.2.1 e.2.2.2) = true := by decide +kernel
theorem ok_42 : m_42.2.2.2.2.2.2.2.all (fun e => v_okI 3 m_42 e.1 e.2.1 e.2.2.1 e.2.2.2) = true := by decide +kernel
theorem ok_43 : m_43.2.2.2.2.2.2.2.all (fun e => v_okI 3 m_43 e.1 e.2.1 e.2.2.1 e.2.2.2) = true := by decide +kernel
theorem ok_44 : m_44.2.2.2.2.2.2.2.all (fun e => v_okI 3 m_44 e.1 e.2.1 e.2.2.1 e.2.2.2) = true := by decide +kernel
theorem ok_45 : m_45.2.2.2.2.2.2.2.all (fun e => v_okI 3 m_45 e.1 e.2.1 e.2.2.1 e.2.2.2) = true := by decide +kernel
theorem ok_46 : m_46.2.2.2.2.2.2.2.all (fun e => v_okI 3 m_46 e.1 e.2.1 e.2.2.1 e.2.2.2) = true := by decide +kernel
theorem ok_47 : m_47.2.2.2.2.2.2.2.all (fun e => v_okI 3 m_47 e.1 e.2.1 e.2.2.1 e.2.2.2) = true := by decide +kernel
theorem ok_48 : m_48.2.2.2.2.2.2.2.all (fun e => v_okI 3 m_48 e.1 e.2.1 e.2.2.1 e.2.2.2) = true := by decide +kernel
theorem ok_49 : m_49.2.2.2.2.2.2.2.all (fun e => v_okI 3 m_49 e.1 e.2.1 e.2.2.1 e.2.2.2) = true := by decide +kernel
theorem ok_50 : m_50.2.2.2.2.2.2.2.all (fun e => v_okI 3 m_50 e.1 e.2.1 e.2.2.1 e.2.2.2) = true := by decide +kernel
theorem ok_51 : m_51.2.2.2.2.2.2.2.all (fun e => v_okI 3 m_51 e.1 e.2.1 e.2.2.1 e.2.2.2) = true := by decide +kernel
theorem ok_52 : m_52.2.2.2.2.2.2.2.all (fun e => v_okI 3 m_52 e.1 e.2.1 e.2.2.1 e.2.2.2) = true := by decide +kernel
theorem ok_53 : m_53.2.2.2.2.2.2.2.all (fun e => v_okI 3 m_53 e.1 e.2.1 e.2.2.1 e.2.2.2) = true := by decide +kernel
theorem ok_54 : m_54.2.2.2.2.2.2.2.all (fun e => v_okI 3 m_54 e.1 e.2.1 e.2.2.1 e.2.2.2) = true := by decide +kernel
theorem ok_55 : m_55.2.2.2.2.2.2.2.all (fun e => v_okI 3 m_55 e.1 e.2.1 e.2.2.1 e.2.2.2) = true := by decide +kernel
theorem ok_56 : m_56.2.2.2.2.2.2.2.all (fun e => v_okI 3 m_56 e.1 e.2.1 e.2.2.1 e.2.2.2) = true := by decide +kernel
theorem ok_57 : m_57.2.2.2.2.2.2.2.all (fun e => v_okI 4 m_57 e.1 e.2.1 e.2.2.1 e.2.2.2) = true := by decide +kernel
theorem ok_58 : m_58.2.2.2.2.2.2.2.all (fun e => v_okI 4 m_58 e.1 e.2.1 e.2.2.1 e.2.2.2) = true := by decide +kernel
theorem ok_59 : m_59.2.2.2.2.2.2.2.all (fun e => v_okI 4 m_59 e.1 e.2.1 e.2.2.1 e.2.2.2) = true := by decide +kernel
theorem ok_60 : m_60.2.2.2.2.2.2.2.all (fun e => v_okI 4 m_60 e.1 e.2.1 e.2.2.1 e.2.2.2) = true := by decide +kernel
theorem ok_61 : m_61.2.2.2.2.2.2.2.all (fun e => v_okI 4 m_61 e.1 e.2.1 e.2.2.1 e.2.2.2) = true := by decide +kernel
theorem ok_62 : m_62.2.2.2.2.2.2.2.all (fun e => v_okI 4 m_62 e.1 e.2.1 e.2.2.1 e.2.2.2) = true := by decide +kernel
theorem ok_63 : m_63.2.2.2.2.2.2.2.all (fun e => v_okI 4 m_63 e.1 e.2.1 e.2.2.1 e.2.2.2) = true := by decide +kernel
theorem ok_64 : m_64.2.2.2.2.2.2.2.all (fun e => v_okI 4 m_64 e.1 e.2.1 e.2.2.1 e.2.2.2) = true := by decide +kernel
theorem ok_65 : m_65.2.2.2.2.2.2.2.all (fun e => v_okI 4 m_65 e.1 e.2.1 e.2.2.1 e.2.2.2) = true := by decide +kernel
theorem ok_66 : m_66.2.2.2.2.2.2.2.all (fun e => v_okI 4 m_66 e.1 e.2.1 e.2.2.1 e.2.2.2) = true := by decide +kernel
theorem ok_67 : m_67.2.2.2.2.2.2.2.all (fun e => v_okI 4 m_67 e.1 e.2.1 e.2.2.1 e.2.2.2) = true := by decide +kernel
theorem ok_68 : m_68.2.2.2.2.2.2.2.all (fun e => v_okI 4 m_68 e.1 e.2.1 e.2.2.1 e.2.2.2) = true := by decide +kernel
theorem ok_69 : m_69.2.2.2.2.2.2.2.all (fun e => v_okI 4 m_69 e.1 e.2.1 e.2.2.1 e.2.2.2) = true := by decide +kernel
theorem ok_70 : m_70.2.2.2.2.2.2.2.all (fun e => v_okI 4 m_70 e.1 e.2.1 e.2.2.1 e.2.2.2) = true := by decide +kernel
theorem ok_71 : m_71.2.2.2.2.2.2.2.all (fun e => v_okI 4 m_71 e.1 e.2.1 e.2.2.1 e.2.2.2) = true := by decide +kernel
theorem ok_72 : m_72.2.2.2.2.2.2.2.all (fun e => v_okI 4 m_72 e.1 e.2.1 e.2.2.1 e.2.2.2) = true := by decide +kernel
theorem ok_73 : m_73.2.2.2.2.2.2.2.all (fun e => v_okI 5 m_73 e.1 e.2.1 e.2.2.1 e.2.2.2) = true := by decide +kernel
theorem ok_74 : m_74.2.2.2.2.2.2.2.all (fun e => v_okI 5 m_74 e.1 e.2.1 e.2.2.1 e.2.2.2) = true := by decide +kernel
theorem ok_75 : m_75.2.2.2.2.2.2.2.all (fun e => v_okI 5 m_75 e.1 e.2.1 e.2.2.1 e.2.2.2) = true := by decide +kernel
theorem ok_76 : m_76.2.2.2.2.2.2.2.all (fun e => v_okI 5 m_76 e.1 e.2.1 e.2.2.1 e.2.2.2) = true := by decide +kernel
theorem ok_77 : m_77.2.2.2.2.2.2.2.all (fun e => v_okI 5 m_77 e.1 e.2.1 e.2.2.1 e.2.2.2) = true := by decide +kernel
theorem ok_78 : m_78.2.2.2.2.2.2.2.all (fun e => v_okI 5 m_78 e.1 e.2.1 e.2.2.1 e.2.2.2) = true := by decide +kernel
theorem ok_79 : m_79.2.2.2.2.2.2.2.all (fun e => v_okI 6 m_79 e.1 e.2.1 e.2.2.1 e.2.2.2) = true := by decide +kernel
theorem ok_80 : m_80.2.2.2.2.2.2.2.all (fun e => v_okI 6 m_80 e.1 e.2.1 e.2.2.1 e.2.2.2) = true := by decide +kernel
theorem ok_81 : m_81.2.2.2.2.2.2.2.all (fun e => v_okI 6 m_81 e.1 e.2.1 e.2.2.1 e.2.2.2) = true := by decide +kernel
theorem ok_82 : m_82.2.2.2.2.2.2.2.all (fun e => v_okI 7 m_82 e.1 e.2.1 e.2.2.1 e.2.2.2) = true := by decide +kernel
theorem ok_83 : m_83.2.2.2.2.2.2.2.all (fun e => v_okI 7 m_83 e.1 e.2.1 e.2.2.1 e.2.2.2) = true := by decide +kernel
theorem ok_84 : m_84.2.2.2.2.2.2.2.all (fun e => v_okI 7 m_84 e.1 e.2.1 e.2.2.1 e.2.2.2) = true := by decide +kernel
theorem ok_85 : m_85.2.2.2.2.2.2.2.all (fun e => v_okI 7 m_85 e.1 e.2.1 e.2.2.1 e.2.2.2) = true := by decide +kernel
theorem ok_86 : m_86.2.2.2.2.2.2.2.all (fun e => v_okI 7 m_86 e.1 e.2.1 e.2.2.1 e.2.2.2) = true := by decide +kernel
theorem ok_87 : m_87.2.2.2.2.2.2.2.all (fun e => v_okI 7 m_87 e.1 e.2.1 e.2.2.1 e.2.2.2) = true := by decide +kernel
theorem ok_88 : m_88.2.2.2.2.2.2.2.all (fun e => v_okI 7 m_88 e.1 e.2.1 e.2.2.1 e.2.2.2) = true := by decide +kernel
theorem ok_89 : m_89.2.2.2.2.2.2.2.all (fun e => v_okI 8 m_89 e.1 e.2.1 e.2.2.1 e.2.2.2) = true := by decide +kernel
theorem ok_90 : m_90.2.2.2.2.2.2.2.all (fun e => v_okI 8 m_90 e.1 e.2.1 e.2.2.1 e.2.2.2) = true := by decide +kernel
theorem ok_91 : m_91.2.2.2.2.2.2.2.all (fun e => v_okI 8 m_91 e.1 e.2.1 e.2.2.1 e.2.2.2) = true := by decide +kernel
theorem ok_92 : m_92.2.2.2.2.2.2.2.all (fun e => v_okI 8 m_92 e.1 e.2.1 e.2.2.1 e.2.2.2) = true := by decide +kernel
theorem ok_93 : m_93.2.2.2.2.2.2.2.all (fun e => v_okI 8 m_93 e.1 e.2.1 e.2.2.1 e.2.2.2) = true := by decide +kernel
theorem ok_94 : m_94.2.2.2.2.2.2.2.all (fun e => v_okI 8 m_94 e.1 e.2.1 e.2.2.1 e.2.2.2) = true := by decide +kernel
theorem ok_95 : m_95.2.2.2.2.2.2.2.all (fun e => v_okI 8 m_95 e.1 e.2.1 e.2.2.1 e.2.2.2) = true := by decide +kernel
theorem ok_96 : m_96.2.2.2.2.2.2.2.all (fun e => v_okI 8 m_96 e.1 e.2.1 e.2.2.1 e.2.2.2) = true := by decide +kernel
theorem ok_97 : m_97.2.2.2.2.2.2.2.all (fun e => v_okI 8 m_97 e.1 e.2.1 e.2.2.1 e.2.2.2) = true := by decide +kernel
theorem ok_98 : m_98.2.2.2.2.2.2.2.all (fun e => v_okI 8 m_98 e.1 e.2.1 e.2.2.1 e.2.2.2) = true := by decide +kernel
theorem ok_99 : m_99.2.2.2.2.2.2.2.all (fun e => v_okI 8 m_99 e.1 e.2.1 e.2.2.1 e.2.2.2) = true := by decide +kernel
theorem ok_100 : m_100.2.2.2.2.2.2.2.all (fun e => v_okI 8 m_100 e.1 e.2.1 e.2.2.1 e.2.2.2) = true := by decide +kernel
theorem ok_101 : m_101.2.2.2.2.2.2.2.all (fun e => v_okI 8 m_101 e.1 e.2.1 e.2.2.1 e.2.2.2) = true := by decide +kernel
theorem ok_102 : m_102.2.2.2.2.2.2.2.all (fun e => v_okI 8 m_102 e.1 e.2.1 e.2.2.1 e.2.2.2) = true := by decide +kernel
theorem ok_103 : m_103.2.2.2.2.2.2.2.all (fun e => v_okI 8 m_103 e.1 e.2.1 e.2.2.1 e.2.2.2) = true := by decide +kernel
theorem ok_104 : m_104.2.2.2.2.2.2.2.all (fun e => v_okI 8 m_104 e.1 e.2.1 e.2.2.1 e.2.2.2) = true := by decide +kernel
theorem ok_105 : m_105.2.2.2.2.2.2.2.all (fun e => v_okI 8 m_105 e.1 e.2.1 e.2.2.1 e.2.2.2) = true := by decide +kernel
theorem ok_106 : m_106.2.2.2.2.2.2.2.all (fun e => v_okI 8 m_106 e.1 e.2.1 e.2.2.1 e.2.2.2) = true := by decide +kernel
theorem ok_107 : m_107.2.2.2.2.2.2.2.all (fun e => v_okI 8 m_107 e.1 e.2.1 e.2.2.1 e.2.2.2) = true := by decide +kernel
theorem ok_108 : m_108.2.2.2.2.2.2.2.all (fun e => v_okI 8 m_108 e.1 e.2.1 e.2.2.1 e.2.2.2) = true := by decide +kernel
theorem ok_109 : m_109.2.2.2.2.2.2.2.all (fun e => v_okI 8 m_109 e.1 e.2.1 e.2.2.1 e.2.2.2) = true := by decide +kernel
theorem ok_110 : m_110.2.2.2.2.2.2.2.all (fun e => v_okI 8 m_110 e.1 e.2.1 e.2.2.1 e.2.2.2) = true := by decide +kernel
theorem ok_111 : m_111.2.2.2.2.2.2.2.all (fun e => v_okI 8 m_111 e.1 e.2.1 e.2.2.1 e.2.2.2) = true := by decide +kernel
theorem ok_112 : m_112.2.2.2.2.2.2.2.all (fun e => v_okI 8 m_112 e.1 e.2.1 e.2.2.1 e.2.2.2) = true := by decide +kernel
theorem ok_113 : m_113.2.2.2.2.2.2.2.all (fun e => v_okI 8 m_113 e.1 e.2.1 e.2.2.1 e.2.2.2) = true := by decide +kernel
theorem ok_114 : m_114.2.2.2.2.2.2.2.all (fun e => v_okI 8 m_114 e.1 e.2.1 e.2.2.1 e.2.2.2) = true := by decide +kernel
theorem ok_115 : m_115.2.2.2.2.2.2.2.all (fun e => v_okI 8 m_115 e.1 e.2.1 e.2.2.1 e.2.2.2) = true := by decide +kernel
theorem ok_116 : m_116.2.2.2.2.2.2.2.all (fun e => v_okI 8 m_116 e.1 e.2.1 e.2.2.1 e.2.2.2) = true := by decide +kernel
theorem ok_117 : m_117.2.2.2.2.2.2.2.all (fun e => v_okI 8 m_117 e.1 e.2.1 e.2.2.1 e.2.2.2) = true := by decide +kernel
theorem ok_118 : m_118.2.2.2.2.2.2.2.all (fun e => v_okI 8 m_118 e.1 e.2.1 e.2.2.1 e.2.2.2) = true := by decide +kernel
theorem ok_119 : m_119.2.2.2.2.2.2.2.all (fun e => v_okI 8 m_119 e.1 e.2.1 e.2.2.1 e.2.2.2) = true := by decide +kernel
theorem ok_120 : m_120.2.2.2.2.2.2.2.all (fun e => v_okI 8 m_120 e.1 e.2.1 e.2.2.1 e.2.2.2) = true := by decide +kernel
theorem ok_121 : m_121.2.2.2.2.2.2.2.all (fun e => v_okI 9 m_121 e.1 e.2.1 e.2.2.1 e.2.2.2) = true := by decide +kernel
theorem ok_122 : m_122.2.2.2.2.2.2.2.all (fun e => v_okI 9 m_122 e.1 e.2.1 e.2.2.1 e.2.2.2) = true := by decide +kernel
theorem ok_123 : m_123.2.2.2.2.2.2.2.all (fun e => v_okI 9 m_123 e.1 e.2.1 e.2.2.1 e.2.2.2) = true := by decide +kernel
theorem ok_124 : m_124.2.2.2.2.2.2.2.all (fun e => v_okI 9 m_124 e.1 e.2.1 e.2.2.1 e.2.2.2) = true := by decide +kernel
theorem ok_125 : m_125.2.2.2.2.2.2.2.all (fun e => v_okI 9 m_125 e.1 e.2.1 e.2.2.1 e.2.2.2) = true := by decide +kernel
theorem ok_126 : m_126.2.2.2.2.2.2.2.all (fun e => v_okI 9 m_126 e.1 e.2.1 e.2.2.1 e.2.2.2) = true := by decide +kernel
theorem ok_127 : m_127.2.2.2.2.2.2.2.all (fun e => v_okI 9 m_127 e.1 e.2.1 e.2.2.1 e.2.2.2) = true := by decide +kernel
theorem ok_128 : m_128.2.2.2.2.2.2.2.all (fun e => v_okI 9 m_128 e.1 e.2.1 e.2.2.1 e.2.2.2) = true := by decide +kernel
theorem ok_129 : m_129.2.2.2.2.2.2.2.all (fun e => v_okI 9 m_129 e.1 e.2.1 e.2.2.1 e.2.2.2) = true := by decide +kernel
theorem ok_130 : m_130.2.2.2.2.2.2.2.all (fun e => v_okI 9 m_130 e.1 e.2.1 e.2.2.1 e.2.2.2) = true := by decide +kernel
theorem ok_131 : m_131.2.2.2.2.2.2.2.all (fun e => v_okI 9 m_131 e.1 e.2.1 e.2.2.1 e.2.2.2) = true := by decide +kernel
theorem ok_132 : m_132.2.2.2.2.2.2.2.all (fun e => v_okI 9 m_132 e.1 e.2.1 e.2.2.1 e.2.2.2) = true := by decide +kernel
theorem ok_133 : m_133.2.2.2.2.2.2.2.all (fun e => v_okI 9 m_133 e.1 e.2.1 e.2.2.1 e.2.2.2) = true := by decide +kernel
theorem ok_134 : m_134.2.2.2.2.2.2.2.all (fun e => v_okI 9 m_134 e.1 e.2.1 e.2.2.1 e.2.2.2) = true := by decide +kernel
theorem ok_135 : m_135.2.2.2.2.2.2.2.all (fun e => v_okI 9 m_135 e.1 e.2.1 e.2.2.1 e.2.2.2) = true := by decide +kernel
theorem ok_136 : m_136.2.2.2.2.2.2.2.all (fun e => v_okI 9 m_136 e.1 e.2.1 e.2.2.1 e.2.2.2) = true := by decide +kernel
theorem ok_137 : m_137.2.2.2.2.2.2.2.all (fun e => v_okI 9 m_137 e.1 e.2.1 e.2.2.1 e.2.2.2) = true := by decide +kernel
theorem ok_138 : m_138.2.2.2.2.2.2.2.all (fun e => v_okI 9 m_138 e.1 e.2.1 e.2.2.1 e.2.2.2) = true := by decide +kernel
theorem ok_139 : m_139.2.2.2.2.2.2.2.all (fun e => v_okI 9 m_139 e.1 e.2.1 e.2.2.1 e.2.2.2) = true := by decide +kernel
theorem ok_140 : m_140.2.2.2.2.2.2.2.all (fun e => v_okI 9 m_140 e.1 e.2.1 e.2.2.1 e.2.2.2) = true := by decide +kernel
theorem ok_141 : m_141.2.2.2.2.2.2.2.all (fun e => v_okI 9 m_141 e.1 e.2.1 e.2.2.1 e.2.2.2) = true := by decide +kernel
theorem ok_142 : m_142.2.2.2.2.2.2.2.all (fun e => v_okI 9 m_142 e.1 e.2.1 e.2.2.1 e.2.2.2) = true := by decide +kernel
theorem ok_143 : m_143.2.2.2.2.2.2.2.all (fun e => v_okI 9 m_143 e.1 e.2.1 e.2.2.1 e.2.2.2) = true := by decide +kernel
theorem ok_144 : m_144.2.2.2.2.2.2.2.all (fun e => v_okI 9 m_144 e.1 e.2.1 e.2.2.1 e.2.2.2) = true := by decide +kernel
theorem ok_145 : m_145.2.2.2.2.2.2.2.all (fun e => v_okI 9 m_145 e.1 e.2.1 e.2.2.1 e.2.2.2) = true := by decide +kernel
theorem ok_146 : m_146.2.2.2.2.2.2.2.all (fun e => v_okI 9 m_146 e.1 e.2.1 e.2.2.1 e.2.2.2) = true := by decide +kernel
theorem ok_147 : m_147.2.2.2.2.2.2.2.all (fun e => v_okI 9 m_147 e.1 e.2.1 e.2.2.1 e.2.2.2) = true := by decide +kernel
theorem ok_148 : m_148.2.2.2.2.2.2.2.all (fun e => v_okI 9 m_148 e.1 e.2.1 e.2.2.1 e.2.2.2) = true := by decide +kernel
theorem ok_149 : m_149.2.2.2.2.2.2.2.all (fun e => v_okI 9 m_149 e.1 e.2.1 e.2.2.1 e.2.2.2) = true := by decide +kernel
theorem ok_150 : m_150.2.2.2.2.2.2.2.all (fun e => v_okI 9 m_150 e.1 e.2.1 e.2.2.1 e.2.2.2) = true := by decide +kernel
theorem ok_151 : m_151.2.2.2.2.2.2.2.all (fun e => v_okI 9 m_151 e.1 e.2.1 e.2.2.1 e.2.2.2) = true := by decide +kernel
theorem ok_152 : m_152.2.2.2.2.2.2.2.all (fun e => v_okI 9 m_152 e.1 e.2.1 e.2.2.1 e.2.2.2) = true := by decide +kernel
theorem ok_153 : m_153.2.2.2.2.2.2.2.all (fun e => v_okI 9 m_153 e.1 e.2.1 e.2.2.1 e.2.2.2) = true := by decide +kernel
theorem ok_154 : m_154.2.2.2.2.2.2.2.all (fun e => v_okI 9 m_154 e.1 e.2.1 e.2.2.1 e.2.2.2) = true := by decide +kernel
theorem ok_155 : m_155.2.2.2.2.2.2.2.all (fun e => v_okI 9 m_155 e.1 e.2.1 e.2.2.1 e.2.2.2) = true := by decide +kernel
theorem ok_156 : m_156.2.2.2.2.2.2.2.all (fun e => v_okI 9 m_156 e.1 e.2.1 e.2.2.1 e.2.2.2) = true := by decide +kernel
theorem ok_157 : m_157.2.2.2.2.2.2.2.all (fun e => v_okI 9 m_157 e.1 e.2.1 e.2.2.1 e.2.2.2) = true := by decide +kernel
theorem ok_158 : m_158.2.2.2.2.2.2.2.all (fun e => v_okI 9 m_158 e.1 e.2.1 e.2.2.1 e.2.2.2) = true := by decide +kernel
theorem ok_159 : m_159.2.2.2.2.2.2.2.all (fun e => v_okI 9 m_159 e.1 e.2.1 e.2.2.1 e.2.2.2) = true := by decide +kernel
theorem ok_160 : m_160.2.2.2.2.2.2.2.all (fun e => v_okI 9 m_160 e.1 e.2.1 e.2.2.1 e.2.2.2) = true := by decide +kernel
theorem ok_161 : m_161.2.2.2.2.2.2.2.all (fun e => v_okI 9 m_161 e.1 e.2.1 e.2.2.1 e.2.2.2) = true := by decide +kernel
theorem ok_162 : m_162.2.2.2.2.2.2.2.all (fun e => v_okI 9 m_162 e.1 e.2.1 e.2.2.1 e.2.2.2) = true := by decide +kernel
theorem ok_163 : m_163.2.2.2.2.2.2.2.all (fun e => v_okI 9 m_163 e.1 e.2.1 e.2.2.1 e.2.2.2) = true := by decide +kernel
theorem ok_164 : m_164.2.2.2.2.2.2.2.all (fun e => v_okI 9 m_164 e.1 e.2.1 e.2.2.1 e.2.2.2) = true := by decide +kernel
theorem ok_165 : m_165.2.2.2.2.2.2.2.all (fun e => v_okI 9 m_165 e.1 e.2.1 e.2.2.1 e.2.2.2) = true := by decide +kernel
theorem ok_166 : m_166.2.2.2.2.2.2.2.all (fun e => v_okI 9 m_166 e.1 e.2.1 e.2.2.1 e.2.2.2) = true := by decide +kernel
theorem ok_167 : m_167.2.2.2.2.2.2.2.all (fun e => v_okI 9 m_167 e.1 e.2.1 e.2.2.1 e.2.2.2) = true := by decide +kernel
theorem ok_168 : m_168.2.2.2.2.2.2.2.all (fun e => v_okI 9 m_168 e.1 e.2.1 e.2.2.1 e.2.2.2) = true := by decide +kernel
theorem ok_169 : m_169.2.2.2.2.2.2.2.all (fun e => v_okI 9 m_169 e.1 e.2.1 e.2.2.1 e.2.2.2) = true := by decide +kernel
theorem ok_170 : m_170.2.2.2.2.2.2.2.all (fun e => v_okI 9 m_170 e.1 e.2.1 e.2.2.1 e.2.2.2) = true := by decide +kernel
theorem ok_171 : m_171.2.2.2.2.2.2.2.all (fun e => v_okI 9 m_171 e.1 e.2.1 e.2.2.1 e.2.2.2) = true := by decide +kernel
theorem ok_172 : m_172.2.2.2.2.2.2.2.all (fun e => v_okI 9 m_172 e.1 e.2.1 e.2.2.1 e.2.2.2) = true := by decide +kernel
theorem ok_173 : m_173.2.2.2.2.2.2.2.all (fun e => v_okI 9 m_173 e.1 e.2.1 e.2.2.1 e.2.2.2) = true := by decide +kernel
theorem ok_174 : m_174.2.2.2.2.2.2.2.all (fun e => v_okI 9 m_174 e.1 e.2.1 e.2.2.1 e.2.2.2) = true := by decide +kernel
theorem ok_175 : m_175.2.2.2.2.2.2.2.all (fun e => v_okI 9 m_175 e.1 e.2.1 e.2.2.1 e.2.2.2) = true := by decide +kernel
theorem ok_176 : m_176.2.2.2.2.2.2.2.all (fun e => v_okI 9 m_176 e.1 e.2.1 e.2.2.1 e.2.2.2) = true := by decide +kernel
theorem ok_177 : m_177.2.2.2.2.2.2.2.all (fun e => v_okI 9 m_177 e.1 e.2.1 e.2.2.1 e.2.2.2) = true := by decide +kernel
theorem ok_178 : m_178.2.2.2.2.2.2.2.all (fun e => v_okI 9 m_178 e.1 e.2.1 e.2.2.1 e.2.2.2) = true := by decide +kernel
theorem ok_179 : m_179.2.2.2.2.2.2.2.all (fun e => v_okI 9 m_179 e.1 e.2.1 e.2.2.1 e.2.2.2) = true := by decide +kernel
theorem ok_180 : m_180.2.2.2.2.2.2.2.all (fun e => v_okI 9 m_180 e.1 e.2.1 e.2.2.1 e.2.2.2) = true := by decide +kernel
theorem ok_181 : m_181.2.2.2.2.2.2.2.all (fun e => v_okI 9 m_181 e.1 e.2.1 e.2.2.1 e.2.2.2) = true := by decide +kernel
theorem ok_182 : m_182.2.2.2.2.2.2.2.all (fun e => v_okI 9 m_182 e.1 e.2.1 e.2.2.1 e.2.2.2) = true := by decide +kernel
theorem ok_183 : m_183.2.2.2.2.2.2.2.all (fun e => v_okI 9 m_183 e.1 e.2.1 e.2.2.1 e.2.2.2) = true := by decide +kernel
theorem ok_184 : m_184.2.2.2.2.2.2.2.all (fun e => v_okI 9 m_184 e.1 e.2.1 e.2.2.1 e.2.2.2) = true := by decide +kernel
theorem ok_185 : m_185.2.2.2.2.2.2.2.all (fun e => v_okI 10 m_185 e.1 e.2.1 e.2.2.1 e.2.2.2) = true := by decide +kernel
theorem ok_186 : m_186.2.2.2.2.2.2.2.all (fun e => v_okI 10 m_186 e.1 e.2.1 e.2.2.1 e.2.2.2) = true := by decide +kernel
theorem ok_187 : m_187.2.2.2.2.2.2.2.all (fun e => v_okI 10 m_187 e.1 e.2.1 e.2.2.1 e.2.2.2) = true := by decide +kernel
theorem ok_188 : m_188.2.2.2.2.2.2.2.all (fun e => v_okI 10 m_188 e.1 e.2.1 e.2.2.1 e.2.2.2) = true := by decide +kernel
theorem ok_189 : m_189.2.2.2.2.2.2.2.all (fun e => v_okI 10 m_189 e.1 e.2.1 e.2.2.1 e.2.2.2) = true := by decide +kernel
theorem ok_190 : m_190.2.2.2.2.2.2.2.all (fun e => v_okI 10 m_190 e.1 e.2.1 e.2.2.1 e.2.2.2) = true := by decide +kernel
theorem ok_191 : m_191.2.2.2.2.2.2.2.all (fun e => v_okI 10 m_191 e.1 e.2.1 e.2.2.1 e.2.2.2) = true := by decide +kernel
theorem ok_192 : m_192.2.2.2.2.2.2.2.all (fun e => v_okI 10 m_192 e.1 e.2.1 e.2.2.1 e.2.2.2) = true := by decide +kernel
theorem ok_193 : m_193.2.2.2.2.2.2.2.all (fun e => v_okI 10 m_193 e.1 e.2.1 e.2.2.1 e.2.2.2) = true := by decide +kernel
theorem ok_194 : m_194.2.2.2.2.2.2.2.all (fun e => v_okI 10 m_194 e.1 e.2.1 e.2.2.1 e.2.2.2) = true := by decide +kernel
theorem ok_195 : m_195.2.2.2.2.2.2.2.all (fun e => v_okI 10 m_195 e.1 e.2.1 e.2.2.1 e.2.2.2) = true := by decide +kernel
theorem ok_196 : m_196.2.2.2.2.2.2.2.all (fun e => v_okI 10 m_196 e.1 e.2.1 e.2.2.1 e.2.2.2) = true := by decide +kernel
theorem ok_197 : m_197.2.2.2.2.2.2.2.all (fun e => v_okI 10 m_197 e.1 e.2.1 e.2.2.1 e.2.2.2) = true := by decide +kernel
theorem ok_198 : m_198.2.2.2.2.2.2.2.all (fun e => v_okI 10 m_198 e.1 e.2.1 e.2.2.1 e.2.2.2) = true := by decide +kernel
theorem ok_199 : m_199.2.2.2.2.2.2.2.all (fun e => v_okI 10 m_199 e.1 e.2.1 e.2.2.1 e.2.2.2) = true := by decide +kernel
theorem ok_200 : m_200.2.2.2.2.2.2.2.all (fun e => v_okI 10 m_200 e.1 e.2.1 e.2.2.1 e.2.2.2) = true := by decide +kernel
theorem ok_201 : m_201.2.2.2.2.2.2.2.all (fun e => v_okI 10 m_201 e.1 e.2.1 e.2.2.1 e.2.2.2) = true := by decide +kernel
theorem ok_202 : m_202.2.2.2.2.2.2.2.all (fun e => v_okI 10 m_202 e.1 e.2.1 e.2.2.1 e.2.2.2) = true := by decide +kernel
theorem ok_203 : m_203.2.2.2.2.2.2.2.all (fun e => v_okI 10 m_203 e.1 e.2.1 e.2.2.1 e.2.2.2) = true := by decide +kernel
theorem ok_204 : m_204.2.2.2.2.2.2.2.all (fun e => v_okI 10 m_204 e.1 e.2.1 e.2.2.1 e.2.2.2) = true := by decide +kernel
theorem ok_205 : m_205.2.2.2.2.2.2.2.all (fun e => v_okI 10 m_205 e.1 e.2.1 e.2.2.1 e.2.2.2) = true := by decide +kernel
theorem ok_206 : m_206.2.2.2.2.2.2.2.all (fun e => v_okI 10 m_206 e.1 e.2.1 e.2.2.1 e.2.2.2) = true := by decide +kernel
theorem ok_207 : m_207.2.2.2.2.2.2.2.all (fun e => v_okI 10 m_207 e.1 e.2.1 e.2.2.1 e.2.2.2) = true := by decide +kernel
theorem ok_208 : m_208.2.2.2.2.2.2.2.all (fun e => v_okI 10 m_208 e.1 e.2.1 e.2.2.1 e.2.2.2) = true := by decide +kernel
theorem ok_209 : m_209.2.2.2.2.2.2.2.all (fun e => v_okI 10 m_209 e.1 e.2.1 e.2.2.1 e.2.2.2) = true := by decide +kernel
theorem ok_210 : m_210.2.2.2.2.2.2.2.all (fun e => v_okI 10 m_210 e.1 e.2.1 e.2.2.1 e.2.2.2) = true := by decide +kernel
theorem ok_211 : m_211.2.2.2.2.2.2.2.all (fun e => v_okI 10 m_211 e.1 e.2.1 e.2.2.1 e.2.2.2) = true := by decide +kernel
theorem ok_212 : m_212.2.2.2.2.2.2.2.all (fun e => v_okI 10 m_212 e.1 e.2.1 e.2.2.1 e.2.2.2) = true := by decide +kernel
theorem ok_213 : m_213.2.2.2.2.2.2.2.all (fun e => v_okI 10 m_213 e.1 e.2.1 e.2.2.1 e.2.2.2) = true := by decide +kernel
theorem ok_214 : m_214.2.2.2.2.2.2.2.all (fun e => v_okI 10 m_214 e.1 e.2.1 e.2.2.1 e.2.2.2) = true := by decide +kernel
theorem ok_215 : m_215.2.2.2.2.2.2.2.all (fun e => v_okI 10 m_215 e.1 e.2.1 e.2.2.1 e.2.2.2) = true := by decide +kernel
theorem ok_216 : m_216.2.2.2.2.2.2.2.all (fun e => v_okI 10 m_216 e.1 e.2.1 e.2.2.1 e.2.2.2) = true := by decide +kernel
theorem ok_217 : m_217.2.2.2.2.2.2.2.all (fun e => v_okI 10 m_217 e.1 e.2.1 e.2.2.1 e.2.2.2) = true := by decide +kernel
theorem ok_218 : m_218.2.2.2.2.2.2.2.all (fun e => v_okI 10 m_218 e.1 e.2.1 e.2.2.1 e.2.2.2) = true := by decide +kernel
theorem ok_219 : m_219.2.2.2.2.2.2.2.all (fun e => v_okI 10 m_219 e.1 e.2.1 e.2.2.1 e.2.2.2) = true := by decide +kernel
theorem ok_220 : m_220.2.2.2.2.2.2.2.all (fun e => v_okI 10 m_220 e.1 e.2.1 e.2.2.1 e.2.2.2) = true := by decide +kernel
theorem ok_221 : m_221.2.2.2.2.2.2.2.all (fun e => v_okI 10 m_221 e.1 e.2.1 e.2.2.1 e.2.2.2) = true := by decide +kernel
theorem ok_222 : m_222.2.2.2.2.2.2.2.all (fun e => v_okI 10 m_222 e.1 e.2.1 e.2.2.1 e.2.2.2) = true := by decide +kernel
theorem ok_223 : m_223.2.2.2.2.2.2.2.all (fun e => v_okI 10 m_223 e.1 e.2.1 e.2.2.1 e.2.2.2) = true := by decide +kernel
theorem ok_224 : m_224.2.2.2.2.2.2.2.all (fun e => v_okI 10 m_224 e.1 e.2.1 e.2.2.1 e.2.2.2) = true := by decide +kernel
theorem ok_225 : m_225.2.2.2.2.2.2.2.all (fun e => v_okI 10 m_225 e.1 e.2.1 e.2.2.1 e.2.2.2) = true := by decide +kernel
theorem ok_226 : m_226.2.2.2.2.2.2.2.all (fun e => v_okI 10 m_226 e.1 e.2.1 e.2.2.1 e.2.2.2) = true := by decide +kernel
theorem ok_227 : m_227.2.2.2.2.2.2.2.all (fun e => v_okI 10 m_227 e.1 e.2.1 e.2.2.1 e.2.2.2) = true := by decide +kernel
theorem ok_228 : m_228.2.2.2.2.2.2.2.all (fun e => v_okI 10 m_228 e.1 e.2.1 e.2.2.1 e.2.2.2) = true := by decide +kernel
theorem ok_229 : m_229.2.2.2.2.2.2.2.all (fun e => v_okI 10 m_229 e.1 e.2.1 e.2.2.1 e.2.2.2) = true := by decide +kernel
theorem ok_230 : m_230.2.2.2.2.2.2.2.all (fun e => v_okI 10 m_230 e.1 e.2.1 e.2.2.1 e.2.2.2) = true := by decide +kernel
theorem ok_231 : m_231.2.2.2.2.2.2.2.all (fun e => v_okI 10 m_231 e.1 e.2.1 e.2.2.1 e.2.2.2) = true := by decide +kernel
theorem ok_232 : m_232.2.2.2.2.2.2.2.all (fun e => v_okI 10 m_232 e.1 e.2.1 e.2.2.1 e.2.2.2) = true := by decide +kernel
theorem ok_233 : m_233.2.2.2.2.2.2.2.all (fun e => v_okI 10 m_233 e.1 e.2.1 e.2.2.1 e.2.2.2) = true := by decide +kernel
theorem ok_234 : m_234.2.2.2.2.2.2.2.all (fun e => v_okI 10 m_234 e.1 e.2.1 e.2.2.1 e.2.2.2) = true := by decide +kernel
theorem ok_235 : m_235.2.2.2.2.2.2.2.all (fun e => v_okI 10 m_235 e.1 e.2.1 e.2.2.1 e.2.2.2) = true := by decide +kernel
theorem ok_236 : m_236.2.2.2.2.2.2.2.all (fun e => v_okI 10 m_236 e.1 e.2.1 e.2.2.1 e.2.2.2) = true := by decide +kernel
theorem ok_237 : m_237.2.2.2.2.2.2.2.all (fun e => v_okI 10 m_237 e.1 e.2.1 e.2.2.1 e.2.2.2) = true := by decide +kernel
theorem ok_238 : m_238.2.2.2.2.2.2.2.all (fun e => v_okI 10 m_238 e.1 e.2.1 e.2.2.1 e.2.2.2) = true := by decide +kernel
theorem ok_239 : m_239.2.2.2.2.2.2.2.all (fun e => v_okI 10 m_239 e.1 e.2.1 e.2.2.1 e.2.2.2) = true := by decide +kernel
theorem ok_240 : m_240.2.2.2.2.2.2.2.all (fun e => v_okI 10 m_240 e.1 e.2.1 e.2.2.1 e.2.2.2) = true := by decide +kernel
theorem ok_241 : m_241.2.2.2.2.2.2.2.all (fun e => v_okI 10 m_241 e.1 e.2.1 e.2.2.1 e.2.2.2) = true := by decide +kernel
theorem ok_242 : m_242.2.2.2.2.2.2.2.all (fun e => v_okI 10 m_242 e.1 e.2.1 e.2.2.1 e.2.2.2) = true := by decide +kernel
theorem ok_243 : m_243.2.2.2.2.2.2.2.all (fun e => v_okI 10 m_243 e.1 e.2.1 e.2.2.1 e.2.2.2) = true := by decide +kernel
theorem ok_244 : m_244.2.2.2.2.2.2.2.all (fun e => v_okI 10 m_244 e.1 e.2.1 e.2.2.1 e.2.2.2) = true := by decide +kernel
theorem ok_245 : m_245.2.2.2.2.2.2.2.all (fun e => v_okI 10 m_245 e.1 e.2.1 e.2.2.1 e.2.2.2) = true := by decide +kernel
theorem ok_246 : m_246.2.2.2.2.2.2.2.all (fun e => v_okI 10 m_246 e.1 e.2.1 e.2.2.1 e.2.2.2) = true := by decide +kernel
theorem ok_247 : m_247.2.2.2.2.2.2.2.all (fun e => v_okI 10 m_247 e.1 e.2.1 e.2.2.1 e.2.2.2) = true := by decide +kernel
theorem ok_248 : m_248.2.2.2.2.2.2.2.all (fun e => v_okI 10 m_248 e.1 e.2.1 e.2.2.1 e.2.2.2) = true := by decide +kernel
theorem ok_249 : m_249.2.2.2.2.2.2.2.all (fun e => v_okI 10 m_249 e.1 e.2.1 e.2.2.1 e.2.2.2) = true := by decide +kernel
theorem ok_250 : m_250.2.2.2.2.2.2.2.all (fun e => v_okI 10 m_250 e.1 e.2.1 e.2.2.1 e.2.2.2) = true := by decide +kernel
theorem ok_251 : m_251.2.2.2.2.2.2.2.all (fun e => v_okI 10 m_251 e.1 e.2.1 e.2.2.1 e.2.2.2) = true := by decide +kernel
theorem ok_252 : m_252.2.2.2.2.2.2.2.all (fun e => v_okI 10 m_252 e.1 e.2.1 e.2.2.1 e.2.2.2) = true := by decide +kernel
theorem ok_253 : m_253.2.2.2.2.2.2.2.all (fun e => v_okI 10 m_253 e.1 e.2.1 e.2.2.1 e.2.2.2) = true := by decide +kernel
theorem ok_254 : m_254.2.2.2.2.2.2.2.all (fun e => v_okI 10 m_254 e.1 e.2.1 e.2.2.1 e.2.2.2) = true := by decide +kernel
theorem ok_255 : m_255.2.2.2.2.2.2.2.all (fun e => v_okI 10 m_255 e.1 e.2.1 e.2.2.1 e.2.2.2) = true := by decide +kernel
theorem ok_256 : m_256.2.2.2.2.2.2.2.all (fun e => v_okI 10 m_256 e.1 e.2.1 e.2.2.1 e.2.2.2) = true := by decide +kernel
theorem ok_257 : m_257.2.2.2.2.2.2.2.all (fun e => v_okI 10 m_257 e.1 e.2.1 e.2.2.1 e.2.2.2) = true := by decide +kernel
theorem ok_258 : m_258.2.2.2.2.2.2.2.all (fun e => v_okI 10 m_258 e.1 e.2.1 e.2.2.1 e.2.2.2) = true := by decide +kernel
theorem ok_259 : m_259.2.2.2.2.2.2.2.all (fun e => v_okI 10 m_259 e.1 e.2.1 e.2.2.1 e.2.2.2) = true := by decide +kernel
theorem ok_260 : m_260.2.2.2.2.2.2.2.all (fun e => v_okI 10 m_260 e.1 e.2.1 e.2.2.1 e.2.2.2) = true := by decide +kernel
theorem ok_261 : m_261.2.2.2.2.2.2.2.all (fun e => v_okI 10 m_261 e.1 e.2.1 e.2.2.1 e.2.2.2) = true := by decide +kernel
theorem ok_262 : m_262.2.2.2.2.2.2.2.all (fun e => v_okI 10 m_262 e.1 e.2.1 e.2.2.1 e.2.2.2) = true := by decide +kernel
theorem ok_263 : m_263.2.2.2.2.2.2.2.all (fun e => v_okI 10 m_263 e.1 e.2.1 e.2.2.1 e.2.2.2) = true := by decide +kernel
theorem ok_264 : m_264.2.2.2.2.2.2.2.all (fun e => v_okI 10 m_264 e.1 e.2.1 e.2.2.1 e.2.2.2) = true := by decide +kernel
theorem ok_265 : m_265.2.2.2.2.2.2.2.all (fun e => v_okI 10 m_265 e.1 e.2.1 e.2.2.1 e.2.2.2) = true := by decide +kernel
theorem ok_266 : m_266.2.2.2.2.2.2.2.all (fun e => v_okI 10 m_266 e.1 e.2.1 e.2.2.1 e.2.2.2) = true := by decide +kernel
theorem ok_267 : m_267.2.2.2.2.2.2.2.all (fun e => v_okI 10 m_267 e.1 e.2.1 e.2.2.1 e.2.2.2) = true := by decide +kernel
theorem ok_268 : m_268.2.2.2.2.2.2.2.all (fun e => v_okI 10 m_268 e.1 e.2.1 e.2.2.1 e.2.2.2) = true := by decide +kernel
theorem ok_269 : m_269.2.2.2.2.2.2.2.all (fun e => v_okI 10 m_269 e.1 e.2.1 e.2.2.1 e.2.2.2) = true := by decide +kernel
theorem ok_270 : m_270.2.2.2.2.2.2.2.all (fun e => v_okI 10 m_270 e.1 e.2.1 e.2.2.1 e.2.2.2) = true := by decide +kernel
theorem ok_271 : m_271.2.2.2.2.2.2.2.all (fun e => v_okI 10 m_271 e.1 e.2.1 e.2.2.1 e.2.2.2) = true := by decide +kernel
theorem ok_272 : m_272.2.2.2.2.2.2.2.all (fun e => v_okI 10 m_272 e.1 e.2.1 e.2.2.1 e.2.2.2) = true := by decide +kernel
theorem ok_273 : m_273.2.2.2.2.2.2.2.all (fun e => v_okI 10 m_273 e.1 e.2.1 e.2.2.1 e.2.2.2) = true := by decide +kernel
theorem ok_274 : m_274.2.2.2.2.2.2.2.all (fun e => v_okI 10 m_274 e.1 e.2.1 e.2.2.1 e.2.2.2) = true := by decide +kernel
theorem ok_275 : m_275.2.2.2.2.2.2.2.all (fun e => v_okI 10 m_275 e.1 e.2.1 e.2.2.1 e.2.2.2) = true := by decide +kernel
theorem ok_276 : m_276.2.2.2.2.2.2.2.all (fun e => v_okI 10 m_276 e.1 e.2.1 e.2.2.1 e.2.2.2) = true := by decide +kernel
theorem ok_277 : m_277.2.2.2.2.2.2.2.all (fun e => v_okI 10 m_277 e.1 e.2.1 e.2.2.1 e.2.2.2) = true := by decide +kernel
theorem ok_278 : m_278.2.2.2.2.2.2.2.all (fun e => v_okI 10 m_278 e.1 e.2.1 e.2.2.1 e.2.2.2) = true := by decide +kernel
theorem ok_279 : m_279.2.2.2.2.2.2.2.all (fun e => v_okI 10 m_279 e.1 e.2.1 e.2.2.1 e.2.2.2) = true := by decide +kernel
theorem ok_280 : m_280.2.2.2.2.2.2.2.all (fun e => v_okI 10 m_280 e.1 e.2.1 e.2.2.1 e.2.2.2) = true := by decide +kernel
theorem ok_281 : m_281.2.2.2.2.2.2.2.all (fun e => v_okI 10 m_281 e.1 e.2.1 e.2.2.1 e.2.2.2) = true := by decide +kernel
theorem ok_282 : m_282.2.2.2.2.2.2.2.all (fun e => v_okI 10 m_282 e.1 e.2.1 e.2.2.1 e.2.2.2) = true := by decide +kernel
theorem ok_283 : m_283.2.2.2.2.2.2.2.all (fun e => v_okI 10 m_283 e.1 e.2.1 e.2.2.1 e.2.2.2) = true := by decide +kernel
theorem ok_284 : m_284.2.2.2.2.2.2.2.all (fun e => v_okI 10 m_284 e.1 e.2.1 e.2.2.1 e.2.2.2) = true := by decide +kernel
theorem ok_285 : m_285.2.2.2.2.2.2.2.all (fun e => v_okI 10 m_285 e.1 e.2.1 e.2.2.1 e.2.2.2) = true := by decide +kernel
theorem ok_286 : m_286.2.2.2.2.2.2.2.all (fun e => v_okI 10 m_286 e.1 e.2.1 e.2.2.1 e.2.2.2) = true := by decide +kernel
