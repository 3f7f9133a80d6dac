set_option maxRecDepth 100000
def k34_12_D : List c_F := [(8, .retAddr 16, .int 1, .retAddr 64), (3, .retAddr 64, .int 1431655765, .retAddr 65), (1, .retAddr 16, .retAddr 65, .retAddr 66), (3, .retAddr 66, .int 858993459, .retAddr 67), (8, .retAddr 66, .int 2, .retAddr 68), (3, .retAddr 68, .int 858993459, .retAddr 69), (0, .retAddr 67, .retAddr 69, .retAddr 70), (8, .retAddr 70, .int 4, .retAddr 71), (0, .retAddr 70, .retAddr 71, .retAddr 72), (3, .retAddr 72, .int 252645135, .retAddr 73), (8, .retAddr 73, .int 8, .retAddr 74), (0, .retAddr 73, .retAddr 74, .retAddr 75), (8, .retAddr 75, .int 16, .retAddr 76), (0, .retAddr 75, .retAddr 76, .retAddr 77), (3, .retAddr 77, .int 63, .retAddr 78), (7, .retAddr 16, .int 11, .retAddr 79), (3, .retAddr 79, .int 1, .retAddr 80), (7, .retAddr 16, .int 10, .retAddr 81), (3, .retAddr 81, .int 1, .retAddr 82), (7, .retAddr 16, .int 9, .retAddr 83), (3, .retAddr 83, .int 1, .retAddr 84), (7, .retAddr 16, .int 8, .retAddr 85), (3, .retAddr 85, .int 1, .retAddr 86), (7, .retAddr 16, .int 7, .retAddr 87), (3, .retAddr 87, .int 1, .retAddr 88), (7, .retAddr 16, .int 6, .retAddr 89), (3, .retAddr 89, .int 1, .retAddr 90), (7, .retAddr 16, .int 5, .retAddr 91), (3, .retAddr 91, .int 1, .retAddr 92), (7, .retAddr 16, .int 4, .retAddr 93), (3, .retAddr 93, .int 1, .retAddr 94), (7, .retAddr 16, .int 3, .retAddr 95), (3, .retAddr 95, .int 1, .retAddr 96), (7, .retAddr 16, .int 2, .retAddr 97), (3, .retAddr 97, .int 1, .retAddr 98), (7, .retAddr 16, .int 1, .retAddr 99), (3, .retAddr 99, .int 1, .retAddr 100), (7, .retAddr 16, .int 0, .retAddr 101), (3, .retAddr 101, .int 1, .retAddr 102), (1, .int 1, .retAddr 80, .retAddr 103), (31, .int 0, .retAddr 103, .retAddr 104), (0, .int 0, .retAddr 80, .retAddr 105), (1, .retAddr 105, .int 99, .retAddr 106), (30, .int 0, .retAddr 106, .retAddr 107), (0, .retAddr 104, .retAddr 107, .retAddr 108), (1, .retAddr 80, .retAddr 108, .retAddr 109), (0, .int 0, .retAddr 109, .retAddr 110), (30, .int 0, .retAddr 110, .retAddr 111), (1, .int 1, .retAddr 82, .retAddr 112), (31, .retAddr 110, .retAddr 112, .retAddr 113), (0, .retAddr 110, .retAddr 82, .retAddr 114), (1, .retAddr 114, .int 99, .retAddr 115), (30, .int 0, .retAddr 115, .retAddr 116), (0, .retAddr 113, .retAddr 116, .retAddr 117), (1, .retAddr 82, .retAddr 117, .retAddr 118), (0, .retAddr 110, .retAddr 118, .retAddr 119), (30, .retAddr 111, .retAddr 119, .retAddr 120), (1, .int 1, .retAddr 84, .retAddr 121), (31, .retAddr 119, .retAddr 121, .retAddr 122), (0, .retAddr 119, .retAddr 84, .retAddr 123), (1, .retAddr 123, .int 99, .retAddr 124), (30, .int 0, .retAddr 124, .retAddr 125), (0, .retAddr 122, .retAddr 125, .retAddr 126), (1, .retAddr 84, .retAddr 126, .retAddr 127), (0, .retAddr 119, .retAddr 127, .retAddr 128), (30, .retAddr 120, .retAddr 128, .retAddr 129), (1, .int 1, .retAddr 86, .retAddr 130), (31, .retAddr 128, .retAddr 130, .retAddr 131), (0, .retAddr 128, .retAddr 86, .retAddr 132), (1, .retAddr 132, .int 99, .retAddr 133), (30, .int 0, .retAddr 133, .retAddr 134), (0, .retAddr 131, .retAddr 134, .retAddr 135), (1, .retAddr 86, .retAddr 135, .retAddr 136), (0, .retAddr 128, .retAddr 136, .retAddr 137), (30, .retAddr 129, .retAddr 137, .retAddr 138), (1, .int 1, .retAddr 88, .retAddr 139), (31, .retAddr 137, .retAddr 139, .retAddr 140), (0, .retAddr 137, .retAddr 88, .retAddr 141), (1, .retAddr 141, .int 99, .retAddr 142), (30, .int 0, .retAddr 142, .retAddr 143), (0, .retAddr 140, .retAddr 143, .retAddr 144), (1, .retAddr 88, .retAddr 144, .retAddr 145), (0, .retAddr 137, .retAddr 145, .retAddr 146), (30, .retAddr 138, .retAddr 146, .retAddr 147), (1, .int 1, .retAddr 90, .retAddr 148), (31, .retAddr 146, .retAddr 148, .retAddr 149), (0, .retAddr 146, .retAddr 90, .retAddr 150), (1, .retAddr 150, .int 99, .retAddr 151), (30, .int 0, .retAddr 151, .retAddr 152), (0, .retAddr 149, .retAddr 152, .retAddr 153), (1, .retAddr 90, .retAddr 153, .retAddr 154), (0, .retAddr 146, .retAddr 154, .retAddr 155), (30, .retAddr 147, .retAddr 155, .retAddr 156), (1, .int 1, .retAddr 92, .retAddr 157), (31, .retAddr 155, .retAddr 157, .retAddr 158), (0, .retAddr 155, .retAddr 92, .retAddr 159), (1, .retAddr 159, .int 99, .retAddr 160), (30, .int 0, .retAddr 160, .retAddr 161), (0, .retAddr 158, .retAddr 161, .retAddr 162), (1, .retAddr 92, .retAddr 162, .retAddr 163), (0, .retAddr 155, .retAddr 163, .retAddr 164), (30, .retAddr 156, .retAddr 164, .retAddr 165), (1, .int 1, .retAddr 94, .retAddr 166), (31, .retAddr 164, .retAddr 166, .retAddr 167), (0, .retAddr 164, .retAddr 94, .retAddr 168), (1, .retAddr 168, .int 99, .retAddr 169), (30, .int 0, .retAddr 169, .retAddr 170), (0, .retAddr 167, .retAddr 170, .retAddr 171), (1, .retAddr 94, .retAddr 171, .retAddr 172), (0, .retAddr 164, .retAddr 172, .retAddr 173), (30, .retAddr 165, .retAddr 173, .retAddr 174), (1, .int 1, .retAddr 96, .retAddr 175), (31, .retAddr 173, .retAddr 175, .retAddr 176), (0, .retAddr 173, .retAddr 96, .retAddr 177), (1, .retAddr 177, .int 99, .retAddr 178), (30, .int 0, .retAddr 178, .retAddr 179), (0, .retAddr 176, .retAddr 179, .retAddr 180), (1, .retAddr 96, .retAddr 180, .retAddr 181), (0, .retAddr 173, .retAddr 181, .retAddr 182), (30, .retAddr 174, .retAddr 182, .retAddr 183), (1, .int 1, .retAddr 98, .retAddr 184), (31, .retAddr 182, .retAddr 184, .retAddr 185), (0, .retAddr 182, .retAddr 98, .retAddr 186), (1, .retAddr 186, .int 99, .retAddr 187), (30, .int 0, .retAddr 187, .retAddr 188), (0, .retAddr 185, .retAddr 188, .retAddr 189), (1, .retAddr 98, .retAddr 189, .retAddr 190), (0, .retAddr 182, .retAddr 190, .retAddr 191), (30, .retAddr 183, .retAddr 191, .retAddr 192), (1, .int 1, .retAddr 100, .retAddr 193), (31, .retAddr 191, .retAddr 193, .retAddr 194), (0, .retAddr 191, .retAddr 100, .retAddr 195), (1, .retAddr 195, .int 99, .retAddr 196), (30, .int 0, .retAddr 196, .retAddr 197), (0, .retAddr 194, .retAddr 197, .retAddr 198), (1, .retAddr 100, .retAddr 198, .retAddr 199), (0, .retAddr 191, .retAddr 199, .retAddr 200), (30, .retAddr 192, .retAddr 200, .retAddr 201), (1, .int 1, .retAddr 102, .retAddr 202), (31, .retAddr 200, .retAddr 202, .retAddr 203), (0, .retAddr 200, .retAddr 102, .retAddr 204), (1, .retAddr 204, .int 99, .retAddr 205), (30, .int 0, .retAddr 205, .retAddr 206), (0, .retAddr 203, .retAddr 206, .retAddr 207), (1, .retAddr 102, .retAddr 207, .retAddr 208), (0, .retAddr 200, .retAddr 208, .retAddr 209), (30, .retAddr 201, .retAddr 209, .retAddr 210), (31, .retAddr 209, .retAddr 103, .retAddr 211), (0, .retAddr 209, .retAddr 80, .retAddr 212), (1, .retAddr 212, .int 99, .retAddr 213), (30, .int 0, .retAddr 213, .retAddr 214), (0, .retAddr 211, .retAddr 214, .retAddr 215), (1, .retAddr 80, .retAddr 215, .retAddr 216), (0, .retAddr 209, .retAddr 216, .retAddr 217), (30, .retAddr 209, .retAddr 217, .retAddr 218), (31, .retAddr 217, .retAddr 112, .retAddr 219), (0, .retAddr 217, .retAddr 82, .retAddr 220), (1, .retAddr 220, .int 99, .retAddr 221), (30, .int 0, .retAddr 221, .retAddr 222), (0, .retAddr 219, .retAddr 222, .retAddr 223), (1, .retAddr 82, .retAddr 223, .retAddr 224), (0, .retAddr 217, .retAddr 224, .retAddr 225), (30, .retAddr 218, .retAddr 225, .retAddr 226), (31, .retAddr 225, .retAddr 121, .retAddr 227), (0, .retAddr 225, .retAddr 84, .retAddr 228), (1, .retAddr 228, .int 99, .retAddr 229), (30, .int 0, .retAddr 229, .retAddr 230), (0, .retAddr 227, .retAddr 230, .retAddr 231), (1, .retAddr 84, .retAddr 231, .retAddr 232), (0, .retAddr 225, .retAddr 232, .retAddr 233), (30, .retAddr 226, .retAddr 233, .retAddr 234), (31, .retAddr 233, .retAddr 130, .retAddr 235), (0, .retAddr 233, .retAddr 86, .retAddr 236), (1, .retAddr 236, .int 99, .retAddr 237), (30, .int 0, .retAddr 237, .retAddr 238), (0, .retAddr 235, .retAddr 238, .retAddr 239), (1, .retAddr 86, .retAddr 239, .retAddr 240), (0, .retAddr 233, .retAddr 240, .retAddr 241), (30, .retAddr 234, .retAddr 241, .retAddr 242), (31, .retAddr 241, .retAddr 139, .retAddr 243), (0, .retAddr 241, .retAddr 88, .retAddr 244), (1, .retAddr 244, .int 99, .retAddr 245), (30, .int 0, .retAddr 245, .retAddr 246), (0, .retAddr 243, .retAddr 246, .retAddr 247), (1, .retAddr 88, .retAddr 247, .retAddr 248), (0, .retAddr 241, .retAddr 248, .retAddr 249), (30, .retAddr 242, .retAddr 249, .retAddr 250), (31, .retAddr 249, .retAddr 148, .retAddr 251), (0, .retAddr 249, .retAddr 90, .retAddr 252), (1, .retAddr 252, .int 99, .retAddr 253), (30, .int 0, .retAddr 253, .retAddr 254), (0, .retAddr 251, .retAddr 254, .retAddr 255), (1, .retAddr 90, .retAddr 255, .retAddr 256), (0, .retAddr 249, .retAddr 256, .retAddr 257), (30, .retAddr 250, .retAddr 257, .retAddr 258), (31, .retAddr 257, .retAddr 157, .retAddr 259), (0, .retAddr 257, .retAddr 92, .retAddr 260), (1, .retAddr 260, .int 99, .retAddr 261), (30, .int 0, .retAddr 261, .retAddr 262), (0, .retAddr 259, .retAddr 262, .retAddr 263), (1, .retAddr 92, .retAddr 263, .retAddr 264), (0, .retAddr 257, .retAddr 264, .retAddr 265), (30, .retAddr 258, .retAddr 265, .retAddr 266), (31, .retAddr 265, .retAddr 166, .retAddr 267), (0, .retAddr 265, .retAddr 94, .retAddr 268), (1, .retAddr 268, .int 99, .retAddr 269), (30, .int 0, .retAddr 269, .retAddr 270), (0, .retAddr 267, .retAddr 270, .retAddr 271), (1, .retAddr 94, .retAddr 271, .retAddr 272), (0, .retAddr 265, .retAddr 272, .retAddr 273), (30, .retAddr 266, .retAddr 273, .retAddr 274), (31, .retAddr 273, .retAddr 175, .retAddr 275), (0, .retAddr 273, .retAddr 96, .retAddr 276), (1, .retAddr 276, .int 99, .retAddr 277), (30, .int 0, .retAddr 277, .retAddr 278), (0, .retAddr 275, .retAddr 278, .retAddr 279), (1, .retAddr 96, .retAddr 279, .retAddr 280), (0, .retAddr 273, .retAddr 280, .retAddr 281), (30, .retAddr 274, .retAddr 281, .retAddr 282), (31, .retAddr 281, .retAddr 184, .retAddr 283), (0, .retAddr 281, .retAddr 98, .retAddr 284), (1, .retAddr 284, .int 99, .retAddr 285), (30, .int 0, .retAddr 285, .retAddr 286), (0, .retAddr 283, .retAddr 286, .retAddr 287), (1, .retAddr 98, .retAddr 287, .retAddr 288), (0, .retAddr 281, .retAddr 288, .retAddr 289), (30, .retAddr 282, .retAddr 289, .retAddr 290), (31, .retAddr 289, .retAddr 193, .retAddr 291), (0, .retAddr 289, .retAddr 100, .retAddr 292), (1, .retAddr 292, .int 99, .retAddr 293), (30, .int 0, .retAddr 293, .retAddr 294), (0, .retAddr 291, .retAddr 294, .retAddr 295), (1, .retAddr 100, .retAddr 295, .retAddr 296), (0, .retAddr 289, .retAddr 296, .retAddr 297), (30, .retAddr 290, .retAddr 297, .retAddr 298), (31, .retAddr 297, .retAddr 202, .retAddr 299), (0, .retAddr 297, .retAddr 102, .retAddr 300), (1, .retAddr 300, .int 99, .retAddr 301), (30, .int 0, .retAddr 301, .retAddr 302), (0, .retAddr 299, .retAddr 302, .retAddr 303), (1, .retAddr 102, .retAddr 303, .retAddr 304), (0, .retAddr 297, .retAddr 304, .retAddr 305), (30, .retAddr 298, .retAddr 305, .retAddr 306), (4, .int 0, .retAddr 215, .retAddr 307), (6, .retAddr 307, .int 1, .retAddr 308), (4, .retAddr 308, .retAddr 223, .retAddr 309), (6, .retAddr 309, .int 1, .retAddr 310), (4, .retAddr 310, .retAddr 231, .retAddr 311), (6, .retAddr 311, .int 1, .retAddr 312), (4, .retAddr 312, .retAddr 239, .retAddr 313), (6, .retAddr 313, .int 1, .retAddr 314), (4, .retAddr 314, .retAddr 247, .retAddr 315), (6, .retAddr 315, .int 1, .retAddr 316), (4, .retAddr 316, .retAddr 255, .retAddr 317), (6, .retAddr 317, .int 1, .retAddr 318), (4, .retAddr 318, .retAddr 263, .retAddr 319), (6, .retAddr 319, .int 1, .retAddr 320), (4, .retAddr 320, .retAddr 271, .retAddr 321), (6, .retAddr 321, .int 1, .retAddr 322), (4, .retAddr 322, .retAddr 279, .retAddr 323), (6, .retAddr 323, .int 1, .retAddr 324), (4, .retAddr 324, .retAddr 287, .retAddr 325), (6, .retAddr 325, .int 1, .retAddr 326), (4, .retAddr 326, .retAddr 295, .retAddr 327), (6, .retAddr 327, .int 1, .retAddr 328), (4, .retAddr 328, .retAddr 303, .retAddr 329), (0, .int 0, .retAddr 215, .retAddr 330), (2, .int 2, .retAddr 330, .retAddr 331), (0, .retAddr 331, .retAddr 223, .retAddr 332), (2, .int 2, .retAddr 332, .retAddr 333), (0, .retAddr 333, .retAddr 231, .retAddr 334), (2, .int 2, .retAddr 334, .retAddr 335), (0, .retAddr 335, .retAddr 239, .retAddr 336), (2, .int 2, .retAddr 336, .retAddr 337), (0, .retAddr 337, .retAddr 247, .retAddr 338), (2, .int 2, .retAddr 338, .retAddr 339), (0, .retAddr 339, .retAddr 255, .retAddr 340), (2, .int 2, .retAddr 340, .retAddr 341), (0, .retAddr 341, .retAddr 263, .retAddr 342), (2, .int 2, .retAddr 342, .retAddr 343), (0, .retAddr 343, .retAddr 271, .retAddr 344), (2, .int 2, .retAddr 344, .retAddr 345), (0, .retAddr 345, .retAddr 279, .retAddr 346), (2, .int 2, .retAddr 346, .retAddr 347), (0, .retAddr 347, .retAddr 287, .retAddr 348), (2, .int 2, .retAddr 348, .retAddr 349), (0, .retAddr 349, .retAddr 295, .retAddr 350), (2, .int 2, .retAddr 350, .retAddr 351), (0, .retAddr 351, .retAddr 303, .retAddr 352)]
theorem k34_12_ok : e_ok k34_12_D 64 = true := by decide +kernel
theorem k34_12_W {B : c_B} {n : Nat} (H : ∀ f ∈ k34_12_D, c_hold B f) (hs : B.2 16 = Int32.ofNat n) (hn : n < 4096) : B.2 78 = Int32.ofNat (nb_pop 12 n) ∧ B.2 209 = Int32.ofNat (nb_ld 12 n 0 12) ∧ B.2 305 = Int32.ofNat (nb_ld 12 n (nb_ld 12 n 0 12) 12) ∧ B.2 329 = Int32.ofNat (nb_A 12 n) ∧ B.2 352 = Int32.ofNat (nb_A 12 n) := by
  have y0 : B.2 80 = Int32.ofNat (nb_bit 12 n 0) := q_bit (c := 11) hs hn (by decide) (e_at H 15 rfl) (e_at H 16 rfl)
  have y1 : B.2 82 = Int32.ofNat (nb_bit 12 n 1) := q_bit (c := 10) hs hn (by decide) (e_at H 17 rfl) (e_at H 18 rfl)
  have y2 : B.2 84 = Int32.ofNat (nb_bit 12 n 2) := q_bit (c := 9) hs hn (by decide) (e_at H 19 rfl) (e_at H 20 rfl)
  have y3 : B.2 86 = Int32.ofNat (nb_bit 12 n 3) := q_bit (c := 8) hs hn (by decide) (e_at H 21 rfl) (e_at H 22 rfl)
  have y4 : B.2 88 = Int32.ofNat (nb_bit 12 n 4) := q_bit (c := 7) hs hn (by decide) (e_at H 23 rfl) (e_at H 24 rfl)
  have y5 : B.2 90 = Int32.ofNat (nb_bit 12 n 5) := q_bit (c := 6) hs hn (by decide) (e_at H 25 rfl) (e_at H 26 rfl)
  have y6 : B.2 92 = Int32.ofNat (nb_bit 12 n 6) := q_bit (c := 5) hs hn (by decide) (e_at H 27 rfl) (e_at H 28 rfl)
  have y7 : B.2 94 = Int32.ofNat (nb_bit 12 n 7) := q_bit (c := 4) hs hn (by decide) (e_at H 29 rfl) (e_at H 30 rfl)
  have y8 : B.2 96 = Int32.ofNat (nb_bit 12 n 8) := q_bit (c := 3) hs hn (by decide) (e_at H 31 rfl) (e_at H 32 rfl)
  have y9 : B.2 98 = Int32.ofNat (nb_bit 12 n 9) := q_bit (c := 2) hs hn (by decide) (e_at H 33 rfl) (e_at H 34 rfl)
  have y10 : B.2 100 = Int32.ofNat (nb_bit 12 n 10) := q_bit (c := 1) hs hn (by decide) (e_at H 35 rfl) (e_at H 36 rfl)
  have y11 : B.2 102 = Int32.ofNat (nb_bit 12 n 11) := q_bit (c := 0) hs hn (by decide) (e_at H 37 rfl) (e_at H 38 rfl)
  have c0_0 : B.2 108 = Int32.ofNat (nb_f (nb_ld 12 n 0 0) (nb_bit 12 n 0)) ∧ B.2 110 = Int32.ofNat (nb_ld 12 n 0 1) := q_step (X := .int 0) (l := nb_ld 12 n 0 0) rfl (by have h1 := nb_ld_le 12 n 0 12; have h2 := nb_ld_le 12 n 0 0; omega) y0 (nb_bit2 _ _ _) (e_at H 39 rfl) (e_at H 40 rfl) (e_at H 41 rfl) (e_at H 42 rfl) (e_at H 43 rfl) (e_at H 44 rfl) (e_at H 45 rfl) (e_at H 46 rfl)
  have c0_1 : B.2 117 = Int32.ofNat (nb_f (nb_ld 12 n 0 1) (nb_bit 12 n 1)) ∧ B.2 119 = Int32.ofNat (nb_ld 12 n 0 2) := q_step (X := .retAddr 110) (l := nb_ld 12 n 0 1) (congrArg some c0_0.2) (by have h1 := nb_ld_le 12 n 0 12; have h2 := nb_ld_le 12 n 0 1; omega) y1 (nb_bit2 _ _ _) (e_at H 48 rfl) (e_at H 49 rfl) (e_at H 50 rfl) (e_at H 51 rfl) (e_at H 52 rfl) (e_at H 53 rfl) (e_at H 54 rfl) (e_at H 55 rfl)
  have c0_2 : B.2 126 = Int32.ofNat (nb_f (nb_ld 12 n 0 2) (nb_bit 12 n 2)) ∧ B.2 128 = Int32.ofNat (nb_ld 12 n 0 3) := q_step (X := .retAddr 119) (l := nb_ld 12 n 0 2) (congrArg some c0_1.2) (by have h1 := nb_ld_le 12 n 0 12; have h2 := nb_ld_le 12 n 0 2; omega) y2 (nb_bit2 _ _ _) (e_at H 57 rfl) (e_at H 58 rfl) (e_at H 59 rfl) (e_at H 60 rfl) (e_at H 61 rfl) (e_at H 62 rfl) (e_at H 63 rfl) (e_at H 64 rfl)
  have c0_3 : B.2 135 = Int32.ofNat (nb_f (nb_ld 12 n 0 3) (nb_bit 12 n 3)) ∧ B.2 137 = Int32.ofNat (nb_ld 12 n 0 4) := q_step (X := .retAddr 128) (l := nb_ld 12 n 0 3) (congrArg some c0_2.2) (by have h1 := nb_ld_le 12 n 0 12; have h2 := nb_ld_le 12 n 0 3; omega) y3 (nb_bit2 _ _ _) (e_at H 66 rfl) (e_at H 67 rfl) (e_at H 68 rfl) (e_at H 69 rfl) (e_at H 70 rfl) (e_at H 71 rfl) (e_at H 72 rfl) (e_at H 73 rfl)
  have c0_4 : B.2 144 = Int32.ofNat (nb_f (nb_ld 12 n 0 4) (nb_bit 12 n 4)) ∧ B.2 146 = Int32.ofNat (nb_ld 12 n 0 5) := q_step (X := .retAddr 137) (l := nb_ld 12 n 0 4) (congrArg some c0_3.2) (by have h1 := nb_ld_le 12 n 0 12; have h2 := nb_ld_le 12 n 0 4; omega) y4 (nb_bit2 _ _ _) (e_at H 75 rfl) (e_at H 76 rfl) (e_at H 77 rfl) (e_at H 78 rfl) (e_at H 79 rfl) (e_at H 80 rfl) (e_at H 81 rfl) (e_at H 82 rfl)
  have c0_5 : B.2 153 = Int32.ofNat (nb_f (nb_ld 12 n 0 5) (nb_bit 12 n 5)) ∧ B.2 155 = Int32.ofNat (nb_ld 12 n 0 6) := q_step (X := .retAddr 146) (l := nb_ld 12 n 0 5) (congrArg some c0_4.2) (by have h1 := nb_ld_le 12 n 0 12; have h2 := nb_ld_le 12 n 0 5; omega) y5 (nb_bit2 _ _ _) (e_at H 84 rfl) (e_at H 85 rfl) (e_at H 86 rfl) (e_at H 87 rfl) (e_at H 88 rfl) (e_at H 89 rfl) (e_at H 90 rfl) (e_at H 91 rfl)
  have c0_6 : B.2 162 = Int32.ofNat (nb_f (nb_ld 12 n 0 6) (nb_bit 12 n 6)) ∧ B.2 164 = Int32.ofNat (nb_ld 12 n 0 7) := q_step (X := .retAddr 155) (l := nb_ld 12 n 0 6) (congrArg some c0_5.2) (by have h1 := nb_ld_le 12 n 0 12; have h2 := nb_ld_le 12 n 0 6; omega) y6 (nb_bit2 _ _ _) (e_at H 93 rfl) (e_at H 94 rfl) (e_at H 95 rfl) (e_at H 96 rfl) (e_at H 97 rfl) (e_at H 98 rfl) (e_at H 99 rfl) (e_at H 100 rfl)
  have c0_7 : B.2 171 = Int32.ofNat (nb_f (nb_ld 12 n 0 7) (nb_bit 12 n 7)) ∧ B.2 173 = Int32.ofNat (nb_ld 12 n 0 8) := q_step (X := .retAddr 164) (l := nb_ld 12 n 0 7) (congrArg some c0_6.2) (by have h1 := nb_ld_le 12 n 0 12; have h2 := nb_ld_le 12 n 0 7; omega) y7 (nb_bit2 _ _ _) (e_at H 102 rfl) (e_at H 103 rfl) (e_at H 104 rfl) (e_at H 105 rfl) (e_at H 106 rfl) (e_at H 107 rfl) (e_at H 108 rfl) (e_at H 109 rfl)
  have c0_8 : B.2 180 = Int32.ofNat (nb_f (nb_ld 12 n 0 8) (nb_bit 12 n 8)) ∧ B.2 182 = Int32.ofNat (nb_ld 12 n 0 9) := q_step (X := .retAddr 173) (l := nb_ld 12 n 0 8) (congrArg some c0_7.2) (by have h1 := nb_ld_le 12 n 0 12; have h2 := nb_ld_le 12 n 0 8; omega) y8 (nb_bit2 _ _ _) (e_at H 111 rfl) (e_at H 112 rfl) (e_at H 113 rfl) (e_at H 114 rfl) (e_at H 115 rfl) (e_at H 116 rfl) (e_at H 117 rfl) (e_at H 118 rfl)
  have c0_9 : B.2 189 = Int32.ofNat (nb_f (nb_ld 12 n 0 9) (nb_bit 12 n 9)) ∧ B.2 191 = Int32.ofNat (nb_ld 12 n 0 10) := q_step (X := .retAddr 182) (l := nb_ld 12 n 0 9) (congrArg some c0_8.2) (by have h1 := nb_ld_le 12 n 0 12; have h2 := nb_ld_le 12 n 0 9; omega) y9 (nb_bit2 _ _ _) (e_at H 120 rfl) (e_at H 121 rfl) (e_at H 122 rfl) (e_at H 123 rfl) (e_at H 124 rfl) (e_at H 125 rfl) (e_at H 126 rfl) (e_at H 127 rfl)
  have c0_10 : B.2 198 = Int32.ofNat (nb_f (nb_ld 12 n 0 10) (nb_bit 12 n 10)) ∧ B.2 200 = Int32.ofNat (nb_ld 12 n 0 11) := q_step (X := .retAddr 191) (l := nb_ld 12 n 0 10) (congrArg some c0_9.2) (by have h1 := nb_ld_le 12 n 0 12; have h2 := nb_ld_le 12 n 0 10; omega) y10 (nb_bit2 _ _ _) (e_at H 129 rfl) (e_at H 130 rfl) (e_at H 131 rfl) (e_at H 132 rfl) (e_at H 133 rfl) (e_at H 134 rfl) (e_at H 135 rfl) (e_at H 136 rfl)
  have c0_11 : B.2 207 = Int32.ofNat (nb_f (nb_ld 12 n 0 11) (nb_bit 12 n 11)) ∧ B.2 209 = Int32.ofNat (nb_ld 12 n 0 12) := q_step (X := .retAddr 200) (l := nb_ld 12 n 0 11) (congrArg some c0_10.2) (by have h1 := nb_ld_le 12 n 0 12; have h2 := nb_ld_le 12 n 0 11; omega) y11 (nb_bit2 _ _ _) (e_at H 138 rfl) (e_at H 139 rfl) (e_at H 140 rfl) (e_at H 141 rfl) (e_at H 142 rfl) (e_at H 143 rfl) (e_at H 144 rfl) (e_at H 145 rfl)
  have c1_0 : B.2 215 = Int32.ofNat (nb_f (nb_ld 12 n (nb_ld 12 n 0 12) 0) (nb_bit 12 n 0)) ∧ B.2 217 = Int32.ofNat (nb_ld 12 n (nb_ld 12 n 0 12) 1) := q_step (X := .retAddr 209) (l := nb_ld 12 n (nb_ld 12 n 0 12) 0) (congrArg some c0_11.2) (by have h1 := nb_ld_le 12 n 0 12; have h2 := nb_ld_le 12 n (nb_ld 12 n 0 12) 0; omega) y0 (nb_bit2 _ _ _) (e_at H 39 rfl) (e_at H 147 rfl) (e_at H 148 rfl) (e_at H 149 rfl) (e_at H 150 rfl) (e_at H 151 rfl) (e_at H 152 rfl) (e_at H 153 rfl)
  have c1_1 : B.2 223 = Int32.ofNat (nb_f (nb_ld 12 n (nb_ld 12 n 0 12) 1) (nb_bit 12 n 1)) ∧ B.2 225 = Int32.ofNat (nb_ld 12 n (nb_ld 12 n 0 12) 2) := q_step (X := .retAddr 217) (l := nb_ld 12 n (nb_ld 12 n 0 12) 1) (congrArg some c1_0.2) (by have h1 := nb_ld_le 12 n 0 12; have h2 := nb_ld_le 12 n (nb_ld 12 n 0 12) 1; omega) y1 (nb_bit2 _ _ _) (e_at H 48 rfl) (e_at H 155 rfl) (e_at H 156 rfl) (e_at H 157 rfl) (e_at H 158 rfl) (e_at H 159 rfl) (e_at H 160 rfl) (e_at H 161 rfl)
  have c1_2 : B.2 231 = Int32.ofNat (nb_f (nb_ld 12 n (nb_ld 12 n 0 12) 2) (nb_bit 12 n 2)) ∧ B.2 233 = Int32.ofNat (nb_ld 12 n (nb_ld 12 n 0 12) 3) := q_step (X := .retAddr 225) (l := nb_ld 12 n (nb_ld 12 n 0 12) 2) (congrArg some c1_1.2) (by have h1 := nb_ld_le 12 n 0 12; have h2 := nb_ld_le 12 n (nb_ld 12 n 0 12) 2; omega) y2 (nb_bit2 _ _ _) (e_at H 57 rfl) (e_at H 163 rfl) (e_at H 164 rfl) (e_at H 165 rfl) (e_at H 166 rfl) (e_at H 167 rfl) (e_at H 168 rfl) (e_at H 169 rfl)
  have c1_3 : B.2 239 = Int32.ofNat (nb_f (nb_ld 12 n (nb_ld 12 n 0 12) 3) (nb_bit 12 n 3)) ∧ B.2 241 = Int32.ofNat (nb_ld 12 n (nb_ld 12 n 0 12) 4) := q_step (X := .retAddr 233) (l := nb_ld 12 n (nb_ld 12 n 0 12) 3) (congrArg some c1_2.2) (by have h1 := nb_ld_le 12 n 0 12; have h2 := nb_ld_le 12 n (nb_ld 12 n 0 12) 3; omega) y3 (nb_bit2 _ _ _) (e_at H 66 rfl) (e_at H 171 rfl) (e_at H 172 rfl) (e_at H 173 rfl) (e_at H 174 rfl) (e_at H 175 rfl) (e_at H 176 rfl) (e_at H 177 rfl)
  have c1_4 : B.2 247 = Int32.ofNat (nb_f (nb_ld 12 n (nb_ld 12 n 0 12) 4) (nb_bit 12 n 4)) ∧ B.2 249 = Int32.ofNat (nb_ld 12 n (nb_ld 12 n 0 12) 5) := q_step (X := .retAddr 241) (l := nb_ld 12 n (nb_ld 12 n 0 12) 4) (congrArg some c1_3.2) (by have h1 := nb_ld_le 12 n 0 12; have h2 := nb_ld_le 12 n (nb_ld 12 n 0 12) 4; omega) y4 (nb_bit2 _ _ _) (e_at H 75 rfl) (e_at H 179 rfl) (e_at H 180 rfl) (e_at H 181 rfl) (e_at H 182 rfl) (e_at H 183 rfl) (e_at H 184 rfl) (e_at H 185 rfl)
  have c1_5 : B.2 255 = Int32.ofNat (nb_f (nb_ld 12 n (nb_ld 12 n 0 12) 5) (nb_bit 12 n 5)) ∧ B.2 257 = Int32.ofNat (nb_ld 12 n (nb_ld 12 n 0 12) 6) := q_step (X := .retAddr 249) (l := nb_ld 12 n (nb_ld 12 n 0 12) 5) (congrArg some c1_4.2) (by have h1 := nb_ld_le 12 n 0 12; have h2 := nb_ld_le 12 n (nb_ld 12 n 0 12) 5; omega) y5 (nb_bit2 _ _ _) (e_at H 84 rfl) (e_at H 187 rfl) (e_at H 188 rfl) (e_at H 189 rfl) (e_at H 190 rfl) (e_at H 191 rfl) (e_at H 192 rfl) (e_at H 193 rfl)
  have c1_6 : B.2 263 = Int32.ofNat (nb_f (nb_ld 12 n (nb_ld 12 n 0 12) 6) (nb_bit 12 n 6)) ∧ B.2 265 = Int32.ofNat (nb_ld 12 n (nb_ld 12 n 0 12) 7) := q_step (X := .retAddr 257) (l := nb_ld 12 n (nb_ld 12 n 0 12) 6) (congrArg some c1_5.2) (by have h1 := nb_ld_le 12 n 0 12; have h2 := nb_ld_le 12 n (nb_ld 12 n 0 12) 6; omega) y6 (nb_bit2 _ _ _) (e_at H 93 rfl) (e_at H 195 rfl) (e_at H 196 rfl) (e_at H 197 rfl) (e_at H 198 rfl) (e_at H 199 rfl) (e_at H 200 rfl) (e_at H 201 rfl)
  have c1_7 : B.2 271 = Int32.ofNat (nb_f (nb_ld 12 n (nb_ld 12 n 0 12) 7) (nb_bit 12 n 7)) ∧ B.2 273 = Int32.ofNat (nb_ld 12 n (nb_ld 12 n 0 12) 8) := q_step (X := .retAddr 265) (l := nb_ld 12 n (nb_ld 12 n 0 12) 7) (congrArg some c1_6.2) (by have h1 := nb_ld_le 12 n 0 12; have h2 := nb_ld_le 12 n (nb_ld 12 n 0 12) 7; omega) y7 (nb_bit2 _ _ _) (e_at H 102 rfl) (e_at H 203 rfl) (e_at H 204 rfl) (e_at H 205 rfl) (e_at H 206 rfl) (e_at H 207 rfl) (e_at H 208 rfl) (e_at H 209 rfl)
  have c1_8 : B.2 279 = Int32.ofNat (nb_f (nb_ld 12 n (nb_ld 12 n 0 12) 8) (nb_bit 12 n 8)) ∧ B.2 281 = Int32.ofNat (nb_ld 12 n (nb_ld 12 n 0 12) 9) := q_step (X := .retAddr 273) (l := nb_ld 12 n (nb_ld 12 n 0 12) 8) (congrArg some c1_7.2) (by have h1 := nb_ld_le 12 n 0 12; have h2 := nb_ld_le 12 n (nb_ld 12 n 0 12) 8; omega) y8 (nb_bit2 _ _ _) (e_at H 111 rfl) (e_at H 211 rfl) (e_at H 212 rfl) (e_at H 213 rfl) (e_at H 214 rfl) (e_at H 215 rfl) (e_at H 216 rfl) (e_at H 217 rfl)
  have c1_9 : B.2 287 = Int32.ofNat (nb_f (nb_ld 12 n (nb_ld 12 n 0 12) 9) (nb_bit 12 n 9)) ∧ B.2 289 = Int32.ofNat (nb_ld 12 n (nb_ld 12 n 0 12) 10) := q_step (X := .retAddr 281) (l := nb_ld 12 n (nb_ld 12 n 0 12) 9) (congrArg some c1_8.2) (by have h1 := nb_ld_le 12 n 0 12; have h2 := nb_ld_le 12 n (nb_ld 12 n 0 12) 9; omega) y9 (nb_bit2 _ _ _) (e_at H 120 rfl) (e_at H 219 rfl) (e_at H 220 rfl) (e_at H 221 rfl) (e_at H 222 rfl) (e_at H 223 rfl) (e_at H 224 rfl) (e_at H 225 rfl)
  have c1_10 : B.2 295 = Int32.ofNat (nb_f (nb_ld 12 n (nb_ld 12 n 0 12) 10) (nb_bit 12 n 10)) ∧ B.2 297 = Int32.ofNat (nb_ld 12 n (nb_ld 12 n 0 12) 11) := q_step (X := .retAddr 289) (l := nb_ld 12 n (nb_ld 12 n 0 12) 10) (congrArg some c1_9.2) (by have h1 := nb_ld_le 12 n 0 12; have h2 := nb_ld_le 12 n (nb_ld 12 n 0 12) 10; omega) y10 (nb_bit2 _ _ _) (e_at H 129 rfl) (e_at H 227 rfl) (e_at H 228 rfl) (e_at H 229 rfl) (e_at H 230 rfl) (e_at H 231 rfl) (e_at H 232 rfl) (e_at H 233 rfl)
  have c1_11 : B.2 303 = Int32.ofNat (nb_f (nb_ld 12 n (nb_ld 12 n 0 12) 11) (nb_bit 12 n 11)) ∧ B.2 305 = Int32.ofNat (nb_ld 12 n (nb_ld 12 n 0 12) 12) := q_step (X := .retAddr 297) (l := nb_ld 12 n (nb_ld 12 n 0 12) 11) (congrArg some c1_10.2) (by have h1 := nb_ld_le 12 n 0 12; have h2 := nb_ld_le 12 n (nb_ld 12 n 0 12) 11; omega) y11 (nb_bit2 _ _ _) (e_at H 138 rfl) (e_at H 235 rfl) (e_at H 236 rfl) (e_at H 237 rfl) (e_at H 238 rfl) (e_at H 239 rfl) (e_at H 240 rfl) (e_at H 241 rfl)
  have d0 : B.2 307 = Int32.ofNat (nb_E 12 n (nb_ld 12 n 0 12) 1) := q_ec0 c1_0.1 (nb_f2 _ _) (e_at H 243 rfl)
  have d1 : B.2 309 = Int32.ofNat (nb_E 12 n (nb_ld 12 n 0 12) 2) := q_ec d0 (Nat.lt_of_lt_of_le (nb_E_lt _ _ _ _) (by decide)) c1_1.1 (nb_f2 _ _) (e_at H 244 rfl) (e_at H 245 rfl)
  have d2 : B.2 311 = Int32.ofNat (nb_E 12 n (nb_ld 12 n 0 12) 3) := q_ec d1 (Nat.lt_of_lt_of_le (nb_E_lt _ _ _ _) (by decide)) c1_2.1 (nb_f2 _ _) (e_at H 246 rfl) (e_at H 247 rfl)
  have d3 : B.2 313 = Int32.ofNat (nb_E 12 n (nb_ld 12 n 0 12) 4) := q_ec d2 (Nat.lt_of_lt_of_le (nb_E_lt _ _ _ _) (by decide)) c1_3.1 (nb_f2 _ _) (e_at H 248 rfl) (e_at H 249 rfl)
  have d4 : B.2 315 = Int32.ofNat (nb_E 12 n (nb_ld 12 n 0 12) 5) := q_ec d3 (Nat.lt_of_lt_of_le (nb_E_lt _ _ _ _) (by decide)) c1_4.1 (nb_f2 _ _) (e_at H 250 rfl) (e_at H 251 rfl)
  have d5 : B.2 317 = Int32.ofNat (nb_E 12 n (nb_ld 12 n 0 12) 6) := q_ec d4 (Nat.lt_of_lt_of_le (nb_E_lt _ _ _ _) (by decide)) c1_5.1 (nb_f2 _ _) (e_at H 252 rfl) (e_at H 253 rfl)
  have d6 : B.2 319 = Int32.ofNat (nb_E 12 n (nb_ld 12 n 0 12) 7) := q_ec d5 (Nat.lt_of_lt_of_le (nb_E_lt _ _ _ _) (by decide)) c1_6.1 (nb_f2 _ _) (e_at H 254 rfl) (e_at H 255 rfl)
  have d7 : B.2 321 = Int32.ofNat (nb_E 12 n (nb_ld 12 n 0 12) 8) := q_ec d6 (Nat.lt_of_lt_of_le (nb_E_lt _ _ _ _) (by decide)) c1_7.1 (nb_f2 _ _) (e_at H 256 rfl) (e_at H 257 rfl)
  have d8 : B.2 323 = Int32.ofNat (nb_E 12 n (nb_ld 12 n 0 12) 9) := q_ec d7 (Nat.lt_of_lt_of_le (nb_E_lt _ _ _ _) (by decide)) c1_8.1 (nb_f2 _ _) (e_at H 258 rfl) (e_at H 259 rfl)
  have d9 : B.2 325 = Int32.ofNat (nb_E 12 n (nb_ld 12 n 0 12) 10) := q_ec d8 (Nat.lt_of_lt_of_le (nb_E_lt _ _ _ _) (by decide)) c1_9.1 (nb_f2 _ _) (e_at H 260 rfl) (e_at H 261 rfl)
  have d10 : B.2 327 = Int32.ofNat (nb_E 12 n (nb_ld 12 n 0 12) 11) := q_ec d9 (Nat.lt_of_lt_of_le (nb_E_lt _ _ _ _) (by decide)) c1_10.1 (nb_f2 _ _) (e_at H 262 rfl) (e_at H 263 rfl)
  have d11 : B.2 329 = Int32.ofNat (nb_E 12 n (nb_ld 12 n 0 12) 12) := q_ec d10 (Nat.lt_of_lt_of_le (nb_E_lt _ _ _ _) (by decide)) c1_11.1 (nb_f2 _ _) (e_at H 264 rfl) (e_at H 265 rfl)
  have r0 : B.2 330 = Int32.ofNat (nb_E 12 n (nb_ld 12 n 0 12) 1) := q_er0 c1_0.1 (e_at H 266 rfl)
  have r1 : B.2 332 = Int32.ofNat (nb_E 12 n (nb_ld 12 n 0 12) 2) := q_er r0 c1_1.1 (e_at H 267 rfl) (e_at H 268 rfl)
  have r2 : B.2 334 = Int32.ofNat (nb_E 12 n (nb_ld 12 n 0 12) 3) := q_er r1 c1_2.1 (e_at H 269 rfl) (e_at H 270 rfl)
  have r3 : B.2 336 = Int32.ofNat (nb_E 12 n (nb_ld 12 n 0 12) 4) := q_er r2 c1_3.1 (e_at H 271 rfl) (e_at H 272 rfl)
  have r4 : B.2 338 = Int32.ofNat (nb_E 12 n (nb_ld 12 n 0 12) 5) := q_er r3 c1_4.1 (e_at H 273 rfl) (e_at H 274 rfl)
  have r5 : B.2 340 = Int32.ofNat (nb_E 12 n (nb_ld 12 n 0 12) 6) := q_er r4 c1_5.1 (e_at H 275 rfl) (e_at H 276 rfl)
  have r6 : B.2 342 = Int32.ofNat (nb_E 12 n (nb_ld 12 n 0 12) 7) := q_er r5 c1_6.1 (e_at H 277 rfl) (e_at H 278 rfl)
  have r7 : B.2 344 = Int32.ofNat (nb_E 12 n (nb_ld 12 n 0 12) 8) := q_er r6 c1_7.1 (e_at H 279 rfl) (e_at H 280 rfl)
  have r8 : B.2 346 = Int32.ofNat (nb_E 12 n (nb_ld 12 n 0 12) 9) := q_er r7 c1_8.1 (e_at H 281 rfl) (e_at H 282 rfl)
  have r9 : B.2 348 = Int32.ofNat (nb_E 12 n (nb_ld 12 n 0 12) 10) := q_er r8 c1_9.1 (e_at H 283 rfl) (e_at H 284 rfl)
  have r10 : B.2 350 = Int32.ofNat (nb_E 12 n (nb_ld 12 n 0 12) 11) := q_er r9 c1_10.1 (e_at H 285 rfl) (e_at H 286 rfl)
  have r11 : B.2 352 = Int32.ofNat (nb_E 12 n (nb_ld 12 n 0 12) 12) := q_er r10 c1_11.1 (e_at H 287 rfl) (e_at H 288 rfl)
  refine ⟨?_, c0_11.2, c1_11.2, d11, r11⟩
  rw [q_bc (fun f hf => H f (List.mem_of_mem_take (show f ∈ k34_12_D.take 15 from hf))), hs]
  exact m_pop n hn
theorem k34_12_rt : ∀ n, n < 4096 → 2 * nb_pop 12 n < 12 → nb_ld 12 n (nb_ld 12 n 0 12) 12 = nb_ld 12 n 0 12 := by
  intro n hn
  have h : ∀ q, q < 64 → ∀ r, r < 64 → 2 * nb_pop 12 (64 * q + r) < 12 → nb_ld 12 (64 * q + r) (nb_ld 12 (64 * q + r) 0 12) 12 = nb_ld 12 (64 * q + r) 0 12 := by decide +kernel
  have h1 := h (n / 64) (by omega) (n % 64) (Nat.mod_lt _ (by decide))
  rw [Nat.div_add_mod] at h1
  exact h1
def k34_12_hs : c_Hp := [some (.inl (10, [.ref 1, .ref 4, .ref 23, .ref 25, .ref 28, .ref 31, .ref 34, .ref 37, .ref 39, .ref 41, .ref 52, .ref 55])),
  some (.inl (6, [.ref 2, .ref 3, .int 10, .int 0])),
  some (.inr (0, List.replicate 60 (.int 1))),
  some (.inr (0, List.replicate 60 (.int 0))),
  some (.inl (4, [.ref 5, .ref 14, .int 0, .int 0])),
  some (.inr (2, [.ref 6, .ref 7, .ref 8, .ref 9, .ref 10, .ref 11, .ref 12, .ref 13])),
  some (.inr (0, List.replicate 60 (.int 0))),
  some (.inr (0, List.replicate 60 (.int 0))),
  some (.inr (0, List.replicate 60 (.int 0))),
  some (.inr (0, List.replicate 60 (.int 0))),
  some (.inr (0, List.replicate 60 (.int 0))),
  some (.inr (0, List.replicate 60 (.int 0))),
  some (.inr (0, List.replicate 60 (.int 0))),
  some (.inr (0, List.replicate 60 (.int 0))),
  some (.inr (2, [.ref 15, .ref 16, .ref 17, .ref 18, .ref 19, .ref 20, .ref 21, .ref 22])),
  some (.inr (0, List.replicate 60 (.int 0))),
  some (.inr (0, List.replicate 60 (.int 0))),
  some (.inr (0, List.replicate 60 (.int 0))),
  some (.inr (0, List.replicate 60 (.int 0))),
  some (.inr (0, List.replicate 60 (.int 0))),
  some (.inr (0, List.replicate 60 (.int 0))),
  some (.inr (0, List.replicate 60 (.int 0))),
  some (.inr (0, List.replicate 60 (.int 0))),
  some (.inl (0, [.ref 24, .retAddr 18])),
  some (.inr (0, ([.retAddr 22, .retAddr 23, .retAddr 24, .retAddr 25, .retAddr 26, .retAddr 27, .retAddr 28, .retAddr 29, .retAddr 30, .retAddr 31, .retAddr 32, .retAddr 33] ++ (List.replicate 48 (.int 0))))),
  some (.inl (3, [.ref 26, .ref 27, .int 0])),
  some (.inr (0, List.replicate 120 (.int 0))),
  some (.inr (0, List.replicate 60 (.int 0))),
  some (.inl (7, [.ref 29, .ref 30, .int 0, .int 0])),
  some (.inr (0, List.replicate 60 (.int 0))),
  some (.inr (0, List.replicate 60 (.int 0))),
  some (.inl (8, [.ref 32, .ref 33])),
  some (.inr (0, [.int 0, .int 0, .int 0])),
  some (.inr (0, [.int 0, .int 0, .int 0])),
  some (.inl (1, [.ref 35, .ref 36, .int 0])),
  some (.inr (0, List.replicate 5 (.int 0))),
  some (.inr (0, List.replicate 5 (.int 0))),
  some (.inl (9, [.ref 38, .int 0])),
  some (.inr (0, List.replicate 6 (.int 0))),
  some (.inl (2, [.ref 40])),
  none,
  some (.inl (5, [.ref 42, .ref 51])),
  some (.inr (2, [.ref 43, .ref 44, .ref 45, .ref 46, .ref 47, .ref 48, .ref 49, .ref 50])),
  some (.inr (0, List.replicate 6 (.int 0))),
  some (.inr (0, List.replicate 6 (.int 0))),
  some (.inr (0, List.replicate 6 (.int 0))),
  some (.inr (0, List.replicate 6 (.int 0))),
  some (.inr (0, List.replicate 6 (.int 0))),
  some (.inr (0, List.replicate 6 (.int 0))),
  some (.inr (0, List.replicate 6 (.int 0))),
  some (.inr (0, List.replicate 6 (.int 0))),
  some (.inr (0, List.replicate 6 (.int 0))),
  some (.inl (6, [.ref 53, .ref 54, .retAddr 19, .retAddr 20])),
  some (.inr (0, List.replicate 60 (.retAddr 21))),
  some (.inr (0, ([.retAddr 22, .retAddr 23, .retAddr 24, .retAddr 25, .retAddr 26, .retAddr 27, .retAddr 28, .retAddr 29, .retAddr 30, .retAddr 31, .retAddr 32, .retAddr 33] ++ (List.replicate 48 (.int 0))))),
  some (.inl (6, [.ref 56, .ref 57, .int 1, .int 0])),
  some (.inr (0, List.replicate 60 (.int 0))),
  some (.inr (0, List.replicate 60 (.int 0))),
  some (.inl (11, [.ref 59, .ref 60, .int 0, .ref 61, .ref 62, .ref 63, .ref 64, .int 0, .ref 65, .int 0, .ref 66, .int 0, .int 0])),
  some (.inr (0, List.replicate 10 (.int 1))),
  some (.inr (0, List.replicate 10 (.int 0))),
  some (.inl (12, [.int 0, .retAddr 1, .int 0])),
  some (.inl (12, [.int 0, .retAddr 1, .int 0])),
  some (.inr (0, List.replicate 5 (.int 0))),
  some (.inr (0, List.replicate 5 (.int 0))),
  some (.inr (0, List.replicate 6 (.int 0))),
  some (.inr (2, [.ref 67, .ref 68, .ref 69, .ref 70, .ref 71, .ref 72, .ref 73, .ref 74])),
  some (.inr (0, List.replicate 6 (.int 0))),
  some (.inr (0, List.replicate 6 (.int 0))),
  some (.inr (0, List.replicate 6 (.int 0))),
  some (.inr (0, List.replicate 6 (.int 0))),
  some (.inr (0, List.replicate 6 (.int 0))),
  some (.inr (0, List.replicate 6 (.int 0))),
  some (.inr (0, List.replicate 6 (.int 0))),
  some (.inr (0, List.replicate 6 (.int 0))),
  some (.inr (1, [.long 0])),
  some (.inr (5, [.double 0]))]
def k34_12_hs1 : c_Hp := [some (.inl (10, [.ref 1, .ref 4, .ref 23, .ref 25, .ref 28, .ref 31, .ref 34, .ref 37, .ref 39, .ref 41, .ref 52, .ref 55])),
  some (.inl (6, [.ref 2, .ref 3, .int 10, .int 0])),
  some (.inr (0, List.replicate 60 (.int 1))),
  some (.inr (0, List.replicate 60 (.int 0))),
  some (.inl (4, [.ref 5, .ref 14, .int 0, .int 0])),
  some (.inr (2, [.ref 6, .ref 7, .ref 8, .ref 9, .ref 10, .ref 11, .ref 12, .ref 13])),
  some (.inr (0, List.replicate 60 (.int 0))),
  some (.inr (0, List.replicate 60 (.int 0))),
  some (.inr (0, List.replicate 60 (.int 0))),
  some (.inr (0, List.replicate 60 (.int 0))),
  some (.inr (0, List.replicate 60 (.int 0))),
  some (.inr (0, List.replicate 60 (.int 0))),
  some (.inr (0, List.replicate 60 (.int 0))),
  some (.inr (0, List.replicate 60 (.int 0))),
  some (.inr (2, [.ref 15, .ref 16, .ref 17, .ref 18, .ref 19, .ref 20, .ref 21, .ref 22])),
  some (.inr (0, List.replicate 60 (.int 0))),
  some (.inr (0, List.replicate 60 (.int 0))),
  some (.inr (0, List.replicate 60 (.int 0))),
  some (.inr (0, List.replicate 60 (.int 0))),
  some (.inr (0, List.replicate 60 (.int 0))),
  some (.inr (0, List.replicate 60 (.int 0))),
  some (.inr (0, List.replicate 60 (.int 0))),
  some (.inr (0, List.replicate 60 (.int 0))),
  some (.inl (0, [.ref 24, .retAddr 306])),
  some (.inr (0, ([.retAddr 215, .retAddr 223, .retAddr 231, .retAddr 239, .retAddr 247, .retAddr 255, .retAddr 263, .retAddr 271, .retAddr 279, .retAddr 287, .retAddr 295, .retAddr 303] ++ (List.replicate 48 (.int 0))))),
  some (.inl (3, [.ref 26, .ref 27, .int 0])),
  some (.inr (0, List.replicate 120 (.int 0))),
  some (.inr (0, List.replicate 60 (.int 0))),
  some (.inl (7, [.ref 29, .ref 30, .int 0, .int 0])),
  some (.inr (0, List.replicate 60 (.int 0))),
  some (.inr (0, List.replicate 60 (.int 0))),
  some (.inl (8, [.ref 32, .ref 33])),
  some (.inr (0, [.int 0, .int 0, .int 0])),
  some (.inr (0, [.int 0, .int 0, .int 0])),
  some (.inl (1, [.ref 35, .ref 36, .int 0])),
  some (.inr (0, List.replicate 5 (.int 0))),
  some (.inr (0, List.replicate 5 (.int 0))),
  some (.inl (9, [.ref 38, .int 0])),
  some (.inr (0, List.replicate 6 (.int 0))),
  some (.inl (2, [.ref 40])),
  none,
  some (.inl (5, [.ref 42, .ref 51])),
  some (.inr (2, [.ref 43, .ref 44, .ref 45, .ref 46, .ref 47, .ref 48, .ref 49, .ref 50])),
  some (.inr (0, List.replicate 6 (.int 0))),
  some (.inr (0, List.replicate 6 (.int 0))),
  some (.inr (0, List.replicate 6 (.int 0))),
  some (.inr (0, List.replicate 6 (.int 0))),
  some (.inr (0, List.replicate 6 (.int 0))),
  some (.inr (0, List.replicate 6 (.int 0))),
  some (.inr (0, List.replicate 6 (.int 0))),
  some (.inr (0, List.replicate 6 (.int 0))),
  some (.inr (0, List.replicate 6 (.int 0))),
  some (.inl (6, [.ref 53, .ref 54, .int 12, .int 1])),
  some (.inr (0, List.replicate 60 (.int 1))),
  some (.inr (0, ([.retAddr 215, .retAddr 223, .retAddr 231, .retAddr 239, .retAddr 247, .retAddr 255, .retAddr 263, .retAddr 271, .retAddr 279, .retAddr 287, .retAddr 295, .retAddr 303] ++ (List.replicate 48 (.int 0))))),
  some (.inl (6, [.ref 56, .ref 57, .int 1, .int 0])),
  some (.inr (0, List.replicate 60 (.int 0))),
  some (.inr (0, List.replicate 60 (.int 0))),
  some (.inl (11, [.ref 59, .ref 60, .int 0, .ref 61, .ref 62, .ref 63, .ref 64, .int 0, .ref 65, .int 0, .ref 66, .int 0, .int 0])),
  some (.inr (0, List.replicate 10 (.int 1))),
  some (.inr (0, List.replicate 10 (.int 0))),
  some (.inl (12, [.int 0, .retAddr 1, .int 0])),
  some (.inl (12, [.int 0, .retAddr 1, .int 0])),
  some (.inr (0, List.replicate 5 (.int 0))),
  some (.inr (0, List.replicate 5 (.int 0))),
  some (.inr (0, List.replicate 6 (.int 0))),
  some (.inr (2, [.ref 67, .ref 68, .ref 69, .ref 70, .ref 71, .ref 72, .ref 73, .ref 74])),
  some (.inr (0, List.replicate 6 (.int 0))),
  some (.inr (0, List.replicate 6 (.int 0))),
  some (.inr (0, List.replicate 6 (.int 0))),
  some (.inr (0, List.replicate 6 (.int 0))),
  some (.inr (0, List.replicate 6 (.int 0))),
  some (.inr (0, List.replicate 6 (.int 0))),
  some (.inr (0, List.replicate 6 (.int 0))),
  some (.inr (0, List.replicate 6 (.int 0))),
  some (.inr (1, [.long 0])),
  some (.inr (5, [.double 0]))]
def k34_12_rs0 : c_Hp := [some (.inl (10, [.ref 1, .ref 4, .ref 23, .ref 25, .ref 28, .ref 31, .ref 34, .ref 37, .ref 39, .ref 41, .ref 52, .ref 55])),
  some (.inl (6, [.ref 2, .ref 3, .int 10, .int 0])),
  some (.inr (0, List.replicate 60 (.int 1))),
  some (.inr (0, List.replicate 60 (.int 0))),
  some (.inl (4, [.ref 5, .ref 14, .int 0, .int 0])),
  some (.inr (2, [.ref 6, .ref 7, .ref 8, .ref 9, .ref 10, .ref 11, .ref 12, .ref 13])),
  some (.inr (0, List.replicate 60 (.int 0))),
  some (.inr (0, List.replicate 60 (.int 0))),
  some (.inr (0, List.replicate 60 (.int 0))),
  some (.inr (0, List.replicate 60 (.int 0))),
  some (.inr (0, List.replicate 60 (.int 0))),
  some (.inr (0, List.replicate 60 (.int 0))),
  some (.inr (0, List.replicate 60 (.int 0))),
  some (.inr (0, List.replicate 60 (.int 0))),
  some (.inr (2, [.ref 15, .ref 16, .ref 17, .ref 18, .ref 19, .ref 20, .ref 21, .ref 22])),
  some (.inr (0, List.replicate 60 (.int 0))),
  some (.inr (0, List.replicate 60 (.int 0))),
  some (.inr (0, List.replicate 60 (.int 0))),
  some (.inr (0, List.replicate 60 (.int 0))),
  some (.inr (0, List.replicate 60 (.int 0))),
  some (.inr (0, List.replicate 60 (.int 0))),
  some (.inr (0, List.replicate 60 (.int 0))),
  some (.inr (0, List.replicate 60 (.int 0))),
  some (.inl (0, [.ref 24, .retAddr 18])),
  some (.inr (0, ([.retAddr 22, .retAddr 23, .retAddr 24, .retAddr 25, .retAddr 26, .retAddr 27, .retAddr 28, .retAddr 29, .retAddr 30, .retAddr 31, .retAddr 32, .retAddr 33] ++ (List.replicate 48 (.int 0))))),
  some (.inl (3, [.ref 26, .ref 27, .int 0])),
  some (.inr (0, List.replicate 120 (.int 0))),
  some (.inr (0, List.replicate 60 (.int 0))),
  some (.inl (7, [.ref 29, .ref 30, .int 0, .int 0])),
  some (.inr (0, List.replicate 60 (.int 0))),
  some (.inr (0, List.replicate 60 (.int 0))),
  some (.inl (8, [.ref 32, .ref 33])),
  some (.inr (0, [.int 0, .int 0, .int 0])),
  some (.inr (0, [.int 0, .int 0, .int 0])),
  some (.inl (1, [.ref 35, .ref 36, .int 0])),
  some (.inr (0, List.replicate 5 (.int 0))),
  some (.inr (0, List.replicate 5 (.int 0))),
  some (.inl (9, [.ref 38, .int 0])),
  some (.inr (0, List.replicate 6 (.int 0))),
  some (.inl (2, [.ref 40])),
  none,
  some (.inl (5, [.ref 42, .ref 51])),
  some (.inr (2, [.ref 43, .ref 44, .ref 45, .ref 46, .ref 47, .ref 48, .ref 49, .ref 50])),
  some (.inr (0, List.replicate 6 (.int 0))),
  some (.inr (0, List.replicate 6 (.int 0))),
  some (.inr (0, List.replicate 6 (.int 0))),
  some (.inr (0, List.replicate 6 (.int 0))),
  some (.inr (0, List.replicate 6 (.int 0))),
  some (.inr (0, List.replicate 6 (.int 0))),
  some (.inr (0, List.replicate 6 (.int 0))),
  some (.inr (0, List.replicate 6 (.int 0))),
  some (.inr (0, List.replicate 6 (.int 0))),
  some (.inl (6, [.ref 53, .ref 54, .retAddr 19, .retAddr 20])),
  some (.inr (0, List.replicate 60 (.retAddr 21))),
  some (.inr (0, ([.retAddr 22, .retAddr 23, .retAddr 24, .retAddr 25, .retAddr 26, .retAddr 27, .retAddr 28, .retAddr 29, .retAddr 30, .retAddr 31, .retAddr 32, .retAddr 33] ++ (List.replicate 48 (.int 0))))),
  some (.inl (6, [.ref 56, .ref 57, .int 1, .int 0])),
  some (.inr (0, List.replicate 60 (.int 0))),
  some (.inr (0, List.replicate 60 (.int 0))),
  some (.inl (11, [.ref 59, .ref 60, .int 0, .ref 61, .ref 62, .ref 63, .ref 64, .int 0, .ref 65, .int 0, .ref 66, .retAddr 34, .int 0])),
  some (.inr (0, List.replicate 10 (.int 1))),
  some (.inr (0, List.replicate 10 (.int 0))),
  some (.inl (12, [.int 0, .retAddr 1, .int 0])),
  some (.inl (12, [.int 0, .retAddr 1, .int 0])),
  some (.inr (0, List.replicate 5 (.int 0))),
  some (.inr (0, List.replicate 5 (.int 0))),
  some (.inr (0, List.replicate 6 (.int 0))),
  some (.inr (2, [.ref 67, .ref 68, .ref 69, .ref 70, .ref 71, .ref 72, .ref 73, .ref 74])),
  some (.inr (0, List.replicate 6 (.int 0))),
  some (.inr (0, List.replicate 6 (.int 0))),
  some (.inr (0, List.replicate 6 (.int 0))),
  some (.inr (0, List.replicate 6 (.int 0))),
  some (.inr (0, List.replicate 6 (.int 0))),
  some (.inr (0, List.replicate 6 (.int 0))),
  some (.inr (0, List.replicate 6 (.int 0))),
  some (.inr (0, List.replicate 6 (.int 0))),
  some (.inr (1, [.double (UInt64.ofNat (c_M0 + 35))])),
  some (.inr (5, [.double 0])),
  none,
  some (.inr (0, List.replicate 12 (.int 1)))]
def k34_12_rs0a : c_Hp := [some (.inl (10, [.ref 1, .ref 4, .ref 23, .ref 25, .ref 28, .ref 31, .ref 34, .ref 37, .ref 39, .ref 41, .ref 52, .ref 55])),
  some (.inl (6, [.ref 2, .ref 3, .int 10, .int 0])),
  some (.inr (0, List.replicate 60 (.int 1))),
  some (.inr (0, List.replicate 60 (.int 0))),
  some (.inl (4, [.ref 5, .ref 14, .int 0, .int 0])),
  some (.inr (2, [.ref 6, .ref 7, .ref 8, .ref 9, .ref 10, .ref 11, .ref 12, .ref 13])),
  some (.inr (0, List.replicate 60 (.int 0))),
  some (.inr (0, List.replicate 60 (.int 0))),
  some (.inr (0, List.replicate 60 (.int 0))),
  some (.inr (0, List.replicate 60 (.int 0))),
  some (.inr (0, List.replicate 60 (.int 0))),
  some (.inr (0, List.replicate 60 (.int 0))),
  some (.inr (0, List.replicate 60 (.int 0))),
  some (.inr (0, List.replicate 60 (.int 0))),
  some (.inr (2, [.ref 15, .ref 16, .ref 17, .ref 18, .ref 19, .ref 20, .ref 21, .ref 22])),
  some (.inr (0, List.replicate 60 (.int 0))),
  some (.inr (0, List.replicate 60 (.int 0))),
  some (.inr (0, List.replicate 60 (.int 0))),
  some (.inr (0, List.replicate 60 (.int 0))),
  some (.inr (0, List.replicate 60 (.int 0))),
  some (.inr (0, List.replicate 60 (.int 0))),
  some (.inr (0, List.replicate 60 (.int 0))),
  some (.inr (0, List.replicate 60 (.int 0))),
  some (.inl (0, [.ref 24, .retAddr 18])),
  some (.inr (0, ([.retAddr 22, .retAddr 23, .retAddr 24, .retAddr 25, .retAddr 26, .retAddr 27, .retAddr 28, .retAddr 29, .retAddr 30, .retAddr 31, .retAddr 32, .retAddr 33] ++ (List.replicate 48 (.int 0))))),
  some (.inl (3, [.ref 26, .ref 27, .int 0])),
  some (.inr (0, List.replicate 120 (.int 0))),
  some (.inr (0, List.replicate 60 (.int 0))),
  some (.inl (7, [.ref 29, .ref 30, .int 0, .int 0])),
  some (.inr (0, List.replicate 60 (.int 0))),
  some (.inr (0, List.replicate 60 (.int 0))),
  some (.inl (8, [.ref 32, .ref 33])),
  some (.inr (0, [.int 0, .int 0, .int 0])),
  some (.inr (0, [.int 0, .int 0, .int 0])),
  some (.inl (1, [.ref 35, .ref 36, .int 0])),
  some (.inr (0, List.replicate 5 (.int 0))),
  some (.inr (0, List.replicate 5 (.int 0))),
  some (.inl (9, [.ref 38, .int 0])),
  some (.inr (0, List.replicate 6 (.int 0))),
  some (.inl (2, [.ref 40])),
  none,
  some (.inl (5, [.ref 42, .ref 51])),
  some (.inr (2, [.ref 43, .ref 44, .ref 45, .ref 46, .ref 47, .ref 48, .ref 49, .ref 50])),
  some (.inr (0, List.replicate 6 (.int 0))),
  some (.inr (0, List.replicate 6 (.int 0))),
  some (.inr (0, List.replicate 6 (.int 0))),
  some (.inr (0, List.replicate 6 (.int 0))),
  some (.inr (0, List.replicate 6 (.int 0))),
  some (.inr (0, List.replicate 6 (.int 0))),
  some (.inr (0, List.replicate 6 (.int 0))),
  some (.inr (0, List.replicate 6 (.int 0))),
  some (.inr (0, List.replicate 6 (.int 0))),
  some (.inl (6, [.ref 53, .ref 54, .retAddr 19, .retAddr 20])),
  some (.inr (0, List.replicate 60 (.retAddr 21))),
  some (.inr (0, ([.retAddr 22, .retAddr 23, .retAddr 24, .retAddr 25, .retAddr 26, .retAddr 27, .retAddr 28, .retAddr 29, .retAddr 30, .retAddr 31, .retAddr 32, .retAddr 33] ++ (List.replicate 48 (.int 0))))),
  some (.inl (6, [.ref 56, .ref 57, .int 1, .int 0])),
  some (.inr (0, List.replicate 60 (.int 0))),
  some (.inr (0, List.replicate 60 (.int 0))),
  some (.inl (11, [.ref 59, .ref 60, .int 0, .ref 61, .ref 62, .ref 63, .ref 64, .int 0, .ref 65, .int 0, .ref 66, .retAddr 306, .int 0])),
  some (.inr (0, List.replicate 10 (.int 1))),
  some (.inr (0, List.replicate 10 (.int 0))),
  some (.inl (12, [.int 0, .retAddr 1, .int 0])),
  some (.inl (12, [.int 0, .retAddr 1, .int 0])),
  some (.inr (0, List.replicate 5 (.int 0))),
  some (.inr (0, List.replicate 5 (.int 0))),
  some (.inr (0, List.replicate 6 (.int 0))),
  some (.inr (2, [.ref 67, .ref 68, .ref 69, .ref 70, .ref 71, .ref 72, .ref 73, .ref 74])),
  some (.inr (0, List.replicate 6 (.int 0))),
  some (.inr (0, List.replicate 6 (.int 0))),
  some (.inr (0, List.replicate 6 (.int 0))),
  some (.inr (0, List.replicate 6 (.int 0))),
  some (.inr (0, List.replicate 6 (.int 0))),
  some (.inr (0, List.replicate 6 (.int 0))),
  some (.inr (0, List.replicate 6 (.int 0))),
  some (.inr (0, List.replicate 6 (.int 0))),
  some (.inr (1, [.double (UInt64.ofNat (c_M0 + 35))])),
  some (.inr (5, [.double 0])),
  none,
  some (.inr (0, List.replicate 12 (.int 1)))]
def k34_12_lv : c_Hp := [some (.inr (0, [.retAddr 36, .retAddr 37, .retAddr 38, .retAddr 39, .retAddr 40, .retAddr 41, .retAddr 42, .retAddr 43, .retAddr 44, .retAddr 45, .retAddr 46, .retAddr 47])),
  some (.inr (0, [.retAddr 48, .retAddr 49, .retAddr 50, .retAddr 51, .retAddr 52, .retAddr 53, .retAddr 54, .retAddr 55, .retAddr 56, .retAddr 57, .retAddr 58, .retAddr 59]))]
def k34_12_nw : c_Hp := [some (.inr (0, [.retAddr 108, .retAddr 117, .retAddr 126, .retAddr 135, .retAddr 144, .retAddr 153, .retAddr 162, .retAddr 171, .retAddr 180, .retAddr 189, .retAddr 198, .retAddr 207])),
  some (.inr (0, [.retAddr 215, .retAddr 223, .retAddr 231, .retAddr 239, .retAddr 247, .retAddr 255, .retAddr 263, .retAddr 271, .retAddr 279, .retAddr 287, .retAddr 295, .retAddr 303]))]
def k34_12_rs1 : c_Hp := [some (.inl (10, [.ref 1, .ref 4, .ref 23, .ref 25, .ref 28, .ref 31, .ref 34, .ref 37, .ref 39, .ref 41, .ref 52, .ref 55])),
  some (.inl (6, [.ref 2, .ref 3, .int 10, .int 0])),
  some (.inr (0, List.replicate 60 (.int 1))),
  some (.inr (0, List.replicate 60 (.int 0))),
  some (.inl (4, [.ref 5, .ref 14, .int 0, .int 0])),
  some (.inr (2, [.ref 6, .ref 7, .ref 8, .ref 9, .ref 10, .ref 11, .ref 12, .ref 13])),
  some (.inr (0, List.replicate 60 (.int 0))),
  some (.inr (0, List.replicate 60 (.int 0))),
  some (.inr (0, List.replicate 60 (.int 0))),
  some (.inr (0, List.replicate 60 (.int 0))),
  some (.inr (0, List.replicate 60 (.int 0))),
  some (.inr (0, List.replicate 60 (.int 0))),
  some (.inr (0, List.replicate 60 (.int 0))),
  some (.inr (0, List.replicate 60 (.int 0))),
  some (.inr (2, [.ref 15, .ref 16, .ref 17, .ref 18, .ref 19, .ref 20, .ref 21, .ref 22])),
  some (.inr (0, List.replicate 60 (.int 0))),
  some (.inr (0, List.replicate 60 (.int 0))),
  some (.inr (0, List.replicate 60 (.int 0))),
  some (.inr (0, List.replicate 60 (.int 0))),
  some (.inr (0, List.replicate 60 (.int 0))),
  some (.inr (0, List.replicate 60 (.int 0))),
  some (.inr (0, List.replicate 60 (.int 0))),
  some (.inr (0, List.replicate 60 (.int 0))),
  some (.inl (0, [.ref 24, .retAddr 18])),
  some (.inr (0, ([.retAddr 22, .retAddr 23, .retAddr 24, .retAddr 25, .retAddr 26, .retAddr 27, .retAddr 28, .retAddr 29, .retAddr 30, .retAddr 31, .retAddr 32, .retAddr 33] ++ (List.replicate 48 (.int 0))))),
  some (.inl (3, [.ref 26, .ref 27, .int 0])),
  some (.inr (0, List.replicate 120 (.int 0))),
  some (.inr (0, List.replicate 60 (.int 0))),
  some (.inl (7, [.ref 29, .ref 30, .int 0, .int 0])),
  some (.inr (0, List.replicate 60 (.int 0))),
  some (.inr (0, List.replicate 60 (.int 0))),
  some (.inl (8, [.ref 32, .ref 33])),
  some (.inr (0, [.int 0, .int 0, .int 0])),
  some (.inr (0, [.int 0, .int 0, .int 0])),
  some (.inl (1, [.ref 35, .ref 36, .int 0])),
  some (.inr (0, List.replicate 5 (.int 0))),
  some (.inr (0, List.replicate 5 (.int 0))),
  some (.inl (9, [.ref 38, .int 0])),
  some (.inr (0, List.replicate 6 (.int 0))),
  some (.inl (2, [.ref 40])),
  none,
  some (.inl (5, [.ref 42, .ref 51])),
  some (.inr (2, [.ref 43, .ref 44, .ref 45, .ref 46, .ref 47, .ref 48, .ref 49, .ref 50])),
  some (.inr (0, List.replicate 6 (.int 0))),
  some (.inr (0, List.replicate 6 (.int 0))),
  some (.inr (0, List.replicate 6 (.int 0))),
  some (.inr (0, List.replicate 6 (.int 0))),
  some (.inr (0, List.replicate 6 (.int 0))),
  some (.inr (0, List.replicate 6 (.int 0))),
  some (.inr (0, List.replicate 6 (.int 0))),
  some (.inr (0, List.replicate 6 (.int 0))),
  some (.inr (0, List.replicate 6 (.int 0))),
  some (.inl (6, [.ref 53, .ref 54, .retAddr 19, .retAddr 20])),
  some (.inr (0, List.replicate 60 (.retAddr 21))),
  some (.inr (0, ([.retAddr 22, .retAddr 23, .retAddr 24, .retAddr 25, .retAddr 26, .retAddr 27, .retAddr 28, .retAddr 29, .retAddr 30, .retAddr 31, .retAddr 32, .retAddr 33] ++ (List.replicate 48 (.int 0))))),
  some (.inl (6, [.ref 56, .ref 57, .int 1, .int 0])),
  some (.inr (0, List.replicate 60 (.int 0))),
  some (.inr (0, List.replicate 60 (.int 0))),
  some (.inl (11, [.ref 59, .ref 60, .int 0, .ref 61, .ref 62, .ref 63, .ref 64, .int 0, .ref 65, .int 0, .ref 66, .retAddr 34, .int 0])),
  some (.inr (0, List.replicate 10 (.int 1))),
  some (.inr (0, List.replicate 10 (.int 0))),
  some (.inl (12, [.int 0, .retAddr 1, .int 0])),
  some (.inl (12, [.int 0, .retAddr 1, .int 0])),
  some (.inr (0, List.replicate 5 (.int 0))),
  some (.inr (0, List.replicate 5 (.int 0))),
  some (.inr (0, List.replicate 6 (.int 0))),
  some (.inr (2, [.ref 67, .ref 68, .ref 69, .ref 70, .ref 71, .ref 72, .ref 73, .ref 74])),
  some (.inr (0, List.replicate 6 (.int 0))),
  some (.inr (0, List.replicate 6 (.int 0))),
  some (.inr (0, List.replicate 6 (.int 0))),
  some (.inr (0, List.replicate 6 (.int 0))),
  some (.inr (0, List.replicate 6 (.int 0))),
  some (.inr (0, List.replicate 6 (.int 0))),
  some (.inr (0, List.replicate 6 (.int 0))),
  some (.inr (0, List.replicate 6 (.int 0))),
  some (.inr (1, [.double (UInt64.ofNat (c_M0 + 35))])),
  some (.inr (5, [.double 0])),
  none,
  some (.inr (0, List.replicate 12 (.int 1))),
  some (.inr (0, [.retAddr 36, .retAddr 37, .retAddr 38, .retAddr 39, .retAddr 40, .retAddr 41, .retAddr 42, .retAddr 43, .retAddr 44, .retAddr 45, .retAddr 46, .retAddr 47])),
  some (.inr (0, [.retAddr 48, .retAddr 49, .retAddr 50, .retAddr 51, .retAddr 52, .retAddr 53, .retAddr 54, .retAddr 55, .retAddr 56, .retAddr 57, .retAddr 58, .retAddr 59]))]
def k34_12_rs1a : c_Hp := [some (.inl (10, [.ref 1, .ref 4, .ref 23, .ref 25, .ref 28, .ref 31, .ref 34, .ref 37, .ref 39, .ref 41, .ref 52, .ref 55])),
  some (.inl (6, [.ref 2, .ref 3, .int 10, .int 0])),
  some (.inr (0, List.replicate 60 (.int 1))),
  some (.inr (0, List.replicate 60 (.int 0))),
  some (.inl (4, [.ref 5, .ref 14, .int 0, .int 0])),
  some (.inr (2, [.ref 6, .ref 7, .ref 8, .ref 9, .ref 10, .ref 11, .ref 12, .ref 13])),
  some (.inr (0, List.replicate 60 (.int 0))),
  some (.inr (0, List.replicate 60 (.int 0))),
  some (.inr (0, List.replicate 60 (.int 0))),
  some (.inr (0, List.replicate 60 (.int 0))),
  some (.inr (0, List.replicate 60 (.int 0))),
  some (.inr (0, List.replicate 60 (.int 0))),
  some (.inr (0, List.replicate 60 (.int 0))),
  some (.inr (0, List.replicate 60 (.int 0))),
  some (.inr (2, [.ref 15, .ref 16, .ref 17, .ref 18, .ref 19, .ref 20, .ref 21, .ref 22])),
  some (.inr (0, List.replicate 60 (.int 0))),
  some (.inr (0, List.replicate 60 (.int 0))),
  some (.inr (0, List.replicate 60 (.int 0))),
  some (.inr (0, List.replicate 60 (.int 0))),
  some (.inr (0, List.replicate 60 (.int 0))),
  some (.inr (0, List.replicate 60 (.int 0))),
  some (.inr (0, List.replicate 60 (.int 0))),
  some (.inr (0, List.replicate 60 (.int 0))),
  some (.inl (0, [.ref 24, .retAddr 18])),
  some (.inr (0, ([.retAddr 22, .retAddr 23, .retAddr 24, .retAddr 25, .retAddr 26, .retAddr 27, .retAddr 28, .retAddr 29, .retAddr 30, .retAddr 31, .retAddr 32, .retAddr 33] ++ (List.replicate 48 (.int 0))))),
  some (.inl (3, [.ref 26, .ref 27, .int 0])),
  some (.inr (0, List.replicate 120 (.int 0))),
  some (.inr (0, List.replicate 60 (.int 0))),
  some (.inl (7, [.ref 29, .ref 30, .int 0, .int 0])),
  some (.inr (0, List.replicate 60 (.int 0))),
  some (.inr (0, List.replicate 60 (.int 0))),
  some (.inl (8, [.ref 32, .ref 33])),
  some (.inr (0, [.int 0, .int 0, .int 0])),
  some (.inr (0, [.int 0, .int 0, .int 0])),
  some (.inl (1, [.ref 35, .ref 36, .int 0])),
  some (.inr (0, List.replicate 5 (.int 0))),
  some (.inr (0, List.replicate 5 (.int 0))),
  some (.inl (9, [.ref 38, .int 0])),
  some (.inr (0, List.replicate 6 (.int 0))),
  some (.inl (2, [.ref 40])),
  none,
  some (.inl (5, [.ref 42, .ref 51])),
  some (.inr (2, [.ref 43, .ref 44, .ref 45, .ref 46, .ref 47, .ref 48, .ref 49, .ref 50])),
  some (.inr (0, List.replicate 6 (.int 0))),
  some (.inr (0, List.replicate 6 (.int 0))),
  some (.inr (0, List.replicate 6 (.int 0))),
  some (.inr (0, List.replicate 6 (.int 0))),
  some (.inr (0, List.replicate 6 (.int 0))),
  some (.inr (0, List.replicate 6 (.int 0))),
  some (.inr (0, List.replicate 6 (.int 0))),
  some (.inr (0, List.replicate 6 (.int 0))),
  some (.inr (0, List.replicate 6 (.int 0))),
  some (.inl (6, [.ref 53, .ref 54, .retAddr 19, .retAddr 20])),
  some (.inr (0, List.replicate 60 (.retAddr 21))),
  some (.inr (0, ([.retAddr 22, .retAddr 23, .retAddr 24, .retAddr 25, .retAddr 26, .retAddr 27, .retAddr 28, .retAddr 29, .retAddr 30, .retAddr 31, .retAddr 32, .retAddr 33] ++ (List.replicate 48 (.int 0))))),
  some (.inl (6, [.ref 56, .ref 57, .int 1, .int 0])),
  some (.inr (0, List.replicate 60 (.int 0))),
  some (.inr (0, List.replicate 60 (.int 0))),
  some (.inl (11, [.ref 59, .ref 60, .int 0, .ref 61, .ref 62, .ref 63, .ref 64, .int 0, .ref 65, .int 0, .ref 66, .retAddr 306, .int 0])),
  some (.inr (0, List.replicate 10 (.int 1))),
  some (.inr (0, List.replicate 10 (.int 0))),
  some (.inl (12, [.int 0, .retAddr 1, .int 0])),
  some (.inl (12, [.int 0, .retAddr 1, .int 0])),
  some (.inr (0, List.replicate 5 (.int 0))),
  some (.inr (0, List.replicate 5 (.int 0))),
  some (.inr (0, List.replicate 6 (.int 0))),
  some (.inr (2, [.ref 67, .ref 68, .ref 69, .ref 70, .ref 71, .ref 72, .ref 73, .ref 74])),
  some (.inr (0, List.replicate 6 (.int 0))),
  some (.inr (0, List.replicate 6 (.int 0))),
  some (.inr (0, List.replicate 6 (.int 0))),
  some (.inr (0, List.replicate 6 (.int 0))),
  some (.inr (0, List.replicate 6 (.int 0))),
  some (.inr (0, List.replicate 6 (.int 0))),
  some (.inr (0, List.replicate 6 (.int 0))),
  some (.inr (0, List.replicate 6 (.int 0))),
  some (.inr (1, [.double (UInt64.ofNat (c_M0 + 35))])),
  some (.inr (5, [.double 0])),
  none,
  some (.inr (0, List.replicate 12 (.int 1))),
  some (.inr (0, [.retAddr 36, .retAddr 37, .retAddr 38, .retAddr 39, .retAddr 40, .retAddr 41, .retAddr 42, .retAddr 43, .retAddr 44, .retAddr 45, .retAddr 46, .retAddr 47])),
  some (.inr (0, [.retAddr 48, .retAddr 49, .retAddr 50, .retAddr 51, .retAddr 52, .retAddr 53, .retAddr 54, .retAddr 55, .retAddr 56, .retAddr 57, .retAddr 58, .retAddr 59])),
  some (.inr (0, [.retAddr 108, .retAddr 117, .retAddr 126, .retAddr 135, .retAddr 144, .retAddr 153, .retAddr 162, .retAddr 171, .retAddr 180, .retAddr 189, .retAddr 198, .retAddr 207])),
  some (.inr (0, [.retAddr 215, .retAddr 223, .retAddr 231, .retAddr 239, .retAddr 247, .retAddr 255, .retAddr 263, .retAddr 271, .retAddr 279, .retAddr 287, .retAddr 295, .retAddr 303]))]
def k34_12_ra0 : c_Hp := [some (.inl (10, [.ref 1, .ref 4, .ref 23, .ref 25, .ref 28, .ref 31, .ref 34, .ref 37, .ref 39, .ref 41, .ref 52, .ref 55])),
  some (.inl (6, [.ref 2, .ref 3, .int 10, .int 0])),
  some (.inr (0, List.replicate 60 (.int 1))),
  some (.inr (0, List.replicate 60 (.int 0))),
  some (.inl (4, [.ref 5, .ref 14, .int 0, .int 0])),
  some (.inr (2, [.ref 6, .ref 7, .ref 8, .ref 9, .ref 10, .ref 11, .ref 12, .ref 13])),
  some (.inr (0, List.replicate 60 (.int 0))),
  some (.inr (0, List.replicate 60 (.int 0))),
  some (.inr (0, List.replicate 60 (.int 0))),
  some (.inr (0, List.replicate 60 (.int 0))),
  some (.inr (0, List.replicate 60 (.int 0))),
  some (.inr (0, List.replicate 60 (.int 0))),
  some (.inr (0, List.replicate 60 (.int 0))),
  some (.inr (0, List.replicate 60 (.int 0))),
  some (.inr (2, [.ref 15, .ref 16, .ref 17, .ref 18, .ref 19, .ref 20, .ref 21, .ref 22])),
  some (.inr (0, List.replicate 60 (.int 0))),
  some (.inr (0, List.replicate 60 (.int 0))),
  some (.inr (0, List.replicate 60 (.int 0))),
  some (.inr (0, List.replicate 60 (.int 0))),
  some (.inr (0, List.replicate 60 (.int 0))),
  some (.inr (0, List.replicate 60 (.int 0))),
  some (.inr (0, List.replicate 60 (.int 0))),
  some (.inr (0, List.replicate 60 (.int 0))),
  some (.inl (0, [.ref 24, .retAddr 18])),
  some (.inr (0, ([.retAddr 22, .retAddr 23, .retAddr 24, .retAddr 25, .retAddr 26, .retAddr 27, .retAddr 28, .retAddr 29, .retAddr 30, .retAddr 31, .retAddr 32, .retAddr 33] ++ (List.replicate 48 (.int 0))))),
  some (.inl (3, [.ref 26, .ref 27, .int 0])),
  some (.inr (0, List.replicate 120 (.int 0))),
  some (.inr (0, List.replicate 60 (.int 0))),
  some (.inl (7, [.ref 29, .ref 30, .int 0, .int 0])),
  some (.inr (0, List.replicate 60 (.int 0))),
  some (.inr (0, List.replicate 60 (.int 0))),
  some (.inl (8, [.ref 32, .ref 33])),
  some (.inr (0, [.int 0, .int 0, .int 0])),
  some (.inr (0, [.int 0, .int 0, .int 0])),
  some (.inl (1, [.ref 35, .ref 36, .int 0])),
  some (.inr (0, List.replicate 5 (.int 0))),
  some (.inr (0, List.replicate 5 (.int 0))),
  some (.inl (9, [.ref 38, .int 0])),
  some (.inr (0, List.replicate 6 (.int 0))),
  some (.inl (2, [.ref 40])),
  none,
  some (.inl (5, [.ref 42, .ref 51])),
  some (.inr (2, [.ref 43, .ref 44, .ref 45, .ref 46, .ref 47, .ref 48, .ref 49, .ref 50])),
  some (.inr (0, List.replicate 6 (.int 0))),
  some (.inr (0, List.replicate 6 (.int 0))),
  some (.inr (0, List.replicate 6 (.int 0))),
  some (.inr (0, List.replicate 6 (.int 0))),
  some (.inr (0, List.replicate 6 (.int 0))),
  some (.inr (0, List.replicate 6 (.int 0))),
  some (.inr (0, List.replicate 6 (.int 0))),
  some (.inr (0, List.replicate 6 (.int 0))),
  some (.inr (0, List.replicate 6 (.int 0))),
  some (.inl (6, [.ref 53, .ref 54, .retAddr 19, .retAddr 20])),
  some (.inr (0, List.replicate 60 (.retAddr 21))),
  some (.inr (0, ([.retAddr 22, .retAddr 23, .retAddr 24, .retAddr 25, .retAddr 26, .retAddr 27, .retAddr 28, .retAddr 29, .retAddr 30, .retAddr 31, .retAddr 32, .retAddr 33] ++ (List.replicate 48 (.int 0))))),
  some (.inl (6, [.ref 56, .ref 57, .int 1, .int 0])),
  some (.inr (0, List.replicate 60 (.int 0))),
  some (.inr (0, List.replicate 60 (.int 0))),
  some (.inl (11, [.ref 59, .ref 60, .int 0, .ref 61, .ref 62, .ref 63, .ref 64, .int 0, .ref 65, .int 0, .ref 66, .retAddr 306, .int 0])),
  some (.inr (0, List.replicate 10 (.int 1))),
  some (.inr (0, List.replicate 10 (.int 0))),
  some (.inl (12, [.int 0, .retAddr 1, .int 0])),
  some (.inl (12, [.int 0, .retAddr 1, .int 0])),
  some (.inr (0, List.replicate 5 (.int 0))),
  some (.inr (0, List.replicate 5 (.int 0))),
  some (.inr (0, List.replicate 6 (.int 0))),
  some (.inr (2, [.ref 67, .ref 68, .ref 69, .ref 70, .ref 71, .ref 72, .ref 73, .ref 74])),
  some (.inr (0, List.replicate 6 (.int 0))),
  some (.inr (0, List.replicate 6 (.int 0))),
  some (.inr (0, List.replicate 6 (.int 0))),
  some (.inr (0, List.replicate 6 (.int 0))),
  some (.inr (0, List.replicate 6 (.int 0))),
  some (.inr (0, List.replicate 6 (.int 0))),
  some (.inr (0, List.replicate 6 (.int 0))),
  some (.inr (0, List.replicate 6 (.int 0))),
  some (.inr (1, [.double (UInt64.ofNat (c_M0 + 35))])),
  some (.inr (5, [.double 0])),
  none,
  some (.inr (0, List.replicate 12 (.int 1))),
  some (.inr (0, [.retAddr 108, .retAddr 117, .retAddr 126, .retAddr 135, .retAddr 144, .retAddr 153, .retAddr 162, .retAddr 171, .retAddr 180, .retAddr 189, .retAddr 198, .retAddr 207])),
  some (.inr (0, [.retAddr 215, .retAddr 223, .retAddr 231, .retAddr 239, .retAddr 247, .retAddr 255, .retAddr 263, .retAddr 271, .retAddr 279, .retAddr 287, .retAddr 295, .retAddr 303]))]
theorem k34_12_hsk : e_hk 18 34 k34_12_hs = true := by decide +kernel
theorem k34_12_rsk : e_hk 18 60 k34_12_rs0 = true := by decide +kernel
theorem k34_12_lvk : e_hk 18 60 k34_12_lv = true := by decide +kernel
theorem k34_12_m : c_pre (((23, .retAddr 16, .int 4096, .int 0) :: (0, .retAddr 16, .int 1, .retAddr 17) :: (21, .retAddr 78, .retAddr 12, .int 1) :: k34_12_D), x_xs) 103 c_m35 11 41 [some (.ref 0), some (.int 12), some (.retAddr 12), some (.retAddr 16)] [] k34_12_hs = some (41, [some (.ref 0), some (.int 12), some (.retAddr 12), some (.retAddr 17)], [], k34_12_hs) := c_eqR_ok (by decide +kernel)
theorem k34_12_h : c_pre (((23, .retAddr 16, .int 4096, .int 0) :: (21, .retAddr 78, .retAddr 12, .int 0) :: (21, .retAddr 305, .retAddr 209, .int 0) :: k34_12_D), x_xs) 3340 c_m35 25 41 [some (.ref 0), some (.int 12), some (.retAddr 12), some (.retAddr 16)] [] k34_12_hs = some (87, [some (.ref 0), some (.int 12), some (.retAddr 12), some (.retAddr 16)], [.retAddr 329, .ref 39], k34_12_hs1) := c_eqR_ok (by decide +kernel)
theorem k34_12_n : c_pre ([(0, .retAddr 16, .int 1, .retAddr 17)], x_xs) 50 c_m35 2 90 [some (.ref 0), some (.int 12), some (.retAddr 12), some (.retAddr 16)] [] k34_12_hs1 = some (41, [some (.ref 0), some (.int 12), some (.retAddr 12), some (.retAddr 17)], [], k34_12_hs1) := c_eqR_ok (by decide +kernel)
theorem k34_12_e : c_pre ([], x_xs) 50 c_m35 7 41 [some (.ref 0), some (.int 12), some (.retAddr 12), some (.int 4096)] [] k34_12_hs = some (100, [some (.ref 0), some (.int 12), some (.retAddr 12), some (.int 4096)], [.ref 39], k34_12_hs) := c_eqR_ok (by decide +kernel)
theorem k34_12_ce : c_callee c_m35 87 [.retAddr 329, .ref 39] k34_12_hs1 = some (149, [some (.ref 39), some (.retAddr 329), none], []) := c_eqC_ok (by decide +kernel)
def k34_12_q1 : Nat → Value := fun i => ([.retAddr 306, .int 12, .int 1, .int 1, .retAddr 215, .retAddr 223, .retAddr 231, .retAddr 239, .retAddr 247, .retAddr 255, .retAddr 263, .retAddr 271, .retAddr 279, .retAddr 287, .retAddr 295, .retAddr 303, .retAddr 34, .retAddr 35, .retAddr 36, .retAddr 37, .retAddr 38, .retAddr 39, .retAddr 40, .retAddr 41, .retAddr 42, .retAddr 43, .retAddr 44, .retAddr 45, .retAddr 46, .retAddr 47, .retAddr 48, .retAddr 49, .retAddr 50, .retAddr 51, .retAddr 52, .retAddr 53, .retAddr 54, .retAddr 55, .retAddr 56, .retAddr 57, .retAddr 58, .retAddr 59, .retAddr 60, .retAddr 61, .retAddr 62, .retAddr 63][i - 18]?).getD (.retAddr i)
def k34_12_v (B : c_B) : Nat → Int32 := z_f B k34_12_q1
theorem k34_12_h1 (B : c_B) : s_h B k34_12_hs1 = s_h (k34_B (k34_12_v B)) k34_12_hs := z_h B k34_12_q1 (by decide +kernel) (by decide +kernel)
theorem k34_12_39 (B : c_B) : c_nth (s_h B k34_12_hs1) 39 = some (some (.inl (2, [.ref 40]))) := rfl
theorem k34_12_c {a0 a3 a4 a5 : Int32} {k n S : Nat} (hk : 2 * k < 12) (hn : n < 4096) (v : Nat → Int32) : ∃ v2 : Nat → Int32, ∀ r, c_T [a0, Int32.ofNat 12, Int32.ofNat k, a3, a4, a5] c_m35 41 [some (.ref 0), some (.int 12), some (.int (Int32.ofNat k)), some (.int (Int32.ofNat (n + 1)))] [] ((s_h (k34_B v2) k34_12_hs).set 40 (w_c (S ||| nb_D 12 k 0 n))) r → c_T [a0, Int32.ofNat 12, Int32.ofNat k, a3, a4, a5] c_m35 41 [some (.ref 0), some (.int 12), some (.int (Int32.ofNat k)), some (.int (Int32.ofNat n))] [] ((s_h (k34_B v) k34_12_hs).set 40 (w_c S)) r := by
  have H := e_Bf (f := k34_f [a0, Int32.ofNat 12, Int32.ofNat k, a3, a4, a5] n v) (n0 := 64) (D := k34_12_D) (by decide) k34_12_ok
  obtain ⟨V0, V1, V2, V3, V4⟩ := k34_12_W H (n := n) rfl (by omega)
  have hH : s_h (e_B (k34_f [a0, Int32.ofNat 12, Int32.ofNat k, a3, a4, a5] n v) 64 k34_12_D) k34_12_hs = s_h (k34_B v) k34_12_hs := e_hc (k34_ag (by decide)) k34_12_hsk
  have p12 := m_pople n (by omega)
  by_cases hp : nb_pop 12 n = k
  · have hm := k34_12_rt n hn (by omega)
    have hD : nb_D 12 k 0 n = 2 ^ nb_A 12 n := if_pos hp
    have hA : nb_A 12 n < 4096 := Nat.lt_of_lt_of_le (nb_E_lt _ _ _ _) (by decide)
    refine ⟨k34_12_v (e_B (k34_f [a0, Int32.ofNat 12, Int32.ofNat k, a3, a4, a5] n v) 64 k34_12_D), fun r kk => ?_⟩
    rw [hD] at kk
    have F1 : ∀ f ∈ (((23, .retAddr 16, .int 4096, .int 0) :: (21, .retAddr 78, .retAddr 12, .int 0) :: (21, .retAddr 305, .retAddr 209, .int 0) :: k34_12_D) : List c_F), c_hold (e_B (k34_f [a0, Int32.ofNat 12, Int32.ofNat k, a3, a4, a5] n v) 64 k34_12_D) f := (List.forall_mem_cons.mpr ⟨o_ge (i := n) (s := 4096) rfl rfl (by omega) (by decide) (by omega), (List.forall_mem_cons.mpr ⟨o_neE (congrArg some V0) rfl hp, (List.forall_mem_cons.mpr ⟨o_neE (congrArg some V2) (congrArg some V1) hm, H⟩)⟩)⟩)
    have F2 : ∀ f ∈ ([(0, .retAddr 16, .int 1, .retAddr 17)] : List c_F), c_hold (e_B (k34_f [a0, Int32.ofNat 12, Int32.ofNat k, a3, a4, a5] n v) 64 k34_12_D) f := (List.forall_mem_cons.mpr ⟨o_inc (i := n) rfl rfl, (fun _ h => nomatch h)⟩)
    have hc : c_callee c_m35 87 [.int ((e_B (k34_f [a0, Int32.ofNat 12, Int32.ofNat k, a3, a4, a5] n v) 64 k34_12_D).2 329), .ref 39] (s_h (e_B (k34_f [a0, Int32.ofNat 12, Int32.ofNat k, a3, a4, a5] n v) 64 k34_12_D) k34_12_hs1) = some (149, [some (.ref 39), some (.int ((e_B (k34_f [a0, Int32.ofNat 12, Int32.ofNat k, a3, a4, a5] n v) 64 k34_12_D).2 329)), none], []) := c_callee_s k34_12_ce
    have hq := q_put (X := [a0, Int32.ofNat 12, Int32.ofNat k, a3, a4, a5]) (S := S) hA (k34_12_39 (e_B (k34_f [a0, Int32.ofNat 12, Int32.ofNat k, a3, a4, a5] n v) 64 k34_12_D)) (by rw [s_lenH]; decide)
    refine q_pre k34_hx F1 k34_12_h rfl rfl rfl rfl rfl hH rfl ?_
    refine c_Run.call (mz := c_m149) (v := none) (h1 := (s_h (e_B (k34_f [a0, Int32.ofNat 12, Int32.ofNat k, a3, a4, a5] n v) 64 k34_12_D) k34_12_hs1).set 40 (w_c (S ||| 2 ^ nb_A 12 n))) (c_callee_p (s_nth_none rfl) hc) rfl ?_ (q_pre k34_hx F2 k34_12_n rfl rfl rfl rfl rfl rfl (k34_12_h1 _) kk)
    rw [V3]
    exact hq
  · have hD : nb_D 12 k 0 n = 0 := if_neg hp
    refine ⟨v, fun r kk => ?_⟩
    rw [hD, Nat.or_zero] at kk
    have F1 : ∀ f ∈ (((23, .retAddr 16, .int 4096, .int 0) :: (0, .retAddr 16, .int 1, .retAddr 17) :: (21, .retAddr 78, .retAddr 12, .int 1) :: k34_12_D) : List c_F), c_hold (e_B (k34_f [a0, Int32.ofNat 12, Int32.ofNat k, a3, a4, a5] n v) 64 k34_12_D) f := (List.forall_mem_cons.mpr ⟨o_ge (i := n) (s := 4096) rfl rfl (by omega) (by decide) (by omega), (List.forall_mem_cons.mpr ⟨o_inc (i := n) rfl rfl, (List.forall_mem_cons.mpr ⟨o_neN (congrArg some V0) rfl (by omega) (by omega) hp, H⟩)⟩)⟩)
    exact q_pre k34_hx F1 k34_12_m rfl rfl rfl rfl rfl hH hH kk
theorem k34_12_cl {a0 a3 a4 a5 : Int32} {k : Nat} (hk : 2 * k < 12) : ∀ j n, n + j = 4096 → ∀ v : Nat → Int32, ∃ v2 : Nat → Int32, ∀ r, c_T [a0, Int32.ofNat 12, Int32.ofNat k, a3, a4, a5] c_m35 41 [some (.ref 0), some (.int 12), some (.int (Int32.ofNat k)), some (.int (Int32.ofNat 4096))] [] ((s_h (k34_B v2) k34_12_hs).set 40 (w_c (nb_S 12 k 4096))) r → c_T [a0, Int32.ofNat 12, Int32.ofNat k, a3, a4, a5] c_m35 41 [some (.ref 0), some (.int 12), some (.int (Int32.ofNat k)), some (.int (Int32.ofNat n))] [] ((s_h (k34_B v) k34_12_hs).set 40 (w_c (nb_S 12 k n))) r
  | 0, n, e, v => by
    have e0 : n = 4096 := by omega
    subst e0
    exact ⟨v, fun r k => k⟩
  | j + 1, n, e, v => by
    obtain ⟨v1, h1⟩ := k34_12_c (a0 := a0) (a3 := a3) (a4 := a4) (a5 := a5) (n := n) (S := nb_S 12 k n) hk (by omega) v
    obtain ⟨v2, h2⟩ := k34_12_cl (a0 := a0) (a3 := a3) (a4 := a4) (a5 := a5) hk j (n + 1) (by omega) v1
    exact ⟨v2, fun r k => h1 r (h2 r k)⟩
theorem k34_12_m0 : c_pre (((23, .retAddr 16, .int 4096, .int 0) :: (0, .retAddr 16, .int 1, .retAddr 17) :: (21, .retAddr 78, .retAddr 12, .int 1) :: k34_12_D), x_xs) 103 c_m130 11 71 [some (.ref 58), some (.int 12), some (.retAddr 12), some (.ref 77), some (.ref 78), some (.retAddr 16), none, none, none, none] [] k34_12_rs0 = some (71, [some (.ref 58), some (.int 12), some (.retAddr 12), some (.ref 77), some (.ref 78), some (.retAddr 17), none, none, none, none], [], k34_12_rs0) := c_eqR_ok (by decide +kernel)
theorem k34_12_m1 : c_pre (((23, .retAddr 16, .int 4096, .int 0) :: (0, .retAddr 16, .int 1, .retAddr 17) :: (21, .retAddr 78, .retAddr 12, .int 1) :: k34_12_D), x_xs) 103 c_m130 11 71 [some (.ref 58), some (.int 12), some (.retAddr 12), some (.ref 77), some (.ref 78), some (.retAddr 16), some (.retAddr 61), some (.ref 80), some (.retAddr 62), none] [] k34_12_rs1 = some (71, [some (.ref 58), some (.int 12), some (.retAddr 12), some (.ref 77), some (.ref 78), some (.retAddr 17), some (.retAddr 61), some (.ref 80), some (.retAddr 62), none], [], k34_12_rs1) := c_eqR_ok (by decide +kernel)
theorem k34_12_a0 : c_pre (((23, .retAddr 16, .int 4096, .int 0) :: (21, .retAddr 78, .retAddr 12, .int 0) :: k34_12_D), x_xs) 1927 c_m130 35 71 [some (.ref 58), some (.int 12), some (.retAddr 12), some (.ref 77), some (.ref 78), some (.retAddr 16), none, none, none, none] [] k34_12_rs0 = some (136, [some (.ref 58), some (.int 12), some (.retAddr 12), some (.ref 77), some (.ref 78), some (.retAddr 16), some (.retAddr 209), some (.ref 80), some (.retAddr 305), none], [.retAddr 352, .ref 77, .retAddr 352, .ref 77], k34_12_ra0) := c_eqR_ok (by decide +kernel)
theorem k34_12_a1 : c_pre (((23, .retAddr 16, .int 4096, .int 0) :: (21, .retAddr 78, .retAddr 12, .int 0) :: k34_12_D), x_xs) 1927 c_m130 35 71 [some (.ref 58), some (.int 12), some (.retAddr 12), some (.ref 77), some (.ref 78), some (.retAddr 16), some (.retAddr 61), some (.ref 80), some (.retAddr 62), none] [] k34_12_rs1 = some (136, [some (.ref 58), some (.int 12), some (.retAddr 12), some (.ref 77), some (.ref 78), some (.retAddr 16), some (.retAddr 209), some (.ref 82), some (.retAddr 305), none], [.retAddr 352, .ref 77, .retAddr 352, .ref 77], k34_12_rs1a) := c_eqR_ok (by decide +kernel)
theorem k34_12_b0 : c_pre ([(21, .retAddr 305, .retAddr 209, .int 0), (4, .retAddr 63, .int 1, .int 1)], x_xs) 50 c_m130 6 137 [some (.ref 58), some (.int 12), some (.retAddr 12), some (.ref 77), some (.ref 78), some (.retAddr 16), some (.retAddr 209), some (.ref 80), some (.retAddr 305), none] [.retAddr 63, .retAddr 352, .ref 77] k34_12_ra0 = some (150, [some (.ref 58), some (.int 12), some (.retAddr 12), some (.ref 77), some (.ref 78), some (.retAddr 16), some (.retAddr 209), some (.ref 80), some (.retAddr 305), none], [.int 1, .retAddr 352, .ref 77], k34_12_ra0) := c_eqR_ok (by decide +kernel)
theorem k34_12_b1 : c_pre ([(21, .retAddr 305, .retAddr 209, .int 0), (4, .retAddr 63, .int 1, .int 1)], x_xs) 50 c_m130 6 137 [some (.ref 58), some (.int 12), some (.retAddr 12), some (.ref 77), some (.ref 78), some (.retAddr 16), some (.retAddr 209), some (.ref 82), some (.retAddr 305), none] [.retAddr 63, .retAddr 352, .ref 77] k34_12_rs1a = some (150, [some (.ref 58), some (.int 12), some (.retAddr 12), some (.ref 77), some (.ref 78), some (.retAddr 16), some (.retAddr 209), some (.ref 82), some (.retAddr 305), none], [.int 1, .retAddr 352, .ref 77], k34_12_rs1a) := c_eqR_ok (by decide +kernel)
theorem k34_12_c0 : c_pre ([(0, .retAddr 16, .int 1, .retAddr 17)], x_xs) 50 c_m130 2 151 [some (.ref 58), some (.int 12), some (.retAddr 12), some (.ref 77), some (.ref 78), some (.retAddr 16), some (.retAddr 209), some (.ref 80), some (.retAddr 305), none] [] k34_12_ra0 = some (71, [some (.ref 58), some (.int 12), some (.retAddr 12), some (.ref 77), some (.ref 78), some (.retAddr 17), some (.retAddr 209), some (.ref 80), some (.retAddr 305), none], [], k34_12_ra0) := c_eqR_ok (by decide +kernel)
theorem k34_12_c1 : c_pre ([(0, .retAddr 16, .int 1, .retAddr 17)], x_xs) 50 c_m130 2 151 [some (.ref 58), some (.int 12), some (.retAddr 12), some (.ref 77), some (.ref 78), some (.retAddr 16), some (.retAddr 209), some (.ref 82), some (.retAddr 305), none] [] k34_12_rs1a = some (71, [some (.ref 58), some (.int 12), some (.retAddr 12), some (.ref 77), some (.ref 78), some (.retAddr 17), some (.retAddr 209), some (.ref 82), some (.retAddr 305), none], [], k34_12_rs1a) := c_eqR_ok (by decide +kernel)
def k34_12_q2 : Nat → Value := fun i => ([.retAddr 18, .retAddr 19, .retAddr 20, .retAddr 21, .retAddr 22, .retAddr 23, .retAddr 24, .retAddr 25, .retAddr 26, .retAddr 27, .retAddr 28, .retAddr 29, .retAddr 30, .retAddr 31, .retAddr 32, .retAddr 33, .retAddr 306, .retAddr 35, .retAddr 108, .retAddr 117, .retAddr 126, .retAddr 135, .retAddr 144, .retAddr 153, .retAddr 162, .retAddr 171, .retAddr 180, .retAddr 189, .retAddr 198, .retAddr 207, .retAddr 215, .retAddr 223, .retAddr 231, .retAddr 239, .retAddr 247, .retAddr 255, .retAddr 263, .retAddr 271, .retAddr 279, .retAddr 287, .retAddr 295, .retAddr 303, .retAddr 60, .retAddr 209, .retAddr 305, .retAddr 63][i - 18]?).getD (.retAddr i)
def k34_12_vr (B : c_B) : Nat → Int32 := z_f B k34_12_q2
theorem k34_12_r1 (B : c_B) : s_h B k34_12_rs0a = s_h (k34_B (k34_12_vr B)) k34_12_rs0 := z_h B k34_12_q2 (by decide +kernel) (by decide +kernel)
theorem k34_12_r2 (B : c_B) : s_h B k34_12_nw = s_h (k34_B (k34_12_vr B)) k34_12_lv := z_h B k34_12_q2 (by decide +kernel) (by decide +kernel)
theorem k34_12_tl (B : c_B) : m_told (s_h B k34_12_lv) := fun _ => rfl
theorem k34_12_rs0g (d : Nat) : k34_12_rs0.map (g_c 79 d) = k34_12_rs0 := rfl
theorem k34_12_rs0ag (d : Nat) : k34_12_rs0a.map (g_c 79 d) = k34_12_rs0a := rfl
theorem k34_12_lvg (d : Nat) : k34_12_lv.map (g_c 79 d) = k34_12_lv := rfl
theorem k34_12_nwg (d : Nat) : k34_12_nw.map (g_c 79 d) = k34_12_nw := rfl
theorem k34_12_g0 (B : c_B) : s_h B (g_h 79 [] k34_12_rs0) = s_h B k34_12_rs0 := by
  rw [show k34_12_rs0 = k34_12_rs0 ++ [] from (List.append_nil _).symm, g_h_s (show k34_12_rs0.length = 79 from rfl), k34_12_rs0g]
  rfl
theorem k34_12_g0a (B : c_B) : s_h B (g_h 79 [] k34_12_ra0) = s_h (k34_B (k34_12_vr B)) k34_12_rs0 ++ s_h (k34_B (k34_12_vr B)) k34_12_lv := by
  rw [show k34_12_ra0 = k34_12_rs0a ++ k34_12_nw from rfl, g_h_s (show k34_12_rs0a.length = 79 from rfl), k34_12_rs0ag, k34_12_nwg, List.nil_append, m_app, k34_12_r1, k34_12_r2]
theorem k34_12_g1 (B : c_B) {G : c_Hp} (hG : m_told G) : s_h B (g_h 79 G k34_12_rs1) = s_h B k34_12_rs0 ++ (G ++ s_h B k34_12_lv) := by
  rw [show k34_12_rs1 = k34_12_rs0 ++ k34_12_lv from rfl, g_h_s (show k34_12_rs0.length = 79 from rfl), k34_12_rs0g, k34_12_lvg, m_app, m_app, hG B]
theorem k34_12_g1a (B : c_B) {G : c_Hp} (hG : m_told G) : s_h B (g_h 79 G k34_12_rs1a) = s_h (k34_B (k34_12_vr B)) k34_12_rs0 ++ ((G ++ s_h B k34_12_lv) ++ s_h (k34_B (k34_12_vr B)) k34_12_lv) := by
  have e : k34_12_rs1a = k34_12_rs0a ++ (k34_12_lv ++ k34_12_nw) := rfl
  rw [e, g_h_s (show k34_12_rs0a.length = 79 from rfl), k34_12_rs0ag, List.map_append, k34_12_lvg, k34_12_nwg, m_app, m_app, m_app, hG B, k34_12_r1, k34_12_r2, List.append_assoc]
theorem k34_12_R1 {a0 a3 a4 a5 : Int32} {k n S : Nat} {u : c_Cell} (hk : 2 * k < 12) (hn : n < 4096) (v : Nat → Int32) (G : c_Hp) (hG : m_told G) : ∃ (v2 : Nat → Int32) (G2 : c_Hp), m_told G2 ∧ G2.length ≤ G.length + 2 ∧ c_msz G2 ≤ c_msz G + 24 ∧ v2 35 = v 35 ∧ ∀ r, c_T [a0, Int32.ofNat 12, Int32.ofNat k, a3, a4, a5] c_m130 71 [some (.ref 58), some (.int 12), some (.int (Int32.ofNat k)), some (.ref 77), some (.ref 78), some (.int (Int32.ofNat (n + 1))), some (.int (v2 61)), some (.ref (80 + (G2).length)), some (.int (v2 62)), none] [] (((s_h (k34_B v2) k34_12_rs0 ++ (G2 ++ s_h (k34_B v2) k34_12_lv)).set 40 u).set 77 (b_c 4096 (S ||| nb_D 12 k 0 n))) r → c_T [a0, Int32.ofNat 12, Int32.ofNat k, a3, a4, a5] c_m130 71 [some (.ref 58), some (.int 12), some (.int (Int32.ofNat k)), some (.ref 77), some (.ref 78), some (.int (Int32.ofNat n)), some (.int (v 61)), some (.ref (80 + (G).length)), some (.int (v 62)), none] [] (((s_h (k34_B v) k34_12_rs0 ++ (G ++ s_h (k34_B v) k34_12_lv)).set 40 u).set 77 (b_c 4096 (S))) r := by
  let z : Int32 := if S.testBit (nb_A 12 n) then 1 else 0
  let w : Nat → Int32 := fun i => if i = 63 then z else v i
  have hw : ∀ i, i < 60 → w i = v i := fun i h => by show (if i = 63 then z else v i) = v i; rw [if_neg (by omega)]
  have H := e_Bf (f := k34_f [a0, Int32.ofNat 12, Int32.ofNat k, a3, a4, a5] n w) (n0 := 64) (D := k34_12_D) (by decide) k34_12_ok
  obtain ⟨V0, V1, V2, V3, V4⟩ := k34_12_W H (n := n) rfl (by omega)
  have hg : ∀ i, 18 ≤ i → i < 60 → (e_B (k34_f [a0, Int32.ofNat 12, Int32.ofNat k, a3, a4, a5] n w) 64 k34_12_D).2 i = (k34_B v).2 i := fun i h1 h2 => (k34_ag (hi := 60) (by decide) i h1 h2).trans (hw i h2)
  have hH : s_h (e_B (k34_f [a0, Int32.ofNat 12, Int32.ofNat k, a3, a4, a5] n w) 64 k34_12_D) k34_12_rs0 = s_h (k34_B v) k34_12_rs0 := e_hc hg k34_12_rsk
  have hL : s_h (e_B (k34_f [a0, Int32.ofNat 12, Int32.ofNat k, a3, a4, a5] n w) 64 k34_12_D) k34_12_lv = s_h (k34_B v) k34_12_lv := e_hc hg k34_12_lvk
  have p12 := m_pople n (by omega)
  have hA : nb_A 12 n < 4096 := nb_E_lt _ _ _ _
  have a1 := k34_12_g1 (e_B (k34_f [a0, Int32.ofNat 12, Int32.ofNat k, a3, a4, a5] n w) 64 k34_12_D) hG
  rw [hH, hL] at a1
  by_cases hp : nb_pop 12 n = k
  ·
    have hm := k34_12_rt n hn (by omega)
    have hD : nb_D 12 k 0 n = 2 ^ nb_A 12 n := if_pos hp
    have hz : c_hold (e_B (k34_f [a0, Int32.ofNat 12, Int32.ofNat k, a3, a4, a5] n w) 64 k34_12_D) (4, .retAddr 63, .int 1, .int 1) := ⟨z, 1, 1, rfl, rfl, (by show some (z ||| 1) = some 1; show some ((if S.testBit (nb_A 12 n) then (1 : Int32) else 0) ||| 1) = some 1; cases S.testBit (nb_A 12 n) <;> decide), rfl⟩
    have F1 : ∀ f ∈ (((23, .retAddr 16, .int 4096, .int 0) :: (21, .retAddr 78, .retAddr 12, .int 0) :: k34_12_D) : List c_F), c_hold (e_B (k34_f [a0, Int32.ofNat 12, Int32.ofNat k, a3, a4, a5] n w) 64 k34_12_D) f := (List.forall_mem_cons.mpr ⟨o_ge (i := n) (s := 4096) rfl rfl (by omega) (by decide) (by omega), (List.forall_mem_cons.mpr ⟨o_neE (congrArg some V0) rfl hp, H⟩)⟩)
    have F2 : ∀ f ∈ ([(21, .retAddr 305, .retAddr 209, .int 0), (4, .retAddr 63, .int 1, .int 1)] : List c_F), c_hold (e_B (k34_f [a0, Int32.ofNat 12, Int32.ofNat k, a3, a4, a5] n w) 64 k34_12_D) f := (List.forall_mem_cons.mpr ⟨o_neE (congrArg some V2) (congrArg some V1) hm, (List.forall_mem_cons.mpr ⟨hz, (fun _ h => nomatch h)⟩)⟩)
    have F3 : ∀ f ∈ ([(0, .retAddr 16, .int 1, .retAddr 17)] : List c_F), c_hold (e_B (k34_f [a0, Int32.ofNat 12, Int32.ofNat k, a3, a4, a5] n w) 64 k34_12_D) f := (List.forall_mem_cons.mpr ⟨o_inc (i := n) rfl rfl, (fun _ h => nomatch h)⟩)
    have a2 := k34_12_g1a (e_B (k34_f [a0, Int32.ofNat 12, Int32.ofNat k, a3, a4, a5] n w) 64 k34_12_D) hG
    rw [hL] at a2
    refine ⟨k34_12_vr (e_B (k34_f [a0, Int32.ofNat 12, Int32.ofNat k, a3, a4, a5] n w) 64 k34_12_D), G ++ s_h (k34_B v) k34_12_lv, fun B3 => by rw [m_app, hG B3, k34_12_tl _ B3], by rw [List.length_append, s_lenH]; exact Nat.le_refl _, by rw [m_szapp, m_szs]; exact Nat.le_refl _, rfl, fun r kk => ?_⟩
    rw [hD] at kk
    have hl : 77 < ((s_h (e_B (k34_f [a0, Int32.ofNat 12, Int32.ofNat k, a3, a4, a5] n w) 64 k34_12_D) (g_h 79 G k34_12_rs1a)).set 40 u).length := by
      rw [List.length_set, s_lenH, g_lenH (by decide)]
      exact Nat.lt_of_lt_of_le (by decide : 77 < k34_12_rs1a.length) (Nat.le_add_right _ _)
    have e82 : g_p 79 G.length 82 = 80 + (G ++ s_h (k34_B v) k34_12_lv).length := by
      rw [List.length_append, s_lenH]
      unfold g_p
      rw [if_neg (by decide), show k34_12_lv.length = 2 from rfl]
      omega
    refine q_preg (i := 40) (j := 77) (G := G) (n := 79) (K := [some (.ref 58), some (.int 12), some (.int (Int32.ofNat k)), some (.ref 77), some (.ref 78), some (.int (Int32.ofNat n)), some (.int (v 61)), some (.ref (80 + (G).length)), some (.int (v 62)), none]) k34_hx F1 k34_12_a1 (by decide) (by decide) (by decide) (by decide) rfl rfl ?_ rfl rfl rfl a1 rfl ?_
    · show [some (Value.ref 58), some (.int 12), some (.int (Int32.ofNat k)), some (.ref 77), some (.ref 78), some (.int (Int32.ofNat n)), some (.int (w 61)), some (.ref (g_p 79 G.length 80)), some (.int (w 62)), none] = _
      rw [show g_p 79 G.length 80 = 80 + G.length from by unfold g_p; rw [if_neg (by decide)]]
      rfl
    · show c_T _ _ _ _ [.int ((e_B (k34_f [a0, Int32.ofNat 12, Int32.ofNat k, a3, a4, a5] n w) 64 k34_12_D).2 352), .ref 77, .int ((e_B (k34_f [a0, Int32.ofNat 12, Int32.ofNat k, a3, a4, a5] n w) 64 k34_12_D).2 352), .ref 77] _ _
      rw [V4]
      refine q_bald (p1 := 0) (p2 := 0) (p3 := 0) (by decide +kernel) rfl hl hA (by decide) ?_
      have kb : c_T [a0, Int32.ofNat 12, Int32.ofNat k, a3, a4, a5] c_m130 137 (s_L (e_B (k34_f [a0, Int32.ofNat 12, Int32.ofNat k, a3, a4, a5] n w) 64 k34_12_D) (g_L 79 G.length [some (.ref 58), some (.int 12), some (.retAddr 12), some (.ref 77), some (.ref 78), some (.retAddr 16), some (.retAddr 209), some (.ref 82), some (.retAddr 305), none])) (s_st (e_B (k34_f [a0, Int32.ofNat 12, Int32.ofNat k, a3, a4, a5] n w) 64 k34_12_D) (g_st 79 G.length [.retAddr 63, .retAddr 352, .ref 77])) (((s_h (e_B (k34_f [a0, Int32.ofNat 12, Int32.ofNat k, a3, a4, a5] n w) 64 k34_12_D) (g_h 79 G k34_12_rs1a)).set 40 u).set 77 (b_c 4096 S)) r := by
        refine q_preg (i := 40) (j := 77) (G := G) (n := 79) k34_hx F2 k34_12_b1 (by decide) (by decide) (by decide) (by decide) rfl rfl rfl rfl rfl rfl rfl rfl ?_
        show c_T _ _ _ _ [.int 1, .int ((e_B (k34_f [a0, Int32.ofNat 12, Int32.ofNat k, a3, a4, a5] n w) 64 k34_12_D).2 352), .ref 77] _ _
        rw [V4]
        refine q_bast (p1 := 0) (p2 := 0) (p3 := 0) (by decide +kernel) rfl hl hA (by decide) ?_
        refine q_preg (i := 40) (j := 77) (G := G) (n := 79) (K1 := [some (.ref 58), some (.int 12), some (.int (Int32.ofNat k)), some (.ref 77), some (.ref 78), some (.int (Int32.ofNat (n + 1))), some (.int (k34_12_vr (e_B (k34_f [a0, Int32.ofNat 12, Int32.ofNat k, a3, a4, a5] n w) 64 k34_12_D) 61)), some (.ref (80 + (G ++ s_h (k34_B v) k34_12_lv).length)), some (.int (k34_12_vr (e_B (k34_f [a0, Int32.ofNat 12, Int32.ofNat k, a3, a4, a5] n w) 64 k34_12_D) 62)), none]) k34_hx F3 k34_12_c1 (by decide) (by decide) (by decide) (by decide) rfl rfl rfl ?_ rfl rfl rfl a2 kk
        rw [← e82]
        rfl
      have e9 : s_st (e_B (k34_f [a0, Int32.ofNat 12, Int32.ofNat k, a3, a4, a5] n w) 64 k34_12_D) (g_st 79 G.length [.retAddr 63, .retAddr 352, .ref 77]) = [.int (if S.testBit (nb_A 12 n) then 1 else 0), .int (Int32.ofNat (nb_A 12 n)), .ref 77] := by
        show [Value.int z, .int ((e_B (k34_f [a0, Int32.ofNat 12, Int32.ofNat k, a3, a4, a5] n w) 64 k34_12_D).2 352), .ref 77] = _
        rw [V4]
      rw [e9] at kb
      exact kb
  · have hD : nb_D 12 k 0 n = 0 := if_neg hp
    refine ⟨v, G, hG, Nat.le_add_right _ _, Nat.le_add_right _ _, rfl, fun r kk => ?_⟩
    rw [hD, Nat.or_zero] at kk
    have F1 : ∀ f ∈ (((23, .retAddr 16, .int 4096, .int 0) :: (0, .retAddr 16, .int 1, .retAddr 17) :: (21, .retAddr 78, .retAddr 12, .int 1) :: k34_12_D) : List c_F), c_hold (e_B (k34_f [a0, Int32.ofNat 12, Int32.ofNat k, a3, a4, a5] n w) 64 k34_12_D) f := (List.forall_mem_cons.mpr ⟨o_ge (i := n) (s := 4096) rfl rfl (by omega) (by decide) (by omega), (List.forall_mem_cons.mpr ⟨o_inc (i := n) rfl rfl, (List.forall_mem_cons.mpr ⟨o_neN (congrArg some V0) rfl (by omega) (by omega) hp, H⟩)⟩)⟩)
    have e80 : g_p 79 G.length 80 = 80 + G.length := by unfold g_p; rw [if_neg (by decide)]
    refine q_preg (i := 40) (j := 77) (G := G) (n := 79) (K := [some (.ref 58), some (.int 12), some (.int (Int32.ofNat k)), some (.ref 77), some (.ref 78), some (.int (Int32.ofNat n)), some (.int (v 61)), some (.ref (80 + (G).length)), some (.int (v 62)), none]) (K1 := [some (.ref 58), some (.int 12), some (.int (Int32.ofNat k)), some (.ref 77), some (.ref 78), some (.int (Int32.ofNat (n + 1))), some (.int (v 61)), some (.ref (80 + (G).length)), some (.int (v 62)), none]) k34_hx F1 k34_12_m1 (by decide) (by decide) (by decide) (by decide) rfl rfl ?_ ?_ rfl rfl a1 a1 kk
    · rw [← e80]
      rfl
    · rw [← e80]
      rfl
theorem k34_12_R0 {a0 a3 a4 a5 : Int32} {k n S : Nat} {u : c_Cell} (hk : 2 * k < 12) (hn : n < 4096) (v : Nat → Int32) : (nb_pop 12 n = k → ∃ v2 : Nat → Int32, v2 35 = v 35 ∧ ∀ r, c_T [a0, Int32.ofNat 12, Int32.ofNat k, a3, a4, a5] c_m130 71 [some (.ref 58), some (.int 12), some (.int (Int32.ofNat k)), some (.ref 77), some (.ref 78), some (.int (Int32.ofNat (n + 1))), some (.int (v2 61)), some (.ref (80 + (([] : c_Hp)).length)), some (.int (v2 62)), none] [] (((s_h (k34_B v2) k34_12_rs0 ++ s_h (k34_B v2) k34_12_lv).set 40 u).set 77 (b_c 4096 (S ||| nb_D 12 k 0 n))) r → c_T [a0, Int32.ofNat 12, Int32.ofNat k, a3, a4, a5] c_m130 71 [some (.ref 58), some (.int 12), some (.int (Int32.ofNat k)), some (.ref 77), some (.ref 78), some (.int (Int32.ofNat n)), none, none, none, none] [] (((s_h (k34_B v) k34_12_rs0).set 40 u).set 77 (b_c 4096 (S))) r) ∧ (nb_pop 12 n ≠ k → ∀ r, c_T [a0, Int32.ofNat 12, Int32.ofNat k, a3, a4, a5] c_m130 71 [some (.ref 58), some (.int 12), some (.int (Int32.ofNat k)), some (.ref 77), some (.ref 78), some (.int (Int32.ofNat (n + 1))), none, none, none, none] [] (((s_h (k34_B v) k34_12_rs0).set 40 u).set 77 (b_c 4096 (S))) r → c_T [a0, Int32.ofNat 12, Int32.ofNat k, a3, a4, a5] c_m130 71 [some (.ref 58), some (.int 12), some (.int (Int32.ofNat k)), some (.ref 77), some (.ref 78), some (.int (Int32.ofNat n)), none, none, none, none] [] (((s_h (k34_B v) k34_12_rs0).set 40 u).set 77 (b_c 4096 (S))) r) := by
  let z : Int32 := if S.testBit (nb_A 12 n) then 1 else 0
  let w : Nat → Int32 := fun i => if i = 63 then z else v i
  have hw : ∀ i, i < 60 → w i = v i := fun i h => by show (if i = 63 then z else v i) = v i; rw [if_neg (by omega)]
  have H := e_Bf (f := k34_f [a0, Int32.ofNat 12, Int32.ofNat k, a3, a4, a5] n w) (n0 := 64) (D := k34_12_D) (by decide) k34_12_ok
  obtain ⟨V0, V1, V2, V3, V4⟩ := k34_12_W H (n := n) rfl (by omega)
  have hg : ∀ i, 18 ≤ i → i < 60 → (e_B (k34_f [a0, Int32.ofNat 12, Int32.ofNat k, a3, a4, a5] n w) 64 k34_12_D).2 i = (k34_B v).2 i := fun i h1 h2 => (k34_ag (hi := 60) (by decide) i h1 h2).trans (hw i h2)
  have hH : s_h (e_B (k34_f [a0, Int32.ofNat 12, Int32.ofNat k, a3, a4, a5] n w) 64 k34_12_D) k34_12_rs0 = s_h (k34_B v) k34_12_rs0 := e_hc hg k34_12_rsk
  have hL : s_h (e_B (k34_f [a0, Int32.ofNat 12, Int32.ofNat k, a3, a4, a5] n w) 64 k34_12_D) k34_12_lv = s_h (k34_B v) k34_12_lv := e_hc hg k34_12_lvk
  have p12 := m_pople n (by omega)
  have hA : nb_A 12 n < 4096 := nb_E_lt _ _ _ _
  have a1 := k34_12_g0 (e_B (k34_f [a0, Int32.ofNat 12, Int32.ofNat k, a3, a4, a5] n w) 64 k34_12_D)
  rw [hH] at a1
  refine ⟨fun hp => ?_, fun hp r kk => ?_⟩
  ·
    have hm := k34_12_rt n hn (by omega)
    have hD : nb_D 12 k 0 n = 2 ^ nb_A 12 n := if_pos hp
    have hz : c_hold (e_B (k34_f [a0, Int32.ofNat 12, Int32.ofNat k, a3, a4, a5] n w) 64 k34_12_D) (4, .retAddr 63, .int 1, .int 1) := ⟨z, 1, 1, rfl, rfl, (by show some (z ||| 1) = some 1; show some ((if S.testBit (nb_A 12 n) then (1 : Int32) else 0) ||| 1) = some 1; cases S.testBit (nb_A 12 n) <;> decide), rfl⟩
    have F1 : ∀ f ∈ (((23, .retAddr 16, .int 4096, .int 0) :: (21, .retAddr 78, .retAddr 12, .int 0) :: k34_12_D) : List c_F), c_hold (e_B (k34_f [a0, Int32.ofNat 12, Int32.ofNat k, a3, a4, a5] n w) 64 k34_12_D) f := (List.forall_mem_cons.mpr ⟨o_ge (i := n) (s := 4096) rfl rfl (by omega) (by decide) (by omega), (List.forall_mem_cons.mpr ⟨o_neE (congrArg some V0) rfl hp, H⟩)⟩)
    have F2 : ∀ f ∈ ([(21, .retAddr 305, .retAddr 209, .int 0), (4, .retAddr 63, .int 1, .int 1)] : List c_F), c_hold (e_B (k34_f [a0, Int32.ofNat 12, Int32.ofNat k, a3, a4, a5] n w) 64 k34_12_D) f := (List.forall_mem_cons.mpr ⟨o_neE (congrArg some V2) (congrArg some V1) hm, (List.forall_mem_cons.mpr ⟨hz, (fun _ h => nomatch h)⟩)⟩)
    have F3 : ∀ f ∈ ([(0, .retAddr 16, .int 1, .retAddr 17)] : List c_F), c_hold (e_B (k34_f [a0, Int32.ofNat 12, Int32.ofNat k, a3, a4, a5] n w) 64 k34_12_D) f := (List.forall_mem_cons.mpr ⟨o_inc (i := n) rfl rfl, (fun _ h => nomatch h)⟩)
    have a2 := k34_12_g0a (e_B (k34_f [a0, Int32.ofNat 12, Int32.ofNat k, a3, a4, a5] n w) 64 k34_12_D)
    refine ⟨k34_12_vr (e_B (k34_f [a0, Int32.ofNat 12, Int32.ofNat k, a3, a4, a5] n w) 64 k34_12_D), rfl, fun r kk => ?_⟩
    rw [hD] at kk
    have hl : 77 < ((s_h (e_B (k34_f [a0, Int32.ofNat 12, Int32.ofNat k, a3, a4, a5] n w) 64 k34_12_D) (g_h 79 [] k34_12_ra0)).set 40 u).length := by
      rw [List.length_set, s_lenH, g_lenH (by decide)]
      exact Nat.lt_of_lt_of_le (by decide : 77 < k34_12_ra0.length) (Nat.le_add_right _ _)
    refine q_preg (i := 40) (j := 77) (G := []) (n := 79) k34_hx F1 k34_12_a0 (by decide) (by decide) (by decide) (by decide) rfl rfl rfl rfl rfl rfl a1 rfl ?_
    show c_T _ _ _ _ [.int ((e_B (k34_f [a0, Int32.ofNat 12, Int32.ofNat k, a3, a4, a5] n w) 64 k34_12_D).2 352), .ref 77, .int ((e_B (k34_f [a0, Int32.ofNat 12, Int32.ofNat k, a3, a4, a5] n w) 64 k34_12_D).2 352), .ref 77] _ _
    rw [V4]
    refine q_bald (p1 := 0) (p2 := 0) (p3 := 0) (by decide +kernel) rfl hl hA (by decide) ?_
    have kb : c_T [a0, Int32.ofNat 12, Int32.ofNat k, a3, a4, a5] c_m130 137 (s_L (e_B (k34_f [a0, Int32.ofNat 12, Int32.ofNat k, a3, a4, a5] n w) 64 k34_12_D) (g_L 79 0 [some (.ref 58), some (.int 12), some (.retAddr 12), some (.ref 77), some (.ref 78), some (.retAddr 16), some (.retAddr 209), some (.ref 80), some (.retAddr 305), none])) (s_st (e_B (k34_f [a0, Int32.ofNat 12, Int32.ofNat k, a3, a4, a5] n w) 64 k34_12_D) (g_st 79 0 [.retAddr 63, .retAddr 352, .ref 77])) (((s_h (e_B (k34_f [a0, Int32.ofNat 12, Int32.ofNat k, a3, a4, a5] n w) 64 k34_12_D) (g_h 79 [] k34_12_ra0)).set 40 u).set 77 (b_c 4096 S)) r := by
      refine q_preg (i := 40) (j := 77) (G := []) (n := 79) k34_hx F2 k34_12_b0 (by decide) (by decide) (by decide) (by decide) rfl rfl rfl rfl rfl rfl rfl rfl ?_
      show c_T _ _ _ _ [.int 1, .int ((e_B (k34_f [a0, Int32.ofNat 12, Int32.ofNat k, a3, a4, a5] n w) 64 k34_12_D).2 352), .ref 77] _ _
      rw [V4]
      refine q_bast (p1 := 0) (p2 := 0) (p3 := 0) (by decide +kernel) rfl hl hA (by decide) ?_
      exact q_preg (i := 40) (j := 77) (G := []) (n := 79) k34_hx F3 k34_12_c0 (by decide) (by decide) (by decide) (by decide) rfl rfl rfl rfl rfl rfl rfl a2 kk
    have e9 : s_st (e_B (k34_f [a0, Int32.ofNat 12, Int32.ofNat k, a3, a4, a5] n w) 64 k34_12_D) (g_st 79 0 [.retAddr 63, .retAddr 352, .ref 77]) = [.int (if S.testBit (nb_A 12 n) then 1 else 0), .int (Int32.ofNat (nb_A 12 n)), .ref 77] := by
      show [Value.int z, .int ((e_B (k34_f [a0, Int32.ofNat 12, Int32.ofNat k, a3, a4, a5] n w) 64 k34_12_D).2 352), .ref 77] = _
      rw [V4]
    rw [e9] at kb
    exact kb
  · have F1 : ∀ f ∈ (((23, .retAddr 16, .int 4096, .int 0) :: (0, .retAddr 16, .int 1, .retAddr 17) :: (21, .retAddr 78, .retAddr 12, .int 1) :: k34_12_D) : List c_F), c_hold (e_B (k34_f [a0, Int32.ofNat 12, Int32.ofNat k, a3, a4, a5] n w) 64 k34_12_D) f := (List.forall_mem_cons.mpr ⟨o_ge (i := n) (s := 4096) rfl rfl (by omega) (by decide) (by omega), (List.forall_mem_cons.mpr ⟨o_inc (i := n) rfl rfl, (List.forall_mem_cons.mpr ⟨o_neN (congrArg some V0) rfl (by omega) (by omega) hp, H⟩)⟩)⟩)
    exact q_preg (i := 40) (j := 77) (G := []) (n := 79) k34_hx F1 k34_12_m0 (by decide) (by decide) (by decide) (by decide) rfl rfl rfl rfl rfl rfl a1 a1 kk
theorem k34_12_p : c_pre ([], x_xs) 50 c_m130 10 71 [some (.ref 58), some (.int 12), some (.retAddr 12), some (.ref 77), some (.ref 78), some (.int 4096), some (.retAddr 61), some (.ref 80), some (.retAddr 62), none] [] k34_12_rs1 = some (165, [some (.ref 58), some (.int 12), some (.retAddr 12), some (.ref 77), some (.ref 78), some (.int 0), some (.ref 77), some (.ref 80), some (.retAddr 62), none], [.ref 77], k34_12_rs1) := c_eqR_ok (by decide +kernel)
theorem k34_12_p2 : c_pre ([], x_xs) 50 c_m130 3 166 [some (.ref 58), some (.int 12), some (.retAddr 12), some (.ref 77), some (.ref 78), some (.int 0), some (.ref 77), some (.ref 80), some (.retAddr 62), none] [.int 4096] k34_12_rs1 = some (171, [some (.ref 58), some (.int 12), some (.retAddr 12), some (.ref 77), some (.ref 78), some (.int 0), some (.ref 77), some (.int 4096), some (.int 0), none], [], k34_12_rs1) := c_eqR_ok (by decide +kernel)
theorem k34_12_tx : c_pre ([(23, .retAddr 16, .int 4096, .int 0)], x_xs) 50 c_m130 5 171 [some (.ref 58), some (.int 12), some (.retAddr 12), some (.ref 77), some (.ref 78), some (.retAddr 60), some (.ref 77), some (.int 4096), some (.retAddr 16), none] [] k34_12_rs1 = some (182, [some (.ref 58), some (.int 12), some (.retAddr 12), some (.ref 77), some (.ref 78), some (.retAddr 60), some (.ref 77), some (.int 4096), some (.retAddr 16), none], [.retAddr 16, .ref 77], k34_12_rs1) := c_eqR_ok (by decide +kernel)
theorem k34_12_tx0 : c_pre ([(0, .retAddr 60, .int 0, .retAddr 60), (0, .retAddr 16, .int 1, .retAddr 17)], x_xs) 50 c_m130 9 183 [some (.ref 58), some (.int 12), some (.retAddr 12), some (.ref 77), some (.ref 78), some (.retAddr 60), some (.ref 77), some (.int 4096), some (.retAddr 16), none] [.int 0] k34_12_rs1 = some (171, [some (.ref 58), some (.int 12), some (.retAddr 12), some (.ref 77), some (.ref 78), some (.retAddr 60), some (.ref 77), some (.int 4096), some (.retAddr 17), some (.int 0)], [], k34_12_rs1) := c_eqR_ok (by decide +kernel)
theorem k34_12_tx1 : c_pre ([(0, .retAddr 60, .int 1, .retAddr 64), (0, .retAddr 16, .int 1, .retAddr 17)], x_xs) 50 c_m130 10 183 [some (.ref 58), some (.int 12), some (.retAddr 12), some (.ref 77), some (.ref 78), some (.retAddr 60), some (.ref 77), some (.int 4096), some (.retAddr 16), none] [.int 1] k34_12_rs1 = some (171, [some (.ref 58), some (.int 12), some (.retAddr 12), some (.ref 77), some (.ref 78), some (.retAddr 64), some (.ref 77), some (.int 4096), some (.retAddr 17), some (.int 1)], [], k34_12_rs1) := c_eqR_ok (by decide +kernel)
theorem k34_12_ty : c_pre ([(23, .retAddr 16, .int 4096, .int 0)], x_xs) 50 c_m130 5 171 [some (.ref 58), some (.int 12), some (.retAddr 12), some (.ref 77), some (.ref 78), some (.retAddr 60), some (.ref 77), some (.int 4096), some (.retAddr 16), some (.retAddr 62)] [] k34_12_rs1 = some (182, [some (.ref 58), some (.int 12), some (.retAddr 12), some (.ref 77), some (.ref 78), some (.retAddr 60), some (.ref 77), some (.int 4096), some (.retAddr 16), some (.retAddr 62)], [.retAddr 16, .ref 77], k34_12_rs1) := c_eqR_ok (by decide +kernel)
theorem k34_12_ty0 : c_pre ([(0, .retAddr 60, .int 0, .retAddr 60), (0, .retAddr 16, .int 1, .retAddr 17)], x_xs) 50 c_m130 9 183 [some (.ref 58), some (.int 12), some (.retAddr 12), some (.ref 77), some (.ref 78), some (.retAddr 60), some (.ref 77), some (.int 4096), some (.retAddr 16), some (.retAddr 62)] [.int 0] k34_12_rs1 = some (171, [some (.ref 58), some (.int 12), some (.retAddr 12), some (.ref 77), some (.ref 78), some (.retAddr 60), some (.ref 77), some (.int 4096), some (.retAddr 17), some (.int 0)], [], k34_12_rs1) := c_eqR_ok (by decide +kernel)
theorem k34_12_ty1 : c_pre ([(0, .retAddr 60, .int 1, .retAddr 64), (0, .retAddr 16, .int 1, .retAddr 17)], x_xs) 50 c_m130 10 183 [some (.ref 58), some (.int 12), some (.retAddr 12), some (.ref 77), some (.ref 78), some (.retAddr 60), some (.ref 77), some (.int 4096), some (.retAddr 16), some (.retAddr 62)] [.int 1] k34_12_rs1 = some (171, [some (.ref 58), some (.int 12), some (.retAddr 12), some (.ref 77), some (.ref 78), some (.retAddr 64), some (.ref 77), some (.int 4096), some (.retAddr 17), some (.int 1)], [], k34_12_rs1) := c_eqR_ok (by decide +kernel)
theorem k34_12_tz : c_pre ([], x_xs) 50 c_m130 4 171 [some (.ref 58), some (.int 12), some (.retAddr 12), some (.ref 77), some (.ref 78), some (.retAddr 60), some (.ref 77), some (.int 4096), some (.int 4096), some (.retAddr 62)] [] k34_12_rs1 = some (208, [some (.ref 58), some (.int 12), some (.retAddr 12), some (.ref 77), some (.ref 78), some (.retAddr 60), some (.ref 77), some (.int 4096), some (.int 4096), some (.retAddr 62)], [.retAddr 60], k34_12_rs1) := c_eqR_ok (by decide +kernel)
theorem k34_12_kt {a0 a3 a4 a5 : Int32} {k i m S : Nat} {u : c_Cell} {G : c_Hp} (v : Nat → Int32) (hG : m_told G) (hi : i < 4096) (o : Option Value) (ho : o = none ∨ ∃ y, o = some (.int y)) {r : c_O × c_Hp} (kk : c_T [a0, Int32.ofNat 12, Int32.ofNat k, a3, a4, a5] c_m130 171 [some (.ref 58), some (.int 12), some (.int (Int32.ofNat k)), some (.ref 77), some (.ref 78), some (.int (Int32.ofNat (m + nb_C S 0 i))), some (.ref 77), some (.int 4096), some (.int (Int32.ofNat (i + 1))), some (.int (if S.testBit i then 1 else 0))] [] (((s_h (k34_B v) k34_12_rs0 ++ (G ++ s_h (k34_B v) k34_12_lv)).set 40 u).set 77 (b_c 4096 (S))) r) : c_T [a0, Int32.ofNat 12, Int32.ofNat k, a3, a4, a5] c_m130 171 [some (.ref 58), some (.int 12), some (.int (Int32.ofNat k)), some (.ref 77), some (.ref 78), some (.int (Int32.ofNat m)), some (.ref 77), some (.int 4096), some (.int (Int32.ofNat i)), o] [] (((s_h (k34_B v) k34_12_rs0 ++ (G ++ s_h (k34_B v) k34_12_lv)).set 40 u).set 77 (b_c 4096 (S))) r := by
  have hT : ∀ y : Int32, (o = none ∨ o = some (.int y)) → c_T [a0, Int32.ofNat 12, Int32.ofNat k, a3, a4, a5] c_m130 171 [some (.ref 58), some (.int 12), some (.int (Int32.ofNat k)), some (.ref 77), some (.ref 78), some (.int (Int32.ofNat m)), some (.ref 77), some (.int 4096), some (.int (Int32.ofNat i)), o] [] (((s_h (k34_B v) k34_12_rs0 ++ (G ++ s_h (k34_B v) k34_12_lv)).set 40 u).set 77 (b_c 4096 (S))) r := by
    intro y hy
    let w : Nat → Int32 := fun j => if j = 60 then Int32.ofNat m else if j = 62 then y else v j
    have hw : ∀ i, i < 60 → w i = v i := fun i h => by show (if i = 60 then _ else if i = 62 then _ else _) = _; rw [if_neg (by omega), if_neg (by omega)]
    have H := e_Bf (f := k34_f [a0, Int32.ofNat 12, Int32.ofNat k, a3, a4, a5] i w) (n0 := 64) (D := [(0, .retAddr 60, .int 1, .retAddr 64)]) (by decide) (by decide +kernel)
    have h64 : (e_B (k34_f [a0, Int32.ofNat 12, Int32.ofNat k, a3, a4, a5] i w) 64 [(0, .retAddr 60, .int 1, .retAddr 64)]).2 60 + 1 = (e_B (k34_f [a0, Int32.ofNat 12, Int32.ofNat k, a3, a4, a5] i w) 64 [(0, .retAddr 60, .int 1, .retAddr 64)]).2 64 := Option.some.inj (e_ri (e_at H 0 rfl))
    have h65 : (e_B (k34_f [a0, Int32.ofNat 12, Int32.ofNat k, a3, a4, a5] i w) 64 [(0, .retAddr 60, .int 1, .retAddr 64)]).2 64 = Int32.ofNat (m + 1) := by
      rw [← h64, Int32.ofNat_add]
      rfl
    have hg : ∀ j, 18 ≤ j → j < 60 → (e_B (k34_f [a0, Int32.ofNat 12, Int32.ofNat k, a3, a4, a5] i w) 64 [(0, .retAddr 60, .int 1, .retAddr 64)]).2 j = (k34_B v).2 j := fun j h1 h2 => (k34_ag (hi := 60) (by decide) j h1 h2).trans (hw j h2)
    have a1 := k34_12_g1 (e_B (k34_f [a0, Int32.ofNat 12, Int32.ofNat k, a3, a4, a5] i w) 64 [(0, .retAddr 60, .int 1, .retAddr 64)]) hG
    rw [e_hc hg k34_12_rsk, e_hc hg k34_12_lvk] at a1
    have hcN : c_hold (e_B (k34_f [a0, Int32.ofNat 12, Int32.ofNat k, a3, a4, a5] i w) 64 [(0, .retAddr 60, .int 1, .retAddr 64)]) (23, .retAddr 16, .int 4096, .int 0) := o_ge (i := i) (s := 4096) rfl rfl (by omega) (by decide) (by omega)
    have hcI : c_hold (e_B (k34_f [a0, Int32.ofNat 12, Int32.ofNat k, a3, a4, a5] i w) 64 [(0, .retAddr 60, .int 1, .retAddr 64)]) (0, .retAddr 16, .int 1, .retAddr 17) := o_inc (i := i) rfl rfl
    have hf0 : c_hold (e_B (k34_f [a0, Int32.ofNat 12, Int32.ofNat k, a3, a4, a5] i w) 64 [(0, .retAddr 60, .int 1, .retAddr 64)]) (0, .retAddr 60, .int 0, .retAddr 60) := ⟨Int32.ofNat m, 0, Int32.ofNat m, rfl, rfl, congrArg some (Int32.add_zero _), rfl⟩
    have hf1 : c_hold (e_B (k34_f [a0, Int32.ofNat 12, Int32.ofNat k, a3, a4, a5] i w) 64 [(0, .retAddr 60, .int 1, .retAddr 64)]) (0, .retAddr 60, .int 1, .retAddr 64) := e_at H 0 rfl
    have FN : ∀ f ∈ ([(23, .retAddr 16, .int 4096, .int 0)] : List c_F), c_hold (e_B (k34_f [a0, Int32.ofNat 12, Int32.ofNat k, a3, a4, a5] i w) 64 [(0, .retAddr 60, .int 1, .retAddr 64)]) f := List.forall_mem_cons.mpr ⟨hcN, fun _ h => nomatch h⟩
    have FA : ∀ f ∈ ([(0, .retAddr 60, .int 0, .retAddr 60), (0, .retAddr 16, .int 1, .retAddr 17)] : List c_F), c_hold (e_B (k34_f [a0, Int32.ofNat 12, Int32.ofNat k, a3, a4, a5] i w) 64 [(0, .retAddr 60, .int 1, .retAddr 64)]) f := List.forall_mem_cons.mpr ⟨hf0, List.forall_mem_cons.mpr ⟨hcI, fun _ h => nomatch h⟩⟩
    have FB : ∀ f ∈ ([(0, .retAddr 60, .int 1, .retAddr 64), (0, .retAddr 16, .int 1, .retAddr 17)] : List c_F), c_hold (e_B (k34_f [a0, Int32.ofNat 12, Int32.ofNat k, a3, a4, a5] i w) 64 [(0, .retAddr 60, .int 1, .retAddr 64)]) f := List.forall_mem_cons.mpr ⟨hf1, List.forall_mem_cons.mpr ⟨hcI, fun _ h => nomatch h⟩⟩
    have hl : 77 < ((s_h (k34_B v) k34_12_rs0 ++ (G ++ s_h (k34_B v) k34_12_lv)).set 40 u).length := by
      rw [List.length_set, List.length_append, s_lenH]
      exact Nat.lt_of_lt_of_le (by decide : 77 < k34_12_rs0.length) (Nat.le_add_right _ _)
    have e0 : nb_C S 0 i = if S.testBit i then 1 else 0 := rfl
    rcases hy with hy | hy
    · subst hy
      refine q_preg (i := 40) (j := 77) (G := G) (n := 79) (K := [some (.ref 58), some (.int 12), some (.int (Int32.ofNat k)), some (.ref 77), some (.ref 78), some (.int (Int32.ofNat m)), some (.ref 77), some (.int 4096), some (.int (Int32.ofNat i)), none]) (K1 := [some (.ref 58), some (.int 12), some (.int (Int32.ofNat k)), some (.ref 77), some (.ref 78), some (.int (Int32.ofNat m)), some (.ref 77), some (.int 4096), some (.int (Int32.ofNat i)), none]) (t1 := [.int (Int32.ofNat i), .ref 77]) k34_hx FN k34_12_tx (by decide) (by decide) (by decide) (by decide) rfl rfl rfl rfl rfl rfl a1 a1 ?_
      refine q_bald (p1 := 0) (p2 := 0) (p3 := 0) (by decide +kernel) rfl hl hi (by decide) ?_
      cases hb : S.testBit i with
      | false =>
        rw [e0, hb] at kk
        exact q_preg (i := 40) (j := 77) (G := G) (n := 79) k34_hx FA k34_12_tx0 (by decide) (by decide) (by decide) (by decide) rfl rfl rfl rfl rfl rfl a1 a1 kk
      | true =>
        rw [e0, hb] at kk
        refine q_preg (i := 40) (j := 77) (G := G) (n := 79) (K1 := [some (.ref 58), some (.int 12), some (.int (Int32.ofNat k)), some (.ref 77), some (.ref 78), some (.int (Int32.ofNat (m + 1))), some (.ref 77), some (.int 4096), some (.int (Int32.ofNat (i + 1))), some (.int 1)]) k34_hx FB k34_12_tx1 (by decide) (by decide) (by decide) (by decide) rfl rfl rfl ?_ rfl rfl a1 a1 kk
        rw [← h65]
        rfl
    · subst hy
      refine q_preg (i := 40) (j := 77) (G := G) (n := 79) (K := [some (.ref 58), some (.int 12), some (.int (Int32.ofNat k)), some (.ref 77), some (.ref 78), some (.int (Int32.ofNat m)), some (.ref 77), some (.int 4096), some (.int (Int32.ofNat i)), some (.int y)]) (K1 := [some (.ref 58), some (.int 12), some (.int (Int32.ofNat k)), some (.ref 77), some (.ref 78), some (.int (Int32.ofNat m)), some (.ref 77), some (.int 4096), some (.int (Int32.ofNat i)), some (.int y)]) (t1 := [.int (Int32.ofNat i), .ref 77]) k34_hx FN k34_12_ty (by decide) (by decide) (by decide) (by decide) rfl rfl rfl rfl rfl rfl a1 a1 ?_
      refine q_bald (p1 := 0) (p2 := 0) (p3 := 0) (by decide +kernel) rfl hl hi (by decide) ?_
      cases hb : S.testBit i with
      | false =>
        rw [e0, hb] at kk
        exact q_preg (i := 40) (j := 77) (G := G) (n := 79) k34_hx FA k34_12_ty0 (by decide) (by decide) (by decide) (by decide) rfl rfl rfl rfl rfl rfl a1 a1 kk
      | true =>
        rw [e0, hb] at kk
        refine q_preg (i := 40) (j := 77) (G := G) (n := 79) (K1 := [some (.ref 58), some (.int 12), some (.int (Int32.ofNat k)), some (.ref 77), some (.ref 78), some (.int (Int32.ofNat (m + 1))), some (.ref 77), some (.int 4096), some (.int (Int32.ofNat (i + 1))), some (.int 1)]) k34_hx FB k34_12_ty1 (by decide) (by decide) (by decide) (by decide) rfl rfl rfl ?_ rfl rfl a1 a1 kk
        rw [← h65]
        rfl
  rcases ho with h | ⟨y, h⟩
  · exact hT 0 (Or.inl h)
  · exact hT y (Or.inr h)
theorem k34_12_kl {a0 a3 a4 a5 : Int32} {k S : Nat} {u : c_Cell} {G : c_Hp} (v : Nat → Int32) (hG : m_told G) : ∀ j i, i + j = 4096 → ∀ o : Option Value, (o = none ∨ ∃ y, o = some (.int y)) → (i < 4096 ∨ ∃ y, o = some (.int y)) → c_T [a0, Int32.ofNat 12, Int32.ofNat k, a3, a4, a5] c_m130 171 [some (.ref 58), some (.int 12), some (.int (Int32.ofNat k)), some (.ref 77), some (.ref 78), some (.int (Int32.ofNat (nb_c S i))), some (.ref 77), some (.int 4096), some (.int (Int32.ofNat i)), o] [] (((s_h (k34_B v) k34_12_rs0 ++ (G ++ s_h (k34_B v) k34_12_lv)).set 40 u).set 77 (b_c 4096 (S))) (.inl (some (.int (Int32.ofNat (nb_c S 4096)))), (((s_h (k34_B v) k34_12_rs0 ++ (G ++ s_h (k34_B v) k34_12_lv)).set 40 u).set 77 (b_c 4096 (S))))
  | 0, i, e, o, ho, hz => by
    have e0 : i = 4096 := by omega
    subst e0
    obtain ⟨y, hy⟩ := hz.resolve_left (Nat.lt_irrefl _)
    subst hy
    let w : Nat → Int32 := fun j => if j = 60 then Int32.ofNat (nb_c S 4096) else if j = 62 then y else v j
    have hw : ∀ i, i < 60 → w i = v i := fun i h => by show (if i = 60 then _ else if i = 62 then _ else _) = _; rw [if_neg (by omega), if_neg (by omega)]
    have hg : ∀ j, 18 ≤ j → j < 60 → (e_B (k34_f [a0, Int32.ofNat 12, Int32.ofNat k, a3, a4, a5] 0 w) 64 [(0, .retAddr 60, .int 1, .retAddr 64)]).2 j = (k34_B v).2 j := fun j h1 h2 => (k34_ag (hi := 60) (by decide) j h1 h2).trans (hw j h2)
    have a1 := k34_12_g1 (e_B (k34_f [a0, Int32.ofNat 12, Int32.ofNat k, a3, a4, a5] 0 w) 64 [(0, .retAddr 60, .int 1, .retAddr 64)]) hG
    rw [e_hc hg k34_12_rsk, e_hc hg k34_12_lvk] at a1
    exact q_preg (i := 40) (j := 77) (G := G) (n := 79) (B := (e_B (k34_f [a0, Int32.ofNat 12, Int32.ofNat k, a3, a4, a5] 0 w) 64 [(0, .retAddr 60, .int 1, .retAddr 64)])) (F := []) k34_hx (fun _ h => nomatch h) k34_12_tz (by decide) (by decide) (by decide) (by decide) rfl rfl rfl rfl rfl rfl a1 a1 (r_iret (p1 := 0) (p2 := 0) (p3 := 0) (by decide +kernel) rfl)
  | j + 1, i, e, o, ho, hz => by
    refine k34_12_kt v hG (by omega) o ho ?_
    exact k34_12_kl v hG j (i + 1) (by omega) _ (Or.inr ⟨_, rfl⟩) (Or.inr ⟨_, rfl⟩)
theorem k34_12_L1 {a0 a3 a4 a5 : Int32} {k : Nat} {u : c_Cell} (hk : 2 * k < 12) : ∀ j n, n + j = 4096 → ∀ (v : Nat → Int32) (G : c_Hp), m_told G → ∃ (v2 : Nat → Int32) (G2 : c_Hp), m_told G2 ∧ G2.length ≤ G.length + 2 * j ∧ c_msz G2 ≤ c_msz G + 24 * j ∧ v2 35 = v 35 ∧ ∀ r, c_T [a0, Int32.ofNat 12, Int32.ofNat k, a3, a4, a5] c_m130 71 [some (.ref 58), some (.int 12), some (.int (Int32.ofNat k)), some (.ref 77), some (.ref 78), some (.int (Int32.ofNat 4096)), some (.int (v2 61)), some (.ref (80 + (G2).length)), some (.int (v2 62)), none] [] (((s_h (k34_B v2) k34_12_rs0 ++ (G2 ++ s_h (k34_B v2) k34_12_lv)).set 40 u).set 77 (b_c 4096 (nb_S 12 k 4096))) r → c_T [a0, Int32.ofNat 12, Int32.ofNat k, a3, a4, a5] c_m130 71 [some (.ref 58), some (.int 12), some (.int (Int32.ofNat k)), some (.ref 77), some (.ref 78), some (.int (Int32.ofNat n)), some (.int (v 61)), some (.ref (80 + (G).length)), some (.int (v 62)), none] [] (((s_h (k34_B v) k34_12_rs0 ++ (G ++ s_h (k34_B v) k34_12_lv)).set 40 u).set 77 (b_c 4096 (nb_S 12 k n))) r
  | 0, n, e, v, G, hG => by
    have e0 : n = 4096 := by omega
    subst e0
    exact ⟨v, G, hG, Nat.le_refl _, Nat.le_refl _, rfl, fun r k => k⟩
  | j + 1, n, e, v, G, hG => by
    obtain ⟨v1, G1, g1, l1, m1, t1, h1⟩ := k34_12_R1 (a0 := a0) (a3 := a3) (a4 := a4) (a5 := a5) (n := n) (S := nb_S 12 k n) (u := u) hk (by omega) v G hG
    obtain ⟨v2, G2, g2, l2, m2, t2, h2⟩ := k34_12_L1 (a0 := a0) (a3 := a3) (a4 := a4) (a5 := a5) (u := u) hk j (n + 1) (by omega) v1 G1 g1
    exact ⟨v2, G2, g2, by omega, by omega, t2.trans t1, fun r k => h1 r (h2 r k)⟩
theorem k34_12_L0 {a0 a3 a4 a5 : Int32} {k : Nat} {u : c_Cell} (hk : 2 * k < 12) (hk6 : k < 6) : ∀ j n, n + j = 4096 → n ≤ 2 ^ k - 1 → ∀ (v : Nat → Int32), ∃ (v2 : Nat → Int32) (G2 : c_Hp), m_told G2 ∧ G2.length ≤ 2 * j ∧ c_msz G2 ≤ 24 * j ∧ v2 35 = v 35 ∧ ∀ r, c_T [a0, Int32.ofNat 12, Int32.ofNat k, a3, a4, a5] c_m130 71 [some (.ref 58), some (.int 12), some (.int (Int32.ofNat k)), some (.ref 77), some (.ref 78), some (.int (Int32.ofNat 4096)), some (.int (v2 61)), some (.ref (80 + (G2).length)), some (.int (v2 62)), none] [] (((s_h (k34_B v2) k34_12_rs0 ++ (G2 ++ s_h (k34_B v2) k34_12_lv)).set 40 u).set 77 (b_c 4096 (nb_S 12 k 4096))) r → c_T [a0, Int32.ofNat 12, Int32.ofNat k, a3, a4, a5] c_m130 71 [some (.ref 58), some (.int 12), some (.int (Int32.ofNat k)), some (.ref 77), some (.ref 78), some (.int (Int32.ofNat n)), none, none, none, none] [] (((s_h (k34_B v) k34_12_rs0).set 40 u).set 77 (b_c 4096 (nb_S 12 k n))) r
  | 0, n, e, hn, v => by
    have h1 : 2 ^ k ≤ 2 ^ 12 := Nat.pow_le_pow_right (by decide) (by omega)
    have h2 : (2 : Nat) ^ 12 = 4096 := by decide
    have h3 : 0 < 2 ^ k := Nat.pow_pos (by decide)
    omega
  | j + 1, n, e, hn, v => by
    obtain ⟨h1, h2⟩ := k34_12_R0 (a0 := a0) (a3 := a3) (a4 := a4) (a5 := a5) (n := n) (S := nb_S 12 k n) (u := u) hk (by omega) v
    by_cases hp : nb_pop 12 n = k
    · obtain ⟨v1, t1, h1⟩ := h1 hp
      obtain ⟨v2, G2, g2, l2, m2, t2, h3⟩ := k34_12_L1 (a0 := a0) (a3 := a3) (a4 := a4) (a5 := a5) (u := u) hk j (n + 1) (by omega) v1 [] (fun _ => rfl)
      exact ⟨v2, G2, g2, by rw [List.length_nil] at l2; omega, by rw [show c_msz [] = 0 from rfl] at m2; omega, t2.trans t1, fun r k => h1 r (h3 r k)⟩
    · have hne : n ≠ 2 ^ k - 1 := fun h => hp (by rw [h]; exact nb_ones k hk6)
      obtain ⟨v2, G2, g2, l2, m2, t2, h3⟩ := k34_12_L0 (a0 := a0) (a3 := a3) (a4 := a4) (a5 := a5) (u := u) hk hk6 j (n + 1) (by omega) (by omega) v
      refine ⟨v2, G2, g2, by omega, by omega, t2, fun r kk => h2 hp r ?_⟩
      have h4 := h3 r kk
      rw [show nb_S 12 k (n + 1) = nb_S 12 k n from by show _ ||| nb_D 12 k 0 n = _; rw [show nb_D 12 k 0 n = 0 from if_neg hp, Nat.or_zero]] at h4
      exact h4
theorem k34_12_ref {a0 a3 a4 a5 : Int32} {k : Nat} {u : c_Cell} (hk : 2 * k < 12) (hk6 : k < 6) (v : Nat → Int32) : ∃ (v2 : Nat → Int32) (G2 : c_Hp), m_told G2 ∧ G2.length ≤ 8192 ∧ c_msz G2 ≤ 98304 ∧ v2 35 = v 35 ∧ c_T [a0, Int32.ofNat 12, Int32.ofNat k, a3, a4, a5] c_m130 71 [some (.ref 58), some (.int 12), some (.int (Int32.ofNat k)), some (.ref 77), some (.ref 78), some (.int (Int32.ofNat 0)), none, none, none, none] [] (((s_h (k34_B v) k34_12_rs0).set 40 u).set 77 (b_c 4096 (0))) (.inl (some (.int (Int32.ofNat (nb_c (nb_S 12 k 4096) 4096)))), (((s_h (k34_B v2) k34_12_rs0 ++ (G2 ++ s_h (k34_B v2) k34_12_lv)).set 40 u).set 77 (b_c 4096 (nb_S 12 k 4096)))) := by
  obtain ⟨v2, G2, g2, l2, m2, t2, h3⟩ := k34_12_L0 (a0 := a0) (a3 := a3) (a4 := a4) (a5 := a5) (u := u) hk hk6 4096 0 rfl (Nat.zero_le _) v
  refine ⟨v2, G2, g2, l2, m2, t2, h3 _ ?_⟩
  have hg : ∀ j, 18 ≤ j → j < 60 → (e_B (k34_f [a0, Int32.ofNat 12, Int32.ofNat k, a3, a4, a5] 0 v2) 64 []).2 j = (k34_B v2).2 j := k34_ag (hi := 60) (by decide)
  have a1 := k34_12_g1 (e_B (k34_f [a0, Int32.ofNat 12, Int32.ofNat k, a3, a4, a5] 0 v2) 64 []) g2
  rw [e_hc hg k34_12_rsk, e_hc hg k34_12_lvk] at a1
  have e80 : g_p 79 G2.length 80 = 80 + G2.length := by unfold g_p; rw [if_neg (by decide)]
  have hl : 77 < ((s_h (k34_B v2) k34_12_rs0 ++ (G2 ++ s_h (k34_B v2) k34_12_lv)).set 40 u).length := by
    rw [List.length_set, List.length_append, s_lenH]
    exact Nat.lt_of_lt_of_le (by decide : 77 < k34_12_rs0.length) (Nat.le_add_right _ _)
  refine q_preg (i := 40) (j := 77) (G := G2) (n := 79) (B := (e_B (k34_f [a0, Int32.ofNat 12, Int32.ofNat k, a3, a4, a5] 0 v2) 64 [])) (F := []) (K := [some (.ref 58), some (.int 12), some (.int (Int32.ofNat k)), some (.ref 77), some (.ref 78), some (.int (Int32.ofNat 4096)), some (.int (v2 61)), some (.ref (80 + (G2).length)), some (.int (v2 62)), none]) k34_hx (fun _ h => nomatch h) k34_12_p (by decide) (by decide) (by decide) (by decide) rfl rfl (by rw [← e80]; rfl) rfl rfl rfl a1 a1 ?_
  refine q_alen (p1 := 0) (p2 := 0) (p3 := 0) (by decide +kernel) rfl hl ?_
  refine q_preg (i := 40) (j := 77) (G := G2) (n := 79) (B := (e_B (k34_f [a0, Int32.ofNat 12, Int32.ofNat k, a3, a4, a5] 0 v2) 64 [])) (F := []) k34_hx (fun _ h => nomatch h) k34_12_p2 (by decide) (by decide) (by decide) (by decide) rfl rfl rfl rfl rfl rfl a1 a1 ?_
  exact k34_12_kl v2 g2 4096 0 rfl none (Or.inl rfl) (Or.inl (by decide))
def k34_12_xs : List Value := [.retAddr 10, .int 12, .retAddr 12, .retAddr 13, .retAddr 14, .retAddr 15]
def k34_12_hs7 : c_Hp := [some (.inl (10, [.ref 1, .ref 4, .ref 23, .ref 25, .ref 28, .ref 31, .ref 34, .ref 37, .ref 39, .ref 41, .ref 52, .ref 55])),
  some (.inl (6, [.ref 2, .ref 3, .int 10, .int 0])),
  some (.inr (0, List.replicate 60 (.int 1))),
  some (.inr (0, List.replicate 60 (.int 0))),
  some (.inl (4, [.ref 5, .ref 14, .int 0, .int 0])),
  some (.inr (2, [.ref 6, .ref 7, .ref 8, .ref 9, .ref 10, .ref 11, .ref 12, .ref 13])),
  some (.inr (0, List.replicate 60 (.int 0))),
  some (.inr (0, List.replicate 60 (.int 0))),
  some (.inr (0, List.replicate 60 (.int 0))),
  some (.inr (0, List.replicate 60 (.int 0))),
  some (.inr (0, List.replicate 60 (.int 0))),
  some (.inr (0, List.replicate 60 (.int 0))),
  some (.inr (0, List.replicate 60 (.int 0))),
  some (.inr (0, List.replicate 60 (.int 0))),
  some (.inr (2, [.ref 15, .ref 16, .ref 17, .ref 18, .ref 19, .ref 20, .ref 21, .ref 22])),
  some (.inr (0, List.replicate 60 (.int 0))),
  some (.inr (0, List.replicate 60 (.int 0))),
  some (.inr (0, List.replicate 60 (.int 0))),
  some (.inr (0, List.replicate 60 (.int 0))),
  some (.inr (0, List.replicate 60 (.int 0))),
  some (.inr (0, List.replicate 60 (.int 0))),
  some (.inr (0, List.replicate 60 (.int 0))),
  some (.inr (0, List.replicate 60 (.int 0))),
  some (.inl (0, [.ref 24, .retAddr 18])),
  some (.inr (0, ([.retAddr 22, .retAddr 23, .retAddr 24, .retAddr 25, .retAddr 26, .retAddr 27, .retAddr 28, .retAddr 29, .retAddr 30, .retAddr 31, .retAddr 32, .retAddr 33] ++ (List.replicate 48 (.int 0))))),
  some (.inl (3, [.ref 26, .ref 27, .int 0])),
  some (.inr (0, List.replicate 120 (.int 0))),
  some (.inr (0, List.replicate 60 (.int 0))),
  some (.inl (7, [.ref 29, .ref 30, .int 0, .int 0])),
  some (.inr (0, List.replicate 60 (.int 0))),
  some (.inr (0, List.replicate 60 (.int 0))),
  some (.inl (8, [.ref 32, .ref 33])),
  some (.inr (0, [.int 0, .int 0, .int 0])),
  some (.inr (0, [.int 0, .int 0, .int 0])),
  some (.inl (1, [.ref 35, .ref 36, .int 0])),
  some (.inr (0, List.replicate 5 (.int 0))),
  some (.inr (0, List.replicate 5 (.int 0))),
  some (.inl (9, [.ref 38, .int 0])),
  some (.inr (0, List.replicate 6 (.int 0))),
  some (.inl (2, [.ref 40])),
  none,
  some (.inl (5, [.ref 42, .ref 51])),
  some (.inr (2, [.ref 43, .ref 44, .ref 45, .ref 46, .ref 47, .ref 48, .ref 49, .ref 50])),
  some (.inr (0, List.replicate 6 (.int 0))),
  some (.inr (0, List.replicate 6 (.int 0))),
  some (.inr (0, List.replicate 6 (.int 0))),
  some (.inr (0, List.replicate 6 (.int 0))),
  some (.inr (0, List.replicate 6 (.int 0))),
  some (.inr (0, List.replicate 6 (.int 0))),
  some (.inr (0, List.replicate 6 (.int 0))),
  some (.inr (0, List.replicate 6 (.int 0))),
  some (.inr (0, List.replicate 6 (.int 0))),
  some (.inl (6, [.ref 53, .ref 54, .retAddr 19, .retAddr 20])),
  some (.inr (0, List.replicate 60 (.retAddr 21))),
  some (.inr (0, ([.retAddr 22, .retAddr 23, .retAddr 24, .retAddr 25, .retAddr 26, .retAddr 27, .retAddr 28, .retAddr 29, .retAddr 30, .retAddr 31, .retAddr 32, .retAddr 33] ++ (List.replicate 48 (.int 0))))),
  some (.inl (6, [.ref 56, .ref 57, .int 1, .int 0])),
  some (.inr (0, List.replicate 60 (.int 0))),
  some (.inr (0, List.replicate 60 (.int 0))),
  some (.inl (11, [.ref 59, .ref 60, .int 0, .ref 61, .ref 62, .ref 63, .ref 64, .int 0, .ref 65, .int 0, .ref 66, .int 0, .int 0])),
  some (.inr (0, List.replicate 10 (.int 1))),
  some (.inr (0, List.replicate 10 (.int 0))),
  some (.inl (12, [.int 0, .retAddr 1, .int 0])),
  some (.inl (12, [.int 0, .retAddr 1, .int 0])),
  some (.inr (0, List.replicate 5 (.int 0))),
  some (.inr (0, List.replicate 5 (.int 0))),
  some (.inr (0, List.replicate 6 (.int 0))),
  some (.inr (2, [.ref 67, .ref 68, .ref 69, .ref 70, .ref 71, .ref 72, .ref 73, .ref 74])),
  some (.inr (0, List.replicate 6 (.int 0))),
  some (.inr (0, List.replicate 6 (.int 0))),
  some (.inr (0, List.replicate 6 (.int 0))),
  some (.inr (0, List.replicate 6 (.int 0))),
  some (.inr (0, List.replicate 6 (.int 0))),
  some (.inr (0, List.replicate 6 (.int 0))),
  some (.inr (0, List.replicate 6 (.int 0))),
  some (.inr (0, List.replicate 6 (.int 0))),
  some (.inr (1, [.double (UInt64.ofNat (c_M0 + 35))])),
  some (.inr (5, [.double 0]))]
def k34_12_rs0n : c_Hp := [some (.inl (10, [.ref 1, .ref 4, .ref 23, .ref 25, .ref 28, .ref 31, .ref 34, .ref 37, .ref 39, .ref 41, .ref 52, .ref 55])),
  some (.inl (6, [.ref 2, .ref 3, .int 10, .int 0])),
  some (.inr (0, List.replicate 60 (.int 1))),
  some (.inr (0, List.replicate 60 (.int 0))),
  some (.inl (4, [.ref 5, .ref 14, .int 0, .int 0])),
  some (.inr (2, [.ref 6, .ref 7, .ref 8, .ref 9, .ref 10, .ref 11, .ref 12, .ref 13])),
  some (.inr (0, List.replicate 60 (.int 0))),
  some (.inr (0, List.replicate 60 (.int 0))),
  some (.inr (0, List.replicate 60 (.int 0))),
  some (.inr (0, List.replicate 60 (.int 0))),
  some (.inr (0, List.replicate 60 (.int 0))),
  some (.inr (0, List.replicate 60 (.int 0))),
  some (.inr (0, List.replicate 60 (.int 0))),
  some (.inr (0, List.replicate 60 (.int 0))),
  some (.inr (2, [.ref 15, .ref 16, .ref 17, .ref 18, .ref 19, .ref 20, .ref 21, .ref 22])),
  some (.inr (0, List.replicate 60 (.int 0))),
  some (.inr (0, List.replicate 60 (.int 0))),
  some (.inr (0, List.replicate 60 (.int 0))),
  some (.inr (0, List.replicate 60 (.int 0))),
  some (.inr (0, List.replicate 60 (.int 0))),
  some (.inr (0, List.replicate 60 (.int 0))),
  some (.inr (0, List.replicate 60 (.int 0))),
  some (.inr (0, List.replicate 60 (.int 0))),
  some (.inl (0, [.ref 24, .retAddr 18])),
  some (.inr (0, ([.retAddr 22, .retAddr 23, .retAddr 24, .retAddr 25, .retAddr 26, .retAddr 27, .retAddr 28, .retAddr 29, .retAddr 30, .retAddr 31, .retAddr 32, .retAddr 33] ++ (List.replicate 48 (.int 0))))),
  some (.inl (3, [.ref 26, .ref 27, .int 0])),
  some (.inr (0, List.replicate 120 (.int 0))),
  some (.inr (0, List.replicate 60 (.int 0))),
  some (.inl (7, [.ref 29, .ref 30, .int 0, .int 0])),
  some (.inr (0, List.replicate 60 (.int 0))),
  some (.inr (0, List.replicate 60 (.int 0))),
  some (.inl (8, [.ref 32, .ref 33])),
  some (.inr (0, [.int 0, .int 0, .int 0])),
  some (.inr (0, [.int 0, .int 0, .int 0])),
  some (.inl (1, [.ref 35, .ref 36, .int 0])),
  some (.inr (0, List.replicate 5 (.int 0))),
  some (.inr (0, List.replicate 5 (.int 0))),
  some (.inl (9, [.ref 38, .int 0])),
  some (.inr (0, List.replicate 6 (.int 0))),
  some (.inl (2, [.ref 40])),
  none,
  some (.inl (5, [.ref 42, .ref 51])),
  some (.inr (2, [.ref 43, .ref 44, .ref 45, .ref 46, .ref 47, .ref 48, .ref 49, .ref 50])),
  some (.inr (0, List.replicate 6 (.int 0))),
  some (.inr (0, List.replicate 6 (.int 0))),
  some (.inr (0, List.replicate 6 (.int 0))),
  some (.inr (0, List.replicate 6 (.int 0))),
  some (.inr (0, List.replicate 6 (.int 0))),
  some (.inr (0, List.replicate 6 (.int 0))),
  some (.inr (0, List.replicate 6 (.int 0))),
  some (.inr (0, List.replicate 6 (.int 0))),
  some (.inr (0, List.replicate 6 (.int 0))),
  some (.inl (6, [.ref 53, .ref 54, .retAddr 19, .retAddr 20])),
  some (.inr (0, List.replicate 60 (.retAddr 21))),
  some (.inr (0, ([.retAddr 22, .retAddr 23, .retAddr 24, .retAddr 25, .retAddr 26, .retAddr 27, .retAddr 28, .retAddr 29, .retAddr 30, .retAddr 31, .retAddr 32, .retAddr 33] ++ (List.replicate 48 (.int 0))))),
  some (.inl (6, [.ref 56, .ref 57, .int 1, .int 0])),
  some (.inr (0, List.replicate 60 (.int 0))),
  some (.inr (0, List.replicate 60 (.int 0))),
  some (.inl (11, [.ref 59, .ref 60, .int 0, .ref 61, .ref 62, .ref 63, .ref 64, .int 0, .ref 65, .int 0, .ref 66, .int 0, .int 0])),
  some (.inr (0, List.replicate 10 (.int 1))),
  some (.inr (0, List.replicate 10 (.int 0))),
  some (.inl (12, [.int 0, .retAddr 1, .int 0])),
  some (.inl (12, [.int 0, .retAddr 1, .int 0])),
  some (.inr (0, List.replicate 5 (.int 0))),
  some (.inr (0, List.replicate 5 (.int 0))),
  some (.inr (0, List.replicate 6 (.int 0))),
  some (.inr (2, [.ref 67, .ref 68, .ref 69, .ref 70, .ref 71, .ref 72, .ref 73, .ref 74])),
  some (.inr (0, List.replicate 6 (.int 0))),
  some (.inr (0, List.replicate 6 (.int 0))),
  some (.inr (0, List.replicate 6 (.int 0))),
  some (.inr (0, List.replicate 6 (.int 0))),
  some (.inr (0, List.replicate 6 (.int 0))),
  some (.inr (0, List.replicate 6 (.int 0))),
  some (.inr (0, List.replicate 6 (.int 0))),
  some (.inr (0, List.replicate 6 (.int 0))),
  some (.inr (1, [.double (UInt64.ofNat (c_M0 + 35))])),
  some (.inr (5, [.double 0])),
  none,
  some (.inr (0, List.replicate 12 (.int 1)))]
theorem k34_12_A1 : c_pre ([(3, .retAddr 10, .int 63, .int 34)], k34_12_xs) 100 c_m259 18 38 [some (.retAddr 0), some (.ref 0), some (.ref 58), some (.ref 75), some (.ref 76), some (.int 0), none, none, none] [] t_h0 = some (2255, [some (.retAddr 0), some (.ref 0), some (.ref 58), some (.ref 75), some (.ref 76), some (.int 0), none, none, none], [.ref 75, .retAddr 12, .int 12, .ref 0], t_h0) := c_eqR_ok (by decide +kernel)
theorem k34_12_A2 : c_pre ([], k34_12_xs) 100 c_m222 5 0 [some (.ref 0), some (.int 12), some (.retAddr 12), some (.ref 75), none] [] t_h0 = some (5, [some (.ref 0), some (.int 12), some (.retAddr 12), some (.ref 75), none], [.retAddr 12, .int 12, .ref 0, .int 0, .ref 75], t_h0) := c_eqR_ok (by decide +kernel)
theorem k34_12_A3 : c_pre ([(22, .retAddr 12, .int 0, .int 0), (25, .retAddr 12, .int 12, .int 1), (2, .retAddr 12, .int 2, .retAddr 64), (22, .retAddr 64, .int 12, .int 1)], k34_12_xs) 672 c_m35 18 0 [some (.ref 0), some (.int 12), some (.retAddr 12), none] [] t_h0 = some (41, [some (.ref 0), some (.int 12), some (.retAddr 12), some (.int 0)], [], t_h0) := c_eqR_ok (by decide +kernel)
theorem k34_12_A4 : c_pre ([], k34_12_xs) 100 c_m222 4 8 [some (.ref 0), some (.int 12), some (.retAddr 12), some (.ref 75), none] [.retAddr 35, .int 0, .ref 75] k34_12_hs = some (22, [some (.ref 0), some (.int 12), some (.retAddr 12), some (.ref 75), none], [.int 0], k34_12_hs7) := c_eqR_ok (by decide +kernel)
theorem k34_12_A5 : c_pre ([], k34_12_xs) 100 c_m259 12 2258 [some (.retAddr 0), some (.ref 0), some (.ref 58), some (.ref 75), some (.ref 76), some (.int 0), none, none, none] [.int 0] k34_12_hs7 = some (2273, [some (.retAddr 0), some (.ref 0), some (.ref 58), some (.ref 75), some (.ref 76), some (.int 0), some (.int 0), none, none], [.retAddr 12, .int 12, .ref 58], k34_12_hs7) := c_eqR_ok (by decide +kernel)
theorem k34_12_A6 : c_pre ([(22, .retAddr 12, .int 0, .int 0), (24, .retAddr 12, .int 12, .int 0), (2, .int 2, .retAddr 12, .retAddr 64), (22, .retAddr 64, .int 12, .int 1)], k34_12_xs) 243 c_m130 36 0 [some (.ref 58), some (.int 12), some (.retAddr 12), none, none, none, none, none, none, none] [] k34_12_hs7 = some (71, [some (.ref 58), some (.int 12), some (.retAddr 12), some (.ref 77), some (.ref 78), some (.int 0), none, none, none, none], [], (k34_12_rs0n.set 77 (some (.inr (4, List.replicate 4096 (.int 0)))))) := c_eqR_ok (by decide +kernel)
theorem k34_12_A7 : c_pre ([], k34_12_xs) 100 c_m259 24 2276 [some (.retAddr 0), some (.ref 0), some (.ref 58), some (.ref 75), some (.ref 76), some (.int 0), some (.int 0), none, none] [.retAddr 35] k34_12_rs1 = some (2569, [some (.retAddr 0), some (.ref 0), some (.ref 58), some (.ref 75), some (.ref 76), some (.int 6), some (.int 0), some (.retAddr 35), none], [.int 1], k34_12_rs1) := c_eqR_ok (by decide +kernel)
theorem k34_12_C1 : c_callee c_m259 2255 [.ref 75, .retAddr 12, .int 12, .ref 0] t_h0 = some (222, [some (.ref 0), some (.int 12), some (.retAddr 12), some (.ref 75), none], []) := c_eqC_ok (by decide +kernel)
theorem k34_12_C2 : c_callee c_m222 5 [.retAddr 12, .int 12, .ref 0, .int 0, .ref 75] t_h0 = some (35, [some (.ref 0), some (.int 12), some (.retAddr 12), none], [.int 0, .ref 75]) := c_eqC_ok (by decide +kernel)
theorem k34_12_C3 : c_callee c_m259 2273 [.retAddr 12, .int 12, .ref 58] k34_12_hs7 = some (130, [some (.ref 58), some (.int 12), some (.retAddr 12), none, none, none, none, none, none, none], []) := c_eqC_ok (by decide +kernel)
theorem k34_12_C4 : c_callee c_m35 100 [.ref 39] k34_12_hs = some (150, [some (.ref 39), none, none, none, none, none, none], []) := c_eqC_ok (by decide +kernel)
theorem k34_12_h7k : e_hk 18 36 k34_12_hs7 = true := by decide +kernel
def k34_12_v0 : Nat → Int32 := fun i => if i = 19 then 1 else 0
theorem k34_12_z0 : t_h0 = (s_h (k34_B k34_12_v0) k34_12_hs).set 40 (some (.inr (1, List.replicate 64 (.long 0)))) := rfl
def k34_12_q3 : Nat → Value := fun i => ([.retAddr 18, .retAddr 19, .retAddr 20, .retAddr 21, .retAddr 22, .retAddr 23, .retAddr 24, .retAddr 25, .retAddr 26, .retAddr 27, .retAddr 28, .retAddr 29, .retAddr 30, .retAddr 31, .retAddr 32, .retAddr 33, .int 0, .retAddr 35, .retAddr 36, .retAddr 37, .retAddr 38, .retAddr 39, .retAddr 40, .retAddr 41, .retAddr 42, .retAddr 43, .retAddr 44, .retAddr 45, .retAddr 46, .retAddr 47, .retAddr 48, .retAddr 49, .retAddr 50, .retAddr 51, .retAddr 52, .retAddr 53, .retAddr 54, .retAddr 55, .retAddr 56, .retAddr 57, .retAddr 58, .retAddr 59, .retAddr 60, .retAddr 61, .retAddr 62, .retAddr 63][i - 18]?).getD (.retAddr i)
theorem k34_12_rn (B : c_B) : s_h B k34_12_rs0n = s_h (k34_B (z_f B k34_12_q3)) k34_12_rs0 := z_h B k34_12_q3 (by decide +kernel) (by decide +kernel)
theorem k34_12_xx {a0 a3 a4 a5 : Int32} {k : Nat} {v : Nat → Int32} {D : List c_F} : k34_12_xs.map (s_v (e_B (k34_f [a0, Int32.ofNat 12, Int32.ofNat k, a3, a4, a5] 0 v) 64 D)) = [a0, Int32.ofNat 12, Int32.ofNat k, a3, a4, a5].map Value.int := rfl
theorem k34_12_FA {a0 a3 a4 a5 : Int32} {k c : Nat} {v1 : Nat → Int32} (hk : 2 * k < 12) (hk6 : k < 6) (hcnt : ∀ v : Nat → Int32, c_T [a0, Int32.ofNat 12, Int32.ofNat k, a3, a4, a5] c_m150 0 [some (.ref 39), none, none, none, none, none, none] [] ((s_h (k34_B v) k34_12_hs).set 40 (w_c (nb_S 12 k 4096))) (.inl (some (.int (Int32.ofNat c))), (s_h (k34_B v) k34_12_hs).set 40 (w_c (nb_S 12 k 4096)))) (hcl : ∀ r, c_T [a0, Int32.ofNat 12, Int32.ofNat k, a3, a4, a5] c_m35 41 [some (.ref 0), some (.int 12), some (.int (Int32.ofNat k)), some (.int (Int32.ofNat 4096))] [] ((s_h (k34_B v1) k34_12_hs).set 40 (w_c (nb_S 12 k 4096))) r → c_T [a0, Int32.ofNat 12, Int32.ofNat k, a3, a4, a5] c_m35 41 [some (.ref 0), some (.int 12), some (.int (Int32.ofNat k)), some (.int (Int32.ofNat 0))] [] ((s_h (k34_B k34_12_v0) k34_12_hs).set 40 (w_c (nb_S 12 k 0))) r) : c_T [a0, Int32.ofNat 12, Int32.ofNat k, a3, a4, a5] c_m35 0 [some (.ref 0), some (.int 12), some (.int (Int32.ofNat k)), none] [] t_h0 (.inl (some (.int (Int32.ofNat c))), (s_h (k34_B v1) k34_12_hs).set 40 (w_c (nb_S 12 k 4096))) := by
  have H := e_Bf (f := k34_f [a0, Int32.ofNat 12, Int32.ofNat k, a3, a4, a5] 0 k34_12_v0) (n0 := 64) (D := [(2, .retAddr 12, .int 2, .retAddr 64)]) (by decide) (by decide +kernel)
  have h64 : (e_B (k34_f [a0, Int32.ofNat 12, Int32.ofNat k, a3, a4, a5] 0 k34_12_v0) 64 [(2, .retAddr 12, .int 2, .retAddr 64)]).2 64 = Int32.ofNat (2 * k) := by
    have h1 : (e_B (k34_f [a0, Int32.ofNat 12, Int32.ofNat k, a3, a4, a5] 0 k34_12_v0) 64 [(2, .retAddr 12, .int 2, .retAddr 64)]).2 12 * 2 = (e_B (k34_f [a0, Int32.ofNat 12, Int32.ofNat k, a3, a4, a5] 0 k34_12_v0) 64 [(2, .retAddr 12, .int 2, .retAddr 64)]).2 64 := Option.some.inj (e_ri (e_at H 0 rfl))
    rw [← h1, Nat.mul_comm, Int32.ofNat_mul]
    rfl
  have F1 : ∀ f ∈ ([(22, .retAddr 12, .int 0, .int 0), (25, .retAddr 12, .int 12, .int 1), (2, .retAddr 12, .int 2, .retAddr 64), (22, .retAddr 64, .int 12, .int 1)] : List c_F), c_hold (e_B (k34_f [a0, Int32.ofNat 12, Int32.ofNat k, a3, a4, a5] 0 k34_12_v0) 64 [(2, .retAddr 12, .int 2, .retAddr 64)]) f := (List.forall_mem_cons.mpr ⟨o_lt0 (p := k) (q := 0) rfl rfl (by omega) (by decide) (by omega), (List.forall_mem_cons.mpr ⟨o_le1 (p := k) (q := 12) rfl rfl (by omega) (by decide) (by omega), (List.forall_mem_cons.mpr ⟨e_at H 0 rfl, (List.forall_mem_cons.mpr ⟨o_lt1 (p := 2 * k) (q := 12) (congrArg some h64) rfl (by omega) (by decide) hk, (fun _ h => nomatch h)⟩)⟩)⟩)⟩)
  have hH : s_h (e_B (k34_f [a0, Int32.ofNat 12, Int32.ofNat k, a3, a4, a5] 0 v1) 64 []) k34_12_hs = s_h (k34_B v1) k34_12_hs := e_hc (k34_ag (by decide)) k34_12_hsk
  refine q_pre0 (B := (e_B (k34_f [a0, Int32.ofNat 12, Int32.ofNat k, a3, a4, a5] 0 k34_12_v0) 64 [(2, .retAddr 12, .int 2, .retAddr 64)])) (K1 := [some (.ref 0), some (.int 12), some (.int (Int32.ofNat k)), some (.int (Int32.ofNat 0))]) (t1 := []) k34_12_xx F1 k34_12_A3 rfl rfl rfl rfl (k34_h0 _) (k34_h0 _) ?_
  rw [k34_12_z0, ← w_0]
  refine hcl _ ?_
  refine q_pre (B := (e_B (k34_f [a0, Int32.ofNat 12, Int32.ofNat k, a3, a4, a5] 0 v1) 64 [])) (F := []) (K1 := [some (.ref 0), some (.int 12), some (.int (Int32.ofNat k)), some (.int (Int32.ofNat 4096))]) (t1 := [.ref 39]) k34_hx (fun _ h => nomatch h) k34_12_e rfl rfl rfl rfl rfl hH hH ?_
  have hc : c_callee c_m35 100 [.ref 39] (s_h (e_B (k34_f [a0, Int32.ofNat 12, Int32.ofNat k, a3, a4, a5] 0 v1) 64 []) k34_12_hs) = some (150, [some (.ref 39), none, none, none, none, none, none], []) := c_callee_s (B := (e_B (k34_f [a0, Int32.ofNat 12, Int32.ofNat k, a3, a4, a5] 0 v1) 64 [])) k34_12_C4
  rw [hH] at hc
  refine c_Run.call (c_callee_p (s_nth_none rfl) hc) rfl (hcnt v1) ?_
  exact r_iret (p1 := 0) (p2 := 0) (p3 := 0) (by decide +kernel) rfl
theorem k34_12_FB {a0 a3 a4 a5 : Int32} {k c : Nat} {v1 v3 : Nat → Int32} (h3 : v3 35 = Int32.ofNat c) (h31 : ∀ i, i < 34 → v3 i = v1 i) (hA : c_T [a0, Int32.ofNat 12, Int32.ofNat k, a3, a4, a5] c_m35 0 [some (.ref 0), some (.int 12), some (.int (Int32.ofNat k)), none] [] t_h0 (.inl (some (.int (Int32.ofNat c))), (s_h (k34_B v1) k34_12_hs).set 40 (w_c (nb_S 12 k 4096)))) : c_T [a0, Int32.ofNat 12, Int32.ofNat k, a3, a4, a5] c_m222 0 [some (.ref 0), some (.int 12), some (.int (Int32.ofNat k)), some (.ref 75), none] [] t_h0 (.inl (some (.int 0)), (s_h (k34_B v3) k34_12_hs7).set 40 (w_c (nb_S 12 k 4096))) := by
  have hgl : ∀ j, 18 ≤ j → j < 34 → (e_B (k34_f [a0, Int32.ofNat 12, Int32.ofNat k, a3, a4, a5] 0 v3) 64 []).2 j = (k34_B v1).2 j := fun j h1 h2 => (k34_ag (hi := 34) (by decide) j h1 h2).trans (h31 j h2)
  have hg7 : s_h (e_B (k34_f [a0, Int32.ofNat 12, Int32.ofNat k, a3, a4, a5] 0 v3) 64 []) k34_12_hs7 = s_h (k34_B v3) k34_12_hs7 := e_hc (k34_ag (by decide)) k34_12_h7k
  refine q_pre0 (B := (e_B (k34_f [a0, Int32.ofNat 12, Int32.ofNat k, a3, a4, a5] 0 k34_12_v0) 64 [])) (F := []) (K1 := [some (.ref 0), some (.int 12), some (.int (Int32.ofNat k)), some (.ref 75), none]) (t1 := [.int (Int32.ofNat k), .int 12, .ref 0, .int 0, .ref 75]) k34_12_xx (fun _ h => nomatch h) k34_12_A2 rfl rfl rfl rfl (k34_h0 _) (k34_h0 _) ?_
  have hc : c_callee c_m222 5 [.int (Int32.ofNat k), .int 12, .ref 0, .int 0, .ref 75] (s_h (e_B (k34_f [a0, Int32.ofNat 12, Int32.ofNat k, a3, a4, a5] 0 k34_12_v0) 64 []) t_h0) = some (35, [some (.ref 0), some (.int 12), some (.int (Int32.ofNat k)), none], [.int 0, .ref 75]) := c_callee_s (B := (e_B (k34_f [a0, Int32.ofNat 12, Int32.ofNat k, a3, a4, a5] 0 k34_12_v0) 64 [])) k34_12_C2
  rw [k34_h0] at hc
  refine c_Run.call hc rfl hA ?_
  refine q_pre (B := (e_B (k34_f [a0, Int32.ofNat 12, Int32.ofNat k, a3, a4, a5] 0 v3) 64 [])) (F := []) (t1 := [.int 0]) k34_12_xx (fun _ h => nomatch h) k34_12_A4 rfl rfl rfl (by show [Value.int (v3 35), .int 0, .ref 75] = _; rw [h3]; rfl) rfl (e_hc hgl k34_12_hsk) hg7 ?_
  exact r_iret (p1 := 0) (p2 := 0) (p3 := 0) (by decide +kernel) rfl
theorem k34_12_FR {a0 a3 a4 a5 : Int32} {k c : Nat} {v3 v4 v2 : Nat → Int32} {G2 : c_Hp} (hk : 2 * k < 12) (hk6 : k < 6) (e4 : v4 = z_f (e_B (k34_f [a0, Int32.ofNat 12, Int32.ofNat k, a3, a4, a5] 0 v3) 64 [(2, .int 2, .retAddr 12, .retAddr 64)]) k34_12_q3) (href : c_T [a0, Int32.ofNat 12, Int32.ofNat k, a3, a4, a5] c_m130 71 [some (.ref 58), some (.int 12), some (.int (Int32.ofNat k)), some (.ref 77), some (.ref 78), some (.int (Int32.ofNat 0)), none, none, none, none] [] (((s_h (k34_B v4) k34_12_rs0).set 40 (w_c (nb_S 12 k 4096))).set 77 (b_c 4096 (0))) (.inl (some (.int (Int32.ofNat c))), (((s_h (k34_B v2) k34_12_rs0 ++ (G2 ++ s_h (k34_B v2) k34_12_lv)).set 40 (w_c (nb_S 12 k 4096))).set 77 (b_c 4096 (nb_S 12 k 4096))))) : c_T [a0, Int32.ofNat 12, Int32.ofNat k, a3, a4, a5] c_m130 0 [some (.ref 58), some (.int 12), some (.int (Int32.ofNat k)), none, none, none, none, none, none, none] [] ((s_h (k34_B v3) k34_12_hs7).set 40 (w_c (nb_S 12 k 4096))) (.inl (some (.int (Int32.ofNat c))), (((s_h (k34_B v2) k34_12_rs0 ++ (G2 ++ s_h (k34_B v2) k34_12_lv)).set 40 (w_c (nb_S 12 k 4096))).set 77 (b_c 4096 (nb_S 12 k 4096)))) := by
  have H := e_Bf (f := k34_f [a0, Int32.ofNat 12, Int32.ofNat k, a3, a4, a5] 0 v3) (n0 := 64) (D := [(2, .int 2, .retAddr 12, .retAddr 64)]) (by decide) (by decide +kernel)
  have h64 : (e_B (k34_f [a0, Int32.ofNat 12, Int32.ofNat k, a3, a4, a5] 0 v3) 64 [(2, .int 2, .retAddr 12, .retAddr 64)]).2 64 = Int32.ofNat (2 * k) := by
    have h1 : 2 * (e_B (k34_f [a0, Int32.ofNat 12, Int32.ofNat k, a3, a4, a5] 0 v3) 64 [(2, .int 2, .retAddr 12, .retAddr 64)]).2 12 = (e_B (k34_f [a0, Int32.ofNat 12, Int32.ofNat k, a3, a4, a5] 0 v3) 64 [(2, .int 2, .retAddr 12, .retAddr 64)]).2 64 := Option.some.inj (e_ir (e_at H 0 rfl))
    rw [← h1, Int32.ofNat_mul]
    rfl
  have F1 : ∀ f ∈ ([(22, .retAddr 12, .int 0, .int 0), (24, .retAddr 12, .int 12, .int 0), (2, .int 2, .retAddr 12, .retAddr 64), (22, .retAddr 64, .int 12, .int 1)] : List c_F), c_hold (e_B (k34_f [a0, Int32.ofNat 12, Int32.ofNat k, a3, a4, a5] 0 v3) 64 [(2, .int 2, .retAddr 12, .retAddr 64)]) f := (List.forall_mem_cons.mpr ⟨o_lt0 (p := k) (q := 0) rfl rfl (by omega) (by decide) (by omega), (List.forall_mem_cons.mpr ⟨o_gt0 (p := k) (q := 12) rfl rfl (by omega) (by decide) (by omega), (List.forall_mem_cons.mpr ⟨e_at H 0 rfl, (List.forall_mem_cons.mpr ⟨o_lt1 (p := 2 * k) (q := 12) (congrArg some h64) rfl (by omega) (by decide) hk, (fun _ h => nomatch h)⟩)⟩)⟩)⟩)
  have hh : s_h (e_B (k34_f [a0, Int32.ofNat 12, Int32.ofNat k, a3, a4, a5] 0 v3) 64 [(2, .int 2, .retAddr 12, .retAddr 64)]) k34_12_hs7 = s_h (k34_B v3) k34_12_hs7 := e_hc (k34_ag (by decide)) k34_12_h7k
  refine q_pre (B := (e_B (k34_f [a0, Int32.ofNat 12, Int32.ofNat k, a3, a4, a5] 0 v3) 64 [(2, .int 2, .retAddr 12, .retAddr 64)])) (K1 := [some (.ref 58), some (.int 12), some (.int (Int32.ofNat k)), some (.ref 77), some (.ref 78), some (.int (Int32.ofNat 0)), none, none, none, none]) (t1 := []) k34_12_xx F1 k34_12_A6 rfl rfl rfl rfl rfl hh rfl ?_
  rw [q_hset, q_rep, k34_12_rn, ← b_0, List.set_comm _ _ (by decide), ← e4]
  exact href
theorem k34_12_FL {a0 a3 a4 a5 : Int32} {k c : Nat} {v3 v2 : Nat → Int32} {G2 : c_Hp} (h0 : a0 &&& 63 = 34) (hG : m_told G2) (h35 : v2 35 = Int32.ofNat c) (hB : c_T [a0, Int32.ofNat 12, Int32.ofNat k, a3, a4, a5] c_m222 0 [some (.ref 0), some (.int 12), some (.int (Int32.ofNat k)), some (.ref 75), none] [] t_h0 (.inl (some (.int 0)), (s_h (k34_B v3) k34_12_hs7).set 40 (w_c (nb_S 12 k 4096)))) (hR : c_T [a0, Int32.ofNat 12, Int32.ofNat k, a3, a4, a5] c_m130 0 [some (.ref 58), some (.int 12), some (.int (Int32.ofNat k)), none, none, none, none, none, none, none] [] ((s_h (k34_B v3) k34_12_hs7).set 40 (w_c (nb_S 12 k 4096))) (.inl (some (.int (Int32.ofNat c))), (((s_h (k34_B v2) k34_12_rs0 ++ (G2 ++ s_h (k34_B v2) k34_12_lv)).set 40 (w_c (nb_S 12 k 4096))).set 77 (b_c 4096 (nb_S 12 k 4096))))) : c_T [a0, Int32.ofNat 12, Int32.ofNat k, a3, a4, a5] c_m259 38 t_L0 [] t_h0 (.inl (some (.int 1)), (((s_h (k34_B v2) k34_12_rs0 ++ (G2 ++ s_h (k34_B v2) k34_12_lv)).set 40 (w_c (nb_S 12 k 4096))).set 77 (b_c 4096 (nb_S 12 k 4096)))) := by
  have F1 : ∀ f ∈ ([(3, .retAddr 10, .int 63, .int 34)] : List c_F), c_hold (e_B (k34_f [a0, Int32.ofNat 12, Int32.ofNat k, a3, a4, a5] 0 k34_12_v0) 64 []) f := List.forall_mem_cons.mpr ⟨⟨a0, 63, 34, rfl, rfl, congrArg some h0, rfl⟩, fun _ h => nomatch h⟩
  have hg7 : s_h (e_B (k34_f [a0, Int32.ofNat 12, Int32.ofNat k, a3, a4, a5] 0 v3) 64 []) k34_12_hs7 = s_h (k34_B v3) k34_12_hs7 := e_hc (k34_ag (by decide)) k34_12_h7k
  refine q_pre0 (B := (e_B (k34_f [a0, Int32.ofNat 12, Int32.ofNat k, a3, a4, a5] 0 k34_12_v0) 64 [])) (K1 := [some (.retAddr 0), some (.ref 0), some (.ref 58), some (.ref 75), some (.ref 76), some (.int 0), none, none, none]) (t1 := [.ref 75, .int (Int32.ofNat k), .int 12, .ref 0]) k34_12_xx F1 k34_12_A1 rfl rfl rfl rfl (k34_h0 _) (k34_h0 _) ?_
  have hc : c_callee c_m259 2255 [.ref 75, .int (Int32.ofNat k), .int 12, .ref 0] (s_h (e_B (k34_f [a0, Int32.ofNat 12, Int32.ofNat k, a3, a4, a5] 0 k34_12_v0) 64 []) t_h0) = some (222, [some (.ref 0), some (.int 12), some (.int (Int32.ofNat k)), some (.ref 75), none], []) := c_callee_s (B := (e_B (k34_f [a0, Int32.ofNat 12, Int32.ofNat k, a3, a4, a5] 0 k34_12_v0) 64 [])) k34_12_C1
  rw [k34_h0] at hc
  refine c_Run.call hc rfl hB ?_
  refine q_pre (B := (e_B (k34_f [a0, Int32.ofNat 12, Int32.ofNat k, a3, a4, a5] 0 v3) 64 [])) (F := []) (K1 := [some (.retAddr 0), some (.ref 0), some (.ref 58), some (.ref 75), some (.ref 76), some (.int 0), some (.int 0), none, none]) (t1 := [.int (Int32.ofNat k), .int 12, .ref 58]) k34_12_xx (fun _ h => nomatch h) k34_12_A5 rfl rfl rfl rfl rfl hg7 hg7 ?_
  have hc : c_callee c_m259 2273 [.int (Int32.ofNat k), .int 12, .ref 58] (s_h (e_B (k34_f [a0, Int32.ofNat 12, Int32.ofNat k, a3, a4, a5] 0 v3) 64 []) k34_12_hs7) = some (130, [some (.ref 58), some (.int 12), some (.int (Int32.ofNat k)), none, none, none, none, none, none, none], []) := c_callee_s (B := (e_B (k34_f [a0, Int32.ofNat 12, Int32.ofNat k, a3, a4, a5] 0 v3) 64 [])) k34_12_C3
  rw [hg7] at hc
  refine c_Run.call (c_callee_p (s_nth_none rfl) hc) rfl hR ?_
  have hg : ∀ j, 18 ≤ j → j < 60 → (e_B (k34_f [a0, Int32.ofNat 12, Int32.ofNat k, a3, a4, a5] 0 v2) 64 []).2 j = (k34_B v2).2 j := k34_ag (hi := 60) (by decide)
  have a1 := k34_12_g1 (e_B (k34_f [a0, Int32.ofNat 12, Int32.ofNat k, a3, a4, a5] 0 v2) 64 []) hG
  rw [e_hc hg k34_12_rsk, e_hc hg k34_12_lvk] at a1
  refine q_preg (i := 40) (j := 77) (G := G2) (n := 79) (B := (e_B (k34_f [a0, Int32.ofNat 12, Int32.ofNat k, a3, a4, a5] 0 v2) 64 [])) (F := []) (t1 := [.int 1]) k34_12_xx (fun _ h => nomatch h) k34_12_A7 (by decide) (by decide) (by decide) (by decide) rfl rfl rfl rfl (by show [Value.int (v2 35)] = _; rw [h35]; rfl) rfl a1 a1 ?_
  exact r_iretB (p1 := 0) (p2 := 0) (p3 := 0) (by decide +kernel) rfl
theorem k34_12_all {a0 a3 a4 a5 : Int32} {k c : Nat} (hk : 2 * k < 12) (hk6 : k < 6) (h0 : a0 &&& 63 = 34) (hcnt : ∀ v : Nat → Int32, c_T [a0, Int32.ofNat 12, Int32.ofNat k, a3, a4, a5] c_m150 0 [some (.ref 39), none, none, none, none, none, none] [] ((s_h (k34_B v) k34_12_hs).set 40 (w_c (nb_S 12 k 4096))) (.inl (some (.int (Int32.ofNat c))), (s_h (k34_B v) k34_12_hs).set 40 (w_c (nb_S 12 k 4096)))) (hC : nb_c (nb_S 12 k 4096) 4096 = c) : c_Goal [a0, Int32.ofNat 12, Int32.ofNat k, a3, a4, a5] := by
  obtain ⟨v1, hcl⟩ := k34_12_cl (a0 := a0) (a3 := a3) (a4 := a4) (a5 := a5) hk 4096 0 rfl k34_12_v0
  have hA := k34_12_FA (a0 := a0) (a3 := a3) (a4 := a4) (a5 := a5) hk hk6 hcnt hcl
  have hB := k34_12_FB (a0 := a0) (a3 := a3) (a4 := a4) (a5 := a5) (v3 := fun i => if i = 35 then Int32.ofNat c else v1 i) (if_pos rfl) (fun i h => if_neg (by omega)) hA
  obtain ⟨v4, e4⟩ : ∃ v4 : Nat → Int32, v4 = z_f (e_B (k34_f [a0, Int32.ofNat 12, Int32.ofNat k, a3, a4, a5] 0 (fun i => if i = 35 then Int32.ofNat c else v1 i)) 64 [(2, .int 2, .retAddr 12, .retAddr 64)]) k34_12_q3 := ⟨_, rfl⟩
  have h45 : v4 35 = Int32.ofNat c := by
    rw [e4]
    rfl
  obtain ⟨v2, G2, hG, hl, hm, h35, href⟩ := k34_12_ref (a0 := a0) (a3 := a3) (a4 := a4) (a5 := a5) (u := (w_c (nb_S 12 k 4096))) hk hk6 v4
  rw [hC] at href
  have hR := k34_12_FR (a0 := a0) (a3 := a3) (a4 := a4) (a5 := a5) hk hk6 e4 href
  refine t_goal (k34_12_FL h0 hG (h35.trans h45) hB hR) ?_ ?_
  · rw [List.length_set, List.length_set, List.length_append, List.length_append, s_lenH, s_lenH, show k34_12_rs0.length = 79 from rfl, show k34_12_lv.length = 2 from rfl]
    omega
  · refine Nat.le_trans (q_msz _ _ _) ?_
    refine Nat.le_trans (Nat.add_le_add_right (q_msz _ _ _) _) ?_
    rw [m_szapp, m_szapp, m_szs, m_szs, w_sz, b_sz, show c_msz k34_12_rs0 = 1964 from by decide +kernel, show c_msz k34_12_lv = 24 from by decide +kernel]
    omega
