def cS36 : List zCl := [(9, (13, [some 1, none, some 2, some 112, some 222, none, some 223, some 224, some 317, some 321, some 360, some 363, none])), (21, (400, [])), (8, (2, [some 3, none])), (24, (12, [some 4, some 13, some 22, some 31, some 40, some 49, some 58, some 67, some 76, some 85, some 94, some 103])), (7, (9, [none, none, none, some 5, some 7, some 9, some 10, some 11, some 12])), (5, (2, [some 6, none])), (20, (4, [])), (5, (2, [some 8, none])), (20, (4, [])), (20, (4, [])), (20, (26, [])), (20, (104, [])), (20, (104, [])), (7, (9, [none, none, none, some 14, some 16, some 18, some 19, some 20, some 21])), (5, (2, [some 15, none])), (20, (4, [])), (5, (2, [some 17, none])), (20, (4, [])), (20, (4, [])), (20, (26, [])), (20, (104, [])), (20, (104, [])), (7, (9, [none, none, none, some 23, some 25, some 27, some 28, some 29, some 30])), (5, (2, [some 24, none])), (20, (4, [])), (5, (2, [some 26, none])), (20, (4, [])), (20, (4, [])), (20, (26, [])), (20, (104, [])), (20, (104, [])), (7, (9, [none, none, none, some 32, some 34, some 36, some 37, some 38, some 39])), (5, (2, [some 33, none])), (20, (4, [])), (5, (2, [some 35, none])), (20, (4, [])), (20, (4, [])), (20, (26, [])), (20, (104, [])), (20, (104, [])), (7, (9, [none, none, none, some 41, some 43, some 45, some 46, some 47, some 48])), (5, (2, [some 42, none])), (20, (4, [])), (5, (2, [some 44, none])), (20, (4, [])), (20, (4, [])), (20, (26, [])), (20, (104, [])), (20, (104, [])), (7, (9, [none, none, none, some 50, some 52, some 54, some 55, some 56, some 57])), (5, (2, [some 51, none])), (20, (4, [])), (5, (2, [some 53, none])), (20, (4, [])), (20, (4, [])), (20, (26, [])), (20, (104, [])), (20, (104, [])), (7, (9, [none, none, none, some 59, some 61, some 63, some 64, some 65, some 66])), (5, (2, [some 60, none])), (20, (4, [])), (5, (2, [some 62, none])), (20, (4, [])), (20, (4, [])), (20, (26, [])), (20, (104, [])), (20, (104, [])), (7, (9, [none, none, none, some 68, some 70, some 72, some 73, some 74, some 75])), (5, (2, [some 69, none])), (20, (4, [])), (5, (2, [some 71, none])), (20, (4, [])), (20, (4, [])), (20, (26, [])), (20, (104, [])), (20, (104, [])), (7, (9, [none, none, none, some 77, some 79, some 81, some 82, some 83, some 84])), (5, (2, [some 78, none])), (20, (4, [])), (5, (2, [some 80, none])), (20, (4, [])), (20, (4, [])), (20, (26, [])), (20, (104, [])), (20, (104, [])), (7, (9, [none, none, none, some 86, some 88, some 90, some 91, some 92, some 93])), (5, (2, [some 87, none])), (20, (4, [])), (5, (2, [some 89, none])), (20, (4, [])), (20, (4, [])), (20, (26, [])), (20, (104, [])), (20, (104, [])), (7, (9, [none, none, none, some 95, some 97, some 99, some 100, some 101, some 102])), (5, (2, [some 96, none])), (20, (4, [])), (5, (2, [some 98, none])), (20, (4, [])), (20, (4, [])), (20, (26, [])), (20, (104, [])), (20, (104, [])), (7, (9, [none, none, none, some 104, some 106, some 108, some 109, some 110, some 111])), (5, (2, [some 105, none])), (20, (4, [])), (5, (2, [some 107, none])), (20, (4, [])), (20, (4, [])), (20, (26, [])), (20, (104, [])), (20, (104, [])), (8, (2, [some 113, none])), (24, (12, [some 114, some 123, some 132, some 141, some 150, some 159, some 168, some 177, some 186, some 195, some 204, some 213])), (7, (9, [none, none, none, some 115, some 117, some 119, some 120, some 121, some 122])), (5, (2, [some 116, none])), (20, (4, [])), (5, (2, [some 118, none])), (20, (4, [])), (20, (4, [])), (20, (26, [])), (20, (104, [])), (20, (104, [])), (7, (9, [none, none, none, some 124, some 126, some 128, some 129, some 130, some 131])), (5, (2, [some 125, none])), (20, (4, [])), (5, (2, [some 127, none])), (20, (4, [])), (20, (4, [])), (20, (26, [])), (20, (104, [])), (20, (104, [])), (7, (9, [none, none, none, some 133, some 135, some 137, some 138, some 139, some 140])), (5, (2, [some 134, none])), (20, (4, [])), (5, (2, [some 136, none])), (20, (4, [])), (20, (4, [])), (20, (26, [])), (20, (104, [])), (20, (104, [])), (7, (9, [none, none, none, some 142, some 144, some 146, some 147, some 148, some 149])), (5, (2, [some 143, none])), (20, (4, [])), (5, (2, [some 145, none])), (20, (4, [])), (20, (4, [])), (20, (26, [])), (20, (104, [])), (20, (104, [])), (7, (9, [none, none, none, some 151, some 153, some 155, some 156, some 157, some 158])), (5, (2, [some 152, none])), (20, (4, [])), (5, (2, [some 154, none])), (20, (4, [])), (20, (4, [])), (20, (26, [])), (20, (104, [])), (20, (104, [])), (7, (9, [none, none, none, some 160, some 162, some 164, some 165, some 166, some 167])), (5, (2, [some 161, none])), (20, (4, [])), (5, (2, [some 163, none])), (20, (4, [])), (20, (4, [])), (20, (26, [])), (20, (104, [])), (20, (104, [])), (7, (9, [none, none, none, some 169, some 171, some 173, some 174, some 175, some 176])), (5, (2, [some 170, none])), (20, (4, [])), (5, (2, [some 172, none])), (20, (4, [])), (20, (4, [])), (20, (26, [])), (20, (104, [])), (20, (104, [])), (7, (9, [none, none, none, some 178, some 180, some 182, some 183, some 184, some 185])), (5, (2, [some 179, none])), (20, (4, [])), (5, (2, [some 181, none])), (20, (4, [])), (20, (4, [])), (20, (26, [])), (20, (104, [])), (20, (104, [])), (7, (9, [none, none, none, some 187, some 189, some 191, some 192, some 193, some 194])), (5, (2, [some 188, none])), (20, (4, [])), (5, (2, [some 190, none])), (20, (4, [])), (20, (4, [])), (20, (26, [])), (20, (104, [])), (20, (104, [])), (7, (9, [none, none, none, some 196, some 198, some 200, some 201, some 202, some 203])), (5, (2, [some 197, none])), (20, (4, [])), (5, (2, [some 199, none])), (20, (4, [])), (20, (4, [])), (20, (26, [])), (20, (104, [])), (20, (104, [])), (7, (9, [none, none, none, some 205, some 207, some 209, some 210, some 211, some 212])), (5, (2, [some 206, none])), (20, (4, [])), (5, (2, [some 208, none])), (20, (4, [])), (20, (4, [])), (20, (26, [])), (20, (104, [])), (20, (104, [])), (7, (9, [none, none, none, some 214, some 216, some 218, some 219, some 220, some 221])), (5, (2, [some 215, none])), (20, (4, [])), (5, (2, [some 217, none])), (20, (4, [])), (20, (4, [])), (20, (26, [])), (20, (104, [])), (20, (104, [])), (25, (2, [none, none])), (4, (8, [none, none, none, none, none, none, none, none])), (1, (4, [some 225, some 226, none, none])), (24, (10, [some 227, some 236, some 245, some 254, some 263, some 272, some 281, some 290, some 299, some 308])), (20, (10, [])), (7, (9, [none, none, none, some 228, some 230, some 232, some 233, some 234, some 235])), (5, (2, [some 229, none])), (20, (4, [])), (5, (2, [some 231, none])), (20, (4, [])), (20, (4, [])), (20, (26, [])), (20, (104, [])), (20, (104, [])), (7, (9, [none, none, none, some 237, some 239, some 241, some 242, some 243, some 244])), (5, (2, [some 238, none])), (20, (4, [])), (5, (2, [some 240, none])), (20, (4, [])), (20, (4, [])), (20, (26, [])), (20, (104, [])), (20, (104, [])), (7, (9, [none, none, none, some 246, some 248, some 250, some 251, some 252, some 253])), (5, (2, [some 247, none])), (20, (4, [])), (5, (2, [some 249, none])), (20, (4, [])), (20, (4, [])), (20, (26, [])), (20, (104, [])), (20, (104, [])), (7, (9, [none, none, none, some 255, some 257, some 259, some 260, some 261, some 262])), (5, (2, [some 256, none])), (20, (4, [])), (5, (2, [some 258, none])), (20, (4, [])), (20, (4, [])), (20, (26, [])), (20, (104, [])), (20, (104, [])), (7, (9, [none, none, none, some 264, some 266, some 268, some 269, some 270, some 271])), (5, (2, [some 265, none])), (20, (4, [])), (5, (2, [some 267, none])), (20, (4, [])), (20, (4, [])), (20, (26, [])), (20, (104, [])), (20, (104, [])), (7, (9, [none, none, none, some 273, some 275, some 277, some 278, some 279, some 280])), (5, (2, [some 274, none])), (20, (4, [])), (5, (2, [some 276, none])), (20, (4, [])), (20, (4, [])), (20, (26, [])), (20, (104, [])), (20, (104, [])), (7, (9, [none, none, none, some 282, some 284, some 286, some 287, some 288, some 289])), (5, (2, [some 283, none])), (20, (4, [])), (5, (2, [some 285, none])), (20, (4, [])), (20, (4, [])), (20, (26, [])), (20, (104, [])), (20, (104, [])), (7, (9, [none, none, none, some 291, some 293, some 295, some 296, some 297, some 298])), (5, (2, [some 292, none])), (20, (4, [])), (5, (2, [some 294, none])), (20, (4, [])), (20, (4, [])), (20, (26, [])), (20, (104, [])), (20, (104, [])), (7, (9, [none, none, none, some 300, some 302, some 304, some 305, some 306, some 307])), (5, (2, [some 301, none])), (20, (4, [])), (5, (2, [some 303, none])), (20, (4, [])), (20, (4, [])), (20, (26, [])), (20, (104, [])), (20, (104, [])), (7, (9, [none, none, none, some 309, some 311, some 313, some 314, some 315, some 316])), (5, (2, [some 310, none])), (20, (4, [])), (5, (2, [some 312, none])), (20, (4, [])), (20, (4, [])), (20, (26, [])), (20, (104, [])), (20, (104, [])), (0, (3, [some 318, some 319, some 320])), (20, (312, [])), (20, (312, [])), (20, (312, [])), (2, (10, [some 322, some 335, some 336, some 349, some 350, some 351, some 357, some 358, some 359, none])), (26, (12, [some 323, some 324, some 325, some 326, some 327, some 328, some 329, some 330, some 331, some 332, some 333, some 334])), (20, (12, [])), (20, (12, [])), (20, (12, [])), (20, (12, [])), (20, (12, [])), (20, (12, [])), (20, (12, [])), (20, (12, [])), (20, (12, [])), (20, (12, [])), (20, (12, [])), (20, (12, [])), (20, (12, [])), (26, (12, [some 337, some 338, some 339, some 340, some 341, some 342, some 343, some 344, some 345, some 346, some 347, some 348])), (20, (12, [])), (20, (12, [])), (20, (12, [])), (20, (12, [])), (20, (12, [])), (20, (12, [])), (20, (12, [])), (20, (12, [])), (20, (12, [])), (20, (12, [])), (20, (12, [])), (20, (12, [])), (20, (12, [])), (20, (12, [])), (26, (5, [some 352, some 353, some 354, some 355, some 356])), (20, (12, [])), (20, (12, [])), (20, (12, [])), (20, (12, [])), (20, (12, [])), (20, (5, [])), (20, (5, [])), (20, (12, [])), (3, (3, [some 361, some 362, none])), (20, (12, [])), (20, (4096, [])), (6, (11, [none, none, none, none, none, none, none, none, none, none, none]))]
def cS37 : List zCl := cS36.set 222 (25, (2, [some 364, none])) ++ wB 364
def cF1 : List zCl := [(9, (13, [some 1, none, some 2, some 112, some 222, none, some 223, some 224, some 317, some 321, some 360, some 363, none])), (21, (400, [])), (8, (2, [some 3, none])), (24, (12, [some 4, some 13, some 22, some 31, some 40, some 49, some 58, some 67, some 76, some 85, some 94, some 103])), (7, (9, [none, none, none, some 5, some 7, some 9, some 10, some 11, some 12])), (5, (2, [some 6, none])), (20, (4, [])), (5, (2, [some 8, none])), (20, (4, [])), (20, (4, [])), (20, (26, [])), (20, (104, [])), (20, (104, [])), (7, (9, [none, none, none, some 14, some 16, some 18, some 19, some 20, some 21])), (5, (2, [some 15, none])), (20, (4, [])), (5, (2, [some 17, none])), (20, (4, [])), (20, (4, [])), (20, (26, [])), (20, (104, [])), (20, (104, [])), (7, (9, [none, none, none, some 23, some 25, some 27, some 28, some 29, some 30])), (5, (2, [some 24, none])), (20, (4, [])), (5, (2, [some 26, none])), (20, (4, [])), (20, (4, [])), (20, (26, [])), (20, (104, [])), (20, (104, [])), (7, (9, [none, none, none, some 32, some 34, some 36, some 37, some 38, some 39])), (5, (2, [some 33, none])), (20, (4, [])), (5, (2, [some 35, none])), (20, (4, [])), (20, (4, [])), (20, (26, [])), (20, (104, [])), (20, (104, [])), (7, (9, [none, none, none, some 41, some 43, some 45, some 46, some 47, some 48])), (5, (2, [some 42, none])), (20, (4, [])), (5, (2, [some 44, none])), (20, (4, [])), (20, (4, [])), (20, (26, [])), (20, (104, [])), (20, (104, [])), (7, (9, [none, none, none, some 50, some 52, some 54, some 55, some 56, some 57])), (5, (2, [some 51, none])), (20, (4, [])), (5, (2, [some 53, none])), (20, (4, [])), (20, (4, [])), (20, (26, [])), (20, (104, [])), (20, (104, [])), (7, (9, [none, none, none, some 59, some 61, some 63, some 64, some 65, some 66])), (5, (2, [some 60, none])), (20, (4, [])), (5, (2, [some 62, none])), (20, (4, [])), (20, (4, [])), (20, (26, [])), (20, (104, [])), (20, (104, [])), (7, (9, [none, none, none, some 68, some 70, some 72, some 73, some 74, some 75])), (5, (2, [some 69, none])), (20, (4, [])), (5, (2, [some 71, none])), (20, (4, [])), (20, (4, [])), (20, (26, [])), (20, (104, [])), (20, (104, [])), (7, (9, [none, none, none, some 77, some 79, some 81, some 82, some 83, some 84])), (5, (2, [some 78, none])), (20, (4, [])), (5, (2, [some 80, none])), (20, (4, [])), (20, (4, [])), (20, (26, [])), (20, (104, [])), (20, (104, [])), (7, (9, [none, none, none, some 86, some 88, some 90, some 91, some 92, some 93])), (5, (2, [some 87, none])), (20, (4, [])), (5, (2, [some 89, none])), (20, (4, [])), (20, (4, [])), (20, (26, [])), (20, (104, [])), (20, (104, [])), (7, (9, [none, none, none, some 95, some 97, some 99, some 100, some 101, some 102])), (5, (2, [some 96, none])), (20, (4, [])), (5, (2, [some 98, none])), (20, (4, [])), (20, (4, [])), (20, (26, [])), (20, (104, [])), (20, (104, [])), (7, (9, [none, none, none, some 104, some 106, some 108, some 109, some 110, some 111])), (5, (2, [some 105, none])), (20, (4, [])), (5, (2, [some 107, none])), (20, (4, [])), (20, (4, [])), (20, (26, [])), (20, (104, [])), (20, (104, [])), (8, (2, [some 113, none])), (24, (12, [some 114, some 123, some 132, some 141, some 150, some 159, some 168, some 177, some 186, some 195, some 204, some 213])), (7, (9, [none, none, none, some 115, some 117, some 119, some 120, some 121, some 122])), (5, (2, [some 116, none])), (20, (4, [])), (5, (2, [some 118, none])), (20, (4, [])), (20, (4, [])), (20, (26, [])), (20, (104, [])), (20, (104, [])), (7, (9, [none, none, none, some 124, some 126, some 128, some 129, some 130, some 131])), (5, (2, [some 125, none])), (20, (4, [])), (5, (2, [some 127, none])), (20, (4, [])), (20, (4, [])), (20, (26, [])), (20, (104, [])), (20, (104, [])), (7, (9, [none, none, none, some 133, some 135, some 137, some 138, some 139, some 140])), (5, (2, [some 134, none])), (20, (4, [])), (5, (2, [some 136, none])), (20, (4, [])), (20, (4, [])), (20, (26, [])), (20, (104, [])), (20, (104, [])), (7, (9, [none, none, none, some 142, some 144, some 146, some 147, some 148, some 149])), (5, (2, [some 143, none])), (20, (4, [])), (5, (2, [some 145, none])), (20, (4, [])), (20, (4, [])), (20, (26, [])), (20, (104, [])), (20, (104, [])), (7, (9, [none, none, none, some 151, some 153, some 155, some 156, some 157, some 158])), (5, (2, [some 152, none])), (20, (4, [])), (5, (2, [some 154, none])), (20, (4, [])), (20, (4, [])), (20, (26, [])), (20, (104, [])), (20, (104, [])), (7, (9, [none, none, none, some 160, some 162, some 164, some 165, some 166, some 167])), (5, (2, [some 161, none])), (20, (4, [])), (5, (2, [some 163, none])), (20, (4, [])), (20, (4, [])), (20, (26, [])), (20, (104, [])), (20, (104, [])), (7, (9, [none, none, none, some 169, some 171, some 173, some 174, some 175, some 176])), (5, (2, [some 170, none])), (20, (4, [])), (5, (2, [some 172, none])), (20, (4, [])), (20, (4, [])), (20, (26, [])), (20, (104, [])), (20, (104, [])), (7, (9, [none, none, none, some 178, some 180, some 182, some 183, some 184, some 185])), (5, (2, [some 179, none])), (20, (4, [])), (5, (2, [some 181, none])), (20, (4, [])), (20, (4, [])), (20, (26, [])), (20, (104, [])), (20, (104, [])), (7, (9, [none, none, none, some 187, some 189, some 191, some 192, some 193, some 194])), (5, (2, [some 188, none])), (20, (4, [])), (5, (2, [some 190, none])), (20, (4, [])), (20, (4, [])), (20, (26, [])), (20, (104, [])), (20, (104, [])), (7, (9, [none, none, none, some 196, some 198, some 200, some 201, some 202, some 203])), (5, (2, [some 197, none])), (20, (4, [])), (5, (2, [some 199, none])), (20, (4, [])), (20, (4, [])), (20, (26, [])), (20, (104, [])), (20, (104, [])), (7, (9, [none, none, none, some 205, some 207, some 209, some 210, some 211, some 212])), (5, (2, [some 206, none])), (20, (4, [])), (5, (2, [some 208, none])), (20, (4, [])), (20, (4, [])), (20, (26, [])), (20, (104, [])), (20, (104, [])), (7, (9, [none, none, none, some 214, some 216, some 218, some 219, some 220, some 221])), (5, (2, [some 215, none])), (20, (4, [])), (5, (2, [some 217, none])), (20, (4, [])), (20, (4, [])), (20, (26, [])), (20, (104, [])), (20, (104, [])), (25, (2, [some 364, some 474])), (4, (8, [none, none, none, none, none, none, none, none])), (1, (4, [some 225, some 226, none, none])), (24, (10, [some 227, some 236, some 245, some 254, some 263, some 272, some 281, some 290, some 299, some 308])), (20, (10, [])), (7, (9, [none, none, none, some 228, some 230, some 232, some 233, some 234, some 235])), (5, (2, [some 229, none])), (20, (4, [])), (5, (2, [some 231, none])), (20, (4, [])), (20, (4, [])), (20, (26, [])), (20, (104, [])), (20, (104, [])), (7, (9, [none, none, none, some 237, some 239, some 241, some 242, some 243, some 244])), (5, (2, [some 238, none])), (20, (4, [])), (5, (2, [some 240, none])), (20, (4, [])), (20, (4, [])), (20, (26, [])), (20, (104, [])), (20, (104, [])), (7, (9, [none, none, none, some 246, some 248, some 250, some 251, some 252, some 253])), (5, (2, [some 247, none])), (20, (4, [])), (5, (2, [some 249, none])), (20, (4, [])), (20, (4, [])), (20, (26, [])), (20, (104, [])), (20, (104, [])), (7, (9, [none, none, none, some 255, some 257, some 259, some 260, some 261, some 262])), (5, (2, [some 256, none])), (20, (4, [])), (5, (2, [some 258, none])), (20, (4, [])), (20, (4, [])), (20, (26, [])), (20, (104, [])), (20, (104, [])), (7, (9, [none, none, none, some 264, some 266, some 268, some 269, some 270, some 271])), (5, (2, [some 265, none])), (20, (4, [])), (5, (2, [some 267, none])), (20, (4, [])), (20, (4, [])), (20, (26, [])), (20, (104, [])), (20, (104, [])), (7, (9, [none, none, none, some 273, some 275, some 277, some 278, some 279, some 280])), (5, (2, [some 274, none])), (20, (4, [])), (5, (2, [some 276, none])), (20, (4, [])), (20, (4, [])), (20, (26, [])), (20, (104, [])), (20, (104, [])), (7, (9, [none, none, none, some 282, some 284, some 286, some 287, some 288, some 289])), (5, (2, [some 283, none])), (20, (4, [])), (5, (2, [some 285, none])), (20, (4, [])), (20, (4, [])), (20, (26, [])), (20, (104, [])), (20, (104, [])), (7, (9, [none, none, none, some 291, some 293, some 295, some 296, some 297, some 298])), (5, (2, [some 292, none])), (20, (4, [])), (5, (2, [some 294, none])), (20, (4, [])), (20, (4, [])), (20, (26, [])), (20, (104, [])), (20, (104, [])), (7, (9, [none, none, none, some 300, some 302, some 304, some 305, some 306, some 307])), (5, (2, [some 301, none])), (20, (4, [])), (5, (2, [some 303, none])), (20, (4, [])), (20, (4, [])), (20, (26, [])), (20, (104, [])), (20, (104, [])), (7, (9, [none, none, none, some 309, some 311, some 313, some 314, some 315, some 316])), (5, (2, [some 310, none])), (20, (4, [])), (5, (2, [some 312, none])), (20, (4, [])), (20, (4, [])), (20, (26, [])), (20, (104, [])), (20, (104, [])), (0, (3, [some 318, some 319, some 320])), (20, (312, [])), (20, (312, [])), (20, (312, [])), (2, (10, [some 322, some 335, some 336, some 349, some 350, some 351, some 357, some 358, some 359, none])), (26, (12, [some 323, some 324, some 325, some 326, some 327, some 328, some 329, some 330, some 331, some 332, some 333, some 334])), (20, (12, [])), (20, (12, [])), (20, (12, [])), (20, (12, [])), (20, (12, [])), (20, (12, [])), (20, (12, [])), (20, (12, [])), (20, (12, [])), (20, (12, [])), (20, (12, [])), (20, (12, [])), (20, (12, [])), (26, (12, [some 337, some 338, some 339, some 340, some 341, some 342, some 343, some 344, some 345, some 346, some 347, some 348])), (20, (12, [])), (20, (12, [])), (20, (12, [])), (20, (12, [])), (20, (12, [])), (20, (12, [])), (20, (12, [])), (20, (12, [])), (20, (12, [])), (20, (12, [])), (20, (12, [])), (20, (12, [])), (20, (12, [])), (20, (12, [])), (26, (5, [some 352, some 353, some 354, some 355, some 356])), (20, (12, [])), (20, (12, [])), (20, (12, [])), (20, (12, [])), (20, (12, [])), (20, (5, [])), (20, (5, [])), (20, (12, [])), (3, (3, [some 361, some 362, none])), (20, (12, [])), (20, (4096, [])), (6, (11, [none, none, none, none, none, none, none, none, none, none, none])), (8, (2, [some 365, none])), (24, (12, [some 366, some 375, some 384, some 393, some 402, some 411, some 420, some 429, some 438, some 447, some 456, some 465])), (7, (9, [none, none, none, some 367, some 369, some 371, some 372, some 373, some 374])), (5, (2, [some 368, none])), (20, (4, [])), (5, (2, [some 370, none])), (20, (4, [])), (20, (4, [])), (20, (26, [])), (20, (104, [])), (20, (104, [])), (7, (9, [none, none, none, some 376, some 378, some 380, some 381, some 382, some 383])), (5, (2, [some 377, none])), (20, (4, [])), (5, (2, [some 379, none])), (20, (4, [])), (20, (4, [])), (20, (26, [])), (20, (104, [])), (20, (104, [])), (7, (9, [none, none, none, some 385, some 387, some 389, some 390, some 391, some 392])), (5, (2, [some 386, none])), (20, (4, [])), (5, (2, [some 388, none])), (20, (4, [])), (20, (4, [])), (20, (26, [])), (20, (104, [])), (20, (104, [])), (7, (9, [none, none, none, some 394, some 396, some 398, some 399, some 400, some 401])), (5, (2, [some 395, none])), (20, (4, [])), (5, (2, [some 397, none])), (20, (4, [])), (20, (4, [])), (20, (26, [])), (20, (104, [])), (20, (104, [])), (7, (9, [none, none, none, some 403, some 405, some 407, some 408, some 409, some 410])), (5, (2, [some 404, none])), (20, (4, [])), (5, (2, [some 406, none])), (20, (4, [])), (20, (4, [])), (20, (26, [])), (20, (104, [])), (20, (104, [])), (7, (9, [none, none, none, some 412, some 414, some 416, some 417, some 418, some 419])), (5, (2, [some 413, none])), (20, (4, [])), (5, (2, [some 415, none])), (20, (4, [])), (20, (4, [])), (20, (26, [])), (20, (104, [])), (20, (104, [])), (7, (9, [none, none, none, some 421, some 423, some 425, some 426, some 427, some 428])), (5, (2, [some 422, none])), (20, (4, [])), (5, (2, [some 424, none])), (20, (4, [])), (20, (4, [])), (20, (26, [])), (20, (104, [])), (20, (104, [])), (7, (9, [none, none, none, some 430, some 432, some 434, some 435, some 436, some 437])), (5, (2, [some 431, none])), (20, (4, [])), (5, (2, [some 433, none])), (20, (4, [])), (20, (4, [])), (20, (26, [])), (20, (104, [])), (20, (104, [])), (7, (9, [none, none, none, some 439, some 441, some 443, some 444, some 445, some 446])), (5, (2, [some 440, none])), (20, (4, [])), (5, (2, [some 442, none])), (20, (4, [])), (20, (4, [])), (20, (26, [])), (20, (104, [])), (20, (104, [])), (7, (9, [none, none, none, some 448, some 450, some 452, some 453, some 454, some 455])), (5, (2, [some 449, none])), (20, (4, [])), (5, (2, [some 451, none])), (20, (4, [])), (20, (4, [])), (20, (26, [])), (20, (104, [])), (20, (104, [])), (7, (9, [none, none, none, some 457, some 459, some 461, some 462, some 463, some 464])), (5, (2, [some 458, none])), (20, (4, [])), (5, (2, [some 460, none])), (20, (4, [])), (20, (4, [])), (20, (26, [])), (20, (104, [])), (20, (104, [])), (7, (9, [none, none, none, some 466, some 468, some 470, some 471, some 472, some 473])), (5, (2, [some 467, none])), (20, (4, [])), (5, (2, [some 469, none])), (20, (4, [])), (20, (4, [])), (20, (26, [])), (20, (104, [])), (20, (104, [])), (8, (2, [some 475, none])), (24, (12, [some 476, some 485, some 494, some 503, some 512, some 521, some 530, some 539, some 548, some 557, some 566, some 575])), (7, (9, [none, none, none, some 477, some 479, some 481, some 482, some 483, some 484])), (5, (2, [some 478, none])), (20, (4, [])), (5, (2, [some 480, none])), (20, (4, [])), (20, (4, [])), (20, (26, [])), (20, (104, [])), (20, (104, [])), (7, (9, [none, none, none, some 486, some 488, some 490, some 491, some 492, some 493])), (5, (2, [some 487, none])), (20, (4, [])), (5, (2, [some 489, none])), (20, (4, [])), (20, (4, [])), (20, (26, [])), (20, (104, [])), (20, (104, [])), (7, (9, [none, none, none, some 495, some 497, some 499, some 500, some 501, some 502])), (5, (2, [some 496, none])), (20, (4, [])), (5, (2, [some 498, none])), (20, (4, [])), (20, (4, [])), (20, (26, [])), (20, (104, [])), (20, (104, [])), (7, (9, [none, none, none, some 504, some 506, some 508, some 509, some 510, some 511])), (5, (2, [some 505, none])), (20, (4, [])), (5, (2, [some 507, none])), (20, (4, [])), (20, (4, [])), (20, (26, [])), (20, (104, [])), (20, (104, [])), (7, (9, [none, none, none, some 513, some 515, some 517, some 518, some 519, some 520])), (5, (2, [some 514, none])), (20, (4, [])), (5, (2, [some 516, none])), (20, (4, [])), (20, (4, [])), (20, (26, [])), (20, (104, [])), (20, (104, [])), (7, (9, [none, none, none, some 522, some 524, some 526, some 527, some 528, some 529])), (5, (2, [some 523, none])), (20, (4, [])), (5, (2, [some 525, none])), (20, (4, [])), (20, (4, [])), (20, (26, [])), (20, (104, [])), (20, (104, [])), (7, (9, [none, none, none, some 531, some 533, some 535, some 536, some 537, some 538])), (5, (2, [some 532, none])), (20, (4, [])), (5, (2, [some 534, none])), (20, (4, [])), (20, (4, [])), (20, (26, [])), (20, (104, [])), (20, (104, [])), (7, (9, [none, none, none, some 540, some 542, some 544, some 545, some 546, some 547])), (5, (2, [some 541, none])), (20, (4, [])), (5, (2, [some 543, none])), (20, (4, [])), (20, (4, [])), (20, (26, [])), (20, (104, [])), (20, (104, [])), (7, (9, [none, none, none, some 549, some 551, some 553, some 554, some 555, some 556])), (5, (2, [some 550, none])), (20, (4, [])), (5, (2, [some 552, none])), (20, (4, [])), (20, (4, [])), (20, (26, [])), (20, (104, [])), (20, (104, [])), (7, (9, [none, none, none, some 558, some 560, some 562, some 563, some 564, some 565])), (5, (2, [some 559, none])), (20, (4, [])), (5, (2, [some 561, none])), (20, (4, [])), (20, (4, [])), (20, (26, [])), (20, (104, [])), (20, (104, [])), (7, (9, [none, none, none, some 567, some 569, some 571, some 572, some 573, some 574])), (5, (2, [some 568, none])), (20, (4, [])), (5, (2, [some 570, none])), (20, (4, [])), (20, (4, [])), (20, (26, [])), (20, (104, [])), (20, (104, [])), (7, (9, [none, none, none, some 576, some 578, some 580, some 581, some 582, some 583])), (5, (2, [some 577, none])), (20, (4, [])), (5, (2, [some 579, none])), (20, (4, [])), (20, (4, [])), (20, (26, [])), (20, (104, [])), (20, (104, []))]
theorem cast_c {cs : List zCl} {q : Nat × Nat} {o t ci v n nv : Nat} {refs rv : List (Option Nat)} {j : Int32} (h1 : cs[o]? = some (20 + t, (n, refs))) (h2 : cs[v]? = some (ci, (nv, rv))) (hr : refs.length = n) (hj : zin j n = true) : cast_ (cs, q) o t ci v j = some (cs.set o (20 + t, (n, refs.set (zn j) (some v))), q) := by
  unfold cast_
  dsimp only
  rw [h1, h2]
  simp [zob, hr, hj]
theorem zloop_n {σ ε ρ : Type} {f : σ → Option (σ ⊕ (ε ⊕ ρ))} {n : Nat} {s s' : σ} (h : f s = some (.inl s')) : zloop f (n + 1) s = zloop f n s' := by
  rw [zloop, h]; rfl
theorem zloop_e {σ ε ρ : Type} {f : σ → Option (σ ⊕ (ε ⊕ ρ))} {n : Nat} {s : σ} {e : ε ⊕ ρ} (h : f s = some (.inr e)) : zloop f (n + 1) s = some e := by
  rw [zloop, h]; rfl
theorem cS36_len : cS36.length = 364 := by decide +kernel
theorem cS37_len : cS37.length = 474 := by decide +kernel
set_option maxRecDepth 100000 in
theorem k9a : kX9_init_L111 0 (0, (cS36, (363, 14774))) = some (.inl (1, (cS37, (473, 17896)))) := by
  unfold kX9_init_L111
  dsimp only
  rw [if_neg (by decide)]
  rw [show cget (cS36, (363, 14774)) 0 9 13 4 = some 222 from by decide +kernel, Option.bind_some]
  rw [cnew_s _ _ _ _ _ _ _ (by decide) (by decide), Option.bind_some]
  dsimp only
  rw [kW, Option.bind_some]
  dsimp only
  rw [cadd_s _ _ _ _ _ _ _ _ (by decide) (by decide), Option.bind_some]
  rw [cS36_len]
  rw [cast_c (n := 2) (refs := [none, none]) (nv := 2) (rv := [some 365, none]) (by decide +kernel) (by decide +kernel) rfl (by decide), Option.bind_some]
  refine congrArg (fun l : List zCl => some (Sum.inl ((0 + 1, (l, (473, 17896))) : Int32 × zCm))) (?_ : _ = cS37)
  decide +kernel
set_option maxRecDepth 100000 in
theorem k9b : kX9_init_L111 0 (1, (cS37, (473, 17896))) = some (.inl (2, (cF1, (583, 21018)))) := by
  unfold kX9_init_L111
  dsimp only
  rw [if_neg (by decide)]
  rw [show cget (cS37, (473, 17896)) 0 9 13 4 = some 222 from by decide +kernel, Option.bind_some]
  rw [cnew_s _ _ _ _ _ _ _ (by decide) (by decide), Option.bind_some]
  dsimp only
  rw [kW, Option.bind_some]
  dsimp only
  rw [cadd_s _ _ _ _ _ _ _ _ (by decide) (by decide), Option.bind_some]
  rw [cS37_len]
  rw [cast_c (n := 2) (refs := [some 364, none]) (nv := 2) (rv := [some 475, none]) (by decide +kernel) (by decide +kernel) rfl (by decide), Option.bind_some]
  refine congrArg (fun l : List zCl => some (Sum.inl ((1 + 1, (l, (583, 21018))) : Int32 × zCm))) (?_ : _ = cF1)
  decide +kernel
theorem k9t (L : List zCl) (hL : L = cS36) : (zloop (kX9_init_L111 0) 20 (0, (L, (363, 14774)))) = some (.inl (cF1, (583, 21018))) := by
  subst hL
  rw [show (20 : Nat) = 17 + 1 + 1 + 1 from rfl, zloop_n k9a, zloop_n k9b]
  exact zloop_e rfl
def cM0 : zCl := (10, (29, [none, none, none, none, none, none, none, none, none, none, none, none, none, none, none, none, none, none, none, none, none, none, none, none, none, none, none, none, none]))
def cF2 : List zCl := [(10, (29, [some 585, some 586, some 587, some 588, some 589, none, some 590, none, none, none, none, none, some 591, some 592, some 593, some 594, some 595, some 596, some 597, some 598, some 599, some 600, none, none, none, none, none, none, none])), (20, (1357, [])), (20, (1357, [])), (20, (13570, [])), (20, (2714, [])), (22, (2, [])), (21, (400, [])), (20, (1560, [])), (20, (144, [])), (20, (12, [])), (20, (144, [])), (20, (12, [])), (20, (60, [])), (20, (5, [])), (20, (5, [])), (20, (12, [])), (23, (4096, []))]
set_option maxRecDepth 100000 in
theorem cF1_ok : kX9_init 0 [bN 9 13] = some (cF1, (583, 21018)) := by
  unfold kX9_init kX9_init_b
  show ((cnar ((9, (13, List.replicate 13 none)) :: [], (0, 0)) 583 21018 1 400).bind _) = _
  rw [cnar_s _ _ _ _ _ _ _ (by decide) (by decide) (by decide), Option.bind_some]
  dsimp only
  rw [List.cons_append, cput0, Option.bind_some]
  rw [cnew_s _ _ _ _ _ _ _ (by decide) (by decide), Option.bind_some]
  dsimp only
  rw [kW, Option.bind_some]
  dsimp only
  rw [cadd_s _ _ _ _ _ _ _ _ (by decide) (by decide), Option.bind_some]
  rw [List.cons_append, cput0, Option.bind_some]
  rw [cnew_s _ _ _ _ _ _ _ (by decide) (by decide), Option.bind_some]
  dsimp only
  rw [kW, Option.bind_some]
  dsimp only
  rw [cadd_s _ _ _ _ _ _ _ _ (by decide) (by decide), Option.bind_some]
  rw [List.cons_append, cput0, Option.bind_some]
  rw [cnar_r _ _ _ _ _ _ _ (by decide) (by decide) (by decide), Option.bind_some]
  dsimp only
  rw [List.cons_append, cput0, Option.bind_some]
  rw [cnew_s _ _ _ _ _ _ _ (by decide) (by decide), Option.bind_some]
  dsimp only
  rw [kRd, Option.bind_some]
  dsimp only
  rw [cadd_s _ _ _ _ _ _ _ _ (by decide) (by decide), Option.bind_some]
  rw [List.cons_append, cput0, Option.bind_some]
  rw [cnew_s _ _ _ _ _ _ _ (by decide) (by decide), Option.bind_some]
  dsimp only
  rw [kH, Option.bind_some]
  dsimp only
  rw [cadd_s _ _ _ _ _ _ _ _ (by decide) (by decide), Option.bind_some]
  rw [List.cons_append, cput0, Option.bind_some]
  rw [cnew_s _ _ _ _ _ _ _ (by decide) (by decide), Option.bind_some]
  dsimp only
  rw [kF, Option.bind_some]
  dsimp only
  rw [cadd_s _ _ _ _ _ _ _ _ (by decide) (by decide), Option.bind_some]
  rw [List.cons_append, cput0, Option.bind_some]
  rw [cnew_s _ _ _ _ _ _ _ (by decide) (by decide), Option.bind_some]
  dsimp only
  rw [kL, Option.bind_some]
  dsimp only
  rw [cadd_s _ _ _ _ _ _ _ _ (by decide) (by decide), Option.bind_some]
  rw [List.cons_append, cput0, Option.bind_some]
  rw [cnew_s _ _ _ _ _ _ _ (by decide) (by decide), Option.bind_some]
  dsimp only
  rw [kO, Option.bind_some]
  dsimp only
  rw [cadd_s _ _ _ _ _ _ _ _ (by decide) (by decide), Option.bind_some]
  rw [List.cons_append, cput0, Option.bind_some]
  rw [cnew_s _ _ _ _ _ _ _ (by decide) (by decide), Option.bind_some]
  dsimp only
  rw [kSd, Option.bind_some]
  dsimp only
  rw [cadd_s _ _ _ _ _ _ _ _ (by decide) (by decide), Option.bind_some]
  rw [List.cons_append, cput0, Option.bind_some]
  · refine (congrArg (fun o => Option.bind o _) (k9t _ (by decide +kernel))).trans ?_
    rfl
  all_goals rfl
set_option maxRecDepth 100000 in
theorem cF2_ok : kX10_init 584 (cF1 ++ [bN 10 29]) = some (cF1 ++ cF2, (16, 25450)) := by
  unfold kX10_init kX10_init_b
  rw [show (584 : Nat) = cF1.length from by decide +kernel]
  rw [cnar_s _ _ _ _ _ _ _ (by decide) (by decide) (by decide), Option.bind_some]
  rw [List.append_assoc]
  show (cput (cF1 ++ (10, (29, List.replicate 29 none)) :: [_], _) _ _ _ _ _).bind _ = _
  rw [cput_s cF1 (ho := rfl), Option.bind_some]
  rw [cnar_s _ _ _ _ _ _ _ (by decide) (by decide) (by decide), Option.bind_some]
  dsimp only
  rw [List.append_assoc, List.cons_append, cput_s cF1 (ho := rfl), Option.bind_some]
  rw [cnar_s _ _ _ _ _ _ _ (by decide) (by decide) (by decide), Option.bind_some]
  dsimp only
  rw [List.append_assoc, List.cons_append, cput_s cF1 (ho := rfl), Option.bind_some]
  rw [cnar_s _ _ _ _ _ _ _ (by decide) (by decide) (by decide), Option.bind_some]
  dsimp only
  rw [List.append_assoc, List.cons_append, cput_s cF1 (ho := rfl), Option.bind_some]
  rw [cnar_s _ _ _ _ _ _ _ (by decide) (by decide) (by decide), Option.bind_some]
  dsimp only
  rw [List.append_assoc, List.cons_append, cput_s cF1 (ho := rfl), Option.bind_some]
  rw [cnar_s _ _ _ _ _ _ _ (by decide) (by decide) (by decide), Option.bind_some]
  dsimp only
  rw [List.append_assoc, List.cons_append, cput_s cF1 (ho := rfl), Option.bind_some]
  rw [cnar_s _ _ _ _ _ _ _ (by decide) (by decide) (by decide), Option.bind_some]
  dsimp only
  rw [List.append_assoc, List.cons_append, cput_s cF1 (ho := rfl), Option.bind_some]
  rw [cnar_s _ _ _ _ _ _ _ (by decide) (by decide) (by decide), Option.bind_some]
  dsimp only
  rw [List.append_assoc, List.cons_append, cput_s cF1 (ho := rfl), Option.bind_some]
  rw [cnar_s _ _ _ _ _ _ _ (by decide) (by decide) (by decide), Option.bind_some]
  dsimp only
  rw [List.append_assoc, List.cons_append, cput_s cF1 (ho := rfl), Option.bind_some]
  rw [cnar_s _ _ _ _ _ _ _ (by decide) (by decide) (by decide), Option.bind_some]
  dsimp only
  rw [List.append_assoc, List.cons_append, cput_s cF1 (ho := rfl), Option.bind_some]
  rw [cnar_s _ _ _ _ _ _ _ (by decide) (by decide) (by decide), Option.bind_some]
  dsimp only
  rw [List.append_assoc, List.cons_append, cput_s cF1 (ho := rfl), Option.bind_some]
  rw [cnar_s _ _ _ _ _ _ _ (by decide) (by decide) (by decide), Option.bind_some]
  dsimp only
  rw [List.append_assoc, List.cons_append, cput_s cF1 (ho := rfl), Option.bind_some]
  rw [cnar_s _ _ _ _ _ _ _ (by decide) (by decide) (by decide), Option.bind_some]
  dsimp only
  rw [List.append_assoc, List.cons_append, cput_s cF1 (ho := rfl), Option.bind_some]
  rw [cnar_s _ _ _ _ _ _ _ (by decide) (by decide) (by decide), Option.bind_some]
  dsimp only
  rw [List.append_assoc, List.cons_append, cput_s cF1 (ho := rfl), Option.bind_some]
  rw [cnar_s _ _ _ _ _ _ _ (by decide) (by decide) (by decide), Option.bind_some]
  dsimp only
  rw [List.append_assoc, List.cons_append, cput_s cF1 (ho := rfl), Option.bind_some]
  rw [cnar_s _ _ _ _ _ _ _ (by decide) (by decide) (by decide), Option.bind_some]
  dsimp only
  rw [List.append_assoc, List.cons_append, cput_s cF1 (ho := rfl), Option.bind_some]
  · refine (congrArg (fun l : List zCl => zob _ (some (l, _))) (?_ : _ = cF1 ++ cF2)).trans rfl
    decide +kernel
  all_goals rfl
def zwb (w : Nat) : Nat := match w with
  | 0 => 2 | 1 => 112 | 2 => 364 | _ => 474
def zub (n : Nat) : Nat := if n < 48 then zwb (n / 12) + 2 + 9 * (n % 12) else 227 + 9 * (n - 48)
/-- the place of a cell among the own ones -/
def zoff (k i : Nat) : Nat := match k with
  | 9 => 0 | 36 => 1 | 8 => zwb i | 35 => zwb i + 1 | 7 => zub i
  | 5 => zub (i / 2) + 1 + 2 * (i % 2) | 30 => zub (i / 2) + 2 + 2 * (i % 2) | 31 => zub i + 5 | 32 => zub i + 6 | 33 => zub i + 7 | 34 => zub i + 8
  | 37 => 222 | 4 => 223 | 1 => 224 | 14 => 225 | 15 => 226 | 0 => 317 | 11 => 318 | 12 => 319 | 13 => 320
  | 2 => 321 | 16 => 322 | 17 => 323 + i | 18 => 335 | 19 => 336 | 20 => 337 + i | 21 => 349 | 22 => 350 | 23 => 351 | 24 => 352 + i | 25 => 357 | 26 => 358 | 27 => 359
  | 3 => 360 | 28 => 361 | 29 => 362 | 6 => 363 | 10 => 584 | k => 547 + k
def cF : List zCl := cF1 ++ cF2
/-- the references that change, at the start -/
def zr0 (k s : Nat) : Option Nat := match k, s with
  | 9, 2 => some 0 | 9, 3 => some 1 | _, _ => none
/-- all numbers 0 -/
def zm0 : zM := (fun _ _ _ => 0, (fun _ => 0, zr0))
def zFN (k : Nat) : Nat := match k with
  | 0 => 3 | 1 => 4 | 2 => 10 | 3 => 3 | 4 => 8 | 5 => 2 | 6 => 11 | 7 => 9 | 8 => 2 | 9 => 13 | _ => 29
def zck1 (k i : Nat) : Bool := match cF[zoff k i]? with
  | some c => c.1 == k && (c.2.1 == zFN k && (List.range (zFN k)).all (fun j => match zfk k j with
    | 0 => true
    | 1 => c.2.2.getD j none == some (zoff (zlk k j) (zli k j i))
    | _ => c.2.2.getD j none == (zr0 k j).map (fun q => zoff (zlk k j) q)))
  | none => false
def zck2 (k i : Nat) : Bool := match zat k with
  | some q => (match cF[zoff k i]? with
    | some c => c.1 == 20 + q.1 && (c.2.1 == q.2 && (decide (q.1 < 4) || (List.range q.2).all (fun j => c.2.2.getD j none == some (zoff (zrk k) (zri k i j)))))
    | none => false)
  | none => false
set_option maxRecDepth 100000 in
theorem zck1_ok : (List.range 11).all (fun k => (List.range (zcnt k)).all (zck1 k)) = true := by decide +kernel
set_option maxRecDepth 100000 in
theorem zck2_ok : (List.range 43).all (fun k => (List.range (zcnt (11 + k))).all (zck2 (11 + k))) = true := by decide +kernel
/-- from a place back to kind and number -/
def zall : List (Nat × Nat) := (List.range 54).flatMap (fun k => (List.range (zcnt k)).map (fun i => (k, i)))
def zinv (o : Nat) : Option (Nat × Nat) := zall.find? (fun q => zoff q.1 q.2 == o)
set_option maxRecDepth 100000 in
theorem zinv_ok : zall.all (fun q => zinv (zoff q.1 q.2) == some q) = true := by decide +kernel
