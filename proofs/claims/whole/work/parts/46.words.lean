/-! every word of the common list stands in the tables -/
theorem lw_memi {a b : List Cond} (is : List Nat) (h : is.map (fun i => a[i]?) = b.map some) : ∀ w ∈ b, w ∈ a := by
  intro w hw
  have h2 : some w ∈ b.map some := List.mem_map.mpr ⟨w, hw, rfl⟩
  rw [← h] at h2
  obtain ⟨i, -, e⟩ := List.mem_map.mp h2
  exact List.mem_of_getElem? e
set_option maxRecDepth 100000 in
theorem lw_in0 : ∀ w ∈ vzB_0, w ∈ lw_tbl := lw_memi [23, 24, 25, 26, 27, 28, 29, 30, 31, 32, 33, 34, 35, 36, 37, 38, 39, 40, 41, 42, 43, 44, 45, 46, 47, 48, 49, 50, 51, 52, 53, 54, 55, 56, 58, 60, 63, 64, 65, 66] rfl
set_option maxRecDepth 100000 in
theorem lw_in1 : ∀ w ∈ vzB_1, w ∈ lw_tbl := lw_memi [67, 68, 69, 70, 71, 72, 73, 74, 75, 76, 77, 78, 79, 81, 83, 85, 87, 89, 91, 93, 95, 97, 99, 101, 103, 105, 108, 109, 110, 111, 112, 114, 116, 118, 121, 122, 123, 124, 125, 0] rfl
set_option maxRecDepth 100000 in
theorem lw_in2 : ∀ w ∈ vzB_2, w ∈ lw_tbl := lw_memi [127, 128, 129, 1, 131, 132, 133, 134, 135, 136, 137, 138, 139, 140, 142, 143, 144, 145, 146, 147, 148, 149, 150, 151, 152, 153, 154, 155, 156, 157, 158, 159, 160, 161, 162, 163, 2, 165, 166, 167] rfl
set_option maxRecDepth 100000 in
theorem lw_in3 : ∀ w ∈ vzB_3, w ∈ lw_tbl := lw_memi [168, 169, 170, 171, 172, 3, 174, 175, 176, 177, 178, 179, 180, 181, 182, 183, 184, 185, 186, 187, 188, 189, 190, 191, 192, 193, 194, 195, 196, 197, 198, 199, 200, 201, 202, 203, 204, 205, 206, 207] rfl
set_option maxRecDepth 100000 in
theorem lw_in4 : ∀ w ∈ vzB_4, w ∈ lw_tbl := lw_memi [208, 209, 210, 211, 212, 213, 214, 215, 216, 217, 218, 219, 220, 221, 222, 223, 224, 225, 226, 227, 228, 229, 230, 231, 232, 233, 234, 235, 236, 237, 238, 4, 240, 241, 242, 243, 244, 245, 246, 247] rfl
set_option maxRecDepth 100000 in
theorem lw_in5 : ∀ w ∈ vzB_5, w ∈ lw_tbl := lw_memi [248, 249, 250, 5, 252, 253, 254, 6, 256, 257, 258, 259, 260, 261, 262, 7, 264, 265, 266, 267, 268, 269, 270, 271, 272, 273, 274, 275, 276, 8, 278, 279, 280, 281, 282, 283, 284, 285, 286, 287] rfl
set_option maxRecDepth 100000 in
theorem lw_in6 : ∀ w ∈ vzB_6, w ∈ lw_tbl := lw_memi [288, 289, 290, 291, 292, 293, 294, 295, 296, 297, 298, 299, 300, 301, 302, 303, 304, 305, 306, 307, 308, 309, 310, 311, 312, 313, 314, 315, 316, 317, 318, 319, 320, 321, 322, 323, 324, 325, 326, 327] rfl
set_option maxRecDepth 100000 in
theorem lw_in7 : ∀ w ∈ vzB_7, w ∈ lw_tbl := lw_memi [328, 329, 330, 331, 332, 333, 334, 335, 336, 337, 338, 339, 340, 341, 342, 343, 344, 345, 346, 347, 348, 349, 350, 351, 352, 353, 354, 355, 356, 357, 359, 361, 363, 365, 367, 369, 371, 373, 375, 377] rfl
set_option maxRecDepth 100000 in
theorem lw_in8 : ∀ w ∈ vzB_8, w ∈ lw_tbl := lw_memi [379, 381, 384, 385, 386, 387, 388, 389, 9, 391, 392, 393, 10, 395, 396, 397, 11, 399, 400, 401, 12, 403, 404, 405, 13, 407, 408, 409, 14, 411, 412, 413, 414, 415, 416, 417, 418, 419, 420, 421] rfl
set_option maxRecDepth 100000 in
theorem lw_in9 : ∀ w ∈ vzB_9, w ∈ lw_tbl := lw_memi [422, 423, 424, 425, 426, 427, 428, 429, 430, 431, 432, 433, 434, 435, 436, 437, 438, 439, 440, 441, 442, 443, 444, 445, 446, 447, 448, 449, 450, 451, 452, 453, 454, 15, 456, 457, 458, 16, 460, 461] rfl
set_option maxRecDepth 100000 in
theorem lw_in10 : ∀ w ∈ vzB_10, w ∈ lw_tbl := lw_memi [462, 17, 464, 465, 466, 467, 468, 469, 470, 471, 472, 473, 474, 475, 476, 477, 478, 479, 480, 481, 482, 18, 484, 485, 486, 19, 488, 489, 490, 20, 492, 493, 494, 21, 496, 497, 498, 22, 500, 501] rfl
set_option maxRecDepth 100000 in
theorem lw_in11 : ∀ w ∈ vzB_11, w ∈ lw_tbl := lw_memi [502, 503, 504, 505, 506, 507, 508, 509, 510, 511, 512, 513, 514, 515, 516, 517, 518, 519, 520, 521, 522, 523, 524, 525] rfl
theorem lw_in : ∀ w ∈ vzB, w ∈ lw_tbl := by
  intro w h
  rcases List.mem_append.mp h with h | h
  · exact lw_in0 w h
  rcases List.mem_append.mp h with h | h
  · exact lw_in1 w h
  rcases List.mem_append.mp h with h | h
  · exact lw_in2 w h
  rcases List.mem_append.mp h with h | h
  · exact lw_in3 w h
  rcases List.mem_append.mp h with h | h
  · exact lw_in4 w h
  rcases List.mem_append.mp h with h | h
  · exact lw_in5 w h
  rcases List.mem_append.mp h with h | h
  · exact lw_in6 w h
  rcases List.mem_append.mp h with h | h
  · exact lw_in7 w h
  rcases List.mem_append.mp h with h | h
  · exact lw_in8 w h
  rcases List.mem_append.mp h with h | h
  · exact lw_in9 w h
  rcases List.mem_append.mp h with h | h
  · exact lw_in10 w h
  exact lw_in11 w h
set_option maxRecDepth 100000 in
theorem lw_nest : nW ∈ lw_tbl := List.mem_of_getElem? (i := 141) rfl
