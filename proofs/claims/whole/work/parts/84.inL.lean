/-! ===== the law's words among the tables' ===== -/
theorem mem_r {big : List Cond} {ws : List Cond} (ps : List Nat) (hp : ws = ps.filterMap (fun i => big[i]?)) : ∀ w ∈ ws, w ∈ big := fun w h => by
  rw [hp] at h
  obtain ⟨i, -, hi⟩ := List.mem_filterMap.mp h
  exact List.mem_of_getElem? hi
set_option maxRecDepth 20000 in
theorem inL1 : ∀ w ∈ wsL_law_r1, w ∈ lw_tbl := mem_r [39, 40, 32, 299, 300, 34, 41, 42, 43, 44, 45, 46, 47, 79, 81, 82, 49, 50, 33, 83, 84, 85, 86, 87] rfl
set_option maxRecDepth 20000 in
theorem inL2 : ∀ w ∈ wsL_law_r2, w ∈ lw_tbl := mem_r [51, 52, 53, 54, 55, 80, 57, 58, 59, 60, 61, 62, 63, 301, 302, 303, 304, 305, 307, 311, 312, 313, 314, 317] rfl
set_option maxRecDepth 20000 in
theorem inL3 : ∀ w ∈ wsL_law_r3, w ∈ lw_tbl := mem_r [318, 323, 103, 104, 105, 106, 363, 364, 365, 366, 306, 107, 108, 109, 110, 111, 112, 113, 114, 115, 116, 117, 118, 119] rfl
set_option maxRecDepth 20000 in
theorem inL4 : ∀ w ∈ wsL_law_r4, w ∈ lw_tbl := mem_r [367, 368, 369, 370, 371, 372, 373, 120, 121, 122, 123, 128, 130, 129, 35, 124, 126, 0, 127, 374, 375, 376, 377, 131] rfl
set_option maxRecDepth 20000 in
theorem inL5 : ∀ w ∈ wsL_law_r5, w ∈ lw_tbl := mem_r [132, 133, 134, 378, 379, 380, 381, 135, 136, 137, 138, 382, 383, 384, 385, 139, 140, 141, 142, 143, 145, 1, 146, 386] rfl
set_option maxRecDepth 20000 in
theorem inL6 : ∀ w ∈ wsL_law_r6, w ∈ lw_tbl := mem_r [387, 388, 389, 147, 148, 149, 150, 151, 152, 36, 153, 154, 156, 2, 157, 158, 160, 3, 161, 162, 163, 164, 165, 166] rfl
set_option maxRecDepth 20000 in
theorem inL7 : ∀ w ∈ wsL_law_r7, w ∈ lw_tbl := mem_r [167, 37, 168, 169, 170, 171, 172, 173, 175, 4, 176, 183, 177, 178, 38, 179, 180, 181, 182, 184, 185, 186, 187, 188] rfl
set_option maxRecDepth 20000 in
theorem inL8 : ∀ w ∈ wsL_law_r8, w ∈ lw_tbl := mem_r [189, 190, 191, 192, 193, 194, 195, 196, 197, 198, 199, 225, 200, 202, 5, 203, 204, 206, 6, 207, 208, 210, 7, 211] rfl
set_option maxRecDepth 20000 in
theorem inL9 : ∀ w ∈ wsL_law_r9, w ∈ lw_tbl := mem_r [212, 214, 8, 215, 216, 218, 9, 219, 224, 220, 221, 222, 223, 226, 228, 10, 229, 230, 232, 11, 233, 234, 236, 12] rfl
set_option maxRecDepth 20000 in
theorem inL10 : ∀ w ∈ wsL_law_r10, w ∈ lw_tbl := mem_r [237, 238, 239, 240, 241, 242, 244, 13, 245, 246, 248, 14, 249, 250, 252, 15, 253, 254, 256, 16, 257, 390, 391, 392] rfl
set_option maxRecDepth 20000 in
theorem inL11 : ∀ w ∈ wsL_law_r11, w ∈ lw_tbl := mem_r [393, 394, 396, 18, 397, 315, 398, 400, 19, 401, 402, 404, 20, 405, 406, 408, 21, 409, 316, 410, 412, 22, 413, 414] rfl
set_option maxRecDepth 20000 in
theorem inL12 : ∀ w ∈ wsL_law_r12, w ∈ lw_tbl := mem_r [415, 416, 417, 419, 23, 420, 421, 423, 24, 424, 319, 320, 425, 427, 25, 428, 429, 430, 431, 432, 433, 434, 435, 436] rfl
set_option maxRecDepth 20000 in
theorem inL13 : ∀ w ∈ wsL_law_r13, w ∈ lw_tbl := mem_r [437, 439, 26, 440, 441, 443, 27, 444, 445, 447, 28, 448, 258, 259, 260, 261, 262, 264, 17, 265, 449, 450, 451, 452] rfl
set_option maxRecDepth 20000 in
theorem inL14 : ∀ w ∈ wsL_law_r14, w ∈ lw_tbl := mem_r [453, 266, 267, 268, 269, 270, 271, 272, 273, 274, 275, 276, 277, 454, 455, 456, 457, 321, 322, 458, 460, 29, 461, 462] rfl
set_option maxRecDepth 20000 in
theorem inL15 : ∀ w ∈ wsL_law_r15, w ∈ lw_tbl := mem_r [463, 465, 30, 466, 278, 279, 280, 281, 282, 283, 284, 285, 286, 287, 288, 289, 290, 467, 468, 469, 470, 310, 308, 309] rfl
set_option maxRecDepth 20000 in
theorem inL16 : ∀ w ∈ wsL_law_r16, w ∈ lw_tbl := mem_r [291, 292, 293, 294, 471, 472, 473, 474, 295, 296, 297, 298, 475, 476, 477, 478] rfl
set_option maxRecDepth 20000 in
theorem inBX0 : ∀ w ∈ wsX00, w ∈ lw_tbl := mem_r [64, 66, 68, 70, 72, 74, 76] rfl
set_option maxRecDepth 20000 in
theorem inBX1 : ∀ w ∈ wsX10, w ∈ lw_tbl := mem_r [88, 90, 92, 94, 96, 98, 100] rfl
set_option maxRecDepth 20000 in
theorem inBX2 : ∀ w ∈ wsX20, w ∈ lw_tbl := mem_r [324, 326, 328, 330, 332, 334, 336, 338, 340, 342, 344, 346, 348, 350, 352, 354, 356, 358, 360] rfl
theorem wsL_law_in : ∀ w ∈ wsL_law, w ∈ lw_tbl := List.forall_mem_append.mpr ⟨List.forall_mem_append.mpr ⟨List.forall_mem_append.mpr ⟨List.forall_mem_append.mpr ⟨List.forall_mem_append.mpr ⟨inL1, List.forall_mem_append.mpr ⟨inL2, List.forall_mem_append.mpr ⟨inL3, List.forall_mem_append.mpr ⟨inL4, List.forall_mem_append.mpr ⟨inL5, List.forall_mem_append.mpr ⟨inL6, List.forall_mem_append.mpr ⟨inL7, List.forall_mem_append.mpr ⟨inL8, List.forall_mem_append.mpr ⟨inL9, List.forall_mem_append.mpr ⟨inL10, List.forall_mem_append.mpr ⟨inL11, List.forall_mem_append.mpr ⟨inL12, List.forall_mem_append.mpr ⟨inL13, List.forall_mem_append.mpr ⟨inL14, List.forall_mem_append.mpr ⟨inL15, inL16⟩⟩⟩⟩⟩⟩⟩⟩⟩⟩⟩⟩⟩⟩⟩, inBX1⟩, inBX2⟩, inBX0⟩, fun _ h => absurd h List.not_mem_nil⟩
