/-! Every word of kw is in the tables. -/
def wOW : List Nat := [125, 162, 189, 148, 158, 494, 254, 506, 498, 519, 515, 511, 122, 9, 43, 182, 141, 176, 217, 224, 231, 238, 251, 171, 16, 190, 1, 191, 20, 192, 193, 24, 0, 5, 4, 133, 6, 104, 7, 3, 195, 197, 198, 200, 17, 19, 21, 23, 26, 28, 18, 114, 25, 115, 27, 126, 29, 35, 36, 34, 37, 31, 33, 32, 51, 30, 201, 202, 204, 52, 53, 54, 55, 56, 169, 205, 206, 208, 209, 57, 62, 63, 61, 58, 59, 60, 100, 101, 64, 210, 211, 213, 214, 65, 68, 75, 76, 77, 66, 67, 69, 70, 71, 167, 73, 74, 168, 166, 164, 165, 150, 154, 72, 215, 216, 219, 220, 78, 79, 80, 82, 83, 81, 222, 223, 226, 227, 84, 85, 86, 87, 229, 230, 233, 234, 88, 89, 90, 93, 94, 95, 91, 92, 236, 237, 240, 241, 96, 97, 98, 99, 103, 194, 102, 180, 139, 149, 221, 228, 235, 242, 151, 163, 196, 174, 152, 127, 105, 107, 108, 109, 10, 11, 12, 15, 14, 111, 112, 113, 123, 124, 132, 40, 41, 135, 136, 137, 13, 138, 142, 143, 144, 130, 131, 39, 48, 49, 50, 44, 45, 46, 129, 160, 161, 187, 188, 177, 178, 179, 183, 184, 185, 172, 173, 146, 147, 117, 118, 119, 120, 153, 156, 157, 368, 371, 373, 398, 405, 408, 413, 419, 430, 436, 439, 486, 492, 493, 249, 252, 253, 255, 256, 257, 258, 259, 260, 261, 262, 263, 264, 265, 266, 267, 268, 269, 270, 271, 272, 273, 274, 275, 276, 277, 278, 279, 280, 281, 282, 283, 284, 285, 286, 287, 288, 289, 290, 291, 292, 293, 294, 295, 296, 297, 298, 299, 300, 301, 302, 303, 304, 305, 306, 307, 308, 309, 310, 311, 312, 313, 314, 315, 316, 317, 318, 319, 320, 321, 322, 323, 324, 325, 326, 327, 328, 329, 330, 331, 332, 333, 334, 335, 336, 337, 338, 339, 340, 341, 342, 343, 344, 345, 346, 347, 348, 349, 350, 351, 352, 353, 354, 355, 356, 357, 358, 359, 360, 361, 362, 363, 364, 365, 366, 367, 369, 244, 245, 246, 247, 248, 243, 372, 374, 375, 376, 377, 378, 379, 380, 381, 382, 383, 384, 385, 386, 387, 388, 389, 390, 391, 392, 393, 394, 395, 396, 397, 399, 400, 401, 402, 403, 404, 406, 407, 409, 410, 411, 412, 414, 415, 416, 417, 418, 420, 421, 422, 423, 424, 425, 426, 427, 428, 429, 431, 432, 433, 434, 435, 437, 438, 440, 441, 442, 443, 444, 445, 446, 447, 448, 449, 450, 451, 452, 453, 454, 455, 456, 457, 458, 459, 460, 461, 462, 463, 464, 465, 466, 467, 468, 469, 470, 471, 472, 473, 474, 475, 476, 477, 478, 479, 480, 481, 482, 483, 484, 485, 487, 488, 489, 490, 370, 499, 504, 505, 496, 497, 517, 518, 513, 514, 501, 502, 507, 509, 510]
def wOF : List Nat := [0, 1, 2, 3, 4, 5, 6, 7, 8, 9, 10, 11, 12, 13, 14, 15, 16, 17, 18, 19, 20, 21, 22, 23, 24, 25, 26, 27, 28, 29, 30, 31, 32, 33, 34, 35, 36, 37, 38, 39, 40, 41, 42, 43, 44, 45, 46, 47, 48, 49, 50, 51, 52, 53, 54, 55, 56, 57, 58, 59, 60, 61, 62, 63, 64, 65, 66, 67, 68, 69, 70, 71, 72, 73, 74, 75, 76, 77, 78, 79, 80, 81, 82, 83, 84, 85, 86, 87, 88, 89, 90, 91, 92, 93, 94, 95, 96, 97, 98, 99, 216, 217, 218, 219, 220, 221, 222, 223, 224, 100, 101, 102, 103, 104, 105, 106, 107, 108, 109, 110, 111, 112, 113, 114, 115, 116, 117, 118, 119, 120, 121, 122, 123, 124, 125, 126, 127, 128, 129, 130, 131, 132, 133, 134, 135, 136, 137, 138, 139, 140, 141, 142, 143, 144, 145, 146, 147, 148, 149, 150, 151, 152, 153, 154, 155, 156, 157, 158, 159, 160, 161, 162, 163, 164, 165, 166, 167, 168, 169, 170, 171, 172, 173, 174, 175, 176, 177, 178, 179, 180, 181, 182, 183, 184, 185, 186, 187, 188, 189, 190, 191, 192, 193, 194, 195, 196, 197, 198, 199, 200, 201, 202, 203, 204, 205, 206, 207, 208, 209, 210, 211, 212, 213, 214, 215]
theorem kwW_sb : subB (wOW.map (fun i => kwW.getD i (.initialized ""))) lw_tbl = true := by decide +kernel
theorem kwF_sb : subB (wOF.map (fun i => kwF.getD i (.initialized ""))) lw_tbl = true := by decide +kernel
def wOC : List Nat := [2, 8, 22, 38, 42, 47, 106, 110, 116, 121, 128, 134, 140, 145, 155, 159, 170, 175, 181, 186, 199, 203, 207, 212, 218, 225, 232, 239, 250, 491, 495, 500, 503, 508, 512, 516]
set_option maxRecDepth 100000 in
theorem kcd_2 : kwW.getD 2 (.initialized "") ∈ lw_tbl := tl_in (tb_1 (List.mem_of_getElem? (i := 35) rfl))
set_option maxRecDepth 100000 in
theorem kcd_8 : kwW.getD 8 (.initialized "") ∈ lw_tbl := tl_in (tb_3 (List.mem_of_getElem? (i := 15) rfl))
set_option maxRecDepth 100000 in
theorem kcd_22 : kwW.getD 22 (.initialized "") ∈ lw_tbl := tl_in (tb_1 (List.mem_of_getElem? (i := 41) rfl))
set_option maxRecDepth 100000 in
theorem kcd_38 : kwW.getD 38 (.initialized "") ∈ lw_tbl := tl_in (tb_3 (List.mem_of_getElem? (i := 55) rfl))
set_option maxRecDepth 100000 in
theorem kcd_42 : kwW.getD 42 (.initialized "") ∈ lw_tbl := tl_in (tb_3 (List.mem_of_getElem? (i := 169) rfl))
set_option maxRecDepth 100000 in
theorem kcd_47 : kwW.getD 47 (.initialized "") ∈ lw_tbl := tl_in (tb_3 (List.mem_of_getElem? (i := 165) rfl))
set_option maxRecDepth 100000 in
theorem kcd_106 : kwW.getD 106 (.initialized "") ∈ lw_tbl := tl_in (tb_3 (List.mem_of_getElem? (i := 11) rfl))
set_option maxRecDepth 100000 in
theorem kcd_110 : kwW.getD 110 (.initialized "") ∈ lw_tbl := tl_in (tb_3 (List.mem_of_getElem? (i := 43) rfl))
set_option maxRecDepth 100000 in
theorem kcd_116 : kwW.getD 116 (.initialized "") ∈ lw_tbl := tl_in (tb_8 (List.mem_of_getElem? (i := 174) rfl))
set_option maxRecDepth 100000 in
theorem kcd_121 : kwW.getD 121 (.initialized "") ∈ lw_tbl := tl_in (tb_3 (List.mem_of_getElem? (i := 51) rfl))
set_option maxRecDepth 100000 in
theorem kcd_128 : kwW.getD 128 (.initialized "") ∈ lw_tbl := tl_in (tb_3 (List.mem_of_getElem? (i := 160) rfl))
set_option maxRecDepth 100000 in
theorem kcd_134 : kwW.getD 134 (.initialized "") ∈ lw_tbl := tl_in (tb_3 (List.mem_of_getElem? (i := 59) rfl))
set_option maxRecDepth 100000 in
theorem kcd_140 : kwW.getD 140 (.initialized "") ∈ lw_tbl := tl_in (tb_3 (List.mem_of_getElem? (i := 65) rfl))
set_option maxRecDepth 100000 in
theorem kcd_145 : kwW.getD 145 (.initialized "") ∈ lw_tbl := tl_in (tb_8 (List.mem_of_getElem? (i := 170) rfl))
set_option maxRecDepth 100000 in
theorem kcd_155 : kwW.getD 155 (.initialized "") ∈ lw_tbl := tl_in (tb_8 (List.mem_of_getElem? (i := 200) rfl))
set_option maxRecDepth 100000 in
theorem kcd_159 : kwW.getD 159 (.initialized "") ∈ lw_tbl := tl_in (tb_8 (List.mem_of_getElem? (i := 151) rfl))
set_option maxRecDepth 100000 in
theorem kcd_170 : kwW.getD 170 (.initialized "") ∈ lw_tbl := tl_in (tb_8 (List.mem_of_getElem? (i := 166) rfl))
set_option maxRecDepth 100000 in
theorem kcd_175 : kwW.getD 175 (.initialized "") ∈ lw_tbl := tl_in (tb_8 (List.mem_of_getElem? (i := 159) rfl))
set_option maxRecDepth 100000 in
theorem kcd_181 : kwW.getD 181 (.initialized "") ∈ lw_tbl := tl_in (tb_8 (List.mem_of_getElem? (i := 163) rfl))
set_option maxRecDepth 100000 in
theorem kcd_186 : kwW.getD 186 (.initialized "") ∈ lw_tbl := tl_in (tb_8 (List.mem_of_getElem? (i := 155) rfl))
set_option maxRecDepth 100000 in
theorem kcd_199 : kwW.getD 199 (.initialized "") ∈ lw_tbl := tl_in (tb_1 (List.mem_of_getElem? (i := 70) rfl))
set_option maxRecDepth 100000 in
theorem kcd_203 : kwW.getD 203 (.initialized "") ∈ lw_tbl := tl_in (tb_1 (List.mem_of_getElem? (i := 129) rfl))
set_option maxRecDepth 100000 in
theorem kcd_207 : kwW.getD 207 (.initialized "") ∈ lw_tbl := tl_in (tb_1 (List.mem_of_getElem? (i := 151) rfl))
set_option maxRecDepth 100000 in
theorem kcd_212 : kwW.getD 212 (.initialized "") ∈ lw_tbl := tl_in (tb_2 (List.mem_of_getElem? (i := 9) rfl))
set_option maxRecDepth 100000 in
theorem kcd_218 : kwW.getD 218 (.initialized "") ∈ lw_tbl := tl_in (tb_2 (List.mem_of_getElem? (i := 85) rfl))
set_option maxRecDepth 100000 in
theorem kcd_225 : kwW.getD 225 (.initialized "") ∈ lw_tbl := tl_in (tb_2 (List.mem_of_getElem? (i := 115) rfl))
set_option maxRecDepth 100000 in
theorem kcd_232 : kwW.getD 232 (.initialized "") ∈ lw_tbl := tl_in (tb_2 (List.mem_of_getElem? (i := 131) rfl))
set_option maxRecDepth 100000 in
theorem kcd_239 : kwW.getD 239 (.initialized "") ∈ lw_tbl := tl_in (tb_2 (List.mem_of_getElem? (i := 158) rfl))
set_option maxRecDepth 100000 in
theorem kcd_250 : kwW.getD 250 (.initialized "") ∈ lw_tbl := tl_in (tb_9 (List.mem_of_getElem? (i := 137) rfl))
set_option maxRecDepth 100000 in
theorem kcd_491 : kwW.getD 491 (.initialized "") ∈ lw_tbl := tl_in (tb_9 (List.mem_of_getElem? (i := 132) rfl))
set_option maxRecDepth 100000 in
theorem kcd_495 : kwW.getD 495 (.initialized "") ∈ lw_tbl := tl_in (tb_11 (List.mem_of_getElem? (i := 190) rfl))
set_option maxRecDepth 100000 in
theorem kcd_500 : kwW.getD 500 (.initialized "") ∈ lw_tbl := tl_in (tb_14 (List.mem_of_getElem? (i := 165) rfl))
set_option maxRecDepth 100000 in
theorem kcd_503 : kwW.getD 503 (.initialized "") ∈ lw_tbl := tl_in (tb_11 (List.mem_of_getElem? (i := 186) rfl))
set_option maxRecDepth 100000 in
theorem kcd_508 : kwW.getD 508 (.initialized "") ∈ lw_tbl := tl_in (tb_14 (List.mem_of_getElem? (i := 190) rfl))
set_option maxRecDepth 100000 in
theorem kcd_512 : kwW.getD 512 (.initialized "") ∈ lw_tbl := tl_in (tb_14 (List.mem_of_getElem? (i := 158) rfl))
set_option maxRecDepth 100000 in
theorem kcd_516 : kwW.getD 516 (.initialized "") ∈ lw_tbl := tl_in (tb_12 (List.mem_of_getElem? (i := 129) rfl))
theorem wOC_in : ∀ i ∈ wOC, kwW.getD i (.initialized "") ∈ lw_tbl := List.forall_mem_cons.mpr ⟨kcd_2, List.forall_mem_cons.mpr ⟨kcd_8, List.forall_mem_cons.mpr ⟨kcd_22, List.forall_mem_cons.mpr ⟨kcd_38, List.forall_mem_cons.mpr ⟨kcd_42, List.forall_mem_cons.mpr ⟨kcd_47, List.forall_mem_cons.mpr ⟨kcd_106, List.forall_mem_cons.mpr ⟨kcd_110, List.forall_mem_cons.mpr ⟨kcd_116, List.forall_mem_cons.mpr ⟨kcd_121, List.forall_mem_cons.mpr ⟨kcd_128, List.forall_mem_cons.mpr ⟨kcd_134, List.forall_mem_cons.mpr ⟨kcd_140, List.forall_mem_cons.mpr ⟨kcd_145, List.forall_mem_cons.mpr ⟨kcd_155, List.forall_mem_cons.mpr ⟨kcd_159, List.forall_mem_cons.mpr ⟨kcd_170, List.forall_mem_cons.mpr ⟨kcd_175, List.forall_mem_cons.mpr ⟨kcd_181, List.forall_mem_cons.mpr ⟨kcd_186, List.forall_mem_cons.mpr ⟨kcd_199, List.forall_mem_cons.mpr ⟨kcd_203, List.forall_mem_cons.mpr ⟨kcd_207, List.forall_mem_cons.mpr ⟨kcd_212, List.forall_mem_cons.mpr ⟨kcd_218, List.forall_mem_cons.mpr ⟨kcd_225, List.forall_mem_cons.mpr ⟨kcd_232, List.forall_mem_cons.mpr ⟨kcd_239, List.forall_mem_cons.mpr ⟨kcd_250, List.forall_mem_cons.mpr ⟨kcd_491, List.forall_mem_cons.mpr ⟨kcd_495, List.forall_mem_cons.mpr ⟨kcd_500, List.forall_mem_cons.mpr ⟨kcd_503, List.forall_mem_cons.mpr ⟨kcd_508, List.forall_mem_cons.mpr ⟨kcd_512, List.forall_mem_cons.mpr ⟨kcd_516, fun _ h => absurd h List.not_mem_nil⟩⟩⟩⟩⟩⟩⟩⟩⟩⟩⟩⟩⟩⟩⟩⟩⟩⟩⟩⟩⟩⟩⟩⟩⟩⟩⟩⟩⟩⟩⟩⟩⟩⟩⟩⟩
theorem wOW_all : (List.range kwW.length).all (fun i => wOW.contains i || wOC.contains i) = true := by decide +kernel
theorem wOF_all : (List.range kwF.length).all (fun i => wOF.contains i) = true := by decide +kernel
theorem subB_at {L : List Cond} {O : List Nat} (h : subB (O.map (fun i => L.getD i (.initialized ""))) lw_tbl = true) {i : Nat} (hm : i ∈ O) : L.getD i (.initialized "") ∈ lw_tbl := subB_ok _ _ h _ (List.mem_map.mpr ⟨i, hm, rfl⟩)
theorem kwW_in : ∀ w ∈ kwW, w ∈ lw_tbl := fun w hw => by
  obtain ⟨i, hi⟩ := List.getElem?_of_mem hw
  have hl := (List.getElem?_eq_some_iff.mp hi).1
  have e : kwW.getD i (.initialized "") = w := by rw [List.getD_eq_getElem?_getD, hi]; rfl
  have := List.all_eq_true.mp wOW_all i (List.mem_range.mpr hl)
  rw [Bool.or_eq_true] at this
  rw [← e]
  exact this.elim (fun h => subB_at kwW_sb (List.contains_iff_mem.mp h)) (fun h => wOC_in i (List.contains_iff_mem.mp h))
theorem kwF_in : ∀ w ∈ kwF, w ∈ lw_tbl := fun w hw => by
  obtain ⟨i, hi⟩ := List.getElem?_of_mem hw
  have hl := (List.getElem?_eq_some_iff.mp hi).1
  have e : kwF.getD i (.initialized "") = w := by rw [List.getD_eq_getElem?_getD, hi]; rfl
  rw [← e]
  exact subB_at kwF_sb (List.contains_iff_mem.mp (List.all_eq_true.mp wOF_all i (List.mem_range.mpr hl)))
