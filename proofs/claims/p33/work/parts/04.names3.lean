theorem dL_whistles_162 : decode cL_whistles 162 = .ok (.bipush 11, 2) := by decide +kernel
theorem dL_whistles_164 : decode cL_whistles 164 = .ok (.iaload, 1) := by decide +kernel
theorem dL_whistles_165 : decode cL_whistles 165 = .ok (.iload 7, 2) := by decide +kernel
theorem dL_whistles_167 : decode cL_whistles 167 = .ok (.ishr, 1) := by decide +kernel
theorem dL_whistles_168 : decode cL_whistles 168 = .ok (.iconst 1, 1) := by decide +kernel
theorem dL_whistles_169 : decode cL_whistles 169 = .ok (.iand, 1) := by decide +kernel
theorem dL_whistles_170 : decode cL_whistles 170 = .ok (.ior, 1) := by decide +kernel
theorem dL_whistles_171 : decode cL_whistles 171 = .ok (.iastore, 1) := by decide +kernel
theorem dL_whistles_172 : decode cL_whistles 172 = .ok (.iinc 7 1, 3) := by decide +kernel
theorem dL_whistles_175 : decode cL_whistles 175 = .ok (.goto (-78), 3) := by decide +kernel
theorem dL_whistles_178 : decode cL_whistles 178 = .ok (.aload 4, 2) := by decide +kernel
theorem dL_whistles_180 : decode cL_whistles 180 = .ok (.iconst 5, 1) := by decide +kernel
theorem dL_whistles_181 : decode cL_whistles 181 = .ok (.iload_n 0, 1) := by decide +kernel
theorem dL_whistles_182 : decode cL_whistles 182 = .ok (.imul, 1) := by decide +kernel
theorem dL_whistles_183 : decode cL_whistles 183 = .ok (.iconst 1, 1) := by decide +kernel
theorem dL_whistles_184 : decode cL_whistles 184 = .ok (.iadd, 1) := by decide +kernel
theorem dL_whistles_185 : decode cL_whistles 185 = .ok (.dup2, 1) := by decide +kernel
theorem dL_whistles_186 : decode cL_whistles 186 = .ok (.iaload, 1) := by decide +kernel
theorem dL_whistles_187 : decode cL_whistles 187 = .ok (.aload_n 2, 1) := by decide +kernel
theorem dL_whistles_188 : decode cL_whistles 188 = .ok (.bipush 10, 2) := by decide +kernel
theorem dL_whistles_190 : decode cL_whistles 190 = .ok (.iaload, 1) := by decide +kernel
theorem dL_whistles_191 : decode cL_whistles 191 = .ok (.invokestatic 124, 3) := by decide +kernel
theorem dL_whistles_194 : decode cL_whistles 194 = .ok (.iadd, 1) := by decide +kernel
theorem dL_whistles_195 : decode cL_whistles 195 = .ok (.iastore, 1) := by decide +kernel
theorem dL_whistles_196 : decode cL_whistles 196 = .ok (.aload_n 2, 1) := by decide +kernel
theorem dL_whistles_197 : decode cL_whistles 197 = .ok (.iconst 5, 1) := by decide +kernel
theorem dL_whistles_198 : decode cL_whistles 198 = .ok (.dup2, 1) := by decide +kernel
theorem dL_whistles_199 : decode cL_whistles 199 = .ok (.iaload, 1) := by decide +kernel
theorem dL_whistles_200 : decode cL_whistles 200 = .ok (.iconst 1, 1) := by decide +kernel
theorem dL_whistles_201 : decode cL_whistles 201 = .ok (.iadd, 1) := by decide +kernel
theorem dL_whistles_202 : decode cL_whistles 202 = .ok (.iastore, 1) := by decide +kernel
theorem dL_whistles_203 : decode cL_whistles 203 = .ok (.aload_n 3, 1) := by decide +kernel
theorem dL_whistles_204 : decode cL_whistles 204 = .ok (.bipush 20, 2) := by decide +kernel
theorem dL_whistles_206 : decode cL_whistles 206 = .ok (.iload_n 1, 1) := by decide +kernel
theorem dL_whistles_207 : decode cL_whistles 207 = .ok (.iadd, 1) := by decide +kernel
theorem dL_whistles_208 : decode cL_whistles 208 = .ok (.dup2, 1) := by decide +kernel
theorem dL_whistles_209 : decode cL_whistles 209 = .ok (.iaload, 1) := by decide +kernel
theorem dL_whistles_210 : decode cL_whistles 210 = .ok (.iconst 1, 1) := by decide +kernel
theorem dL_whistles_211 : decode cL_whistles 211 = .ok (.iadd, 1) := by decide +kernel
theorem dL_whistles_212 : decode cL_whistles 212 = .ok (.iastore, 1) := by decide +kernel
theorem dL_whistles_213 : decode cL_whistles 213 = .ok (.aload_n 3, 1) := by decide +kernel
theorem dL_whistles_214 : decode cL_whistles 214 = .ok (.bipush 40, 2) := by decide +kernel
theorem dL_whistles_216 : decode cL_whistles 216 = .ok (.iload_n 1, 1) := by decide +kernel
theorem dL_whistles_217 : decode cL_whistles 217 = .ok (.iadd, 1) := by decide +kernel
theorem dL_whistles_218 : decode cL_whistles 218 = .ok (.dup2, 1) := by decide +kernel
theorem dL_whistles_219 : decode cL_whistles 219 = .ok (.iaload, 1) := by decide +kernel
theorem dL_whistles_220 : decode cL_whistles 220 = .ok (.aload_n 2, 1) := by decide +kernel
theorem dL_whistles_221 : decode cL_whistles 221 = .ok (.bipush 9, 2) := by decide +kernel
theorem dL_whistles_223 : decode cL_whistles 223 = .ok (.iaload, 1) := by decide +kernel
theorem dL_whistles_224 : decode cL_whistles 224 = .ok (.invokestatic 124, 3) := by decide +kernel
theorem dL_whistles_227 : decode cL_whistles 227 = .ok (.iadd, 1) := by decide +kernel
theorem dL_whistles_228 : decode cL_whistles 228 = .ok (.iastore, 1) := by decide +kernel
theorem dL_whistles_229 : decode cL_whistles 229 = .ok (.aload_n 2, 1) := by decide +kernel
theorem dL_whistles_230 : decode cL_whistles 230 = .ok (.bipush 9, 2) := by decide +kernel
theorem dL_whistles_232 : decode cL_whistles 232 = .ok (.iaload, 1) := by decide +kernel
theorem dL_whistles_233 : decode cL_whistles 233 = .ok (.invokestatic 124, 3) := by decide +kernel
theorem dL_whistles_236 : decode cL_whistles 236 = .ok (.ireturn, 1) := by decide +kernel
set_option maxRecDepth 20000 in
theorem ggL_call_L_teach : GoodIn wsL_call wsL_teach := goodIn_ca (goodIn_ca (goodIn_ca (goodIn_r _ [4, 5, 6, 7, 8, 9, 10, 11, 12, 13, 14, 15, 16, 17, 18, 19, 20, 21, 22, 23, 24, 25, 26, 27, 28, 29, 30, 31, 32, 33, 34, 35, 36, 37, 38, 39, 40, 41, 42, 43, 44, 45, 46, 47, 48, 49, 50, 51, 52, 53, 54, 55, 56, 57, 58, 59, 60, 61, 62, 63, 64, 65, 66, 67, 68, 69, 70, 71, 72, 73, 74, 75, 76, 77, 78, 79, 80, 81, 82, 83, 84, 85, 86, 87, 88, 89, 90, 91, 92, 93, 94, 95, 96, 97, 98, 99, 100, 101, 102, 103, 104, 105, 106, 107, 108, 109, 110, 111, 112, 113, 114, 115, 116, 117, 118, 119, 120, 121, 122, 123, 124, 125, 126, 127, 128, 129, 130, 131, 132, 133, 134, 135, 136, 137, 138, 139, 140, 141, 142, 143, 144, 145, 146, 147, 148, 149, 150, 151, 152, 153, 154, 155, 156, 157, 158, 159, 160, 161, 162, 163, 164, 165, 166, 167, 168, 169, 170, 171, 172, 173, 174, 175, 176, 177, 178, 179, 180, 181, 182, 183, 184, 185, 186, 187, 188, 189, 190, 191, 192, 193, 194, 195, 196, 197, 198, 199, 200, 201, 202, 203, 204, 205, 206, 207, 208, 209, 210, 211, 212, 213, 214, 215, 216, 217, 218, 219, 220, 221, 222, 223, 224, 225, 226, 227, 228, 229, 230, 231, 232, 233, 234, 235, 236, 237, 238, 239, 240, 241, 242, 243, 244, 245, 246, 247, 248, 249, 250, 251, 252, 253, 254, 255, 256, 257, 258, 259, 260, 261, 262, 263, 264, 265, 266, 267, 268, 269, 270, 271, 272, 273, 274, 275, 276, 277, 278, 279, 280, 425, 426, 427, 428, 429, 430, 431, 432, 433, 434, 435, 436, 437, 438, 439, 440, 441, 442, 443, 444, 445, 446, 447, 448, 449, 450, 451, 452, 453, 454, 455, 456, 457, 458, 459, 460, 461, 462, 463] (by decide +kernel) (by decide +kernel)) (goodIn_sub (fun _ h => List.mem_cons_of_mem _ (List.mem_append_left _ (List.mem_append_left _ (List.mem_append_right _ h)))) (by decide +kernel))) (goodIn_sub (fun _ h => List.mem_cons_of_mem _ (List.mem_append_left _ (List.mem_append_right _ h))) (by decide +kernel))) (goodIn_sub (fun _ h => List.mem_cons_of_mem _ (List.mem_append_right _ h)) (by decide +kernel))
set_option maxRecDepth 20000 in
theorem gL_call_L_teach : GoodIn wsL_call (va_wsS RL 127 yL_teach wsL_teach) := goodIn_app (goodIn_of _ (by decide +kernel)) ggL_call_L_teach
set_option maxRecDepth 20000 in
theorem ggL_call_L_whistle : GoodIn wsL_call wsL_whistle := goodIn_ca (goodIn_ca (goodIn_r _ [283, 5, 7, 284, 285, 286, 11, 287, 13, 14, 17, 18, 20, 19, 288, 289, 290, 24, 25, 26, 291, 292, 293, 214, 294, 260, 295, 296, 297, 298, 265, 255, 239, 240, 241, 242, 243, 244, 245, 246, 247, 248, 249, 250, 251, 252, 253, 254, 256, 257, 258, 259, 216, 261, 262, 263, 264, 266, 267, 268, 269, 299, 300, 301, 302, 303, 304, 305, 306, 307, 308, 309, 310, 311, 312, 313, 314, 315, 316, 317, 318, 319, 320, 321, 322, 323, 324, 325, 326, 327, 328, 329, 330, 331, 332, 333, 334, 335, 336, 337, 338, 339, 340, 341, 342, 343, 344, 345, 346, 347, 348, 349, 350, 351, 352, 353, 354, 355, 356, 357, 358, 359, 360, 425, 426, 427, 428, 429, 430, 431, 432, 433, 445, 446, 447, 448, 449, 450, 451, 452, 453, 454, 455, 456, 457, 458, 459, 460, 461, 462, 463, 464, 465, 466, 467, 468] (by decide +kernel) (by decide +kernel)) (goodIn_sub (fun _ h => List.mem_cons_of_mem _ (List.mem_append_left _ (List.mem_append_left _ (List.mem_append_right _ h)))) (by decide +kernel))) (goodIn_sub (fun _ h => List.mem_cons_of_mem _ (List.mem_append_right _ h)) (by decide +kernel))
set_option maxRecDepth 20000 in
theorem gL_call_L_whistle : GoodIn wsL_call (va_wsS RL 129 yL_whistle wsL_whistle) := goodIn_app (goodIn_of _ (by decide +kernel)) ggL_call_L_whistle
set_option maxRecDepth 20000 in
theorem ggL_call_L_tell : GoodIn wsL_call wsL_tell := goodIn_ca (goodIn_r _ [363, 5, 364, 365, 366, 11, 367, 13, 14, 19, 20, 368, 369, 288, 289, 290, 239, 240, 241, 242, 243, 244, 245, 246, 247, 248, 249, 214, 250, 251, 252, 253, 254, 255, 256, 257, 258, 259, 260, 216, 261, 262, 263, 264, 265, 266, 267, 268, 269, 425, 426, 427, 428, 429, 430, 431, 432, 433, 445, 446, 447, 448, 449, 450, 451, 452, 453, 454, 455, 456, 457, 458, 459, 460, 461, 462, 463] (by decide +kernel) (by decide +kernel)) (goodIn_sub (fun _ h => List.mem_cons_of_mem _ (List.mem_append_left _ (List.mem_append_left _ (List.mem_append_right _ h)))) (by decide +kernel))
set_option maxRecDepth 20000 in
theorem gL_call_L_tell : GoodIn wsL_call (va_wsS RL 132 yL_tell wsL_tell) := goodIn_app (goodIn_of _ (by decide +kernel)) ggL_call_L_tell
set_option maxRecDepth 20000 in
theorem ggL_call_L_key : GoodIn wsL_call wsL_key := goodIn_ca (goodIn_r _ [372, 6, 373, 374, 375, 11, 376, 15, 16, 19, 20, 369, 377, 378, 379, 239, 240, 241, 242, 243, 244, 245, 246, 247, 248, 249, 214, 250, 251, 252, 253, 254, 255, 256, 257, 258, 259, 260, 216, 261, 262, 263, 264, 265, 266, 267, 268, 269, 425, 426, 427, 428, 429, 430, 431, 432, 433, 445, 446, 447, 448, 449, 450, 451, 452, 453, 454, 455, 456, 457, 458, 459, 460, 461, 462, 463] (by decide +kernel) (by decide +kernel)) (goodIn_sub (fun _ h => List.mem_cons_of_mem _ (List.mem_append_left _ (List.mem_append_right _ h))) (by decide +kernel))
set_option maxRecDepth 20000 in
theorem gL_call_L_key : GoodIn wsL_call (va_wsS RL 134 yL_key wsL_key) := goodIn_app (goodIn_of _ (by decide +kernel)) ggL_call_L_key
set_option maxRecDepth 20000 in
theorem ggL_call_X7_bell : GoodIn wsL_call wsX7_bell := goodIn_r _ [383, 19, 20, 384, 239, 240, 241, 242, 243, 244, 245, 246, 247, 248, 249, 214, 250, 251, 252, 253, 254, 255, 256, 257, 258, 259, 260, 216, 261, 262, 263, 264, 265, 266, 267, 268, 269, 385, 386, 387, 388, 425, 426, 427, 428, 429, 430, 431, 432, 433, 445, 446, 447, 448, 449, 450, 451, 452, 453, 454, 455, 456, 457, 458, 459, 460, 461, 462, 463] (by decide +kernel) (by decide +kernel)
set_option maxRecDepth 20000 in
theorem gL_call_X7_bell : GoodIn wsL_call (wsV RL 136 RX7 yX7_bell wsX7_bell) := goodIn_app (goodIn_of _ (by decide +kernel)) ggL_call_X7_bell
set_option maxRecDepth 20000 in
theorem ggL_call_L_lookout : GoodIn wsL_call wsL_lookout := goodIn_ca (goodIn_r _ [391, 5, 392, 393, 394, 11, 395, 13, 14, 19, 20, 396, 239, 240, 241, 242, 243, 244, 245, 246, 247, 248, 249, 214, 250, 251, 252, 253, 254, 255, 256, 257, 258, 259, 260, 216, 261, 262, 263, 264, 265, 266, 267, 268, 269, 360, 350, 351, 352, 353, 354, 355, 425, 426, 427, 428, 429, 430, 431, 432, 433, 445, 446, 447, 448, 449, 450, 451, 452, 453, 454, 455, 456, 457, 458, 459, 460, 461, 462, 463] (by decide +kernel) (by decide +kernel)) (goodIn_sub (fun _ h => List.mem_cons_of_mem _ (List.mem_append_left _ (List.mem_append_left _ (List.mem_append_right _ h)))) (by decide +kernel))
set_option maxRecDepth 20000 in
theorem gL_call_L_lookout : GoodIn wsL_call (va_wsS RL 139 yL_lookout wsL_lookout) := goodIn_app (goodIn_of _ (by decide +kernel)) ggL_call_L_lookout
set_option maxRecDepth 20000 in
theorem ggL_call_L_ban : GoodIn wsL_call wsL_ban := goodIn_ca (goodIn_r _ [399, 5, 400, 401, 402, 11, 403, 13, 14, 19, 20, 404, 24, 25, 26, 239, 240, 241, 242, 243, 244, 245, 246, 247, 248, 249, 214, 250, 251, 252, 253, 254, 255, 256, 257, 258, 259, 260, 216, 261, 262, 263, 264, 265, 266, 267, 268, 269, 405, 326, 327, 425, 426, 427, 428, 429, 430, 431, 432, 433, 445, 446, 447, 448, 449, 450, 451, 452, 453, 454, 455, 456, 457, 458, 459, 460, 461, 462, 463] (by decide +kernel) (by decide +kernel)) (goodIn_sub (fun _ h => List.mem_cons_of_mem _ (List.mem_append_left _ (List.mem_append_left _ (List.mem_append_right _ h)))) (by decide +kernel))
set_option maxRecDepth 20000 in
theorem gL_call_L_ban : GoodIn wsL_call (va_wsS RL 142 yL_ban wsL_ban) := goodIn_app (goodIn_of _ (by decide +kernel)) ggL_call_L_ban
set_option maxRecDepth 20000 in
theorem ggL_call_L_set : GoodIn wsL_call wsL_set := goodIn_ca (goodIn_ca (goodIn_r _ [408, 5, 6, 409, 410, 411, 11, 412, 13, 14, 15, 16, 19, 20, 413, 414, 415, 416, 239, 240, 241, 242, 243, 244, 245, 246, 247, 248, 249, 214, 250, 251, 252, 253, 254, 255, 256, 257, 258, 259, 260, 216, 261, 262, 263, 264, 265, 266, 267, 268, 269, 425, 426, 427, 428, 429, 430, 431, 432, 433, 445, 446, 447, 448, 449, 450, 451, 452, 453, 454, 455, 456, 457, 458, 459, 460, 461, 462, 463] (by decide +kernel) (by decide +kernel)) (goodIn_sub (fun _ h => List.mem_cons_of_mem _ (List.mem_append_left _ (List.mem_append_left _ (List.mem_append_right _ h)))) (by decide +kernel))) (goodIn_sub (fun _ h => List.mem_cons_of_mem _ (List.mem_append_left _ (List.mem_append_right _ h))) (by decide +kernel))
set_option maxRecDepth 20000 in
theorem gL_call_L_set : GoodIn wsL_call (va_wsS RL 144 yL_set wsL_set) := goodIn_app (goodIn_of _ (by decide +kernel)) ggL_call_L_set
set_option maxRecDepth 20000 in
theorem ggL_call_L_forget : GoodIn wsL_call wsL_forget := goodIn_ca (goodIn_r _ [419, 5, 420, 421, 422, 11, 423, 13, 14, 19, 20, 424, 24, 25, 26, 239, 240, 241, 242, 243, 244, 245, 246, 247, 248, 249, 214, 250, 251, 252, 253, 254, 255, 256, 257, 258, 259, 260, 216, 261, 262, 263, 264, 265, 266, 267, 268, 269, 425, 426, 427, 428, 429, 430, 431, 432, 433, 445, 446, 447, 448, 449, 450, 451, 452, 453, 454, 455, 456, 457, 458, 459, 460, 461, 462, 463] (by decide +kernel) (by decide +kernel)) (goodIn_sub (fun _ h => List.mem_cons_of_mem _ (List.mem_append_left _ (List.mem_append_left _ (List.mem_append_right _ h)))) (by decide +kernel))
set_option maxRecDepth 20000 in
theorem gL_call_L_forget : GoodIn wsL_call (va_wsS RL 146 yL_forget wsL_forget) := goodIn_app (goodIn_of _ (by decide +kernel)) ggL_call_L_forget
theorem dL_call_0 : decode cL_call 0 = .ok (.iload_n 1, 1) := by decide +kernel
theorem dL_call_1 : decode cL_call 1 = .ok (.tableswitch 109 0 7 #[47, 53, 60, 66, 72, 77, 95, 102], 47) := by decide +kernel
theorem dL_call_48 : decode cL_call 48 = .ok (.aload_n 0, 1) := by decide +kernel
theorem dL_call_49 : decode cL_call 49 = .ok (.iload_n 2, 1) := by decide +kernel
theorem dL_call_50 : decode cL_call 50 = .ok (.invokestatic 127, 3) := by decide +kernel
theorem dL_call_53 : decode cL_call 53 = .ok (.ireturn, 1) := by decide +kernel
theorem dL_call_54 : decode cL_call 54 = .ok (.aload_n 0, 1) := by decide +kernel
theorem dL_call_55 : decode cL_call 55 = .ok (.iload_n 2, 1) := by decide +kernel
theorem dL_call_56 : decode cL_call 56 = .ok (.iload_n 3, 1) := by decide +kernel
theorem dL_call_57 : decode cL_call 57 = .ok (.invokestatic 129, 3) := by decide +kernel
theorem dL_call_60 : decode cL_call 60 = .ok (.ireturn, 1) := by decide +kernel
theorem dL_call_61 : decode cL_call 61 = .ok (.aload_n 0, 1) := by decide +kernel
theorem dL_call_62 : decode cL_call 62 = .ok (.iload_n 2, 1) := by decide +kernel
theorem dL_call_63 : decode cL_call 63 = .ok (.invokestatic 132, 3) := by decide +kernel
theorem dL_call_66 : decode cL_call 66 = .ok (.ireturn, 1) := by decide +kernel
theorem dL_call_67 : decode cL_call 67 = .ok (.aload_n 0, 1) := by decide +kernel
theorem dL_call_68 : decode cL_call 68 = .ok (.iload_n 2, 1) := by decide +kernel
theorem dL_call_69 : decode cL_call 69 = .ok (.invokestatic 134, 3) := by decide +kernel
theorem dL_call_72 : decode cL_call 72 = .ok (.ireturn, 1) := by decide +kernel
theorem dL_call_73 : decode cL_call 73 = .ok (.aload_n 0, 1) := by decide +kernel
theorem dL_call_74 : decode cL_call 74 = .ok (.invokevirtual 136, 3) := by decide +kernel
theorem dL_call_77 : decode cL_call 77 = .ok (.ireturn, 1) := by decide +kernel
theorem dL_call_78 : decode cL_call 78 = .ok (.aload_n 0, 1) := by decide +kernel
theorem dL_call_79 : decode cL_call 79 = .ok (.iload_n 2, 1) := by decide +kernel
theorem dL_call_80 : decode cL_call 80 = .ok (.iload_n 3, 1) := by decide +kernel
theorem dL_call_81 : decode cL_call 81 = .ok (.iconst 2, 1) := by decide +kernel
theorem dL_call_82 : decode cL_call 82 = .ok (.irem, 1) := by decide +kernel
theorem dL_call_83 : decode cL_call 83 = .ok (.iconst 1, 1) := by decide +kernel
theorem dL_call_84 : decode cL_call 84 = .ok (.if_icmp .ne 7, 3) := by decide +kernel
theorem dL_call_87 : decode cL_call 87 = .ok (.iconst 1, 1) := by decide +kernel
theorem dL_call_88 : decode cL_call 88 = .ok (.goto 4, 3) := by decide +kernel
theorem dL_call_91 : decode cL_call 91 = .ok (.iconst 0, 1) := by decide +kernel
theorem dL_call_92 : decode cL_call 92 = .ok (.invokestatic 139, 3) := by decide +kernel
theorem dL_call_95 : decode cL_call 95 = .ok (.ireturn, 1) := by decide +kernel
theorem dL_call_96 : decode cL_call 96 = .ok (.aload_n 0, 1) := by decide +kernel
theorem dL_call_97 : decode cL_call 97 = .ok (.iload_n 2, 1) := by decide +kernel
theorem dL_call_98 : decode cL_call 98 = .ok (.iload_n 3, 1) := by decide +kernel
theorem dL_call_99 : decode cL_call 99 = .ok (.invokestatic 142, 3) := by decide +kernel
theorem dL_call_102 : decode cL_call 102 = .ok (.ireturn, 1) := by decide +kernel
theorem dL_call_103 : decode cL_call 103 = .ok (.aload_n 0, 1) := by decide +kernel
theorem dL_call_104 : decode cL_call 104 = .ok (.iload_n 2, 1) := by decide +kernel
theorem dL_call_105 : decode cL_call 105 = .ok (.iload_n 3, 1) := by decide +kernel
theorem dL_call_106 : decode cL_call 106 = .ok (.invokestatic 144, 3) := by decide +kernel
theorem dL_call_109 : decode cL_call 109 = .ok (.ireturn, 1) := by decide +kernel
theorem dL_call_110 : decode cL_call 110 = .ok (.aload_n 0, 1) := by decide +kernel
theorem dL_call_111 : decode cL_call 111 = .ok (.iload_n 2, 1) := by decide +kernel
theorem dL_call_112 : decode cL_call 112 = .ok (.invokestatic 146, 3) := by decide +kernel
theorem dL_call_115 : decode cL_call 115 = .ok (.ireturn, 1) := by decide +kernel
set_option maxRecDepth 20000 in
theorem ggL_due_L_many : GoodIn wsL_due wsL_many := goodIn_r _ [4] (by decide +kernel) (by decide +kernel)
set_option maxRecDepth 20000 in
theorem gL_due_L_many : GoodIn wsL_due (va_wsS RL 83 yL_many wsL_many) := goodIn_app (goodIn_of _ (by decide +kernel)) ggL_due_L_many
set_option maxRecDepth 20000 in
theorem ggL_due_L_alike : GoodIn wsL_due wsL_alike := goodIn_r _ [7, 1, 2, 3, 4, 8, 9, 10, 11, 12, 13] (by decide +kernel) (by decide +kernel)
set_option maxRecDepth 20000 in
theorem gL_due_L_alike : GoodIn wsL_due (va_wsS RL 148 yL_alike wsL_alike) := goodIn_app (goodIn_of _ (by decide +kernel)) ggL_due_L_alike
set_option maxRecDepth 20000 in
theorem ggL_due_L_whistles : GoodIn wsL_due wsL_whistles := goodIn_r _ [16, 17, 18, 3, 19, 20, 21, 22, 23, 24, 25, 26, 27, 28] (by decide +kernel) (by decide +kernel)
set_option maxRecDepth 20000 in
theorem gL_due_L_whistles : GoodIn wsL_due (va_wsS RL 152 yL_whistles wsL_whistles) := goodIn_app (goodIn_of _ (by decide +kernel)) ggL_due_L_whistles
set_option maxRecDepth 20000 in
theorem ggL_due_L_ones : GoodIn wsL_due wsL_ones := goodIn_r _ [28] (by decide +kernel) (by decide +kernel)
set_option maxRecDepth 20000 in
theorem gL_due_L_ones : GoodIn wsL_due (va_wsS RL 124 yL_ones wsL_ones) := goodIn_app (goodIn_of _ (by decide +kernel)) ggL_due_L_ones
theorem dL_due_0 : decode cL_due 0 = .ok (.iload_n 0, 1) := by decide +kernel
theorem dL_due_1 : decode cL_due 1 = .ok (.iconst 2, 1) := by decide +kernel
theorem dL_due_2 : decode cL_due 2 = .ok (.if_icmp .ne 12, 3) := by decide +kernel
theorem dL_due_5 : decode cL_due 5 = .ok (.aload 6, 2) := by decide +kernel
theorem dL_due_7 : decode cL_due 7 = .ok (.iconst 5, 1) := by decide +kernel
theorem dL_due_8 : decode cL_due 8 = .ok (.iload_n 1, 1) := by decide +kernel
theorem dL_due_9 : decode cL_due 9 = .ok (.imul, 1) := by decide +kernel
theorem dL_due_10 : decode cL_due 10 = .ok (.iaload, 1) := by decide +kernel
theorem dL_due_11 : decode cL_due 11 = .ok (.goto 47, 3) := by decide +kernel
theorem dL_due_14 : decode cL_due 14 = .ok (.iload_n 0, 1) := by decide +kernel
theorem dL_due_15 : decode cL_due 15 = .ok (.iconst 3, 1) := by decide +kernel
theorem dL_due_16 : decode cL_due 16 = .ok (.if_icmp .ne 10, 3) := by decide +kernel
theorem dL_due_19 : decode cL_due 19 = .ok (.aload 4, 2) := by decide +kernel
theorem dL_due_21 : decode cL_due 21 = .ok (.iconst 1, 1) := by decide +kernel
theorem dL_due_22 : decode cL_due 22 = .ok (.iaload, 1) := by decide +kernel
theorem dL_due_23 : decode cL_due 23 = .ok (.goto 35, 3) := by decide +kernel
theorem dL_due_26 : decode cL_due 26 = .ok (.iload_n 0, 1) := by decide +kernel
theorem dL_due_27 : decode cL_due 27 = .ok (.bipush 7, 2) := by decide +kernel
theorem dL_due_29 : decode cL_due 29 = .ok (.if_icmp .ne 12, 3) := by decide +kernel
theorem dL_due_32 : decode cL_due 32 = .ok (.aload 4, 2) := by decide +kernel
theorem dL_due_34 : decode cL_due 34 = .ok (.iconst 3, 1) := by decide +kernel
theorem dL_due_35 : decode cL_due 35 = .ok (.iload_n 1, 1) := by decide +kernel
theorem dL_due_36 : decode cL_due 36 = .ok (.iadd, 1) := by decide +kernel
theorem dL_due_37 : decode cL_due 37 = .ok (.iaload, 1) := by decide +kernel
theorem dL_due_38 : decode cL_due 38 = .ok (.goto 20, 3) := by decide +kernel
theorem dL_due_41 : decode cL_due 41 = .ok (.iload_n 0, 1) := by decide +kernel
theorem dL_due_42 : decode cL_due 42 = .ok (.bipush 8, 2) := by decide +kernel
theorem dL_due_44 : decode cL_due 44 = .ok (.if_icmp .ne 13, 3) := by decide +kernel
theorem dL_due_47 : decode cL_due 47 = .ok (.aload 5, 2) := by decide +kernel
theorem dL_due_49 : decode cL_due 49 = .ok (.iload_n 1, 1) := by decide +kernel
theorem dL_due_50 : decode cL_due 50 = .ok (.iaload, 1) := by decide +kernel
theorem dL_due_51 : decode cL_due 51 = .ok (.invokestatic 83, 3) := by decide +kernel
theorem dL_due_54 : decode cL_due 54 = .ok (.goto 4, 3) := by decide +kernel
theorem dL_due_57 : decode cL_due 57 = .ok (.iconst 0, 1) := by decide +kernel
theorem dL_due_58 : decode cL_due 58 = .ok (.istore 8, 2) := by decide +kernel
theorem dL_due_60 : decode cL_due 60 = .ok (.iload_n 0, 1) := by decide +kernel
theorem dL_due_61 : decode cL_due 61 = .ok (.tableswitch 324 0 7 #[47, 149, 163, 176, 184, 255, 295, 314], 47) := by decide +kernel
theorem dL_due_108 : decode cL_due 108 = .ok (.iload_n 3, 1) := by decide +kernel
theorem dL_due_109 : decode cL_due 109 = .ok (.invokestatic 83, 3) := by decide +kernel
theorem dL_due_112 : decode cL_due 112 = .ok (.iconst 1, 1) := by decide +kernel
theorem dL_due_113 : decode cL_due 113 = .ok (.if_icmp .le 16, 3) := by decide +kernel
theorem dL_due_116 : decode cL_due 116 = .ok (.iload_n 3, 1) := by decide +kernel
theorem dL_due_117 : decode cL_due 117 = .ok (.invokestatic 83, 3) := by decide +kernel
theorem dL_due_120 : decode cL_due 120 = .ok (.bipush 9, 2) := by decide +kernel
theorem dL_due_122 : decode cL_due 122 = .ok (.if_icmp .ge 7, 3) := by decide +kernel
theorem dL_due_125 : decode cL_due 125 = .ok (.iconst 1, 1) := by decide +kernel
theorem dL_due_126 : decode cL_due 126 = .ok (.goto 4, 3) := by decide +kernel
theorem dL_due_129 : decode cL_due 129 = .ok (.iconst 0, 1) := by decide +kernel
theorem dL_due_130 : decode cL_due 130 = .ok (.istore 9, 2) := by decide +kernel
theorem dL_due_132 : decode cL_due 132 = .ok (.iconst 0, 1) := by decide +kernel
theorem dL_due_133 : decode cL_due 133 = .ok (.istore 10, 2) := by decide +kernel
theorem dL_due_135 : decode cL_due 135 = .ok (.iload 10, 2) := by decide +kernel
theorem dL_due_137 : decode cL_due 137 = .ok (.bipush 20, 2) := by decide +kernel
theorem dL_due_139 : decode cL_due 139 = .ok (.if_icmp .ge 39, 3) := by decide +kernel
theorem dL_due_142 : decode cL_due 142 = .ok (.iload 9, 2) := by decide +kernel
theorem dL_due_144 : decode cL_due 144 = .ok (.ifCond .eq 34, 3) := by decide +kernel
theorem dL_due_147 : decode cL_due 147 = .ok (.iload 10, 2) := by decide +kernel
theorem dL_due_149 : decode cL_due 149 = .ok (.iload_n 1, 1) := by decide +kernel
theorem dL_due_150 : decode cL_due 150 = .ok (.if_icmp .eq 15, 3) := by decide +kernel
theorem dL_due_153 : decode cL_due 153 = .ok (.aload 5, 2) := by decide +kernel
theorem dL_due_155 : decode cL_due 155 = .ok (.iload 10, 2) := by decide +kernel
theorem dL_due_157 : decode cL_due 157 = .ok (.iaload, 1) := by decide +kernel
theorem dL_due_158 : decode cL_due 158 = .ok (.iload_n 3, 1) := by decide +kernel
theorem dL_due_159 : decode cL_due 159 = .ok (.invokestatic 148, 3) := by decide +kernel
theorem dL_due_162 : decode cL_due 162 = .ok (.ifCond .ne 7, 3) := by decide +kernel
theorem dL_due_165 : decode cL_due 165 = .ok (.iconst 1, 1) := by decide +kernel
theorem dL_due_166 : decode cL_due 166 = .ok (.goto 4, 3) := by decide +kernel
theorem dL_due_169 : decode cL_due 169 = .ok (.iconst 0, 1) := by decide +kernel
theorem dL_due_170 : decode cL_due 170 = .ok (.istore 9, 2) := by decide +kernel
theorem dL_due_172 : decode cL_due 172 = .ok (.iinc 10 1, 3) := by decide +kernel
theorem dL_due_175 : decode cL_due 175 = .ok (.goto (-40), 3) := by decide +kernel
theorem dL_due_178 : decode cL_due 178 = .ok (.aload 5, 2) := by decide +kernel
theorem dL_due_180 : decode cL_due 180 = .ok (.iload_n 1, 1) := by decide +kernel
theorem dL_due_181 : decode cL_due 181 = .ok (.iload 9, 2) := by decide +kernel
theorem dL_due_183 : decode cL_due 183 = .ok (.ifCond .eq 7, 3) := by decide +kernel
theorem dL_due_186 : decode cL_due 186 = .ok (.iload_n 3, 1) := by decide +kernel
theorem dL_due_187 : decode cL_due 187 = .ok (.goto 7, 3) := by decide +kernel
theorem dL_due_190 : decode cL_due 190 = .ok (.aload 5, 2) := by decide +kernel
theorem dL_due_192 : decode cL_due 192 = .ok (.iload_n 1, 1) := by decide +kernel
theorem dL_due_193 : decode cL_due 193 = .ok (.iaload, 1) := by decide +kernel
theorem dL_due_194 : decode cL_due 194 = .ok (.iastore, 1) := by decide +kernel
theorem dL_due_195 : decode cL_due 195 = .ok (.iload 9, 2) := by decide +kernel
theorem dL_due_197 : decode cL_due 197 = .ok (.ifCond .eq 10, 3) := by decide +kernel
theorem dL_due_200 : decode cL_due 200 = .ok (.iload_n 3, 1) := by decide +kernel
theorem dL_due_201 : decode cL_due 201 = .ok (.invokestatic 83, 3) := by decide +kernel
theorem dL_due_204 : decode cL_due 204 = .ok (.goto 5, 3) := by decide +kernel
theorem dL_due_207 : decode cL_due 207 = .ok (.bipush (-103), 2) := by decide +kernel
theorem dL_due_209 : decode cL_due 209 = .ok (.ireturn, 1) := by decide +kernel
theorem dL_due_210 : decode cL_due 210 = .ok (.iload_n 1, 1) := by decide +kernel
theorem dL_due_211 : decode cL_due 211 = .ok (.iload_n 2, 1) := by decide +kernel
theorem dL_due_212 : decode cL_due 212 = .ok (.aload 4, 2) := by decide +kernel
theorem dL_due_214 : decode cL_due 214 = .ok (.aload 5, 2) := by decide +kernel
theorem dL_due_216 : decode cL_due 216 = .ok (.aload 6, 2) := by decide +kernel
theorem dL_due_218 : decode cL_due 218 = .ok (.aload 7, 2) := by decide +kernel
theorem dL_due_220 : decode cL_due 220 = .ok (.invokestatic 152, 3) := by decide +kernel
theorem dL_due_223 : decode cL_due 223 = .ok (.ireturn, 1) := by decide +kernel
theorem dL_due_224 : decode cL_due 224 = .ok (.aload 6, 2) := by decide +kernel
theorem dL_due_226 : decode cL_due 226 = .ok (.iconst 5, 1) := by decide +kernel
theorem dL_due_227 : decode cL_due 227 = .ok (.iload_n 1, 1) := by decide +kernel
theorem dL_due_228 : decode cL_due 228 = .ok (.imul, 1) := by decide +kernel
theorem dL_due_229 : decode cL_due 229 = .ok (.aload 4, 2) := by decide +kernel
theorem dL_due_231 : decode cL_due 231 = .ok (.iconst 1, 1) := by decide +kernel
theorem dL_due_232 : decode cL_due 232 = .ok (.iaload, 1) := by decide +kernel
theorem dL_due_233 : decode cL_due 233 = .ok (.iastore, 1) := by decide +kernel
theorem dL_due_234 : decode cL_due 234 = .ok (.iload 8, 2) := by decide +kernel
theorem dL_due_236 : decode cL_due 236 = .ok (.ireturn, 1) := by decide +kernel
theorem dL_due_237 : decode cL_due 237 = .ok (.aload 4, 2) := by decide +kernel
theorem dL_due_239 : decode cL_due 239 = .ok (.iconst 1, 1) := by decide +kernel
theorem dL_due_240 : decode cL_due 240 = .ok (.iload_n 1, 1) := by decide +kernel
theorem dL_due_241 : decode cL_due 241 = .ok (.iastore, 1) := by decide +kernel
theorem dL_due_242 : decode cL_due 242 = .ok (.iload 8, 2) := by decide +kernel
theorem dL_due_244 : decode cL_due 244 = .ok (.ireturn, 1) := by decide +kernel
theorem dL_due_245 : decode cL_due 245 = .ok (.aload 4, 2) := by decide +kernel
theorem dL_due_247 : decode cL_due 247 = .ok (.iconst 0, 1) := by decide +kernel
theorem dL_due_248 : decode cL_due 248 = .ok (.dup2, 1) := by decide +kernel
theorem dL_due_249 : decode cL_due 249 = .ok (.iaload, 1) := by decide +kernel
theorem dL_due_250 : decode cL_due 250 = .ok (.iconst 1, 1) := by decide +kernel
theorem dL_due_251 : decode cL_due 251 = .ok (.iadd, 1) := by decide +kernel
theorem dL_due_252 : decode cL_due 252 = .ok (.iastore, 1) := by decide +kernel
theorem dL_due_253 : decode cL_due 253 = .ok (.iconst 0, 1) := by decide +kernel
theorem dL_due_254 : decode cL_due 254 = .ok (.istore 10, 2) := by decide +kernel
theorem dL_due_256 : decode cL_due 256 = .ok (.iload 10, 2) := by decide +kernel
theorem dL_due_258 : decode cL_due 258 = .ok (.bipush 6, 2) := by decide +kernel
theorem dL_due_260 : decode cL_due 260 = .ok (.if_icmp .ge 51, 3) := by decide +kernel
theorem dL_due_263 : decode cL_due 263 = .ok (.aload 6, 2) := by decide +kernel
theorem dL_due_265 : decode cL_due 265 = .ok (.iconst 5, 1) := by decide +kernel
theorem dL_due_266 : decode cL_due 266 = .ok (.iload 10, 2) := by decide +kernel
theorem dL_due_268 : decode cL_due 268 = .ok (.imul, 1) := by decide +kernel
theorem dL_due_269 : decode cL_due 269 = .ok (.iconst 2, 1) := by decide +kernel
theorem dL_due_270 : decode cL_due 270 = .ok (.iadd, 1) := by decide +kernel
theorem dL_due_271 : decode cL_due 271 = .ok (.iconst 0, 1) := by decide +kernel
theorem dL_due_272 : decode cL_due 272 = .ok (.iastore, 1) := by decide +kernel
theorem dL_due_273 : decode cL_due 273 = .ok (.aload 6, 2) := by decide +kernel
theorem dL_due_275 : decode cL_due 275 = .ok (.iconst 5, 1) := by decide +kernel
theorem dL_due_276 : decode cL_due 276 = .ok (.iload 10, 2) := by decide +kernel
theorem dL_due_278 : decode cL_due 278 = .ok (.imul, 1) := by decide +kernel
theorem dL_due_279 : decode cL_due 279 = .ok (.iconst 1, 1) := by decide +kernel
theorem dL_due_280 : decode cL_due 280 = .ok (.iadd, 1) := by decide +kernel
theorem dL_due_281 : decode cL_due 281 = .ok (.aload 4, 2) := by decide +kernel
theorem dL_due_283 : decode cL_due 283 = .ok (.iconst 0, 1) := by decide +kernel
theorem dL_due_284 : decode cL_due 284 = .ok (.iaload, 1) := by decide +kernel
theorem dL_due_285 : decode cL_due 285 = .ok (.bipush 7, 2) := by decide +kernel
theorem dL_due_287 : decode cL_due 287 = .ok (.irem, 1) := by decide +kernel
theorem dL_due_288 : decode cL_due 288 = .ok (.ifCond .ne 7, 3) := by decide +kernel
theorem dL_due_291 : decode cL_due 291 = .ok (.iconst 0, 1) := by decide +kernel
theorem dL_due_292 : decode cL_due 292 = .ok (.goto 12, 3) := by decide +kernel
theorem dL_due_295 : decode cL_due 295 = .ok (.aload 6, 2) := by decide +kernel
theorem dL_due_297 : decode cL_due 297 = .ok (.iconst 5, 1) := by decide +kernel
theorem dL_due_298 : decode cL_due 298 = .ok (.iload 10, 2) := by decide +kernel
theorem dL_due_300 : decode cL_due 300 = .ok (.imul, 1) := by decide +kernel
theorem dL_due_301 : decode cL_due 301 = .ok (.iconst 1, 1) := by decide +kernel
theorem dL_due_302 : decode cL_due 302 = .ok (.iadd, 1) := by decide +kernel
theorem dL_due_303 : decode cL_due 303 = .ok (.iaload, 1) := by decide +kernel
theorem dL_due_304 : decode cL_due 304 = .ok (.iastore, 1) := by decide +kernel
theorem dL_due_305 : decode cL_due 305 = .ok (.iinc 10 1, 3) := by decide +kernel
theorem dL_due_308 : decode cL_due 308 = .ok (.goto (-52), 3) := by decide +kernel
theorem dL_due_311 : decode cL_due 311 = .ok (.aload 4, 2) := by decide +kernel
theorem dL_due_313 : decode cL_due 313 = .ok (.iconst 0, 1) := by decide +kernel
theorem dL_due_314 : decode cL_due 314 = .ok (.iaload, 1) := by decide +kernel
theorem dL_due_315 : decode cL_due 315 = .ok (.ireturn, 1) := by decide +kernel
theorem dL_due_316 : decode cL_due 316 = .ok (.aload 4, 2) := by decide +kernel
theorem dL_due_318 : decode cL_due 318 = .ok (.iconst 2, 1) := by decide +kernel
theorem dL_due_319 : decode cL_due 319 = .ok (.iload_n 2, 1) := by decide +kernel
theorem dL_due_320 : decode cL_due 320 = .ok (.iconst 2, 1) := by decide +kernel
theorem dL_due_321 : decode cL_due 321 = .ok (.irem, 1) := by decide +kernel
theorem dL_due_322 : decode cL_due 322 = .ok (.iconst 1, 1) := by decide +kernel
theorem dL_due_323 : decode cL_due 323 = .ok (.if_icmp .ne 14, 3) := by decide +kernel
theorem dL_due_326 : decode cL_due 326 = .ok (.aload 4, 2) := by decide +kernel
theorem dL_due_328 : decode cL_due 328 = .ok (.iconst 2, 1) := by decide +kernel
theorem dL_due_329 : decode cL_due 329 = .ok (.iaload, 1) := by decide +kernel
theorem dL_due_330 : decode cL_due 330 = .ok (.iconst 1, 1) := by decide +kernel
theorem dL_due_331 : decode cL_due 331 = .ok (.iload_n 1, 1) := by decide +kernel
theorem dL_due_332 : decode cL_due 332 = .ok (.ishl, 1) := by decide +kernel
theorem dL_due_333 : decode cL_due 333 = .ok (.ior, 1) := by decide +kernel
theorem dL_due_334 : decode cL_due 334 = .ok (.goto 13, 3) := by decide +kernel
theorem dL_due_337 : decode cL_due 337 = .ok (.aload 4, 2) := by decide +kernel
theorem dL_due_339 : decode cL_due 339 = .ok (.iconst 2, 1) := by decide +kernel
theorem dL_due_340 : decode cL_due 340 = .ok (.iaload, 1) := by decide +kernel
theorem dL_due_341 : decode cL_due 341 = .ok (.iconst 1, 1) := by decide +kernel
theorem dL_due_342 : decode cL_due 342 = .ok (.iload_n 1, 1) := by decide +kernel
theorem dL_due_343 : decode cL_due 343 = .ok (.ishl, 1) := by decide +kernel
theorem dL_due_344 : decode cL_due 344 = .ok (.iconst (-1), 1) := by decide +kernel
theorem dL_due_345 : decode cL_due 345 = .ok (.ixor, 1) := by decide +kernel
theorem dL_due_346 : decode cL_due 346 = .ok (.iand, 1) := by decide +kernel
theorem dL_due_347 : decode cL_due 347 = .ok (.iastore, 1) := by decide +kernel
theorem dL_due_348 : decode cL_due 348 = .ok (.aload 4, 2) := by decide +kernel
theorem dL_due_350 : decode cL_due 350 = .ok (.iconst 2, 1) := by decide +kernel
theorem dL_due_351 : decode cL_due 351 = .ok (.iaload, 1) := by decide +kernel
theorem dL_due_352 : decode cL_due 352 = .ok (.invokestatic 124, 3) := by decide +kernel
theorem dL_due_355 : decode cL_due 355 = .ok (.ireturn, 1) := by decide +kernel
theorem dL_due_356 : decode cL_due 356 = .ok (.aload 7, 2) := by decide +kernel
theorem dL_due_358 : decode cL_due 358 = .ok (.iload_n 1, 1) := by decide +kernel
theorem dL_due_359 : decode cL_due 359 = .ok (.dup2, 1) := by decide +kernel
theorem dL_due_360 : decode cL_due 360 = .ok (.iaload, 1) := by decide +kernel
theorem dL_due_361 : decode cL_due 361 = .ok (.iconst 1, 1) := by decide +kernel
theorem dL_due_362 : decode cL_due 362 = .ok (.iload_n 2, 1) := by decide +kernel
theorem dL_due_363 : decode cL_due 363 = .ok (.ishl, 1) := by decide +kernel
theorem dL_due_364 : decode cL_due 364 = .ok (.ixor, 1) := by decide +kernel
theorem dL_due_365 : decode cL_due 365 = .ok (.iastore, 1) := by decide +kernel
theorem dL_due_366 : decode cL_due 366 = .ok (.aload 7, 2) := by decide +kernel
theorem dL_due_368 : decode cL_due 368 = .ok (.iload_n 1, 1) := by decide +kernel
theorem dL_due_369 : decode cL_due 369 = .ok (.iaload, 1) := by decide +kernel
theorem dL_due_370 : decode cL_due 370 = .ok (.iload_n 2, 1) := by decide +kernel
theorem dL_due_371 : decode cL_due 371 = .ok (.ishr, 1) := by decide +kernel
theorem dL_due_372 : decode cL_due 372 = .ok (.iconst 1, 1) := by decide +kernel
theorem dL_due_373 : decode cL_due 373 = .ok (.iand, 1) := by decide +kernel
theorem dL_due_374 : decode cL_due 374 = .ok (.ireturn, 1) := by decide +kernel
theorem dL_due_375 : decode cL_due 375 = .ok (.aload 4, 2) := by decide +kernel
theorem dL_due_377 : decode cL_due 377 = .ok (.iconst 3, 1) := by decide +kernel
theorem dL_due_378 : decode cL_due 378 = .ok (.iload_n 1, 1) := by decide +kernel
theorem dL_due_379 : decode cL_due 379 = .ok (.iadd, 1) := by decide +kernel
theorem dL_due_380 : decode cL_due 380 = .ok (.iload_n 2, 1) := by decide +kernel
theorem dL_due_381 : decode cL_due 381 = .ok (.iastore, 1) := by decide +kernel
theorem dL_due_382 : decode cL_due 382 = .ok (.iload 8, 2) := by decide +kernel
theorem dL_due_384 : decode cL_due 384 = .ok (.ireturn, 1) := by decide +kernel
theorem dL_due_385 : decode cL_due 385 = .ok (.aload 5, 2) := by decide +kernel
theorem dL_due_387 : decode cL_due 387 = .ok (.iload_n 1, 1) := by decide +kernel
theorem dL_due_388 : decode cL_due 388 = .ok (.iconst 0, 1) := by decide +kernel
theorem dL_due_389 : decode cL_due 389 = .ok (.iastore, 1) := by decide +kernel
theorem dL_due_390 : decode cL_due 390 = .ok (.iload 8, 2) := by decide +kernel
theorem dL_due_392 : decode cL_due 392 = .ok (.ireturn, 1) := by decide +kernel
set_option maxRecDepth 20000 in
theorem ggL_isMessage_L_why : GoodIn wsL_isMessage wsL_why := goodIn_r _ [4] (by decide +kernel) (by decide +kernel)
set_option maxRecDepth 20000 in
theorem gL_isMessage_L_why : GoodIn wsL_isMessage (va_wsS RL 116 yL_why wsL_why) := goodIn_app (goodIn_of _ (by decide +kernel)) ggL_isMessage_L_why
set_option maxRecDepth 20000 in
theorem ggL_isMessage_L_brings : GoodIn wsL_isMessage wsL_brings := goodIn_r _ [7, 8, 9, 3, 10] (by decide +kernel) (by decide +kernel)
set_option maxRecDepth 20000 in
theorem gL_isMessage_L_brings : GoodIn wsL_isMessage (va_wsS RL 120 yL_brings wsL_brings) := goodIn_app (goodIn_of _ (by decide +kernel)) ggL_isMessage_L_brings
set_option maxRecDepth 20000 in
theorem ggL_isMessage_L_ones : GoodIn wsL_isMessage wsL_ones := goodIn_r _ [13] (by decide +kernel) (by decide +kernel)
set_option maxRecDepth 20000 in
theorem gL_isMessage_L_ones : GoodIn wsL_isMessage (va_wsS RL 124 yL_ones wsL_ones) := goodIn_app (goodIn_of _ (by decide +kernel)) ggL_isMessage_L_ones
set_option maxRecDepth 20000 in
theorem ggL_isMessage_L_message : GoodIn wsL_isMessage wsL_message := goodIn_ca (goodIn_ca (goodIn_r _ [16, 17, 18, 19, 20, 21, 22, 23, 24, 25, 26, 27, 28, 29, 30, 31, 32, 33, 34, 35, 121, 122, 123, 124, 125, 126, 127, 128, 129, 130, 131, 132, 133, 134, 135, 136, 137, 138, 139, 140, 141, 142, 143, 144, 145] (by decide +kernel) (by decide +kernel)) (goodIn_sub (fun _ h => List.mem_cons_of_mem _ (List.mem_append_left _ (List.mem_append_right _ h))) (by decide +kernel))) (goodIn_sub (fun _ h => List.mem_cons_of_mem _ (List.mem_append_right _ h)) (by decide +kernel))
set_option maxRecDepth 20000 in
theorem gL_isMessage_L_message : GoodIn wsL_isMessage (va_wsS RL 156 yL_message wsL_message) := goodIn_app (goodIn_of _ (by decide +kernel)) ggL_isMessage_L_message
set_option maxRecDepth 20000 in
theorem ggL_isMessage_L_many : GoodIn wsL_isMessage wsL_many := goodIn_r _ [38] (by decide +kernel) (by decide +kernel)
set_option maxRecDepth 20000 in
theorem gL_isMessage_L_many : GoodIn wsL_isMessage (va_wsS RL 83 yL_many wsL_many) := goodIn_app (goodIn_of _ (by decide +kernel)) ggL_isMessage_L_many
set_option maxRecDepth 20000 in
theorem ggL_isMessage_L_bestRoom : GoodIn wsL_isMessage wsL_bestRoom := goodIn_ca (goodIn_r _ [41, 17, 42, 43, 44, 22, 45, 24, 25, 46, 28, 47, 48, 33, 34, 35, 49, 50, 51, 52, 53, 54, 55, 56, 57, 58, 59, 60, 61, 62, 63, 64, 65, 66, 67, 68, 69, 70, 71, 72, 73, 74, 75, 76, 77, 78, 79, 80, 81, 82, 83, 84, 85, 86, 87, 88, 89, 90, 91, 92, 93, 94, 95, 96, 97, 98, 99, 100, 101, 102, 103, 104, 105, 121, 122, 123, 124, 125, 126, 127, 128, 129, 146, 147, 148, 149, 150, 130, 131, 132, 133, 134, 135, 136, 137, 138, 139, 140, 141, 142, 143, 144, 145] (by decide +kernel) (by decide +kernel)) (goodIn_sub (fun _ h => List.mem_cons_of_mem _ (List.mem_append_left _ (List.mem_append_right _ h))) (by decide +kernel))
set_option maxRecDepth 20000 in
theorem gL_isMessage_L_bestRoom : GoodIn wsL_isMessage (va_wsS RL 158 yL_bestRoom wsL_bestRoom) := goodIn_app (goodIn_of _ (by decide +kernel)) ggL_isMessage_L_bestRoom
set_option maxRecDepth 20000 in
theorem ggL_isMessage_L_note : GoodIn wsL_isMessage wsL_note := goodIn_ca (goodIn_ca (goodIn_r _ [108, 17, 18, 109, 110, 111, 22, 112, 24, 25, 26, 27, 28, 29, 33, 34, 35, 113, 114, 115, 65, 116, 117, 121, 122, 123, 124, 125, 126, 127, 128, 129, 130, 131, 132, 133, 134, 135, 136, 137, 138, 139, 140, 141, 142, 143, 144, 145] (by decide +kernel) (by decide +kernel)) (goodIn_sub (fun _ h => List.mem_cons_of_mem _ (List.mem_append_left _ (List.mem_append_right _ h))) (by decide +kernel))) (goodIn_sub (fun _ h => List.mem_cons_of_mem _ (List.mem_append_right _ h)) (by decide +kernel))
set_option maxRecDepth 20000 in
theorem gL_isMessage_L_note : GoodIn wsL_isMessage (va_wsS RL 160 yL_note wsL_note) := goodIn_app (goodIn_of _ (by decide +kernel)) ggL_isMessage_L_note
set_option maxRecDepth 20000 in
theorem ggL_isMessage_L_noteAt : GoodIn wsL_isMessage wsL_noteAt := goodIn_r _ [120] (by decide +kernel) (by decide +kernel)
set_option maxRecDepth 20000 in
theorem gL_isMessage_L_noteAt : GoodIn wsL_isMessage (va_wsS RL 106 yL_noteAt wsL_noteAt) := goodIn_app (goodIn_of _ (by decide +kernel)) ggL_isMessage_L_noteAt
theorem dL_isMessage_0 : decode cL_isMessage 0 = .ok (.aload 5, 2) := by decide +kernel
theorem dL_isMessage_2 : decode cL_isMessage 2 = .ok (.iconst 0, 1) := by decide +kernel
theorem dL_isMessage_3 : decode cL_isMessage 3 = .ok (.iaload, 1) := by decide +kernel
theorem dL_isMessage_4 : decode cL_isMessage 4 = .ok (.iload_n 1, 1) := by decide +kernel
theorem dL_isMessage_5 : decode cL_isMessage 5 = .ok (.ishr, 1) := by decide +kernel
theorem dL_isMessage_6 : decode cL_isMessage 6 = .ok (.iconst 1, 1) := by decide +kernel
theorem dL_isMessage_7 : decode cL_isMessage 7 = .ok (.iand, 1) := by decide +kernel
theorem dL_isMessage_8 : decode cL_isMessage 8 = .ok (.iconst 2, 1) := by decide +kernel
theorem dL_isMessage_9 : decode cL_isMessage 9 = .ok (.aload 5, 2) := by decide +kernel
theorem dL_isMessage_11 : decode cL_isMessage 11 = .ok (.iconst 1, 1) := by decide +kernel
theorem dL_isMessage_12 : decode cL_isMessage 12 = .ok (.iaload, 1) := by decide +kernel
theorem dL_isMessage_13 : decode cL_isMessage 13 = .ok (.iload_n 1, 1) := by decide +kernel
theorem dL_isMessage_14 : decode cL_isMessage 14 = .ok (.ishr, 1) := by decide +kernel
theorem dL_isMessage_15 : decode cL_isMessage 15 = .ok (.iconst 1, 1) := by decide +kernel
theorem dL_isMessage_16 : decode cL_isMessage 16 = .ok (.iand, 1) := by decide +kernel
theorem dL_isMessage_17 : decode cL_isMessage 17 = .ok (.imul, 1) := by decide +kernel
theorem dL_isMessage_18 : decode cL_isMessage 18 = .ok (.iadd, 1) := by decide +kernel
theorem dL_isMessage_19 : decode cL_isMessage 19 = .ok (.iconst 4, 1) := by decide +kernel
theorem dL_isMessage_20 : decode cL_isMessage 20 = .ok (.aload 5, 2) := by decide +kernel
theorem dL_isMessage_22 : decode cL_isMessage 22 = .ok (.iconst 2, 1) := by decide +kernel
theorem dL_isMessage_23 : decode cL_isMessage 23 = .ok (.iaload, 1) := by decide +kernel
theorem dL_isMessage_24 : decode cL_isMessage 24 = .ok (.iload_n 1, 1) := by decide +kernel
theorem dL_isMessage_25 : decode cL_isMessage 25 = .ok (.ishr, 1) := by decide +kernel
theorem dL_isMessage_26 : decode cL_isMessage 26 = .ok (.iconst 1, 1) := by decide +kernel
theorem dL_isMessage_27 : decode cL_isMessage 27 = .ok (.iand, 1) := by decide +kernel
theorem dL_isMessage_28 : decode cL_isMessage 28 = .ok (.imul, 1) := by decide +kernel
theorem dL_isMessage_29 : decode cL_isMessage 29 = .ok (.iadd, 1) := by decide +kernel
theorem dL_isMessage_30 : decode cL_isMessage 30 = .ok (.istore 6, 2) := by decide +kernel
theorem dL_isMessage_32 : decode cL_isMessage 32 = .ok (.iconst (-1), 1) := by decide +kernel
theorem dL_isMessage_33 : decode cL_isMessage 33 = .ok (.istore 7, 2) := by decide +kernel
theorem dL_isMessage_35 : decode cL_isMessage 35 = .ok (.iconst (-1), 1) := by decide +kernel
theorem dL_isMessage_36 : decode cL_isMessage 36 = .ok (.istore 8, 2) := by decide +kernel
theorem dL_isMessage_38 : decode cL_isMessage 38 = .ok (.iconst 0, 1) := by decide +kernel
theorem dL_isMessage_39 : decode cL_isMessage 39 = .ok (.istore 9, 2) := by decide +kernel
theorem dL_isMessage_41 : decode cL_isMessage 41 = .ok (.iload 9, 2) := by decide +kernel
theorem dL_isMessage_43 : decode cL_isMessage 43 = .ok (.bipush 6, 2) := by decide +kernel
theorem dL_isMessage_45 : decode cL_isMessage 45 = .ok (.if_icmp .ge 103, 3) := by decide +kernel
theorem dL_isMessage_48 : decode cL_isMessage 48 = .ok (.iload 9, 2) := by decide +kernel
theorem dL_isMessage_50 : decode cL_isMessage 50 = .ok (.iload_n 1, 1) := by decide +kernel
theorem dL_isMessage_51 : decode cL_isMessage 51 = .ok (.aload_n 2, 1) := by decide +kernel
theorem dL_isMessage_52 : decode cL_isMessage 52 = .ok (.aload_n 3, 1) := by decide +kernel
theorem dL_isMessage_53 : decode cL_isMessage 53 = .ok (.aload 4, 2) := by decide +kernel
theorem dL_isMessage_55 : decode cL_isMessage 55 = .ok (.invokestatic 116, 3) := by decide +kernel
theorem dL_isMessage_58 : decode cL_isMessage 58 = .ok (.ifCond .ne 22, 3) := by decide +kernel
theorem dL_isMessage_61 : decode cL_isMessage 61 = .ok (.iload 9, 2) := by decide +kernel
theorem dL_isMessage_63 : decode cL_isMessage 63 = .ok (.iload_n 1, 1) := by decide +kernel
theorem dL_isMessage_64 : decode cL_isMessage 64 = .ok (.iconst 2, 1) := by decide +kernel
theorem dL_isMessage_65 : decode cL_isMessage 65 = .ok (.aload_n 2, 1) := by decide +kernel
theorem dL_isMessage_66 : decode cL_isMessage 66 = .ok (.aload 4, 2) := by decide +kernel
theorem dL_isMessage_68 : decode cL_isMessage 68 = .ok (.aload 5, 2) := by decide +kernel
theorem dL_isMessage_70 : decode cL_isMessage 70 = .ok (.invokestatic 120, 3) := by decide +kernel
theorem dL_isMessage_73 : decode cL_isMessage 73 = .ok (.ifCond .ne 7, 3) := by decide +kernel
theorem dL_isMessage_76 : decode cL_isMessage 76 = .ok (.iconst 1, 1) := by decide +kernel
theorem dL_isMessage_77 : decode cL_isMessage 77 = .ok (.goto 4, 3) := by decide +kernel
theorem dL_isMessage_80 : decode cL_isMessage 80 = .ok (.iconst 0, 1) := by decide +kernel
theorem dL_isMessage_81 : decode cL_isMessage 81 = .ok (.istore 10, 2) := by decide +kernel
theorem dL_isMessage_83 : decode cL_isMessage 83 = .ok (.iload 9, 2) := by decide +kernel
theorem dL_isMessage_85 : decode cL_isMessage 85 = .ok (.iload_n 1, 1) := by decide +kernel
theorem dL_isMessage_86 : decode cL_isMessage 86 = .ok (.iconst 1, 1) := by decide +kernel
theorem dL_isMessage_87 : decode cL_isMessage 87 = .ok (.aload_n 2, 1) := by decide +kernel
theorem dL_isMessage_88 : decode cL_isMessage 88 = .ok (.aload 4, 2) := by decide +kernel
theorem dL_isMessage_90 : decode cL_isMessage 90 = .ok (.aload 5, 2) := by decide +kernel
theorem dL_isMessage_92 : decode cL_isMessage 92 = .ok (.invokestatic 120, 3) := by decide +kernel
theorem dL_isMessage_95 : decode cL_isMessage 95 = .ok (.invokestatic 124, 3) := by decide +kernel
theorem dL_isMessage_98 : decode cL_isMessage 98 = .ok (.istore 11, 2) := by decide +kernel
theorem dL_isMessage_100 : decode cL_isMessage 100 = .ok (.iload 10, 2) := by decide +kernel
theorem dL_isMessage_102 : decode cL_isMessage 102 = .ok (.ifCond .eq 15, 3) := by decide +kernel
theorem dL_isMessage_105 : decode cL_isMessage 105 = .ok (.iload 11, 2) := by decide +kernel
theorem dL_isMessage_107 : decode cL_isMessage 107 = .ok (.iload 8, 2) := by decide +kernel
theorem dL_isMessage_109 : decode cL_isMessage 109 = .ok (.if_icmp .le 8, 3) := by decide +kernel
theorem dL_isMessage_112 : decode cL_isMessage 112 = .ok (.iload 9, 2) := by decide +kernel
theorem dL_isMessage_114 : decode cL_isMessage 114 = .ok (.goto 5, 3) := by decide +kernel
theorem dL_isMessage_117 : decode cL_isMessage 117 = .ok (.iload 7, 2) := by decide +kernel
theorem dL_isMessage_119 : decode cL_isMessage 119 = .ok (.istore 7, 2) := by decide +kernel
theorem dL_isMessage_121 : decode cL_isMessage 121 = .ok (.iload 10, 2) := by decide +kernel
theorem dL_isMessage_123 : decode cL_isMessage 123 = .ok (.ifCond .eq 15, 3) := by decide +kernel
theorem dL_isMessage_126 : decode cL_isMessage 126 = .ok (.iload 11, 2) := by decide +kernel
theorem dL_isMessage_128 : decode cL_isMessage 128 = .ok (.iload 8, 2) := by decide +kernel
theorem dL_isMessage_130 : decode cL_isMessage 130 = .ok (.if_icmp .le 8, 3) := by decide +kernel
theorem dL_isMessage_133 : decode cL_isMessage 133 = .ok (.iload 11, 2) := by decide +kernel
theorem dL_isMessage_135 : decode cL_isMessage 135 = .ok (.goto 5, 3) := by decide +kernel
theorem dL_isMessage_138 : decode cL_isMessage 138 = .ok (.iload 8, 2) := by decide +kernel
theorem dL_isMessage_140 : decode cL_isMessage 140 = .ok (.istore 8, 2) := by decide +kernel
theorem dL_isMessage_142 : decode cL_isMessage 142 = .ok (.iinc 9 1, 3) := by decide +kernel
theorem dL_isMessage_145 : decode cL_isMessage 145 = .ok (.goto (-104), 3) := by decide +kernel
theorem dL_isMessage_148 : decode cL_isMessage 148 = .ok (.aload_n 0, 1) := by decide +kernel
theorem dL_isMessage_149 : decode cL_isMessage 149 = .ok (.iload_n 1, 1) := by decide +kernel
theorem dL_isMessage_150 : decode cL_isMessage 150 = .ok (.iconst 0, 1) := by decide +kernel
theorem dL_isMessage_151 : decode cL_isMessage 151 = .ok (.invokestatic 156, 3) := by decide +kernel
theorem dL_isMessage_154 : decode cL_isMessage 154 = .ok (.aload_n 3, 1) := by decide +kernel
theorem dL_isMessage_155 : decode cL_isMessage 155 = .ok (.iload_n 1, 1) := by decide +kernel
theorem dL_isMessage_156 : decode cL_isMessage 156 = .ok (.iaload, 1) := by decide +kernel
theorem dL_isMessage_157 : decode cL_isMessage 157 = .ok (.invokestatic 83, 3) := by decide +kernel
theorem dL_isMessage_160 : decode cL_isMessage 160 = .ok (.if_icmp .ne 58, 3) := by decide +kernel
theorem dL_isMessage_163 : decode cL_isMessage 163 = .ok (.aload_n 0, 1) := by decide +kernel
theorem dL_isMessage_164 : decode cL_isMessage 164 = .ok (.iload_n 1, 1) := by decide +kernel
theorem dL_isMessage_165 : decode cL_isMessage 165 = .ok (.iconst 1, 1) := by decide +kernel
theorem dL_isMessage_166 : decode cL_isMessage 166 = .ok (.invokestatic 156, 3) := by decide +kernel
theorem dL_isMessage_169 : decode cL_isMessage 169 = .ok (.iload 6, 2) := by decide +kernel
theorem dL_isMessage_171 : decode cL_isMessage 171 = .ok (.if_icmp .ne 47, 3) := by decide +kernel
theorem dL_isMessage_174 : decode cL_isMessage 174 = .ok (.aload_n 0, 1) := by decide +kernel
theorem dL_isMessage_175 : decode cL_isMessage 175 = .ok (.iload_n 1, 1) := by decide +kernel
theorem dL_isMessage_176 : decode cL_isMessage 176 = .ok (.iconst 2, 1) := by decide +kernel
theorem dL_isMessage_177 : decode cL_isMessage 177 = .ok (.invokestatic 156, 3) := by decide +kernel
theorem dL_isMessage_180 : decode cL_isMessage 180 = .ok (.aload_n 3, 1) := by decide +kernel
theorem dL_isMessage_181 : decode cL_isMessage 181 = .ok (.bipush 20, 2) := by decide +kernel
theorem dL_isMessage_183 : decode cL_isMessage 183 = .ok (.iload_n 1, 1) := by decide +kernel
theorem dL_isMessage_184 : decode cL_isMessage 184 = .ok (.iadd, 1) := by decide +kernel
theorem dL_isMessage_185 : decode cL_isMessage 185 = .ok (.iaload, 1) := by decide +kernel
theorem dL_isMessage_186 : decode cL_isMessage 186 = .ok (.if_icmp .ne 32, 3) := by decide +kernel
theorem dL_isMessage_189 : decode cL_isMessage 189 = .ok (.aload_n 0, 1) := by decide +kernel
theorem dL_isMessage_190 : decode cL_isMessage 190 = .ok (.iload_n 1, 1) := by decide +kernel
theorem dL_isMessage_191 : decode cL_isMessage 191 = .ok (.iconst 3, 1) := by decide +kernel
theorem dL_isMessage_192 : decode cL_isMessage 192 = .ok (.invokestatic 156, 3) := by decide +kernel
theorem dL_isMessage_195 : decode cL_isMessage 195 = .ok (.aload_n 3, 1) := by decide +kernel
theorem dL_isMessage_196 : decode cL_isMessage 196 = .ok (.bipush 40, 2) := by decide +kernel
theorem dL_isMessage_198 : decode cL_isMessage 198 = .ok (.iload_n 1, 1) := by decide +kernel
theorem dL_isMessage_199 : decode cL_isMessage 199 = .ok (.iadd, 1) := by decide +kernel
theorem dL_isMessage_200 : decode cL_isMessage 200 = .ok (.iaload, 1) := by decide +kernel
theorem dL_isMessage_201 : decode cL_isMessage 201 = .ok (.if_icmp .ne 17, 3) := by decide +kernel
theorem dL_isMessage_204 : decode cL_isMessage 204 = .ok (.aload_n 0, 1) := by decide +kernel
theorem dL_isMessage_205 : decode cL_isMessage 205 = .ok (.iload_n 1, 1) := by decide +kernel
theorem dL_isMessage_206 : decode cL_isMessage 206 = .ok (.invokestatic 158, 3) := by decide +kernel
theorem dL_isMessage_209 : decode cL_isMessage 209 = .ok (.iload 7, 2) := by decide +kernel
theorem dL_isMessage_211 : decode cL_isMessage 211 = .ok (.if_icmp .ne 7, 3) := by decide +kernel
theorem dL_isMessage_214 : decode cL_isMessage 214 = .ok (.iconst 1, 1) := by decide +kernel
theorem dL_isMessage_215 : decode cL_isMessage 215 = .ok (.goto 4, 3) := by decide +kernel
theorem dL_isMessage_218 : decode cL_isMessage 218 = .ok (.iconst 0, 1) := by decide +kernel
theorem dL_isMessage_219 : decode cL_isMessage 219 = .ok (.istore 9, 2) := by decide +kernel
theorem dL_isMessage_221 : decode cL_isMessage 221 = .ok (.iconst 0, 1) := by decide +kernel
theorem dL_isMessage_222 : decode cL_isMessage 222 = .ok (.istore 10, 2) := by decide +kernel
theorem dL_isMessage_224 : decode cL_isMessage 224 = .ok (.iload 10, 2) := by decide +kernel
theorem dL_isMessage_226 : decode cL_isMessage 226 = .ok (.bipush 8, 2) := by decide +kernel
theorem dL_isMessage_228 : decode cL_isMessage 228 = .ok (.if_icmp .ge 54, 3) := by decide +kernel
theorem dL_isMessage_231 : decode cL_isMessage 231 = .ok (.iload 9, 2) := by decide +kernel
theorem dL_isMessage_233 : decode cL_isMessage 233 = .ok (.ifCond .eq 40, 3) := by decide +kernel
theorem dL_isMessage_236 : decode cL_isMessage 236 = .ok (.aload_n 0, 1) := by decide +kernel
theorem dL_isMessage_237 : decode cL_isMessage 237 = .ok (.iload_n 1, 1) := by decide +kernel
theorem dL_isMessage_238 : decode cL_isMessage 238 = .ok (.iload 10, 2) := by decide +kernel
theorem dL_isMessage_240 : decode cL_isMessage 240 = .ok (.invokestatic 160, 3) := by decide +kernel
theorem dL_isMessage_243 : decode cL_isMessage 243 = .ok (.iload 10, 2) := by decide +kernel
theorem dL_isMessage_245 : decode cL_isMessage 245 = .ok (.aload_n 3, 1) := by decide +kernel
theorem dL_isMessage_246 : decode cL_isMessage 246 = .ok (.iload_n 1, 1) := by decide +kernel
theorem dL_isMessage_247 : decode cL_isMessage 247 = .ok (.iaload, 1) := by decide +kernel
theorem dL_isMessage_248 : decode cL_isMessage 248 = .ok (.invokestatic 83, 3) := by decide +kernel
theorem dL_isMessage_251 : decode cL_isMessage 251 = .ok (.if_icmp .ge 14, 3) := by decide +kernel
theorem dL_isMessage_254 : decode cL_isMessage 254 = .ok (.aload_n 3, 1) := by decide +kernel
theorem dL_isMessage_255 : decode cL_isMessage 255 = .ok (.iload_n 1, 1) := by decide +kernel
theorem dL_isMessage_256 : decode cL_isMessage 256 = .ok (.iaload, 1) := by decide +kernel
theorem dL_isMessage_257 : decode cL_isMessage 257 = .ok (.iload 10, 2) := by decide +kernel
theorem dL_isMessage_259 : decode cL_isMessage 259 = .ok (.invokestatic 106, 3) := by decide +kernel
theorem dL_isMessage_262 : decode cL_isMessage 262 = .ok (.goto 4, 3) := by decide +kernel
theorem dL_isMessage_265 : decode cL_isMessage 265 = .ok (.iconst (-1), 1) := by decide +kernel
theorem dL_isMessage_266 : decode cL_isMessage 266 = .ok (.if_icmp .ne 7, 3) := by decide +kernel
theorem dL_isMessage_269 : decode cL_isMessage 269 = .ok (.iconst 1, 1) := by decide +kernel
theorem dL_isMessage_270 : decode cL_isMessage 270 = .ok (.goto 4, 3) := by decide +kernel
theorem dL_isMessage_273 : decode cL_isMessage 273 = .ok (.iconst 0, 1) := by decide +kernel
theorem dL_isMessage_274 : decode cL_isMessage 274 = .ok (.istore 9, 2) := by decide +kernel
theorem dL_isMessage_276 : decode cL_isMessage 276 = .ok (.iinc 10 1, 3) := by decide +kernel
theorem dL_isMessage_279 : decode cL_isMessage 279 = .ok (.goto (-55), 3) := by decide +kernel
theorem dL_isMessage_282 : decode cL_isMessage 282 = .ok (.iload 9, 2) := by decide +kernel
theorem dL_isMessage_284 : decode cL_isMessage 284 = .ok (.ireturn, 1) := by decide +kernel
set_option maxRecDepth 20000 in
theorem ggL_isRoom_L_why : GoodIn wsL_isRoom wsL_why := goodIn_r _ [4] (by decide +kernel) (by decide +kernel)
set_option maxRecDepth 20000 in
theorem gL_isRoom_L_why : GoodIn wsL_isRoom (va_wsS RL 116 yL_why wsL_why) := goodIn_app (goodIn_of _ (by decide +kernel)) ggL_isRoom_L_why
set_option maxRecDepth 20000 in
theorem ggL_isRoom_L_room : GoodIn wsL_isRoom wsL_room := goodIn_ca (goodIn_ca (goodIn_r _ [7, 8, 9, 10, 11, 12, 13, 14, 15, 16, 17, 18, 19, 20, 21, 22, 23, 24, 25, 26, 27, 28, 29, 30, 31, 32, 33, 34, 35, 36, 37, 108, 109, 110, 111, 112, 113, 114, 115, 116, 117, 118, 119, 120, 121, 122, 123, 124, 125, 126, 127, 128, 129, 130, 131, 132] (by decide +kernel) (by decide +kernel)) (goodIn_sub (fun _ h => List.mem_cons_of_mem _ (List.mem_append_left _ (List.mem_append_right _ h))) (by decide +kernel))) (goodIn_sub (fun _ h => List.mem_cons_of_mem _ (List.mem_append_right _ h)) (by decide +kernel))
set_option maxRecDepth 20000 in
theorem gL_isRoom_L_room : GoodIn wsL_isRoom (va_wsS RL 162 yL_room wsL_room) := goodIn_app (goodIn_of _ (by decide +kernel)) ggL_isRoom_L_room
set_option maxRecDepth 20000 in
theorem ggL_isRoom_L_whyNot : GoodIn wsL_isRoom wsL_whyNot := goodIn_ca (goodIn_r _ [40, 8, 41, 42, 43, 13, 44, 15, 16, 19, 25, 26, 27, 45, 46, 47, 48, 49, 50, 34, 51, 52, 53, 32, 33, 35, 36, 37, 108, 109, 110, 111, 112, 113, 114, 115, 116, 117, 118, 119, 120, 121, 122, 123, 124, 125, 126, 127, 128, 129, 130, 131, 132] (by decide +kernel) (by decide +kernel)) (goodIn_sub (fun _ h => List.mem_cons_of_mem _ (List.mem_append_left _ (List.mem_append_right _ h))) (by decide +kernel))
set_option maxRecDepth 20000 in
theorem gL_isRoom_L_whyNot : GoodIn wsL_isRoom (va_wsS RL 164 yL_whyNot wsL_whyNot) := goodIn_app (goodIn_of _ (by decide +kernel)) ggL_isRoom_L_whyNot
set_option maxRecDepth 20000 in
theorem ggL_isRoom_L_ifWhistled : GoodIn wsL_isRoom wsL_ifWhistled := goodIn_ca (goodIn_ca (goodIn_r _ [56, 8, 9, 57, 58, 59, 13, 60, 15, 16, 17, 18, 19, 61, 62, 63, 64, 65, 25, 26, 27, 45, 46, 47, 48, 49, 50, 34, 51, 52, 53, 32, 33, 35, 36, 37, 66, 67, 68, 69, 70, 71, 72, 73, 74, 75, 76, 77, 78, 79, 80, 81, 82, 83, 84, 85, 86, 87, 29, 30, 88, 89, 90, 91, 92, 93, 94, 95, 96, 97, 98, 99, 100, 101, 108, 109, 110, 111, 112, 113, 114, 115, 116, 133, 134, 135, 136, 137, 117, 118, 119, 120, 121, 122, 123, 124, 125, 126, 127, 128, 129, 130, 131, 132] (by decide +kernel) (by decide +kernel)) (goodIn_sub (fun _ h => List.mem_cons_of_mem _ (List.mem_append_left _ (List.mem_append_right _ h))) (by decide +kernel))) (goodIn_sub (fun _ h => List.mem_cons_of_mem _ (List.mem_append_right _ h)) (by decide +kernel))
set_option maxRecDepth 20000 in
theorem gL_isRoom_L_ifWhistled : GoodIn wsL_isRoom (va_wsS RL 166 yL_ifWhistled wsL_ifWhistled) := goodIn_app (goodIn_of _ (by decide +kernel)) ggL_isRoom_L_ifWhistled
set_option maxRecDepth 20000 in
theorem ggL_isRoom_L_brings : GoodIn wsL_isRoom wsL_brings := goodIn_r _ [104, 105, 106, 3, 107] (by decide +kernel) (by decide +kernel)
set_option maxRecDepth 20000 in
theorem gL_isRoom_L_brings : GoodIn wsL_isRoom (va_wsS RL 120 yL_brings wsL_brings) := goodIn_app (goodIn_of _ (by decide +kernel)) ggL_isRoom_L_brings
theorem dL_isRoom_0 : decode cL_isRoom 0 = .ok (.iload_n 1, 1) := by decide +kernel
theorem dL_isRoom_1 : decode cL_isRoom 1 = .ok (.iload_n 2, 1) := by decide +kernel
theorem dL_isRoom_2 : decode cL_isRoom 2 = .ok (.aload_n 3, 1) := by decide +kernel
theorem dL_isRoom_3 : decode cL_isRoom 3 = .ok (.aload 4, 2) := by decide +kernel
theorem dL_isRoom_5 : decode cL_isRoom 5 = .ok (.aload 5, 2) := by decide +kernel
theorem dL_isRoom_7 : decode cL_isRoom 7 = .ok (.invokestatic 116, 3) := by decide +kernel
theorem dL_isRoom_10 : decode cL_isRoom 10 = .ok (.istore 7, 2) := by decide +kernel
theorem dL_isRoom_12 : decode cL_isRoom 12 = .ok (.aload_n 0, 1) := by decide +kernel
theorem dL_isRoom_13 : decode cL_isRoom 13 = .ok (.iload_n 1, 1) := by decide +kernel
theorem dL_isRoom_14 : decode cL_isRoom 14 = .ok (.iconst 0, 1) := by decide +kernel
theorem dL_isRoom_15 : decode cL_isRoom 15 = .ok (.invokestatic 162, 3) := by decide +kernel
theorem dL_isRoom_18 : decode cL_isRoom 18 = .ok (.aload 5, 2) := by decide +kernel
theorem dL_isRoom_20 : decode cL_isRoom 20 = .ok (.iconst 5, 1) := by decide +kernel
theorem dL_isRoom_21 : decode cL_isRoom 21 = .ok (.iload_n 1, 1) := by decide +kernel
theorem dL_isRoom_22 : decode cL_isRoom 22 = .ok (.imul, 1) := by decide +kernel
theorem dL_isRoom_23 : decode cL_isRoom 23 = .ok (.iaload, 1) := by decide +kernel
theorem dL_isRoom_24 : decode cL_isRoom 24 = .ok (.if_icmp .ne 114, 3) := by decide +kernel
theorem dL_isRoom_27 : decode cL_isRoom 27 = .ok (.aload_n 0, 1) := by decide +kernel
theorem dL_isRoom_28 : decode cL_isRoom 28 = .ok (.iload_n 1, 1) := by decide +kernel
theorem dL_isRoom_29 : decode cL_isRoom 29 = .ok (.iconst 1, 1) := by decide +kernel
theorem dL_isRoom_30 : decode cL_isRoom 30 = .ok (.invokestatic 162, 3) := by decide +kernel
theorem dL_isRoom_33 : decode cL_isRoom 33 = .ok (.aload 5, 2) := by decide +kernel
theorem dL_isRoom_35 : decode cL_isRoom 35 = .ok (.iconst 5, 1) := by decide +kernel
theorem dL_isRoom_36 : decode cL_isRoom 36 = .ok (.iload_n 1, 1) := by decide +kernel
theorem dL_isRoom_37 : decode cL_isRoom 37 = .ok (.imul, 1) := by decide +kernel
theorem dL_isRoom_38 : decode cL_isRoom 38 = .ok (.iconst 1, 1) := by decide +kernel
theorem dL_isRoom_39 : decode cL_isRoom 39 = .ok (.iadd, 1) := by decide +kernel
theorem dL_isRoom_40 : decode cL_isRoom 40 = .ok (.iaload, 1) := by decide +kernel
theorem dL_isRoom_41 : decode cL_isRoom 41 = .ok (.if_icmp .ne 97, 3) := by decide +kernel
theorem dL_isRoom_44 : decode cL_isRoom 44 = .ok (.aload_n 0, 1) := by decide +kernel
theorem dL_isRoom_45 : decode cL_isRoom 45 = .ok (.iload_n 1, 1) := by decide +kernel
theorem dL_isRoom_46 : decode cL_isRoom 46 = .ok (.iconst 2, 1) := by decide +kernel
theorem dL_isRoom_47 : decode cL_isRoom 47 = .ok (.invokestatic 162, 3) := by decide +kernel
theorem dL_isRoom_50 : decode cL_isRoom 50 = .ok (.aload 5, 2) := by decide +kernel
theorem dL_isRoom_52 : decode cL_isRoom 52 = .ok (.iconst 5, 1) := by decide +kernel
theorem dL_isRoom_53 : decode cL_isRoom 53 = .ok (.iload_n 1, 1) := by decide +kernel
theorem dL_isRoom_54 : decode cL_isRoom 54 = .ok (.imul, 1) := by decide +kernel
theorem dL_isRoom_55 : decode cL_isRoom 55 = .ok (.iconst 2, 1) := by decide +kernel
theorem dL_isRoom_56 : decode cL_isRoom 56 = .ok (.iadd, 1) := by decide +kernel
theorem dL_isRoom_57 : decode cL_isRoom 57 = .ok (.iaload, 1) := by decide +kernel
theorem dL_isRoom_58 : decode cL_isRoom 58 = .ok (.if_icmp .ne 80, 3) := by decide +kernel
theorem dL_isRoom_61 : decode cL_isRoom 61 = .ok (.aload_n 0, 1) := by decide +kernel
theorem dL_isRoom_62 : decode cL_isRoom 62 = .ok (.iload_n 1, 1) := by decide +kernel
theorem dL_isRoom_63 : decode cL_isRoom 63 = .ok (.iconst 3, 1) := by decide +kernel
theorem dL_isRoom_64 : decode cL_isRoom 64 = .ok (.invokestatic 162, 3) := by decide +kernel
theorem dL_isRoom_67 : decode cL_isRoom 67 = .ok (.aload 5, 2) := by decide +kernel
theorem dL_isRoom_69 : decode cL_isRoom 69 = .ok (.iconst 5, 1) := by decide +kernel
theorem dL_isRoom_70 : decode cL_isRoom 70 = .ok (.iload_n 1, 1) := by decide +kernel
theorem dL_isRoom_71 : decode cL_isRoom 71 = .ok (.imul, 1) := by decide +kernel
theorem dL_isRoom_72 : decode cL_isRoom 72 = .ok (.iconst 1, 1) := by decide +kernel
theorem dL_isRoom_73 : decode cL_isRoom 73 = .ok (.iadd, 1) := by decide +kernel
theorem dL_isRoom_74 : decode cL_isRoom 74 = .ok (.iaload, 1) := by decide +kernel
theorem dL_isRoom_75 : decode cL_isRoom 75 = .ok (.aload_n 3, 1) := by decide +kernel
theorem dL_isRoom_76 : decode cL_isRoom 76 = .ok (.iconst 4, 1) := by decide +kernel
theorem dL_isRoom_77 : decode cL_isRoom 77 = .ok (.iaload, 1) := by decide +kernel
theorem dL_isRoom_78 : decode cL_isRoom 78 = .ok (.if_icmp .lt 7, 3) := by decide +kernel
theorem dL_isRoom_81 : decode cL_isRoom 81 = .ok (.iconst 1, 1) := by decide +kernel
theorem dL_isRoom_82 : decode cL_isRoom 82 = .ok (.goto 4, 3) := by decide +kernel
theorem dL_isRoom_85 : decode cL_isRoom 85 = .ok (.iconst 0, 1) := by decide +kernel
theorem dL_isRoom_86 : decode cL_isRoom 86 = .ok (.if_icmp .ne 52, 3) := by decide +kernel
theorem dL_isRoom_89 : decode cL_isRoom 89 = .ok (.aload_n 0, 1) := by decide +kernel
theorem dL_isRoom_90 : decode cL_isRoom 90 = .ok (.iload_n 1, 1) := by decide +kernel
theorem dL_isRoom_91 : decode cL_isRoom 91 = .ok (.iconst 4, 1) := by decide +kernel
theorem dL_isRoom_92 : decode cL_isRoom 92 = .ok (.invokestatic 162, 3) := by decide +kernel
theorem dL_isRoom_95 : decode cL_isRoom 95 = .ok (.aload 5, 2) := by decide +kernel
theorem dL_isRoom_97 : decode cL_isRoom 97 = .ok (.iconst 5, 1) := by decide +kernel
theorem dL_isRoom_98 : decode cL_isRoom 98 = .ok (.iload_n 1, 1) := by decide +kernel
theorem dL_isRoom_99 : decode cL_isRoom 99 = .ok (.imul, 1) := by decide +kernel
theorem dL_isRoom_100 : decode cL_isRoom 100 = .ok (.iconst 3, 1) := by decide +kernel
theorem dL_isRoom_101 : decode cL_isRoom 101 = .ok (.iadd, 1) := by decide +kernel
theorem dL_isRoom_102 : decode cL_isRoom 102 = .ok (.iaload, 1) := by decide +kernel
theorem dL_isRoom_103 : decode cL_isRoom 103 = .ok (.if_icmp .ne 35, 3) := by decide +kernel
theorem dL_isRoom_106 : decode cL_isRoom 106 = .ok (.aload_n 0, 1) := by decide +kernel
theorem dL_isRoom_107 : decode cL_isRoom 107 = .ok (.iload_n 1, 1) := by decide +kernel
theorem dL_isRoom_108 : decode cL_isRoom 108 = .ok (.iconst 5, 1) := by decide +kernel
theorem dL_isRoom_109 : decode cL_isRoom 109 = .ok (.invokestatic 162, 3) := by decide +kernel
theorem dL_isRoom_112 : decode cL_isRoom 112 = .ok (.aload 5, 2) := by decide +kernel
theorem dL_isRoom_114 : decode cL_isRoom 114 = .ok (.iconst 5, 1) := by decide +kernel
theorem dL_isRoom_115 : decode cL_isRoom 115 = .ok (.iload_n 1, 1) := by decide +kernel
theorem dL_isRoom_116 : decode cL_isRoom 116 = .ok (.imul, 1) := by decide +kernel
theorem dL_isRoom_117 : decode cL_isRoom 117 = .ok (.iconst 4, 1) := by decide +kernel
theorem dL_isRoom_118 : decode cL_isRoom 118 = .ok (.iadd, 1) := by decide +kernel
theorem dL_isRoom_119 : decode cL_isRoom 119 = .ok (.iaload, 1) := by decide +kernel
theorem dL_isRoom_120 : decode cL_isRoom 120 = .ok (.if_icmp .ne 18, 3) := by decide +kernel
theorem dL_isRoom_123 : decode cL_isRoom 123 = .ok (.aload_n 0, 1) := by decide +kernel
theorem dL_isRoom_124 : decode cL_isRoom 124 = .ok (.iload_n 1, 1) := by decide +kernel
theorem dL_isRoom_125 : decode cL_isRoom 125 = .ok (.iload_n 2, 1) := by decide +kernel
theorem dL_isRoom_126 : decode cL_isRoom 126 = .ok (.invokestatic 164, 3) := by decide +kernel
theorem dL_isRoom_129 : decode cL_isRoom 129 = .ok (.iload 7, 2) := by decide +kernel
theorem dL_isRoom_131 : decode cL_isRoom 131 = .ok (.if_icmp .ne 7, 3) := by decide +kernel
theorem dL_isRoom_134 : decode cL_isRoom 134 = .ok (.iconst 1, 1) := by decide +kernel
theorem dL_isRoom_135 : decode cL_isRoom 135 = .ok (.goto 4, 3) := by decide +kernel
theorem dL_isRoom_138 : decode cL_isRoom 138 = .ok (.iconst 0, 1) := by decide +kernel
theorem dL_isRoom_139 : decode cL_isRoom 139 = .ok (.istore 8, 2) := by decide +kernel
theorem dL_isRoom_141 : decode cL_isRoom 141 = .ok (.iconst 0, 1) := by decide +kernel
theorem dL_isRoom_142 : decode cL_isRoom 142 = .ok (.istore 9, 2) := by decide +kernel
theorem dL_isRoom_144 : decode cL_isRoom 144 = .ok (.iload 9, 2) := by decide +kernel
theorem dL_isRoom_146 : decode cL_isRoom 146 = .ok (.iconst 4, 1) := by decide +kernel
theorem dL_isRoom_147 : decode cL_isRoom 147 = .ok (.if_icmp .ge 53, 3) := by decide +kernel
theorem dL_isRoom_150 : decode cL_isRoom 150 = .ok (.iload 8, 2) := by decide +kernel
theorem dL_isRoom_152 : decode cL_isRoom 152 = .ok (.ifCond .eq 39, 3) := by decide +kernel
theorem dL_isRoom_155 : decode cL_isRoom 155 = .ok (.aload_n 0, 1) := by decide +kernel
theorem dL_isRoom_156 : decode cL_isRoom 156 = .ok (.iload_n 1, 1) := by decide +kernel
theorem dL_isRoom_157 : decode cL_isRoom 157 = .ok (.iload_n 2, 1) := by decide +kernel
theorem dL_isRoom_158 : decode cL_isRoom 158 = .ok (.iload 9, 2) := by decide +kernel
theorem dL_isRoom_160 : decode cL_isRoom 160 = .ok (.invokestatic 166, 3) := by decide +kernel
theorem dL_isRoom_163 : decode cL_isRoom 163 = .ok (.iload 7, 2) := by decide +kernel
theorem dL_isRoom_165 : decode cL_isRoom 165 = .ok (.ifCond .le 7, 3) := by decide +kernel
theorem dL_isRoom_168 : decode cL_isRoom 168 = .ok (.iconst (-1), 1) := by decide +kernel
theorem dL_isRoom_169 : decode cL_isRoom 169 = .ok (.goto 15, 3) := by decide +kernel
theorem dL_isRoom_172 : decode cL_isRoom 172 = .ok (.iload_n 1, 1) := by decide +kernel
theorem dL_isRoom_173 : decode cL_isRoom 173 = .ok (.iload_n 2, 1) := by decide +kernel
theorem dL_isRoom_174 : decode cL_isRoom 174 = .ok (.iload 9, 2) := by decide +kernel
theorem dL_isRoom_176 : decode cL_isRoom 176 = .ok (.aload_n 3, 1) := by decide +kernel
theorem dL_isRoom_177 : decode cL_isRoom 177 = .ok (.aload 5, 2) := by decide +kernel
theorem dL_isRoom_179 : decode cL_isRoom 179 = .ok (.aload 6, 2) := by decide +kernel
theorem dL_isRoom_181 : decode cL_isRoom 181 = .ok (.invokestatic 120, 3) := by decide +kernel
theorem dL_isRoom_184 : decode cL_isRoom 184 = .ok (.if_icmp .ne 7, 3) := by decide +kernel
theorem dL_isRoom_187 : decode cL_isRoom 187 = .ok (.iconst 1, 1) := by decide +kernel
theorem dL_isRoom_188 : decode cL_isRoom 188 = .ok (.goto 4, 3) := by decide +kernel
theorem dL_isRoom_191 : decode cL_isRoom 191 = .ok (.iconst 0, 1) := by decide +kernel
theorem dL_isRoom_192 : decode cL_isRoom 192 = .ok (.istore 8, 2) := by decide +kernel
theorem dL_isRoom_194 : decode cL_isRoom 194 = .ok (.iinc 9 1, 3) := by decide +kernel
theorem dL_isRoom_197 : decode cL_isRoom 197 = .ok (.goto (-53), 3) := by decide +kernel
theorem dL_isRoom_200 : decode cL_isRoom 200 = .ok (.iload 8, 2) := by decide +kernel
theorem dL_isRoom_202 : decode cL_isRoom 202 = .ok (.ireturn, 1) := by decide +kernel
set_option maxRecDepth 20000 in
theorem ggL_decodes_L_low : GoodIn wsL_decodes wsL_low := goodIn_r _ [4, 5] (by decide +kernel) (by decide +kernel)
set_option maxRecDepth 20000 in
theorem gL_decodes_L_low : GoodIn wsL_decodes (va_wsS RL 93 yL_low wsL_low) := goodIn_app (goodIn_of _ (by decide +kernel)) ggL_decodes_L_low
set_option maxRecDepth 20000 in
theorem ggL_decodes_L_many : GoodIn wsL_decodes wsL_many := goodIn_r _ [8] (by decide +kernel) (by decide +kernel)
set_option maxRecDepth 20000 in
theorem gL_decodes_L_many : GoodIn wsL_decodes (va_wsS RL 83 yL_many wsL_many) := goodIn_app (goodIn_of _ (by decide +kernel)) ggL_decodes_L_many
set_option maxRecDepth 20000 in
theorem ggL_decodes_L_types : GoodIn wsL_decodes wsL_types := goodIn_ca (goodIn_ca (goodIn_r _ [11, 12, 13, 14, 15, 16, 17, 18, 19, 20, 21, 22, 23, 24, 1, 2, 3, 4, 5, 25, 26, 27, 28, 29, 30, 31, 32, 33, 34, 35, 36, 37, 38, 39, 40, 41, 42, 43, 44, 45, 46, 47, 48, 49, 50, 6, 7, 8, 312, 313, 314, 315, 316, 317, 318, 319, 320, 321, 322] (by decide +kernel) (by decide +kernel)) (goodIn_sub (fun _ h => List.mem_cons_of_mem _ (List.mem_append_left _ (List.mem_append_right _ h))) (by decide +kernel))) (goodIn_sub (fun _ h => List.mem_cons_of_mem _ (List.mem_append_right _ h)) (by decide +kernel))
set_option maxRecDepth 20000 in
theorem gL_decodes_L_types : GoodIn wsL_decodes (va_wsS RL 169 yL_types wsL_types) := goodIn_app (goodIn_of _ (by decide +kernel)) ggL_decodes_L_types
set_option maxRecDepth 20000 in
theorem ggL_decodes_X7_clearBuffer : GoodIn wsL_decodes wsX7_clearBuffer := goodIn_r _ [16, 17, 18, 19, 20, 21, 22, 23, 24, 312, 313, 314, 315, 316, 317, 318, 319, 320, 321, 322] (by decide +kernel) (by decide +kernel)
set_option maxRecDepth 20000 in
theorem gL_decodes_X7_clearBuffer : GoodIn wsL_decodes (wsV RL 90 RX7 yX7_clearBuffer wsX7_clearBuffer) := goodIn_app (goodIn_of _ (by decide +kernel)) ggL_decodes_X7_clearBuffer
set_option maxRecDepth 20000 in
theorem ggL_decodes_L_noteAt : GoodIn wsL_decodes wsL_noteAt := goodIn_r _ [53] (by decide +kernel) (by decide +kernel)
set_option maxRecDepth 20000 in
theorem gL_decodes_L_noteAt : GoodIn wsL_decodes (va_wsS RL 106 yL_noteAt wsL_noteAt) := goodIn_app (goodIn_of _ (by decide +kernel)) ggL_decodes_L_noteAt
set_option maxRecDepth 20000 in
theorem ggL_decodes_L_letter : GoodIn wsL_decodes wsL_letter := goodIn_r _ [27] (by decide +kernel) (by decide +kernel)
set_option maxRecDepth 20000 in
theorem gL_decodes_L_letter : GoodIn wsL_decodes (va_wsS RL 96 yL_letter wsL_letter) := goodIn_app (goodIn_of _ (by decide +kernel)) ggL_decodes_L_letter
set_option maxRecDepth 20000 in
theorem ggL_decodes_L_append : GoodIn wsL_decodes wsL_append := goodIn_ca (goodIn_ca (goodIn_r _ [30, 31, 32, 33, 34, 35, 15, 36, 37, 38, 39, 40, 17, 18, 41, 42, 43, 22, 44, 24, 45, 312, 313, 314, 315, 316, 317, 318, 319, 320, 321, 322] (by decide +kernel) (by decide +kernel)) (goodIn_sub (fun _ h => List.mem_cons_of_mem _ (List.mem_append_left _ (List.mem_append_right _ h))) (by decide +kernel))) (goodIn_sub (fun _ h => List.mem_cons_of_mem _ (List.mem_append_right _ h)) (by decide +kernel))
set_option maxRecDepth 20000 in
theorem gL_decodes_L_append : GoodIn wsL_decodes (va_wsS RL 100 yL_append wsL_append) := goodIn_app (goodIn_of _ (by decide +kernel)) ggL_decodes_L_append
set_option maxRecDepth 20000 in
theorem ggL_decodes_L_with : GoodIn wsL_decodes wsL_with := goodIn_r _ [48, 49, 50, 6, 7, 3, 8] (by decide +kernel) (by decide +kernel)
set_option maxRecDepth 20000 in
theorem gL_decodes_L_with : GoodIn wsL_decodes (va_wsS RL 103 yL_with wsL_with) := goodIn_app (goodIn_of _ (by decide +kernel)) ggL_decodes_L_with
set_option maxRecDepth 20000 in
theorem ggL_decodes_L_alike : GoodIn wsL_decodes wsL_alike := goodIn_r _ [56, 6, 7, 3, 8, 57, 58, 59, 51, 52, 53] (by decide +kernel) (by decide +kernel)
set_option maxRecDepth 20000 in
theorem gL_decodes_L_alike : GoodIn wsL_decodes (va_wsS RL 148 yL_alike wsL_alike) := goodIn_app (goodIn_of _ (by decide +kernel)) ggL_decodes_L_alike
set_option maxRecDepth 20000 in
theorem ggL_decodes_L_decode : GoodIn wsL_decodes wsL_decode := goodIn_ca (goodIn_r _ [62, 31, 63, 64, 65, 15, 66, 37, 38, 67, 68, 69, 70, 71, 72, 73, 74, 17, 18, 75, 76, 77, 78, 79, 80, 81, 82, 83, 84, 85, 86, 87, 88, 89, 90, 91, 22, 92, 24, 45, 93, 94, 95, 96, 97, 98, 99, 100, 101, 102, 103, 104, 105, 106, 107, 108, 109, 110, 111, 112, 113, 114, 115, 116, 117, 118, 119, 120, 121, 122, 123, 124, 125, 126, 127, 128, 129, 130, 131, 132, 133, 134, 135, 136, 137, 138, 139, 140, 141, 142, 143, 144, 145, 146, 147, 148, 149, 150, 151, 152, 153, 154, 155, 156, 157, 158, 159, 160, 161, 162, 163, 164, 165, 166, 167, 168, 169, 170, 171, 172, 173, 174, 175, 176, 177, 178, 179, 180, 181, 182, 183, 184, 185, 186, 187, 188, 189, 190, 191, 192, 193, 194, 195, 196, 197, 198, 199, 200, 201, 202, 203, 204, 205, 206, 207, 208, 209, 210, 211, 212, 213, 214, 215, 216, 217, 218, 219, 220, 221, 222, 223, 224, 225, 226, 227, 228, 229, 230, 231, 232, 233, 234, 235, 236, 237, 238, 239, 240, 241, 242, 243, 244, 245, 246, 247, 248, 249, 250, 251, 252, 253, 254, 255, 256, 257, 258, 259, 260, 261, 262, 263, 264, 265, 266, 267, 268, 269, 270, 271, 272, 273, 274, 275, 276, 277, 278, 279, 280, 281, 282, 283, 284, 285, 286, 287, 288, 289, 290, 291, 292, 293, 294, 295, 296, 297, 298, 299, 300, 312, 313, 314, 315, 316, 317, 318, 319, 320, 321, 322, 323, 324, 325, 326, 327, 328, 329, 330, 331, 332, 333, 334, 335, 336, 337, 338, 339, 340, 341, 342, 343, 344, 345, 346, 347] (by decide +kernel) (by decide +kernel)) (goodIn_sub (fun _ h => List.mem_cons_of_mem _ (List.mem_append_left _ (List.mem_append_right _ h))) (by decide +kernel))
set_option maxRecDepth 20000 in
theorem gL_decodes_L_decode : GoodIn wsL_decodes (va_wsS RL 172 yL_decode wsL_decode) := goodIn_app (goodIn_of _ (by decide +kernel)) ggL_decodes_L_decode
set_option maxRecDepth 20000 in
theorem ggL_decodes_L_keyOf : GoodIn wsL_decodes wsL_keyOf := goodIn_ca (goodIn_r _ [303, 31, 304, 305, 306, 15, 307, 37, 38, 70, 71, 72, 73, 74, 17, 18, 75, 76, 77, 78, 79, 80, 81, 82, 83, 84, 85, 86, 87, 88, 89, 90, 91, 22, 92, 24, 45, 93, 94, 95, 96, 97, 98, 99, 100, 101, 102, 103, 104, 105, 106, 107, 108, 109, 110, 111, 112, 113, 114, 115, 116, 117, 118, 119, 120, 121, 122, 123, 124, 125, 126, 127, 128, 129, 130, 131, 132, 133, 134, 135, 136, 137, 138, 139, 140, 141, 142, 143, 144, 145, 146, 147, 148, 149, 150, 151, 152, 153, 154, 155, 156, 157, 158, 159, 160, 161, 162, 163, 164, 165, 166, 167, 168, 169, 170, 171, 172, 173, 174, 175, 176, 177, 178, 179, 180, 181, 182, 183, 184, 185, 186, 187, 188, 189, 190, 191, 192, 193, 194, 195, 196, 197, 198, 199, 200, 201, 202, 203, 204, 205, 206, 207, 208, 209, 210, 211, 212, 213, 214, 215, 216, 217, 218, 219, 220, 221, 222, 223, 224, 229, 230, 231, 232, 233, 234, 235, 236, 237, 238, 239, 240, 241, 242, 243, 244, 245, 246, 247, 248, 249, 250, 251, 252, 253, 254, 255, 256, 257, 258, 259, 260, 261, 262, 263, 264, 265, 266, 267, 268, 269, 270, 271, 272, 273, 274, 275, 276, 277, 278, 279, 280, 281, 282, 283, 284, 285, 286, 287, 288, 289, 290, 312, 313, 314, 315, 316, 317, 318, 319, 320, 321, 322, 323, 324, 325, 326, 327, 328, 329, 330, 331, 332, 333, 334, 335, 336, 337, 338, 339, 340, 341, 342, 343, 344, 345, 346, 347] (by decide +kernel) (by decide +kernel)) (goodIn_sub (fun _ h => List.mem_cons_of_mem _ (List.mem_append_left _ (List.mem_append_right _ h))) (by decide +kernel))
set_option maxRecDepth 20000 in
theorem gL_decodes_L_keyOf : GoodIn wsL_decodes (va_wsS RL 174 yL_keyOf wsL_keyOf) := goodIn_app (goodIn_of _ (by decide +kernel)) ggL_decodes_L_keyOf
set_option maxRecDepth 20000 in
theorem ggL_decodes_X7_tuneError : GoodIn wsL_decodes wsX7_tuneError := goodIn_r _ [311, 74, 17, 76, 77, 78, 79, 80, 81, 82, 83, 84, 85, 86, 87, 88, 89, 90, 91, 22, 92, 24, 45, 93, 94, 95, 96, 97, 98, 99, 100, 101, 102, 103, 104, 105, 106, 107, 108, 109, 110, 111, 112, 113, 114, 115, 116, 117, 118, 119, 120, 121, 122, 123, 124, 125, 126, 127, 128, 129, 130, 131, 132, 133, 134, 135, 136, 137, 138, 139, 140, 141, 142, 143, 144, 145, 146, 147, 148, 149, 150, 151, 152, 153, 154, 155, 156, 157, 158, 159, 160, 161, 162, 163, 164, 165, 166, 167, 168, 169, 170, 171, 172, 173, 174, 175, 176, 177, 178, 179, 180, 181, 182, 183, 184, 185, 186, 187, 188, 189, 190, 191, 192, 193, 194, 195, 196, 197, 198, 199, 200, 201, 202, 312, 313, 314, 315, 316, 317, 318, 319, 320, 323, 324, 325, 321, 322] (by decide +kernel) (by decide +kernel)
set_option maxRecDepth 20000 in
theorem gL_decodes_X7_tuneError : GoodIn wsL_decodes (wsV RL 177 RX7 yX7_tuneError wsX7_tuneError) := goodIn_app (goodIn_of _ (by decide +kernel)) ggL_decodes_X7_tuneError
theorem dL_decodes_0 : decode cL_decodes 0 = .ok (.iload_n 1, 1) := by decide +kernel
theorem dL_decodes_1 : decode cL_decodes 1 = .ok (.bipush 7, 2) := by decide +kernel
theorem dL_decodes_3 : decode cL_decodes 3 = .ok (.invokestatic 93, 3) := by decide +kernel
theorem dL_decodes_6 : decode cL_decodes 6 = .ok (.istore_n 3, 1) := by decide +kernel
theorem dL_decodes_7 : decode cL_decodes 7 = .ok (.iload_n 1, 1) := by decide +kernel
theorem dL_decodes_8 : decode cL_decodes 8 = .ok (.iconst 3, 1) := by decide +kernel
theorem dL_decodes_9 : decode cL_decodes 9 = .ok (.ishr, 1) := by decide +kernel
theorem dL_decodes_10 : decode cL_decodes 10 = .ok (.bipush 20, 2) := by decide +kernel
theorem dL_decodes_12 : decode cL_decodes 12 = .ok (.invokestatic 93, 3) := by decide +kernel
theorem dL_decodes_15 : decode cL_decodes 15 = .ok (.istore 4, 2) := by decide +kernel
theorem dL_decodes_17 : decode cL_decodes 17 = .ok (.iload_n 1, 1) := by decide +kernel
theorem dL_decodes_18 : decode cL_decodes 18 = .ok (.bipush 8, 2) := by decide +kernel
theorem dL_decodes_20 : decode cL_decodes 20 = .ok (.ishr, 1) := by decide +kernel
theorem dL_decodes_21 : decode cL_decodes 21 = .ok (.iconst 3, 1) := by decide +kernel
theorem dL_decodes_22 : decode cL_decodes 22 = .ok (.invokestatic 93, 3) := by decide +kernel
theorem dL_decodes_25 : decode cL_decodes 25 = .ok (.ifCond .eq 13, 3) := by decide +kernel
theorem dL_decodes_28 : decode cL_decodes 28 = .ok (.aload_n 2, 1) := by decide +kernel
theorem dL_decodes_29 : decode cL_decodes 29 = .ok (.iload 4, 2) := by decide +kernel
theorem dL_decodes_31 : decode cL_decodes 31 = .ok (.iaload, 1) := by decide +kernel
theorem dL_decodes_32 : decode cL_decodes 32 = .ok (.invokestatic 83, 3) := by decide +kernel
theorem dL_decodes_35 : decode cL_decodes 35 = .ok (.ifCond .ne 14, 3) := by decide +kernel
theorem dL_decodes_38 : decode cL_decodes 38 = .ok (.aload_n 0, 1) := by decide +kernel
theorem dL_decodes_39 : decode cL_decodes 39 = .ok (.iload_n 1, 1) := by decide +kernel
theorem dL_decodes_40 : decode cL_decodes 40 = .ok (.bipush 9, 2) := by decide +kernel
theorem dL_decodes_42 : decode cL_decodes 42 = .ok (.ishr, 1) := by decide +kernel
theorem dL_decodes_43 : decode cL_decodes 43 = .ok (.invokestatic 169, 3) := by decide +kernel
theorem dL_decodes_46 : decode cL_decodes 46 = .ok (.goto 4, 3) := by decide +kernel
theorem dL_decodes_49 : decode cL_decodes 49 = .ok (.iconst 0, 1) := by decide +kernel
theorem dL_decodes_50 : decode cL_decodes 50 = .ok (.istore 5, 2) := by decide +kernel
theorem dL_decodes_52 : decode cL_decodes 52 = .ok (.iload 5, 2) := by decide +kernel
theorem dL_decodes_54 : decode cL_decodes 54 = .ok (.ifCond .ne 72, 3) := by decide +kernel
theorem dL_decodes_57 : decode cL_decodes 57 = .ok (.aload_n 0, 1) := by decide +kernel
theorem dL_decodes_58 : decode cL_decodes 58 = .ok (.invokevirtual 90, 3) := by decide +kernel
theorem dL_decodes_61 : decode cL_decodes 61 = .ok (.pop, 1) := by decide +kernel
theorem dL_decodes_62 : decode cL_decodes 62 = .ok (.iconst 0, 1) := by decide +kernel
theorem dL_decodes_63 : decode cL_decodes 63 = .ok (.istore 6, 2) := by decide +kernel
theorem dL_decodes_65 : decode cL_decodes 65 = .ok (.iload 6, 2) := by decide +kernel
theorem dL_decodes_67 : decode cL_decodes 67 = .ok (.aload_n 2, 1) := by decide +kernel
theorem dL_decodes_68 : decode cL_decodes 68 = .ok (.iload 4, 2) := by decide +kernel
theorem dL_decodes_70 : decode cL_decodes 70 = .ok (.iaload, 1) := by decide +kernel
theorem dL_decodes_71 : decode cL_decodes 71 = .ok (.invokestatic 83, 3) := by decide +kernel
theorem dL_decodes_74 : decode cL_decodes 74 = .ok (.if_icmp .ge 52, 3) := by decide +kernel
theorem dL_decodes_77 : decode cL_decodes 77 = .ok (.aload_n 2, 1) := by decide +kernel
theorem dL_decodes_78 : decode cL_decodes 78 = .ok (.iload 4, 2) := by decide +kernel
theorem dL_decodes_80 : decode cL_decodes 80 = .ok (.iaload, 1) := by decide +kernel
theorem dL_decodes_81 : decode cL_decodes 81 = .ok (.iload 6, 2) := by decide +kernel
theorem dL_decodes_83 : decode cL_decodes 83 = .ok (.invokestatic 106, 3) := by decide +kernel
theorem dL_decodes_86 : decode cL_decodes 86 = .ok (.iload_n 1, 1) := by decide +kernel
theorem dL_decodes_87 : decode cL_decodes 87 = .ok (.bipush 10, 2) := by decide +kernel
theorem dL_decodes_89 : decode cL_decodes 89 = .ok (.ishr, 1) := by decide +kernel
theorem dL_decodes_90 : decode cL_decodes 90 = .ok (.bipush 7, 2) := by decide +kernel
theorem dL_decodes_92 : decode cL_decodes 92 = .ok (.invokestatic 93, 3) := by decide +kernel
theorem dL_decodes_95 : decode cL_decodes 95 = .ok (.iadd, 1) := by decide +kernel
theorem dL_decodes_96 : decode cL_decodes 96 = .ok (.bipush 7, 2) := by decide +kernel
theorem dL_decodes_98 : decode cL_decodes 98 = .ok (.irem, 1) := by decide +kernel
theorem dL_decodes_99 : decode cL_decodes 99 = .ok (.istore 7, 2) := by decide +kernel
theorem dL_decodes_101 : decode cL_decodes 101 = .ok (.aload_n 0, 1) := by decide +kernel
theorem dL_decodes_102 : decode cL_decodes 102 = .ok (.iload 7, 2) := by decide +kernel
theorem dL_decodes_104 : decode cL_decodes 104 = .ok (.invokestatic 96, 3) := by decide +kernel
theorem dL_decodes_107 : decode cL_decodes 107 = .ok (.invokestatic 100, 3) := by decide +kernel
theorem dL_decodes_110 : decode cL_decodes 110 = .ok (.pop, 1) := by decide +kernel
theorem dL_decodes_111 : decode cL_decodes 111 = .ok (.iload 5, 2) := by decide +kernel
theorem dL_decodes_113 : decode cL_decodes 113 = .ok (.iload 7, 2) := by decide +kernel
theorem dL_decodes_115 : decode cL_decodes 115 = .ok (.invokestatic 103, 3) := by decide +kernel
theorem dL_decodes_118 : decode cL_decodes 118 = .ok (.istore 5, 2) := by decide +kernel
theorem dL_decodes_120 : decode cL_decodes 120 = .ok (.iinc 6 1, 3) := by decide +kernel
theorem dL_decodes_123 : decode cL_decodes 123 = .ok (.goto (-58), 3) := by decide +kernel
theorem dL_decodes_126 : decode cL_decodes 126 = .ok (.iconst (-1), 1) := by decide +kernel
theorem dL_decodes_127 : decode cL_decodes 127 = .ok (.istore 6, 2) := by decide +kernel
theorem dL_decodes_129 : decode cL_decodes 129 = .ok (.iconst (-1), 1) := by decide +kernel
theorem dL_decodes_130 : decode cL_decodes 130 = .ok (.istore 7, 2) := by decide +kernel
theorem dL_decodes_132 : decode cL_decodes 132 = .ok (.iconst 0, 1) := by decide +kernel
theorem dL_decodes_133 : decode cL_decodes 133 = .ok (.istore 8, 2) := by decide +kernel
theorem dL_decodes_135 : decode cL_decodes 135 = .ok (.iload 8, 2) := by decide +kernel
theorem dL_decodes_137 : decode cL_decodes 137 = .ok (.bipush 20, 2) := by decide +kernel
theorem dL_decodes_139 : decode cL_decodes 139 = .ok (.if_icmp .ge 104, 3) := by decide +kernel
theorem dL_decodes_142 : decode cL_decodes 142 = .ok (.iload 5, 2) := by decide +kernel
theorem dL_decodes_144 : decode cL_decodes 144 = .ok (.invokestatic 83, 3) := by decide +kernel
theorem dL_decodes_147 : decode cL_decodes 147 = .ok (.iconst 1, 1) := by decide +kernel
theorem dL_decodes_148 : decode cL_decodes 148 = .ok (.if_icmp .le 29, 3) := by decide +kernel
theorem dL_decodes_151 : decode cL_decodes 151 = .ok (.iload 5, 2) := by decide +kernel
theorem dL_decodes_153 : decode cL_decodes 153 = .ok (.invokestatic 83, 3) := by decide +kernel
theorem dL_decodes_156 : decode cL_decodes 156 = .ok (.bipush 9, 2) := by decide +kernel
theorem dL_decodes_158 : decode cL_decodes 158 = .ok (.if_icmp .ge 19, 3) := by decide +kernel
theorem dL_decodes_161 : decode cL_decodes 161 = .ok (.aload_n 2, 1) := by decide +kernel
theorem dL_decodes_162 : decode cL_decodes 162 = .ok (.iload 8, 2) := by decide +kernel
theorem dL_decodes_164 : decode cL_decodes 164 = .ok (.iaload, 1) := by decide +kernel
theorem dL_decodes_165 : decode cL_decodes 165 = .ok (.iload 5, 2) := by decide +kernel
theorem dL_decodes_167 : decode cL_decodes 167 = .ok (.invokestatic 148, 3) := by decide +kernel
theorem dL_decodes_170 : decode cL_decodes 170 = .ok (.ifCond .eq 7, 3) := by decide +kernel
theorem dL_decodes_173 : decode cL_decodes 173 = .ok (.iconst 1, 1) := by decide +kernel
theorem dL_decodes_174 : decode cL_decodes 174 = .ok (.goto 4, 3) := by decide +kernel
theorem dL_decodes_177 : decode cL_decodes 177 = .ok (.iconst 0, 1) := by decide +kernel
theorem dL_decodes_178 : decode cL_decodes 178 = .ok (.istore 9, 2) := by decide +kernel
theorem dL_decodes_180 : decode cL_decodes 180 = .ok (.iload 5, 2) := by decide +kernel
theorem dL_decodes_182 : decode cL_decodes 182 = .ok (.iconst 0, 1) := by decide +kernel
theorem dL_decodes_183 : decode cL_decodes 183 = .ok (.invokestatic 106, 3) := by decide +kernel
theorem dL_decodes_186 : decode cL_decodes 186 = .ok (.aload_n 2, 1) := by decide +kernel
theorem dL_decodes_187 : decode cL_decodes 187 = .ok (.iload 8, 2) := by decide +kernel
theorem dL_decodes_189 : decode cL_decodes 189 = .ok (.iaload, 1) := by decide +kernel
theorem dL_decodes_190 : decode cL_decodes 190 = .ok (.iconst 0, 1) := by decide +kernel
theorem dL_decodes_191 : decode cL_decodes 191 = .ok (.invokestatic 106, 3) := by decide +kernel
theorem dL_decodes_194 : decode cL_decodes 194 = .ok (.isub, 1) := by decide +kernel
theorem dL_decodes_195 : decode cL_decodes 195 = .ok (.bipush 7, 2) := by decide +kernel
theorem dL_decodes_197 : decode cL_decodes 197 = .ok (.iadd, 1) := by decide +kernel
theorem dL_decodes_198 : decode cL_decodes 198 = .ok (.bipush 7, 2) := by decide +kernel
theorem dL_decodes_200 : decode cL_decodes 200 = .ok (.irem, 1) := by decide +kernel
theorem dL_decodes_201 : decode cL_decodes 201 = .ok (.istore 10, 2) := by decide +kernel
theorem dL_decodes_203 : decode cL_decodes 203 = .ok (.iload 9, 2) := by decide +kernel
theorem dL_decodes_205 : decode cL_decodes 205 = .ok (.ifCond .eq 14, 3) := by decide +kernel
theorem dL_decodes_208 : decode cL_decodes 208 = .ok (.iload 10, 2) := by decide +kernel
theorem dL_decodes_210 : decode cL_decodes 210 = .ok (.iload_n 3, 1) := by decide +kernel
theorem dL_decodes_211 : decode cL_decodes 211 = .ok (.if_icmp .ne 8, 3) := by decide +kernel
theorem dL_decodes_214 : decode cL_decodes 214 = .ok (.iload 8, 2) := by decide +kernel
theorem dL_decodes_216 : decode cL_decodes 216 = .ok (.goto 5, 3) := by decide +kernel
theorem dL_decodes_219 : decode cL_decodes 219 = .ok (.iload 6, 2) := by decide +kernel
theorem dL_decodes_221 : decode cL_decodes 221 = .ok (.istore 6, 2) := by decide +kernel
theorem dL_decodes_223 : decode cL_decodes 223 = .ok (.iload 9, 2) := by decide +kernel
theorem dL_decodes_225 : decode cL_decodes 225 = .ok (.ifCond .eq 8, 3) := by decide +kernel
theorem dL_decodes_228 : decode cL_decodes 228 = .ok (.iload 10, 2) := by decide +kernel
theorem dL_decodes_230 : decode cL_decodes 230 = .ok (.goto 5, 3) := by decide +kernel
theorem dL_decodes_233 : decode cL_decodes 233 = .ok (.iload 7, 2) := by decide +kernel
theorem dL_decodes_235 : decode cL_decodes 235 = .ok (.istore 7, 2) := by decide +kernel
theorem dL_decodes_237 : decode cL_decodes 237 = .ok (.iinc 8 1, 3) := by decide +kernel
theorem dL_decodes_240 : decode cL_decodes 240 = .ok (.goto (-105), 3) := by decide +kernel
theorem dL_decodes_243 : decode cL_decodes 243 = .ok (.aload_n 0, 1) := by decide +kernel
theorem dL_decodes_244 : decode cL_decodes 244 = .ok (.iload_n 3, 1) := by decide +kernel
theorem dL_decodes_245 : decode cL_decodes 245 = .ok (.iconst 0, 1) := by decide +kernel
theorem dL_decodes_246 : decode cL_decodes 246 = .ok (.invokestatic 172, 3) := by decide +kernel
theorem dL_decodes_249 : decode cL_decodes 249 = .ok (.iload 6, 2) := by decide +kernel
theorem dL_decodes_251 : decode cL_decodes 251 = .ok (.if_icmp .ne 38, 3) := by decide +kernel
theorem dL_decodes_254 : decode cL_decodes 254 = .ok (.aload_n 0, 1) := by decide +kernel
theorem dL_decodes_255 : decode cL_decodes 255 = .ok (.iload_n 3, 1) := by decide +kernel
theorem dL_decodes_256 : decode cL_decodes 256 = .ok (.iconst 1, 1) := by decide +kernel
theorem dL_decodes_257 : decode cL_decodes 257 = .ok (.invokestatic 172, 3) := by decide +kernel
theorem dL_decodes_260 : decode cL_decodes 260 = .ok (.iload 6, 2) := by decide +kernel
theorem dL_decodes_262 : decode cL_decodes 262 = .ok (.if_icmp .ne 27, 3) := by decide +kernel
theorem dL_decodes_265 : decode cL_decodes 265 = .ok (.aload_n 0, 1) := by decide +kernel
theorem dL_decodes_266 : decode cL_decodes 266 = .ok (.invokestatic 174, 3) := by decide +kernel
theorem dL_decodes_269 : decode cL_decodes 269 = .ok (.iload 7, 2) := by decide +kernel
theorem dL_decodes_271 : decode cL_decodes 271 = .ok (.if_icmp .ne 18, 3) := by decide +kernel
theorem dL_decodes_274 : decode cL_decodes 274 = .ok (.aload_n 0, 1) := by decide +kernel
theorem dL_decodes_275 : decode cL_decodes 275 = .ok (.invokevirtual 177, 3) := by decide +kernel
theorem dL_decodes_278 : decode cL_decodes 278 = .ok (.aload_n 0, 1) := by decide +kernel
theorem dL_decodes_279 : decode cL_decodes 279 = .ok (.invokevirtual 90, 3) := by decide +kernel
theorem dL_decodes_282 : decode cL_decodes 282 = .ok (.if_icmp .ne 7, 3) := by decide +kernel
theorem dL_decodes_285 : decode cL_decodes 285 = .ok (.iconst 1, 1) := by decide +kernel
theorem dL_decodes_286 : decode cL_decodes 286 = .ok (.goto 4, 3) := by decide +kernel
theorem dL_decodes_289 : decode cL_decodes 289 = .ok (.iconst 0, 1) := by decide +kernel
theorem dL_decodes_290 : decode cL_decodes 290 = .ok (.ireturn, 1) := by decide +kernel
set_option maxRecDepth 20000 in
theorem ggL_isSo_L_many : GoodIn wsL_isSo wsL_many := goodIn_r _ [4] (by decide +kernel) (by decide +kernel)
set_option maxRecDepth 20000 in
theorem gL_isSo_L_many : GoodIn wsL_isSo (va_wsS RL 83 yL_many wsL_many) := goodIn_app (goodIn_of _ (by decide +kernel)) ggL_isSo_L_many
set_option maxRecDepth 20000 in
theorem ggL_isSo_L_count : GoodIn wsL_isSo wsL_count := goodIn_ca (goodIn_r _ [7, 8, 9, 10, 11, 12, 13, 14, 15, 16, 17, 18, 19, 20, 21, 22, 23, 24, 25, 26, 27, 28, 29, 30, 31, 32, 33, 34, 35, 36, 37, 38, 39, 40, 41, 42, 43, 44, 45, 46, 47, 48, 49, 50, 51, 52, 53, 54, 55, 56, 57, 58, 59, 60, 61, 62, 63, 64, 65, 66, 67, 68, 69, 70, 71, 72, 73, 74, 75, 76, 77, 78, 79, 80, 81, 82, 83, 84, 85, 86, 87, 88, 89, 90, 91, 92, 93, 94, 95, 96, 501, 502, 503, 504, 505, 506, 507, 508, 509, 510, 511, 512, 513, 514, 515, 516, 517, 518, 519, 520, 521, 522, 523, 524, 525, 526, 527, 528, 529, 530, 531] (by decide +kernel) (by decide +kernel)) (goodIn_sub (fun _ h => List.mem_cons_of_mem _ (List.mem_append_left _ (List.mem_append_left _ (List.mem_append_right _ h)))) (by decide +kernel))
set_option maxRecDepth 20000 in
theorem gL_isSo_L_count : GoodIn wsL_isSo (va_wsS RL 180 yL_count wsL_count) := goodIn_app (goodIn_of _ (by decide +kernel)) ggL_isSo_L_count
set_option maxRecDepth 20000 in
theorem ggL_isSo_L_nodes : GoodIn wsL_isSo wsL_nodes := goodIn_r _ [99, 1, 2, 3, 4, 100, 101, 102, 103, 104, 105] (by decide +kernel) (by decide +kernel)
set_option maxRecDepth 20000 in
theorem gL_isSo_L_nodes : GoodIn wsL_isSo (va_wsS RL 182 yL_nodes wsL_nodes) := goodIn_app (goodIn_of _ (by decide +kernel)) ggL_isSo_L_nodes
set_option maxRecDepth 20000 in
theorem ggL_isSo_L_latest : GoodIn wsL_isSo wsL_latest := goodIn_ca (goodIn_r _ [108, 8, 109, 110, 111, 12, 112, 14, 15, 16, 113, 501, 502, 503, 504, 505, 506, 507, 508, 509, 510, 511, 512, 513, 514, 515, 516, 517, 518, 519, 520, 521, 522, 523, 524, 525] (by decide +kernel) (by decide +kernel)) (goodIn_sub (fun _ h => List.mem_cons_of_mem _ (List.mem_append_left _ (List.mem_append_left _ (List.mem_append_right _ h)))) (by decide +kernel))
set_option maxRecDepth 20000 in
theorem gL_isSo_L_latest : GoodIn wsL_isSo (va_wsS RL 186 yL_latest wsL_latest) := goodIn_app (goodIn_of _ (by decide +kernel)) ggL_isSo_L_latest
set_option maxRecDepth 20000 in
theorem ggL_isSo_X7_understoodShare : GoodIn wsL_isSo wsX7_understoodShare := goodIn_r _ [117, 16, 118, 119, 89, 90, 12, 91, 501, 502, 503, 504, 505, 506, 507, 508, 509, 510, 511, 512, 513, 514, 515, 516, 517, 518, 519, 520, 521, 522, 523, 524, 525] (by decide +kernel) (by decide +kernel)
set_option maxRecDepth 20000 in
theorem gL_isSo_X7_understoodShare : GoodIn wsL_isSo (wsV RL 188 RX7 yX7_understoodShare wsX7_understoodShare) := goodIn_app (goodIn_of _ (by decide +kernel)) ggL_isSo_X7_understoodShare
set_option maxRecDepth 20000 in
theorem ggL_isSo_L_low : GoodIn wsL_isSo wsL_low := goodIn_r _ [122, 123] (by decide +kernel) (by decide +kernel)
set_option maxRecDepth 20000 in
theorem gL_isSo_L_low : GoodIn wsL_isSo (va_wsS RL 93 yL_low wsL_low) := goodIn_app (goodIn_of _ (by decide +kernel)) ggL_isSo_L_low
set_option maxRecDepth 20000 in
theorem ggL_isSo_L_isMessage : GoodIn wsL_isSo wsL_isMessage := goodIn_ca (goodIn_ca (goodIn_r _ [126, 127, 128, 3, 129, 130, 131, 132, 133, 134, 135, 136, 137, 138, 139, 140, 141, 142, 8, 143, 144, 145, 12, 146, 147, 148, 14, 15, 16, 149, 150, 23, 151, 152, 153, 154, 1, 2, 4, 155, 156, 157, 158, 159, 160, 161, 162, 163, 164, 165, 166, 167, 168, 169, 170, 171, 172, 173, 174, 175, 176, 177, 178, 179, 180, 31, 181, 182, 183, 184, 185, 186, 88, 187, 188, 189, 190, 191, 192, 193, 93, 94, 95, 96, 194, 195, 196, 197, 198, 72, 73, 74, 75, 76, 77, 78, 199, 200, 201, 202, 33, 83, 84, 85, 86, 87, 203, 204, 205, 206, 207, 208, 209, 210, 52, 53, 54, 55, 103, 104, 105, 501, 502, 503, 504, 505, 506, 507, 508, 509, 510, 511, 512, 513, 514, 515, 516, 517, 518, 519, 520, 521, 522, 523, 524, 525, 532, 533, 534, 535, 536] (by decide +kernel) (by decide +kernel)) (goodIn_sub (fun _ h => List.mem_cons_of_mem _ (List.mem_append_left _ (List.mem_append_right _ h))) (by decide +kernel))) (goodIn_sub (fun _ h => List.mem_cons_of_mem _ (List.mem_append_left _ (List.mem_append_left _ (List.mem_append_right _ h)))) (by decide +kernel))
set_option maxRecDepth 20000 in
theorem gL_isSo_L_isMessage : GoodIn wsL_isSo (va_wsS RL 192 yL_isMessage wsL_isMessage) := goodIn_app (goodIn_of _ (by decide +kernel)) ggL_isSo_L_isMessage
set_option maxRecDepth 20000 in
theorem ggL_isSo_L_isRoom : GoodIn wsL_isSo wsL_isRoom := goodIn_ca (goodIn_ca (goodIn_r _ [213, 127, 128, 3, 129, 214, 215, 216, 142, 8, 217, 218, 219, 12, 220, 147, 148, 14, 15, 16, 221, 24, 22, 118, 119, 222, 223, 224, 225, 187, 188, 226, 84, 85, 31, 86, 87, 88, 227, 228, 229, 230, 231, 232, 233, 152, 153, 154, 199, 200, 201, 202, 33, 83, 234, 235, 236, 237, 238, 239, 240, 162, 241, 163, 164, 242, 165, 166, 167, 168, 169, 170, 171, 172, 173, 174, 175, 176, 177, 178, 179, 180, 181, 182, 183, 184, 185, 186, 189, 190, 191, 192, 193, 93, 94, 95, 96, 194, 195, 196, 197, 198, 130, 131, 132, 133, 134, 135, 501, 502, 503, 504, 505, 506, 507, 508, 509, 510, 511, 512, 513, 514, 515, 516, 517, 518, 519, 520, 521, 522, 523, 524, 525, 532, 533, 534, 535, 536] (by decide +kernel) (by decide +kernel)) (goodIn_sub (fun _ h => List.mem_cons_of_mem _ (List.mem_append_left _ (List.mem_append_right _ h))) (by decide +kernel))) (goodIn_sub (fun _ h => List.mem_cons_of_mem _ (List.mem_append_left _ (List.mem_append_left _ (List.mem_append_right _ h)))) (by decide +kernel))
set_option maxRecDepth 20000 in
theorem gL_isSo_L_isRoom : GoodIn wsL_isSo (va_wsS RL 196 yL_isRoom wsL_isRoom) := goodIn_app (goodIn_of _ (by decide +kernel)) ggL_isSo_L_isRoom
set_option maxRecDepth 20000 in
theorem ggL_isSo_L_decodes : GoodIn wsL_isSo wsL_decodes := goodIn_ca (goodIn_ca (goodIn_r _ [245, 120, 121, 3, 122, 123, 1, 2, 4, 246, 247, 248, 249, 250, 251, 12, 252, 253, 254, 255, 256, 257, 258, 259, 260, 261, 262, 263, 264, 265, 266, 8, 267, 268, 269, 270, 271, 14, 15, 272, 273, 274, 275, 276, 277, 278, 279, 280, 281, 282, 283, 103, 104, 105, 284, 285, 286, 100, 101, 102, 287, 288, 289, 290, 291, 292, 293, 294, 295, 296, 297, 298, 299, 300, 301, 302, 303, 304, 305, 306, 307, 308, 309, 310, 311, 312, 313, 314, 315, 316, 317, 318, 319, 320, 321, 322, 323, 324, 325, 326, 327, 328, 329, 330, 331, 332, 333, 334, 335, 336, 337, 338, 339, 340, 341, 342, 343, 344, 345, 346, 347, 348, 349, 350, 351, 352, 353, 354, 355, 356, 357, 358, 359, 360, 361, 362, 363, 364, 365, 69, 70, 71, 366, 367, 368, 369, 370, 371, 372, 373, 374, 375, 376, 377, 378, 379, 380, 381, 382, 383, 384, 385, 386, 387, 388, 389, 390, 391, 392, 393, 394, 395, 396, 397, 398, 399, 400, 401, 402, 403, 404, 405, 406, 407, 408, 409, 410, 411, 412, 413, 414, 415, 416, 417, 418, 419, 420, 421, 422, 423, 424, 425, 426, 427, 428, 429, 430, 431, 432, 433, 434, 435, 436, 437, 438, 439, 440, 441, 442, 443, 444, 445, 446, 447, 448, 449, 450, 451, 452, 453, 454, 455, 456, 19, 16, 457, 458, 459, 460, 34, 35, 36, 37, 38, 39, 40, 41, 42, 43, 44, 45, 46, 47, 48, 49, 50, 51, 52, 53, 31, 54, 55, 56, 57, 58, 59, 60, 61, 62, 63, 461, 462, 463, 464, 465, 466, 467, 468, 469, 470, 471, 472, 473, 474, 475, 476, 477, 478, 479, 210, 480, 481, 482, 483, 484, 485, 486, 487, 488, 489, 149, 490, 491, 492, 493, 494, 495, 496, 497, 498, 499, 500, 501, 502, 503, 504, 505, 506, 507, 508, 509, 537, 538, 539, 540, 541, 542, 543, 544, 526, 527, 528, 510, 511, 512, 513, 514, 515, 516, 517, 518, 519, 520, 521, 522, 523, 524, 525] (by decide +kernel) (by decide +kernel)) (goodIn_sub (fun _ h => List.mem_cons_of_mem _ (List.mem_append_left _ (List.mem_append_left _ (List.mem_append_right _ h)))) (by decide +kernel))) (goodIn_sub (fun _ h => List.mem_cons_of_mem _ (List.mem_append_right _ h)) (by decide +kernel))
set_option maxRecDepth 20000 in
theorem gL_isSo_L_decodes : GoodIn wsL_isSo (va_wsS RL 200 yL_decodes wsL_decodes) := goodIn_app (goodIn_of _ (by decide +kernel)) ggL_isSo_L_decodes
theorem dL_isSo_0 : decode cL_isSo 0 = .ok (.iconst 0, 1) := by decide +kernel
theorem dL_isSo_1 : decode cL_isSo 1 = .ok (.istore 6, 2) := by decide +kernel
theorem dL_isSo_3 : decode cL_isSo 3 = .ok (.iconst 0, 1) := by decide +kernel
theorem dL_isSo_4 : decode cL_isSo 4 = .ok (.istore 7, 2) := by decide +kernel
theorem dL_isSo_6 : decode cL_isSo 6 = .ok (.iconst 0, 1) := by decide +kernel
theorem dL_isSo_7 : decode cL_isSo 7 = .ok (.istore 8, 2) := by decide +kernel
theorem dL_isSo_9 : decode cL_isSo 9 = .ok (.iload 8, 2) := by decide +kernel
theorem dL_isSo_11 : decode cL_isSo 11 = .ok (.bipush 20, 2) := by decide +kernel
theorem dL_isSo_13 : decode cL_isSo 13 = .ok (.if_icmp .ge 52, 3) := by decide +kernel
theorem dL_isSo_16 : decode cL_isSo 16 = .ok (.iload 6, 2) := by decide +kernel
theorem dL_isSo_18 : decode cL_isSo 18 = .ok (.aload_n 3, 1) := by decide +kernel
theorem dL_isSo_19 : decode cL_isSo 19 = .ok (.iload 8, 2) := by decide +kernel
theorem dL_isSo_21 : decode cL_isSo 21 = .ok (.iaload, 1) := by decide +kernel
theorem dL_isSo_22 : decode cL_isSo 22 = .ok (.ifCond .ne 7, 3) := by decide +kernel
theorem dL_isSo_25 : decode cL_isSo 25 = .ok (.iconst 0, 1) := by decide +kernel
theorem dL_isSo_26 : decode cL_isSo 26 = .ok (.goto 4, 3) := by decide +kernel
theorem dL_isSo_29 : decode cL_isSo 29 = .ok (.iconst 1, 1) := by decide +kernel
theorem dL_isSo_30 : decode cL_isSo 30 = .ok (.iadd, 1) := by decide +kernel
theorem dL_isSo_31 : decode cL_isSo 31 = .ok (.istore 6, 2) := by decide +kernel
theorem dL_isSo_33 : decode cL_isSo 33 = .ok (.aload_n 3, 1) := by decide +kernel
theorem dL_isSo_34 : decode cL_isSo 34 = .ok (.iload 8, 2) := by decide +kernel
theorem dL_isSo_36 : decode cL_isSo 36 = .ok (.iaload, 1) := by decide +kernel
theorem dL_isSo_37 : decode cL_isSo 37 = .ok (.invokestatic 83, 3) := by decide +kernel
theorem dL_isSo_40 : decode cL_isSo 40 = .ok (.iload 7, 2) := by decide +kernel
theorem dL_isSo_42 : decode cL_isSo 42 = .ok (.if_icmp .le 13, 3) := by decide +kernel
theorem dL_isSo_45 : decode cL_isSo 45 = .ok (.aload_n 3, 1) := by decide +kernel
theorem dL_isSo_46 : decode cL_isSo 46 = .ok (.iload 8, 2) := by decide +kernel
theorem dL_isSo_48 : decode cL_isSo 48 = .ok (.iaload, 1) := by decide +kernel
theorem dL_isSo_49 : decode cL_isSo 49 = .ok (.invokestatic 83, 3) := by decide +kernel
theorem dL_isSo_52 : decode cL_isSo 52 = .ok (.goto 5, 3) := by decide +kernel
theorem dL_isSo_55 : decode cL_isSo 55 = .ok (.iload 7, 2) := by decide +kernel
theorem dL_isSo_57 : decode cL_isSo 57 = .ok (.istore 7, 2) := by decide +kernel
theorem dL_isSo_59 : decode cL_isSo 59 = .ok (.iinc 8 1, 3) := by decide +kernel
theorem dL_isSo_62 : decode cL_isSo 62 = .ok (.goto (-53), 3) := by decide +kernel
theorem dL_isSo_65 : decode cL_isSo 65 = .ok (.iconst 0, 1) := by decide +kernel
theorem dL_isSo_66 : decode cL_isSo 66 = .ok (.istore 8, 2) := by decide +kernel
theorem dL_isSo_68 : decode cL_isSo 68 = .ok (.iconst 0, 1) := by decide +kernel
theorem dL_isSo_69 : decode cL_isSo 69 = .ok (.istore 9, 2) := by decide +kernel
theorem dL_isSo_71 : decode cL_isSo 71 = .ok (.iconst 0, 1) := by decide +kernel
theorem dL_isSo_72 : decode cL_isSo 72 = .ok (.istore 10, 2) := by decide +kernel
theorem dL_isSo_74 : decode cL_isSo 74 = .ok (.iconst 0, 1) := by decide +kernel
theorem dL_isSo_75 : decode cL_isSo 75 = .ok (.istore 11, 2) := by decide +kernel
theorem dL_isSo_77 : decode cL_isSo 77 = .ok (.iconst 0, 1) := by decide +kernel
theorem dL_isSo_78 : decode cL_isSo 78 = .ok (.istore 12, 2) := by decide +kernel
theorem dL_isSo_80 : decode cL_isSo 80 = .ok (.iconst 0, 1) := by decide +kernel
theorem dL_isSo_81 : decode cL_isSo 81 = .ok (.istore 13, 2) := by decide +kernel
theorem dL_isSo_83 : decode cL_isSo 83 = .ok (.iconst 0, 1) := by decide +kernel
theorem dL_isSo_84 : decode cL_isSo 84 = .ok (.istore 14, 2) := by decide +kernel
theorem dL_isSo_86 : decode cL_isSo 86 = .ok (.iload 14, 2) := by decide +kernel
theorem dL_isSo_88 : decode cL_isSo 88 = .ok (.bipush 6, 2) := by decide +kernel
theorem dL_isSo_90 : decode cL_isSo 90 = .ok (.if_icmp .ge 116, 3) := by decide +kernel
theorem dL_isSo_93 : decode cL_isSo 93 = .ok (.iload 8, 2) := by decide +kernel
theorem dL_isSo_95 : decode cL_isSo 95 = .ok (.aload 4, 2) := by decide +kernel
theorem dL_isSo_97 : decode cL_isSo 97 = .ok (.iconst 5, 1) := by decide +kernel
theorem dL_isSo_98 : decode cL_isSo 98 = .ok (.iload 14, 2) := by decide +kernel
theorem dL_isSo_100 : decode cL_isSo 100 = .ok (.imul, 1) := by decide +kernel
theorem dL_isSo_101 : decode cL_isSo 101 = .ok (.iconst 2, 1) := by decide +kernel
theorem dL_isSo_102 : decode cL_isSo 102 = .ok (.iadd, 1) := by decide +kernel
theorem dL_isSo_103 : decode cL_isSo 103 = .ok (.iaload, 1) := by decide +kernel
theorem dL_isSo_104 : decode cL_isSo 104 = .ok (.iadd, 1) := by decide +kernel
theorem dL_isSo_105 : decode cL_isSo 105 = .ok (.istore 8, 2) := by decide +kernel
theorem dL_isSo_107 : decode cL_isSo 107 = .ok (.iload 9, 2) := by decide +kernel
theorem dL_isSo_109 : decode cL_isSo 109 = .ok (.aload 4, 2) := by decide +kernel
theorem dL_isSo_111 : decode cL_isSo 111 = .ok (.iconst 5, 1) := by decide +kernel
theorem dL_isSo_112 : decode cL_isSo 112 = .ok (.iload 14, 2) := by decide +kernel
theorem dL_isSo_114 : decode cL_isSo 114 = .ok (.imul, 1) := by decide +kernel
theorem dL_isSo_115 : decode cL_isSo 115 = .ok (.iconst 1, 1) := by decide +kernel
theorem dL_isSo_116 : decode cL_isSo 116 = .ok (.iadd, 1) := by decide +kernel
theorem dL_isSo_117 : decode cL_isSo 117 = .ok (.iaload, 1) := by decide +kernel
theorem dL_isSo_118 : decode cL_isSo 118 = .ok (.aload_n 2, 1) := by decide +kernel
theorem dL_isSo_119 : decode cL_isSo 119 = .ok (.iconst 4, 1) := by decide +kernel
theorem dL_isSo_120 : decode cL_isSo 120 = .ok (.iaload, 1) := by decide +kernel
theorem dL_isSo_121 : decode cL_isSo 121 = .ok (.if_icmp .lt 7, 3) := by decide +kernel
theorem dL_isSo_124 : decode cL_isSo 124 = .ok (.iconst 1, 1) := by decide +kernel
theorem dL_isSo_125 : decode cL_isSo 125 = .ok (.goto 4, 3) := by decide +kernel
theorem dL_isSo_128 : decode cL_isSo 128 = .ok (.iconst 0, 1) := by decide +kernel
theorem dL_isSo_129 : decode cL_isSo 129 = .ok (.iadd, 1) := by decide +kernel
theorem dL_isSo_130 : decode cL_isSo 130 = .ok (.istore 9, 2) := by decide +kernel
theorem dL_isSo_132 : decode cL_isSo 132 = .ok (.iload 10, 2) := by decide +kernel
theorem dL_isSo_134 : decode cL_isSo 134 = .ok (.aload 4, 2) := by decide +kernel
theorem dL_isSo_136 : decode cL_isSo 136 = .ok (.iconst 5, 1) := by decide +kernel
theorem dL_isSo_137 : decode cL_isSo 137 = .ok (.iload 14, 2) := by decide +kernel
theorem dL_isSo_139 : decode cL_isSo 139 = .ok (.imul, 1) := by decide +kernel
theorem dL_isSo_140 : decode cL_isSo 140 = .ok (.iconst 1, 1) := by decide +kernel
theorem dL_isSo_141 : decode cL_isSo 141 = .ok (.iadd, 1) := by decide +kernel
theorem dL_isSo_142 : decode cL_isSo 142 = .ok (.iaload, 1) := by decide +kernel
theorem dL_isSo_143 : decode cL_isSo 143 = .ok (.iadd, 1) := by decide +kernel
theorem dL_isSo_144 : decode cL_isSo 144 = .ok (.istore 10, 2) := by decide +kernel
theorem dL_isSo_146 : decode cL_isSo 146 = .ok (.iload 11, 2) := by decide +kernel
theorem dL_isSo_148 : decode cL_isSo 148 = .ok (.aload 4, 2) := by decide +kernel
theorem dL_isSo_150 : decode cL_isSo 150 = .ok (.iconst 5, 1) := by decide +kernel
theorem dL_isSo_151 : decode cL_isSo 151 = .ok (.iload 14, 2) := by decide +kernel
theorem dL_isSo_153 : decode cL_isSo 153 = .ok (.imul, 1) := by decide +kernel
theorem dL_isSo_154 : decode cL_isSo 154 = .ok (.iconst 3, 1) := by decide +kernel
theorem dL_isSo_155 : decode cL_isSo 155 = .ok (.iadd, 1) := by decide +kernel
theorem dL_isSo_156 : decode cL_isSo 156 = .ok (.iaload, 1) := by decide +kernel
theorem dL_isSo_157 : decode cL_isSo 157 = .ok (.iadd, 1) := by decide +kernel
theorem dL_isSo_158 : decode cL_isSo 158 = .ok (.istore 11, 2) := by decide +kernel
theorem dL_isSo_160 : decode cL_isSo 160 = .ok (.iload 12, 2) := by decide +kernel
theorem dL_isSo_162 : decode cL_isSo 162 = .ok (.aload 4, 2) := by decide +kernel
theorem dL_isSo_164 : decode cL_isSo 164 = .ok (.iconst 5, 1) := by decide +kernel
theorem dL_isSo_165 : decode cL_isSo 165 = .ok (.iload 14, 2) := by decide +kernel
theorem dL_isSo_167 : decode cL_isSo 167 = .ok (.imul, 1) := by decide +kernel
theorem dL_isSo_168 : decode cL_isSo 168 = .ok (.iconst 4, 1) := by decide +kernel
theorem dL_isSo_169 : decode cL_isSo 169 = .ok (.iadd, 1) := by decide +kernel
theorem dL_isSo_170 : decode cL_isSo 170 = .ok (.iaload, 1) := by decide +kernel
theorem dL_isSo_171 : decode cL_isSo 171 = .ok (.iadd, 1) := by decide +kernel
theorem dL_isSo_172 : decode cL_isSo 172 = .ok (.istore 12, 2) := by decide +kernel
theorem dL_isSo_174 : decode cL_isSo 174 = .ok (.iload 13, 2) := by decide +kernel
theorem dL_isSo_176 : decode cL_isSo 176 = .ok (.aload 4, 2) := by decide +kernel
theorem dL_isSo_178 : decode cL_isSo 178 = .ok (.iconst 5, 1) := by decide +kernel
theorem dL_isSo_179 : decode cL_isSo 179 = .ok (.iload 14, 2) := by decide +kernel
theorem dL_isSo_181 : decode cL_isSo 181 = .ok (.imul, 1) := by decide +kernel
theorem dL_isSo_182 : decode cL_isSo 182 = .ok (.iaload, 1) := by decide +kernel
theorem dL_isSo_183 : decode cL_isSo 183 = .ok (.aload_n 2, 1) := by decide +kernel
theorem dL_isSo_184 : decode cL_isSo 184 = .ok (.iconst 1, 1) := by decide +kernel
theorem dL_isSo_185 : decode cL_isSo 185 = .ok (.iaload, 1) := by decide +kernel
theorem dL_isSo_186 : decode cL_isSo 186 = .ok (.if_icmp .ne 10, 3) := by decide +kernel
theorem dL_isSo_189 : decode cL_isSo 189 = .ok (.iconst 1, 1) := by decide +kernel
theorem dL_isSo_190 : decode cL_isSo 190 = .ok (.iload 14, 2) := by decide +kernel
theorem dL_isSo_192 : decode cL_isSo 192 = .ok (.ishl, 1) := by decide +kernel
theorem dL_isSo_193 : decode cL_isSo 193 = .ok (.goto 4, 3) := by decide +kernel
theorem dL_isSo_196 : decode cL_isSo 196 = .ok (.iconst 0, 1) := by decide +kernel
theorem dL_isSo_197 : decode cL_isSo 197 = .ok (.ior, 1) := by decide +kernel
theorem dL_isSo_198 : decode cL_isSo 198 = .ok (.istore 13, 2) := by decide +kernel
theorem dL_isSo_200 : decode cL_isSo 200 = .ok (.iinc 14 1, 3) := by decide +kernel
theorem dL_isSo_203 : decode cL_isSo 203 = .ok (.goto (-117), 3) := by decide +kernel
theorem dL_isSo_206 : decode cL_isSo 206 = .ok (.aload_n 0, 1) := by decide +kernel
theorem dL_isSo_207 : decode cL_isSo 207 = .ok (.iconst 0, 1) := by decide +kernel
theorem dL_isSo_208 : decode cL_isSo 208 = .ok (.invokestatic 180, 3) := by decide +kernel
theorem dL_isSo_211 : decode cL_isSo 211 = .ok (.aload_n 2, 1) := by decide +kernel
theorem dL_isSo_212 : decode cL_isSo 212 = .ok (.iconst 0, 1) := by decide +kernel
theorem dL_isSo_213 : decode cL_isSo 213 = .ok (.iaload, 1) := by decide +kernel
theorem dL_isSo_214 : decode cL_isSo 214 = .ok (.if_icmp .ne 141, 3) := by decide +kernel
theorem dL_isSo_217 : decode cL_isSo 217 = .ok (.aload_n 0, 1) := by decide +kernel
theorem dL_isSo_218 : decode cL_isSo 218 = .ok (.iconst 1, 1) := by decide +kernel
theorem dL_isSo_219 : decode cL_isSo 219 = .ok (.invokestatic 180, 3) := by decide +kernel
theorem dL_isSo_222 : decode cL_isSo 222 = .ok (.aload_n 2, 1) := by decide +kernel
theorem dL_isSo_223 : decode cL_isSo 223 = .ok (.iconst 1, 1) := by decide +kernel
theorem dL_isSo_224 : decode cL_isSo 224 = .ok (.iaload, 1) := by decide +kernel
theorem dL_isSo_225 : decode cL_isSo 225 = .ok (.if_icmp .ne 130, 3) := by decide +kernel
theorem dL_isSo_228 : decode cL_isSo 228 = .ok (.aload_n 0, 1) := by decide +kernel
theorem dL_isSo_229 : decode cL_isSo 229 = .ok (.iconst 2, 1) := by decide +kernel
theorem dL_isSo_230 : decode cL_isSo 230 = .ok (.invokestatic 180, 3) := by decide +kernel
theorem dL_isSo_233 : decode cL_isSo 233 = .ok (.iload 6, 2) := by decide +kernel
theorem dL_isSo_235 : decode cL_isSo 235 = .ok (.if_icmp .ne 120, 3) := by decide +kernel
theorem dL_isSo_238 : decode cL_isSo 238 = .ok (.aload_n 0, 1) := by decide +kernel
theorem dL_isSo_239 : decode cL_isSo 239 = .ok (.iconst 3, 1) := by decide +kernel
theorem dL_isSo_240 : decode cL_isSo 240 = .ok (.invokestatic 180, 3) := by decide +kernel
theorem dL_isSo_243 : decode cL_isSo 243 = .ok (.aload_n 3, 1) := by decide +kernel
theorem dL_isSo_244 : decode cL_isSo 244 = .ok (.invokestatic 182, 3) := by decide +kernel
theorem dL_isSo_247 : decode cL_isSo 247 = .ok (.if_icmp .ne 108, 3) := by decide +kernel
theorem dL_isSo_250 : decode cL_isSo 250 = .ok (.aload_n 0, 1) := by decide +kernel
theorem dL_isSo_251 : decode cL_isSo 251 = .ok (.iconst 4, 1) := by decide +kernel
theorem dL_isSo_252 : decode cL_isSo 252 = .ok (.invokestatic 180, 3) := by decide +kernel
theorem dL_isSo_255 : decode cL_isSo 255 = .ok (.iload 7, 2) := by decide +kernel
theorem dL_isSo_257 : decode cL_isSo 257 = .ok (.if_icmp .ne 98, 3) := by decide +kernel
theorem dL_isSo_260 : decode cL_isSo 260 = .ok (.aload_n 0, 1) := by decide +kernel
theorem dL_isSo_261 : decode cL_isSo 261 = .ok (.iconst 5, 1) := by decide +kernel
theorem dL_isSo_262 : decode cL_isSo 262 = .ok (.invokestatic 180, 3) := by decide +kernel
theorem dL_isSo_265 : decode cL_isSo 265 = .ok (.aload_n 2, 1) := by decide +kernel
theorem dL_isSo_266 : decode cL_isSo 266 = .ok (.iconst 2, 1) := by decide +kernel
theorem dL_isSo_267 : decode cL_isSo 267 = .ok (.iaload, 1) := by decide +kernel
theorem dL_isSo_268 : decode cL_isSo 268 = .ok (.if_icmp .ne 87, 3) := by decide +kernel
theorem dL_isSo_271 : decode cL_isSo 271 = .ok (.aload_n 0, 1) := by decide +kernel
theorem dL_isSo_272 : decode cL_isSo 272 = .ok (.bipush 6, 2) := by decide +kernel
theorem dL_isSo_274 : decode cL_isSo 274 = .ok (.invokestatic 180, 3) := by decide +kernel
theorem dL_isSo_277 : decode cL_isSo 277 = .ok (.iload 8, 2) := by decide +kernel
theorem dL_isSo_279 : decode cL_isSo 279 = .ok (.if_icmp .ne 76, 3) := by decide +kernel
theorem dL_isSo_282 : decode cL_isSo 282 = .ok (.aload_n 0, 1) := by decide +kernel
theorem dL_isSo_283 : decode cL_isSo 283 = .ok (.bipush 7, 2) := by decide +kernel
theorem dL_isSo_285 : decode cL_isSo 285 = .ok (.invokestatic 180, 3) := by decide +kernel
theorem dL_isSo_288 : decode cL_isSo 288 = .ok (.iload 9, 2) := by decide +kernel
theorem dL_isSo_290 : decode cL_isSo 290 = .ok (.if_icmp .ne 65, 3) := by decide +kernel
theorem dL_isSo_293 : decode cL_isSo 293 = .ok (.aload_n 0, 1) := by decide +kernel
theorem dL_isSo_294 : decode cL_isSo 294 = .ok (.bipush 8, 2) := by decide +kernel
theorem dL_isSo_296 : decode cL_isSo 296 = .ok (.invokestatic 180, 3) := by decide +kernel
theorem dL_isSo_299 : decode cL_isSo 299 = .ok (.aload_n 2, 1) := by decide +kernel
theorem dL_isSo_300 : decode cL_isSo 300 = .ok (.iconst 5, 1) := by decide +kernel
theorem dL_isSo_301 : decode cL_isSo 301 = .ok (.iaload, 1) := by decide +kernel
theorem dL_isSo_302 : decode cL_isSo 302 = .ok (.if_icmp .ne 53, 3) := by decide +kernel
theorem dL_isSo_305 : decode cL_isSo 305 = .ok (.aload_n 0, 1) := by decide +kernel
theorem dL_isSo_306 : decode cL_isSo 306 = .ok (.bipush 9, 2) := by decide +kernel
theorem dL_isSo_308 : decode cL_isSo 308 = .ok (.invokestatic 180, 3) := by decide +kernel
theorem dL_isSo_311 : decode cL_isSo 311 = .ok (.iload 10, 2) := by decide +kernel
theorem dL_isSo_313 : decode cL_isSo 313 = .ok (.if_icmp .ne 42, 3) := by decide +kernel
theorem dL_isSo_316 : decode cL_isSo 316 = .ok (.aload_n 0, 1) := by decide +kernel
theorem dL_isSo_317 : decode cL_isSo 317 = .ok (.bipush 10, 2) := by decide +kernel
theorem dL_isSo_319 : decode cL_isSo 319 = .ok (.invokestatic 180, 3) := by decide +kernel
theorem dL_isSo_322 : decode cL_isSo 322 = .ok (.iload 13, 2) := by decide +kernel
theorem dL_isSo_324 : decode cL_isSo 324 = .ok (.if_icmp .ne 31, 3) := by decide +kernel
theorem dL_isSo_327 : decode cL_isSo 327 = .ok (.aload_n 0, 1) := by decide +kernel
theorem dL_isSo_328 : decode cL_isSo 328 = .ok (.bipush 11, 2) := by decide +kernel
theorem dL_isSo_330 : decode cL_isSo 330 = .ok (.invokestatic 180, 3) := by decide +kernel
theorem dL_isSo_333 : decode cL_isSo 333 = .ok (.aload_n 2, 1) := by decide +kernel
theorem dL_isSo_334 : decode cL_isSo 334 = .ok (.iconst 3, 1) := by decide +kernel
theorem dL_isSo_335 : decode cL_isSo 335 = .ok (.iaload, 1) := by decide +kernel
theorem dL_isSo_336 : decode cL_isSo 336 = .ok (.if_icmp .ne 19, 3) := by decide +kernel
theorem dL_isSo_339 : decode cL_isSo 339 = .ok (.aload_n 0, 1) := by decide +kernel
theorem dL_isSo_340 : decode cL_isSo 340 = .ok (.bipush 12, 2) := by decide +kernel
theorem dL_isSo_342 : decode cL_isSo 342 = .ok (.invokestatic 180, 3) := by decide +kernel
theorem dL_isSo_345 : decode cL_isSo 345 = .ok (.aload_n 2, 1) := by decide +kernel
theorem dL_isSo_346 : decode cL_isSo 346 = .ok (.iconst 4, 1) := by decide +kernel
theorem dL_isSo_347 : decode cL_isSo 347 = .ok (.iaload, 1) := by decide +kernel
theorem dL_isSo_348 : decode cL_isSo 348 = .ok (.if_icmp .ne 7, 3) := by decide +kernel
theorem dL_isSo_351 : decode cL_isSo 351 = .ok (.iconst 1, 1) := by decide +kernel
theorem dL_isSo_352 : decode cL_isSo 352 = .ok (.goto 4, 3) := by decide +kernel
theorem dL_isSo_355 : decode cL_isSo 355 = .ok (.iconst 0, 1) := by decide +kernel
theorem dL_isSo_356 : decode cL_isSo 356 = .ok (.istore 14, 2) := by decide +kernel
theorem dL_isSo_358 : decode cL_isSo 358 = .ok (.iconst 0, 1) := by decide +kernel
theorem dL_isSo_359 : decode cL_isSo 359 = .ok (.istore 15, 2) := by decide +kernel
theorem dL_isSo_361 : decode cL_isSo 361 = .ok (.iload 15, 2) := by decide +kernel
theorem dL_isSo_363 : decode cL_isSo 363 = .ok (.bipush 6, 2) := by decide +kernel
theorem dL_isSo_365 : decode cL_isSo 365 = .ok (.if_icmp .ge 37, 3) := by decide +kernel
theorem dL_isSo_368 : decode cL_isSo 368 = .ok (.iload 14, 2) := by decide +kernel
theorem dL_isSo_370 : decode cL_isSo 370 = .ok (.ifCond .eq 23, 3) := by decide +kernel
theorem dL_isSo_373 : decode cL_isSo 373 = .ok (.aload_n 0, 1) := by decide +kernel
theorem dL_isSo_374 : decode cL_isSo 374 = .ok (.iload 15, 2) := by decide +kernel
theorem dL_isSo_376 : decode cL_isSo 376 = .ok (.invokestatic 186, 3) := by decide +kernel
theorem dL_isSo_379 : decode cL_isSo 379 = .ok (.aload_n 2, 1) := by decide +kernel
theorem dL_isSo_380 : decode cL_isSo 380 = .ok (.bipush 6, 2) := by decide +kernel
theorem dL_isSo_382 : decode cL_isSo 382 = .ok (.iload 15, 2) := by decide +kernel
theorem dL_isSo_384 : decode cL_isSo 384 = .ok (.iadd, 1) := by decide +kernel
theorem dL_isSo_385 : decode cL_isSo 385 = .ok (.iaload, 1) := by decide +kernel
theorem dL_isSo_386 : decode cL_isSo 386 = .ok (.if_icmp .ne 7, 3) := by decide +kernel
theorem dL_isSo_389 : decode cL_isSo 389 = .ok (.iconst 1, 1) := by decide +kernel
theorem dL_isSo_390 : decode cL_isSo 390 = .ok (.goto 4, 3) := by decide +kernel
theorem dL_isSo_393 : decode cL_isSo 393 = .ok (.iconst 0, 1) := by decide +kernel
theorem dL_isSo_394 : decode cL_isSo 394 = .ok (.istore 14, 2) := by decide +kernel
theorem dL_isSo_396 : decode cL_isSo 396 = .ok (.iinc 15 1, 3) := by decide +kernel
theorem dL_isSo_399 : decode cL_isSo 399 = .ok (.goto (-38), 3) := by decide +kernel
theorem dL_isSo_402 : decode cL_isSo 402 = .ok (.iload 14, 2) := by decide +kernel
theorem dL_isSo_404 : decode cL_isSo 404 = .ok (.ifCond .eq 37, 3) := by decide +kernel
theorem dL_isSo_407 : decode cL_isSo 407 = .ok (.aload_n 0, 1) := by decide +kernel
theorem dL_isSo_408 : decode cL_isSo 408 = .ok (.invokevirtual 188, 3) := by decide +kernel
theorem dL_isSo_411 : decode cL_isSo 411 = .ok (.iload 11, 2) := by decide +kernel
theorem dL_isSo_413 : decode cL_isSo 413 = .ok (.iload 12, 2) := by decide +kernel
theorem dL_isSo_415 : decode cL_isSo 415 = .ok (.iadd, 1) := by decide +kernel
theorem dL_isSo_416 : decode cL_isSo 416 = .ok (.ifCond .ne 7, 3) := by decide +kernel
theorem dL_isSo_419 : decode cL_isSo 419 = .ok (.dconst 1, 1) := by decide +kernel
theorem dL_isSo_420 : decode cL_isSo 420 = .ok (.goto 13, 3) := by decide +kernel
theorem dL_isSo_423 : decode cL_isSo 423 = .ok (.iload 11, 2) := by decide +kernel
theorem dL_isSo_425 : decode cL_isSo 425 = .ok (.i2d, 1) := by decide +kernel
theorem dL_isSo_426 : decode cL_isSo 426 = .ok (.iload 11, 2) := by decide +kernel
theorem dL_isSo_428 : decode cL_isSo 428 = .ok (.iload 12, 2) := by decide +kernel
theorem dL_isSo_430 : decode cL_isSo 430 = .ok (.iadd, 1) := by decide +kernel
theorem dL_isSo_431 : decode cL_isSo 431 = .ok (.i2d, 1) := by decide +kernel
theorem dL_isSo_432 : decode cL_isSo 432 = .ok (.ddiv, 1) := by decide +kernel
theorem dL_isSo_433 : decode cL_isSo 433 = .ok (.dcmp .l, 1) := by decide +kernel
theorem dL_isSo_434 : decode cL_isSo 434 = .ok (.ifCond .ne 7, 3) := by decide +kernel
theorem dL_isSo_437 : decode cL_isSo 437 = .ok (.iconst 1, 1) := by decide +kernel
theorem dL_isSo_438 : decode cL_isSo 438 = .ok (.goto 4, 3) := by decide +kernel
theorem dL_isSo_441 : decode cL_isSo 441 = .ok (.iconst 0, 1) := by decide +kernel
theorem dL_isSo_442 : decode cL_isSo 442 = .ok (.istore 14, 2) := by decide +kernel
theorem dL_isSo_444 : decode cL_isSo 444 = .ok (.iload 14, 2) := by decide +kernel
theorem dL_isSo_446 : decode cL_isSo 446 = .ok (.ifCond .eq 68, 3) := by decide +kernel
theorem dL_isSo_449 : decode cL_isSo 449 = .ok (.aload_n 0, 1) := by decide +kernel
theorem dL_isSo_450 : decode cL_isSo 450 = .ok (.iload_n 1, 1) := by decide +kernel
theorem dL_isSo_451 : decode cL_isSo 451 = .ok (.bipush 20, 2) := by decide +kernel
theorem dL_isSo_453 : decode cL_isSo 453 = .ok (.invokestatic 93, 3) := by decide +kernel
theorem dL_isSo_456 : decode cL_isSo 456 = .ok (.aload_n 2, 1) := by decide +kernel
theorem dL_isSo_457 : decode cL_isSo 457 = .ok (.aload_n 3, 1) := by decide +kernel
theorem dL_isSo_458 : decode cL_isSo 458 = .ok (.aload 4, 2) := by decide +kernel
theorem dL_isSo_460 : decode cL_isSo 460 = .ok (.aload 5, 2) := by decide +kernel
theorem dL_isSo_462 : decode cL_isSo 462 = .ok (.invokestatic 192, 3) := by decide +kernel
theorem dL_isSo_465 : decode cL_isSo 465 = .ok (.ifCond .eq 49, 3) := by decide +kernel
theorem dL_isSo_468 : decode cL_isSo 468 = .ok (.aload_n 0, 1) := by decide +kernel
theorem dL_isSo_469 : decode cL_isSo 469 = .ok (.iload_n 1, 1) := by decide +kernel
theorem dL_isSo_470 : decode cL_isSo 470 = .ok (.iconst 5, 1) := by decide +kernel
theorem dL_isSo_471 : decode cL_isSo 471 = .ok (.ishr, 1) := by decide +kernel
theorem dL_isSo_472 : decode cL_isSo 472 = .ok (.bipush 6, 2) := by decide +kernel
theorem dL_isSo_474 : decode cL_isSo 474 = .ok (.invokestatic 93, 3) := by decide +kernel
theorem dL_isSo_477 : decode cL_isSo 477 = .ok (.iload_n 1, 1) := by decide +kernel
theorem dL_isSo_478 : decode cL_isSo 478 = .ok (.bipush 8, 2) := by decide +kernel
theorem dL_isSo_480 : decode cL_isSo 480 = .ok (.ishr, 1) := by decide +kernel
theorem dL_isSo_481 : decode cL_isSo 481 = .ok (.bipush 20, 2) := by decide +kernel
theorem dL_isSo_483 : decode cL_isSo 483 = .ok (.invokestatic 93, 3) := by decide +kernel
theorem dL_isSo_486 : decode cL_isSo 486 = .ok (.aload_n 2, 1) := by decide +kernel
theorem dL_isSo_487 : decode cL_isSo 487 = .ok (.aload_n 3, 1) := by decide +kernel
theorem dL_isSo_488 : decode cL_isSo 488 = .ok (.aload 4, 2) := by decide +kernel
theorem dL_isSo_490 : decode cL_isSo 490 = .ok (.aload 5, 2) := by decide +kernel
theorem dL_isSo_492 : decode cL_isSo 492 = .ok (.invokestatic 196, 3) := by decide +kernel
theorem dL_isSo_495 : decode cL_isSo 495 = .ok (.ifCond .eq 19, 3) := by decide +kernel
theorem dL_isSo_498 : decode cL_isSo 498 = .ok (.aload_n 0, 1) := by decide +kernel
theorem dL_isSo_499 : decode cL_isSo 499 = .ok (.iload_n 1, 1) := by decide +kernel
theorem dL_isSo_500 : decode cL_isSo 500 = .ok (.bipush 6, 2) := by decide +kernel
theorem dL_isSo_502 : decode cL_isSo 502 = .ok (.ishr, 1) := by decide +kernel
theorem dL_isSo_503 : decode cL_isSo 503 = .ok (.aload_n 3, 1) := by decide +kernel
theorem dL_isSo_504 : decode cL_isSo 504 = .ok (.invokestatic 200, 3) := by decide +kernel
theorem dL_isSo_507 : decode cL_isSo 507 = .ok (.ifCond .eq 7, 3) := by decide +kernel
theorem dL_isSo_510 : decode cL_isSo 510 = .ok (.iconst 1, 1) := by decide +kernel
theorem dL_isSo_511 : decode cL_isSo 511 = .ok (.goto 4, 3) := by decide +kernel
theorem dL_isSo_514 : decode cL_isSo 514 = .ok (.iconst 0, 1) := by decide +kernel
theorem dL_isSo_515 : decode cL_isSo 515 = .ok (.ireturn, 1) := by decide +kernel
set_option maxRecDepth 20000 in
theorem ggL_told_L_count : GoodIn wsL_told wsL_count := goodIn_ca (goodIn_r _ [11, 12, 13, 14, 15, 16, 17, 18, 19, 20, 21, 22, 23, 24, 25, 26, 27, 28, 29, 30, 31, 32, 33, 34, 35, 36, 37, 38, 39, 40, 41, 42, 43, 44, 45, 46, 47, 48, 49, 50, 51, 52, 53, 54, 55, 56, 57, 58, 59, 60, 61, 62, 63, 64, 65, 66, 67, 68, 69, 70, 71, 72, 73, 74, 75, 76, 77, 78, 79, 80, 81, 82, 83, 84, 85, 86, 87, 88, 89, 90, 91, 92, 93, 94, 95, 96, 97, 98, 99, 100, 150, 151, 152, 153, 154, 155, 156, 157, 158, 159, 160, 161, 162, 163, 164, 165, 166, 167, 168, 169, 170, 171, 172, 173, 174, 175, 176, 177, 178, 179, 180] (by decide +kernel) (by decide +kernel)) (goodIn_sub (fun _ h => List.mem_cons_of_mem _ (List.mem_append_left _ (List.mem_append_right _ h))) (by decide +kernel))
set_option maxRecDepth 20000 in
theorem gL_told_L_count : GoodIn wsL_told (va_wsS RL 180 yL_count wsL_count) := goodIn_app (goodIn_of _ (by decide +kernel)) ggL_told_L_count
set_option maxRecDepth 20000 in
theorem ggL_told_L_message : GoodIn wsL_told wsL_message := goodIn_ca (goodIn_ca (goodIn_r _ [103, 104, 12, 105, 106, 107, 16, 108, 109, 110, 18, 19, 20, 111, 112, 27, 113, 114, 115, 116, 150, 151, 152, 153, 154, 155, 156, 157, 158, 159, 160, 161, 162, 163, 164, 165, 166, 167, 168, 169, 170, 171, 172, 173, 174] (by decide +kernel) (by decide +kernel)) (goodIn_sub (fun _ h => List.mem_cons_of_mem _ (List.mem_append_right _ h)) (by decide +kernel))) (goodIn_sub (fun _ h => List.mem_cons_of_mem _ (List.mem_append_left _ (List.mem_append_right _ h))) (by decide +kernel))
set_option maxRecDepth 20000 in
theorem gL_told_L_message : GoodIn wsL_told (va_wsS RL 156 yL_message wsL_message) := goodIn_app (goodIn_of _ (by decide +kernel)) ggL_told_L_message
set_option maxRecDepth 20000 in
theorem ggL_told_L_note : GoodIn wsL_told wsL_note := goodIn_ca (goodIn_ca (goodIn_r _ [119, 104, 12, 120, 121, 122, 16, 123, 109, 110, 18, 19, 20, 111, 114, 115, 116, 124, 56, 57, 35, 58, 59, 150, 151, 152, 153, 154, 155, 156, 157, 158, 159, 160, 161, 162, 163, 164, 165, 166, 167, 168, 169, 170, 171, 172, 173, 174] (by decide +kernel) (by decide +kernel)) (goodIn_sub (fun _ h => List.mem_cons_of_mem _ (List.mem_append_right _ h)) (by decide +kernel))) (goodIn_sub (fun _ h => List.mem_cons_of_mem _ (List.mem_append_left _ (List.mem_append_right _ h))) (by decide +kernel))
set_option maxRecDepth 20000 in
theorem gL_told_L_note : GoodIn wsL_told (va_wsS RL 160 yL_note wsL_note) := goodIn_app (goodIn_of _ (by decide +kernel)) ggL_told_L_note
set_option maxRecDepth 20000 in
theorem ggL_told_L_room : GoodIn wsL_told wsL_room := goodIn_ca (goodIn_ca (goodIn_r _ [127, 104, 12, 128, 129, 130, 16, 131, 109, 110, 18, 19, 20, 132, 28, 26, 133, 134, 135, 136, 137, 138, 139, 140, 141, 88, 89, 35, 90, 91, 92, 150, 151, 152, 153, 154, 155, 156, 157, 158, 159, 160, 161, 162, 163, 164, 165, 166, 167, 168, 169, 170, 171, 172, 173, 174] (by decide +kernel) (by decide +kernel)) (goodIn_sub (fun _ h => List.mem_cons_of_mem _ (List.mem_append_right _ h)) (by decide +kernel))) (goodIn_sub (fun _ h => List.mem_cons_of_mem _ (List.mem_append_left _ (List.mem_append_right _ h))) (by decide +kernel))
set_option maxRecDepth 20000 in
theorem gL_told_L_room : GoodIn wsL_told (va_wsS RL 162 yL_room wsL_room) := goodIn_app (goodIn_of _ (by decide +kernel)) ggL_told_L_room
set_option maxRecDepth 20000 in
theorem ggL_told_L_latest : GoodIn wsL_told wsL_latest := goodIn_ca (goodIn_r _ [144, 12, 145, 146, 147, 16, 148, 18, 19, 20, 149, 150, 151, 152, 153, 154, 155, 156, 157, 158, 159, 160, 161, 162, 163, 164, 165, 166, 167, 168, 169, 170, 171, 172, 173, 174] (by decide +kernel) (by decide +kernel)) (goodIn_sub (fun _ h => List.mem_cons_of_mem _ (List.mem_append_left _ (List.mem_append_right _ h))) (by decide +kernel))
set_option maxRecDepth 20000 in
theorem gL_told_L_latest : GoodIn wsL_told (va_wsS RL 186 yL_latest wsL_latest) := goodIn_app (goodIn_of _ (by decide +kernel)) ggL_told_L_latest
theorem dL_told_0 : decode cL_told 0 = .ok (.ldc2_w 204, 3) := by decide +kernel
theorem dL_told_3 : decode cL_told 3 = .ok (.lstore_n 1, 1) := by decide +kernel
theorem dL_told_4 : decode cL_told 4 = .ok (.iconst 0, 1) := by decide +kernel
theorem dL_told_5 : decode cL_told 5 = .ok (.istore_n 3, 1) := by decide +kernel
theorem dL_told_6 : decode cL_told 6 = .ok (.iload_n 3, 1) := by decide +kernel
theorem dL_told_7 : decode cL_told 7 = .ok (.bipush 13, 2) := by decide +kernel
theorem dL_told_9 : decode cL_told 9 = .ok (.if_icmp .ge 22, 3) := by decide +kernel
theorem dL_told_12 : decode cL_told 12 = .ok (.ldc2_w 206, 3) := by decide +kernel
theorem dL_told_15 : decode cL_told 15 = .ok (.lload_n 1, 1) := by decide +kernel
theorem dL_told_16 : decode cL_told 16 = .ok (.lmul, 1) := by decide +kernel
theorem dL_told_17 : decode cL_told 17 = .ok (.aload_n 0, 1) := by decide +kernel
theorem dL_told_18 : decode cL_told 18 = .ok (.iload_n 3, 1) := by decide +kernel
theorem dL_told_19 : decode cL_told 19 = .ok (.invokestatic 180, 3) := by decide +kernel
theorem dL_told_22 : decode cL_told 22 = .ok (.i2l, 1) := by decide +kernel
theorem dL_told_23 : decode cL_told 23 = .ok (.ladd, 1) := by decide +kernel
theorem dL_told_24 : decode cL_told 24 = .ok (.lstore_n 1, 1) := by decide +kernel
theorem dL_told_25 : decode cL_told 25 = .ok (.iinc 3 1, 3) := by decide +kernel
theorem dL_told_28 : decode cL_told 28 = .ok (.goto (-22), 3) := by decide +kernel
theorem dL_told_31 : decode cL_told 31 = .ok (.iconst 0, 1) := by decide +kernel
theorem dL_told_32 : decode cL_told 32 = .ok (.istore_n 3, 1) := by decide +kernel
theorem dL_told_33 : decode cL_told 33 = .ok (.iload_n 3, 1) := by decide +kernel
theorem dL_told_34 : decode cL_told 34 = .ok (.bipush 20, 2) := by decide +kernel
theorem dL_told_36 : decode cL_told 36 = .ok (.if_icmp .ge 110, 3) := by decide +kernel
theorem dL_told_39 : decode cL_told 39 = .ok (.ldc2_w 206, 3) := by decide +kernel
theorem dL_told_42 : decode cL_told 42 = .ok (.ldc2_w 206, 3) := by decide +kernel
theorem dL_told_45 : decode cL_told 45 = .ok (.lload_n 1, 1) := by decide +kernel
theorem dL_told_46 : decode cL_told 46 = .ok (.lmul, 1) := by decide +kernel
theorem dL_told_47 : decode cL_told 47 = .ok (.aload_n 0, 1) := by decide +kernel
theorem dL_told_48 : decode cL_told 48 = .ok (.iload_n 3, 1) := by decide +kernel
theorem dL_told_49 : decode cL_told 49 = .ok (.iconst 0, 1) := by decide +kernel
theorem dL_told_50 : decode cL_told 50 = .ok (.invokestatic 156, 3) := by decide +kernel
theorem dL_told_53 : decode cL_told 53 = .ok (.i2l, 1) := by decide +kernel
theorem dL_told_54 : decode cL_told 54 = .ok (.ladd, 1) := by decide +kernel
theorem dL_told_55 : decode cL_told 55 = .ok (.ldc2_w 208, 3) := by decide +kernel
theorem dL_told_58 : decode cL_told 58 = .ok (.aload_n 0, 1) := by decide +kernel
theorem dL_told_59 : decode cL_told 59 = .ok (.iload_n 3, 1) := by decide +kernel
theorem dL_told_60 : decode cL_told 60 = .ok (.iconst 1, 1) := by decide +kernel
theorem dL_told_61 : decode cL_told 61 = .ok (.invokestatic 156, 3) := by decide +kernel
theorem dL_told_64 : decode cL_told 64 = .ok (.i2l, 1) := by decide +kernel
theorem dL_told_65 : decode cL_told 65 = .ok (.lmul, 1) := by decide +kernel
theorem dL_told_66 : decode cL_told 66 = .ok (.ladd, 1) := by decide +kernel
theorem dL_told_67 : decode cL_told 67 = .ok (.lmul, 1) := by decide +kernel
theorem dL_told_68 : decode cL_told 68 = .ok (.aload_n 0, 1) := by decide +kernel
theorem dL_told_69 : decode cL_told 69 = .ok (.iload_n 3, 1) := by decide +kernel
theorem dL_told_70 : decode cL_told 70 = .ok (.iconst 2, 1) := by decide +kernel
theorem dL_told_71 : decode cL_told 71 = .ok (.invokestatic 156, 3) := by decide +kernel
theorem dL_told_74 : decode cL_told 74 = .ok (.i2l, 1) := by decide +kernel
theorem dL_told_75 : decode cL_told 75 = .ok (.ladd, 1) := by decide +kernel
theorem dL_told_76 : decode cL_told 76 = .ok (.ldc2_w 210, 3) := by decide +kernel
theorem dL_told_79 : decode cL_told 79 = .ok (.aload_n 0, 1) := by decide +kernel
theorem dL_told_80 : decode cL_told 80 = .ok (.iload_n 3, 1) := by decide +kernel
theorem dL_told_81 : decode cL_told 81 = .ok (.iconst 3, 1) := by decide +kernel
theorem dL_told_82 : decode cL_told 82 = .ok (.invokestatic 156, 3) := by decide +kernel
theorem dL_told_85 : decode cL_told 85 = .ok (.i2l, 1) := by decide +kernel
theorem dL_told_86 : decode cL_told 86 = .ok (.lmul, 1) := by decide +kernel
theorem dL_told_87 : decode cL_told 87 = .ok (.ladd, 1) := by decide +kernel
theorem dL_told_88 : decode cL_told 88 = .ok (.lstore_n 1, 1) := by decide +kernel
theorem dL_told_89 : decode cL_told 89 = .ok (.ldc2_w 206, 3) := by decide +kernel
theorem dL_told_92 : decode cL_told 92 = .ok (.lload_n 1, 1) := by decide +kernel
theorem dL_told_93 : decode cL_told 93 = .ok (.lmul, 1) := by decide +kernel
theorem dL_told_94 : decode cL_told 94 = .ok (.aload_n 0, 1) := by decide +kernel
theorem dL_told_95 : decode cL_told 95 = .ok (.iload_n 3, 1) := by decide +kernel
theorem dL_told_96 : decode cL_told 96 = .ok (.iconst 0, 1) := by decide +kernel
theorem dL_told_97 : decode cL_told 97 = .ok (.invokestatic 160, 3) := by decide +kernel
theorem dL_told_100 : decode cL_told 100 = .ok (.i2l, 1) := by decide +kernel
theorem dL_told_101 : decode cL_told 101 = .ok (.ladd, 1) := by decide +kernel
theorem dL_told_102 : decode cL_told 102 = .ok (.ldc2_w 212, 3) := by decide +kernel
theorem dL_told_105 : decode cL_told 105 = .ok (.aload_n 0, 1) := by decide +kernel
theorem dL_told_106 : decode cL_told 106 = .ok (.iload_n 3, 1) := by decide +kernel
theorem dL_told_107 : decode cL_told 107 = .ok (.iconst 1, 1) := by decide +kernel
theorem dL_told_108 : decode cL_told 108 = .ok (.invokestatic 160, 3) := by decide +kernel
theorem dL_told_111 : decode cL_told 111 = .ok (.i2l, 1) := by decide +kernel
theorem dL_told_112 : decode cL_told 112 = .ok (.lmul, 1) := by decide +kernel
theorem dL_told_113 : decode cL_told 113 = .ok (.ladd, 1) := by decide +kernel
theorem dL_told_114 : decode cL_told 114 = .ok (.ldc2_w 214, 3) := by decide +kernel
theorem dL_told_117 : decode cL_told 117 = .ok (.aload_n 0, 1) := by decide +kernel
theorem dL_told_118 : decode cL_told 118 = .ok (.iload_n 3, 1) := by decide +kernel
theorem dL_told_119 : decode cL_told 119 = .ok (.iconst 2, 1) := by decide +kernel
theorem dL_told_120 : decode cL_told 120 = .ok (.invokestatic 160, 3) := by decide +kernel
theorem dL_told_123 : decode cL_told 123 = .ok (.i2l, 1) := by decide +kernel
theorem dL_told_124 : decode cL_told 124 = .ok (.lmul, 1) := by decide +kernel
theorem dL_told_125 : decode cL_told 125 = .ok (.ladd, 1) := by decide +kernel
theorem dL_told_126 : decode cL_told 126 = .ok (.ldc2_w 216, 3) := by decide +kernel
theorem dL_told_129 : decode cL_told 129 = .ok (.aload_n 0, 1) := by decide +kernel
theorem dL_told_130 : decode cL_told 130 = .ok (.iload_n 3, 1) := by decide +kernel
theorem dL_told_131 : decode cL_told 131 = .ok (.bipush 7, 2) := by decide +kernel
theorem dL_told_133 : decode cL_told 133 = .ok (.invokestatic 160, 3) := by decide +kernel
theorem dL_told_136 : decode cL_told 136 = .ok (.i2l, 1) := by decide +kernel
theorem dL_told_137 : decode cL_told 137 = .ok (.lmul, 1) := by decide +kernel
theorem dL_told_138 : decode cL_told 138 = .ok (.ladd, 1) := by decide +kernel
theorem dL_told_139 : decode cL_told 139 = .ok (.lstore_n 1, 1) := by decide +kernel
theorem dL_told_140 : decode cL_told 140 = .ok (.iinc 3 1, 3) := by decide +kernel
theorem dL_told_143 : decode cL_told 143 = .ok (.goto (-110), 3) := by decide +kernel
theorem dL_told_146 : decode cL_told 146 = .ok (.iconst 0, 1) := by decide +kernel
theorem dL_told_147 : decode cL_told 147 = .ok (.istore_n 3, 1) := by decide +kernel
theorem dL_told_148 : decode cL_told 148 = .ok (.iload_n 3, 1) := by decide +kernel
theorem dL_told_149 : decode cL_told 149 = .ok (.bipush 36, 2) := by decide +kernel
theorem dL_told_151 : decode cL_told 151 = .ok (.if_icmp .ge 29, 3) := by decide +kernel
theorem dL_told_154 : decode cL_told 154 = .ok (.ldc2_w 206, 3) := by decide +kernel
theorem dL_told_157 : decode cL_told 157 = .ok (.lload_n 1, 1) := by decide +kernel
theorem dL_told_158 : decode cL_told 158 = .ok (.lmul, 1) := by decide +kernel
theorem dL_told_159 : decode cL_told 159 = .ok (.aload_n 0, 1) := by decide +kernel
theorem dL_told_160 : decode cL_told 160 = .ok (.iload_n 3, 1) := by decide +kernel
theorem dL_told_161 : decode cL_told 161 = .ok (.bipush 6, 2) := by decide +kernel
theorem dL_told_163 : decode cL_told 163 = .ok (.idiv, 1) := by decide +kernel
theorem dL_told_164 : decode cL_told 164 = .ok (.iload_n 3, 1) := by decide +kernel
theorem dL_told_165 : decode cL_told 165 = .ok (.bipush 6, 2) := by decide +kernel
theorem dL_told_167 : decode cL_told 167 = .ok (.irem, 1) := by decide +kernel
theorem dL_told_168 : decode cL_told 168 = .ok (.invokestatic 162, 3) := by decide +kernel
theorem dL_told_171 : decode cL_told 171 = .ok (.i2l, 1) := by decide +kernel
theorem dL_told_172 : decode cL_told 172 = .ok (.ladd, 1) := by decide +kernel
theorem dL_told_173 : decode cL_told 173 = .ok (.lstore_n 1, 1) := by decide +kernel
theorem dL_told_174 : decode cL_told 174 = .ok (.iinc 3 1, 3) := by decide +kernel
theorem dL_told_177 : decode cL_told 177 = .ok (.goto (-29), 3) := by decide +kernel
theorem dL_told_180 : decode cL_told 180 = .ok (.iconst 0, 1) := by decide +kernel
theorem dL_told_181 : decode cL_told 181 = .ok (.istore_n 3, 1) := by decide +kernel
theorem dL_told_182 : decode cL_told 182 = .ok (.iload_n 3, 1) := by decide +kernel
theorem dL_told_183 : decode cL_told 183 = .ok (.bipush 6, 2) := by decide +kernel
theorem dL_told_185 : decode cL_told 185 = .ok (.if_icmp .ge 22, 3) := by decide +kernel
theorem dL_told_188 : decode cL_told 188 = .ok (.ldc2_w 206, 3) := by decide +kernel
theorem dL_told_191 : decode cL_told 191 = .ok (.lload_n 1, 1) := by decide +kernel
theorem dL_told_192 : decode cL_told 192 = .ok (.lmul, 1) := by decide +kernel
theorem dL_told_193 : decode cL_told 193 = .ok (.aload_n 0, 1) := by decide +kernel
theorem dL_told_194 : decode cL_told 194 = .ok (.iload_n 3, 1) := by decide +kernel
theorem dL_told_195 : decode cL_told 195 = .ok (.invokestatic 186, 3) := by decide +kernel
theorem dL_told_198 : decode cL_told 198 = .ok (.i2l, 1) := by decide +kernel
theorem dL_told_199 : decode cL_told 199 = .ok (.ladd, 1) := by decide +kernel
theorem dL_told_200 : decode cL_told 200 = .ok (.lstore_n 1, 1) := by decide +kernel
theorem dL_told_201 : decode cL_told 201 = .ok (.iinc 3 1, 3) := by decide +kernel
theorem dL_told_204 : decode cL_told 204 = .ok (.goto (-22), 3) := by decide +kernel
theorem dL_told_207 : decode cL_told 207 = .ok (.lload_n 1, 1) := by decide +kernel
theorem dL_told_208 : decode cL_told 208 = .ok (.lreturn, 1) := by decide +kernel
theorem dL_law_0 : decode cL_law 0 = .ok (.new 11, 3) := by decide +kernel
theorem dL_law_3 : decode cL_law 3 = .ok (.dup, 1) := by decide +kernel
theorem dL_law_4 : decode cL_law 4 = .ok (.invokespecial 218, 3) := by decide +kernel
theorem dL_law_7 : decode cL_law 7 = .ok (.astore_n 1, 1) := by decide +kernel
theorem dL_law_8 : decode cL_law 8 = .ok (.bipush 12, 2) := by decide +kernel
theorem dL_law_10 : decode cL_law 10 = .ok (.newarray .int, 2) := by decide +kernel
theorem dL_law_12 : decode cL_law 12 = .ok (.astore_n 2, 1) := by decide +kernel
theorem dL_law_13 : decode cL_law 13 = .ok (.bipush 60, 2) := by decide +kernel
theorem dL_law_15 : decode cL_law 15 = .ok (.newarray .int, 2) := by decide +kernel
theorem dL_law_17 : decode cL_law 17 = .ok (.astore_n 3, 1) := by decide +kernel
theorem dL_law_18 : decode cL_law 18 = .ok (.bipush 30, 2) := by decide +kernel
theorem dL_law_20 : decode cL_law 20 = .ok (.newarray .int, 2) := by decide +kernel
theorem dL_law_22 : decode cL_law 22 = .ok (.astore 4, 2) := by decide +kernel
theorem dL_law_24 : decode cL_law 24 = .ok (.iconst 3, 1) := by decide +kernel
theorem dL_law_25 : decode cL_law 25 = .ok (.newarray .int, 2) := by decide +kernel
theorem dL_law_27 : decode cL_law 27 = .ok (.astore 5, 2) := by decide +kernel
theorem dL_law_29 : decode cL_law 29 = .ok (.aload_n 2, 1) := by decide +kernel
theorem dL_law_30 : decode cL_law 30 = .ok (.iconst 3, 1) := by decide +kernel
theorem dL_law_31 : decode cL_law 31 = .ok (.iconst 1, 1) := by decide +kernel
theorem dL_law_32 : decode cL_law 32 = .ok (.iastore, 1) := by decide +kernel
theorem dL_law_33 : decode cL_law 33 = .ok (.aload_n 2, 1) := by decide +kernel
theorem dL_law_34 : decode cL_law 34 = .ok (.iconst 4, 1) := by decide +kernel
theorem dL_law_35 : decode cL_law 35 = .ok (.iconst 3, 1) := by decide +kernel
theorem dL_law_36 : decode cL_law 36 = .ok (.iastore, 1) := by decide +kernel
theorem dL_law_37 : decode cL_law 37 = .ok (.bipush 6, 2) := by decide +kernel
theorem dL_law_39 : decode cL_law 39 = .ok (.istore 6, 2) := by decide +kernel
theorem dL_law_41 : decode cL_law 41 = .ok (.iload 6, 2) := by decide +kernel
theorem dL_law_43 : decode cL_law 43 = .ok (.bipush 12, 2) := by decide +kernel
theorem dL_law_45 : decode cL_law 45 = .ok (.if_icmp .ge 14, 3) := by decide +kernel
theorem dL_law_48 : decode cL_law 48 = .ok (.aload_n 2, 1) := by decide +kernel
theorem dL_law_49 : decode cL_law 49 = .ok (.iload 6, 2) := by decide +kernel
theorem dL_law_51 : decode cL_law 51 = .ok (.iconst (-1), 1) := by decide +kernel
theorem dL_law_52 : decode cL_law 52 = .ok (.iastore, 1) := by decide +kernel
theorem dL_law_53 : decode cL_law 53 = .ok (.iinc 6 1, 3) := by decide +kernel
theorem dL_law_56 : decode cL_law 56 = .ok (.goto (-15), 3) := by decide +kernel
theorem dL_law_59 : decode cL_law 59 = .ok (.iconst 0, 1) := by decide +kernel
theorem dL_law_60 : decode cL_law 60 = .ok (.istore 6, 2) := by decide +kernel
theorem dL_law_62 : decode cL_law 62 = .ok (.iload 6, 2) := by decide +kernel
theorem dL_law_64 : decode cL_law 64 = .ok (.bipush 50, 2) := by decide +kernel
theorem dL_law_66 : decode cL_law 66 = .ok (.if_icmp .ge 513, 3) := by decide +kernel
theorem dL_law_69 : decode cL_law 69 = .ok (.aload_n 0, 1) := by decide +kernel
theorem dL_law_70 : decode cL_law 70 = .ok (.iconst 2, 1) := by decide +kernel
theorem dL_law_71 : decode cL_law 71 = .ok (.iload 6, 2) := by decide +kernel
theorem dL_law_73 : decode cL_law 73 = .ok (.imul, 1) := by decide +kernel
theorem dL_law_74 : decode cL_law 74 = .ok (.invokestatic 219, 3) := by decide +kernel
theorem dL_law_77 : decode cL_law 77 = .ok (.istore 7, 2) := by decide +kernel
theorem dL_law_79 : decode cL_law 79 = .ok (.aload_n 0, 1) := by decide +kernel
theorem dL_law_80 : decode cL_law 80 = .ok (.iconst 2, 1) := by decide +kernel
theorem dL_law_81 : decode cL_law 81 = .ok (.iload 6, 2) := by decide +kernel
theorem dL_law_83 : decode cL_law 83 = .ok (.imul, 1) := by decide +kernel
theorem dL_law_84 : decode cL_law 84 = .ok (.iconst 1, 1) := by decide +kernel
theorem dL_law_85 : decode cL_law 85 = .ok (.iadd, 1) := by decide +kernel
theorem dL_law_86 : decode cL_law 86 = .ok (.invokestatic 219, 3) := by decide +kernel
theorem dL_law_89 : decode cL_law 89 = .ok (.istore 8, 2) := by decide +kernel
theorem dL_law_91 : decode cL_law 91 = .ok (.iload 7, 2) := by decide +kernel
theorem dL_law_93 : decode cL_law 93 = .ok (.bipush 32, 2) := by decide +kernel
theorem dL_law_95 : decode cL_law 95 = .ok (.invokestatic 93, 3) := by decide +kernel
theorem dL_law_98 : decode cL_law 98 = .ok (.istore 9, 2) := by decide +kernel
theorem dL_law_100 : decode cL_law 100 = .ok (.iload 6, 2) := by decide +kernel
theorem dL_law_102 : decode cL_law 102 = .ok (.iconst 4, 1) := by decide +kernel
theorem dL_law_103 : decode cL_law 103 = .ok (.if_icmp .lt 10, 3) := by decide +kernel
theorem dL_law_106 : decode cL_law 106 = .ok (.iload 9, 2) := by decide +kernel
theorem dL_law_108 : decode cL_law 108 = .ok (.bipush 6, 2) := by decide +kernel
theorem dL_law_110 : decode cL_law 110 = .ok (.if_icmp .ge 7, 3) := by decide +kernel
theorem dL_law_113 : decode cL_law 113 = .ok (.iconst 0, 1) := by decide +kernel
theorem dL_law_114 : decode cL_law 114 = .ok (.goto 84, 3) := by decide +kernel
theorem dL_law_117 : decode cL_law 117 = .ok (.iload 9, 2) := by decide +kernel
theorem dL_law_119 : decode cL_law 119 = .ok (.bipush 18, 2) := by decide +kernel
theorem dL_law_121 : decode cL_law 121 = .ok (.if_icmp .ge 7, 3) := by decide +kernel
theorem dL_law_124 : decode cL_law 124 = .ok (.iconst 1, 1) := by decide +kernel
theorem dL_law_125 : decode cL_law 125 = .ok (.goto 73, 3) := by decide +kernel
theorem dL_law_128 : decode cL_law 128 = .ok (.iload 9, 2) := by decide +kernel
theorem dL_law_130 : decode cL_law 130 = .ok (.bipush 21, 2) := by decide +kernel
theorem dL_law_132 : decode cL_law 132 = .ok (.if_icmp .ge 7, 3) := by decide +kernel
theorem dL_law_135 : decode cL_law 135 = .ok (.iconst 2, 1) := by decide +kernel
theorem dL_law_136 : decode cL_law 136 = .ok (.goto 62, 3) := by decide +kernel
theorem dL_law_139 : decode cL_law 139 = .ok (.iload 9, 2) := by decide +kernel
theorem dL_law_141 : decode cL_law 141 = .ok (.bipush 23, 2) := by decide +kernel
theorem dL_law_143 : decode cL_law 143 = .ok (.if_icmp .ge 7, 3) := by decide +kernel
theorem dL_law_146 : decode cL_law 146 = .ok (.iconst 3, 1) := by decide +kernel
theorem dL_law_147 : decode cL_law 147 = .ok (.goto 51, 3) := by decide +kernel
theorem dL_law_150 : decode cL_law 150 = .ok (.iload 9, 2) := by decide +kernel
theorem dL_law_152 : decode cL_law 152 = .ok (.bipush 25, 2) := by decide +kernel
theorem dL_law_154 : decode cL_law 154 = .ok (.if_icmp .ge 7, 3) := by decide +kernel
theorem dL_law_157 : decode cL_law 157 = .ok (.iconst 4, 1) := by decide +kernel
theorem dL_law_158 : decode cL_law 158 = .ok (.goto 40, 3) := by decide +kernel
theorem dL_law_161 : decode cL_law 161 = .ok (.iload 9, 2) := by decide +kernel
theorem dL_law_163 : decode cL_law 163 = .ok (.bipush 27, 2) := by decide +kernel
theorem dL_law_165 : decode cL_law 165 = .ok (.if_icmp .ge 7, 3) := by decide +kernel
theorem dL_law_168 : decode cL_law 168 = .ok (.iconst 5, 1) := by decide +kernel
theorem dL_law_169 : decode cL_law 169 = .ok (.goto 29, 3) := by decide +kernel
theorem dL_law_172 : decode cL_law 172 = .ok (.iload 9, 2) := by decide +kernel
theorem dL_law_174 : decode cL_law 174 = .ok (.bipush 30, 2) := by decide +kernel
theorem dL_law_176 : decode cL_law 176 = .ok (.if_icmp .ge 8, 3) := by decide +kernel
theorem dL_law_179 : decode cL_law 179 = .ok (.bipush 6, 2) := by decide +kernel
theorem dL_law_181 : decode cL_law 181 = .ok (.goto 17, 3) := by decide +kernel
theorem dL_law_184 : decode cL_law 184 = .ok (.iload 9, 2) := by decide +kernel
theorem dL_law_186 : decode cL_law 186 = .ok (.bipush 30, 2) := by decide +kernel
theorem dL_law_188 : decode cL_law 188 = .ok (.if_icmp .ne 8, 3) := by decide +kernel
theorem dL_law_191 : decode cL_law 191 = .ok (.bipush 7, 2) := by decide +kernel
theorem dL_law_193 : decode cL_law 193 = .ok (.goto 5, 3) := by decide +kernel
theorem dL_law_196 : decode cL_law 196 = .ok (.bipush 8, 2) := by decide +kernel
theorem dL_law_198 : decode cL_law 198 = .ok (.istore 9, 2) := by decide +kernel
theorem dL_law_200 : decode cL_law 200 = .ok (.iload 9, 2) := by decide +kernel
theorem dL_law_202 : decode cL_law 202 = .ok (.ifCond .ne 16, 3) := by decide +kernel
theorem dL_law_205 : decode cL_law 205 = .ok (.iload 8, 2) := by decide +kernel
theorem dL_law_207 : decode cL_law 207 = .ok (.iconst 4, 1) := by decide +kernel
theorem dL_law_208 : decode cL_law 208 = .ok (.invokestatic 93, 3) := by decide +kernel
theorem dL_law_211 : decode cL_law 211 = .ok (.iconst 5, 1) := by decide +kernel
theorem dL_law_212 : decode cL_law 212 = .ok (.imul, 1) := by decide +kernel
theorem dL_law_213 : decode cL_law 213 = .ok (.iconst 2, 1) := by decide +kernel
theorem dL_law_214 : decode cL_law 214 = .ok (.iadd, 1) := by decide +kernel
theorem dL_law_215 : decode cL_law 215 = .ok (.goto 84, 3) := by decide +kernel
theorem dL_law_218 : decode cL_law 218 = .ok (.iload 9, 2) := by decide +kernel
theorem dL_law_220 : decode cL_law 220 = .ok (.bipush 8, 2) := by decide +kernel
theorem dL_law_222 : decode cL_law 222 = .ok (.if_icmp .ne 16, 3) := by decide +kernel
theorem dL_law_225 : decode cL_law 225 = .ok (.iload 8, 2) := by decide +kernel
theorem dL_law_227 : decode cL_law 227 = .ok (.iconst 4, 1) := by decide +kernel
theorem dL_law_228 : decode cL_law 228 = .ok (.invokestatic 93, 3) := by decide +kernel
theorem dL_law_231 : decode cL_law 231 = .ok (.iconst 5, 1) := by decide +kernel
theorem dL_law_232 : decode cL_law 232 = .ok (.imul, 1) := by decide +kernel
theorem dL_law_233 : decode cL_law 233 = .ok (.iconst 2, 1) := by decide +kernel
theorem dL_law_234 : decode cL_law 234 = .ok (.iadd, 1) := by decide +kernel
theorem dL_law_235 : decode cL_law 235 = .ok (.goto 64, 3) := by decide +kernel
theorem dL_law_238 : decode cL_law 238 = .ok (.iload 9, 2) := by decide +kernel
theorem dL_law_240 : decode cL_law 240 = .ok (.iconst 3, 1) := by decide +kernel
theorem dL_law_241 : decode cL_law 241 = .ok (.if_icmp .ne 13, 3) := by decide +kernel
theorem dL_law_244 : decode cL_law 244 = .ok (.iload 8, 2) := by decide +kernel
theorem dL_law_246 : decode cL_law 246 = .ok (.bipush 7, 2) := by decide +kernel
theorem dL_law_248 : decode cL_law 248 = .ok (.invokestatic 93, 3) := by decide +kernel
theorem dL_law_251 : decode cL_law 251 = .ok (.goto 48, 3) := by decide +kernel
theorem dL_law_254 : decode cL_law 254 = .ok (.iload 9, 2) := by decide +kernel
theorem dL_law_256 : decode cL_law 256 = .ok (.iconst 5, 1) := by decide +kernel
theorem dL_law_257 : decode cL_law 257 = .ok (.if_icmp .eq 10, 3) := by decide +kernel
theorem dL_law_260 : decode cL_law 260 = .ok (.iload 9, 2) := by decide +kernel
theorem dL_law_262 : decode cL_law 262 = .ok (.bipush 6, 2) := by decide +kernel
theorem dL_law_264 : decode cL_law 264 = .ok (.if_icmp .ne 12, 3) := by decide +kernel
theorem dL_law_267 : decode cL_law 267 = .ok (.iload 8, 2) := by decide +kernel
theorem dL_law_269 : decode cL_law 269 = .ok (.iconst 3, 1) := by decide +kernel
theorem dL_law_270 : decode cL_law 270 = .ok (.invokestatic 93, 3) := by decide +kernel
theorem dL_law_273 : decode cL_law 273 = .ok (.goto 26, 3) := by decide +kernel
theorem dL_law_276 : decode cL_law 276 = .ok (.iload 9, 2) := by decide +kernel
theorem dL_law_278 : decode cL_law 278 = .ok (.bipush 7, 2) := by decide +kernel
theorem dL_law_280 : decode cL_law 280 = .ok (.if_icmp .ne 12, 3) := by decide +kernel
theorem dL_law_283 : decode cL_law 283 = .ok (.iload 8, 2) := by decide +kernel
theorem dL_law_285 : decode cL_law 285 = .ok (.iconst 2, 1) := by decide +kernel
theorem dL_law_286 : decode cL_law 286 = .ok (.invokestatic 93, 3) := by decide +kernel
theorem dL_law_289 : decode cL_law 289 = .ok (.goto 10, 3) := by decide +kernel
theorem dL_law_292 : decode cL_law 292 = .ok (.iload 8, 2) := by decide +kernel
theorem dL_law_294 : decode cL_law 294 = .ok (.bipush 6, 2) := by decide +kernel
theorem dL_law_296 : decode cL_law 296 = .ok (.invokestatic 93, 3) := by decide +kernel
theorem dL_law_299 : decode cL_law 299 = .ok (.istore 10, 2) := by decide +kernel
theorem dL_law_301 : decode cL_law 301 = .ok (.iload 9, 2) := by decide +kernel
theorem dL_law_303 : decode cL_law 303 = .ok (.bipush 7, 2) := by decide +kernel
theorem dL_law_305 : decode cL_law 305 = .ok (.if_icmp .ne 33, 3) := by decide +kernel
theorem dL_law_308 : decode cL_law 308 = .ok (.iload 10, 2) := by decide +kernel
theorem dL_law_310 : decode cL_law 310 = .ok (.ifCond .ne 14, 3) := by decide +kernel
theorem dL_law_313 : decode cL_law 313 = .ok (.iload 8, 2) := by decide +kernel
theorem dL_law_315 : decode cL_law 315 = .ok (.iconst 3, 1) := by decide +kernel
theorem dL_law_316 : decode cL_law 316 = .ok (.ishr, 1) := by decide +kernel
theorem dL_law_317 : decode cL_law 317 = .ok (.iconst 3, 1) := by decide +kernel
theorem dL_law_318 : decode cL_law 318 = .ok (.invokestatic 93, 3) := by decide +kernel
theorem dL_law_321 : decode cL_law 321 = .ok (.goto 78, 3) := by decide +kernel
theorem dL_law_324 : decode cL_law 324 = .ok (.iconst 1, 1) := by decide +kernel
theorem dL_law_325 : decode cL_law 325 = .ok (.iload 8, 2) := by decide +kernel
theorem dL_law_327 : decode cL_law 327 = .ok (.iconst 3, 1) := by decide +kernel
theorem dL_law_328 : decode cL_law 328 = .ok (.ishr, 1) := by decide +kernel
theorem dL_law_329 : decode cL_law 329 = .ok (.bipush 9, 2) := by decide +kernel
theorem dL_law_331 : decode cL_law 331 = .ok (.invokestatic 93, 3) := by decide +kernel
theorem dL_law_334 : decode cL_law 334 = .ok (.iadd, 1) := by decide +kernel
theorem dL_law_335 : decode cL_law 335 = .ok (.goto 64, 3) := by decide +kernel
theorem dL_law_338 : decode cL_law 338 = .ok (.iload 9, 2) := by decide +kernel
theorem dL_law_340 : decode cL_law 340 = .ok (.iconst 1, 1) := by decide +kernel
theorem dL_law_341 : decode cL_law 341 = .ok (.if_icmp .eq 10, 3) := by decide +kernel
theorem dL_law_344 : decode cL_law 344 = .ok (.iload 9, 2) := by decide +kernel
theorem dL_law_346 : decode cL_law 346 = .ok (.bipush 6, 2) := by decide +kernel
theorem dL_law_348 : decode cL_law 348 = .ok (.if_icmp .ne 42, 3) := by decide +kernel
theorem dL_law_351 : decode cL_law 351 = .ok (.iload 8, 2) := by decide +kernel
theorem dL_law_353 : decode cL_law 353 = .ok (.bipush 20, 2) := by decide +kernel
theorem dL_law_355 : decode cL_law 355 = .ok (.ishr, 1) := by decide +kernel
theorem dL_law_356 : decode cL_law 356 = .ok (.iconst 5, 1) := by decide +kernel
theorem dL_law_357 : decode cL_law 357 = .ok (.invokestatic 93, 3) := by decide +kernel
theorem dL_law_360 : decode cL_law 360 = .ok (.ifCond .ne 15, 3) := by decide +kernel
theorem dL_law_363 : decode cL_law 363 = .ok (.iload 8, 2) := by decide +kernel
theorem dL_law_365 : decode cL_law 365 = .ok (.iconst 3, 1) := by decide +kernel
theorem dL_law_366 : decode cL_law 366 = .ok (.ishr, 1) := by decide +kernel
theorem dL_law_367 : decode cL_law 367 = .ok (.bipush 20, 2) := by decide +kernel
theorem dL_law_369 : decode cL_law 369 = .ok (.invokestatic 93, 3) := by decide +kernel
theorem dL_law_372 : decode cL_law 372 = .ok (.goto 27, 3) := by decide +kernel
theorem dL_law_375 : decode cL_law 375 = .ok (.iload 8, 2) := by decide +kernel
theorem dL_law_377 : decode cL_law 377 = .ok (.iconst 3, 1) := by decide +kernel
theorem dL_law_378 : decode cL_law 378 = .ok (.ishr, 1) := by decide +kernel
theorem dL_law_379 : decode cL_law 379 = .ok (.iconst 4, 1) := by decide +kernel
theorem dL_law_380 : decode cL_law 380 = .ok (.invokestatic 93, 3) := by decide +kernel
theorem dL_law_383 : decode cL_law 383 = .ok (.iconst 5, 1) := by decide +kernel
theorem dL_law_384 : decode cL_law 384 = .ok (.imul, 1) := by decide +kernel
theorem dL_law_385 : decode cL_law 385 = .ok (.iconst 2, 1) := by decide +kernel
theorem dL_law_386 : decode cL_law 386 = .ok (.iadd, 1) := by decide +kernel
theorem dL_law_387 : decode cL_law 387 = .ok (.goto 12, 3) := by decide +kernel
theorem dL_law_390 : decode cL_law 390 = .ok (.iload 8, 2) := by decide +kernel
theorem dL_law_392 : decode cL_law 392 = .ok (.iconst 3, 1) := by decide +kernel
theorem dL_law_393 : decode cL_law 393 = .ok (.ishr, 1) := by decide +kernel
theorem dL_law_394 : decode cL_law 394 = .ok (.bipush 20, 2) := by decide +kernel
theorem dL_law_396 : decode cL_law 396 = .ok (.invokestatic 93, 3) := by decide +kernel
theorem dL_law_399 : decode cL_law 399 = .ok (.istore 11, 2) := by decide +kernel
theorem dL_law_401 : decode cL_law 401 = .ok (.iload 9, 2) := by decide +kernel
theorem dL_law_403 : decode cL_law 403 = .ok (.ifCond .ne 14, 3) := by decide +kernel
theorem dL_law_406 : decode cL_law 406 = .ok (.aload_n 1, 1) := by decide +kernel
theorem dL_law_407 : decode cL_law 407 = .ok (.iload 8, 2) := by decide +kernel
theorem dL_law_409 : decode cL_law 409 = .ok (.iconst 4, 1) := by decide +kernel
theorem dL_law_410 : decode cL_law 410 = .ok (.ishr, 1) := by decide +kernel
theorem dL_law_411 : decode cL_law 411 = .ok (.invokestatic 169, 3) := by decide +kernel
theorem dL_law_414 : decode cL_law 414 = .ok (.goto 4, 3) := by decide +kernel
theorem dL_law_417 : decode cL_law 417 = .ok (.iconst 0, 1) := by decide +kernel
theorem dL_law_418 : decode cL_law 418 = .ok (.istore 12, 2) := by decide +kernel
theorem dL_law_420 : decode cL_law 420 = .ok (.aload_n 1, 1) := by decide +kernel
theorem dL_law_421 : decode cL_law 421 = .ok (.invokestatic 223, 3) := by decide +kernel
theorem dL_law_424 : decode cL_law 424 = .ok (.lstore 13, 2) := by decide +kernel
theorem dL_law_426 : decode cL_law 426 = .ok (.aload_n 1, 1) := by decide +kernel
theorem dL_law_427 : decode cL_law 427 = .ok (.iload 9, 2) := by decide +kernel
theorem dL_law_429 : decode cL_law 429 = .ok (.iload 10, 2) := by decide +kernel
theorem dL_law_431 : decode cL_law 431 = .ok (.iload 11, 2) := by decide +kernel
theorem dL_law_433 : decode cL_law 433 = .ok (.invokestatic 227, 3) := by decide +kernel
theorem dL_law_436 : decode cL_law 436 = .ok (.istore 15, 2) := by decide +kernel
theorem dL_law_438 : decode cL_law 438 = .ok (.iload 9, 2) := by decide +kernel
theorem dL_law_440 : decode cL_law 440 = .ok (.ifCond .ne 11, 3) := by decide +kernel
theorem dL_law_443 : decode cL_law 443 = .ok (.aload_n 1, 1) := by decide +kernel
theorem dL_law_444 : decode cL_law 444 = .ok (.invokevirtual 90, 3) := by decide +kernel
theorem dL_law_447 : decode cL_law 447 = .ok (.pop, 1) := by decide +kernel
theorem dL_law_448 : decode cL_law 448 = .ok (.goto 67, 3) := by decide +kernel
theorem dL_law_451 : decode cL_law 451 = .ok (.iload 15, 2) := by decide +kernel
theorem dL_law_453 : decode cL_law 453 = .ok (.bipush (-100), 2) := by decide +kernel
theorem dL_law_455 : decode cL_law 455 = .ok (.if_icmp .ge 16, 3) := by decide +kernel
theorem dL_law_458 : decode cL_law 458 = .ok (.aload_n 1, 1) := by decide +kernel
theorem dL_law_459 : decode cL_law 459 = .ok (.invokestatic 223, 3) := by decide +kernel
theorem dL_law_462 : decode cL_law 462 = .ok (.lload 13, 2) := by decide +kernel
theorem dL_law_464 : decode cL_law 464 = .ok (.lcmp, 1) := by decide +kernel
theorem dL_law_465 : decode cL_law 465 = .ok (.ifCond .eq 50, 3) := by decide +kernel
theorem dL_law_468 : decode cL_law 468 = .ok (.goto 45, 3) := by decide +kernel
theorem dL_law_471 : decode cL_law 471 = .ok (.iload 7, 2) := by decide +kernel
theorem dL_law_473 : decode cL_law 473 = .ok (.bipush 24, 2) := by decide +kernel
theorem dL_law_475 : decode cL_law 475 = .ok (.ishr, 1) := by decide +kernel
theorem dL_law_476 : decode cL_law 476 = .ok (.iconst 3, 1) := by decide +kernel
theorem dL_law_477 : decode cL_law 477 = .ok (.iand, 1) := by decide +kernel
theorem dL_law_478 : decode cL_law 478 = .ok (.ifCond .ne 37, 3) := by decide +kernel
theorem dL_law_481 : decode cL_law 481 = .ok (.aload_n 1, 1) := by decide +kernel
theorem dL_law_482 : decode cL_law 482 = .ok (.invokestatic 230, 3) := by decide +kernel
theorem dL_law_485 : decode cL_law 485 = .ok (.ifCond .lt 28, 3) := by decide +kernel
theorem dL_law_488 : decode cL_law 488 = .ok (.aload_n 1, 1) := by decide +kernel
theorem dL_law_489 : decode cL_law 489 = .ok (.invokestatic 223, 3) := by decide +kernel
theorem dL_law_492 : decode cL_law 492 = .ok (.lload 13, 2) := by decide +kernel
theorem dL_law_494 : decode cL_law 494 = .ok (.lcmp, 1) := by decide +kernel
theorem dL_law_495 : decode cL_law 495 = .ok (.ifCond .ne 18, 3) := by decide +kernel
theorem dL_law_498 : decode cL_law 498 = .ok (.aload_n 1, 1) := by decide +kernel
theorem dL_law_499 : decode cL_law 499 = .ok (.iload 9, 2) := by decide +kernel
theorem dL_law_501 : decode cL_law 501 = .ok (.iload 10, 2) := by decide +kernel
theorem dL_law_503 : decode cL_law 503 = .ok (.iload 11, 2) := by decide +kernel
theorem dL_law_505 : decode cL_law 505 = .ok (.invokestatic 227, 3) := by decide +kernel
theorem dL_law_508 : decode cL_law 508 = .ok (.iload 15, 2) := by decide +kernel
theorem dL_law_510 : decode cL_law 510 = .ok (.if_icmp .eq 5, 3) := by decide +kernel
theorem dL_law_513 : decode cL_law 513 = .ok (.iconst 0, 1) := by decide +kernel
theorem dL_law_514 : decode cL_law 514 = .ok (.ireturn, 1) := by decide +kernel
theorem dL_law_515 : decode cL_law 515 = .ok (.iload 15, 2) := by decide +kernel
theorem dL_law_517 : decode cL_law 517 = .ok (.bipush (-100), 2) := by decide +kernel
theorem dL_law_519 : decode cL_law 519 = .ok (.if_icmp .ge 13, 3) := by decide +kernel
theorem dL_law_522 : decode cL_law 522 = .ok (.aload_n 1, 1) := by decide +kernel
theorem dL_law_523 : decode cL_law 523 = .ok (.invokestatic 223, 3) := by decide +kernel
theorem dL_law_526 : decode cL_law 526 = .ok (.lload 13, 2) := by decide +kernel
theorem dL_law_528 : decode cL_law 528 = .ok (.lcmp, 1) := by decide +kernel
theorem dL_law_529 : decode cL_law 529 = .ok (.ifCond .ne 42, 3) := by decide +kernel
theorem dL_law_532 : decode cL_law 532 = .ok (.iload 15, 2) := by decide +kernel
theorem dL_law_534 : decode cL_law 534 = .ok (.iload 9, 2) := by decide +kernel
theorem dL_law_536 : decode cL_law 536 = .ok (.iload 10, 2) := by decide +kernel
theorem dL_law_538 : decode cL_law 538 = .ok (.iload 11, 2) := by decide +kernel
theorem dL_law_540 : decode cL_law 540 = .ok (.iload 12, 2) := by decide +kernel
theorem dL_law_542 : decode cL_law 542 = .ok (.aload_n 2, 1) := by decide +kernel
theorem dL_law_543 : decode cL_law 543 = .ok (.aload_n 3, 1) := by decide +kernel
theorem dL_law_544 : decode cL_law 544 = .ok (.aload 4, 2) := by decide +kernel
theorem dL_law_546 : decode cL_law 546 = .ok (.aload 5, 2) := by decide +kernel
theorem dL_law_548 : decode cL_law 548 = .ok (.invokestatic 232, 3) := by decide +kernel
theorem dL_law_551 : decode cL_law 551 = .ok (.if_icmp .ne 20, 3) := by decide +kernel
theorem dL_law_554 : decode cL_law 554 = .ok (.aload_n 1, 1) := by decide +kernel
theorem dL_law_555 : decode cL_law 555 = .ok (.iload 7, 2) := by decide +kernel
theorem dL_law_557 : decode cL_law 557 = .ok (.iconst 5, 1) := by decide +kernel
theorem dL_law_558 : decode cL_law 558 = .ok (.ishr, 1) := by decide +kernel
theorem dL_law_559 : decode cL_law 559 = .ok (.aload_n 2, 1) := by decide +kernel
theorem dL_law_560 : decode cL_law 560 = .ok (.aload_n 3, 1) := by decide +kernel
theorem dL_law_561 : decode cL_law 561 = .ok (.aload 4, 2) := by decide +kernel
theorem dL_law_563 : decode cL_law 563 = .ok (.aload 5, 2) := by decide +kernel
theorem dL_law_565 : decode cL_law 565 = .ok (.invokestatic 236, 3) := by decide +kernel
theorem dL_law_568 : decode cL_law 568 = .ok (.ifCond .ne 5, 3) := by decide +kernel
theorem dL_law_571 : decode cL_law 571 = .ok (.iconst 0, 1) := by decide +kernel
theorem dL_law_572 : decode cL_law 572 = .ok (.ireturn, 1) := by decide +kernel
theorem dL_law_573 : decode cL_law 573 = .ok (.iinc 6 1, 3) := by decide +kernel
theorem dL_law_576 : decode cL_law 576 = .ok (.goto (-514), 3) := by decide +kernel
theorem dL_law_579 : decode cL_law 579 = .ok (.iconst 1, 1) := by decide +kernel
theorem dL_law_580 : decode cL_law 580 = .ok (.ireturn, 1) := by decide +kernel
abbrev vwCl : List vw_C := [(RX0, TX0, 3), (RX1, TX1, 3), (RX2, TX2, 5), (RX3, TX3, 16), (RX4, TX4, 3), (RX5, TX5, 2), (RX6, TX6, 3), (RX7, TX7, 9)]
