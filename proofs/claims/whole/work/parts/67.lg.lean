/-! the law's calls' words -/
theorem inlX1 : ∀ w ∈ wsX10, w ∈ wsL_law := fun _ h => List.mem_append_left _ (List.mem_append_left _ (List.mem_append_left _ (List.mem_append_left _ (List.mem_append_left _ (List.mem_append_left _ (List.mem_append_left _ (List.mem_append_right _ h)))))))
theorem inX1 : ∀ w ∈ wsX10, w ∈ lw_tbl := fun w h => wsL_law_in w (inlX1 w h)
theorem inlX2 : ∀ w ∈ wsX20, w ∈ wsL_law := fun _ h => List.mem_append_left _ (List.mem_append_left _ (List.mem_append_left _ (List.mem_append_right _ h)))
theorem inX2 : ∀ w ∈ wsX20, w ∈ lw_tbl := fun w h => wsL_law_in w (inlX2 w h)
theorem inlX3 : ∀ w ∈ wsX30, w ∈ wsL_law := fun _ h => List.mem_append_left _ (List.mem_append_left _ (List.mem_append_left _ (List.mem_append_left _ (List.mem_append_left _ (List.mem_append_left _ (List.mem_append_left _ (List.mem_append_left _ (List.mem_append_left _ (List.mem_append_left _ (List.mem_append_right _ h))))))))))
theorem inX3 : ∀ w ∈ wsX30, w ∈ lw_tbl := fun w h => wsL_law_in w (inlX3 w h)
theorem inlX4 : ∀ w ∈ wsX40, w ∈ wsL_law := fun _ h => List.mem_append_left _ (List.mem_append_left _ (List.mem_append_left _ (List.mem_append_left _ (List.mem_append_right _ h))))
theorem inX4 : ∀ w ∈ wsX40, w ∈ lw_tbl := fun w h => wsL_law_in w (inlX4 w h)
theorem inlX5 : ∀ w ∈ wsX50, w ∈ wsL_law := fun _ h => List.mem_append_left _ (List.mem_append_left _ (List.mem_append_left _ (List.mem_append_left _ (List.mem_append_left _ (List.mem_append_left _ (List.mem_append_left _ (List.mem_append_left _ (List.mem_append_right _ h))))))))
theorem inX5 : ∀ w ∈ wsX50, w ∈ lw_tbl := fun w h => wsL_law_in w (inlX5 w h)
theorem inlX6 : ∀ w ∈ wsX60, w ∈ wsL_law := fun _ h => List.mem_append_left _ (List.mem_append_left _ (List.mem_append_left _ (List.mem_append_left _ (List.mem_append_left _ (List.mem_append_left _ (List.mem_append_right _ h))))))
theorem inX6 : ∀ w ∈ wsX60, w ∈ lw_tbl := fun w h => wsL_law_in w (inlX6 w h)
theorem inlX7 : ∀ w ∈ wsX70, w ∈ wsL_law := fun _ h => List.mem_append_left _ (List.mem_append_left _ (List.mem_append_left _ (List.mem_append_left _ (List.mem_append_left _ (List.mem_append_left _ (List.mem_append_left _ (List.mem_append_left _ (List.mem_append_left _ (List.mem_append_left _ (List.mem_append_left _ (List.mem_append_right _ h)))))))))))
theorem inX7 : ∀ w ∈ wsX70, w ∈ lw_tbl := fun w h => wsL_law_in w (inlX7 w h)
theorem inlX8 : ∀ w ∈ wsX80, w ∈ wsL_law := fun _ h => List.mem_append_left _ (List.mem_append_left _ (List.mem_append_left _ (List.mem_append_left _ (List.mem_append_left _ (List.mem_append_left _ (List.mem_append_left _ (List.mem_append_left _ (List.mem_append_left _ (List.mem_append_right _ h)))))))))
theorem inX8 : ∀ w ∈ wsX80, w ∈ lw_tbl := fun w h => wsL_law_in w (inlX8 w h)
theorem inlX10 : ∀ w ∈ wsX100, w ∈ wsL_law := fun _ h => List.mem_append_left _ (List.mem_append_left _ (List.mem_append_left _ (List.mem_append_left _ (List.mem_append_left _ (List.mem_append_right _ h)))))
theorem inX10 : ∀ w ∈ wsX100, w ∈ lw_tbl := fun w h => wsL_law_in w (inlX10 w h)
theorem inlX11 : ∀ w ∈ wsX110, w ∈ wsL_law := fun _ h => List.mem_append_left _ (List.mem_append_left _ (List.mem_append_left _ (List.mem_append_left _ (List.mem_append_left _ (List.mem_append_left _ (List.mem_append_left _ (List.mem_append_left _ (List.mem_append_left _ (List.mem_append_left _ (List.mem_append_left _ (List.mem_append_left _ (List.mem_append_left _ (List.mem_append_right _ h)))))))))))))
theorem inX11 : ∀ w ∈ wsX110, w ∈ lw_tbl := fun w h => wsL_law_in w (inlX11 w h)
theorem inlX12 : ∀ w ∈ wsX120, w ∈ wsL_law := fun _ h => List.mem_append_left _ (List.mem_append_left _ (List.mem_append_left _ (List.mem_append_left _ (List.mem_append_left _ (List.mem_append_left _ (List.mem_append_left _ (List.mem_append_left _ (List.mem_append_left _ (List.mem_append_left _ (List.mem_append_left _ (List.mem_append_left _ (List.mem_append_right _ h))))))))))))
theorem inX12 : ∀ w ∈ wsX120, w ∈ lw_tbl := fun w h => wsL_law_in w (inlX12 w h)
set_option maxRecDepth 100000 in
theorem ggL_law_X11_init : GoodIn wsL_law wsX11_init := goodIn_r _ [9, 10, 11, 12, 13, 14, 15, 16, 17, 18, 19, 20, 21, 22, 23, 24, 25, 26, 27, 28, 29, 30, 31, 32, 33, 34, 35, 36, 37, 38, 39, 40, 41, 42, 43, 44, 45, 46, 47, 48, 49, 50, 51, 52, 53, 54, 55, 56, 57, 58, 59, 60, 61, 62, 63, 64, 65, 66, 67, 68, 69, 70, 71, 72, 73, 74, 75, 76, 77, 78, 79, 80, 81, 82, 83, 84, 85, 86, 87, 88, 89, 90, 91, 92, 93, 94, 95, 96, 97, 98, 99, 100, 101, 102, 103, 104, 105, 106, 107, 108, 109, 110, 111, 112, 113, 114, 115, 116, 117, 118, 119, 120, 121, 122, 123, 124, 125, 126, 127, 128, 129, 130, 131, 895, 896, 855, 856, 857, 858, 859, 860, 861, 897, 898, 899, 900, 901, 902, 903, 904, 905, 906, 907, 908, 909, 910, 911, 912, 913, 914, 915, 916, 917, 918, 919, 920, 921, 922, 923, 924, 925, 926, 927, 928, 929, 930, 931, 932, 933, 934, 935, 936, 937, 938, 939] rfl (by decide +kernel)
set_option maxRecDepth 100000 in
theorem gL_law_X11_init : GoodIn wsL_law (wsX11_init) := ggL_law_X11_init
set_option maxRecDepth 100000 in
theorem ggL_law_X12_init : GoodIn wsL_law wsX12_init := goodIn_r _ [134, 135, 11, 12, 45, 136, 6, 137, 138, 139, 140, 141, 142, 143, 144, 145, 146, 147, 148, 149, 103, 150, 151, 152, 153, 154, 862, 863, 864, 865, 866, 867, 868, 869, 870, 871, 872, 873, 874, 875, 876, 877, 878, 879, 880, 881, 882, 883, 884, 885, 886, 887, 888, 889, 890, 891, 892, 893, 894] rfl (by decide +kernel)
set_option maxRecDepth 100000 in
theorem gL_law_X12_init : GoodIn wsL_law (wsX12_init) := ggL_law_X12_init
set_option maxRecDepth 100000 in
theorem ggL_law_X11_feed : GoodIn wsL_law wsX11_feed := goodIn_r _ [158, 16, 159, 160, 161, 162, 15, 163, 40, 39, 855, 856, 857, 858, 859, 860, 861, 895, 896] rfl (by decide +kernel)
set_option maxRecDepth 100000 in
theorem gL_law_X11_feed : GoodIn wsL_law (wsV RL 39 RX11 yX11_feed wsX11_feed) := goodIn_app (goodIn_of _ (by decide +kernel)) ggL_law_X11_feed
set_option maxRecDepth 100000 in
theorem ggL_law_X12_feed : GoodIn wsL_law wsX12_feed := goodIn_r _ [167, 168, 169, 170, 171, 172, 5, 173, 136, 862, 863, 864, 865, 866, 867, 868, 869, 870, 871, 872, 873, 874, 875, 876, 877, 878, 879, 880, 881, 882, 883, 884, 885, 886, 887, 888, 889, 890, 891, 892, 893, 894] rfl (by decide +kernel)
set_option maxRecDepth 100000 in
theorem gL_law_X12_feed : GoodIn wsL_law (wsV RL 43 RX12 yX12_feed wsX12_feed) := goodIn_app (goodIn_of _ (by decide +kernel)) ggL_law_X12_feed
set_option maxRecDepth 100000 in
theorem ggL_law_X11_end : GoodIn wsL_law wsX11_end := goodIn_r _ [177, 16, 159, 855, 856, 857, 858, 859, 860, 861, 895, 896] rfl (by decide +kernel)
set_option maxRecDepth 100000 in
theorem gL_law_X11_end : GoodIn wsL_law (wsV RL 44 RX11 yX11_end wsX11_end) := goodIn_app (goodIn_of _ (by decide +kernel)) ggL_law_X11_end
set_option maxRecDepth 100000 in
theorem ggL_law_X12_end : GoodIn wsL_law wsX12_end := goodIn_r _ [181, 168, 169, 862, 863, 864, 865, 866, 867, 868, 869, 870, 871, 872, 873, 874, 875, 876, 877, 878, 879, 880, 881, 882, 883, 884, 885, 886, 887, 888, 889, 890, 891, 892, 893, 894] rfl (by decide +kernel)
set_option maxRecDepth 100000 in
theorem gL_law_X12_end : GoodIn wsL_law (wsV RL 48 RX12 yX12_end wsX12_end) := goodIn_app (goodIn_of _ (by decide +kernel)) ggL_law_X12_end
set_option maxRecDepth 100000 in
theorem ggL_law_L_tell : GoodIn wsL_law wsL_tell := goodIn_ca (goodIn_r _ [185, 186, 187, 188, 189, 2, 190, 191, 192, 29, 25, 16, 159, 193, 22, 33, 194, 195, 196, 197, 198, 199, 200, 28, 201, 75, 79, 76, 77, 202, 203, 204, 205, 80, 206, 207, 208, 74, 209, 210, 211, 212, 213, 214, 89, 90, 215, 216, 217, 15, 218, 39, 219, 220, 221, 222, 223, 224, 225, 226, 227, 228, 229, 230, 231, 232, 233, 234, 235, 236, 237, 238, 239, 240, 241, 242, 243, 244, 245, 246, 247, 248, 249, 250, 251, 252, 253, 254, 255, 256, 257, 258, 259, 260, 261, 262, 263, 264, 265, 266, 267, 268, 269, 270, 271, 272, 273, 274, 275, 276, 277, 278, 279, 280, 281, 282, 283, 284, 285, 286, 287, 288, 289, 290, 291, 292, 293, 294, 295, 296, 297, 298, 299, 300, 86, 87, 88, 301, 302, 303, 304, 305, 306, 307, 308, 309, 310, 311, 312, 313, 78, 314, 315, 316, 19, 317, 48, 44, 318, 46, 319, 320, 321, 322, 323, 324, 325, 326, 327, 328, 329, 57, 330, 67, 63, 64, 65, 66, 331, 332, 333, 334, 335, 336, 337, 338, 339, 340, 341, 342, 343, 344, 345, 346, 347, 348, 349, 350, 351, 352, 353, 354, 355, 356, 357, 358, 359, 360, 361, 362, 363, 364, 365, 366, 367, 368, 369, 370, 371, 372, 373, 374, 375, 376, 377, 378, 379, 380, 381, 382, 383, 384, 385, 386, 387, 388, 389, 47, 390, 391, 392, 32, 393, 109, 111, 112, 855, 856, 857, 858, 859, 860, 861, 895, 896, 903, 904, 905, 906, 907, 908, 901, 902, 928, 929, 930, 931, 897, 898, 899, 900, 922, 923, 924, 925, 926, 927, 909, 910, 911, 912, 913, 914, 915, 916, 917, 918, 919, 920, 921] rfl (by decide +kernel)) (goodIn_sub (fun _ h => List.mem_append_left _ (List.mem_append_right _ h)) (by decide +kernel))
set_option maxRecDepth 100000 in
theorem gL_law_L_tell : GoodIn wsL_law (va_wsS RL 49 yL_tell wsL_tell) := goodIn_app (goodIn_of _ (by decide +kernel)) ggL_law_L_tell
set_option maxRecDepth 100000 in
theorem ggL_law_X12_tell : GoodIn wsL_law wsX12_tell := goodIn_r _ [397, 168, 169, 398, 399, 400, 401, 402, 138, 139, 140, 141, 142, 143, 144, 403, 404, 5, 405, 406, 407, 408, 409, 410, 411, 412, 413, 414, 415, 416, 417, 418, 419, 420, 136, 421, 422, 423, 424, 425, 426, 427, 428, 429, 430, 431, 432, 433, 434, 435, 436, 437, 438, 439, 440, 441, 442, 443, 444, 445, 446, 447, 448, 449, 450, 451, 452, 453, 454, 455, 456, 457, 458, 459, 460, 461, 462, 463, 464, 465, 466, 137, 467, 468, 469, 470, 471, 472, 473, 474, 475, 476, 477, 478, 479, 480, 481, 482, 862, 863, 864, 865, 866, 867, 868, 869, 870, 871, 872, 873, 874, 875, 876, 877, 878, 879, 880, 881, 882, 883, 884, 885, 886, 887, 888, 889, 890, 891, 892, 893, 894] rfl (by decide +kernel)
set_option maxRecDepth 100000 in
theorem gL_law_X12_tell : GoodIn wsL_law (wsV RL 54 RX12 yX12_tell wsX12_tell) := goodIn_app (goodIn_of _ (by decide +kernel)) ggL_law_X12_tell
set_option maxRecDepth 100000 in
theorem ggL_law_X12_thrown : GoodIn wsL_law wsX12_thrown := goodIn_r _ [486, 168, 862, 863, 864, 865, 866, 867, 868, 869, 870, 871, 872, 873, 874, 875, 876, 877, 878, 879, 880, 881, 882, 883, 884, 885, 886, 887, 888, 889, 890, 891, 892, 893, 894] rfl (by decide +kernel)
set_option maxRecDepth 100000 in
theorem gL_law_X12_thrown : GoodIn wsL_law (wsV RL 55 RX12 yX12_thrown wsX12_thrown) := goodIn_app (goodIn_of _ (by decide +kernel)) ggL_law_X12_thrown
set_option maxRecDepth 100000 in
theorem ggL_law_X11_fault : GoodIn wsL_law wsX11_fault := goodIn_r _ [490, 29, 491, 855, 856, 857, 858, 859, 860, 861, 903, 904, 905, 906, 907, 908] rfl (by decide +kernel)
set_option maxRecDepth 100000 in
theorem gL_law_X11_fault : GoodIn wsL_law (wsV RL 59 RX11 yX11_fault wsX11_fault) := goodIn_app (goodIn_of _ (by decide +kernel)) ggL_law_X11_fault
set_option maxRecDepth 100000 in
theorem ggL_law_X12_fault : GoodIn wsL_law wsX12_fault := goodIn_r _ [495, 168, 399, 862, 863, 864, 865, 866, 867, 868, 869, 870, 871, 872, 873, 874, 875, 876, 877, 878, 879, 880, 881, 882, 883, 884, 885, 886, 887, 888, 889, 890, 891, 892, 893, 894] rfl (by decide +kernel)
set_option maxRecDepth 100000 in
theorem gL_law_X12_fault : GoodIn wsL_law (wsV RL 62 RX12 yX12_fault wsX12_fault) := goodIn_app (goodIn_of _ (by decide +kernel)) ggL_law_X12_fault
set_option maxRecDepth 100000 in
theorem ggL_law_X11_hear : GoodIn wsL_law wsX11_hear := goodIn_r _ [499, 33, 500, 390, 391, 392, 32, 393, 109, 111, 112, 855, 856, 857, 858, 859, 860, 861, 909, 910, 911, 912, 913, 914, 915, 916, 917, 918, 919, 920, 921] rfl (by decide +kernel)
set_option maxRecDepth 100000 in
theorem gL_law_X11_hear : GoodIn wsL_law (wsV RL 63 RX11 yX11_hear wsX11_hear) := goodIn_app (goodIn_of _ (by decide +kernel)) ggL_law_X11_hear
set_option maxRecDepth 100000 in
theorem ggL_law_X12_hear : GoodIn wsL_law wsX12_hear := goodIn_r _ [504, 168, 145, 862, 863, 864, 865, 866, 867, 868, 869, 870, 871, 872, 873, 874, 875, 876, 877, 878, 879, 880, 881, 882, 883, 884, 885, 886, 887, 888, 889, 890, 891, 892, 893, 894] rfl (by decide +kernel)
set_option maxRecDepth 100000 in
theorem gL_law_X12_hear : GoodIn wsL_law (wsV RL 66 RX12 yX12_hear wsX12_hear) := goodIn_app (goodIn_of _ (by decide +kernel)) ggL_law_X12_hear
set_option maxRecDepth 100000 in
theorem ggL_law_L_saying : GoodIn wsL_law wsL_saying := goodIn_ca (goodIn_ca (goodIn_r _ [507, 186, 508, 509, 510, 511, 2, 512, 191, 192, 513, 514, 22, 515, 516, 517, 518, 519, 520, 521, 522, 195, 196, 197, 523, 524, 525, 24, 526, 55, 855, 856, 857, 858, 859, 860, 861, 901, 902, 922, 923, 924, 925, 926, 927] rfl (by decide +kernel)) (goodIn_sub (fun _ h => List.mem_append_left _ (List.mem_append_right _ h)) (by decide +kernel))) (goodIn_sub (fun _ h => List.mem_append_right _ h) (by decide +kernel))
set_option maxRecDepth 100000 in
theorem gL_law_L_saying : GoodIn wsL_law (va_wsS RL 67 yL_saying wsL_saying) := goodIn_app (goodIn_of _ (by decide +kernel)) ggL_law_L_saying
set_option maxRecDepth 100000 in
theorem ggL_law_X12_saying : GoodIn wsL_law wsX12_saying := goodIn_r _ [530, 168, 139, 140, 141, 142, 143, 144, 403, 404, 5, 405, 406, 407, 408, 409, 531, 532, 533, 534, 138, 862, 863, 864, 865, 866, 867, 868, 869, 870, 871, 872, 873, 874, 875, 876, 877, 878, 879, 880, 881, 882, 883, 884, 885, 886, 887, 888, 889, 890, 891, 892, 893, 894] rfl (by decide +kernel)
set_option maxRecDepth 100000 in
theorem gL_law_X12_saying : GoodIn wsL_law (wsV RL 70 RX12 yX12_saying wsX12_saying) := goodIn_app (goodIn_of _ (by decide +kernel)) ggL_law_X12_saying
set_option maxRecDepth 100000 in
theorem ggL_law_X11_happening : GoodIn wsL_law wsX11_happening := goodIn_r _ [538, 16, 20, 159, 539, 540, 541, 15, 542, 40, 543, 216, 217, 218, 39, 544, 545, 546, 547, 548, 320, 321, 19, 322, 48, 46, 323, 324, 325, 326, 318, 44, 855, 856, 857, 858, 859, 860, 861, 895, 896, 897, 898, 899, 900] rfl (by decide +kernel)
set_option maxRecDepth 100000 in
theorem gL_law_X11_happening : GoodIn wsL_law (wsV RL 71 RX11 yX11_happening wsX11_happening) := goodIn_app (goodIn_of _ (by decide +kernel)) ggL_law_X11_happening
set_option maxRecDepth 100000 in
theorem ggL_law_X12_happening : GoodIn wsL_law wsX12_happening := goodIn_r _ [552, 168, 169, 398, 414, 420, 136, 435, 402, 137, 421, 422, 423, 5, 424, 425, 426, 427, 431, 432, 433, 434, 436, 437, 438, 415, 439, 440, 441, 442, 428, 429, 430, 454, 455, 456, 457, 447, 448, 458, 449, 450, 451, 452, 453, 862, 863, 864, 865, 866, 867, 868, 869, 870, 871, 872, 873, 874, 875, 876, 877, 878, 879, 880, 881, 882, 883, 884, 885, 886, 887, 888, 889, 890, 891, 892, 893, 894] rfl (by decide +kernel)
set_option maxRecDepth 100000 in
theorem gL_law_X12_happening : GoodIn wsL_law (wsV RL 74 RX12 yX12_happening wsX12_happening) := goodIn_app (goodIn_of _ (by decide +kernel)) ggL_law_X12_happening
set_option maxRecDepth 100000 in
theorem ggL_law_X11_name : GoodIn wsL_law wsX11_name := goodIn_r _ [556, 20, 34, 557, 558, 559, 560, 19, 561, 47, 855, 856, 857, 858, 859, 860, 861, 897, 898, 899, 900] rfl (by decide +kernel)
set_option maxRecDepth 100000 in
theorem gL_law_X11_name : GoodIn wsL_law (wsV RL 75 RX11 yX11_name wsX11_name) := goodIn_app (goodIn_of _ (by decide +kernel)) ggL_law_X11_name
set_option maxRecDepth 100000 in
theorem ggL_law_X12_name : GoodIn wsL_law wsX12_name := goodIn_r _ [565, 168, 402, 566, 137, 437, 146, 862, 863, 864, 865, 866, 867, 868, 869, 870, 871, 872, 873, 874, 875, 876, 877, 878, 879, 880, 881, 882, 883, 884, 885, 886, 887, 888, 889, 890, 891, 892, 893, 894] rfl (by decide +kernel)
set_option maxRecDepth 100000 in
theorem gL_law_X12_name : GoodIn wsL_law (wsV RL 78 RX12 yX12_name wsX12_name) := goodIn_app (goodIn_of _ (by decide +kernel)) ggL_law_X12_name
set_option maxRecDepth 100000 in
theorem ggL_law_L_octet : GoodIn wsL_law wsL_octet := goodIn_ca (goodIn_r _ [569, 508, 570, 571, 572, 2, 573, 513, 514, 20, 34, 574, 575, 576, 577, 557, 558, 559, 560, 19, 561, 47, 578, 579, 580, 581, 44, 855, 856, 857, 858, 859, 860, 861, 897, 898, 899, 900] rfl (by decide +kernel)) (goodIn_sub (fun _ h => List.mem_append_right _ h) (by decide +kernel))
set_option maxRecDepth 100000 in
theorem gL_law_L_octet : GoodIn wsL_law (va_wsS RL 79 yL_octet wsL_octet) := goodIn_app (goodIn_of _ (by decide +kernel)) ggL_law_L_octet
set_option maxRecDepth 100000 in
theorem ggL_law_X12_octet : GoodIn wsL_law wsX12_octet := goodIn_r _ [585, 566, 168, 146, 406, 407, 408, 5, 409, 862, 863, 864, 865, 866, 867, 868, 869, 870, 871, 872, 873, 874, 875, 876, 877, 878, 879, 880, 881, 882, 883, 884, 885, 886, 887, 888, 889, 890, 891, 892, 893, 894] rfl (by decide +kernel)
set_option maxRecDepth 100000 in
theorem gL_law_X12_octet : GoodIn wsL_law (wsV RL 81 RX12 yX12_octet wsX12_octet) := goodIn_app (goodIn_of _ (by decide +kernel)) ggL_law_X12_octet
set_option maxRecDepth 100000 in
theorem ggL_law_X11_agree : GoodIn wsL_law wsX11_agree := goodIn_r _ [589, 33, 590, 591, 592, 32, 593, 109, 107, 110, 594, 595, 596, 597, 98, 598, 599, 600, 601, 114, 602, 113, 603, 104, 604, 605, 606, 607, 608, 97, 609, 610, 212, 213, 214, 121, 119, 611, 612, 613, 614, 615, 616, 617, 101, 618, 126, 127, 128, 129, 130, 619, 620, 621, 622, 623, 624, 625, 626, 627, 57, 628, 63, 629, 62, 65, 66, 64, 630, 631, 632, 343, 344, 345, 346, 347, 348, 633, 634, 635, 636, 637, 638, 639, 640, 641, 120, 642, 643, 644, 645, 646, 647, 648, 649, 855, 856, 857, 858, 859, 860, 861, 909, 910, 911, 912, 913, 914, 915, 916, 917, 918, 919, 920, 921, 897, 898, 899, 900, 901, 902, 932, 933, 934, 935, 936, 937, 938, 939, 922, 923, 924, 925, 926, 927] rfl (by decide +kernel)
set_option maxRecDepth 100000 in
theorem gL_law_X11_agree : GoodIn wsL_law (wsV RL 82 RX11 yX11_agree wsX11_agree) := goodIn_app (goodIn_of _ (by decide +kernel)) ggL_law_X11_agree
set_option maxRecDepth 100000 in
theorem ggL_law_X12_agree : GoodIn wsL_law wsX12_agree := goodIn_r _ [653, 168, 145, 654, 655, 656, 5, 657, 150, 658, 659, 660, 661, 662, 663, 664, 665, 666, 402, 138, 667, 668, 669, 670, 148, 147, 149, 671, 672, 673, 674, 140, 141, 139, 142, 143, 675, 676, 677, 678, 679, 680, 681, 682, 151, 683, 862, 863, 864, 865, 866, 867, 868, 869, 870, 871, 872, 873, 874, 875, 876, 877, 878, 879, 880, 881, 882, 883, 884, 885, 886, 887, 888, 889, 890, 891, 892, 893, 894] rfl (by decide +kernel)
set_option maxRecDepth 100000 in
theorem gL_law_X12_agree : GoodIn wsL_law (wsV RL 85 RX12 yX12_agree wsX12_agree) := goodIn_app (goodIn_of _ (by decide +kernel)) ggL_law_X12_agree
set_option maxRecDepth 100000 in
theorem ggL_law_X11_bound : GoodIn wsL_law wsX11_bound := goodIn_r _ [687, 20, 33, 558, 559, 560, 19, 561, 47, 590, 591, 592, 32, 593, 109, 107, 110, 594, 595, 596, 597, 98, 598, 599, 600, 601, 114, 602, 113, 603, 104, 604, 605, 606, 607, 608, 97, 609, 610, 212, 213, 214, 121, 119, 611, 612, 613, 614, 615, 616, 617, 101, 618, 126, 127, 128, 129, 130, 619, 620, 621, 622, 623, 624, 625, 626, 627, 57, 628, 63, 629, 62, 65, 66, 64, 630, 631, 632, 343, 344, 345, 346, 347, 348, 633, 634, 635, 636, 637, 638, 639, 640, 641, 120, 642, 643, 644, 645, 646, 647, 648, 649, 688, 689, 690, 691, 692, 693, 694, 695, 696, 697, 698, 699, 855, 856, 857, 858, 859, 860, 861, 897, 898, 899, 900, 909, 910, 911, 912, 913, 914, 915, 916, 917, 918, 919, 920, 921, 901, 902, 932, 933, 934, 935, 936, 937, 938, 939, 922, 923, 924, 925, 926, 927] rfl (by decide +kernel)
set_option maxRecDepth 100000 in
theorem gL_law_X11_bound : GoodIn wsL_law (wsV RL 86 RX11 yX11_bound wsX11_bound) := goodIn_app (goodIn_of _ (by decide +kernel)) ggL_law_X11_bound
set_option maxRecDepth 100000 in
theorem ggL_law_X12_bound : GoodIn wsL_law wsX12_bound := goodIn_r _ [703, 168, 704, 705, 706, 5, 707, 402, 708, 651, 652, 653, 145, 654, 655, 656, 657, 150, 658, 659, 660, 661, 662, 663, 664, 665, 666, 138, 667, 668, 669, 670, 148, 147, 149, 671, 672, 673, 674, 140, 141, 139, 142, 143, 675, 676, 677, 678, 679, 680, 681, 682, 151, 683, 709, 710, 711, 712, 862, 863, 864, 865, 866, 867, 868, 869, 870, 871, 872, 873, 874, 875, 876, 877, 878, 879, 880, 881, 882, 883, 884, 885, 886, 887, 888, 889, 890, 891, 892, 893, 894] rfl (by decide +kernel)
set_option maxRecDepth 100000 in
theorem gL_law_X12_bound : GoodIn wsL_law (wsV RL 89 RX12 yX12_bound wsX12_bound) := goodIn_app (goodIn_of _ (by decide +kernel)) ggL_law_X12_bound
set_option maxRecDepth 100000 in
theorem ggL_law_L_between : GoodIn wsL_law wsL_between := goodIn_ca (goodIn_r _ [715, 508, 716, 717, 718, 2, 719, 513, 514, 20, 33, 558, 559, 560, 19, 561, 47, 590, 591, 592, 32, 593, 109, 107, 110, 594, 595, 596, 597, 98, 598, 599, 600, 601, 114, 602, 113, 603, 104, 604, 605, 606, 607, 608, 97, 609, 610, 212, 213, 214, 121, 119, 611, 612, 613, 614, 615, 616, 617, 101, 618, 126, 127, 128, 129, 130, 619, 620, 621, 622, 623, 624, 625, 626, 627, 57, 628, 63, 629, 62, 65, 66, 64, 630, 631, 632, 343, 344, 345, 346, 347, 348, 633, 634, 635, 636, 637, 638, 639, 640, 641, 120, 642, 643, 644, 645, 646, 647, 648, 649, 699, 688, 694, 695, 696, 697, 698, 690, 691, 692, 693, 689, 855, 856, 857, 858, 859, 860, 861, 897, 898, 899, 900, 909, 910, 911, 912, 913, 914, 915, 916, 917, 918, 919, 920, 921, 901, 902, 932, 933, 934, 935, 936, 937, 938, 939, 922, 923, 924, 925, 926, 927] rfl (by decide +kernel)) (goodIn_sub (fun _ h => List.mem_append_right _ h) (by decide +kernel))
set_option maxRecDepth 100000 in
theorem gL_law_L_between : GoodIn wsL_law (va_wsS RL 90 yL_between wsL_between) := goodIn_app (goodIn_of _ (by decide +kernel)) ggL_law_L_between
set_option maxRecDepth 100000 in
theorem ggL_law_X12_between : GoodIn wsL_law wsX12_between := goodIn_r _ [723, 168, 704, 705, 706, 5, 707, 402, 708, 651, 652, 653, 145, 654, 655, 656, 657, 150, 658, 659, 660, 661, 662, 663, 664, 665, 666, 138, 667, 668, 669, 670, 148, 147, 149, 671, 672, 673, 674, 140, 141, 139, 142, 143, 675, 676, 677, 678, 679, 680, 681, 682, 151, 683, 406, 407, 408, 409, 709, 710, 711, 712, 862, 863, 864, 865, 866, 867, 868, 869, 870, 871, 872, 873, 874, 875, 876, 877, 878, 879, 880, 881, 882, 883, 884, 885, 886, 887, 888, 889, 890, 891, 892, 893, 894] rfl (by decide +kernel)
set_option maxRecDepth 100000 in
theorem gL_law_X12_between : GoodIn wsL_law (wsV RL 93 RX12 yX12_between wsX12_between) := goodIn_app (goodIn_of _ (by decide +kernel)) ggL_law_X12_between
set_option maxRecDepth 100000 in
theorem ggL_law_X11_order : GoodIn wsL_law wsX11_order := goodIn_r _ [727, 20, 33, 558, 559, 560, 19, 561, 47, 590, 591, 592, 32, 593, 109, 107, 110, 594, 595, 596, 597, 98, 598, 599, 600, 601, 114, 602, 113, 603, 104, 604, 605, 606, 607, 608, 97, 609, 610, 212, 213, 214, 121, 119, 611, 612, 613, 614, 615, 616, 617, 101, 618, 126, 127, 128, 129, 130, 619, 620, 621, 622, 623, 624, 625, 626, 627, 57, 628, 63, 629, 62, 65, 66, 64, 630, 631, 632, 343, 344, 345, 346, 347, 348, 633, 634, 635, 636, 637, 638, 639, 640, 641, 120, 642, 643, 644, 645, 646, 647, 648, 649, 699, 688, 689, 690, 691, 692, 693, 694, 695, 696, 697, 698, 855, 856, 857, 858, 859, 860, 861, 897, 898, 899, 900, 909, 910, 911, 912, 913, 914, 915, 916, 917, 918, 919, 920, 921, 901, 902, 932, 933, 934, 935, 936, 937, 938, 939, 922, 923, 924, 925, 926, 927] rfl (by decide +kernel)
set_option maxRecDepth 100000 in
theorem gL_law_X11_order : GoodIn wsL_law (wsV RL 94 RX11 yX11_order wsX11_order) := goodIn_app (goodIn_of _ (by decide +kernel)) ggL_law_X11_order
set_option maxRecDepth 100000 in
theorem ggL_law_X12_order : GoodIn wsL_law wsX12_order := goodIn_r _ [731, 168, 704, 705, 706, 5, 707, 402, 708, 651, 652, 653, 145, 654, 655, 656, 657, 150, 658, 659, 660, 661, 662, 663, 664, 665, 666, 138, 667, 668, 669, 670, 148, 147, 149, 671, 672, 673, 674, 140, 141, 139, 142, 143, 675, 676, 677, 678, 679, 680, 681, 682, 151, 683, 709, 710, 711, 712, 862, 863, 864, 865, 866, 867, 868, 869, 870, 871, 872, 873, 874, 875, 876, 877, 878, 879, 880, 881, 882, 883, 884, 885, 886, 887, 888, 889, 890, 891, 892, 893, 894] rfl (by decide +kernel)
set_option maxRecDepth 100000 in
theorem gL_law_X12_order : GoodIn wsL_law (wsV RL 97 RX12 yX12_order wsX12_order) := goodIn_app (goodIn_of _ (by decide +kernel)) ggL_law_X12_order
set_option maxRecDepth 100000 in
theorem ggL_law_X11_quarrel : GoodIn wsL_law wsX11_quarrel := goodIn_r _ [735, 33, 736, 590, 591, 592, 32, 593, 109, 107, 110, 594, 595, 596, 597, 98, 598, 599, 600, 601, 114, 602, 113, 603, 104, 604, 605, 606, 607, 608, 97, 609, 610, 212, 213, 214, 121, 119, 611, 612, 613, 614, 615, 616, 617, 101, 618, 126, 127, 128, 129, 130, 619, 620, 621, 622, 623, 624, 625, 626, 627, 57, 628, 63, 629, 62, 65, 66, 64, 630, 631, 632, 343, 344, 345, 346, 347, 348, 633, 634, 635, 636, 637, 638, 639, 640, 641, 120, 642, 643, 644, 645, 646, 647, 648, 649, 737, 738, 739, 740, 111, 108, 105, 741, 742, 743, 744, 855, 856, 857, 858, 859, 860, 861, 909, 910, 911, 912, 913, 914, 915, 916, 917, 918, 919, 920, 921, 897, 898, 899, 900, 901, 902, 932, 933, 934, 935, 936, 937, 938, 939, 922, 923, 924, 925, 926, 927] rfl (by decide +kernel)
set_option maxRecDepth 100000 in
theorem gL_law_X11_quarrel : GoodIn wsL_law (wsV RL 98 RX11 yX11_quarrel wsX11_quarrel) := goodIn_app (goodIn_of _ (by decide +kernel)) ggL_law_X11_quarrel
set_option maxRecDepth 100000 in
theorem ggL_law_X12_quarrel : GoodIn wsL_law wsX12_quarrel := goodIn_r _ [748, 168, 749, 750, 751, 5, 752, 145, 138, 150, 152, 654, 655, 656, 657, 658, 659, 660, 661, 662, 663, 664, 665, 666, 402, 667, 668, 669, 670, 148, 147, 149, 671, 672, 673, 674, 140, 141, 139, 142, 143, 675, 676, 677, 678, 679, 680, 681, 682, 151, 683, 862, 863, 864, 865, 866, 867, 868, 869, 870, 871, 872, 873, 874, 875, 876, 877, 878, 879, 880, 881, 882, 883, 884, 885, 886, 887, 888, 889, 890, 891, 892, 893, 894] rfl (by decide +kernel)
set_option maxRecDepth 100000 in
theorem gL_law_X12_quarrel : GoodIn wsL_law (wsV RL 101 RX12 yX12_quarrel wsX12_quarrel) := goodIn_app (goodIn_of _ (by decide +kernel)) ggL_law_X12_quarrel
set_option maxRecDepth 100000 in
theorem ggL_law_X11_quarrelled : GoodIn wsL_law wsX11_quarrelled := goodIn_r _ [756, 33, 736, 757, 590, 591, 592, 32, 593, 109, 107, 110, 594, 595, 596, 597, 98, 598, 599, 600, 601, 114, 602, 113, 603, 104, 604, 605, 606, 607, 608, 97, 609, 610, 212, 213, 214, 121, 119, 611, 612, 613, 614, 615, 616, 617, 101, 618, 126, 127, 128, 129, 130, 619, 620, 621, 622, 623, 624, 625, 626, 627, 57, 628, 63, 629, 62, 65, 66, 64, 630, 631, 632, 343, 344, 345, 346, 347, 348, 633, 634, 635, 636, 637, 638, 639, 640, 641, 120, 642, 643, 644, 645, 646, 647, 648, 649, 737, 738, 739, 740, 111, 108, 105, 741, 742, 743, 744, 855, 856, 857, 858, 859, 860, 861, 909, 910, 911, 912, 913, 914, 915, 916, 917, 918, 919, 920, 921, 897, 898, 899, 900, 901, 902, 932, 933, 934, 935, 936, 937, 938, 939, 922, 923, 924, 925, 926, 927] rfl (by decide +kernel)
set_option maxRecDepth 100000 in
theorem gL_law_X11_quarrelled : GoodIn wsL_law (wsV RL 102 RX11 yX11_quarrelled wsX11_quarrelled) := goodIn_app (goodIn_of _ (by decide +kernel)) ggL_law_X11_quarrelled
set_option maxRecDepth 100000 in
theorem ggL_law_X12_quarrelled : GoodIn wsL_law wsX12_quarrelled := goodIn_r _ [761, 168, 152, 749, 750, 751, 5, 752, 145, 138, 150, 654, 655, 656, 657, 658, 659, 660, 661, 662, 663, 664, 665, 666, 402, 667, 668, 669, 670, 148, 147, 149, 671, 672, 673, 674, 140, 141, 139, 142, 143, 675, 676, 677, 678, 679, 680, 681, 682, 151, 683, 862, 863, 864, 865, 866, 867, 868, 869, 870, 871, 872, 873, 874, 875, 876, 877, 878, 879, 880, 881, 882, 883, 884, 885, 886, 887, 888, 889, 890, 891, 892, 893, 894] rfl (by decide +kernel)
set_option maxRecDepth 100000 in
theorem gL_law_X12_quarrelled : GoodIn wsL_law (wsV RL 105 RX12 yX12_quarrelled wsX12_quarrelled) := goodIn_app (goodIn_of _ (by decide +kernel)) ggL_law_X12_quarrelled
set_option maxRecDepth 100000 in
theorem ggL_law_X11_leave : GoodIn wsL_law wsX11_leave := goodIn_r _ [765, 33, 766, 767, 768, 32, 769, 107, 770, 591, 592, 593, 109, 110, 594, 595, 596, 597, 98, 598, 599, 600, 601, 114, 602, 113, 603, 104, 604, 605, 606, 607, 608, 97, 609, 610, 212, 213, 214, 121, 119, 611, 612, 613, 614, 615, 616, 617, 101, 618, 126, 127, 128, 129, 130, 619, 620, 621, 622, 623, 624, 625, 626, 627, 57, 628, 63, 629, 62, 65, 66, 64, 630, 631, 632, 343, 344, 345, 346, 347, 348, 633, 634, 635, 636, 637, 638, 639, 640, 641, 120, 642, 643, 644, 645, 646, 647, 648, 649, 771, 772, 773, 774, 775, 776, 777, 855, 856, 857, 858, 859, 860, 861, 909, 910, 911, 912, 913, 914, 915, 916, 917, 918, 919, 920, 921, 897, 898, 899, 900, 901, 902, 932, 933, 934, 935, 936, 937, 938, 939, 922, 923, 924, 925, 926, 927] rfl (by decide +kernel)
set_option maxRecDepth 100000 in
theorem gL_law_X11_leave : GoodIn wsL_law (wsV RL 106 RX11 yX11_leave wsX11_leave) := goodIn_app (goodIn_of _ (by decide +kernel)) ggL_law_X11_leave
set_option maxRecDepth 100000 in
theorem ggL_law_X12_leave : GoodIn wsL_law wsX12_leave := goodIn_r _ [781, 168, 145, 654, 655, 656, 5, 657, 150, 782, 783, 784, 658, 659, 660, 661, 662, 663, 664, 665, 666, 402, 138, 667, 668, 669, 670, 148, 147, 149, 671, 672, 673, 674, 140, 141, 139, 142, 143, 675, 676, 677, 678, 679, 680, 681, 682, 151, 683, 862, 863, 864, 865, 866, 867, 868, 869, 870, 871, 872, 873, 874, 875, 876, 877, 878, 879, 880, 881, 882, 883, 884, 885, 886, 887, 888, 889, 890, 891, 892, 893, 894] rfl (by decide +kernel)
set_option maxRecDepth 100000 in
theorem gL_law_X12_leave : GoodIn wsL_law (wsV RL 109 RX12 yX12_leave wsX12_leave) := goodIn_app (goodIn_of _ (by decide +kernel)) ggL_law_X12_leave
set_option maxRecDepth 100000 in
theorem ggL_law_L_needless : GoodIn wsL_law wsL_needless := goodIn_ca (goodIn_r _ [787, 186, 788, 789, 790, 2, 791, 191, 192, 22, 33, 195, 196, 197, 523, 524, 525, 24, 526, 55, 792, 742, 743, 32, 744, 107, 590, 591, 592, 593, 109, 110, 594, 595, 596, 597, 98, 598, 599, 600, 601, 114, 602, 113, 603, 104, 604, 605, 606, 607, 608, 97, 609, 610, 212, 213, 214, 121, 119, 611, 612, 613, 614, 615, 616, 617, 101, 618, 126, 127, 128, 129, 130, 619, 620, 621, 622, 623, 624, 625, 626, 627, 57, 628, 63, 629, 62, 65, 66, 64, 630, 631, 632, 343, 344, 345, 346, 347, 348, 633, 634, 635, 636, 637, 638, 639, 640, 641, 120, 642, 643, 644, 645, 646, 647, 648, 649, 793, 794, 795, 796, 102, 797, 798, 693, 799, 800, 855, 856, 857, 858, 859, 860, 861, 901, 902, 909, 910, 911, 912, 913, 914, 915, 916, 917, 918, 919, 920, 921, 897, 898, 899, 900, 932, 933, 934, 935, 936, 937, 938, 939, 922, 923, 924, 925, 926, 927] rfl (by decide +kernel)) (goodIn_sub (fun _ h => List.mem_append_left _ (List.mem_append_right _ h)) (by decide +kernel))
set_option maxRecDepth 100000 in
theorem gL_law_L_needless : GoodIn wsL_law (va_wsS RL 110 yL_needless wsL_needless) := goodIn_app (goodIn_of _ (by decide +kernel)) ggL_law_L_needless
set_option maxRecDepth 100000 in
theorem ggL_law_X12_needless : GoodIn wsL_law wsX12_needless := goodIn_r _ [804, 168, 145, 150, 666, 148, 147, 149, 403, 404, 5, 405, 406, 407, 408, 409, 531, 532, 533, 534, 138, 708, 651, 652, 653, 654, 655, 656, 657, 658, 659, 660, 661, 662, 663, 664, 665, 402, 667, 668, 669, 670, 671, 672, 673, 674, 140, 141, 139, 142, 143, 675, 676, 677, 678, 679, 680, 681, 682, 151, 683, 709, 710, 711, 712, 862, 863, 864, 865, 866, 867, 868, 869, 870, 871, 872, 873, 874, 875, 876, 877, 878, 879, 880, 881, 882, 883, 884, 885, 886, 887, 888, 889, 890, 891, 892, 893, 894] rfl (by decide +kernel)
set_option maxRecDepth 100000 in
theorem gL_law_X12_needless : GoodIn wsL_law (wsV RL 113 RX12 yX12_needless wsX12_needless) := goodIn_app (goodIn_of _ (by decide +kernel)) ggL_law_X12_needless
set_option maxRecDepth 100000 in
theorem ggL_law_X11_at : GoodIn wsL_law wsX11_at := goodIn_r _ [808, 20, 33, 809, 558, 559, 560, 19, 561, 47, 590, 591, 592, 32, 593, 109, 107, 110, 594, 595, 596, 597, 98, 598, 599, 600, 601, 114, 602, 113, 603, 104, 604, 605, 606, 607, 608, 97, 609, 610, 212, 213, 214, 121, 119, 611, 612, 613, 614, 615, 616, 617, 101, 618, 126, 127, 128, 129, 130, 619, 620, 621, 622, 623, 624, 625, 626, 627, 57, 628, 63, 629, 62, 65, 66, 64, 630, 631, 632, 343, 344, 345, 346, 347, 348, 633, 634, 635, 636, 637, 638, 639, 640, 641, 120, 642, 643, 644, 645, 646, 647, 648, 649, 810, 811, 812, 813, 112, 106, 814, 815, 816, 817, 693, 818, 819, 820, 773, 821, 822, 855, 856, 857, 858, 859, 860, 861, 909, 910, 911, 912, 913, 914, 915, 916, 917, 918, 919, 920, 921, 897, 898, 899, 900, 901, 902, 932, 933, 934, 935, 936, 937, 938, 939, 922, 923, 924, 925, 926, 927] rfl (by decide +kernel)
set_option maxRecDepth 100000 in
theorem gL_law_X11_at : GoodIn wsL_law (wsV RL 114 RX11 yX11_at wsX11_at) := goodIn_app (goodIn_of _ (by decide +kernel)) ggL_law_X11_at
set_option maxRecDepth 100000 in
theorem ggL_law_X12_at : GoodIn wsL_law wsX12_at := goodIn_r _ [826, 168, 402, 153, 154, 708, 651, 652, 5, 653, 145, 654, 655, 656, 657, 150, 658, 659, 660, 661, 662, 663, 664, 665, 666, 138, 667, 668, 669, 670, 148, 147, 149, 671, 672, 673, 674, 140, 141, 139, 142, 143, 675, 676, 677, 678, 679, 680, 681, 682, 151, 683, 709, 710, 711, 712, 827, 828, 829, 830, 862, 863, 864, 865, 866, 867, 868, 869, 870, 871, 872, 873, 874, 875, 876, 877, 878, 879, 880, 881, 882, 883, 884, 885, 886, 887, 888, 889, 890, 891, 892, 893, 894] rfl (by decide +kernel)
set_option maxRecDepth 100000 in
theorem gL_law_X12_at : GoodIn wsL_law (wsV RL 117 RX12 yX12_at wsX12_at) := goodIn_app (goodIn_of _ (by decide +kernel)) ggL_law_X12_at
set_option maxRecDepth 100000 in
theorem ggL_law_L_sayings : GoodIn wsL_law wsL_sayings := goodIn_ca (goodIn_r _ [833, 186, 834, 835, 836, 2, 837, 191, 192, 22, 194, 195, 196, 197, 855, 856, 857, 858, 859, 860, 861, 901, 902] rfl (by decide +kernel)) (goodIn_sub (fun _ h => List.mem_append_left _ (List.mem_append_right _ h)) (by decide +kernel))
set_option maxRecDepth 100000 in
theorem gL_law_L_sayings : GoodIn wsL_law (va_wsS RL 118 yL_sayings wsL_sayings) := goodIn_app (goodIn_of _ (by decide +kernel)) ggL_law_L_sayings
set_option maxRecDepth 100000 in
theorem ggL_law_X12_sayings : GoodIn wsL_law wsX12_sayings := goodIn_r _ [841, 168, 138, 403, 404, 5, 405, 406, 407, 408, 409, 862, 863, 864, 865, 866, 867, 868, 869, 870, 871, 872, 873, 874, 875, 876, 877, 878, 879, 880, 881, 882, 883, 884, 885, 886, 887, 888, 889, 890, 891, 892, 893, 894] rfl (by decide +kernel)
set_option maxRecDepth 100000 in
theorem gL_law_X12_sayings : GoodIn wsL_law (wsV RL 120 RX12 yX12_sayings wsX12_sayings) := goodIn_app (goodIn_of _ (by decide +kernel)) ggL_law_X12_sayings
set_option maxRecDepth 100000 in
theorem ggL_law_X11_count : GoodIn wsL_law wsX11_count := goodIn_r _ [845, 20, 846, 33, 500, 16, 159, 847, 848, 849, 2, 850, 22, 194, 574, 575, 576, 577, 34, 557, 558, 559, 560, 19, 561, 47, 855, 856, 857, 858, 859, 860, 861, 897, 898, 899, 900, 909, 910, 911, 912, 913, 914, 915, 916, 917, 918, 919, 920, 921, 895, 896, 901, 902] rfl (by decide +kernel)
set_option maxRecDepth 100000 in
theorem gL_law_X11_count : GoodIn wsL_law (wsV RL 121 RX11 yX11_count wsX11_count) := goodIn_app (goodIn_of _ (by decide +kernel)) ggL_law_X11_count
set_option maxRecDepth 100000 in
theorem ggL_law_X12_count : GoodIn wsL_law wsX12_count := goodIn_r _ [854, 168, 138, 402, 145, 169, 566, 862, 863, 864, 865, 866, 867, 868, 869, 870, 871, 872, 873, 874, 875, 876, 877, 878, 879, 880, 881, 882, 883, 884, 885, 886, 887, 888, 889, 890, 891, 892, 893, 894] rfl (by decide +kernel)
set_option maxRecDepth 100000 in
theorem gL_law_X12_count : GoodIn wsL_law (wsV RL 124 RX12 yX12_count wsX12_count) := goodIn_app (goodIn_of _ (by decide +kernel)) ggL_law_X12_count
