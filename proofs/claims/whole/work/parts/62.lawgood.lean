set_option maxRecDepth 20000 in
theorem ggL_law_X7_init : GoodIn wsL_law wsX7_init := goodIn_r _ [8, 9, 10, 11, 12, 13, 14, 15, 16, 17, 18, 19, 20, 21, 22, 23, 24, 25, 26, 27, 28, 29, 30, 31, 32, 33, 34, 35, 36, 37, 38, 39, 40, 41, 42, 43, 44, 45, 46, 47, 48, 49, 50, 51, 52, 53, 54, 55, 56, 57, 58, 59, 60, 61, 62, 63, 64, 65, 66, 67, 68, 69, 70, 71, 72, 73, 74, 75, 76, 77, 78, 79, 80, 81, 82, 83, 84, 85, 86, 87, 88, 89, 90, 91, 92, 93, 94, 95, 96, 97, 98, 99, 100, 101, 102, 103, 104, 105, 106, 876, 877, 878, 879, 880, 881, 882, 883, 884, 885, 886, 887, 888, 889, 890, 891, 843, 844, 845, 846, 847, 848, 849, 850, 851, 892, 893, 894, 895, 896, 897, 898, 899, 900, 901, 902, 903, 904, 905, 906, 907, 908, 909, 910, 911, 912, 913, 914, 915, 916, 917, 918] (by decide +kernel) (by decide +kernel)
set_option maxRecDepth 20000 in
theorem gL_law_X7_init : GoodIn wsL_law (wsX7_init) := ggL_law_X7_init
set_option maxRecDepth 20000 in
theorem ggL_law_X8_init : GoodIn wsL_law wsX8_init := goodIn_r _ [109, 110, 10, 11, 47, 111, 112, 113, 114, 115, 116, 117, 118, 119, 120, 121, 17, 122, 123, 124, 125, 126, 852, 853, 854, 855, 856, 857, 858, 859, 860, 861, 862, 863, 864, 865, 866, 867, 868, 869, 870, 871, 872, 873, 874, 875] (by decide +kernel) (by decide +kernel)
set_option maxRecDepth 20000 in
theorem gL_law_X8_init : GoodIn wsL_law (wsX8_init) := ggL_law_X8_init
set_option maxRecDepth 20000 in
theorem ggL_law_X7_passage : GoodIn wsL_law wsX7_passage := goodIn_r _ [130, 15, 131, 132, 2, 133, 134, 135, 136, 14, 137, 48, 138, 139, 140, 141, 142, 143, 144, 145, 146, 147, 148, 843, 844, 845, 846, 847, 848, 849, 850, 851, 876, 877, 878, 879, 880, 881, 882, 883, 884, 885, 886, 887, 888, 889, 890, 891] (by decide +kernel) (by decide +kernel)
set_option maxRecDepth 20000 in
theorem gL_law_X7_passage : GoodIn wsL_law (wsV RL 13 RX7 yX7_passage wsX7_passage) := goodIn_app (goodIn_of _ (by decide +kernel)) ggL_law_X7_passage
set_option maxRecDepth 20000 in
theorem ggL_law_X8_passage : GoodIn wsL_law wsX8_passage := goodIn_r _ [152, 116, 153, 154, 5, 155, 156, 157, 158, 159, 160, 161, 852, 853, 854, 855, 856, 857, 858, 859, 860, 861, 862, 863, 864, 865, 866, 867, 868, 869, 870, 871, 872, 873, 874, 875] (by decide +kernel) (by decide +kernel)
set_option maxRecDepth 20000 in
theorem gL_law_X8_passage : GoodIn wsL_law (wsV RL 17 RX8 yX8_passage wsX8_passage) := goodIn_app (goodIn_of _ (by decide +kernel)) ggL_law_X8_passage
set_option maxRecDepth 20000 in
theorem ggL_law_X7_gallery : GoodIn wsL_law wsX7_gallery := goodIn_r _ [165, 15, 166, 167, 131, 132, 2, 133, 843, 844, 845, 846, 847, 848, 849, 850, 851, 876, 877, 878, 879, 880, 881, 882, 883, 884, 885, 886, 887, 888, 889, 890, 891] (by decide +kernel) (by decide +kernel)
set_option maxRecDepth 20000 in
theorem gL_law_X7_gallery : GoodIn wsL_law (wsV RL 18 RX7 yX7_gallery wsX7_gallery) := goodIn_app (goodIn_of _ (by decide +kernel)) ggL_law_X7_gallery
set_option maxRecDepth 20000 in
theorem ggL_law_X8_gallery : GoodIn wsL_law wsX8_gallery := goodIn_r _ [171, 117, 172, 153, 154, 5, 155, 156, 157, 158, 852, 853, 854, 855, 856, 857, 858, 859, 860, 861, 862, 863, 864, 865, 866, 867, 868, 869, 870, 871, 872, 873, 874, 875] (by decide +kernel) (by decide +kernel)
set_option maxRecDepth 20000 in
theorem gL_law_X8_gallery : GoodIn wsL_law (wsV RL 21 RX8 yX8_gallery wsX8_gallery) := goodIn_app (goodIn_of _ (by decide +kernel)) ggL_law_X8_gallery
set_option maxRecDepth 20000 in
theorem ggL_law_X7_voice : GoodIn wsL_law wsX7_voice := goodIn_r _ [176, 15, 177, 178, 179, 180, 181, 182, 183, 184, 185, 2, 186, 131, 132, 133, 187, 143, 144, 145, 146, 147, 148, 843, 844, 845, 846, 847, 848, 849, 850, 851, 876, 877, 878, 879, 880, 881, 882, 883, 884, 885, 886, 887, 888, 889, 890, 891] (by decide +kernel) (by decide +kernel)
set_option maxRecDepth 20000 in
theorem gL_law_X7_voice : GoodIn wsL_law (wsV RL 22 RX7 yX7_voice wsX7_voice) := goodIn_app (goodIn_of _ (by decide +kernel)) ggL_law_X7_voice
set_option maxRecDepth 20000 in
theorem ggL_law_X8_voice : GoodIn wsL_law wsX8_voice := goodIn_r _ [191, 192, 113, 114, 115, 111, 156, 157, 5, 158, 153, 154, 155, 159, 160, 161, 852, 853, 854, 855, 856, 857, 858, 859, 860, 861, 862, 863, 864, 865, 866, 867, 868, 869, 870, 871, 872, 873, 874, 875] (by decide +kernel) (by decide +kernel)
set_option maxRecDepth 20000 in
theorem gL_law_X8_voice : GoodIn wsL_law (wsV RL 26 RX8 yX8_voice wsX8_voice) := goodIn_app (goodIn_of _ (by decide +kernel)) ggL_law_X8_voice
set_option maxRecDepth 20000 in
theorem ggL_law_X7_breath : GoodIn wsL_law wsX7_breath := goodIn_r _ [196, 15, 180, 181, 183, 197, 198, 199, 14, 200, 201, 185, 2, 186, 202, 203, 843, 844, 845, 846, 847, 848, 849, 850, 851, 876, 877, 878, 879, 880, 881, 882, 883, 884, 885, 886, 887, 888, 889, 890, 891] (by decide +kernel) (by decide +kernel)
set_option maxRecDepth 20000 in
theorem gL_law_X7_breath : GoodIn wsL_law (wsV RL 27 RX7 yX7_breath wsX7_breath) := goodIn_app (goodIn_of _ (by decide +kernel)) ggL_law_X7_breath
set_option maxRecDepth 20000 in
theorem ggL_law_X8_breath : GoodIn wsL_law wsX8_breath := goodIn_r _ [207, 115, 111, 208, 209, 210, 5, 211, 192, 156, 157, 158, 212, 213, 214, 852, 853, 854, 855, 856, 857, 858, 859, 860, 861, 862, 863, 864, 865, 866, 867, 868, 869, 870, 871, 872, 873, 874, 875] (by decide +kernel) (by decide +kernel)
set_option maxRecDepth 20000 in
theorem gL_law_X8_breath : GoodIn wsL_law (wsV RL 31 RX8 yX8_breath wsX8_breath) := goodIn_app (goodIn_of _ (by decide +kernel)) ggL_law_X8_breath
set_option maxRecDepth 20000 in
theorem ggL_law_X7_leave : GoodIn wsL_law wsX7_leave := goodIn_r _ [218, 15, 177, 183, 197, 198, 199, 14, 200, 201, 185, 2, 186, 202, 203, 187, 143, 144, 145, 146, 147, 148, 843, 844, 845, 846, 847, 848, 849, 850, 851, 876, 877, 878, 879, 880, 881, 882, 883, 884, 885, 886, 887, 888, 889, 890, 891] (by decide +kernel) (by decide +kernel)
set_option maxRecDepth 20000 in
theorem gL_law_X7_leave : GoodIn wsL_law (wsV RL 32 RX7 yX7_leave wsX7_leave) := goodIn_app (goodIn_of _ (by decide +kernel)) ggL_law_X7_leave
set_option maxRecDepth 20000 in
theorem ggL_law_X8_leave : GoodIn wsL_law wsX8_leave := goodIn_r _ [222, 192, 208, 209, 210, 5, 211, 156, 157, 158, 212, 213, 214, 159, 160, 161, 852, 853, 854, 855, 856, 857, 858, 859, 860, 861, 862, 863, 864, 865, 866, 867, 868, 869, 870, 871, 872, 873, 874, 875] (by decide +kernel) (by decide +kernel)
set_option maxRecDepth 20000 in
theorem gL_law_X8_leave : GoodIn wsL_law (wsV RL 36 RX8 yX8_leave wsX8_leave) := goodIn_app (goodIn_of _ (by decide +kernel)) ggL_law_X8_leave
set_option maxRecDepth 20000 in
theorem ggL_law_X7_say : GoodIn wsL_law wsX7_say := goodIn_r _ [226, 22, 227, 228, 843, 844, 845, 846, 847, 848, 849, 850, 851, 892, 893, 894, 895, 896, 897, 898] (by decide +kernel) (by decide +kernel)
set_option maxRecDepth 20000 in
theorem gL_law_X7_say : GoodIn wsL_law (wsV RL 37 RX7 yX7_say wsX7_say) := goodIn_app (goodIn_of _ (by decide +kernel)) ggL_law_X7_say
set_option maxRecDepth 20000 in
theorem ggL_law_X8_say : GoodIn wsL_law wsX8_say := goodIn_r _ [232, 233, 119, 156, 157, 5, 158, 852, 853, 854, 855, 856, 857, 858, 859, 860, 861, 862, 863, 864, 865, 866, 867, 868, 869, 870, 871, 872, 873, 874, 875] (by decide +kernel) (by decide +kernel)
set_option maxRecDepth 20000 in
theorem gL_law_X8_say : GoodIn wsL_law (wsV RL 40 RX8 yX8_say wsX8_say) := goodIn_app (goodIn_of _ (by decide +kernel)) ggL_law_X8_say
set_option maxRecDepth 20000 in
theorem ggL_law_X7_wipe : GoodIn wsL_law wsX7_wipe := goodIn_r _ [237, 22, 227, 843, 844, 845, 846, 847, 848, 849, 850, 851, 892, 893, 894, 895, 896, 897, 898] (by decide +kernel) (by decide +kernel)
set_option maxRecDepth 20000 in
theorem gL_law_X7_wipe : GoodIn wsL_law (wsV RL 41 RX7 yX7_wipe wsX7_wipe) := goodIn_app (goodIn_of _ (by decide +kernel)) ggL_law_X7_wipe
set_option maxRecDepth 20000 in
theorem ggL_law_X8_wipe : GoodIn wsL_law wsX8_wipe := goodIn_r _ [241, 233, 852, 853, 854, 855, 856, 857, 858, 859, 860, 861, 862, 863, 864, 865, 866, 867, 868, 869, 870, 871, 872, 873, 874, 875] (by decide +kernel) (by decide +kernel)
set_option maxRecDepth 20000 in
theorem gL_law_X8_wipe : GoodIn wsL_law (wsV RL 45 RX8 yX8_wipe wsX8_wipe) := goodIn_app (goodIn_of _ (by decide +kernel)) ggL_law_X8_wipe
set_option maxRecDepth 20000 in
theorem ggL_law_X7_fault : GoodIn wsL_law wsX7_fault := goodIn_r _ [245, 22, 246, 247, 248, 21, 249, 250, 251, 252, 253, 254, 255, 256, 257, 258, 259, 260, 66, 261, 262, 263, 264, 67, 68, 69, 265, 266, 267, 268, 269, 270, 271, 272, 843, 844, 845, 846, 847, 848, 849, 850, 851, 892, 893, 894, 895, 896, 897, 898] (by decide +kernel) (by decide +kernel)
set_option maxRecDepth 20000 in
theorem gL_law_X7_fault : GoodIn wsL_law (wsV RL 46 RX7 yX7_fault wsX7_fault) := goodIn_app (goodIn_of _ (by decide +kernel)) ggL_law_X7_fault
set_option maxRecDepth 20000 in
theorem ggL_law_X8_fault : GoodIn wsL_law wsX8_fault := goodIn_r _ [276, 277, 278, 279, 5, 280, 233, 119, 156, 157, 158, 852, 853, 854, 855, 856, 857, 858, 859, 860, 861, 862, 863, 864, 865, 866, 867, 868, 869, 870, 871, 872, 873, 874, 875] (by decide +kernel) (by decide +kernel)
set_option maxRecDepth 20000 in
theorem gL_law_X8_fault : GoodIn wsL_law (wsV RL 49 RX8 yX8_fault wsX8_fault) := goodIn_app (goodIn_of _ (by decide +kernel)) ggL_law_X8_fault
set_option maxRecDepth 20000 in
theorem ggL_law_X7_judge : GoodIn wsL_law wsX7_judge := goodIn_r _ [284, 22, 30, 15, 285, 286, 246, 247, 248, 21, 249, 250, 251, 252, 253, 254, 255, 256, 257, 258, 259, 260, 66, 261, 262, 263, 264, 67, 68, 69, 265, 266, 267, 268, 269, 270, 271, 272, 287, 288, 289, 29, 290, 79, 80, 81, 82, 83, 85, 291, 292, 293, 294, 295, 296, 297, 298, 14, 299, 300, 301, 201, 302, 303, 48, 304, 305, 306, 307, 49, 50, 51, 52, 53, 54, 55, 56, 57, 58, 308, 309, 310, 25, 311, 73, 312, 313, 314, 315, 316, 317, 74, 318, 319, 320, 321, 60, 61, 62, 322, 323, 324, 325, 326, 327, 328, 329, 202, 2, 203, 330, 331, 332, 333, 334, 335, 336, 337, 338, 339, 340, 341, 342, 343, 344, 345, 346, 347, 348, 349, 350, 351, 352, 353, 354, 198, 199, 200, 185, 186, 355, 356, 357, 358, 359, 360, 361, 362, 363, 364, 365, 366, 367, 368, 369, 370, 371, 372, 373, 374, 375, 376, 377, 378, 379, 380, 381, 382, 383, 384, 385, 386, 387, 388, 389, 390, 391, 392, 144, 393, 394, 843, 844, 845, 846, 847, 848, 849, 850, 851, 902, 903, 904, 905, 906, 907, 892, 893, 894, 895, 896, 897, 898, 899, 900, 901, 876, 877, 878, 879, 880, 881, 882, 883, 884, 885, 886, 887, 888, 889, 890, 891] (by decide +kernel) (by decide +kernel)
set_option maxRecDepth 20000 in
theorem gL_law_X7_judge : GoodIn wsL_law (wsV RL 50 RX7 yX7_judge wsX7_judge) := goodIn_app (goodIn_of _ (by decide +kernel)) ggL_law_X7_judge
set_option maxRecDepth 20000 in
theorem ggL_law_X8_judge : GoodIn wsL_law wsX8_judge := goodIn_r _ [398, 399, 156, 157, 5, 158, 277, 278, 279, 280, 233, 119, 400, 401, 402, 403, 404, 112, 405, 406, 407, 408, 409, 410, 111, 411, 412, 413, 414, 415, 416, 417, 418, 117, 419, 420, 421, 422, 172, 423, 424, 425, 426, 208, 209, 210, 211, 192, 212, 213, 214, 427, 428, 429, 430, 431, 432, 433, 434, 120, 115, 435, 436, 437, 438, 439, 440, 441, 442, 116, 443, 444, 445, 446, 113, 114, 852, 853, 854, 855, 856, 857, 858, 859, 860, 861, 862, 863, 864, 865, 866, 867, 868, 869, 870, 871, 872, 873, 874, 875] (by decide +kernel) (by decide +kernel)
set_option maxRecDepth 20000 in
theorem gL_law_X8_judge : GoodIn wsL_law (wsV RL 53 RX8 yX8_judge wsX8_judge) := goodIn_app (goodIn_of _ (by decide +kernel)) ggL_law_X8_judge
set_option maxRecDepth 20000 in
theorem ggL_law_X7_done : GoodIn wsL_law wsX7_done := goodIn_r _ [450, 15, 30, 451, 22, 227, 452, 453, 454, 455, 2, 456, 285, 246, 247, 248, 21, 249, 250, 251, 252, 253, 254, 255, 256, 257, 258, 259, 260, 66, 261, 262, 263, 264, 67, 68, 69, 265, 266, 267, 268, 269, 270, 271, 272, 287, 288, 289, 29, 290, 79, 80, 81, 82, 83, 85, 291, 292, 293, 294, 295, 296, 297, 298, 14, 299, 300, 301, 201, 302, 303, 48, 304, 305, 306, 307, 49, 50, 51, 52, 53, 54, 55, 56, 57, 58, 308, 309, 310, 25, 311, 73, 312, 313, 314, 315, 316, 317, 74, 318, 319, 320, 321, 60, 61, 62, 322, 323, 324, 325, 326, 327, 328, 329, 202, 203, 330, 331, 332, 333, 334, 335, 336, 337, 338, 339, 340, 341, 342, 343, 344, 345, 346, 347, 348, 349, 350, 351, 352, 353, 354, 198, 199, 200, 185, 186, 355, 356, 357, 358, 359, 360, 361, 362, 363, 364, 365, 366, 367, 368, 369, 370, 371, 372, 373, 374, 375, 376, 377, 378, 379, 380, 381, 382, 383, 384, 385, 386, 387, 388, 389, 390, 391, 392, 144, 393, 394, 457, 843, 844, 845, 846, 847, 848, 849, 850, 851, 902, 903, 904, 905, 906, 907, 892, 893, 894, 895, 896, 897, 898, 899, 900, 901, 876, 877, 878, 879, 880, 881, 882, 883, 884, 885, 886, 887, 888, 889, 890, 891] (by decide +kernel) (by decide +kernel)
set_option maxRecDepth 20000 in
theorem gL_law_X7_done : GoodIn wsL_law (wsV RL 54 RX7 yX7_done wsX7_done) := goodIn_app (goodIn_of _ (by decide +kernel)) ggL_law_X7_done
set_option maxRecDepth 20000 in
theorem ggL_law_X8_done : GoodIn wsL_law wsX8_done := goodIn_r _ [461, 111, 112, 233, 404, 462, 463, 464, 5, 465, 277, 278, 279, 280, 119, 156, 157, 158, 400, 401, 402, 403, 399, 405, 406, 407, 408, 409, 410, 411, 412, 413, 414, 415, 416, 417, 418, 117, 419, 420, 421, 422, 172, 423, 424, 425, 426, 208, 209, 210, 211, 192, 212, 213, 214, 427, 428, 429, 430, 431, 432, 433, 434, 120, 115, 435, 436, 437, 438, 439, 440, 441, 442, 116, 443, 444, 445, 446, 113, 114, 852, 853, 854, 855, 856, 857, 858, 859, 860, 861, 862, 863, 864, 865, 866, 867, 868, 869, 870, 871, 872, 873, 874, 875] (by decide +kernel) (by decide +kernel)
set_option maxRecDepth 20000 in
theorem gL_law_X8_done : GoodIn wsL_law (wsV RL 57 RX8 yX8_done wsX8_done) := goodIn_app (goodIn_of _ (by decide +kernel)) ggL_law_X8_done
set_option maxRecDepth 20000 in
theorem ggL_law_X7_behind : GoodIn wsL_law wsX7_behind := goodIn_r _ [469, 15, 30, 451, 181, 182, 197, 198, 199, 14, 200, 201, 185, 2, 186, 202, 203, 453, 454, 455, 456, 22, 285, 246, 247, 248, 21, 249, 250, 251, 252, 253, 254, 255, 256, 257, 258, 259, 260, 66, 261, 262, 263, 264, 67, 68, 69, 265, 266, 267, 268, 269, 270, 271, 272, 287, 288, 289, 29, 290, 79, 80, 81, 82, 83, 85, 291, 292, 293, 294, 295, 296, 297, 298, 299, 300, 301, 302, 303, 48, 304, 305, 306, 307, 49, 50, 51, 52, 53, 54, 55, 56, 57, 58, 308, 309, 310, 25, 311, 73, 312, 313, 314, 315, 316, 317, 74, 318, 319, 320, 321, 60, 61, 62, 322, 323, 324, 325, 326, 327, 328, 329, 330, 331, 332, 333, 334, 335, 336, 337, 338, 339, 340, 341, 342, 343, 344, 345, 346, 347, 348, 349, 350, 351, 352, 353, 354, 355, 356, 357, 358, 359, 360, 361, 362, 363, 364, 365, 366, 367, 368, 369, 370, 371, 372, 373, 374, 375, 376, 377, 378, 379, 380, 381, 382, 383, 384, 385, 386, 387, 388, 389, 390, 391, 392, 144, 393, 394, 470, 471, 472, 473, 474, 843, 844, 845, 846, 847, 848, 849, 850, 851, 902, 903, 904, 905, 906, 907, 876, 877, 878, 879, 880, 881, 882, 883, 884, 885, 886, 887, 888, 889, 890, 891, 892, 893, 894, 895, 896, 897, 898, 899, 900, 901] (by decide +kernel) (by decide +kernel)
set_option maxRecDepth 20000 in
theorem gL_law_X7_behind : GoodIn wsL_law (wsV RL 58 RX7 yX7_behind wsX7_behind) := goodIn_app (goodIn_of _ (by decide +kernel)) ggL_law_X7_behind
set_option maxRecDepth 20000 in
theorem ggL_law_X8_behind : GoodIn wsL_law wsX8_behind := goodIn_r _ [478, 112, 208, 209, 210, 5, 211, 192, 156, 157, 158, 212, 213, 214, 462, 463, 464, 465, 277, 278, 279, 280, 233, 119, 400, 401, 402, 403, 404, 399, 405, 406, 407, 408, 409, 410, 111, 411, 412, 413, 414, 415, 416, 417, 418, 117, 419, 420, 421, 422, 172, 423, 424, 425, 426, 427, 428, 429, 430, 431, 432, 433, 434, 120, 115, 435, 436, 437, 438, 439, 440, 441, 442, 116, 443, 444, 445, 446, 113, 114, 852, 853, 854, 855, 856, 857, 858, 859, 860, 861, 862, 863, 864, 865, 866, 867, 868, 869, 870, 871, 872, 873, 874, 875] (by decide +kernel) (by decide +kernel)
set_option maxRecDepth 20000 in
theorem gL_law_X8_behind : GoodIn wsL_law (wsV RL 61 RX8 yX8_behind wsX8_behind) := goodIn_app (goodIn_of _ (by decide +kernel)) ggL_law_X8_behind
set_option maxRecDepth 20000 in
theorem ggL_law_X7_seam : GoodIn wsL_law wsX7_seam := goodIn_r _ [482, 30, 451, 483, 26, 484, 131, 132, 2, 133, 453, 454, 455, 456, 22, 15, 285, 246, 247, 248, 21, 249, 250, 251, 252, 253, 254, 255, 256, 257, 258, 259, 260, 66, 261, 262, 263, 264, 67, 68, 69, 265, 266, 267, 268, 269, 270, 271, 272, 287, 288, 289, 29, 290, 79, 80, 81, 82, 83, 85, 291, 292, 293, 294, 295, 296, 297, 298, 14, 299, 300, 301, 201, 302, 303, 48, 304, 305, 306, 307, 49, 50, 51, 52, 53, 54, 55, 56, 57, 58, 308, 309, 310, 25, 311, 73, 312, 313, 314, 315, 316, 317, 74, 318, 319, 320, 321, 60, 61, 62, 322, 323, 324, 325, 326, 327, 328, 329, 202, 203, 330, 331, 332, 333, 334, 335, 336, 337, 338, 339, 340, 341, 342, 343, 344, 345, 346, 347, 348, 349, 350, 351, 352, 353, 354, 198, 199, 200, 185, 186, 355, 356, 357, 358, 359, 360, 361, 362, 363, 364, 365, 366, 367, 368, 369, 370, 371, 372, 373, 374, 375, 376, 377, 378, 379, 380, 381, 382, 383, 384, 385, 386, 387, 388, 389, 390, 391, 392, 144, 393, 394, 485, 843, 844, 845, 846, 847, 848, 849, 850, 851, 902, 903, 904, 905, 906, 907, 876, 877, 878, 879, 880, 881, 882, 883, 884, 885, 886, 887, 888, 889, 890, 891, 899, 900, 901, 892, 893, 894, 895, 896, 897, 898] (by decide +kernel) (by decide +kernel)
set_option maxRecDepth 20000 in
theorem gL_law_X7_seam : GoodIn wsL_law (wsV RL 62 RX7 yX7_seam wsX7_seam) := goodIn_app (goodIn_of _ (by decide +kernel)) ggL_law_X7_seam
set_option maxRecDepth 20000 in
theorem ggL_law_X8_seam : GoodIn wsL_law wsX8_seam := goodIn_r _ [489, 112, 153, 154, 5, 155, 156, 157, 158, 462, 463, 464, 465, 277, 278, 279, 280, 233, 119, 400, 401, 402, 403, 404, 399, 405, 406, 407, 408, 409, 410, 111, 411, 412, 413, 414, 415, 416, 417, 418, 117, 419, 420, 421, 422, 172, 423, 424, 425, 426, 208, 209, 210, 211, 192, 212, 213, 214, 427, 428, 429, 430, 431, 432, 433, 434, 120, 115, 435, 436, 437, 438, 439, 440, 441, 442, 116, 443, 444, 445, 446, 113, 114, 852, 853, 854, 855, 856, 857, 858, 859, 860, 861, 862, 863, 864, 865, 866, 867, 868, 869, 870, 871, 872, 873, 874, 875] (by decide +kernel) (by decide +kernel)
set_option maxRecDepth 20000 in
theorem gL_law_X8_seam : GoodIn wsL_law (wsV RL 65 RX8 yX8_seam wsX8_seam) := goodIn_app (goodIn_of _ (by decide +kernel)) ggL_law_X8_seam
set_option maxRecDepth 20000 in
theorem ggL_law_X7_then : GoodIn wsL_law wsX7_then := goodIn_r _ [493, 26, 30, 451, 494, 495, 496, 497, 453, 454, 455, 2, 456, 22, 15, 285, 246, 247, 248, 21, 249, 250, 251, 252, 253, 254, 255, 256, 257, 258, 259, 260, 66, 261, 262, 263, 264, 67, 68, 69, 265, 266, 267, 268, 269, 270, 271, 272, 287, 288, 289, 29, 290, 79, 80, 81, 82, 83, 85, 291, 292, 293, 294, 295, 296, 297, 298, 14, 299, 300, 301, 201, 302, 303, 48, 304, 305, 306, 307, 49, 50, 51, 52, 53, 54, 55, 56, 57, 58, 308, 309, 310, 25, 311, 73, 312, 313, 314, 315, 316, 317, 74, 318, 319, 320, 321, 60, 61, 62, 322, 323, 324, 325, 326, 327, 328, 329, 202, 203, 330, 331, 332, 333, 334, 335, 336, 337, 338, 339, 340, 341, 342, 343, 344, 345, 346, 347, 348, 349, 350, 351, 352, 353, 354, 198, 199, 200, 185, 186, 355, 356, 357, 358, 359, 360, 361, 362, 363, 364, 365, 366, 367, 368, 369, 370, 371, 372, 373, 374, 375, 376, 377, 378, 379, 380, 381, 382, 383, 384, 385, 386, 387, 388, 389, 390, 391, 392, 144, 393, 394, 485, 498, 499, 500, 501, 843, 844, 845, 846, 847, 848, 849, 850, 851, 902, 903, 904, 905, 906, 907, 899, 900, 901, 876, 877, 878, 879, 880, 881, 882, 883, 884, 885, 886, 887, 888, 889, 890, 891, 892, 893, 894, 895, 896, 897, 898] (by decide +kernel) (by decide +kernel)
set_option maxRecDepth 20000 in
theorem gL_law_X7_then : GoodIn wsL_law (wsV RL 66 RX7 yX7_then wsX7_then) := goodIn_app (goodIn_of _ (by decide +kernel)) ggL_law_X7_then
set_option maxRecDepth 20000 in
theorem ggL_law_X8_then : GoodIn wsL_law wsX8_then := goodIn_r _ [505, 112, 405, 406, 156, 157, 5, 158, 462, 463, 464, 465, 277, 278, 279, 280, 233, 119, 400, 401, 402, 403, 404, 399, 407, 408, 409, 410, 111, 411, 412, 413, 414, 415, 416, 417, 418, 117, 419, 420, 421, 422, 172, 423, 424, 425, 426, 208, 209, 210, 211, 192, 212, 213, 214, 427, 428, 429, 430, 431, 432, 433, 434, 120, 115, 435, 436, 437, 438, 439, 440, 441, 442, 116, 443, 444, 445, 446, 113, 114, 506, 507, 508, 509, 852, 853, 854, 855, 856, 857, 858, 859, 860, 861, 862, 863, 864, 865, 866, 867, 868, 869, 870, 871, 872, 873, 874, 875] (by decide +kernel) (by decide +kernel)
set_option maxRecDepth 20000 in
theorem gL_law_X8_then : GoodIn wsL_law (wsV RL 69 RX8 yX8_then wsX8_then) := goodIn_app (goodIn_of _ (by decide +kernel)) ggL_law_X8_then
set_option maxRecDepth 20000 in
theorem ggL_law_X7_light : GoodIn wsL_law wsX7_light := goodIn_r _ [513, 26, 15, 484, 131, 132, 2, 133, 485, 309, 310, 25, 311, 73, 312, 313, 314, 315, 316, 317, 74, 318, 305, 306, 307, 319, 320, 321, 60, 61, 62, 322, 323, 324, 14, 325, 56, 326, 327, 328, 329, 300, 55, 202, 203, 330, 331, 332, 333, 334, 335, 336, 337, 338, 339, 340, 843, 844, 845, 846, 847, 848, 849, 850, 851, 899, 900, 901, 876, 877, 878, 879, 880, 881, 882, 883, 884, 885, 886, 887, 888, 889, 890, 891] (by decide +kernel) (by decide +kernel)
set_option maxRecDepth 20000 in
theorem gL_law_X7_light : GoodIn wsL_law (wsV RL 70 RX7 yX7_light wsX7_light) := goodIn_app (goodIn_of _ (by decide +kernel)) ggL_law_X7_light
set_option maxRecDepth 20000 in
theorem ggL_law_X8_light : GoodIn wsL_law wsX8_light := goodIn_r _ [517, 153, 154, 5, 155, 156, 157, 158, 407, 408, 409, 410, 112, 111, 405, 406, 415, 416, 417, 418, 117, 419, 420, 421, 422, 172, 423, 424, 425, 426, 208, 209, 210, 211, 192, 212, 213, 214, 427, 428, 429, 430, 852, 853, 854, 855, 856, 857, 858, 859, 860, 861, 862, 863, 864, 865, 866, 867, 868, 869, 870, 871, 872, 873, 874, 875] (by decide +kernel) (by decide +kernel)
set_option maxRecDepth 20000 in
theorem gL_law_X8_light : GoodIn wsL_law (wsV RL 73 RX8 yX8_light wsX8_light) := goodIn_app (goodIn_of _ (by decide +kernel)) ggL_law_X8_light
set_option maxRecDepth 20000 in
theorem ggL_law_X7_shakes : GoodIn wsL_law wsX7_shakes := goodIn_r _ [521, 15, 183, 182, 522, 338, 339, 14, 340, 56, 55, 843, 844, 845, 846, 847, 848, 849, 850, 851, 876, 877, 878, 879, 880, 881, 882, 883, 884, 885, 886, 887, 888, 889, 890, 891] (by decide +kernel) (by decide +kernel)
set_option maxRecDepth 20000 in
theorem gL_law_X7_shakes : GoodIn wsL_law (wsV RL 74 RX7 yX7_shakes wsX7_shakes) := goodIn_app (goodIn_of _ (by decide +kernel)) ggL_law_X7_shakes
set_option maxRecDepth 20000 in
theorem ggL_law_X8_shakes : GoodIn wsL_law wsX8_shakes := goodIn_r _ [526, 112, 407, 408, 409, 5, 410, 111, 405, 406, 423, 424, 425, 426, 208, 209, 210, 211, 192, 156, 157, 158, 212, 213, 214, 852, 853, 854, 855, 856, 857, 858, 859, 860, 861, 862, 863, 864, 865, 866, 867, 868, 869, 870, 871, 872, 873, 874, 875] (by decide +kernel) (by decide +kernel)
set_option maxRecDepth 20000 in
theorem gL_law_X8_shakes : GoodIn wsL_law (wsV RL 77 RX8 yX8_shakes wsX8_shakes) := goodIn_app (goodIn_of _ (by decide +kernel)) ggL_law_X8_shakes
set_option maxRecDepth 20000 in
theorem ggL_law_X7_way : GoodIn wsL_law wsX7_way := goodIn_r _ [530, 26, 15, 34, 531, 494, 532, 533, 131, 132, 2, 133, 485, 309, 310, 25, 311, 73, 312, 313, 314, 315, 316, 317, 74, 318, 305, 306, 307, 319, 320, 321, 60, 61, 62, 322, 323, 324, 14, 325, 56, 326, 327, 328, 329, 300, 55, 202, 203, 330, 331, 332, 333, 334, 335, 336, 337, 338, 339, 340, 534, 535, 536, 33, 537, 90, 538, 539, 540, 541, 542, 843, 844, 845, 846, 847, 848, 849, 850, 851, 876, 877, 878, 879, 880, 881, 882, 883, 884, 885, 886, 887, 888, 889, 890, 891, 899, 900, 901, 908] (by decide +kernel) (by decide +kernel)
set_option maxRecDepth 20000 in
theorem gL_law_X7_way : GoodIn wsL_law (wsV RL 78 RX7 yX7_way wsX7_way) := goodIn_app (goodIn_of _ (by decide +kernel)) ggL_law_X7_way
set_option maxRecDepth 20000 in
theorem ggL_law_X8_way : GoodIn wsL_law wsX8_way := goodIn_r _ [546, 111, 121, 547, 116, 153, 154, 5, 155, 156, 157, 158, 407, 408, 409, 410, 112, 405, 406, 411, 412, 413, 414, 415, 416, 417, 418, 117, 419, 420, 421, 422, 172, 423, 424, 425, 426, 208, 209, 210, 211, 192, 212, 213, 214, 427, 428, 429, 430, 548, 549, 550, 551, 852, 853, 854, 855, 856, 857, 858, 859, 860, 861, 862, 863, 864, 865, 866, 867, 868, 869, 870, 871, 872, 873, 874, 875] (by decide +kernel) (by decide +kernel)
set_option maxRecDepth 20000 in
theorem gL_law_X8_way : GoodIn wsL_law (wsV RL 82 RX8 yX8_way wsX8_way) := goodIn_app (goodIn_of _ (by decide +kernel)) ggL_law_X8_way
set_option maxRecDepth 20000 in
theorem ggL_law_X7_fewest : GoodIn wsL_law wsX7_fewest := goodIn_r _ [555, 556, 557, 558, 2, 559, 15, 166, 187, 143, 144, 145, 146, 147, 148, 560, 202, 203, 843, 844, 845, 846, 847, 848, 849, 850, 851, 876, 877, 878, 879, 880, 881, 882, 883, 884, 885, 886, 887, 888, 889, 890, 891] (by decide +kernel) (by decide +kernel)
set_option maxRecDepth 20000 in
theorem gL_law_X7_fewest : GoodIn wsL_law (wsV RL 83 RX7 yX7_fewest wsX7_fewest) := goodIn_app (goodIn_of _ (by decide +kernel)) ggL_law_X7_fewest
set_option maxRecDepth 20000 in
theorem ggL_law_X8_fewest : GoodIn wsL_law wsX8_fewest := goodIn_r _ [564, 117, 156, 157, 5, 158, 212, 213, 214, 159, 160, 161, 852, 853, 854, 855, 856, 857, 858, 859, 860, 861, 862, 863, 864, 865, 866, 867, 868, 869, 870, 871, 872, 873, 874, 875] (by decide +kernel) (by decide +kernel)
set_option maxRecDepth 20000 in
theorem gL_law_X8_fewest : GoodIn wsL_law (wsV RL 86 RX8 yX8_fewest wsX8_fewest) := goodIn_app (goodIn_of _ (by decide +kernel)) ggL_law_X8_fewest
set_option maxRecDepth 20000 in
theorem ggL_law_X7_keep : GoodIn wsL_law wsX7_keep := goodIn_r _ [568, 15, 569, 570, 571, 14, 572, 474, 323, 324, 325, 56, 187, 143, 144, 145, 146, 147, 148, 573, 574, 575, 2, 576, 560, 202, 203, 577, 331, 332, 333, 300, 55, 334, 335, 316, 336, 337, 338, 339, 340, 843, 844, 845, 846, 847, 848, 849, 850, 851, 876, 877, 878, 879, 880, 881, 882, 883, 884, 885, 886, 887, 888, 889, 890, 891] (by decide +kernel) (by decide +kernel)
set_option maxRecDepth 20000 in
theorem gL_law_X7_keep : GoodIn wsL_law (wsV RL 87 RX7 yX7_keep wsX7_keep) := goodIn_app (goodIn_of _ (by decide +kernel)) ggL_law_X7_keep
set_option maxRecDepth 20000 in
theorem ggL_law_X8_keep : GoodIn wsL_law wsX8_keep := goodIn_r _ [581, 112, 172, 156, 157, 5, 158, 407, 408, 409, 410, 111, 405, 406, 159, 160, 161, 212, 213, 214, 423, 424, 425, 426, 208, 209, 210, 211, 192, 427, 428, 429, 430, 852, 853, 854, 855, 856, 857, 858, 859, 860, 861, 862, 863, 864, 865, 866, 867, 868, 869, 870, 871, 872, 873, 874, 875] (by decide +kernel) (by decide +kernel)
set_option maxRecDepth 20000 in
theorem gL_law_X8_keep : GoodIn wsL_law (wsV RL 90 RX8 yX8_keep wsX8_keep) := goodIn_app (goodIn_of _ (by decide +kernel)) ggL_law_X8_keep
set_option maxRecDepth 20000 in
theorem ggL_law_X7_cut : GoodIn wsL_law wsX7_cut := goodIn_r _ [585, 34, 15, 531, 532, 533, 182, 534, 535, 536, 33, 537, 90, 538, 60, 61, 62, 202, 2, 203, 197, 198, 199, 14, 200, 201, 185, 186, 843, 844, 845, 846, 847, 848, 849, 850, 851, 876, 877, 878, 879, 880, 881, 882, 883, 884, 885, 886, 887, 888, 889, 890, 891, 908] (by decide +kernel) (by decide +kernel)
set_option maxRecDepth 20000 in
theorem gL_law_X7_cut : GoodIn wsL_law (wsV RL 91 RX7 yX7_cut wsX7_cut) := goodIn_app (goodIn_of _ (by decide +kernel)) ggL_law_X7_cut
set_option maxRecDepth 20000 in
theorem ggL_law_X8_cut : GoodIn wsL_law wsX8_cut := goodIn_r _ [589, 111, 192, 121, 547, 548, 549, 550, 5, 551, 116, 212, 213, 214, 852, 853, 854, 855, 856, 857, 858, 859, 860, 861, 862, 863, 864, 865, 866, 867, 868, 869, 870, 871, 872, 873, 874, 875] (by decide +kernel) (by decide +kernel)
set_option maxRecDepth 20000 in
theorem gL_law_X8_cut : GoodIn wsL_law (wsV RL 94 RX8 yX8_cut wsX8_cut) := goodIn_app (goodIn_of _ (by decide +kernel)) ggL_law_X8_cut
set_option maxRecDepth 20000 in
theorem ggL_law_X7_hold : GoodIn wsL_law wsX7_hold := goodIn_r _ [593, 42, 594, 595, 596, 41, 597, 103, 104, 598, 599, 600, 601, 105, 602, 106, 603, 60, 61, 62, 604, 605, 606, 607, 608, 609, 610, 611, 612, 315, 316, 317, 613, 614, 615, 616, 617, 618, 619, 620, 621, 622, 623, 624, 625, 626, 627, 628, 629, 630, 631, 372, 373, 632, 633, 634, 635, 636, 637, 638, 639, 640, 843, 844, 845, 846, 847, 848, 849, 850, 851, 914, 915, 916, 917, 918] (by decide +kernel) (by decide +kernel)
set_option maxRecDepth 20000 in
theorem gL_law_X7_hold : GoodIn wsL_law (wsV RL 95 RX7 yX7_hold wsX7_hold) := goodIn_app (goodIn_of _ (by decide +kernel)) ggL_law_X7_hold
set_option maxRecDepth 20000 in
theorem ggL_law_X8_hold : GoodIn wsL_law wsX8_hold := goodIn_r _ [644, 156, 157, 5, 158, 645, 646, 647, 648, 122, 649, 650, 651, 652, 653, 654, 852, 853, 854, 855, 856, 857, 858, 859, 860, 861, 862, 863, 864, 865, 866, 867, 868, 869, 870, 871, 872, 873, 874, 875] (by decide +kernel) (by decide +kernel)
set_option maxRecDepth 20000 in
theorem gL_law_X8_hold : GoodIn wsL_law (wsV RL 98 RX8 yX8_hold wsX8_hold) := goodIn_app (goodIn_of _ (by decide +kernel)) ggL_law_X8_hold
set_option maxRecDepth 20000 in
theorem ggL_law_X7_round : GoodIn wsL_law wsX7_round := goodIn_r _ [658] (by decide +kernel) (by decide +kernel)
set_option maxRecDepth 20000 in
theorem gL_law_X7_round : GoodIn wsL_law (wsV RL 99 RX7 yX7_round wsX7_round) := goodIn_app (goodIn_of _ (by decide +kernel)) ggL_law_X7_round
set_option maxRecDepth 20000 in
theorem ggL_law_X8_round : GoodIn wsL_law wsX8_round := goodIn_r _ [662, 156, 157, 5, 158] (by decide +kernel) (by decide +kernel)
set_option maxRecDepth 20000 in
theorem gL_law_X8_round : GoodIn wsL_law (wsV RL 103 RX8 yX8_round wsX8_round) := goodIn_app (goodIn_of _ (by decide +kernel)) ggL_law_X8_round
set_option maxRecDepth 20000 in
theorem ggL_law_X7_heard : GoodIn wsL_law wsX7_heard := goodIn_r _ [666, 15, 667, 668, 669, 131, 132, 2, 133, 843, 844, 845, 846, 847, 848, 849, 850, 851, 876, 877, 878, 879, 880, 881, 882, 883, 884, 885, 886, 887, 888, 889, 890, 891] (by decide +kernel) (by decide +kernel)
set_option maxRecDepth 20000 in
theorem gL_law_X7_heard : GoodIn wsL_law (wsV RL 104 RX7 yX7_heard wsX7_heard) := goodIn_app (goodIn_of _ (by decide +kernel)) ggL_law_X7_heard
set_option maxRecDepth 20000 in
theorem ggL_law_X8_heard : GoodIn wsL_law wsX8_heard := goodIn_r _ [673, 674, 118, 153, 154, 5, 155, 156, 157, 158, 852, 853, 854, 855, 856, 857, 858, 859, 860, 861, 862, 863, 864, 865, 866, 867, 868, 869, 870, 871, 872, 873, 874, 875] (by decide +kernel) (by decide +kernel)
set_option maxRecDepth 20000 in
theorem gL_law_X8_heard : GoodIn wsL_law (wsV RL 107 RX8 yX8_heard wsX8_heard) := goodIn_app (goodIn_of _ (by decide +kernel)) ggL_law_X8_heard
set_option maxRecDepth 20000 in
theorem ggL_law_X7_forget : GoodIn wsL_law wsX7_forget := goodIn_r _ [678, 15, 667, 843, 844, 845, 846, 847, 848, 849, 850, 851, 876, 877, 878, 879, 880, 881, 882, 883, 884, 885, 886, 887, 888, 889, 890, 891] (by decide +kernel) (by decide +kernel)
set_option maxRecDepth 20000 in
theorem gL_law_X7_forget : GoodIn wsL_law (wsV RL 108 RX7 yX7_forget wsX7_forget) := goodIn_app (goodIn_of _ (by decide +kernel)) ggL_law_X7_forget
set_option maxRecDepth 20000 in
theorem ggL_law_X8_forget : GoodIn wsL_law wsX8_forget := goodIn_r _ [682, 674, 852, 853, 854, 855, 856, 857, 858, 859, 860, 861, 862, 863, 864, 865, 866, 867, 868, 869, 870, 871, 872, 873, 874, 875] (by decide +kernel) (by decide +kernel)
set_option maxRecDepth 20000 in
theorem gL_law_X8_forget : GoodIn wsL_law (wsV RL 111 RX8 yX8_forget wsX8_forget) := goodIn_app (goodIn_of _ (by decide +kernel)) ggL_law_X8_forget
set_option maxRecDepth 20000 in
theorem ggL_law_X7_losts : GoodIn wsL_law wsX7_losts := goodIn_r _ [686, 38, 15, 687, 688, 689, 37, 690, 96, 691, 692, 95, 693, 694, 695, 696, 697, 698, 60, 61, 62, 699, 535, 536, 33, 537, 90, 538, 202, 2, 203, 700, 701, 702, 703, 704, 705, 706, 707, 143, 144, 145, 146, 147, 148, 708, 709, 710, 711, 712, 713, 714, 389, 390, 391, 392, 393, 394, 843, 844, 845, 846, 847, 848, 849, 850, 851, 909, 910, 911, 912, 913, 876, 877, 878, 879, 880, 881, 882, 883, 884, 885, 886, 887, 888, 889, 890, 891, 908] (by decide +kernel) (by decide +kernel)
set_option maxRecDepth 20000 in
theorem gL_law_X7_losts : GoodIn wsL_law (wsV RL 112 RX7 yX7_losts wsX7_losts) := goodIn_app (goodIn_of _ (by decide +kernel)) ggL_law_X7_losts
set_option maxRecDepth 20000 in
theorem ggL_law_X8_losts : GoodIn wsL_law wsX8_losts := goodIn_r _ [718, 719, 720, 721, 5, 722, 111, 123, 121, 548, 549, 550, 551, 547, 116, 212, 213, 214, 723, 724, 725, 726, 674, 118, 727, 728, 729, 730, 852, 853, 854, 855, 856, 857, 858, 859, 860, 861, 862, 863, 864, 865, 866, 867, 868, 869, 870, 871, 872, 873, 874, 875] (by decide +kernel) (by decide +kernel)
set_option maxRecDepth 20000 in
theorem gL_law_X8_losts : GoodIn wsL_law (wsV RL 115 RX8 yX8_losts wsX8_losts) := goodIn_app (goodIn_of _ (by decide +kernel)) ggL_law_X8_losts
set_option maxRecDepth 20000 in
theorem ggL_law_X7_listen : GoodIn wsL_law wsX7_listen := goodIn_r _ [734, 38, 15, 735, 736, 687, 688, 689, 37, 690, 96, 691, 692, 95, 693, 694, 695, 696, 697, 698, 60, 61, 62, 699, 535, 536, 33, 537, 90, 538, 202, 2, 203, 700, 701, 702, 703, 704, 705, 706, 707, 143, 144, 145, 146, 147, 148, 737, 738, 739, 740, 98, 99, 741, 742, 743, 744, 97, 745, 315, 316, 317, 746, 747, 748, 749, 843, 844, 845, 846, 847, 848, 849, 850, 851, 909, 910, 911, 912, 913, 876, 877, 878, 879, 880, 881, 882, 883, 884, 885, 886, 887, 888, 889, 890, 891, 908] (by decide +kernel) (by decide +kernel)
set_option maxRecDepth 20000 in
theorem gL_law_X7_listen : GoodIn wsL_law (wsV RL 116 RX7 yX7_listen wsX7_listen) := goodIn_app (goodIn_of _ (by decide +kernel)) ggL_law_X7_listen
set_option maxRecDepth 20000 in
theorem ggL_law_X8_listen : GoodIn wsL_law wsX8_listen := goodIn_r _ [753, 547, 124, 156, 157, 5, 158, 719, 720, 721, 722, 111, 123, 121, 548, 549, 550, 551, 116, 212, 213, 214, 723, 724, 725, 726, 674, 118, 727, 728, 729, 730, 852, 853, 854, 855, 856, 857, 858, 859, 860, 861, 862, 863, 864, 865, 866, 867, 868, 869, 870, 871, 872, 873, 874, 875] (by decide +kernel) (by decide +kernel)
set_option maxRecDepth 20000 in
theorem gL_law_X8_listen : GoodIn wsL_law (wsV RL 119 RX8 yX8_listen wsX8_listen) := goodIn_app (goodIn_of _ (by decide +kernel)) ggL_law_X8_listen
set_option maxRecDepth 20000 in
theorem ggL_law_X7_cold : GoodIn wsL_law wsX7_cold := goodIn_r _ [757, 758, 759, 15, 760, 761, 131, 132, 2, 133, 762, 763, 764, 14, 765, 55, 474, 323, 324, 325, 56, 766, 767, 768, 769, 770, 771, 772, 773, 774, 843, 844, 845, 846, 847, 848, 849, 850, 851, 876, 877, 878, 879, 880, 881, 882, 883, 884, 885, 886, 887, 888, 889, 890, 891] (by decide +kernel) (by decide +kernel)
set_option maxRecDepth 20000 in
theorem gL_law_X7_cold : GoodIn wsL_law (wsV RL 120 RX7 yX7_cold wsX7_cold) := goodIn_app (goodIn_of _ (by decide +kernel)) ggL_law_X7_cold
set_option maxRecDepth 20000 in
theorem ggL_law_X8_cold : GoodIn wsL_law wsX8_cold := goodIn_r _ [778, 779, 780, 781, 782, 153, 154, 5, 155, 156, 157, 158, 407, 408, 409, 410, 112, 111, 405, 406, 423, 424, 425, 426, 208, 209, 210, 211, 192, 212, 213, 214, 783, 784, 785, 852, 853, 854, 855, 856, 857, 858, 859, 860, 861, 862, 863, 864, 865, 866, 867, 868, 869, 870, 871, 872, 873, 874, 875] (by decide +kernel) (by decide +kernel)
set_option maxRecDepth 20000 in
theorem gL_law_X8_cold : GoodIn wsL_law (wsV RL 124 RX8 yX8_cold wsX8_cold) := goodIn_app (goodIn_of _ (by decide +kernel)) ggL_law_X8_cold
set_option maxRecDepth 20000 in
theorem ggL_law_X7_year : GoodIn wsL_law wsX7_year := goodIn_r _ [789, 30, 15, 451, 26, 494, 790, 791, 792, 29, 793, 79, 794, 85, 296, 297, 298, 14, 299, 300, 301, 201, 302, 303, 48, 304, 305, 306, 307, 49, 50, 51, 52, 53, 54, 55, 56, 57, 58, 795, 796, 797, 341, 342, 343, 344, 345, 346, 347, 348, 349, 350, 351, 352, 353, 354, 198, 199, 200, 185, 2, 186, 202, 203, 355, 356, 357, 358, 359, 360, 361, 308, 309, 310, 25, 311, 73, 312, 313, 314, 315, 316, 317, 74, 318, 319, 320, 321, 60, 61, 62, 322, 323, 324, 325, 326, 327, 328, 329, 330, 331, 332, 333, 334, 335, 336, 337, 338, 339, 340, 362, 363, 364, 365, 366, 367, 368, 369, 370, 371, 372, 373, 374, 375, 376, 377, 378, 379, 380, 381, 382, 383, 384, 498, 499, 500, 501, 569, 570, 571, 572, 474, 187, 143, 144, 145, 146, 147, 148, 485, 843, 844, 845, 846, 847, 848, 849, 850, 851, 902, 903, 904, 905, 906, 907, 899, 900, 901, 876, 877, 878, 879, 880, 881, 882, 883, 884, 885, 886, 887, 888, 889, 890, 891] (by decide +kernel) (by decide +kernel)
set_option maxRecDepth 20000 in
theorem gL_law_X7_year : GoodIn wsL_law (wsV RL 125 RX7 yX7_year wsX7_year) := goodIn_app (goodIn_of _ (by decide +kernel)) ggL_law_X7_year
set_option maxRecDepth 20000 in
theorem ggL_law_X8_year : GoodIn wsL_law wsX8_year := goodIn_r _ [801, 802, 112, 192, 156, 157, 5, 158, 407, 408, 409, 410, 111, 405, 406, 443, 444, 445, 446, 113, 114, 208, 209, 210, 211, 212, 213, 214, 435, 436, 437, 438, 439, 440, 441, 442, 116, 431, 432, 433, 434, 120, 115, 415, 416, 417, 418, 117, 419, 420, 421, 422, 172, 423, 424, 425, 426, 427, 428, 429, 430, 506, 507, 508, 509, 411, 412, 413, 414, 159, 160, 161, 852, 853, 854, 855, 856, 857, 858, 859, 860, 861, 862, 863, 864, 865, 866, 867, 868, 869, 870, 871, 872, 873, 874, 875] (by decide +kernel) (by decide +kernel)
set_option maxRecDepth 20000 in
theorem gL_law_X8_year : GoodIn wsL_law (wsV RL 128 RX8 yX8_year wsX8_year) := goodIn_app (goodIn_of _ (by decide +kernel)) ggL_law_X8_year
set_option maxRecDepth 20000 in
theorem ggL_law_X7_image : GoodIn wsL_law wsX7_image := goodIn_r _ [806, 16, 15, 18, 457, 297, 298, 14, 299, 300, 301, 201, 302, 303, 48, 304, 305, 306, 307, 49, 50, 51, 52, 53, 54, 55, 56, 57, 58, 843, 844, 845, 846, 847, 848, 849, 850, 851, 876, 877, 878, 879, 880, 881, 882, 883, 884, 885, 886, 887, 888, 889, 890, 891] (by decide +kernel) (by decide +kernel)
set_option maxRecDepth 20000 in
theorem gL_law_X7_image : GoodIn wsL_law (wsV RL 129 RX7 yX7_image wsX7_image) := goodIn_app (goodIn_of _ (by decide +kernel)) ggL_law_X7_image
set_option maxRecDepth 20000 in
theorem ggL_law_X8_image : GoodIn wsL_law wsX8_image := goodIn_r _ [810, 125, 111, 113, 114, 115, 116, 117, 118, 192, 172, 674, 126, 156, 157, 5, 158, 852, 853, 854, 855, 856, 857, 858, 859, 860, 861, 862, 863, 864, 865, 866, 867, 868, 869, 870, 871, 872, 873, 874, 875] (by decide +kernel) (by decide +kernel)
set_option maxRecDepth 20000 in
theorem gL_law_X8_image : GoodIn wsL_law (wsV RL 132 RX8 yX8_image wsX8_image) := goodIn_app (goodIn_of _ (by decide +kernel)) ggL_law_X8_image
set_option maxRecDepth 20000 in
theorem ggL_law_X7_restore : GoodIn wsL_law wsX7_restore := goodIn_r _ [814, 18, 15, 16, 457, 297, 298, 14, 299, 300, 301, 201, 302, 303, 48, 304, 305, 306, 307, 49, 50, 51, 52, 53, 54, 55, 56, 57, 58, 843, 844, 845, 846, 847, 848, 849, 850, 851, 876, 877, 878, 879, 880, 881, 882, 883, 884, 885, 886, 887, 888, 889, 890, 891] (by decide +kernel) (by decide +kernel)
set_option maxRecDepth 20000 in
theorem gL_law_X7_restore : GoodIn wsL_law (wsV RL 133 RX7 yX7_restore wsX7_restore) := goodIn_app (goodIn_of _ (by decide +kernel)) ggL_law_X7_restore
set_option maxRecDepth 20000 in
theorem ggL_law_X8_restore : GoodIn wsL_law wsX8_restore := goodIn_r _ [818, 126, 111, 125, 113, 114, 115, 116, 117, 118, 192, 172, 674, 156, 157, 5, 158, 852, 853, 854, 855, 856, 857, 858, 859, 860, 861, 862, 863, 864, 865, 866, 867, 868, 869, 870, 871, 872, 873, 874, 875] (by decide +kernel) (by decide +kernel)
set_option maxRecDepth 20000 in
theorem gL_law_X8_restore : GoodIn wsL_law (wsV RL 136 RX8 yX8_restore wsX8_restore) := goodIn_app (goodIn_of _ (by decide +kernel)) ggL_law_X8_restore
set_option maxRecDepth 20000 in
theorem ggL_law_X7_told : GoodIn wsL_law wsX7_told := goodIn_r _ [822, 823, 824, 825, 2, 826, 15, 166, 483, 531, 131, 132, 133, 827, 828, 829, 830, 178, 179, 181, 180, 182, 197, 198, 199, 14, 200, 201, 185, 186, 202, 203, 470, 471, 472, 473, 56, 474, 323, 324, 325, 831, 832, 833, 834, 22, 227, 177, 26, 494, 495, 532, 167, 667, 485, 309, 310, 25, 311, 73, 312, 313, 314, 315, 316, 317, 74, 318, 305, 306, 307, 319, 320, 321, 60, 61, 62, 322, 326, 327, 328, 329, 300, 55, 330, 331, 332, 333, 334, 335, 336, 337, 338, 339, 340, 843, 844, 845, 846, 847, 848, 849, 850, 851, 876, 877, 878, 879, 880, 881, 882, 883, 884, 885, 886, 887, 888, 889, 890, 891, 892, 893, 894, 895, 896, 897, 898, 899, 900, 901] (by decide +kernel) (by decide +kernel)
set_option maxRecDepth 20000 in
theorem gL_law_X7_told : GoodIn wsL_law (wsV RL 137 RX7 yX7_told wsX7_told) := goodIn_app (goodIn_of _ (by decide +kernel)) ggL_law_X7_told
set_option maxRecDepth 20000 in
theorem ggL_law_X8_told : GoodIn wsL_law wsX8_told := goodIn_r _ [838, 117, 111, 116, 233, 192, 172, 674, 153, 154, 5, 155, 156, 157, 158, 839, 840, 841, 842, 113, 114, 115, 208, 209, 210, 211, 212, 213, 214, 407, 408, 409, 410, 112, 405, 406, 411, 412, 413, 414, 415, 416, 417, 418, 419, 420, 421, 422, 423, 424, 425, 426, 427, 428, 429, 430, 852, 853, 854, 855, 856, 857, 858, 859, 860, 861, 862, 863, 864, 865, 866, 867, 868, 869, 870, 871, 872, 873, 874, 875] (by decide +kernel) (by decide +kernel)
set_option maxRecDepth 20000 in
theorem gL_law_X8_told : GoodIn wsL_law (wsV RL 140 RX8 yX8_told wsX8_told) := goodIn_app (goodIn_of _ (by decide +kernel)) ggL_law_X8_told
