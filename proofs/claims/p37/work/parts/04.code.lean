-- the links: owner, index, class, slot, nest, place in lw_tbl
def FLK_0 : List (Nat × Nat × Nat × Nat × Bool × Nat) := [(1, 9, 1, 0, false, 86), (1, 15, 1, 1, false, 87), (1, 19, 1, 2, false, 88), (10, 29, 1, 2, true, 89), (7, 136, 1, 2, true, 90), (4, 63, 1, 2, true, 91), (11, 208, 1, 2, true, 92), (5, 9, 5, 0, false, 101), (11, 105, 5, 0, true, 102), (7, 133, 5, 0, true, 103), (5, 20, 5, 1, false, 104), (11, 112, 5, 1, true, 105), (8, 66, 5, 1, true, 106), (7, 102, 5, 1, true, 107), (4, 93, 5, 1, true, 108), (11, 124, 5, 2, true, 109), (7, 220, 5, 2, true, 110), (11, 127, 5, 3, true, 111), (7, 221, 5, 3, true, 112), (11, 137, 5, 4, true, 113), (7, 225, 5, 4, true, 114), (11, 140, 5, 5, true, 115), (7, 222, 5, 5, true, 116), (0, 55, 5, 6, true, 117), (11, 148, 5, 6, true, 118), (0, 43, 5, 7, true, 119), (11, 151, 5, 7, true, 120), (0, 52, 5, 8, true, 121), (11, 154, 5, 8, true, 122), (10, 22, 10, 0, false, 152), (7, 123, 10, 0, true, 153), (11, 184, 10, 0, true, 154), (11, 192, 10, 1, true, 155), (7, 196, 10, 1, true, 156), (11, 193, 10, 2, true, 157), (7, 199, 10, 2, true, 158), (10, 12, 10, 3, false, 159), (8, 71, 10, 3, true, 160), (7, 157, 10, 3, true, 161), (11, 194, 10, 3, true, 162), (10, 18, 10, 4, false, 163), (8, 12, 8, 0, false, 175), (11, 101, 8, 0, true, 176), (0, 33, 8, 0, true, 177), (7, 98, 8, 0, true, 178), (4, 89, 8, 0, true, 179), (8, 23, 8, 1, false, 180), (7, 111, 8, 1, true, 181), (11, 160, 8, 1, true, 182), (4, 78, 8, 1, true, 183), (8, 27, 8, 2, false, 184), (7, 113, 8, 2, true, 185), (11, 157, 8, 2, true, 186), (8, 30, 8, 3, false, 187), (11, 169, 8, 3, true, 188), (4, 59, 8, 3, true, 189), (8, 36, 8, 4, false, 190), (7, 119, 8, 4, true, 191), (11, 180, 8, 4, true, 192), (8, 40, 8, 5, false, 193)]
def FLK_1 : List (Nat × Nat × Nat × Nat × Bool × Nat) := [(8, 44, 8, 6, false, 194), (8, 52, 8, 7, false, 195), (8, 63, 8, 8, false, 196), (8, 60, 8, 9, false, 197), (4, 9, 4, 0, false, 225), (4, 25, 4, 1, false, 226), (7, 56, 4, 1, true, 227), (11, 285, 4, 1, true, 228), (4, 15, 4, 2, false, 229), (4, 21, 4, 3, false, 230), (7, 77, 4, 3, true, 231), (11, 298, 4, 3, true, 232), (4, 18, 4, 4, false, 233), (4, 35, 4, 5, false, 234), (2, 9, 2, 0, false, 254), (9, 21, 2, 1, true, 255), (2, 19, 2, 1, false, 256), (2, 22, 2, 2, false, 257), (9, 81, 2, 2, true, 258), (6, 9, 6, 0, false, 272), (6, 15, 6, 1, false, 273), (6, 18, 6, 2, false, 274), (11, 277, 6, 2, true, 275), (7, 11, 7, 0, false, 290), (7, 17, 7, 1, false, 291), (7, 21, 7, 2, false, 292), (7, 24, 7, 3, false, 293), (7, 27, 7, 4, false, 294), (7, 31, 7, 5, false, 295), (7, 34, 7, 6, false, 296), (7, 37, 7, 7, false, 297), (7, 40, 7, 8, false, 298), (7, 43, 7, 9, false, 299), (7, 46, 7, 10, false, 300), (7, 49, 7, 11, false, 301), (11, 388, 7, 11, true, 302), (7, 53, 7, 12, false, 303), (0, 21, 7, 12, true, 304), (9, 78, 7, 12, true, 305), (7, 61, 7, 13, false, 306), (7, 65, 7, 14, false, 307), (7, 68, 7, 15, false, 308), (7, 71, 7, 16, false, 309), (0, 15, 7, 17, true, 310), (7, 74, 7, 17, false, 311), (0, 9, 0, 0, false, 356), (9, 7, 9, 0, false, 366), (9, 13, 9, 1, false, 367), (9, 17, 9, 2, false, 368), (3, 9, 3, 0, false, 382), (3, 15, 3, 1, false, 383), (3, 18, 3, 2, false, 384), (11, 312, 3, 2, true, 385), (11, 9, 11, 0, false, 393), (11, 89, 11, 1, false, 394), (11, 15, 11, 2, false, 395), (11, 230, 11, 3, false, 396), (11, 20, 11, 4, false, 397), (11, 27, 11, 5, false, 398), (11, 31, 11, 6, false, 399)]
def FLK_2 : List (Nat × Nat × Nat × Nat × Bool × Nat) := [(11, 37, 11, 7, false, 400), (11, 44, 11, 8, false, 401), (11, 51, 11, 9, false, 402), (11, 58, 11, 10, false, 403), (11, 67, 11, 11, false, 404), (11, 74, 11, 12, false, 405), (11, 267, 11, 13, false, 406), (11, 424, 11, 14, false, 407), (11, 78, 11, 15, false, 408)]
def FLK : List (Nat × Nat × Nat × Nat × Bool × Nat) := FLK_0 ++ (FLK_1 ++ (FLK_2))
def CLK_0 : List (Nat × Nat × Nat × Nat × Nat) := [(13, 155, 0, 2, 61), (11, 19, 230, 4, 70), (8, 11, 195, 4, 76), (5, 17, 154, 2, 82), (8, 20, 154, 2, 143), (8, 35, 246, 4, 146), (10, 9, 154, 2, 151), (11, 26, 183, 4, 221), (11, 36, 171, 4, 250), (11, 43, 197, 4, 268), (11, 50, 202, 4, 285), (11, 57, 150, 4, 352), (11, 64, 239, 2, 362), (11, 73, 177, 4, 378), (13, 156, 1, 0, 442), (13, 109, 17, 0, 530), (11, 278, 184, 0, 534), (13, 159, 250, 1, 538), (13, 163, 266, 1, 541), (13, 63, 251, 1, 544), (13, 68, 265, 1, 548), (13, 72, 252, 1, 551), (13, 8, 2, 0, 557), (11, 97, 35, 0, 561), (11, 395, 36, 1, 581), (11, 163, 37, 1, 584), (11, 116, 38, 1, 589), (11, 197, 155, 0, 592), (11, 403, 156, 0, 597), (1, 22, 155, 0, 601), (13, 75, 256, 1, 603), (13, 32, 6, 0, 606), (13, 78, 253, 1, 610), (13, 21, 3, 0, 613), (13, 81, 254, 1, 619), (13, 25, 4, 0, 622), (11, 130, 40, 1, 626), (11, 134, 39, 0, 630), (13, 83, 255, 1, 635), (13, 28, 5, 0, 638), (11, 143, 41, 1, 642), (13, 85, 257, 1, 647), (13, 36, 7, 0, 650), (13, 87, 258, 1, 655), (13, 39, 8, 0, 658), (11, 174, 232, 0, 663), (13, 89, 259, 1, 667), (13, 42, 9, 0, 670), (13, 91, 260, 1, 676), (13, 45, 10, 0, 679), (11, 205, 248, 0, 684), (10, 33, 156, 0, 688), (13, 94, 262, 1, 689), (13, 53, 13, 0, 692), (11, 233, 159, 1, 696), (11, 237, 188, 0, 699), (4, 28, 186, 0, 703), (11, 241, 46, 0, 707), (11, 291, 189, 0, 711), (4, 32, 188, 0, 715)]
def CLK_1 : List (Nat × Nat × Nat × Nat × Nat) := [(11, 294, 190, 0, 716), (4, 39, 191, 0, 720), (4, 43, 193, 0, 724), (4, 85, 194, 0, 728), (4, 100, 187, 0, 732), (4, 68, 158, 0, 736), (4, 81, 160, 1, 740), (1, 26, 161, 1, 743), (1, 30, 162, 1, 746), (1, 33, 166, 1, 749), (1, 44, 165, 1, 752), (1, 37, 163, 1, 755), (1, 40, 159, 1, 758), (4, 97, 189, 0, 759), (4, 47, 237, 0, 760), (8, 78, 55, 3, 764), (8, 74, 238, 0, 767), (8, 82, 282, 1, 771), (4, 52, 236, 0, 774), (4, 55, 192, 0, 778), (4, 71, 167, 1, 782), (1, 47, 281, 1, 785), (4, 74, 168, 1, 788), (11, 282, 185, 0, 791), (11, 227, 47, 0, 796), (11, 420, 205, 0, 800), (7, 80, 187, 0, 804), (7, 84, 206, 0, 805), (7, 88, 207, 0, 809), (7, 107, 209, 0, 813), (7, 139, 158, 0, 817), (7, 142, 160, 1, 818), (7, 146, 188, 0, 819), (7, 115, 208, 0, 820), (7, 129, 210, 0, 824), (7, 149, 212, 0, 828), (7, 153, 211, 0, 832), (7, 160, 164, 1, 836), (7, 164, 249, 0, 839), (7, 92, 213, 0, 843), (7, 95, 214, 0, 847), (7, 167, 203, 0, 851), (7, 171, 204, 0, 855), (7, 177, 215, 0, 860), (7, 181, 56, 3, 864), (7, 185, 216, 0, 867), (7, 189, 217, 0, 871), (7, 193, 55, 3, 875), (11, 247, 173, 0, 876), (13, 96, 263, 1, 880), (13, 56, 14, 0, 883), (11, 250, 42, 0, 887), (11, 255, 172, 0, 893), (2, 15, 55, 3, 897), (11, 260, 174, 0, 899), (11, 263, 175, 0, 903), (13, 98, 264, 1, 907), (13, 60, 15, 0, 910), (11, 272, 198, 0, 915), (11, 275, 199, 0, 920)]
def CLK_2 : List (Nat × Nat × Nat × Nat × Nat) := [(6, 22, 198, 0, 924), (13, 100, 11, 0, 925), (11, 211, 231, 0, 929), (8, 47, 196, 0, 933), (5, 24, 157, 0, 937), (8, 50, 157, 0, 941), (8, 51, 247, 0, 942), (10, 26, 157, 0, 946), (13, 103, 261, 1, 947), (13, 49, 12, 0, 950), (11, 214, 233, 0, 954), (8, 56, 234, 0, 958), (8, 69, 169, 0, 962), (1, 53, 158, 0, 966), (1, 56, 170, 1, 967), (11, 217, 235, 0, 970), (11, 222, 45, 0, 975), (13, 167, 267, 1, 980), (13, 106, 20, 0, 983), (11, 309, 48, 0, 987), (11, 423, 178, 0, 991), (11, 319, 203, 0, 995), (11, 427, 240, 0, 996), (9, 27, 222, 0, 1000), (7, 202, 220, 0, 1004), (7, 206, 221, 0, 1008), (7, 209, 223, 0, 1012), (7, 212, 218, 0, 1016), (7, 215, 278, 1, 1020), (9, 33, 241, 0, 1026), (9, 46, 176, 0, 1030), (9, 50, 278, 1, 1034), (9, 55, 224, 0, 1035), (9, 37, 220, 0, 1039), (9, 40, 152, 0, 1040), (0, 25, 217, 0, 1044), (0, 29, 56, 3, 1045), (0, 39, 153, 0, 1046), (0, 48, 151, 0, 1050), (11, 430, 180, 0, 1054), (13, 112, 28, 0, 1058), (11, 322, 179, 0, 1062), (13, 115, 29, 0, 1066), (13, 118, 22, 0, 1070), (11, 313, 44, 0, 1074), (11, 417, 181, 0, 1079), (3, 22, 179, 0, 1083), (13, 121, 25, 0, 1084), (11, 340, 225, 0, 1088), (13, 125, 26, 0, 1092), (11, 344, 53, 0, 1096), (11, 347, 54, 0, 1100), (11, 434, 280, 1, 1104), (11, 351, 200, 0, 1107), (6, 26, 201, 0, 1111), (6, 30, 55, 3, 1115), (13, 128, 30, 0, 1116), (11, 357, 220, 0, 1120), (11, 361, 152, 0, 1121), (11, 365, 151, 0, 1122)]
def CLK_3 : List (Nat × Nat × Nat × Nat × Nat) := [(13, 171, 268, 1, 1123), (13, 131, 18, 0, 1126), (11, 288, 186, 0, 1130), (13, 134, 21, 0, 1131), (13, 137, 23, 0, 1135), (11, 316, 43, 0, 1139), (11, 323, 49, 1, 1144), (13, 140, 27, 0, 1147), (11, 354, 182, 0, 1151), (13, 143, 34, 0, 1155), (11, 390, 245, 0, 1159), (9, 84, 227, 0, 1163), (7, 228, 219, 0, 1167), (13, 146, 33, 0, 1171), (11, 385, 228, 0, 1175), (7, 231, 229, 0, 1179), (11, 368, 55, 1, 1183), (13, 149, 32, 0, 1184), (11, 375, 28, 0, 1188), (11, 378, 242, 0, 1189), (9, 58, 57, 3, 1193), (9, 64, 204, 0, 1196), (9, 68, 243, 1, 1197), (9, 72, 244, 0, 1201), (11, 381, 58, 1, 1205), (11, 440, 279, 1, 1208), (13, 152, 24, 0, 1214), (11, 327, 278, 1, 1218), (11, 334, 50, 0, 1220), (11, 337, 51, 0, 1224), (11, 431, 52, 1, 1228)]
def CLK : List (Nat × Nat × Nat × Nat × Nat) := CLK_0 ++ (CLK_1 ++ (CLK_2 ++ (CLK_3)))
def NLK : List (Nat × Nat × Nat × Nat) := [(13, 9, 11, 59), (11, 13, 8, 67), (8, 9, 5, 74), (5, 15, 1, 80), (8, 18, 1, 142), (8, 33, 10, 144), (10, 7, 1, 150), (11, 24, 4, 219), (11, 34, 2, 248), (11, 41, 6, 266), (11, 48, 7, 283), (7, 9, 8, 289), (11, 55, 0, 350), (11, 62, 9, 360), (11, 71, 3, 376)]
def LLK : List (Nat × Nat × Int × Nat) := [(7, 175, -1, 859), (9, 76, -1, 1200), (15, 314, 6148914691236517205, 1211), (15, 316, 3689348814741910323, 1212), (15, 318, 1085102592571150095, 1213)]
def ILK : List (Nat × Nat × Int × Nat) := [(13, 7, 2147483647, 547), (13, 16, -99999, 602), (14, 265, 1431655765, 1023), (14, 266, 858993459, 1024), (14, 267, 252645135, 1025)]
def OLK : List (Nat × Nat × Nat) := [(11, 1, 64), (8, 3, 73), (5, 3, 79), (1, 3, 85), (10, 1, 149), (4, 3, 224), (2, 3, 253), (6, 3, 271), (7, 3, 288), (0, 3, 355), (9, 1, 365), (3, 3, 381)]
def STK : List (Nat × String) := [(84, "places are 0 to 2"), (94, "there are 6 predicates"), (393, "no such predicate"), (399, "a term is out of range"), (110, "the head has no atoms"), (401, "there are 3"), (120, "a choice is of 0 to 3"), (122, "the head can be no choice"), (407, "no such level"), (405, "the draft has a head"), (409, "no such number"), (146, "a difference is of two numbers, -100 to 100"), (167, "a comparison is of kind 0 to 3, of two terms"), (172, "an interval is of a variable, within 0 to 9"), (178, "the greatest is less than the least"), (190, "the draft has a sum"), (203, "there is no sum, or it has 4 elements"), (245, "there are too many atoms or instances"), (411, "no such atom"), (253, "an external is false (0), true (1) or free (2)"), (258, "the atom is no external"), (270, "a preference is of two atoms"), (273, "there are 6 preferences"), (220, "the draft is not safe, or a choice without atoms"), (225, "there are too many rules, atoms or instances"), (415, "no such answer"), (413, "a bit is for no atom"), (332, "there are more than 8 assumptions")]
def xnm (E : Nat) : String := match E with
  | 0 => "java/lang/IllegalArgumentException"
  | 1 => "java/lang/IllegalStateException"
  | _ => "java/lang/IndexOutOfBoundsException"
def xik (E : Nat) : Nat := match E with
  | 0 => 82
  | 1 => 92
  | _ => 301
def xic (E : Nat) : Nat := match E with
  | 0 => 86
  | 1 => 96
  | _ => 305
def MWP_0 : List (Nat × Nat × Nat × Nat) := [(38, 63, 62, 0), (38, 445, 443, 444), (38, 560, 558, 559), (38, 616, 614, 615), (38, 625, 623, 624), (38, 641, 639, 640), (38, 609, 607, 608), (38, 653, 651, 652), (38, 661, 659, 660), (38, 673, 671, 672), (38, 682, 680, 681), (38, 928, 926, 927), (38, 953, 951, 952), (38, 695, 693, 694), (38, 886, 884, 885), (38, 913, 911, 912), (37, 546, 545, 0), (38, 533, 531, 532), (38, 1129, 1127, 1128), (37, 546, 545, 0), (38, 986, 984, 985), (38, 1134, 1132, 1133), (38, 1073, 1071, 1072), (38, 1138, 1136, 1137), (38, 1217, 1215, 1216), (38, 1087, 1085, 1086), (38, 1095, 1093, 1094), (38, 1150, 1148, 1149), (38, 1061, 1059, 1060), (38, 1069, 1067, 1068), (38, 1119, 1117, 1118), (37, 546, 545, 0), (38, 1187, 1185, 1186), (38, 1174, 1172, 1173), (38, 1158, 1156, 1157), (38, 564, 563, 1), (38, 583, 582, 0), (38, 586, 585, 0), (38, 591, 590, 0), (38, 633, 632, 2), (38, 628, 627, 0), (38, 644, 643, 0), (38, 890, 889, 21), (38, 1142, 1141, 32), (38, 1077, 1076, 28), (38, 978, 977, 23), (38, 710, 709, 3), (38, 799, 798, 9), (38, 990, 989, 24), (38, 1146, 1145, 0), (38, 1223, 1222, 35), (38, 1227, 1226, 36), (38, 1230, 1229, 0), (38, 1099, 1098, 29), (38, 1103, 1102, 30), (38, 766, 765, 0), (38, 866, 865, 0), (38, 1195, 1194, 0), (38, 1207, 1206, 0), (37, 546, 545, 0)]
def MWP_1 : List (Nat × Nat × Nat × Nat) := [(37, 546, 545, 0), (37, 546, 545, 0), (37, 546, 545, 0), (37, 546, 545, 0), (37, 546, 545, 0), (37, 546, 545, 0), (37, 546, 545, 0), (37, 546, 545, 0), (37, 546, 545, 0), (37, 546, 545, 0), (37, 546, 545, 0), (37, 546, 545, 0), (37, 546, 545, 0), (37, 546, 545, 0), (37, 546, 545, 0), (37, 546, 545, 0), (37, 546, 545, 0), (37, 546, 545, 0), (37, 546, 545, 0), (37, 546, 545, 0), (37, 546, 545, 0), (37, 546, 545, 0), (37, 546, 545, 0), (37, 546, 545, 0), (37, 546, 545, 0), (37, 546, 545, 0), (37, 546, 545, 0), (37, 546, 545, 0), (37, 546, 545, 0), (37, 546, 545, 0), (37, 546, 545, 0), (37, 546, 545, 0), (37, 546, 545, 0), (37, 546, 545, 0), (37, 546, 545, 0), (37, 546, 545, 0), (37, 546, 545, 0), (37, 546, 545, 0), (37, 546, 545, 0), (37, 546, 545, 0), (37, 546, 545, 0), (37, 546, 545, 0), (37, 546, 545, 0), (37, 546, 545, 0), (37, 546, 545, 0), (37, 546, 545, 0), (37, 546, 545, 0), (37, 546, 545, 0), (37, 546, 545, 0), (37, 546, 545, 0), (37, 546, 545, 0), (37, 546, 545, 0), (37, 546, 545, 0), (37, 546, 545, 0), (37, 546, 545, 0), (37, 546, 545, 0), (37, 546, 545, 0), (37, 546, 545, 0), (37, 546, 545, 0), (37, 546, 545, 0)]
def MWP_2 : List (Nat × Nat × Nat × Nat) := [(37, 546, 545, 0), (37, 546, 545, 0), (37, 546, 545, 0), (37, 546, 545, 0), (37, 546, 545, 0), (37, 546, 545, 0), (37, 546, 545, 0), (37, 546, 545, 0), (37, 546, 545, 0), (37, 546, 545, 0), (37, 546, 545, 0), (37, 546, 545, 0), (37, 546, 545, 0), (37, 546, 545, 0), (37, 546, 545, 0), (37, 546, 545, 0), (37, 546, 545, 0), (37, 546, 545, 0), (37, 546, 545, 0), (37, 546, 545, 0), (37, 546, 545, 0), (37, 546, 545, 0), (37, 546, 545, 0), (37, 546, 545, 0), (37, 546, 545, 0), (37, 546, 545, 0), (37, 546, 545, 0), (37, 546, 545, 0), (37, 546, 545, 0), (37, 546, 545, 0), (47, 354, 353, 0), (47, 1053, 1051, 1052), (47, 1043, 1041, 1042), (47, 1049, 1048, 27), (41, 84, 83, 0), (41, 595, 593, 594), (41, 600, 598, 599), (41, 940, 938, 939), (41, 739, 737, 738), (41, 698, 697, 0), (41, 742, 741, 0), (41, 745, 744, 0), (41, 748, 747, 0), (41, 757, 756, 0), (41, 838, 837, 0), (41, 754, 753, 0), (41, 751, 750, 0), (41, 784, 783, 0), (41, 790, 789, 0), (41, 965, 963, 964), (41, 969, 968, 0), (44, 252, 251, 0), (44, 896, 894, 895), (44, 879, 877, 878), (44, 902, 900, 901), (44, 906, 904, 905), (44, 1033, 1031, 1032), (49, 380, 379, 0), (49, 994, 992, 993), (49, 1065, 1063, 1064)]
def MWP_3 : List (Nat × Nat × Nat × Nat) := [(49, 1057, 1055, 1056), (49, 1082, 1080, 1081), (49, 1154, 1152, 1153), (43, 223, 222, 0), (43, 537, 535, 536), (43, 794, 792, 793), (43, 706, 704, 705), (43, 735, 733, 734), (43, 702, 700, 701), (43, 714, 712, 713), (43, 719, 717, 718), (43, 723, 722, 4), (43, 781, 780, 8), (43, 727, 726, 5), (43, 731, 730, 6), (40, 78, 77, 0), (40, 936, 934, 935), (45, 270, 269, 0), (45, 918, 916, 917), (45, 923, 921, 922), (45, 1110, 1108, 1109), (45, 1114, 1113, 31), (46, 287, 286, 0), (46, 854, 852, 853), (46, 858, 856, 857), (46, 803, 801, 802), (46, 808, 807, 10), (46, 812, 811, 11), (46, 823, 822, 13), (46, 816, 815, 12), (46, 827, 826, 14), (46, 835, 834, 16), (46, 831, 830, 15), (46, 846, 845, 17), (46, 850, 849, 18), (46, 863, 862, 19), (46, 870, 869, 20), (46, 874, 872, 873), (46, 1019, 1017, 1018), (46, 1170, 1168, 1169), (46, 1007, 1005, 1006), (46, 1011, 1009, 1010), (46, 1003, 1001, 1002), (46, 1015, 1014, 25), (46, 1038, 1036, 1037), (46, 1091, 1089, 1090), (37, 546, 545, 0), (46, 1166, 1164, 1165), (46, 1178, 1176, 1177), (46, 1182, 1181, 33), (39, 72, 71, 0), (39, 932, 930, 931), (39, 666, 664, 665), (39, 957, 955, 956), (39, 961, 960, 22), (39, 973, 971, 972), (39, 777, 775, 776), (39, 763, 761, 762), (39, 770, 769, 7), (48, 364, 363, 0)]
def MWP_4 : List (Nat × Nat × Nat × Nat) := [(48, 999, 997, 998), (48, 1029, 1028, 26), (48, 1192, 1190, 1191), (48, 1199, 1198, 0), (48, 1204, 1203, 34), (48, 1162, 1160, 1161), (42, 148, 147, 0), (42, 945, 943, 944), (42, 687, 685, 686), (42, 842, 840, 841), (37, 540, 539, 0), (37, 546, 545, 0), (37, 553, 552, 0), (37, 612, 611, 0), (37, 621, 620, 0), (37, 637, 636, 0), (37, 605, 604, 0), (37, 649, 648, 0), (37, 657, 656, 0), (37, 669, 668, 0), (37, 678, 677, 0), (37, 949, 948, 0), (37, 691, 690, 0), (37, 882, 881, 0), (37, 909, 908, 0), (37, 550, 549, 0), (37, 543, 542, 0), (37, 982, 981, 0), (37, 1125, 1124, 0), (37, 546, 545, 0), (37, 546, 545, 0), (37, 546, 545, 0), (37, 546, 545, 0), (37, 546, 545, 0), (37, 546, 545, 0), (37, 546, 545, 0), (37, 546, 545, 0), (0, 0, 0, 0), (57, 1022, 1021, 0), (58, 1210, 1209, 0), (58, 1106, 1105, 0), (56, 787, 786, 0), (56, 773, 772, 0)]
def MWP : List (Nat × Nat × Nat × Nat) := MWP_0 ++ (MWP_1 ++ (MWP_2 ++ (MWP_3 ++ (MWP_4))))
-- the methods' code, links resolved, jumps by place; the places' counters
-- 0 StableFoundry <init> ()V
def cc_0 : List Instr := [.aload 0, .monitorenter, .aload 0, .iconst 6, .newarray .int, .putfield 1100, .aload 0, .iconst 20, .anewarray 0, .putfield 1102, .aload 0, .new 8, .dup, .invokespecial 230, .putfield 1104, .aload 0, .new 4, .dup, .invokespecial 183, .putfield 1105, .aload 0, .new 4, .dup, .invokespecial 183, .putfield 1106, .aload 0, .new 2, .dup, .invokespecial 171, .putfield 1107, .aload 0, .new 6, .dup, .invokespecial 197, .putfield 1108, .aload 0, .new 7, .dup, .invokespecial 202, .putfield 1109, .aload 0, .new 0, .dup, .invokespecial 150, .putfield 1110, .aload 0, .new 9, .dup, .aload 0, .getfield 1109, .aload 0, .getfield 1107, .aload 0, .getfield 1110, .invokespecial 239, .putfield 1111, .aload 0, .new 3, .dup, .invokespecial 177, .putfield 1112, .aload 0, .iconst (-1), .putfield 1115, .return_]
def pp_0 : List Nat := [0, 1, 4, 5, 7, 9, 12, 13, 15, 18, 21, 22, 25, 26, 29, 32, 33, 36, 37, 40, 43, 44, 47, 48, 51, 54, 55, 58, 59, 62, 65, 66, 69, 70, 73, 76, 77, 80, 81, 84, 87, 88, 91, 92, 95, 98, 99, 102, 103, 104, 107, 108, 111, 112, 115, 118, 121, 122, 125, 126, 129, 132, 133, 134, 137]
-- 1 StableFoundry predicate (I)I
def cc_1 : List Instr := [.iload 1, .ifCond .lt 5, .iload 1, .iconst 2, .if_icmp .le 10, .ldc 0, .nop, .nop, .nop, .nop, .aload 0, .getfield 1101, .iconst 6, .if_icmp .lt 19, .ldc 1, .nop, .nop, .nop, .nop, .aload 0, .getfield 1100, .aload 0, .getfield 1101, .iload 1, .iastore, .aload 0, .dup, .getfield 1101, .iconst 1, .iadd, .putfield 1101, .aload 0, .getfield 1101, .iconst 1, .isub, .ireturn]
def pp_1 : List Nat := [0, 1, 4, 5, 6, 9, 12, 13, 15, 18, 19, 20, 23, 25, 28, 31, 32, 34, 37, 38, 39, 42, 43, 46, 47, 48, 49, 50, 53, 54, 55, 58, 59, 62, 63, 64]
-- 2 StableFoundry head (III)I
def cc_2 : List Instr := [.aload 0, .iload 1, .iload 2, .iload 3, .iconst (-4), .invokevirtual 35, .aload 0, .getfield 1104, .getfield 800, .getfield 500, .iconst 2, .if_icmp .eq 18, .aload 0, .getfield 1104, .getfield 800, .getfield 500, .iconst 3, .if_icmp .ne 23, .ldc 1, .nop, .nop, .nop, .nop, .aload 0, .getfield 1104, .getfield 800, .getfield 501, .iload 1, .iload 2, .iload 3, .invokestatic 38, .ireturn]
def pp_2 : List Nat := [0, 1, 2, 3, 4, 6, 9, 10, 13, 16, 19, 20, 23, 24, 27, 30, 33, 34, 37, 40, 41, 43, 46, 47, 48, 51, 54, 57, 58, 59, 60, 63]
-- 3 StableFoundry choice (II)V
def cc_3 : List Instr := [.iload 1, .ifCond .lt 11, .iload 1, .iconst 3, .if_icmp .gt 11, .iload 2, .iload 1, .if_icmp .lt 11, .iload 2, .iconst 3, .if_icmp .le 16, .ldc 0, .nop, .nop, .nop, .nop, .aload 0, .getfield 1104, .getfield 800, .getfield 500, .ifCond .eq 26, .ldc 1, .nop, .nop, .nop, .nop, .aload 0, .getfield 1104, .getfield 800, .iconst 1, .putfield 500, .aload 0, .getfield 1104, .getfield 800, .iload 1, .putfield 502, .aload 0, .getfield 1104, .getfield 800, .iload 2, .putfield 503, .return_]
def pp_3 : List Nat := [0, 1, 4, 5, 6, 9, 10, 11, 14, 15, 16, 19, 22, 23, 25, 28, 29, 30, 33, 36, 39, 42, 45, 46, 48, 51, 52, 53, 56, 59, 60, 63, 64, 67, 70, 71, 74, 75, 78, 81, 82, 85]
-- 4 StableFoundry weak (II)V
def cc_4 : List Instr := [.iload 2, .invokestatic 40, .aload 0, .invokevirtual 39, .aload 0, .getfield 1104, .getfield 800, .iconst 2, .putfield 500, .aload 0, .getfield 1104, .getfield 800, .iload 1, .putfield 504, .aload 0, .getfield 1104, .getfield 800, .iload 2, .putfield 505, .return_]
def pp_4 : List Nat := [0, 1, 4, 5, 8, 9, 12, 15, 16, 19, 20, 23, 26, 27, 30, 31, 34, 37, 38, 41]
-- 5 StableFoundry difference (III)V
def cc_5 : List Instr := [.iload 1, .invokestatic 41, .iload 2, .invokestatic 41, .iload 1, .iload 2, .if_icmp .eq 13, .iload 3, .iconst (-100), .if_icmp .lt 13, .iload 3, .iconst 100, .if_icmp .le 18, .ldc 0, .nop, .nop, .nop, .nop, .aload 0, .invokevirtual 39, .aload 0, .getfield 1104, .getfield 800, .iconst 3, .putfield 500, .aload 0, .getfield 1104, .getfield 800, .iload 1, .putfield 506, .aload 0, .getfield 1104, .getfield 800, .iload 2, .putfield 507, .aload 0, .getfield 1104, .getfield 800, .iload 3, .putfield 508, .return_]
def pp_5 : List Nat := [0, 1, 4, 5, 8, 9, 10, 13, 14, 16, 19, 20, 22, 25, 28, 29, 31, 34, 35, 36, 39, 40, 43, 46, 47, 50, 51, 54, 57, 58, 61, 62, 65, 68, 69, 72, 73, 76, 79, 80, 83]
-- 6 StableFoundry body (IIIZ)I
def cc_6 : List Instr := [.aload 0, .iload 1, .iload 2, .iload 3, .iconst (-4), .invokevirtual 35, .iload 4, .ifCond .eq 12, .aload 0, .getfield 1104, .getfield 802, .goto 15, .aload 0, .getfield 1104, .getfield 801, .iload 1, .iload 2, .iload 3, .invokestatic 38, .ireturn]
def pp_6 : List Nat := [0, 1, 2, 3, 4, 6, 9, 11, 14, 15, 18, 21, 24, 25, 28, 31, 32, 33, 34, 37]
-- 7 StableFoundry compare (III)I
def cc_7 : List Instr := [.iload 1, .ifCond .lt 13, .iload 1, .iconst 3, .if_icmp .gt 13, .iload 2, .iconst (-4), .invokestatic 37, .ifCond .eq 13, .iload 3, .iconst (-4), .invokestatic 37, .ifCond .ne 18, .ldc 0, .nop, .nop, .nop, .nop, .aload 0, .getfield 1104, .getfield 803, .iload 1, .iload 2, .iload 3, .invokestatic 38, .ireturn]
def pp_7 : List Nat := [0, 1, 4, 5, 6, 9, 10, 12, 15, 18, 19, 21, 24, 27, 30, 31, 33, 36, 37, 38, 41, 44, 45, 46, 47, 50]
-- 8 StableFoundry interval (III)V
def cc_8 : List Instr := [.iload 1, .ifCond .lt 13, .iload 1, .iconst 4, .if_icmp .ge 13, .iload 2, .ifCond .lt 13, .iload 3, .iload 2, .if_icmp .lt 13, .iload 3, .iconst 10, .if_icmp .lt 18, .ldc 0, .nop, .nop, .nop, .nop, .aload 0, .getfield 1104, .iload 1, .iload 2, .iload 3, .invokevirtual 232, .return_]
def pp_8 : List Nat := [0, 1, 4, 5, 6, 9, 10, 13, 14, 15, 18, 19, 21, 24, 27, 28, 30, 33, 34, 35, 38, 39, 40, 41, 44]
-- 9 StableFoundry sum (II)V
def cc_9 : List Instr := [.iload 2, .iload 1, .if_icmp .ge 8, .ldc 0, .nop, .nop, .nop, .nop, .aload 0, .getfield 1104, .getfield 804, .getfield 1000, .ifCond .eq 18, .ldc 1, .nop, .nop, .nop, .nop, .aload 0, .getfield 1104, .getfield 804, .iconst 1, .putfield 1000, .aload 0, .getfield 1104, .getfield 804, .iload 1, .putfield 1001, .aload 0, .getfield 1104, .getfield 804, .iload 2, .putfield 1002, .return_]
def pp_9 : List Nat := [0, 1, 2, 5, 8, 9, 11, 14, 15, 16, 19, 22, 25, 28, 31, 32, 34, 37, 38, 39, 42, 45, 46, 49, 50, 53, 56, 57, 60, 61, 64, 67, 68, 71]
-- 10 StableFoundry element (IIII)I
def cc_10 : List Instr := [.aload 0, .iload 2, .iload 3, .iload 4, .iconst (-5), .invokevirtual 35, .aload 0, .getfield 1104, .getfield 804, .getfield 1000, .ifCond .eq 17, .aload 0, .getfield 1104, .getfield 804, .getfield 1003, .invokevirtual 155, .ifCond .eq 22, .ldc 1, .nop, .nop, .nop, .nop, .aload 0, .getfield 1104, .getfield 804, .iload 1, .iload 2, .iload 3, .iload 4, .invokevirtual 248, .aload 0, .getfield 1104, .getfield 804, .getfield 1003, .getfield 102, .ireturn]
def pp_10 : List Nat := [0, 1, 2, 3, 5, 7, 10, 11, 14, 17, 20, 23, 24, 27, 30, 33, 36, 39, 42, 43, 45, 48, 49, 50, 53, 56, 57, 58, 59, 61, 64, 65, 68, 71, 74, 77]
-- 11 StableFoundry drop ()V
def cc_11 : List Instr := [.aload 0, .getfield 1104, .invokevirtual 231, .return_]
def pp_11 : List Nat := [0, 1, 4, 7]
-- 12 StableFoundry enter ()I
def cc_12 : List Instr := [.aload 0, .getfield 1104, .invokevirtual 233, .aload 0, .getfield 1104, .invokevirtual 235, .ifCond .eq 19, .aload 0, .getfield 1104, .getfield 800, .getfield 500, .iconst 1, .if_icmp .ne 24, .aload 0, .getfield 1104, .getfield 800, .getfield 501, .getfield 102, .ifCond .ne 24, .ldc 0, .nop, .nop, .nop, .nop, .aload 0, .invokevirtual 45, .ifCond .ne 32, .ldc 1, .nop, .nop, .nop, .nop, .aload 0, .new 8, .dup, .invokespecial 230, .putfield 1104, .aload 0, .invokevirtual 47, .aload 0, .getfield 1103, .iconst 1, .isub, .ireturn]
def pp_12 : List Nat := [0, 1, 4, 7, 8, 11, 14, 17, 18, 21, 24, 27, 28, 31, 32, 35, 38, 41, 44, 47, 50, 51, 53, 56, 57, 58, 61, 64, 67, 68, 70, 73, 74, 75, 78, 79, 82, 85, 86, 89, 90, 93, 94, 95]
-- 13 StableFoundry external (III)I
def cc_13 : List Instr := [.aload 0, .iload 1, .iload 2, .iload 3, .iconst 0, .invokevirtual 35, .iload 1, .iload 2, .iload 3, .invokestatic 159, .istore 4, .aload 0, .getfield 1105, .iload 4, .invokevirtual 188, .iconst (-1), .if_icmp .ne 28, .aload 0, .iload 4, .invokevirtual 46, .ifCond .ne 26, .ldc 1, .nop, .nop, .nop, .nop, .aload 0, .invokevirtual 47, .aload 0, .getfield 1105, .iload 4, .invokevirtual 188, .istore 5, .aload 0, .getfield 1107, .iload 5, .invokevirtual 173, .iload 5, .ireturn]
def pp_13 : List Nat := [0, 1, 2, 3, 4, 5, 8, 9, 10, 11, 14, 16, 17, 20, 22, 25, 26, 29, 30, 32, 35, 38, 41, 42, 44, 47, 48, 49, 52, 53, 56, 58, 61, 63, 64, 67, 69, 72, 74]
-- 14 StableFoundry assign (II)I
def cc_14 : List Instr := [.aload 0, .iload 1, .invokevirtual 42, .iload 2, .ifCond .lt 8, .iload 2, .iconst 2, .if_icmp .le 13, .ldc 0, .nop, .nop, .nop, .nop, .aload 0, .getfield 1107, .iload 1, .invokevirtual 172, .ifCond .ne 23, .ldc 1, .nop, .nop, .nop, .nop, .aload 0, .getfield 1107, .iload 1, .invokevirtual 174, .istore 3, .aload 0, .getfield 1107, .iload 1, .iload 2, .invokevirtual 175, .aload 0, .iconst 0, .putfield 1113, .iload 3, .ireturn]
def pp_14 : List Nat := [0, 1, 2, 5, 6, 9, 10, 11, 14, 17, 18, 20, 23, 24, 25, 28, 29, 32, 35, 38, 39, 42, 45, 46, 47, 50, 51, 54, 55, 56, 59, 60, 61, 64, 65, 66, 69, 70]
-- 15 StableFoundry prefer (II)I
def cc_15 : List Instr := [.aload 0, .iload 1, .invokevirtual 42, .aload 0, .iload 2, .invokevirtual 42, .iload 1, .iload 2, .if_icmp .ne 14, .ldc 0, .nop, .nop, .nop, .nop, .aload 0, .getfield 1108, .invokevirtual 198, .ifCond .eq 23, .ldc 1, .nop, .nop, .nop, .nop, .aload 0, .getfield 1108, .iload 1, .iload 2, .invokevirtual 199, .aload 0, .getfield 1108, .getfield 602, .ireturn]
def pp_15 : List Nat := [0, 1, 2, 5, 6, 7, 10, 11, 12, 15, 18, 19, 22, 25, 26, 27, 30, 33, 36, 39, 40, 43, 46, 47, 48, 51, 52, 53, 56, 57, 60, 63]
-- 16 StableFoundryLaw low (II)I
def cc_16 : List Instr := [.iload 0, .iconst 2147483647, .iand, .iload 1, .irem, .ireturn]
def pp_16 : List Nat := [0, 1, 3, 4, 5, 6]
-- 17 StableFoundry ground ()I
def cc_17 : List Instr := [.aload 0, .getfield 1105, .invokevirtual 184, .ireturn]
def pp_17 : List Nat := [0, 1, 4, 7]
-- 18 StableFoundry groundAnew ()I
def cc_18 : List Instr := [.aload 0, .getfield 1106, .iconst 0, .iconst 0, .invokevirtual 185, .iconst 0, .istore 1, .iload 1, .aload 0, .getfield 1105, .getfield 401, .if_icmp .ge 27, .aload 0, .getfield 1107, .iload 1, .invokevirtual 172, .ifCond .eq 25, .aload 0, .getfield 1106, .aload 0, .getfield 1105, .iload 1, .invokevirtual 186, .invokevirtual 189, .pop, .iinc 1 1, .goto 7, .aload 0, .getfield 1106, .aload 0, .getfield 1102, .aload 0, .getfield 1103, .invokevirtual 190, .pop, .aload 0, .getfield 1106, .invokevirtual 184, .ireturn]
def pp_18 : List Nat := [0, 1, 4, 5, 6, 9, 10, 11, 12, 13, 16, 19, 22, 23, 26, 27, 30, 33, 34, 37, 38, 41, 42, 45, 48, 49, 52, 55, 56, 59, 60, 63, 64, 67, 70, 71, 72, 75, 78]
-- 19 StableFoundryLaw low (II)I
def cc_19 : List Instr := [.iload 0, .iconst 2147483647, .iand, .iload 1, .irem, .ireturn]
def pp_19 : List Nat := [0, 1, 3, 4, 5, 6]
-- 20 StableFoundry answers ()I
def cc_20 : List Instr := [.aload 0, .invokevirtual 48, .aload 0, .getfield 1112, .getfield 302, .ireturn]
def pp_20 : List Nat := [0, 1, 4, 5, 8, 11]
-- 21 StableFoundry answersAnew ()I
def cc_21 : List Instr := [.aload 0, .iconst 0, .putfield 1113, .aload 0, .invokevirtual 48, .aload 0, .getfield 1112, .getfield 302, .ireturn]
def pp_21 : List Nat := [0, 1, 2, 5, 6, 9, 10, 13, 16]
-- 22 StableFoundry answer (I)I
def cc_22 : List Instr := [.aload 0, .iload 1, .invokevirtual 44, .ireturn]
def pp_22 : List Nat := [0, 1, 2, 5]
-- 23 StableFoundry assuming (II)I
def cc_23 : List Instr := [.aload 0, .iload 1, .invokevirtual 43, .aload 0, .iload 2, .invokevirtual 43, .aload 0, .invokevirtual 48, .iconst 0, .istore 3, .iconst 0, .istore 4, .iload 4, .aload 0, .getfield 1109, .invokevirtual 203, .if_icmp .ge 30, .aload 0, .getfield 1112, .iload 4, .invokevirtual 179, .ifCond .eq 28, .iload 4, .iload 1, .iload 2, .invokestatic 49, .ifCond .eq 28, .iinc 3 1, .iinc 4 1, .goto 12, .iload 3, .ireturn]
def pp_23 : List Nat := [0, 1, 2, 5, 6, 7, 10, 11, 14, 15, 16, 17, 19, 21, 22, 25, 28, 31, 32, 35, 37, 40, 43, 45, 46, 47, 50, 53, 56, 59, 62, 63]
-- 24 StableFoundry conflict (II)I
def cc_24 : List Instr := [.aload 0, .iload 1, .invokevirtual 43, .aload 0, .iload 2, .invokevirtual 43, .iload 1, .invokestatic 278, .iload 2, .invokestatic 278, .iadd, .iconst 8, .if_icmp .le 18, .ldc 0, .nop, .nop, .nop, .nop, .aload 0, .invokevirtual 48, .iload 1, .iconst 4096, .iload 2, .imul, .iadd, .istore 3, .aload 0, .iload 3, .invokevirtual 50, .ifCond .eq 32, .iconst (-1), .goto 35, .aload 0, .iload 3, .invokevirtual 51, .ireturn]
def pp_24 : List Nat := [0, 1, 2, 5, 6, 7, 10, 11, 14, 15, 18, 19, 21, 24, 27, 28, 31, 34, 35, 36, 39, 40, 43, 44, 45, 46, 47, 48, 49, 52, 55, 56, 59, 60, 61, 64]
-- 25 StableFoundry cost (II)J
def cc_25 : List Instr := [.aload 0, .iload 1, .invokevirtual 44, .istore 3, .iload 2, .invokestatic 40, .aload 0, .getfield 1109, .iload 3, .iload 2, .invokevirtual 225, .lreturn]
def pp_25 : List Nat := [0, 1, 2, 5, 6, 7, 10, 11, 14, 15, 16, 19]
-- 26 StableFoundry rank (I)I
def cc_26 : List Instr := [.aload 0, .iload 1, .invokevirtual 44, .istore 2, .aload 0, .invokevirtual 53, .aload 0, .iload 2, .aload 0, .getfield 1115, .invokevirtual 54, .ifCond .eq 14, .iconst 0, .ireturn, .iconst 0, .istore 3, .iload 3, .aload 0, .getfield 1109, .invokevirtual 203, .if_icmp .ge 42, .aload 0, .getfield 1112, .iload 3, .invokevirtual 179, .ifCond .eq 40, .aload 0, .getfield 1108, .iload 3, .iload 2, .invokevirtual 200, .ifCond .eq 40, .aload 0, .iload 3, .aload 0, .getfield 1115, .invokevirtual 54, .ifCond .ne 40, .iconst 1, .ireturn, .iinc 3 1, .goto 16, .iconst 2, .ireturn]
def pp_26 : List Nat := [0, 1, 2, 5, 6, 7, 10, 11, 12, 13, 16, 19, 22, 23, 24, 25, 26, 27, 28, 31, 34, 37, 38, 41, 42, 45, 48, 49, 52, 53, 54, 57, 60, 61, 62, 63, 66, 69, 72, 73, 74, 77, 80, 81]
-- 27 StableFoundry projected (I)I
def cc_27 : List Instr := [.aload 0, .iload 1, .invokevirtual 43, .aload 0, .invokevirtual 48, .aload 0, .getfield 1112, .iload 1, .invokevirtual 182, .ireturn]
def pp_27 : List Nat := [0, 1, 2, 5, 6, 9, 10, 13, 14, 17]
-- 28 StableFoundry brave ()I
def cc_28 : List Instr := [.aload 0, .invokevirtual 48, .iconst 0, .istore 1, .iconst 0, .istore 2, .iload 2, .aload 0, .getfield 1109, .invokevirtual 203, .if_icmp .ge 22, .aload 0, .getfield 1112, .iload 2, .invokevirtual 179, .ifCond .eq 20, .iload 1, .iload 2, .ior, .istore 1, .iinc 2 1, .goto 6, .iload 1, .ireturn]
def pp_28 : List Nat := [0, 1, 4, 5, 6, 7, 8, 9, 10, 13, 16, 19, 20, 23, 24, 27, 30, 31, 32, 33, 34, 37, 40, 41]
-- 29 StableFoundry cautious ()I
def cc_29 : List Instr := [.aload 0, .invokevirtual 48, .aload 0, .getfield 1109, .invokevirtual 203, .iconst 1, .isub, .istore 1, .iconst 0, .istore 2, .iload 2, .aload 0, .getfield 1109, .invokevirtual 203, .if_icmp .ge 26, .aload 0, .getfield 1112, .iload 2, .invokevirtual 179, .ifCond .eq 24, .iload 1, .iload 2, .iand, .istore 1, .iinc 2 1, .goto 10, .iload 1, .ireturn]
def pp_29 : List Nat := [0, 1, 4, 5, 8, 11, 12, 13, 14, 15, 16, 17, 18, 21, 24, 27, 28, 31, 32, 35, 38, 39, 40, 41, 42, 45, 48, 49]
-- 30 StableFoundry value (II)I
def cc_30 : List Instr := [.aload 0, .iload 1, .invokevirtual 44, .istore 3, .iload 2, .invokestatic 41, .aload 0, .getfield 1110, .aload 0, .getfield 1109, .aload 0, .getfield 1109, .iload 3, .invokevirtual 220, .invokevirtual 152, .pop, .aload 0, .getfield 1110, .iload 2, .invokevirtual 151, .ireturn]
def pp_30 : List Nat := [0, 1, 2, 5, 6, 7, 10, 11, 14, 15, 18, 19, 22, 23, 26, 29, 30, 31, 34, 35, 38]
-- 31 StableFoundryLaw low (II)I
def cc_31 : List Instr := [.iload 0, .iconst 2147483647, .iand, .iload 1, .irem, .ireturn]
def pp_31 : List Nat := [0, 1, 3, 4, 5, 6]
-- 32 StableFoundry bar (I)I
def cc_32 : List Instr := [.aload 0, .iload 1, .invokevirtual 42, .aload 0, .invokevirtual 28, .iload 1, .invokestatic 55, .ifCond .eq 10, .iconst (-1), .ireturn, .sipush 0, .lstore 2, .iconst 0, .istore 4, .iload 4, .aload 0, .getfield 1109, .invokevirtual 203, .if_icmp .ge 32, .iload 4, .iload 1, .invokestatic 55, .ifCond .eq 30, .lload 2, .aload 0, .getfield 1111, .iload 4, .invokevirtual 242, .lor, .lstore 2, .iinc 4 1, .goto 14, .lload 2, .sipush 0, .lcmp, .ifCond .ne 38, .iconst (-2), .goto 40, .lload 2, .invokestatic 58, .ireturn]
def pp_32 : List Nat := [0, 1, 2, 5, 6, 9, 10, 13, 16, 17, 18, 19, 20, 21, 23, 25, 26, 29, 32, 35, 37, 38, 41, 44, 45, 46, 49, 51, 54, 55, 56, 59, 62, 63, 64, 65, 68, 70, 73, 74, 77]
-- 33 StableFoundry loop (I)I
def cc_33 : List Instr := [.aload 0, .iload 1, .invokevirtual 42, .aload 0, .getfield 1109, .iload 1, .invokevirtual 228, .istore 2, .iload 2, .iload 1, .invokestatic 55, .ifCond .ne 14, .iconst 0, .ireturn, .iconst 0, .istore 3, .iconst 0, .istore 4, .iload 4, .aload 0, .getfield 1109, .getfield 711, .if_icmp .ge 42, .iload 2, .iload 4, .invokestatic 55, .ifCond .eq 40, .aload 0, .getfield 1109, .iload 4, .invokevirtual 228, .iload 1, .invokestatic 55, .ifCond .eq 40, .iload 3, .iconst 1, .iload 4, .ishl, .ior, .istore 3, .iinc 4 1, .goto 18, .iload 3, .ireturn]
def pp_33 : List Nat := [0, 1, 2, 5, 6, 9, 10, 13, 14, 15, 16, 19, 22, 23, 24, 25, 26, 27, 29, 31, 32, 35, 38, 41, 42, 44, 47, 50, 51, 54, 56, 59, 60, 63, 66, 67, 68, 70, 71, 72, 73, 76, 79, 80]
-- 34 StableFoundry unfounded (I)I
def cc_34 : List Instr := [.aload 0, .iload 1, .invokevirtual 43, .iconst 0, .istore 2, .iconst 0, .istore 3, .iload 3, .aload 0, .getfield 1109, .invokevirtual 203, .if_icmp .ge 30, .iload 3, .iload 1, .iconst (-1), .ixor, .iand, .ifCond .ne 28, .aload 0, .getfield 1111, .iload 3, .iload 1, .invokevirtual 245, .ifCond .eq 28, .iload 2, .iload 3, .ior, .istore 2, .iinc 3 1, .goto 7, .iload 2, .ireturn]
def pp_34 : List Nat := [0, 1, 2, 5, 6, 7, 8, 9, 10, 11, 14, 17, 20, 21, 22, 23, 24, 25, 28, 29, 32, 33, 34, 37, 40, 41, 42, 43, 44, 47, 50, 51]
-- 35 StableFoundry checkTerms (IIII)V
def cc_35 : List Instr := [.iload 1, .ifCond .lt 9, .iload 1, .aload 0, .getfield 1101, .if_icmp .ge 9, .iload 1, .iconst 6, .if_icmp .lt 14, .ldc 2, .nop, .nop, .nop, .nop, .aload 0, .getfield 1100, .iload 1, .iaload, .ifCond .le 21, .iconst 1, .goto 22, .iconst 0, .iload 2, .iload 4, .invokestatic 36, .ifCond .eq 39, .aload 0, .getfield 1100, .iload 1, .iaload, .iconst 1, .if_icmp .le 34, .iconst 1, .goto 35, .iconst 0, .iload 3, .iload 4, .invokestatic 36, .ifCond .ne 44, .ldc 0, .nop, .nop, .nop, .nop, .return_]
def pp_35 : List Nat := [0, 1, 4, 5, 6, 9, 12, 13, 15, 18, 21, 22, 25, 28, 29, 30, 33, 34, 35, 38, 39, 42, 43, 44, 46, 49, 52, 53, 56, 57, 58, 59, 62, 63, 66, 67, 68, 70, 73, 76, 79, 80, 83, 86, 87]
-- 36 StableFoundry fits (ZII)Z
def cc_36 : List Instr := [.iload 0, .ifCond .eq 6, .iload 1, .iload 2, .invokestatic 37, .goto 11, .iload 1, .ifCond .ne 10, .iconst 1, .goto 11, .iconst 0, .freturn]
def pp_36 : List Nat := [0, 1, 4, 5, 6, 9, 12, 13, 16, 17, 20, 21]
-- 37 StableFoundry isTerm (II)Z
def cc_37 : List Instr := [.iload 0, .iload 1, .if_icmp .lt 6, .iload 0, .iconst 10, .if_icmp .lt 14, .iload 1, .ifCond .ge 16, .iload 0, .iconst 20, .if_icmp .lt 16, .iload 0, .iconst 24, .if_icmp .ge 16, .iconst 1, .goto 17, .iconst 0, .freturn]
def pp_37 : List Nat := [0, 1, 2, 5, 6, 8, 11, 12, 15, 16, 18, 21, 22, 24, 27, 28, 31, 32]
-- 38 StableFoundry addTo (LStableFoundry$Entries;III)I
def cc_38 : List Instr := [.aload 0, .invokevirtual 155, .ifCond .eq 8, .ldc 1, .nop, .nop, .nop, .nop, .aload 0, .iload 1, .iload 2, .iload 3, .invokevirtual 156, .aload 0, .getfield 102, .ireturn]
def pp_38 : List Nat := [0, 1, 4, 7, 10, 11, 14, 17, 18, 19, 20, 21, 22, 25, 26, 29]
-- 39 StableFoundry checkHeadIsEmpty ()V
def cc_39 : List Instr := [.aload 0, .getfield 1104, .getfield 800, .getfield 500, .ifCond .ne 11, .aload 0, .getfield 1104, .getfield 800, .getfield 501, .getfield 102, .ifCond .le 16, .ldc 1, .nop, .nop, .nop, .nop, .return_]
def pp_39 : List Nat := [0, 1, 4, 7, 10, 13, 14, 17, 20, 23, 26, 29, 32, 33, 36, 39, 40]
-- 40 StableFoundry checkLevel (I)V
def cc_40 : List Instr := [.iload 0, .ifCond .lt 5, .iload 0, .iconst 3, .if_icmp .lt 10, .ldc 2, .nop, .nop, .nop, .nop, .return_]
def pp_40 : List Nat := [0, 1, 4, 5, 6, 9, 12, 13, 16, 19, 20]
-- 41 StableFoundry checkNumber (I)V
def cc_41 : List Instr := [.iload 0, .ifCond .lt 5, .iload 0, .iconst 4, .if_icmp .lt 10, .ldc 2, .nop, .nop, .nop, .nop, .return_]
def pp_41 : List Nat := [0, 1, 4, 5, 6, 9, 12, 13, 16, 19, 20]
-- 42 StableFoundry checkAtom (I)V
def cc_42 : List Instr := [.iload 1, .ifCond .lt 7, .iload 1, .aload 0, .getfield 1105, .getfield 401, .if_icmp .lt 12, .ldc 2, .nop, .nop, .nop, .nop, .return_]
def pp_42 : List Nat := [0, 1, 4, 5, 6, 9, 12, 15, 18, 19, 22, 25, 26]
-- 43 StableFoundry checkSet (I)V
def cc_43 : List Instr := [.iload 1, .ifCond .lt 9, .iload 1, .iconst 1, .aload 0, .getfield 1105, .getfield 401, .ishl, .if_icmp .lt 14, .ldc 0, .nop, .nop, .nop, .nop, .return_]
def pp_43 : List Nat := [0, 1, 4, 5, 6, 7, 10, 13, 14, 17, 20, 21, 24, 27, 28]
-- 44 StableFoundry setOf (I)I
def cc_44 : List Instr := [.aload 0, .invokevirtual 48, .iload 1, .ifCond .lt 9, .iload 1, .aload 0, .getfield 1112, .getfield 302, .if_icmp .lt 14, .ldc 2, .nop, .nop, .nop, .nop, .aload 0, .getfield 1112, .iload 1, .invokevirtual 181, .ireturn]
def pp_44 : List Nat := [0, 1, 4, 5, 8, 9, 10, 13, 16, 19, 22, 23, 26, 29, 30, 31, 34, 35, 38]
-- 45 StableFoundry groundDraft ()Z
def cc_45 : List Instr := [.aload 0, .getfield 1103, .iconst 20, .if_icmp .lt 6, .iconst 0, .freturn, .aload 0, .getfield 1105, .getfield 401, .istore 1, .aload 0, .getfield 1105, .getfield 403, .istore 2, .aload 0, .getfield 1102, .aload 0, .getfield 1103, .aload 0, .getfield 1104, .aastore, .aload 0, .getfield 1105, .aload 0, .getfield 1102, .aload 0, .getfield 1103, .iconst 1, .iadd, .invokevirtual 190, .ifCond .ne 44, .aload 0, .getfield 1102, .aload 0, .getfield 1103, .aconst_null, .aastore, .aload 0, .getfield 1105, .iload 1, .iload 2, .invokevirtual 185, .iconst 0, .freturn, .aload 0, .dup, .getfield 1103, .iconst 1, .iadd, .putfield 1103, .iconst 1, .freturn]
def pp_45 : List Nat := [0, 1, 4, 6, 9, 10, 11, 12, 15, 18, 19, 20, 23, 26, 27, 28, 31, 32, 35, 36, 39, 40, 41, 44, 45, 48, 49, 52, 53, 54, 57, 60, 61, 64, 65, 68, 69, 70, 71, 74, 75, 76, 79, 80, 81, 82, 83, 86, 87, 88, 91, 92]
-- 46 StableFoundry groundExternal (I)Z
def cc_46 : List Instr := [.aload 0, .getfield 1105, .getfield 401, .istore 2, .aload 0, .getfield 1105, .getfield 403, .istore 3, .aload 0, .getfield 1105, .iload 1, .invokevirtual 189, .ifCond .eq 21, .aload 0, .getfield 1105, .aload 0, .getfield 1102, .aload 0, .getfield 1103, .invokevirtual 190, .ifCond .ne 28, .aload 0, .getfield 1105, .iload 2, .iload 3, .invokevirtual 185, .iconst 0, .freturn, .iconst 1, .freturn]
def pp_46 : List Nat := [0, 1, 4, 7, 8, 9, 12, 15, 16, 17, 20, 21, 24, 27, 28, 31, 32, 35, 36, 39, 42, 45, 46, 49, 50, 51, 54, 55, 56, 57]
-- 47 StableFoundry resolve ()V
def cc_47 : List Instr := [.aload 0, .getfield 1109, .aload 0, .getfield 1105, .aload 0, .getfield 1102, .invokevirtual 205, .aload 0, .iconst 0, .putfield 1113, .return_]
def pp_47 : List Nat := [0, 1, 4, 5, 8, 9, 12, 15, 16, 17, 20]
-- 48 StableFoundry search ()V
def cc_48 : List Instr := [.aload 0, .getfield 1113, .ifCond .ne 33, .aload 0, .getfield 1112, .invokevirtual 178, .aload 0, .iconst (-1), .putfield 1115, .aload 0, .iconst 0, .putfield 1114, .iconst 0, .istore 1, .iload 1, .aload 0, .getfield 1109, .invokevirtual 203, .if_icmp .ge 30, .aload 0, .getfield 1111, .iload 1, .invokevirtual 240, .ifCond .eq 28, .aload 0, .getfield 1112, .iload 1, .invokevirtual 180, .iinc 1 1, .goto 14, .aload 0, .iconst 1, .putfield 1113, .return_]
def pp_48 : List Nat := [0, 1, 4, 7, 8, 11, 14, 15, 16, 19, 20, 21, 24, 25, 26, 27, 28, 31, 34, 37, 38, 41, 42, 45, 48, 49, 52, 53, 56, 59, 62, 63, 64, 67]
-- 49 StableFoundry meets (III)Z
def cc_49 : List Instr := [.iload 1, .iload 0, .iconst (-1), .ixor, .iand, .ifCond .ne 12, .iload 2, .iload 0, .iand, .ifCond .ne 12, .iconst 1, .goto 13, .iconst 0, .freturn]
def pp_49 : List Nat := [0, 1, 2, 3, 4, 5, 8, 9, 10, 11, 14, 15, 18, 19]
-- 50 StableFoundry canMeet (I)Z
def cc_50 : List Instr := [.iconst 0, .istore 2, .iload 2, .aload 0, .getfield 1109, .invokevirtual 203, .if_icmp .ge 25, .aload 0, .getfield 1112, .iload 2, .invokevirtual 179, .ifCond .eq 23, .iload 2, .iload 1, .iconst 4095, .iand, .iload 1, .iconst 12, .ishr, .invokestatic 49, .ifCond .eq 23, .iconst 1, .freturn, .iinc 2 1, .goto 2, .iconst 0, .freturn]
def pp_50 : List Nat := [0, 1, 2, 3, 4, 7, 10, 13, 14, 17, 18, 21, 24, 25, 26, 29, 30, 31, 33, 34, 37, 40, 41, 42, 45, 48, 49]
-- 51 StableFoundry leastConflict (I)I
def cc_51 : List Instr := [.iload 1, .istore 2, .iload 1, .istore 3, .iconst 1, .iload 1, .invokestatic 278, .ishl, .istore 4, .iload 4, .iconst 1, .if_icmp .le 30, .iload 3, .iconst 1, .isub, .iload 1, .iand, .istore 3, .iload 3, .iload 2, .invokestatic 52, .ifCond .eq 28, .aload 0, .iload 3, .invokevirtual 50, .ifCond .ne 28, .iload 3, .istore 2, .iinc 4 (-1), .goto 9, .iload 2, .ireturn]
def pp_51 : List Nat := [0, 1, 2, 3, 4, 5, 6, 9, 10, 12, 14, 15, 18, 19, 20, 21, 22, 23, 24, 25, 26, 29, 32, 33, 34, 37, 40, 41, 42, 45, 48, 49]
-- 52 StableFoundry isLess (II)Z
def cc_52 : List Instr := [.iload 0, .invokestatic 278, .iload 1, .invokestatic 278, .isub, .istore 2, .iload 2, .ifCond .lt 13, .iload 2, .ifCond .ne 15, .iload 0, .iload 1, .if_icmp .ge 15, .iconst 1, .goto 16, .iconst 0, .freturn]
def pp_52 : List Nat := [0, 1, 4, 5, 8, 9, 10, 11, 14, 15, 18, 19, 20, 23, 24, 27, 28]
-- 53 StableFoundry findCheapest ()V
def cc_53 : List Instr := [.iconst 0, .istore 1, .iload 1, .aload 0, .getfield 1109, .invokevirtual 203, .if_icmp .ge 30, .aload 0, .getfield 1114, .ifCond .ne 30, .aload 0, .getfield 1112, .iload 1, .invokevirtual 179, .ifCond .eq 28, .aload 0, .getfield 1115, .iconst (-1), .if_icmp .eq 25, .aload 0, .iload 1, .aload 0, .getfield 1115, .invokevirtual 54, .ifCond .ge 28, .aload 0, .iload 1, .putfield 1115, .iinc 1 1, .goto 2, .aload 0, .iconst 1, .putfield 1114, .return_]
def pp_53 : List Nat := [0, 1, 2, 3, 4, 7, 10, 13, 14, 17, 20, 21, 24, 25, 28, 31, 32, 35, 36, 39, 40, 41, 42, 45, 48, 51, 52, 53, 56, 59, 62, 63, 64, 67]
-- 54 StableFoundry compareCosts (II)I
def cc_54 : List Instr := [.iconst 2, .istore 3, .iload 3, .ifCond .lt 22, .aload 0, .getfield 1109, .iload 1, .iload 3, .invokevirtual 225, .aload 0, .getfield 1109, .iload 2, .iload 3, .invokevirtual 225, .invokestatic 280, .istore 4, .iload 4, .ifCond .eq 20, .iload 4, .ireturn, .iinc 3 (-1), .goto 2, .iconst 0, .ireturn]
def pp_54 : List Nat := [0, 1, 2, 3, 6, 7, 10, 11, 12, 15, 16, 19, 20, 21, 24, 27, 29, 31, 34, 36, 37, 40, 43, 44]
-- 55 StableFoundry contains (II)Z
def cc_55 : List Instr := [.iload 0, .iload 1, .ishr, .iconst 1, .iand, .ifCond .eq 8, .iconst 1, .goto 9, .iconst 0, .freturn]
def pp_55 : List Nat := [0, 1, 2, 3, 4, 5, 8, 9, 12, 13]
-- 56 StableFoundry marks (JI)Z
def cc_56 : List Instr := [.lload 0, .iload 2, .lshr, .sipush 1, .land, .sipush 0, .lcmp, .ifCond .eq 10, .iconst 1, .goto 11, .iconst 0, .freturn]
def pp_56 : List Nat := [0, 1, 2, 3, 4, 5, 6, 7, 10, 11, 14, 15]
-- 57 StableFoundry isOne (J)Z
def cc_57 : List Instr := [.lload 0, .sipush 0, .lcmp, .ifCond .eq 14, .lload 0, .lload 0, .sipush 1, .lsub, .land, .sipush 0, .lcmp, .ifCond .ne 14, .iconst 1, .goto 15, .iconst 0, .freturn]
def pp_57 : List Nat := [0, 1, 2, 3, 6, 7, 8, 9, 10, 11, 12, 13, 16, 17, 20, 21]
-- 58 StableFoundry lowestIn (J)I
def cc_58 : List Instr := [.lload 0, .lload 0, .lneg, .land, .sipush 1, .lsub, .invokestatic 279, .ireturn]
def pp_58 : List Nat := [0, 1, 2, 3, 4, 5, 6, 9]
-- 59 StableFoundryLaw low (II)I
def cc_59 : List Instr := [.iload 0, .iconst 2147483647, .iand, .iload 1, .irem, .ireturn]
def pp_59 : List Nat := [0, 1, 3, 4, 5, 6]
-- 60 StableFoundryLaw low (II)I
def cc_60 : List Instr := [.iload 0, .iconst 2147483647, .iand, .iload 1, .irem, .ireturn]
def pp_60 : List Nat := [0, 1, 3, 4, 5, 6]
-- 61 StableFoundryLaw low (II)I
def cc_61 : List Instr := [.iload 0, .iconst 2147483647, .iand, .iload 1, .irem, .ireturn]
def pp_61 : List Nat := [0, 1, 3, 4, 5, 6]
-- 62 StableFoundryLaw low (II)I
def cc_62 : List Instr := [.iload 0, .iconst 2147483647, .iand, .iload 1, .irem, .ireturn]
def pp_62 : List Nat := [0, 1, 3, 4, 5, 6]
-- 63 StableFoundryLaw low (II)I
def cc_63 : List Instr := [.iload 0, .iconst 2147483647, .iand, .iload 1, .irem, .ireturn]
def pp_63 : List Nat := [0, 1, 3, 4, 5, 6]
-- 64 StableFoundryLaw low (II)I
def cc_64 : List Instr := [.iload 0, .iconst 2147483647, .iand, .iload 1, .irem, .ireturn]
def pp_64 : List Nat := [0, 1, 3, 4, 5, 6]
-- 65 StableFoundryLaw low (II)I
def cc_65 : List Instr := [.iload 0, .iconst 2147483647, .iand, .iload 1, .irem, .ireturn]
def pp_65 : List Nat := [0, 1, 3, 4, 5, 6]
-- 66 StableFoundryLaw low (II)I
def cc_66 : List Instr := [.iload 0, .iconst 2147483647, .iand, .iload 1, .irem, .ireturn]
def pp_66 : List Nat := [0, 1, 3, 4, 5, 6]
-- 67 StableFoundryLaw low (II)I
def cc_67 : List Instr := [.iload 0, .iconst 2147483647, .iand, .iload 1, .irem, .ireturn]
def pp_67 : List Nat := [0, 1, 3, 4, 5, 6]
-- 68 StableFoundryLaw low (II)I
def cc_68 : List Instr := [.iload 0, .iconst 2147483647, .iand, .iload 1, .irem, .ireturn]
def pp_68 : List Nat := [0, 1, 3, 4, 5, 6]
-- 69 StableFoundryLaw low (II)I
def cc_69 : List Instr := [.iload 0, .iconst 2147483647, .iand, .iload 1, .irem, .ireturn]
def pp_69 : List Nat := [0, 1, 3, 4, 5, 6]
-- 70 StableFoundryLaw low (II)I
def cc_70 : List Instr := [.iload 0, .iconst 2147483647, .iand, .iload 1, .irem, .ireturn]
def pp_70 : List Nat := [0, 1, 3, 4, 5, 6]
-- 71 StableFoundryLaw low (II)I
def cc_71 : List Instr := [.iload 0, .iconst 2147483647, .iand, .iload 1, .irem, .ireturn]
def pp_71 : List Nat := [0, 1, 3, 4, 5, 6]
-- 72 StableFoundryLaw low (II)I
def cc_72 : List Instr := [.iload 0, .iconst 2147483647, .iand, .iload 1, .irem, .ireturn]
def pp_72 : List Nat := [0, 1, 3, 4, 5, 6]
-- 73 StableFoundryLaw low (II)I
def cc_73 : List Instr := [.iload 0, .iconst 2147483647, .iand, .iload 1, .irem, .ireturn]
def pp_73 : List Nat := [0, 1, 3, 4, 5, 6]
-- 74 StableFoundryLaw low (II)I
def cc_74 : List Instr := [.iload 0, .iconst 2147483647, .iand, .iload 1, .irem, .ireturn]
def pp_74 : List Nat := [0, 1, 3, 4, 5, 6]
-- 75 StableFoundryLaw low (II)I
def cc_75 : List Instr := [.iload 0, .iconst 2147483647, .iand, .iload 1, .irem, .ireturn]
def pp_75 : List Nat := [0, 1, 3, 4, 5, 6]
-- 76 StableFoundryLaw low (II)I
def cc_76 : List Instr := [.iload 0, .iconst 2147483647, .iand, .iload 1, .irem, .ireturn]
def pp_76 : List Nat := [0, 1, 3, 4, 5, 6]
-- 77 StableFoundryLaw low (II)I
def cc_77 : List Instr := [.iload 0, .iconst 2147483647, .iand, .iload 1, .irem, .ireturn]
def pp_77 : List Nat := [0, 1, 3, 4, 5, 6]
-- 78 StableFoundryLaw low (II)I
def cc_78 : List Instr := [.iload 0, .iconst 2147483647, .iand, .iload 1, .irem, .ireturn]
def pp_78 : List Nat := [0, 1, 3, 4, 5, 6]
-- 79 StableFoundryLaw low (II)I
def cc_79 : List Instr := [.iload 0, .iconst 2147483647, .iand, .iload 1, .irem, .ireturn]
def pp_79 : List Nat := [0, 1, 3, 4, 5, 6]
-- 80 StableFoundryLaw low (II)I
def cc_80 : List Instr := [.iload 0, .iconst 2147483647, .iand, .iload 1, .irem, .ireturn]
def pp_80 : List Nat := [0, 1, 3, 4, 5, 6]
-- 81 StableFoundryLaw low (II)I
def cc_81 : List Instr := [.iload 0, .iconst 2147483647, .iand, .iload 1, .irem, .ireturn]
def pp_81 : List Nat := [0, 1, 3, 4, 5, 6]
-- 82 StableFoundryLaw low (II)I
def cc_82 : List Instr := [.iload 0, .iconst 2147483647, .iand, .iload 1, .irem, .ireturn]
def pp_82 : List Nat := [0, 1, 3, 4, 5, 6]
-- 83 StableFoundryLaw low (II)I
def cc_83 : List Instr := [.iload 0, .iconst 2147483647, .iand, .iload 1, .irem, .ireturn]
def pp_83 : List Nat := [0, 1, 3, 4, 5, 6]
-- 84 StableFoundryLaw low (II)I
def cc_84 : List Instr := [.iload 0, .iconst 2147483647, .iand, .iload 1, .irem, .ireturn]
def pp_84 : List Nat := [0, 1, 3, 4, 5, 6]
-- 85 StableFoundryLaw low (II)I
def cc_85 : List Instr := [.iload 0, .iconst 2147483647, .iand, .iload 1, .irem, .ireturn]
def pp_85 : List Nat := [0, 1, 3, 4, 5, 6]
-- 86 StableFoundryLaw low (II)I
def cc_86 : List Instr := [.iload 0, .iconst 2147483647, .iand, .iload 1, .irem, .ireturn]
def pp_86 : List Nat := [0, 1, 3, 4, 5, 6]
-- 87 StableFoundryLaw low (II)I
def cc_87 : List Instr := [.iload 0, .iconst 2147483647, .iand, .iload 1, .irem, .ireturn]
def pp_87 : List Nat := [0, 1, 3, 4, 5, 6]
-- 88 StableFoundryLaw low (II)I
def cc_88 : List Instr := [.iload 0, .iconst 2147483647, .iand, .iload 1, .irem, .ireturn]
def pp_88 : List Nat := [0, 1, 3, 4, 5, 6]
-- 89 StableFoundryLaw low (II)I
def cc_89 : List Instr := [.iload 0, .iconst 2147483647, .iand, .iload 1, .irem, .ireturn]
def pp_89 : List Nat := [0, 1, 3, 4, 5, 6]
-- 90 StableFoundryLaw low (II)I
def cc_90 : List Instr := [.iload 0, .iconst 2147483647, .iand, .iload 1, .irem, .ireturn]
def pp_90 : List Nat := [0, 1, 3, 4, 5, 6]
-- 91 StableFoundryLaw low (II)I
def cc_91 : List Instr := [.iload 0, .iconst 2147483647, .iand, .iload 1, .irem, .ireturn]
def pp_91 : List Nat := [0, 1, 3, 4, 5, 6]
-- 92 StableFoundryLaw low (II)I
def cc_92 : List Instr := [.iload 0, .iconst 2147483647, .iand, .iload 1, .irem, .ireturn]
def pp_92 : List Nat := [0, 1, 3, 4, 5, 6]
-- 93 StableFoundryLaw low (II)I
def cc_93 : List Instr := [.iload 0, .iconst 2147483647, .iand, .iload 1, .irem, .ireturn]
def pp_93 : List Nat := [0, 1, 3, 4, 5, 6]
-- 94 StableFoundryLaw low (II)I
def cc_94 : List Instr := [.iload 0, .iconst 2147483647, .iand, .iload 1, .irem, .ireturn]
def pp_94 : List Nat := [0, 1, 3, 4, 5, 6]
-- 95 StableFoundryLaw low (II)I
def cc_95 : List Instr := [.iload 0, .iconst 2147483647, .iand, .iload 1, .irem, .ireturn]
def pp_95 : List Nat := [0, 1, 3, 4, 5, 6]
-- 96 StableFoundryLaw low (II)I
def cc_96 : List Instr := [.iload 0, .iconst 2147483647, .iand, .iload 1, .irem, .ireturn]
def pp_96 : List Nat := [0, 1, 3, 4, 5, 6]
-- 97 StableFoundryLaw low (II)I
def cc_97 : List Instr := [.iload 0, .iconst 2147483647, .iand, .iload 1, .irem, .ireturn]
def pp_97 : List Nat := [0, 1, 3, 4, 5, 6]
-- 98 StableFoundryLaw low (II)I
def cc_98 : List Instr := [.iload 0, .iconst 2147483647, .iand, .iload 1, .irem, .ireturn]
def pp_98 : List Nat := [0, 1, 3, 4, 5, 6]
-- 99 StableFoundryLaw low (II)I
def cc_99 : List Instr := [.iload 0, .iconst 2147483647, .iand, .iload 1, .irem, .ireturn]
def pp_99 : List Nat := [0, 1, 3, 4, 5, 6]
-- 100 StableFoundryLaw low (II)I
def cc_100 : List Instr := [.iload 0, .iconst 2147483647, .iand, .iload 1, .irem, .ireturn]
def pp_100 : List Nat := [0, 1, 3, 4, 5, 6]
-- 101 StableFoundryLaw low (II)I
def cc_101 : List Instr := [.iload 0, .iconst 2147483647, .iand, .iload 1, .irem, .ireturn]
def pp_101 : List Nat := [0, 1, 3, 4, 5, 6]
-- 102 StableFoundryLaw low (II)I
def cc_102 : List Instr := [.iload 0, .iconst 2147483647, .iand, .iload 1, .irem, .ireturn]
def pp_102 : List Nat := [0, 1, 3, 4, 5, 6]
-- 103 StableFoundryLaw low (II)I
def cc_103 : List Instr := [.iload 0, .iconst 2147483647, .iand, .iload 1, .irem, .ireturn]
def pp_103 : List Nat := [0, 1, 3, 4, 5, 6]
-- 104 StableFoundryLaw low (II)I
def cc_104 : List Instr := [.iload 0, .iconst 2147483647, .iand, .iload 1, .irem, .ireturn]
def pp_104 : List Nat := [0, 1, 3, 4, 5, 6]
-- 105 StableFoundryLaw low (II)I
def cc_105 : List Instr := [.iload 0, .iconst 2147483647, .iand, .iload 1, .irem, .ireturn]
def pp_105 : List Nat := [0, 1, 3, 4, 5, 6]
-- 106 StableFoundryLaw low (II)I
def cc_106 : List Instr := [.iload 0, .iconst 2147483647, .iand, .iload 1, .irem, .ireturn]
def pp_106 : List Nat := [0, 1, 3, 4, 5, 6]
-- 107 StableFoundryLaw low (II)I
def cc_107 : List Instr := [.iload 0, .iconst 2147483647, .iand, .iload 1, .irem, .ireturn]
def pp_107 : List Nat := [0, 1, 3, 4, 5, 6]
-- 108 StableFoundryLaw low (II)I
def cc_108 : List Instr := [.iload 0, .iconst 2147483647, .iand, .iload 1, .irem, .ireturn]
def pp_108 : List Nat := [0, 1, 3, 4, 5, 6]
-- 109 StableFoundryLaw low (II)I
def cc_109 : List Instr := [.iload 0, .iconst 2147483647, .iand, .iload 1, .irem, .ireturn]
def pp_109 : List Nat := [0, 1, 3, 4, 5, 6]
-- 110 StableFoundryLaw low (II)I
def cc_110 : List Instr := [.iload 0, .iconst 2147483647, .iand, .iload 1, .irem, .ireturn]
def pp_110 : List Nat := [0, 1, 3, 4, 5, 6]
-- 111 StableFoundryLaw low (II)I
def cc_111 : List Instr := [.iload 0, .iconst 2147483647, .iand, .iload 1, .irem, .ireturn]
def pp_111 : List Nat := [0, 1, 3, 4, 5, 6]
-- 112 StableFoundryLaw low (II)I
def cc_112 : List Instr := [.iload 0, .iconst 2147483647, .iand, .iload 1, .irem, .ireturn]
def pp_112 : List Nat := [0, 1, 3, 4, 5, 6]
-- 113 StableFoundryLaw low (II)I
def cc_113 : List Instr := [.iload 0, .iconst 2147483647, .iand, .iload 1, .irem, .ireturn]
def pp_113 : List Nat := [0, 1, 3, 4, 5, 6]
-- 114 StableFoundryLaw low (II)I
def cc_114 : List Instr := [.iload 0, .iconst 2147483647, .iand, .iload 1, .irem, .ireturn]
def pp_114 : List Nat := [0, 1, 3, 4, 5, 6]
-- 115 StableFoundryLaw low (II)I
def cc_115 : List Instr := [.iload 0, .iconst 2147483647, .iand, .iload 1, .irem, .ireturn]
def pp_115 : List Nat := [0, 1, 3, 4, 5, 6]
-- 116 StableFoundryLaw low (II)I
def cc_116 : List Instr := [.iload 0, .iconst 2147483647, .iand, .iload 1, .irem, .ireturn]
def pp_116 : List Nat := [0, 1, 3, 4, 5, 6]
-- 117 StableFoundryLaw low (II)I
def cc_117 : List Instr := [.iload 0, .iconst 2147483647, .iand, .iload 1, .irem, .ireturn]
def pp_117 : List Nat := [0, 1, 3, 4, 5, 6]
-- 118 StableFoundryLaw low (II)I
def cc_118 : List Instr := [.iload 0, .iconst 2147483647, .iand, .iload 1, .irem, .ireturn]
def pp_118 : List Nat := [0, 1, 3, 4, 5, 6]
-- 119 StableFoundryLaw low (II)I
def cc_119 : List Instr := [.iload 0, .iconst 2147483647, .iand, .iload 1, .irem, .ireturn]
def pp_119 : List Nat := [0, 1, 3, 4, 5, 6]
-- 120 StableFoundryLaw low (II)I
def cc_120 : List Instr := [.iload 0, .iconst 2147483647, .iand, .iload 1, .irem, .ireturn]
def pp_120 : List Nat := [0, 1, 3, 4, 5, 6]
-- 121 StableFoundryLaw low (II)I
def cc_121 : List Instr := [.iload 0, .iconst 2147483647, .iand, .iload 1, .irem, .ireturn]
def pp_121 : List Nat := [0, 1, 3, 4, 5, 6]
-- 122 StableFoundryLaw low (II)I
def cc_122 : List Instr := [.iload 0, .iconst 2147483647, .iand, .iload 1, .irem, .ireturn]
def pp_122 : List Nat := [0, 1, 3, 4, 5, 6]
-- 123 StableFoundryLaw low (II)I
def cc_123 : List Instr := [.iload 0, .iconst 2147483647, .iand, .iload 1, .irem, .ireturn]
def pp_123 : List Nat := [0, 1, 3, 4, 5, 6]
-- 124 StableFoundryLaw low (II)I
def cc_124 : List Instr := [.iload 0, .iconst 2147483647, .iand, .iload 1, .irem, .ireturn]
def pp_124 : List Nat := [0, 1, 3, 4, 5, 6]
-- 125 StableFoundryLaw low (II)I
def cc_125 : List Instr := [.iload 0, .iconst 2147483647, .iand, .iload 1, .irem, .ireturn]
def pp_125 : List Nat := [0, 1, 3, 4, 5, 6]
-- 126 StableFoundryLaw low (II)I
def cc_126 : List Instr := [.iload 0, .iconst 2147483647, .iand, .iload 1, .irem, .ireturn]
def pp_126 : List Nat := [0, 1, 3, 4, 5, 6]
-- 127 StableFoundryLaw low (II)I
def cc_127 : List Instr := [.iload 0, .iconst 2147483647, .iand, .iload 1, .irem, .ireturn]
def pp_127 : List Nat := [0, 1, 3, 4, 5, 6]
-- 128 StableFoundryLaw low (II)I
def cc_128 : List Instr := [.iload 0, .iconst 2147483647, .iand, .iload 1, .irem, .ireturn]
def pp_128 : List Nat := [0, 1, 3, 4, 5, 6]
-- 129 StableFoundryLaw low (II)I
def cc_129 : List Instr := [.iload 0, .iconst 2147483647, .iand, .iload 1, .irem, .ireturn]
def pp_129 : List Nat := [0, 1, 3, 4, 5, 6]
-- 130 StableFoundryLaw low (II)I
def cc_130 : List Instr := [.iload 0, .iconst 2147483647, .iand, .iload 1, .irem, .ireturn]
def pp_130 : List Nat := [0, 1, 3, 4, 5, 6]
-- 131 StableFoundryLaw low (II)I
def cc_131 : List Instr := [.iload 0, .iconst 2147483647, .iand, .iload 1, .irem, .ireturn]
def pp_131 : List Nat := [0, 1, 3, 4, 5, 6]
-- 132 StableFoundryLaw low (II)I
def cc_132 : List Instr := [.iload 0, .iconst 2147483647, .iand, .iload 1, .irem, .ireturn]
def pp_132 : List Nat := [0, 1, 3, 4, 5, 6]
-- 133 StableFoundryLaw low (II)I
def cc_133 : List Instr := [.iload 0, .iconst 2147483647, .iand, .iload 1, .irem, .ireturn]
def pp_133 : List Nat := [0, 1, 3, 4, 5, 6]
-- 134 StableFoundryLaw low (II)I
def cc_134 : List Instr := [.iload 0, .iconst 2147483647, .iand, .iload 1, .irem, .ireturn]
def pp_134 : List Nat := [0, 1, 3, 4, 5, 6]
-- 135 StableFoundryLaw low (II)I
def cc_135 : List Instr := [.iload 0, .iconst 2147483647, .iand, .iload 1, .irem, .ireturn]
def pp_135 : List Nat := [0, 1, 3, 4, 5, 6]
-- 136 StableFoundryLaw low (II)I
def cc_136 : List Instr := [.iload 0, .iconst 2147483647, .iand, .iload 1, .irem, .ireturn]
def pp_136 : List Nat := [0, 1, 3, 4, 5, 6]
-- 137 StableFoundryLaw low (II)I
def cc_137 : List Instr := [.iload 0, .iconst 2147483647, .iand, .iload 1, .irem, .ireturn]
def pp_137 : List Nat := [0, 1, 3, 4, 5, 6]
-- 138 StableFoundryLaw low (II)I
def cc_138 : List Instr := [.iload 0, .iconst 2147483647, .iand, .iload 1, .irem, .ireturn]
def pp_138 : List Nat := [0, 1, 3, 4, 5, 6]
-- 139 StableFoundryLaw low (II)I
def cc_139 : List Instr := [.iload 0, .iconst 2147483647, .iand, .iload 1, .irem, .ireturn]
def pp_139 : List Nat := [0, 1, 3, 4, 5, 6]
-- 140 StableFoundryLaw low (II)I
def cc_140 : List Instr := [.iload 0, .iconst 2147483647, .iand, .iload 1, .irem, .ireturn]
def pp_140 : List Nat := [0, 1, 3, 4, 5, 6]
-- 141 StableFoundryLaw low (II)I
def cc_141 : List Instr := [.iload 0, .iconst 2147483647, .iand, .iload 1, .irem, .ireturn]
def pp_141 : List Nat := [0, 1, 3, 4, 5, 6]
-- 142 StableFoundryLaw low (II)I
def cc_142 : List Instr := [.iload 0, .iconst 2147483647, .iand, .iload 1, .irem, .ireturn]
def pp_142 : List Nat := [0, 1, 3, 4, 5, 6]
-- 143 StableFoundryLaw low (II)I
def cc_143 : List Instr := [.iload 0, .iconst 2147483647, .iand, .iload 1, .irem, .ireturn]
def pp_143 : List Nat := [0, 1, 3, 4, 5, 6]
-- 144 StableFoundryLaw low (II)I
def cc_144 : List Instr := [.iload 0, .iconst 2147483647, .iand, .iload 1, .irem, .ireturn]
def pp_144 : List Nat := [0, 1, 3, 4, 5, 6]
-- 145 StableFoundryLaw low (II)I
def cc_145 : List Instr := [.iload 0, .iconst 2147483647, .iand, .iload 1, .irem, .ireturn]
def pp_145 : List Nat := [0, 1, 3, 4, 5, 6]
-- 146 StableFoundryLaw low (II)I
def cc_146 : List Instr := [.iload 0, .iconst 2147483647, .iand, .iload 1, .irem, .ireturn]
def pp_146 : List Nat := [0, 1, 3, 4, 5, 6]
-- 147 StableFoundryLaw low (II)I
def cc_147 : List Instr := [.iload 0, .iconst 2147483647, .iand, .iload 1, .irem, .ireturn]
def pp_147 : List Nat := [0, 1, 3, 4, 5, 6]
-- 148 StableFoundryLaw low (II)I
def cc_148 : List Instr := [.iload 0, .iconst 2147483647, .iand, .iload 1, .irem, .ireturn]
def pp_148 : List Nat := [0, 1, 3, 4, 5, 6]
-- 149 StableFoundryLaw low (II)I
def cc_149 : List Instr := [.iload 0, .iconst 2147483647, .iand, .iload 1, .irem, .ireturn]
def pp_149 : List Nat := [0, 1, 3, 4, 5, 6]
-- 150 StableFoundry$Differences <init> ()V
def cc_150 : List Instr := [.aload 0, .monitorenter, .aload 0, .iconst 4, .newarray .int, .putfield 0, .return_]
def pp_150 : List Nat := [0, 1, 4, 5, 6, 8, 11]
-- 151 StableFoundry$Differences greatestOf (I)I
def cc_151 : List Instr := [.iload 1, .ifCond .lt 10, .iload 1, .iconst 4, .if_icmp .ge 10, .aload 0, .getfield 0, .iload 1, .iaload, .goto 11, .iconst 0, .ireturn]
def pp_151 : List Nat := [0, 1, 4, 5, 6, 9, 10, 13, 14, 15, 18, 19]
-- 152 StableFoundry$Differences canHold (LStableFoundry$Program;J)Z
def cc_152 : List Instr := [.iconst 0, .istore 4, .iload 4, .iconst 4, .if_icmp .ge 12, .aload 0, .getfield 0, .iload 4, .iconst 0, .iastore, .iinc 4 1, .goto 2, .lload 2, .aload 1, .getfield 717, .land, .lstore 4, .lload 4, .sipush 0, .lcmp, .ifCond .eq 23, .iconst 1, .goto 24, .iconst 0, .istore 6, .iconst 0, .istore 7, .iload 7, .iconst 4, .if_icmp .gt 61, .iload 6, .ifCond .eq 61, .iconst 0, .istore 6, .iconst 0, .istore 8, .iload 8, .aload 1, .getfield 712, .if_icmp .ge 59, .aload 1, .iload 8, .invokevirtual 217, .astore 9, .aload 9, .ifnull 57, .lload 4, .iload 8, .invokestatic 56, .ifCond .eq 57, .iload 6, .aload 0, .aload 9, .getfield 800, .invokevirtual 153, .ior, .istore 6, .iinc 8 1, .goto 36, .iinc 7 1, .goto 27, .iload 6, .ifCond .ne 65, .iconst 1, .goto 66, .iconst 0, .freturn]
def pp_152 : List Nat := [0, 1, 3, 5, 6, 9, 10, 13, 15, 16, 17, 20, 23, 24, 25, 28, 29, 31, 33, 34, 35, 38, 39, 42, 43, 45, 46, 48, 50, 51, 54, 56, 59, 60, 62, 63, 65, 67, 68, 71, 74, 75, 77, 80, 82, 84, 87, 89, 91, 94, 97, 99, 100, 102, 105, 108, 109, 111, 114, 117, 120, 123, 125, 128, 129, 132, 133]
-- 153 StableFoundry$Differences lower (LStableFoundry$Head;)Z
def cc_153 : List Instr := [.aload 0, .aload 1, .getfield 507, .invokevirtual 151, .aload 1, .getfield 508, .iadd, .istore 2, .aload 1, .getfield 506, .ifCond .lt 22, .aload 1, .getfield 506, .iconst 4, .if_icmp .ge 22, .aload 0, .getfield 0, .aload 1, .getfield 506, .iaload, .iload 2, .if_icmp .gt 24, .iconst 0, .freturn, .aload 0, .getfield 0, .aload 1, .getfield 506, .iload 2, .iastore, .iconst 1, .freturn]
def pp_153 : List Nat := [0, 1, 2, 5, 8, 9, 12, 13, 14, 15, 18, 21, 22, 25, 26, 29, 30, 33, 34, 37, 38, 39, 42, 43, 44, 45, 48, 49, 52, 53, 54, 55]
-- 154 StableFoundry$Entries <init> (I)V
def cc_154 : List Instr := [.aload 0, .monitorenter, .aload 0, .iconst 4, .newarray .int, .putfield 100, .aload 0, .iload 1, .putfield 101, .return_]
def pp_154 : List Nat := [0, 1, 4, 5, 6, 8, 11, 12, 13, 16]
-- 155 StableFoundry$Entries isFull ()Z
def cc_155 : List Instr := [.aload 0, .getfield 102, .aload 0, .getfield 101, .if_icmp .ge 11, .aload 0, .getfield 102, .aload 0, .getfield 100, .arraylength, .if_icmp .lt 13, .iconst 1, .goto 14, .iconst 0, .freturn]
def pp_155 : List Nat := [0, 1, 4, 5, 8, 11, 12, 15, 16, 19, 20, 23, 24, 27, 28]
-- 156 StableFoundry$Entries add (III)V
def cc_156 : List Instr := [.aload 0, .invokevirtual 155, .ifCond .ne 27, .aload 0, .getfield 100, .aload 0, .getfield 102, .iload 1, .iconst 1024, .imul, .iload 2, .iconst (-5), .isub, .iconst 32, .imul, .iadd, .iload 3, .iadd, .iconst (-5), .isub, .iastore, .aload 0, .dup, .getfield 102, .iconst 1, .iadd, .putfield 102, .return_]
def pp_156 : List Nat := [0, 1, 4, 7, 8, 11, 12, 15, 16, 19, 20, 21, 23, 24, 26, 27, 28, 29, 30, 32, 33, 34, 35, 36, 39, 40, 41, 44]
-- 157 StableFoundry$Entries clear ()V
def cc_157 : List Instr := [.aload 0, .iconst 0, .putfield 102, .return_]
def pp_157 : List Nat := [0, 1, 2, 5]
-- 158 StableFoundry$Entries codeAt (I)I
def cc_158 : List Instr := [.iload 1, .ifCond .lt 16, .iload 1, .aload 0, .getfield 102, .if_icmp .ge 16, .iload 1, .aload 0, .getfield 100, .arraylength, .if_icmp .ge 16, .aload 0, .getfield 100, .iload 1, .iaload, .goto 17, .iconst 0, .ireturn]
def pp_158 : List Nat := [0, 1, 4, 5, 6, 9, 12, 13, 14, 17, 18, 21, 22, 25, 26, 27, 30, 31]
-- 159 StableFoundry$Entries groundCode (III)I
def cc_159 : List Instr := [.iload 0, .iconst 100, .imul, .iload 1, .iconst 10, .imul, .iadd, .iload 2, .iadd, .ireturn]
def pp_159 : List Nat := [0, 1, 3, 4, 5, 7, 8, 9, 10, 11]
-- 160 StableFoundry$Entries groundCodeOf (I[II)I
def cc_160 : List Instr := [.iload 0, .invokestatic 161, .iload 0, .invokestatic 162, .aload 1, .iload 2, .invokestatic 166, .iload 0, .invokestatic 163, .aload 1, .iload 2, .invokestatic 166, .invokestatic 159, .ireturn]
def pp_160 : List Nat := [0, 1, 4, 5, 8, 9, 10, 13, 14, 17, 18, 19, 22, 25]
-- 161 StableFoundry$Entries numberIn (I)I
def cc_161 : List Instr := [.iload 0, .iconst 10, .ishr, .ireturn]
def pp_161 : List Nat := [0, 1, 3, 4]
-- 162 StableFoundry$Entries firstIn (I)I
def cc_162 : List Instr := [.iload 0, .iconst 5, .ishr, .iconst 31, .iand, .iconst (-5), .iadd, .ireturn]
def pp_162 : List Nat := [0, 1, 2, 3, 5, 6, 8, 9]
-- 163 StableFoundry$Entries secondIn (I)I
def cc_163 : List Instr := [.iload 0, .iconst 31, .iand, .iconst (-5), .iadd, .ireturn]
def pp_163 : List Nat := [0, 1, 3, 4, 6, 7]
-- 164 StableFoundry$Entries hasZ (I)Z
def cc_164 : List Instr := [.iload 0, .invokestatic 162, .iconst (-5), .if_icmp .eq 8, .iload 0, .invokestatic 163, .iconst (-5), .if_icmp .ne 10, .iconst 1, .goto 11, .iconst 0, .freturn]
def pp_164 : List Nat := [0, 1, 4, 6, 9, 10, 13, 15, 18, 19, 22, 23]
-- 165 StableFoundry$Entries variableIn (I)I
def cc_165 : List Instr := [.iload 0, .iconst (-4), .if_icmp .lt 9, .iload 0, .ifCond .ge 9, .iconst (-1), .iload 0, .isub, .ireturn, .iload 0, .iconst 20, .if_icmp .lt 19, .iload 0, .iconst 24, .if_icmp .ge 19, .iload 0, .iconst 20, .isub, .goto 20, .iconst (-1), .ireturn]
def pp_165 : List Nat := [0, 1, 3, 6, 7, 10, 11, 12, 13, 14, 15, 17, 20, 21, 23, 26, 27, 29, 30, 33, 34]
-- 166 StableFoundry$Entries constantOf (I[II)I
def cc_166 : List Instr := [.iload 0, .invokestatic 165, .istore 3, .iload 3, .ifCond .lt 9, .iload 3, .aload 1, .arraylength, .if_icmp .lt 16, .iload 0, .iconst (-5), .if_icmp .ne 14, .iload 2, .goto 15, .iload 0, .ireturn, .iload 0, .ifCond .ge 22, .aload 1, .iload 3, .iaload, .goto 27, .aload 1, .iload 3, .iaload, .iconst 1, .iadd, .ireturn]
def pp_166 : List Nat := [0, 1, 4, 5, 6, 9, 10, 11, 12, 15, 16, 18, 21, 22, 25, 26, 27, 28, 31, 32, 33, 34, 37, 38, 39, 40, 41, 42]
-- 167 StableFoundry$Entries lastVariableOf (I)I
def cc_167 : List Instr := [.iconst 0, .iload 0, .invokestatic 162, .invokestatic 165, .iload 0, .invokestatic 163, .invokestatic 165, .i2c, .i2c, .ireturn]
def pp_167 : List Nat := [0, 1, 2, 5, 8, 9, 12, 15, 18, 21]
-- 168 StableFoundry$Entries isTrue (I[I)Z
def cc_168 : List Instr := [.iload 0, .invokestatic 162, .aload 1, .iconst 0, .invokestatic 166, .istore 2, .iload 0, .invokestatic 163, .aload 1, .iconst 0, .invokestatic 166, .istore 3, .iload 0, .invokestatic 161, .tableswitch 36 0 2 #[15, 22, 29], .iload 2, .iload 3, .if_icmp .ne 20, .iconst 1, .goto 21, .iconst 0, .freturn, .iload 2, .iload 3, .if_icmp .eq 27, .iconst 1, .goto 28, .iconst 0, .freturn, .iload 2, .iload 3, .if_icmp .ge 34, .iconst 1, .goto 35, .iconst 0, .freturn, .iload 2, .iload 3, .if_icmp .gt 41, .iconst 1, .goto 42, .iconst 0, .freturn]
def pp_168 : List Nat := [0, 1, 4, 5, 6, 9, 10, 11, 14, 15, 16, 19, 20, 21, 24, 52, 53, 54, 57, 58, 61, 62, 63, 64, 65, 68, 69, 72, 73, 74, 75, 76, 79, 80, 83, 84, 85, 86, 87, 90, 91, 94, 95]
-- 169 StableFoundry$Entries variables (Z)I
def cc_169 : List Instr := [.iconst 0, .istore 2, .iconst 0, .istore 3, .iload 3, .aload 0, .getfield 102, .if_icmp .ge 26, .aload 0, .iload 3, .invokevirtual 158, .istore 4, .iload 2, .iload 4, .invokestatic 162, .iload 1, .invokestatic 170, .iload 4, .invokestatic 163, .iload 1, .invokestatic 170, .ior, .ior, .istore 2, .iinc 3 1, .goto 4, .iload 2, .ireturn]
def pp_169 : List Nat := [0, 1, 2, 3, 4, 5, 6, 9, 12, 13, 14, 17, 19, 20, 22, 25, 26, 29, 31, 34, 35, 38, 39, 40, 41, 44, 47, 48]
-- 170 StableFoundry$Entries variableBit (IZ)I
def cc_170 : List Instr := [.iload 0, .invokestatic 165, .istore 2, .iload 2, .iconst (-1), .if_icmp .eq 13, .iload 0, .ifCond .le 10, .iconst 1, .goto 11, .iconst 0, .iload 1, .if_icmp .eq 15, .iconst 0, .goto 18, .iconst 1, .iload 2, .ishl, .ireturn]
def pp_170 : List Nat := [0, 1, 4, 5, 6, 7, 10, 11, 14, 15, 18, 19, 20, 23, 24, 27, 28, 29, 30]
-- 171 StableFoundry$Externals <init> ()V
def cc_171 : List Instr := [.aload 0, .monitorenter, .return_]
def pp_171 : List Nat := [0, 1, 4]
-- 172 StableFoundry$Externals has (I)Z
def cc_172 : List Instr := [.aload 0, .getfield 200, .iload 1, .invokestatic 55, .freturn]
def pp_172 : List Nat := [0, 1, 4, 5, 8]
-- 173 StableFoundry$Externals add (I)V
def cc_173 : List Instr := [.aload 0, .dup, .getfield 200, .iconst 1, .iload 1, .ishl, .ior, .putfield 200, .return_]
def pp_173 : List Nat := [0, 1, 2, 5, 6, 7, 8, 9, 12]
-- 174 StableFoundry$Externals stateOf (I)I
def cc_174 : List Instr := [.aload 0, .getfield 201, .iload 1, .invokestatic 55, .ifCond .eq 7, .iconst 1, .ireturn, .aload 0, .getfield 202, .iload 1, .invokestatic 55, .ifCond .eq 14, .iconst 2, .goto 15, .iconst 0, .ireturn]
def pp_174 : List Nat := [0, 1, 4, 5, 8, 11, 12, 13, 14, 17, 18, 21, 24, 25, 28, 29]
-- 175 StableFoundry$Externals let (II)V
def cc_175 : List Instr := [.iconst 1, .iload 1, .ishl, .istore 3, .aload 0, .iload 2, .iconst 1, .if_icmp .ne 13, .aload 0, .getfield 201, .iload 3, .ior, .goto 19, .aload 0, .getfield 201, .iload 3, .iconst (-1), .ixor, .iand, .putfield 201, .aload 0, .iload 2, .iconst 2, .if_icmp .ne 29, .aload 0, .getfield 202, .iload 3, .ior, .goto 35, .aload 0, .getfield 202, .iload 3, .iconst (-1), .ixor, .iand, .putfield 202, .return_]
def pp_175 : List Nat := [0, 1, 2, 3, 4, 5, 6, 7, 10, 11, 14, 15, 16, 19, 20, 23, 24, 25, 26, 27, 30, 31, 32, 33, 36, 37, 40, 41, 42, 45, 46, 49, 50, 51, 52, 53, 56]
-- 176 StableFoundry$Externals neededBy (I)I
def cc_176 : List Instr := [.aload 0, .getfield 201, .aload 0, .getfield 202, .iload 1, .iand, .ior, .ireturn]
def pp_176 : List Nat := [0, 1, 4, 5, 8, 9, 10, 11]
-- 177 StableFoundry$Found <init> ()V
def cc_177 : List Instr := [.aload 0, .monitorenter, .aload 0, .iconst 64, .newarray .long, .putfield 300, .aload 0, .iconst 64, .newarray .long, .putfield 301, .return_]
def pp_177 : List Nat := [0, 1, 4, 5, 7, 9, 12, 13, 15, 17, 20]
-- 178 StableFoundry$Found clear ()V
def cc_178 : List Instr := [.aload 0, .iconst 0, .putfield 302, .iconst 0, .istore 1, .iload 1, .iconst 64, .if_icmp .ge 15, .aload 0, .getfield 300, .iload 1, .sipush 0, .lastore, .iinc 1 1, .goto 5, .return_]
def pp_178 : List Nat := [0, 1, 2, 5, 6, 7, 8, 10, 13, 14, 17, 18, 19, 20, 23, 26]
-- 179 StableFoundry$Found has (I)Z
def cc_179 : List Instr := [.aload 0, .getfield 300, .iload 1, .iconst 6, .ishr, .iconst 63, .iand, .laload, .iload 1, .iconst 63, .iand, .lshr, .sipush 1, .land, .sipush 0, .lcmp, .ifCond .eq 19, .iconst 1, .goto 20, .iconst 0, .freturn]
def pp_179 : List Nat := [0, 1, 4, 5, 7, 8, 10, 11, 12, 13, 15, 16, 17, 18, 19, 20, 21, 24, 25, 28, 29]
-- 180 StableFoundry$Found add (I)V
def cc_180 : List Instr := [.aload 0, .getfield 300, .iload 1, .iconst 6, .ishr, .iconst 63, .iand, .dup2, .laload, .sipush 1, .iload 1, .iconst 63, .iand, .lshl, .lor, .lastore, .aload 0, .dup, .getfield 302, .iconst 1, .iadd, .putfield 302, .return_]
def pp_180 : List Nat := [0, 1, 4, 5, 7, 8, 10, 11, 12, 13, 14, 15, 17, 18, 19, 20, 21, 22, 23, 26, 27, 28, 31]
-- 181 StableFoundry$Found setAt (I)I
def cc_181 : List Instr := [.iload 1, .istore 2, .iconst 0, .istore 3, .iload 3, .iconst 4096, .if_icmp .ge 18, .aload 0, .iload 3, .invokevirtual 179, .ifCond .eq 16, .iload 2, .ifCond .ne 15, .iload 3, .ireturn, .iinc 2 (-1), .iinc 3 1, .goto 4, .iconst (-1), .ireturn]
def pp_181 : List Nat := [0, 1, 2, 3, 4, 5, 8, 11, 12, 13, 16, 19, 20, 23, 24, 25, 28, 31, 34, 35]
-- 182 StableFoundry$Found countSeenThrough (I)I
def cc_182 : List Instr := [.iconst 0, .istore 2, .iload 2, .iconst 64, .if_icmp .ge 12, .aload 0, .getfield 301, .iload 2, .sipush 0, .lastore, .iinc 2 1, .goto 2, .iconst 0, .istore 2, .iconst 0, .istore 3, .iload 3, .iconst 4096, .if_icmp .ge 68, .aload 0, .iload 3, .invokevirtual 179, .ifCond .eq 66, .iload 3, .iload 1, .iand, .istore 4, .iload 2, .aload 0, .getfield 301, .iload 4, .iconst 6, .ishr, .iconst 63, .iand, .laload, .iload 4, .iconst 63, .iand, .lshr, .sipush 1, .land, .sipush 0, .lcmp, .ifCond .eq 47, .iconst 0, .goto 48, .iconst 1, .iadd, .istore 2, .aload 0, .getfield 301, .iload 4, .iconst 6, .ishr, .iconst 63, .iand, .dup2, .laload, .sipush 1, .iload 4, .iconst 63, .iand, .lshl, .lor, .lastore, .iinc 3 1, .goto 16, .iload 2, .ireturn]
def pp_182 : List Nat := [0, 1, 2, 3, 5, 8, 9, 12, 13, 14, 15, 18, 21, 22, 23, 24, 25, 26, 29, 32, 33, 34, 37, 40, 41, 42, 43, 45, 46, 47, 50, 52, 54, 55, 57, 58, 59, 61, 63, 64, 65, 66, 67, 68, 69, 72, 73, 76, 77, 78, 79, 80, 83, 85, 87, 88, 90, 91, 92, 93, 94, 96, 98, 99, 100, 101, 102, 105, 108, 109]
-- 183 StableFoundry$Grounding <init> ()V
def cc_183 : List Instr := [.aload 0, .monitorenter, .aload 0, .iconst 12, .newarray .int, .putfield 400, .aload 0, .iconst 60, .newarray .int, .putfield 402, .aload 0, .iconst 4, .newarray .int, .putfield 404, .return_]
def pp_183 : List Nat := [0, 1, 4, 5, 7, 9, 12, 13, 15, 17, 20, 21, 22, 24, 27]
-- 184 StableFoundry$Grounding size ()I
def cc_184 : List Instr := [.aload 0, .getfield 403, .iconst 100, .aload 0, .getfield 401, .imul, .iadd, .ireturn]
def pp_184 : List Nat := [0, 1, 4, 6, 7, 10, 11, 12]
-- 185 StableFoundry$Grounding cutTo (II)V
def cc_185 : List Instr := [.aload 0, .iload 1, .putfield 401, .aload 0, .iload 2, .putfield 403, .return_]
def pp_185 : List Nat := [0, 1, 2, 5, 6, 7, 10]
-- 186 StableFoundry$Grounding atomAt (I)I
def cc_186 : List Instr := [.iload 1, .ifCond .lt 14, .iload 1, .aload 0, .getfield 401, .if_icmp .ge 14, .iload 1, .iconst 12, .if_icmp .ge 14, .aload 0, .getfield 400, .iload 1, .iaload, .goto 15, .iconst (-1), .ireturn]
def pp_186 : List Nat := [0, 1, 4, 5, 6, 9, 12, 13, 15, 18, 19, 22, 23, 24, 27, 28]
-- 187 StableFoundry$Grounding instanceAt (I)I
def cc_187 : List Instr := [.iload 1, .ifCond .lt 14, .iload 1, .aload 0, .getfield 403, .if_icmp .ge 14, .iload 1, .iconst 60, .if_icmp .ge 14, .aload 0, .getfield 402, .iload 1, .iaload, .goto 15, .iconst (-1), .ireturn]
def pp_187 : List Nat := [0, 1, 4, 5, 6, 9, 12, 13, 15, 18, 19, 22, 23, 24, 27, 28]
-- 188 StableFoundry$Grounding numberOf (I)I
def cc_188 : List Instr := [.iconst 0, .istore 2, .iload 2, .aload 0, .getfield 401, .if_icmp .ge 15, .aload 0, .iload 2, .invokevirtual 186, .iload 1, .if_icmp .ne 13, .iload 2, .ireturn, .iinc 2 1, .goto 2, .iconst (-1), .ireturn]
def pp_188 : List Nat := [0, 1, 2, 3, 4, 7, 10, 11, 12, 15, 16, 19, 20, 21, 24, 27, 28]
-- 189 StableFoundry$Grounding (a word that no row may hold) (I)Z
def cc_189 : List Instr := [.aload 0, .iload 1, .invokevirtual 188, .iconst (-1), .if_icmp .eq 7, .iconst 1, .freturn, .aload 0, .getfield 401, .iconst 12, .if_icmp .lt 13, .iconst 0, .freturn, .aload 0, .getfield 400, .aload 0, .getfield 401, .iload 1, .iastore, .aload 0, .dup, .getfield 401, .iconst 1, .iadd, .putfield 401, .iconst 1, .freturn]
def pp_189 : List Nat := [0, 1, 2, 5, 6, 9, 10, 11, 12, 15, 17, 20, 21, 22, 23, 26, 27, 30, 31, 32, 33, 34, 37, 38, 39, 42, 43]
-- 190 StableFoundry$Grounding settle ([LStableFoundry$Rule;I)Z
def cc_190 : List Instr := [.aload 0, .iconst 0, .putfield 405, .iconst (-1), .istore 3, .iconst 0, .istore 4, .iload 4, .iconst 62, .if_icmp .ge 47, .iload 3, .aload 0, .getfield 403, .if_icmp .eq 47, .aload 0, .getfield 405, .ifCond .ne 47, .aload 0, .getfield 403, .istore 3, .iconst 0, .istore 5, .iload 5, .iload 2, .if_icmp .ge 45, .iload 5, .aload 1, .arraylength, .if_icmp .ge 45, .aload 0, .getfield 405, .ifCond .ne 45, .aload 1, .iload 5, .aaload, .astore 6, .aload 6, .ifnull 43, .aload 0, .aload 6, .iload 5, .iconst 0, .invokevirtual 191, .iinc 5 1, .goto 22, .iinc 4 1, .goto 7, .aload 0, .getfield 405, .ifCond .ne 52, .iconst 1, .goto 53, .iconst 0, .freturn]
def pp_190 : List Nat := [0, 1, 2, 5, 6, 7, 8, 10, 12, 14, 17, 18, 19, 22, 25, 26, 29, 32, 33, 36, 37, 38, 40, 42, 43, 46, 48, 49, 50, 53, 54, 57, 60, 61, 63, 64, 66, 68, 71, 72, 74, 76, 77, 80, 83, 86, 89, 92, 93, 96, 99, 100, 103, 104]
-- 191 StableFoundry$Grounding bind (LStableFoundry$Rule;II)V
def cc_191 : List Instr := [.iload 3, .iconst 4, .if_icmp .lt 8, .aload 0, .aload 1, .iload 2, .invokevirtual 193, .return_, .aload 1, .iload 3, .invokevirtual 237, .istore 4, .aload 1, .iload 3, .invokevirtual 236, .istore 5, .iload 5, .iload 4, .if_icmp .gt 41, .aload 0, .getfield 405, .ifCond .ne 41, .aload 0, .getfield 404, .iload 3, .iload 5, .iastore, .aload 0, .aload 1, .iload 3, .invokevirtual 192, .ifCond .eq 39, .aload 0, .aload 1, .iload 2, .iload 3, .iconst 1, .iadd, .invokevirtual 191, .iinc 5 1, .goto 16, .return_]
def pp_191 : List Nat := [0, 1, 2, 5, 6, 7, 8, 11, 12, 13, 14, 17, 19, 20, 21, 24, 26, 28, 30, 33, 34, 37, 40, 41, 44, 45, 47, 48, 49, 50, 51, 54, 57, 58, 59, 60, 61, 62, 63, 66, 69, 72]
-- 192 StableFoundry$Grounding canBe (LStableFoundry$Rule;I)Z
def cc_192 : List Instr := [.iconst 0, .istore 3, .iload 3, .aload 1, .getfield 803, .getfield 102, .if_icmp .ge 25, .aload 1, .getfield 803, .iload 3, .invokevirtual 158, .istore 4, .iload 4, .invokestatic 167, .iload 2, .if_icmp .ne 23, .iload 4, .aload 0, .getfield 404, .invokestatic 168, .ifCond .ne 23, .iconst 0, .freturn, .iinc 3 1, .goto 2, .iconst 0, .istore 3, .iload 3, .aload 1, .getfield 801, .getfield 102, .if_icmp .ge 54, .aload 1, .getfield 801, .iload 3, .invokevirtual 158, .istore 4, .iload 4, .invokestatic 167, .iload 2, .if_icmp .ne 52, .aload 0, .iload 4, .aload 0, .getfield 404, .iconst 0, .invokestatic 160, .invokevirtual 188, .iconst (-1), .if_icmp .ne 52, .iconst 0, .freturn, .iinc 3 1, .goto 27, .iconst 1, .freturn]
def pp_192 : List Nat := [0, 1, 2, 3, 4, 7, 10, 13, 14, 17, 18, 21, 23, 25, 28, 29, 32, 34, 35, 38, 41, 44, 45, 46, 49, 52, 53, 54, 55, 56, 59, 62, 65, 66, 69, 70, 73, 75, 77, 80, 81, 84, 85, 87, 88, 91, 92, 95, 98, 99, 102, 103, 104, 107, 110, 111]
-- 193 StableFoundry$Grounding addInstance (LStableFoundry$Rule;I)V
def cc_193 : List Instr := [.iload 2, .istore 3, .iconst 0, .istore 4, .iload 4, .iconst 4, .if_icmp .ge 18, .iload 3, .iconst 10, .imul, .aload 0, .getfield 404, .iload 4, .iaload, .iadd, .istore 3, .iinc 4 1, .goto 4, .aload 0, .iload 3, .invokevirtual 194, .ifCond .eq 23, .return_, .aload 0, .getfield 403, .iconst 60, .if_icmp .lt 31, .aload 0, .iconst 1, .putfield 405, .return_, .aload 0, .getfield 402, .aload 0, .getfield 403, .iload 3, .iastore, .aload 0, .dup, .getfield 403, .iconst 1, .iadd, .putfield 403, .iconst 0, .istore 4, .iload 4, .aload 1, .getfield 800, .getfield 501, .getfield 102, .if_icmp .ge 68, .aload 0, .aload 1, .getfield 800, .getfield 501, .iload 4, .invokevirtual 158, .aload 0, .getfield 404, .iconst 0, .invokestatic 160, .invokevirtual 189, .ifCond .ne 66, .aload 0, .iconst 1, .putfield 405, .iinc 4 1, .goto 45, .return_]
def pp_193 : List Nat := [0, 1, 2, 3, 5, 7, 8, 11, 12, 14, 15, 16, 19, 21, 22, 23, 24, 27, 30, 31, 32, 35, 38, 39, 40, 43, 45, 48, 49, 50, 53, 54, 55, 58, 59, 62, 63, 64, 65, 66, 69, 70, 71, 74, 75, 77, 79, 80, 83, 86, 89, 92, 93, 94, 97, 100, 102, 105, 106, 109, 110, 113, 116, 119, 120, 121, 124, 127, 130]
-- 194 StableFoundry$Grounding isKnown (I)Z
def cc_194 : List Instr := [.iconst 0, .istore 2, .iload 2, .aload 0, .getfield 403, .if_icmp .ge 15, .aload 0, .iload 2, .invokevirtual 187, .iload 1, .if_icmp .ne 13, .iconst 1, .freturn, .iinc 2 1, .goto 2, .iconst 0, .freturn]
def pp_194 : List Nat := [0, 1, 2, 3, 4, 7, 10, 11, 12, 15, 16, 19, 20, 21, 24, 27, 28]
-- 195 StableFoundry$Head <init> ()V
def cc_195 : List Instr := [.aload 0, .monitorenter, .aload 0, .iconst 0, .putfield 500, .aload 0, .new 1, .dup, .iconst 3, .invokespecial 154, .putfield 501, .return_]
def pp_195 : List Nat := [0, 1, 4, 5, 6, 9, 10, 13, 14, 15, 18, 21]
-- 196 StableFoundry$Head clear ()V
def cc_196 : List Instr := [.aload 0, .iconst 0, .putfield 500, .aload 0, .getfield 501, .invokevirtual 157, .return_]
def pp_196 : List Nat := [0, 1, 2, 5, 6, 9, 12]
-- 197 StableFoundry$Preferences <init> ()V
def cc_197 : List Instr := [.aload 0, .monitorenter, .aload 0, .iconst 6, .newarray .int, .putfield 600, .aload 0, .iconst 6, .newarray .int, .putfield 601, .return_]
def pp_197 : List Nat := [0, 1, 4, 5, 7, 9, 12, 13, 15, 17, 20]
-- 198 StableFoundry$Preferences isFull ()Z
def cc_198 : List Instr := [.aload 0, .getfield 602, .iconst 6, .if_icmp .lt 6, .iconst 1, .goto 7, .iconst 0, .freturn]
def pp_198 : List Nat := [0, 1, 4, 6, 9, 10, 13, 14]
-- 199 StableFoundry$Preferences add (II)V
def cc_199 : List Instr := [.aload 0, .invokevirtual 198, .ifCond .ne 21, .aload 0, .getfield 600, .aload 0, .getfield 602, .iload 1, .iastore, .aload 0, .getfield 601, .aload 0, .getfield 602, .iload 2, .iastore, .aload 0, .dup, .getfield 602, .iconst 1, .iadd, .putfield 602, .return_]
def pp_199 : List Nat := [0, 1, 4, 7, 8, 11, 12, 15, 16, 17, 18, 21, 22, 25, 26, 27, 28, 29, 32, 33, 34, 37]
-- 200 StableFoundry$Preferences prefers (II)Z
def cc_200 : List Instr := [.aload 0, .iload 1, .iload 2, .invokevirtual 201, .ifCond .eq 12, .aload 0, .iload 2, .iload 1, .invokevirtual 201, .ifCond .ne 12, .iconst 1, .goto 13, .iconst 0, .freturn]
def pp_200 : List Nat := [0, 1, 2, 3, 6, 9, 10, 11, 12, 15, 18, 19, 22, 23]
-- 201 StableFoundry$Preferences speaksFor (II)Z
def cc_201 : List Instr := [.iconst 0, .istore 3, .iload 3, .aload 0, .getfield 602, .if_icmp .ge 35, .iload 3, .iconst 6, .if_icmp .ge 35, .iload 1, .iload 2, .iconst (-1), .ixor, .iand, .aload 0, .getfield 600, .iload 3, .iaload, .invokestatic 55, .ifCond .eq 33, .iload 2, .iload 1, .iconst (-1), .ixor, .iand, .aload 0, .getfield 601, .iload 3, .iaload, .invokestatic 55, .ifCond .eq 33, .iconst 1, .freturn, .iinc 3 1, .goto 2, .iconst 0, .freturn]
def pp_201 : List Nat := [0, 1, 2, 3, 4, 7, 10, 11, 13, 16, 17, 18, 19, 20, 21, 22, 25, 26, 27, 30, 33, 34, 35, 36, 37, 38, 39, 42, 43, 44, 47, 50, 51, 52, 55, 58, 59]
-- 202 StableFoundry$Program <init> ()V
def cc_202 : List Instr := [.aload 0, .monitorenter, .aload 0, .iconst 60, .anewarray 0, .putfield 700, .aload 0, .iconst 60, .newarray .int, .putfield 701, .aload 0, .iconst 60, .newarray .int, .putfield 702, .aload 0, .iconst 60, .newarray .int, .putfield 703, .aload 0, .iconst 720, .newarray .long, .putfield 704, .aload 0, .iconst 4096, .newarray .long, .putfield 705, .aload 0, .iconst 64, .newarray .long, .putfield 706, .aload 0, .iconst 64, .newarray .long, .putfield 707, .aload 0, .iconst 64, .newarray .long, .putfield 708, .aload 0, .iconst 64, .newarray .long, .putfield 709, .aload 0, .iconst 4, .newarray .int, .putfield 710, .return_]
def pp_202 : List Nat := [0, 1, 4, 5, 7, 10, 13, 14, 16, 18, 21, 22, 24, 26, 29, 30, 32, 34, 37, 38, 41, 43, 46, 47, 50, 52, 55, 56, 58, 60, 63, 64, 66, 68, 71, 72, 74, 76, 79, 80, 82, 84, 87, 88, 89, 91, 94]
-- 203 StableFoundry$Program sets ()I
def cc_203 : List Instr := [.iconst 1, .aload 0, .getfield 711, .ishl, .ireturn]
def pp_203 : List Nat := [0, 1, 2, 5, 6]
-- 204 StableFoundry$Program all ()J
def cc_204 : List Instr := [.sipush 1, .aload 0, .getfield 712, .lshl, .sipush 1, .lsub, .lreturn]
def pp_204 : List Nat := [0, 1, 2, 5, 6, 7, 8]
-- 205 StableFoundry$Program resolve (LStableFoundry$Grounding;[LStableFoundry$Rule;)V
def cc_205 : List Instr := [.aload 0, .aload 1, .getfield 401, .putfield 711, .aload 0, .iconst 0, .putfield 712, .aload 0, .sipush 0, .putfield 713, .aload 0, .sipush 0, .putfield 714, .aload 0, .sipush 0, .putfield 715, .aload 0, .sipush 0, .putfield 716, .aload 0, .sipush 0, .putfield 717, .iconst 0, .istore 3, .iload 3, .aload 1, .getfield 403, .if_icmp .ge 62, .iload 3, .iconst 60, .if_icmp .ge 62, .aload 1, .iload 3, .invokevirtual 187, .istore 4, .iload 4, .iconst 10000, .idiv, .istore 5, .iload 5, .ifCond .lt 49, .iload 5, .aload 2, .arraylength, .if_icmp .ge 49, .aload 2, .iload 5, .aaload, .goto 50, .aconst_null, .astore 6, .aload 6, .ifnull 60, .aload 0, .iload 4, .invokevirtual 206, .aload 0, .aload 6, .aload 1, .invokevirtual 207, .iinc 3 1, .goto 24, .aload 0, .invokevirtual 213, .aload 0, .invokevirtual 214, .return_]
def pp_205 : List Nat := [0, 1, 2, 5, 8, 9, 10, 13, 14, 15, 18, 19, 20, 23, 24, 25, 28, 29, 30, 33, 34, 35, 38, 39, 40, 41, 42, 45, 48, 49, 51, 54, 55, 56, 59, 61, 63, 66, 67, 69, 71, 74, 76, 77, 78, 81, 82, 84, 85, 88, 89, 91, 93, 96, 97, 99, 102, 103, 105, 106, 109, 112, 115, 116, 119, 120, 123]
-- 206 StableFoundry$Program readConstants (I)V
def cc_206 : List Instr := [.iload 1, .istore 2, .iconst 3, .istore 3, .iload 3, .ifCond .lt 19, .aload 0, .getfield 710, .iload 3, .iload 2, .iconst 10, .irem, .iastore, .iload 2, .iconst 10, .idiv, .istore 2, .iinc 3 (-1), .goto 4, .return_]
def pp_206 : List Nat := [0, 1, 2, 3, 4, 5, 8, 9, 12, 13, 14, 16, 17, 18, 19, 21, 22, 23, 26, 29]
-- 207 StableFoundry$Program resolveInstance (LStableFoundry$Rule;LStableFoundry$Grounding;)V
def cc_207 : List Instr := [.aload 0, .getfield 712, .iconst 60, .if_icmp .lt 5, .return_, .aload 0, .getfield 700, .aload 0, .getfield 712, .aload 1, .aastore, .aload 0, .getfield 701, .aload 0, .getfield 712, .aload 0, .aload 1, .getfield 800, .getfield 501, .aload 2, .invokevirtual 209, .iastore, .aload 0, .getfield 702, .aload 0, .getfield 712, .aload 0, .aload 1, .getfield 801, .aload 2, .invokevirtual 209, .iastore, .aload 0, .getfield 703, .aload 0, .getfield 712, .aload 0, .aload 1, .getfield 802, .aload 2, .invokevirtual 209, .iastore, .aload 0, .aload 1, .sipush 1, .aload 0, .getfield 712, .lshl, .invokevirtual 208, .aload 1, .getfield 804, .getfield 1000, .ifCond .eq 58, .aload 0, .aload 1, .getfield 804, .aload 2, .invokevirtual 210, .aload 0, .dup, .getfield 712, .iconst 1, .iadd, .putfield 712, .return_]
def pp_207 : List Nat := [0, 1, 4, 6, 9, 10, 11, 14, 15, 18, 19, 20, 21, 24, 25, 28, 29, 30, 33, 36, 37, 40, 41, 42, 45, 46, 49, 50, 51, 54, 55, 58, 59, 60, 63, 64, 67, 68, 69, 72, 73, 76, 77, 78, 79, 80, 81, 84, 85, 88, 89, 92, 95, 98, 99, 100, 103, 104, 107, 108, 109, 112, 113, 114, 117]
-- 208 StableFoundry$Program sort (LStableFoundry$Rule;J)V
def cc_208 : List Instr := [.aload 0, .dup, .getfield 713, .aload 1, .getfield 800, .getfield 500, .ifCond .ne 9, .lload 2, .goto 10, .sipush 0, .lor, .putfield 713, .aload 0, .dup, .getfield 714, .aload 1, .getfield 800, .getfield 500, .iconst 1, .if_icmp .ne 22, .lload 2, .goto 23, .sipush 0, .lor, .putfield 714, .aload 0, .dup, .getfield 716, .aload 1, .getfield 800, .getfield 500, .iconst 2, .if_icmp .ne 35, .lload 2, .goto 36, .sipush 0, .lor, .putfield 716, .aload 0, .dup, .getfield 717, .aload 1, .getfield 800, .getfield 500, .iconst 3, .if_icmp .ne 48, .lload 2, .goto 49, .sipush 0, .lor, .putfield 717, .aload 0, .dup, .getfield 715, .aload 1, .getfield 804, .getfield 1000, .ifCond .eq 60, .lload 2, .goto 61, .sipush 0, .lor, .putfield 715, .return_]
def pp_208 : List Nat := [0, 1, 2, 5, 6, 9, 12, 15, 16, 19, 20, 21, 24, 25, 26, 29, 30, 33, 36, 37, 40, 41, 44, 45, 46, 49, 50, 51, 54, 55, 58, 61, 62, 65, 66, 69, 70, 71, 74, 75, 76, 79, 80, 83, 86, 87, 90, 91, 94, 95, 96, 99, 100, 101, 104, 105, 108, 111, 114, 115, 118, 119, 120, 123]
-- 209 StableFoundry$Program atomsOf (LStableFoundry$Entries;LStableFoundry$Grounding;)I
def cc_209 : List Instr := [.iconst 0, .istore 3, .iconst 0, .istore 4, .iload 4, .aload 1, .getfield 102, .if_icmp .ge 29, .aload 2, .aload 1, .iload 4, .invokevirtual 158, .aload 0, .getfield 710, .iconst 0, .invokestatic 160, .invokevirtual 188, .istore 5, .iload 5, .iconst (-1), .if_icmp .eq 27, .iload 3, .iconst 1, .iload 5, .ishl, .ior, .istore 3, .iinc 4 1, .goto 4, .iload 3, .ireturn]
def pp_209 : List Nat := [0, 1, 2, 3, 5, 7, 8, 11, 14, 15, 16, 18, 21, 22, 25, 26, 29, 32, 34, 36, 37, 40, 41, 42, 44, 45, 46, 47, 50, 53, 54]
-- 210 StableFoundry$Program weigh (LStableFoundry$Sum;LStableFoundry$Grounding;)V
def cc_210 : List Instr := [.iconst 0, .istore 3, .iload 3, .iconst 12, .if_icmp .ge 16, .aload 0, .iload 3, .aload 0, .aload 0, .getfield 712, .iload 3, .invokevirtual 212, .lneg, .invokevirtual 211, .iinc 3 1, .goto 2, .iconst 0, .istore 3, .iload 3, .aload 1, .getfield 1003, .getfield 102, .if_icmp .ge 57, .aload 1, .getfield 1003, .iload 3, .invokevirtual 158, .istore 4, .iload 4, .invokestatic 164, .ifCond .eq 33, .iconst 9, .goto 34, .iconst 0, .istore 5, .iconst 0, .istore 6, .iload 6, .iload 5, .if_icmp .gt 55, .aload 0, .aload 2, .iload 4, .aload 0, .getfield 710, .iload 6, .invokestatic 160, .invokevirtual 188, .aload 1, .iload 3, .invokevirtual 249, .i2l, .invokevirtual 211, .iinc 6 1, .goto 37, .iinc 3 1, .goto 18, .return_]
def pp_210 : List Nat := [0, 1, 2, 3, 5, 8, 9, 10, 11, 12, 15, 16, 19, 20, 23, 26, 29, 30, 31, 32, 33, 36, 39, 42, 43, 46, 47, 50, 52, 54, 57, 60, 62, 65, 66, 68, 69, 71, 73, 75, 78, 79, 80, 82, 83, 86, 88, 91, 94, 95, 96, 99, 100, 103, 106, 109, 112, 115]
-- 211 StableFoundry$Program addWeight (IJ)V
def cc_211 : List Instr := [.aload 0, .getfield 712, .iconst 12, .imul, .iload 1, .iadd, .istore 4, .iload 1, .ifCond .lt 24, .iload 4, .ifCond .lt 24, .iload 4, .aload 0, .getfield 704, .arraylength, .if_icmp .ge 24, .aload 0, .getfield 704, .iload 4, .dup2, .laload, .lload 2, .ladd, .lastore, .return_]
def pp_211 : List Nat := [0, 1, 4, 6, 7, 8, 9, 11, 12, 15, 17, 20, 22, 23, 26, 27, 30, 31, 34, 36, 37, 38, 39, 40, 41]
-- 212 StableFoundry$Program weightOf (II)J
def cc_212 : List Instr := [.iload 1, .iconst 12, .imul, .iload 2, .iadd, .istore 3, .iload 3, .ifCond .lt 18, .iload 3, .aload 0, .getfield 704, .arraylength, .if_icmp .ge 18, .aload 0, .getfield 704, .iload 3, .laload, .goto 19, .sipush 0, .lreturn]
def pp_212 : List Nat := [0, 1, 3, 4, 5, 6, 7, 8, 11, 12, 13, 16, 17, 20, 21, 24, 25, 26, 29, 30]
-- 213 StableFoundry$Program fillParts ()V
def cc_213 : List Instr := [.iconst 0, .istore 1, .iload 1, .iconst 64, .if_icmp .ge 138, .aload 0, .getfield 706, .iload 1, .sipush 0, .lastore, .aload 0, .getfield 707, .iload 1, .sipush 0, .lastore, .aload 0, .getfield 708, .iload 1, .sipush 0, .lastore, .aload 0, .getfield 709, .iload 1, .sipush 0, .lastore, .iconst 0, .istore 2, .iload 2, .aload 0, .getfield 712, .if_icmp .ge 136, .iload 2, .iconst 60, .if_icmp .ge 136, .sipush 1, .iload 2, .lshl, .lstore 3, .aload 0, .getfield 702, .iload 2, .iaload, .iload 1, .iconst (-1), .ixor, .iand, .istore 5, .aload 0, .getfield 706, .iload 1, .dup2, .laload, .aload 0, .getfield 701, .iload 2, .iaload, .iload 1, .iand, .ifCond .eq 61, .lload 3, .goto 62, .sipush 0, .lor, .lastore, .aload 0, .getfield 707, .iload 1, .dup2, .laload, .aload 0, .getfield 701, .iload 2, .iaload, .iconst 6, .ishr, .iload 1, .iand, .ifCond .eq 80, .lload 3, .goto 81, .sipush 0, .lor, .lastore, .aload 0, .getfield 708, .iload 1, .dup2, .laload, .iload 5, .iconst 63, .iand, .aload 0, .getfield 703, .iload 2, .iaload, .iload 1, .iand, .ior, .ifCond .eq 101, .lload 3, .goto 102, .sipush 0, .lor, .lastore, .aload 0, .getfield 709, .iload 1, .dup2, .laload, .aload 0, .getfield 702, .iload 2, .iaload, .iconst 6, .ishr, .iload 1, .iconst (-1), .ixor, .iand, .aload 0, .getfield 703, .iload 2, .iaload, .iconst 6, .ishr, .iload 1, .iand, .ior, .ifCond .eq 131, .lload 3, .goto 132, .sipush 0, .lor, .lastore, .iinc 2 1, .goto 27, .iinc 1 1, .goto 2, .return_]
def pp_213 : List Nat := [0, 1, 2, 3, 5, 8, 9, 12, 13, 14, 15, 16, 19, 20, 21, 22, 23, 26, 27, 28, 29, 30, 33, 34, 35, 36, 37, 38, 39, 40, 43, 46, 47, 49, 52, 53, 54, 55, 56, 57, 60, 61, 62, 63, 64, 65, 66, 68, 69, 72, 73, 74, 75, 76, 79, 80, 81, 82, 83, 86, 87, 90, 91, 92, 93, 94, 97, 98, 99, 100, 101, 104, 105, 106, 108, 109, 110, 111, 114, 115, 118, 119, 120, 121, 122, 125, 126, 127, 128, 130, 132, 133, 134, 137, 138, 139, 140, 141, 142, 145, 146, 149, 150, 151, 152, 153, 156, 157, 158, 159, 160, 163, 164, 165, 167, 168, 169, 170, 171, 172, 173, 176, 177, 178, 180, 181, 182, 183, 184, 187, 188, 191, 192, 193, 194, 197, 200, 203, 206]
-- 214 StableFoundry$Program fillHolding ()V
def cc_214 : List Instr := [.iconst 0, .istore 1, .iload 1, .aload 0, .invokevirtual 203, .if_icmp .ge 47, .iload 1, .iconst 4096, .if_icmp .ge 47, .aload 0, .invokevirtual 204, .aload 0, .getfield 708, .iload 1, .iconst 63, .iand, .laload, .aload 0, .getfield 709, .iload 1, .iconst 6, .ishr, .iconst 63, .iand, .laload, .lor, .sipush (-1), .lxor, .land, .lstore 2, .aload 0, .getfield 705, .iload 1, .lload 2, .aload 0, .lload 2, .aload 0, .getfield 715, .land, .iload 1, .invokevirtual 215, .sipush (-1), .lxor, .land, .lastore, .iinc 1 1, .goto 2, .return_]
def pp_214 : List Nat := [0, 1, 2, 3, 4, 7, 10, 11, 14, 17, 18, 21, 22, 25, 26, 28, 29, 30, 31, 34, 35, 37, 38, 40, 41, 42, 43, 46, 47, 48, 49, 50, 53, 54, 55, 56, 57, 58, 61, 62, 63, 66, 69, 70, 71, 72, 75, 78]
-- 215 StableFoundry$Program brokenSums (JI)J
def cc_215 : List Instr := [.sipush 0, .lstore 4, .iconst 0, .istore 6, .iload 6, .aload 0, .getfield 712, .if_icmp .ge 29, .lload 1, .sipush 0, .lcmp, .ifCond .eq 29, .lload 1, .iload 6, .invokestatic 56, .ifCond .eq 27, .aload 0, .iload 6, .iload 3, .invokevirtual 216, .ifCond .ne 27, .lload 4, .sipush 1, .iload 6, .lshl, .lor, .lstore 4, .iinc 6 1, .goto 4, .lload 4, .lreturn]
def pp_215 : List Nat := [0, 1, 3, 4, 6, 8, 9, 12, 15, 16, 17, 18, 21, 22, 24, 27, 30, 31, 33, 34, 37, 40, 42, 43, 45, 46, 47, 49, 52, 55, 57]
-- 216 StableFoundry$Program sumHolds (II)Z
def cc_216 : List Instr := [.aload 0, .iload 1, .invokevirtual 217, .astore 3, .sipush 0, .lstore 4, .iconst 0, .istore 6, .iload 6, .aload 0, .getfield 711, .if_icmp .ge 25, .iload 2, .iload 6, .invokestatic 55, .ifCond .eq 23, .lload 4, .aload 0, .iload 1, .iload 6, .invokevirtual 212, .ladd, .lstore 4, .iinc 6 1, .goto 8, .aload 3, .ifnull 41, .lload 4, .aload 3, .getfield 804, .getfield 1001, .i2l, .lcmp, .ifCond .lt 43, .lload 4, .aload 3, .getfield 804, .getfield 1002, .i2l, .lcmp, .ifCond .gt 43, .iconst 1, .goto 44, .iconst 0, .freturn]
def pp_216 : List Nat := [0, 1, 2, 5, 6, 7, 9, 10, 12, 14, 15, 18, 21, 22, 24, 27, 30, 32, 33, 34, 36, 39, 40, 42, 45, 48, 49, 52, 54, 55, 58, 61, 62, 63, 66, 68, 69, 72, 75, 76, 77, 80, 81, 84, 85]
-- 217 StableFoundry$Program ruleAt (I)LStableFoundry$Rule;
def cc_217 : List Instr := [.iload 1, .ifCond .lt 14, .iload 1, .aload 0, .getfield 712, .if_icmp .ge 14, .iload 1, .iconst 60, .if_icmp .ge 14, .aload 0, .getfield 700, .iload 1, .aaload, .goto 15, .aconst_null, .areturn]
def pp_217 : List Nat := [0, 1, 4, 5, 6, 9, 12, 13, 15, 18, 19, 22, 23, 24, 27, 28]
-- 218 StableFoundry$Program headOf (I)I
def cc_218 : List Instr := [.iload 1, .ifCond .lt 14, .iload 1, .aload 0, .getfield 712, .if_icmp .ge 14, .iload 1, .iconst 60, .if_icmp .ge 14, .aload 0, .getfield 701, .iload 1, .iaload, .goto 15, .iconst 0, .ireturn]
def pp_218 : List Nat := [0, 1, 4, 5, 6, 9, 12, 13, 15, 18, 19, 22, 23, 24, 27, 28]
-- 219 StableFoundry$Program needsOf (I)I
def cc_219 : List Instr := [.iload 1, .ifCond .lt 14, .iload 1, .aload 0, .getfield 712, .if_icmp .ge 14, .iload 1, .iconst 60, .if_icmp .ge 14, .aload 0, .getfield 702, .iload 1, .iaload, .goto 15, .iconst 0, .ireturn]
def pp_219 : List Nat := [0, 1, 4, 5, 6, 9, 12, 13, 15, 18, 19, 22, 23, 24, 27, 28]
-- 220 StableFoundry$Program heldIn (I)J
def cc_220 : List Instr := [.aload 0, .getfield 705, .iload 1, .iconst 4095, .iand, .laload, .lreturn]
def pp_220 : List Nat := [0, 1, 4, 5, 8, 9, 10]
-- 221 StableFoundry$Program headedIn (I)J
def cc_221 : List Instr := [.aload 0, .getfield 706, .iload 1, .iconst 63, .iand, .laload, .aload 0, .getfield 707, .iload 1, .iconst 6, .ishr, .iconst 63, .iand, .laload, .lor, .lreturn]
def pp_221 : List Nat := [0, 1, 4, 5, 7, 8, 9, 10, 13, 14, 16, 17, 19, 20, 21, 22]
-- 222 StableFoundry$Program unsatisfiedIn (I)J
def cc_222 : List Instr := [.aload 0, .iload 1, .invokevirtual 220, .lstore 2, .lload 2, .aload 0, .getfield 713, .land, .aload 0, .iload 1, .invokevirtual 221, .sipush (-1), .lxor, .land, .lstore 4, .lload 2, .aload 0, .getfield 714, .land, .lstore 6, .iconst 0, .istore 8, .iload 8, .aload 0, .getfield 712, .if_icmp .ge 47, .lload 6, .sipush 0, .lcmp, .ifCond .eq 47, .lload 6, .iload 8, .invokestatic 56, .ifCond .eq 45, .aload 0, .iload 8, .iload 1, .invokevirtual 223, .ifCond .ne 45, .lload 4, .sipush 1, .iload 8, .lshl, .lor, .lstore 4, .iinc 8 1, .goto 22, .lload 4, .lreturn]
def pp_222 : List Nat := [0, 1, 2, 5, 6, 7, 8, 11, 12, 13, 14, 17, 20, 21, 22, 24, 25, 26, 29, 30, 32, 33, 35, 37, 38, 41, 44, 46, 47, 48, 51, 53, 55, 58, 61, 62, 64, 65, 68, 71, 73, 74, 76, 77, 78, 80, 83, 86, 88]
-- 223 StableFoundry$Program isWellChosen (II)Z
def cc_223 : List Instr := [.aload 0, .iload 1, .invokevirtual 217, .astore 3, .aload 0, .iload 1, .invokevirtual 218, .iload 2, .iand, .invokestatic 278, .istore 4, .aload 3, .ifnull 23, .iload 4, .aload 3, .getfield 800, .getfield 502, .if_icmp .lt 25, .iload 4, .aload 3, .getfield 800, .getfield 503, .if_icmp .gt 25, .iconst 1, .goto 26, .iconst 0, .freturn]
def pp_223 : List Nat := [0, 1, 2, 5, 6, 7, 8, 11, 12, 13, 16, 18, 19, 22, 24, 25, 28, 31, 34, 36, 37, 40, 43, 46, 47, 50, 51]
-- 224 StableFoundry$Program unsatisfiedIn (II)J
def cc_224 : List Instr := [.aload 0, .iload 1, .invokevirtual 220, .aload 0, .iload 2, .invokevirtual 220, .land, .lstore 3, .lload 3, .aload 0, .getfield 713, .aload 0, .iload 1, .invokevirtual 221, .sipush (-1), .lxor, .land, .aload 0, .getfield 714, .aload 0, .iload 2, .iload 1, .iconst (-1), .ixor, .iand, .invokevirtual 221, .land, .lor, .land, .lreturn]
def pp_224 : List Nat := [0, 1, 2, 5, 6, 7, 10, 11, 12, 13, 14, 17, 18, 19, 22, 25, 26, 27, 28, 31, 32, 33, 34, 35, 36, 37, 40, 41, 42, 43]
-- 225 StableFoundry$Program costOf (II)J
def cc_225 : List Instr := [.aload 0, .iload 1, .invokevirtual 220, .aload 0, .getfield 716, .land, .lstore 3, .sipush 0, .lstore 5, .iconst 0, .istore 7, .iload 7, .aload 0, .getfield 712, .if_icmp .ge 43, .lload 3, .sipush 0, .lcmp, .ifCond .eq 43, .aload 0, .iload 7, .invokevirtual 217, .astore 8, .aload 8, .ifnull 41, .lload 3, .iload 7, .invokestatic 56, .ifCond .eq 41, .aload 8, .getfield 800, .getfield 505, .iload 2, .if_icmp .ne 41, .lload 5, .aload 8, .getfield 800, .getfield 504, .i2l, .ladd, .lstore 5, .iinc 7 1, .goto 11, .lload 5, .lreturn]
def pp_225 : List Nat := [0, 1, 2, 5, 6, 9, 10, 11, 12, 14, 15, 17, 19, 20, 23, 26, 27, 28, 29, 32, 33, 35, 38, 40, 42, 45, 46, 48, 51, 54, 56, 59, 62, 63, 66, 68, 70, 73, 76, 77, 78, 80, 83, 86, 88]
-- 226 StableFoundryLaw low (II)I
def cc_226 : List Instr := [.iload 0, .iconst 2147483647, .iand, .iload 1, .irem, .ireturn]
def pp_226 : List Nat := [0, 1, 3, 4, 5, 6]
-- 227 StableFoundry$Program founds (III)Z
def cc_227 : List Instr := [.aload 0, .iload 1, .invokevirtual 218, .istore 4, .iload 4, .iload 2, .iand, .ifCond .eq 35, .aload 0, .iload 3, .invokevirtual 220, .iload 1, .invokestatic 56, .ifCond .eq 35, .aload 0, .iload 1, .invokevirtual 219, .iload 2, .iand, .ifCond .ne 35, .aload 0, .getfield 714, .iload 1, .invokestatic 56, .ifCond .ne 33, .iload 4, .iload 3, .iand, .iload 2, .iconst (-1), .ixor, .iand, .ifCond .ne 35, .iconst 1, .goto 36, .iconst 0, .freturn]
def pp_227 : List Nat := [0, 1, 2, 5, 7, 9, 10, 11, 14, 15, 16, 19, 20, 23, 26, 27, 28, 31, 32, 33, 36, 37, 40, 41, 44, 47, 49, 50, 51, 52, 53, 54, 55, 58, 59, 62, 63]
-- 228 StableFoundry$Program reachedFrom (I)I
def cc_228 : List Instr := [.aload 0, .iconst 1, .iload 1, .ishl, .invokevirtual 229, .istore 2, .iconst 0, .istore 3, .iload 3, .iconst 12, .if_icmp .ge 19, .iload 2, .aload 0, .iload 2, .invokevirtual 229, .ior, .istore 2, .iinc 3 1, .goto 8, .iload 2, .ireturn]
def pp_228 : List Nat := [0, 1, 2, 3, 4, 7, 8, 9, 10, 11, 13, 16, 17, 18, 19, 22, 23, 24, 27, 30, 31]
-- 229 StableFoundry$Program needsOfHeads (I)I
def cc_229 : List Instr := [.iconst 0, .istore 2, .iconst 0, .istore 3, .iload 3, .aload 0, .getfield 712, .if_icmp .ge 22, .aload 0, .iload 3, .invokevirtual 218, .iload 1, .iand, .ifCond .eq 20, .iload 2, .aload 0, .iload 3, .invokevirtual 219, .ior, .istore 2, .iinc 3 1, .goto 4, .iload 2, .ireturn]
def pp_229 : List Nat := [0, 1, 2, 3, 4, 5, 6, 9, 12, 13, 14, 17, 18, 19, 22, 23, 24, 25, 28, 29, 30, 33, 36, 37]
-- 230 StableFoundry$Rule <init> ()V
def cc_230 : List Instr := [.aload 0, .monitorenter, .aload 0, .new 5, .dup, .invokespecial 195, .putfield 800, .aload 0, .new 1, .dup, .iconst 3, .invokespecial 154, .putfield 801, .aload 0, .new 1, .dup, .iconst 3, .invokespecial 154, .putfield 802, .aload 0, .new 1, .dup, .iconst 3, .invokespecial 154, .putfield 803, .aload 0, .new 10, .dup, .invokespecial 246, .putfield 804, .aload 0, .iconst 4, .newarray .int, .putfield 805, .aload 0, .iconst 4, .newarray .int, .putfield 806, .return_]
def pp_230 : List Nat := [0, 1, 4, 5, 8, 9, 12, 15, 16, 19, 20, 21, 24, 27, 28, 31, 32, 33, 36, 39, 40, 43, 44, 45, 48, 51, 52, 55, 56, 59, 62, 63, 64, 66, 69, 70, 71, 73, 76]
-- 231 StableFoundry$Rule clear ()V
def cc_231 : List Instr := [.aload 0, .getfield 800, .invokevirtual 196, .aload 0, .getfield 801, .invokevirtual 157, .aload 0, .getfield 802, .invokevirtual 157, .aload 0, .getfield 803, .invokevirtual 157, .aload 0, .getfield 804, .invokevirtual 247, .aload 0, .iconst 0, .putfield 807, .return_]
def pp_231 : List Nat := [0, 1, 4, 7, 8, 11, 14, 15, 18, 21, 22, 25, 28, 29, 32, 35, 36, 37, 40]
-- 232 StableFoundry$Rule limit (III)V
def cc_232 : List Instr := [.iload 1, .ifCond .lt 23, .iload 1, .iconst 4, .if_icmp .ge 23, .aload 0, .getfield 805, .iload 1, .iload 2, .iastore, .aload 0, .getfield 806, .iload 1, .iload 3, .iastore, .aload 0, .dup, .getfield 807, .iconst 1, .iload 1, .ishl, .ior, .putfield 807, .return_]
def pp_232 : List Nat := [0, 1, 4, 5, 6, 9, 10, 13, 14, 15, 16, 17, 20, 21, 22, 23, 24, 25, 28, 29, 30, 31, 32, 35]
-- 233 StableFoundry$Rule lookThrough ()V
def cc_233 : List Instr := [.aload 0, .aload 0, .iconst 1, .invokevirtual 234, .putfield 809, .aload 0, .aload 0, .getfield 809, .aload 0, .iconst 0, .invokevirtual 234, .ior, .putfield 808, .return_]
def pp_233 : List Nat := [0, 1, 2, 3, 6, 9, 10, 11, 14, 15, 16, 19, 20, 23]
-- 234 StableFoundry$Rule variablesOf (Z)I
def cc_234 : List Instr := [.aload 0, .getfield 800, .getfield 501, .iload 1, .invokevirtual 169, .aload 0, .getfield 801, .iload 1, .invokevirtual 169, .ior, .aload 0, .getfield 802, .iload 1, .invokevirtual 169, .ior, .aload 0, .getfield 803, .iload 1, .invokevirtual 169, .ior, .aload 0, .getfield 804, .getfield 1003, .iload 1, .invokevirtual 169, .ior, .ireturn]
def pp_234 : List Nat := [0, 1, 4, 7, 8, 11, 12, 15, 16, 19, 20, 21, 24, 25, 28, 29, 30, 33, 34, 37, 38, 39, 42, 45, 46, 49, 50]
-- 235 StableFoundry$Rule isSafe ()Z
def cc_235 : List Instr := [.aload 0, .getfield 808, .aload 0, .getfield 807, .iconst (-1), .ixor, .iand, .aload 0, .getfield 801, .iconst 0, .invokevirtual 169, .iconst (-1), .ixor, .iand, .ifCond .ne 17, .iconst 1, .goto 18, .iconst 0, .freturn]
def pp_235 : List Nat := [0, 1, 4, 5, 8, 9, 10, 11, 12, 15, 16, 19, 20, 21, 22, 25, 26, 29, 30]
-- 236 StableFoundry$Rule lowest (I)I
def cc_236 : List Instr := [.aload 0, .iload 1, .invokevirtual 238, .ifCond .eq 9, .aload 0, .getfield 805, .iload 1, .iaload, .goto 10, .iconst 0, .ireturn]
def pp_236 : List Nat := [0, 1, 2, 5, 8, 9, 12, 13, 14, 17, 18]
-- 237 StableFoundry$Rule highest (I)I
def cc_237 : List Instr := [.aload 0, .getfield 808, .iload 1, .invokestatic 55, .ifCond .ne 7, .iconst 0, .ireturn, .aload 0, .iload 1, .invokevirtual 238, .ifCond .eq 16, .aload 0, .getfield 806, .iload 1, .iaload, .goto 17, .iconst 9, .istore 2, .aload 0, .getfield 809, .iload 1, .invokestatic 55, .ifCond .eq 27, .iload 2, .iconst 8, .i2s, .goto 28, .iload 2, .ireturn]
def pp_237 : List Nat := [0, 1, 4, 5, 8, 11, 12, 13, 14, 15, 18, 21, 22, 25, 26, 27, 30, 32, 33, 34, 37, 38, 41, 44, 45, 47, 50, 53, 54]
-- 238 StableFoundry$Rule isLimited (I)Z
def cc_238 : List Instr := [.iload 1, .ifCond .lt 15, .iload 1, .iconst 4, .if_icmp .ge 15, .aload 0, .getfield 808, .aload 0, .getfield 807, .iand, .iload 1, .invokestatic 55, .ifCond .eq 15, .iconst 1, .goto 16, .iconst 0, .freturn]
def pp_238 : List Nat := [0, 1, 4, 5, 6, 9, 10, 13, 14, 17, 18, 19, 22, 25, 26, 29, 30]
-- 239 StableFoundry$Stability <init> (LStableFoundry$Program;LStableFoundry$Externals;LStableFoundry$Differences;)V
def cc_239 : List Instr := [.aload 0, .monitorenter, .aload 0, .aload 1, .putfield 900, .aload 0, .aload 2, .putfield 901, .aload 0, .aload 3, .putfield 902, .return_]
def pp_239 : List Nat := [0, 1, 4, 5, 6, 9, 10, 11, 14, 15, 16, 19]
-- 240 StableFoundry$Stability isAnswer (I)Z
def cc_240 : List Instr := [.aload 0, .getfield 901, .getfield 201, .iload 1, .iconst (-1), .ixor, .iand, .ifCond .ne 31, .aload 0, .getfield 900, .iload 1, .invokevirtual 222, .sipush 0, .lcmp, .ifCond .ne 31, .aload 0, .iload 1, .invokevirtual 241, .ifCond .eq 31, .aload 0, .getfield 902, .aload 0, .getfield 900, .aload 0, .getfield 900, .iload 1, .invokevirtual 220, .invokevirtual 152, .ifCond .eq 31, .iconst 1, .goto 32, .iconst 0, .freturn]
def pp_240 : List Nat := [0, 1, 4, 7, 8, 9, 10, 11, 14, 15, 18, 19, 22, 23, 24, 27, 28, 29, 32, 35, 36, 39, 40, 43, 44, 47, 48, 51, 54, 57, 58, 61, 62]
-- 241 StableFoundry$Stability isLeast (I)Z
def cc_241 : List Instr := [.aload 0, .getfield 901, .iload 1, .invokevirtual 176, .istore 2, .iload 1, .istore 3, .iconst 1, .iload 1, .invokestatic 278, .ishl, .istore 4, .iload 4, .iconst 1, .if_icmp .le 39, .iload 3, .iconst 1, .isub, .iload 1, .iand, .istore 3, .iload 2, .iload 3, .iconst (-1), .ixor, .iand, .ifCond .ne 37, .aload 0, .getfield 900, .iload 3, .iload 1, .invokevirtual 224, .sipush 0, .lcmp, .ifCond .ne 37, .iconst 0, .freturn, .iinc 4 (-1), .goto 12, .iconst 1, .freturn]
def pp_241 : List Nat := [0, 1, 4, 5, 8, 9, 10, 11, 12, 13, 16, 17, 19, 21, 22, 25, 26, 27, 28, 29, 30, 31, 32, 33, 34, 35, 36, 39, 40, 43, 44, 45, 48, 49, 50, 53, 54, 55, 58, 61, 62]
-- 242 StableFoundry$Stability sparedFor (I)J
def cc_242 : List Instr := [.aload 0, .getfield 900, .iload 1, .invokevirtual 222, .lstore 2, .aload 0, .getfield 901, .getfield 201, .iload 1, .iconst (-1), .ixor, .iand, .ifCond .ne 20, .lload 2, .sipush 0, .lcmp, .ifCond .eq 22, .lload 2, .invokestatic 57, .ifCond .ne 22, .sipush 0, .lreturn, .lload 2, .sipush 0, .lcmp, .ifCond .ne 30, .aload 0, .getfield 900, .invokevirtual 204, .goto 31, .lload 2, .lstore 4, .aload 0, .getfield 901, .iload 1, .invokevirtual 176, .istore 6, .iload 1, .istore 7, .iconst 1, .iload 1, .invokestatic 278, .ishl, .istore 8, .iload 8, .iconst 1, .if_icmp .le 74, .lload 4, .sipush 0, .lcmp, .ifCond .eq 74, .iload 7, .iconst 1, .isub, .iload 1, .iand, .istore 7, .iload 6, .iload 7, .iconst (-1), .ixor, .iand, .ifCond .ne 72, .lload 4, .aload 0, .getfield 900, .iload 7, .iload 1, .invokevirtual 224, .invokestatic 243, .land, .lstore 4, .iinc 8 (-1), .goto 44, .aload 0, .lload 4, .aload 0, .getfield 900, .iload 1, .invokevirtual 220, .invokevirtual 244, .lreturn]
def pp_242 : List Nat := [0, 1, 4, 5, 8, 9, 10, 13, 16, 17, 18, 19, 20, 23, 24, 25, 26, 29, 30, 33, 36, 37, 38, 39, 40, 41, 44, 45, 48, 51, 54, 55, 57, 58, 61, 62, 65, 67, 68, 70, 71, 72, 75, 76, 78, 80, 81, 84, 86, 87, 88, 91, 93, 94, 95, 96, 97, 99, 101, 103, 104, 105, 106, 109, 111, 112, 115, 117, 118, 121, 124, 125, 127, 130, 133, 134, 136, 137, 140, 141, 144, 147]
-- 243 StableFoundry$Stability hinderedWithout (J)J
def cc_243 : List Instr := [.lload 0, .sipush 0, .lcmp, .ifCond .ne 6, .sipush 0, .lreturn, .lload 0, .invokestatic 57, .ifCond .eq 13, .lload 0, .sipush (-1), .lxor, .goto 14, .sipush (-1), .lreturn]
def pp_243 : List Nat := [0, 1, 2, 3, 6, 7, 8, 9, 12, 15, 16, 19, 20, 23, 26]
-- 244 StableFoundry$Stability reconciledWithout (JJ)J
def cc_244 : List Instr := [.lload 1, .sipush 0, .lcmp, .ifCond .eq 11, .aload 0, .getfield 902, .aload 0, .getfield 900, .lload 3, .invokevirtual 152, .ifCond .eq 13, .lload 1, .lreturn, .sipush 0, .lstore 5, .iconst 0, .istore 7, .iload 7, .aload 0, .getfield 900, .getfield 712, .if_icmp .ge 51, .sipush 1, .iload 7, .lshl, .lstore 8, .lload 1, .lload 3, .land, .lload 8, .land, .sipush 0, .lcmp, .ifCond .eq 49, .aload 0, .getfield 902, .aload 0, .getfield 900, .lload 3, .lload 8, .sipush (-1), .lxor, .land, .invokevirtual 152, .ifCond .eq 49, .lload 5, .lload 8, .lor, .lstore 5, .iinc 7 1, .goto 17, .lload 5, .lreturn]
def pp_244 : List Nat := [0, 1, 2, 3, 6, 7, 10, 11, 14, 15, 18, 21, 22, 23, 24, 26, 27, 29, 31, 32, 35, 38, 41, 42, 44, 45, 47, 48, 49, 50, 52, 53, 54, 55, 58, 59, 62, 63, 66, 67, 69, 72, 73, 74, 77, 80, 82, 84, 85, 87, 90, 93, 95]
-- 245 StableFoundry$Stability isUnfounded (II)Z
def cc_245 : List Instr := [.aload 0, .getfield 901, .getfield 201, .aload 0, .getfield 901, .getfield 202, .ior, .iload 1, .iand, .ifCond .eq 12, .iconst 0, .freturn, .iconst 0, .istore 3, .iload 3, .aload 0, .getfield 900, .getfield 712, .if_icmp .ge 30, .aload 0, .getfield 900, .iload 3, .iload 1, .iload 2, .invokevirtual 227, .ifCond .eq 28, .iconst 0, .freturn, .iinc 3 1, .goto 14, .iconst 1, .freturn]
def pp_245 : List Nat := [0, 1, 4, 7, 8, 11, 14, 15, 16, 17, 20, 21, 22, 23, 24, 25, 26, 29, 32, 35, 36, 39, 40, 41, 42, 45, 48, 49, 50, 53, 56, 57]
-- 246 StableFoundry$Sum <init> ()V
def cc_246 : List Instr := [.aload 0, .monitorenter, .aload 0, .new 1, .dup, .iconst 4, .invokespecial 154, .putfield 1003, .aload 0, .iconst 4, .newarray .int, .putfield 1004, .return_]
def pp_246 : List Nat := [0, 1, 4, 5, 8, 9, 10, 13, 16, 17, 18, 20, 23]
-- 247 StableFoundry$Sum clear ()V
def cc_247 : List Instr := [.aload 0, .iconst 0, .putfield 1000, .aload 0, .getfield 1003, .invokevirtual 157, .return_]
def pp_247 : List Nat := [0, 1, 2, 5, 6, 9, 12]
-- 248 StableFoundry$Sum addElement (IIII)V
def cc_248 : List Instr := [.aload 0, .getfield 1003, .getfield 102, .aload 0, .getfield 1004, .arraylength, .if_icmp .ge 20, .aload 0, .getfield 1004, .aload 0, .getfield 1003, .getfield 102, .iload 1, .iastore, .aload 0, .getfield 1003, .iload 2, .iload 3, .iload 4, .invokevirtual 156, .return_]
def pp_248 : List Nat := [0, 1, 4, 7, 8, 11, 12, 15, 16, 19, 20, 23, 26, 27, 28, 29, 32, 33, 34, 36, 39]
-- 249 StableFoundry$Sum weightAt (I)I
def cc_249 : List Instr := [.iload 1, .ifCond .lt 12, .iload 1, .aload 0, .getfield 1004, .arraylength, .if_icmp .ge 12, .aload 0, .getfield 1004, .iload 1, .iaload, .goto 13, .iconst 0, .ireturn]
def pp_249 : List Nat := [0, 1, 4, 5, 6, 9, 10, 13, 14, 17, 18, 19, 22, 23]
-- 250 StableFoundryLaw cell ([II)I
def cc_250 : List Instr := [.iload 1, .aload 0, .arraylength, .if_icmp .ge 8, .aload 0, .iload 1, .iaload, .goto 17, .iconst 7919, .iload 1, .iconst 1607, .iadd, .imul, .iload 1, .iconst 307, .iadd, .imul, .ireturn]
def pp_250 : List Nat := [0, 1, 2, 3, 6, 7, 8, 9, 12, 15, 16, 19, 20, 21, 22, 25, 26, 27]
-- 251 StableFoundryLaw low (II)I
def cc_251 : List Instr := [.iload 0, .iconst 2147483647, .iand, .iload 1, .irem, .ireturn]
def pp_251 : List Nat := [0, 1, 3, 4, 5, 6]
-- 252 StableFoundryLaw head (LStableFoundry;III)I
def cc_252 : List Instr := [.aload 0, .iload 1, .iload 2, .iload 3, .invokevirtual 2, .ireturn, .astore 4, .iconst (-99999), .ireturn, .astore 4, .iconst (-99999), .ireturn, .astore 4, .iconst (-99999), .ireturn]
def pp_252 : List Nat := [0, 1, 2, 3, 4, 7, 8, 10, 12, 13, 15, 17, 18, 20, 22]
-- 253 StableFoundryLaw choice (LStableFoundry;II)I
def cc_253 : List Instr := [.aload 0, .iload 1, .iload 2, .invokevirtual 3, .iconst 0, .ireturn, .astore 3, .iconst (-99999), .ireturn, .astore 3, .iconst (-99999), .ireturn]
def pp_253 : List Nat := [0, 1, 2, 3, 6, 7, 8, 9, 11, 12, 13, 15]
-- 254 StableFoundryLaw weak (LStableFoundry;II)I
def cc_254 : List Instr := [.aload 0, .iload 1, .iload 2, .invokevirtual 4, .iconst 0, .ireturn, .astore 3, .iconst (-99999), .ireturn, .astore 3, .iconst (-99999), .ireturn]
def pp_254 : List Nat := [0, 1, 2, 3, 6, 7, 8, 9, 11, 12, 13, 15]
-- 255 StableFoundryLaw difference (LStableFoundry;III)I
def cc_255 : List Instr := [.aload 0, .iload 1, .iload 2, .iload 3, .invokevirtual 5, .iconst 0, .ireturn, .astore 4, .iconst (-99999), .ireturn, .astore 4, .iconst (-99999), .ireturn, .astore 4, .iconst (-99999), .ireturn]
def pp_255 : List Nat := [0, 1, 2, 3, 4, 7, 8, 9, 11, 13, 14, 16, 18, 19, 21, 23]
-- 256 StableFoundryLaw body (LStableFoundry;IIIZ)I
def cc_256 : List Instr := [.aload 0, .iload 1, .iload 2, .iload 3, .iload 4, .invokevirtual 6, .ireturn, .astore 5, .iconst (-99999), .ireturn, .astore 5, .iconst (-99999), .ireturn, .astore 5, .iconst (-99999), .ireturn]
def pp_256 : List Nat := [0, 1, 2, 3, 4, 6, 9, 10, 12, 14, 15, 17, 19, 20, 22, 24]
-- 257 StableFoundryLaw compare (LStableFoundry;III)I
def cc_257 : List Instr := [.aload 0, .iload 1, .iload 2, .iload 3, .invokevirtual 7, .ireturn, .astore 4, .iconst (-99999), .ireturn, .astore 4, .iconst (-99999), .ireturn]
def pp_257 : List Nat := [0, 1, 2, 3, 4, 7, 8, 10, 12, 13, 15, 17]
-- 258 StableFoundryLaw interval (LStableFoundry;III)I
def cc_258 : List Instr := [.aload 0, .iload 1, .iload 2, .iload 3, .invokevirtual 8, .iconst 0, .ireturn, .astore 4, .iconst (-99999), .ireturn]
def pp_258 : List Nat := [0, 1, 2, 3, 4, 7, 8, 9, 11, 13]
-- 259 StableFoundryLaw sum (LStableFoundry;II)I
def cc_259 : List Instr := [.aload 0, .iload 1, .iload 2, .invokevirtual 9, .iconst 0, .ireturn, .astore 3, .iconst (-99999), .ireturn, .astore 3, .iconst (-99999), .ireturn]
def pp_259 : List Nat := [0, 1, 2, 3, 6, 7, 8, 9, 11, 12, 13, 15]
-- 260 StableFoundryLaw element (LStableFoundry;IIII)I
def cc_260 : List Instr := [.aload 0, .iload 1, .iload 2, .iload 3, .iload 4, .invokevirtual 10, .ireturn, .astore 5, .iconst (-99999), .ireturn, .astore 5, .iconst (-99999), .ireturn, .astore 5, .iconst (-99999), .ireturn]
def pp_260 : List Nat := [0, 1, 2, 3, 4, 6, 9, 10, 12, 14, 15, 17, 19, 20, 22, 24]
-- 261 StableFoundryLaw enter (LStableFoundry;)I
def cc_261 : List Instr := [.aload 0, .invokevirtual 12, .ireturn, .astore 1, .iconst (-99999), .ireturn, .astore 1, .iconst (-99999), .ireturn]
def pp_261 : List Nat := [0, 1, 4, 5, 6, 8, 9, 10, 12]
-- 262 StableFoundryLaw external (LStableFoundry;III)I
def cc_262 : List Instr := [.aload 0, .iload 1, .iload 2, .iload 3, .invokevirtual 13, .ireturn, .astore 4, .iconst (-99999), .ireturn, .astore 4, .iconst (-99999), .ireturn, .astore 4, .iconst (-99999), .ireturn]
def pp_262 : List Nat := [0, 1, 2, 3, 4, 7, 8, 10, 12, 13, 15, 17, 18, 20, 22]
-- 263 StableFoundryLaw assign (LStableFoundry;II)I
def cc_263 : List Instr := [.aload 0, .iload 1, .iload 2, .invokevirtual 14, .ireturn, .astore 3, .iconst (-99999), .ireturn, .astore 3, .iconst (-99999), .ireturn, .astore 3, .iconst (-99999), .ireturn]
def pp_263 : List Nat := [0, 1, 2, 3, 6, 7, 8, 10, 11, 12, 14, 15, 16, 18]
-- 264 StableFoundryLaw prefer (LStableFoundry;II)I
def cc_264 : List Instr := [.aload 0, .iload 1, .iload 2, .invokevirtual 15, .ireturn, .astore 3, .iconst (-99999), .ireturn, .astore 3, .iconst (-99999), .ireturn, .astore 3, .iconst (-99999), .ireturn]
def pp_264 : List Nat := [0, 1, 2, 3, 6, 7, 8, 10, 11, 12, 14, 15, 16, 18]
-- 265 StableFoundryLaw term (I)I
def cc_265 : List Instr := [.iload 0, .iconst 12, .invokestatic 251, .istore 1, .iload 1, .iconst 4, .if_icmp .ge 13, .iload 0, .iconst 3, .ishr, .iconst 3, .invokestatic 251, .goto 38, .iload 1, .iconst 10, .if_icmp .ge 24, .iconst (-1), .iload 0, .iconst 3, .ishr, .iconst 2, .invokestatic 251, .isub, .goto 38, .iload 1, .iconst 10, .if_icmp .ne 35, .iconst 20, .iload 0, .iconst 3, .ishr, .iconst 2, .invokestatic 251, .iadd, .goto 38, .iload 0, .iconst 5, .ishr, .ireturn]
def pp_265 : List Nat := [0, 1, 3, 6, 7, 8, 9, 12, 13, 14, 15, 16, 19, 22, 23, 25, 28, 29, 30, 31, 32, 33, 36, 37, 40, 41, 43, 46, 48, 49, 50, 51, 52, 55, 56, 59, 60, 61, 62]
-- 266 StableFoundryLaw act (LStableFoundry;I)I
def cc_266_0 : List Instr := [.iload 1, .iconst 22, .ishr, .iconst 30, .invokestatic 251, .ifCond .ne 8, .iconst 7, .goto 13, .iload 1, .iconst 5, .ishr, .iconst 4, .invokestatic 251, .istore 2, .iload 2, .iconst 3, .if_icmp .ne 19, .iconst 0, .goto 23, .iload 1, .iconst 7, .ishr, .invokestatic 265, .istore 3, .iload 2, .iconst 2, .if_icmp .ne 32, .iload 1, .iconst 12, .ishr, .invokestatic 265, .goto 33, .iconst 0, .istore 4, .iload 1, .iconst 24, .invokestatic 251, .tableswitch 240 0 19 #[38, 38, 38, 38, 38, 44, 44, 44, 44, 59, 72, 113, 129, 129, 147, 162, 186, 210, 223, 236], .aload 0, .iload 2, .iload 3, .iload 4, .invokestatic 252, .ireturn, .aload 0, .iload 2, .iload 3, .iload 4, .iload 1, .iconst 17, .ishr, .iconst 3, .iand, .ifCond .ne 56, .iconst 1, .goto 57, .iconst 0, .invokestatic 256, .ireturn, .aload 0, .iload 1, .iconst 5, .ishr, .iconst 3, .invokestatic 251, .iload 1, .iconst 8, .ishr, .iconst 5, .invokestatic 251, .invokestatic 253, .ireturn, .iload 1, .iconst 5, .ishr, .iconst 1, .iand, .ifCond .ne 93, .aload 0, .iload 1, .iconst 6, .ishr, .iconst 20, .invokestatic 251, .iconst 8, .isub, .iload 1, .iconst 11, .ishr, .iconst 4, .invokestatic 251, .invokestatic 254, .goto 112, .aload 0, .iload 1, .iconst 6, .ishr, .iconst 5, .invokestatic 251, .iload 1]
def cc_266_1 : List Instr := [.iconst 9, .ishr, .iconst 4, .invokestatic 251, .iload 1, .iconst 12, .ishr, .iconst 220, .invokestatic 251, .iconst 110, .isub, .invokestatic 255, .ireturn, .aload 0, .iload 1, .iconst 5, .ishr, .iconst 5, .invokestatic 251, .iload 1, .iconst 8, .ishr, .invokestatic 265, .iload 1, .iconst 13, .ishr, .invokestatic 265, .invokestatic 257, .ireturn, .aload 0, .iload 1, .iconst 5, .ishr, .iconst 2, .invokestatic 251, .iload 1, .iconst 8, .ishr, .iconst 3, .invokestatic 251, .iload 1, .iconst 11, .ishr, .iconst 4, .invokestatic 251, .invokestatic 258, .ireturn, .aload 0, .iload 1, .iconst 5, .ishr, .iconst 4, .invokestatic 251, .iconst 1, .isub, .iload 1, .iconst 8, .ishr, .iconst 6, .invokestatic 251, .invokestatic 259, .ireturn, .aload 0, .iload 1, .iconst 13, .ishr, .iconst 7, .invokestatic 251, .iconst 3, .isub, .iload 2, .iload 1, .iconst 16, .ishr, .iconst 3, .invokestatic 251, .ifCond .ne 182, .iload 2, .iconst 3, .if_icmp .eq 182, .iconst (-5), .goto 183, .iload 3, .iload 4, .invokestatic 260, .ireturn, .aload 0, .iload 2, .iload 2, .iconst 3, .if_icmp .ne 193, .iconst 0, .goto 198, .iload 1, .iconst 7, .ishr, .iconst 3, .invokestatic 251, .iload 2, .iconst 2]
def cc_266_2 : List Instr := [.if_icmp .ne 207, .iload 1, .iconst 9, .ishr, .iconst 3, .invokestatic 251, .goto 208, .iconst 0, .invokestatic 262, .ireturn, .aload 0, .iload 1, .iconst 5, .ishr, .iconst 8, .invokestatic 251, .iload 1, .iconst 9, .ishr, .iconst 4, .invokestatic 251, .invokestatic 263, .ireturn, .aload 0, .iload 1, .iconst 5, .ishr, .iconst 5, .invokestatic 251, .iload 1, .iconst 9, .ishr, .iconst 5, .invokestatic 251, .invokestatic 264, .ireturn, .aload 0, .invokevirtual 11, .iconst 0, .ireturn, .aload 0, .invokestatic 261, .ireturn]
def cc_266 : List Instr := cc_266_0 ++ (cc_266_1 ++ (cc_266_2))
def pp_266_0 : List Nat := [0, 1, 3, 4, 6, 9, 12, 14, 17, 18, 19, 20, 21, 24, 25, 26, 27, 30, 31, 34, 35, 37, 38, 41, 42, 43, 44, 47, 48, 50, 51, 54, 57, 58, 60, 61, 63, 66, 160, 161, 162, 163, 165, 168, 169, 170, 171, 172, 174, 175, 177, 178, 179, 180, 183, 184, 187, 188, 191, 192, 193, 194, 195, 196, 197, 200, 201, 203, 204, 205, 208, 211, 212, 213, 214, 215, 216, 217, 220, 221, 222, 224, 225, 227, 230, 232, 233, 234, 236, 237, 238, 241, 244, 247, 248, 249, 251, 252, 253, 256]
def pp_266_1 : List Nat := [257, 259, 260, 261, 264, 265, 267, 268, 271, 274, 276, 277, 280, 281, 282, 283, 284, 285, 286, 289, 290, 292, 293, 296, 297, 299, 300, 303, 306, 307, 308, 309, 310, 311, 312, 315, 316, 318, 319, 320, 323, 324, 326, 327, 328, 331, 334, 335, 336, 337, 338, 339, 340, 343, 344, 345, 346, 348, 349, 351, 354, 357, 358, 359, 360, 362, 363, 365, 368, 369, 370, 371, 372, 374, 375, 376, 379, 382, 383, 384, 387, 389, 392, 393, 395, 398, 399, 400, 401, 402, 403, 406, 407, 410, 411, 413, 414, 415, 418, 419]
def pp_266_2 : List Nat := [420, 423, 424, 426, 427, 428, 431, 434, 435, 438, 439, 440, 441, 442, 443, 445, 448, 449, 451, 452, 453, 456, 459, 460, 461, 462, 463, 464, 465, 468, 469, 471, 472, 473, 476, 479, 480, 481, 484, 485, 486, 487, 490]
def pp_266 : List Nat := pp_266_0 ++ (pp_266_1 ++ (pp_266_2))
-- 267 StableFoundryLaw areAlike (LStableFoundry;LStableFoundry;)Z
def cc_267 : List Instr := [.aload 0, .invokevirtual 20, .istore 2, .aload 0, .invokevirtual 17, .aload 1, .invokevirtual 17, .if_icmp .ne 24, .iload 2, .aload 1, .invokevirtual 20, .if_icmp .ne 24, .aload 0, .invokevirtual 28, .aload 1, .invokevirtual 28, .if_icmp .ne 24, .aload 0, .invokevirtual 29, .aload 1, .invokevirtual 29, .if_icmp .ne 24, .iconst 1, .goto 25, .iconst 0, .istore 3, .iconst 0, .istore 4, .iload 4, .iload 2, .if_icmp .ge 75, .iload 4, .iconst 6, .if_icmp .ge 75, .iload 3, .ifCond .eq 75, .aload 0, .iload 4, .invokevirtual 22, .aload 1, .iload 4, .invokevirtual 22, .if_icmp .ne 71, .aload 0, .iload 4, .iconst 0, .invokevirtual 25, .aload 1, .iload 4, .iconst 0, .invokevirtual 25, .lcmp, .ifCond .ne 71, .aload 0, .iload 4, .invokevirtual 26, .aload 1, .iload 4, .invokevirtual 26, .if_icmp .ne 71, .aload 0, .iload 4, .iconst 1, .invokevirtual 30, .aload 1, .iload 4, .iconst 1, .invokevirtual 30, .if_icmp .ne 71, .iconst 1, .goto 72, .iconst 0, .istore 3, .iinc 4 1, .goto 28, .iload 3, .freturn]
def pp_267 : List Nat := [0, 1, 4, 5, 6, 9, 10, 13, 16, 17, 18, 21, 24, 25, 28, 29, 32, 35, 36, 39, 40, 43, 46, 47, 50, 51, 52, 53, 55, 57, 58, 61, 63, 65, 68, 69, 72, 73, 75, 78, 79, 81, 84, 87, 88, 90, 91, 94, 95, 97, 98, 101, 102, 105, 106, 108, 111, 112, 114, 117, 120, 121, 123, 124, 127, 128, 130, 131, 134, 137, 138, 141, 142, 143, 146, 149, 150]
-- 268 StableFoundryLaw areAnswersSo (LStableFoundry;I)Z
def cc_268_0 : List Instr := [.aload 0, .invokevirtual 17, .iconst 100, .idiv, .istore 2, .iconst 1, .iload 2, .ishl, .iconst 1, .isub, .istore 3, .aload 0, .invokevirtual 20, .istore 4, .aload 0, .invokevirtual 17, .aload 0, .invokevirtual 18, .if_icmp .ne 62, .iload 4, .aload 0, .invokevirtual 21, .if_icmp .ne 62, .aload 0, .iconst 0, .iconst 0, .invokevirtual 23, .iload 4, .if_icmp .ne 62, .aload 0, .iconst 0, .invokevirtual 27, .iload 4, .ifCond .le 36, .iconst 1, .goto 37, .iconst 0, .if_icmp .ne 62, .aload 0, .iload 3, .invokevirtual 27, .iload 4, .if_icmp .ne 62, .aload 0, .invokevirtual 29, .aload 0, .invokevirtual 28, .iconst (-1), .ixor, .iand, .iload 4, .ifCond .le 54, .iconst 0, .goto 55, .iload 3, .if_icmp .ne 62, .aload 0, .iconst 0, .invokevirtual 34, .ifCond .ne 62, .iconst 1, .goto 63, .iconst 0, .istore 5, .iload 4, .ifCond .ne 68, .iconst 1, .goto 69, .iconst 0, .istore 6, .iconst 0, .istore 7, .iconst 0, .istore 8, .iload 8, .iload 4, .if_icmp .ge 146, .iload 8, .iconst 40, .if_icmp .ge 146, .iload 5, .ifCond .eq 146, .aload 0, .iload 8, .invokevirtual 22, .istore 9, .iload 8, .ifCond .eq 95, .aload 0, .iload 8, .iconst 1, .isub, .invokevirtual 22, .iload 9, .if_icmp .ge 128, .iload 9, .aload 0, .invokevirtual 28, .iconst (-1), .ixor]
def cc_268_1 : List Instr := [.iand, .ifCond .ne 128, .aload 0, .invokevirtual 29, .iload 9, .iconst (-1), .ixor, .iand, .ifCond .ne 128, .aload 0, .iload 9, .iload 3, .iload 9, .iconst (-1), .ixor, .iand, .invokevirtual 23, .iconst 1, .if_icmp .ne 128, .aload 0, .iload 8, .iload 1, .iconst 4, .invokestatic 251, .invokevirtual 30, .ifCond .gt 128, .iconst 1, .goto 129, .iconst 0, .istore 5, .iload 6, .ifCond .ne 136, .aload 0, .iload 8, .invokevirtual 26, .ifCond .le 138, .iconst 1, .goto 139, .iconst 0, .istore 6, .iload 7, .iload 9, .ior, .istore 7, .iinc 8 1, .goto 74, .iload 5, .ifCond .eq 159, .iload 4, .iconst 40, .if_icmp .gt 157, .iload 6, .ifCond .eq 159, .iload 7, .aload 0, .invokevirtual 28, .if_icmp .ne 159, .iconst 1, .goto 160, .iconst 0, .istore 5, .iconst 0, .istore 8, .iload 8, .iload 2, .if_icmp .ge 236, .iload 5, .ifCond .eq 236, .aload 0, .iload 8, .invokevirtual 33, .istore 9, .aload 0, .invokevirtual 28, .iload 8, .ishr, .iconst 1, .iand, .iconst 1, .if_icmp .ne 182, .iconst 1, .goto 183, .iconst 0, .istore 10, .iload 9, .ifCond .eq 193, .iload 9, .iload 8, .ishr, .iconst 1, .iand, .iconst 1, .if_icmp .ne 232, .aload 0, .iload 8, .invokevirtual 32, .iconst (-1), .if_icmp .ne 200, .iconst 1, .goto 201]
def cc_268_2 : List Instr := [.iconst 0, .iload 10, .if_icmp .ne 232, .iload 4, .ifCond .eq 218, .aload 0, .iconst 1, .iload 8, .ishl, .iconst 0, .invokevirtual 24, .iconst (-1), .if_icmp .ne 215, .iconst 1, .goto 216, .iconst 0, .iload 10, .if_icmp .ne 232, .aload 0, .iconst 1, .iload 8, .ishl, .iconst 0, .invokevirtual 23, .ifCond .le 227, .iconst 1, .goto 228, .iconst 0, .iload 10, .if_icmp .ne 232, .iconst 1, .goto 233, .iconst 0, .istore 5, .iinc 8 1, .goto 163, .iload 5, .ifCond .eq 249, .iload 4, .ifCond .gt 247, .aload 0, .iload 3, .iconst 3, .iand, .iconst 0, .invokevirtual 24, .ifCond .ne 249, .iconst 1, .goto 250, .iconst 0, .freturn]
def cc_268 : List Instr := cc_268_0 ++ (cc_268_1 ++ (cc_268_2))
def pp_268_0 : List Nat := [0, 1, 4, 6, 7, 8, 9, 10, 11, 12, 13, 14, 15, 18, 20, 21, 24, 25, 28, 31, 33, 34, 37, 40, 41, 42, 43, 46, 48, 51, 52, 53, 56, 58, 61, 62, 65, 66, 69, 70, 71, 74, 76, 79, 80, 83, 84, 87, 88, 89, 90, 92, 95, 96, 99, 100, 103, 104, 105, 108, 111, 112, 115, 116, 118, 120, 123, 124, 127, 128, 130, 131, 133, 134, 136, 138, 140, 143, 145, 147, 150, 152, 155, 156, 158, 161, 163, 165, 168, 169, 171, 172, 173, 176, 178, 181, 183, 184, 187, 188]
def pp_268_1 : List Nat := [189, 190, 193, 194, 197, 199, 200, 201, 202, 205, 206, 208, 209, 211, 212, 213, 214, 217, 218, 221, 222, 224, 225, 226, 229, 232, 235, 236, 239, 240, 242, 244, 247, 248, 250, 253, 256, 257, 260, 261, 263, 265, 267, 268, 270, 273, 276, 278, 281, 283, 285, 288, 290, 293, 295, 296, 299, 302, 303, 306, 307, 309, 310, 312, 314, 315, 318, 320, 323, 324, 326, 329, 331, 332, 335, 337, 338, 339, 340, 341, 344, 345, 348, 349, 351, 353, 356, 358, 360, 361, 362, 363, 364, 367, 368, 370, 373, 374, 377, 378]
def pp_268_2 : List Nat := [381, 382, 384, 387, 389, 392, 393, 394, 396, 397, 398, 401, 402, 405, 406, 409, 410, 412, 415, 416, 417, 419, 420, 421, 424, 427, 428, 431, 432, 434, 437, 438, 441, 442, 444, 447, 450, 452, 455, 457, 460, 461, 462, 463, 464, 465, 468, 471, 472, 475, 476]
def pp_268 : List Nat := pp_268_0 ++ (pp_268_1 ++ (pp_268_2))
-- 269 StableFoundryLaw low (II)I
def cc_269 : List Instr := [.iload 0, .iconst 2147483647, .iand, .iload 1, .irem, .ireturn]
def pp_269 : List Nat := [0, 1, 3, 4, 5, 6]
-- 270 StableFoundryLaw low (II)I
def cc_270 : List Instr := [.iload 0, .iconst 2147483647, .iand, .iload 1, .irem, .ireturn]
def pp_270 : List Nat := [0, 1, 3, 4, 5, 6]
-- 271 StableFoundryLaw low (II)I
def cc_271 : List Instr := [.iload 0, .iconst 2147483647, .iand, .iload 1, .irem, .ireturn]
def pp_271 : List Nat := [0, 1, 3, 4, 5, 6]
-- 272 StableFoundryLaw low (II)I
def cc_272 : List Instr := [.iload 0, .iconst 2147483647, .iand, .iload 1, .irem, .ireturn]
def pp_272 : List Nat := [0, 1, 3, 4, 5, 6]
-- 273 StableFoundryLaw low (II)I
def cc_273 : List Instr := [.iload 0, .iconst 2147483647, .iand, .iload 1, .irem, .ireturn]
def pp_273 : List Nat := [0, 1, 3, 4, 5, 6]
-- 274 StableFoundryLaw low (II)I
def cc_274 : List Instr := [.iload 0, .iconst 2147483647, .iand, .iload 1, .irem, .ireturn]
def pp_274 : List Nat := [0, 1, 3, 4, 5, 6]
-- 275 StableFoundryLaw low (II)I
def cc_275 : List Instr := [.iload 0, .iconst 2147483647, .iand, .iload 1, .irem, .ireturn]
def pp_275 : List Nat := [0, 1, 3, 4, 5, 6]
-- 276 StableFoundryLaw low (II)I
def cc_276 : List Instr := [.iload 0, .iconst 2147483647, .iand, .iload 1, .irem, .ireturn]
def pp_276 : List Nat := [0, 1, 3, 4, 5, 6]
-- 277 StableFoundryLaw law ([I)Z
def cc_277 : List Instr := [.new 11, .dup, .invokespecial 0, .astore 1, .new 11, .dup, .invokespecial 0, .astore 2, .iconst 0, .istore 3, .iload 3, .iconst 4, .if_icmp .ge 39, .iload 3, .iconst 3, .if_icmp .ne 18, .iconst 0, .goto 24, .iload 3, .iconst 2, .if_icmp .ne 23, .iconst 2, .goto 24, .iconst 1, .istore 4, .aload 1, .iload 4, .invokevirtual 1, .iload 3, .if_icmp .ne 35, .aload 2, .iload 4, .invokevirtual 1, .iload 3, .if_icmp .eq 37, .iconst 0, .freturn, .iinc 3 1, .goto 10, .iconst 0, .istore 3, .iload 3, .iconst 80, .if_icmp .ge 86, .aload 0, .iload 3, .invokestatic 250, .istore 4, .aload 1, .iload 4, .invokestatic 266, .istore 5, .iload 5, .iconst (-99999), .if_icmp .eq 60, .aload 2, .iload 4, .invokestatic 266, .iload 5, .if_icmp .ne 65, .aload 1, .invokevirtual 17, .aload 2, .invokevirtual 17, .if_icmp .eq 67, .iconst 0, .freturn, .iload 3, .iconst 20, .irem, .iconst 19, .if_icmp .ne 84, .aload 1, .aload 2, .invokestatic 267, .ifCond .eq 82, .aload 1, .iload 4, .iconst 3, .ishr, .invokestatic 268, .ifCond .ne 84, .iconst 0, .freturn, .iinc 3 1, .goto 41, .iconst 1, .freturn]
def pp_277 : List Nat := [0, 3, 4, 7, 8, 11, 12, 15, 16, 17, 18, 19, 20, 23, 24, 25, 28, 29, 32, 33, 34, 37, 38, 41, 42, 44, 45, 47, 50, 51, 54, 55, 57, 60, 61, 64, 65, 66, 69, 72, 73, 74, 75, 77, 80, 81, 82, 85, 87, 88, 90, 93, 95, 97, 99, 102, 103, 105, 108, 110, 113, 114, 117, 118, 121, 124, 125, 126, 127, 129, 130, 132, 135, 136, 137, 140, 143, 144, 146, 147, 148, 151, 154, 155, 156, 159, 162, 163]
-- 278 java/lang/Integer bitCount (I)I
def cc_278 : List Instr := [.iload 0, .iload 0, .iconst 1, .iushr, .iconst 1431655765, .iand, .isub, .istore 0, .iload 0, .iconst 858993459, .iand, .iload 0, .iconst 2, .iushr, .iconst 858993459, .iand, .iadd, .istore 0, .iload 0, .iload 0, .iconst 4, .iushr, .iadd, .iconst 252645135, .iand, .istore 0, .iload 0, .iload 0, .iconst 8, .iushr, .iadd, .istore 0, .iload 0, .iload 0, .iconst 16, .iushr, .iadd, .istore 0, .iload 0, .iconst 63, .iand, .ireturn]
def pp_278 : List Nat := [0, 1, 2, 3, 4, 7, 8, 9, 10, 11, 14, 15, 16, 17, 18, 21, 22, 23, 24, 25, 26, 27, 28, 29, 32, 33, 34, 35, 36, 38, 39, 40, 41, 42, 43, 45, 46, 47, 48, 49, 51, 52]
-- 279 java/lang/Long bitCount (J)I
def cc_279 : List Instr := [.lload 0, .lload 0, .iconst 1, .lushr, .sipush 6148914691236517205, .land, .lsub, .lstore 0, .lload 0, .sipush 3689348814741910323, .land, .lload 0, .iconst 2, .lushr, .sipush 3689348814741910323, .land, .ladd, .lstore 0, .lload 0, .lload 0, .iconst 4, .lushr, .ladd, .sipush 1085102592571150095, .land, .lstore 0, .lload 0, .lload 0, .iconst 8, .lushr, .ladd, .lstore 0, .lload 0, .lload 0, .iconst 16, .lushr, .ladd, .lstore 0, .lload 0, .lload 0, .iconst 32, .lushr, .ladd, .lstore 0, .lload 0, .l2i, .iconst 127, .iand, .ireturn]
def pp_279 : List Nat := [0, 1, 2, 3, 4, 7, 8, 9, 10, 11, 14, 15, 16, 17, 18, 21, 22, 23, 24, 25, 26, 27, 28, 29, 32, 33, 34, 35, 36, 38, 39, 40, 41, 42, 43, 45, 46, 47, 48, 49, 50, 52, 53, 54, 55, 56, 57, 59, 60]
-- 280 java/lang/Long compare (JJ)I
def cc_280 : List Instr := [.lload 0, .lload 2, .lcmp, .ifCond .ge 6, .iconst (-1), .goto 13, .lload 0, .lload 2, .lcmp, .ifCond .ne 12, .iconst 0, .goto 13, .iconst 1, .ireturn]
def pp_280 : List Nat := [0, 1, 2, 3, 6, 7, 10, 11, 12, 13, 16, 17, 20, 21]
-- 281 java/lang/Math max (II)I
def cc_281 : List Instr := [.iload 0, .iload 1, .if_icmp .lt 5, .iload 0, .goto 6, .iload 1, .ireturn]
def pp_281 : List Nat := [0, 1, 2, 5, 6, 9, 10]
-- 282 java/lang/Math min (II)I
def cc_282 : List Instr := [.iload 0, .iload 1, .if_icmp .gt 5, .iload 0, .goto 6, .iload 1, .ireturn]
def pp_282 : List Nat := [0, 1, 2, 5, 6, 9, 10]
def CCL_0 : List (List Instr) := [cc_0, cc_1, cc_2, cc_3, cc_4, cc_5, cc_6, cc_7, cc_8, cc_9, cc_10, cc_11, cc_12, cc_13, cc_14, cc_15, cc_16, cc_17, cc_18, cc_19, cc_20, cc_21, cc_22, cc_23, cc_24, cc_25, cc_26, cc_27, cc_28, cc_29, cc_30, cc_31, cc_32, cc_33, cc_34, cc_35, cc_36, cc_37, cc_38, cc_39, cc_40, cc_41, cc_42, cc_43, cc_44, cc_45, cc_46, cc_47, cc_48, cc_49, cc_50, cc_51, cc_52, cc_53, cc_54, cc_55, cc_56, cc_57, cc_58, cc_59]
def CCL_1 : List (List Instr) := [cc_60, cc_61, cc_62, cc_63, cc_64, cc_65, cc_66, cc_67, cc_68, cc_69, cc_70, cc_71, cc_72, cc_73, cc_74, cc_75, cc_76, cc_77, cc_78, cc_79, cc_80, cc_81, cc_82, cc_83, cc_84, cc_85, cc_86, cc_87, cc_88, cc_89, cc_90, cc_91, cc_92, cc_93, cc_94, cc_95, cc_96, cc_97, cc_98, cc_99, cc_100, cc_101, cc_102, cc_103, cc_104, cc_105, cc_106, cc_107, cc_108, cc_109, cc_110, cc_111, cc_112, cc_113, cc_114, cc_115, cc_116, cc_117, cc_118, cc_119]
def CCL_2 : List (List Instr) := [cc_120, cc_121, cc_122, cc_123, cc_124, cc_125, cc_126, cc_127, cc_128, cc_129, cc_130, cc_131, cc_132, cc_133, cc_134, cc_135, cc_136, cc_137, cc_138, cc_139, cc_140, cc_141, cc_142, cc_143, cc_144, cc_145, cc_146, cc_147, cc_148, cc_149, cc_150, cc_151, cc_152, cc_153, cc_154, cc_155, cc_156, cc_157, cc_158, cc_159, cc_160, cc_161, cc_162, cc_163, cc_164, cc_165, cc_166, cc_167, cc_168, cc_169, cc_170, cc_171, cc_172, cc_173, cc_174, cc_175, cc_176, cc_177, cc_178, cc_179]
def CCL_3 : List (List Instr) := [cc_180, cc_181, cc_182, cc_183, cc_184, cc_185, cc_186, cc_187, cc_188, cc_189, cc_190, cc_191, cc_192, cc_193, cc_194, cc_195, cc_196, cc_197, cc_198, cc_199, cc_200, cc_201, cc_202, cc_203, cc_204, cc_205, cc_206, cc_207, cc_208, cc_209, cc_210, cc_211, cc_212, cc_213, cc_214, cc_215, cc_216, cc_217, cc_218, cc_219, cc_220, cc_221, cc_222, cc_223, cc_224, cc_225, cc_226, cc_227, cc_228, cc_229, cc_230, cc_231, cc_232, cc_233, cc_234, cc_235, cc_236, cc_237, cc_238, cc_239]
def CCL_4 : List (List Instr) := [cc_240, cc_241, cc_242, cc_243, cc_244, cc_245, cc_246, cc_247, cc_248, cc_249, cc_250, cc_251, cc_252, cc_253, cc_254, cc_255, cc_256, cc_257, cc_258, cc_259, cc_260, cc_261, cc_262, cc_263, cc_264, cc_265, cc_266, cc_267, cc_268, cc_269, cc_270, cc_271, cc_272, cc_273, cc_274, cc_275, cc_276, cc_277, cc_278, cc_279, cc_280, cc_281, cc_282]
def CCL : List (List Instr) := CCL_0 ++ (CCL_1 ++ (CCL_2 ++ (CCL_3 ++ (CCL_4))))
def PPL_0 : List (List Nat) := [pp_0, pp_1, pp_2, pp_3, pp_4, pp_5, pp_6, pp_7, pp_8, pp_9, pp_10, pp_11, pp_12, pp_13, pp_14, pp_15, pp_16, pp_17, pp_18, pp_19, pp_20, pp_21, pp_22, pp_23, pp_24, pp_25, pp_26, pp_27, pp_28, pp_29, pp_30, pp_31, pp_32, pp_33, pp_34, pp_35, pp_36, pp_37, pp_38, pp_39, pp_40, pp_41, pp_42, pp_43, pp_44, pp_45, pp_46, pp_47, pp_48, pp_49, pp_50, pp_51, pp_52, pp_53, pp_54, pp_55, pp_56, pp_57, pp_58, pp_59]
def PPL_1 : List (List Nat) := [pp_60, pp_61, pp_62, pp_63, pp_64, pp_65, pp_66, pp_67, pp_68, pp_69, pp_70, pp_71, pp_72, pp_73, pp_74, pp_75, pp_76, pp_77, pp_78, pp_79, pp_80, pp_81, pp_82, pp_83, pp_84, pp_85, pp_86, pp_87, pp_88, pp_89, pp_90, pp_91, pp_92, pp_93, pp_94, pp_95, pp_96, pp_97, pp_98, pp_99, pp_100, pp_101, pp_102, pp_103, pp_104, pp_105, pp_106, pp_107, pp_108, pp_109, pp_110, pp_111, pp_112, pp_113, pp_114, pp_115, pp_116, pp_117, pp_118, pp_119]
def PPL_2 : List (List Nat) := [pp_120, pp_121, pp_122, pp_123, pp_124, pp_125, pp_126, pp_127, pp_128, pp_129, pp_130, pp_131, pp_132, pp_133, pp_134, pp_135, pp_136, pp_137, pp_138, pp_139, pp_140, pp_141, pp_142, pp_143, pp_144, pp_145, pp_146, pp_147, pp_148, pp_149, pp_150, pp_151, pp_152, pp_153, pp_154, pp_155, pp_156, pp_157, pp_158, pp_159, pp_160, pp_161, pp_162, pp_163, pp_164, pp_165, pp_166, pp_167, pp_168, pp_169, pp_170, pp_171, pp_172, pp_173, pp_174, pp_175, pp_176, pp_177, pp_178, pp_179]
def PPL_3 : List (List Nat) := [pp_180, pp_181, pp_182, pp_183, pp_184, pp_185, pp_186, pp_187, pp_188, pp_189, pp_190, pp_191, pp_192, pp_193, pp_194, pp_195, pp_196, pp_197, pp_198, pp_199, pp_200, pp_201, pp_202, pp_203, pp_204, pp_205, pp_206, pp_207, pp_208, pp_209, pp_210, pp_211, pp_212, pp_213, pp_214, pp_215, pp_216, pp_217, pp_218, pp_219, pp_220, pp_221, pp_222, pp_223, pp_224, pp_225, pp_226, pp_227, pp_228, pp_229, pp_230, pp_231, pp_232, pp_233, pp_234, pp_235, pp_236, pp_237, pp_238, pp_239]
def PPL_4 : List (List Nat) := [pp_240, pp_241, pp_242, pp_243, pp_244, pp_245, pp_246, pp_247, pp_248, pp_249, pp_250, pp_251, pp_252, pp_253, pp_254, pp_255, pp_256, pp_257, pp_258, pp_259, pp_260, pp_261, pp_262, pp_263, pp_264, pp_265, pp_266, pp_267, pp_268, pp_269, pp_270, pp_271, pp_272, pp_273, pp_274, pp_275, pp_276, pp_277, pp_278, pp_279, pp_280, pp_281, pp_282]
def PPL : List (List Nat) := PPL_0 ++ (PPL_1 ++ (PPL_2 ++ (PPL_3 ++ (PPL_4))))
