/-! the law's loop -/
def Lx (E : EX) (b L : Nat) (xs : Nat → Int32) : Prop := match E with
  | (_, _, _, _, s, _, _, _, _, _, A, _, _, _) => va_X b L xs s s.heap ∧ b < s.heap.size ∧ ¬ A b
abbrev lvL (b h1 h2 i : Nat) : List (Nat × Value) := [(3, .int (nI (6 * i))), (2, .ref h2), (1, .ref h1), (0, .ref b)]
theorem eL_13 : CWV RL 13 yX5_set cX5_set 4 (some .int) 3 := ⟨gdm 438 (by decide +kernel) (by decide +kernel), gdm 439 (by decide +kernel) (by decide +kernel), gdm 440 (by decide +kernel) (by decide +kernel), gdm 89 (by decide +kernel) (by decide +kernel), gdm 441 (by decide +kernel) (by decide +kernel), by decide +kernel, by decide +kernel, by decide +kernel⟩
theorem eL_17 : CWV RL 17 yX6_set cX6_set 5 (some .int) 3 := ⟨gdm 913 (by decide +kernel) (by decide +kernel), gdm 914 (by decide +kernel) (by decide +kernel), gdm 915 (by decide +kernel) (by decide +kernel), gdm 99 (by decide +kernel) (by decide +kernel), gdm 916 (by decide +kernel) (by decide +kernel), by decide +kernel, by decide +kernel, by decide +kernel⟩
theorem eL_18 : CWV RL 18 yX5_player cX5_player 3 (some .int) 2 := ⟨gdm 470 (by decide +kernel) (by decide +kernel), gdm 471 (by decide +kernel) (by decide +kernel), gdm 472 (by decide +kernel) (by decide +kernel), gdm 89 (by decide +kernel) (by decide +kernel), gdm 473 (by decide +kernel) (by decide +kernel), by decide +kernel, by decide +kernel, by decide +kernel⟩
theorem eL_22 : CWV RL 22 yX6_player cX6_player 3 (some .int) 2 := ⟨gdm 967 (by decide +kernel) (by decide +kernel), gdm 968 (by decide +kernel) (by decide +kernel), gdm 969 (by decide +kernel) (by decide +kernel), gdm 99 (by decide +kernel) (by decide +kernel), gdm 970 (by decide +kernel) (by decide +kernel), by decide +kernel, by decide +kernel, by decide +kernel⟩
theorem eL_23 : CWV RL 23 yX5_told cX5_told 3 (some .int) 2 := ⟨gdm 479 (by decide +kernel) (by decide +kernel), gdm 480 (by decide +kernel) (by decide +kernel), gdm 481 (by decide +kernel) (by decide +kernel), gdm 89 (by decide +kernel) (by decide +kernel), gdm 482 (by decide +kernel) (by decide +kernel), by decide +kernel, by decide +kernel, by decide +kernel⟩
theorem eL_26 : CWV RL 26 yX6_told cX6_told 3 (some .int) 2 := ⟨gdm 972 (by decide +kernel) (by decide +kernel), gdm 941 (by decide +kernel) (by decide +kernel), gdm 942 (by decide +kernel) (by decide +kernel), gdm 99 (by decide +kernel) (by decide +kernel), gdm 943 (by decide +kernel) (by decide +kernel), by decide +kernel, by decide +kernel, by decide +kernel⟩
theorem eL_27 : CWV RL 27 yX5_asks cX5_asks 4 (some .int) 3 := ⟨gdm 493 (by decide +kernel) (by decide +kernel), gdm 494 (by decide +kernel) (by decide +kernel), gdm 495 (by decide +kernel) (by decide +kernel), gdm 89 (by decide +kernel) (by decide +kernel), gdm 496 (by decide +kernel) (by decide +kernel), by decide +kernel, by decide +kernel, by decide +kernel⟩
theorem eL_30 : CWV RL 30 yX6_asks cX6_asks 4 (some .int) 3 := ⟨gdm 1057 (by decide +kernel) (by decide +kernel), gdm 1058 (by decide +kernel) (by decide +kernel), gdm 1059 (by decide +kernel) (by decide +kernel), gdm 99 (by decide +kernel) (by decide +kernel), gdm 1060 (by decide +kernel) (by decide +kernel), by decide +kernel, by decide +kernel, by decide +kernel⟩
theorem eL_31 : CWV RL 31 yX5_feed cX5_feed 2 (some .int) 1 := ⟨gdm 569 (by decide +kernel) (by decide +kernel), gdm 570 (by decide +kernel) (by decide +kernel), gdm 571 (by decide +kernel) (by decide +kernel), gdm 89 (by decide +kernel) (by decide +kernel), gdm 572 (by decide +kernel) (by decide +kernel), by decide +kernel, by decide +kernel, by decide +kernel⟩
theorem eL_35 : CWV RL 35 yX6_feed cX6_feed 2 (some .int) 1 := ⟨gdm 973 (by decide +kernel) (by decide +kernel), gdm 974 (by decide +kernel) (by decide +kernel), gdm 975 (by decide +kernel) (by decide +kernel), gdm 99 (by decide +kernel) (by decide +kernel), gdm 976 (by decide +kernel) (by decide +kernel), by decide +kernel, by decide +kernel, by decide +kernel⟩
theorem eL_36 : CWV RL 36 yX5_text cX5_text 2 (some .int) 0 := ⟨gdm 574 (by decide +kernel) (by decide +kernel), gdm 575 (by decide +kernel) (by decide +kernel), gdm 576 (by decide +kernel) (by decide +kernel), gdm 89 (by decide +kernel) (by decide +kernel), gdm 577 (by decide +kernel) (by decide +kernel), by decide +kernel, by decide +kernel, by decide +kernel⟩
theorem eL_40 : CWV RL 40 yX6_text cX6_text 2 (some .int) 0 := ⟨gdm 978 (by decide +kernel) (by decide +kernel), gdm 979 (by decide +kernel) (by decide +kernel), gdm 980 (by decide +kernel) (by decide +kernel), gdm 99 (by decide +kernel) (by decide +kernel), gdm 981 (by decide +kernel) (by decide +kernel), by decide +kernel, by decide +kernel, by decide +kernel⟩
theorem eL_41 : CWV RL 41 yX5_force cX5_force 3 (some .int) 1 := ⟨gdm 578 (by decide +kernel) (by decide +kernel), gdm 579 (by decide +kernel) (by decide +kernel), gdm 580 (by decide +kernel) (by decide +kernel), gdm 89 (by decide +kernel) (by decide +kernel), gdm 581 (by decide +kernel) (by decide +kernel), by decide +kernel, by decide +kernel, by decide +kernel⟩
theorem eL_44 : CWV RL 44 yX6_force cX6_force 3 (some .int) 1 := ⟨gdm 1053 (by decide +kernel) (by decide +kernel), gdm 1054 (by decide +kernel) (by decide +kernel), gdm 1055 (by decide +kernel) (by decide +kernel), gdm 99 (by decide +kernel) (by decide +kernel), gdm 1056 (by decide +kernel) (by decide +kernel), by decide +kernel, by decide +kernel, by decide +kernel⟩
theorem eL_45 : CWV RL 45 yX5_game cX5_game 3 (some .int) 2 := ⟨gdm 582 (by decide +kernel) (by decide +kernel), gdm 583 (by decide +kernel) (by decide +kernel), gdm 584 (by decide +kernel) (by decide +kernel), gdm 89 (by decide +kernel) (by decide +kernel), gdm 585 (by decide +kernel) (by decide +kernel), by decide +kernel, by decide +kernel, by decide +kernel⟩
theorem eL_48 : CWV RL 48 yX6_game cX6_game 3 (some .int) 2 := ⟨gdm 1108 (by decide +kernel) (by decide +kernel), gdm 1109 (by decide +kernel) (by decide +kernel), gdm 1110 (by decide +kernel) (by decide +kernel), gdm 99 (by decide +kernel) (by decide +kernel), gdm 1111 (by decide +kernel) (by decide +kernel), by decide +kernel, by decide +kernel, by decide +kernel⟩
theorem eL_49 : CWV RL 49 yX5_evening cX5_evening 6 (some .int) 2 := ⟨gdm 586 (by decide +kernel) (by decide +kernel), gdm 587 (by decide +kernel) (by decide +kernel), gdm 588 (by decide +kernel) (by decide +kernel), gdm 89 (by decide +kernel) (by decide +kernel), gdm 589 (by decide +kernel) (by decide +kernel), by decide +kernel, by decide +kernel, by decide +kernel⟩
theorem eL_52 : CWV RL 52 yX6_evening cX6_evening 6 (some .int) 2 := ⟨gdm 1112 (by decide +kernel) (by decide +kernel), gdm 1113 (by decide +kernel) (by decide +kernel), gdm 1114 (by decide +kernel) (by decide +kernel), gdm 99 (by decide +kernel) (by decide +kernel), gdm 1115 (by decide +kernel) (by decide +kernel), by decide +kernel, by decide +kernel, by decide +kernel⟩
theorem eL_53 : CWV RL 53 yX5_play cX5_play 3 (some .int) 1 := ⟨gdm 618 (by decide +kernel) (by decide +kernel), gdm 619 (by decide +kernel) (by decide +kernel), gdm 620 (by decide +kernel) (by decide +kernel), gdm 89 (by decide +kernel) (by decide +kernel), gdm 621 (by decide +kernel) (by decide +kernel), by decide +kernel, by decide +kernel, by decide +kernel⟩
theorem eL_56 : CWV RL 56 yX6_play cX6_play 3 (some .int) 1 := ⟨gdm 1133 (by decide +kernel) (by decide +kernel), gdm 1134 (by decide +kernel) (by decide +kernel), gdm 1135 (by decide +kernel) (by decide +kernel), gdm 99 (by decide +kernel) (by decide +kernel), gdm 1136 (by decide +kernel) (by decide +kernel), by decide +kernel, by decide +kernel, by decide +kernel⟩
theorem eL_57 : CWV RL 57 yX5_robin cX5_robin 3 (some .int) 1 := ⟨gdm 622 (by decide +kernel) (by decide +kernel), gdm 623 (by decide +kernel) (by decide +kernel), gdm 624 (by decide +kernel) (by decide +kernel), gdm 89 (by decide +kernel) (by decide +kernel), gdm 625 (by decide +kernel) (by decide +kernel), by decide +kernel, by decide +kernel, by decide +kernel⟩
theorem eL_60 : CWV RL 60 yX6_robin cX6_robin 3 (some .int) 1 := ⟨gdm 1137 (by decide +kernel) (by decide +kernel), gdm 1138 (by decide +kernel) (by decide +kernel), gdm 1139 (by decide +kernel) (by decide +kernel), gdm 99 (by decide +kernel) (by decide +kernel), gdm 1140 (by decide +kernel) (by decide +kernel), by decide +kernel, by decide +kernel, by decide +kernel⟩
theorem eL_61 : CWV RL 61 yX5_best cX5_best 7 (some .int) 2 := ⟨gdm 642 (by decide +kernel) (by decide +kernel), gdm 643 (by decide +kernel) (by decide +kernel), gdm 644 (by decide +kernel) (by decide +kernel), gdm 89 (by decide +kernel) (by decide +kernel), gdm 645 (by decide +kernel) (by decide +kernel), by decide +kernel, by decide +kernel, by decide +kernel⟩
theorem eL_64 : CWV RL 64 yX6_best cX6_best 7 (some .int) 2 := ⟨gdm 1157 (by decide +kernel) (by decide +kernel), gdm 1158 (by decide +kernel) (by decide +kernel), gdm 1159 (by decide +kernel) (by decide +kernel), gdm 99 (by decide +kernel) (by decide +kernel), gdm 1160 (by decide +kernel) (by decide +kernel), by decide +kernel, by decide +kernel, by decide +kernel⟩
theorem eL_65 : CWV RL 65 yX5_order cX5_order 4 (some .int) 2 := ⟨gdm 646 (by decide +kernel) (by decide +kernel), gdm 647 (by decide +kernel) (by decide +kernel), gdm 648 (by decide +kernel) (by decide +kernel), gdm 89 (by decide +kernel) (by decide +kernel), gdm 649 (by decide +kernel) (by decide +kernel), by decide +kernel, by decide +kernel, by decide +kernel⟩
theorem eL_68 : CWV RL 68 yX6_order cX6_order 3 (some .int) 2 := ⟨gdm 1161 (by decide +kernel) (by decide +kernel), gdm 1162 (by decide +kernel) (by decide +kernel), gdm 1163 (by decide +kernel) (by decide +kernel), gdm 99 (by decide +kernel) (by decide +kernel), gdm 1164 (by decide +kernel) (by decide +kernel), by decide +kernel, by decide +kernel, by decide +kernel⟩
theorem eL_69 : CWV RL 69 yX5_all cX5_all 2 (some .int) 1 := ⟨gdm 661 (by decide +kernel) (by decide +kernel), gdm 662 (by decide +kernel) (by decide +kernel), gdm 663 (by decide +kernel) (by decide +kernel), gdm 89 (by decide +kernel) (by decide +kernel), gdm 664 (by decide +kernel) (by decide +kernel), by decide +kernel, by decide +kernel, by decide +kernel⟩
theorem eL_72 : CWV RL 72 yX6_all cX6_all 2 (some .int) 1 := ⟨gdm 1169 (by decide +kernel) (by decide +kernel), gdm 1170 (by decide +kernel) (by decide +kernel), gdm 1171 (by decide +kernel) (by decide +kernel), gdm 99 (by decide +kernel) (by decide +kernel), gdm 1172 (by decide +kernel) (by decide +kernel), by decide +kernel, by decide +kernel, by decide +kernel⟩
theorem eL_73 : CWV RL 73 yX5_soon cX5_soon 5 (some .int) 2 := ⟨gdm 672 (by decide +kernel) (by decide +kernel), gdm 673 (by decide +kernel) (by decide +kernel), gdm 674 (by decide +kernel) (by decide +kernel), gdm 89 (by decide +kernel) (by decide +kernel), gdm 675 (by decide +kernel) (by decide +kernel), by decide +kernel, by decide +kernel, by decide +kernel⟩
theorem eL_76 : CWV RL 76 yX6_soon cX6_soon 4 (some .int) 2 := ⟨gdm 1177 (by decide +kernel) (by decide +kernel), gdm 1178 (by decide +kernel) (by decide +kernel), gdm 1179 (by decide +kernel) (by decide +kernel), gdm 99 (by decide +kernel) (by decide +kernel), gdm 1180 (by decide +kernel) (by decide +kernel), by decide +kernel, by decide +kernel, by decide +kernel⟩
theorem eL_77 : CWV RL 77 yX5_tells cX5_tells 5 (some .int) 3 := ⟨gdm 676 (by decide +kernel) (by decide +kernel), gdm 677 (by decide +kernel) (by decide +kernel), gdm 678 (by decide +kernel) (by decide +kernel), gdm 89 (by decide +kernel) (by decide +kernel), gdm 679 (by decide +kernel) (by decide +kernel), by decide +kernel, by decide +kernel, by decide +kernel⟩
theorem eL_80 : CWV RL 80 yX6_tells cX6_tells 11 (some .int) 3 := ⟨gdm 1181 (by decide +kernel) (by decide +kernel), gdm 1182 (by decide +kernel) (by decide +kernel), gdm 1183 (by decide +kernel) (by decide +kernel), gdm 99 (by decide +kernel) (by decide +kernel), gdm 1184 (by decide +kernel) (by decide +kernel), by decide +kernel, by decide +kernel, by decide +kernel⟩
theorem eL_81 : CWV RL 81 yX5_film cX5_film 5 (some .int) 2 := ⟨gdm 703 (by decide +kernel) (by decide +kernel), gdm 704 (by decide +kernel) (by decide +kernel), gdm 705 (by decide +kernel) (by decide +kernel), gdm 89 (by decide +kernel) (by decide +kernel), gdm 706 (by decide +kernel) (by decide +kernel), by decide +kernel, by decide +kernel, by decide +kernel⟩
theorem eL_84 : CWV RL 84 yX6_film cX6_film 4 (some .int) 2 := ⟨gdm 1193 (by decide +kernel) (by decide +kernel), gdm 1194 (by decide +kernel) (by decide +kernel), gdm 1195 (by decide +kernel) (by decide +kernel), gdm 99 (by decide +kernel) (by decide +kernel), gdm 1196 (by decide +kernel) (by decide +kernel), by decide +kernel, by decide +kernel, by decide +kernel⟩
theorem eL_85 : CWV RL 85 yX5_drawn cX5_drawn 4 (some .int) 3 := ⟨gdm 716 (by decide +kernel) (by decide +kernel), gdm 717 (by decide +kernel) (by decide +kernel), gdm 718 (by decide +kernel) (by decide +kernel), gdm 89 (by decide +kernel) (by decide +kernel), gdm 719 (by decide +kernel) (by decide +kernel), by decide +kernel, by decide +kernel, by decide +kernel⟩
theorem eL_88 : CWV RL 88 yX6_drawn cX6_drawn 4 (some .int) 3 := ⟨gdm 1203 (by decide +kernel) (by decide +kernel), gdm 1204 (by decide +kernel) (by decide +kernel), gdm 1205 (by decide +kernel) (by decide +kernel), gdm 99 (by decide +kernel) (by decide +kernel), gdm 1206 (by decide +kernel) (by decide +kernel), by decide +kernel, by decide +kernel, by decide +kernel⟩
theorem eL_89 : CWV RL 89 yX5_chance cX5_chance 8 (some .long) 5 := ⟨gdm 725 (by decide +kernel) (by decide +kernel), gdm 726 (by decide +kernel) (by decide +kernel), gdm 727 (by decide +kernel) (by decide +kernel), gdm 89 (by decide +kernel) (by decide +kernel), gdm 728 (by decide +kernel) (by decide +kernel), by decide +kernel, by decide +kernel, by decide +kernel⟩
theorem eL_93 : CWV RL 93 yX6_chance cX6_chance 14 (some .long) 5 := ⟨gdm 1212 (by decide +kernel) (by decide +kernel), gdm 1213 (by decide +kernel) (by decide +kernel), gdm 1214 (by decide +kernel) (by decide +kernel), gdm 99 (by decide +kernel) (by decide +kernel), gdm 1215 (by decide +kernel) (by decide +kernel), by decide +kernel, by decide +kernel, by decide +kernel⟩
theorem eL_94 : CWV RL 94 yX5_image cX5_image 1 (some .int) 0 := ⟨gdm 734 (by decide +kernel) (by decide +kernel), gdm 735 (by decide +kernel) (by decide +kernel), gdm 736 (by decide +kernel) (by decide +kernel), gdm 89 (by decide +kernel) (by decide +kernel), gdm 737 (by decide +kernel) (by decide +kernel), by decide +kernel, by decide +kernel, by decide +kernel⟩
theorem eL_97 : CWV RL 97 yX6_image cX6_image 2 (some .int) 0 := ⟨gdm 1218 (by decide +kernel) (by decide +kernel), gdm 1219 (by decide +kernel) (by decide +kernel), gdm 1220 (by decide +kernel) (by decide +kernel), gdm 99 (by decide +kernel) (by decide +kernel), gdm 1221 (by decide +kernel) (by decide +kernel), by decide +kernel, by decide +kernel, by decide +kernel⟩
theorem eL_98 : CWV RL 98 yX5_back cX5_back 1 (some .int) 0 := ⟨gdm 738 (by decide +kernel) (by decide +kernel), gdm 739 (by decide +kernel) (by decide +kernel), gdm 740 (by decide +kernel) (by decide +kernel), gdm 89 (by decide +kernel) (by decide +kernel), gdm 741 (by decide +kernel) (by decide +kernel), by decide +kernel, by decide +kernel, by decide +kernel⟩
theorem eL_101 : CWV RL 101 yX6_back cX6_back 2 (some .int) 0 := ⟨gdm 1222 (by decide +kernel) (by decide +kernel), gdm 1223 (by decide +kernel) (by decide +kernel), gdm 1224 (by decide +kernel) (by decide +kernel), gdm 99 (by decide +kernel) (by decide +kernel), gdm 1225 (by decide +kernel) (by decide +kernel), by decide +kernel, by decide +kernel, by decide +kernel⟩
theorem eL_102 : CWV RL 102 yX5_count cX5_count 2 (some .int) 1 := ⟨gdm 742 (by decide +kernel) (by decide +kernel), gdm 743 (by decide +kernel) (by decide +kernel), gdm 744 (by decide +kernel) (by decide +kernel), gdm 89 (by decide +kernel) (by decide +kernel), gdm 745 (by decide +kernel) (by decide +kernel), by decide +kernel, by decide +kernel, by decide +kernel⟩
theorem eL_105 : CWV RL 105 yX6_count cX6_count 2 (some .int) 1 := ⟨gdm 1226 (by decide +kernel) (by decide +kernel), gdm 1227 (by decide +kernel) (by decide +kernel), gdm 1228 (by decide +kernel) (by decide +kernel), gdm 99 (by decide +kernel) (by decide +kernel), gdm 1229 (by decide +kernel) (by decide +kernel), by decide +kernel, by decide +kernel, by decide +kernel⟩
theorem eL_106 : CWV RL 106 yX5_sheet cX5_sheet 5 (some .int) 3 := ⟨gdm 746 (by decide +kernel) (by decide +kernel), gdm 747 (by decide +kernel) (by decide +kernel), gdm 748 (by decide +kernel) (by decide +kernel), gdm 89 (by decide +kernel) (by decide +kernel), gdm 749 (by decide +kernel) (by decide +kernel), by decide +kernel, by decide +kernel, by decide +kernel⟩
theorem eL_109 : CWV RL 109 yX6_sheet cX6_sheet 5 (some .int) 3 := ⟨gdm 1230 (by decide +kernel) (by decide +kernel), gdm 1198 (by decide +kernel) (by decide +kernel), gdm 1199 (by decide +kernel) (by decide +kernel), gdm 99 (by decide +kernel) (by decide +kernel), gdm 1200 (by decide +kernel) (by decide +kernel), by decide +kernel, by decide +kernel, by decide +kernel⟩
theorem eL_110 : CWV RL 110 yX5_cell cX5_cell 5 (some .int) 3 := ⟨gdm 750 (by decide +kernel) (by decide +kernel), gdm 751 (by decide +kernel) (by decide +kernel), gdm 752 (by decide +kernel) (by decide +kernel), gdm 89 (by decide +kernel) (by decide +kernel), gdm 753 (by decide +kernel) (by decide +kernel), by decide +kernel, by decide +kernel, by decide +kernel⟩
theorem eL_113 : CWV RL 113 yX6_cell cX6_cell 4 (some .int) 3 := ⟨gdm 1231 (by decide +kernel) (by decide +kernel), gdm 1232 (by decide +kernel) (by decide +kernel), gdm 1233 (by decide +kernel) (by decide +kernel), gdm 99 (by decide +kernel) (by decide +kernel), gdm 1234 (by decide +kernel) (by decide +kernel), by decide +kernel, by decide +kernel, by decide +kernel⟩
theorem eL_114 : CWV RL 114 yX5_copy cX5_copy 8 (some .int) 5 := ⟨gdm 758 (by decide +kernel) (by decide +kernel), gdm 759 (by decide +kernel) (by decide +kernel), gdm 760 (by decide +kernel) (by decide +kernel), gdm 89 (by decide +kernel) (by decide +kernel), gdm 761 (by decide +kernel) (by decide +kernel), by decide +kernel, by decide +kernel, by decide +kernel⟩
theorem eL_118 : CWV RL 118 yX6_copy cX6_copy 9 (some .int) 5 := ⟨gdm 1235 (by decide +kernel) (by decide +kernel), gdm 1236 (by decide +kernel) (by decide +kernel), gdm 1237 (by decide +kernel) (by decide +kernel), gdm 99 (by decide +kernel) (by decide +kernel), gdm 1238 (by decide +kernel) (by decide +kernel), by decide +kernel, by decide +kernel, by decide +kernel⟩
theorem eL_119 : CWV RL 119 yX5_players cX5_players 9 (some .int) 4 := ⟨gdm 765 (by decide +kernel) (by decide +kernel), gdm 766 (by decide +kernel) (by decide +kernel), gdm 767 (by decide +kernel) (by decide +kernel), gdm 89 (by decide +kernel) (by decide +kernel), gdm 768 (by decide +kernel) (by decide +kernel), by decide +kernel, by decide +kernel, by decide +kernel⟩
theorem eL_123 : CWV RL 123 yX6_players cX6_players 8 (some .int) 4 := ⟨gdm 1239 (by decide +kernel) (by decide +kernel), gdm 1240 (by decide +kernel) (by decide +kernel), gdm 1241 (by decide +kernel) (by decide +kernel), gdm 99 (by decide +kernel) (by decide +kernel), gdm 1242 (by decide +kernel) (by decide +kernel), by decide +kernel, by decide +kernel, by decide +kernel⟩
theorem eL_124 : CWV RL 124 yX5_taken cX5_taken 3 (some .int) 2 := ⟨gdm 769 (by decide +kernel) (by decide +kernel), gdm 770 (by decide +kernel) (by decide +kernel), gdm 771 (by decide +kernel) (by decide +kernel), gdm 89 (by decide +kernel) (by decide +kernel), gdm 772 (by decide +kernel) (by decide +kernel), by decide +kernel, by decide +kernel, by decide +kernel⟩
theorem eL_127 : CWV RL 127 yX6_taken cX6_taken 4 (some .int) 2 := ⟨gdm 1245 (by decide +kernel) (by decide +kernel), gdm 1246 (by decide +kernel) (by decide +kernel), gdm 1247 (by decide +kernel) (by decide +kernel), gdm 99 (by decide +kernel) (by decide +kernel), gdm 1248 (by decide +kernel) (by decide +kernel), by decide +kernel, by decide +kernel, by decide +kernel⟩
section LAW
variable {B : BX} {E : EX} {b L : Nat} {xs : Nat → Int32} {w : va_W} {pc i h1 h2 : Nat} {st : List Value} {lv : List (Nat × Value)}
theorem Lx.bmp {k n : Nat} (h : Lx E b L xs) : Lx (bmp E k n) b L xs := by
  obtain ⟨p, l, e, R, s, m, args, below, meth, c, A, Z, k9, n9⟩ := E
  exact h
theorem v_sldE {cc : ByteArray} {nL : Nat} {own : String} {fr lo : Nat} (C : Ok B E cc nL own fr lo) (X : Lx E b L xs) {i : Int32} (hin : vp_in i L) (hd : decode cc pc = .ok (.iaload, 1)) (kk : V B E nL w (pc + 1) lv (.int (xs i.toNatClampNeg) :: st)) : V B E nL w pc lv (.int i :: .ref b :: st) := by
  obtain ⟨p, l, e, R, s, m, args, below, meth, c, A, Z, k9, n9⟩ := E
  exact fun H locs ls hP hD hS hl => va_sld C.1 C.2.1 X.1 X.2.1 X.2.2 hS hin hd (kk H locs ls hP hD hS hl)
theorem v_slenE {cc : ByteArray} {nL : Nat} {own : String} {fr lo : Nat} (C : Ok B E cc nL own fr lo) (X : Lx E b L xs) (hd : decode cc pc = .ok (.arraylength, 1)) (kk : V B E nL w (pc + 1) lv (.int (nI L) :: st)) : V B E nL w pc lv (.ref b :: st) := by
  obtain ⟨p, l, e, R, s, m, args, below, meth, c, A, Z, k9, n9⟩ := E
  exact fun H locs ls hP hD hS hl => va_slen C.1 C.2.1 X.1 X.2.1 X.2.2 hS hd (kk H locs ls hP hD hS hl)
theorem v_larg {n : Int} {j : Nat} (C : Ok B E cL_law 4 RL 2048 84000) (X : Lx E b L xs) (hL : L ≤ 3072) (hj : 6 * i + j < L) (hn : Int32.ofInt n = nI j) (d1 : decode cL_law pc = .ok (.aload_n 0, 1)) (d2 : decode cL_law (pc + 1) = .ok (.iload_n 3, 1)) (d3 : decode cL_law (pc + 1 + 1) = .ok (.iconst n, 1)) (d4 : decode cL_law (pc + 1 + 1 + 1) = .ok (.iadd, 1)) (d5 : decode cL_law (pc + 1 + 1 + 1 + 1) = .ok (.iaload, 1)) (kk : V B E 4 w (pc + 1 + 1 + 1 + 1 + 1) (lvL b h1 h2 i) (.int (xs (6 * i + j)) :: st)) : V B E 4 w pc (lvL b h1 h2 i) st := by
  refine v_aload_n C 3 d1 rfl rfl ?_
  refine v_iload_n C 0 d2 rfl rfl ?_
  refine v_iconst C d3 hn ?_
  refine v_iadd C d4 ?_
  refine v_si (nI_add _ _) ?_
  refine v_sldE C X (vpl _ _ hj (by omega)) d5 ?_
  rw [nI_clamp (n := 6 * i + j) (by omega)]
  exact kk
theorem lw_h1 {K : Nat → ClassId} {a : Nat → Nat} {g : GX} {X : S0} : (wl (66 + 3 * g.2) a (shX K a g.1) X ++ w)[0]? = some (a 0, .inr (5, fl5 a (X 0))) := by
  rw [List.getElem?_append_left (by show 0 < ((List.range _).map _).length; rw [List.length_map, List.length_range]; omega), wl_get (by omega)]
  rfl
theorem lw_h2 {K : Nat → ClassId} {a : Nat → Nat} {M : S0} : (wl 12 a (shM K a) M ++ w)[0]? = some (a 0, .inr (6, fl6 a (M 0))) := rfl
theorem lg_self {x : Int64} : lg_cmp x x = 0 := by
  unfold lg_cmp
  rw [if_neg (Int64.lt_irrefl), if_pos rfl]
theorem law_six (hL : L ≤ 3072) (hi : i ≤ 512) (h : ¬ nI L - 6 < nI (6 * i)) : 6 * i + 6 ≤ L := by
  refine Nat.not_lt.mp fun hlt => h ?_
  by_cases h6 : 6 ≤ L
  · have e : nI L - 6 = nI (L - 6) := nI_sub h6
    rw [e]
    exact nI_lt (by omega) (by omega)
  · have e0 : (0 : Int32) ≤ nI (6 * i) := Int32.not_lt.mp (nI_pos (by omega))
    refine Int32.lt_of_lt_of_le ?_ e0
    rcases (by omega : L = 0 ∨ L = 1 ∨ L = 2 ∨ L = 3 ∨ L = 4 ∨ L = 5) with rfl | rfl | rfl | rfl | rfl | rfl <;> decide
/-- both, as they stand -/
abbrev wB (B : BX) (g : GX) (a : Nat → Nat) (X : S0) (a' : Nat → Nat) (M : S0) : va_W := wl (66 + 3 * g.2) a (shX B.2.1 a g.1) X ++ wl 12 a' (shM B.2.1 a') M
/-- the way on, behind a call -/
def Go (B : BX) (E : EX) (b i h1 : Nat) (a' : Nat → Nat) (kc nc : Nat) : Prop := ∀ (kc' nc' : Nat) (tv : TV) (nT : Nat) (κ : CS) (g : GX) (a : Nat → Nat) (X M : S0), kc' ≤ kc + 3 → nc' ≤ nc + 165 → a 0 = h1 → Rel tv nT κ g X M → V B (bmp E kc' nc') 4 (wB B g a X a' M) 1068 (lvL b h1 (a' 0) i) []
variable {kc nc : Nat} {tv : TV} {nT : Nat} {κ : CS} {g : GX} {a a' : Nat → Nat} {X M : S0}
theorem law_set (G : OkG B E cL_law 4 RL 2048 84000 616764 7251956) (hX : Lx E b L xs) (hL : L ≤ 3072) (hi : 6 * i + 6 ≤ L) (hkc : kc + 3 ≤ 616764) (hnc : nc + 165 ≤ 7251956) (hr : Rel tv nT κ g X M) (kk : Go B E b i (a 0) a' kc nc) : V B (bmp E kc nc) 4 (wB B g a X a' M) 156 (lvL b (a 0) (a' 0) i) [] := by
  have C := G.at (k := kc) (n := nc) (by omega) (by omega)
  refine v_aload_n C 2 dL_law_156 rfl rfl ?_
  refine v_larg (j := 1) C hX.bmp hL (by omega) (by decide) dL_law_157 dL_law_158 dL_law_159 dL_law_160 dL_law_161 ?_
  refine v_larg (j := 2) C hX.bmp hL (by omega) (by decide) dL_law_162 dL_law_163 dL_law_164 dL_law_165 dL_law_166 ?_
  refine v_larg (j := 3) C hX.bmp hL (by omega) (by decide) dL_law_167 dL_law_168 dL_law_169 dL_law_170 dL_law_171 ?_
  refine g_Vi (h := a 0) (k0 := 0) (fs := fl5 a (X 0)) (As := [.int (xs (6 * i + 1)), .int (xs (6 * i + 2)), .int (xs (6 * i + 3))]) (rest := []) C (c5_set (op_set hr _ _ _)) eL_13 (Nat.le_of_ble_eq_true rfl) (Nat.le_of_ble_eq_true rfl) lw_h1 Sp.left rfl rfl rfl (Nat.le_of_ble_eq_true rfl) dL_law_172 (fun r X1 h2 => ?_)
  refine v_aload_n C 1 dL_law_175 rfl rfl ?_
  refine v_larg (j := 1) C hX.bmp hL (by omega) (by decide) dL_law_176 dL_law_177 dL_law_178 dL_law_179 dL_law_180 ?_
  refine v_larg (j := 2) C hX.bmp hL (by omega) (by decide) dL_law_181 dL_law_182 dL_law_183 dL_law_184 dL_law_185 ?_
  refine v_larg (j := 3) C hX.bmp hL (by omega) (by decide) dL_law_186 dL_law_187 dL_law_188 dL_law_189 dL_law_190 ?_
  refine g_Vi (h := a' 0) (k0 := 0) (fs := fl6 a' (M 0)) (As := [.int (xs (6 * i + 1)), .int (xs (6 * i + 2)), .int (xs (6 * i + 3))]) (rest := [.int r]) C (c6_set h2) eL_17 (Nat.le_of_ble_eq_true rfl) (Nat.le_of_ble_eq_true rfl) lw_h2 Sp.left rfl rfl rfl (Nat.le_of_ble_eq_true rfl) dL_law_191 (fun r' M1 h3 => ?_)
  obtain ⟨rfl, κ', h3⟩ := h3
  refine v_icmp_eq C dL_law_194 (tgt := 1068) (by decide) (fun _ => ?_) (fun c => absurd rfl c)
  exact kk kc nc _ _ _ _ _ _ _ (by omega) (by omega) rfl h3
theorem law_player (G : OkG B E cL_law 4 RL 2048 84000 616764 7251956) (hX : Lx E b L xs) (hL : L ≤ 3072) (hi : 6 * i + 6 ≤ L) (hkc : kc + 3 ≤ 616764) (hnc : nc + 165 ≤ 7251956) (hr : Rel tv nT κ g X M) (kk : Go B E b i (a 0) a' kc nc) : V B (bmp E kc nc) 4 (wB B g a X a' M) 199 (lvL b (a 0) (a' 0) i) [] := by
  have C := G.at (k := kc) (n := nc) (by omega) (by omega)
  refine v_aload_n C 2 dL_law_199 rfl rfl ?_
  refine v_larg (j := 1) C hX.bmp hL (by omega) (by decide) dL_law_200 dL_law_201 dL_law_202 dL_law_203 dL_law_204 ?_
  refine v_larg (j := 2) C hX.bmp hL (by omega) (by decide) dL_law_205 dL_law_206 dL_law_207 dL_law_208 dL_law_209 ?_
  refine g_Vi (h := a 0) (k0 := 0) (fs := fl5 a (X 0)) (As := [.int (xs (6 * i + 1)), .int (xs (6 * i + 2))]) (rest := []) C (c5_player (op_player2 hr _ _)) eL_18 (Nat.le_of_ble_eq_true rfl) (Nat.le_of_ble_eq_true rfl) lw_h1 Sp.left rfl rfl rfl (Nat.le_of_ble_eq_true rfl) dL_law_210 (fun r X1 h2 => ?_)
  refine v_aload_n C 1 dL_law_213 rfl rfl ?_
  refine v_larg (j := 1) C hX.bmp hL (by omega) (by decide) dL_law_214 dL_law_215 dL_law_216 dL_law_217 dL_law_218 ?_
  refine v_larg (j := 2) C hX.bmp hL (by omega) (by decide) dL_law_219 dL_law_220 dL_law_221 dL_law_222 dL_law_223 ?_
  refine g_Vi (h := a' 0) (k0 := 0) (fs := fl6 a' (M 0)) (As := [.int (xs (6 * i + 1)), .int (xs (6 * i + 2))]) (rest := [.int r]) C (c6_player h2) eL_22 (Nat.le_of_ble_eq_true rfl) (Nat.le_of_ble_eq_true rfl) lw_h2 Sp.left rfl rfl rfl (Nat.le_of_ble_eq_true rfl) dL_law_224 (fun r' M1 h3 => ?_)
  obtain ⟨rfl, κ', h3⟩ := h3
  refine v_icmp_eq C dL_law_227 (tgt := 1068) (by decide) (fun _ => ?_) (fun c => absurd rfl c)
  exact kk kc nc _ _ _ _ _ _ _ (by omega) (by omega) rfl h3
theorem law_told (G : OkG B E cL_law 4 RL 2048 84000 616764 7251956) (hX : Lx E b L xs) (hL : L ≤ 3072) (hi : 6 * i + 6 ≤ L) (hkc : kc + 3 ≤ 616764) (hnc : nc + 165 ≤ 7251956) (hr : Rel tv nT κ g X M) (kk : Go B E b i (a 0) a' kc nc) : V B (bmp E kc nc) 4 (wB B g a X a' M) 232 (lvL b (a 0) (a' 0) i) [] := by
  have C := G.at (k := kc) (n := nc) (by omega) (by omega)
  refine v_aload_n C 2 dL_law_232 rfl rfl ?_
  refine v_larg (j := 1) C hX.bmp hL (by omega) (by decide) dL_law_233 dL_law_234 dL_law_235 dL_law_236 dL_law_237 ?_
  refine v_larg (j := 2) C hX.bmp hL (by omega) (by decide) dL_law_238 dL_law_239 dL_law_240 dL_law_241 dL_law_242 ?_
  refine g_Vi (h := a 0) (k0 := 0) (fs := fl5 a (X 0)) (As := [.int (xs (6 * i + 1)), .int (xs (6 * i + 2))]) (rest := []) C (c5_told (op_told hr _ _)) eL_23 (Nat.le_of_ble_eq_true rfl) (Nat.le_of_ble_eq_true rfl) lw_h1 Sp.left rfl rfl rfl (Nat.le_of_ble_eq_true rfl) dL_law_243 (fun r X1 h2 => ?_)
  refine v_aload_n C 1 dL_law_246 rfl rfl ?_
  refine v_larg (j := 1) C hX.bmp hL (by omega) (by decide) dL_law_247 dL_law_248 dL_law_249 dL_law_250 dL_law_251 ?_
  refine v_larg (j := 2) C hX.bmp hL (by omega) (by decide) dL_law_252 dL_law_253 dL_law_254 dL_law_255 dL_law_256 ?_
  refine g_Vi (h := a' 0) (k0 := 0) (fs := fl6 a' (M 0)) (As := [.int (xs (6 * i + 1)), .int (xs (6 * i + 2))]) (rest := [.int r]) C (c6_told h2) eL_26 (Nat.le_of_ble_eq_true rfl) (Nat.le_of_ble_eq_true rfl) lw_h2 Sp.left rfl rfl rfl (Nat.le_of_ble_eq_true rfl) dL_law_257 (fun r' M1 h3 => ?_)
  obtain ⟨rfl, κ', h3⟩ := h3
  refine v_icmp_eq C dL_law_260 (tgt := 1068) (by decide) (fun _ => ?_) (fun c => absurd rfl c)
  exact kk kc nc _ _ _ _ _ _ _ (by omega) (by omega) rfl h3
theorem law_asks (G : OkG B E cL_law 4 RL 2048 84000 616764 7251956) (hX : Lx E b L xs) (hL : L ≤ 3072) (hi : 6 * i + 6 ≤ L) (hkc : kc + 3 ≤ 616764) (hnc : nc + 165 ≤ 7251956) (hr : Rel tv nT κ g X M) (kk : Go B E b i (a 0) a' kc nc) : V B (bmp E kc nc) 4 (wB B g a X a' M) 265 (lvL b (a 0) (a' 0) i) [] := by
  have C := G.at (k := kc) (n := nc) (by omega) (by omega)
  refine v_aload_n C 2 dL_law_265 rfl rfl ?_
  refine v_larg (j := 1) C hX.bmp hL (by omega) (by decide) dL_law_266 dL_law_267 dL_law_268 dL_law_269 dL_law_270 ?_
  refine v_larg (j := 2) C hX.bmp hL (by omega) (by decide) dL_law_271 dL_law_272 dL_law_273 dL_law_274 dL_law_275 ?_
  refine v_larg (j := 3) C hX.bmp hL (by omega) (by decide) dL_law_276 dL_law_277 dL_law_278 dL_law_279 dL_law_280 ?_
  refine g_Vi (h := a 0) (k0 := 0) (fs := fl5 a (X 0)) (As := [.int (xs (6 * i + 1)), .int (xs (6 * i + 2)), .int (xs (6 * i + 3))]) (rest := []) C (c5_asks (op_asks hr _ _ _)) eL_27 (Nat.le_of_ble_eq_true rfl) (Nat.le_of_ble_eq_true rfl) lw_h1 Sp.left rfl rfl rfl (Nat.le_of_ble_eq_true rfl) dL_law_281 (fun r X1 h2 => ?_)
  refine v_aload_n C 1 dL_law_284 rfl rfl ?_
  refine v_larg (j := 1) C hX.bmp hL (by omega) (by decide) dL_law_285 dL_law_286 dL_law_287 dL_law_288 dL_law_289 ?_
  refine v_larg (j := 2) C hX.bmp hL (by omega) (by decide) dL_law_290 dL_law_291 dL_law_292 dL_law_293 dL_law_294 ?_
  refine v_larg (j := 3) C hX.bmp hL (by omega) (by decide) dL_law_295 dL_law_296 dL_law_297 dL_law_298 dL_law_299 ?_
  refine g_Vi (h := a' 0) (k0 := 0) (fs := fl6 a' (M 0)) (As := [.int (xs (6 * i + 1)), .int (xs (6 * i + 2)), .int (xs (6 * i + 3))]) (rest := [.int r]) C (c6_asks h2) eL_30 (Nat.le_of_ble_eq_true rfl) (Nat.le_of_ble_eq_true rfl) lw_h2 Sp.left rfl rfl rfl (Nat.le_of_ble_eq_true rfl) dL_law_300 (fun r' M1 h3 => ?_)
  obtain ⟨rfl, κ', h3⟩ := h3
  refine v_icmp_eq C dL_law_303 (tgt := 1068) (by decide) (fun _ => ?_) (fun c => absurd rfl c)
  exact kk kc nc _ _ _ _ _ _ _ (by omega) (by omega) rfl h3
theorem law_feed (G : OkG B E cL_law 4 RL 2048 84000 616764 7251956) (hX : Lx E b L xs) (hL : L ≤ 3072) (hi : 6 * i + 6 ≤ L) (hkc : kc + 3 ≤ 616764) (hnc : nc + 165 ≤ 7251956) (hr : Rel tv nT κ g X M) (kk : Go B E b i (a 0) a' kc nc) : V B (bmp E kc nc) 4 (wB B g a X a' M) 308 (lvL b (a 0) (a' 0) i) [] := by
  have C := G.at (k := kc) (n := nc) (by omega) (by omega)
  refine v_aload_n C 2 dL_law_308 rfl rfl ?_
  refine v_larg (j := 1) C hX.bmp hL (by omega) (by decide) dL_law_309 dL_law_310 dL_law_311 dL_law_312 dL_law_313 ?_
  refine g_Vi (h := a 0) (k0 := 0) (fs := fl5 a (X 0)) (As := [.int (xs (6 * i + 1))]) (rest := []) C (c5_feed (op_feed hr _)) eL_31 (Nat.le_of_ble_eq_true rfl) (Nat.le_of_ble_eq_true rfl) lw_h1 Sp.left rfl rfl rfl (Nat.le_of_ble_eq_true rfl) dL_law_314 (fun r X1 h2 => ?_)
  refine v_aload_n C 1 dL_law_317 rfl rfl ?_
  refine v_larg (j := 1) C hX.bmp hL (by omega) (by decide) dL_law_318 dL_law_319 dL_law_320 dL_law_321 dL_law_322 ?_
  refine g_Vi (h := a' 0) (k0 := 0) (fs := fl6 a' (M 0)) (As := [.int (xs (6 * i + 1))]) (rest := [.int r]) C (c6_feed h2) eL_35 (Nat.le_of_ble_eq_true rfl) (Nat.le_of_ble_eq_true rfl) lw_h2 Sp.left rfl rfl rfl (Nat.le_of_ble_eq_true rfl) dL_law_323 (fun r' M1 h3 => ?_)
  obtain ⟨rfl, κ', h3⟩ := h3
  refine v_icmp_eq C dL_law_326 (tgt := 1068) (by decide) (fun _ => ?_) (fun c => absurd rfl c)
  exact kk kc nc _ _ _ _ _ _ _ (by omega) (by omega) rfl h3
theorem law_text (G : OkG B E cL_law 4 RL 2048 84000 616764 7251956) (hX : Lx E b L xs) (hL : L ≤ 3072) (hi : 6 * i + 6 ≤ L) (hkc : kc + 3 ≤ 616764) (hnc : nc + 165 ≤ 7251956) (hr : Rel tv nT κ g X M) (kk : Go B E b i (a 0) a' kc nc) : V B (bmp E kc nc) 4 (wB B g a X a' M) 331 (lvL b (a 0) (a' 0) i) [] := by
  have C := G.at (k := kc) (n := nc) (by omega) (by omega)
  refine v_aload_n C 2 dL_law_331 rfl rfl ?_
  refine g_Gi (k := kc) (n := nc) (h := a 0) (k0 := 0) (fs := fl5 a (X 0)) (As := []) (rest := []) G (nX5_text (op_text hr)) eL_36 (Nat.le_of_ble_eq_true rfl) (Nat.le_of_ble_eq_true rfl) lw_h1 Sp.left rfl hkc hnc rfl rfl (Nat.le_of_ble_eq_true rfl) dL_law_332 (fun r w1 hw1 => ?_)
  obtain ⟨g1, a1, X1, ha, rfl, h2⟩ := hw1
  have C := G.at (k := kc + 3) (n := nc + 165) hkc hnc
  refine v_aload_n C 1 dL_law_335 rfl rfl ?_
  refine g_Vi (h := a' 0) (k0 := 0) (fs := fl6 a' (M 0)) (As := []) (rest := [.int r]) C (c6_text h2) eL_40 (Nat.le_of_ble_eq_true rfl) (Nat.le_of_ble_eq_true rfl) lw_h2 Sp.left rfl rfl rfl (Nat.le_of_ble_eq_true rfl) dL_law_336 (fun r' M1 h3 => ?_)
  obtain ⟨rfl, tv', nT', κ', h3⟩ := h3
  refine v_icmp_eq C dL_law_339 (tgt := 1068) (by decide) (fun _ => ?_) (fun c => absurd rfl c)
  exact kk (kc + 3) (nc + 165) _ _ _ _ _ _ _ (Nat.le_refl _) (Nat.le_refl _) ha h3
theorem law_force (G : OkG B E cL_law 4 RL 2048 84000 616764 7251956) (hX : Lx E b L xs) (hL : L ≤ 3072) (hi : 6 * i + 6 ≤ L) (hkc : kc + 3 ≤ 616764) (hnc : nc + 165 ≤ 7251956) (hr : Rel tv nT κ g X M) (kk : Go B E b i (a 0) a' kc nc) : V B (bmp E kc nc) 4 (wB B g a X a' M) 344 (lvL b (a 0) (a' 0) i) [] := by
  have C := G.at (k := kc) (n := nc) (by omega) (by omega)
  refine v_aload_n C 2 dL_law_344 rfl rfl ?_
  refine v_larg (j := 1) C hX.bmp hL (by omega) (by decide) dL_law_345 dL_law_346 dL_law_347 dL_law_348 dL_law_349 ?_
  refine g_Vi (h := a 0) (k0 := 0) (fs := fl5 a (X 0)) (As := [.int (xs (6 * i + 1))]) (rest := []) C (c5_force (op_force hr _)) eL_41 (Nat.le_of_ble_eq_true rfl) (Nat.le_of_ble_eq_true rfl) lw_h1 Sp.left rfl rfl rfl (Nat.le_of_ble_eq_true rfl) dL_law_350 (fun r X1 h2 => ?_)
  refine v_aload_n C 1 dL_law_353 rfl rfl ?_
  refine v_larg (j := 1) C hX.bmp hL (by omega) (by decide) dL_law_354 dL_law_355 dL_law_356 dL_law_357 dL_law_358 ?_
  refine g_Vi (h := a' 0) (k0 := 0) (fs := fl6 a' (M 0)) (As := [.int (xs (6 * i + 1))]) (rest := [.int r]) C (c6_force h2) eL_44 (Nat.le_of_ble_eq_true rfl) (Nat.le_of_ble_eq_true rfl) lw_h2 Sp.left rfl rfl rfl (Nat.le_of_ble_eq_true rfl) dL_law_359 (fun r' M1 h3 => ?_)
  obtain ⟨rfl, κ', h3⟩ := h3
  refine v_icmp_eq C dL_law_362 (tgt := 1068) (by decide) (fun _ => ?_) (fun c => absurd rfl c)
  exact kk kc nc _ _ _ _ _ _ _ (by omega) (by omega) rfl h3
theorem law_game (G : OkG B E cL_law 4 RL 2048 84000 616764 7251956) (hX : Lx E b L xs) (hL : L ≤ 3072) (hi : 6 * i + 6 ≤ L) (hkc : kc + 3 ≤ 616764) (hnc : nc + 165 ≤ 7251956) (hr : Rel tv nT κ g X M) (kk : Go B E b i (a 0) a' kc nc) : V B (bmp E kc nc) 4 (wB B g a X a' M) 367 (lvL b (a 0) (a' 0) i) [] := by
  have C := G.at (k := kc) (n := nc) (by omega) (by omega)
  refine v_aload_n C 2 dL_law_367 rfl rfl ?_
  refine v_larg (j := 1) C hX.bmp hL (by omega) (by decide) dL_law_368 dL_law_369 dL_law_370 dL_law_371 dL_law_372 ?_
  refine v_larg (j := 2) C hX.bmp hL (by omega) (by decide) dL_law_373 dL_law_374 dL_law_375 dL_law_376 dL_law_377 ?_
  refine g_Vi (h := a 0) (k0 := 0) (fs := fl5 a (X 0)) (As := [.int (xs (6 * i + 1)), .int (xs (6 * i + 2))]) (rest := []) C (c5_game (op_game hr _ _)) eL_45 (Nat.le_of_ble_eq_true rfl) (Nat.le_of_ble_eq_true rfl) lw_h1 Sp.left rfl rfl rfl (Nat.le_of_ble_eq_true rfl) dL_law_378 (fun r X1 h2 => ?_)
  refine v_aload_n C 1 dL_law_381 rfl rfl ?_
  refine v_larg (j := 1) C hX.bmp hL (by omega) (by decide) dL_law_382 dL_law_383 dL_law_384 dL_law_385 dL_law_386 ?_
  refine v_larg (j := 2) C hX.bmp hL (by omega) (by decide) dL_law_387 dL_law_388 dL_law_389 dL_law_390 dL_law_391 ?_
  refine g_Vi (h := a' 0) (k0 := 0) (fs := fl6 a' (M 0)) (As := [.int (xs (6 * i + 1)), .int (xs (6 * i + 2))]) (rest := [.int r]) C (c6_game h2) eL_48 (Nat.le_of_ble_eq_true rfl) (Nat.le_of_ble_eq_true rfl) lw_h2 Sp.left rfl rfl rfl (Nat.le_of_ble_eq_true rfl) dL_law_392 (fun r' M1 h3 => ?_)
  obtain ⟨rfl, κ', h3⟩ := h3
  refine v_icmp_eq C dL_law_395 (tgt := 1068) (by decide) (fun _ => ?_) (fun c => absurd rfl c)
  exact kk kc nc _ _ _ _ _ _ _ (by omega) (by omega) rfl h3
theorem law_evening (G : OkG B E cL_law 4 RL 2048 84000 616764 7251956) (hX : Lx E b L xs) (hL : L ≤ 3072) (hi : 6 * i + 6 ≤ L) (hkc : kc + 3 ≤ 616764) (hnc : nc + 165 ≤ 7251956) (hr : Rel tv nT κ g X M) (kk : Go B E b i (a 0) a' kc nc) : V B (bmp E kc nc) 4 (wB B g a X a' M) 400 (lvL b (a 0) (a' 0) i) [] := by
  have C := G.at (k := kc) (n := nc) (by omega) (by omega)
  refine v_aload_n C 2 dL_law_400 rfl rfl ?_
  refine v_larg (j := 1) C hX.bmp hL (by omega) (by decide) dL_law_401 dL_law_402 dL_law_403 dL_law_404 dL_law_405 ?_
  refine v_larg (j := 2) C hX.bmp hL (by omega) (by decide) dL_law_406 dL_law_407 dL_law_408 dL_law_409 dL_law_410 ?_
  refine g_Vi (h := a 0) (k0 := 0) (fs := fl5 a (X 0)) (As := [.int (xs (6 * i + 1)), .int (xs (6 * i + 2))]) (rest := []) C (c5_evening (op_evening hr _ _)) eL_49 (Nat.le_of_ble_eq_true rfl) (Nat.le_of_ble_eq_true rfl) lw_h1 Sp.left rfl rfl rfl (Nat.le_of_ble_eq_true rfl) dL_law_411 (fun r X1 h2 => ?_)
  refine v_aload_n C 1 dL_law_414 rfl rfl ?_
  refine v_larg (j := 1) C hX.bmp hL (by omega) (by decide) dL_law_415 dL_law_416 dL_law_417 dL_law_418 dL_law_419 ?_
  refine v_larg (j := 2) C hX.bmp hL (by omega) (by decide) dL_law_420 dL_law_421 dL_law_422 dL_law_423 dL_law_424 ?_
  refine g_Vi (h := a' 0) (k0 := 0) (fs := fl6 a' (M 0)) (As := [.int (xs (6 * i + 1)), .int (xs (6 * i + 2))]) (rest := [.int r]) C (c6_evening h2) eL_52 (Nat.le_of_ble_eq_true rfl) (Nat.le_of_ble_eq_true rfl) lw_h2 Sp.left rfl rfl rfl (Nat.le_of_ble_eq_true rfl) dL_law_425 (fun r' M1 h3 => ?_)
  obtain ⟨rfl, κ', h3⟩ := h3
  refine v_icmp_eq C dL_law_428 (tgt := 1068) (by decide) (fun _ => ?_) (fun c => absurd rfl c)
  exact kk kc nc _ _ _ _ _ _ _ (by omega) (by omega) rfl h3
theorem law_play (G : OkG B E cL_law 4 RL 2048 84000 616764 7251956) (hX : Lx E b L xs) (hL : L ≤ 3072) (hi : 6 * i + 6 ≤ L) (hkc : kc + 3 ≤ 616764) (hnc : nc + 165 ≤ 7251956) (hr : Rel tv nT κ g X M) (kk : Go B E b i (a 0) a' kc nc) : V B (bmp E kc nc) 4 (wB B g a X a' M) 433 (lvL b (a 0) (a' 0) i) [] := by
  have C := G.at (k := kc) (n := nc) (by omega) (by omega)
  refine v_aload_n C 2 dL_law_433 rfl rfl ?_
  refine v_larg (j := 1) C hX.bmp hL (by omega) (by decide) dL_law_434 dL_law_435 dL_law_436 dL_law_437 dL_law_438 ?_
  refine g_Vi (h := a 0) (k0 := 0) (fs := fl5 a (X 0)) (As := [.int (xs (6 * i + 1))]) (rest := []) C (c5_play (op_play hr _)) eL_53 (Nat.le_of_ble_eq_true rfl) (Nat.le_of_ble_eq_true rfl) lw_h1 Sp.left rfl rfl rfl (Nat.le_of_ble_eq_true rfl) dL_law_439 (fun r X1 h2 => ?_)
  refine v_aload_n C 1 dL_law_442 rfl rfl ?_
  refine v_larg (j := 1) C hX.bmp hL (by omega) (by decide) dL_law_443 dL_law_444 dL_law_445 dL_law_446 dL_law_447 ?_
  refine g_Vi (h := a' 0) (k0 := 0) (fs := fl6 a' (M 0)) (As := [.int (xs (6 * i + 1))]) (rest := [.int r]) C (c6_play h2) eL_56 (Nat.le_of_ble_eq_true rfl) (Nat.le_of_ble_eq_true rfl) lw_h2 Sp.left rfl rfl rfl (Nat.le_of_ble_eq_true rfl) dL_law_448 (fun r' M1 h3 => ?_)
  obtain ⟨rfl, κ', h3⟩ := h3
  refine v_icmp_eq C dL_law_451 (tgt := 1068) (by decide) (fun _ => ?_) (fun c => absurd rfl c)
  exact kk kc nc _ _ _ _ _ _ _ (by omega) (by omega) rfl h3
theorem law_robin (G : OkG B E cL_law 4 RL 2048 84000 616764 7251956) (hX : Lx E b L xs) (hL : L ≤ 3072) (hi : 6 * i + 6 ≤ L) (hkc : kc + 3 ≤ 616764) (hnc : nc + 165 ≤ 7251956) (hr : Rel tv nT κ g X M) (kk : Go B E b i (a 0) a' kc nc) : V B (bmp E kc nc) 4 (wB B g a X a' M) 456 (lvL b (a 0) (a' 0) i) [] := by
  have C := G.at (k := kc) (n := nc) (by omega) (by omega)
  refine v_aload_n C 2 dL_law_456 rfl rfl ?_
  refine v_larg (j := 1) C hX.bmp hL (by omega) (by decide) dL_law_457 dL_law_458 dL_law_459 dL_law_460 dL_law_461 ?_
  refine g_Vi (h := a 0) (k0 := 0) (fs := fl5 a (X 0)) (As := [.int (xs (6 * i + 1))]) (rest := []) C (c5_robin (op_robin hr _)) eL_57 (Nat.le_of_ble_eq_true rfl) (Nat.le_of_ble_eq_true rfl) lw_h1 Sp.left rfl rfl rfl (Nat.le_of_ble_eq_true rfl) dL_law_462 (fun r X1 h2 => ?_)
  refine v_aload_n C 1 dL_law_465 rfl rfl ?_
  refine v_larg (j := 1) C hX.bmp hL (by omega) (by decide) dL_law_466 dL_law_467 dL_law_468 dL_law_469 dL_law_470 ?_
  refine g_Vi (h := a' 0) (k0 := 0) (fs := fl6 a' (M 0)) (As := [.int (xs (6 * i + 1))]) (rest := [.int r]) C (c6_robin h2) eL_60 (Nat.le_of_ble_eq_true rfl) (Nat.le_of_ble_eq_true rfl) lw_h2 Sp.left rfl rfl rfl (Nat.le_of_ble_eq_true rfl) dL_law_471 (fun r' M1 h3 => ?_)
  obtain ⟨rfl, κ', h3⟩ := h3
  refine v_icmp_eq C dL_law_474 (tgt := 1068) (by decide) (fun _ => ?_) (fun c => absurd rfl c)
  exact kk kc nc _ _ _ _ _ _ _ (by omega) (by omega) rfl h3
theorem law_best (G : OkG B E cL_law 4 RL 2048 84000 616764 7251956) (hX : Lx E b L xs) (hL : L ≤ 3072) (hi : 6 * i + 6 ≤ L) (hkc : kc + 3 ≤ 616764) (hnc : nc + 165 ≤ 7251956) (hr : Rel tv nT κ g X M) (kk : Go B E b i (a 0) a' kc nc) : V B (bmp E kc nc) 4 (wB B g a X a' M) 479 (lvL b (a 0) (a' 0) i) [] := by
  have C := G.at (k := kc) (n := nc) (by omega) (by omega)
  refine v_aload_n C 2 dL_law_479 rfl rfl ?_
  refine v_larg (j := 1) C hX.bmp hL (by omega) (by decide) dL_law_480 dL_law_481 dL_law_482 dL_law_483 dL_law_484 ?_
  refine v_larg (j := 2) C hX.bmp hL (by omega) (by decide) dL_law_485 dL_law_486 dL_law_487 dL_law_488 dL_law_489 ?_
  refine g_Vi (h := a 0) (k0 := 0) (fs := fl5 a (X 0)) (As := [.int (xs (6 * i + 1)), .int (xs (6 * i + 2))]) (rest := []) C (c5_best (op_best hr _ _)) eL_61 (Nat.le_of_ble_eq_true rfl) (Nat.le_of_ble_eq_true rfl) lw_h1 Sp.left rfl rfl rfl (Nat.le_of_ble_eq_true rfl) dL_law_490 (fun r X1 h2 => ?_)
  refine v_aload_n C 1 dL_law_493 rfl rfl ?_
  refine v_larg (j := 1) C hX.bmp hL (by omega) (by decide) dL_law_494 dL_law_495 dL_law_496 dL_law_497 dL_law_498 ?_
  refine v_larg (j := 2) C hX.bmp hL (by omega) (by decide) dL_law_499 dL_law_500 dL_law_501 dL_law_502 dL_law_503 ?_
  refine g_Vi (h := a' 0) (k0 := 0) (fs := fl6 a' (M 0)) (As := [.int (xs (6 * i + 1)), .int (xs (6 * i + 2))]) (rest := [.int r]) C (c6_best h2) eL_64 (Nat.le_of_ble_eq_true rfl) (Nat.le_of_ble_eq_true rfl) lw_h2 Sp.left rfl rfl rfl (Nat.le_of_ble_eq_true rfl) dL_law_504 (fun r' M1 h3 => ?_)
  obtain ⟨rfl, κ', h3⟩ := h3
  refine v_icmp_eq C dL_law_507 (tgt := 1068) (by decide) (fun _ => ?_) (fun c => absurd rfl c)
  exact kk kc nc _ _ _ _ _ _ _ (by omega) (by omega) rfl h3
theorem law_order (G : OkG B E cL_law 4 RL 2048 84000 616764 7251956) (hX : Lx E b L xs) (hL : L ≤ 3072) (hi : 6 * i + 6 ≤ L) (hkc : kc + 3 ≤ 616764) (hnc : nc + 165 ≤ 7251956) (hr : Rel tv nT κ g X M) (kk : Go B E b i (a 0) a' kc nc) : V B (bmp E kc nc) 4 (wB B g a X a' M) 512 (lvL b (a 0) (a' 0) i) [] := by
  have C := G.at (k := kc) (n := nc) (by omega) (by omega)
  refine v_aload_n C 2 dL_law_512 rfl rfl ?_
  refine v_larg (j := 1) C hX.bmp hL (by omega) (by decide) dL_law_513 dL_law_514 dL_law_515 dL_law_516 dL_law_517 ?_
  refine v_larg (j := 2) C hX.bmp hL (by omega) (by decide) dL_law_518 dL_law_519 dL_law_520 dL_law_521 dL_law_522 ?_
  refine g_Vi (h := a 0) (k0 := 0) (fs := fl5 a (X 0)) (As := [.int (xs (6 * i + 1)), .int (xs (6 * i + 2))]) (rest := []) C (c5_order (op_order hr _ _)) eL_65 (Nat.le_of_ble_eq_true rfl) (Nat.le_of_ble_eq_true rfl) lw_h1 Sp.left rfl rfl rfl (Nat.le_of_ble_eq_true rfl) dL_law_523 (fun r X1 h2 => ?_)
  refine v_aload_n C 1 dL_law_526 rfl rfl ?_
  refine v_larg (j := 1) C hX.bmp hL (by omega) (by decide) dL_law_527 dL_law_528 dL_law_529 dL_law_530 dL_law_531 ?_
  refine v_larg (j := 2) C hX.bmp hL (by omega) (by decide) dL_law_532 dL_law_533 dL_law_534 dL_law_535 dL_law_536 ?_
  refine g_Vi (h := a' 0) (k0 := 0) (fs := fl6 a' (M 0)) (As := [.int (xs (6 * i + 1)), .int (xs (6 * i + 2))]) (rest := [.int r]) C (c6_order h2) eL_68 (Nat.le_of_ble_eq_true rfl) (Nat.le_of_ble_eq_true rfl) lw_h2 Sp.left rfl rfl rfl (Nat.le_of_ble_eq_true rfl) dL_law_537 (fun r' M1 h3 => ?_)
  obtain ⟨rfl, κ', h3⟩ := h3
  refine v_icmp_eq C dL_law_540 (tgt := 1068) (by decide) (fun _ => ?_) (fun c => absurd rfl c)
  exact kk kc nc _ _ _ _ _ _ _ (by omega) (by omega) rfl h3
theorem law_all (G : OkG B E cL_law 4 RL 2048 84000 616764 7251956) (hX : Lx E b L xs) (hL : L ≤ 3072) (hi : 6 * i + 6 ≤ L) (hkc : kc + 3 ≤ 616764) (hnc : nc + 165 ≤ 7251956) (hr : Rel tv nT κ g X M) (kk : Go B E b i (a 0) a' kc nc) : V B (bmp E kc nc) 4 (wB B g a X a' M) 545 (lvL b (a 0) (a' 0) i) [] := by
  have C := G.at (k := kc) (n := nc) (by omega) (by omega)
  refine v_aload_n C 2 dL_law_545 rfl rfl ?_
  refine v_larg (j := 1) C hX.bmp hL (by omega) (by decide) dL_law_546 dL_law_547 dL_law_548 dL_law_549 dL_law_550 ?_
  refine g_Vi (h := a 0) (k0 := 0) (fs := fl5 a (X 0)) (As := [.int (xs (6 * i + 1))]) (rest := []) C (c5_all (op_all hr _)) eL_69 (Nat.le_of_ble_eq_true rfl) (Nat.le_of_ble_eq_true rfl) lw_h1 Sp.left rfl rfl rfl (Nat.le_of_ble_eq_true rfl) dL_law_551 (fun r X1 h2 => ?_)
  refine v_aload_n C 1 dL_law_554 rfl rfl ?_
  refine v_larg (j := 1) C hX.bmp hL (by omega) (by decide) dL_law_555 dL_law_556 dL_law_557 dL_law_558 dL_law_559 ?_
  refine g_Vi (h := a' 0) (k0 := 0) (fs := fl6 a' (M 0)) (As := [.int (xs (6 * i + 1))]) (rest := [.int r]) C (c6_all h2) eL_72 (Nat.le_of_ble_eq_true rfl) (Nat.le_of_ble_eq_true rfl) lw_h2 Sp.left rfl rfl rfl (Nat.le_of_ble_eq_true rfl) dL_law_560 (fun r' M1 h3 => ?_)
  obtain ⟨rfl, κ', h3⟩ := h3
  refine v_icmp_eq C dL_law_563 (tgt := 1068) (by decide) (fun _ => ?_) (fun c => absurd rfl c)
  exact kk kc nc _ _ _ _ _ _ _ (by omega) (by omega) rfl h3
theorem law_soon (G : OkG B E cL_law 4 RL 2048 84000 616764 7251956) (hX : Lx E b L xs) (hL : L ≤ 3072) (hi : 6 * i + 6 ≤ L) (hkc : kc + 3 ≤ 616764) (hnc : nc + 165 ≤ 7251956) (hr : Rel tv nT κ g X M) (kk : Go B E b i (a 0) a' kc nc) : V B (bmp E kc nc) 4 (wB B g a X a' M) 568 (lvL b (a 0) (a' 0) i) [] := by
  have C := G.at (k := kc) (n := nc) (by omega) (by omega)
  refine v_aload_n C 2 dL_law_568 rfl rfl ?_
  refine v_larg (j := 1) C hX.bmp hL (by omega) (by decide) dL_law_569 dL_law_570 dL_law_571 dL_law_572 dL_law_573 ?_
  refine v_larg (j := 2) C hX.bmp hL (by omega) (by decide) dL_law_574 dL_law_575 dL_law_576 dL_law_577 dL_law_578 ?_
  refine g_Vi (h := a 0) (k0 := 0) (fs := fl5 a (X 0)) (As := [.int (xs (6 * i + 1)), .int (xs (6 * i + 2))]) (rest := []) C (c5_soon (op_soon hr _ _)) eL_73 (Nat.le_of_ble_eq_true rfl) (Nat.le_of_ble_eq_true rfl) lw_h1 Sp.left rfl rfl rfl (Nat.le_of_ble_eq_true rfl) dL_law_579 (fun r X1 h2 => ?_)
  refine v_aload_n C 1 dL_law_582 rfl rfl ?_
  refine v_larg (j := 1) C hX.bmp hL (by omega) (by decide) dL_law_583 dL_law_584 dL_law_585 dL_law_586 dL_law_587 ?_
  refine v_larg (j := 2) C hX.bmp hL (by omega) (by decide) dL_law_588 dL_law_589 dL_law_590 dL_law_591 dL_law_592 ?_
  refine g_Vi (h := a' 0) (k0 := 0) (fs := fl6 a' (M 0)) (As := [.int (xs (6 * i + 1)), .int (xs (6 * i + 2))]) (rest := [.int r]) C (c6_soon h2) eL_76 (Nat.le_of_ble_eq_true rfl) (Nat.le_of_ble_eq_true rfl) lw_h2 Sp.left rfl rfl rfl (Nat.le_of_ble_eq_true rfl) dL_law_593 (fun r' M1 h3 => ?_)
  obtain ⟨rfl, κ', h3⟩ := h3
  refine v_icmp_eq C dL_law_596 (tgt := 1068) (by decide) (fun _ => ?_) (fun c => absurd rfl c)
  exact kk kc nc _ _ _ _ _ _ _ (by omega) (by omega) rfl h3
theorem law_tells (G : OkG B E cL_law 4 RL 2048 84000 616764 7251956) (hX : Lx E b L xs) (hL : L ≤ 3072) (hi : 6 * i + 6 ≤ L) (hkc : kc + 3 ≤ 616764) (hnc : nc + 165 ≤ 7251956) (hr : Rel tv nT κ g X M) (kk : Go B E b i (a 0) a' kc nc) : V B (bmp E kc nc) 4 (wB B g a X a' M) 601 (lvL b (a 0) (a' 0) i) [] := by
  have C := G.at (k := kc) (n := nc) (by omega) (by omega)
  refine v_aload_n C 2 dL_law_601 rfl rfl ?_
  refine v_larg (j := 1) C hX.bmp hL (by omega) (by decide) dL_law_602 dL_law_603 dL_law_604 dL_law_605 dL_law_606 ?_
  refine v_larg (j := 2) C hX.bmp hL (by omega) (by decide) dL_law_607 dL_law_608 dL_law_609 dL_law_610 dL_law_611 ?_
  refine v_larg (j := 3) C hX.bmp hL (by omega) (by decide) dL_law_612 dL_law_613 dL_law_614 dL_law_615 dL_law_616 ?_
  refine g_Vi (h := a 0) (k0 := 0) (fs := fl5 a (X 0)) (As := [.int (xs (6 * i + 1)), .int (xs (6 * i + 2)), .int (xs (6 * i + 3))]) (rest := []) C (c5_tells (op_tells hr _ _ _)) eL_77 (Nat.le_of_ble_eq_true rfl) (Nat.le_of_ble_eq_true rfl) lw_h1 Sp.left rfl rfl rfl (Nat.le_of_ble_eq_true rfl) dL_law_617 (fun r X1 h2 => ?_)
  refine v_aload_n C 1 dL_law_620 rfl rfl ?_
  refine v_larg (j := 1) C hX.bmp hL (by omega) (by decide) dL_law_621 dL_law_622 dL_law_623 dL_law_624 dL_law_625 ?_
  refine v_larg (j := 2) C hX.bmp hL (by omega) (by decide) dL_law_626 dL_law_627 dL_law_628 dL_law_629 dL_law_630 ?_
  refine v_larg (j := 3) C hX.bmp hL (by omega) (by decide) dL_law_631 dL_law_632 dL_law_633 dL_law_634 dL_law_635 ?_
  refine g_Vi (h := a' 0) (k0 := 0) (fs := fl6 a' (M 0)) (As := [.int (xs (6 * i + 1)), .int (xs (6 * i + 2)), .int (xs (6 * i + 3))]) (rest := [.int r]) C (c6_tells h2) eL_80 (Nat.le_of_ble_eq_true rfl) (Nat.le_of_ble_eq_true rfl) lw_h2 Sp.left rfl rfl rfl (Nat.le_of_ble_eq_true rfl) dL_law_636 (fun r' M1 h3 => ?_)
  obtain ⟨rfl, κ', h3⟩ := h3
  refine v_icmp_eq C dL_law_639 (tgt := 1068) (by decide) (fun _ => ?_) (fun c => absurd rfl c)
  exact kk kc nc _ _ _ _ _ _ _ (by omega) (by omega) rfl h3
theorem law_film (G : OkG B E cL_law 4 RL 2048 84000 616764 7251956) (hX : Lx E b L xs) (hL : L ≤ 3072) (hi : 6 * i + 6 ≤ L) (hkc : kc + 3 ≤ 616764) (hnc : nc + 165 ≤ 7251956) (hr : Rel tv nT κ g X M) (kk : Go B E b i (a 0) a' kc nc) : V B (bmp E kc nc) 4 (wB B g a X a' M) 644 (lvL b (a 0) (a' 0) i) [] := by
  have C := G.at (k := kc) (n := nc) (by omega) (by omega)
  refine v_aload_n C 2 dL_law_644 rfl rfl ?_
  refine v_larg (j := 1) C hX.bmp hL (by omega) (by decide) dL_law_645 dL_law_646 dL_law_647 dL_law_648 dL_law_649 ?_
  refine v_larg (j := 2) C hX.bmp hL (by omega) (by decide) dL_law_650 dL_law_651 dL_law_652 dL_law_653 dL_law_654 ?_
  refine g_Vi (h := a 0) (k0 := 0) (fs := fl5 a (X 0)) (As := [.int (xs (6 * i + 1)), .int (xs (6 * i + 2))]) (rest := []) C (c5_film (op_film hr _ _)) eL_81 (Nat.le_of_ble_eq_true rfl) (Nat.le_of_ble_eq_true rfl) lw_h1 Sp.left rfl rfl rfl (Nat.le_of_ble_eq_true rfl) dL_law_655 (fun r X1 h2 => ?_)
  refine v_aload_n C 1 dL_law_658 rfl rfl ?_
  refine v_larg (j := 1) C hX.bmp hL (by omega) (by decide) dL_law_659 dL_law_660 dL_law_661 dL_law_662 dL_law_663 ?_
  refine v_larg (j := 2) C hX.bmp hL (by omega) (by decide) dL_law_664 dL_law_665 dL_law_666 dL_law_667 dL_law_668 ?_
  refine g_Vi (h := a' 0) (k0 := 0) (fs := fl6 a' (M 0)) (As := [.int (xs (6 * i + 1)), .int (xs (6 * i + 2))]) (rest := [.int r]) C (c6_film h2) eL_84 (Nat.le_of_ble_eq_true rfl) (Nat.le_of_ble_eq_true rfl) lw_h2 Sp.left rfl rfl rfl (Nat.le_of_ble_eq_true rfl) dL_law_669 (fun r' M1 h3 => ?_)
  obtain ⟨rfl, κ', h3⟩ := h3
  refine v_icmp_eq C dL_law_672 (tgt := 1068) (by decide) (fun _ => ?_) (fun c => absurd rfl c)
  exact kk kc nc _ _ _ _ _ _ _ (by omega) (by omega) rfl h3
theorem law_drawn (G : OkG B E cL_law 4 RL 2048 84000 616764 7251956) (hX : Lx E b L xs) (hL : L ≤ 3072) (hi : 6 * i + 6 ≤ L) (hkc : kc + 3 ≤ 616764) (hnc : nc + 165 ≤ 7251956) (hr : Rel tv nT κ g X M) (kk : Go B E b i (a 0) a' kc nc) : V B (bmp E kc nc) 4 (wB B g a X a' M) 677 (lvL b (a 0) (a' 0) i) [] := by
  have C := G.at (k := kc) (n := nc) (by omega) (by omega)
  refine v_aload_n C 2 dL_law_677 rfl rfl ?_
  refine v_larg (j := 1) C hX.bmp hL (by omega) (by decide) dL_law_678 dL_law_679 dL_law_680 dL_law_681 dL_law_682 ?_
  refine v_larg (j := 2) C hX.bmp hL (by omega) (by decide) dL_law_683 dL_law_684 dL_law_685 dL_law_686 dL_law_687 ?_
  refine v_larg (j := 3) C hX.bmp hL (by omega) (by decide) dL_law_688 dL_law_689 dL_law_690 dL_law_691 dL_law_692 ?_
  refine g_Vi (h := a 0) (k0 := 0) (fs := fl5 a (X 0)) (As := [.int (xs (6 * i + 1)), .int (xs (6 * i + 2)), .int (xs (6 * i + 3))]) (rest := []) C (c5_drawn (op_drawn hr _ _ _)) eL_85 (Nat.le_of_ble_eq_true rfl) (Nat.le_of_ble_eq_true rfl) lw_h1 Sp.left rfl rfl rfl (Nat.le_of_ble_eq_true rfl) dL_law_693 (fun r X1 h2 => ?_)
  refine v_aload_n C 1 dL_law_696 rfl rfl ?_
  refine v_larg (j := 1) C hX.bmp hL (by omega) (by decide) dL_law_697 dL_law_698 dL_law_699 dL_law_700 dL_law_701 ?_
  refine v_larg (j := 2) C hX.bmp hL (by omega) (by decide) dL_law_702 dL_law_703 dL_law_704 dL_law_705 dL_law_706 ?_
  refine v_larg (j := 3) C hX.bmp hL (by omega) (by decide) dL_law_707 dL_law_708 dL_law_709 dL_law_710 dL_law_711 ?_
  refine g_Vi (h := a' 0) (k0 := 0) (fs := fl6 a' (M 0)) (As := [.int (xs (6 * i + 1)), .int (xs (6 * i + 2)), .int (xs (6 * i + 3))]) (rest := [.int r]) C (c6_drawn h2) eL_88 (Nat.le_of_ble_eq_true rfl) (Nat.le_of_ble_eq_true rfl) lw_h2 Sp.left rfl rfl rfl (Nat.le_of_ble_eq_true rfl) dL_law_712 (fun r' M1 h3 => ?_)
  obtain ⟨rfl, κ', h3⟩ := h3
  refine v_icmp_eq C dL_law_715 (tgt := 1068) (by decide) (fun _ => ?_) (fun c => absurd rfl c)
  exact kk kc nc _ _ _ _ _ _ _ (by omega) (by omega) rfl h3
theorem law_chance (G : OkG B E cL_law 4 RL 2048 84000 616764 7251956) (hX : Lx E b L xs) (hL : L ≤ 3072) (hi : 6 * i + 6 ≤ L) (hkc : kc + 3 ≤ 616764) (hnc : nc + 165 ≤ 7251956) (hr : Rel tv nT κ g X M) (kk : Go B E b i (a 0) a' kc nc) : V B (bmp E kc nc) 4 (wB B g a X a' M) 720 (lvL b (a 0) (a' 0) i) [] := by
  have C := G.at (k := kc) (n := nc) (by omega) (by omega)
  refine v_aload_n C 2 dL_law_720 rfl rfl ?_
  refine v_larg (j := 1) C hX.bmp hL (by omega) (by decide) dL_law_721 dL_law_722 dL_law_723 dL_law_724 dL_law_725 ?_
  refine v_larg (j := 2) C hX.bmp hL (by omega) (by decide) dL_law_726 dL_law_727 dL_law_728 dL_law_729 dL_law_730 ?_
  refine v_larg (j := 3) C hX.bmp hL (by omega) (by decide) dL_law_731 dL_law_732 dL_law_733 dL_law_734 dL_law_735 ?_
  refine v_larg (j := 4) C hX.bmp hL (by omega) (by decide) dL_law_736 dL_law_737 dL_law_738 dL_law_739 dL_law_740 ?_
  refine v_larg (j := 5) C hX.bmp hL (by omega) (by decide) dL_law_741 dL_law_742 dL_law_743 dL_law_744 dL_law_745 ?_
  refine g_Vl (h := a 0) (k0 := 0) (fs := fl5 a (X 0)) (As := [.int (xs (6 * i + 1)), .int (xs (6 * i + 2)), .int (xs (6 * i + 3)), .int (xs (6 * i + 4)), .int (xs (6 * i + 5))]) (rest := []) C (c5_chance (op_chance hr _ _ _ _ _)) eL_89 (Nat.le_of_ble_eq_true rfl) (Nat.le_of_ble_eq_true rfl) lw_h1 Sp.left rfl rfl rfl (Nat.le_of_ble_eq_true rfl) dL_law_746 (fun r X1 h2 => ?_)
  refine v_aload_n C 1 dL_law_749 rfl rfl ?_
  refine v_larg (j := 1) C hX.bmp hL (by omega) (by decide) dL_law_750 dL_law_751 dL_law_752 dL_law_753 dL_law_754 ?_
  refine v_larg (j := 2) C hX.bmp hL (by omega) (by decide) dL_law_755 dL_law_756 dL_law_757 dL_law_758 dL_law_759 ?_
  refine v_larg (j := 3) C hX.bmp hL (by omega) (by decide) dL_law_760 dL_law_761 dL_law_762 dL_law_763 dL_law_764 ?_
  refine v_larg (j := 4) C hX.bmp hL (by omega) (by decide) dL_law_765 dL_law_766 dL_law_767 dL_law_768 dL_law_769 ?_
  refine v_larg (j := 5) C hX.bmp hL (by omega) (by decide) dL_law_770 dL_law_771 dL_law_772 dL_law_773 dL_law_774 ?_
  refine g_Vl (h := a' 0) (k0 := 0) (fs := fl6 a' (M 0)) (As := [.int (xs (6 * i + 1)), .int (xs (6 * i + 2)), .int (xs (6 * i + 3)), .int (xs (6 * i + 4)), .int (xs (6 * i + 5))]) (rest := [.long r]) C (c6_chance h2) eL_93 (Nat.le_of_ble_eq_true rfl) (Nat.le_of_ble_eq_true rfl) lw_h2 Sp.left rfl rfl rfl (Nat.le_of_ble_eq_true rfl) dL_law_775 (fun r' M1 h3 => ?_)
  obtain ⟨rfl, κ', h3⟩ := h3
  refine v_lcmp C dL_law_778 ?_
  refine v_if_eq C dL_law_779 (tgt := 1068) (by decide) (fun _ => ?_) (fun c => absurd lg_self c)
  exact kk kc nc _ _ _ _ _ _ _ (by omega) (by omega) rfl h3
theorem law_image (G : OkG B E cL_law 4 RL 2048 84000 616764 7251956) (hX : Lx E b L xs) (hL : L ≤ 3072) (hi : 6 * i + 6 ≤ L) (hkc : kc + 3 ≤ 616764) (hnc : nc + 165 ≤ 7251956) (hr : Rel tv nT κ g X M) (kk : Go B E b i (a 0) a' kc nc) : V B (bmp E kc nc) 4 (wB B g a X a' M) 784 (lvL b (a 0) (a' 0) i) [] := by
  have C := G.at (k := kc) (n := nc) (by omega) (by omega)
  refine v_aload_n C 2 dL_law_784 rfl rfl ?_
  refine g_Vi (h := a 0) (k0 := 0) (fs := fl5 a (X 0)) (As := []) (rest := []) C (c5_image (op_image hr)) eL_94 (Nat.le_of_ble_eq_true rfl) (Nat.le_of_ble_eq_true rfl) lw_h1 Sp.left rfl rfl rfl (Nat.le_of_ble_eq_true rfl) dL_law_785 (fun r X1 h2 => ?_)
  refine v_aload_n C 1 dL_law_788 rfl rfl ?_
  refine g_Vi (h := a' 0) (k0 := 0) (fs := fl6 a' (M 0)) (As := []) (rest := [.int r]) C (c6_image h2) eL_97 (Nat.le_of_ble_eq_true rfl) (Nat.le_of_ble_eq_true rfl) lw_h2 Sp.left rfl rfl rfl (Nat.le_of_ble_eq_true rfl) dL_law_789 (fun r' M1 h3 => ?_)
  obtain ⟨rfl, κ', h3⟩ := h3
  refine v_icmp_eq C dL_law_792 (tgt := 1068) (by decide) (fun _ => ?_) (fun c => absurd rfl c)
  exact kk kc nc _ _ _ _ _ _ _ (by omega) (by omega) rfl h3
theorem law_back (G : OkG B E cL_law 4 RL 2048 84000 616764 7251956) (hX : Lx E b L xs) (hL : L ≤ 3072) (hi : 6 * i + 6 ≤ L) (hkc : kc + 3 ≤ 616764) (hnc : nc + 165 ≤ 7251956) (hr : Rel tv nT κ g X M) (kk : Go B E b i (a 0) a' kc nc) : V B (bmp E kc nc) 4 (wB B g a X a' M) 797 (lvL b (a 0) (a' 0) i) [] := by
  have C := G.at (k := kc) (n := nc) (by omega) (by omega)
  refine v_aload_n C 2 dL_law_797 rfl rfl ?_
  refine g_Vi (h := a 0) (k0 := 0) (fs := fl5 a (X 0)) (As := []) (rest := []) C (c5_back (op_back hr)) eL_98 (Nat.le_of_ble_eq_true rfl) (Nat.le_of_ble_eq_true rfl) lw_h1 Sp.left rfl rfl rfl (Nat.le_of_ble_eq_true rfl) dL_law_798 (fun r X1 h2 => ?_)
  refine v_aload_n C 1 dL_law_801 rfl rfl ?_
  refine g_Vi (h := a' 0) (k0 := 0) (fs := fl6 a' (M 0)) (As := []) (rest := [.int r]) C (c6_back h2) eL_101 (Nat.le_of_ble_eq_true rfl) (Nat.le_of_ble_eq_true rfl) lw_h2 Sp.left rfl rfl rfl (Nat.le_of_ble_eq_true rfl) dL_law_802 (fun r' M1 h3 => ?_)
  obtain ⟨rfl, κ', h3⟩ := h3
  refine v_icmp_eq C dL_law_805 (tgt := 1068) (by decide) (fun _ => ?_) (fun c => absurd rfl c)
  exact kk kc nc _ _ _ _ _ _ _ (by omega) (by omega) rfl h3
theorem law_count (G : OkG B E cL_law 4 RL 2048 84000 616764 7251956) (hX : Lx E b L xs) (hL : L ≤ 3072) (hi : 6 * i + 6 ≤ L) (hkc : kc + 3 ≤ 616764) (hnc : nc + 165 ≤ 7251956) (hr : Rel tv nT κ g X M) (kk : Go B E b i (a 0) a' kc nc) : V B (bmp E kc nc) 4 (wB B g a X a' M) 810 (lvL b (a 0) (a' 0) i) [] := by
  have C := G.at (k := kc) (n := nc) (by omega) (by omega)
  refine v_aload_n C 2 dL_law_810 rfl rfl ?_
  refine v_larg (j := 1) C hX.bmp hL (by omega) (by decide) dL_law_811 dL_law_812 dL_law_813 dL_law_814 dL_law_815 ?_
  refine g_Vi (h := a 0) (k0 := 0) (fs := fl5 a (X 0)) (As := [.int (xs (6 * i + 1))]) (rest := []) C (c5_count (op_count hr _)) eL_102 (Nat.le_of_ble_eq_true rfl) (Nat.le_of_ble_eq_true rfl) lw_h1 Sp.left rfl rfl rfl (Nat.le_of_ble_eq_true rfl) dL_law_816 (fun r X1 h2 => ?_)
  refine v_aload_n C 1 dL_law_819 rfl rfl ?_
  refine v_larg (j := 1) C hX.bmp hL (by omega) (by decide) dL_law_820 dL_law_821 dL_law_822 dL_law_823 dL_law_824 ?_
  refine g_Vi (h := a' 0) (k0 := 0) (fs := fl6 a' (M 0)) (As := [.int (xs (6 * i + 1))]) (rest := [.int r]) C (c6_count h2) eL_105 (Nat.le_of_ble_eq_true rfl) (Nat.le_of_ble_eq_true rfl) lw_h2 Sp.left rfl rfl rfl (Nat.le_of_ble_eq_true rfl) dL_law_825 (fun r' M1 h3 => ?_)
  obtain ⟨rfl, κ', h3⟩ := h3
  refine v_icmp_eq C dL_law_828 (tgt := 1068) (by decide) (fun _ => ?_) (fun c => absurd rfl c)
  exact kk kc nc _ _ _ _ _ _ _ (by omega) (by omega) rfl h3
theorem law_sheet (G : OkG B E cL_law 4 RL 2048 84000 616764 7251956) (hX : Lx E b L xs) (hL : L ≤ 3072) (hi : 6 * i + 6 ≤ L) (hkc : kc + 3 ≤ 616764) (hnc : nc + 165 ≤ 7251956) (hr : Rel tv nT κ g X M) (kk : Go B E b i (a 0) a' kc nc) : V B (bmp E kc nc) 4 (wB B g a X a' M) 833 (lvL b (a 0) (a' 0) i) [] := by
  have C := G.at (k := kc) (n := nc) (by omega) (by omega)
  refine v_aload_n C 2 dL_law_833 rfl rfl ?_
  refine v_larg (j := 1) C hX.bmp hL (by omega) (by decide) dL_law_834 dL_law_835 dL_law_836 dL_law_837 dL_law_838 ?_
  refine v_larg (j := 2) C hX.bmp hL (by omega) (by decide) dL_law_839 dL_law_840 dL_law_841 dL_law_842 dL_law_843 ?_
  refine v_larg (j := 3) C hX.bmp hL (by omega) (by decide) dL_law_844 dL_law_845 dL_law_846 dL_law_847 dL_law_848 ?_
  refine g_Vi (h := a 0) (k0 := 0) (fs := fl5 a (X 0)) (As := [.int (xs (6 * i + 1)), .int (xs (6 * i + 2)), .int (xs (6 * i + 3))]) (rest := []) C (c5_sheet (op_sheet hr _ _ _)) eL_106 (Nat.le_of_ble_eq_true rfl) (Nat.le_of_ble_eq_true rfl) lw_h1 Sp.left rfl rfl rfl (Nat.le_of_ble_eq_true rfl) dL_law_849 (fun r X1 h2 => ?_)
  refine v_aload_n C 1 dL_law_852 rfl rfl ?_
  refine v_larg (j := 1) C hX.bmp hL (by omega) (by decide) dL_law_853 dL_law_854 dL_law_855 dL_law_856 dL_law_857 ?_
  refine v_larg (j := 2) C hX.bmp hL (by omega) (by decide) dL_law_858 dL_law_859 dL_law_860 dL_law_861 dL_law_862 ?_
  refine v_larg (j := 3) C hX.bmp hL (by omega) (by decide) dL_law_863 dL_law_864 dL_law_865 dL_law_866 dL_law_867 ?_
  refine g_Vi (h := a' 0) (k0 := 0) (fs := fl6 a' (M 0)) (As := [.int (xs (6 * i + 1)), .int (xs (6 * i + 2)), .int (xs (6 * i + 3))]) (rest := [.int r]) C (c6_sheet h2) eL_109 (Nat.le_of_ble_eq_true rfl) (Nat.le_of_ble_eq_true rfl) lw_h2 Sp.left rfl rfl rfl (Nat.le_of_ble_eq_true rfl) dL_law_868 (fun r' M1 h3 => ?_)
  obtain ⟨rfl, κ', h3⟩ := h3
  refine v_icmp_eq C dL_law_871 (tgt := 1068) (by decide) (fun _ => ?_) (fun c => absurd rfl c)
  exact kk kc nc _ _ _ _ _ _ _ (by omega) (by omega) rfl h3
theorem law_cell (G : OkG B E cL_law 4 RL 2048 84000 616764 7251956) (hX : Lx E b L xs) (hL : L ≤ 3072) (hi : 6 * i + 6 ≤ L) (hkc : kc + 3 ≤ 616764) (hnc : nc + 165 ≤ 7251956) (hr : Rel tv nT κ g X M) (kk : Go B E b i (a 0) a' kc nc) : V B (bmp E kc nc) 4 (wB B g a X a' M) 876 (lvL b (a 0) (a' 0) i) [] := by
  have C := G.at (k := kc) (n := nc) (by omega) (by omega)
  refine v_aload_n C 2 dL_law_876 rfl rfl ?_
  refine v_larg (j := 1) C hX.bmp hL (by omega) (by decide) dL_law_877 dL_law_878 dL_law_879 dL_law_880 dL_law_881 ?_
  refine v_larg (j := 2) C hX.bmp hL (by omega) (by decide) dL_law_882 dL_law_883 dL_law_884 dL_law_885 dL_law_886 ?_
  refine v_larg (j := 3) C hX.bmp hL (by omega) (by decide) dL_law_887 dL_law_888 dL_law_889 dL_law_890 dL_law_891 ?_
  refine g_Vi (h := a 0) (k0 := 0) (fs := fl5 a (X 0)) (As := [.int (xs (6 * i + 1)), .int (xs (6 * i + 2)), .int (xs (6 * i + 3))]) (rest := []) C (c5_cell (op_cell hr _ _ _)) eL_110 (Nat.le_of_ble_eq_true rfl) (Nat.le_of_ble_eq_true rfl) lw_h1 Sp.left rfl rfl rfl (Nat.le_of_ble_eq_true rfl) dL_law_892 (fun r X1 h2 => ?_)
  refine v_aload_n C 1 dL_law_895 rfl rfl ?_
  refine v_larg (j := 1) C hX.bmp hL (by omega) (by decide) dL_law_896 dL_law_897 dL_law_898 dL_law_899 dL_law_900 ?_
  refine v_larg (j := 2) C hX.bmp hL (by omega) (by decide) dL_law_901 dL_law_902 dL_law_903 dL_law_904 dL_law_905 ?_
  refine v_larg (j := 3) C hX.bmp hL (by omega) (by decide) dL_law_906 dL_law_907 dL_law_908 dL_law_909 dL_law_910 ?_
  refine g_Vi (h := a' 0) (k0 := 0) (fs := fl6 a' (M 0)) (As := [.int (xs (6 * i + 1)), .int (xs (6 * i + 2)), .int (xs (6 * i + 3))]) (rest := [.int r]) C (c6_cell h2) eL_113 (Nat.le_of_ble_eq_true rfl) (Nat.le_of_ble_eq_true rfl) lw_h2 Sp.left rfl rfl rfl (Nat.le_of_ble_eq_true rfl) dL_law_911 (fun r' M1 h3 => ?_)
  obtain ⟨rfl, κ', h3⟩ := h3
  refine v_icmp_eq C dL_law_914 (tgt := 1068) (by decide) (fun _ => ?_) (fun c => absurd rfl c)
  exact kk kc nc _ _ _ _ _ _ _ (by omega) (by omega) rfl h3
theorem law_copy (G : OkG B E cL_law 4 RL 2048 84000 616764 7251956) (hX : Lx E b L xs) (hL : L ≤ 3072) (hi : 6 * i + 6 ≤ L) (hkc : kc + 3 ≤ 616764) (hnc : nc + 165 ≤ 7251956) (hr : Rel tv nT κ g X M) (kk : Go B E b i (a 0) a' kc nc) : V B (bmp E kc nc) 4 (wB B g a X a' M) 919 (lvL b (a 0) (a' 0) i) [] := by
  have C := G.at (k := kc) (n := nc) (by omega) (by omega)
  refine v_aload_n C 2 dL_law_919 rfl rfl ?_
  refine v_larg (j := 1) C hX.bmp hL (by omega) (by decide) dL_law_920 dL_law_921 dL_law_922 dL_law_923 dL_law_924 ?_
  refine v_larg (j := 2) C hX.bmp hL (by omega) (by decide) dL_law_925 dL_law_926 dL_law_927 dL_law_928 dL_law_929 ?_
  refine v_larg (j := 3) C hX.bmp hL (by omega) (by decide) dL_law_930 dL_law_931 dL_law_932 dL_law_933 dL_law_934 ?_
  refine v_larg (j := 4) C hX.bmp hL (by omega) (by decide) dL_law_935 dL_law_936 dL_law_937 dL_law_938 dL_law_939 ?_
  refine v_larg (j := 5) C hX.bmp hL (by omega) (by decide) dL_law_940 dL_law_941 dL_law_942 dL_law_943 dL_law_944 ?_
  refine g_Vi (h := a 0) (k0 := 0) (fs := fl5 a (X 0)) (As := [.int (xs (6 * i + 1)), .int (xs (6 * i + 2)), .int (xs (6 * i + 3)), .int (xs (6 * i + 4)), .int (xs (6 * i + 5))]) (rest := []) C (c5_copy (op_copy hr _ _ _ _ _)) eL_114 (Nat.le_of_ble_eq_true rfl) (Nat.le_of_ble_eq_true rfl) lw_h1 Sp.left rfl rfl rfl (Nat.le_of_ble_eq_true rfl) dL_law_945 (fun r X1 h2 => ?_)
  refine v_aload_n C 1 dL_law_948 rfl rfl ?_
  refine v_larg (j := 1) C hX.bmp hL (by omega) (by decide) dL_law_949 dL_law_950 dL_law_951 dL_law_952 dL_law_953 ?_
  refine v_larg (j := 2) C hX.bmp hL (by omega) (by decide) dL_law_954 dL_law_955 dL_law_956 dL_law_957 dL_law_958 ?_
  refine v_larg (j := 3) C hX.bmp hL (by omega) (by decide) dL_law_959 dL_law_960 dL_law_961 dL_law_962 dL_law_963 ?_
  refine v_larg (j := 4) C hX.bmp hL (by omega) (by decide) dL_law_964 dL_law_965 dL_law_966 dL_law_967 dL_law_968 ?_
  refine v_larg (j := 5) C hX.bmp hL (by omega) (by decide) dL_law_969 dL_law_970 dL_law_971 dL_law_972 dL_law_973 ?_
  refine g_Vi (h := a' 0) (k0 := 0) (fs := fl6 a' (M 0)) (As := [.int (xs (6 * i + 1)), .int (xs (6 * i + 2)), .int (xs (6 * i + 3)), .int (xs (6 * i + 4)), .int (xs (6 * i + 5))]) (rest := [.int r]) C (c6_copy h2) eL_118 (Nat.le_of_ble_eq_true rfl) (Nat.le_of_ble_eq_true rfl) lw_h2 Sp.left rfl rfl rfl (Nat.le_of_ble_eq_true rfl) dL_law_974 (fun r' M1 h3 => ?_)
  obtain ⟨rfl, κ', h3⟩ := h3
  refine v_icmp_eq C dL_law_977 (tgt := 1068) (by decide) (fun _ => ?_) (fun c => absurd rfl c)
  exact kk kc nc _ _ _ _ _ _ _ (by omega) (by omega) rfl h3
theorem law_players (G : OkG B E cL_law 4 RL 2048 84000 616764 7251956) (hX : Lx E b L xs) (hL : L ≤ 3072) (hi : 6 * i + 6 ≤ L) (hkc : kc + 3 ≤ 616764) (hnc : nc + 165 ≤ 7251956) (hr : Rel tv nT κ g X M) (kk : Go B E b i (a 0) a' kc nc) : V B (bmp E kc nc) 4 (wB B g a X a' M) 982 (lvL b (a 0) (a' 0) i) [] := by
  have C := G.at (k := kc) (n := nc) (by omega) (by omega)
  refine v_aload_n C 2 dL_law_982 rfl rfl ?_
  refine v_larg (j := 1) C hX.bmp hL (by omega) (by decide) dL_law_983 dL_law_984 dL_law_985 dL_law_986 dL_law_987 ?_
  refine v_larg (j := 2) C hX.bmp hL (by omega) (by decide) dL_law_988 dL_law_989 dL_law_990 dL_law_991 dL_law_992 ?_
  refine v_larg (j := 3) C hX.bmp hL (by omega) (by decide) dL_law_993 dL_law_994 dL_law_995 dL_law_996 dL_law_997 ?_
  refine v_larg (j := 4) C hX.bmp hL (by omega) (by decide) dL_law_998 dL_law_999 dL_law_1000 dL_law_1001 dL_law_1002 ?_
  refine g_Vi (h := a 0) (k0 := 0) (fs := fl5 a (X 0)) (As := [.int (xs (6 * i + 1)), .int (xs (6 * i + 2)), .int (xs (6 * i + 3)), .int (xs (6 * i + 4))]) (rest := []) C (c5_players (op_players hr _ _ _ _)) eL_119 (Nat.le_of_ble_eq_true rfl) (Nat.le_of_ble_eq_true rfl) lw_h1 Sp.left rfl rfl rfl (Nat.le_of_ble_eq_true rfl) dL_law_1003 (fun r X1 h2 => ?_)
  refine v_aload_n C 1 dL_law_1006 rfl rfl ?_
  refine v_larg (j := 1) C hX.bmp hL (by omega) (by decide) dL_law_1007 dL_law_1008 dL_law_1009 dL_law_1010 dL_law_1011 ?_
  refine v_larg (j := 2) C hX.bmp hL (by omega) (by decide) dL_law_1012 dL_law_1013 dL_law_1014 dL_law_1015 dL_law_1016 ?_
  refine v_larg (j := 3) C hX.bmp hL (by omega) (by decide) dL_law_1017 dL_law_1018 dL_law_1019 dL_law_1020 dL_law_1021 ?_
  refine v_larg (j := 4) C hX.bmp hL (by omega) (by decide) dL_law_1022 dL_law_1023 dL_law_1024 dL_law_1025 dL_law_1026 ?_
  refine g_Vi (h := a' 0) (k0 := 0) (fs := fl6 a' (M 0)) (As := [.int (xs (6 * i + 1)), .int (xs (6 * i + 2)), .int (xs (6 * i + 3)), .int (xs (6 * i + 4))]) (rest := [.int r]) C (c6_players h2) eL_123 (Nat.le_of_ble_eq_true rfl) (Nat.le_of_ble_eq_true rfl) lw_h2 Sp.left rfl rfl rfl (Nat.le_of_ble_eq_true rfl) dL_law_1027 (fun r' M1 h3 => ?_)
  obtain ⟨rfl, κ', h3⟩ := h3
  refine v_icmp_eq C dL_law_1030 (tgt := 1068) (by decide) (fun _ => ?_) (fun c => absurd rfl c)
  exact kk kc nc _ _ _ _ _ _ _ (by omega) (by omega) rfl h3
theorem law_taken (G : OkG B E cL_law 4 RL 2048 84000 616764 7251956) (hX : Lx E b L xs) (hL : L ≤ 3072) (hi : 6 * i + 6 ≤ L) (hkc : kc + 3 ≤ 616764) (hnc : nc + 165 ≤ 7251956) (hr : Rel tv nT κ g X M) (kk : Go B E b i (a 0) a' kc nc) : V B (bmp E kc nc) 4 (wB B g a X a' M) 1035 (lvL b (a 0) (a' 0) i) [] := by
  have C := G.at (k := kc) (n := nc) (by omega) (by omega)
  refine v_aload_n C 2 dL_law_1035 rfl rfl ?_
  refine v_larg (j := 1) C hX.bmp hL (by omega) (by decide) dL_law_1036 dL_law_1037 dL_law_1038 dL_law_1039 dL_law_1040 ?_
  refine v_larg (j := 2) C hX.bmp hL (by omega) (by decide) dL_law_1041 dL_law_1042 dL_law_1043 dL_law_1044 dL_law_1045 ?_
  refine g_Vi (h := a 0) (k0 := 0) (fs := fl5 a (X 0)) (As := [.int (xs (6 * i + 1)), .int (xs (6 * i + 2))]) (rest := []) C (c5_taken (op_taken hr _ _)) eL_124 (Nat.le_of_ble_eq_true rfl) (Nat.le_of_ble_eq_true rfl) lw_h1 Sp.left rfl rfl rfl (Nat.le_of_ble_eq_true rfl) dL_law_1046 (fun r X1 h2 => ?_)
  refine v_aload_n C 1 dL_law_1049 rfl rfl ?_
  refine v_larg (j := 1) C hX.bmp hL (by omega) (by decide) dL_law_1050 dL_law_1051 dL_law_1052 dL_law_1053 dL_law_1054 ?_
  refine v_larg (j := 2) C hX.bmp hL (by omega) (by decide) dL_law_1055 dL_law_1056 dL_law_1057 dL_law_1058 dL_law_1059 ?_
  refine g_Vi (h := a' 0) (k0 := 0) (fs := fl6 a' (M 0)) (As := [.int (xs (6 * i + 1)), .int (xs (6 * i + 2))]) (rest := [.int r]) C (c6_taken h2) eL_127 (Nat.le_of_ble_eq_true rfl) (Nat.le_of_ble_eq_true rfl) lw_h2 Sp.left rfl rfl rfl (Nat.le_of_ble_eq_true rfl) dL_law_1060 (fun r' M1 h3 => ?_)
  obtain ⟨rfl, κ', h3⟩ := h3
  refine v_icmp_eq C dL_law_1063 (tgt := 1068) (by decide) (fun _ => ?_) (fun c => absurd rfl c)
  exact kk kc nc _ _ _ _ _ _ _ (by omega) (by omega) rfl h3
theorem law_at27 (G : OkG B E cL_law 4 RL 2048 84000 616764 7251956) (hX : Lx E b L xs) (hL : L ≤ 3072) (hi : 6 * i + 6 ≤ L) (hkc : kc + 3 ≤ 616764) (hnc : nc + 165 ≤ 7251956) (hr : Rel tv nT κ g X M) (kk : Go B E b i (a 0) a' kc nc) : V B (bmp E kc nc) 4 (wB B g a X a' M) 27 (lvL b (a 0) (a' 0) i) [] := by
  have C := G.at (k := kc) (n := nc) (by omega) (by omega)
  refine v_aload_n C 3 dL_law_27 rfl rfl ?_
  refine v_iload_n C 0 dL_law_28 rfl rfl ?_
  refine v_sldE C hX.bmp (vpl _ _ (by omega) (by omega)) dL_law_29 ?_
  refine v_bipush C dL_law_30 (v := (31 : Int32)) (by decide) ?_
  refine v_iand C dL_law_32 ?_
  refine v_sw C dL_law_33 [156, 199, 232, 265, 308, 331, 344, 367, 400, 433, 456, 479, 512, 545, 568, 601, 644, 677, 720, 784, 797, 810, 833, 876, 919, 982, 1035] (by decide) (by decide) (tgt := 1068) (by decide) (fun j t ht _ => ?_) (fun _ => kk kc nc _ _ _ _ _ _ _ (by omega) (by omega) rfl hr)
  have hj : j < 27 := (List.getElem?_eq_some_iff.mp ht).1
  rcases (by omega : j = 0 ∨ j = 1 ∨ j = 2 ∨ j = 3 ∨ j = 4 ∨ j = 5 ∨ j = 6 ∨ j = 7 ∨ j = 8 ∨ j = 9 ∨ j = 10 ∨ j = 11 ∨ j = 12 ∨ j = 13 ∨ j = 14 ∨ j = 15 ∨ j = 16 ∨ j = 17 ∨ j = 18 ∨ j = 19 ∨ j = 20 ∨ j = 21 ∨ j = 22 ∨ j = 23 ∨ j = 24 ∨ j = 25 ∨ j = 26) with rfl | rfl | rfl | rfl | rfl | rfl | rfl | rfl | rfl | rfl | rfl | rfl | rfl | rfl | rfl | rfl | rfl | rfl | rfl | rfl | rfl | rfl | rfl | rfl | rfl | rfl | rfl
  · obtain rfl := Option.some.inj ht
    exact law_set G hX hL hi hkc hnc hr kk
  · obtain rfl := Option.some.inj ht
    exact law_player G hX hL hi hkc hnc hr kk
  · obtain rfl := Option.some.inj ht
    exact law_told G hX hL hi hkc hnc hr kk
  · obtain rfl := Option.some.inj ht
    exact law_asks G hX hL hi hkc hnc hr kk
  · obtain rfl := Option.some.inj ht
    exact law_feed G hX hL hi hkc hnc hr kk
  · obtain rfl := Option.some.inj ht
    exact law_text G hX hL hi hkc hnc hr kk
  · obtain rfl := Option.some.inj ht
    exact law_force G hX hL hi hkc hnc hr kk
  · obtain rfl := Option.some.inj ht
    exact law_game G hX hL hi hkc hnc hr kk
  · obtain rfl := Option.some.inj ht
    exact law_evening G hX hL hi hkc hnc hr kk
  · obtain rfl := Option.some.inj ht
    exact law_play G hX hL hi hkc hnc hr kk
  · obtain rfl := Option.some.inj ht
    exact law_robin G hX hL hi hkc hnc hr kk
  · obtain rfl := Option.some.inj ht
    exact law_best G hX hL hi hkc hnc hr kk
  · obtain rfl := Option.some.inj ht
    exact law_order G hX hL hi hkc hnc hr kk
  · obtain rfl := Option.some.inj ht
    exact law_all G hX hL hi hkc hnc hr kk
  · obtain rfl := Option.some.inj ht
    exact law_soon G hX hL hi hkc hnc hr kk
  · obtain rfl := Option.some.inj ht
    exact law_tells G hX hL hi hkc hnc hr kk
  · obtain rfl := Option.some.inj ht
    exact law_film G hX hL hi hkc hnc hr kk
  · obtain rfl := Option.some.inj ht
    exact law_drawn G hX hL hi hkc hnc hr kk
  · obtain rfl := Option.some.inj ht
    exact law_chance G hX hL hi hkc hnc hr kk
  · obtain rfl := Option.some.inj ht
    exact law_image G hX hL hi hkc hnc hr kk
  · obtain rfl := Option.some.inj ht
    exact law_back G hX hL hi hkc hnc hr kk
  · obtain rfl := Option.some.inj ht
    exact law_count G hX hL hi hkc hnc hr kk
  · obtain rfl := Option.some.inj ht
    exact law_sheet G hX hL hi hkc hnc hr kk
  · obtain rfl := Option.some.inj ht
    exact law_cell G hX hL hi hkc hnc hr kk
  · obtain rfl := Option.some.inj ht
    exact law_copy G hX hL hi hkc hnc hr kk
  · obtain rfl := Option.some.inj ht
    exact law_players G hX hL hi hkc hnc hr kk
  · obtain rfl := Option.some.inj ht
    exact law_taken G hX hL hi hkc hnc hr kk
theorem law_loop (G : OkG B E cL_law 4 RL 2048 84000 616764 7251956) (hX : Lx E b L xs) (hL : L ≤ 3072) (fin : ∀ (kc nc : Nat) (w : va_W) (lv : List (Nat × Value)), kc ≤ 1617 → nc ≤ 87166 → V B (bmp E kc nc) 4 w 1074 lv []) : ∀ (r i kc nc : Nat) (tv : TV) (nT : Nat) (κ : CS) (g : GX) (a : Nat → Nat) (X M : S0), L < 6 * (i + r) + 6 → i ≤ 512 → kc ≤ 81 + 3 * i → nc ≤ 2686 + 165 * i → a 0 = h1 → Rel tv nT κ g X M → V B (bmp E kc nc) 4 (wB B g a X a' M) 18 (lvL b h1 (a' 0) i) [] := by
  intro r
  induction r with
  | zero =>
    intro i kc nc tv nT κ g a X M hf hi hk hn ha hr
    have C := G.at (k := kc) (n := nc) (by omega) (by omega)
    refine v_iload_n C 0 dL_law_18 rfl rfl ?_
    refine v_aload_n C 3 dL_law_19 rfl rfl ?_
    refine v_slenE C hX.bmp dL_law_20 ?_
    refine v_bipush C dL_law_21 (v := (6 : Int32)) (by decide) ?_
    refine v_isub C dL_law_23 ?_
    refine v_icmp_gt C dL_law_24 (tgt := 1074) (by decide) (fun _ => fin _ _ _ _ (by omega) (by omega)) (fun c => ?_)
    have := law_six hL hi c
    omega
  | succ r ih =>
    intro i kc nc tv nT κ g a X M hf hi hk hn ha hr
    subst ha
    have C := G.at (k := kc) (n := nc) (by omega) (by omega)
    refine v_iload_n C 0 dL_law_18 rfl rfl ?_
    refine v_aload_n C 3 dL_law_19 rfl rfl ?_
    refine v_slenE C hX.bmp dL_law_20 ?_
    refine v_bipush C dL_law_21 (v := (6 : Int32)) (by decide) ?_
    refine v_isub C dL_law_23 ?_
    refine v_icmp_gt C dL_law_24 (tgt := 1074) (by decide) (fun _ => fin _ _ _ _ (by omega) (by omega)) (fun c => ?_)
    have h6 := law_six hL hi c
    refine law_at27 G hX hL h6 (by omega) (by omega) hr (fun kc' nc' tv' nT' κ' g' a1 X' M' hk' hn' ha' hr' => ?_)
    have C := G.at (k := kc') (n := nc') (by omega) (by omega)
    refine v_iinc (v := nI (6 * (i + 1))) (lv' := lvL b (a 0) (a' 0) (i + 1)) C 0 dL_law_1068 rfl (by rw [show (6 : Nat) * (i + 1) = 6 * i + 6 by omega]; exact nI_add _ _) (by decide) rfl ?_
    refine v_goto C dL_law_1071 (tgt := 18) (by decide) ?_
    exact ih (i + 1) kc' nc' _ _ _ _ _ _ _ (by omega) (by omega) (by omega) (by omega) ha' hr'
end LAW
