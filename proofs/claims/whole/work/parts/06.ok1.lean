def aH0 : List (List Nat) := [[]]
set_option maxRecDepth 1000000 in
theorem okM_0 : okL aM0 aE0 aH0 = true := by decide +kernel
def aH1 : List (List Nat) := [[], [500], [], [], [501], [], [], [503], [], [], [506], [], [], [508], [], [], [], [], [], [], [], [511], [], [], [], [], [], [], [], [513], [], [], [], [515], []]
set_option maxRecDepth 1000000 in
theorem okM_1 : okL aM1 aE1 aH1 = true := by decide +kernel
def aH2 : List (List Nat) := [[], [], [503], [], [], [], [], [], []]
set_option maxRecDepth 1000000 in
theorem okM_2 : okL aM2 aE2 aH2 = true := by decide +kernel
def aH3 : List (List Nat) := [[], [274], [], [], [], [282], [], [], [], [284], [], [], [], [286], [], [], [], [288], [], [275, 277, 0], []]
set_option maxRecDepth 1000000 in
theorem okM_3 : okL aM3 aE3 aH3 = true := by decide +kernel
def aH4 : List (List Nat) := [[], [282], [], [279, 280], [], [284], [], [279, 280], [], [286], [], [279, 280], [], [288], [], [279, 280], []]
set_option maxRecDepth 1000000 in
theorem okM_4 : okL aM4 aE4 aH4 = true := by decide +kernel
def aH5 : List (List Nat) := [[], [275, 277, 0], [], [], [], [], [], [], [], [], [353], [], [], [350], [], [353], [], [], [], [], [], [], [], [], [], [845, 847, 24], [850, 728], [], [], [], [], [851, 853, 25], [], [], [282], [], [], [], [], [284], [], [], [], [], [286], [], [], [], [], [288], [], [], [], [101], [], [], [], [], [], [], [288], [], [], [850, 728], [], [], [], [], []]
set_option maxRecDepth 1000000 in
theorem okM_5 : okL aM5 aE5 aH5 = true := by decide +kernel
def aH6 : List (List Nat) := [[], [288], [], [], [], [], [], [], [], [], [], [], [], [], [], [288], [], [], [849, 721], [], [], [], [], []]
set_option maxRecDepth 1000000 in
theorem okM_6 : okL aM6 aE6 aH6 = true := by decide +kernel
def aH7 : List (List Nat) := [[], [], [], [], [], [], [], [], [], [288], [], [], [], [], [], [], [], [], [], []]
set_option maxRecDepth 1000000 in
theorem okM_7 : okL aM7 aE7 aH7 = true := by decide +kernel
def aH8 : List (List Nat) := [[], [93], [], [], [], [94], [], [], [], [97], [], [], [], [98], [], [], [], [99], [], [], [], [105], [], [], [], [107], [], [], [], [109], [], [], [], [112], []]
set_option maxRecDepth 1000000 in
theorem okM_8 : okL aM8 aE8 aH8 = true := by decide +kernel
def aH9 : List (List Nat) := [[], [], [], [113], [], [], [423], []]
set_option maxRecDepth 1000000 in
theorem okM_9 : okL aM9 aE9 aH9 = true := by decide +kernel
def aH10 : List (List Nat) := [[], [113], [], [], [], [], [], [], [], [94], [], [], [], [], [97], [], [], [], [], [98], [], [], [], [], [99], [], [], [], [], [105], [], [], [], [], [107], [], [], [], [], [], [113], [], [], [113], [], []]
set_option maxRecDepth 1000000 in
theorem okM_10 : okL aM10 aE10 aH10 = true := by decide +kernel
def aH11 : List (List Nat) := [[], [109], [], [], [], [], [], [116], [], [], [], [], [], [], [116], []]
set_option maxRecDepth 1000000 in
theorem okM_11 : okL aM11 aE11 aH11 = true := by decide +kernel
def aH12 : List (List Nat) := [[], [112], [], [], [], [], [], [], [], [], [], [], []]
set_option maxRecDepth 1000000 in
theorem okM_12 : okL aM12 aE12 aH12 = true := by decide +kernel
def aH13 : List (List Nat) := [[], [112], [], [], [], [], [], [], [], [], [], [112], [], [], [], [], [], [], [], [], []]
set_option maxRecDepth 1000000 in
theorem okM_13 : okL aM13 aE13 aH13 = true := by decide +kernel
def aH14 : List (List Nat) := [[], [], [], [97], [], [], [], [], [98], [], [], [], [], [107], [], [], [], [], [99], [], [], [], [], [105], [], [], []]
set_option maxRecDepth 1000000 in
theorem okM_14 : okL aM14 aE14 aH14 = true := by decide +kernel
def aH15 : List (List Nat) := [[], [149], [], [], [150], [152], [], [], [156], [], [], [159], [], [], [162], []]
set_option maxRecDepth 1000000 in
theorem okM_15 : okL aM15 aE15 aH15 = true := by decide +kernel
def aH16 : List (List Nat) := [[], [153], [], [], [], [], [153], [], [], [491, 492, 493], [], [], [], [], [], [], [509], [], [], [], [], [152], [], [153], [150, 496, 57], [], [], [153], [], [], [], [497, 498], [], [], [], [153], [], [], [153], []]
set_option maxRecDepth 1000000 in
theorem okM_16 : okL aM16 aE16 aH16 = true := by decide +kernel
def aH17 : List (List Nat) := [[], [], [], [153], [], [], [423], [], [], [152], [], [], [], [], []]
set_option maxRecDepth 1000000 in
theorem okM_17 : okL aM17 aE17 aH17 = true := by decide +kernel
def aH18 : List (List Nat) := [[], [181], [], [], [], [182], []]
set_option maxRecDepth 1000000 in
theorem okM_18 : okL aM18 aE18 aH18 = true := by decide +kernel
def aH19 : List (List Nat) := [[], [185], [], [], [], [], [95], [], [], [437, 438, 439], [], [], [], [185], [], [], [], [], [], [], [182], [], [], [], [], [], [441, 442, 443], [], [], [182], [], [], [182], [], [], [], [], [], [], [], [], [182], [], [], [], [], [], [185], [], [], [185], []]
set_option maxRecDepth 1000000 in
theorem okM_19 : okL aM19 aE19 aH19 = true := by decide +kernel
def aH20 : List (List Nat) := [[], [], [467, 468, 469], [], [], [], [], [], [], [], [185], [], [], [185], [], [], [], [], [185], [], [], [182], [], [], [182], [], [], [], [], [], [], [], []]
set_option maxRecDepth 1000000 in
theorem okM_20 : okL aM20 aE20 aH20 = true := by decide +kernel
def aH21 : List (List Nat) := [[], [], [185], [], [], [], [], [114], [], [], [110], [], [], [], [], [], [], [], [663, 434, 435], [], [], []]
set_option maxRecDepth 1000000 in
theorem okM_21 : okL aM21 aE21 aH21 = true := by decide +kernel
def aH22 : List (List Nat) := [[], [], [], [], [185], [], [], [182], [], [], [], [], [], [], [], [], [], []]
set_option maxRecDepth 1000000 in
theorem okM_22 : okL aM22 aE22 aH22 = true := by decide +kernel
def aH23 : List (List Nat) := [[], [225], [], [], [], [226], [], [], [], [227], [], [], [], [228], [], [], [], [229], [], [], [], [230], [], [], [], [231], [], [], [], [232], [], [], [], [233], []]
set_option maxRecDepth 1000000 in
theorem okM_23 : okL aM23 aE23 aH23 = true := by decide +kernel
def aH24 : List (List Nat) := [[], [], [186], [234], [], [], [], [], [], [], [235], [], [233], [], [234], [], [], [], [234], [], [], [], [], [], [], [183], [], [], [], [], [], [685, 686, 687], [], [], [226], [], [], [], [], [227], [], [], [100], [], [], [], [], [231], [], [], [], [], [341], [], [], [], [], [], [], [232], [], [], [], [], [345], [], [], [], [], [], [], [228], [], [], [108], [], [], [], [], [], [], [], [235], [], [], [], [], [], [233], [], [], [233], [], [], [], [], [], [228], [], [], [], [], [], [], [], [694, 696, 11], [], [], []]
set_option maxRecDepth 1000000 in
theorem okM_24 : okL aM24 aE24 aH24 = true := by decide +kernel
def aH25 : List (List Nat) := [[], [229], [], [], [], [], [230], [], [], [], [], [], [], [], [], [], [234], [], [], [], [226], [], [], [], [226], [], [], [698, 476, 477], [], [], [229], [], [], [], [], [], [], [], [], [], [230], [], [], [], [], [], []]
set_option maxRecDepth 1000000 in
theorem okM_25 : okL aM25 aE25 aH25 = true := by decide +kernel
def aH26 : List (List Nat) := [[], [], [160], [236], [], [], [163], [], [], [237], [], [154], [], [], [], [], [], [], [], [], [703, 492, 493], [], [], [], [], [703, 492, 493], [704, 706, 12], [], [], [], [], [154], [742, 743, 744], [], [], [], [746, 748, 19], [], [], [], [770, 772, 23], [357], [], [], [], [703, 492, 493], [], [712, 714, 13], [], [], []]
set_option maxRecDepth 1000000 in
theorem okM_26 : okL aM26 aE26 aH26 = true := by decide +kernel
def aH27 : List (List Nat) := [[], [], [], [233], [], [], [], [], [512], [], [], [], [708, 709, 710], [], []]
set_option maxRecDepth 1000000 in
theorem okM_27 : okL aM27 aE27 aH27 = true := by decide +kernel
def aH28 : List (List Nat) := [[], [], [], [], [], [], [], [504], [], [], [512], [], [], [234], [], [708, 709, 710], [], [], [], [], [], [234], [], [], [], [], [], [], [516], [], [], [], [], [712, 714, 13], [], [], [], [], [716, 718, 14], [], [], []]
set_option maxRecDepth 1000000 in
theorem okM_28 : okL aM28 aE28 aH28 = true := by decide +kernel
def aH29 : List (List Nat) := [[], [], [], [], [504], [], [], [516], [], [], [], [228], [], [], [], [512], [], [], [], [], [], [708, 709, 710], [], [], [720, 721], [], [], [], [227], [], [], [], [], [], [], [504], [], [], [514], [], [], [], [708, 709, 710], [], [], [], [], [], [], [], [723, 725, 15], [], [], [], [], [], [], [734, 736, 17], [720, 721], [], [], [512], [], [], [], [708, 709, 710], [], [], [], [], []]
set_option maxRecDepth 1000000 in
theorem okM_29 : okL aM29 aE29 aH29 = true := by decide +kernel
def aH30 : List (List Nat) := [[], [], [], [], [], [], [], [230], [], [], [], [], [727, 728], [], [], [512], [], [], [], [708, 709, 710], [], [], [], [], [], [], [], [], [], [], [516], [], [], [], [228], [], [], [], [], [720, 721], [], [], [], [], [730, 732, 16], [], [], [], [], [], [236], [], [], [], [], [], [], [227], [], [], [], [], [504], [], [], [], [], [], [], [734, 736, 17], [], [], [], [237], [], [], [], [720, 721], [], [], [], [], []]
set_option maxRecDepth 1000000 in
theorem okM_30 : okL aM30 aE30 aH30 = true := by decide +kernel
def aH31 : List (List Nat) := [[], [514], [], [], [], [708, 709, 710], [], [], [], [], [], [502], [], [738, 740, 18], [], [], [], [235], [], [], [], []]
set_option maxRecDepth 1000000 in
theorem okM_31 : okL aM31 aE31 aH31 = true := by decide +kernel
def aH32 : List (List Nat) := [[], [231], [], [], [], [], [], [232], [], [], [], [], [], [], [], []]
set_option maxRecDepth 1000000 in
theorem okM_32 : okL aM32 aE32 aH32 = true := by decide +kernel
def aH33 : List (List Nat) := [[], [], [], [], [229], [], [], [], [], [], [], [], [], [], [], []]
set_option maxRecDepth 1000000 in
theorem okM_33 : okL aM33 aE33 aH33 = true := by decide +kernel
def aH34 : List (List Nat) := [[], [], [], [], [238], [], [], [239], [], [], [], [], [234], [], [], [], [], [], [750, 752, 20], [], [], [], [], [], [], [226], [], [], [762, 763, 764], [], [], [], [], [], [], [754, 756, 21], [], [], [], [], [], [226], [], [], [], [], [766, 767, 768], [], [], [], [], [], [227], [], [], [], [238], [], [], [239], [], [], []]
set_option maxRecDepth 1000000 in
theorem okM_34 : okL aM34 aE34 aH34 = true := by decide +kernel
def aH35 : List (List Nat) := [[], [], [703, 492, 493], [], [], [], [], [], [], [], [], [], [239], [], [238], [723, 725, 15], [], [], [], [239], [], [730, 732, 16], [], [], [237], [], [], [], [], [], [], [], [], [], [], [], [754, 756, 21], [758, 760, 22], [], [], [], [], [], [], [], [], [], [154], [], [], [], [], [], [703, 492, 493], [], [], [758, 760, 22], [], [], [], [], [], [], []]
set_option maxRecDepth 1000000 in
theorem okM_35 : okL aM35 aE35 aH35 = true := by decide +kernel
def aH36 : List (List Nat) := [[], [], [], [], [227], [], [], [], [], [504], [], [], [], [], [], [734, 736, 17], [], [], [], [], [], []]
set_option maxRecDepth 1000000 in
theorem okM_36 : okL aM36 aE36 aH36 = true := by decide +kernel
def aH37 : List (List Nat) := [[], [], [239], [], [730, 732, 16], [], [], [238], [], [236], [], [], [], [238], []]
set_option maxRecDepth 1000000 in
theorem okM_37 : okL aM37 aE37 aH37 = true := by decide +kernel
def aH38 : List (List Nat) := [[], [], [], [], [], [], [234], [], [], [], [], [341], [], [226], [], [], [], [], [345], [], [226], [], [], [], [738, 740, 18], [], [], [], [], [], []]
set_option maxRecDepth 1000000 in
theorem okM_38 : okL aM38 aE38 aH38 = true := by decide +kernel
def aH39 : List (List Nat) := [[], [303], [], [], [], [309], [], [], [], [310], [], [], [], [311], [], [], [], [312], [], [304, 305, 306], []]
set_option maxRecDepth 1000000 in
theorem okM_39 : okL aM39 aE39 aH39 = true := by decide +kernel
def aH40 : List (List Nat) := [[], [309], [], [308, 280], [], [], [313], [], [], [314], []]
set_option maxRecDepth 1000000 in
theorem okM_40 : okL aM40 aE40 aH40 = true := by decide +kernel
def aH41 : List (List Nat) := [[], [309], [], [], [], [], [], [], [], []]
set_option maxRecDepth 1000000 in
theorem okM_41 : okL aM41 aE41 aH41 = true := by decide +kernel
def aH42 : List (List Nat) := [[], [309], [], [], [314], [], []]
set_option maxRecDepth 1000000 in
theorem okM_42 : okL aM42 aE42 aH42 = true := by decide +kernel
def aH43 : List (List Nat) := [[], [313], [], [], [], [311], [], [313], [], [], [], [312], [], [313], [], [], [], [], [313], [], [], [313], []]
set_option maxRecDepth 1000000 in
theorem okM_43 : okL aM43 aE43 aH43 = true := by decide +kernel
def aH44 : List (List Nat) := [[], [314], [], [], [], [310], [], [314], [], [313], [], [], [], [314], [], [], [314], []]
set_option maxRecDepth 1000000 in
theorem okM_44 : okL aM44 aE44 aH44 = true := by decide +kernel
def aH45 : List (List Nat) := [[], [309], [], [96], [], [], [], [], [], [309], [], [96], [], [], [], [], [], [], [], [], [], [], [314], [], [], [423], [], [], [], [], [], [], [], [], [], [], [], [], [], [310], [], [], [], [], [], [], [], [310], [], [], [], [], [], [311], [], [], [], [446, 447, 448], [], [], [], [311], [], [], [], [446, 447, 448], [], [], [], [], [], [312], [], [], [], [], [], [], [], [], [], [], [], [], [], [], [], [], [], [], [], [], [], [], [], [], [], []]
set_option maxRecDepth 1000000 in
theorem okM_45 : okL aM45 aE45 aH45 = true := by decide +kernel
def aH46 : List (List Nat) := [[], [198], [], [], [201], []]
set_option maxRecDepth 1000000 in
theorem okM_46 : okL aM46 aE46 aH46 = true := by decide +kernel
def aH47 : List (List Nat) := [[], [544, 305, 306], [], [], [203], [], [], [204], [], [], [199], [], [], [201], [], [], [], [], [], [], [], [545, 547, 2], [], [], [], [], [], [203], [], [], [], [], [], [], [], [626, 628, 6], [199], [], [199], [], [], [], [205], [201], [], [], [], [], [], []]
set_option maxRecDepth 1000000 in
theorem okM_47 : okL aM47 aE47 aH47 = true := by decide +kernel
def aH48 : List (List Nat) := [[], [], [549, 551, 3], [], [], [204], [205], [], [204], [], [81], [], [], [], [], [], [204], [553, 554, 555], [558, 559], [], [], [], [562, 564, 4], [], [], [], [204], [], [], [204], [], [], [205], [553, 554, 555], [], [], [], [], [], [], []]
set_option maxRecDepth 1000000 in
theorem okM_48 : okL aM48 aE48 aH48 = true := by decide +kernel
def aH49 : List (List Nat) := [[], [204], [], [81], [], [], [], [204], [553, 554, 555], [], [], [], [], [204], [553, 554, 555], [], [], [], [], [204], [], [], [204], [], []]
set_option maxRecDepth 1000000 in
theorem okM_49 : okL aM49 aE49 aH49 = true := by decide +kernel
def aH50 : List (List Nat) := [[], [204], [], [81], [], [], [], [204], [553, 554, 555], [558, 559], [], [], [], [204], [], [], [204], [], [], [], [205], [553, 554, 555], [], [], [204], [], [205], [], [], [], [], [], [], [], [], [], [], [], [], [], [], [], [], [], [567, 569, 5], [], [], [], [], [], [], [], [], [567, 569, 5], [], [], [], [], [], [], [], [], [567, 569, 5], [], [], [], [], [], [], [], [], [567, 569, 5], [], [], [], [], [], [], [], [], [567, 569, 5], [], [], [], [], [], [], [], [], [567, 569, 5], [], [], [], [], [], [], [567, 569, 5], [], [], [], [], [], [], [], [], [567, 569, 5], [], [], [], [], [], [], []]
set_option maxRecDepth 1000000 in
theorem okM_50 : okL aM50 aE50 aH50 = true := by decide +kernel
def aH51 : List (List Nat) := [[], [204], [], [205], [], [], [571, 572, 573], [], [], [], [], [], [], [], [571, 572, 573], [], [], [], [205], [], [], [553, 554, 555], [], [], [581, 582, 583], [], [], [], [], [], [], []]
set_option maxRecDepth 1000000 in
theorem okM_51 : okL aM51 aE51 aH51 = true := by decide +kernel
def aH52 : List (List Nat) := [[], [], [], [423], []]
set_option maxRecDepth 1000000 in
theorem okM_52 : okL aM52 aE52 aH52 = true := by decide +kernel
def aH53 : List (List Nat) := [[], [203], [], [], [], [], [], [], [630, 632, 7], [], [], [], [], [], [634, 636, 8], [], [], [], [], [], [], [], [], [206], [], [206], [], [], [], [], [], [], [630, 632, 7], [], [], [], [], [], [], [642, 644, 9], [], [], [], [], [], [634, 636, 8], [], [], [], [], [650, 652, 10], []]
set_option maxRecDepth 1000000 in
theorem okM_53 : okL aM53 aE53 aH53 = true := by decide +kernel
def aH54 : List (List Nat) := [[], [], [], [423], [], [], [], [], [], [654, 438, 439], [], [], [], [], [], [655, 656, 657], [], [], [630, 632, 7], []]
set_option maxRecDepth 1000000 in
theorem okM_54 : okL aM54 aE54 aH54 = true := by decide +kernel
def aH55 : List (List Nat) := [[], [], [], [423], [], [], [], [], [], [], [206], [646, 647, 648], [], [], [630, 632, 7], []]
set_option maxRecDepth 1000000 in
theorem okM_55 : okL aM55 aE55 aH55 = true := by decide +kernel
def aH56 : List (List Nat) := [[], [], [], [], [], [630, 632, 7], [], [], [], [], [], [], [], [638, 639, 640], [], [], [630, 632, 7], []]
set_option maxRecDepth 1000000 in
theorem okM_56 : okL aM56 aE56 aH56 = true := by decide +kernel
def aH57 : List (List Nat) := [[], [], [203], [], []]
set_option maxRecDepth 1000000 in
theorem okM_57 : okL aM57 aE57 aH57 = true := by decide +kernel
def aH58 : List (List Nat) := [[], [334], [], [], [], [340], [], [], [], [344], [], [], [], [348], [], [335, 337, 1], []]
set_option maxRecDepth 1000000 in
theorem okM_58 : okL aM58 aE58 aH58 = true := by decide +kernel
def aH59 : List (List Nat) := [[], [340], [], [339, 280], [], [344], [], [339, 280], [], [], [352], []]
set_option maxRecDepth 1000000 in
theorem okM_59 : okL aM59 aE59 aH59 = true := by decide +kernel
def aH60 : List (List Nat) := [[], [335, 337, 1], [], [], [355], [], [], [359], []]
set_option maxRecDepth 1000000 in
theorem okM_60 : okL aM60 aE60 aH60 = true := by decide +kernel
def aH61 : List (List Nat) := [[], [340], [], [], [], []]
set_option maxRecDepth 1000000 in
theorem okM_61 : okL aM61 aE61 aH61 = true := by decide +kernel
def aH62 : List (List Nat) := [[], [340], [], [], [], [], [344], [], [], [], [], [352], [], [], [], [348], [], [352], [], [], [], [], [352], [], [], [352], []]
set_option maxRecDepth 1000000 in
theorem okM_62 : okL aM62 aE62 aH62 = true := by decide +kernel
def aH63 : List (List Nat) := [[], [], [], [423], [], [], [340], [], [], [], [], [], [], [], []]
set_option maxRecDepth 1000000 in
theorem okM_63 : okL aM63 aE63 aH63 = true := by decide +kernel
def aH64 : List (List Nat) := [[], [], [689, 690, 691], [], [], [340], [], [], [], [], [], [], [], []]
set_option maxRecDepth 1000000 in
theorem okM_64 : okL aM64 aE64 aH64 = true := by decide +kernel
def aH65 : List (List Nat) := [[], [], [], [], [352], [], [], [348], [], [], [], [], [344], [], [], [], [], [340], [], [], [], [], [], [], [], [], [103], [], [], [], [], [], [423], [], [], [], [], [], [], []]
set_option maxRecDepth 1000000 in
theorem okM_65 : okL aM65 aE65 aH65 = true := by decide +kernel
def aH66 : List (List Nat) := [[], [], [], [], [], [], [352], [], [], [340], [], [348], [], [], [], [], [], [], [], [103], [], [348], [], [], [], [], [], [], [], [], []]
set_option maxRecDepth 1000000 in
theorem okM_66 : okL aM66 aE66 aH66 = true := by decide +kernel
def aH67 : List (List Nat) := [[], [], [], [], [], [], [351], [], [], [349], [], [], [], [], [], [], [808, 809], [], [], [], [], [], []]
set_option maxRecDepth 1000000 in
theorem okM_67 : okL aM67 aE67 aH67 = true := by decide +kernel
def aH68 : List (List Nat) := [[], [], [], [], [], [], [351], [], [], [349], [], [], [], [], [], [], [808, 809], [], [], [], [], [], [349], [], [], [], [], [], [], [], []]
set_option maxRecDepth 1000000 in
theorem okM_68 : okL aM68 aE68 aH68 = true := by decide +kernel
def aH69 : List (List Nat) := [[], [], [], [], [], [], [351], [], [], [349], [], [], [], [], [], [866, 806], [], [], [], [], [], []]
set_option maxRecDepth 1000000 in
theorem okM_69 : okL aM69 aE69 aH69 = true := by decide +kernel
