/-! ===== what holds of every method ===== -/
set_option maxRecDepth 100000 in
theorem aCw_0 : Cond.code aM0.1 aM0.2.1 aM0.2.2.1 aM0.2.2.2.1 ∈ lw_tbl := List.mem_of_getElem? (i := 71) rfl
set_option maxRecDepth 100000 in
theorem aCw_1 : Cond.code aM1.1 aM1.2.1 aM1.2.2.1 aM1.2.2.2.1 ∈ lw_tbl := List.mem_of_getElem? (i := 499) rfl
set_option maxRecDepth 100000 in
theorem aCw_2 : Cond.code aM2.1 aM2.2.1 aM2.2.2.1 aM2.2.2.2.1 ∈ lw_tbl := List.mem_of_getElem? (i := 711) rfl
set_option maxRecDepth 100000 in
theorem aCw_3 : Cond.code aM3.1 aM3.2.1 aM3.2.2.1 aM3.2.2.2.1 ∈ lw_tbl := List.mem_of_getElem? (i := 273) rfl
set_option maxRecDepth 100000 in
theorem aCw_4 : Cond.code aM4.1 aM4.2.1 aM4.2.2.1 aM4.2.2.2.1 ∈ lw_tbl := List.mem_of_getElem? (i := 278) rfl
set_option maxRecDepth 100000 in
theorem aCw_5 : Cond.code aM5.1 aM5.2.1 aM5.2.2.1 aM5.2.2.2.1 ∈ lw_tbl := List.mem_of_getElem? (i := 844) rfl
set_option maxRecDepth 100000 in
theorem aCw_6 : Cond.code aM6.1 aM6.2.1 aM6.2.2.1 aM6.2.2.2.1 ∈ lw_tbl := List.mem_of_getElem? (i := 848) rfl
set_option maxRecDepth 100000 in
theorem aCw_7 : Cond.code aM7.1 aM7.2.1 aM7.2.2.1 aM7.2.2.2.1 ∈ lw_tbl := List.mem_of_getElem? (i := 854) rfl
set_option maxRecDepth 100000 in
theorem aCw_8 : Cond.code aM8.1 aM8.2.1 aM8.2.2.1 aM8.2.2.2.1 ∈ lw_tbl := List.mem_of_getElem? (i := 92) rfl
set_option maxRecDepth 100000 in
theorem aCw_9 : Cond.code aM9.1 aM9.2.1 aM9.2.2.1 aM9.2.2.2.1 ∈ lw_tbl := List.mem_of_getElem? (i := 457) rfl
set_option maxRecDepth 100000 in
theorem aCw_10 : Cond.code aM10.1 aM10.2.1 aM10.2.2.1 aM10.2.2.2.1 ∈ lw_tbl := List.mem_of_getElem? (i := 432) rfl
set_option maxRecDepth 100000 in
theorem aCw_11 : Cond.code aM11.1 aM11.2.1 aM11.2.2.1 aM11.2.2.2.1 ∈ lw_tbl := List.mem_of_getElem? (i := 462) rfl
set_option maxRecDepth 100000 in
theorem aCw_12 : Cond.code aM12.1 aM12.2.1 aM12.2.2.1 aM12.2.2.2.1 ∈ lw_tbl := List.mem_of_getElem? (i := 478) rfl
set_option maxRecDepth 100000 in
theorem aCw_13 : Cond.code aM13.1 aM13.2.1 aM13.2.2.1 aM13.2.2.2.1 ∈ lw_tbl := List.mem_of_getElem? (i := 482) rfl
set_option maxRecDepth 100000 in
theorem aCw_14 : Cond.code aM14.1 aM14.2.1 aM14.2.2.1 aM14.2.2.2.1 ∈ lw_tbl := List.mem_of_getElem? (i := 449) rfl
set_option maxRecDepth 100000 in
theorem aCw_15 : Cond.code aM15.1 aM15.2.1 aM15.2.2.1 aM15.2.2.2.1 ∈ lw_tbl := List.mem_of_getElem? (i := 148) rfl
set_option maxRecDepth 100000 in
theorem aCw_16 : Cond.code aM16.1 aM16.2.1 aM16.2.2.1 aM16.2.2.2.1 ∈ lw_tbl := List.mem_of_getElem? (i := 490) rfl
set_option maxRecDepth 100000 in
theorem aCw_17 : Cond.code aM17.1 aM17.2.1 aM17.2.2.1 aM17.2.2.2.1 ∈ lw_tbl := List.mem_of_getElem? (i := 494) rfl
set_option maxRecDepth 100000 in
theorem aCw_18 : Cond.code aM18.1 aM18.2.1 aM18.2.2.1 aM18.2.2.2.1 ∈ lw_tbl := List.mem_of_getElem? (i := 180) rfl
set_option maxRecDepth 100000 in
theorem aCw_19 : Cond.code aM19.1 aM19.2.1 aM19.2.2.1 aM19.2.2.2.1 ∈ lw_tbl := List.mem_of_getElem? (i := 436) rfl
set_option maxRecDepth 100000 in
theorem aCw_20 : Cond.code aM20.1 aM20.2.1 aM20.2.2.1 aM20.2.2.2.1 ∈ lw_tbl := List.mem_of_getElem? (i := 466) rfl
set_option maxRecDepth 100000 in
theorem aCw_21 : Cond.code aM21.1 aM21.2.1 aM21.2.2.1 aM21.2.2.2.1 ∈ lw_tbl := List.mem_of_getElem? (i := 662) rfl
set_option maxRecDepth 100000 in
theorem aCw_22 : Cond.code aM22.1 aM22.2.1 aM22.2.2.1 aM22.2.2.2.1 ∈ lw_tbl := List.mem_of_getElem? (i := 470) rfl
set_option maxRecDepth 100000 in
theorem aCw_23 : Cond.code aM23.1 aM23.2.1 aM23.2.2.1 aM23.2.2.2.1 ∈ lw_tbl := List.mem_of_getElem? (i := 224) rfl
set_option maxRecDepth 100000 in
theorem aCw_24 : Cond.code aM24.1 aM24.2.1 aM24.2.2.1 aM24.2.2.2.1 ∈ lw_tbl := List.mem_of_getElem? (i := 684) rfl
set_option maxRecDepth 100000 in
theorem aCw_25 : Cond.code aM25.1 aM25.2.1 aM25.2.2.1 aM25.2.2.2.1 ∈ lw_tbl := List.mem_of_getElem? (i := 697) rfl
set_option maxRecDepth 100000 in
theorem aCw_26 : Cond.code aM26.1 aM26.2.1 aM26.2.2.1 aM26.2.2.2.1 ∈ lw_tbl := List.mem_of_getElem? (i := 702) rfl
set_option maxRecDepth 100000 in
theorem aCw_27 : Cond.code aM27.1 aM27.2.1 aM27.2.2.1 aM27.2.2.2.1 ∈ lw_tbl := List.mem_of_getElem? (i := 715) rfl
set_option maxRecDepth 100000 in
theorem aCw_28 : Cond.code aM28.1 aM28.2.1 aM28.2.2.1 aM28.2.2.2.1 ∈ lw_tbl := List.mem_of_getElem? (i := 707) rfl
set_option maxRecDepth 100000 in
theorem aCw_29 : Cond.code aM29.1 aM29.2.1 aM29.2.2.1 aM29.2.2.2.1 ∈ lw_tbl := List.mem_of_getElem? (i := 719) rfl
set_option maxRecDepth 100000 in
theorem aCw_30 : Cond.code aM30.1 aM30.2.1 aM30.2.2.1 aM30.2.2.2.1 ∈ lw_tbl := List.mem_of_getElem? (i := 726) rfl
set_option maxRecDepth 100000 in
theorem aCw_31 : Cond.code aM31.1 aM31.2.1 aM31.2.2.1 aM31.2.2.2.1 ∈ lw_tbl := List.mem_of_getElem? (i := 737) rfl
set_option maxRecDepth 100000 in
theorem aCw_32 : Cond.code aM32.1 aM32.2.1 aM32.2.2.1 aM32.2.2.2.1 ∈ lw_tbl := List.mem_of_getElem? (i := 741) rfl
set_option maxRecDepth 100000 in
theorem aCw_33 : Cond.code aM33.1 aM33.2.1 aM33.2.2.1 aM33.2.2.2.1 ∈ lw_tbl := List.mem_of_getElem? (i := 733) rfl
set_option maxRecDepth 100000 in
theorem aCw_34 : Cond.code aM34.1 aM34.2.1 aM34.2.2.1 aM34.2.2.2.1 ∈ lw_tbl := List.mem_of_getElem? (i := 749) rfl
set_option maxRecDepth 100000 in
theorem aCw_35 : Cond.code aM35.1 aM35.2.1 aM35.2.2.1 aM35.2.2.2.1 ∈ lw_tbl := List.mem_of_getElem? (i := 753) rfl
set_option maxRecDepth 100000 in
theorem aCw_36 : Cond.code aM36.1 aM36.2.1 aM36.2.2.1 aM36.2.2.2.1 ∈ lw_tbl := List.mem_of_getElem? (i := 761) rfl
set_option maxRecDepth 100000 in
theorem aCw_37 : Cond.code aM37.1 aM37.2.1 aM37.2.2.1 aM37.2.2.2.1 ∈ lw_tbl := List.mem_of_getElem? (i := 757) rfl
set_option maxRecDepth 100000 in
theorem aCw_38 : Cond.code aM38.1 aM38.2.1 aM38.2.2.1 aM38.2.2.2.1 ∈ lw_tbl := List.mem_of_getElem? (i := 773) rfl
set_option maxRecDepth 100000 in
theorem aCw_39 : Cond.code aM39.1 aM39.2.1 aM39.2.2.1 aM39.2.2.2.1 ∈ lw_tbl := List.mem_of_getElem? (i := 302) rfl
set_option maxRecDepth 100000 in
theorem aCw_40 : Cond.code aM40.1 aM40.2.1 aM40.2.2.1 aM40.2.2.2.1 ∈ lw_tbl := List.mem_of_getElem? (i := 307) rfl
set_option maxRecDepth 100000 in
theorem aCw_41 : Cond.code aM41.1 aM41.2.1 aM41.2.2.1 aM41.2.2.2.1 ∈ lw_tbl := List.mem_of_getElem? (i := 440) rfl
set_option maxRecDepth 100000 in
theorem aCw_42 : Cond.code aM42.1 aM42.2.1 aM42.2.2.1 aM42.2.2.2.1 ∈ lw_tbl := List.mem_of_getElem? (i := 658) rfl
set_option maxRecDepth 100000 in
theorem aCw_43 : Cond.code aM43.1 aM43.2.1 aM43.2.2.1 aM43.2.2.2.1 ∈ lw_tbl := List.mem_of_getElem? (i := 649) rfl
set_option maxRecDepth 100000 in
theorem aCw_44 : Cond.code aM44.1 aM44.2.1 aM44.2.2.1 aM44.2.2.2.1 ∈ lw_tbl := List.mem_of_getElem? (i := 641) rfl
set_option maxRecDepth 100000 in
theorem aCw_45 : Cond.code aM45.1 aM45.2.1 aM45.2.2.1 aM45.2.2.2.1 ∈ lw_tbl := List.mem_of_getElem? (i := 444) rfl
set_option maxRecDepth 100000 in
theorem aCw_46 : Cond.code aM46.1 aM46.2.1 aM46.2.2.1 aM46.2.2.2.1 ∈ lw_tbl := List.mem_of_getElem? (i := 197) rfl
set_option maxRecDepth 100000 in
theorem aCw_47 : Cond.code aM47.1 aM47.2.1 aM47.2.2.1 aM47.2.2.2.1 ∈ lw_tbl := List.mem_of_getElem? (i := 543) rfl
set_option maxRecDepth 100000 in
theorem aCw_48 : Cond.code aM48.1 aM48.2.1 aM48.2.2.1 aM48.2.2.2.1 ∈ lw_tbl := List.mem_of_getElem? (i := 548) rfl
set_option maxRecDepth 100000 in
theorem aCw_49 : Cond.code aM49.1 aM49.2.1 aM49.2.2.1 aM49.2.2.2.1 ∈ lw_tbl := List.mem_of_getElem? (i := 552) rfl
set_option maxRecDepth 100000 in
theorem aCw_50 : Cond.code aM50.1 aM50.2.1 aM50.2.2.1 aM50.2.2.2.1 ∈ lw_tbl := List.mem_of_getElem? (i := 565) rfl
set_option maxRecDepth 100000 in
theorem aCw_51 : Cond.code aM51.1 aM51.2.1 aM51.2.2.1 aM51.2.2.2.1 ∈ lw_tbl := List.mem_of_getElem? (i := 570) rfl
set_option maxRecDepth 100000 in
theorem aCw_52 : Cond.code aM52.1 aM52.2.1 aM52.2.2.1 aM52.2.2.2.1 ∈ lw_tbl := List.mem_of_getElem? (i := 560) rfl
set_option maxRecDepth 100000 in
theorem aCw_53 : Cond.code aM53.1 aM53.2.1 aM53.2.2.1 aM53.2.2.2.1 ∈ lw_tbl := List.mem_of_getElem? (i := 629) rfl
set_option maxRecDepth 100000 in
theorem aCw_54 : Cond.code aM54.1 aM54.2.1 aM54.2.2.1 aM54.2.2.2.1 ∈ lw_tbl := List.mem_of_getElem? (i := 653) rfl
set_option maxRecDepth 100000 in
theorem aCw_55 : Cond.code aM55.1 aM55.2.1 aM55.2.2.1 aM55.2.2.2.1 ∈ lw_tbl := List.mem_of_getElem? (i := 645) rfl
set_option maxRecDepth 100000 in
theorem aCw_56 : Cond.code aM56.1 aM56.2.1 aM56.2.2.1 aM56.2.2.2.1 ∈ lw_tbl := List.mem_of_getElem? (i := 637) rfl
set_option maxRecDepth 100000 in
theorem aCw_57 : Cond.code aM57.1 aM57.2.1 aM57.2.2.1 aM57.2.2.2.1 ∈ lw_tbl := List.mem_of_getElem? (i := 633) rfl
set_option maxRecDepth 100000 in
theorem aCw_58 : Cond.code aM58.1 aM58.2.1 aM58.2.2.1 aM58.2.2.2.1 ∈ lw_tbl := List.mem_of_getElem? (i := 333) rfl
set_option maxRecDepth 100000 in
theorem aCw_59 : Cond.code aM59.1 aM59.2.1 aM59.2.2.1 aM59.2.2.2.1 ∈ lw_tbl := List.mem_of_getElem? (i := 338) rfl
set_option maxRecDepth 100000 in
theorem aCw_60 : Cond.code aM60.1 aM60.2.1 aM60.2.2.1 aM60.2.2.2.1 ∈ lw_tbl := List.mem_of_getElem? (i := 745) rfl
set_option maxRecDepth 100000 in
theorem aCw_61 : Cond.code aM61.1 aM61.2.1 aM61.2.2.1 aM61.2.2.2.1 ∈ lw_tbl := List.mem_of_getElem? (i := 765) rfl
set_option maxRecDepth 100000 in
theorem aCw_62 : Cond.code aM62.1 aM62.2.1 aM62.2.2.1 aM62.2.2.2.1 ∈ lw_tbl := List.mem_of_getElem? (i := 769) rfl
set_option maxRecDepth 100000 in
theorem aCw_63 : Cond.code aM63.1 aM63.2.1 aM63.2.2.1 aM63.2.2.2.1 ∈ lw_tbl := List.mem_of_getElem? (i := 692) rfl
set_option maxRecDepth 100000 in
theorem aCw_64 : Cond.code aM64.1 aM64.2.1 aM64.2.2.1 aM64.2.2.2.1 ∈ lw_tbl := List.mem_of_getElem? (i := 688) rfl
set_option maxRecDepth 100000 in
theorem aCw_65 : Cond.code aM65.1 aM65.2.1 aM65.2.2.1 aM65.2.2.2.1 ∈ lw_tbl := List.mem_of_getElem? (i := 791) rfl
set_option maxRecDepth 100000 in
theorem aCw_66 : Cond.code aM66.1 aM66.2.1 aM66.2.2.1 aM66.2.2.2.1 ∈ lw_tbl := List.mem_of_getElem? (i := 800) rfl
set_option maxRecDepth 100000 in
theorem aCw_67 : Cond.code aM67.1 aM67.2.1 aM67.2.2.1 aM67.2.2.2.1 ∈ lw_tbl := List.mem_of_getElem? (i := 807) rfl
set_option maxRecDepth 100000 in
theorem aCw_68 : Cond.code aM68.1 aM68.2.1 aM68.2.2.1 aM68.2.2.2.1 ∈ lw_tbl := List.mem_of_getElem? (i := 828) rfl
set_option maxRecDepth 100000 in
theorem aCw_69 : Cond.code aM69.1 aM69.2.1 aM69.2.2.1 aM69.2.2.2.1 ∈ lw_tbl := List.mem_of_getElem? (i := 865) rfl
set_option maxRecDepth 100000 in
theorem aCw_70 : Cond.code aM70.1 aM70.2.1 aM70.2.2.1 aM70.2.2.2.1 ∈ lw_tbl := List.mem_of_getElem? (i := 835) rfl
set_option maxRecDepth 100000 in
theorem aCw_71 : Cond.code aM71.1 aM71.2.1 aM71.2.2.1 aM71.2.2.2.1 ∈ lw_tbl := List.mem_of_getElem? (i := 810) rfl
set_option maxRecDepth 100000 in
theorem aCw_72 : Cond.code aM72.1 aM72.2.1 aM72.2.2.1 aM72.2.2.2.1 ∈ lw_tbl := List.mem_of_getElem? (i := 813) rfl
set_option maxRecDepth 100000 in
theorem aCw_73 : Cond.code aM73.1 aM73.2.1 aM73.2.2.1 aM73.2.2.2.1 ∈ lw_tbl := List.mem_of_getElem? (i := 817) rfl
set_option maxRecDepth 100000 in
theorem aCw_74 : Cond.code aM74.1 aM74.2.1 aM74.2.2.1 aM74.2.2.2.1 ∈ lw_tbl := List.mem_of_getElem? (i := 76) rfl
set_option maxRecDepth 100000 in
theorem aCw_75 : Cond.code aM75.1 aM75.2.1 aM75.2.2.1 aM75.2.2.2.1 ∈ lw_tbl := List.mem_of_getElem? (i := 417) rfl
set_option maxRecDepth 100000 in
theorem aCw_76 : Cond.code aM76.1 aM76.2.1 aM76.2.2.1 aM76.2.2.2.1 ∈ lw_tbl := List.mem_of_getElem? (i := 556) rfl
set_option maxRecDepth 100000 in
theorem aCw_77 : Cond.code aM77.1 aM77.2.1 aM77.2.2.1 aM77.2.2.2.1 ∈ lw_tbl := List.mem_of_getElem? (i := 68) rfl
set_option maxRecDepth 100000 in
theorem aCw_78 : Cond.code aM78.1 aM78.2.1 aM78.2.2.1 aM78.2.2.2.1 ∈ lw_tbl := List.mem_of_getElem? (i := 413) rfl
set_option maxRecDepth 100000 in
theorem aCw_79 : Cond.code aM79.1 aM79.2.1 aM79.2.2.1 aM79.2.2.2.1 ∈ lw_tbl := List.mem_of_getElem? (i := 421) rfl
set_option maxRecDepth 100000 in
theorem aCw_80 : Cond.code aM80.1 aM80.2.1 aM80.2.2.1 aM80.2.2.2.1 ∈ lw_tbl := List.mem_of_getElem? (i := 428) rfl
set_option maxRecDepth 100000 in
theorem aCw_81 : Cond.code aM81.1 aM81.2.1 aM81.2.2.1 aM81.2.2.2.1 ∈ lw_tbl := List.mem_of_getElem? (i := 453) rfl
set_option maxRecDepth 100000 in
theorem aCw_82 : Cond.code aM82.1 aM82.2.1 aM82.2.2.1 aM82.2.2.2.1 ∈ lw_tbl := List.mem_of_getElem? (i := 474) rfl
set_option maxRecDepth 100000 in
theorem aCw_83 : Cond.code aM83.1 aM83.2.1 aM83.2.2.1 aM83.2.2.2.1 ∈ lw_tbl := List.mem_of_getElem? (i := 486) rfl
set_option maxRecDepth 100000 in
theorem aCw_84 : Cond.code aM84.1 aM84.2.1 aM84.2.2.1 aM84.2.2.2.1 ∈ lw_tbl := List.mem_of_getElem? (i := 535) rfl
set_option maxRecDepth 100000 in
theorem aCw_85 : Cond.code aM85.1 aM85.2.1 aM85.2.2.1 aM85.2.2.2.1 ∈ lw_tbl := List.mem_of_getElem? (i := 539) rfl
set_option maxRecDepth 100000 in
theorem aCw_86 : Cond.code aM86.1 aM86.2.1 aM86.2.2.1 aM86.2.2.2.1 ∈ lw_tbl := List.mem_of_getElem? (i := 667) rfl
set_option maxRecDepth 100000 in
theorem aCw_87 : Cond.code aM87.1 aM87.2.1 aM87.2.2.1 aM87.2.2.2.1 ∈ lw_tbl := List.mem_of_getElem? (i := 671) rfl
set_option maxRecDepth 100000 in
theorem aCw_88 : Cond.code aM88.1 aM88.2.1 aM88.2.2.1 aM88.2.2.2.1 ∈ lw_tbl := List.mem_of_getElem? (i := 676) rfl
set_option maxRecDepth 100000 in
theorem aCw_89 : Cond.code aM89.1 aM89.2.1 aM89.2.2.1 aM89.2.2.2.1 ∈ lw_tbl := List.mem_of_getElem? (i := 680) rfl
set_option maxRecDepth 100000 in
theorem aCw_90 : Cond.code aM90.1 aM90.2.1 aM90.2.2.1 aM90.2.2.2.1 ∈ lw_tbl := List.mem_of_getElem? (i := 777) rfl
set_option maxRecDepth 100000 in
theorem aCw_91 : Cond.code aM91.1 aM91.2.1 aM91.2.2.1 aM91.2.2.2.1 ∈ lw_tbl := List.mem_of_getElem? (i := 781) rfl
set_option maxRecDepth 100000 in
theorem aCw_92 : Cond.code aM92.1 aM92.2.1 aM92.2.2.1 aM92.2.2.2.1 ∈ lw_tbl := List.mem_of_getElem? (i := 787) rfl
set_option maxRecDepth 100000 in
theorem aCw_93 : Cond.code aM93.1 aM93.2.1 aM93.2.2.1 aM93.2.2.2.1 ∈ lw_tbl := List.mem_of_getElem? (i := 795) rfl
set_option maxRecDepth 100000 in
theorem aCw_94 : Cond.code aM94.1 aM94.2.1 aM94.2.2.1 aM94.2.2.2.1 ∈ lw_tbl := List.mem_of_getElem? (i := 804) rfl
set_option maxRecDepth 100000 in
theorem aCw_95 : Cond.code aM95.1 aM95.2.1 aM95.2.2.1 aM95.2.2.2.1 ∈ lw_tbl := List.mem_of_getElem? (i := 825) rfl
set_option maxRecDepth 100000 in
theorem aCw_96 : Cond.code aM96.1 aM96.2.1 aM96.2.2.1 aM96.2.2.2.1 ∈ lw_tbl := List.mem_of_getElem? (i := 832) rfl
set_option maxRecDepth 100000 in
theorem aCw_97 : Cond.code aM97.1 aM97.2.1 aM97.2.2.1 aM97.2.2.2.1 ∈ lw_tbl := List.mem_of_getElem? (i := 840) rfl
set_option maxRecDepth 100000 in
theorem aCw_98 : Cond.code aM98.1 aM98.2.1 aM98.2.2.1 aM98.2.2.2.1 ∈ lw_tbl := List.mem_of_getElem? (i := 858) rfl
set_option maxRecDepth 100000 in
theorem aCw_99 : Cond.code aM99.1 aM99.2.1 aM99.2.2.1 aM99.2.2.2.1 ∈ lw_tbl := List.mem_of_getElem? (i := 862) rfl
set_option maxRecDepth 100000 in
theorem aCw_100 : Cond.code aM100.1 aM100.2.1 aM100.2.2.1 aM100.2.2.2.1 ∈ lw_tbl := List.mem_of_getElem? (i := 424) rfl
set_option maxRecDepth 100000 in
theorem aCw_101 : Cond.code aM101.1 aM101.2.1 aM101.2.2.1 aM101.2.2.2.1 ∈ lw_tbl := List.mem_of_getElem? (i := 886) rfl
set_option maxRecDepth 100000 in
theorem aCw_102 : Cond.code aM102.1 aM102.2.1 aM102.2.2.1 aM102.2.2.2.1 ∈ lw_tbl := List.mem_of_getElem? (i := 875) rfl
set_option maxRecDepth 100000 in
theorem aCw_103 : Cond.code aM103.1 aM103.2.1 aM103.2.2.1 aM103.2.2.2.1 ∈ lw_tbl := List.mem_of_getElem? (i := 870) rfl
set_option maxRecDepth 100000 in
theorem aCw_104 : Cond.code aM104.1 aM104.2.1 aM104.2.2.1 aM104.2.2.2.1 ∈ lw_tbl := List.mem_of_getElem? (i := 879) rfl
set_option maxRecDepth 100000 in
theorem aCw_105 : Cond.code aM105.1 aM105.2.1 aM105.2.2.1 aM105.2.2.2.1 ∈ lw_tbl := List.mem_of_getElem? (i := 883) rfl
set_option maxRecDepth 100000 in
theorem aCw_106 : Cond.code aM106.1 aM106.2.1 aM106.2.2.1 aM106.2.2.2.1 ∈ lw_tbl := List.mem_of_getElem? (i := 894) rfl
set_option maxRecDepth 100000 in
theorem aCw_107 : Cond.code aM107.1 aM107.2.1 aM107.2.2.1 aM107.2.2.2.1 ∈ lw_tbl := List.mem_of_getElem? (i := 890) rfl
set_option maxRecDepth 100000 in
theorem aCw_108 : Cond.code aM108.1 aM108.2.1 aM108.2.2.1 aM108.2.2.2.1 ∈ lw_tbl := List.mem_of_getElem? (i := 898) rfl
set_option maxRecDepth 100000 in
theorem aCw_109 : Cond.code aM109.1 aM109.2.1 aM109.2.2.1 aM109.2.2.2.1 ∈ lw_tbl := List.mem_of_getElem? (i := 902) rfl
set_option maxRecDepth 100000 in
theorem aCw_110 : Cond.code aM110.1 aM110.2.1 aM110.2.2.1 aM110.2.2.2.1 ∈ lw_tbl := List.mem_of_getElem? (i := 906) rfl
set_option maxRecDepth 100000 in
theorem aCw_111 : Cond.code aM111.1 aM111.2.1 aM111.2.2.1 aM111.2.2.2.1 ∈ lw_tbl := List.mem_of_getElem? (i := 910) rfl
set_option maxRecDepth 100000 in
theorem aCw_112 : Cond.code aM112.1 aM112.2.1 aM112.2.2.1 aM112.2.2.2.1 ∈ lw_tbl := List.mem_of_getElem? (i := 1066) rfl
set_option maxRecDepth 100000 in
theorem aCw_113 : Cond.code aM113.1 aM113.2.1 aM113.2.2.1 aM113.2.2.2.1 ∈ lw_tbl := List.mem_of_getElem? (i := 1062) rfl
set_option maxRecDepth 100000 in
theorem aCw_114 : Cond.code aM114.1 aM114.2.1 aM114.2.2.1 aM114.2.2.2.1 ∈ lw_tbl := List.mem_of_getElem? (i := 1047) rfl
set_option maxRecDepth 100000 in
theorem aCw_115 : Cond.code aM115.1 aM115.2.1 aM115.2.2.1 aM115.2.2.2.1 ∈ lw_tbl := List.mem_of_getElem? (i := 1059) rfl
set_option maxRecDepth 100000 in
theorem aCw_116 : Cond.code aM116.1 aM116.2.1 aM116.2.2.1 aM116.2.2.2.1 ∈ lw_tbl := List.mem_of_getElem? (i := 1071) rfl
set_option maxRecDepth 100000 in
theorem aCw_117 : Cond.code aM117.1 aM117.2.1 aM117.2.2.1 aM117.2.2.2.1 ∈ lw_tbl := List.mem_of_getElem? (i := 1055) rfl
set_option maxRecDepth 100000 in
theorem aCw_118 : Cond.code aM118.1 aM118.2.1 aM118.2.2.1 aM118.2.2.2.1 ∈ lw_tbl := List.mem_of_getElem? (i := 1076) rfl
set_option maxRecDepth 100000 in
theorem aCw_119 : Cond.code aM119.1 aM119.2.1 aM119.2.2.1 aM119.2.2.2.1 ∈ lw_tbl := List.mem_of_getElem? (i := 1051) rfl
set_option maxRecDepth 100000 in
theorem aCw_120 : Cond.code aM120.1 aM120.2.1 aM120.2.2.1 aM120.2.2.2.1 ∈ lw_tbl := List.mem_of_getElem? (i := 1043) rfl
set_option maxRecDepth 100000 in
theorem aCw_121 : Cond.code aM121.1 aM121.2.1 aM121.2.2.1 aM121.2.2.2.1 ∈ lw_tbl := List.mem_of_getElem? (i := 1087) rfl
set_option maxRecDepth 100000 in
theorem aCw_122 : Cond.code aM122.1 aM122.2.1 aM122.2.2.1 aM122.2.2.2.1 ∈ lw_tbl := List.mem_of_getElem? (i := 1095) rfl
set_option maxRecDepth 100000 in
theorem aCw_123 : Cond.code aM123.1 aM123.2.1 aM123.2.2.1 aM123.2.2.2.1 ∈ lw_tbl := List.mem_of_getElem? (i := 1103) rfl
set_option maxRecDepth 100000 in
theorem aCw_124 : Cond.code aM124.1 aM124.2.1 aM124.2.2.1 aM124.2.2.2.1 ∈ lw_tbl := List.mem_of_getElem? (i := 1099) rfl
set_option maxRecDepth 100000 in
theorem aCw_125 : Cond.code aM125.1 aM125.2.1 aM125.2.2.1 aM125.2.2.2.1 ∈ lw_tbl := List.mem_of_getElem? (i := 1091) rfl
set_option maxRecDepth 100000 in
theorem aCw_126 : Cond.code aM126.1 aM126.2.1 aM126.2.2.1 aM126.2.2.2.1 ∈ lw_tbl := List.mem_of_getElem? (i := 1107) rfl
set_option maxRecDepth 100000 in
theorem aCw_127 : Cond.code aM127.1 aM127.2.1 aM127.2.2.1 aM127.2.2.2.1 ∈ lw_tbl := List.mem_of_getElem? (i := 1123) rfl
set_option maxRecDepth 100000 in
theorem aCw_128 : Cond.code aM128.1 aM128.2.1 aM128.2.2.1 aM128.2.2.2.1 ∈ lw_tbl := List.mem_of_getElem? (i := 1120) rfl
set_option maxRecDepth 100000 in
theorem aCw_129 : Cond.code aM129.1 aM129.2.1 aM129.2.2.1 aM129.2.2.2.1 ∈ lw_tbl := List.mem_of_getElem? (i := 1131) rfl
set_option maxRecDepth 100000 in
theorem aCw_130 : Cond.code aM130.1 aM130.2.1 aM130.2.2.1 aM130.2.2.2.1 ∈ lw_tbl := List.mem_of_getElem? (i := 1127) rfl
set_option maxRecDepth 100000 in
theorem aCw_131 : Cond.code aM131.1 aM131.2.1 aM131.2.2.1 aM131.2.2.2.1 ∈ lw_tbl := List.mem_of_getElem? (i := 1116) rfl
set_option maxRecDepth 100000 in
theorem aCw_132 : Cond.code aM132.1 aM132.2.1 aM132.2.2.1 aM132.2.2.2.1 ∈ lw_tbl := List.mem_of_getElem? (i := 1111) rfl
set_option maxRecDepth 100000 in
theorem aCw_133 : Cond.code aM133.1 aM133.2.1 aM133.2.2.1 aM133.2.2.2.1 ∈ lw_tbl := List.mem_of_getElem? (i := 1135) rfl
set_option maxRecDepth 100000 in
theorem aCw_134 : Cond.code aM134.1 aM134.2.1 aM134.2.2.1 aM134.2.2.2.1 ∈ lw_tbl := List.mem_of_getElem? (i := 1147) rfl
set_option maxRecDepth 100000 in
theorem aCw_135 : Cond.code aM135.1 aM135.2.1 aM135.2.2.1 aM135.2.2.2.1 ∈ lw_tbl := List.mem_of_getElem? (i := 1139) rfl
set_option maxRecDepth 100000 in
theorem aCw_136 : Cond.code aM136.1 aM136.2.1 aM136.2.2.1 aM136.2.2.2.1 ∈ lw_tbl := List.mem_of_getElem? (i := 1143) rfl
set_option maxRecDepth 100000 in
theorem aCw_137 : Cond.code aM137.1 aM137.2.1 aM137.2.2.1 aM137.2.2.2.1 ∈ lw_tbl := List.mem_of_getElem? (i := 1151) rfl
set_option maxRecDepth 100000 in
theorem aCw_138 : Cond.code aM138.1 aM138.2.1 aM138.2.2.1 aM138.2.2.2.1 ∈ lw_tbl := List.mem_of_getElem? (i := 1159) rfl
set_option maxRecDepth 100000 in
theorem aCw_139 : Cond.code aM139.1 aM139.2.1 aM139.2.2.1 aM139.2.2.2.1 ∈ lw_tbl := List.mem_of_getElem? (i := 1155) rfl
set_option maxRecDepth 100000 in
theorem aCw_140 : Cond.code aM140.1 aM140.2.1 aM140.2.2.1 aM140.2.2.2.1 ∈ lw_tbl := List.mem_of_getElem? (i := 1163) rfl
set_option maxRecDepth 100000 in
theorem aCw_141 : Cond.code aM141.1 aM141.2.1 aM141.2.2.1 aM141.2.2.2.1 ∈ lw_tbl := List.mem_of_getElem? (i := 1167) rfl
set_option maxRecDepth 100000 in
theorem aCw_142 : Cond.code aM142.1 aM142.2.1 aM142.2.2.1 aM142.2.2.2.1 ∈ lw_tbl := List.mem_of_getElem? (i := 1171) rfl
set_option maxRecDepth 100000 in
theorem aCw_143 : Cond.code aM143.1 aM143.2.1 aM143.2.2.1 aM143.2.2.2.1 ∈ lw_tbl := List.mem_of_getElem? (i := 1175) rfl
set_option maxRecDepth 100000 in
theorem aCw_144 : Cond.code aM144.1 aM144.2.1 aM144.2.2.1 aM144.2.2.2.1 ∈ lw_tbl := List.mem_of_getElem? (i := 1179) rfl
set_option maxRecDepth 100000 in
theorem aCw_145 : Cond.code aM145.1 aM145.2.1 aM145.2.2.1 aM145.2.2.2.1 ∈ lw_tbl := List.mem_of_getElem? (i := 821) rfl
set_option maxRecDepth 100000 in
theorem aCw_146 : Cond.code aM146.1 aM146.2.1 aM146.2.2.1 aM146.2.2.2.1 ∈ lw_tbl := List.mem_of_getElem? (i := 729) rfl
set_option maxRecDepth 100000 in
theorem aCw_147 : Cond.code aM147.1 aM147.2.1 aM147.2.2.1 aM147.2.2.2.1 ∈ lw_tbl := List.mem_of_getElem? (i := 722) rfl
set_option maxRecDepth 100000 in
theorem aCw_148 : Cond.code aM148.1 aM148.2.1 aM148.2.2.1 aM148.2.2.2.1 ∈ lw_tbl := List.mem_of_getElem? (i := 574) rfl
set_option maxRecDepth 100000 in
theorem aCw_149 : Cond.code aM149.1 aM149.2.1 aM149.2.2.1 aM149.2.2.2.1 ∈ lw_tbl := List.mem_of_getElem? (i := 584) rfl
set_option maxRecDepth 100000 in
theorem aCw_150 : Cond.code aM150.1 aM150.2.1 aM150.2.2.1 aM150.2.2.2.1 ∈ lw_tbl := List.mem_of_getElem? (i := 578) rfl
set_option maxRecDepth 100000 in
theorem aCw_151 : Cond.code aM151.1 aM151.2.1 aM151.2.2.1 aM151.2.2.2.1 ∈ lw_tbl := List.mem_of_getElem? (i := 588) rfl
set_option maxRecDepth 100000 in
theorem aCw_152 : Cond.code aM152.1 aM152.2.1 aM152.2.2.1 aM152.2.2.2.1 ∈ lw_tbl := List.mem_of_getElem? (i := 594) rfl
set_option maxRecDepth 100000 in
theorem aCw_153 : Cond.code aM153.1 aM153.2.1 aM153.2.2.1 aM153.2.2.2.1 ∈ lw_tbl := List.mem_of_getElem? (i := 591) rfl
set_option maxRecDepth 100000 in
theorem aCw_154 : Cond.code aM154.1 aM154.2.1 aM154.2.2.1 aM154.2.2.2.1 ∈ lw_tbl := List.mem_of_getElem? (i := 281) rfl
set_option maxRecDepth 100000 in
theorem aCw_155 : Cond.code aM155.1 aM155.2.1 aM155.2.2.1 aM155.2.2.2.1 ∈ lw_tbl := List.mem_of_getElem? (i := 599) rfl
def aMs_0 : List AM := [aM0, aM1, aM2, aM3, aM4, aM5, aM6, aM7, aM8, aM9, aM10, aM11, aM12, aM13, aM14, aM15, aM16, aM17, aM18, aM19, aM20, aM21, aM22, aM23, aM24, aM25, aM26, aM27, aM28, aM29, aM30, aM31, aM32, aM33, aM34, aM35, aM36, aM37, aM38, aM39]
set_option maxRecDepth 100000 in
theorem aMs_0_c : ∀ m ∈ aMs_0, Cond.code m.1 m.2.1 m.2.2.1 m.2.2.2.1 ∈ lw_tbl := List.forall_mem_cons.mpr ⟨aCw_0, List.forall_mem_cons.mpr ⟨aCw_1, List.forall_mem_cons.mpr ⟨aCw_2, List.forall_mem_cons.mpr ⟨aCw_3, List.forall_mem_cons.mpr ⟨aCw_4, List.forall_mem_cons.mpr ⟨aCw_5, List.forall_mem_cons.mpr ⟨aCw_6, List.forall_mem_cons.mpr ⟨aCw_7, List.forall_mem_cons.mpr ⟨aCw_8, List.forall_mem_cons.mpr ⟨aCw_9, List.forall_mem_cons.mpr ⟨aCw_10, List.forall_mem_cons.mpr ⟨aCw_11, List.forall_mem_cons.mpr ⟨aCw_12, List.forall_mem_cons.mpr ⟨aCw_13, List.forall_mem_cons.mpr ⟨aCw_14, List.forall_mem_cons.mpr ⟨aCw_15, List.forall_mem_cons.mpr ⟨aCw_16, List.forall_mem_cons.mpr ⟨aCw_17, List.forall_mem_cons.mpr ⟨aCw_18, List.forall_mem_cons.mpr ⟨aCw_19, List.forall_mem_cons.mpr ⟨aCw_20, List.forall_mem_cons.mpr ⟨aCw_21, List.forall_mem_cons.mpr ⟨aCw_22, List.forall_mem_cons.mpr ⟨aCw_23, List.forall_mem_cons.mpr ⟨aCw_24, List.forall_mem_cons.mpr ⟨aCw_25, List.forall_mem_cons.mpr ⟨aCw_26, List.forall_mem_cons.mpr ⟨aCw_27, List.forall_mem_cons.mpr ⟨aCw_28, List.forall_mem_cons.mpr ⟨aCw_29, List.forall_mem_cons.mpr ⟨aCw_30, List.forall_mem_cons.mpr ⟨aCw_31, List.forall_mem_cons.mpr ⟨aCw_32, List.forall_mem_cons.mpr ⟨aCw_33, List.forall_mem_cons.mpr ⟨aCw_34, List.forall_mem_cons.mpr ⟨aCw_35, List.forall_mem_cons.mpr ⟨aCw_36, List.forall_mem_cons.mpr ⟨aCw_37, List.forall_mem_cons.mpr ⟨aCw_38, List.forall_mem_cons.mpr ⟨aCw_39, fun _ h => absurd h List.not_mem_nil⟩⟩⟩⟩⟩⟩⟩⟩⟩⟩⟩⟩⟩⟩⟩⟩⟩⟩⟩⟩⟩⟩⟩⟩⟩⟩⟩⟩⟩⟩⟩⟩⟩⟩⟩⟩⟩⟩⟩⟩
set_option maxRecDepth 100000 in
theorem aMs_0_k : ∀ m ∈ aMs_0, ∃ H, okL m m.2.2.2.2 H = true := List.forall_mem_cons.mpr ⟨⟨aH0, okM_0⟩, List.forall_mem_cons.mpr ⟨⟨aH1, okM_1⟩, List.forall_mem_cons.mpr ⟨⟨aH2, okM_2⟩, List.forall_mem_cons.mpr ⟨⟨aH3, okM_3⟩, List.forall_mem_cons.mpr ⟨⟨aH4, okM_4⟩, List.forall_mem_cons.mpr ⟨⟨aH5, okM_5⟩, List.forall_mem_cons.mpr ⟨⟨aH6, okM_6⟩, List.forall_mem_cons.mpr ⟨⟨aH7, okM_7⟩, List.forall_mem_cons.mpr ⟨⟨aH8, okM_8⟩, List.forall_mem_cons.mpr ⟨⟨aH9, okM_9⟩, List.forall_mem_cons.mpr ⟨⟨aH10, okM_10⟩, List.forall_mem_cons.mpr ⟨⟨aH11, okM_11⟩, List.forall_mem_cons.mpr ⟨⟨aH12, okM_12⟩, List.forall_mem_cons.mpr ⟨⟨aH13, okM_13⟩, List.forall_mem_cons.mpr ⟨⟨aH14, okM_14⟩, List.forall_mem_cons.mpr ⟨⟨aH15, okM_15⟩, List.forall_mem_cons.mpr ⟨⟨aH16, okM_16⟩, List.forall_mem_cons.mpr ⟨⟨aH17, okM_17⟩, List.forall_mem_cons.mpr ⟨⟨aH18, okM_18⟩, List.forall_mem_cons.mpr ⟨⟨aH19, okM_19⟩, List.forall_mem_cons.mpr ⟨⟨aH20, okM_20⟩, List.forall_mem_cons.mpr ⟨⟨aH21, okM_21⟩, List.forall_mem_cons.mpr ⟨⟨aH22, okM_22⟩, List.forall_mem_cons.mpr ⟨⟨aH23, okM_23⟩, List.forall_mem_cons.mpr ⟨⟨aH24, okM_24⟩, List.forall_mem_cons.mpr ⟨⟨aH25, okM_25⟩, List.forall_mem_cons.mpr ⟨⟨aH26, okM_26⟩, List.forall_mem_cons.mpr ⟨⟨aH27, okM_27⟩, List.forall_mem_cons.mpr ⟨⟨aH28, okM_28⟩, List.forall_mem_cons.mpr ⟨⟨aH29, okM_29⟩, List.forall_mem_cons.mpr ⟨⟨aH30, okM_30⟩, List.forall_mem_cons.mpr ⟨⟨aH31, okM_31⟩, List.forall_mem_cons.mpr ⟨⟨aH32, okM_32⟩, List.forall_mem_cons.mpr ⟨⟨aH33, okM_33⟩, List.forall_mem_cons.mpr ⟨⟨aH34, okM_34⟩, List.forall_mem_cons.mpr ⟨⟨aH35, okM_35⟩, List.forall_mem_cons.mpr ⟨⟨aH36, okM_36⟩, List.forall_mem_cons.mpr ⟨⟨aH37, okM_37⟩, List.forall_mem_cons.mpr ⟨⟨aH38, okM_38⟩, List.forall_mem_cons.mpr ⟨⟨aH39, okM_39⟩, fun _ h => absurd h List.not_mem_nil⟩⟩⟩⟩⟩⟩⟩⟩⟩⟩⟩⟩⟩⟩⟩⟩⟩⟩⟩⟩⟩⟩⟩⟩⟩⟩⟩⟩⟩⟩⟩⟩⟩⟩⟩⟩⟩⟩⟩⟩
def aMs_1 : List AM := [aM40, aM41, aM42, aM43, aM44, aM45, aM46, aM47, aM48, aM49, aM50, aM51, aM52, aM53, aM54, aM55, aM56, aM57, aM58, aM59, aM60, aM61, aM62, aM63, aM64, aM65, aM66, aM67, aM68, aM69, aM70, aM71, aM72, aM73, aM74, aM75, aM76, aM77, aM78, aM79]
set_option maxRecDepth 100000 in
theorem aMs_1_c : ∀ m ∈ aMs_1, Cond.code m.1 m.2.1 m.2.2.1 m.2.2.2.1 ∈ lw_tbl := List.forall_mem_cons.mpr ⟨aCw_40, List.forall_mem_cons.mpr ⟨aCw_41, List.forall_mem_cons.mpr ⟨aCw_42, List.forall_mem_cons.mpr ⟨aCw_43, List.forall_mem_cons.mpr ⟨aCw_44, List.forall_mem_cons.mpr ⟨aCw_45, List.forall_mem_cons.mpr ⟨aCw_46, List.forall_mem_cons.mpr ⟨aCw_47, List.forall_mem_cons.mpr ⟨aCw_48, List.forall_mem_cons.mpr ⟨aCw_49, List.forall_mem_cons.mpr ⟨aCw_50, List.forall_mem_cons.mpr ⟨aCw_51, List.forall_mem_cons.mpr ⟨aCw_52, List.forall_mem_cons.mpr ⟨aCw_53, List.forall_mem_cons.mpr ⟨aCw_54, List.forall_mem_cons.mpr ⟨aCw_55, List.forall_mem_cons.mpr ⟨aCw_56, List.forall_mem_cons.mpr ⟨aCw_57, List.forall_mem_cons.mpr ⟨aCw_58, List.forall_mem_cons.mpr ⟨aCw_59, List.forall_mem_cons.mpr ⟨aCw_60, List.forall_mem_cons.mpr ⟨aCw_61, List.forall_mem_cons.mpr ⟨aCw_62, List.forall_mem_cons.mpr ⟨aCw_63, List.forall_mem_cons.mpr ⟨aCw_64, List.forall_mem_cons.mpr ⟨aCw_65, List.forall_mem_cons.mpr ⟨aCw_66, List.forall_mem_cons.mpr ⟨aCw_67, List.forall_mem_cons.mpr ⟨aCw_68, List.forall_mem_cons.mpr ⟨aCw_69, List.forall_mem_cons.mpr ⟨aCw_70, List.forall_mem_cons.mpr ⟨aCw_71, List.forall_mem_cons.mpr ⟨aCw_72, List.forall_mem_cons.mpr ⟨aCw_73, List.forall_mem_cons.mpr ⟨aCw_74, List.forall_mem_cons.mpr ⟨aCw_75, List.forall_mem_cons.mpr ⟨aCw_76, List.forall_mem_cons.mpr ⟨aCw_77, List.forall_mem_cons.mpr ⟨aCw_78, List.forall_mem_cons.mpr ⟨aCw_79, fun _ h => absurd h List.not_mem_nil⟩⟩⟩⟩⟩⟩⟩⟩⟩⟩⟩⟩⟩⟩⟩⟩⟩⟩⟩⟩⟩⟩⟩⟩⟩⟩⟩⟩⟩⟩⟩⟩⟩⟩⟩⟩⟩⟩⟩⟩
set_option maxRecDepth 100000 in
theorem aMs_1_k : ∀ m ∈ aMs_1, ∃ H, okL m m.2.2.2.2 H = true := List.forall_mem_cons.mpr ⟨⟨aH40, okM_40⟩, List.forall_mem_cons.mpr ⟨⟨aH41, okM_41⟩, List.forall_mem_cons.mpr ⟨⟨aH42, okM_42⟩, List.forall_mem_cons.mpr ⟨⟨aH43, okM_43⟩, List.forall_mem_cons.mpr ⟨⟨aH44, okM_44⟩, List.forall_mem_cons.mpr ⟨⟨aH45, okM_45⟩, List.forall_mem_cons.mpr ⟨⟨aH46, okM_46⟩, List.forall_mem_cons.mpr ⟨⟨aH47, okM_47⟩, List.forall_mem_cons.mpr ⟨⟨aH48, okM_48⟩, List.forall_mem_cons.mpr ⟨⟨aH49, okM_49⟩, List.forall_mem_cons.mpr ⟨⟨aH50, okM_50⟩, List.forall_mem_cons.mpr ⟨⟨aH51, okM_51⟩, List.forall_mem_cons.mpr ⟨⟨aH52, okM_52⟩, List.forall_mem_cons.mpr ⟨⟨aH53, okM_53⟩, List.forall_mem_cons.mpr ⟨⟨aH54, okM_54⟩, List.forall_mem_cons.mpr ⟨⟨aH55, okM_55⟩, List.forall_mem_cons.mpr ⟨⟨aH56, okM_56⟩, List.forall_mem_cons.mpr ⟨⟨aH57, okM_57⟩, List.forall_mem_cons.mpr ⟨⟨aH58, okM_58⟩, List.forall_mem_cons.mpr ⟨⟨aH59, okM_59⟩, List.forall_mem_cons.mpr ⟨⟨aH60, okM_60⟩, List.forall_mem_cons.mpr ⟨⟨aH61, okM_61⟩, List.forall_mem_cons.mpr ⟨⟨aH62, okM_62⟩, List.forall_mem_cons.mpr ⟨⟨aH63, okM_63⟩, List.forall_mem_cons.mpr ⟨⟨aH64, okM_64⟩, List.forall_mem_cons.mpr ⟨⟨aH65, okM_65⟩, List.forall_mem_cons.mpr ⟨⟨aH66, okM_66⟩, List.forall_mem_cons.mpr ⟨⟨aH67, okM_67⟩, List.forall_mem_cons.mpr ⟨⟨aH68, okM_68⟩, List.forall_mem_cons.mpr ⟨⟨aH69, okM_69⟩, List.forall_mem_cons.mpr ⟨⟨aH70, okM_70⟩, List.forall_mem_cons.mpr ⟨⟨aH71, okM_71⟩, List.forall_mem_cons.mpr ⟨⟨aH72, okM_72⟩, List.forall_mem_cons.mpr ⟨⟨aH73, okM_73⟩, List.forall_mem_cons.mpr ⟨⟨aH74, okM_74⟩, List.forall_mem_cons.mpr ⟨⟨aH75, okM_75⟩, List.forall_mem_cons.mpr ⟨⟨aH76, okM_76⟩, List.forall_mem_cons.mpr ⟨⟨aH77, okM_77⟩, List.forall_mem_cons.mpr ⟨⟨aH78, okM_78⟩, List.forall_mem_cons.mpr ⟨⟨aH79, okM_79⟩, fun _ h => absurd h List.not_mem_nil⟩⟩⟩⟩⟩⟩⟩⟩⟩⟩⟩⟩⟩⟩⟩⟩⟩⟩⟩⟩⟩⟩⟩⟩⟩⟩⟩⟩⟩⟩⟩⟩⟩⟩⟩⟩⟩⟩⟩⟩
def aMs_2 : List AM := [aM80, aM81, aM82, aM83, aM84, aM85, aM86, aM87, aM88, aM89, aM90, aM91, aM92, aM93, aM94, aM95, aM96, aM97, aM98, aM99, aM100, aM101, aM102, aM103, aM104, aM105, aM106, aM107, aM108, aM109, aM110, aM111, aM112, aM113, aM114, aM115, aM116, aM117, aM118, aM119]
set_option maxRecDepth 100000 in
theorem aMs_2_c : ∀ m ∈ aMs_2, Cond.code m.1 m.2.1 m.2.2.1 m.2.2.2.1 ∈ lw_tbl := List.forall_mem_cons.mpr ⟨aCw_80, List.forall_mem_cons.mpr ⟨aCw_81, List.forall_mem_cons.mpr ⟨aCw_82, List.forall_mem_cons.mpr ⟨aCw_83, List.forall_mem_cons.mpr ⟨aCw_84, List.forall_mem_cons.mpr ⟨aCw_85, List.forall_mem_cons.mpr ⟨aCw_86, List.forall_mem_cons.mpr ⟨aCw_87, List.forall_mem_cons.mpr ⟨aCw_88, List.forall_mem_cons.mpr ⟨aCw_89, List.forall_mem_cons.mpr ⟨aCw_90, List.forall_mem_cons.mpr ⟨aCw_91, List.forall_mem_cons.mpr ⟨aCw_92, List.forall_mem_cons.mpr ⟨aCw_93, List.forall_mem_cons.mpr ⟨aCw_94, List.forall_mem_cons.mpr ⟨aCw_95, List.forall_mem_cons.mpr ⟨aCw_96, List.forall_mem_cons.mpr ⟨aCw_97, List.forall_mem_cons.mpr ⟨aCw_98, List.forall_mem_cons.mpr ⟨aCw_99, List.forall_mem_cons.mpr ⟨aCw_100, List.forall_mem_cons.mpr ⟨aCw_101, List.forall_mem_cons.mpr ⟨aCw_102, List.forall_mem_cons.mpr ⟨aCw_103, List.forall_mem_cons.mpr ⟨aCw_104, List.forall_mem_cons.mpr ⟨aCw_105, List.forall_mem_cons.mpr ⟨aCw_106, List.forall_mem_cons.mpr ⟨aCw_107, List.forall_mem_cons.mpr ⟨aCw_108, List.forall_mem_cons.mpr ⟨aCw_109, List.forall_mem_cons.mpr ⟨aCw_110, List.forall_mem_cons.mpr ⟨aCw_111, List.forall_mem_cons.mpr ⟨aCw_112, List.forall_mem_cons.mpr ⟨aCw_113, List.forall_mem_cons.mpr ⟨aCw_114, List.forall_mem_cons.mpr ⟨aCw_115, List.forall_mem_cons.mpr ⟨aCw_116, List.forall_mem_cons.mpr ⟨aCw_117, List.forall_mem_cons.mpr ⟨aCw_118, List.forall_mem_cons.mpr ⟨aCw_119, fun _ h => absurd h List.not_mem_nil⟩⟩⟩⟩⟩⟩⟩⟩⟩⟩⟩⟩⟩⟩⟩⟩⟩⟩⟩⟩⟩⟩⟩⟩⟩⟩⟩⟩⟩⟩⟩⟩⟩⟩⟩⟩⟩⟩⟩⟩
set_option maxRecDepth 100000 in
theorem aMs_2_k : ∀ m ∈ aMs_2, ∃ H, okL m m.2.2.2.2 H = true := List.forall_mem_cons.mpr ⟨⟨aH80, okM_80⟩, List.forall_mem_cons.mpr ⟨⟨aH81, okM_81⟩, List.forall_mem_cons.mpr ⟨⟨aH82, okM_82⟩, List.forall_mem_cons.mpr ⟨⟨aH83, okM_83⟩, List.forall_mem_cons.mpr ⟨⟨aH84, okM_84⟩, List.forall_mem_cons.mpr ⟨⟨aH85, okM_85⟩, List.forall_mem_cons.mpr ⟨⟨aH86, okM_86⟩, List.forall_mem_cons.mpr ⟨⟨aH87, okM_87⟩, List.forall_mem_cons.mpr ⟨⟨aH88, okM_88⟩, List.forall_mem_cons.mpr ⟨⟨aH89, okM_89⟩, List.forall_mem_cons.mpr ⟨⟨aH90, okM_90⟩, List.forall_mem_cons.mpr ⟨⟨aH91, okM_91⟩, List.forall_mem_cons.mpr ⟨⟨aH92, okM_92⟩, List.forall_mem_cons.mpr ⟨⟨aH93, okM_93⟩, List.forall_mem_cons.mpr ⟨⟨aH94, okM_94⟩, List.forall_mem_cons.mpr ⟨⟨aH95, okM_95⟩, List.forall_mem_cons.mpr ⟨⟨aH96, okM_96⟩, List.forall_mem_cons.mpr ⟨⟨aH97, okM_97⟩, List.forall_mem_cons.mpr ⟨⟨aH98, okM_98⟩, List.forall_mem_cons.mpr ⟨⟨aH99, okM_99⟩, List.forall_mem_cons.mpr ⟨⟨aH100, okM_100⟩, List.forall_mem_cons.mpr ⟨⟨aH101, okM_101⟩, List.forall_mem_cons.mpr ⟨⟨aH102, okM_102⟩, List.forall_mem_cons.mpr ⟨⟨aH103, okM_103⟩, List.forall_mem_cons.mpr ⟨⟨aH104, okM_104⟩, List.forall_mem_cons.mpr ⟨⟨aH105, okM_105⟩, List.forall_mem_cons.mpr ⟨⟨aH106, okM_106⟩, List.forall_mem_cons.mpr ⟨⟨aH107, okM_107⟩, List.forall_mem_cons.mpr ⟨⟨aH108, okM_108⟩, List.forall_mem_cons.mpr ⟨⟨aH109, okM_109⟩, List.forall_mem_cons.mpr ⟨⟨aH110, okM_110⟩, List.forall_mem_cons.mpr ⟨⟨aH111, okM_111⟩, List.forall_mem_cons.mpr ⟨⟨aH112, okM_112⟩, List.forall_mem_cons.mpr ⟨⟨aH113, okM_113⟩, List.forall_mem_cons.mpr ⟨⟨aH114, okM_114⟩, List.forall_mem_cons.mpr ⟨⟨aH115, okM_115⟩, List.forall_mem_cons.mpr ⟨⟨aH116, okM_116⟩, List.forall_mem_cons.mpr ⟨⟨aH117, okM_117⟩, List.forall_mem_cons.mpr ⟨⟨aH118, okM_118⟩, List.forall_mem_cons.mpr ⟨⟨aH119, okM_119⟩, fun _ h => absurd h List.not_mem_nil⟩⟩⟩⟩⟩⟩⟩⟩⟩⟩⟩⟩⟩⟩⟩⟩⟩⟩⟩⟩⟩⟩⟩⟩⟩⟩⟩⟩⟩⟩⟩⟩⟩⟩⟩⟩⟩⟩⟩⟩
def aMs_3 : List AM := [aM120, aM121, aM122, aM123, aM124, aM125, aM126, aM127, aM128, aM129, aM130, aM131, aM132, aM133, aM134, aM135, aM136, aM137, aM138, aM139, aM140, aM141, aM142, aM143, aM144, aM145, aM146, aM147, aM148, aM149, aM150, aM151, aM152, aM153, aM154, aM155]
set_option maxRecDepth 100000 in
theorem aMs_3_c : ∀ m ∈ aMs_3, Cond.code m.1 m.2.1 m.2.2.1 m.2.2.2.1 ∈ lw_tbl := List.forall_mem_cons.mpr ⟨aCw_120, List.forall_mem_cons.mpr ⟨aCw_121, List.forall_mem_cons.mpr ⟨aCw_122, List.forall_mem_cons.mpr ⟨aCw_123, List.forall_mem_cons.mpr ⟨aCw_124, List.forall_mem_cons.mpr ⟨aCw_125, List.forall_mem_cons.mpr ⟨aCw_126, List.forall_mem_cons.mpr ⟨aCw_127, List.forall_mem_cons.mpr ⟨aCw_128, List.forall_mem_cons.mpr ⟨aCw_129, List.forall_mem_cons.mpr ⟨aCw_130, List.forall_mem_cons.mpr ⟨aCw_131, List.forall_mem_cons.mpr ⟨aCw_132, List.forall_mem_cons.mpr ⟨aCw_133, List.forall_mem_cons.mpr ⟨aCw_134, List.forall_mem_cons.mpr ⟨aCw_135, List.forall_mem_cons.mpr ⟨aCw_136, List.forall_mem_cons.mpr ⟨aCw_137, List.forall_mem_cons.mpr ⟨aCw_138, List.forall_mem_cons.mpr ⟨aCw_139, List.forall_mem_cons.mpr ⟨aCw_140, List.forall_mem_cons.mpr ⟨aCw_141, List.forall_mem_cons.mpr ⟨aCw_142, List.forall_mem_cons.mpr ⟨aCw_143, List.forall_mem_cons.mpr ⟨aCw_144, List.forall_mem_cons.mpr ⟨aCw_145, List.forall_mem_cons.mpr ⟨aCw_146, List.forall_mem_cons.mpr ⟨aCw_147, List.forall_mem_cons.mpr ⟨aCw_148, List.forall_mem_cons.mpr ⟨aCw_149, List.forall_mem_cons.mpr ⟨aCw_150, List.forall_mem_cons.mpr ⟨aCw_151, List.forall_mem_cons.mpr ⟨aCw_152, List.forall_mem_cons.mpr ⟨aCw_153, List.forall_mem_cons.mpr ⟨aCw_154, List.forall_mem_cons.mpr ⟨aCw_155, fun _ h => absurd h List.not_mem_nil⟩⟩⟩⟩⟩⟩⟩⟩⟩⟩⟩⟩⟩⟩⟩⟩⟩⟩⟩⟩⟩⟩⟩⟩⟩⟩⟩⟩⟩⟩⟩⟩⟩⟩⟩⟩
set_option maxRecDepth 100000 in
theorem aMs_3_k : ∀ m ∈ aMs_3, ∃ H, okL m m.2.2.2.2 H = true := List.forall_mem_cons.mpr ⟨⟨aH120, okM_120⟩, List.forall_mem_cons.mpr ⟨⟨aH121, okM_121⟩, List.forall_mem_cons.mpr ⟨⟨aH122, okM_122⟩, List.forall_mem_cons.mpr ⟨⟨aH123, okM_123⟩, List.forall_mem_cons.mpr ⟨⟨aH124, okM_124⟩, List.forall_mem_cons.mpr ⟨⟨aH125, okM_125⟩, List.forall_mem_cons.mpr ⟨⟨aH126, okM_126⟩, List.forall_mem_cons.mpr ⟨⟨aH127, okM_127⟩, List.forall_mem_cons.mpr ⟨⟨aH128, okM_128⟩, List.forall_mem_cons.mpr ⟨⟨aH129, okM_129⟩, List.forall_mem_cons.mpr ⟨⟨aH130, okM_130⟩, List.forall_mem_cons.mpr ⟨⟨aH131, okM_131⟩, List.forall_mem_cons.mpr ⟨⟨aH132, okM_132⟩, List.forall_mem_cons.mpr ⟨⟨aH133, okM_133⟩, List.forall_mem_cons.mpr ⟨⟨aH134, okM_134⟩, List.forall_mem_cons.mpr ⟨⟨aH135, okM_135⟩, List.forall_mem_cons.mpr ⟨⟨aH136, okM_136⟩, List.forall_mem_cons.mpr ⟨⟨aH137, okM_137⟩, List.forall_mem_cons.mpr ⟨⟨aH138, okM_138⟩, List.forall_mem_cons.mpr ⟨⟨aH139, okM_139⟩, List.forall_mem_cons.mpr ⟨⟨aH140, okM_140⟩, List.forall_mem_cons.mpr ⟨⟨aH141, okM_141⟩, List.forall_mem_cons.mpr ⟨⟨aH142, okM_142⟩, List.forall_mem_cons.mpr ⟨⟨aH143, okM_143⟩, List.forall_mem_cons.mpr ⟨⟨aH144, okM_144⟩, List.forall_mem_cons.mpr ⟨⟨aH145, okM_145⟩, List.forall_mem_cons.mpr ⟨⟨aH146, okM_146⟩, List.forall_mem_cons.mpr ⟨⟨aH147, okM_147⟩, List.forall_mem_cons.mpr ⟨⟨aH148, okM_148⟩, List.forall_mem_cons.mpr ⟨⟨aH149, okM_149⟩, List.forall_mem_cons.mpr ⟨⟨aH150, okM_150⟩, List.forall_mem_cons.mpr ⟨⟨aH151, okM_151⟩, List.forall_mem_cons.mpr ⟨⟨aH152, okM_152⟩, List.forall_mem_cons.mpr ⟨⟨aH153, okM_153⟩, List.forall_mem_cons.mpr ⟨⟨aH154, okM_154⟩, List.forall_mem_cons.mpr ⟨⟨aH155, okM_155⟩, fun _ h => absurd h List.not_mem_nil⟩⟩⟩⟩⟩⟩⟩⟩⟩⟩⟩⟩⟩⟩⟩⟩⟩⟩⟩⟩⟩⟩⟩⟩⟩⟩⟩⟩⟩⟩⟩⟩⟩⟩⟩⟩
def aMsC : List AM := aMs_0 ++ (aMs_1 ++ (aMs_2 ++ aMs_3))
set_option maxRecDepth 100000 in
theorem aMs_eq : aMs = aMsC ++ [aM156] := rfl
theorem aMsC_c : ∀ m ∈ aMsC, Cond.code m.1 m.2.1 m.2.2.1 m.2.2.2.1 ∈ lw_tbl := List.forall_mem_append.mpr ⟨aMs_0_c, List.forall_mem_append.mpr ⟨aMs_1_c, List.forall_mem_append.mpr ⟨aMs_2_c, aMs_3_c⟩⟩⟩
theorem aMsC_k : ∀ m ∈ aMsC, ∃ H, okL m m.2.2.2.2 H = true := List.forall_mem_append.mpr ⟨aMs_0_k, List.forall_mem_append.mpr ⟨aMs_1_k, List.forall_mem_append.mpr ⟨aMs_2_k, aMs_3_k⟩⟩⟩
set_option maxRecDepth 100000 in
theorem aMsC_len : aMsC.length = 156 := rfl
set_option maxRecDepth 100000 in
theorem aE156_len : aE156.length = 614 := by decide +kernel
theorem mA_mem {mi : Nat} (h : mi < 156) : mA mi ∈ aMsC := by
  unfold mA
  rw [aMs_eq, List.getD_eq_getElem?_getD, List.getElem?_append_left (by rw [aMsC_len]; exact h), List.getElem?_eq_getElem (by rw [aMsC_len]; exact h)]
  exact List.getElem_mem _
theorem mA_156 : mA 156 = aM156 := rfl
theorem mA_out {mi : Nat} (h : 157 ≤ mi) : mE mi = [] := by
  unfold mE mA
  rw [List.getD_eq_getElem?_getD, List.getElem?_eq_none (by rw [aMs_eq, List.length_append, aMsC_len]; exact h)]
  rfl
theorem okL_mem {m : AM} : ∀ {es : List AE} {H : List (List Nat)}, okL m es H = true → ∀ e ∈ es, ∃ hs, okE m e hs = true
  | [], _, _, e, h => absurd h List.not_mem_nil
  | e0 :: es, H, h, e, he => by
    simp only [okL, Bool.and_eq_true] at h
    rcases List.mem_cons.mp he with rfl | he
    · exact ⟨_, h.1⟩
    · exact okL_mem h.2 e he
theorem okLaw : ∀ e ∈ aE156, ∃ hs, okE aM156 e hs = true := by
  intro e he
  obtain ⟨j, hj⟩ := List.getElem?_of_mem he
  have hjl : j < 614 := by rw [← aE156_len]; exact (List.getElem?_eq_some_iff.mp hj).1
  have key : ∀ k : Nat, 60 * k ≤ j → j < 60 * k + 60 → (∃ H, okL aM156 ((aE156.drop (60 * k)).take 60) H = true) → ∃ hs, okE aM156 e hs = true := by
    intro k h1 h2 ⟨H, hH⟩
    refine okL_mem hH e ?_
    refine List.mem_of_getElem? (i := j - 60 * k) ?_
    rw [List.getElem?_take, if_pos (by omega), List.getElem?_drop, show 60 * k + (j - 60 * k) = j by omega]
    exact hj
  rcases (show j < 60 ∨ (60 ≤ j ∧ j < 120) ∨ (120 ≤ j ∧ j < 180) ∨ (180 ≤ j ∧ j < 240) ∨ (240 ≤ j ∧ j < 300) ∨ (300 ≤ j ∧ j < 360) ∨ (360 ≤ j ∧ j < 420) ∨ (420 ≤ j ∧ j < 480) ∨ (480 ≤ j ∧ j < 540) ∨ (540 ≤ j ∧ j < 600) ∨ (600 ≤ j ∧ j < 660) by omega) with h | h | h | h | h | h | h | h | h | h | h
  · exact key 0 (by omega) (by omega) ⟨_, okL_0⟩
  · exact key 1 (by omega) (by omega) ⟨_, okL_1⟩
  · exact key 2 (by omega) (by omega) ⟨_, okL_2⟩
  · exact key 3 (by omega) (by omega) ⟨_, okL_3⟩
  · exact key 4 (by omega) (by omega) ⟨_, okL_4⟩
  · exact key 5 (by omega) (by omega) ⟨_, okL_5⟩
  · exact key 6 (by omega) (by omega) ⟨_, okL_6⟩
  · exact key 7 (by omega) (by omega) ⟨_, okL_7⟩
  · exact key 8 (by omega) (by omega) ⟨_, okL_8⟩
  · exact key 9 (by omega) (by omega) ⟨_, okL_9⟩
  · exact key 10 (by omega) (by omega) ⟨_, okL_10⟩
/-- every entry is what it is said to be -/
theorem okAll {mi j : Nat} {e : AE} (h : (mE mi)[j]? = some e) : ∃ hs, okE (mA mi) e hs = true := by
  have he := List.mem_of_getElem? h
  rcases (show mi < 156 ∨ mi = 156 ∨ 157 ≤ mi by omega) with q | q | q
  · obtain ⟨H, hH⟩ := aMsC_k _ (mA_mem q)
    exact okL_mem hH e he
  · subst q
    exact okLaw e he
  · rw [mA_out q] at h
    cases h
/-- the words that every method has -/
def mW (mi : Nat) : List Cond := Cond.code (mA mi).1 (mA mi).2.1 (mA mi).2.2.1 (mA mi).2.2.2.1 :: aTb
theorem mW_good {mi : Nat} (h : mi < 156) : GoodIn lw_tbl (mW mi) := by
  intro w hw
  rcases List.mem_cons.mp hw with rfl | hw
  · exact ⟨aMsC_c _ (mA_mem h), Or.inl rfl⟩
  · obtain ⟨h1, h2⟩ := aTb_good hw
    exact ⟨h1, good_of_word h2⟩
theorem mW_tb {mi : Nat} (h : mi < 156) : ∀ w ∈ mW mi, w ∈ aTb := by
  intro w hw
  rcases List.mem_cons.mp hw with rfl | hw
  · exact List.mem_filter.mpr ⟨aMsC_c _ (mA_mem h), rfl⟩
  · exact hw
theorem mW_goodB {mi : Nat} (h : mi < 156) : GoodIn aTb (mW mi) := fun w hw => ⟨mW_tb h w hw, (mW_good h w hw).2⟩
/-- what is decided of a method's name and size -/
def okY (m : AM) : Bool := (plainFor m.1 || decide (m.1.cls = "java/lang/Object")) && decide (m.2.2.1 ≤ 11) && decide (1 ≤ m.2.2.1 ∨ m.2.2.1 = 0) && decide (m.1.cls ≠ "java/lang/invoke/MethodHandle") && decide (m.1.cls ≠ "java/lang/invoke/VarHandle")
set_option maxRecDepth 100000 in
theorem okY_all : aMsC.all okY = true := by decide +kernel
set_option maxRecDepth 100000 in
theorem okInit_all : aMsC.all (fun m => decide (m.1.cls = "java/lang/Object") || decide (Cond.initialized m.1.cls ∈ lw_tbl)) = true := by decide +kernel

