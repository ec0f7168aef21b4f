theorem t_103 : Cond.methodLink RL 9 yX7_init ∈ tg := tg_of 103 (by decide +kernel) rfl
theorem t_104 : Cond.instanceMethod yX7_init ∈ tg := tg_of 104 (by decide +kernel) rfl
theorem t_384 : Cond.methodLink RL 13 yX7_letters ∈ tg := tg_of 384 (by decide +kernel) rfl
theorem t_385 : Cond.instanceMethod yX7_letters ∈ tg := tg_of 385 (by decide +kernel) rfl
theorem t_386 : Cond.selects RX7 yX7_letters yX7_letters ∈ tg := tg_of 386 (by decide +kernel) rfl
theorem t_405 : Cond.methodLink RL 18 yX7_box ∈ tg := tg_of 405 (by decide +kernel) rfl
theorem t_406 : Cond.instanceMethod yX7_box ∈ tg := tg_of 406 (by decide +kernel) rfl
theorem t_407 : Cond.selects RX7 yX7_box yX7_box ∈ tg := tg_of 407 (by decide +kernel) rfl
theorem t_429 : Cond.methodLink RL 23 yX7_boxOf ∈ tg := tg_of 429 (by decide +kernel) rfl
theorem t_430 : Cond.instanceMethod yX7_boxOf ∈ tg := tg_of 430 (by decide +kernel) rfl
theorem t_431 : Cond.selects RX7 yX7_boxOf yX7_boxOf ∈ tg := tg_of 431 (by decide +kernel) rfl
theorem t_433 : Cond.methodLink RL 28 yX7_row ∈ tg := tg_of 433 (by decide +kernel) rfl
theorem t_434 : Cond.instanceMethod yX7_row ∈ tg := tg_of 434 (by decide +kernel) rfl
theorem t_435 : Cond.selects RX7 yX7_row yX7_row ∈ tg := tg_of 435 (by decide +kernel) rfl
theorem t_448 : Cond.methodLink RL 32 yX7_of ∈ tg := tg_of 448 (by decide +kernel) rfl
theorem t_449 : Cond.instanceMethod yX7_of ∈ tg := tg_of 449 (by decide +kernel) rfl
theorem t_450 : Cond.selects RX7 yX7_of yX7_of ∈ tg := tg_of 450 (by decide +kernel) rfl
theorem t_468 : Cond.methodLink RL 36 yX7_change ∈ tg := tg_of 468 (by decide +kernel) rfl
theorem t_469 : Cond.instanceMethod yX7_change ∈ tg := tg_of 469 (by decide +kernel) rfl
theorem t_470 : Cond.selects RX7 yX7_change yX7_change ∈ tg := tg_of 470 (by decide +kernel) rfl
theorem t_476 : Cond.methodLink RL 40 yX7_as ∈ tg := tg_of 476 (by decide +kernel) rfl
theorem t_477 : Cond.instanceMethod yX7_as ∈ tg := tg_of 477 (by decide +kernel) rfl
theorem t_478 : Cond.selects RX7 yX7_as yX7_as ∈ tg := tg_of 478 (by decide +kernel) rfl
theorem t_485 : Cond.methodLink RL 44 yX7_drop ∈ tg := tg_of 485 (by decide +kernel) rfl
theorem t_486 : Cond.instanceMethod yX7_drop ∈ tg := tg_of 486 (by decide +kernel) rfl
theorem t_487 : Cond.selects RX7 yX7_drop yX7_drop ∈ tg := tg_of 487 (by decide +kernel) rfl
theorem t_489 : Cond.methodLink RL 49 yX7_many ∈ tg := tg_of 489 (by decide +kernel) rfl
theorem t_490 : Cond.instanceMethod yX7_many ∈ tg := tg_of 490 (by decide +kernel) rfl
theorem t_491 : Cond.selects RX7 yX7_many yX7_many ∈ tg := tg_of 491 (by decide +kernel) rfl
theorem t_530 : Cond.methodLink RL 53 yX7_point ∈ tg := tg_of 530 (by decide +kernel) rfl
theorem t_531 : Cond.instanceMethod yX7_point ∈ tg := tg_of 531 (by decide +kernel) rfl
theorem t_532 : Cond.selects RX7 yX7_point yX7_point ∈ tg := tg_of 532 (by decide +kernel) rfl
theorem t_553 : Cond.methodLink RL 57 yX7_holds ∈ tg := tg_of 553 (by decide +kernel) rfl
theorem t_554 : Cond.instanceMethod yX7_holds ∈ tg := tg_of 554 (by decide +kernel) rfl
theorem t_555 : Cond.selects RX7 yX7_holds yX7_holds ∈ tg := tg_of 555 (by decide +kernel) rfl
theorem t_579 : Cond.methodLink RL 61 yX7_best ∈ tg := tg_of 579 (by decide +kernel) rfl
theorem t_580 : Cond.instanceMethod yX7_best ∈ tg := tg_of 580 (by decide +kernel) rfl
theorem t_581 : Cond.selects RX7 yX7_best yX7_best ∈ tg := tg_of 581 (by decide +kernel) rfl
theorem t_595 : Cond.methodLink RL 65 yX7_thin ∈ tg := tg_of 595 (by decide +kernel) rfl
theorem t_596 : Cond.instanceMethod yX7_thin ∈ tg := tg_of 596 (by decide +kernel) rfl
theorem t_597 : Cond.selects RX7 yX7_thin yX7_thin ∈ tg := tg_of 597 (by decide +kernel) rfl
theorem t_606 : Cond.methodLink RL 69 yX7_mean ∈ tg := tg_of 606 (by decide +kernel) rfl
theorem t_607 : Cond.instanceMethod yX7_mean ∈ tg := tg_of 607 (by decide +kernel) rfl
theorem t_608 : Cond.selects RX7 yX7_mean yX7_mean ∈ tg := tg_of 608 (by decide +kernel) rfl
theorem t_622 : Cond.methodLink RL 73 yX7_round ∈ tg := tg_of 622 (by decide +kernel) rfl
theorem t_623 : Cond.instanceMethod yX7_round ∈ tg := tg_of 623 (by decide +kernel) rfl
theorem t_624 : Cond.selects RX7 yX7_round yX7_round ∈ tg := tg_of 624 (by decide +kernel) rfl
theorem t_639 : Cond.methodLink RL 77 yX7_tree ∈ tg := tg_of 639 (by decide +kernel) rfl
theorem t_640 : Cond.instanceMethod yX7_tree ∈ tg := tg_of 640 (by decide +kernel) rfl
theorem t_641 : Cond.selects RX7 yX7_tree yX7_tree ∈ tg := tg_of 641 (by decide +kernel) rfl
theorem t_683 : Cond.methodLink RL 81 yX7_leaf ∈ tg := tg_of 683 (by decide +kernel) rfl
theorem t_684 : Cond.instanceMethod yX7_leaf ∈ tg := tg_of 684 (by decide +kernel) rfl
theorem t_685 : Cond.selects RX7 yX7_leaf yX7_leaf ∈ tg := tg_of 685 (by decide +kernel) rfl
theorem t_709 : Cond.methodLink RL 85 yX7_side ∈ tg := tg_of 709 (by decide +kernel) rfl
theorem t_710 : Cond.instanceMethod yX7_side ∈ tg := tg_of 710 (by decide +kernel) rfl
theorem t_711 : Cond.selects RX7 yX7_side yX7_side ∈ tg := tg_of 711 (by decide +kernel) rfl
theorem t_715 : Cond.methodLink RL 89 yX7_where ∈ tg := tg_of 715 (by decide +kernel) rfl
theorem t_716 : Cond.instanceMethod yX7_where ∈ tg := tg_of 716 (by decide +kernel) rfl
theorem t_717 : Cond.selects RX7 yX7_where yX7_where ∈ tg := tg_of 717 (by decide +kernel) rfl
theorem t_727 : Cond.methodLink RL 93 yX7_judge ∈ tg := tg_of 727 (by decide +kernel) rfl
theorem t_728 : Cond.instanceMethod yX7_judge ∈ tg := tg_of 728 (by decide +kernel) rfl
theorem t_729 : Cond.selects RX7 yX7_judge yX7_judge ∈ tg := tg_of 729 (by decide +kernel) rfl
theorem t_737 : Cond.methodLink RL 97 yX7_needs ∈ tg := tg_of 737 (by decide +kernel) rfl
theorem t_738 : Cond.instanceMethod yX7_needs ∈ tg := tg_of 738 (by decide +kernel) rfl
theorem t_739 : Cond.selects RX7 yX7_needs yX7_needs ∈ tg := tg_of 739 (by decide +kernel) rfl
theorem t_751 : Cond.methodLink RL 101 yX7_without ∈ tg := tg_of 751 (by decide +kernel) rfl
theorem t_752 : Cond.instanceMethod yX7_without ∈ tg := tg_of 752 (by decide +kernel) rfl
theorem t_753 : Cond.selects RX7 yX7_without yX7_without ∈ tg := tg_of 753 (by decide +kernel) rfl
theorem t_763 : Cond.methodLink RL 105 yX7_kind ∈ tg := tg_of 763 (by decide +kernel) rfl
theorem t_764 : Cond.instanceMethod yX7_kind ∈ tg := tg_of 764 (by decide +kernel) rfl
theorem t_765 : Cond.selects RX7 yX7_kind yX7_kind ∈ tg := tg_of 765 (by decide +kernel) rfl
theorem t_777 : Cond.methodLink RL 109 yX7_boundFor ∈ tg := tg_of 777 (by decide +kernel) rfl
theorem t_778 : Cond.instanceMethod yX7_boundFor ∈ tg := tg_of 778 (by decide +kernel) rfl
theorem t_779 : Cond.selects RX7 yX7_boundFor yX7_boundFor ∈ tg := tg_of 779 (by decide +kernel) rfl
theorem t_789 : Cond.methodLink RL 113 yX7_base ∈ tg := tg_of 789 (by decide +kernel) rfl
theorem t_790 : Cond.instanceMethod yX7_base ∈ tg := tg_of 790 (by decide +kernel) rfl
theorem t_791 : Cond.selects RX7 yX7_base yX7_base ∈ tg := tg_of 791 (by decide +kernel) rfl
theorem t_793 : Cond.methodLink RL 117 yX7_baseOf ∈ tg := tg_of 793 (by decide +kernel) rfl
theorem t_794 : Cond.instanceMethod yX7_baseOf ∈ tg := tg_of 794 (by decide +kernel) rfl
theorem t_795 : Cond.selects RX7 yX7_baseOf yX7_baseOf ∈ tg := tg_of 795 (by decide +kernel) rfl
theorem t_797 : Cond.methodLink RL 121 yX7_mix ∈ tg := tg_of 797 (by decide +kernel) rfl
theorem t_798 : Cond.instanceMethod yX7_mix ∈ tg := tg_of 798 (by decide +kernel) rfl
theorem t_799 : Cond.selects RX7 yX7_mix yX7_mix ∈ tg := tg_of 799 (by decide +kernel) rfl
theorem t_805 : Cond.methodLink RL 125 yX7_swap ∈ tg := tg_of 805 (by decide +kernel) rfl
theorem t_806 : Cond.instanceMethod yX7_swap ∈ tg := tg_of 806 (by decide +kernel) rfl
theorem t_807 : Cond.selects RX7 yX7_swap yX7_swap ∈ tg := tg_of 807 (by decide +kernel) rfl
theorem t_809 : Cond.methodLink RL 129 yX7_det ∈ tg := tg_of 809 (by decide +kernel) rfl
theorem t_810 : Cond.instanceMethod yX7_det ∈ tg := tg_of 810 (by decide +kernel) rfl
theorem t_811 : Cond.selects RX7 yX7_det yX7_det ∈ tg := tg_of 811 (by decide +kernel) rfl
theorem t_833 : Cond.methodLink RL 133 yX7_form ∈ tg := tg_of 833 (by decide +kernel) rfl
theorem t_834 : Cond.instanceMethod yX7_form ∈ tg := tg_of 834 (by decide +kernel) rfl
theorem t_835 : Cond.selects RX7 yX7_form yX7_form ∈ tg := tg_of 835 (by decide +kernel) rfl
theorem t_837 : Cond.methodLink RL 137 yX7_shortest ∈ tg := tg_of 837 (by decide +kernel) rfl
theorem t_838 : Cond.instanceMethod yX7_shortest ∈ tg := tg_of 838 (by decide +kernel) rfl
theorem t_839 : Cond.selects RX7 yX7_shortest yX7_shortest ∈ tg := tg_of 839 (by decide +kernel) rfl
theorem t_852 : Cond.methodLink RL 141 yX7_common ∈ tg := tg_of 852 (by decide +kernel) rfl
theorem t_853 : Cond.instanceMethod yX7_common ∈ tg := tg_of 853 (by decide +kernel) rfl
theorem t_854 : Cond.selects RX7 yX7_common yX7_common ∈ tg := tg_of 854 (by decide +kernel) rfl
theorem t_865 : Cond.methodLink RL 145 yX7_lies ∈ tg := tg_of 865 (by decide +kernel) rfl
theorem t_866 : Cond.instanceMethod yX7_lies ∈ tg := tg_of 866 (by decide +kernel) rfl
theorem t_867 : Cond.selects RX7 yX7_lies yX7_lies ∈ tg := tg_of 867 (by decide +kernel) rfl
theorem t_869 : Cond.methodLink RL 149 yX7_feed ∈ tg := tg_of 869 (by decide +kernel) rfl
theorem t_870 : Cond.instanceMethod yX7_feed ∈ tg := tg_of 870 (by decide +kernel) rfl
theorem t_871 : Cond.selects RX7 yX7_feed yX7_feed ∈ tg := tg_of 871 (by decide +kernel) rfl
theorem t_877 : Cond.methodLink RL 153 yX7_wipe ∈ tg := tg_of 877 (by decide +kernel) rfl
theorem t_878 : Cond.instanceMethod yX7_wipe ∈ tg := tg_of 878 (by decide +kernel) rfl
theorem t_879 : Cond.selects RX7 yX7_wipe yX7_wipe ∈ tg := tg_of 879 (by decide +kernel) rfl
theorem t_881 : Cond.methodLink RL 157 yX7_text ∈ tg := tg_of 881 (by decide +kernel) rfl
theorem t_882 : Cond.instanceMethod yX7_text ∈ tg := tg_of 882 (by decide +kernel) rfl
theorem t_883 : Cond.selects RX7 yX7_text yX7_text ∈ tg := tg_of 883 (by decide +kernel) rfl
theorem t_1003 : Cond.methodLink RL 161 yX7_sheet ∈ tg := tg_of 1003 (by decide +kernel) rfl
theorem t_1004 : Cond.instanceMethod yX7_sheet ∈ tg := tg_of 1004 (by decide +kernel) rfl
theorem t_1005 : Cond.selects RX7 yX7_sheet yX7_sheet ∈ tg := tg_of 1005 (by decide +kernel) rfl
theorem t_1011 : Cond.methodLink RL 167 yX7_write ∈ tg := tg_of 1011 (by decide +kernel) rfl
theorem t_1012 : Cond.instanceMethod yX7_write ∈ tg := tg_of 1012 (by decide +kernel) rfl
theorem t_1013 : Cond.selects RX7 yX7_write yX7_write ∈ tg := tg_of 1013 (by decide +kernel) rfl
theorem t_1019 : Cond.methodLink RL 172 yX7_copy ∈ tg := tg_of 1019 (by decide +kernel) rfl
theorem t_1020 : Cond.instanceMethod yX7_copy ∈ tg := tg_of 1020 (by decide +kernel) rfl
theorem t_1021 : Cond.selects RX7 yX7_copy yX7_copy ∈ tg := tg_of 1021 (by decide +kernel) rfl
theorem t_1028 : Cond.methodLink RL 177 yX7_lays ∈ tg := tg_of 1028 (by decide +kernel) rfl
theorem t_1029 : Cond.instanceMethod yX7_lays ∈ tg := tg_of 1029 (by decide +kernel) rfl
theorem t_1030 : Cond.selects RX7 yX7_lays yX7_lays ∈ tg := tg_of 1030 (by decide +kernel) rfl
theorem t_1032 : Cond.methodLink RL 181 yX7_image ∈ tg := tg_of 1032 (by decide +kernel) rfl
theorem t_1033 : Cond.instanceMethod yX7_image ∈ tg := tg_of 1033 (by decide +kernel) rfl
theorem t_1034 : Cond.selects RX7 yX7_image yX7_image ∈ tg := tg_of 1034 (by decide +kernel) rfl
theorem t_1036 : Cond.methodLink RL 185 yX7_undo ∈ tg := tg_of 1036 (by decide +kernel) rfl
theorem t_1037 : Cond.instanceMethod yX7_undo ∈ tg := tg_of 1037 (by decide +kernel) rfl
theorem t_1038 : Cond.selects RX7 yX7_undo yX7_undo ∈ tg := tg_of 1038 (by decide +kernel) rfl
theorem t_1040 : Cond.methodLink RL 189 yX7_tear ∈ tg := tg_of 1040 (by decide +kernel) rfl
theorem t_1041 : Cond.instanceMethod yX7_tear ∈ tg := tg_of 1041 (by decide +kernel) rfl
theorem t_1042 : Cond.selects RX7 yX7_tear yX7_tear ∈ tg := tg_of 1042 (by decide +kernel) rfl
theorem t_1044 : Cond.methodLink RL 193 yX7_count ∈ tg := tg_of 1044 (by decide +kernel) rfl
theorem t_1045 : Cond.instanceMethod yX7_count ∈ tg := tg_of 1045 (by decide +kernel) rfl
theorem t_1046 : Cond.selects RX7 yX7_count yX7_count ∈ tg := tg_of 1046 (by decide +kernel) rfl
theorem t_1048 : Cond.methodLink RL 197 yX7_status ∈ tg := tg_of 1048 (by decide +kernel) rfl
theorem t_1049 : Cond.instanceMethod yX7_status ∈ tg := tg_of 1049 (by decide +kernel) rfl
theorem t_1050 : Cond.selects RX7 yX7_status yX7_status ∈ tg := tg_of 1050 (by decide +kernel) rfl
theorem t_1054 : Cond.methodLink RL 12 yX8_init ∈ tg := tg_of 1054 (by decide +kernel) rfl
theorem t_1055 : Cond.instanceMethod yX8_init ∈ tg := tg_of 1055 (by decide +kernel) rfl
theorem t_1191 : Cond.methodLink RL 17 yX8_letters ∈ tg := tg_of 1191 (by decide +kernel) rfl
theorem t_1192 : Cond.instanceMethod yX8_letters ∈ tg := tg_of 1192 (by decide +kernel) rfl
theorem t_1193 : Cond.selects RX8 yX8_letters yX8_letters ∈ tg := tg_of 1193 (by decide +kernel) rfl
theorem t_1209 : Cond.methodLink RL 22 yX8_box ∈ tg := tg_of 1209 (by decide +kernel) rfl
theorem t_1210 : Cond.instanceMethod yX8_box ∈ tg := tg_of 1210 (by decide +kernel) rfl
theorem t_1211 : Cond.selects RX8 yX8_box yX8_box ∈ tg := tg_of 1211 (by decide +kernel) rfl
theorem t_1227 : Cond.methodLink RL 27 yX8_boxOf ∈ tg := tg_of 1227 (by decide +kernel) rfl
theorem t_1228 : Cond.instanceMethod yX8_boxOf ∈ tg := tg_of 1228 (by decide +kernel) rfl
theorem t_1229 : Cond.selects RX8 yX8_boxOf yX8_boxOf ∈ tg := tg_of 1229 (by decide +kernel) rfl
theorem t_1231 : Cond.methodLink RL 31 yX8_row ∈ tg := tg_of 1231 (by decide +kernel) rfl
theorem t_1232 : Cond.instanceMethod yX8_row ∈ tg := tg_of 1232 (by decide +kernel) rfl
theorem t_1233 : Cond.selects RX8 yX8_row yX8_row ∈ tg := tg_of 1233 (by decide +kernel) rfl
theorem t_1246 : Cond.methodLink RL 35 yX8_of ∈ tg := tg_of 1246 (by decide +kernel) rfl
theorem t_1247 : Cond.instanceMethod yX8_of ∈ tg := tg_of 1247 (by decide +kernel) rfl
theorem t_1248 : Cond.selects RX8 yX8_of yX8_of ∈ tg := tg_of 1248 (by decide +kernel) rfl
theorem t_1275 : Cond.methodLink RL 39 yX8_change ∈ tg := tg_of 1275 (by decide +kernel) rfl
theorem t_1276 : Cond.instanceMethod yX8_change ∈ tg := tg_of 1276 (by decide +kernel) rfl
theorem t_1277 : Cond.selects RX8 yX8_change yX8_change ∈ tg := tg_of 1277 (by decide +kernel) rfl
theorem t_1280 : Cond.methodLink RL 43 yX8_as ∈ tg := tg_of 1280 (by decide +kernel) rfl
theorem t_1281 : Cond.instanceMethod yX8_as ∈ tg := tg_of 1281 (by decide +kernel) rfl
theorem t_1282 : Cond.selects RX8 yX8_as yX8_as ∈ tg := tg_of 1282 (by decide +kernel) rfl
theorem t_1285 : Cond.methodLink RL 48 yX8_drop ∈ tg := tg_of 1285 (by decide +kernel) rfl
theorem t_1286 : Cond.instanceMethod yX8_drop ∈ tg := tg_of 1286 (by decide +kernel) rfl
theorem t_1287 : Cond.selects RX8 yX8_drop yX8_drop ∈ tg := tg_of 1287 (by decide +kernel) rfl
theorem t_1290 : Cond.methodLink RL 52 yX8_many ∈ tg := tg_of 1290 (by decide +kernel) rfl
theorem t_1291 : Cond.instanceMethod yX8_many ∈ tg := tg_of 1291 (by decide +kernel) rfl
theorem t_1292 : Cond.selects RX8 yX8_many yX8_many ∈ tg := tg_of 1292 (by decide +kernel) rfl
theorem t_1317 : Cond.methodLink RL 56 yX8_point ∈ tg := tg_of 1317 (by decide +kernel) rfl
theorem t_1318 : Cond.instanceMethod yX8_point ∈ tg := tg_of 1318 (by decide +kernel) rfl
theorem t_1319 : Cond.selects RX8 yX8_point yX8_point ∈ tg := tg_of 1319 (by decide +kernel) rfl
theorem t_1325 : Cond.methodLink RL 60 yX8_holds ∈ tg := tg_of 1325 (by decide +kernel) rfl
theorem t_1326 : Cond.instanceMethod yX8_holds ∈ tg := tg_of 1326 (by decide +kernel) rfl
theorem t_1327 : Cond.selects RX8 yX8_holds yX8_holds ∈ tg := tg_of 1327 (by decide +kernel) rfl
theorem t_1344 : Cond.methodLink RL 64 yX8_best ∈ tg := tg_of 1344 (by decide +kernel) rfl
theorem t_1345 : Cond.instanceMethod yX8_best ∈ tg := tg_of 1345 (by decide +kernel) rfl
theorem t_1346 : Cond.selects RX8 yX8_best yX8_best ∈ tg := tg_of 1346 (by decide +kernel) rfl
theorem t_1357 : Cond.methodLink RL 68 yX8_thin ∈ tg := tg_of 1357 (by decide +kernel) rfl
theorem t_1358 : Cond.instanceMethod yX8_thin ∈ tg := tg_of 1358 (by decide +kernel) rfl
theorem t_1359 : Cond.selects RX8 yX8_thin yX8_thin ∈ tg := tg_of 1359 (by decide +kernel) rfl
theorem t_1361 : Cond.methodLink RL 72 yX8_mean ∈ tg := tg_of 1361 (by decide +kernel) rfl
theorem t_1362 : Cond.instanceMethod yX8_mean ∈ tg := tg_of 1362 (by decide +kernel) rfl
theorem t_1363 : Cond.selects RX8 yX8_mean yX8_mean ∈ tg := tg_of 1363 (by decide +kernel) rfl
theorem t_1368 : Cond.methodLink RL 76 yX8_round ∈ tg := tg_of 1368 (by decide +kernel) rfl
theorem t_1369 : Cond.instanceMethod yX8_round ∈ tg := tg_of 1369 (by decide +kernel) rfl
theorem t_1370 : Cond.selects RX8 yX8_round yX8_round ∈ tg := tg_of 1370 (by decide +kernel) rfl
theorem t_1372 : Cond.methodLink RL 80 yX8_tree ∈ tg := tg_of 1372 (by decide +kernel) rfl
theorem t_1373 : Cond.instanceMethod yX8_tree ∈ tg := tg_of 1373 (by decide +kernel) rfl
theorem t_1374 : Cond.selects RX8 yX8_tree yX8_tree ∈ tg := tg_of 1374 (by decide +kernel) rfl
theorem t_1411 : Cond.methodLink RL 84 yX8_leaf ∈ tg := tg_of 1411 (by decide +kernel) rfl
theorem t_1412 : Cond.instanceMethod yX8_leaf ∈ tg := tg_of 1412 (by decide +kernel) rfl
theorem t_1413 : Cond.selects RX8 yX8_leaf yX8_leaf ∈ tg := tg_of 1413 (by decide +kernel) rfl
theorem t_1415 : Cond.methodLink RL 88 yX8_side ∈ tg := tg_of 1415 (by decide +kernel) rfl
theorem t_1416 : Cond.instanceMethod yX8_side ∈ tg := tg_of 1416 (by decide +kernel) rfl
theorem t_1417 : Cond.selects RX8 yX8_side yX8_side ∈ tg := tg_of 1417 (by decide +kernel) rfl
theorem t_1419 : Cond.methodLink RL 92 yX8_where ∈ tg := tg_of 1419 (by decide +kernel) rfl
theorem t_1420 : Cond.instanceMethod yX8_where ∈ tg := tg_of 1420 (by decide +kernel) rfl
theorem t_1421 : Cond.selects RX8 yX8_where yX8_where ∈ tg := tg_of 1421 (by decide +kernel) rfl
theorem t_1423 : Cond.methodLink RL 96 yX8_judge ∈ tg := tg_of 1423 (by decide +kernel) rfl
theorem t_1424 : Cond.instanceMethod yX8_judge ∈ tg := tg_of 1424 (by decide +kernel) rfl
theorem t_1425 : Cond.selects RX8 yX8_judge yX8_judge ∈ tg := tg_of 1425 (by decide +kernel) rfl
theorem t_1427 : Cond.methodLink RL 100 yX8_needs ∈ tg := tg_of 1427 (by decide +kernel) rfl
theorem t_1428 : Cond.instanceMethod yX8_needs ∈ tg := tg_of 1428 (by decide +kernel) rfl
theorem t_1429 : Cond.selects RX8 yX8_needs yX8_needs ∈ tg := tg_of 1429 (by decide +kernel) rfl
theorem t_1434 : Cond.methodLink RL 104 yX8_without ∈ tg := tg_of 1434 (by decide +kernel) rfl
theorem t_1435 : Cond.instanceMethod yX8_without ∈ tg := tg_of 1435 (by decide +kernel) rfl
theorem t_1436 : Cond.selects RX8 yX8_without yX8_without ∈ tg := tg_of 1436 (by decide +kernel) rfl
theorem t_1438 : Cond.methodLink RL 108 yX8_kind ∈ tg := tg_of 1438 (by decide +kernel) rfl
theorem t_1439 : Cond.instanceMethod yX8_kind ∈ tg := tg_of 1439 (by decide +kernel) rfl
theorem t_1440 : Cond.selects RX8 yX8_kind yX8_kind ∈ tg := tg_of 1440 (by decide +kernel) rfl
theorem t_1442 : Cond.methodLink RL 112 yX8_boundFor ∈ tg := tg_of 1442 (by decide +kernel) rfl
theorem t_1443 : Cond.instanceMethod yX8_boundFor ∈ tg := tg_of 1443 (by decide +kernel) rfl
theorem t_1444 : Cond.selects RX8 yX8_boundFor yX8_boundFor ∈ tg := tg_of 1444 (by decide +kernel) rfl
theorem t_1446 : Cond.methodLink RL 116 yX8_base ∈ tg := tg_of 1446 (by decide +kernel) rfl
theorem t_1447 : Cond.instanceMethod yX8_base ∈ tg := tg_of 1447 (by decide +kernel) rfl
theorem t_1448 : Cond.selects RX8 yX8_base yX8_base ∈ tg := tg_of 1448 (by decide +kernel) rfl
theorem t_1451 : Cond.methodLink RL 120 yX8_baseOf ∈ tg := tg_of 1451 (by decide +kernel) rfl
theorem t_1452 : Cond.instanceMethod yX8_baseOf ∈ tg := tg_of 1452 (by decide +kernel) rfl
theorem t_1453 : Cond.selects RX8 yX8_baseOf yX8_baseOf ∈ tg := tg_of 1453 (by decide +kernel) rfl
theorem t_1455 : Cond.methodLink RL 124 yX8_mix ∈ tg := tg_of 1455 (by decide +kernel) rfl
theorem t_1456 : Cond.instanceMethod yX8_mix ∈ tg := tg_of 1456 (by decide +kernel) rfl
theorem t_1457 : Cond.selects RX8 yX8_mix yX8_mix ∈ tg := tg_of 1457 (by decide +kernel) rfl
theorem t_1464 : Cond.methodLink RL 128 yX8_swap ∈ tg := tg_of 1464 (by decide +kernel) rfl
theorem t_1465 : Cond.instanceMethod yX8_swap ∈ tg := tg_of 1465 (by decide +kernel) rfl
theorem t_1466 : Cond.selects RX8 yX8_swap yX8_swap ∈ tg := tg_of 1466 (by decide +kernel) rfl
theorem t_1468 : Cond.methodLink RL 132 yX8_det ∈ tg := tg_of 1468 (by decide +kernel) rfl
theorem t_1469 : Cond.instanceMethod yX8_det ∈ tg := tg_of 1469 (by decide +kernel) rfl
theorem t_1470 : Cond.selects RX8 yX8_det yX8_det ∈ tg := tg_of 1470 (by decide +kernel) rfl
theorem t_1488 : Cond.methodLink RL 136 yX8_form ∈ tg := tg_of 1488 (by decide +kernel) rfl
theorem t_1489 : Cond.instanceMethod yX8_form ∈ tg := tg_of 1489 (by decide +kernel) rfl
theorem t_1490 : Cond.selects RX8 yX8_form yX8_form ∈ tg := tg_of 1490 (by decide +kernel) rfl
theorem t_1492 : Cond.methodLink RL 140 yX8_shortest ∈ tg := tg_of 1492 (by decide +kernel) rfl
theorem t_1493 : Cond.instanceMethod yX8_shortest ∈ tg := tg_of 1493 (by decide +kernel) rfl
theorem t_1494 : Cond.selects RX8 yX8_shortest yX8_shortest ∈ tg := tg_of 1494 (by decide +kernel) rfl
theorem t_1504 : Cond.methodLink RL 144 yX8_common_ ∈ tg := tg_of 1504 (by decide +kernel) rfl
theorem t_1505 : Cond.instanceMethod yX8_common_ ∈ tg := tg_of 1505 (by decide +kernel) rfl
theorem t_1506 : Cond.selects RX8 yX8_common_ yX8_common_ ∈ tg := tg_of 1506 (by decide +kernel) rfl
theorem t_1508 : Cond.methodLink RL 148 yX8_lies ∈ tg := tg_of 1508 (by decide +kernel) rfl
theorem t_1509 : Cond.instanceMethod yX8_lies ∈ tg := tg_of 1509 (by decide +kernel) rfl
theorem t_1510 : Cond.selects RX8 yX8_lies yX8_lies ∈ tg := tg_of 1510 (by decide +kernel) rfl
theorem t_1512 : Cond.methodLink RL 152 yX8_feed ∈ tg := tg_of 1512 (by decide +kernel) rfl
theorem t_1513 : Cond.instanceMethod yX8_feed ∈ tg := tg_of 1513 (by decide +kernel) rfl
theorem t_1514 : Cond.selects RX8 yX8_feed yX8_feed ∈ tg := tg_of 1514 (by decide +kernel) rfl
theorem t_1516 : Cond.methodLink RL 156 yX8_wipe ∈ tg := tg_of 1516 (by decide +kernel) rfl
theorem t_1517 : Cond.instanceMethod yX8_wipe ∈ tg := tg_of 1517 (by decide +kernel) rfl
theorem t_1518 : Cond.selects RX8 yX8_wipe yX8_wipe ∈ tg := tg_of 1518 (by decide +kernel) rfl
theorem t_1520 : Cond.methodLink RL 160 yX8_text ∈ tg := tg_of 1520 (by decide +kernel) rfl
theorem t_1521 : Cond.instanceMethod yX8_text ∈ tg := tg_of 1521 (by decide +kernel) rfl
theorem t_1522 : Cond.selects RX8 yX8_text yX8_text ∈ tg := tg_of 1522 (by decide +kernel) rfl
theorem t_1584 : Cond.methodLink RL 164 yX8_sheet ∈ tg := tg_of 1584 (by decide +kernel) rfl
theorem t_1585 : Cond.instanceMethod yX8_sheet ∈ tg := tg_of 1585 (by decide +kernel) rfl
theorem t_1586 : Cond.selects RX8 yX8_sheet yX8_sheet ∈ tg := tg_of 1586 (by decide +kernel) rfl
theorem t_1588 : Cond.methodLink RL 171 yX8_write ∈ tg := tg_of 1588 (by decide +kernel) rfl
theorem t_1589 : Cond.instanceMethod yX8_write ∈ tg := tg_of 1589 (by decide +kernel) rfl
theorem t_1590 : Cond.selects RX8 yX8_write yX8_write ∈ tg := tg_of 1590 (by decide +kernel) rfl
theorem t_1595 : Cond.methodLink RL 176 yX8_copy ∈ tg := tg_of 1595 (by decide +kernel) rfl
theorem t_1596 : Cond.instanceMethod yX8_copy ∈ tg := tg_of 1596 (by decide +kernel) rfl
theorem t_1597 : Cond.selects RX8 yX8_copy yX8_copy ∈ tg := tg_of 1597 (by decide +kernel) rfl
theorem t_1599 : Cond.methodLink RL 180 yX8_lays ∈ tg := tg_of 1599 (by decide +kernel) rfl
theorem t_1600 : Cond.instanceMethod yX8_lays ∈ tg := tg_of 1600 (by decide +kernel) rfl
theorem t_1601 : Cond.selects RX8 yX8_lays yX8_lays ∈ tg := tg_of 1601 (by decide +kernel) rfl
theorem t_1603 : Cond.methodLink RL 184 yX8_image ∈ tg := tg_of 1603 (by decide +kernel) rfl
theorem t_1604 : Cond.instanceMethod yX8_image ∈ tg := tg_of 1604 (by decide +kernel) rfl
theorem t_1605 : Cond.selects RX8 yX8_image yX8_image ∈ tg := tg_of 1605 (by decide +kernel) rfl
theorem t_1607 : Cond.methodLink RL 188 yX8_undo ∈ tg := tg_of 1607 (by decide +kernel) rfl
theorem t_1608 : Cond.instanceMethod yX8_undo ∈ tg := tg_of 1608 (by decide +kernel) rfl
theorem t_1609 : Cond.selects RX8 yX8_undo yX8_undo ∈ tg := tg_of 1609 (by decide +kernel) rfl
theorem t_1611 : Cond.methodLink RL 192 yX8_tear ∈ tg := tg_of 1611 (by decide +kernel) rfl
theorem t_1612 : Cond.instanceMethod yX8_tear ∈ tg := tg_of 1612 (by decide +kernel) rfl
theorem t_1613 : Cond.selects RX8 yX8_tear yX8_tear ∈ tg := tg_of 1613 (by decide +kernel) rfl
theorem t_1615 : Cond.methodLink RL 196 yX8_count ∈ tg := tg_of 1615 (by decide +kernel) rfl
theorem t_1616 : Cond.instanceMethod yX8_count ∈ tg := tg_of 1616 (by decide +kernel) rfl
theorem t_1617 : Cond.selects RX8 yX8_count yX8_count ∈ tg := tg_of 1617 (by decide +kernel) rfl
theorem t_1619 : Cond.methodLink RL 200 yX8_status ∈ tg := tg_of 1619 (by decide +kernel) rfl
theorem t_1620 : Cond.instanceMethod yX8_status ∈ tg := tg_of 1620 (by decide +kernel) rfl
theorem t_1621 : Cond.selects RX8 yX8_status yX8_status ∈ tg := tg_of 1621 (by decide +kernel) rfl
theorem wv_RL_13 : okV RL 13 yX7_letters := ⟨t_384, t_385, t_386, t_85⟩
theorem wv_RL_17 : okV RL 17 yX8_letters := ⟨t_1191, t_1192, t_1193, t_93⟩
theorem wv_RL_18 : okV RL 18 yX7_box := ⟨t_405, t_406, t_407, t_85⟩
theorem wv_RL_22 : okV RL 22 yX8_box := ⟨t_1209, t_1210, t_1211, t_93⟩
theorem wv_RL_23 : okV RL 23 yX7_boxOf := ⟨t_429, t_430, t_431, t_85⟩
theorem wv_RL_27 : okV RL 27 yX8_boxOf := ⟨t_1227, t_1228, t_1229, t_93⟩
theorem wv_RL_28 : okV RL 28 yX7_row := ⟨t_433, t_434, t_435, t_85⟩
theorem wv_RL_31 : okV RL 31 yX8_row := ⟨t_1231, t_1232, t_1233, t_93⟩
theorem wv_RL_32 : okV RL 32 yX7_of := ⟨t_448, t_449, t_450, t_85⟩
theorem wv_RL_35 : okV RL 35 yX8_of := ⟨t_1246, t_1247, t_1248, t_93⟩
theorem wv_RL_36 : okV RL 36 yX7_change := ⟨t_468, t_469, t_470, t_85⟩
theorem wv_RL_39 : okV RL 39 yX8_change := ⟨t_1275, t_1276, t_1277, t_93⟩
theorem wv_RL_40 : okV RL 40 yX7_as := ⟨t_476, t_477, t_478, t_85⟩
theorem wv_RL_43 : okV RL 43 yX8_as := ⟨t_1280, t_1281, t_1282, t_93⟩
theorem wv_RL_44 : okV RL 44 yX7_drop := ⟨t_485, t_486, t_487, t_85⟩
theorem wv_RL_48 : okV RL 48 yX8_drop := ⟨t_1285, t_1286, t_1287, t_93⟩
theorem wv_RL_49 : okV RL 49 yX7_many := ⟨t_489, t_490, t_491, t_85⟩
theorem wv_RL_52 : okV RL 52 yX8_many := ⟨t_1290, t_1291, t_1292, t_93⟩
theorem wv_RL_53 : okV RL 53 yX7_point := ⟨t_530, t_531, t_532, t_85⟩
theorem wv_RL_56 : okV RL 56 yX8_point := ⟨t_1317, t_1318, t_1319, t_93⟩
theorem wv_RL_57 : okV RL 57 yX7_holds := ⟨t_553, t_554, t_555, t_85⟩
theorem wv_RL_60 : okV RL 60 yX8_holds := ⟨t_1325, t_1326, t_1327, t_93⟩
theorem wv_RL_61 : okV RL 61 yX7_best := ⟨t_579, t_580, t_581, t_85⟩
theorem wv_RL_64 : okV RL 64 yX8_best := ⟨t_1344, t_1345, t_1346, t_93⟩
theorem wv_RL_65 : okV RL 65 yX7_thin := ⟨t_595, t_596, t_597, t_85⟩
theorem wv_RL_68 : okV RL 68 yX8_thin := ⟨t_1357, t_1358, t_1359, t_93⟩
theorem wv_RL_69 : okV RL 69 yX7_mean := ⟨t_606, t_607, t_608, t_85⟩
theorem wv_RL_72 : okV RL 72 yX8_mean := ⟨t_1361, t_1362, t_1363, t_93⟩
theorem wv_RL_73 : okV RL 73 yX7_round := ⟨t_622, t_623, t_624, t_85⟩
theorem wv_RL_76 : okV RL 76 yX8_round := ⟨t_1368, t_1369, t_1370, t_93⟩
theorem wv_RL_77 : okV RL 77 yX7_tree := ⟨t_639, t_640, t_641, t_85⟩
theorem wv_RL_80 : okV RL 80 yX8_tree := ⟨t_1372, t_1373, t_1374, t_93⟩
theorem wv_RL_81 : okV RL 81 yX7_leaf := ⟨t_683, t_684, t_685, t_85⟩
theorem wv_RL_84 : okV RL 84 yX8_leaf := ⟨t_1411, t_1412, t_1413, t_93⟩
theorem wv_RL_85 : okV RL 85 yX7_side := ⟨t_709, t_710, t_711, t_85⟩
theorem wv_RL_88 : okV RL 88 yX8_side := ⟨t_1415, t_1416, t_1417, t_93⟩
theorem wv_RL_89 : okV RL 89 yX7_where := ⟨t_715, t_716, t_717, t_85⟩
theorem wv_RL_92 : okV RL 92 yX8_where := ⟨t_1419, t_1420, t_1421, t_93⟩
theorem wv_RL_93 : okV RL 93 yX7_judge := ⟨t_727, t_728, t_729, t_85⟩
theorem wv_RL_96 : okV RL 96 yX8_judge := ⟨t_1423, t_1424, t_1425, t_93⟩
theorem wv_RL_97 : okV RL 97 yX7_needs := ⟨t_737, t_738, t_739, t_85⟩
theorem wv_RL_100 : okV RL 100 yX8_needs := ⟨t_1427, t_1428, t_1429, t_93⟩
theorem wv_RL_101 : okV RL 101 yX7_without := ⟨t_751, t_752, t_753, t_85⟩
theorem wv_RL_104 : okV RL 104 yX8_without := ⟨t_1434, t_1435, t_1436, t_93⟩
theorem wv_RL_105 : okV RL 105 yX7_kind := ⟨t_763, t_764, t_765, t_85⟩
theorem wv_RL_108 : okV RL 108 yX8_kind := ⟨t_1438, t_1439, t_1440, t_93⟩
theorem wv_RL_109 : okV RL 109 yX7_boundFor := ⟨t_777, t_778, t_779, t_85⟩
theorem wv_RL_112 : okV RL 112 yX8_boundFor := ⟨t_1442, t_1443, t_1444, t_93⟩
theorem wv_RL_113 : okV RL 113 yX7_base := ⟨t_789, t_790, t_791, t_85⟩
theorem wv_RL_116 : okV RL 116 yX8_base := ⟨t_1446, t_1447, t_1448, t_93⟩
theorem wv_RL_117 : okV RL 117 yX7_baseOf := ⟨t_793, t_794, t_795, t_85⟩
theorem wv_RL_120 : okV RL 120 yX8_baseOf := ⟨t_1451, t_1452, t_1453, t_93⟩
theorem wv_RL_121 : okV RL 121 yX7_mix := ⟨t_797, t_798, t_799, t_85⟩
theorem wv_RL_124 : okV RL 124 yX8_mix := ⟨t_1455, t_1456, t_1457, t_93⟩
theorem wv_RL_125 : okV RL 125 yX7_swap := ⟨t_805, t_806, t_807, t_85⟩
theorem wv_RL_128 : okV RL 128 yX8_swap := ⟨t_1464, t_1465, t_1466, t_93⟩
theorem wv_RL_129 : okV RL 129 yX7_det := ⟨t_809, t_810, t_811, t_85⟩
theorem wv_RL_132 : okV RL 132 yX8_det := ⟨t_1468, t_1469, t_1470, t_93⟩
theorem wv_RL_133 : okV RL 133 yX7_form := ⟨t_833, t_834, t_835, t_85⟩
theorem wv_RL_136 : okV RL 136 yX8_form := ⟨t_1488, t_1489, t_1490, t_93⟩
theorem wv_RL_137 : okV RL 137 yX7_shortest := ⟨t_837, t_838, t_839, t_85⟩
theorem wv_RL_140 : okV RL 140 yX8_shortest := ⟨t_1492, t_1493, t_1494, t_93⟩
theorem wv_RL_141 : okV RL 141 yX7_common := ⟨t_852, t_853, t_854, t_85⟩
theorem wv_RL_144 : okV RL 144 yX8_common_ := ⟨t_1504, t_1505, t_1506, t_93⟩
theorem wv_RL_145 : okV RL 145 yX7_lies := ⟨t_865, t_866, t_867, t_85⟩
theorem wv_RL_148 : okV RL 148 yX8_lies := ⟨t_1508, t_1509, t_1510, t_93⟩
theorem wv_RL_149 : okV RL 149 yX7_feed := ⟨t_869, t_870, t_871, t_85⟩
theorem wv_RL_152 : okV RL 152 yX8_feed := ⟨t_1512, t_1513, t_1514, t_93⟩
theorem wv_RL_153 : okV RL 153 yX7_wipe := ⟨t_877, t_878, t_879, t_85⟩
theorem wv_RL_156 : okV RL 156 yX8_wipe := ⟨t_1516, t_1517, t_1518, t_93⟩
theorem wv_RL_157 : okV RL 157 yX7_text := ⟨t_881, t_882, t_883, t_85⟩
theorem wv_RL_160 : okV RL 160 yX8_text := ⟨t_1520, t_1521, t_1522, t_93⟩
theorem wv_RL_161 : okV RL 161 yX7_sheet := ⟨t_1003, t_1004, t_1005, t_85⟩
theorem wv_RL_164 : okV RL 164 yX8_sheet := ⟨t_1584, t_1585, t_1586, t_93⟩
theorem wv_RL_167 : okV RL 167 yX7_write := ⟨t_1011, t_1012, t_1013, t_85⟩
theorem wv_RL_171 : okV RL 171 yX8_write := ⟨t_1588, t_1589, t_1590, t_93⟩
theorem wv_RL_172 : okV RL 172 yX7_copy := ⟨t_1019, t_1020, t_1021, t_85⟩
theorem wv_RL_176 : okV RL 176 yX8_copy := ⟨t_1595, t_1596, t_1597, t_93⟩
theorem wv_RL_177 : okV RL 177 yX7_lays := ⟨t_1028, t_1029, t_1030, t_85⟩
theorem wv_RL_180 : okV RL 180 yX8_lays := ⟨t_1599, t_1600, t_1601, t_93⟩
theorem wv_RL_181 : okV RL 181 yX7_image := ⟨t_1032, t_1033, t_1034, t_85⟩
theorem wv_RL_184 : okV RL 184 yX8_image := ⟨t_1603, t_1604, t_1605, t_93⟩
theorem wv_RL_185 : okV RL 185 yX7_undo := ⟨t_1036, t_1037, t_1038, t_85⟩
theorem wv_RL_188 : okV RL 188 yX8_undo := ⟨t_1607, t_1608, t_1609, t_93⟩
theorem wv_RL_189 : okV RL 189 yX7_tear := ⟨t_1040, t_1041, t_1042, t_85⟩
theorem wv_RL_192 : okV RL 192 yX8_tear := ⟨t_1611, t_1612, t_1613, t_93⟩
theorem wv_RL_193 : okV RL 193 yX7_count := ⟨t_1044, t_1045, t_1046, t_85⟩
theorem wv_RL_196 : okV RL 196 yX8_count := ⟨t_1615, t_1616, t_1617, t_93⟩
theorem wv_RL_197 : okV RL 197 yX7_status := ⟨t_1048, t_1049, t_1050, t_85⟩
theorem wv_RL_200 : okV RL 200 yX8_status := ⟨t_1619, t_1620, t_1621, t_93⟩
theorem lq_116 : (Jvm.Cond.arrayOver (Jvm.ClassFile.FieldType.object "ThinBodies$Row")) ∈ lw_tbl := List.mem_of_getElem? (i := 116) (by decide +kernel)
theorem lq_118 : (Jvm.Cond.arrayOver (Jvm.ClassFile.FieldType.array Jvm.ClassFile.FieldType.int)) ∈ lw_tbl := List.mem_of_getElem? (i := 118) (by decide +kernel)
theorem lq_120 : (Jvm.Cond.methodLinkNest "ThinBodies$Body" (36 : Nat) ({ cls := "ThinBodies$Row", name := "<init>", desc := "()V" } : Jvm.MethodName) "ThinBodies") ∈ lw_tbl := List.mem_of_getElem? (i := 120) (by decide +kernel)
theorem lq_187 : (Jvm.Cond.methodLinkNest "ThinBodies" (28 : Nat) ({ cls := "ThinBodies$Cloud", name := "<init>", desc := "()V" } : Jvm.MethodName) "ThinBodies") ∈ lw_tbl := List.mem_of_getElem? (i := 187) (by decide +kernel)
theorem lq_235 : (Jvm.Cond.methodLinkNest "ThinBodies" (35 : Nat) ({ cls := "ThinBodies$Tree", name := "<init>", desc := "()V" } : Jvm.MethodName) "ThinBodies") ∈ lw_tbl := List.mem_of_getElem? (i := 235) (by decide +kernel)
theorem lq_272 : (Jvm.Cond.methodLinkNest "ThinBodies" (42 : Nat) ({ cls := "ThinBodies$Lattice", name := "<init>", desc := "()V" } : Jvm.MethodName) "ThinBodies") ∈ lw_tbl := List.mem_of_getElem? (i := 272) (by decide +kernel)
theorem lq_277 : (Jvm.Cond.arrayOver (Jvm.ClassFile.FieldType.array Jvm.ClassFile.FieldType.long)) ∈ lw_tbl := List.mem_of_getElem? (i := 277) (by decide +kernel)
theorem lq_305 : (Jvm.Cond.methodLinkNest "ThinBodies" (49 : Nat) ({ cls := "ThinBodies$Reader", name := "<init>", desc := "()V" } : Jvm.MethodName) "ThinBodies") ∈ lw_tbl := List.mem_of_getElem? (i := 305) (by decide +kernel)
theorem lq_331 : (Jvm.Cond.arrayOver (Jvm.ClassFile.FieldType.object "ThinBodies$Sheet")) ∈ lw_tbl := List.mem_of_getElem? (i := 331) (by decide +kernel)
theorem lq_333 : (Jvm.Cond.methodLinkNest "ThinBodies" (67 : Nat) ({ cls := "ThinBodies$Sheet", name := "<init>", desc := "()V" } : Jvm.MethodName) "ThinBodies") ∈ lw_tbl := List.mem_of_getElem? (i := 333) (by decide +kernel)
theorem lq_483 : (Jvm.Cond.fieldLinkNest "ThinBodies$Row" (31 : Nat) "ThinBodies" "UNDER" "[I" "ThinBodies") ∈ lw_tbl := List.mem_of_getElem? (i := 483) (by decide +kernel)
theorem lq_484 : (Jvm.Cond.laysStatic "ThinBodies" "UNDER" "[I") ∈ lw_tbl := List.mem_of_getElem? (i := 484) (by decide +kernel)
theorem lq_523 : (Jvm.Cond.methodLinkNest "ThinBodies$Cloud" (75 : Nat) ({ cls := "ThinBodies", name := "pack", desc := "([II)I" } : Jvm.MethodName) "ThinBodies") ∈ lw_tbl := List.mem_of_getElem? (i := 523) (by decide +kernel)
theorem lq_550 : (Jvm.Cond.methodLinkNest "ThinBodies$Cloud" (90 : Nat) ({ cls := "ThinBodies", name := "unpack", desc := "(II)I" } : Jvm.MethodName) "ThinBodies") ∈ lw_tbl := List.mem_of_getElem? (i := 550) (by decide +kernel)
theorem lq_674 : (Jvm.Cond.methodLinkNest "ThinBodies$Tree" (97 : Nat) ({ cls := "ThinBodies", name := "pack", desc := "([II)I" } : Jvm.MethodName) "ThinBodies") ∈ lw_tbl := List.mem_of_getElem? (i := 674) (by decide +kernel)
theorem lq_704 : (Jvm.Cond.methodLinkNest "ThinBodies$Tree" (106 : Nat) ({ cls := "ThinBodies", name := "unpack", desc := "(II)I" } : Jvm.MethodName) "ThinBodies") ∈ lw_tbl := List.mem_of_getElem? (i := 704) (by decide +kernel)
theorem lq_775 : (Jvm.Cond.methodLinkNest "ThinBodies$Row" (34 : Nat) ({ cls := "ThinBodies", name := "unpack", desc := "(II)I" } : Jvm.MethodName) "ThinBodies") ∈ lw_tbl := List.mem_of_getElem? (i := 775) (by decide +kernel)
theorem lq_912 : (Jvm.Cond.stringRef "ThinBodies$Reader" (73 : Nat) "letters") ∈ lw_tbl := List.mem_of_getElem? (i := 912) (by decide +kernel)
theorem lq_926 : (Jvm.Cond.laysStatic "java/lang/String" "COMPACT_STRINGS" "Z") ∈ lw_tbl := List.mem_of_getElem? (i := 926) (by decide +kernel)
theorem lq_942 : (Jvm.Cond.laysStatic "jdk/internal/util/Preconditions" "SIOOBE_FORMATTER" "Ljava/util/function/BiFunction;") ∈ lw_tbl := List.mem_of_getElem? (i := 942) (by decide +kernel)
theorem lq_960 : (Jvm.Cond.laysStatic "java/lang/StringUTF16" "$assertionsDisabled" "Z") ∈ lw_tbl := List.mem_of_getElem? (i := 960) (by decide +kernel)
theorem lq_962 : (Jvm.Cond.laysStatic "java/lang/StringUTF16" "HI_BYTE_SHIFT" "I") ∈ lw_tbl := List.mem_of_getElem? (i := 962) (by decide +kernel)
theorem lq_964 : (Jvm.Cond.laysStatic "java/lang/StringUTF16" "LO_BYTE_SHIFT" "I") ∈ lw_tbl := List.mem_of_getElem? (i := 964) (by decide +kernel)
theorem lq_975 : (Jvm.Cond.stringRef "ThinBodies$Reader" (78 : Nat) "box") ∈ lw_tbl := List.mem_of_getElem? (i := 975) (by decide +kernel)
theorem lq_990 : (Jvm.Cond.stringRef "ThinBodies$Reader" (57 : Nat) "row") ∈ lw_tbl := List.mem_of_getElem? (i := 990) (by decide +kernel)
theorem lq_991 : (Jvm.Cond.stringRef "ThinBodies$Reader" (63 : Nat) "tie") ∈ lw_tbl := List.mem_of_getElem? (i := 991) (by decide +kernel)
theorem lq_992 : (Jvm.Cond.stringRef "ThinBodies$Reader" (65 : Nat) "band") ∈ lw_tbl := List.mem_of_getElem? (i := 992) (by decide +kernel)
theorem lq_993 : (Jvm.Cond.stringRef "ThinBodies$Reader" (67 : Nat) "comb") ∈ lw_tbl := List.mem_of_getElem? (i := 993) (by decide +kernel)
theorem lq_994 : (Jvm.Cond.stringRef "ThinBodies$Reader" (69 : Nat) "off") ∈ lw_tbl := List.mem_of_getElem? (i := 994) (by decide +kernel)
theorem lq_995 : (Jvm.Cond.stringRef "ThinBodies$Reader" (71 : Nat) "least") ∈ lw_tbl := List.mem_of_getElem? (i := 995) (by decide +kernel)
theorem lq_1001 : (Jvm.Cond.stringRef "ThinBodies$Reader" (130 : Nat) "bound") ∈ lw_tbl := List.mem_of_getElem? (i := 1001) (by decide +kernel)
theorem lq_1002 : (Jvm.Cond.stringRef "ThinBodies$Reader" (134 : Nat) "within") ∈ lw_tbl := List.mem_of_getElem? (i := 1002) (by decide +kernel)
theorem lq_85 : (Jvm.Cond.initialized "ThinBodies") ∈ lw_tbl := List.mem_of_getElem? (i := 85) (by decide +kernel)
theorem lq_93 : (Jvm.Cond.initialized "ThinBodiesModel") ∈ lw_tbl := List.mem_of_getElem? (i := 93) (by decide +kernel)
theorem lq_97 : (Jvm.Cond.initialized "java/lang/String") ∈ lw_tbl := List.mem_of_getElem? (i := 97) (by decide +kernel)
theorem lq_99 : (Jvm.Cond.initialized "jdk/internal/util/Preconditions") ∈ lw_tbl := List.mem_of_getElem? (i := 99) (by decide +kernel)
theorem lq_102 : (Jvm.Cond.instantiable "ThinBodies" (11 : Nat)) ∈ lw_tbl := List.mem_of_getElem? (i := 102) (by decide +kernel)
theorem lq_1053 : (Jvm.Cond.instantiable "ThinBodiesModel" (42 : Nat)) ∈ lw_tbl := List.mem_of_getElem? (i := 1053) (by decide +kernel)
theorem lq_101 : (Jvm.Cond.classLink "ThinBodiesLaw" (7 : Nat) "ThinBodies") ∈ lw_tbl := List.mem_of_getElem? (i := 101) (by decide +kernel)
theorem lq_1052 : (Jvm.Cond.classLink "ThinBodiesLaw" (10 : Nat) "ThinBodiesModel") ∈ lw_tbl := List.mem_of_getElem? (i := 1052) (by decide +kernel)
theorem lq_1624 : (Jvm.Cond.constantLong "ThinBodiesLaw" (165 : Nat) (4294967295 : Int64)) ∈ lw_tbl := List.mem_of_getElem? (i := 1624) (by decide +kernel)
