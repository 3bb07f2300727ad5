theorem b_43 : Cond.initialized RL ∈ BIG := List.mem_filter.mpr ⟨List.mem_of_getElem? (i := 43) (by decide +kernel), by decide +kernel⟩
theorem b_246 : Cond.static yL_make ∈ BIG := List.mem_filter.mpr ⟨List.mem_of_getElem? (i := 246) (by decide +kernel), by decide +kernel⟩
theorem b_245 : Cond.methodLink RL 86 yL_make ∈ BIG := List.mem_filter.mpr ⟨List.mem_of_getElem? (i := 245) (by decide +kernel), by decide +kernel⟩
theorem b_851 : Cond.code yX5_make cX5_make 6 (some .int) ∈ BIG := List.mem_filter.mpr ⟨List.mem_of_getElem? (i := 851) (by decide +kernel), by decide +kernel⟩
theorem b_849 : Cond.instanceMethod yX5_make ∈ BIG := List.mem_filter.mpr ⟨List.mem_of_getElem? (i := 849) (by decide +kernel), by decide +kernel⟩
theorem b_850 : Cond.selects RX5 yX5_make yX5_make ∈ BIG := List.mem_filter.mpr ⟨List.mem_of_getElem? (i := 850) (by decide +kernel), by decide +kernel⟩
theorem b_848 : Cond.methodLink RL 89 yX5_make ∈ BIG := List.mem_filter.mpr ⟨List.mem_of_getElem? (i := 848) (by decide +kernel), by decide +kernel⟩
theorem b_847 : Cond.code yX5_thrown cX5_thrown 1 (some .int) ∈ BIG := List.mem_filter.mpr ⟨List.mem_of_getElem? (i := 847) (by decide +kernel), by decide +kernel⟩
theorem b_845 : Cond.instanceMethod yX5_thrown ∈ BIG := List.mem_filter.mpr ⟨List.mem_of_getElem? (i := 845) (by decide +kernel), by decide +kernel⟩
theorem b_846 : Cond.selects RX5 yX5_thrown yX5_thrown ∈ BIG := List.mem_filter.mpr ⟨List.mem_of_getElem? (i := 846) (by decide +kernel), by decide +kernel⟩
theorem b_844 : Cond.methodLink RL 90 yX5_thrown ∈ BIG := List.mem_filter.mpr ⟨List.mem_of_getElem? (i := 844) (by decide +kernel), by decide +kernel⟩
theorem b_431 : Cond.static yL_push ∈ BIG := List.mem_filter.mpr ⟨List.mem_of_getElem? (i := 431) (by decide +kernel), by decide +kernel⟩
theorem b_430 : Cond.methodLink RL 94 yL_push ∈ BIG := List.mem_filter.mpr ⟨List.mem_of_getElem? (i := 430) (by decide +kernel), by decide +kernel⟩
theorem b_929 : Cond.code yX5_push cX5_push 6 (some .int) ∈ BIG := List.mem_filter.mpr ⟨List.mem_of_getElem? (i := 929) (by decide +kernel), by decide +kernel⟩
theorem b_927 : Cond.instanceMethod yX5_push ∈ BIG := List.mem_filter.mpr ⟨List.mem_of_getElem? (i := 927) (by decide +kernel), by decide +kernel⟩
theorem b_928 : Cond.selects RX5 yX5_push yX5_push ∈ BIG := List.mem_filter.mpr ⟨List.mem_of_getElem? (i := 928) (by decide +kernel), by decide +kernel⟩
theorem b_926 : Cond.methodLink RL 97 yX5_push ∈ BIG := List.mem_filter.mpr ⟨List.mem_of_getElem? (i := 926) (by decide +kernel), by decide +kernel⟩
theorem b_446 : Cond.static yL_put ∈ BIG := List.mem_filter.mpr ⟨List.mem_of_getElem? (i := 446) (by decide +kernel), by decide +kernel⟩
theorem b_445 : Cond.methodLink RL 98 yL_put ∈ BIG := List.mem_filter.mpr ⟨List.mem_of_getElem? (i := 445) (by decide +kernel), by decide +kernel⟩
theorem b_937 : Cond.code yX5_put cX5_put 6 (some .int) ∈ BIG := List.mem_filter.mpr ⟨List.mem_of_getElem? (i := 937) (by decide +kernel), by decide +kernel⟩
theorem b_935 : Cond.instanceMethod yX5_put ∈ BIG := List.mem_filter.mpr ⟨List.mem_of_getElem? (i := 935) (by decide +kernel), by decide +kernel⟩
theorem b_936 : Cond.selects RX5 yX5_put yX5_put ∈ BIG := List.mem_filter.mpr ⟨List.mem_of_getElem? (i := 936) (by decide +kernel), by decide +kernel⟩
theorem b_934 : Cond.methodLink RL 100 yX5_put ∈ BIG := List.mem_filter.mpr ⟨List.mem_of_getElem? (i := 934) (by decide +kernel), by decide +kernel⟩
theorem b_492 : Cond.static yL_get ∈ BIG := List.mem_filter.mpr ⟨List.mem_of_getElem? (i := 492) (by decide +kernel), by decide +kernel⟩
theorem b_491 : Cond.methodLink RL 101 yL_get ∈ BIG := List.mem_filter.mpr ⟨List.mem_of_getElem? (i := 491) (by decide +kernel), by decide +kernel⟩
theorem b_945 : Cond.code yX5_get cX5_get 4 (some .int) ∈ BIG := List.mem_filter.mpr ⟨List.mem_of_getElem? (i := 945) (by decide +kernel), by decide +kernel⟩
theorem b_943 : Cond.instanceMethod yX5_get ∈ BIG := List.mem_filter.mpr ⟨List.mem_of_getElem? (i := 943) (by decide +kernel), by decide +kernel⟩
theorem b_944 : Cond.selects RX5 yX5_get yX5_get ∈ BIG := List.mem_filter.mpr ⟨List.mem_of_getElem? (i := 944) (by decide +kernel), by decide +kernel⟩
theorem b_942 : Cond.methodLink RL 103 yX5_get ∈ BIG := List.mem_filter.mpr ⟨List.mem_of_getElem? (i := 942) (by decide +kernel), by decide +kernel⟩
theorem b_499 : Cond.static yL_move ∈ BIG := List.mem_filter.mpr ⟨List.mem_of_getElem? (i := 499) (by decide +kernel), by decide +kernel⟩
theorem b_498 : Cond.methodLink RL 104 yL_move ∈ BIG := List.mem_filter.mpr ⟨List.mem_of_getElem? (i := 498) (by decide +kernel), by decide +kernel⟩
theorem b_949 : Cond.code yX5_move cX5_move 3 (some .int) ∈ BIG := List.mem_filter.mpr ⟨List.mem_of_getElem? (i := 949) (by decide +kernel), by decide +kernel⟩
theorem b_947 : Cond.instanceMethod yX5_move ∈ BIG := List.mem_filter.mpr ⟨List.mem_of_getElem? (i := 947) (by decide +kernel), by decide +kernel⟩
theorem b_948 : Cond.selects RX5 yX5_move yX5_move ∈ BIG := List.mem_filter.mpr ⟨List.mem_of_getElem? (i := 948) (by decide +kernel), by decide +kernel⟩
theorem b_946 : Cond.methodLink RL 107 yX5_move ∈ BIG := List.mem_filter.mpr ⟨List.mem_of_getElem? (i := 946) (by decide +kernel), by decide +kernel⟩
theorem b_506 : Cond.static yL_keep ∈ BIG := List.mem_filter.mpr ⟨List.mem_of_getElem? (i := 506) (by decide +kernel), by decide +kernel⟩
theorem b_505 : Cond.methodLink RL 108 yL_keep ∈ BIG := List.mem_filter.mpr ⟨List.mem_of_getElem? (i := 505) (by decide +kernel), by decide +kernel⟩
theorem b_953 : Cond.code yX5_keep cX5_keep 2 (some .int) ∈ BIG := List.mem_filter.mpr ⟨List.mem_of_getElem? (i := 953) (by decide +kernel), by decide +kernel⟩
theorem b_951 : Cond.instanceMethod yX5_keep ∈ BIG := List.mem_filter.mpr ⟨List.mem_of_getElem? (i := 951) (by decide +kernel), by decide +kernel⟩
theorem b_952 : Cond.selects RX5 yX5_keep yX5_keep ∈ BIG := List.mem_filter.mpr ⟨List.mem_of_getElem? (i := 952) (by decide +kernel), by decide +kernel⟩
theorem b_950 : Cond.methodLink RL 111 yX5_keep ∈ BIG := List.mem_filter.mpr ⟨List.mem_of_getElem? (i := 950) (by decide +kernel), by decide +kernel⟩
theorem b_515 : Cond.static yL_back ∈ BIG := List.mem_filter.mpr ⟨List.mem_of_getElem? (i := 515) (by decide +kernel), by decide +kernel⟩
theorem b_514 : Cond.methodLink RL 112 yL_back ∈ BIG := List.mem_filter.mpr ⟨List.mem_of_getElem? (i := 514) (by decide +kernel), by decide +kernel⟩
theorem b_957 : Cond.code yX5_back cX5_back 2 (some .int) ∈ BIG := List.mem_filter.mpr ⟨List.mem_of_getElem? (i := 957) (by decide +kernel), by decide +kernel⟩
theorem b_955 : Cond.instanceMethod yX5_back ∈ BIG := List.mem_filter.mpr ⟨List.mem_of_getElem? (i := 955) (by decide +kernel), by decide +kernel⟩
theorem b_956 : Cond.selects RX5 yX5_back yX5_back ∈ BIG := List.mem_filter.mpr ⟨List.mem_of_getElem? (i := 956) (by decide +kernel), by decide +kernel⟩
theorem b_954 : Cond.methodLink RL 114 yX5_back ∈ BIG := List.mem_filter.mpr ⟨List.mem_of_getElem? (i := 954) (by decide +kernel), by decide +kernel⟩
theorem b_526 : Cond.static yL_weak ∈ BIG := List.mem_filter.mpr ⟨List.mem_of_getElem? (i := 526) (by decide +kernel), by decide +kernel⟩
theorem b_525 : Cond.methodLink RL 115 yL_weak ∈ BIG := List.mem_filter.mpr ⟨List.mem_of_getElem? (i := 525) (by decide +kernel), by decide +kernel⟩
theorem b_961 : Cond.code yX5_weak cX5_weak 4 (some .int) ∈ BIG := List.mem_filter.mpr ⟨List.mem_of_getElem? (i := 961) (by decide +kernel), by decide +kernel⟩
theorem b_959 : Cond.instanceMethod yX5_weak ∈ BIG := List.mem_filter.mpr ⟨List.mem_of_getElem? (i := 959) (by decide +kernel), by decide +kernel⟩
theorem b_960 : Cond.selects RX5 yX5_weak yX5_weak ∈ BIG := List.mem_filter.mpr ⟨List.mem_of_getElem? (i := 960) (by decide +kernel), by decide +kernel⟩
theorem b_958 : Cond.methodLink RL 117 yX5_weak ∈ BIG := List.mem_filter.mpr ⟨List.mem_of_getElem? (i := 958) (by decide +kernel), by decide +kernel⟩
theorem b_536 : Cond.static yL_strong ∈ BIG := List.mem_filter.mpr ⟨List.mem_of_getElem? (i := 536) (by decide +kernel), by decide +kernel⟩
theorem b_535 : Cond.methodLink RL 118 yL_strong ∈ BIG := List.mem_filter.mpr ⟨List.mem_of_getElem? (i := 535) (by decide +kernel), by decide +kernel⟩
theorem b_965 : Cond.code yX5_strong cX5_strong 3 (some .int) ∈ BIG := List.mem_filter.mpr ⟨List.mem_of_getElem? (i := 965) (by decide +kernel), by decide +kernel⟩
theorem b_963 : Cond.instanceMethod yX5_strong ∈ BIG := List.mem_filter.mpr ⟨List.mem_of_getElem? (i := 963) (by decide +kernel), by decide +kernel⟩
theorem b_964 : Cond.selects RX5 yX5_strong yX5_strong ∈ BIG := List.mem_filter.mpr ⟨List.mem_of_getElem? (i := 964) (by decide +kernel), by decide +kernel⟩
theorem b_962 : Cond.methodLink RL 120 yX5_strong ∈ BIG := List.mem_filter.mpr ⟨List.mem_of_getElem? (i := 962) (by decide +kernel), by decide +kernel⟩
theorem b_543 : Cond.static yL_wish ∈ BIG := List.mem_filter.mpr ⟨List.mem_of_getElem? (i := 543) (by decide +kernel), by decide +kernel⟩
theorem b_542 : Cond.methodLink RL 121 yL_wish ∈ BIG := List.mem_filter.mpr ⟨List.mem_of_getElem? (i := 542) (by decide +kernel), by decide +kernel⟩
theorem b_969 : Cond.code yX5_wish cX5_wish 3 (some .int) ∈ BIG := List.mem_filter.mpr ⟨List.mem_of_getElem? (i := 969) (by decide +kernel), by decide +kernel⟩
theorem b_967 : Cond.instanceMethod yX5_wish ∈ BIG := List.mem_filter.mpr ⟨List.mem_of_getElem? (i := 967) (by decide +kernel), by decide +kernel⟩
theorem b_968 : Cond.selects RX5 yX5_wish yX5_wish ∈ BIG := List.mem_filter.mpr ⟨List.mem_of_getElem? (i := 968) (by decide +kernel), by decide +kernel⟩
theorem b_966 : Cond.methodLink RL 123 yX5_wish ∈ BIG := List.mem_filter.mpr ⟨List.mem_of_getElem? (i := 966) (by decide +kernel), by decide +kernel⟩
theorem b_555 : Cond.static yL_collect ∈ BIG := List.mem_filter.mpr ⟨List.mem_of_getElem? (i := 555) (by decide +kernel), by decide +kernel⟩
theorem b_554 : Cond.methodLink RL 124 yL_collect ∈ BIG := List.mem_filter.mpr ⟨List.mem_of_getElem? (i := 554) (by decide +kernel), by decide +kernel⟩
theorem b_973 : Cond.code yX5_collect cX5_collect 2 (some .int) ∈ BIG := List.mem_filter.mpr ⟨List.mem_of_getElem? (i := 973) (by decide +kernel), by decide +kernel⟩
theorem b_971 : Cond.instanceMethod yX5_collect ∈ BIG := List.mem_filter.mpr ⟨List.mem_of_getElem? (i := 971) (by decide +kernel), by decide +kernel⟩
theorem b_972 : Cond.selects RX5 yX5_collect yX5_collect ∈ BIG := List.mem_filter.mpr ⟨List.mem_of_getElem? (i := 972) (by decide +kernel), by decide +kernel⟩
theorem b_970 : Cond.methodLink RL 126 yX5_collect ∈ BIG := List.mem_filter.mpr ⟨List.mem_of_getElem? (i := 970) (by decide +kernel), by decide +kernel⟩
theorem b_563 : Cond.static yL_root ∈ BIG := List.mem_filter.mpr ⟨List.mem_of_getElem? (i := 563) (by decide +kernel), by decide +kernel⟩
theorem b_562 : Cond.methodLink RL 127 yL_root ∈ BIG := List.mem_filter.mpr ⟨List.mem_of_getElem? (i := 562) (by decide +kernel), by decide +kernel⟩
theorem b_977 : Cond.code yX5_root cX5_root 2 (some .int) ∈ BIG := List.mem_filter.mpr ⟨List.mem_of_getElem? (i := 977) (by decide +kernel), by decide +kernel⟩
theorem b_975 : Cond.instanceMethod yX5_root ∈ BIG := List.mem_filter.mpr ⟨List.mem_of_getElem? (i := 975) (by decide +kernel), by decide +kernel⟩
theorem b_976 : Cond.selects RX5 yX5_root yX5_root ∈ BIG := List.mem_filter.mpr ⟨List.mem_of_getElem? (i := 976) (by decide +kernel), by decide +kernel⟩
theorem b_974 : Cond.methodLink RL 129 yX5_root ∈ BIG := List.mem_filter.mpr ⟨List.mem_of_getElem? (i := 974) (by decide +kernel), by decide +kernel⟩
theorem b_570 : Cond.static yL_about ∈ BIG := List.mem_filter.mpr ⟨List.mem_of_getElem? (i := 570) (by decide +kernel), by decide +kernel⟩
theorem b_569 : Cond.methodLink RL 130 yL_about ∈ BIG := List.mem_filter.mpr ⟨List.mem_of_getElem? (i := 569) (by decide +kernel), by decide +kernel⟩
theorem b_981 : Cond.code yX5_about cX5_about 4 (some .int) ∈ BIG := List.mem_filter.mpr ⟨List.mem_of_getElem? (i := 981) (by decide +kernel), by decide +kernel⟩
theorem b_979 : Cond.instanceMethod yX5_about ∈ BIG := List.mem_filter.mpr ⟨List.mem_of_getElem? (i := 979) (by decide +kernel), by decide +kernel⟩
theorem b_980 : Cond.selects RX5 yX5_about yX5_about ∈ BIG := List.mem_filter.mpr ⟨List.mem_of_getElem? (i := 980) (by decide +kernel), by decide +kernel⟩
theorem b_978 : Cond.methodLink RL 132 yX5_about ∈ BIG := List.mem_filter.mpr ⟨List.mem_of_getElem? (i := 978) (by decide +kernel), by decide +kernel⟩
theorem b_588 : Cond.static yL_word ∈ BIG := List.mem_filter.mpr ⟨List.mem_of_getElem? (i := 588) (by decide +kernel), by decide +kernel⟩
theorem b_587 : Cond.methodLink RL 133 yL_word ∈ BIG := List.mem_filter.mpr ⟨List.mem_of_getElem? (i := 587) (by decide +kernel), by decide +kernel⟩
theorem b_989 : Cond.code yX5_word cX5_word 5 (some .int) ∈ BIG := List.mem_filter.mpr ⟨List.mem_of_getElem? (i := 989) (by decide +kernel), by decide +kernel⟩
theorem b_987 : Cond.instanceMethod yX5_word ∈ BIG := List.mem_filter.mpr ⟨List.mem_of_getElem? (i := 987) (by decide +kernel), by decide +kernel⟩
theorem b_988 : Cond.selects RX5 yX5_word yX5_word ∈ BIG := List.mem_filter.mpr ⟨List.mem_of_getElem? (i := 988) (by decide +kernel), by decide +kernel⟩
theorem b_986 : Cond.methodLink RL 135 yX5_word ∈ BIG := List.mem_filter.mpr ⟨List.mem_of_getElem? (i := 986) (by decide +kernel), by decide +kernel⟩
theorem b_603 : Cond.static yL_row ∈ BIG := List.mem_filter.mpr ⟨List.mem_of_getElem? (i := 603) (by decide +kernel), by decide +kernel⟩
theorem b_602 : Cond.methodLink RL 136 yL_row ∈ BIG := List.mem_filter.mpr ⟨List.mem_of_getElem? (i := 602) (by decide +kernel), by decide +kernel⟩
theorem b_993 : Cond.code yX5_row cX5_row 3 (some .int) ∈ BIG := List.mem_filter.mpr ⟨List.mem_of_getElem? (i := 993) (by decide +kernel), by decide +kernel⟩
theorem b_991 : Cond.instanceMethod yX5_row ∈ BIG := List.mem_filter.mpr ⟨List.mem_of_getElem? (i := 991) (by decide +kernel), by decide +kernel⟩
theorem b_992 : Cond.selects RX5 yX5_row yX5_row ∈ BIG := List.mem_filter.mpr ⟨List.mem_of_getElem? (i := 992) (by decide +kernel), by decide +kernel⟩
theorem b_990 : Cond.methodLink RL 138 yX5_row ∈ BIG := List.mem_filter.mpr ⟨List.mem_of_getElem? (i := 990) (by decide +kernel), by decide +kernel⟩
theorem b_614 : Cond.static yL_code ∈ BIG := List.mem_filter.mpr ⟨List.mem_of_getElem? (i := 614) (by decide +kernel), by decide +kernel⟩
theorem b_613 : Cond.methodLink RL 139 yL_code ∈ BIG := List.mem_filter.mpr ⟨List.mem_of_getElem? (i := 613) (by decide +kernel), by decide +kernel⟩
theorem b_1001 : Cond.code yX5_code cX5_code 5 (some .int) ∈ BIG := List.mem_filter.mpr ⟨List.mem_of_getElem? (i := 1001) (by decide +kernel), by decide +kernel⟩
theorem b_999 : Cond.instanceMethod yX5_code ∈ BIG := List.mem_filter.mpr ⟨List.mem_of_getElem? (i := 999) (by decide +kernel), by decide +kernel⟩
theorem b_1000 : Cond.selects RX5 yX5_code yX5_code ∈ BIG := List.mem_filter.mpr ⟨List.mem_of_getElem? (i := 1000) (by decide +kernel), by decide +kernel⟩
theorem b_998 : Cond.methodLink RL 142 yX5_code ∈ BIG := List.mem_filter.mpr ⟨List.mem_of_getElem? (i := 998) (by decide +kernel), by decide +kernel⟩
theorem b_241 : Cond.code yX4_scrap cX4_scrap 2 (some .int) ∈ BIG := List.mem_filter.mpr ⟨List.mem_of_getElem? (i := 241) (by decide +kernel), by decide +kernel⟩
theorem b_239 : Cond.instanceMethod yX4_scrap ∈ BIG := List.mem_filter.mpr ⟨List.mem_of_getElem? (i := 239) (by decide +kernel), by decide +kernel⟩
theorem b_240 : Cond.selects RX4 yX4_scrap yX4_scrap ∈ BIG := List.mem_filter.mpr ⟨List.mem_of_getElem? (i := 240) (by decide +kernel), by decide +kernel⟩
theorem b_238 : Cond.methodLink RL 143 yX4_scrap ∈ BIG := List.mem_filter.mpr ⟨List.mem_of_getElem? (i := 238) (by decide +kernel), by decide +kernel⟩
theorem b_1005 : Cond.code yX5_scrap cX5_scrap 2 (some .int) ∈ BIG := List.mem_filter.mpr ⟨List.mem_of_getElem? (i := 1005) (by decide +kernel), by decide +kernel⟩
theorem b_1003 : Cond.instanceMethod yX5_scrap ∈ BIG := List.mem_filter.mpr ⟨List.mem_of_getElem? (i := 1003) (by decide +kernel), by decide +kernel⟩
theorem b_1004 : Cond.selects RX5 yX5_scrap yX5_scrap ∈ BIG := List.mem_filter.mpr ⟨List.mem_of_getElem? (i := 1004) (by decide +kernel), by decide +kernel⟩
theorem b_1002 : Cond.methodLink RL 146 yX5_scrap ∈ BIG := List.mem_filter.mpr ⟨List.mem_of_getElem? (i := 1002) (by decide +kernel), by decide +kernel⟩
theorem b_625 : Cond.static yL_run ∈ BIG := List.mem_filter.mpr ⟨List.mem_of_getElem? (i := 625) (by decide +kernel), by decide +kernel⟩
theorem b_624 : Cond.methodLink RL 147 yL_run ∈ BIG := List.mem_filter.mpr ⟨List.mem_of_getElem? (i := 624) (by decide +kernel), by decide +kernel⟩
theorem b_1009 : Cond.code yX5_run cX5_run 10 (some .int) ∈ BIG := List.mem_filter.mpr ⟨List.mem_of_getElem? (i := 1009) (by decide +kernel), by decide +kernel⟩
theorem b_1007 : Cond.instanceMethod yX5_run ∈ BIG := List.mem_filter.mpr ⟨List.mem_of_getElem? (i := 1007) (by decide +kernel), by decide +kernel⟩
theorem b_1008 : Cond.selects RX5 yX5_run yX5_run ∈ BIG := List.mem_filter.mpr ⟨List.mem_of_getElem? (i := 1008) (by decide +kernel), by decide +kernel⟩
theorem b_1006 : Cond.methodLink RL 149 yX5_run ∈ BIG := List.mem_filter.mpr ⟨List.mem_of_getElem? (i := 1006) (by decide +kernel), by decide +kernel⟩
theorem b_712 : Cond.static yL_count ∈ BIG := List.mem_filter.mpr ⟨List.mem_of_getElem? (i := 712) (by decide +kernel), by decide +kernel⟩
theorem b_711 : Cond.methodLink RL 150 yL_count ∈ BIG := List.mem_filter.mpr ⟨List.mem_of_getElem? (i := 711) (by decide +kernel), by decide +kernel⟩
theorem b_1035 : Cond.code yX5_count cX5_count 2 (some .int) ∈ BIG := List.mem_filter.mpr ⟨List.mem_of_getElem? (i := 1035) (by decide +kernel), by decide +kernel⟩
theorem b_1033 : Cond.instanceMethod yX5_count ∈ BIG := List.mem_filter.mpr ⟨List.mem_of_getElem? (i := 1033) (by decide +kernel), by decide +kernel⟩
theorem b_1034 : Cond.selects RX5 yX5_count yX5_count ∈ BIG := List.mem_filter.mpr ⟨List.mem_of_getElem? (i := 1034) (by decide +kernel), by decide +kernel⟩
theorem b_1032 : Cond.methodLink RL 152 yX5_count ∈ BIG := List.mem_filter.mpr ⟨List.mem_of_getElem? (i := 1032) (by decide +kernel), by decide +kernel⟩
/-! what each case of the law asks of the class and the model, and its walk -/
def op_make (n : Nat → Nat) (a1 a2 a3 a4 : Int32) (S T : Nat → Nat → Int32) (P : (Nat → Nat → Int32) → (Nat → Nat → Int32) → Prop) : Prop := wL_make n a1 a2 a3 a4 S (fun k S1 ov => wX5_make a1 a2 a3 a4 T (fun b T1 => wX5_thrown T1 (fun th T2 => th = k ∧ (k = 0 → ov = some b) ∧ P S1 T2)))
def op_push (n : Nat → Nat) (a1 a2 a3 : Int32) (S T : Nat → Nat → Int32) (P : (Nat → Nat → Int32) → (Nat → Nat → Int32) → Prop) : Prop := wL_push n a1 a2 a3 S (fun k S1 ov => wX5_push a1 a2 a3 T (fun b T1 => wX5_thrown T1 (fun th T2 => th = k ∧ (k = 0 → ov = some b) ∧ P S1 T2)))
def op_put (n : Nat → Nat) (a1 a2 a3 : Int32) (S T : Nat → Nat → Int32) (P : (Nat → Nat → Int32) → (Nat → Nat → Int32) → Prop) : Prop := wL_put n a1 a2 a3 S (fun k S1 ov => wX5_put a1 a2 a3 T (fun b T1 => wX5_thrown T1 (fun th T2 => th = k ∧ (k = 0 → ov = some b) ∧ P S1 T2)))
def op_get (n : Nat → Nat) (a1 a2 a3 : Int32) (S T : Nat → Nat → Int32) (P : (Nat → Nat → Int32) → (Nat → Nat → Int32) → Prop) : Prop := wL_get n a1 a2 a3 S (fun k S1 ov => wX5_get a1 a2 a3 T (fun b T1 => wX5_thrown T1 (fun th T2 => th = k ∧ (k = 0 → ov = some b) ∧ P S1 T2)))
def op_move (n : Nat → Nat) (a1 a2 : Int32) (S T : Nat → Nat → Int32) (P : (Nat → Nat → Int32) → (Nat → Nat → Int32) → Prop) : Prop := wL_move n a1 a2 S (fun k S1 ov => wX5_move a1 a2 T (fun b T1 => wX5_thrown T1 (fun th T2 => th = k ∧ (k = 0 → ov = some b) ∧ P S1 T2)))
def op_keep (n : Nat → Nat) (a1 : Int32) (S T : Nat → Nat → Int32) (P : (Nat → Nat → Int32) → (Nat → Nat → Int32) → Prop) : Prop := wL_keep n a1 S (fun k S1 ov => wX5_keep a1 T (fun b T1 => wX5_thrown T1 (fun th T2 => th = k ∧ (k = 0 → ov = some b) ∧ P S1 T2)))
def op_back (n : Nat → Nat) (a1 : Int32) (S T : Nat → Nat → Int32) (P : (Nat → Nat → Int32) → (Nat → Nat → Int32) → Prop) : Prop := wL_back n a1 S (fun k S1 ov => wX5_back a1 T (fun b T1 => wX5_thrown T1 (fun th T2 => th = k ∧ (k = 0 → ov = some b) ∧ P S1 T2)))
def op_weak (n : Nat → Nat) (a1 a2 : Int32) (S T : Nat → Nat → Int32) (P : (Nat → Nat → Int32) → (Nat → Nat → Int32) → Prop) : Prop := wL_weak n a1 a2 S (fun k S1 ov => wX5_weak a1 a2 T (fun b T1 => wX5_thrown T1 (fun th T2 => th = k ∧ (k = 0 → ov = some b) ∧ P S1 T2)))
def op_strong (n : Nat → Nat) (a1 a2 : Int32) (S T : Nat → Nat → Int32) (P : (Nat → Nat → Int32) → (Nat → Nat → Int32) → Prop) : Prop := wL_strong n a1 a2 S (fun k S1 ov => wX5_strong a1 a2 T (fun b T1 => wX5_thrown T1 (fun th T2 => th = k ∧ (k = 0 → ov = some b) ∧ P S1 T2)))
def op_wish (n : Nat → Nat) (a1 : Int32) (S T : Nat → Nat → Int32) (P : (Nat → Nat → Int32) → (Nat → Nat → Int32) → Prop) : Prop := wL_wish n a1 S (fun k S1 ov => wX5_wish a1 T (fun b T1 => wX5_thrown T1 (fun th T2 => th = k ∧ (k = 0 → ov = some b) ∧ P S1 T2)))
def op_collect (n : Nat → Nat) (a1 : Int32) (S T : Nat → Nat → Int32) (P : (Nat → Nat → Int32) → (Nat → Nat → Int32) → Prop) : Prop := wL_collect n a1 S (fun k S1 ov => wX5_collect a1 T (fun b T1 => wX5_thrown T1 (fun th T2 => th = k ∧ (k = 0 → ov = some b) ∧ P S1 T2)))
def op_root (n : Nat → Nat) (a1 : Int32) (S T : Nat → Nat → Int32) (P : (Nat → Nat → Int32) → (Nat → Nat → Int32) → Prop) : Prop := wL_root n a1 S (fun k S1 ov => wX5_root a1 T (fun b T1 => wX5_thrown T1 (fun th T2 => th = k ∧ (k = 0 → ov = some b) ∧ P S1 T2)))
def op_about (n : Nat → Nat) (a1 a2 : Int32) (S T : Nat → Nat → Int32) (P : (Nat → Nat → Int32) → (Nat → Nat → Int32) → Prop) : Prop := wL_about n a1 a2 S (fun k S1 ov => wX5_about a1 a2 T (fun b T1 => wX5_thrown T1 (fun th T2 => th = k ∧ (k = 0 → ov = some b) ∧ P S1 T2)))
def op_word (n : Nat → Nat) (a1 : Int32) (S T : Nat → Nat → Int32) (P : (Nat → Nat → Int32) → (Nat → Nat → Int32) → Prop) : Prop := wL_word n a1 S (fun k S1 ov => wX5_word a1 T (fun b T1 => wX5_thrown T1 (fun th T2 => th = k ∧ (k = 0 → ov = some b) ∧ P S1 T2)))
def op_row (n : Nat → Nat) (a1 a2 : Int32) (S T : Nat → Nat → Int32) (P : (Nat → Nat → Int32) → (Nat → Nat → Int32) → Prop) : Prop := wL_row n a1 a2 S (fun k S1 ov => wX5_row a1 a2 T (fun b T1 => wX5_thrown T1 (fun th T2 => th = k ∧ (k = 0 → ov = some b) ∧ P S1 T2)))
def op_code (n : Nat → Nat) (a1 a2 a3 a4 : Int32) (S T : Nat → Nat → Int32) (P : (Nat → Nat → Int32) → (Nat → Nat → Int32) → Prop) : Prop := wL_code n a1 a2 a3 a4 S (fun k S1 ov => wX5_code a1 a2 a3 a4 T (fun b T1 => wX5_thrown T1 (fun th T2 => th = k ∧ (k = 0 → ov = some b) ∧ P S1 T2)))
def op_scrap (n : Nat → Nat) (S T : Nat → Nat → Int32) (P : (Nat → Nat → Int32) → (Nat → Nat → Int32) → Prop) : Prop := wX4_scrap n S (fun r S1 => wX5_scrap T (fun b T1 => r = b ∧ P S1 T1))
def op_run (n : Nat → Nat) (a1 a2 : Int32) (S T : Nat → Nat → Int32) (P : (Nat → Nat → Int32) → (Nat → Nat → Int32) → Prop) : Prop := wL_run n a1 a2 S (fun k S1 ov => wX5_run a1 a2 T (fun b T1 => wX5_thrown T1 (fun th T2 => th = k ∧ (k = 0 → ov = some b) ∧ P S1 T2)))
def op_count (n : Nat → Nat) (a1 : Int32) (S T : Nat → Nat → Int32) (P : (Nat → Nat → Int32) → (Nat → Nat → Int32) → Prop) : Prop := wL_count n a1 S (fun k S1 ov => wX5_count a1 T (fun b T1 => wX5_thrown T1 (fun th T2 => th = k ∧ (k = 0 → ov = some b) ∧ P S1 T2)))
/-- every call keeps the relation, and its answers agree -/
def OPS (n : Nat → Nat) (P : (Nat → Nat → Int32) → (Nat → Nat → Int32) → Prop) : Prop := ∀ S T, P S T → (∀ a1 a2 a3 a4 : Int32, op_make n a1 a2 a3 a4 S T P) ∧ (∀ a1 a2 a3 : Int32, op_push n a1 a2 a3 S T P) ∧ (∀ a1 a2 a3 : Int32, op_put n a1 a2 a3 S T P) ∧ (∀ a1 a2 a3 : Int32, op_get n a1 a2 a3 S T P) ∧ (∀ a1 a2 : Int32, op_move n a1 a2 S T P) ∧ (∀ a1 : Int32, op_keep n a1 S T P) ∧ (∀ a1 : Int32, op_back n a1 S T P) ∧ (∀ a1 a2 : Int32, op_weak n a1 a2 S T P) ∧ (∀ a1 a2 : Int32, op_strong n a1 a2 S T P) ∧ (∀ a1 : Int32, op_wish n a1 S T P) ∧ (∀ a1 : Int32, op_collect n a1 S T P) ∧ (∀ a1 : Int32, op_root n a1 S T P) ∧ (∀ a1 a2 : Int32, op_about n a1 a2 S T P) ∧ (∀ a1 : Int32, op_word n a1 S T P) ∧ (∀ a1 a2 : Int32, op_row n a1 a2 S T P) ∧ (∀ a1 a2 a3 a4 : Int32, op_code n a1 a2 a3 a4 S T P) ∧ (op_scrap n  S T P) ∧ (∀ a1 a2 : Int32, op_run n a1 a2 S T P) ∧ (∀ a1 : Int32, op_count n a1 S T P)
def lawW (A1 A2 : Nat → Nat) (n : Nat → Nat) (cI cG cR cL : ClassId) (aO : Nat) (S T : Nat → Nat → Int32) (f : Nat → Int64) : va_W := wd 23 A2 (ceM A2 cI) T ++ (wd 32 A1 (ceC A1 n cI cG cR) S ++ [outC aO cL f])
theorem lawW_out {A1 A2 : Nat → Nat} {n : Nat → Nat} {cI cG cR cL : ClassId} {aO : Nat} {S T : Nat → Nat → Int32} {f : Nat → Int64} : (lawW A1 A2 n cI cG cR cL aO S T f)[55]? = some (outC aO cL f) := by
  unfold lawW
  rw [List.getElem?_append_right (by rw [wd_len]; decide), wd_len, List.getElem?_append_right (by rw [wd_len]; decide), wd_len]
  rfl
theorem hTr : StX (fun _ _ _ => True) := ⟨fun _ _ _ _ _ _ => trivial, fun _ _ _ _ _ _ => trivial, fun _ _ _ _ _ _ => trivial⟩
/-- what stands fast in the law's body -/
def LawC (p : Program) (l : Launch) (s : State) (m : MethodId) (c : Code) (D : va_G) (A1 A2 : Nat → Nat) (cI cG cR cL : ClassId) (aK aV b LL : Nat) (xs : Nat → Int32) : Prop :=
  Cw p s m #[Value.ref b] c code 7 RL D (tyL cI cG cR cL) (fun q : Nat => s.heap.size ≤ q) ∧ FxW aK aV (fun q : Nat => s.heap.size ≤ q) s s.heap ∧ va_X b LL xs s s.heap ∧ b < s.heap.size ∧ Apart 32 A1 ∧ Apart 23 A2 ∧ l.stackTraces = false ∧ LL ≤ 324
theorem app_nil3 {a b : va_W} : a ++ (b ++ []) = a ++ b := by rw [List.append_nil]
set_option maxRecDepth 100000 in
set_option maxHeartbeats 8000000 in
theorem law_make {p : Program} {l : Launch} {e : Env} {s : State} {m : MethodId} {below : List Frame} {meth : Method} {c : Code} {D : va_G} {A1 A2 : Nat → Nat} {cI cG cR cL : ClassId} {aK aV aO b LL : Nat} {xs : Nat → Int32} {n : Nat → Nat} {Qf : State → Prop} {cells slots : Nat} {S T : Nat → Nat → Int32} {fO : Nat → Int64} {i : Nat} {P : (Nat → Nat → Int32) → (Nat → Nat → Int32) → Prop} (C0 : LawC p l s m c D A1 A2 cI cG cR cL aK aV b LL xs) (hi5 : i + 5 ≤ LL) (hc : cells ≤ 1000) (hs : slots ≤ 100000) (h : op_make n (xs (i + 1)) (xs (i + 2)) (xs (i + 3)) (if xs (i + 4) = 0 then 0 else 1) S T P) (K : ∀ S1 T1 f1, P S1 T1 → JW p l e room_1 s m #[Value.ref b] below meth c (cells + 4) (slots + 24) Qf D (fun q : Nat => s.heap.size ≤ q) 7 (lawW A1 A2 n cI cG cR cL aO S1 T1 f1) 1421 [(0, .ref b), (1, .ref (A1 0)), (2, .ref (A2 0)), (3, .ref aO), (4, .int (nI i))] []) : JW p l e room_1 s m #[Value.ref b] below meth c cells slots Qf D (fun q : Nat => s.heap.size ≤ q) 7 (lawW A1 A2 n cI cG cR cL aO S T fO) 168 [(0, .ref b), (1, .ref (A1 0)), (2, .ref (A2 0)), (3, .ref aO), (4, .int (nI i))] [] := by
  obtain ⟨C, hXW, hX, hbl, hi1, hi2, hst, hLL⟩ := C0
  have hbA : ¬ (fun q : Nat => s.heap.size ≤ q) b := Nat.not_le.mpr hbl
  have CM : Cw p s m #[Value.ref b] c code 7 RL D (tyM cI) (fun q : Nat => s.heap.size ≤ q) := C.sub [0] rfl
  have CC : Cw p s m #[Value.ref b] c code 7 RL D (tyC cI cG cR) (fun q : Nat => s.heap.size ≤ q) := C.sub [0, 1, 2] rfl
  unfold op_make at h
  by_cases hz : xs (i + 4) = 0
  · rw [if_pos hz] at h
    refine n_aload_n C 1 rfl dL_law_168 169 rfl ?_
    refine n_aload_n C 0 rfl dL_law_169 170 rfl ?_
    refine n_iload C 4 rfl dL_law_170 172 rfl ?_
    refine n_iconst C 1 rfl dL_law_172 173 rfl ?_
    refine n_iadd C dL_law_173 174 rfl ?_
    rw [show (nI i + 1 : Int32) = nI (i + 1) from nI_add i 1]
    refine n_sld C hX hbl hbA (vp_in_nI (show i + 1 < LL by omega) (by omega)) dL_law_174 175 rfl ?_
    rw [nI_clamp (show i + 1 < 2 ^ 31 by omega)]
    refine n_aload_n C 0 rfl dL_law_175 176 rfl ?_
    refine n_iload C 4 rfl dL_law_176 178 rfl ?_
    refine n_iconst C 2 rfl dL_law_178 179 rfl ?_
    refine n_iadd C dL_law_179 180 rfl ?_
    rw [show (nI i + 2 : Int32) = nI (i + 2) from nI_add i 2]
    refine n_sld C hX hbl hbA (vp_in_nI (show i + 2 < LL by omega) (by omega)) dL_law_180 181 rfl ?_
    rw [nI_clamp (show i + 2 < 2 ^ 31 by omega)]
    refine n_aload_n C 0 rfl dL_law_181 182 rfl ?_
    refine n_iload C 4 rfl dL_law_182 184 rfl ?_
    refine n_iconst C 3 rfl dL_law_184 185 rfl ?_
    refine n_iadd C dL_law_185 186 rfl ?_
    rw [show (nI i + 3 : Int32) = nI (i + 3) from nI_add i 3]
    refine n_sld C hX hbl hbA (vp_in_nI (show i + 3 < LL by omega) (by omega)) dL_law_186 187 rfl ?_
    rw [nI_clamp (show i + 3 < 2 ^ 31 by omega)]
    refine n_aload_n C 0 rfl dL_law_187 188 rfl ?_
    refine n_iload C 4 rfl dL_law_188 190 rfl ?_
    refine n_iconst C 4 rfl dL_law_190 191 rfl ?_
    refine n_iadd C dL_law_191 192 rfl ?_
    rw [show (nI i + 4 : Int32) = nI (i + 4) from nI_add i 4]
    refine n_sld C hX hbl hbA (vp_in_nI (show i + 4 < LL by omega) (by omega)) dL_law_192 193 rfl ?_
    rw [nI_clamp (show i + 4 < 2 ^ 31 by omega)]
    refine n_if_eq C 200 dL_law_193 196 rfl rfl (fun _ => ?_) (fun z => absurd hz z)
    refine n_iconst C 0 rfl dL_law_200 201 rfl ?_
    refine n_aload_n C 3 rfl dL_law_201 202 rfl ?_
    refine n_callW C hFw hXW (As := [.ref (A1 0), .int (xs (i + 1)), .int (xs (i + 2)), .int (xs (i + 3)), .int 0, .ref aO]) (wd 23 A2 (ceM A2 cI) T) (wd 32 A1 (ceC A1 n cI cG cR) S ++ [outC aO cL fO]) [] [] (show _ = _ by rw [app_nil3]; rfl) (cnL_make hst hi1 h) b_247 b_43 b_246 b_245 ⟨by decide +kernel, by decide +kernel, (show (parseMethodDescriptor yL_make.desc).map (fun d => d.parameters.length) = some 6 by decide +kernel)⟩ ⟨(Nat.le_of_ble_eq_true rfl), (Nat.le_of_ble_eq_true rfl)⟩ rfl (Nat.le_of_ble_eq_true rfl) (cells + 2) (slots + 12) rfl rfl ⟨by show cells + 2 ≤ 600128; omega, by show slots + 12 ≤ 7301064; omega⟩ dL_law_202 205 rfl (fun v w1 h => ?_)
    obtain ⟨r1, S1, ov, f1, rfl, rfl, h, hb⟩ := h
    refine n_ws (w1 := lawW A1 A2 n cI cG cR cL aO S1 T f1) (by rw [app_nil3]; rfl) ?_
    show JW p l e room_1 s m #[Value.ref b] below meth c (cells + 2) (slots + 12) Qf D (fun q : Nat => s.heap.size ≤ q) 7 (lawW A1 A2 n cI cG cR cL aO S1 T f1) 205 [(0, .ref b), (1, .ref (A1 0)), (2, .ref (A2 0)), (3, .ref aO), (4, .int (nI i))] [.int r1]
    refine n_istore C [(5, .int r1), (0, .ref b), (1, .ref (A1 0)), (2, .ref (A2 0)), (3, .ref aO), (4, .int (nI i))] (Nat.le_of_ble_eq_true rfl) rfl dL_law_205 207 rfl ?_
    refine n_aload_n C 3 rfl dL_law_207 208 rfl ?_
    refine n_aload_n C 1 rfl dL_law_208 209 rfl ?_
    refine n_iload C 5 rfl dL_law_209 211 rfl ?_
    refine n_iconst C 1 rfl dL_law_211 212 rfl ?_
    refine n_iadd C dL_law_212 213 rfl ?_
    rw [show (nI i + 1 : Int32) = nI (i + 1) from nI_add i 1]
    refine n_sld C hX hbl hbA (vp_in_nI (show i + 1 < LL by omega) (by omega)) dL_law_213 214 rfl ?_
    rw [nI_clamp (show i + 1 < 2 ^ 31 by omega)]
    refine n_aload_n C 1 rfl dL_law_214 215 rfl ?_
    refine n_iload C 5 rfl dL_law_215 217 rfl ?_
    refine n_iconst C 2 rfl dL_law_217 218 rfl ?_
    refine n_iadd C dL_law_218 219 rfl ?_
    rw [show (nI i + 2 : Int32) = nI (i + 2) from nI_add i 2]
    refine n_sld C hX hbl hbA (vp_in_nI (show i + 2 < LL by omega) (by omega)) dL_law_219 220 rfl ?_
    rw [nI_clamp (show i + 2 < 2 ^ 31 by omega)]
    refine n_aload_n C 1 rfl dL_law_220 221 rfl ?_
    refine n_iload C 5 rfl dL_law_221 223 rfl ?_
    refine n_iconst C 3 rfl dL_law_223 224 rfl ?_
    refine n_iadd C dL_law_224 225 rfl ?_
    rw [show (nI i + 3 : Int32) = nI (i + 3) from nI_add i 3]
    refine n_sld C hX hbl hbA (vp_in_nI (show i + 3 < LL by omega) (by omega)) dL_law_225 226 rfl ?_
    rw [nI_clamp (show i + 3 < 2 ^ 31 by omega)]
    refine n_aload_n C 1 rfl dL_law_226 227 rfl ?_
    refine n_iload C 5 rfl dL_law_227 229 rfl ?_
    refine n_iconst C 4 rfl dL_law_229 230 rfl ?_
    refine n_iadd C dL_law_230 231 rfl ?_
    rw [show (nI i + 4 : Int32) = nI (i + 4) from nI_add i 4]
    refine n_sld C hX hbl hbA (vp_in_nI (show i + 4 < LL by omega) (by omega)) dL_law_231 232 rfl ?_
    rw [nI_clamp (show i + 4 < 2 ^ 31 by omega)]
    refine n_if_eq C 239 dL_law_232 235 rfl rfl (fun _ => ?_) (fun z => absurd hz z)
    refine n_iconst C 0 rfl dL_law_239 240 rfl ?_
    refine n_callCt CM hTr trivial hi2 (As := [.int (xs (i + 1)), .int (xs (i + 2)), .int (xs (i + 3)), .int 0]) 0 [] (wd 32 A1 (ceC A1 n cI cG cR) S1 ++ [outC aO cL f1]) [] rfl (ctX5_make hTr hi2 h) (Nat.le_of_ble_eq_true rfl) (heM_o _) rfl b_851 b_50 b_849 b_850 b_848 ⟨by decide +kernel, by decide +kernel, (show (parseMethodDescriptor yX5_make.desc).map (fun d => d.parameters.length) = some 4 by decide +kernel)⟩ ⟨(Nat.le_of_ble_eq_true rfl), (Nat.le_of_ble_eq_true rfl)⟩ rfl (Nat.le_of_ble_eq_true rfl) ⟨by show _ ≤ 600128; omega, by show _ ≤ 7301064; omega⟩ dL_law_240 243 rfl (fun r2 T1 h => ?_)
    show JW p l e room_1 s m #[Value.ref b] below meth c (cells + 2) (slots + 12) Qf D (fun q : Nat => s.heap.size ≤ q) 7 (lawW A1 A2 n cI cG cR cL aO S1 T1 f1) 243 [(5, .int r1), (0, .ref b), (1, .ref (A1 0)), (2, .ref (A2 0)), (3, .ref aO), (4, .int (nI i))] [.int r2]
    refine n_istore C [(6, .int r2), (5, .int r1), (0, .ref b), (1, .ref (A1 0)), (2, .ref (A2 0)), (3, .ref aO), (4, .int (nI i))] (Nat.le_of_ble_eq_true rfl) rfl dL_law_243 245 rfl ?_
    refine n_aload_n C 4 rfl dL_law_245 246 rfl ?_
    refine n_callCt CM hTr trivial hi2 (As := []) 0 [] (wd 32 A1 (ceC A1 n cI cG cR) S1 ++ [outC aO cL f1]) [] rfl (ctX5_thrown hTr hi2 h) (Nat.le_of_ble_eq_true rfl) (heM_o _) rfl b_847 b_50 b_845 b_846 b_844 ⟨by decide +kernel, by decide +kernel, (show (parseMethodDescriptor yX5_thrown.desc).map (fun d => d.parameters.length) = some 0 by decide +kernel)⟩ ⟨(Nat.le_of_ble_eq_true rfl), (Nat.le_of_ble_eq_true rfl)⟩ rfl (Nat.le_of_ble_eq_true rfl) ⟨by show _ ≤ 600128; omega, by show _ ≤ 7301064; omega⟩ dL_law_246 249 rfl (fun r3 T2 h => ?_)
    obtain ⟨hk, hv, hR⟩ := h
    show JW p l e room_1 s m #[Value.ref b] below meth c (cells + 2) (slots + 12) Qf D (fun q : Nat => s.heap.size ≤ q) 7 (lawW A1 A2 n cI cG cR cL aO S1 T2 f1) 249 [(6, .int r2), (5, .int r1), (0, .ref b), (1, .ref (A1 0)), (2, .ref (A2 0)), (3, .ref aO), (4, .int (nI i))] [.int r3]
    refine n_iload C 1 rfl dL_law_249 251 rfl ?_
    refine n_icmp_eq C 256 dL_law_251 254 rfl rfl (fun _ => ?_) (fun z => absurd hk z)
    refine n_iload C 1 rfl dL_law_256 258 rfl ?_
    refine n_if_ne C 273 dL_law_258 261 rfl rfl (fun z0 => ?_) (fun z0 => ?_)
    · have eb : f1 (0 : Int32).toNatClampNeg = r2.toInt64 := hb r2 (hv z0)
      refine n_aload_n C 5 rfl dL_law_261 262 rfl ?_
      refine n_iconst C 0 rfl dL_law_262 263 rfl ?_
      refine n_lald C 55 3 lawW_out rfl (show vp_in 0 1 by unfold vp_in; decide) dL_law_263 264 rfl ?_
      rw [eb]
      refine n_iload C 0 rfl dL_law_264 266 rfl ?_
      refine n_i2l C dL_law_266 267 rfl ?_
      refine n_lcmp0 C dL_law_267 268 rfl ?_
      refine n_if_eq C 273 dL_law_268 271 rfl rfl (fun _ => ?_) (fun z => absurd rfl z)
      refine n_goto C 1421 dL_law_273 rfl ?_
      refine n_sub [(0, .ref b), (1, .ref (A1 0)), (2, .ref (A2 0)), (3, .ref aO), (4, .int (nI i))] [2, 3, 4, 5, 6] rfl ?_
      refine n_widen (cells + 4) (slots + 24) (by omega) (by omega) ?_
      exact K S1 T2 f1 hR
    · skip
      refine n_goto C 1421 dL_law_273 rfl ?_
      refine n_sub [(0, .ref b), (1, .ref (A1 0)), (2, .ref (A2 0)), (3, .ref aO), (4, .int (nI i))] [2, 3, 4, 5, 6] rfl ?_
      refine n_widen (cells + 4) (slots + 24) (by omega) (by omega) ?_
      exact K S1 T2 f1 hR
  · rw [if_neg hz] at h
    refine n_aload_n C 1 rfl dL_law_168 169 rfl ?_
    refine n_aload_n C 0 rfl dL_law_169 170 rfl ?_
    refine n_iload C 4 rfl dL_law_170 172 rfl ?_
    refine n_iconst C 1 rfl dL_law_172 173 rfl ?_
    refine n_iadd C dL_law_173 174 rfl ?_
    rw [show (nI i + 1 : Int32) = nI (i + 1) from nI_add i 1]
    refine n_sld C hX hbl hbA (vp_in_nI (show i + 1 < LL by omega) (by omega)) dL_law_174 175 rfl ?_
    rw [nI_clamp (show i + 1 < 2 ^ 31 by omega)]
    refine n_aload_n C 0 rfl dL_law_175 176 rfl ?_
    refine n_iload C 4 rfl dL_law_176 178 rfl ?_
    refine n_iconst C 2 rfl dL_law_178 179 rfl ?_
    refine n_iadd C dL_law_179 180 rfl ?_
    rw [show (nI i + 2 : Int32) = nI (i + 2) from nI_add i 2]
    refine n_sld C hX hbl hbA (vp_in_nI (show i + 2 < LL by omega) (by omega)) dL_law_180 181 rfl ?_
    rw [nI_clamp (show i + 2 < 2 ^ 31 by omega)]
    refine n_aload_n C 0 rfl dL_law_181 182 rfl ?_
    refine n_iload C 4 rfl dL_law_182 184 rfl ?_
    refine n_iconst C 3 rfl dL_law_184 185 rfl ?_
    refine n_iadd C dL_law_185 186 rfl ?_
    rw [show (nI i + 3 : Int32) = nI (i + 3) from nI_add i 3]
    refine n_sld C hX hbl hbA (vp_in_nI (show i + 3 < LL by omega) (by omega)) dL_law_186 187 rfl ?_
    rw [nI_clamp (show i + 3 < 2 ^ 31 by omega)]
    refine n_aload_n C 0 rfl dL_law_187 188 rfl ?_
    refine n_iload C 4 rfl dL_law_188 190 rfl ?_
    refine n_iconst C 4 rfl dL_law_190 191 rfl ?_
    refine n_iadd C dL_law_191 192 rfl ?_
    rw [show (nI i + 4 : Int32) = nI (i + 4) from nI_add i 4]
    refine n_sld C hX hbl hbA (vp_in_nI (show i + 4 < LL by omega) (by omega)) dL_law_192 193 rfl ?_
    rw [nI_clamp (show i + 4 < 2 ^ 31 by omega)]
    refine n_if_eq C 200 dL_law_193 196 rfl rfl (fun z => absurd z hz) (fun _ => ?_)
    refine n_iconst C 1 rfl dL_law_196 197 rfl ?_
    refine n_goto C 201 dL_law_197 rfl ?_
    refine n_aload_n C 3 rfl dL_law_201 202 rfl ?_
    refine n_callW C hFw hXW (As := [.ref (A1 0), .int (xs (i + 1)), .int (xs (i + 2)), .int (xs (i + 3)), .int 1, .ref aO]) (wd 23 A2 (ceM A2 cI) T) (wd 32 A1 (ceC A1 n cI cG cR) S ++ [outC aO cL fO]) [] [] (show _ = _ by rw [app_nil3]; rfl) (cnL_make hst hi1 h) b_247 b_43 b_246 b_245 ⟨by decide +kernel, by decide +kernel, (show (parseMethodDescriptor yL_make.desc).map (fun d => d.parameters.length) = some 6 by decide +kernel)⟩ ⟨(Nat.le_of_ble_eq_true rfl), (Nat.le_of_ble_eq_true rfl)⟩ rfl (Nat.le_of_ble_eq_true rfl) (cells + 2) (slots + 12) rfl rfl ⟨by show cells + 2 ≤ 600128; omega, by show slots + 12 ≤ 7301064; omega⟩ dL_law_202 205 rfl (fun v w1 h => ?_)
    obtain ⟨r1, S1, ov, f1, rfl, rfl, h, hb⟩ := h
    refine n_ws (w1 := lawW A1 A2 n cI cG cR cL aO S1 T f1) (by rw [app_nil3]; rfl) ?_
    show JW p l e room_1 s m #[Value.ref b] below meth c (cells + 2) (slots + 12) Qf D (fun q : Nat => s.heap.size ≤ q) 7 (lawW A1 A2 n cI cG cR cL aO S1 T f1) 205 [(0, .ref b), (1, .ref (A1 0)), (2, .ref (A2 0)), (3, .ref aO), (4, .int (nI i))] [.int r1]
    refine n_istore C [(5, .int r1), (0, .ref b), (1, .ref (A1 0)), (2, .ref (A2 0)), (3, .ref aO), (4, .int (nI i))] (Nat.le_of_ble_eq_true rfl) rfl dL_law_205 207 rfl ?_
    refine n_aload_n C 3 rfl dL_law_207 208 rfl ?_
    refine n_aload_n C 1 rfl dL_law_208 209 rfl ?_
    refine n_iload C 5 rfl dL_law_209 211 rfl ?_
    refine n_iconst C 1 rfl dL_law_211 212 rfl ?_
    refine n_iadd C dL_law_212 213 rfl ?_
    rw [show (nI i + 1 : Int32) = nI (i + 1) from nI_add i 1]
    refine n_sld C hX hbl hbA (vp_in_nI (show i + 1 < LL by omega) (by omega)) dL_law_213 214 rfl ?_
    rw [nI_clamp (show i + 1 < 2 ^ 31 by omega)]
    refine n_aload_n C 1 rfl dL_law_214 215 rfl ?_
    refine n_iload C 5 rfl dL_law_215 217 rfl ?_
    refine n_iconst C 2 rfl dL_law_217 218 rfl ?_
    refine n_iadd C dL_law_218 219 rfl ?_
    rw [show (nI i + 2 : Int32) = nI (i + 2) from nI_add i 2]
    refine n_sld C hX hbl hbA (vp_in_nI (show i + 2 < LL by omega) (by omega)) dL_law_219 220 rfl ?_
    rw [nI_clamp (show i + 2 < 2 ^ 31 by omega)]
    refine n_aload_n C 1 rfl dL_law_220 221 rfl ?_
    refine n_iload C 5 rfl dL_law_221 223 rfl ?_
    refine n_iconst C 3 rfl dL_law_223 224 rfl ?_
    refine n_iadd C dL_law_224 225 rfl ?_
    rw [show (nI i + 3 : Int32) = nI (i + 3) from nI_add i 3]
    refine n_sld C hX hbl hbA (vp_in_nI (show i + 3 < LL by omega) (by omega)) dL_law_225 226 rfl ?_
    rw [nI_clamp (show i + 3 < 2 ^ 31 by omega)]
    refine n_aload_n C 1 rfl dL_law_226 227 rfl ?_
    refine n_iload C 5 rfl dL_law_227 229 rfl ?_
    refine n_iconst C 4 rfl dL_law_229 230 rfl ?_
    refine n_iadd C dL_law_230 231 rfl ?_
    rw [show (nI i + 4 : Int32) = nI (i + 4) from nI_add i 4]
    refine n_sld C hX hbl hbA (vp_in_nI (show i + 4 < LL by omega) (by omega)) dL_law_231 232 rfl ?_
    rw [nI_clamp (show i + 4 < 2 ^ 31 by omega)]
    refine n_if_eq C 239 dL_law_232 235 rfl rfl (fun z => absurd z hz) (fun _ => ?_)
    refine n_iconst C 1 rfl dL_law_235 236 rfl ?_
    refine n_goto C 240 dL_law_236 rfl ?_
    refine n_callCt CM hTr trivial hi2 (As := [.int (xs (i + 1)), .int (xs (i + 2)), .int (xs (i + 3)), .int 1]) 0 [] (wd 32 A1 (ceC A1 n cI cG cR) S1 ++ [outC aO cL f1]) [] rfl (ctX5_make hTr hi2 h) (Nat.le_of_ble_eq_true rfl) (heM_o _) rfl b_851 b_50 b_849 b_850 b_848 ⟨by decide +kernel, by decide +kernel, (show (parseMethodDescriptor yX5_make.desc).map (fun d => d.parameters.length) = some 4 by decide +kernel)⟩ ⟨(Nat.le_of_ble_eq_true rfl), (Nat.le_of_ble_eq_true rfl)⟩ rfl (Nat.le_of_ble_eq_true rfl) ⟨by show _ ≤ 600128; omega, by show _ ≤ 7301064; omega⟩ dL_law_240 243 rfl (fun r2 T1 h => ?_)
    show JW p l e room_1 s m #[Value.ref b] below meth c (cells + 2) (slots + 12) Qf D (fun q : Nat => s.heap.size ≤ q) 7 (lawW A1 A2 n cI cG cR cL aO S1 T1 f1) 243 [(5, .int r1), (0, .ref b), (1, .ref (A1 0)), (2, .ref (A2 0)), (3, .ref aO), (4, .int (nI i))] [.int r2]
    refine n_istore C [(6, .int r2), (5, .int r1), (0, .ref b), (1, .ref (A1 0)), (2, .ref (A2 0)), (3, .ref aO), (4, .int (nI i))] (Nat.le_of_ble_eq_true rfl) rfl dL_law_243 245 rfl ?_
    refine n_aload_n C 4 rfl dL_law_245 246 rfl ?_
    refine n_callCt CM hTr trivial hi2 (As := []) 0 [] (wd 32 A1 (ceC A1 n cI cG cR) S1 ++ [outC aO cL f1]) [] rfl (ctX5_thrown hTr hi2 h) (Nat.le_of_ble_eq_true rfl) (heM_o _) rfl b_847 b_50 b_845 b_846 b_844 ⟨by decide +kernel, by decide +kernel, (show (parseMethodDescriptor yX5_thrown.desc).map (fun d => d.parameters.length) = some 0 by decide +kernel)⟩ ⟨(Nat.le_of_ble_eq_true rfl), (Nat.le_of_ble_eq_true rfl)⟩ rfl (Nat.le_of_ble_eq_true rfl) ⟨by show _ ≤ 600128; omega, by show _ ≤ 7301064; omega⟩ dL_law_246 249 rfl (fun r3 T2 h => ?_)
    obtain ⟨hk, hv, hR⟩ := h
    show JW p l e room_1 s m #[Value.ref b] below meth c (cells + 2) (slots + 12) Qf D (fun q : Nat => s.heap.size ≤ q) 7 (lawW A1 A2 n cI cG cR cL aO S1 T2 f1) 249 [(6, .int r2), (5, .int r1), (0, .ref b), (1, .ref (A1 0)), (2, .ref (A2 0)), (3, .ref aO), (4, .int (nI i))] [.int r3]
    refine n_iload C 1 rfl dL_law_249 251 rfl ?_
    refine n_icmp_eq C 256 dL_law_251 254 rfl rfl (fun _ => ?_) (fun z => absurd hk z)
    refine n_iload C 1 rfl dL_law_256 258 rfl ?_
    refine n_if_ne C 273 dL_law_258 261 rfl rfl (fun z0 => ?_) (fun z0 => ?_)
    · have eb : f1 (0 : Int32).toNatClampNeg = r2.toInt64 := hb r2 (hv z0)
      refine n_aload_n C 5 rfl dL_law_261 262 rfl ?_
      refine n_iconst C 0 rfl dL_law_262 263 rfl ?_
      refine n_lald C 55 3 lawW_out rfl (show vp_in 0 1 by unfold vp_in; decide) dL_law_263 264 rfl ?_
      rw [eb]
      refine n_iload C 0 rfl dL_law_264 266 rfl ?_
      refine n_i2l C dL_law_266 267 rfl ?_
      refine n_lcmp0 C dL_law_267 268 rfl ?_
      refine n_if_eq C 273 dL_law_268 271 rfl rfl (fun _ => ?_) (fun z => absurd rfl z)
      refine n_goto C 1421 dL_law_273 rfl ?_
      refine n_sub [(0, .ref b), (1, .ref (A1 0)), (2, .ref (A2 0)), (3, .ref aO), (4, .int (nI i))] [2, 3, 4, 5, 6] rfl ?_
      refine n_widen (cells + 4) (slots + 24) (by omega) (by omega) ?_
      exact K S1 T2 f1 hR
    · skip
      refine n_goto C 1421 dL_law_273 rfl ?_
      refine n_sub [(0, .ref b), (1, .ref (A1 0)), (2, .ref (A2 0)), (3, .ref aO), (4, .int (nI i))] [2, 3, 4, 5, 6] rfl ?_
      refine n_widen (cells + 4) (slots + 24) (by omega) (by omega) ?_
      exact K S1 T2 f1 hR
set_option maxRecDepth 100000 in
set_option maxHeartbeats 8000000 in
theorem law_push {p : Program} {l : Launch} {e : Env} {s : State} {m : MethodId} {below : List Frame} {meth : Method} {c : Code} {D : va_G} {A1 A2 : Nat → Nat} {cI cG cR cL : ClassId} {aK aV aO b LL : Nat} {xs : Nat → Int32} {n : Nat → Nat} {Qf : State → Prop} {cells slots : Nat} {S T : Nat → Nat → Int32} {fO : Nat → Int64} {i : Nat} {P : (Nat → Nat → Int32) → (Nat → Nat → Int32) → Prop} (C0 : LawC p l s m c D A1 A2 cI cG cR cL aK aV b LL xs) (hi5 : i + 5 ≤ LL) (hc : cells ≤ 1000) (hs : slots ≤ 100000) (h : op_push n (xs (i + 1)) (xs (i + 2)) (xs (i + 3)) S T P) (K : ∀ S1 T1 f1, P S1 T1 → JW p l e room_1 s m #[Value.ref b] below meth c (cells + 4) (slots + 24) Qf D (fun q : Nat => s.heap.size ≤ q) 7 (lawW A1 A2 n cI cG cR cL aO S1 T1 f1) 1421 [(0, .ref b), (1, .ref (A1 0)), (2, .ref (A2 0)), (3, .ref aO), (4, .int (nI i))] []) : JW p l e room_1 s m #[Value.ref b] below meth c cells slots Qf D (fun q : Nat => s.heap.size ≤ q) 7 (lawW A1 A2 n cI cG cR cL aO S T fO) 276 [(0, .ref b), (1, .ref (A1 0)), (2, .ref (A2 0)), (3, .ref aO), (4, .int (nI i))] [] := by
  obtain ⟨C, hXW, hX, hbl, hi1, hi2, hst, hLL⟩ := C0
  have hbA : ¬ (fun q : Nat => s.heap.size ≤ q) b := Nat.not_le.mpr hbl
  have CM : Cw p s m #[Value.ref b] c code 7 RL D (tyM cI) (fun q : Nat => s.heap.size ≤ q) := C.sub [0] rfl
  have CC : Cw p s m #[Value.ref b] c code 7 RL D (tyC cI cG cR) (fun q : Nat => s.heap.size ≤ q) := C.sub [0, 1, 2] rfl
  unfold op_push at h
  refine n_aload_n C 1 rfl dL_law_276 277 rfl ?_
  refine n_aload_n C 0 rfl dL_law_277 278 rfl ?_
  refine n_iload C 4 rfl dL_law_278 280 rfl ?_
  refine n_iconst C 1 rfl dL_law_280 281 rfl ?_
  refine n_iadd C dL_law_281 282 rfl ?_
  rw [show (nI i + 1 : Int32) = nI (i + 1) from nI_add i 1]
  refine n_sld C hX hbl hbA (vp_in_nI (show i + 1 < LL by omega) (by omega)) dL_law_282 283 rfl ?_
  rw [nI_clamp (show i + 1 < 2 ^ 31 by omega)]
  refine n_aload_n C 0 rfl dL_law_283 284 rfl ?_
  refine n_iload C 4 rfl dL_law_284 286 rfl ?_
  refine n_iconst C 2 rfl dL_law_286 287 rfl ?_
  refine n_iadd C dL_law_287 288 rfl ?_
  rw [show (nI i + 2 : Int32) = nI (i + 2) from nI_add i 2]
  refine n_sld C hX hbl hbA (vp_in_nI (show i + 2 < LL by omega) (by omega)) dL_law_288 289 rfl ?_
  rw [nI_clamp (show i + 2 < 2 ^ 31 by omega)]
  refine n_aload_n C 0 rfl dL_law_289 290 rfl ?_
  refine n_iload C 4 rfl dL_law_290 292 rfl ?_
  refine n_iconst C 3 rfl dL_law_292 293 rfl ?_
  refine n_iadd C dL_law_293 294 rfl ?_
  rw [show (nI i + 3 : Int32) = nI (i + 3) from nI_add i 3]
  refine n_sld C hX hbl hbA (vp_in_nI (show i + 3 < LL by omega) (by omega)) dL_law_294 295 rfl ?_
  rw [nI_clamp (show i + 3 < 2 ^ 31 by omega)]
  refine n_aload_n C 3 rfl dL_law_295 296 rfl ?_
  refine n_callW C hFw hXW (As := [.ref (A1 0), .int (xs (i + 1)), .int (xs (i + 2)), .int (xs (i + 3)), .ref aO]) (wd 23 A2 (ceM A2 cI) T) (wd 32 A1 (ceC A1 n cI cG cR) S ++ [outC aO cL fO]) [] [] (show _ = _ by rw [app_nil3]; rfl) (cnL_push hst hi1 h) b_432 b_43 b_431 b_430 ⟨by decide +kernel, by decide +kernel, (show (parseMethodDescriptor yL_push.desc).map (fun d => d.parameters.length) = some 5 by decide +kernel)⟩ ⟨(Nat.le_of_ble_eq_true rfl), (Nat.le_of_ble_eq_true rfl)⟩ rfl (Nat.le_of_ble_eq_true rfl) (cells + 2) (slots + 12) rfl rfl ⟨by show cells + 2 ≤ 600128; omega, by show slots + 12 ≤ 7301064; omega⟩ dL_law_296 299 rfl (fun v w1 h => ?_)
  obtain ⟨r1, S1, ov, f1, rfl, rfl, h, hb⟩ := h
  refine n_ws (w1 := lawW A1 A2 n cI cG cR cL aO S1 T f1) (by rw [app_nil3]; rfl) ?_
  show JW p l e room_1 s m #[Value.ref b] below meth c (cells + 2) (slots + 12) Qf D (fun q : Nat => s.heap.size ≤ q) 7 (lawW A1 A2 n cI cG cR cL aO S1 T f1) 299 [(0, .ref b), (1, .ref (A1 0)), (2, .ref (A2 0)), (3, .ref aO), (4, .int (nI i))] [.int r1]
  refine n_istore C [(5, .int r1), (0, .ref b), (1, .ref (A1 0)), (2, .ref (A2 0)), (3, .ref aO), (4, .int (nI i))] (Nat.le_of_ble_eq_true rfl) rfl dL_law_299 301 rfl ?_
  refine n_aload_n C 3 rfl dL_law_301 302 rfl ?_
  refine n_aload_n C 1 rfl dL_law_302 303 rfl ?_
  refine n_iload C 5 rfl dL_law_303 305 rfl ?_
  refine n_iconst C 1 rfl dL_law_305 306 rfl ?_
  refine n_iadd C dL_law_306 307 rfl ?_
  rw [show (nI i + 1 : Int32) = nI (i + 1) from nI_add i 1]
  refine n_sld C hX hbl hbA (vp_in_nI (show i + 1 < LL by omega) (by omega)) dL_law_307 308 rfl ?_
  rw [nI_clamp (show i + 1 < 2 ^ 31 by omega)]
  refine n_aload_n C 1 rfl dL_law_308 309 rfl ?_
  refine n_iload C 5 rfl dL_law_309 311 rfl ?_
  refine n_iconst C 2 rfl dL_law_311 312 rfl ?_
  refine n_iadd C dL_law_312 313 rfl ?_
  rw [show (nI i + 2 : Int32) = nI (i + 2) from nI_add i 2]
  refine n_sld C hX hbl hbA (vp_in_nI (show i + 2 < LL by omega) (by omega)) dL_law_313 314 rfl ?_
  rw [nI_clamp (show i + 2 < 2 ^ 31 by omega)]
  refine n_aload_n C 1 rfl dL_law_314 315 rfl ?_
  refine n_iload C 5 rfl dL_law_315 317 rfl ?_
  refine n_iconst C 3 rfl dL_law_317 318 rfl ?_
  refine n_iadd C dL_law_318 319 rfl ?_
  rw [show (nI i + 3 : Int32) = nI (i + 3) from nI_add i 3]
  refine n_sld C hX hbl hbA (vp_in_nI (show i + 3 < LL by omega) (by omega)) dL_law_319 320 rfl ?_
  rw [nI_clamp (show i + 3 < 2 ^ 31 by omega)]
  refine n_callCt CM hTr trivial hi2 (As := [.int (xs (i + 1)), .int (xs (i + 2)), .int (xs (i + 3))]) 0 [] (wd 32 A1 (ceC A1 n cI cG cR) S1 ++ [outC aO cL f1]) [] rfl (ctX5_push hTr hi2 h) (Nat.le_of_ble_eq_true rfl) (heM_o _) rfl b_929 b_50 b_927 b_928 b_926 ⟨by decide +kernel, by decide +kernel, (show (parseMethodDescriptor yX5_push.desc).map (fun d => d.parameters.length) = some 3 by decide +kernel)⟩ ⟨(Nat.le_of_ble_eq_true rfl), (Nat.le_of_ble_eq_true rfl)⟩ rfl (Nat.le_of_ble_eq_true rfl) ⟨by show _ ≤ 600128; omega, by show _ ≤ 7301064; omega⟩ dL_law_320 323 rfl (fun r2 T1 h => ?_)
  show JW p l e room_1 s m #[Value.ref b] below meth c (cells + 2) (slots + 12) Qf D (fun q : Nat => s.heap.size ≤ q) 7 (lawW A1 A2 n cI cG cR cL aO S1 T1 f1) 323 [(5, .int r1), (0, .ref b), (1, .ref (A1 0)), (2, .ref (A2 0)), (3, .ref aO), (4, .int (nI i))] [.int r2]
  refine n_istore C [(6, .int r2), (5, .int r1), (0, .ref b), (1, .ref (A1 0)), (2, .ref (A2 0)), (3, .ref aO), (4, .int (nI i))] (Nat.le_of_ble_eq_true rfl) rfl dL_law_323 325 rfl ?_
  refine n_aload_n C 4 rfl dL_law_325 326 rfl ?_
  refine n_callCt CM hTr trivial hi2 (As := []) 0 [] (wd 32 A1 (ceC A1 n cI cG cR) S1 ++ [outC aO cL f1]) [] rfl (ctX5_thrown hTr hi2 h) (Nat.le_of_ble_eq_true rfl) (heM_o _) rfl b_847 b_50 b_845 b_846 b_844 ⟨by decide +kernel, by decide +kernel, (show (parseMethodDescriptor yX5_thrown.desc).map (fun d => d.parameters.length) = some 0 by decide +kernel)⟩ ⟨(Nat.le_of_ble_eq_true rfl), (Nat.le_of_ble_eq_true rfl)⟩ rfl (Nat.le_of_ble_eq_true rfl) ⟨by show _ ≤ 600128; omega, by show _ ≤ 7301064; omega⟩ dL_law_326 329 rfl (fun r3 T2 h => ?_)
  obtain ⟨hk, hv, hR⟩ := h
  show JW p l e room_1 s m #[Value.ref b] below meth c (cells + 2) (slots + 12) Qf D (fun q : Nat => s.heap.size ≤ q) 7 (lawW A1 A2 n cI cG cR cL aO S1 T2 f1) 329 [(6, .int r2), (5, .int r1), (0, .ref b), (1, .ref (A1 0)), (2, .ref (A2 0)), (3, .ref aO), (4, .int (nI i))] [.int r3]
  refine n_iload C 1 rfl dL_law_329 331 rfl ?_
  refine n_icmp_eq C 336 dL_law_331 334 rfl rfl (fun _ => ?_) (fun z => absurd hk z)
  refine n_iload C 1 rfl dL_law_336 338 rfl ?_
  refine n_if_ne C 353 dL_law_338 341 rfl rfl (fun z0 => ?_) (fun z0 => ?_)
  · have eb : f1 (0 : Int32).toNatClampNeg = r2.toInt64 := hb r2 (hv z0)
    refine n_aload_n C 5 rfl dL_law_341 342 rfl ?_
    refine n_iconst C 0 rfl dL_law_342 343 rfl ?_
    refine n_lald C 55 3 lawW_out rfl (show vp_in 0 1 by unfold vp_in; decide) dL_law_343 344 rfl ?_
    rw [eb]
    refine n_iload C 0 rfl dL_law_344 346 rfl ?_
    refine n_i2l C dL_law_346 347 rfl ?_
    refine n_lcmp0 C dL_law_347 348 rfl ?_
    refine n_if_eq C 353 dL_law_348 351 rfl rfl (fun _ => ?_) (fun z => absurd rfl z)
    refine n_goto C 1421 dL_law_353 rfl ?_
    refine n_sub [(0, .ref b), (1, .ref (A1 0)), (2, .ref (A2 0)), (3, .ref aO), (4, .int (nI i))] [2, 3, 4, 5, 6] rfl ?_
    refine n_widen (cells + 4) (slots + 24) (by omega) (by omega) ?_
    exact K S1 T2 f1 hR
  · skip
    refine n_goto C 1421 dL_law_353 rfl ?_
    refine n_sub [(0, .ref b), (1, .ref (A1 0)), (2, .ref (A2 0)), (3, .ref aO), (4, .int (nI i))] [2, 3, 4, 5, 6] rfl ?_
    refine n_widen (cells + 4) (slots + 24) (by omega) (by omega) ?_
    exact K S1 T2 f1 hR
set_option maxRecDepth 100000 in
set_option maxHeartbeats 8000000 in
theorem law_put {p : Program} {l : Launch} {e : Env} {s : State} {m : MethodId} {below : List Frame} {meth : Method} {c : Code} {D : va_G} {A1 A2 : Nat → Nat} {cI cG cR cL : ClassId} {aK aV aO b LL : Nat} {xs : Nat → Int32} {n : Nat → Nat} {Qf : State → Prop} {cells slots : Nat} {S T : Nat → Nat → Int32} {fO : Nat → Int64} {i : Nat} {P : (Nat → Nat → Int32) → (Nat → Nat → Int32) → Prop} (C0 : LawC p l s m c D A1 A2 cI cG cR cL aK aV b LL xs) (hi5 : i + 5 ≤ LL) (hc : cells ≤ 1000) (hs : slots ≤ 100000) (h : op_put n (xs (i + 1)) (xs (i + 2)) (xs (i + 3)) S T P) (K : ∀ S1 T1 f1, P S1 T1 → JW p l e room_1 s m #[Value.ref b] below meth c (cells + 4) (slots + 24) Qf D (fun q : Nat => s.heap.size ≤ q) 7 (lawW A1 A2 n cI cG cR cL aO S1 T1 f1) 1421 [(0, .ref b), (1, .ref (A1 0)), (2, .ref (A2 0)), (3, .ref aO), (4, .int (nI i))] []) : JW p l e room_1 s m #[Value.ref b] below meth c cells slots Qf D (fun q : Nat => s.heap.size ≤ q) 7 (lawW A1 A2 n cI cG cR cL aO S T fO) 356 [(0, .ref b), (1, .ref (A1 0)), (2, .ref (A2 0)), (3, .ref aO), (4, .int (nI i))] [] := by
  obtain ⟨C, hXW, hX, hbl, hi1, hi2, hst, hLL⟩ := C0
  have hbA : ¬ (fun q : Nat => s.heap.size ≤ q) b := Nat.not_le.mpr hbl
  have CM : Cw p s m #[Value.ref b] c code 7 RL D (tyM cI) (fun q : Nat => s.heap.size ≤ q) := C.sub [0] rfl
  have CC : Cw p s m #[Value.ref b] c code 7 RL D (tyC cI cG cR) (fun q : Nat => s.heap.size ≤ q) := C.sub [0, 1, 2] rfl
  unfold op_put at h
  refine n_aload_n C 1 rfl dL_law_356 357 rfl ?_
  refine n_aload_n C 0 rfl dL_law_357 358 rfl ?_
  refine n_iload C 4 rfl dL_law_358 360 rfl ?_
  refine n_iconst C 1 rfl dL_law_360 361 rfl ?_
  refine n_iadd C dL_law_361 362 rfl ?_
  rw [show (nI i + 1 : Int32) = nI (i + 1) from nI_add i 1]
  refine n_sld C hX hbl hbA (vp_in_nI (show i + 1 < LL by omega) (by omega)) dL_law_362 363 rfl ?_
  rw [nI_clamp (show i + 1 < 2 ^ 31 by omega)]
  refine n_aload_n C 0 rfl dL_law_363 364 rfl ?_
  refine n_iload C 4 rfl dL_law_364 366 rfl ?_
  refine n_iconst C 2 rfl dL_law_366 367 rfl ?_
  refine n_iadd C dL_law_367 368 rfl ?_
  rw [show (nI i + 2 : Int32) = nI (i + 2) from nI_add i 2]
  refine n_sld C hX hbl hbA (vp_in_nI (show i + 2 < LL by omega) (by omega)) dL_law_368 369 rfl ?_
  rw [nI_clamp (show i + 2 < 2 ^ 31 by omega)]
  refine n_aload_n C 0 rfl dL_law_369 370 rfl ?_
  refine n_iload C 4 rfl dL_law_370 372 rfl ?_
  refine n_iconst C 3 rfl dL_law_372 373 rfl ?_
  refine n_iadd C dL_law_373 374 rfl ?_
  rw [show (nI i + 3 : Int32) = nI (i + 3) from nI_add i 3]
  refine n_sld C hX hbl hbA (vp_in_nI (show i + 3 < LL by omega) (by omega)) dL_law_374 375 rfl ?_
  rw [nI_clamp (show i + 3 < 2 ^ 31 by omega)]
  refine n_aload_n C 3 rfl dL_law_375 376 rfl ?_
  refine n_callW C hFw hXW (As := [.ref (A1 0), .int (xs (i + 1)), .int (xs (i + 2)), .int (xs (i + 3)), .ref aO]) (wd 23 A2 (ceM A2 cI) T) (wd 32 A1 (ceC A1 n cI cG cR) S ++ [outC aO cL fO]) [] [] (show _ = _ by rw [app_nil3]; rfl) (cnL_put hst hi1 h) b_447 b_43 b_446 b_445 ⟨by decide +kernel, by decide +kernel, (show (parseMethodDescriptor yL_put.desc).map (fun d => d.parameters.length) = some 5 by decide +kernel)⟩ ⟨(Nat.le_of_ble_eq_true rfl), (Nat.le_of_ble_eq_true rfl)⟩ rfl (Nat.le_of_ble_eq_true rfl) (cells + 4) (slots + 24) rfl rfl ⟨by show cells + 4 ≤ 600128; omega, by show slots + 24 ≤ 7301064; omega⟩ dL_law_376 379 rfl (fun v w1 h => ?_)
  obtain ⟨r1, S1, ov, f1, rfl, rfl, h, hb⟩ := h
  refine n_ws (w1 := lawW A1 A2 n cI cG cR cL aO S1 T f1) (by rw [app_nil3]; rfl) ?_
  show JW p l e room_1 s m #[Value.ref b] below meth c (cells + 4) (slots + 24) Qf D (fun q : Nat => s.heap.size ≤ q) 7 (lawW A1 A2 n cI cG cR cL aO S1 T f1) 379 [(0, .ref b), (1, .ref (A1 0)), (2, .ref (A2 0)), (3, .ref aO), (4, .int (nI i))] [.int r1]
  refine n_istore C [(5, .int r1), (0, .ref b), (1, .ref (A1 0)), (2, .ref (A2 0)), (3, .ref aO), (4, .int (nI i))] (Nat.le_of_ble_eq_true rfl) rfl dL_law_379 381 rfl ?_
  refine n_aload_n C 3 rfl dL_law_381 382 rfl ?_
  refine n_aload_n C 1 rfl dL_law_382 383 rfl ?_
  refine n_iload C 5 rfl dL_law_383 385 rfl ?_
  refine n_iconst C 1 rfl dL_law_385 386 rfl ?_
  refine n_iadd C dL_law_386 387 rfl ?_
  rw [show (nI i + 1 : Int32) = nI (i + 1) from nI_add i 1]
  refine n_sld C hX hbl hbA (vp_in_nI (show i + 1 < LL by omega) (by omega)) dL_law_387 388 rfl ?_
  rw [nI_clamp (show i + 1 < 2 ^ 31 by omega)]
  refine n_aload_n C 1 rfl dL_law_388 389 rfl ?_
  refine n_iload C 5 rfl dL_law_389 391 rfl ?_
  refine n_iconst C 2 rfl dL_law_391 392 rfl ?_
  refine n_iadd C dL_law_392 393 rfl ?_
  rw [show (nI i + 2 : Int32) = nI (i + 2) from nI_add i 2]
  refine n_sld C hX hbl hbA (vp_in_nI (show i + 2 < LL by omega) (by omega)) dL_law_393 394 rfl ?_
  rw [nI_clamp (show i + 2 < 2 ^ 31 by omega)]
  refine n_aload_n C 1 rfl dL_law_394 395 rfl ?_
  refine n_iload C 5 rfl dL_law_395 397 rfl ?_
  refine n_iconst C 3 rfl dL_law_397 398 rfl ?_
  refine n_iadd C dL_law_398 399 rfl ?_
  rw [show (nI i + 3 : Int32) = nI (i + 3) from nI_add i 3]
  refine n_sld C hX hbl hbA (vp_in_nI (show i + 3 < LL by omega) (by omega)) dL_law_399 400 rfl ?_
  rw [nI_clamp (show i + 3 < 2 ^ 31 by omega)]
  refine n_callCt CM hTr trivial hi2 (As := [.int (xs (i + 1)), .int (xs (i + 2)), .int (xs (i + 3))]) 0 [] (wd 32 A1 (ceC A1 n cI cG cR) S1 ++ [outC aO cL f1]) [] rfl (ctX5_put hTr hi2 h) (Nat.le_of_ble_eq_true rfl) (heM_o _) rfl b_937 b_50 b_935 b_936 b_934 ⟨by decide +kernel, by decide +kernel, (show (parseMethodDescriptor yX5_put.desc).map (fun d => d.parameters.length) = some 3 by decide +kernel)⟩ ⟨(Nat.le_of_ble_eq_true rfl), (Nat.le_of_ble_eq_true rfl)⟩ rfl (Nat.le_of_ble_eq_true rfl) ⟨by show _ ≤ 600128; omega, by show _ ≤ 7301064; omega⟩ dL_law_400 403 rfl (fun r2 T1 h => ?_)
  show JW p l e room_1 s m #[Value.ref b] below meth c (cells + 4) (slots + 24) Qf D (fun q : Nat => s.heap.size ≤ q) 7 (lawW A1 A2 n cI cG cR cL aO S1 T1 f1) 403 [(5, .int r1), (0, .ref b), (1, .ref (A1 0)), (2, .ref (A2 0)), (3, .ref aO), (4, .int (nI i))] [.int r2]
  refine n_istore C [(6, .int r2), (5, .int r1), (0, .ref b), (1, .ref (A1 0)), (2, .ref (A2 0)), (3, .ref aO), (4, .int (nI i))] (Nat.le_of_ble_eq_true rfl) rfl dL_law_403 405 rfl ?_
  refine n_aload_n C 4 rfl dL_law_405 406 rfl ?_
  refine n_callCt CM hTr trivial hi2 (As := []) 0 [] (wd 32 A1 (ceC A1 n cI cG cR) S1 ++ [outC aO cL f1]) [] rfl (ctX5_thrown hTr hi2 h) (Nat.le_of_ble_eq_true rfl) (heM_o _) rfl b_847 b_50 b_845 b_846 b_844 ⟨by decide +kernel, by decide +kernel, (show (parseMethodDescriptor yX5_thrown.desc).map (fun d => d.parameters.length) = some 0 by decide +kernel)⟩ ⟨(Nat.le_of_ble_eq_true rfl), (Nat.le_of_ble_eq_true rfl)⟩ rfl (Nat.le_of_ble_eq_true rfl) ⟨by show _ ≤ 600128; omega, by show _ ≤ 7301064; omega⟩ dL_law_406 409 rfl (fun r3 T2 h => ?_)
  obtain ⟨hk, hv, hR⟩ := h
  show JW p l e room_1 s m #[Value.ref b] below meth c (cells + 4) (slots + 24) Qf D (fun q : Nat => s.heap.size ≤ q) 7 (lawW A1 A2 n cI cG cR cL aO S1 T2 f1) 409 [(6, .int r2), (5, .int r1), (0, .ref b), (1, .ref (A1 0)), (2, .ref (A2 0)), (3, .ref aO), (4, .int (nI i))] [.int r3]
  refine n_iload C 1 rfl dL_law_409 411 rfl ?_
  refine n_icmp_eq C 416 dL_law_411 414 rfl rfl (fun _ => ?_) (fun z => absurd hk z)
  refine n_iload C 1 rfl dL_law_416 418 rfl ?_
  refine n_if_ne C 433 dL_law_418 421 rfl rfl (fun z0 => ?_) (fun z0 => ?_)
  · have eb : f1 (0 : Int32).toNatClampNeg = r2.toInt64 := hb r2 (hv z0)
    refine n_aload_n C 5 rfl dL_law_421 422 rfl ?_
    refine n_iconst C 0 rfl dL_law_422 423 rfl ?_
    refine n_lald C 55 3 lawW_out rfl (show vp_in 0 1 by unfold vp_in; decide) dL_law_423 424 rfl ?_
    rw [eb]
    refine n_iload C 0 rfl dL_law_424 426 rfl ?_
    refine n_i2l C dL_law_426 427 rfl ?_
    refine n_lcmp0 C dL_law_427 428 rfl ?_
    refine n_if_eq C 433 dL_law_428 431 rfl rfl (fun _ => ?_) (fun z => absurd rfl z)
    refine n_goto C 1421 dL_law_433 rfl ?_
    refine n_sub [(0, .ref b), (1, .ref (A1 0)), (2, .ref (A2 0)), (3, .ref aO), (4, .int (nI i))] [2, 3, 4, 5, 6] rfl ?_
    refine n_widen (cells + 4) (slots + 24) (by omega) (by omega) ?_
    exact K S1 T2 f1 hR
  · skip
    refine n_goto C 1421 dL_law_433 rfl ?_
    refine n_sub [(0, .ref b), (1, .ref (A1 0)), (2, .ref (A2 0)), (3, .ref aO), (4, .int (nI i))] [2, 3, 4, 5, 6] rfl ?_
    refine n_widen (cells + 4) (slots + 24) (by omega) (by omega) ?_
    exact K S1 T2 f1 hR
set_option maxRecDepth 100000 in
set_option maxHeartbeats 8000000 in
theorem law_get {p : Program} {l : Launch} {e : Env} {s : State} {m : MethodId} {below : List Frame} {meth : Method} {c : Code} {D : va_G} {A1 A2 : Nat → Nat} {cI cG cR cL : ClassId} {aK aV aO b LL : Nat} {xs : Nat → Int32} {n : Nat → Nat} {Qf : State → Prop} {cells slots : Nat} {S T : Nat → Nat → Int32} {fO : Nat → Int64} {i : Nat} {P : (Nat → Nat → Int32) → (Nat → Nat → Int32) → Prop} (C0 : LawC p l s m c D A1 A2 cI cG cR cL aK aV b LL xs) (hi5 : i + 5 ≤ LL) (hc : cells ≤ 1000) (hs : slots ≤ 100000) (h : op_get n (xs (i + 1)) (xs (i + 2)) (xs (i + 3)) S T P) (K : ∀ S1 T1 f1, P S1 T1 → JW p l e room_1 s m #[Value.ref b] below meth c (cells + 4) (slots + 24) Qf D (fun q : Nat => s.heap.size ≤ q) 7 (lawW A1 A2 n cI cG cR cL aO S1 T1 f1) 1421 [(0, .ref b), (1, .ref (A1 0)), (2, .ref (A2 0)), (3, .ref aO), (4, .int (nI i))] []) : JW p l e room_1 s m #[Value.ref b] below meth c cells slots Qf D (fun q : Nat => s.heap.size ≤ q) 7 (lawW A1 A2 n cI cG cR cL aO S T fO) 436 [(0, .ref b), (1, .ref (A1 0)), (2, .ref (A2 0)), (3, .ref aO), (4, .int (nI i))] [] := by
  obtain ⟨C, hXW, hX, hbl, hi1, hi2, hst, hLL⟩ := C0
  have hbA : ¬ (fun q : Nat => s.heap.size ≤ q) b := Nat.not_le.mpr hbl
  have CM : Cw p s m #[Value.ref b] c code 7 RL D (tyM cI) (fun q : Nat => s.heap.size ≤ q) := C.sub [0] rfl
  have CC : Cw p s m #[Value.ref b] c code 7 RL D (tyC cI cG cR) (fun q : Nat => s.heap.size ≤ q) := C.sub [0, 1, 2] rfl
  unfold op_get at h
  refine n_aload_n C 1 rfl dL_law_436 437 rfl ?_
  refine n_aload_n C 0 rfl dL_law_437 438 rfl ?_
  refine n_iload C 4 rfl dL_law_438 440 rfl ?_
  refine n_iconst C 1 rfl dL_law_440 441 rfl ?_
  refine n_iadd C dL_law_441 442 rfl ?_
  rw [show (nI i + 1 : Int32) = nI (i + 1) from nI_add i 1]
  refine n_sld C hX hbl hbA (vp_in_nI (show i + 1 < LL by omega) (by omega)) dL_law_442 443 rfl ?_
  rw [nI_clamp (show i + 1 < 2 ^ 31 by omega)]
  refine n_aload_n C 0 rfl dL_law_443 444 rfl ?_
  refine n_iload C 4 rfl dL_law_444 446 rfl ?_
  refine n_iconst C 2 rfl dL_law_446 447 rfl ?_
  refine n_iadd C dL_law_447 448 rfl ?_
  rw [show (nI i + 2 : Int32) = nI (i + 2) from nI_add i 2]
  refine n_sld C hX hbl hbA (vp_in_nI (show i + 2 < LL by omega) (by omega)) dL_law_448 449 rfl ?_
  rw [nI_clamp (show i + 2 < 2 ^ 31 by omega)]
  refine n_aload_n C 0 rfl dL_law_449 450 rfl ?_
  refine n_iload C 4 rfl dL_law_450 452 rfl ?_
  refine n_iconst C 3 rfl dL_law_452 453 rfl ?_
  refine n_iadd C dL_law_453 454 rfl ?_
  rw [show (nI i + 3 : Int32) = nI (i + 3) from nI_add i 3]
  refine n_sld C hX hbl hbA (vp_in_nI (show i + 3 < LL by omega) (by omega)) dL_law_454 455 rfl ?_
  rw [nI_clamp (show i + 3 < 2 ^ 31 by omega)]
  refine n_aload_n C 3 rfl dL_law_455 456 rfl ?_
  refine n_callW C hFw hXW (As := [.ref (A1 0), .int (xs (i + 1)), .int (xs (i + 2)), .int (xs (i + 3)), .ref aO]) (wd 23 A2 (ceM A2 cI) T) (wd 32 A1 (ceC A1 n cI cG cR) S ++ [outC aO cL fO]) [] [] (show _ = _ by rw [app_nil3]; rfl) (cnL_get hst hi1 h) b_493 b_43 b_492 b_491 ⟨by decide +kernel, by decide +kernel, (show (parseMethodDescriptor yL_get.desc).map (fun d => d.parameters.length) = some 5 by decide +kernel)⟩ ⟨(Nat.le_of_ble_eq_true rfl), (Nat.le_of_ble_eq_true rfl)⟩ rfl (Nat.le_of_ble_eq_true rfl) (cells + 4) (slots + 24) rfl rfl ⟨by show cells + 4 ≤ 600128; omega, by show slots + 24 ≤ 7301064; omega⟩ dL_law_456 459 rfl (fun v w1 h => ?_)
  obtain ⟨r1, S1, ov, f1, rfl, rfl, h, hb⟩ := h
  refine n_ws (w1 := lawW A1 A2 n cI cG cR cL aO S1 T f1) (by rw [app_nil3]; rfl) ?_
  show JW p l e room_1 s m #[Value.ref b] below meth c (cells + 4) (slots + 24) Qf D (fun q : Nat => s.heap.size ≤ q) 7 (lawW A1 A2 n cI cG cR cL aO S1 T f1) 459 [(0, .ref b), (1, .ref (A1 0)), (2, .ref (A2 0)), (3, .ref aO), (4, .int (nI i))] [.int r1]
  refine n_istore C [(5, .int r1), (0, .ref b), (1, .ref (A1 0)), (2, .ref (A2 0)), (3, .ref aO), (4, .int (nI i))] (Nat.le_of_ble_eq_true rfl) rfl dL_law_459 461 rfl ?_
  refine n_aload_n C 3 rfl dL_law_461 462 rfl ?_
  refine n_aload_n C 1 rfl dL_law_462 463 rfl ?_
  refine n_iload C 5 rfl dL_law_463 465 rfl ?_
  refine n_iconst C 1 rfl dL_law_465 466 rfl ?_
  refine n_iadd C dL_law_466 467 rfl ?_
  rw [show (nI i + 1 : Int32) = nI (i + 1) from nI_add i 1]
  refine n_sld C hX hbl hbA (vp_in_nI (show i + 1 < LL by omega) (by omega)) dL_law_467 468 rfl ?_
  rw [nI_clamp (show i + 1 < 2 ^ 31 by omega)]
  refine n_aload_n C 1 rfl dL_law_468 469 rfl ?_
  refine n_iload C 5 rfl dL_law_469 471 rfl ?_
  refine n_iconst C 2 rfl dL_law_471 472 rfl ?_
  refine n_iadd C dL_law_472 473 rfl ?_
  rw [show (nI i + 2 : Int32) = nI (i + 2) from nI_add i 2]
  refine n_sld C hX hbl hbA (vp_in_nI (show i + 2 < LL by omega) (by omega)) dL_law_473 474 rfl ?_
  rw [nI_clamp (show i + 2 < 2 ^ 31 by omega)]
  refine n_aload_n C 1 rfl dL_law_474 475 rfl ?_
  refine n_iload C 5 rfl dL_law_475 477 rfl ?_
  refine n_iconst C 3 rfl dL_law_477 478 rfl ?_
  refine n_iadd C dL_law_478 479 rfl ?_
  rw [show (nI i + 3 : Int32) = nI (i + 3) from nI_add i 3]
  refine n_sld C hX hbl hbA (vp_in_nI (show i + 3 < LL by omega) (by omega)) dL_law_479 480 rfl ?_
  rw [nI_clamp (show i + 3 < 2 ^ 31 by omega)]
  refine n_callCt CM hTr trivial hi2 (As := [.int (xs (i + 1)), .int (xs (i + 2)), .int (xs (i + 3))]) 0 [] (wd 32 A1 (ceC A1 n cI cG cR) S1 ++ [outC aO cL f1]) [] rfl (ctX5_get hTr hi2 h) (Nat.le_of_ble_eq_true rfl) (heM_o _) rfl b_945 b_50 b_943 b_944 b_942 ⟨by decide +kernel, by decide +kernel, (show (parseMethodDescriptor yX5_get.desc).map (fun d => d.parameters.length) = some 3 by decide +kernel)⟩ ⟨(Nat.le_of_ble_eq_true rfl), (Nat.le_of_ble_eq_true rfl)⟩ rfl (Nat.le_of_ble_eq_true rfl) ⟨by show _ ≤ 600128; omega, by show _ ≤ 7301064; omega⟩ dL_law_480 483 rfl (fun r2 T1 h => ?_)
  show JW p l e room_1 s m #[Value.ref b] below meth c (cells + 4) (slots + 24) Qf D (fun q : Nat => s.heap.size ≤ q) 7 (lawW A1 A2 n cI cG cR cL aO S1 T1 f1) 483 [(5, .int r1), (0, .ref b), (1, .ref (A1 0)), (2, .ref (A2 0)), (3, .ref aO), (4, .int (nI i))] [.int r2]
  refine n_istore C [(6, .int r2), (5, .int r1), (0, .ref b), (1, .ref (A1 0)), (2, .ref (A2 0)), (3, .ref aO), (4, .int (nI i))] (Nat.le_of_ble_eq_true rfl) rfl dL_law_483 485 rfl ?_
  refine n_aload_n C 4 rfl dL_law_485 486 rfl ?_
  refine n_callCt CM hTr trivial hi2 (As := []) 0 [] (wd 32 A1 (ceC A1 n cI cG cR) S1 ++ [outC aO cL f1]) [] rfl (ctX5_thrown hTr hi2 h) (Nat.le_of_ble_eq_true rfl) (heM_o _) rfl b_847 b_50 b_845 b_846 b_844 ⟨by decide +kernel, by decide +kernel, (show (parseMethodDescriptor yX5_thrown.desc).map (fun d => d.parameters.length) = some 0 by decide +kernel)⟩ ⟨(Nat.le_of_ble_eq_true rfl), (Nat.le_of_ble_eq_true rfl)⟩ rfl (Nat.le_of_ble_eq_true rfl) ⟨by show _ ≤ 600128; omega, by show _ ≤ 7301064; omega⟩ dL_law_486 489 rfl (fun r3 T2 h => ?_)
  obtain ⟨hk, hv, hR⟩ := h
  show JW p l e room_1 s m #[Value.ref b] below meth c (cells + 4) (slots + 24) Qf D (fun q : Nat => s.heap.size ≤ q) 7 (lawW A1 A2 n cI cG cR cL aO S1 T2 f1) 489 [(6, .int r2), (5, .int r1), (0, .ref b), (1, .ref (A1 0)), (2, .ref (A2 0)), (3, .ref aO), (4, .int (nI i))] [.int r3]
  refine n_iload C 1 rfl dL_law_489 491 rfl ?_
  refine n_icmp_eq C 496 dL_law_491 494 rfl rfl (fun _ => ?_) (fun z => absurd hk z)
  refine n_iload C 1 rfl dL_law_496 498 rfl ?_
  refine n_if_ne C 513 dL_law_498 501 rfl rfl (fun z0 => ?_) (fun z0 => ?_)
  · have eb : f1 (0 : Int32).toNatClampNeg = r2.toInt64 := hb r2 (hv z0)
    refine n_aload_n C 5 rfl dL_law_501 502 rfl ?_
    refine n_iconst C 0 rfl dL_law_502 503 rfl ?_
    refine n_lald C 55 3 lawW_out rfl (show vp_in 0 1 by unfold vp_in; decide) dL_law_503 504 rfl ?_
    rw [eb]
    refine n_iload C 0 rfl dL_law_504 506 rfl ?_
    refine n_i2l C dL_law_506 507 rfl ?_
    refine n_lcmp0 C dL_law_507 508 rfl ?_
    refine n_if_eq C 513 dL_law_508 511 rfl rfl (fun _ => ?_) (fun z => absurd rfl z)
    refine n_goto C 1421 dL_law_513 rfl ?_
    refine n_sub [(0, .ref b), (1, .ref (A1 0)), (2, .ref (A2 0)), (3, .ref aO), (4, .int (nI i))] [2, 3, 4, 5, 6] rfl ?_
    refine n_widen (cells + 4) (slots + 24) (by omega) (by omega) ?_
    exact K S1 T2 f1 hR
  · skip
    refine n_goto C 1421 dL_law_513 rfl ?_
    refine n_sub [(0, .ref b), (1, .ref (A1 0)), (2, .ref (A2 0)), (3, .ref aO), (4, .int (nI i))] [2, 3, 4, 5, 6] rfl ?_
    refine n_widen (cells + 4) (slots + 24) (by omega) (by omega) ?_
    exact K S1 T2 f1 hR
set_option maxRecDepth 100000 in
set_option maxHeartbeats 8000000 in
theorem law_move {p : Program} {l : Launch} {e : Env} {s : State} {m : MethodId} {below : List Frame} {meth : Method} {c : Code} {D : va_G} {A1 A2 : Nat → Nat} {cI cG cR cL : ClassId} {aK aV aO b LL : Nat} {xs : Nat → Int32} {n : Nat → Nat} {Qf : State → Prop} {cells slots : Nat} {S T : Nat → Nat → Int32} {fO : Nat → Int64} {i : Nat} {P : (Nat → Nat → Int32) → (Nat → Nat → Int32) → Prop} (C0 : LawC p l s m c D A1 A2 cI cG cR cL aK aV b LL xs) (hi5 : i + 5 ≤ LL) (hc : cells ≤ 1000) (hs : slots ≤ 100000) (h : op_move n (xs (i + 1)) (xs (i + 2)) S T P) (K : ∀ S1 T1 f1, P S1 T1 → JW p l e room_1 s m #[Value.ref b] below meth c (cells + 4) (slots + 24) Qf D (fun q : Nat => s.heap.size ≤ q) 7 (lawW A1 A2 n cI cG cR cL aO S1 T1 f1) 1421 [(0, .ref b), (1, .ref (A1 0)), (2, .ref (A2 0)), (3, .ref aO), (4, .int (nI i))] []) : JW p l e room_1 s m #[Value.ref b] below meth c cells slots Qf D (fun q : Nat => s.heap.size ≤ q) 7 (lawW A1 A2 n cI cG cR cL aO S T fO) 516 [(0, .ref b), (1, .ref (A1 0)), (2, .ref (A2 0)), (3, .ref aO), (4, .int (nI i))] [] := by
  obtain ⟨C, hXW, hX, hbl, hi1, hi2, hst, hLL⟩ := C0
  have hbA : ¬ (fun q : Nat => s.heap.size ≤ q) b := Nat.not_le.mpr hbl
  have CM : Cw p s m #[Value.ref b] c code 7 RL D (tyM cI) (fun q : Nat => s.heap.size ≤ q) := C.sub [0] rfl
  have CC : Cw p s m #[Value.ref b] c code 7 RL D (tyC cI cG cR) (fun q : Nat => s.heap.size ≤ q) := C.sub [0, 1, 2] rfl
  unfold op_move at h
  refine n_aload_n C 1 rfl dL_law_516 517 rfl ?_
  refine n_aload_n C 0 rfl dL_law_517 518 rfl ?_
  refine n_iload C 4 rfl dL_law_518 520 rfl ?_
  refine n_iconst C 1 rfl dL_law_520 521 rfl ?_
  refine n_iadd C dL_law_521 522 rfl ?_
  rw [show (nI i + 1 : Int32) = nI (i + 1) from nI_add i 1]
  refine n_sld C hX hbl hbA (vp_in_nI (show i + 1 < LL by omega) (by omega)) dL_law_522 523 rfl ?_
  rw [nI_clamp (show i + 1 < 2 ^ 31 by omega)]
  refine n_aload_n C 0 rfl dL_law_523 524 rfl ?_
  refine n_iload C 4 rfl dL_law_524 526 rfl ?_
  refine n_iconst C 2 rfl dL_law_526 527 rfl ?_
  refine n_iadd C dL_law_527 528 rfl ?_
  rw [show (nI i + 2 : Int32) = nI (i + 2) from nI_add i 2]
  refine n_sld C hX hbl hbA (vp_in_nI (show i + 2 < LL by omega) (by omega)) dL_law_528 529 rfl ?_
  rw [nI_clamp (show i + 2 < 2 ^ 31 by omega)]
  refine n_aload_n C 3 rfl dL_law_529 530 rfl ?_
  refine n_callW C hFw hXW (As := [.ref (A1 0), .int (xs (i + 1)), .int (xs (i + 2)), .ref aO]) (wd 23 A2 (ceM A2 cI) T) (wd 32 A1 (ceC A1 n cI cG cR) S ++ [outC aO cL fO]) [] [] (show _ = _ by rw [app_nil3]; rfl) (cnL_move hst hi1 h) b_500 b_43 b_499 b_498 ⟨by decide +kernel, by decide +kernel, (show (parseMethodDescriptor yL_move.desc).map (fun d => d.parameters.length) = some 4 by decide +kernel)⟩ ⟨(Nat.le_of_ble_eq_true rfl), (Nat.le_of_ble_eq_true rfl)⟩ rfl (Nat.le_of_ble_eq_true rfl) (cells + 2) (slots + 12) rfl rfl ⟨by show cells + 2 ≤ 600128; omega, by show slots + 12 ≤ 7301064; omega⟩ dL_law_530 533 rfl (fun v w1 h => ?_)
  obtain ⟨r1, S1, ov, f1, rfl, rfl, h, hb⟩ := h
  refine n_ws (w1 := lawW A1 A2 n cI cG cR cL aO S1 T f1) (by rw [app_nil3]; rfl) ?_
  show JW p l e room_1 s m #[Value.ref b] below meth c (cells + 2) (slots + 12) Qf D (fun q : Nat => s.heap.size ≤ q) 7 (lawW A1 A2 n cI cG cR cL aO S1 T f1) 533 [(0, .ref b), (1, .ref (A1 0)), (2, .ref (A2 0)), (3, .ref aO), (4, .int (nI i))] [.int r1]
  refine n_istore C [(5, .int r1), (0, .ref b), (1, .ref (A1 0)), (2, .ref (A2 0)), (3, .ref aO), (4, .int (nI i))] (Nat.le_of_ble_eq_true rfl) rfl dL_law_533 535 rfl ?_
  refine n_aload_n C 3 rfl dL_law_535 536 rfl ?_
  refine n_aload_n C 1 rfl dL_law_536 537 rfl ?_
  refine n_iload C 5 rfl dL_law_537 539 rfl ?_
  refine n_iconst C 1 rfl dL_law_539 540 rfl ?_
  refine n_iadd C dL_law_540 541 rfl ?_
  rw [show (nI i + 1 : Int32) = nI (i + 1) from nI_add i 1]
  refine n_sld C hX hbl hbA (vp_in_nI (show i + 1 < LL by omega) (by omega)) dL_law_541 542 rfl ?_
  rw [nI_clamp (show i + 1 < 2 ^ 31 by omega)]
  refine n_aload_n C 1 rfl dL_law_542 543 rfl ?_
  refine n_iload C 5 rfl dL_law_543 545 rfl ?_
  refine n_iconst C 2 rfl dL_law_545 546 rfl ?_
  refine n_iadd C dL_law_546 547 rfl ?_
  rw [show (nI i + 2 : Int32) = nI (i + 2) from nI_add i 2]
  refine n_sld C hX hbl hbA (vp_in_nI (show i + 2 < LL by omega) (by omega)) dL_law_547 548 rfl ?_
  rw [nI_clamp (show i + 2 < 2 ^ 31 by omega)]
  refine n_callCt CM hTr trivial hi2 (As := [.int (xs (i + 1)), .int (xs (i + 2))]) 0 [] (wd 32 A1 (ceC A1 n cI cG cR) S1 ++ [outC aO cL f1]) [] rfl (ctX5_move hTr hi2 h) (Nat.le_of_ble_eq_true rfl) (heM_o _) rfl b_949 b_50 b_947 b_948 b_946 ⟨by decide +kernel, by decide +kernel, (show (parseMethodDescriptor yX5_move.desc).map (fun d => d.parameters.length) = some 2 by decide +kernel)⟩ ⟨(Nat.le_of_ble_eq_true rfl), (Nat.le_of_ble_eq_true rfl)⟩ rfl (Nat.le_of_ble_eq_true rfl) ⟨by show _ ≤ 600128; omega, by show _ ≤ 7301064; omega⟩ dL_law_548 551 rfl (fun r2 T1 h => ?_)
  show JW p l e room_1 s m #[Value.ref b] below meth c (cells + 2) (slots + 12) Qf D (fun q : Nat => s.heap.size ≤ q) 7 (lawW A1 A2 n cI cG cR cL aO S1 T1 f1) 551 [(5, .int r1), (0, .ref b), (1, .ref (A1 0)), (2, .ref (A2 0)), (3, .ref aO), (4, .int (nI i))] [.int r2]
  refine n_istore C [(6, .int r2), (5, .int r1), (0, .ref b), (1, .ref (A1 0)), (2, .ref (A2 0)), (3, .ref aO), (4, .int (nI i))] (Nat.le_of_ble_eq_true rfl) rfl dL_law_551 553 rfl ?_
  refine n_aload_n C 4 rfl dL_law_553 554 rfl ?_
  refine n_callCt CM hTr trivial hi2 (As := []) 0 [] (wd 32 A1 (ceC A1 n cI cG cR) S1 ++ [outC aO cL f1]) [] rfl (ctX5_thrown hTr hi2 h) (Nat.le_of_ble_eq_true rfl) (heM_o _) rfl b_847 b_50 b_845 b_846 b_844 ⟨by decide +kernel, by decide +kernel, (show (parseMethodDescriptor yX5_thrown.desc).map (fun d => d.parameters.length) = some 0 by decide +kernel)⟩ ⟨(Nat.le_of_ble_eq_true rfl), (Nat.le_of_ble_eq_true rfl)⟩ rfl (Nat.le_of_ble_eq_true rfl) ⟨by show _ ≤ 600128; omega, by show _ ≤ 7301064; omega⟩ dL_law_554 557 rfl (fun r3 T2 h => ?_)
  obtain ⟨hk, hv, hR⟩ := h
  show JW p l e room_1 s m #[Value.ref b] below meth c (cells + 2) (slots + 12) Qf D (fun q : Nat => s.heap.size ≤ q) 7 (lawW A1 A2 n cI cG cR cL aO S1 T2 f1) 557 [(6, .int r2), (5, .int r1), (0, .ref b), (1, .ref (A1 0)), (2, .ref (A2 0)), (3, .ref aO), (4, .int (nI i))] [.int r3]
  refine n_iload C 1 rfl dL_law_557 559 rfl ?_
  refine n_icmp_eq C 564 dL_law_559 562 rfl rfl (fun _ => ?_) (fun z => absurd hk z)
  refine n_iload C 1 rfl dL_law_564 566 rfl ?_
  refine n_if_ne C 581 dL_law_566 569 rfl rfl (fun z0 => ?_) (fun z0 => ?_)
  · have eb : f1 (0 : Int32).toNatClampNeg = r2.toInt64 := hb r2 (hv z0)
    refine n_aload_n C 5 rfl dL_law_569 570 rfl ?_
    refine n_iconst C 0 rfl dL_law_570 571 rfl ?_
    refine n_lald C 55 3 lawW_out rfl (show vp_in 0 1 by unfold vp_in; decide) dL_law_571 572 rfl ?_
    rw [eb]
    refine n_iload C 0 rfl dL_law_572 574 rfl ?_
    refine n_i2l C dL_law_574 575 rfl ?_
    refine n_lcmp0 C dL_law_575 576 rfl ?_
    refine n_if_eq C 581 dL_law_576 579 rfl rfl (fun _ => ?_) (fun z => absurd rfl z)
    refine n_goto C 1421 dL_law_581 rfl ?_
    refine n_sub [(0, .ref b), (1, .ref (A1 0)), (2, .ref (A2 0)), (3, .ref aO), (4, .int (nI i))] [2, 3, 4, 5, 6] rfl ?_
    refine n_widen (cells + 4) (slots + 24) (by omega) (by omega) ?_
    exact K S1 T2 f1 hR
  · skip
    refine n_goto C 1421 dL_law_581 rfl ?_
    refine n_sub [(0, .ref b), (1, .ref (A1 0)), (2, .ref (A2 0)), (3, .ref aO), (4, .int (nI i))] [2, 3, 4, 5, 6] rfl ?_
    refine n_widen (cells + 4) (slots + 24) (by omega) (by omega) ?_
    exact K S1 T2 f1 hR
set_option maxRecDepth 100000 in
set_option maxHeartbeats 8000000 in
theorem law_keep {p : Program} {l : Launch} {e : Env} {s : State} {m : MethodId} {below : List Frame} {meth : Method} {c : Code} {D : va_G} {A1 A2 : Nat → Nat} {cI cG cR cL : ClassId} {aK aV aO b LL : Nat} {xs : Nat → Int32} {n : Nat → Nat} {Qf : State → Prop} {cells slots : Nat} {S T : Nat → Nat → Int32} {fO : Nat → Int64} {i : Nat} {P : (Nat → Nat → Int32) → (Nat → Nat → Int32) → Prop} (C0 : LawC p l s m c D A1 A2 cI cG cR cL aK aV b LL xs) (hi5 : i + 5 ≤ LL) (hc : cells ≤ 1000) (hs : slots ≤ 100000) (h : op_keep n (xs (i + 1)) S T P) (K : ∀ S1 T1 f1, P S1 T1 → JW p l e room_1 s m #[Value.ref b] below meth c (cells + 4) (slots + 24) Qf D (fun q : Nat => s.heap.size ≤ q) 7 (lawW A1 A2 n cI cG cR cL aO S1 T1 f1) 1421 [(0, .ref b), (1, .ref (A1 0)), (2, .ref (A2 0)), (3, .ref aO), (4, .int (nI i))] []) : JW p l e room_1 s m #[Value.ref b] below meth c cells slots Qf D (fun q : Nat => s.heap.size ≤ q) 7 (lawW A1 A2 n cI cG cR cL aO S T fO) 584 [(0, .ref b), (1, .ref (A1 0)), (2, .ref (A2 0)), (3, .ref aO), (4, .int (nI i))] [] := by
  obtain ⟨C, hXW, hX, hbl, hi1, hi2, hst, hLL⟩ := C0
  have hbA : ¬ (fun q : Nat => s.heap.size ≤ q) b := Nat.not_le.mpr hbl
  have CM : Cw p s m #[Value.ref b] c code 7 RL D (tyM cI) (fun q : Nat => s.heap.size ≤ q) := C.sub [0] rfl
  have CC : Cw p s m #[Value.ref b] c code 7 RL D (tyC cI cG cR) (fun q : Nat => s.heap.size ≤ q) := C.sub [0, 1, 2] rfl
  unfold op_keep at h
  refine n_aload_n C 1 rfl dL_law_584 585 rfl ?_
  refine n_aload_n C 0 rfl dL_law_585 586 rfl ?_
  refine n_iload C 4 rfl dL_law_586 588 rfl ?_
  refine n_iconst C 1 rfl dL_law_588 589 rfl ?_
  refine n_iadd C dL_law_589 590 rfl ?_
  rw [show (nI i + 1 : Int32) = nI (i + 1) from nI_add i 1]
  refine n_sld C hX hbl hbA (vp_in_nI (show i + 1 < LL by omega) (by omega)) dL_law_590 591 rfl ?_
  rw [nI_clamp (show i + 1 < 2 ^ 31 by omega)]
  refine n_aload_n C 3 rfl dL_law_591 592 rfl ?_
  refine n_callW C hFw hXW (As := [.ref (A1 0), .int (xs (i + 1)), .ref aO]) (wd 23 A2 (ceM A2 cI) T) (wd 32 A1 (ceC A1 n cI cG cR) S ++ [outC aO cL fO]) [] [] (show _ = _ by rw [app_nil3]; rfl) (cnL_keep hst hi1 h) b_507 b_43 b_506 b_505 ⟨by decide +kernel, by decide +kernel, (show (parseMethodDescriptor yL_keep.desc).map (fun d => d.parameters.length) = some 3 by decide +kernel)⟩ ⟨(Nat.le_of_ble_eq_true rfl), (Nat.le_of_ble_eq_true rfl)⟩ rfl (Nat.le_of_ble_eq_true rfl) (cells + 2) (slots + 12) rfl rfl ⟨by show cells + 2 ≤ 600128; omega, by show slots + 12 ≤ 7301064; omega⟩ dL_law_592 595 rfl (fun v w1 h => ?_)
  obtain ⟨r1, S1, ov, f1, rfl, rfl, h, hb⟩ := h
  refine n_ws (w1 := lawW A1 A2 n cI cG cR cL aO S1 T f1) (by rw [app_nil3]; rfl) ?_
  show JW p l e room_1 s m #[Value.ref b] below meth c (cells + 2) (slots + 12) Qf D (fun q : Nat => s.heap.size ≤ q) 7 (lawW A1 A2 n cI cG cR cL aO S1 T f1) 595 [(0, .ref b), (1, .ref (A1 0)), (2, .ref (A2 0)), (3, .ref aO), (4, .int (nI i))] [.int r1]
  refine n_istore C [(5, .int r1), (0, .ref b), (1, .ref (A1 0)), (2, .ref (A2 0)), (3, .ref aO), (4, .int (nI i))] (Nat.le_of_ble_eq_true rfl) rfl dL_law_595 597 rfl ?_
  refine n_aload_n C 3 rfl dL_law_597 598 rfl ?_
  refine n_aload_n C 1 rfl dL_law_598 599 rfl ?_
  refine n_iload C 5 rfl dL_law_599 601 rfl ?_
  refine n_iconst C 1 rfl dL_law_601 602 rfl ?_
  refine n_iadd C dL_law_602 603 rfl ?_
  rw [show (nI i + 1 : Int32) = nI (i + 1) from nI_add i 1]
  refine n_sld C hX hbl hbA (vp_in_nI (show i + 1 < LL by omega) (by omega)) dL_law_603 604 rfl ?_
  rw [nI_clamp (show i + 1 < 2 ^ 31 by omega)]
  refine n_callCt CM hTr trivial hi2 (As := [.int (xs (i + 1))]) 0 [] (wd 32 A1 (ceC A1 n cI cG cR) S1 ++ [outC aO cL f1]) [] rfl (ctX5_keep hTr hi2 h) (Nat.le_of_ble_eq_true rfl) (heM_o _) rfl b_953 b_50 b_951 b_952 b_950 ⟨by decide +kernel, by decide +kernel, (show (parseMethodDescriptor yX5_keep.desc).map (fun d => d.parameters.length) = some 1 by decide +kernel)⟩ ⟨(Nat.le_of_ble_eq_true rfl), (Nat.le_of_ble_eq_true rfl)⟩ rfl (Nat.le_of_ble_eq_true rfl) ⟨by show _ ≤ 600128; omega, by show _ ≤ 7301064; omega⟩ dL_law_604 607 rfl (fun r2 T1 h => ?_)
  show JW p l e room_1 s m #[Value.ref b] below meth c (cells + 2) (slots + 12) Qf D (fun q : Nat => s.heap.size ≤ q) 7 (lawW A1 A2 n cI cG cR cL aO S1 T1 f1) 607 [(5, .int r1), (0, .ref b), (1, .ref (A1 0)), (2, .ref (A2 0)), (3, .ref aO), (4, .int (nI i))] [.int r2]
  refine n_istore C [(6, .int r2), (5, .int r1), (0, .ref b), (1, .ref (A1 0)), (2, .ref (A2 0)), (3, .ref aO), (4, .int (nI i))] (Nat.le_of_ble_eq_true rfl) rfl dL_law_607 609 rfl ?_
  refine n_aload_n C 4 rfl dL_law_609 610 rfl ?_
  refine n_callCt CM hTr trivial hi2 (As := []) 0 [] (wd 32 A1 (ceC A1 n cI cG cR) S1 ++ [outC aO cL f1]) [] rfl (ctX5_thrown hTr hi2 h) (Nat.le_of_ble_eq_true rfl) (heM_o _) rfl b_847 b_50 b_845 b_846 b_844 ⟨by decide +kernel, by decide +kernel, (show (parseMethodDescriptor yX5_thrown.desc).map (fun d => d.parameters.length) = some 0 by decide +kernel)⟩ ⟨(Nat.le_of_ble_eq_true rfl), (Nat.le_of_ble_eq_true rfl)⟩ rfl (Nat.le_of_ble_eq_true rfl) ⟨by show _ ≤ 600128; omega, by show _ ≤ 7301064; omega⟩ dL_law_610 613 rfl (fun r3 T2 h => ?_)
  obtain ⟨hk, hv, hR⟩ := h
  show JW p l e room_1 s m #[Value.ref b] below meth c (cells + 2) (slots + 12) Qf D (fun q : Nat => s.heap.size ≤ q) 7 (lawW A1 A2 n cI cG cR cL aO S1 T2 f1) 613 [(6, .int r2), (5, .int r1), (0, .ref b), (1, .ref (A1 0)), (2, .ref (A2 0)), (3, .ref aO), (4, .int (nI i))] [.int r3]
  refine n_iload C 1 rfl dL_law_613 615 rfl ?_
  refine n_icmp_eq C 620 dL_law_615 618 rfl rfl (fun _ => ?_) (fun z => absurd hk z)
  refine n_iload C 1 rfl dL_law_620 622 rfl ?_
  refine n_if_ne C 637 dL_law_622 625 rfl rfl (fun z0 => ?_) (fun z0 => ?_)
  · have eb : f1 (0 : Int32).toNatClampNeg = r2.toInt64 := hb r2 (hv z0)
    refine n_aload_n C 5 rfl dL_law_625 626 rfl ?_
    refine n_iconst C 0 rfl dL_law_626 627 rfl ?_
    refine n_lald C 55 3 lawW_out rfl (show vp_in 0 1 by unfold vp_in; decide) dL_law_627 628 rfl ?_
    rw [eb]
    refine n_iload C 0 rfl dL_law_628 630 rfl ?_
    refine n_i2l C dL_law_630 631 rfl ?_
    refine n_lcmp0 C dL_law_631 632 rfl ?_
    refine n_if_eq C 637 dL_law_632 635 rfl rfl (fun _ => ?_) (fun z => absurd rfl z)
    refine n_goto C 1421 dL_law_637 rfl ?_
    refine n_sub [(0, .ref b), (1, .ref (A1 0)), (2, .ref (A2 0)), (3, .ref aO), (4, .int (nI i))] [2, 3, 4, 5, 6] rfl ?_
    refine n_widen (cells + 4) (slots + 24) (by omega) (by omega) ?_
    exact K S1 T2 f1 hR
  · skip
    refine n_goto C 1421 dL_law_637 rfl ?_
    refine n_sub [(0, .ref b), (1, .ref (A1 0)), (2, .ref (A2 0)), (3, .ref aO), (4, .int (nI i))] [2, 3, 4, 5, 6] rfl ?_
    refine n_widen (cells + 4) (slots + 24) (by omega) (by omega) ?_
    exact K S1 T2 f1 hR
set_option maxRecDepth 100000 in
set_option maxHeartbeats 8000000 in
theorem law_back {p : Program} {l : Launch} {e : Env} {s : State} {m : MethodId} {below : List Frame} {meth : Method} {c : Code} {D : va_G} {A1 A2 : Nat → Nat} {cI cG cR cL : ClassId} {aK aV aO b LL : Nat} {xs : Nat → Int32} {n : Nat → Nat} {Qf : State → Prop} {cells slots : Nat} {S T : Nat → Nat → Int32} {fO : Nat → Int64} {i : Nat} {P : (Nat → Nat → Int32) → (Nat → Nat → Int32) → Prop} (C0 : LawC p l s m c D A1 A2 cI cG cR cL aK aV b LL xs) (hi5 : i + 5 ≤ LL) (hc : cells ≤ 1000) (hs : slots ≤ 100000) (h : op_back n (xs (i + 1)) S T P) (K : ∀ S1 T1 f1, P S1 T1 → JW p l e room_1 s m #[Value.ref b] below meth c (cells + 4) (slots + 24) Qf D (fun q : Nat => s.heap.size ≤ q) 7 (lawW A1 A2 n cI cG cR cL aO S1 T1 f1) 1421 [(0, .ref b), (1, .ref (A1 0)), (2, .ref (A2 0)), (3, .ref aO), (4, .int (nI i))] []) : JW p l e room_1 s m #[Value.ref b] below meth c cells slots Qf D (fun q : Nat => s.heap.size ≤ q) 7 (lawW A1 A2 n cI cG cR cL aO S T fO) 640 [(0, .ref b), (1, .ref (A1 0)), (2, .ref (A2 0)), (3, .ref aO), (4, .int (nI i))] [] := by
  obtain ⟨C, hXW, hX, hbl, hi1, hi2, hst, hLL⟩ := C0
  have hbA : ¬ (fun q : Nat => s.heap.size ≤ q) b := Nat.not_le.mpr hbl
  have CM : Cw p s m #[Value.ref b] c code 7 RL D (tyM cI) (fun q : Nat => s.heap.size ≤ q) := C.sub [0] rfl
  have CC : Cw p s m #[Value.ref b] c code 7 RL D (tyC cI cG cR) (fun q : Nat => s.heap.size ≤ q) := C.sub [0, 1, 2] rfl
  unfold op_back at h
  refine n_aload_n C 1 rfl dL_law_640 641 rfl ?_
  refine n_aload_n C 0 rfl dL_law_641 642 rfl ?_
  refine n_iload C 4 rfl dL_law_642 644 rfl ?_
  refine n_iconst C 1 rfl dL_law_644 645 rfl ?_
  refine n_iadd C dL_law_645 646 rfl ?_
  rw [show (nI i + 1 : Int32) = nI (i + 1) from nI_add i 1]
  refine n_sld C hX hbl hbA (vp_in_nI (show i + 1 < LL by omega) (by omega)) dL_law_646 647 rfl ?_
  rw [nI_clamp (show i + 1 < 2 ^ 31 by omega)]
  refine n_aload_n C 3 rfl dL_law_647 648 rfl ?_
  refine n_callW C hFw hXW (As := [.ref (A1 0), .int (xs (i + 1)), .ref aO]) (wd 23 A2 (ceM A2 cI) T) (wd 32 A1 (ceC A1 n cI cG cR) S ++ [outC aO cL fO]) [] [] (show _ = _ by rw [app_nil3]; rfl) (cnL_back hst hi1 h) b_516 b_43 b_515 b_514 ⟨by decide +kernel, by decide +kernel, (show (parseMethodDescriptor yL_back.desc).map (fun d => d.parameters.length) = some 3 by decide +kernel)⟩ ⟨(Nat.le_of_ble_eq_true rfl), (Nat.le_of_ble_eq_true rfl)⟩ rfl (Nat.le_of_ble_eq_true rfl) (cells + 2) (slots + 12) rfl rfl ⟨by show cells + 2 ≤ 600128; omega, by show slots + 12 ≤ 7301064; omega⟩ dL_law_648 651 rfl (fun v w1 h => ?_)
  obtain ⟨r1, S1, ov, f1, rfl, rfl, h, hb⟩ := h
  refine n_ws (w1 := lawW A1 A2 n cI cG cR cL aO S1 T f1) (by rw [app_nil3]; rfl) ?_
  show JW p l e room_1 s m #[Value.ref b] below meth c (cells + 2) (slots + 12) Qf D (fun q : Nat => s.heap.size ≤ q) 7 (lawW A1 A2 n cI cG cR cL aO S1 T f1) 651 [(0, .ref b), (1, .ref (A1 0)), (2, .ref (A2 0)), (3, .ref aO), (4, .int (nI i))] [.int r1]
  refine n_istore C [(5, .int r1), (0, .ref b), (1, .ref (A1 0)), (2, .ref (A2 0)), (3, .ref aO), (4, .int (nI i))] (Nat.le_of_ble_eq_true rfl) rfl dL_law_651 653 rfl ?_
  refine n_aload_n C 3 rfl dL_law_653 654 rfl ?_
  refine n_aload_n C 1 rfl dL_law_654 655 rfl ?_
  refine n_iload C 5 rfl dL_law_655 657 rfl ?_
  refine n_iconst C 1 rfl dL_law_657 658 rfl ?_
  refine n_iadd C dL_law_658 659 rfl ?_
  rw [show (nI i + 1 : Int32) = nI (i + 1) from nI_add i 1]
  refine n_sld C hX hbl hbA (vp_in_nI (show i + 1 < LL by omega) (by omega)) dL_law_659 660 rfl ?_
  rw [nI_clamp (show i + 1 < 2 ^ 31 by omega)]
  refine n_callCt CM hTr trivial hi2 (As := [.int (xs (i + 1))]) 0 [] (wd 32 A1 (ceC A1 n cI cG cR) S1 ++ [outC aO cL f1]) [] rfl (ctX5_back hTr hi2 h) (Nat.le_of_ble_eq_true rfl) (heM_o _) rfl b_957 b_50 b_955 b_956 b_954 ⟨by decide +kernel, by decide +kernel, (show (parseMethodDescriptor yX5_back.desc).map (fun d => d.parameters.length) = some 1 by decide +kernel)⟩ ⟨(Nat.le_of_ble_eq_true rfl), (Nat.le_of_ble_eq_true rfl)⟩ rfl (Nat.le_of_ble_eq_true rfl) ⟨by show _ ≤ 600128; omega, by show _ ≤ 7301064; omega⟩ dL_law_660 663 rfl (fun r2 T1 h => ?_)
  show JW p l e room_1 s m #[Value.ref b] below meth c (cells + 2) (slots + 12) Qf D (fun q : Nat => s.heap.size ≤ q) 7 (lawW A1 A2 n cI cG cR cL aO S1 T1 f1) 663 [(5, .int r1), (0, .ref b), (1, .ref (A1 0)), (2, .ref (A2 0)), (3, .ref aO), (4, .int (nI i))] [.int r2]
  refine n_istore C [(6, .int r2), (5, .int r1), (0, .ref b), (1, .ref (A1 0)), (2, .ref (A2 0)), (3, .ref aO), (4, .int (nI i))] (Nat.le_of_ble_eq_true rfl) rfl dL_law_663 665 rfl ?_
  refine n_aload_n C 4 rfl dL_law_665 666 rfl ?_
  refine n_callCt CM hTr trivial hi2 (As := []) 0 [] (wd 32 A1 (ceC A1 n cI cG cR) S1 ++ [outC aO cL f1]) [] rfl (ctX5_thrown hTr hi2 h) (Nat.le_of_ble_eq_true rfl) (heM_o _) rfl b_847 b_50 b_845 b_846 b_844 ⟨by decide +kernel, by decide +kernel, (show (parseMethodDescriptor yX5_thrown.desc).map (fun d => d.parameters.length) = some 0 by decide +kernel)⟩ ⟨(Nat.le_of_ble_eq_true rfl), (Nat.le_of_ble_eq_true rfl)⟩ rfl (Nat.le_of_ble_eq_true rfl) ⟨by show _ ≤ 600128; omega, by show _ ≤ 7301064; omega⟩ dL_law_666 669 rfl (fun r3 T2 h => ?_)
  obtain ⟨hk, hv, hR⟩ := h
  show JW p l e room_1 s m #[Value.ref b] below meth c (cells + 2) (slots + 12) Qf D (fun q : Nat => s.heap.size ≤ q) 7 (lawW A1 A2 n cI cG cR cL aO S1 T2 f1) 669 [(6, .int r2), (5, .int r1), (0, .ref b), (1, .ref (A1 0)), (2, .ref (A2 0)), (3, .ref aO), (4, .int (nI i))] [.int r3]
  refine n_iload C 1 rfl dL_law_669 671 rfl ?_
  refine n_icmp_eq C 676 dL_law_671 674 rfl rfl (fun _ => ?_) (fun z => absurd hk z)
  refine n_iload C 1 rfl dL_law_676 678 rfl ?_
  refine n_if_ne C 693 dL_law_678 681 rfl rfl (fun z0 => ?_) (fun z0 => ?_)
  · have eb : f1 (0 : Int32).toNatClampNeg = r2.toInt64 := hb r2 (hv z0)
    refine n_aload_n C 5 rfl dL_law_681 682 rfl ?_
    refine n_iconst C 0 rfl dL_law_682 683 rfl ?_
    refine n_lald C 55 3 lawW_out rfl (show vp_in 0 1 by unfold vp_in; decide) dL_law_683 684 rfl ?_
    rw [eb]
    refine n_iload C 0 rfl dL_law_684 686 rfl ?_
    refine n_i2l C dL_law_686 687 rfl ?_
    refine n_lcmp0 C dL_law_687 688 rfl ?_
    refine n_if_eq C 693 dL_law_688 691 rfl rfl (fun _ => ?_) (fun z => absurd rfl z)
    refine n_goto C 1421 dL_law_693 rfl ?_
    refine n_sub [(0, .ref b), (1, .ref (A1 0)), (2, .ref (A2 0)), (3, .ref aO), (4, .int (nI i))] [2, 3, 4, 5, 6] rfl ?_
    refine n_widen (cells + 4) (slots + 24) (by omega) (by omega) ?_
    exact K S1 T2 f1 hR
  · skip
    refine n_goto C 1421 dL_law_693 rfl ?_
    refine n_sub [(0, .ref b), (1, .ref (A1 0)), (2, .ref (A2 0)), (3, .ref aO), (4, .int (nI i))] [2, 3, 4, 5, 6] rfl ?_
    refine n_widen (cells + 4) (slots + 24) (by omega) (by omega) ?_
    exact K S1 T2 f1 hR
set_option maxRecDepth 100000 in
set_option maxHeartbeats 8000000 in
theorem law_weak {p : Program} {l : Launch} {e : Env} {s : State} {m : MethodId} {below : List Frame} {meth : Method} {c : Code} {D : va_G} {A1 A2 : Nat → Nat} {cI cG cR cL : ClassId} {aK aV aO b LL : Nat} {xs : Nat → Int32} {n : Nat → Nat} {Qf : State → Prop} {cells slots : Nat} {S T : Nat → Nat → Int32} {fO : Nat → Int64} {i : Nat} {P : (Nat → Nat → Int32) → (Nat → Nat → Int32) → Prop} (C0 : LawC p l s m c D A1 A2 cI cG cR cL aK aV b LL xs) (hi5 : i + 5 ≤ LL) (hc : cells ≤ 1000) (hs : slots ≤ 100000) (h : op_weak n (xs (i + 1)) (xs (i + 2)) S T P) (K : ∀ S1 T1 f1, P S1 T1 → JW p l e room_1 s m #[Value.ref b] below meth c (cells + 4) (slots + 24) Qf D (fun q : Nat => s.heap.size ≤ q) 7 (lawW A1 A2 n cI cG cR cL aO S1 T1 f1) 1421 [(0, .ref b), (1, .ref (A1 0)), (2, .ref (A2 0)), (3, .ref aO), (4, .int (nI i))] []) : JW p l e room_1 s m #[Value.ref b] below meth c cells slots Qf D (fun q : Nat => s.heap.size ≤ q) 7 (lawW A1 A2 n cI cG cR cL aO S T fO) 696 [(0, .ref b), (1, .ref (A1 0)), (2, .ref (A2 0)), (3, .ref aO), (4, .int (nI i))] [] := by
  obtain ⟨C, hXW, hX, hbl, hi1, hi2, hst, hLL⟩ := C0
  have hbA : ¬ (fun q : Nat => s.heap.size ≤ q) b := Nat.not_le.mpr hbl
  have CM : Cw p s m #[Value.ref b] c code 7 RL D (tyM cI) (fun q : Nat => s.heap.size ≤ q) := C.sub [0] rfl
  have CC : Cw p s m #[Value.ref b] c code 7 RL D (tyC cI cG cR) (fun q : Nat => s.heap.size ≤ q) := C.sub [0, 1, 2] rfl
  unfold op_weak at h
  refine n_aload_n C 1 rfl dL_law_696 697 rfl ?_
  refine n_aload_n C 0 rfl dL_law_697 698 rfl ?_
  refine n_iload C 4 rfl dL_law_698 700 rfl ?_
  refine n_iconst C 1 rfl dL_law_700 701 rfl ?_
  refine n_iadd C dL_law_701 702 rfl ?_
  rw [show (nI i + 1 : Int32) = nI (i + 1) from nI_add i 1]
  refine n_sld C hX hbl hbA (vp_in_nI (show i + 1 < LL by omega) (by omega)) dL_law_702 703 rfl ?_
  rw [nI_clamp (show i + 1 < 2 ^ 31 by omega)]
  refine n_aload_n C 0 rfl dL_law_703 704 rfl ?_
  refine n_iload C 4 rfl dL_law_704 706 rfl ?_
  refine n_iconst C 2 rfl dL_law_706 707 rfl ?_
  refine n_iadd C dL_law_707 708 rfl ?_
  rw [show (nI i + 2 : Int32) = nI (i + 2) from nI_add i 2]
  refine n_sld C hX hbl hbA (vp_in_nI (show i + 2 < LL by omega) (by omega)) dL_law_708 709 rfl ?_
  rw [nI_clamp (show i + 2 < 2 ^ 31 by omega)]
  refine n_aload_n C 3 rfl dL_law_709 710 rfl ?_
  refine n_callW C hFw hXW (As := [.ref (A1 0), .int (xs (i + 1)), .int (xs (i + 2)), .ref aO]) (wd 23 A2 (ceM A2 cI) T) (wd 32 A1 (ceC A1 n cI cG cR) S ++ [outC aO cL fO]) [] [] (show _ = _ by rw [app_nil3]; rfl) (cnL_weak hst hi1 h) b_527 b_43 b_526 b_525 ⟨by decide +kernel, by decide +kernel, (show (parseMethodDescriptor yL_weak.desc).map (fun d => d.parameters.length) = some 4 by decide +kernel)⟩ ⟨(Nat.le_of_ble_eq_true rfl), (Nat.le_of_ble_eq_true rfl)⟩ rfl (Nat.le_of_ble_eq_true rfl) (cells + 2) (slots + 12) rfl rfl ⟨by show cells + 2 ≤ 600128; omega, by show slots + 12 ≤ 7301064; omega⟩ dL_law_710 713 rfl (fun v w1 h => ?_)
  obtain ⟨r1, S1, ov, f1, rfl, rfl, h, hb⟩ := h
  refine n_ws (w1 := lawW A1 A2 n cI cG cR cL aO S1 T f1) (by rw [app_nil3]; rfl) ?_
  show JW p l e room_1 s m #[Value.ref b] below meth c (cells + 2) (slots + 12) Qf D (fun q : Nat => s.heap.size ≤ q) 7 (lawW A1 A2 n cI cG cR cL aO S1 T f1) 713 [(0, .ref b), (1, .ref (A1 0)), (2, .ref (A2 0)), (3, .ref aO), (4, .int (nI i))] [.int r1]
  refine n_istore C [(5, .int r1), (0, .ref b), (1, .ref (A1 0)), (2, .ref (A2 0)), (3, .ref aO), (4, .int (nI i))] (Nat.le_of_ble_eq_true rfl) rfl dL_law_713 715 rfl ?_
  refine n_aload_n C 3 rfl dL_law_715 716 rfl ?_
  refine n_aload_n C 1 rfl dL_law_716 717 rfl ?_
  refine n_iload C 5 rfl dL_law_717 719 rfl ?_
  refine n_iconst C 1 rfl dL_law_719 720 rfl ?_
  refine n_iadd C dL_law_720 721 rfl ?_
  rw [show (nI i + 1 : Int32) = nI (i + 1) from nI_add i 1]
  refine n_sld C hX hbl hbA (vp_in_nI (show i + 1 < LL by omega) (by omega)) dL_law_721 722 rfl ?_
  rw [nI_clamp (show i + 1 < 2 ^ 31 by omega)]
  refine n_aload_n C 1 rfl dL_law_722 723 rfl ?_
  refine n_iload C 5 rfl dL_law_723 725 rfl ?_
  refine n_iconst C 2 rfl dL_law_725 726 rfl ?_
  refine n_iadd C dL_law_726 727 rfl ?_
  rw [show (nI i + 2 : Int32) = nI (i + 2) from nI_add i 2]
  refine n_sld C hX hbl hbA (vp_in_nI (show i + 2 < LL by omega) (by omega)) dL_law_727 728 rfl ?_
  rw [nI_clamp (show i + 2 < 2 ^ 31 by omega)]
  refine n_callCt CM hTr trivial hi2 (As := [.int (xs (i + 1)), .int (xs (i + 2))]) 0 [] (wd 32 A1 (ceC A1 n cI cG cR) S1 ++ [outC aO cL f1]) [] rfl (ctX5_weak hTr hi2 h) (Nat.le_of_ble_eq_true rfl) (heM_o _) rfl b_961 b_50 b_959 b_960 b_958 ⟨by decide +kernel, by decide +kernel, (show (parseMethodDescriptor yX5_weak.desc).map (fun d => d.parameters.length) = some 2 by decide +kernel)⟩ ⟨(Nat.le_of_ble_eq_true rfl), (Nat.le_of_ble_eq_true rfl)⟩ rfl (Nat.le_of_ble_eq_true rfl) ⟨by show _ ≤ 600128; omega, by show _ ≤ 7301064; omega⟩ dL_law_728 731 rfl (fun r2 T1 h => ?_)
  show JW p l e room_1 s m #[Value.ref b] below meth c (cells + 2) (slots + 12) Qf D (fun q : Nat => s.heap.size ≤ q) 7 (lawW A1 A2 n cI cG cR cL aO S1 T1 f1) 731 [(5, .int r1), (0, .ref b), (1, .ref (A1 0)), (2, .ref (A2 0)), (3, .ref aO), (4, .int (nI i))] [.int r2]
  refine n_istore C [(6, .int r2), (5, .int r1), (0, .ref b), (1, .ref (A1 0)), (2, .ref (A2 0)), (3, .ref aO), (4, .int (nI i))] (Nat.le_of_ble_eq_true rfl) rfl dL_law_731 733 rfl ?_
  refine n_aload_n C 4 rfl dL_law_733 734 rfl ?_
  refine n_callCt CM hTr trivial hi2 (As := []) 0 [] (wd 32 A1 (ceC A1 n cI cG cR) S1 ++ [outC aO cL f1]) [] rfl (ctX5_thrown hTr hi2 h) (Nat.le_of_ble_eq_true rfl) (heM_o _) rfl b_847 b_50 b_845 b_846 b_844 ⟨by decide +kernel, by decide +kernel, (show (parseMethodDescriptor yX5_thrown.desc).map (fun d => d.parameters.length) = some 0 by decide +kernel)⟩ ⟨(Nat.le_of_ble_eq_true rfl), (Nat.le_of_ble_eq_true rfl)⟩ rfl (Nat.le_of_ble_eq_true rfl) ⟨by show _ ≤ 600128; omega, by show _ ≤ 7301064; omega⟩ dL_law_734 737 rfl (fun r3 T2 h => ?_)
  obtain ⟨hk, hv, hR⟩ := h
  show JW p l e room_1 s m #[Value.ref b] below meth c (cells + 2) (slots + 12) Qf D (fun q : Nat => s.heap.size ≤ q) 7 (lawW A1 A2 n cI cG cR cL aO S1 T2 f1) 737 [(6, .int r2), (5, .int r1), (0, .ref b), (1, .ref (A1 0)), (2, .ref (A2 0)), (3, .ref aO), (4, .int (nI i))] [.int r3]
  refine n_iload C 1 rfl dL_law_737 739 rfl ?_
  refine n_icmp_eq C 744 dL_law_739 742 rfl rfl (fun _ => ?_) (fun z => absurd hk z)
  refine n_iload C 1 rfl dL_law_744 746 rfl ?_
  refine n_if_ne C 761 dL_law_746 749 rfl rfl (fun z0 => ?_) (fun z0 => ?_)
  · have eb : f1 (0 : Int32).toNatClampNeg = r2.toInt64 := hb r2 (hv z0)
    refine n_aload_n C 5 rfl dL_law_749 750 rfl ?_
    refine n_iconst C 0 rfl dL_law_750 751 rfl ?_
    refine n_lald C 55 3 lawW_out rfl (show vp_in 0 1 by unfold vp_in; decide) dL_law_751 752 rfl ?_
    rw [eb]
    refine n_iload C 0 rfl dL_law_752 754 rfl ?_
    refine n_i2l C dL_law_754 755 rfl ?_
    refine n_lcmp0 C dL_law_755 756 rfl ?_
    refine n_if_eq C 761 dL_law_756 759 rfl rfl (fun _ => ?_) (fun z => absurd rfl z)
    refine n_goto C 1421 dL_law_761 rfl ?_
    refine n_sub [(0, .ref b), (1, .ref (A1 0)), (2, .ref (A2 0)), (3, .ref aO), (4, .int (nI i))] [2, 3, 4, 5, 6] rfl ?_
    refine n_widen (cells + 4) (slots + 24) (by omega) (by omega) ?_
    exact K S1 T2 f1 hR
  · skip
    refine n_goto C 1421 dL_law_761 rfl ?_
    refine n_sub [(0, .ref b), (1, .ref (A1 0)), (2, .ref (A2 0)), (3, .ref aO), (4, .int (nI i))] [2, 3, 4, 5, 6] rfl ?_
    refine n_widen (cells + 4) (slots + 24) (by omega) (by omega) ?_
    exact K S1 T2 f1 hR
set_option maxRecDepth 100000 in
set_option maxHeartbeats 8000000 in
theorem law_strong {p : Program} {l : Launch} {e : Env} {s : State} {m : MethodId} {below : List Frame} {meth : Method} {c : Code} {D : va_G} {A1 A2 : Nat → Nat} {cI cG cR cL : ClassId} {aK aV aO b LL : Nat} {xs : Nat → Int32} {n : Nat → Nat} {Qf : State → Prop} {cells slots : Nat} {S T : Nat → Nat → Int32} {fO : Nat → Int64} {i : Nat} {P : (Nat → Nat → Int32) → (Nat → Nat → Int32) → Prop} (C0 : LawC p l s m c D A1 A2 cI cG cR cL aK aV b LL xs) (hi5 : i + 5 ≤ LL) (hc : cells ≤ 1000) (hs : slots ≤ 100000) (h : op_strong n (xs (i + 1)) (xs (i + 2)) S T P) (K : ∀ S1 T1 f1, P S1 T1 → JW p l e room_1 s m #[Value.ref b] below meth c (cells + 4) (slots + 24) Qf D (fun q : Nat => s.heap.size ≤ q) 7 (lawW A1 A2 n cI cG cR cL aO S1 T1 f1) 1421 [(0, .ref b), (1, .ref (A1 0)), (2, .ref (A2 0)), (3, .ref aO), (4, .int (nI i))] []) : JW p l e room_1 s m #[Value.ref b] below meth c cells slots Qf D (fun q : Nat => s.heap.size ≤ q) 7 (lawW A1 A2 n cI cG cR cL aO S T fO) 764 [(0, .ref b), (1, .ref (A1 0)), (2, .ref (A2 0)), (3, .ref aO), (4, .int (nI i))] [] := by
  obtain ⟨C, hXW, hX, hbl, hi1, hi2, hst, hLL⟩ := C0
  have hbA : ¬ (fun q : Nat => s.heap.size ≤ q) b := Nat.not_le.mpr hbl
  have CM : Cw p s m #[Value.ref b] c code 7 RL D (tyM cI) (fun q : Nat => s.heap.size ≤ q) := C.sub [0] rfl
  have CC : Cw p s m #[Value.ref b] c code 7 RL D (tyC cI cG cR) (fun q : Nat => s.heap.size ≤ q) := C.sub [0, 1, 2] rfl
  unfold op_strong at h
  refine n_aload_n C 1 rfl dL_law_764 765 rfl ?_
  refine n_aload_n C 0 rfl dL_law_765 766 rfl ?_
  refine n_iload C 4 rfl dL_law_766 768 rfl ?_
  refine n_iconst C 1 rfl dL_law_768 769 rfl ?_
  refine n_iadd C dL_law_769 770 rfl ?_
  rw [show (nI i + 1 : Int32) = nI (i + 1) from nI_add i 1]
  refine n_sld C hX hbl hbA (vp_in_nI (show i + 1 < LL by omega) (by omega)) dL_law_770 771 rfl ?_
  rw [nI_clamp (show i + 1 < 2 ^ 31 by omega)]
  refine n_aload_n C 0 rfl dL_law_771 772 rfl ?_
  refine n_iload C 4 rfl dL_law_772 774 rfl ?_
  refine n_iconst C 2 rfl dL_law_774 775 rfl ?_
  refine n_iadd C dL_law_775 776 rfl ?_
  rw [show (nI i + 2 : Int32) = nI (i + 2) from nI_add i 2]
  refine n_sld C hX hbl hbA (vp_in_nI (show i + 2 < LL by omega) (by omega)) dL_law_776 777 rfl ?_
  rw [nI_clamp (show i + 2 < 2 ^ 31 by omega)]
  refine n_aload_n C 3 rfl dL_law_777 778 rfl ?_
  refine n_callW C hFw hXW (As := [.ref (A1 0), .int (xs (i + 1)), .int (xs (i + 2)), .ref aO]) (wd 23 A2 (ceM A2 cI) T) (wd 32 A1 (ceC A1 n cI cG cR) S ++ [outC aO cL fO]) [] [] (show _ = _ by rw [app_nil3]; rfl) (cnL_strong hst hi1 h) b_537 b_43 b_536 b_535 ⟨by decide +kernel, by decide +kernel, (show (parseMethodDescriptor yL_strong.desc).map (fun d => d.parameters.length) = some 4 by decide +kernel)⟩ ⟨(Nat.le_of_ble_eq_true rfl), (Nat.le_of_ble_eq_true rfl)⟩ rfl (Nat.le_of_ble_eq_true rfl) (cells + 2) (slots + 12) rfl rfl ⟨by show cells + 2 ≤ 600128; omega, by show slots + 12 ≤ 7301064; omega⟩ dL_law_778 781 rfl (fun v w1 h => ?_)
  obtain ⟨r1, S1, ov, f1, rfl, rfl, h, hb⟩ := h
  refine n_ws (w1 := lawW A1 A2 n cI cG cR cL aO S1 T f1) (by rw [app_nil3]; rfl) ?_
  show JW p l e room_1 s m #[Value.ref b] below meth c (cells + 2) (slots + 12) Qf D (fun q : Nat => s.heap.size ≤ q) 7 (lawW A1 A2 n cI cG cR cL aO S1 T f1) 781 [(0, .ref b), (1, .ref (A1 0)), (2, .ref (A2 0)), (3, .ref aO), (4, .int (nI i))] [.int r1]
  refine n_istore C [(5, .int r1), (0, .ref b), (1, .ref (A1 0)), (2, .ref (A2 0)), (3, .ref aO), (4, .int (nI i))] (Nat.le_of_ble_eq_true rfl) rfl dL_law_781 783 rfl ?_
  refine n_aload_n C 3 rfl dL_law_783 784 rfl ?_
  refine n_aload_n C 1 rfl dL_law_784 785 rfl ?_
  refine n_iload C 5 rfl dL_law_785 787 rfl ?_
  refine n_iconst C 1 rfl dL_law_787 788 rfl ?_
  refine n_iadd C dL_law_788 789 rfl ?_
  rw [show (nI i + 1 : Int32) = nI (i + 1) from nI_add i 1]
  refine n_sld C hX hbl hbA (vp_in_nI (show i + 1 < LL by omega) (by omega)) dL_law_789 790 rfl ?_
  rw [nI_clamp (show i + 1 < 2 ^ 31 by omega)]
  refine n_aload_n C 1 rfl dL_law_790 791 rfl ?_
  refine n_iload C 5 rfl dL_law_791 793 rfl ?_
  refine n_iconst C 2 rfl dL_law_793 794 rfl ?_
  refine n_iadd C dL_law_794 795 rfl ?_
  rw [show (nI i + 2 : Int32) = nI (i + 2) from nI_add i 2]
  refine n_sld C hX hbl hbA (vp_in_nI (show i + 2 < LL by omega) (by omega)) dL_law_795 796 rfl ?_
  rw [nI_clamp (show i + 2 < 2 ^ 31 by omega)]
  refine n_callCt CM hTr trivial hi2 (As := [.int (xs (i + 1)), .int (xs (i + 2))]) 0 [] (wd 32 A1 (ceC A1 n cI cG cR) S1 ++ [outC aO cL f1]) [] rfl (ctX5_strong hTr hi2 h) (Nat.le_of_ble_eq_true rfl) (heM_o _) rfl b_965 b_50 b_963 b_964 b_962 ⟨by decide +kernel, by decide +kernel, (show (parseMethodDescriptor yX5_strong.desc).map (fun d => d.parameters.length) = some 2 by decide +kernel)⟩ ⟨(Nat.le_of_ble_eq_true rfl), (Nat.le_of_ble_eq_true rfl)⟩ rfl (Nat.le_of_ble_eq_true rfl) ⟨by show _ ≤ 600128; omega, by show _ ≤ 7301064; omega⟩ dL_law_796 799 rfl (fun r2 T1 h => ?_)
  show JW p l e room_1 s m #[Value.ref b] below meth c (cells + 2) (slots + 12) Qf D (fun q : Nat => s.heap.size ≤ q) 7 (lawW A1 A2 n cI cG cR cL aO S1 T1 f1) 799 [(5, .int r1), (0, .ref b), (1, .ref (A1 0)), (2, .ref (A2 0)), (3, .ref aO), (4, .int (nI i))] [.int r2]
  refine n_istore C [(6, .int r2), (5, .int r1), (0, .ref b), (1, .ref (A1 0)), (2, .ref (A2 0)), (3, .ref aO), (4, .int (nI i))] (Nat.le_of_ble_eq_true rfl) rfl dL_law_799 801 rfl ?_
  refine n_aload_n C 4 rfl dL_law_801 802 rfl ?_
  refine n_callCt CM hTr trivial hi2 (As := []) 0 [] (wd 32 A1 (ceC A1 n cI cG cR) S1 ++ [outC aO cL f1]) [] rfl (ctX5_thrown hTr hi2 h) (Nat.le_of_ble_eq_true rfl) (heM_o _) rfl b_847 b_50 b_845 b_846 b_844 ⟨by decide +kernel, by decide +kernel, (show (parseMethodDescriptor yX5_thrown.desc).map (fun d => d.parameters.length) = some 0 by decide +kernel)⟩ ⟨(Nat.le_of_ble_eq_true rfl), (Nat.le_of_ble_eq_true rfl)⟩ rfl (Nat.le_of_ble_eq_true rfl) ⟨by show _ ≤ 600128; omega, by show _ ≤ 7301064; omega⟩ dL_law_802 805 rfl (fun r3 T2 h => ?_)
  obtain ⟨hk, hv, hR⟩ := h
  show JW p l e room_1 s m #[Value.ref b] below meth c (cells + 2) (slots + 12) Qf D (fun q : Nat => s.heap.size ≤ q) 7 (lawW A1 A2 n cI cG cR cL aO S1 T2 f1) 805 [(6, .int r2), (5, .int r1), (0, .ref b), (1, .ref (A1 0)), (2, .ref (A2 0)), (3, .ref aO), (4, .int (nI i))] [.int r3]
  refine n_iload C 1 rfl dL_law_805 807 rfl ?_
  refine n_icmp_eq C 812 dL_law_807 810 rfl rfl (fun _ => ?_) (fun z => absurd hk z)
  refine n_iload C 1 rfl dL_law_812 814 rfl ?_
  refine n_if_ne C 829 dL_law_814 817 rfl rfl (fun z0 => ?_) (fun z0 => ?_)
  · have eb : f1 (0 : Int32).toNatClampNeg = r2.toInt64 := hb r2 (hv z0)
    refine n_aload_n C 5 rfl dL_law_817 818 rfl ?_
    refine n_iconst C 0 rfl dL_law_818 819 rfl ?_
    refine n_lald C 55 3 lawW_out rfl (show vp_in 0 1 by unfold vp_in; decide) dL_law_819 820 rfl ?_
    rw [eb]
    refine n_iload C 0 rfl dL_law_820 822 rfl ?_
    refine n_i2l C dL_law_822 823 rfl ?_
    refine n_lcmp0 C dL_law_823 824 rfl ?_
    refine n_if_eq C 829 dL_law_824 827 rfl rfl (fun _ => ?_) (fun z => absurd rfl z)
    refine n_goto C 1421 dL_law_829 rfl ?_
    refine n_sub [(0, .ref b), (1, .ref (A1 0)), (2, .ref (A2 0)), (3, .ref aO), (4, .int (nI i))] [2, 3, 4, 5, 6] rfl ?_
    refine n_widen (cells + 4) (slots + 24) (by omega) (by omega) ?_
    exact K S1 T2 f1 hR
  · skip
    refine n_goto C 1421 dL_law_829 rfl ?_
    refine n_sub [(0, .ref b), (1, .ref (A1 0)), (2, .ref (A2 0)), (3, .ref aO), (4, .int (nI i))] [2, 3, 4, 5, 6] rfl ?_
    refine n_widen (cells + 4) (slots + 24) (by omega) (by omega) ?_
    exact K S1 T2 f1 hR
set_option maxRecDepth 100000 in
set_option maxHeartbeats 8000000 in
theorem law_wish {p : Program} {l : Launch} {e : Env} {s : State} {m : MethodId} {below : List Frame} {meth : Method} {c : Code} {D : va_G} {A1 A2 : Nat → Nat} {cI cG cR cL : ClassId} {aK aV aO b LL : Nat} {xs : Nat → Int32} {n : Nat → Nat} {Qf : State → Prop} {cells slots : Nat} {S T : Nat → Nat → Int32} {fO : Nat → Int64} {i : Nat} {P : (Nat → Nat → Int32) → (Nat → Nat → Int32) → Prop} (C0 : LawC p l s m c D A1 A2 cI cG cR cL aK aV b LL xs) (hi5 : i + 5 ≤ LL) (hc : cells ≤ 1000) (hs : slots ≤ 100000) (h : op_wish n (xs (i + 1)) S T P) (K : ∀ S1 T1 f1, P S1 T1 → JW p l e room_1 s m #[Value.ref b] below meth c (cells + 4) (slots + 24) Qf D (fun q : Nat => s.heap.size ≤ q) 7 (lawW A1 A2 n cI cG cR cL aO S1 T1 f1) 1421 [(0, .ref b), (1, .ref (A1 0)), (2, .ref (A2 0)), (3, .ref aO), (4, .int (nI i))] []) : JW p l e room_1 s m #[Value.ref b] below meth c cells slots Qf D (fun q : Nat => s.heap.size ≤ q) 7 (lawW A1 A2 n cI cG cR cL aO S T fO) 832 [(0, .ref b), (1, .ref (A1 0)), (2, .ref (A2 0)), (3, .ref aO), (4, .int (nI i))] [] := by
  obtain ⟨C, hXW, hX, hbl, hi1, hi2, hst, hLL⟩ := C0
  have hbA : ¬ (fun q : Nat => s.heap.size ≤ q) b := Nat.not_le.mpr hbl
  have CM : Cw p s m #[Value.ref b] c code 7 RL D (tyM cI) (fun q : Nat => s.heap.size ≤ q) := C.sub [0] rfl
  have CC : Cw p s m #[Value.ref b] c code 7 RL D (tyC cI cG cR) (fun q : Nat => s.heap.size ≤ q) := C.sub [0, 1, 2] rfl
  unfold op_wish at h
  refine n_aload_n C 1 rfl dL_law_832 833 rfl ?_
  refine n_aload_n C 0 rfl dL_law_833 834 rfl ?_
  refine n_iload C 4 rfl dL_law_834 836 rfl ?_
  refine n_iconst C 1 rfl dL_law_836 837 rfl ?_
  refine n_iadd C dL_law_837 838 rfl ?_
  rw [show (nI i + 1 : Int32) = nI (i + 1) from nI_add i 1]
  refine n_sld C hX hbl hbA (vp_in_nI (show i + 1 < LL by omega) (by omega)) dL_law_838 839 rfl ?_
  rw [nI_clamp (show i + 1 < 2 ^ 31 by omega)]
  refine n_aload_n C 3 rfl dL_law_839 840 rfl ?_
  refine n_callW C hFw hXW (As := [.ref (A1 0), .int (xs (i + 1)), .ref aO]) (wd 23 A2 (ceM A2 cI) T) (wd 32 A1 (ceC A1 n cI cG cR) S ++ [outC aO cL fO]) [] [] (show _ = _ by rw [app_nil3]; rfl) (cnL_wish hst hi1 h) b_544 b_43 b_543 b_542 ⟨by decide +kernel, by decide +kernel, (show (parseMethodDescriptor yL_wish.desc).map (fun d => d.parameters.length) = some 3 by decide +kernel)⟩ ⟨(Nat.le_of_ble_eq_true rfl), (Nat.le_of_ble_eq_true rfl)⟩ rfl (Nat.le_of_ble_eq_true rfl) (cells + 1) (slots + 6) rfl rfl ⟨by show cells + 1 ≤ 600128; omega, by show slots + 6 ≤ 7301064; omega⟩ dL_law_840 843 rfl (fun v w1 h => ?_)
  obtain ⟨r1, S1, ov, f1, rfl, rfl, h, hb⟩ := h
  refine n_ws (w1 := lawW A1 A2 n cI cG cR cL aO S1 T f1) (by rw [app_nil3]; rfl) ?_
  show JW p l e room_1 s m #[Value.ref b] below meth c (cells + 1) (slots + 6) Qf D (fun q : Nat => s.heap.size ≤ q) 7 (lawW A1 A2 n cI cG cR cL aO S1 T f1) 843 [(0, .ref b), (1, .ref (A1 0)), (2, .ref (A2 0)), (3, .ref aO), (4, .int (nI i))] [.int r1]
  refine n_istore C [(5, .int r1), (0, .ref b), (1, .ref (A1 0)), (2, .ref (A2 0)), (3, .ref aO), (4, .int (nI i))] (Nat.le_of_ble_eq_true rfl) rfl dL_law_843 845 rfl ?_
  refine n_aload_n C 3 rfl dL_law_845 846 rfl ?_
  refine n_aload_n C 1 rfl dL_law_846 847 rfl ?_
  refine n_iload C 5 rfl dL_law_847 849 rfl ?_
  refine n_iconst C 1 rfl dL_law_849 850 rfl ?_
  refine n_iadd C dL_law_850 851 rfl ?_
  rw [show (nI i + 1 : Int32) = nI (i + 1) from nI_add i 1]
  refine n_sld C hX hbl hbA (vp_in_nI (show i + 1 < LL by omega) (by omega)) dL_law_851 852 rfl ?_
  rw [nI_clamp (show i + 1 < 2 ^ 31 by omega)]
  refine n_callCt CM hTr trivial hi2 (As := [.int (xs (i + 1))]) 0 [] (wd 32 A1 (ceC A1 n cI cG cR) S1 ++ [outC aO cL f1]) [] rfl (ctX5_wish hTr hi2 h) (Nat.le_of_ble_eq_true rfl) (heM_o _) rfl b_969 b_50 b_967 b_968 b_966 ⟨by decide +kernel, by decide +kernel, (show (parseMethodDescriptor yX5_wish.desc).map (fun d => d.parameters.length) = some 1 by decide +kernel)⟩ ⟨(Nat.le_of_ble_eq_true rfl), (Nat.le_of_ble_eq_true rfl)⟩ rfl (Nat.le_of_ble_eq_true rfl) ⟨by show _ ≤ 600128; omega, by show _ ≤ 7301064; omega⟩ dL_law_852 855 rfl (fun r2 T1 h => ?_)
  show JW p l e room_1 s m #[Value.ref b] below meth c (cells + 1) (slots + 6) Qf D (fun q : Nat => s.heap.size ≤ q) 7 (lawW A1 A2 n cI cG cR cL aO S1 T1 f1) 855 [(5, .int r1), (0, .ref b), (1, .ref (A1 0)), (2, .ref (A2 0)), (3, .ref aO), (4, .int (nI i))] [.int r2]
  refine n_istore C [(6, .int r2), (5, .int r1), (0, .ref b), (1, .ref (A1 0)), (2, .ref (A2 0)), (3, .ref aO), (4, .int (nI i))] (Nat.le_of_ble_eq_true rfl) rfl dL_law_855 857 rfl ?_
  refine n_aload_n C 4 rfl dL_law_857 858 rfl ?_
  refine n_callCt CM hTr trivial hi2 (As := []) 0 [] (wd 32 A1 (ceC A1 n cI cG cR) S1 ++ [outC aO cL f1]) [] rfl (ctX5_thrown hTr hi2 h) (Nat.le_of_ble_eq_true rfl) (heM_o _) rfl b_847 b_50 b_845 b_846 b_844 ⟨by decide +kernel, by decide +kernel, (show (parseMethodDescriptor yX5_thrown.desc).map (fun d => d.parameters.length) = some 0 by decide +kernel)⟩ ⟨(Nat.le_of_ble_eq_true rfl), (Nat.le_of_ble_eq_true rfl)⟩ rfl (Nat.le_of_ble_eq_true rfl) ⟨by show _ ≤ 600128; omega, by show _ ≤ 7301064; omega⟩ dL_law_858 861 rfl (fun r3 T2 h => ?_)
  obtain ⟨hk, hv, hR⟩ := h
  show JW p l e room_1 s m #[Value.ref b] below meth c (cells + 1) (slots + 6) Qf D (fun q : Nat => s.heap.size ≤ q) 7 (lawW A1 A2 n cI cG cR cL aO S1 T2 f1) 861 [(6, .int r2), (5, .int r1), (0, .ref b), (1, .ref (A1 0)), (2, .ref (A2 0)), (3, .ref aO), (4, .int (nI i))] [.int r3]
  refine n_iload C 1 rfl dL_law_861 863 rfl ?_
  refine n_icmp_eq C 868 dL_law_863 866 rfl rfl (fun _ => ?_) (fun z => absurd hk z)
  refine n_iload C 1 rfl dL_law_868 870 rfl ?_
  refine n_if_ne C 885 dL_law_870 873 rfl rfl (fun z0 => ?_) (fun z0 => ?_)
  · have eb : f1 (0 : Int32).toNatClampNeg = r2.toInt64 := hb r2 (hv z0)
    refine n_aload_n C 5 rfl dL_law_873 874 rfl ?_
    refine n_iconst C 0 rfl dL_law_874 875 rfl ?_
    refine n_lald C 55 3 lawW_out rfl (show vp_in 0 1 by unfold vp_in; decide) dL_law_875 876 rfl ?_
    rw [eb]
    refine n_iload C 0 rfl dL_law_876 878 rfl ?_
    refine n_i2l C dL_law_878 879 rfl ?_
    refine n_lcmp0 C dL_law_879 880 rfl ?_
    refine n_if_eq C 885 dL_law_880 883 rfl rfl (fun _ => ?_) (fun z => absurd rfl z)
    refine n_goto C 1421 dL_law_885 rfl ?_
    refine n_sub [(0, .ref b), (1, .ref (A1 0)), (2, .ref (A2 0)), (3, .ref aO), (4, .int (nI i))] [2, 3, 4, 5, 6] rfl ?_
    refine n_widen (cells + 4) (slots + 24) (by omega) (by omega) ?_
    exact K S1 T2 f1 hR
  · skip
    refine n_goto C 1421 dL_law_885 rfl ?_
    refine n_sub [(0, .ref b), (1, .ref (A1 0)), (2, .ref (A2 0)), (3, .ref aO), (4, .int (nI i))] [2, 3, 4, 5, 6] rfl ?_
    refine n_widen (cells + 4) (slots + 24) (by omega) (by omega) ?_
    exact K S1 T2 f1 hR
set_option maxRecDepth 100000 in
set_option maxHeartbeats 8000000 in
theorem law_collect {p : Program} {l : Launch} {e : Env} {s : State} {m : MethodId} {below : List Frame} {meth : Method} {c : Code} {D : va_G} {A1 A2 : Nat → Nat} {cI cG cR cL : ClassId} {aK aV aO b LL : Nat} {xs : Nat → Int32} {n : Nat → Nat} {Qf : State → Prop} {cells slots : Nat} {S T : Nat → Nat → Int32} {fO : Nat → Int64} {i : Nat} {P : (Nat → Nat → Int32) → (Nat → Nat → Int32) → Prop} (C0 : LawC p l s m c D A1 A2 cI cG cR cL aK aV b LL xs) (hi5 : i + 5 ≤ LL) (hc : cells ≤ 1000) (hs : slots ≤ 100000) (h : op_collect n (xs (i + 1)) S T P) (K : ∀ S1 T1 f1, P S1 T1 → JW p l e room_1 s m #[Value.ref b] below meth c (cells + 4) (slots + 24) Qf D (fun q : Nat => s.heap.size ≤ q) 7 (lawW A1 A2 n cI cG cR cL aO S1 T1 f1) 1421 [(0, .ref b), (1, .ref (A1 0)), (2, .ref (A2 0)), (3, .ref aO), (4, .int (nI i))] []) : JW p l e room_1 s m #[Value.ref b] below meth c cells slots Qf D (fun q : Nat => s.heap.size ≤ q) 7 (lawW A1 A2 n cI cG cR cL aO S T fO) 888 [(0, .ref b), (1, .ref (A1 0)), (2, .ref (A2 0)), (3, .ref aO), (4, .int (nI i))] [] := by
  obtain ⟨C, hXW, hX, hbl, hi1, hi2, hst, hLL⟩ := C0
  have hbA : ¬ (fun q : Nat => s.heap.size ≤ q) b := Nat.not_le.mpr hbl
  have CM : Cw p s m #[Value.ref b] c code 7 RL D (tyM cI) (fun q : Nat => s.heap.size ≤ q) := C.sub [0] rfl
  have CC : Cw p s m #[Value.ref b] c code 7 RL D (tyC cI cG cR) (fun q : Nat => s.heap.size ≤ q) := C.sub [0, 1, 2] rfl
  unfold op_collect at h
  refine n_aload_n C 1 rfl dL_law_888 889 rfl ?_
  refine n_aload_n C 0 rfl dL_law_889 890 rfl ?_
  refine n_iload C 4 rfl dL_law_890 892 rfl ?_
  refine n_iconst C 1 rfl dL_law_892 893 rfl ?_
  refine n_iadd C dL_law_893 894 rfl ?_
  rw [show (nI i + 1 : Int32) = nI (i + 1) from nI_add i 1]
  refine n_sld C hX hbl hbA (vp_in_nI (show i + 1 < LL by omega) (by omega)) dL_law_894 895 rfl ?_
  rw [nI_clamp (show i + 1 < 2 ^ 31 by omega)]
  refine n_aload_n C 3 rfl dL_law_895 896 rfl ?_
  refine n_callW C hFw hXW (As := [.ref (A1 0), .int (xs (i + 1)), .ref aO]) (wd 23 A2 (ceM A2 cI) T) (wd 32 A1 (ceC A1 n cI cG cR) S ++ [outC aO cL fO]) [] [] (show _ = _ by rw [app_nil3]; rfl) (cnL_collect hst hi1 h) b_556 b_43 b_555 b_554 ⟨by decide +kernel, by decide +kernel, (show (parseMethodDescriptor yL_collect.desc).map (fun d => d.parameters.length) = some 3 by decide +kernel)⟩ ⟨(Nat.le_of_ble_eq_true rfl), (Nat.le_of_ble_eq_true rfl)⟩ rfl (Nat.le_of_ble_eq_true rfl) (cells + 1) (slots + 6) rfl rfl ⟨by show cells + 1 ≤ 600128; omega, by show slots + 6 ≤ 7301064; omega⟩ dL_law_896 899 rfl (fun v w1 h => ?_)
  obtain ⟨r1, S1, ov, f1, rfl, rfl, h, hb⟩ := h
  refine n_ws (w1 := lawW A1 A2 n cI cG cR cL aO S1 T f1) (by rw [app_nil3]; rfl) ?_
  show JW p l e room_1 s m #[Value.ref b] below meth c (cells + 1) (slots + 6) Qf D (fun q : Nat => s.heap.size ≤ q) 7 (lawW A1 A2 n cI cG cR cL aO S1 T f1) 899 [(0, .ref b), (1, .ref (A1 0)), (2, .ref (A2 0)), (3, .ref aO), (4, .int (nI i))] [.int r1]
  refine n_istore C [(5, .int r1), (0, .ref b), (1, .ref (A1 0)), (2, .ref (A2 0)), (3, .ref aO), (4, .int (nI i))] (Nat.le_of_ble_eq_true rfl) rfl dL_law_899 901 rfl ?_
  refine n_aload_n C 3 rfl dL_law_901 902 rfl ?_
  refine n_aload_n C 1 rfl dL_law_902 903 rfl ?_
  refine n_iload C 5 rfl dL_law_903 905 rfl ?_
  refine n_iconst C 1 rfl dL_law_905 906 rfl ?_
  refine n_iadd C dL_law_906 907 rfl ?_
  rw [show (nI i + 1 : Int32) = nI (i + 1) from nI_add i 1]
  refine n_sld C hX hbl hbA (vp_in_nI (show i + 1 < LL by omega) (by omega)) dL_law_907 908 rfl ?_
  rw [nI_clamp (show i + 1 < 2 ^ 31 by omega)]
  refine n_callCt CM hTr trivial hi2 (As := [.int (xs (i + 1))]) 0 [] (wd 32 A1 (ceC A1 n cI cG cR) S1 ++ [outC aO cL f1]) [] rfl (ctX5_collect hTr hi2 h) (Nat.le_of_ble_eq_true rfl) (heM_o _) rfl b_973 b_50 b_971 b_972 b_970 ⟨by decide +kernel, by decide +kernel, (show (parseMethodDescriptor yX5_collect.desc).map (fun d => d.parameters.length) = some 1 by decide +kernel)⟩ ⟨(Nat.le_of_ble_eq_true rfl), (Nat.le_of_ble_eq_true rfl)⟩ rfl (Nat.le_of_ble_eq_true rfl) ⟨by show _ ≤ 600128; omega, by show _ ≤ 7301064; omega⟩ dL_law_908 911 rfl (fun r2 T1 h => ?_)
  show JW p l e room_1 s m #[Value.ref b] below meth c (cells + 1) (slots + 6) Qf D (fun q : Nat => s.heap.size ≤ q) 7 (lawW A1 A2 n cI cG cR cL aO S1 T1 f1) 911 [(5, .int r1), (0, .ref b), (1, .ref (A1 0)), (2, .ref (A2 0)), (3, .ref aO), (4, .int (nI i))] [.int r2]
  refine n_istore C [(6, .int r2), (5, .int r1), (0, .ref b), (1, .ref (A1 0)), (2, .ref (A2 0)), (3, .ref aO), (4, .int (nI i))] (Nat.le_of_ble_eq_true rfl) rfl dL_law_911 913 rfl ?_
  refine n_aload_n C 4 rfl dL_law_913 914 rfl ?_
  refine n_callCt CM hTr trivial hi2 (As := []) 0 [] (wd 32 A1 (ceC A1 n cI cG cR) S1 ++ [outC aO cL f1]) [] rfl (ctX5_thrown hTr hi2 h) (Nat.le_of_ble_eq_true rfl) (heM_o _) rfl b_847 b_50 b_845 b_846 b_844 ⟨by decide +kernel, by decide +kernel, (show (parseMethodDescriptor yX5_thrown.desc).map (fun d => d.parameters.length) = some 0 by decide +kernel)⟩ ⟨(Nat.le_of_ble_eq_true rfl), (Nat.le_of_ble_eq_true rfl)⟩ rfl (Nat.le_of_ble_eq_true rfl) ⟨by show _ ≤ 600128; omega, by show _ ≤ 7301064; omega⟩ dL_law_914 917 rfl (fun r3 T2 h => ?_)
  obtain ⟨hk, hv, hR⟩ := h
  show JW p l e room_1 s m #[Value.ref b] below meth c (cells + 1) (slots + 6) Qf D (fun q : Nat => s.heap.size ≤ q) 7 (lawW A1 A2 n cI cG cR cL aO S1 T2 f1) 917 [(6, .int r2), (5, .int r1), (0, .ref b), (1, .ref (A1 0)), (2, .ref (A2 0)), (3, .ref aO), (4, .int (nI i))] [.int r3]
  refine n_iload C 1 rfl dL_law_917 919 rfl ?_
  refine n_icmp_eq C 924 dL_law_919 922 rfl rfl (fun _ => ?_) (fun z => absurd hk z)
  refine n_iload C 1 rfl dL_law_924 926 rfl ?_
  refine n_if_ne C 941 dL_law_926 929 rfl rfl (fun z0 => ?_) (fun z0 => ?_)
  · have eb : f1 (0 : Int32).toNatClampNeg = r2.toInt64 := hb r2 (hv z0)
    refine n_aload_n C 5 rfl dL_law_929 930 rfl ?_
    refine n_iconst C 0 rfl dL_law_930 931 rfl ?_
    refine n_lald C 55 3 lawW_out rfl (show vp_in 0 1 by unfold vp_in; decide) dL_law_931 932 rfl ?_
    rw [eb]
    refine n_iload C 0 rfl dL_law_932 934 rfl ?_
    refine n_i2l C dL_law_934 935 rfl ?_
    refine n_lcmp0 C dL_law_935 936 rfl ?_
    refine n_if_eq C 941 dL_law_936 939 rfl rfl (fun _ => ?_) (fun z => absurd rfl z)
    refine n_goto C 1421 dL_law_941 rfl ?_
    refine n_sub [(0, .ref b), (1, .ref (A1 0)), (2, .ref (A2 0)), (3, .ref aO), (4, .int (nI i))] [2, 3, 4, 5, 6] rfl ?_
    refine n_widen (cells + 4) (slots + 24) (by omega) (by omega) ?_
    exact K S1 T2 f1 hR
  · skip
    refine n_goto C 1421 dL_law_941 rfl ?_
    refine n_sub [(0, .ref b), (1, .ref (A1 0)), (2, .ref (A2 0)), (3, .ref aO), (4, .int (nI i))] [2, 3, 4, 5, 6] rfl ?_
    refine n_widen (cells + 4) (slots + 24) (by omega) (by omega) ?_
    exact K S1 T2 f1 hR
set_option maxRecDepth 100000 in
set_option maxHeartbeats 8000000 in
theorem law_root {p : Program} {l : Launch} {e : Env} {s : State} {m : MethodId} {below : List Frame} {meth : Method} {c : Code} {D : va_G} {A1 A2 : Nat → Nat} {cI cG cR cL : ClassId} {aK aV aO b LL : Nat} {xs : Nat → Int32} {n : Nat → Nat} {Qf : State → Prop} {cells slots : Nat} {S T : Nat → Nat → Int32} {fO : Nat → Int64} {i : Nat} {P : (Nat → Nat → Int32) → (Nat → Nat → Int32) → Prop} (C0 : LawC p l s m c D A1 A2 cI cG cR cL aK aV b LL xs) (hi5 : i + 5 ≤ LL) (hc : cells ≤ 1000) (hs : slots ≤ 100000) (h : op_root n (xs (i + 1)) S T P) (K : ∀ S1 T1 f1, P S1 T1 → JW p l e room_1 s m #[Value.ref b] below meth c (cells + 4) (slots + 24) Qf D (fun q : Nat => s.heap.size ≤ q) 7 (lawW A1 A2 n cI cG cR cL aO S1 T1 f1) 1421 [(0, .ref b), (1, .ref (A1 0)), (2, .ref (A2 0)), (3, .ref aO), (4, .int (nI i))] []) : JW p l e room_1 s m #[Value.ref b] below meth c cells slots Qf D (fun q : Nat => s.heap.size ≤ q) 7 (lawW A1 A2 n cI cG cR cL aO S T fO) 944 [(0, .ref b), (1, .ref (A1 0)), (2, .ref (A2 0)), (3, .ref aO), (4, .int (nI i))] [] := by
  obtain ⟨C, hXW, hX, hbl, hi1, hi2, hst, hLL⟩ := C0
  have hbA : ¬ (fun q : Nat => s.heap.size ≤ q) b := Nat.not_le.mpr hbl
  have CM : Cw p s m #[Value.ref b] c code 7 RL D (tyM cI) (fun q : Nat => s.heap.size ≤ q) := C.sub [0] rfl
  have CC : Cw p s m #[Value.ref b] c code 7 RL D (tyC cI cG cR) (fun q : Nat => s.heap.size ≤ q) := C.sub [0, 1, 2] rfl
  unfold op_root at h
  refine n_aload_n C 1 rfl dL_law_944 945 rfl ?_
  refine n_aload_n C 0 rfl dL_law_945 946 rfl ?_
  refine n_iload C 4 rfl dL_law_946 948 rfl ?_
  refine n_iconst C 1 rfl dL_law_948 949 rfl ?_
  refine n_iadd C dL_law_949 950 rfl ?_
  rw [show (nI i + 1 : Int32) = nI (i + 1) from nI_add i 1]
  refine n_sld C hX hbl hbA (vp_in_nI (show i + 1 < LL by omega) (by omega)) dL_law_950 951 rfl ?_
  rw [nI_clamp (show i + 1 < 2 ^ 31 by omega)]
  refine n_aload_n C 3 rfl dL_law_951 952 rfl ?_
  refine n_callW C hFw hXW (As := [.ref (A1 0), .int (xs (i + 1)), .ref aO]) (wd 23 A2 (ceM A2 cI) T) (wd 32 A1 (ceC A1 n cI cG cR) S ++ [outC aO cL fO]) [] [] (show _ = _ by rw [app_nil3]; rfl) (cnL_root hst hi1 h) b_564 b_43 b_563 b_562 ⟨by decide +kernel, by decide +kernel, (show (parseMethodDescriptor yL_root.desc).map (fun d => d.parameters.length) = some 3 by decide +kernel)⟩ ⟨(Nat.le_of_ble_eq_true rfl), (Nat.le_of_ble_eq_true rfl)⟩ rfl (Nat.le_of_ble_eq_true rfl) (cells + 1) (slots + 6) rfl rfl ⟨by show cells + 1 ≤ 600128; omega, by show slots + 6 ≤ 7301064; omega⟩ dL_law_952 955 rfl (fun v w1 h => ?_)
  obtain ⟨r1, S1, ov, f1, rfl, rfl, h, hb⟩ := h
  refine n_ws (w1 := lawW A1 A2 n cI cG cR cL aO S1 T f1) (by rw [app_nil3]; rfl) ?_
  show JW p l e room_1 s m #[Value.ref b] below meth c (cells + 1) (slots + 6) Qf D (fun q : Nat => s.heap.size ≤ q) 7 (lawW A1 A2 n cI cG cR cL aO S1 T f1) 955 [(0, .ref b), (1, .ref (A1 0)), (2, .ref (A2 0)), (3, .ref aO), (4, .int (nI i))] [.int r1]
  refine n_istore C [(5, .int r1), (0, .ref b), (1, .ref (A1 0)), (2, .ref (A2 0)), (3, .ref aO), (4, .int (nI i))] (Nat.le_of_ble_eq_true rfl) rfl dL_law_955 957 rfl ?_
  refine n_aload_n C 3 rfl dL_law_957 958 rfl ?_
  refine n_aload_n C 1 rfl dL_law_958 959 rfl ?_
  refine n_iload C 5 rfl dL_law_959 961 rfl ?_
  refine n_iconst C 1 rfl dL_law_961 962 rfl ?_
  refine n_iadd C dL_law_962 963 rfl ?_
  rw [show (nI i + 1 : Int32) = nI (i + 1) from nI_add i 1]
  refine n_sld C hX hbl hbA (vp_in_nI (show i + 1 < LL by omega) (by omega)) dL_law_963 964 rfl ?_
  rw [nI_clamp (show i + 1 < 2 ^ 31 by omega)]
  refine n_callCt CM hTr trivial hi2 (As := [.int (xs (i + 1))]) 0 [] (wd 32 A1 (ceC A1 n cI cG cR) S1 ++ [outC aO cL f1]) [] rfl (ctX5_root hTr hi2 h) (Nat.le_of_ble_eq_true rfl) (heM_o _) rfl b_977 b_50 b_975 b_976 b_974 ⟨by decide +kernel, by decide +kernel, (show (parseMethodDescriptor yX5_root.desc).map (fun d => d.parameters.length) = some 1 by decide +kernel)⟩ ⟨(Nat.le_of_ble_eq_true rfl), (Nat.le_of_ble_eq_true rfl)⟩ rfl (Nat.le_of_ble_eq_true rfl) ⟨by show _ ≤ 600128; omega, by show _ ≤ 7301064; omega⟩ dL_law_964 967 rfl (fun r2 T1 h => ?_)
  show JW p l e room_1 s m #[Value.ref b] below meth c (cells + 1) (slots + 6) Qf D (fun q : Nat => s.heap.size ≤ q) 7 (lawW A1 A2 n cI cG cR cL aO S1 T1 f1) 967 [(5, .int r1), (0, .ref b), (1, .ref (A1 0)), (2, .ref (A2 0)), (3, .ref aO), (4, .int (nI i))] [.int r2]
  refine n_istore C [(6, .int r2), (5, .int r1), (0, .ref b), (1, .ref (A1 0)), (2, .ref (A2 0)), (3, .ref aO), (4, .int (nI i))] (Nat.le_of_ble_eq_true rfl) rfl dL_law_967 969 rfl ?_
  refine n_aload_n C 4 rfl dL_law_969 970 rfl ?_
  refine n_callCt CM hTr trivial hi2 (As := []) 0 [] (wd 32 A1 (ceC A1 n cI cG cR) S1 ++ [outC aO cL f1]) [] rfl (ctX5_thrown hTr hi2 h) (Nat.le_of_ble_eq_true rfl) (heM_o _) rfl b_847 b_50 b_845 b_846 b_844 ⟨by decide +kernel, by decide +kernel, (show (parseMethodDescriptor yX5_thrown.desc).map (fun d => d.parameters.length) = some 0 by decide +kernel)⟩ ⟨(Nat.le_of_ble_eq_true rfl), (Nat.le_of_ble_eq_true rfl)⟩ rfl (Nat.le_of_ble_eq_true rfl) ⟨by show _ ≤ 600128; omega, by show _ ≤ 7301064; omega⟩ dL_law_970 973 rfl (fun r3 T2 h => ?_)
  obtain ⟨hk, hv, hR⟩ := h
  show JW p l e room_1 s m #[Value.ref b] below meth c (cells + 1) (slots + 6) Qf D (fun q : Nat => s.heap.size ≤ q) 7 (lawW A1 A2 n cI cG cR cL aO S1 T2 f1) 973 [(6, .int r2), (5, .int r1), (0, .ref b), (1, .ref (A1 0)), (2, .ref (A2 0)), (3, .ref aO), (4, .int (nI i))] [.int r3]
  refine n_iload C 1 rfl dL_law_973 975 rfl ?_
  refine n_icmp_eq C 980 dL_law_975 978 rfl rfl (fun _ => ?_) (fun z => absurd hk z)
  refine n_iload C 1 rfl dL_law_980 982 rfl ?_
  refine n_if_ne C 997 dL_law_982 985 rfl rfl (fun z0 => ?_) (fun z0 => ?_)
  · have eb : f1 (0 : Int32).toNatClampNeg = r2.toInt64 := hb r2 (hv z0)
    refine n_aload_n C 5 rfl dL_law_985 986 rfl ?_
    refine n_iconst C 0 rfl dL_law_986 987 rfl ?_
    refine n_lald C 55 3 lawW_out rfl (show vp_in 0 1 by unfold vp_in; decide) dL_law_987 988 rfl ?_
    rw [eb]
    refine n_iload C 0 rfl dL_law_988 990 rfl ?_
    refine n_i2l C dL_law_990 991 rfl ?_
    refine n_lcmp0 C dL_law_991 992 rfl ?_
    refine n_if_eq C 997 dL_law_992 995 rfl rfl (fun _ => ?_) (fun z => absurd rfl z)
    refine n_goto C 1421 dL_law_997 rfl ?_
    refine n_sub [(0, .ref b), (1, .ref (A1 0)), (2, .ref (A2 0)), (3, .ref aO), (4, .int (nI i))] [2, 3, 4, 5, 6] rfl ?_
    refine n_widen (cells + 4) (slots + 24) (by omega) (by omega) ?_
    exact K S1 T2 f1 hR
  · skip
    refine n_goto C 1421 dL_law_997 rfl ?_
    refine n_sub [(0, .ref b), (1, .ref (A1 0)), (2, .ref (A2 0)), (3, .ref aO), (4, .int (nI i))] [2, 3, 4, 5, 6] rfl ?_
    refine n_widen (cells + 4) (slots + 24) (by omega) (by omega) ?_
    exact K S1 T2 f1 hR
set_option maxRecDepth 100000 in
set_option maxHeartbeats 8000000 in
theorem law_about {p : Program} {l : Launch} {e : Env} {s : State} {m : MethodId} {below : List Frame} {meth : Method} {c : Code} {D : va_G} {A1 A2 : Nat → Nat} {cI cG cR cL : ClassId} {aK aV aO b LL : Nat} {xs : Nat → Int32} {n : Nat → Nat} {Qf : State → Prop} {cells slots : Nat} {S T : Nat → Nat → Int32} {fO : Nat → Int64} {i : Nat} {P : (Nat → Nat → Int32) → (Nat → Nat → Int32) → Prop} (C0 : LawC p l s m c D A1 A2 cI cG cR cL aK aV b LL xs) (hi5 : i + 5 ≤ LL) (hc : cells ≤ 1000) (hs : slots ≤ 100000) (h : op_about n (xs (i + 1)) (xs (i + 2)) S T P) (K : ∀ S1 T1 f1, P S1 T1 → JW p l e room_1 s m #[Value.ref b] below meth c (cells + 4) (slots + 24) Qf D (fun q : Nat => s.heap.size ≤ q) 7 (lawW A1 A2 n cI cG cR cL aO S1 T1 f1) 1421 [(0, .ref b), (1, .ref (A1 0)), (2, .ref (A2 0)), (3, .ref aO), (4, .int (nI i))] []) : JW p l e room_1 s m #[Value.ref b] below meth c cells slots Qf D (fun q : Nat => s.heap.size ≤ q) 7 (lawW A1 A2 n cI cG cR cL aO S T fO) 1000 [(0, .ref b), (1, .ref (A1 0)), (2, .ref (A2 0)), (3, .ref aO), (4, .int (nI i))] [] := by
  obtain ⟨C, hXW, hX, hbl, hi1, hi2, hst, hLL⟩ := C0
  have hbA : ¬ (fun q : Nat => s.heap.size ≤ q) b := Nat.not_le.mpr hbl
  have CM : Cw p s m #[Value.ref b] c code 7 RL D (tyM cI) (fun q : Nat => s.heap.size ≤ q) := C.sub [0] rfl
  have CC : Cw p s m #[Value.ref b] c code 7 RL D (tyC cI cG cR) (fun q : Nat => s.heap.size ≤ q) := C.sub [0, 1, 2] rfl
  unfold op_about at h
  refine n_aload_n C 1 rfl dL_law_1000 1001 rfl ?_
  refine n_aload_n C 0 rfl dL_law_1001 1002 rfl ?_
  refine n_iload C 4 rfl dL_law_1002 1004 rfl ?_
  refine n_iconst C 1 rfl dL_law_1004 1005 rfl ?_
  refine n_iadd C dL_law_1005 1006 rfl ?_
  rw [show (nI i + 1 : Int32) = nI (i + 1) from nI_add i 1]
  refine n_sld C hX hbl hbA (vp_in_nI (show i + 1 < LL by omega) (by omega)) dL_law_1006 1007 rfl ?_
  rw [nI_clamp (show i + 1 < 2 ^ 31 by omega)]
  refine n_aload_n C 0 rfl dL_law_1007 1008 rfl ?_
  refine n_iload C 4 rfl dL_law_1008 1010 rfl ?_
  refine n_iconst C 2 rfl dL_law_1010 1011 rfl ?_
  refine n_iadd C dL_law_1011 1012 rfl ?_
  rw [show (nI i + 2 : Int32) = nI (i + 2) from nI_add i 2]
  refine n_sld C hX hbl hbA (vp_in_nI (show i + 2 < LL by omega) (by omega)) dL_law_1012 1013 rfl ?_
  rw [nI_clamp (show i + 2 < 2 ^ 31 by omega)]
  refine n_aload_n C 3 rfl dL_law_1013 1014 rfl ?_
  refine n_callW C hFw hXW (As := [.ref (A1 0), .int (xs (i + 1)), .int (xs (i + 2)), .ref aO]) (wd 23 A2 (ceM A2 cI) T) (wd 32 A1 (ceC A1 n cI cG cR) S ++ [outC aO cL fO]) [] [] (show _ = _ by rw [app_nil3]; rfl) (cnL_about hst hi1 h) b_571 b_43 b_570 b_569 ⟨by decide +kernel, by decide +kernel, (show (parseMethodDescriptor yL_about.desc).map (fun d => d.parameters.length) = some 4 by decide +kernel)⟩ ⟨(Nat.le_of_ble_eq_true rfl), (Nat.le_of_ble_eq_true rfl)⟩ rfl (Nat.le_of_ble_eq_true rfl) (cells + 3) (slots + 18) rfl rfl ⟨by show cells + 3 ≤ 600128; omega, by show slots + 18 ≤ 7301064; omega⟩ dL_law_1014 1017 rfl (fun v w1 h => ?_)
  obtain ⟨r1, S1, ov, f1, rfl, rfl, h, hb⟩ := h
  refine n_ws (w1 := lawW A1 A2 n cI cG cR cL aO S1 T f1) (by rw [app_nil3]; rfl) ?_
  show JW p l e room_1 s m #[Value.ref b] below meth c (cells + 3) (slots + 18) Qf D (fun q : Nat => s.heap.size ≤ q) 7 (lawW A1 A2 n cI cG cR cL aO S1 T f1) 1017 [(0, .ref b), (1, .ref (A1 0)), (2, .ref (A2 0)), (3, .ref aO), (4, .int (nI i))] [.int r1]
  refine n_istore C [(5, .int r1), (0, .ref b), (1, .ref (A1 0)), (2, .ref (A2 0)), (3, .ref aO), (4, .int (nI i))] (Nat.le_of_ble_eq_true rfl) rfl dL_law_1017 1019 rfl ?_
  refine n_aload_n C 3 rfl dL_law_1019 1020 rfl ?_
  refine n_aload_n C 1 rfl dL_law_1020 1021 rfl ?_
  refine n_iload C 5 rfl dL_law_1021 1023 rfl ?_
  refine n_iconst C 1 rfl dL_law_1023 1024 rfl ?_
  refine n_iadd C dL_law_1024 1025 rfl ?_
  rw [show (nI i + 1 : Int32) = nI (i + 1) from nI_add i 1]
  refine n_sld C hX hbl hbA (vp_in_nI (show i + 1 < LL by omega) (by omega)) dL_law_1025 1026 rfl ?_
  rw [nI_clamp (show i + 1 < 2 ^ 31 by omega)]
  refine n_aload_n C 1 rfl dL_law_1026 1027 rfl ?_
  refine n_iload C 5 rfl dL_law_1027 1029 rfl ?_
  refine n_iconst C 2 rfl dL_law_1029 1030 rfl ?_
  refine n_iadd C dL_law_1030 1031 rfl ?_
  rw [show (nI i + 2 : Int32) = nI (i + 2) from nI_add i 2]
  refine n_sld C hX hbl hbA (vp_in_nI (show i + 2 < LL by omega) (by omega)) dL_law_1031 1032 rfl ?_
  rw [nI_clamp (show i + 2 < 2 ^ 31 by omega)]
  refine n_callCt CM hTr trivial hi2 (As := [.int (xs (i + 1)), .int (xs (i + 2))]) 0 [] (wd 32 A1 (ceC A1 n cI cG cR) S1 ++ [outC aO cL f1]) [] rfl (ctX5_about hTr hi2 h) (Nat.le_of_ble_eq_true rfl) (heM_o _) rfl b_981 b_50 b_979 b_980 b_978 ⟨by decide +kernel, by decide +kernel, (show (parseMethodDescriptor yX5_about.desc).map (fun d => d.parameters.length) = some 2 by decide +kernel)⟩ ⟨(Nat.le_of_ble_eq_true rfl), (Nat.le_of_ble_eq_true rfl)⟩ rfl (Nat.le_of_ble_eq_true rfl) ⟨by show _ ≤ 600128; omega, by show _ ≤ 7301064; omega⟩ dL_law_1032 1035 rfl (fun r2 T1 h => ?_)
  show JW p l e room_1 s m #[Value.ref b] below meth c (cells + 3) (slots + 18) Qf D (fun q : Nat => s.heap.size ≤ q) 7 (lawW A1 A2 n cI cG cR cL aO S1 T1 f1) 1035 [(5, .int r1), (0, .ref b), (1, .ref (A1 0)), (2, .ref (A2 0)), (3, .ref aO), (4, .int (nI i))] [.int r2]
  refine n_istore C [(6, .int r2), (5, .int r1), (0, .ref b), (1, .ref (A1 0)), (2, .ref (A2 0)), (3, .ref aO), (4, .int (nI i))] (Nat.le_of_ble_eq_true rfl) rfl dL_law_1035 1037 rfl ?_
  refine n_aload_n C 4 rfl dL_law_1037 1038 rfl ?_
  refine n_callCt CM hTr trivial hi2 (As := []) 0 [] (wd 32 A1 (ceC A1 n cI cG cR) S1 ++ [outC aO cL f1]) [] rfl (ctX5_thrown hTr hi2 h) (Nat.le_of_ble_eq_true rfl) (heM_o _) rfl b_847 b_50 b_845 b_846 b_844 ⟨by decide +kernel, by decide +kernel, (show (parseMethodDescriptor yX5_thrown.desc).map (fun d => d.parameters.length) = some 0 by decide +kernel)⟩ ⟨(Nat.le_of_ble_eq_true rfl), (Nat.le_of_ble_eq_true rfl)⟩ rfl (Nat.le_of_ble_eq_true rfl) ⟨by show _ ≤ 600128; omega, by show _ ≤ 7301064; omega⟩ dL_law_1038 1041 rfl (fun r3 T2 h => ?_)
  obtain ⟨hk, hv, hR⟩ := h
  show JW p l e room_1 s m #[Value.ref b] below meth c (cells + 3) (slots + 18) Qf D (fun q : Nat => s.heap.size ≤ q) 7 (lawW A1 A2 n cI cG cR cL aO S1 T2 f1) 1041 [(6, .int r2), (5, .int r1), (0, .ref b), (1, .ref (A1 0)), (2, .ref (A2 0)), (3, .ref aO), (4, .int (nI i))] [.int r3]
  refine n_iload C 1 rfl dL_law_1041 1043 rfl ?_
  refine n_icmp_eq C 1048 dL_law_1043 1046 rfl rfl (fun _ => ?_) (fun z => absurd hk z)
  refine n_iload C 1 rfl dL_law_1048 1050 rfl ?_
  refine n_if_ne C 1065 dL_law_1050 1053 rfl rfl (fun z0 => ?_) (fun z0 => ?_)
  · have eb : f1 (0 : Int32).toNatClampNeg = r2.toInt64 := hb r2 (hv z0)
    refine n_aload_n C 5 rfl dL_law_1053 1054 rfl ?_
    refine n_iconst C 0 rfl dL_law_1054 1055 rfl ?_
    refine n_lald C 55 3 lawW_out rfl (show vp_in 0 1 by unfold vp_in; decide) dL_law_1055 1056 rfl ?_
    rw [eb]
    refine n_iload C 0 rfl dL_law_1056 1058 rfl ?_
    refine n_i2l C dL_law_1058 1059 rfl ?_
    refine n_lcmp0 C dL_law_1059 1060 rfl ?_
    refine n_if_eq C 1065 dL_law_1060 1063 rfl rfl (fun _ => ?_) (fun z => absurd rfl z)
    refine n_goto C 1421 dL_law_1065 rfl ?_
    refine n_sub [(0, .ref b), (1, .ref (A1 0)), (2, .ref (A2 0)), (3, .ref aO), (4, .int (nI i))] [2, 3, 4, 5, 6] rfl ?_
    refine n_widen (cells + 4) (slots + 24) (by omega) (by omega) ?_
    exact K S1 T2 f1 hR
  · skip
    refine n_goto C 1421 dL_law_1065 rfl ?_
    refine n_sub [(0, .ref b), (1, .ref (A1 0)), (2, .ref (A2 0)), (3, .ref aO), (4, .int (nI i))] [2, 3, 4, 5, 6] rfl ?_
    refine n_widen (cells + 4) (slots + 24) (by omega) (by omega) ?_
    exact K S1 T2 f1 hR
set_option maxRecDepth 100000 in
set_option maxHeartbeats 8000000 in
theorem law_word {p : Program} {l : Launch} {e : Env} {s : State} {m : MethodId} {below : List Frame} {meth : Method} {c : Code} {D : va_G} {A1 A2 : Nat → Nat} {cI cG cR cL : ClassId} {aK aV aO b LL : Nat} {xs : Nat → Int32} {n : Nat → Nat} {Qf : State → Prop} {cells slots : Nat} {S T : Nat → Nat → Int32} {fO : Nat → Int64} {i : Nat} {P : (Nat → Nat → Int32) → (Nat → Nat → Int32) → Prop} (C0 : LawC p l s m c D A1 A2 cI cG cR cL aK aV b LL xs) (hi5 : i + 5 ≤ LL) (hc : cells ≤ 1000) (hs : slots ≤ 100000) (h : op_word n (xs (i + 1)) S T P) (K : ∀ S1 T1 f1, P S1 T1 → JW p l e room_1 s m #[Value.ref b] below meth c (cells + 4) (slots + 24) Qf D (fun q : Nat => s.heap.size ≤ q) 7 (lawW A1 A2 n cI cG cR cL aO S1 T1 f1) 1421 [(0, .ref b), (1, .ref (A1 0)), (2, .ref (A2 0)), (3, .ref aO), (4, .int (nI i))] []) : JW p l e room_1 s m #[Value.ref b] below meth c cells slots Qf D (fun q : Nat => s.heap.size ≤ q) 7 (lawW A1 A2 n cI cG cR cL aO S T fO) 1068 [(0, .ref b), (1, .ref (A1 0)), (2, .ref (A2 0)), (3, .ref aO), (4, .int (nI i))] [] := by
  obtain ⟨C, hXW, hX, hbl, hi1, hi2, hst, hLL⟩ := C0
  have hbA : ¬ (fun q : Nat => s.heap.size ≤ q) b := Nat.not_le.mpr hbl
  have CM : Cw p s m #[Value.ref b] c code 7 RL D (tyM cI) (fun q : Nat => s.heap.size ≤ q) := C.sub [0] rfl
  have CC : Cw p s m #[Value.ref b] c code 7 RL D (tyC cI cG cR) (fun q : Nat => s.heap.size ≤ q) := C.sub [0, 1, 2] rfl
  unfold op_word at h
  refine n_aload_n C 1 rfl dL_law_1068 1069 rfl ?_
  refine n_aload_n C 0 rfl dL_law_1069 1070 rfl ?_
  refine n_iload C 4 rfl dL_law_1070 1072 rfl ?_
  refine n_iconst C 1 rfl dL_law_1072 1073 rfl ?_
  refine n_iadd C dL_law_1073 1074 rfl ?_
  rw [show (nI i + 1 : Int32) = nI (i + 1) from nI_add i 1]
  refine n_sld C hX hbl hbA (vp_in_nI (show i + 1 < LL by omega) (by omega)) dL_law_1074 1075 rfl ?_
  rw [nI_clamp (show i + 1 < 2 ^ 31 by omega)]
  refine n_aload_n C 3 rfl dL_law_1075 1076 rfl ?_
  refine n_callW C hFw hXW (As := [.ref (A1 0), .int (xs (i + 1)), .ref aO]) (wd 23 A2 (ceM A2 cI) T) (wd 32 A1 (ceC A1 n cI cG cR) S ++ [outC aO cL fO]) [] [] (show _ = _ by rw [app_nil3]; rfl) (cnL_word hst hi1 h) b_589 b_43 b_588 b_587 ⟨by decide +kernel, by decide +kernel, (show (parseMethodDescriptor yL_word.desc).map (fun d => d.parameters.length) = some 3 by decide +kernel)⟩ ⟨(Nat.le_of_ble_eq_true rfl), (Nat.le_of_ble_eq_true rfl)⟩ rfl (Nat.le_of_ble_eq_true rfl) (cells + 1) (slots + 6) rfl rfl ⟨by show cells + 1 ≤ 600128; omega, by show slots + 6 ≤ 7301064; omega⟩ dL_law_1076 1079 rfl (fun v w1 h => ?_)
  obtain ⟨r1, S1, ov, f1, rfl, rfl, h, hb⟩ := h
  refine n_ws (w1 := lawW A1 A2 n cI cG cR cL aO S1 T f1) (by rw [app_nil3]; rfl) ?_
  show JW p l e room_1 s m #[Value.ref b] below meth c (cells + 1) (slots + 6) Qf D (fun q : Nat => s.heap.size ≤ q) 7 (lawW A1 A2 n cI cG cR cL aO S1 T f1) 1079 [(0, .ref b), (1, .ref (A1 0)), (2, .ref (A2 0)), (3, .ref aO), (4, .int (nI i))] [.int r1]
  refine n_istore C [(5, .int r1), (0, .ref b), (1, .ref (A1 0)), (2, .ref (A2 0)), (3, .ref aO), (4, .int (nI i))] (Nat.le_of_ble_eq_true rfl) rfl dL_law_1079 1081 rfl ?_
  refine n_aload_n C 3 rfl dL_law_1081 1082 rfl ?_
  refine n_aload_n C 1 rfl dL_law_1082 1083 rfl ?_
  refine n_iload C 5 rfl dL_law_1083 1085 rfl ?_
  refine n_iconst C 1 rfl dL_law_1085 1086 rfl ?_
  refine n_iadd C dL_law_1086 1087 rfl ?_
  rw [show (nI i + 1 : Int32) = nI (i + 1) from nI_add i 1]
  refine n_sld C hX hbl hbA (vp_in_nI (show i + 1 < LL by omega) (by omega)) dL_law_1087 1088 rfl ?_
  rw [nI_clamp (show i + 1 < 2 ^ 31 by omega)]
  refine n_callCt CM hTr trivial hi2 (As := [.int (xs (i + 1))]) 0 [] (wd 32 A1 (ceC A1 n cI cG cR) S1 ++ [outC aO cL f1]) [] rfl (ctX5_word hTr hi2 h) (Nat.le_of_ble_eq_true rfl) (heM_o _) rfl b_989 b_50 b_987 b_988 b_986 ⟨by decide +kernel, by decide +kernel, (show (parseMethodDescriptor yX5_word.desc).map (fun d => d.parameters.length) = some 1 by decide +kernel)⟩ ⟨(Nat.le_of_ble_eq_true rfl), (Nat.le_of_ble_eq_true rfl)⟩ rfl (Nat.le_of_ble_eq_true rfl) ⟨by show _ ≤ 600128; omega, by show _ ≤ 7301064; omega⟩ dL_law_1088 1091 rfl (fun r2 T1 h => ?_)
  show JW p l e room_1 s m #[Value.ref b] below meth c (cells + 1) (slots + 6) Qf D (fun q : Nat => s.heap.size ≤ q) 7 (lawW A1 A2 n cI cG cR cL aO S1 T1 f1) 1091 [(5, .int r1), (0, .ref b), (1, .ref (A1 0)), (2, .ref (A2 0)), (3, .ref aO), (4, .int (nI i))] [.int r2]
  refine n_istore C [(6, .int r2), (5, .int r1), (0, .ref b), (1, .ref (A1 0)), (2, .ref (A2 0)), (3, .ref aO), (4, .int (nI i))] (Nat.le_of_ble_eq_true rfl) rfl dL_law_1091 1093 rfl ?_
  refine n_aload_n C 4 rfl dL_law_1093 1094 rfl ?_
  refine n_callCt CM hTr trivial hi2 (As := []) 0 [] (wd 32 A1 (ceC A1 n cI cG cR) S1 ++ [outC aO cL f1]) [] rfl (ctX5_thrown hTr hi2 h) (Nat.le_of_ble_eq_true rfl) (heM_o _) rfl b_847 b_50 b_845 b_846 b_844 ⟨by decide +kernel, by decide +kernel, (show (parseMethodDescriptor yX5_thrown.desc).map (fun d => d.parameters.length) = some 0 by decide +kernel)⟩ ⟨(Nat.le_of_ble_eq_true rfl), (Nat.le_of_ble_eq_true rfl)⟩ rfl (Nat.le_of_ble_eq_true rfl) ⟨by show _ ≤ 600128; omega, by show _ ≤ 7301064; omega⟩ dL_law_1094 1097 rfl (fun r3 T2 h => ?_)
  obtain ⟨hk, hv, hR⟩ := h
  show JW p l e room_1 s m #[Value.ref b] below meth c (cells + 1) (slots + 6) Qf D (fun q : Nat => s.heap.size ≤ q) 7 (lawW A1 A2 n cI cG cR cL aO S1 T2 f1) 1097 [(6, .int r2), (5, .int r1), (0, .ref b), (1, .ref (A1 0)), (2, .ref (A2 0)), (3, .ref aO), (4, .int (nI i))] [.int r3]
  refine n_iload C 1 rfl dL_law_1097 1099 rfl ?_
  refine n_icmp_eq C 1104 dL_law_1099 1102 rfl rfl (fun _ => ?_) (fun z => absurd hk z)
  refine n_iload C 1 rfl dL_law_1104 1106 rfl ?_
  refine n_if_ne C 1121 dL_law_1106 1109 rfl rfl (fun z0 => ?_) (fun z0 => ?_)
  · have eb : f1 (0 : Int32).toNatClampNeg = r2.toInt64 := hb r2 (hv z0)
    refine n_aload_n C 5 rfl dL_law_1109 1110 rfl ?_
    refine n_iconst C 0 rfl dL_law_1110 1111 rfl ?_
    refine n_lald C 55 3 lawW_out rfl (show vp_in 0 1 by unfold vp_in; decide) dL_law_1111 1112 rfl ?_
    rw [eb]
    refine n_iload C 0 rfl dL_law_1112 1114 rfl ?_
    refine n_i2l C dL_law_1114 1115 rfl ?_
    refine n_lcmp0 C dL_law_1115 1116 rfl ?_
    refine n_if_eq C 1121 dL_law_1116 1119 rfl rfl (fun _ => ?_) (fun z => absurd rfl z)
    refine n_goto C 1421 dL_law_1121 rfl ?_
    refine n_sub [(0, .ref b), (1, .ref (A1 0)), (2, .ref (A2 0)), (3, .ref aO), (4, .int (nI i))] [2, 3, 4, 5, 6] rfl ?_
    refine n_widen (cells + 4) (slots + 24) (by omega) (by omega) ?_
    exact K S1 T2 f1 hR
  · skip
    refine n_goto C 1421 dL_law_1121 rfl ?_
    refine n_sub [(0, .ref b), (1, .ref (A1 0)), (2, .ref (A2 0)), (3, .ref aO), (4, .int (nI i))] [2, 3, 4, 5, 6] rfl ?_
    refine n_widen (cells + 4) (slots + 24) (by omega) (by omega) ?_
    exact K S1 T2 f1 hR
set_option maxRecDepth 100000 in
set_option maxHeartbeats 8000000 in
theorem law_row {p : Program} {l : Launch} {e : Env} {s : State} {m : MethodId} {below : List Frame} {meth : Method} {c : Code} {D : va_G} {A1 A2 : Nat → Nat} {cI cG cR cL : ClassId} {aK aV aO b LL : Nat} {xs : Nat → Int32} {n : Nat → Nat} {Qf : State → Prop} {cells slots : Nat} {S T : Nat → Nat → Int32} {fO : Nat → Int64} {i : Nat} {P : (Nat → Nat → Int32) → (Nat → Nat → Int32) → Prop} (C0 : LawC p l s m c D A1 A2 cI cG cR cL aK aV b LL xs) (hi5 : i + 5 ≤ LL) (hc : cells ≤ 1000) (hs : slots ≤ 100000) (h : op_row n (xs (i + 1)) (xs (i + 2)) S T P) (K : ∀ S1 T1 f1, P S1 T1 → JW p l e room_1 s m #[Value.ref b] below meth c (cells + 4) (slots + 24) Qf D (fun q : Nat => s.heap.size ≤ q) 7 (lawW A1 A2 n cI cG cR cL aO S1 T1 f1) 1421 [(0, .ref b), (1, .ref (A1 0)), (2, .ref (A2 0)), (3, .ref aO), (4, .int (nI i))] []) : JW p l e room_1 s m #[Value.ref b] below meth c cells slots Qf D (fun q : Nat => s.heap.size ≤ q) 7 (lawW A1 A2 n cI cG cR cL aO S T fO) 1124 [(0, .ref b), (1, .ref (A1 0)), (2, .ref (A2 0)), (3, .ref aO), (4, .int (nI i))] [] := by
  obtain ⟨C, hXW, hX, hbl, hi1, hi2, hst, hLL⟩ := C0
  have hbA : ¬ (fun q : Nat => s.heap.size ≤ q) b := Nat.not_le.mpr hbl
  have CM : Cw p s m #[Value.ref b] c code 7 RL D (tyM cI) (fun q : Nat => s.heap.size ≤ q) := C.sub [0] rfl
  have CC : Cw p s m #[Value.ref b] c code 7 RL D (tyC cI cG cR) (fun q : Nat => s.heap.size ≤ q) := C.sub [0, 1, 2] rfl
  unfold op_row at h
  refine n_aload_n C 1 rfl dL_law_1124 1125 rfl ?_
  refine n_aload_n C 0 rfl dL_law_1125 1126 rfl ?_
  refine n_iload C 4 rfl dL_law_1126 1128 rfl ?_
  refine n_iconst C 1 rfl dL_law_1128 1129 rfl ?_
  refine n_iadd C dL_law_1129 1130 rfl ?_
  rw [show (nI i + 1 : Int32) = nI (i + 1) from nI_add i 1]
  refine n_sld C hX hbl hbA (vp_in_nI (show i + 1 < LL by omega) (by omega)) dL_law_1130 1131 rfl ?_
  rw [nI_clamp (show i + 1 < 2 ^ 31 by omega)]
  refine n_aload_n C 0 rfl dL_law_1131 1132 rfl ?_
  refine n_iload C 4 rfl dL_law_1132 1134 rfl ?_
  refine n_iconst C 2 rfl dL_law_1134 1135 rfl ?_
  refine n_iadd C dL_law_1135 1136 rfl ?_
  rw [show (nI i + 2 : Int32) = nI (i + 2) from nI_add i 2]
  refine n_sld C hX hbl hbA (vp_in_nI (show i + 2 < LL by omega) (by omega)) dL_law_1136 1137 rfl ?_
  rw [nI_clamp (show i + 2 < 2 ^ 31 by omega)]
  refine n_aload_n C 3 rfl dL_law_1137 1138 rfl ?_
  refine n_callW C hFw hXW (As := [.ref (A1 0), .int (xs (i + 1)), .int (xs (i + 2)), .ref aO]) (wd 23 A2 (ceM A2 cI) T) (wd 32 A1 (ceC A1 n cI cG cR) S ++ [outC aO cL fO]) [] [] (show _ = _ by rw [app_nil3]; rfl) (cnL_row hst hi1 h) b_604 b_43 b_603 b_602 ⟨by decide +kernel, by decide +kernel, (show (parseMethodDescriptor yL_row.desc).map (fun d => d.parameters.length) = some 4 by decide +kernel)⟩ ⟨(Nat.le_of_ble_eq_true rfl), (Nat.le_of_ble_eq_true rfl)⟩ rfl (Nat.le_of_ble_eq_true rfl) (cells + 1) (slots + 6) rfl rfl ⟨by show cells + 1 ≤ 600128; omega, by show slots + 6 ≤ 7301064; omega⟩ dL_law_1138 1141 rfl (fun v w1 h => ?_)
  obtain ⟨r1, S1, ov, f1, rfl, rfl, h, hb⟩ := h
  refine n_ws (w1 := lawW A1 A2 n cI cG cR cL aO S1 T f1) (by rw [app_nil3]; rfl) ?_
  show JW p l e room_1 s m #[Value.ref b] below meth c (cells + 1) (slots + 6) Qf D (fun q : Nat => s.heap.size ≤ q) 7 (lawW A1 A2 n cI cG cR cL aO S1 T f1) 1141 [(0, .ref b), (1, .ref (A1 0)), (2, .ref (A2 0)), (3, .ref aO), (4, .int (nI i))] [.int r1]
  refine n_istore C [(5, .int r1), (0, .ref b), (1, .ref (A1 0)), (2, .ref (A2 0)), (3, .ref aO), (4, .int (nI i))] (Nat.le_of_ble_eq_true rfl) rfl dL_law_1141 1143 rfl ?_
  refine n_aload_n C 3 rfl dL_law_1143 1144 rfl ?_
  refine n_aload_n C 1 rfl dL_law_1144 1145 rfl ?_
  refine n_iload C 5 rfl dL_law_1145 1147 rfl ?_
  refine n_iconst C 1 rfl dL_law_1147 1148 rfl ?_
  refine n_iadd C dL_law_1148 1149 rfl ?_
  rw [show (nI i + 1 : Int32) = nI (i + 1) from nI_add i 1]
  refine n_sld C hX hbl hbA (vp_in_nI (show i + 1 < LL by omega) (by omega)) dL_law_1149 1150 rfl ?_
  rw [nI_clamp (show i + 1 < 2 ^ 31 by omega)]
  refine n_aload_n C 1 rfl dL_law_1150 1151 rfl ?_
  refine n_iload C 5 rfl dL_law_1151 1153 rfl ?_
  refine n_iconst C 2 rfl dL_law_1153 1154 rfl ?_
  refine n_iadd C dL_law_1154 1155 rfl ?_
  rw [show (nI i + 2 : Int32) = nI (i + 2) from nI_add i 2]
  refine n_sld C hX hbl hbA (vp_in_nI (show i + 2 < LL by omega) (by omega)) dL_law_1155 1156 rfl ?_
  rw [nI_clamp (show i + 2 < 2 ^ 31 by omega)]
  refine n_callCt CM hTr trivial hi2 (As := [.int (xs (i + 1)), .int (xs (i + 2))]) 0 [] (wd 32 A1 (ceC A1 n cI cG cR) S1 ++ [outC aO cL f1]) [] rfl (ctX5_row hTr hi2 h) (Nat.le_of_ble_eq_true rfl) (heM_o _) rfl b_993 b_50 b_991 b_992 b_990 ⟨by decide +kernel, by decide +kernel, (show (parseMethodDescriptor yX5_row.desc).map (fun d => d.parameters.length) = some 2 by decide +kernel)⟩ ⟨(Nat.le_of_ble_eq_true rfl), (Nat.le_of_ble_eq_true rfl)⟩ rfl (Nat.le_of_ble_eq_true rfl) ⟨by show _ ≤ 600128; omega, by show _ ≤ 7301064; omega⟩ dL_law_1156 1159 rfl (fun r2 T1 h => ?_)
  show JW p l e room_1 s m #[Value.ref b] below meth c (cells + 1) (slots + 6) Qf D (fun q : Nat => s.heap.size ≤ q) 7 (lawW A1 A2 n cI cG cR cL aO S1 T1 f1) 1159 [(5, .int r1), (0, .ref b), (1, .ref (A1 0)), (2, .ref (A2 0)), (3, .ref aO), (4, .int (nI i))] [.int r2]
  refine n_istore C [(6, .int r2), (5, .int r1), (0, .ref b), (1, .ref (A1 0)), (2, .ref (A2 0)), (3, .ref aO), (4, .int (nI i))] (Nat.le_of_ble_eq_true rfl) rfl dL_law_1159 1161 rfl ?_
  refine n_aload_n C 4 rfl dL_law_1161 1162 rfl ?_
  refine n_callCt CM hTr trivial hi2 (As := []) 0 [] (wd 32 A1 (ceC A1 n cI cG cR) S1 ++ [outC aO cL f1]) [] rfl (ctX5_thrown hTr hi2 h) (Nat.le_of_ble_eq_true rfl) (heM_o _) rfl b_847 b_50 b_845 b_846 b_844 ⟨by decide +kernel, by decide +kernel, (show (parseMethodDescriptor yX5_thrown.desc).map (fun d => d.parameters.length) = some 0 by decide +kernel)⟩ ⟨(Nat.le_of_ble_eq_true rfl), (Nat.le_of_ble_eq_true rfl)⟩ rfl (Nat.le_of_ble_eq_true rfl) ⟨by show _ ≤ 600128; omega, by show _ ≤ 7301064; omega⟩ dL_law_1162 1165 rfl (fun r3 T2 h => ?_)
  obtain ⟨hk, hv, hR⟩ := h
  show JW p l e room_1 s m #[Value.ref b] below meth c (cells + 1) (slots + 6) Qf D (fun q : Nat => s.heap.size ≤ q) 7 (lawW A1 A2 n cI cG cR cL aO S1 T2 f1) 1165 [(6, .int r2), (5, .int r1), (0, .ref b), (1, .ref (A1 0)), (2, .ref (A2 0)), (3, .ref aO), (4, .int (nI i))] [.int r3]
  refine n_iload C 1 rfl dL_law_1165 1167 rfl ?_
  refine n_icmp_eq C 1172 dL_law_1167 1170 rfl rfl (fun _ => ?_) (fun z => absurd hk z)
  refine n_iload C 1 rfl dL_law_1172 1174 rfl ?_
  refine n_if_ne C 1189 dL_law_1174 1177 rfl rfl (fun z0 => ?_) (fun z0 => ?_)
  · have eb : f1 (0 : Int32).toNatClampNeg = r2.toInt64 := hb r2 (hv z0)
    refine n_aload_n C 5 rfl dL_law_1177 1178 rfl ?_
    refine n_iconst C 0 rfl dL_law_1178 1179 rfl ?_
    refine n_lald C 55 3 lawW_out rfl (show vp_in 0 1 by unfold vp_in; decide) dL_law_1179 1180 rfl ?_
    rw [eb]
    refine n_iload C 0 rfl dL_law_1180 1182 rfl ?_
    refine n_i2l C dL_law_1182 1183 rfl ?_
    refine n_lcmp0 C dL_law_1183 1184 rfl ?_
    refine n_if_eq C 1189 dL_law_1184 1187 rfl rfl (fun _ => ?_) (fun z => absurd rfl z)
    refine n_goto C 1421 dL_law_1189 rfl ?_
    refine n_sub [(0, .ref b), (1, .ref (A1 0)), (2, .ref (A2 0)), (3, .ref aO), (4, .int (nI i))] [2, 3, 4, 5, 6] rfl ?_
    refine n_widen (cells + 4) (slots + 24) (by omega) (by omega) ?_
    exact K S1 T2 f1 hR
  · skip
    refine n_goto C 1421 dL_law_1189 rfl ?_
    refine n_sub [(0, .ref b), (1, .ref (A1 0)), (2, .ref (A2 0)), (3, .ref aO), (4, .int (nI i))] [2, 3, 4, 5, 6] rfl ?_
    refine n_widen (cells + 4) (slots + 24) (by omega) (by omega) ?_
    exact K S1 T2 f1 hR
set_option maxRecDepth 100000 in
set_option maxHeartbeats 8000000 in
theorem law_code {p : Program} {l : Launch} {e : Env} {s : State} {m : MethodId} {below : List Frame} {meth : Method} {c : Code} {D : va_G} {A1 A2 : Nat → Nat} {cI cG cR cL : ClassId} {aK aV aO b LL : Nat} {xs : Nat → Int32} {n : Nat → Nat} {Qf : State → Prop} {cells slots : Nat} {S T : Nat → Nat → Int32} {fO : Nat → Int64} {i : Nat} {P : (Nat → Nat → Int32) → (Nat → Nat → Int32) → Prop} (C0 : LawC p l s m c D A1 A2 cI cG cR cL aK aV b LL xs) (hi5 : i + 5 ≤ LL) (hc : cells ≤ 1000) (hs : slots ≤ 100000) (h : op_code n (xs (i + 1)) (xs (i + 2)) (xs (i + 3)) (xs (i + 4)) S T P) (K : ∀ S1 T1 f1, P S1 T1 → JW p l e room_1 s m #[Value.ref b] below meth c (cells + 4) (slots + 24) Qf D (fun q : Nat => s.heap.size ≤ q) 7 (lawW A1 A2 n cI cG cR cL aO S1 T1 f1) 1421 [(0, .ref b), (1, .ref (A1 0)), (2, .ref (A2 0)), (3, .ref aO), (4, .int (nI i))] []) : JW p l e room_1 s m #[Value.ref b] below meth c cells slots Qf D (fun q : Nat => s.heap.size ≤ q) 7 (lawW A1 A2 n cI cG cR cL aO S T fO) 1192 [(0, .ref b), (1, .ref (A1 0)), (2, .ref (A2 0)), (3, .ref aO), (4, .int (nI i))] [] := by
  obtain ⟨C, hXW, hX, hbl, hi1, hi2, hst, hLL⟩ := C0
  have hbA : ¬ (fun q : Nat => s.heap.size ≤ q) b := Nat.not_le.mpr hbl
  have CM : Cw p s m #[Value.ref b] c code 7 RL D (tyM cI) (fun q : Nat => s.heap.size ≤ q) := C.sub [0] rfl
  have CC : Cw p s m #[Value.ref b] c code 7 RL D (tyC cI cG cR) (fun q : Nat => s.heap.size ≤ q) := C.sub [0, 1, 2] rfl
  unfold op_code at h
  refine n_aload_n C 1 rfl dL_law_1192 1193 rfl ?_
  refine n_aload_n C 0 rfl dL_law_1193 1194 rfl ?_
  refine n_iload C 4 rfl dL_law_1194 1196 rfl ?_
  refine n_iconst C 1 rfl dL_law_1196 1197 rfl ?_
  refine n_iadd C dL_law_1197 1198 rfl ?_
  rw [show (nI i + 1 : Int32) = nI (i + 1) from nI_add i 1]
  refine n_sld C hX hbl hbA (vp_in_nI (show i + 1 < LL by omega) (by omega)) dL_law_1198 1199 rfl ?_
  rw [nI_clamp (show i + 1 < 2 ^ 31 by omega)]
  refine n_aload_n C 0 rfl dL_law_1199 1200 rfl ?_
  refine n_iload C 4 rfl dL_law_1200 1202 rfl ?_
  refine n_iconst C 2 rfl dL_law_1202 1203 rfl ?_
  refine n_iadd C dL_law_1203 1204 rfl ?_
  rw [show (nI i + 2 : Int32) = nI (i + 2) from nI_add i 2]
  refine n_sld C hX hbl hbA (vp_in_nI (show i + 2 < LL by omega) (by omega)) dL_law_1204 1205 rfl ?_
  rw [nI_clamp (show i + 2 < 2 ^ 31 by omega)]
  refine n_aload_n C 0 rfl dL_law_1205 1206 rfl ?_
  refine n_iload C 4 rfl dL_law_1206 1208 rfl ?_
  refine n_iconst C 3 rfl dL_law_1208 1209 rfl ?_
  refine n_iadd C dL_law_1209 1210 rfl ?_
  rw [show (nI i + 3 : Int32) = nI (i + 3) from nI_add i 3]
  refine n_sld C hX hbl hbA (vp_in_nI (show i + 3 < LL by omega) (by omega)) dL_law_1210 1211 rfl ?_
  rw [nI_clamp (show i + 3 < 2 ^ 31 by omega)]
  refine n_aload_n C 0 rfl dL_law_1211 1212 rfl ?_
  refine n_iload C 4 rfl dL_law_1212 1214 rfl ?_
  refine n_iconst C 4 rfl dL_law_1214 1215 rfl ?_
  refine n_iadd C dL_law_1215 1216 rfl ?_
  rw [show (nI i + 4 : Int32) = nI (i + 4) from nI_add i 4]
  refine n_sld C hX hbl hbA (vp_in_nI (show i + 4 < LL by omega) (by omega)) dL_law_1216 1217 rfl ?_
  rw [nI_clamp (show i + 4 < 2 ^ 31 by omega)]
  refine n_aload_n C 3 rfl dL_law_1217 1218 rfl ?_
  refine n_callW C hFw hXW (As := [.ref (A1 0), .int (xs (i + 1)), .int (xs (i + 2)), .int (xs (i + 3)), .int (xs (i + 4)), .ref aO]) (wd 23 A2 (ceM A2 cI) T) (wd 32 A1 (ceC A1 n cI cG cR) S ++ [outC aO cL fO]) [] [] (show _ = _ by rw [app_nil3]; rfl) (cnL_code hst hi1 h) b_615 b_43 b_614 b_613 ⟨by decide +kernel, by decide +kernel, (show (parseMethodDescriptor yL_code.desc).map (fun d => d.parameters.length) = some 6 by decide +kernel)⟩ ⟨(Nat.le_of_ble_eq_true rfl), (Nat.le_of_ble_eq_true rfl)⟩ rfl (Nat.le_of_ble_eq_true rfl) (cells + 1) (slots + 6) rfl rfl ⟨by show cells + 1 ≤ 600128; omega, by show slots + 6 ≤ 7301064; omega⟩ dL_law_1218 1221 rfl (fun v w1 h => ?_)
  obtain ⟨r1, S1, ov, f1, rfl, rfl, h, hb⟩ := h
  refine n_ws (w1 := lawW A1 A2 n cI cG cR cL aO S1 T f1) (by rw [app_nil3]; rfl) ?_
  show JW p l e room_1 s m #[Value.ref b] below meth c (cells + 1) (slots + 6) Qf D (fun q : Nat => s.heap.size ≤ q) 7 (lawW A1 A2 n cI cG cR cL aO S1 T f1) 1221 [(0, .ref b), (1, .ref (A1 0)), (2, .ref (A2 0)), (3, .ref aO), (4, .int (nI i))] [.int r1]
  refine n_istore C [(5, .int r1), (0, .ref b), (1, .ref (A1 0)), (2, .ref (A2 0)), (3, .ref aO), (4, .int (nI i))] (Nat.le_of_ble_eq_true rfl) rfl dL_law_1221 1223 rfl ?_
  refine n_aload_n C 3 rfl dL_law_1223 1224 rfl ?_
  refine n_aload_n C 1 rfl dL_law_1224 1225 rfl ?_
  refine n_iload C 5 rfl dL_law_1225 1227 rfl ?_
  refine n_iconst C 1 rfl dL_law_1227 1228 rfl ?_
  refine n_iadd C dL_law_1228 1229 rfl ?_
  rw [show (nI i + 1 : Int32) = nI (i + 1) from nI_add i 1]
  refine n_sld C hX hbl hbA (vp_in_nI (show i + 1 < LL by omega) (by omega)) dL_law_1229 1230 rfl ?_
  rw [nI_clamp (show i + 1 < 2 ^ 31 by omega)]
  refine n_aload_n C 1 rfl dL_law_1230 1231 rfl ?_
  refine n_iload C 5 rfl dL_law_1231 1233 rfl ?_
  refine n_iconst C 2 rfl dL_law_1233 1234 rfl ?_
  refine n_iadd C dL_law_1234 1235 rfl ?_
  rw [show (nI i + 2 : Int32) = nI (i + 2) from nI_add i 2]
  refine n_sld C hX hbl hbA (vp_in_nI (show i + 2 < LL by omega) (by omega)) dL_law_1235 1236 rfl ?_
  rw [nI_clamp (show i + 2 < 2 ^ 31 by omega)]
  refine n_aload_n C 1 rfl dL_law_1236 1237 rfl ?_
  refine n_iload C 5 rfl dL_law_1237 1239 rfl ?_
  refine n_iconst C 3 rfl dL_law_1239 1240 rfl ?_
  refine n_iadd C dL_law_1240 1241 rfl ?_
  rw [show (nI i + 3 : Int32) = nI (i + 3) from nI_add i 3]
  refine n_sld C hX hbl hbA (vp_in_nI (show i + 3 < LL by omega) (by omega)) dL_law_1241 1242 rfl ?_
  rw [nI_clamp (show i + 3 < 2 ^ 31 by omega)]
  refine n_aload_n C 1 rfl dL_law_1242 1243 rfl ?_
  refine n_iload C 5 rfl dL_law_1243 1245 rfl ?_
  refine n_iconst C 4 rfl dL_law_1245 1246 rfl ?_
  refine n_iadd C dL_law_1246 1247 rfl ?_
  rw [show (nI i + 4 : Int32) = nI (i + 4) from nI_add i 4]
  refine n_sld C hX hbl hbA (vp_in_nI (show i + 4 < LL by omega) (by omega)) dL_law_1247 1248 rfl ?_
  rw [nI_clamp (show i + 4 < 2 ^ 31 by omega)]
  refine n_callCt CM hTr trivial hi2 (As := [.int (xs (i + 1)), .int (xs (i + 2)), .int (xs (i + 3)), .int (xs (i + 4))]) 0 [] (wd 32 A1 (ceC A1 n cI cG cR) S1 ++ [outC aO cL f1]) [] rfl (ctX5_code hTr hi2 h) (Nat.le_of_ble_eq_true rfl) (heM_o _) rfl b_1001 b_50 b_999 b_1000 b_998 ⟨by decide +kernel, by decide +kernel, (show (parseMethodDescriptor yX5_code.desc).map (fun d => d.parameters.length) = some 4 by decide +kernel)⟩ ⟨(Nat.le_of_ble_eq_true rfl), (Nat.le_of_ble_eq_true rfl)⟩ rfl (Nat.le_of_ble_eq_true rfl) ⟨by show _ ≤ 600128; omega, by show _ ≤ 7301064; omega⟩ dL_law_1248 1251 rfl (fun r2 T1 h => ?_)
  show JW p l e room_1 s m #[Value.ref b] below meth c (cells + 1) (slots + 6) Qf D (fun q : Nat => s.heap.size ≤ q) 7 (lawW A1 A2 n cI cG cR cL aO S1 T1 f1) 1251 [(5, .int r1), (0, .ref b), (1, .ref (A1 0)), (2, .ref (A2 0)), (3, .ref aO), (4, .int (nI i))] [.int r2]
  refine n_istore C [(6, .int r2), (5, .int r1), (0, .ref b), (1, .ref (A1 0)), (2, .ref (A2 0)), (3, .ref aO), (4, .int (nI i))] (Nat.le_of_ble_eq_true rfl) rfl dL_law_1251 1253 rfl ?_
  refine n_aload_n C 4 rfl dL_law_1253 1254 rfl ?_
  refine n_callCt CM hTr trivial hi2 (As := []) 0 [] (wd 32 A1 (ceC A1 n cI cG cR) S1 ++ [outC aO cL f1]) [] rfl (ctX5_thrown hTr hi2 h) (Nat.le_of_ble_eq_true rfl) (heM_o _) rfl b_847 b_50 b_845 b_846 b_844 ⟨by decide +kernel, by decide +kernel, (show (parseMethodDescriptor yX5_thrown.desc).map (fun d => d.parameters.length) = some 0 by decide +kernel)⟩ ⟨(Nat.le_of_ble_eq_true rfl), (Nat.le_of_ble_eq_true rfl)⟩ rfl (Nat.le_of_ble_eq_true rfl) ⟨by show _ ≤ 600128; omega, by show _ ≤ 7301064; omega⟩ dL_law_1254 1257 rfl (fun r3 T2 h => ?_)
  obtain ⟨hk, hv, hR⟩ := h
  show JW p l e room_1 s m #[Value.ref b] below meth c (cells + 1) (slots + 6) Qf D (fun q : Nat => s.heap.size ≤ q) 7 (lawW A1 A2 n cI cG cR cL aO S1 T2 f1) 1257 [(6, .int r2), (5, .int r1), (0, .ref b), (1, .ref (A1 0)), (2, .ref (A2 0)), (3, .ref aO), (4, .int (nI i))] [.int r3]
  refine n_iload C 1 rfl dL_law_1257 1259 rfl ?_
  refine n_icmp_eq C 1264 dL_law_1259 1262 rfl rfl (fun _ => ?_) (fun z => absurd hk z)
  refine n_iload C 1 rfl dL_law_1264 1266 rfl ?_
  refine n_if_ne C 1281 dL_law_1266 1269 rfl rfl (fun z0 => ?_) (fun z0 => ?_)
  · have eb : f1 (0 : Int32).toNatClampNeg = r2.toInt64 := hb r2 (hv z0)
    refine n_aload_n C 5 rfl dL_law_1269 1270 rfl ?_
    refine n_iconst C 0 rfl dL_law_1270 1271 rfl ?_
    refine n_lald C 55 3 lawW_out rfl (show vp_in 0 1 by unfold vp_in; decide) dL_law_1271 1272 rfl ?_
    rw [eb]
    refine n_iload C 0 rfl dL_law_1272 1274 rfl ?_
    refine n_i2l C dL_law_1274 1275 rfl ?_
    refine n_lcmp0 C dL_law_1275 1276 rfl ?_
    refine n_if_eq C 1281 dL_law_1276 1279 rfl rfl (fun _ => ?_) (fun z => absurd rfl z)
    refine n_goto C 1421 dL_law_1281 rfl ?_
    refine n_sub [(0, .ref b), (1, .ref (A1 0)), (2, .ref (A2 0)), (3, .ref aO), (4, .int (nI i))] [2, 3, 4, 5, 6] rfl ?_
    refine n_widen (cells + 4) (slots + 24) (by omega) (by omega) ?_
    exact K S1 T2 f1 hR
  · skip
    refine n_goto C 1421 dL_law_1281 rfl ?_
    refine n_sub [(0, .ref b), (1, .ref (A1 0)), (2, .ref (A2 0)), (3, .ref aO), (4, .int (nI i))] [2, 3, 4, 5, 6] rfl ?_
    refine n_widen (cells + 4) (slots + 24) (by omega) (by omega) ?_
    exact K S1 T2 f1 hR
set_option maxRecDepth 100000 in
set_option maxHeartbeats 8000000 in
theorem law_scrap {p : Program} {l : Launch} {e : Env} {s : State} {m : MethodId} {below : List Frame} {meth : Method} {c : Code} {D : va_G} {A1 A2 : Nat → Nat} {cI cG cR cL : ClassId} {aK aV aO b LL : Nat} {xs : Nat → Int32} {n : Nat → Nat} {Qf : State → Prop} {cells slots : Nat} {S T : Nat → Nat → Int32} {fO : Nat → Int64} {i : Nat} {P : (Nat → Nat → Int32) → (Nat → Nat → Int32) → Prop} (C0 : LawC p l s m c D A1 A2 cI cG cR cL aK aV b LL xs) (hi5 : i + 5 ≤ LL) (hc : cells ≤ 1000) (hs : slots ≤ 100000) (h : op_scrap n  S T P) (K : ∀ S1 T1 f1, P S1 T1 → JW p l e room_1 s m #[Value.ref b] below meth c (cells + 4) (slots + 24) Qf D (fun q : Nat => s.heap.size ≤ q) 7 (lawW A1 A2 n cI cG cR cL aO S1 T1 f1) 1421 [(0, .ref b), (1, .ref (A1 0)), (2, .ref (A2 0)), (3, .ref aO), (4, .int (nI i))] []) : JW p l e room_1 s m #[Value.ref b] below meth c cells slots Qf D (fun q : Nat => s.heap.size ≤ q) 7 (lawW A1 A2 n cI cG cR cL aO S T fO) 1284 [(0, .ref b), (1, .ref (A1 0)), (2, .ref (A2 0)), (3, .ref aO), (4, .int (nI i))] [] := by
  obtain ⟨C, hXW, hX, hbl, hi1, hi2, hst, hLL⟩ := C0
  have hbA : ¬ (fun q : Nat => s.heap.size ≤ q) b := Nat.not_le.mpr hbl
  have CM : Cw p s m #[Value.ref b] c code 7 RL D (tyM cI) (fun q : Nat => s.heap.size ≤ q) := C.sub [0] rfl
  have CC : Cw p s m #[Value.ref b] c code 7 RL D (tyC cI cG cR) (fun q : Nat => s.heap.size ≤ q) := C.sub [0, 1, 2] rfl
  unfold op_scrap at h
  refine n_aload_n C 1 rfl dL_law_1284 1285 rfl ?_
  refine n_callCt CC hFx hXW.1 hi1 (As := []) 0 (wd 23 A2 (ceM A2 cI) T) [outC aO cL fO] [] rfl (ctX4_scrap hi1 h) (Nat.le_of_ble_eq_true rfl) (heC_4 _) rfl b_241 b_44 b_239 b_240 b_238 ⟨by decide +kernel, by decide +kernel, (show (parseMethodDescriptor yX4_scrap.desc).map (fun d => d.parameters.length) = some 0 by decide +kernel)⟩ ⟨(Nat.le_of_ble_eq_true rfl), (Nat.le_of_ble_eq_true rfl)⟩ rfl (Nat.le_of_ble_eq_true rfl) ⟨by show _ ≤ 600128; omega, by show _ ≤ 7301064; omega⟩ dL_law_1285 1288 rfl (fun r1 S1 h => ?_)
  show JW p l e room_1 s m #[Value.ref b] below meth c cells slots Qf D (fun q : Nat => s.heap.size ≤ q) 7 (lawW A1 A2 n cI cG cR cL aO S1 T fO) 1288 [(0, .ref b), (1, .ref (A1 0)), (2, .ref (A2 0)), (3, .ref aO), (4, .int (nI i))] [.int r1]
  refine n_aload_n C 2 rfl dL_law_1288 1289 rfl ?_
  refine n_callCt CM hTr trivial hi2 (As := []) 0 [] (wd 32 A1 (ceC A1 n cI cG cR) S1 ++ [outC aO cL fO]) [.int r1] rfl (ctX5_scrap hTr hi2 h) (Nat.le_of_ble_eq_true rfl) (heM_o _) rfl b_1005 b_50 b_1003 b_1004 b_1002 ⟨by decide +kernel, by decide +kernel, (show (parseMethodDescriptor yX5_scrap.desc).map (fun d => d.parameters.length) = some 0 by decide +kernel)⟩ ⟨(Nat.le_of_ble_eq_true rfl), (Nat.le_of_ble_eq_true rfl)⟩ rfl (Nat.le_of_ble_eq_true rfl) ⟨by show _ ≤ 600128; omega, by show _ ≤ 7301064; omega⟩ dL_law_1289 1292 rfl (fun r2 T1 h => ?_)
  obtain ⟨hk, hR⟩ := h
  show JW p l e room_1 s m #[Value.ref b] below meth c cells slots Qf D (fun q : Nat => s.heap.size ≤ q) 7 (lawW A1 A2 n cI cG cR cL aO S1 T1 fO) 1292 [(0, .ref b), (1, .ref (A1 0)), (2, .ref (A2 0)), (3, .ref aO), (4, .int (nI i))] [.int r2, .int r1]
  refine n_icmp_eq C 1421 dL_law_1292 1295 rfl rfl (fun _ => ?_) (fun z => absurd hk z)
  refine n_sub [(0, .ref b), (1, .ref (A1 0)), (2, .ref (A2 0)), (3, .ref aO), (4, .int (nI i))] [0, 1, 2, 3, 4] rfl ?_
  refine n_widen (cells + 4) (slots + 24) (by omega) (by omega) ?_
  exact K S1 T1 fO hR
set_option maxRecDepth 100000 in
set_option maxHeartbeats 8000000 in
theorem law_run {p : Program} {l : Launch} {e : Env} {s : State} {m : MethodId} {below : List Frame} {meth : Method} {c : Code} {D : va_G} {A1 A2 : Nat → Nat} {cI cG cR cL : ClassId} {aK aV aO b LL : Nat} {xs : Nat → Int32} {n : Nat → Nat} {Qf : State → Prop} {cells slots : Nat} {S T : Nat → Nat → Int32} {fO : Nat → Int64} {i : Nat} {P : (Nat → Nat → Int32) → (Nat → Nat → Int32) → Prop} (C0 : LawC p l s m c D A1 A2 cI cG cR cL aK aV b LL xs) (hi5 : i + 5 ≤ LL) (hc : cells ≤ 1000) (hs : slots ≤ 100000) (h : op_run n (xs (i + 1)) (xs (i + 2)) S T P) (K : ∀ S1 T1 f1, P S1 T1 → JW p l e room_1 s m #[Value.ref b] below meth c (cells + 4) (slots + 24) Qf D (fun q : Nat => s.heap.size ≤ q) 7 (lawW A1 A2 n cI cG cR cL aO S1 T1 f1) 1421 [(0, .ref b), (1, .ref (A1 0)), (2, .ref (A2 0)), (3, .ref aO), (4, .int (nI i))] []) : JW p l e room_1 s m #[Value.ref b] below meth c cells slots Qf D (fun q : Nat => s.heap.size ≤ q) 7 (lawW A1 A2 n cI cG cR cL aO S T fO) 1297 [(0, .ref b), (1, .ref (A1 0)), (2, .ref (A2 0)), (3, .ref aO), (4, .int (nI i))] [] := by
  obtain ⟨C, hXW, hX, hbl, hi1, hi2, hst, hLL⟩ := C0
  have hbA : ¬ (fun q : Nat => s.heap.size ≤ q) b := Nat.not_le.mpr hbl
  have CM : Cw p s m #[Value.ref b] c code 7 RL D (tyM cI) (fun q : Nat => s.heap.size ≤ q) := C.sub [0] rfl
  have CC : Cw p s m #[Value.ref b] c code 7 RL D (tyC cI cG cR) (fun q : Nat => s.heap.size ≤ q) := C.sub [0, 1, 2] rfl
  unfold op_run at h
  refine n_aload_n C 1 rfl dL_law_1297 1298 rfl ?_
  refine n_aload_n C 0 rfl dL_law_1298 1299 rfl ?_
  refine n_iload C 4 rfl dL_law_1299 1301 rfl ?_
  refine n_iconst C 1 rfl dL_law_1301 1302 rfl ?_
  refine n_iadd C dL_law_1302 1303 rfl ?_
  rw [show (nI i + 1 : Int32) = nI (i + 1) from nI_add i 1]
  refine n_sld C hX hbl hbA (vp_in_nI (show i + 1 < LL by omega) (by omega)) dL_law_1303 1304 rfl ?_
  rw [nI_clamp (show i + 1 < 2 ^ 31 by omega)]
  refine n_aload_n C 0 rfl dL_law_1304 1305 rfl ?_
  refine n_iload C 4 rfl dL_law_1305 1307 rfl ?_
  refine n_iconst C 2 rfl dL_law_1307 1308 rfl ?_
  refine n_iadd C dL_law_1308 1309 rfl ?_
  rw [show (nI i + 2 : Int32) = nI (i + 2) from nI_add i 2]
  refine n_sld C hX hbl hbA (vp_in_nI (show i + 2 < LL by omega) (by omega)) dL_law_1309 1310 rfl ?_
  rw [nI_clamp (show i + 2 < 2 ^ 31 by omega)]
  refine n_aload_n C 3 rfl dL_law_1310 1311 rfl ?_
  refine n_callW C hFw hXW (As := [.ref (A1 0), .int (xs (i + 1)), .int (xs (i + 2)), .ref aO]) (wd 23 A2 (ceM A2 cI) T) (wd 32 A1 (ceC A1 n cI cG cR) S ++ [outC aO cL fO]) [] [] (show _ = _ by rw [app_nil3]; rfl) (cnL_run hst hi1 h) b_626 b_43 b_625 b_624 ⟨by decide +kernel, by decide +kernel, (show (parseMethodDescriptor yL_run.desc).map (fun d => d.parameters.length) = some 4 by decide +kernel)⟩ ⟨(Nat.le_of_ble_eq_true rfl), (Nat.le_of_ble_eq_true rfl)⟩ rfl (Nat.le_of_ble_eq_true rfl) (cells + 2) (slots + 12) rfl rfl ⟨by show cells + 2 ≤ 600128; omega, by show slots + 12 ≤ 7301064; omega⟩ dL_law_1311 1314 rfl (fun v w1 h => ?_)
  obtain ⟨r1, S1, ov, f1, rfl, rfl, h, hb⟩ := h
  refine n_ws (w1 := lawW A1 A2 n cI cG cR cL aO S1 T f1) (by rw [app_nil3]; rfl) ?_
  show JW p l e room_1 s m #[Value.ref b] below meth c (cells + 2) (slots + 12) Qf D (fun q : Nat => s.heap.size ≤ q) 7 (lawW A1 A2 n cI cG cR cL aO S1 T f1) 1314 [(0, .ref b), (1, .ref (A1 0)), (2, .ref (A2 0)), (3, .ref aO), (4, .int (nI i))] [.int r1]
  refine n_istore C [(5, .int r1), (0, .ref b), (1, .ref (A1 0)), (2, .ref (A2 0)), (3, .ref aO), (4, .int (nI i))] (Nat.le_of_ble_eq_true rfl) rfl dL_law_1314 1316 rfl ?_
  refine n_aload_n C 3 rfl dL_law_1316 1317 rfl ?_
  refine n_aload_n C 1 rfl dL_law_1317 1318 rfl ?_
  refine n_iload C 5 rfl dL_law_1318 1320 rfl ?_
  refine n_iconst C 1 rfl dL_law_1320 1321 rfl ?_
  refine n_iadd C dL_law_1321 1322 rfl ?_
  rw [show (nI i + 1 : Int32) = nI (i + 1) from nI_add i 1]
  refine n_sld C hX hbl hbA (vp_in_nI (show i + 1 < LL by omega) (by omega)) dL_law_1322 1323 rfl ?_
  rw [nI_clamp (show i + 1 < 2 ^ 31 by omega)]
  refine n_aload_n C 1 rfl dL_law_1323 1324 rfl ?_
  refine n_iload C 5 rfl dL_law_1324 1326 rfl ?_
  refine n_iconst C 2 rfl dL_law_1326 1327 rfl ?_
  refine n_iadd C dL_law_1327 1328 rfl ?_
  rw [show (nI i + 2 : Int32) = nI (i + 2) from nI_add i 2]
  refine n_sld C hX hbl hbA (vp_in_nI (show i + 2 < LL by omega) (by omega)) dL_law_1328 1329 rfl ?_
  rw [nI_clamp (show i + 2 < 2 ^ 31 by omega)]
  refine n_callCt CM hTr trivial hi2 (As := [.int (xs (i + 1)), .int (xs (i + 2))]) 0 [] (wd 32 A1 (ceC A1 n cI cG cR) S1 ++ [outC aO cL f1]) [] rfl (ctX5_run hTr hi2 h) (Nat.le_of_ble_eq_true rfl) (heM_o _) rfl b_1009 b_50 b_1007 b_1008 b_1006 ⟨by decide +kernel, by decide +kernel, (show (parseMethodDescriptor yX5_run.desc).map (fun d => d.parameters.length) = some 2 by decide +kernel)⟩ ⟨(Nat.le_of_ble_eq_true rfl), (Nat.le_of_ble_eq_true rfl)⟩ rfl (Nat.le_of_ble_eq_true rfl) ⟨by show _ ≤ 600128; omega, by show _ ≤ 7301064; omega⟩ dL_law_1329 1332 rfl (fun r2 T1 h => ?_)
  show JW p l e room_1 s m #[Value.ref b] below meth c (cells + 2) (slots + 12) Qf D (fun q : Nat => s.heap.size ≤ q) 7 (lawW A1 A2 n cI cG cR cL aO S1 T1 f1) 1332 [(5, .int r1), (0, .ref b), (1, .ref (A1 0)), (2, .ref (A2 0)), (3, .ref aO), (4, .int (nI i))] [.int r2]
  refine n_istore C [(6, .int r2), (5, .int r1), (0, .ref b), (1, .ref (A1 0)), (2, .ref (A2 0)), (3, .ref aO), (4, .int (nI i))] (Nat.le_of_ble_eq_true rfl) rfl dL_law_1332 1334 rfl ?_
  refine n_aload_n C 4 rfl dL_law_1334 1335 rfl ?_
  refine n_callCt CM hTr trivial hi2 (As := []) 0 [] (wd 32 A1 (ceC A1 n cI cG cR) S1 ++ [outC aO cL f1]) [] rfl (ctX5_thrown hTr hi2 h) (Nat.le_of_ble_eq_true rfl) (heM_o _) rfl b_847 b_50 b_845 b_846 b_844 ⟨by decide +kernel, by decide +kernel, (show (parseMethodDescriptor yX5_thrown.desc).map (fun d => d.parameters.length) = some 0 by decide +kernel)⟩ ⟨(Nat.le_of_ble_eq_true rfl), (Nat.le_of_ble_eq_true rfl)⟩ rfl (Nat.le_of_ble_eq_true rfl) ⟨by show _ ≤ 600128; omega, by show _ ≤ 7301064; omega⟩ dL_law_1335 1338 rfl (fun r3 T2 h => ?_)
  obtain ⟨hk, hv, hR⟩ := h
  show JW p l e room_1 s m #[Value.ref b] below meth c (cells + 2) (slots + 12) Qf D (fun q : Nat => s.heap.size ≤ q) 7 (lawW A1 A2 n cI cG cR cL aO S1 T2 f1) 1338 [(6, .int r2), (5, .int r1), (0, .ref b), (1, .ref (A1 0)), (2, .ref (A2 0)), (3, .ref aO), (4, .int (nI i))] [.int r3]
  refine n_iload C 1 rfl dL_law_1338 1340 rfl ?_
  refine n_icmp_eq C 1345 dL_law_1340 1343 rfl rfl (fun _ => ?_) (fun z => absurd hk z)
  refine n_iload C 1 rfl dL_law_1345 1347 rfl ?_
  refine n_if_ne C 1362 dL_law_1347 1350 rfl rfl (fun z0 => ?_) (fun z0 => ?_)
  · have eb : f1 (0 : Int32).toNatClampNeg = r2.toInt64 := hb r2 (hv z0)
    refine n_aload_n C 5 rfl dL_law_1350 1351 rfl ?_
    refine n_iconst C 0 rfl dL_law_1351 1352 rfl ?_
    refine n_lald C 55 3 lawW_out rfl (show vp_in 0 1 by unfold vp_in; decide) dL_law_1352 1353 rfl ?_
    rw [eb]
    refine n_iload C 0 rfl dL_law_1353 1355 rfl ?_
    refine n_i2l C dL_law_1355 1356 rfl ?_
    refine n_lcmp0 C dL_law_1356 1357 rfl ?_
    refine n_if_eq C 1362 dL_law_1357 1360 rfl rfl (fun _ => ?_) (fun z => absurd rfl z)
    refine n_goto C 1421 dL_law_1362 rfl ?_
    refine n_sub [(0, .ref b), (1, .ref (A1 0)), (2, .ref (A2 0)), (3, .ref aO), (4, .int (nI i))] [2, 3, 4, 5, 6] rfl ?_
    refine n_widen (cells + 4) (slots + 24) (by omega) (by omega) ?_
    exact K S1 T2 f1 hR
  · skip
    refine n_goto C 1421 dL_law_1362 rfl ?_
    refine n_sub [(0, .ref b), (1, .ref (A1 0)), (2, .ref (A2 0)), (3, .ref aO), (4, .int (nI i))] [2, 3, 4, 5, 6] rfl ?_
    refine n_widen (cells + 4) (slots + 24) (by omega) (by omega) ?_
    exact K S1 T2 f1 hR
set_option maxRecDepth 100000 in
set_option maxHeartbeats 8000000 in
theorem law_count {p : Program} {l : Launch} {e : Env} {s : State} {m : MethodId} {below : List Frame} {meth : Method} {c : Code} {D : va_G} {A1 A2 : Nat → Nat} {cI cG cR cL : ClassId} {aK aV aO b LL : Nat} {xs : Nat → Int32} {n : Nat → Nat} {Qf : State → Prop} {cells slots : Nat} {S T : Nat → Nat → Int32} {fO : Nat → Int64} {i : Nat} {P : (Nat → Nat → Int32) → (Nat → Nat → Int32) → Prop} (C0 : LawC p l s m c D A1 A2 cI cG cR cL aK aV b LL xs) (hi5 : i + 5 ≤ LL) (hc : cells ≤ 1000) (hs : slots ≤ 100000) (h : op_count n (xs (i + 1)) S T P) (K : ∀ S1 T1 f1, P S1 T1 → JW p l e room_1 s m #[Value.ref b] below meth c (cells + 4) (slots + 24) Qf D (fun q : Nat => s.heap.size ≤ q) 7 (lawW A1 A2 n cI cG cR cL aO S1 T1 f1) 1421 [(0, .ref b), (1, .ref (A1 0)), (2, .ref (A2 0)), (3, .ref aO), (4, .int (nI i))] []) : JW p l e room_1 s m #[Value.ref b] below meth c cells slots Qf D (fun q : Nat => s.heap.size ≤ q) 7 (lawW A1 A2 n cI cG cR cL aO S T fO) 1365 [(0, .ref b), (1, .ref (A1 0)), (2, .ref (A2 0)), (3, .ref aO), (4, .int (nI i))] [] := by
  obtain ⟨C, hXW, hX, hbl, hi1, hi2, hst, hLL⟩ := C0
  have hbA : ¬ (fun q : Nat => s.heap.size ≤ q) b := Nat.not_le.mpr hbl
  have CM : Cw p s m #[Value.ref b] c code 7 RL D (tyM cI) (fun q : Nat => s.heap.size ≤ q) := C.sub [0] rfl
  have CC : Cw p s m #[Value.ref b] c code 7 RL D (tyC cI cG cR) (fun q : Nat => s.heap.size ≤ q) := C.sub [0, 1, 2] rfl
  unfold op_count at h
  refine n_aload_n C 1 rfl dL_law_1365 1366 rfl ?_
  refine n_aload_n C 0 rfl dL_law_1366 1367 rfl ?_
  refine n_iload C 4 rfl dL_law_1367 1369 rfl ?_
  refine n_iconst C 1 rfl dL_law_1369 1370 rfl ?_
  refine n_iadd C dL_law_1370 1371 rfl ?_
  rw [show (nI i + 1 : Int32) = nI (i + 1) from nI_add i 1]
  refine n_sld C hX hbl hbA (vp_in_nI (show i + 1 < LL by omega) (by omega)) dL_law_1371 1372 rfl ?_
  rw [nI_clamp (show i + 1 < 2 ^ 31 by omega)]
  refine n_aload_n C 3 rfl dL_law_1372 1373 rfl ?_
  refine n_callW C hFw hXW (As := [.ref (A1 0), .int (xs (i + 1)), .ref aO]) (wd 23 A2 (ceM A2 cI) T) (wd 32 A1 (ceC A1 n cI cG cR) S ++ [outC aO cL fO]) [] [] (show _ = _ by rw [app_nil3]; rfl) (cnL_count hst hi1 h) b_713 b_43 b_712 b_711 ⟨by decide +kernel, by decide +kernel, (show (parseMethodDescriptor yL_count.desc).map (fun d => d.parameters.length) = some 3 by decide +kernel)⟩ ⟨(Nat.le_of_ble_eq_true rfl), (Nat.le_of_ble_eq_true rfl)⟩ rfl (Nat.le_of_ble_eq_true rfl) (cells + 1) (slots + 6) rfl rfl ⟨by show cells + 1 ≤ 600128; omega, by show slots + 6 ≤ 7301064; omega⟩ dL_law_1373 1376 rfl (fun v w1 h => ?_)
  obtain ⟨r1, S1, ov, f1, rfl, rfl, h, hb⟩ := h
  refine n_ws (w1 := lawW A1 A2 n cI cG cR cL aO S1 T f1) (by rw [app_nil3]; rfl) ?_
  show JW p l e room_1 s m #[Value.ref b] below meth c (cells + 1) (slots + 6) Qf D (fun q : Nat => s.heap.size ≤ q) 7 (lawW A1 A2 n cI cG cR cL aO S1 T f1) 1376 [(0, .ref b), (1, .ref (A1 0)), (2, .ref (A2 0)), (3, .ref aO), (4, .int (nI i))] [.int r1]
  refine n_istore C [(5, .int r1), (0, .ref b), (1, .ref (A1 0)), (2, .ref (A2 0)), (3, .ref aO), (4, .int (nI i))] (Nat.le_of_ble_eq_true rfl) rfl dL_law_1376 1378 rfl ?_
  refine n_aload_n C 3 rfl dL_law_1378 1379 rfl ?_
  refine n_aload_n C 1 rfl dL_law_1379 1380 rfl ?_
  refine n_iload C 5 rfl dL_law_1380 1382 rfl ?_
  refine n_iconst C 1 rfl dL_law_1382 1383 rfl ?_
  refine n_iadd C dL_law_1383 1384 rfl ?_
  rw [show (nI i + 1 : Int32) = nI (i + 1) from nI_add i 1]
  refine n_sld C hX hbl hbA (vp_in_nI (show i + 1 < LL by omega) (by omega)) dL_law_1384 1385 rfl ?_
  rw [nI_clamp (show i + 1 < 2 ^ 31 by omega)]
  refine n_callCt CM hTr trivial hi2 (As := [.int (xs (i + 1))]) 0 [] (wd 32 A1 (ceC A1 n cI cG cR) S1 ++ [outC aO cL f1]) [] rfl (ctX5_count hTr hi2 h) (Nat.le_of_ble_eq_true rfl) (heM_o _) rfl b_1035 b_50 b_1033 b_1034 b_1032 ⟨by decide +kernel, by decide +kernel, (show (parseMethodDescriptor yX5_count.desc).map (fun d => d.parameters.length) = some 1 by decide +kernel)⟩ ⟨(Nat.le_of_ble_eq_true rfl), (Nat.le_of_ble_eq_true rfl)⟩ rfl (Nat.le_of_ble_eq_true rfl) ⟨by show _ ≤ 600128; omega, by show _ ≤ 7301064; omega⟩ dL_law_1385 1388 rfl (fun r2 T1 h => ?_)
  show JW p l e room_1 s m #[Value.ref b] below meth c (cells + 1) (slots + 6) Qf D (fun q : Nat => s.heap.size ≤ q) 7 (lawW A1 A2 n cI cG cR cL aO S1 T1 f1) 1388 [(5, .int r1), (0, .ref b), (1, .ref (A1 0)), (2, .ref (A2 0)), (3, .ref aO), (4, .int (nI i))] [.int r2]
  refine n_istore C [(6, .int r2), (5, .int r1), (0, .ref b), (1, .ref (A1 0)), (2, .ref (A2 0)), (3, .ref aO), (4, .int (nI i))] (Nat.le_of_ble_eq_true rfl) rfl dL_law_1388 1390 rfl ?_
  refine n_aload_n C 4 rfl dL_law_1390 1391 rfl ?_
  refine n_callCt CM hTr trivial hi2 (As := []) 0 [] (wd 32 A1 (ceC A1 n cI cG cR) S1 ++ [outC aO cL f1]) [] rfl (ctX5_thrown hTr hi2 h) (Nat.le_of_ble_eq_true rfl) (heM_o _) rfl b_847 b_50 b_845 b_846 b_844 ⟨by decide +kernel, by decide +kernel, (show (parseMethodDescriptor yX5_thrown.desc).map (fun d => d.parameters.length) = some 0 by decide +kernel)⟩ ⟨(Nat.le_of_ble_eq_true rfl), (Nat.le_of_ble_eq_true rfl)⟩ rfl (Nat.le_of_ble_eq_true rfl) ⟨by show _ ≤ 600128; omega, by show _ ≤ 7301064; omega⟩ dL_law_1391 1394 rfl (fun r3 T2 h => ?_)
  obtain ⟨hk, hv, hR⟩ := h
  show JW p l e room_1 s m #[Value.ref b] below meth c (cells + 1) (slots + 6) Qf D (fun q : Nat => s.heap.size ≤ q) 7 (lawW A1 A2 n cI cG cR cL aO S1 T2 f1) 1394 [(6, .int r2), (5, .int r1), (0, .ref b), (1, .ref (A1 0)), (2, .ref (A2 0)), (3, .ref aO), (4, .int (nI i))] [.int r3]
  refine n_iload C 1 rfl dL_law_1394 1396 rfl ?_
  refine n_icmp_eq C 1401 dL_law_1396 1399 rfl rfl (fun _ => ?_) (fun z => absurd hk z)
  refine n_iload C 1 rfl dL_law_1401 1403 rfl ?_
  refine n_if_ne C 1418 dL_law_1403 1406 rfl rfl (fun z0 => ?_) (fun z0 => ?_)
  · have eb : f1 (0 : Int32).toNatClampNeg = r2.toInt64 := hb r2 (hv z0)
    refine n_aload_n C 5 rfl dL_law_1406 1407 rfl ?_
    refine n_iconst C 0 rfl dL_law_1407 1408 rfl ?_
    refine n_lald C 55 3 lawW_out rfl (show vp_in 0 1 by unfold vp_in; decide) dL_law_1408 1409 rfl ?_
    rw [eb]
    refine n_iload C 0 rfl dL_law_1409 1411 rfl ?_
    refine n_i2l C dL_law_1411 1412 rfl ?_
    refine n_lcmp0 C dL_law_1412 1413 rfl ?_
    refine n_if_eq C 1418 dL_law_1413 1416 rfl rfl (fun _ => ?_) (fun z => absurd rfl z)
    refine n_goto C 1421 dL_law_1418 rfl ?_
    refine n_sub [(0, .ref b), (1, .ref (A1 0)), (2, .ref (A2 0)), (3, .ref aO), (4, .int (nI i))] [2, 3, 4, 5, 6] rfl ?_
    refine n_widen (cells + 4) (slots + 24) (by omega) (by omega) ?_
    exact K S1 T2 f1 hR
  · skip
    refine n_goto C 1421 dL_law_1418 rfl ?_
    refine n_sub [(0, .ref b), (1, .ref (A1 0)), (2, .ref (A2 0)), (3, .ref aO), (4, .int (nI i))] [2, 3, 4, 5, 6] rfl ?_
    refine n_widen (cells + 4) (slots + 24) (by omega) (by omega) ?_
    exact K S1 T2 f1 hR
