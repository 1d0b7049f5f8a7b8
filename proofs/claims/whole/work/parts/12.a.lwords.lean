theorem wd_316 : Cond.methodLink RL 13 yX9_post ∈ gw := gw_in (List.mem_append_right _ (List.mem_of_getElem? (i := 316) (by decide +kernel))) (by decide +kernel)
theorem wd_319 : Cond.code yX9_post cX9_post 3 (some .int) ∈ gw := gw_in (List.mem_append_right _ (List.mem_of_getElem? (i := 319) (by decide +kernel))) (by decide +kernel)
theorem wd_1 : Cond.initialized RX9 ∈ gw := gw_in (List.mem_append_right _ (List.mem_of_getElem? (i := 1) (by decide +kernel))) (by decide +kernel)
theorem wd_317 : Cond.instanceMethod yX9_post ∈ gw := gw_in (List.mem_append_right _ (List.mem_of_getElem? (i := 317) (by decide +kernel))) (by decide +kernel)
theorem wd_318 : Cond.selects yX9_post.cls yX9_post yX9_post ∈ gw := gw_in (List.mem_append_right _ (List.mem_of_getElem? (i := 318) (by decide +kernel))) (by decide +kernel)
theorem kl_X9_post : calV yX9_post cX9_post 3 (some .int) 2 := ⟨wd_317, wd_318, wd_1, wd_319, by decide +kernel⟩
theorem wd_805 : Cond.methodLink RL 17 yX10_post ∈ gw := gw_in (List.mem_append_right _ (List.mem_of_getElem? (i := 805) (by decide +kernel))) (by decide +kernel)
theorem wd_808 : Cond.code yX10_post cX10_post 3 (some .int) ∈ gw := gw_in (List.mem_append_right _ (List.mem_of_getElem? (i := 808) (by decide +kernel))) (by decide +kernel)
theorem wd_12 : Cond.initialized RX10 ∈ gw := gw_in (List.mem_append_right _ (List.mem_of_getElem? (i := 12) (by decide +kernel))) (by decide +kernel)
theorem wd_806 : Cond.instanceMethod yX10_post ∈ gw := gw_in (List.mem_append_right _ (List.mem_of_getElem? (i := 806) (by decide +kernel))) (by decide +kernel)
theorem wd_807 : Cond.selects yX10_post.cls yX10_post yX10_post ∈ gw := gw_in (List.mem_append_right _ (List.mem_of_getElem? (i := 807) (by decide +kernel))) (by decide +kernel)
theorem kl_X10_post : calV yX10_post cX10_post 3 (some .int) 2 := ⟨wd_806, wd_807, wd_12, wd_808, by decide +kernel⟩
theorem wd_327 : Cond.methodLink RL 18 yX9_listened ∈ gw := gw_in (List.mem_append_right _ (List.mem_of_getElem? (i := 327) (by decide +kernel))) (by decide +kernel)
theorem wd_330 : Cond.code yX9_listened cX9_listened 5 (some .int) ∈ gw := gw_in (List.mem_append_right _ (List.mem_of_getElem? (i := 330) (by decide +kernel))) (by decide +kernel)
theorem wd_328 : Cond.instanceMethod yX9_listened ∈ gw := gw_in (List.mem_append_right _ (List.mem_of_getElem? (i := 328) (by decide +kernel))) (by decide +kernel)
theorem wd_329 : Cond.selects yX9_listened.cls yX9_listened yX9_listened ∈ gw := gw_in (List.mem_append_right _ (List.mem_of_getElem? (i := 329) (by decide +kernel))) (by decide +kernel)
theorem kl_X9_listened : calV yX9_listened cX9_listened 5 (some .int) 4 := ⟨wd_328, wd_329, wd_1, wd_330, by decide +kernel⟩
theorem wd_812 : Cond.methodLink RL 22 yX10_listened ∈ gw := gw_in (List.mem_append_right _ (List.mem_of_getElem? (i := 812) (by decide +kernel))) (by decide +kernel)
theorem wd_815 : Cond.code yX10_listened cX10_listened 5 (some .int) ∈ gw := gw_in (List.mem_append_right _ (List.mem_of_getElem? (i := 815) (by decide +kernel))) (by decide +kernel)
theorem wd_813 : Cond.instanceMethod yX10_listened ∈ gw := gw_in (List.mem_append_right _ (List.mem_of_getElem? (i := 813) (by decide +kernel))) (by decide +kernel)
theorem wd_814 : Cond.selects yX10_listened.cls yX10_listened yX10_listened ∈ gw := gw_in (List.mem_append_right _ (List.mem_of_getElem? (i := 814) (by decide +kernel))) (by decide +kernel)
theorem kl_X10_listened : calV yX10_listened cX10_listened 5 (some .int) 4 := ⟨wd_813, wd_814, wd_12, wd_815, by decide +kernel⟩
theorem wd_342 : Cond.methodLink RL 23 yX9_mark ∈ gw := gw_in (List.mem_append_right _ (List.mem_of_getElem? (i := 342) (by decide +kernel))) (by decide +kernel)
theorem wd_345 : Cond.code yX9_mark cX9_mark 7 (some .int) ∈ gw := gw_in (List.mem_append_right _ (List.mem_of_getElem? (i := 345) (by decide +kernel))) (by decide +kernel)
theorem wd_343 : Cond.instanceMethod yX9_mark ∈ gw := gw_in (List.mem_append_right _ (List.mem_of_getElem? (i := 343) (by decide +kernel))) (by decide +kernel)
theorem wd_344 : Cond.selects yX9_mark.cls yX9_mark yX9_mark ∈ gw := gw_in (List.mem_append_right _ (List.mem_of_getElem? (i := 344) (by decide +kernel))) (by decide +kernel)
theorem kl_X9_mark : calV yX9_mark cX9_mark 7 (some .int) 5 := ⟨wd_343, wd_344, wd_1, wd_345, by decide +kernel⟩
theorem wd_823 : Cond.methodLink RL 27 yX10_mark ∈ gw := gw_in (List.mem_append_right _ (List.mem_of_getElem? (i := 823) (by decide +kernel))) (by decide +kernel)
theorem wd_826 : Cond.code yX10_mark cX10_mark 7 (some .int) ∈ gw := gw_in (List.mem_append_right _ (List.mem_of_getElem? (i := 826) (by decide +kernel))) (by decide +kernel)
theorem wd_824 : Cond.instanceMethod yX10_mark ∈ gw := gw_in (List.mem_append_right _ (List.mem_of_getElem? (i := 824) (by decide +kernel))) (by decide +kernel)
theorem wd_825 : Cond.selects yX10_mark.cls yX10_mark yX10_mark ∈ gw := gw_in (List.mem_append_right _ (List.mem_of_getElem? (i := 825) (by decide +kernel))) (by decide +kernel)
theorem kl_X10_mark : calV yX10_mark cX10_mark 7 (some .int) 5 := ⟨wd_824, wd_825, wd_12, wd_826, by decide +kernel⟩
theorem wd_382 : Cond.methodLink RL 28 yX9_wedge ∈ gw := gw_in (List.mem_append_right _ (List.mem_of_getElem? (i := 382) (by decide +kernel))) (by decide +kernel)
theorem wd_385 : Cond.code yX9_wedge cX9_wedge 10 (some .boolean) ∈ gw := gw_in (List.mem_append_right _ (List.mem_of_getElem? (i := 385) (by decide +kernel))) (by decide +kernel)
theorem wd_383 : Cond.instanceMethod yX9_wedge ∈ gw := gw_in (List.mem_append_right _ (List.mem_of_getElem? (i := 383) (by decide +kernel))) (by decide +kernel)
theorem wd_384 : Cond.selects yX9_wedge.cls yX9_wedge yX9_wedge ∈ gw := gw_in (List.mem_append_right _ (List.mem_of_getElem? (i := 384) (by decide +kernel))) (by decide +kernel)
theorem kl_X9_wedge : calV yX9_wedge cX9_wedge 10 (some .boolean) 5 := ⟨wd_383, wd_384, wd_1, wd_385, by decide +kernel⟩
theorem wd_831 : Cond.methodLink RL 32 yX10_wedge ∈ gw := gw_in (List.mem_append_right _ (List.mem_of_getElem? (i := 831) (by decide +kernel))) (by decide +kernel)
theorem wd_834 : Cond.code yX10_wedge cX10_wedge 6 (some .boolean) ∈ gw := gw_in (List.mem_append_right _ (List.mem_of_getElem? (i := 834) (by decide +kernel))) (by decide +kernel)
theorem wd_832 : Cond.instanceMethod yX10_wedge ∈ gw := gw_in (List.mem_append_right _ (List.mem_of_getElem? (i := 832) (by decide +kernel))) (by decide +kernel)
theorem wd_833 : Cond.selects yX10_wedge.cls yX10_wedge yX10_wedge ∈ gw := gw_in (List.mem_append_right _ (List.mem_of_getElem? (i := 833) (by decide +kernel))) (by decide +kernel)
theorem kl_X10_wedge : calV yX10_wedge cX10_wedge 6 (some .boolean) 5 := ⟨wd_832, wd_833, wd_12, wd_834, by decide +kernel⟩
theorem wd_397 : Cond.methodLink RL 33 yX9_joins ∈ gw := gw_in (List.mem_append_right _ (List.mem_of_getElem? (i := 397) (by decide +kernel))) (by decide +kernel)
theorem wd_400 : Cond.code yX9_joins cX9_joins 3 (some .boolean) ∈ gw := gw_in (List.mem_append_right _ (List.mem_of_getElem? (i := 400) (by decide +kernel))) (by decide +kernel)
theorem wd_398 : Cond.instanceMethod yX9_joins ∈ gw := gw_in (List.mem_append_right _ (List.mem_of_getElem? (i := 398) (by decide +kernel))) (by decide +kernel)
theorem wd_399 : Cond.selects yX9_joins.cls yX9_joins yX9_joins ∈ gw := gw_in (List.mem_append_right _ (List.mem_of_getElem? (i := 399) (by decide +kernel))) (by decide +kernel)
theorem kl_X9_joins : calV yX9_joins cX9_joins 3 (some .boolean) 2 := ⟨wd_398, wd_399, wd_1, wd_400, by decide +kernel⟩
theorem wd_838 : Cond.methodLink RL 37 yX10_joins ∈ gw := gw_in (List.mem_append_right _ (List.mem_of_getElem? (i := 838) (by decide +kernel))) (by decide +kernel)
theorem wd_841 : Cond.code yX10_joins cX10_joins 3 (some .boolean) ∈ gw := gw_in (List.mem_append_right _ (List.mem_of_getElem? (i := 841) (by decide +kernel))) (by decide +kernel)
theorem wd_839 : Cond.instanceMethod yX10_joins ∈ gw := gw_in (List.mem_append_right _ (List.mem_of_getElem? (i := 839) (by decide +kernel))) (by decide +kernel)
theorem wd_840 : Cond.selects yX10_joins.cls yX10_joins yX10_joins ∈ gw := gw_in (List.mem_append_right _ (List.mem_of_getElem? (i := 840) (by decide +kernel))) (by decide +kernel)
theorem kl_X10_joins : calV yX10_joins cX10_joins 3 (some .boolean) 2 := ⟨wd_839, wd_840, wd_12, wd_841, by decide +kernel⟩
theorem wd_401 : Cond.methodLink RL 38 yX9_senders ∈ gw := gw_in (List.mem_append_right _ (List.mem_of_getElem? (i := 401) (by decide +kernel))) (by decide +kernel)
theorem wd_404 : Cond.code yX9_senders cX9_senders 1 (some .int) ∈ gw := gw_in (List.mem_append_right _ (List.mem_of_getElem? (i := 404) (by decide +kernel))) (by decide +kernel)
theorem wd_402 : Cond.instanceMethod yX9_senders ∈ gw := gw_in (List.mem_append_right _ (List.mem_of_getElem? (i := 402) (by decide +kernel))) (by decide +kernel)
theorem wd_403 : Cond.selects yX9_senders.cls yX9_senders yX9_senders ∈ gw := gw_in (List.mem_append_right _ (List.mem_of_getElem? (i := 403) (by decide +kernel))) (by decide +kernel)
theorem kl_X9_senders : calV yX9_senders cX9_senders 1 (some .int) 0 := ⟨wd_402, wd_403, wd_1, wd_404, by decide +kernel⟩
theorem wd_842 : Cond.methodLink RL 42 yX10_senders ∈ gw := gw_in (List.mem_append_right _ (List.mem_of_getElem? (i := 842) (by decide +kernel))) (by decide +kernel)
theorem wd_845 : Cond.code yX10_senders cX10_senders 1 (some .int) ∈ gw := gw_in (List.mem_append_right _ (List.mem_of_getElem? (i := 845) (by decide +kernel))) (by decide +kernel)
theorem wd_843 : Cond.instanceMethod yX10_senders ∈ gw := gw_in (List.mem_append_right _ (List.mem_of_getElem? (i := 843) (by decide +kernel))) (by decide +kernel)
theorem wd_844 : Cond.selects yX10_senders.cls yX10_senders yX10_senders ∈ gw := gw_in (List.mem_append_right _ (List.mem_of_getElem? (i := 844) (by decide +kernel))) (by decide +kernel)
theorem kl_X10_senders : calV yX10_senders cX10_senders 1 (some .int) 0 := ⟨wd_843, wd_844, wd_12, wd_845, by decide +kernel⟩
theorem wd_405 : Cond.methodLink RL 43 yX9_senderOf ∈ gw := gw_in (List.mem_append_right _ (List.mem_of_getElem? (i := 405) (by decide +kernel))) (by decide +kernel)
theorem wd_408 : Cond.code yX9_senderOf cX9_senderOf 2 (some .int) ∈ gw := gw_in (List.mem_append_right _ (List.mem_of_getElem? (i := 408) (by decide +kernel))) (by decide +kernel)
theorem wd_406 : Cond.instanceMethod yX9_senderOf ∈ gw := gw_in (List.mem_append_right _ (List.mem_of_getElem? (i := 406) (by decide +kernel))) (by decide +kernel)
theorem wd_407 : Cond.selects yX9_senderOf.cls yX9_senderOf yX9_senderOf ∈ gw := gw_in (List.mem_append_right _ (List.mem_of_getElem? (i := 407) (by decide +kernel))) (by decide +kernel)
theorem kl_X9_senderOf : calV yX9_senderOf cX9_senderOf 2 (some .int) 1 := ⟨wd_406, wd_407, wd_1, wd_408, by decide +kernel⟩
theorem wd_858 : Cond.methodLink RL 47 yX10_senderOf ∈ gw := gw_in (List.mem_append_right _ (List.mem_of_getElem? (i := 858) (by decide +kernel))) (by decide +kernel)
theorem wd_861 : Cond.code yX10_senderOf cX10_senderOf 2 (some .int) ∈ gw := gw_in (List.mem_append_right _ (List.mem_of_getElem? (i := 861) (by decide +kernel))) (by decide +kernel)
theorem wd_859 : Cond.instanceMethod yX10_senderOf ∈ gw := gw_in (List.mem_append_right _ (List.mem_of_getElem? (i := 859) (by decide +kernel))) (by decide +kernel)
theorem wd_860 : Cond.selects yX10_senderOf.cls yX10_senderOf yX10_senderOf ∈ gw := gw_in (List.mem_append_right _ (List.mem_of_getElem? (i := 860) (by decide +kernel))) (by decide +kernel)
theorem kl_X10_senderOf : calV yX10_senderOf cX10_senderOf 2 (some .int) 1 := ⟨wd_859, wd_860, wd_12, wd_861, by decide +kernel⟩
theorem wd_409 : Cond.methodLink RL 48 yX9_sender ∈ gw := gw_in (List.mem_append_right _ (List.mem_of_getElem? (i := 409) (by decide +kernel))) (by decide +kernel)
theorem wd_412 : Cond.code yX9_sender cX9_sender 3 (some .int) ∈ gw := gw_in (List.mem_append_right _ (List.mem_of_getElem? (i := 412) (by decide +kernel))) (by decide +kernel)
theorem wd_410 : Cond.instanceMethod yX9_sender ∈ gw := gw_in (List.mem_append_right _ (List.mem_of_getElem? (i := 410) (by decide +kernel))) (by decide +kernel)
theorem wd_411 : Cond.selects yX9_sender.cls yX9_sender yX9_sender ∈ gw := gw_in (List.mem_append_right _ (List.mem_of_getElem? (i := 411) (by decide +kernel))) (by decide +kernel)
theorem kl_X9_sender : calV yX9_sender cX9_sender 3 (some .int) 2 := ⟨wd_410, wd_411, wd_1, wd_412, by decide +kernel⟩
theorem wd_862 : Cond.methodLink RL 51 yX10_sender ∈ gw := gw_in (List.mem_append_right _ (List.mem_of_getElem? (i := 862) (by decide +kernel))) (by decide +kernel)
theorem wd_865 : Cond.code yX10_sender cX10_sender 9 (some .int) ∈ gw := gw_in (List.mem_append_right _ (List.mem_of_getElem? (i := 865) (by decide +kernel))) (by decide +kernel)
theorem wd_863 : Cond.instanceMethod yX10_sender ∈ gw := gw_in (List.mem_append_right _ (List.mem_of_getElem? (i := 863) (by decide +kernel))) (by decide +kernel)
theorem wd_864 : Cond.selects yX10_sender.cls yX10_sender yX10_sender ∈ gw := gw_in (List.mem_append_right _ (List.mem_of_getElem? (i := 864) (by decide +kernel))) (by decide +kernel)
theorem kl_X10_sender : calV yX10_sender cX10_sender 9 (some .int) 2 := ⟨wd_863, wd_864, wd_12, wd_865, by decide +kernel⟩
theorem wd_434 : Cond.methodLink RL 52 yX9_place ∈ gw := gw_in (List.mem_append_right _ (List.mem_of_getElem? (i := 434) (by decide +kernel))) (by decide +kernel)
theorem wd_437 : Cond.code yX9_place cX9_place 3 (some .int) ∈ gw := gw_in (List.mem_append_right _ (List.mem_of_getElem? (i := 437) (by decide +kernel))) (by decide +kernel)
theorem wd_435 : Cond.instanceMethod yX9_place ∈ gw := gw_in (List.mem_append_right _ (List.mem_of_getElem? (i := 435) (by decide +kernel))) (by decide +kernel)
theorem wd_436 : Cond.selects yX9_place.cls yX9_place yX9_place ∈ gw := gw_in (List.mem_append_right _ (List.mem_of_getElem? (i := 436) (by decide +kernel))) (by decide +kernel)
theorem kl_X9_place : calV yX9_place cX9_place 3 (some .int) 2 := ⟨wd_435, wd_436, wd_1, wd_437, by decide +kernel⟩
theorem wd_878 : Cond.methodLink RL 55 yX10_place ∈ gw := gw_in (List.mem_append_right _ (List.mem_of_getElem? (i := 878) (by decide +kernel))) (by decide +kernel)
theorem wd_881 : Cond.code yX10_place cX10_place 5 (some .int) ∈ gw := gw_in (List.mem_append_right _ (List.mem_of_getElem? (i := 881) (by decide +kernel))) (by decide +kernel)
theorem wd_879 : Cond.instanceMethod yX10_place ∈ gw := gw_in (List.mem_append_right _ (List.mem_of_getElem? (i := 879) (by decide +kernel))) (by decide +kernel)
theorem wd_880 : Cond.selects yX10_place.cls yX10_place yX10_place ∈ gw := gw_in (List.mem_append_right _ (List.mem_of_getElem? (i := 880) (by decide +kernel))) (by decide +kernel)
theorem kl_X10_place : calV yX10_place cX10_place 5 (some .int) 2 := ⟨wd_879, wd_880, wd_12, wd_881, by decide +kernel⟩
theorem wd_446 : Cond.methodLink RL 56 yX9_box ∈ gw := gw_in (List.mem_append_right _ (List.mem_of_getElem? (i := 446) (by decide +kernel))) (by decide +kernel)
theorem wd_449 : Cond.code yX9_box cX9_box 3 (some .int) ∈ gw := gw_in (List.mem_append_right _ (List.mem_of_getElem? (i := 449) (by decide +kernel))) (by decide +kernel)
theorem wd_447 : Cond.instanceMethod yX9_box ∈ gw := gw_in (List.mem_append_right _ (List.mem_of_getElem? (i := 447) (by decide +kernel))) (by decide +kernel)
theorem wd_448 : Cond.selects yX9_box.cls yX9_box yX9_box ∈ gw := gw_in (List.mem_append_right _ (List.mem_of_getElem? (i := 448) (by decide +kernel))) (by decide +kernel)
theorem kl_X9_box : calV yX9_box cX9_box 3 (some .int) 2 := ⟨wd_447, wd_448, wd_1, wd_449, by decide +kernel⟩
theorem wd_882 : Cond.methodLink RL 59 yX10_box ∈ gw := gw_in (List.mem_append_right _ (List.mem_of_getElem? (i := 882) (by decide +kernel))) (by decide +kernel)
theorem wd_885 : Cond.code yX10_box cX10_box 6 (some .int) ∈ gw := gw_in (List.mem_append_right _ (List.mem_of_getElem? (i := 885) (by decide +kernel))) (by decide +kernel)
theorem wd_883 : Cond.instanceMethod yX10_box ∈ gw := gw_in (List.mem_append_right _ (List.mem_of_getElem? (i := 883) (by decide +kernel))) (by decide +kernel)
theorem wd_884 : Cond.selects yX10_box.cls yX10_box yX10_box ∈ gw := gw_in (List.mem_append_right _ (List.mem_of_getElem? (i := 884) (by decide +kernel))) (by decide +kernel)
theorem kl_X10_box : calV yX10_box cX10_box 6 (some .int) 2 := ⟨wd_883, wd_884, wd_12, wd_885, by decide +kernel⟩
theorem wd_454 : Cond.methodLink RL 60 yX9_minutes ∈ gw := gw_in (List.mem_append_right _ (List.mem_of_getElem? (i := 454) (by decide +kernel))) (by decide +kernel)
theorem wd_457 : Cond.code yX9_minutes cX9_minutes 8 (some .int) ∈ gw := gw_in (List.mem_append_right _ (List.mem_of_getElem? (i := 457) (by decide +kernel))) (by decide +kernel)
theorem wd_455 : Cond.instanceMethod yX9_minutes ∈ gw := gw_in (List.mem_append_right _ (List.mem_of_getElem? (i := 455) (by decide +kernel))) (by decide +kernel)
theorem wd_456 : Cond.selects yX9_minutes.cls yX9_minutes yX9_minutes ∈ gw := gw_in (List.mem_append_right _ (List.mem_of_getElem? (i := 456) (by decide +kernel))) (by decide +kernel)
theorem kl_X9_minutes : calV yX9_minutes cX9_minutes 8 (some .int) 4 := ⟨wd_455, wd_456, wd_1, wd_457, by decide +kernel⟩
theorem wd_886 : Cond.methodLink RL 63 yX10_minutes ∈ gw := gw_in (List.mem_append_right _ (List.mem_of_getElem? (i := 886) (by decide +kernel))) (by decide +kernel)
theorem wd_889 : Cond.code yX10_minutes cX10_minutes 7 (some .int) ∈ gw := gw_in (List.mem_append_right _ (List.mem_of_getElem? (i := 889) (by decide +kernel))) (by decide +kernel)
theorem wd_887 : Cond.instanceMethod yX10_minutes ∈ gw := gw_in (List.mem_append_right _ (List.mem_of_getElem? (i := 887) (by decide +kernel))) (by decide +kernel)
theorem wd_888 : Cond.selects yX10_minutes.cls yX10_minutes yX10_minutes ∈ gw := gw_in (List.mem_append_right _ (List.mem_of_getElem? (i := 888) (by decide +kernel))) (by decide +kernel)
theorem kl_X10_minutes : calV yX10_minutes cX10_minutes 7 (some .int) 4 := ⟨wd_887, wd_888, wd_12, wd_889, by decide +kernel⟩
theorem wd_476 : Cond.methodLink RL 64 yX9_blind ∈ gw := gw_in (List.mem_append_right _ (List.mem_of_getElem? (i := 476) (by decide +kernel))) (by decide +kernel)
theorem wd_479 : Cond.code yX9_blind cX9_blind 7 (some .int) ∈ gw := gw_in (List.mem_append_right _ (List.mem_of_getElem? (i := 479) (by decide +kernel))) (by decide +kernel)
theorem wd_477 : Cond.instanceMethod yX9_blind ∈ gw := gw_in (List.mem_append_right _ (List.mem_of_getElem? (i := 477) (by decide +kernel))) (by decide +kernel)
theorem wd_478 : Cond.selects yX9_blind.cls yX9_blind yX9_blind ∈ gw := gw_in (List.mem_append_right _ (List.mem_of_getElem? (i := 478) (by decide +kernel))) (by decide +kernel)
theorem kl_X9_blind : calV yX9_blind cX9_blind 7 (some .int) 3 := ⟨wd_477, wd_478, wd_1, wd_479, by decide +kernel⟩
theorem wd_894 : Cond.methodLink RL 68 yX10_blind ∈ gw := gw_in (List.mem_append_right _ (List.mem_of_getElem? (i := 894) (by decide +kernel))) (by decide +kernel)
theorem wd_897 : Cond.code yX10_blind cX10_blind 7 (some .int) ∈ gw := gw_in (List.mem_append_right _ (List.mem_of_getElem? (i := 897) (by decide +kernel))) (by decide +kernel)
theorem wd_895 : Cond.instanceMethod yX10_blind ∈ gw := gw_in (List.mem_append_right _ (List.mem_of_getElem? (i := 895) (by decide +kernel))) (by decide +kernel)
theorem wd_896 : Cond.selects yX10_blind.cls yX10_blind yX10_blind ∈ gw := gw_in (List.mem_append_right _ (List.mem_of_getElem? (i := 896) (by decide +kernel))) (by decide +kernel)
theorem kl_X10_blind : calV yX10_blind cX10_blind 7 (some .int) 3 := ⟨wd_895, wd_896, wd_12, wd_897, by decide +kernel⟩
theorem wd_480 : Cond.methodLink RL 69 yX9_feed ∈ gw := gw_in (List.mem_append_right _ (List.mem_of_getElem? (i := 480) (by decide +kernel))) (by decide +kernel)
theorem wd_483 : Cond.code yX9_feed cX9_feed 6 (some .int) ∈ gw := gw_in (List.mem_append_right _ (List.mem_of_getElem? (i := 483) (by decide +kernel))) (by decide +kernel)
theorem wd_481 : Cond.instanceMethod yX9_feed ∈ gw := gw_in (List.mem_append_right _ (List.mem_of_getElem? (i := 481) (by decide +kernel))) (by decide +kernel)
theorem wd_482 : Cond.selects yX9_feed.cls yX9_feed yX9_feed ∈ gw := gw_in (List.mem_append_right _ (List.mem_of_getElem? (i := 482) (by decide +kernel))) (by decide +kernel)
theorem kl_X9_feed : calV yX9_feed cX9_feed 6 (some .int) 5 := ⟨wd_481, wd_482, wd_1, wd_483, by decide +kernel⟩
theorem wd_898 : Cond.methodLink RL 72 yX10_feed ∈ gw := gw_in (List.mem_append_right _ (List.mem_of_getElem? (i := 898) (by decide +kernel))) (by decide +kernel)
theorem wd_901 : Cond.code yX10_feed cX10_feed 6 (some .int) ∈ gw := gw_in (List.mem_append_right _ (List.mem_of_getElem? (i := 901) (by decide +kernel))) (by decide +kernel)
theorem wd_899 : Cond.instanceMethod yX10_feed ∈ gw := gw_in (List.mem_append_right _ (List.mem_of_getElem? (i := 899) (by decide +kernel))) (by decide +kernel)
theorem wd_900 : Cond.selects yX10_feed.cls yX10_feed yX10_feed ∈ gw := gw_in (List.mem_append_right _ (List.mem_of_getElem? (i := 900) (by decide +kernel))) (by decide +kernel)
theorem kl_X10_feed : calV yX10_feed cX10_feed 6 (some .int) 5 := ⟨wd_899, wd_900, wd_12, wd_901, by decide +kernel⟩
theorem wd_488 : Cond.methodLink RL 73 yX9_end ∈ gw := gw_in (List.mem_append_right _ (List.mem_of_getElem? (i := 488) (by decide +kernel))) (by decide +kernel)
theorem wd_491 : Cond.code yX9_end cX9_end 2 (some .int) ∈ gw := gw_in (List.mem_append_right _ (List.mem_of_getElem? (i := 491) (by decide +kernel))) (by decide +kernel)
theorem wd_489 : Cond.instanceMethod yX9_end ∈ gw := gw_in (List.mem_append_right _ (List.mem_of_getElem? (i := 489) (by decide +kernel))) (by decide +kernel)
theorem wd_490 : Cond.selects yX9_end.cls yX9_end yX9_end ∈ gw := gw_in (List.mem_append_right _ (List.mem_of_getElem? (i := 490) (by decide +kernel))) (by decide +kernel)
theorem kl_X9_end : calV yX9_end cX9_end 2 (some .int) 1 := ⟨wd_489, wd_490, wd_1, wd_491, by decide +kernel⟩
theorem wd_906 : Cond.methodLink RL 76 yX10_end ∈ gw := gw_in (List.mem_append_right _ (List.mem_of_getElem? (i := 906) (by decide +kernel))) (by decide +kernel)
theorem wd_909 : Cond.code yX10_end cX10_end 2 (some .int) ∈ gw := gw_in (List.mem_append_right _ (List.mem_of_getElem? (i := 909) (by decide +kernel))) (by decide +kernel)
theorem wd_907 : Cond.instanceMethod yX10_end ∈ gw := gw_in (List.mem_append_right _ (List.mem_of_getElem? (i := 907) (by decide +kernel))) (by decide +kernel)
theorem wd_908 : Cond.selects yX10_end.cls yX10_end yX10_end ∈ gw := gw_in (List.mem_append_right _ (List.mem_of_getElem? (i := 908) (by decide +kernel))) (by decide +kernel)
theorem kl_X10_end : calV yX10_end cX10_end 2 (some .int) 1 := ⟨wd_907, wd_908, wd_12, wd_909, by decide +kernel⟩
theorem wd_492 : Cond.methodLink RL 77 yX9_licence ∈ gw := gw_in (List.mem_append_right _ (List.mem_of_getElem? (i := 492) (by decide +kernel))) (by decide +kernel)
theorem wd_495 : Cond.code yX9_licence cX9_licence 1 (some .int) ∈ gw := gw_in (List.mem_append_right _ (List.mem_of_getElem? (i := 495) (by decide +kernel))) (by decide +kernel)
theorem wd_493 : Cond.instanceMethod yX9_licence ∈ gw := gw_in (List.mem_append_right _ (List.mem_of_getElem? (i := 493) (by decide +kernel))) (by decide +kernel)
theorem wd_494 : Cond.selects yX9_licence.cls yX9_licence yX9_licence ∈ gw := gw_in (List.mem_append_right _ (List.mem_of_getElem? (i := 494) (by decide +kernel))) (by decide +kernel)
theorem kl_X9_licence : calV yX9_licence cX9_licence 1 (some .int) 0 := ⟨wd_493, wd_494, wd_1, wd_495, by decide +kernel⟩
theorem wd_910 : Cond.methodLink RL 80 yX10_licence ∈ gw := gw_in (List.mem_append_right _ (List.mem_of_getElem? (i := 910) (by decide +kernel))) (by decide +kernel)
theorem wd_913 : Cond.code yX10_licence cX10_licence 2 (some .int) ∈ gw := gw_in (List.mem_append_right _ (List.mem_of_getElem? (i := 913) (by decide +kernel))) (by decide +kernel)
theorem wd_911 : Cond.instanceMethod yX10_licence ∈ gw := gw_in (List.mem_append_right _ (List.mem_of_getElem? (i := 911) (by decide +kernel))) (by decide +kernel)
theorem wd_912 : Cond.selects yX10_licence.cls yX10_licence yX10_licence ∈ gw := gw_in (List.mem_append_right _ (List.mem_of_getElem? (i := 912) (by decide +kernel))) (by decide +kernel)
theorem kl_X10_licence : calV yX10_licence cX10_licence 2 (some .int) 0 := ⟨wd_911, wd_912, wd_12, wd_913, by decide +kernel⟩
theorem wd_603 : Cond.methodLink RL 81 yX9_fault ∈ gw := gw_in (List.mem_append_right _ (List.mem_of_getElem? (i := 603) (by decide +kernel))) (by decide +kernel)
theorem wd_606 : Cond.code yX9_fault cX9_fault 2 (some .int) ∈ gw := gw_in (List.mem_append_right _ (List.mem_of_getElem? (i := 606) (by decide +kernel))) (by decide +kernel)
theorem wd_604 : Cond.instanceMethod yX9_fault ∈ gw := gw_in (List.mem_append_right _ (List.mem_of_getElem? (i := 604) (by decide +kernel))) (by decide +kernel)
theorem wd_605 : Cond.selects yX9_fault.cls yX9_fault yX9_fault ∈ gw := gw_in (List.mem_append_right _ (List.mem_of_getElem? (i := 605) (by decide +kernel))) (by decide +kernel)
theorem kl_X9_fault : calV yX9_fault cX9_fault 2 (some .int) 1 := ⟨wd_604, wd_605, wd_1, wd_606, by decide +kernel⟩
theorem wd_947 : Cond.methodLink RL 84 yX10_fault ∈ gw := gw_in (List.mem_append_right _ (List.mem_of_getElem? (i := 947) (by decide +kernel))) (by decide +kernel)
theorem wd_950 : Cond.code yX10_fault cX10_fault 2 (some .int) ∈ gw := gw_in (List.mem_append_right _ (List.mem_of_getElem? (i := 950) (by decide +kernel))) (by decide +kernel)
theorem wd_948 : Cond.instanceMethod yX10_fault ∈ gw := gw_in (List.mem_append_right _ (List.mem_of_getElem? (i := 948) (by decide +kernel))) (by decide +kernel)
theorem wd_949 : Cond.selects yX10_fault.cls yX10_fault yX10_fault ∈ gw := gw_in (List.mem_append_right _ (List.mem_of_getElem? (i := 949) (by decide +kernel))) (by decide +kernel)
theorem kl_X10_fault : calV yX10_fault cX10_fault 2 (some .int) 1 := ⟨wd_948, wd_949, wd_12, wd_950, by decide +kernel⟩
theorem wd_607 : Cond.methodLink RL 85 yX9_fits ∈ gw := gw_in (List.mem_append_right _ (List.mem_of_getElem? (i := 607) (by decide +kernel))) (by decide +kernel)
theorem wd_610 : Cond.code yX9_fits cX9_fits 3 (some .int) ∈ gw := gw_in (List.mem_append_right _ (List.mem_of_getElem? (i := 610) (by decide +kernel))) (by decide +kernel)
theorem wd_608 : Cond.instanceMethod yX9_fits ∈ gw := gw_in (List.mem_append_right _ (List.mem_of_getElem? (i := 608) (by decide +kernel))) (by decide +kernel)
theorem wd_609 : Cond.selects yX9_fits.cls yX9_fits yX9_fits ∈ gw := gw_in (List.mem_append_right _ (List.mem_of_getElem? (i := 609) (by decide +kernel))) (by decide +kernel)
theorem kl_X9_fits : calV yX9_fits cX9_fits 3 (some .int) 2 := ⟨wd_608, wd_609, wd_1, wd_610, by decide +kernel⟩
theorem wd_951 : Cond.methodLink RL 88 yX10_fits ∈ gw := gw_in (List.mem_append_right _ (List.mem_of_getElem? (i := 951) (by decide +kernel))) (by decide +kernel)
theorem wd_954 : Cond.code yX10_fits cX10_fits 3 (some .int) ∈ gw := gw_in (List.mem_append_right _ (List.mem_of_getElem? (i := 954) (by decide +kernel))) (by decide +kernel)
theorem wd_952 : Cond.instanceMethod yX10_fits ∈ gw := gw_in (List.mem_append_right _ (List.mem_of_getElem? (i := 952) (by decide +kernel))) (by decide +kernel)
theorem wd_953 : Cond.selects yX10_fits.cls yX10_fits yX10_fits ∈ gw := gw_in (List.mem_append_right _ (List.mem_of_getElem? (i := 953) (by decide +kernel))) (by decide +kernel)
theorem kl_X10_fits : calV yX10_fits cX10_fits 3 (some .int) 2 := ⟨wd_952, wd_953, wd_12, wd_954, by decide +kernel⟩
theorem wd_630 : Cond.methodLink RL 89 yX9_best ∈ gw := gw_in (List.mem_append_right _ (List.mem_of_getElem? (i := 630) (by decide +kernel))) (by decide +kernel)
theorem wd_633 : Cond.code yX9_best cX9_best 4 (some .int) ∈ gw := gw_in (List.mem_append_right _ (List.mem_of_getElem? (i := 633) (by decide +kernel))) (by decide +kernel)
theorem wd_631 : Cond.instanceMethod yX9_best ∈ gw := gw_in (List.mem_append_right _ (List.mem_of_getElem? (i := 631) (by decide +kernel))) (by decide +kernel)
theorem wd_632 : Cond.selects yX9_best.cls yX9_best yX9_best ∈ gw := gw_in (List.mem_append_right _ (List.mem_of_getElem? (i := 632) (by decide +kernel))) (by decide +kernel)
theorem kl_X9_best : calV yX9_best cX9_best 4 (some .int) 2 := ⟨wd_631, wd_632, wd_1, wd_633, by decide +kernel⟩
theorem wd_963 : Cond.methodLink RL 92 yX10_best ∈ gw := gw_in (List.mem_append_right _ (List.mem_of_getElem? (i := 963) (by decide +kernel))) (by decide +kernel)
theorem wd_966 : Cond.code yX10_best cX10_best 4 (some .int) ∈ gw := gw_in (List.mem_append_right _ (List.mem_of_getElem? (i := 966) (by decide +kernel))) (by decide +kernel)
theorem wd_964 : Cond.instanceMethod yX10_best ∈ gw := gw_in (List.mem_append_right _ (List.mem_of_getElem? (i := 964) (by decide +kernel))) (by decide +kernel)
theorem wd_965 : Cond.selects yX10_best.cls yX10_best yX10_best ∈ gw := gw_in (List.mem_append_right _ (List.mem_of_getElem? (i := 965) (by decide +kernel))) (by decide +kernel)
theorem kl_X10_best : calV yX10_best cX10_best 4 (some .int) 2 := ⟨wd_964, wd_965, wd_12, wd_966, by decide +kernel⟩
theorem wd_639 : Cond.methodLink RL 93 yX9_wanderers ∈ gw := gw_in (List.mem_append_right _ (List.mem_of_getElem? (i := 639) (by decide +kernel))) (by decide +kernel)
theorem wd_642 : Cond.code yX9_wanderers cX9_wanderers 4 (some .int) ∈ gw := gw_in (List.mem_append_right _ (List.mem_of_getElem? (i := 642) (by decide +kernel))) (by decide +kernel)
theorem wd_640 : Cond.instanceMethod yX9_wanderers ∈ gw := gw_in (List.mem_append_right _ (List.mem_of_getElem? (i := 640) (by decide +kernel))) (by decide +kernel)
theorem wd_641 : Cond.selects yX9_wanderers.cls yX9_wanderers yX9_wanderers ∈ gw := gw_in (List.mem_append_right _ (List.mem_of_getElem? (i := 641) (by decide +kernel))) (by decide +kernel)
theorem kl_X9_wanderers : calV yX9_wanderers cX9_wanderers 4 (some .int) 0 := ⟨wd_640, wd_641, wd_1, wd_642, by decide +kernel⟩
theorem wd_974 : Cond.methodLink RL 96 yX10_wanderers ∈ gw := gw_in (List.mem_append_right _ (List.mem_of_getElem? (i := 974) (by decide +kernel))) (by decide +kernel)
theorem wd_977 : Cond.code yX10_wanderers cX10_wanderers 4 (some .int) ∈ gw := gw_in (List.mem_append_right _ (List.mem_of_getElem? (i := 977) (by decide +kernel))) (by decide +kernel)
theorem wd_975 : Cond.instanceMethod yX10_wanderers ∈ gw := gw_in (List.mem_append_right _ (List.mem_of_getElem? (i := 975) (by decide +kernel))) (by decide +kernel)
theorem wd_976 : Cond.selects yX10_wanderers.cls yX10_wanderers yX10_wanderers ∈ gw := gw_in (List.mem_append_right _ (List.mem_of_getElem? (i := 976) (by decide +kernel))) (by decide +kernel)
theorem kl_X10_wanderers : calV yX10_wanderers cX10_wanderers 4 (some .int) 0 := ⟨wd_975, wd_976, wd_12, wd_977, by decide +kernel⟩
theorem wd_643 : Cond.methodLink RL 97 yX9_sweep ∈ gw := gw_in (List.mem_append_right _ (List.mem_of_getElem? (i := 643) (by decide +kernel))) (by decide +kernel)
theorem wd_646 : Cond.code yX9_sweep cX9_sweep 5 (some .int) ∈ gw := gw_in (List.mem_append_right _ (List.mem_of_getElem? (i := 646) (by decide +kernel))) (by decide +kernel)
theorem wd_644 : Cond.instanceMethod yX9_sweep ∈ gw := gw_in (List.mem_append_right _ (List.mem_of_getElem? (i := 644) (by decide +kernel))) (by decide +kernel)
theorem wd_645 : Cond.selects yX9_sweep.cls yX9_sweep yX9_sweep ∈ gw := gw_in (List.mem_append_right _ (List.mem_of_getElem? (i := 645) (by decide +kernel))) (by decide +kernel)
theorem kl_X9_sweep : calV yX9_sweep cX9_sweep 5 (some .int) 4 := ⟨wd_644, wd_645, wd_1, wd_646, by decide +kernel⟩
theorem wd_978 : Cond.methodLink RL 100 yX10_sweep ∈ gw := gw_in (List.mem_append_right _ (List.mem_of_getElem? (i := 978) (by decide +kernel))) (by decide +kernel)
theorem wd_981 : Cond.code yX10_sweep cX10_sweep 10 (some .int) ∈ gw := gw_in (List.mem_append_right _ (List.mem_of_getElem? (i := 981) (by decide +kernel))) (by decide +kernel)
theorem wd_979 : Cond.instanceMethod yX10_sweep ∈ gw := gw_in (List.mem_append_right _ (List.mem_of_getElem? (i := 979) (by decide +kernel))) (by decide +kernel)
theorem wd_980 : Cond.selects yX10_sweep.cls yX10_sweep yX10_sweep ∈ gw := gw_in (List.mem_append_right _ (List.mem_of_getElem? (i := 980) (by decide +kernel))) (by decide +kernel)
theorem kl_X10_sweep : calV yX10_sweep cX10_sweep 10 (some .int) 4 := ⟨wd_979, wd_980, wd_12, wd_981, by decide +kernel⟩
theorem wd_682 : Cond.methodLink RL 101 yX9_slot ∈ gw := gw_in (List.mem_append_right _ (List.mem_of_getElem? (i := 682) (by decide +kernel))) (by decide +kernel)
theorem wd_685 : Cond.code yX9_slot cX9_slot 2 (some .int) ∈ gw := gw_in (List.mem_append_right _ (List.mem_of_getElem? (i := 685) (by decide +kernel))) (by decide +kernel)
theorem wd_683 : Cond.instanceMethod yX9_slot ∈ gw := gw_in (List.mem_append_right _ (List.mem_of_getElem? (i := 683) (by decide +kernel))) (by decide +kernel)
theorem wd_684 : Cond.selects yX9_slot.cls yX9_slot yX9_slot ∈ gw := gw_in (List.mem_append_right _ (List.mem_of_getElem? (i := 684) (by decide +kernel))) (by decide +kernel)
theorem kl_X9_slot : calV yX9_slot cX9_slot 2 (some .int) 1 := ⟨wd_683, wd_684, wd_1, wd_685, by decide +kernel⟩
theorem wd_991 : Cond.methodLink RL 104 yX10_slot ∈ gw := gw_in (List.mem_append_right _ (List.mem_of_getElem? (i := 991) (by decide +kernel))) (by decide +kernel)
theorem wd_994 : Cond.code yX10_slot cX10_slot 2 (some .int) ∈ gw := gw_in (List.mem_append_right _ (List.mem_of_getElem? (i := 994) (by decide +kernel))) (by decide +kernel)
theorem wd_992 : Cond.instanceMethod yX10_slot ∈ gw := gw_in (List.mem_append_right _ (List.mem_of_getElem? (i := 992) (by decide +kernel))) (by decide +kernel)
theorem wd_993 : Cond.selects yX10_slot.cls yX10_slot yX10_slot ∈ gw := gw_in (List.mem_append_right _ (List.mem_of_getElem? (i := 993) (by decide +kernel))) (by decide +kernel)
theorem kl_X10_slot : calV yX10_slot cX10_slot 2 (some .int) 1 := ⟨wd_992, wd_993, wd_12, wd_994, by decide +kernel⟩
theorem wd_686 : Cond.methodLink RL 105 yX9_about ∈ gw := gw_in (List.mem_append_right _ (List.mem_of_getElem? (i := 686) (by decide +kernel))) (by decide +kernel)
theorem wd_689 : Cond.code yX9_about cX9_about 2 (some .int) ∈ gw := gw_in (List.mem_append_right _ (List.mem_of_getElem? (i := 689) (by decide +kernel))) (by decide +kernel)
theorem wd_687 : Cond.instanceMethod yX9_about ∈ gw := gw_in (List.mem_append_right _ (List.mem_of_getElem? (i := 687) (by decide +kernel))) (by decide +kernel)
theorem wd_688 : Cond.selects yX9_about.cls yX9_about yX9_about ∈ gw := gw_in (List.mem_append_right _ (List.mem_of_getElem? (i := 688) (by decide +kernel))) (by decide +kernel)
theorem kl_X9_about : calV yX9_about cX9_about 2 (some .int) 1 := ⟨wd_687, wd_688, wd_1, wd_689, by decide +kernel⟩
theorem wd_995 : Cond.methodLink RL 108 yX10_about ∈ gw := gw_in (List.mem_append_right _ (List.mem_of_getElem? (i := 995) (by decide +kernel))) (by decide +kernel)
theorem wd_998 : Cond.code yX10_about cX10_about 4 (some .int) ∈ gw := gw_in (List.mem_append_right _ (List.mem_of_getElem? (i := 998) (by decide +kernel))) (by decide +kernel)
theorem wd_996 : Cond.instanceMethod yX10_about ∈ gw := gw_in (List.mem_append_right _ (List.mem_of_getElem? (i := 996) (by decide +kernel))) (by decide +kernel)
theorem wd_997 : Cond.selects yX10_about.cls yX10_about yX10_about ∈ gw := gw_in (List.mem_append_right _ (List.mem_of_getElem? (i := 997) (by decide +kernel))) (by decide +kernel)
theorem kl_X10_about : calV yX10_about cX10_about 4 (some .int) 1 := ⟨wd_996, wd_997, wd_12, wd_998, by decide +kernel⟩
