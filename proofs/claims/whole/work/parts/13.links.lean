set_option maxRecDepth 100000 in
theorem myX0_init : am_my MX0_init 0 := ⟨List.mem_of_getElem? (i := 278) rfl, List.mem_of_getElem? (i := 76) (by decide +kernel), by decide, by decide, by decide +kernel⟩
theorem nxX0_init : am_in0 MX0_init := ⟨List.mem_of_getElem? (i := 277) (by decide +kernel), rfl⟩
set_option maxRecDepth 100000 in
theorem myX0_has : am_my MX0_has 1 := ⟨List.mem_of_getElem? (i := 815) rfl, List.mem_of_getElem? (i := 76) (by decide +kernel), by decide, by decide, by decide +kernel⟩
theorem vxX0_has : am_vi MX0_has := ⟨List.mem_of_getElem? (i := 813) (by decide +kernel), List.mem_of_getElem? (i := 814) (by decide +kernel)⟩
set_option maxRecDepth 100000 in
theorem myX0_add : am_my MX0_add 1 := ⟨List.mem_of_getElem? (i := 685) rfl, List.mem_of_getElem? (i := 76) (by decide +kernel), by decide, by decide, by decide +kernel⟩
theorem vxX0_add : am_vi MX0_add := ⟨List.mem_of_getElem? (i := 683) (by decide +kernel), List.mem_of_getElem? (i := 684) (by decide +kernel)⟩
set_option maxRecDepth 100000 in
theorem myX0_kindOf : am_my MX0_kindOf 1 := ⟨List.mem_of_getElem? (i := 824) rfl, List.mem_of_getElem? (i := 76) (by decide +kernel), by decide, by decide, by decide +kernel⟩
theorem vxX0_kindOf : am_vi MX0_kindOf := ⟨List.mem_of_getElem? (i := 822) (by decide +kernel), List.mem_of_getElem? (i := 823) (by decide +kernel)⟩
set_option maxRecDepth 100000 in
theorem myX0_wayOf : am_my MX0_wayOf 2 := ⟨List.mem_of_getElem? (i := 837) rfl, List.mem_of_getElem? (i := 76) (by decide +kernel), by decide, by decide, by decide +kernel⟩
theorem vxX0_wayOf : am_vi MX0_wayOf := ⟨List.mem_of_getElem? (i := 835) (by decide +kernel), List.mem_of_getElem? (i := 836) (by decide +kernel)⟩
set_option maxRecDepth 100000 in
theorem myX0_hear : am_my MX0_hear 3 := ⟨List.mem_of_getElem? (i := 857) rfl, List.mem_of_getElem? (i := 76) (by decide +kernel), by decide, by decide, by decide +kernel⟩
theorem vxX0_hear : am_vi MX0_hear := ⟨List.mem_of_getElem? (i := 855) (by decide +kernel), List.mem_of_getElem? (i := 856) (by decide +kernel)⟩
set_option maxRecDepth 100000 in
theorem myX1_init : am_my MX1_init 0 := ⟨List.mem_of_getElem? (i := 327) rfl, List.mem_of_getElem? (i := 78) (by decide +kernel), by decide, by decide, by decide +kernel⟩
theorem nxX1_init : am_in0 MX1_init := ⟨List.mem_of_getElem? (i := 326) (by decide +kernel), rfl⟩
set_option maxRecDepth 100000 in
theorem myX1_codeOf : am_my MX1_codeOf 1 := ⟨List.mem_of_getElem? (i := 595) rfl, List.mem_of_getElem? (i := 78) (by decide +kernel), by decide, by decide, by decide +kernel⟩
theorem sxX1_codeOf : am_sta MX1_codeOf := List.mem_of_getElem? (i := 594) (by decide +kernel)
set_option maxRecDepth 100000 in
theorem myX1_clear : am_my MX1_clear 0 := ⟨List.mem_of_getElem? (i := 453) rfl, List.mem_of_getElem? (i := 78) (by decide +kernel), by decide, by decide, by decide +kernel⟩
theorem vxX1_clear : am_vi MX1_clear := ⟨List.mem_of_getElem? (i := 451) (by decide +kernel), List.mem_of_getElem? (i := 452) (by decide +kernel)⟩
set_option maxRecDepth 100000 in
theorem myX1_addRule : am_my MX1_addRule 1 := ⟨List.mem_of_getElem? (i := 572) rfl, List.mem_of_getElem? (i := 78) (by decide +kernel), by decide, by decide, by decide +kernel⟩
theorem vxX1_addRule : am_vi MX1_addRule := ⟨List.mem_of_getElem? (i := 570) (by decide +kernel), List.mem_of_getElem? (i := 571) (by decide +kernel)⟩
set_option maxRecDepth 100000 in
theorem myX1_addCell : am_my MX1_addCell 1 := ⟨List.mem_of_getElem? (i := 580) rfl, List.mem_of_getElem? (i := 78) (by decide +kernel), by decide, by decide, by decide +kernel⟩
theorem vxX1_addCell : am_vi MX1_addCell := ⟨List.mem_of_getElem? (i := 578) (by decide +kernel), List.mem_of_getElem? (i := 579) (by decide +kernel)⟩
set_option maxRecDepth 100000 in
theorem myX1_addLiteral : am_my MX1_addLiteral 2 := ⟨List.mem_of_getElem? (i := 584) rfl, List.mem_of_getElem? (i := 78) (by decide +kernel), by decide, by decide, by decide +kernel⟩
theorem vxX1_addLiteral : am_vi MX1_addLiteral := ⟨List.mem_of_getElem? (i := 582) (by decide +kernel), List.mem_of_getElem? (i := 583) (by decide +kernel)⟩
set_option maxRecDepth 100000 in
theorem myX1_firstCell : am_my MX1_firstCell 1 := ⟨List.mem_of_getElem? (i := 588) rfl, List.mem_of_getElem? (i := 78) (by decide +kernel), by decide, by decide, by decide +kernel⟩
theorem vxX1_firstCell : am_vi MX1_firstCell := ⟨List.mem_of_getElem? (i := 587) (by decide +kernel), List.mem_of_getElem? (i := 11) (by decide +kernel)⟩
set_option maxRecDepth 100000 in
theorem myX1_hasDay : am_my MX1_hasDay 2 := ⟨List.mem_of_getElem? (i := 592) rfl, List.mem_of_getElem? (i := 78) (by decide +kernel), by decide, by decide, by decide +kernel⟩
theorem vxX1_hasDay : am_vi MX1_hasDay := ⟨List.mem_of_getElem? (i := 591) (by decide +kernel), List.mem_of_getElem? (i := 12) (by decide +kernel)⟩
set_option maxRecDepth 100000 in
theorem myX1_letBy : am_my MX1_letBy 1 := ⟨List.mem_of_getElem? (i := 764) rfl, List.mem_of_getElem? (i := 78) (by decide +kernel), by decide, by decide, by decide +kernel⟩
theorem vxX1_letBy : am_vi MX1_letBy := ⟨List.mem_of_getElem? (i := 762) (by decide +kernel), List.mem_of_getElem? (i := 763) (by decide +kernel)⟩
set_option maxRecDepth 100000 in
theorem myX1_maskedBy : am_my MX1_maskedBy 1 := ⟨List.mem_of_getElem? (i := 803) rfl, List.mem_of_getElem? (i := 78) (by decide +kernel), by decide, by decide, by decide +kernel⟩
theorem vxX1_maskedBy : am_vi MX1_maskedBy := ⟨List.mem_of_getElem? (i := 801) (by decide +kernel), List.mem_of_getElem? (i := 802) (by decide +kernel)⟩
set_option maxRecDepth 100000 in
theorem myX1_holds : am_my MX1_holds 2 := ⟨List.mem_of_getElem? (i := 768) rfl, List.mem_of_getElem? (i := 78) (by decide +kernel), by decide, by decide, by decide +kernel⟩
theorem vxX1_holds : am_vi MX1_holds := ⟨List.mem_of_getElem? (i := 767) (by decide +kernel), List.mem_of_getElem? (i := 19) (by decide +kernel)⟩
set_option maxRecDepth 100000 in
theorem myX1_literalHolds : am_my MX1_literalHolds 2 := ⟨List.mem_of_getElem? (i := 772) rfl, List.mem_of_getElem? (i := 78) (by decide +kernel), by decide, by decide, by decide +kernel⟩
theorem vxX1_literalHolds : am_vi MX1_literalHolds := ⟨List.mem_of_getElem? (i := 771) (by decide +kernel), List.mem_of_getElem? (i := 20) (by decide +kernel)⟩
set_option maxRecDepth 100000 in
theorem myX1_testHolds : am_my MX1_testHolds 2 := ⟨List.mem_of_getElem? (i := 776) rfl, List.mem_of_getElem? (i := 78) (by decide +kernel), by decide, by decide, by decide +kernel⟩
theorem vxX1_testHolds : am_vi MX1_testHolds := ⟨List.mem_of_getElem? (i := 775) (by decide +kernel), List.mem_of_getElem? (i := 21) (by decide +kernel)⟩
set_option maxRecDepth 100000 in
theorem myX2_init : am_my MX2_init 0 := ⟨List.mem_of_getElem? (i := 128) rfl, List.mem_of_getElem? (i := 71) (by decide +kernel), by decide, by decide, by decide +kernel⟩
theorem nxX2_init : am_in0 MX2_init := ⟨List.mem_of_getElem? (i := 127) (by decide +kernel), rfl⟩
set_option maxRecDepth 100000 in
theorem myX2_parse : am_my MX2_parse 3 := ⟨List.mem_of_getElem? (i := 441) rfl, List.mem_of_getElem? (i := 71) (by decide +kernel), by decide, by decide, by decide +kernel⟩
theorem vxX2_parse : am_vi MX2_parse := ⟨List.mem_of_getElem? (i := 439) (by decide +kernel), List.mem_of_getElem? (i := 440) (by decide +kernel)⟩
set_option maxRecDepth 100000 in
theorem myX2_begin : am_my MX2_begin 0 := ⟨List.mem_of_getElem? (i := 445) rfl, List.mem_of_getElem? (i := 71) (by decide +kernel), by decide, by decide, by decide +kernel⟩
theorem vxX2_begin : am_vi MX2_begin := ⟨List.mem_of_getElem? (i := 444) (by decide +kernel), List.mem_of_getElem? (i := 1) (by decide +kernel)⟩
set_option maxRecDepth 100000 in
theorem myX2_faultOf : am_my MX2_faultOf 3 := ⟨List.mem_of_getElem? (i := 538) rfl, List.mem_of_getElem? (i := 71) (by decide +kernel), by decide, by decide, by decide +kernel⟩
theorem vxX2_faultOf : am_vi MX2_faultOf := ⟨List.mem_of_getElem? (i := 537) (by decide +kernel), List.mem_of_getElem? (i := 6) (by decide +kernel)⟩
set_option maxRecDepth 100000 in
theorem myX2_goesOn : am_my MX2_goesOn 1 := ⟨List.mem_of_getElem? (i := 542) rfl, List.mem_of_getElem? (i := 71) (by decide +kernel), by decide, by decide, by decide +kernel⟩
theorem vxX2_goesOn : am_vi MX2_goesOn := ⟨List.mem_of_getElem? (i := 541) (by decide +kernel), List.mem_of_getElem? (i := 7) (by decide +kernel)⟩
set_option maxRecDepth 100000 in
theorem myX2_endsSide : am_my MX2_endsSide 1 := ⟨List.mem_of_getElem? (i := 561) rfl, List.mem_of_getElem? (i := 71) (by decide +kernel), by decide, by decide, by decide +kernel⟩
theorem vxX2_endsSide : am_vi MX2_endsSide := ⟨List.mem_of_getElem? (i := 560) (by decide +kernel), List.mem_of_getElem? (i := 8) (by decide +kernel)⟩
set_option maxRecDepth 100000 in
theorem myX2_isHead : am_my MX2_isHead 1 := ⟨List.mem_of_getElem? (i := 545) rfl, List.mem_of_getElem? (i := 71) (by decide +kernel), by decide, by decide, by decide +kernel⟩
theorem sxX2_isHead : am_sta MX2_isHead := List.mem_of_getElem? (i := 544) (by decide +kernel)
set_option maxRecDepth 100000 in
theorem myX2_startsUnit : am_my MX2_startsUnit 1 := ⟨List.mem_of_getElem? (i := 548) rfl, List.mem_of_getElem? (i := 71) (by decide +kernel), by decide, by decide, by decide +kernel⟩
theorem sxX2_startsUnit : am_sta MX2_startsUnit := List.mem_of_getElem? (i := 547) (by decide +kernel)
set_option maxRecDepth 100000 in
theorem myX2_isComparison : am_my MX2_isComparison 1 := ⟨List.mem_of_getElem? (i := 564) rfl, List.mem_of_getElem? (i := 71) (by decide +kernel), by decide, by decide, by decide +kernel⟩
theorem sxX2_isComparison : am_sta MX2_isComparison := List.mem_of_getElem? (i := 563) (by decide +kernel)
set_option maxRecDepth 100000 in
theorem myX2_endsLiteral : am_my MX2_endsLiteral 1 := ⟨List.mem_of_getElem? (i := 554) rfl, List.mem_of_getElem? (i := 71) (by decide +kernel), by decide, by decide, by decide +kernel⟩
theorem sxX2_endsLiteral : am_sta MX2_endsLiteral := List.mem_of_getElem? (i := 553) (by decide +kernel)
set_option maxRecDepth 100000 in
theorem myX2_take : am_my MX2_take 3 := ⟨List.mem_of_getElem? (i := 568) rfl, List.mem_of_getElem? (i := 71) (by decide +kernel), by decide, by decide, by decide +kernel⟩
theorem vxX2_take : am_vi MX2_take := ⟨List.mem_of_getElem? (i := 567) (by decide +kernel), List.mem_of_getElem? (i := 9) (by decide +kernel)⟩
set_option maxRecDepth 100000 in
theorem myX2_takeTopic : am_my MX2_takeTopic 3 := ⟨List.mem_of_getElem? (i := 576) rfl, List.mem_of_getElem? (i := 71) (by decide +kernel), by decide, by decide, by decide +kernel⟩
theorem vxX2_takeTopic : am_vi MX2_takeTopic := ⟨List.mem_of_getElem? (i := 575) (by decide +kernel), List.mem_of_getElem? (i := 10) (by decide +kernel)⟩
set_option maxRecDepth 100000 in
theorem myX2_takeBracket : am_my MX2_takeBracket 2 := ⟨List.mem_of_getElem? (i := 600) rfl, List.mem_of_getElem? (i := 71) (by decide +kernel), by decide, by decide, by decide +kernel⟩
theorem vxX2_takeBracket : am_vi MX2_takeBracket := ⟨List.mem_of_getElem? (i := 599) (by decide +kernel), List.mem_of_getElem? (i := 13) (by decide +kernel)⟩
set_option maxRecDepth 100000 in
theorem myX2_takeLiteralEnd : am_my MX2_takeLiteralEnd 2 := ⟨List.mem_of_getElem? (i := 612) rfl, List.mem_of_getElem? (i := 71) (by decide +kernel), by decide, by decide, by decide +kernel⟩
theorem vxX2_takeLiteralEnd : am_vi MX2_takeLiteralEnd := ⟨List.mem_of_getElem? (i := 611) (by decide +kernel), List.mem_of_getElem? (i := 16) (by decide +kernel)⟩
set_option maxRecDepth 100000 in
theorem myX2_hold : am_my MX2_hold 1 := ⟨List.mem_of_getElem? (i := 604) rfl, List.mem_of_getElem? (i := 71) (by decide +kernel), by decide, by decide, by decide +kernel⟩
theorem vxX2_hold : am_vi MX2_hold := ⟨List.mem_of_getElem? (i := 603) (by decide +kernel), List.mem_of_getElem? (i := 14) (by decide +kernel)⟩
set_option maxRecDepth 100000 in
theorem myX2_unload : am_my MX2_unload 2 := ⟨List.mem_of_getElem? (i := 608) rfl, List.mem_of_getElem? (i := 71) (by decide +kernel), by decide, by decide, by decide +kernel⟩
theorem vxX2_unload : am_vi MX2_unload := ⟨List.mem_of_getElem? (i := 607) (by decide +kernel), List.mem_of_getElem? (i := 15) (by decide +kernel)⟩
set_option maxRecDepth 100000 in
theorem myX3_init : am_my MX3_init 0 := ⟨List.mem_of_getElem? (i := 161) rfl, List.mem_of_getElem? (i := 72) (by decide +kernel), by decide, by decide, by decide +kernel⟩
theorem nxX3_init : am_in0 MX3_init := ⟨List.mem_of_getElem? (i := 160) (by decide +kernel), rfl⟩
set_option maxRecDepth 100000 in
theorem myX3_begin : am_my MX3_begin 3 := ⟨List.mem_of_getElem? (i := 743) rfl, List.mem_of_getElem? (i := 72) (by decide +kernel), by decide, by decide, by decide +kernel⟩
theorem vxX3_begin : am_vi MX3_begin := ⟨List.mem_of_getElem? (i := 741) (by decide +kernel), List.mem_of_getElem? (i := 742) (by decide +kernel)⟩
set_option maxRecDepth 100000 in
theorem myX3_give : am_my MX3_give 2 := ⟨List.mem_of_getElem? (i := 750) rfl, List.mem_of_getElem? (i := 72) (by decide +kernel), by decide, by decide, by decide +kernel⟩
theorem vxX3_give : am_vi MX3_give := ⟨List.mem_of_getElem? (i := 748) (by decide +kernel), List.mem_of_getElem? (i := 749) (by decide +kernel)⟩
set_option maxRecDepth 100000 in
theorem myX3_turnTo : am_my MX3_turnTo 1 := ⟨List.mem_of_getElem? (i := 755) rfl, List.mem_of_getElem? (i := 72) (by decide +kernel), by decide, by decide, by decide +kernel⟩
theorem vxX3_turnTo : am_vi MX3_turnTo := ⟨List.mem_of_getElem? (i := 753) (by decide +kernel), List.mem_of_getElem? (i := 754) (by decide +kernel)⟩
set_option maxRecDepth 100000 in
theorem myX3_isInTopic : am_my MX3_isInTopic 1 := ⟨List.mem_of_getElem? (i := 794) rfl, List.mem_of_getElem? (i := 72) (by decide +kernel), by decide, by decide, by decide +kernel⟩
theorem vxX3_isInTopic : am_vi MX3_isInTopic := ⟨List.mem_of_getElem? (i := 792) (by decide +kernel), List.mem_of_getElem? (i := 793) (by decide +kernel)⟩
set_option maxRecDepth 100000 in
theorem myX3_takeCell : am_my MX3_takeCell 1 := ⟨List.mem_of_getElem? (i := 780) rfl, List.mem_of_getElem? (i := 72) (by decide +kernel), by decide, by decide, by decide +kernel⟩
theorem vxX3_takeCell : am_vi MX3_takeCell := ⟨List.mem_of_getElem? (i := 778) (by decide +kernel), List.mem_of_getElem? (i := 779) (by decide +kernel)⟩
set_option maxRecDepth 100000 in
theorem myX3_push : am_my MX3_push 1 := ⟨List.mem_of_getElem? (i := 789) rfl, List.mem_of_getElem? (i := 72) (by decide +kernel), by decide, by decide, by decide +kernel⟩
theorem vxX3_push : am_vi MX3_push := ⟨List.mem_of_getElem? (i := 788) (by decide +kernel), List.mem_of_getElem? (i := 22) (by decide +kernel)⟩
set_option maxRecDepth 100000 in
theorem myX3_pop : am_my MX3_pop 0 := ⟨List.mem_of_getElem? (i := 785) rfl, List.mem_of_getElem? (i := 72) (by decide +kernel), by decide, by decide, by decide +kernel⟩
theorem vxX3_pop : am_vi MX3_pop := ⟨List.mem_of_getElem? (i := 783) (by decide +kernel), List.mem_of_getElem? (i := 784) (by decide +kernel)⟩
set_option maxRecDepth 100000 in
theorem myX4_init : am_my MX4_init 0 := ⟨List.mem_of_getElem? (i := 227) rfl, List.mem_of_getElem? (i := 75) (by decide +kernel), by decide, by decide, by decide +kernel⟩
theorem nxX4_init : am_in0 MX4_init := ⟨List.mem_of_getElem? (i := 226) (by decide +kernel), rfl⟩
set_option maxRecDepth 100000 in
theorem myX4_has : am_my MX4_has 1 := ⟨List.mem_of_getElem? (i := 713) rfl, List.mem_of_getElem? (i := 75) (by decide +kernel), by decide, by decide, by decide +kernel⟩
theorem vxX4_has : am_vi MX4_has := ⟨List.mem_of_getElem? (i := 711) (by decide +kernel), List.mem_of_getElem? (i := 712) (by decide +kernel)⟩
set_option maxRecDepth 100000 in
theorem myX4_addTape : am_my MX4_addTape 3 := ⟨List.mem_of_getElem? (i := 664) rfl, List.mem_of_getElem? (i := 75) (by decide +kernel), by decide, by decide, by decide +kernel⟩
theorem vxX4_addTape : am_vi MX4_addTape := ⟨List.mem_of_getElem? (i := 662) (by decide +kernel), List.mem_of_getElem? (i := 663) (by decide +kernel)⟩
set_option maxRecDepth 100000 in
theorem myX4_isFree : am_my MX4_isFree 3 := ⟨List.mem_of_getElem? (i := 672) rfl, List.mem_of_getElem? (i := 75) (by decide +kernel), by decide, by decide, by decide +kernel⟩
theorem vxX4_isFree : am_vi MX4_isFree := ⟨List.mem_of_getElem? (i := 670) (by decide +kernel), List.mem_of_getElem? (i := 671) (by decide +kernel)⟩
set_option maxRecDepth 100000 in
theorem myX4_addPiece : am_my MX4_addPiece 6 := ⟨List.mem_of_getElem? (i := 677) rfl, List.mem_of_getElem? (i := 75) (by decide +kernel), by decide, by decide, by decide +kernel⟩
theorem vxX4_addPiece : am_vi MX4_addPiece := ⟨List.mem_of_getElem? (i := 675) (by decide +kernel), List.mem_of_getElem? (i := 676) (by decide +kernel)⟩
set_option maxRecDepth 100000 in
theorem myX4_takeBack : am_my MX4_takeBack 2 := ⟨List.mem_of_getElem? (i := 709) rfl, List.mem_of_getElem? (i := 75) (by decide +kernel), by decide, by decide, by decide +kernel⟩
theorem vxX4_takeBack : am_vi MX4_takeBack := ⟨List.mem_of_getElem? (i := 707) (by decide +kernel), List.mem_of_getElem? (i := 708) (by decide +kernel)⟩
set_option maxRecDepth 100000 in
theorem myX4_speakerOf : am_my MX4_speakerOf 1 := ⟨List.mem_of_getElem? (i := 730) rfl, List.mem_of_getElem? (i := 75) (by decide +kernel), by decide, by decide, by decide +kernel⟩
theorem vxX4_speakerOf : am_vi MX4_speakerOf := ⟨List.mem_of_getElem? (i := 728) (by decide +kernel), List.mem_of_getElem? (i := 729) (by decide +kernel)⟩
set_option maxRecDepth 100000 in
theorem myX4_madeOn : am_my MX4_madeOn 1 := ⟨List.mem_of_getElem? (i := 734) rfl, List.mem_of_getElem? (i := 75) (by decide +kernel), by decide, by decide, by decide +kernel⟩
theorem vxX4_madeOn : am_vi MX4_madeOn := ⟨List.mem_of_getElem? (i := 732) (by decide +kernel), List.mem_of_getElem? (i := 733) (by decide +kernel)⟩
set_option maxRecDepth 100000 in
theorem myX4_pieceAt : am_my MX4_pieceAt 2 := ⟨List.mem_of_getElem? (i := 882) rfl, List.mem_of_getElem? (i := 75) (by decide +kernel), by decide, by decide, by decide +kernel⟩
theorem vxX4_pieceAt : am_vi MX4_pieceAt := ⟨List.mem_of_getElem? (i := 880) (by decide +kernel), List.mem_of_getElem? (i := 881) (by decide +kernel)⟩
set_option maxRecDepth 100000 in
theorem myX5_init : am_my MX5_init 0 := ⟨List.mem_of_getElem? (i := 295) rfl, List.mem_of_getElem? (i := 77) (by decide +kernel), by decide, by decide, by decide +kernel⟩
theorem nxX5_init : am_in0 MX5_init := ⟨List.mem_of_getElem? (i := 294) (by decide +kernel), rfl⟩
set_option maxRecDepth 100000 in
theorem myX5_add : am_my MX5_add 5 := ⟨List.mem_of_getElem? (i := 893) rfl, List.mem_of_getElem? (i := 77) (by decide +kernel), by decide, by decide, by decide +kernel⟩
theorem vxX5_add : am_vi MX5_add := ⟨List.mem_of_getElem? (i := 891) (by decide +kernel), List.mem_of_getElem? (i := 892) (by decide +kernel)⟩
set_option maxRecDepth 100000 in
theorem myX5_leftOut : am_my MX5_leftOut 1 := ⟨List.mem_of_getElem? (i := 942) rfl, List.mem_of_getElem? (i := 77) (by decide +kernel), by decide, by decide, by decide +kernel⟩
theorem vxX5_leftOut : am_vi MX5_leftOut := ⟨List.mem_of_getElem? (i := 940) (by decide +kernel), List.mem_of_getElem? (i := 941) (by decide +kernel)⟩
set_option maxRecDepth 100000 in
theorem myX5_dayOf : am_my MX5_dayOf 3 := ⟨List.mem_of_getElem? (i := 950) rfl, List.mem_of_getElem? (i := 77) (by decide +kernel), by decide, by decide, by decide +kernel⟩
theorem vxX5_dayOf : am_vi MX5_dayOf := ⟨List.mem_of_getElem? (i := 948) (by decide +kernel), List.mem_of_getElem? (i := 949) (by decide +kernel)⟩
set_option maxRecDepth 100000 in
theorem myX5_findLeftOut : am_my MX5_findLeftOut 0 := ⟨List.mem_of_getElem? (i := 897) rfl, List.mem_of_getElem? (i := 77) (by decide +kernel), by decide, by decide, by decide +kernel⟩
theorem vxX5_findLeftOut : am_vi MX5_findLeftOut := ⟨List.mem_of_getElem? (i := 896) (by decide +kernel), List.mem_of_getElem? (i := 29) (by decide +kernel)⟩
set_option maxRecDepth 100000 in
theorem myX5_settle : am_my MX5_settle 3 := ⟨List.mem_of_getElem? (i := 907) rfl, List.mem_of_getElem? (i := 77) (by decide +kernel), by decide, by decide, by decide +kernel⟩
theorem vxX5_settle : am_vi MX5_settle := ⟨List.mem_of_getElem? (i := 906) (by decide +kernel), List.mem_of_getElem? (i := 30) (by decide +kernel)⟩
set_option maxRecDepth 100000 in
theorem myX5_pushDays : am_my MX5_pushDays 2 := ⟨List.mem_of_getElem? (i := 914) rfl, List.mem_of_getElem? (i := 77) (by decide +kernel), by decide, by decide, by decide +kernel⟩
theorem vxX5_pushDays : am_vi MX5_pushDays := ⟨List.mem_of_getElem? (i := 913) (by decide +kernel), List.mem_of_getElem? (i := 31) (by decide +kernel)⟩
set_option maxRecDepth 100000 in
theorem myX5_pushTo : am_my MX5_pushTo 2 := ⟨List.mem_of_getElem? (i := 918) rfl, List.mem_of_getElem? (i := 77) (by decide +kernel), by decide, by decide, by decide +kernel⟩
theorem vxX5_pushTo : am_vi MX5_pushTo := ⟨List.mem_of_getElem? (i := 917) (by decide +kernel), List.mem_of_getElem? (i := 32) (by decide +kernel)⟩
set_option maxRecDepth 100000 in
theorem myX5_areWithin : am_my MX5_areWithin 3 := ⟨List.mem_of_getElem? (i := 923) rfl, List.mem_of_getElem? (i := 77) (by decide +kernel), by decide, by decide, by decide +kernel⟩
theorem vxX5_areWithin : am_vi MX5_areWithin := ⟨List.mem_of_getElem? (i := 922) (by decide +kernel), List.mem_of_getElem? (i := 33) (by decide +kernel)⟩
set_option maxRecDepth 100000 in
theorem myX6_init : am_my MX6_init 0 := ⟨List.mem_of_getElem? (i := 98) rfl, List.mem_of_getElem? (i := 70) (by decide +kernel), by decide, by decide, by decide +kernel⟩
theorem nxX6_init : am_in0 MX6_init := ⟨List.mem_of_getElem? (i := 97) (by decide +kernel), rfl⟩
set_option maxRecDepth 100000 in
theorem myX6_addTwenty : am_my MX6_addTwenty 5 := ⟨List.mem_of_getElem? (i := 414) rfl, List.mem_of_getElem? (i := 70) (by decide +kernel), by decide, by decide, by decide +kernel⟩
theorem vxX6_addTwenty : am_vi MX6_addTwenty := ⟨List.mem_of_getElem? (i := 412) (by decide +kernel), List.mem_of_getElem? (i := 413) (by decide +kernel)⟩
set_option maxRecDepth 100000 in
theorem myX6_addFour : am_my MX6_addFour 1 := ⟨List.mem_of_getElem? (i := 418) rfl, List.mem_of_getElem? (i := 70) (by decide +kernel), by decide, by decide, by decide +kernel⟩
theorem vxX6_addFour : am_vi MX6_addFour := ⟨List.mem_of_getElem? (i := 417) (by decide +kernel), List.mem_of_getElem? (i := 0) (by decide +kernel)⟩
set_option maxRecDepth 100000 in
theorem myX6_drop : am_my MX6_drop 1 := ⟨List.mem_of_getElem? (i := 426) rfl, List.mem_of_getElem? (i := 70) (by decide +kernel), by decide, by decide, by decide +kernel⟩
theorem vxX6_drop : am_vi MX6_drop := ⟨List.mem_of_getElem? (i := 424) (by decide +kernel), List.mem_of_getElem? (i := 425) (by decide +kernel)⟩
set_option maxRecDepth 100000 in
theorem myX6_clear : am_my MX6_clear 0 := ⟨List.mem_of_getElem? (i := 621) rfl, List.mem_of_getElem? (i := 70) (by decide +kernel), by decide, by decide, by decide +kernel⟩
theorem vxX6_clear : am_vi MX6_clear := ⟨List.mem_of_getElem? (i := 619) (by decide +kernel), List.mem_of_getElem? (i := 620) (by decide +kernel)⟩
set_option maxRecDepth 100000 in
theorem myX6_rewind : am_my MX6_rewind 0 := ⟨List.mem_of_getElem? (i := 449) rfl, List.mem_of_getElem? (i := 70) (by decide +kernel), by decide, by decide, by decide +kernel⟩
theorem vxX6_rewind : am_vi MX6_rewind := ⟨List.mem_of_getElem? (i := 447) (by decide +kernel), List.mem_of_getElem? (i := 448) (by decide +kernel)⟩
set_option maxRecDepth 100000 in
theorem myX6_advance : am_my MX6_advance 0 := ⟨List.mem_of_getElem? (i := 457) rfl, List.mem_of_getElem? (i := 70) (by decide +kernel), by decide, by decide, by decide +kernel⟩
theorem vxX6_advance : am_vi MX6_advance := ⟨List.mem_of_getElem? (i := 455) (by decide +kernel), List.mem_of_getElem? (i := 456) (by decide +kernel)⟩
set_option maxRecDepth 100000 in
theorem myX6_isBlank : am_my MX6_isBlank 1 := ⟨List.mem_of_getElem? (i := 460) rfl, List.mem_of_getElem? (i := 70) (by decide +kernel), by decide, by decide, by decide +kernel⟩
theorem sxX6_isBlank : am_sta MX6_isBlank := List.mem_of_getElem? (i := 459) (by decide +kernel)
set_option maxRecDepth 100000 in
theorem myX6_isLetter : am_my MX6_isLetter 1 := ⟨List.mem_of_getElem? (i := 463) rfl, List.mem_of_getElem? (i := 70) (by decide +kernel), by decide, by decide, by decide +kernel⟩
theorem sxX6_isLetter : am_sta MX6_isLetter := List.mem_of_getElem? (i := 462) (by decide +kernel)
set_option maxRecDepth 100000 in
theorem myX6_isDigit : am_my MX6_isDigit 1 := ⟨List.mem_of_getElem? (i := 523) rfl, List.mem_of_getElem? (i := 70) (by decide +kernel), by decide, by decide, by decide +kernel⟩
theorem sxX6_isDigit : am_sta MX6_isDigit := List.mem_of_getElem? (i := 522) (by decide +kernel)
set_option maxRecDepth 100000 in
theorem myX6_takeWord : am_my MX6_takeWord 0 := ⟨List.mem_of_getElem? (i := 467) rfl, List.mem_of_getElem? (i := 70) (by decide +kernel), by decide, by decide, by decide +kernel⟩
theorem vxX6_takeWord : am_vi MX6_takeWord := ⟨List.mem_of_getElem? (i := 466) (by decide +kernel), List.mem_of_getElem? (i := 2) (by decide +kernel)⟩
set_option maxRecDepth 100000 in
theorem myX6_wordOf : am_my MX6_wordOf 2 := ⟨List.mem_of_getElem? (i := 471) rfl, List.mem_of_getElem? (i := 70) (by decide +kernel), by decide, by decide, by decide +kernel⟩
theorem vxX6_wordOf : am_vi MX6_wordOf := ⟨List.mem_of_getElem? (i := 470) (by decide +kernel), List.mem_of_getElem? (i := 3) (by decide +kernel)⟩
set_option maxRecDepth 100000 in
theorem myX6_takeInt : am_my MX6_takeInt 0 := ⟨List.mem_of_getElem? (i := 527) rfl, List.mem_of_getElem? (i := 70) (by decide +kernel), by decide, by decide, by decide +kernel⟩
theorem vxX6_takeInt : am_vi MX6_takeInt := ⟨List.mem_of_getElem? (i := 526) (by decide +kernel), List.mem_of_getElem? (i := 4) (by decide +kernel)⟩
set_option maxRecDepth 100000 in
theorem myX6_takeSign : am_my MX6_takeSign 1 := ⟨List.mem_of_getElem? (i := 531) rfl, List.mem_of_getElem? (i := 70) (by decide +kernel), by decide, by decide, by decide +kernel⟩
theorem vxX6_takeSign : am_vi MX6_takeSign := ⟨List.mem_of_getElem? (i := 530) (by decide +kernel), List.mem_of_getElem? (i := 5) (by decide +kernel)⟩
set_option maxRecDepth 100000 in
theorem myX6_signOf : am_my MX6_signOf 2 := ⟨List.mem_of_getElem? (i := 534) rfl, List.mem_of_getElem? (i := 70) (by decide +kernel), by decide, by decide, by decide +kernel⟩
theorem sxX6_signOf : am_sta MX6_signOf := List.mem_of_getElem? (i := 533) (by decide +kernel)
set_option maxRecDepth 100000 in
theorem myX7_init : am_my MX7_init 0 := ⟨List.mem_of_getElem? (i := 213) rfl, List.mem_of_getElem? (i := 74) (by decide +kernel), by decide, by decide, by decide +kernel⟩
theorem nxX7_init : am_in0 MX7_init := ⟨List.mem_of_getElem? (i := 212) (by decide +kernel), rfl⟩
set_option maxRecDepth 100000 in
theorem myX7_has : am_my MX7_has 1 := ⟨List.mem_of_getElem? (i := 643) rfl, List.mem_of_getElem? (i := 74) (by decide +kernel), by decide, by decide, by decide +kernel⟩
theorem vxX7_has : am_vi MX7_has := ⟨List.mem_of_getElem? (i := 641) (by decide +kernel), List.mem_of_getElem? (i := 642) (by decide +kernel)⟩
set_option maxRecDepth 100000 in
theorem myX7_add : am_my MX7_add 1 := ⟨List.mem_of_getElem? (i := 648) rfl, List.mem_of_getElem? (i := 74) (by decide +kernel), by decide, by decide, by decide +kernel⟩
theorem vxX7_add : am_vi MX7_add := ⟨List.mem_of_getElem? (i := 646) (by decide +kernel), List.mem_of_getElem? (i := 647) (by decide +kernel)⟩
set_option maxRecDepth 100000 in
theorem myX7_lineOf : am_my MX7_lineOf 1 := ⟨List.mem_of_getElem? (i := 652) rfl, List.mem_of_getElem? (i := 74) (by decide +kernel), by decide, by decide, by decide +kernel⟩
theorem vxX7_lineOf : am_vi MX7_lineOf := ⟨List.mem_of_getElem? (i := 650) (by decide +kernel), List.mem_of_getElem? (i := 651) (by decide +kernel)⟩
set_option maxRecDepth 100000 in
theorem myX8_init : am_my MX8_init 0 := ⟨List.mem_of_getElem? (i := 191) rfl, List.mem_of_getElem? (i := 73) (by decide +kernel), by decide, by decide, by decide +kernel⟩
theorem nxX8_init : am_in0 MX8_init := ⟨List.mem_of_getElem? (i := 190) (by decide +kernel), rfl⟩
set_option maxRecDepth 100000 in
theorem myX8_has : am_my MX8_has 1 := ⟨List.mem_of_getElem? (i := 434) rfl, List.mem_of_getElem? (i := 73) (by decide +kernel), by decide, by decide, by decide +kernel⟩
theorem vxX8_has : am_vi MX8_has := ⟨List.mem_of_getElem? (i := 432) (by decide +kernel), List.mem_of_getElem? (i := 433) (by decide +kernel)⟩
set_option maxRecDepth 100000 in
theorem myX8_add : am_my MX8_add 4 := ⟨List.mem_of_getElem? (i := 634) rfl, List.mem_of_getElem? (i := 73) (by decide +kernel), by decide, by decide, by decide +kernel⟩
theorem vxX8_add : am_vi MX8_add := ⟨List.mem_of_getElem? (i := 632) (by decide +kernel), List.mem_of_getElem? (i := 633) (by decide +kernel)⟩
set_option maxRecDepth 100000 in
theorem myX8_setDeath : am_my MX8_setDeath 2 := ⟨List.mem_of_getElem? (i := 701) rfl, List.mem_of_getElem? (i := 73) (by decide +kernel), by decide, by decide, by decide +kernel⟩
theorem vxX8_setDeath : am_vi MX8_setDeath := ⟨List.mem_of_getElem? (i := 699) (by decide +kernel), List.mem_of_getElem? (i := 700) (by decide +kernel)⟩
set_option maxRecDepth 100000 in
theorem myX8_deathOf : am_my MX8_deathOf 1 := ⟨List.mem_of_getElem? (i := 738) rfl, List.mem_of_getElem? (i := 73) (by decide +kernel), by decide, by decide, by decide +kernel⟩
theorem vxX8_deathOf : am_vi MX8_deathOf := ⟨List.mem_of_getElem? (i := 736) (by decide +kernel), List.mem_of_getElem? (i := 737) (by decide +kernel)⟩
set_option maxRecDepth 100000 in
theorem myX8_consentOf : am_my MX8_consentOf 1 := ⟨List.mem_of_getElem? (i := 760) rfl, List.mem_of_getElem? (i := 73) (by decide +kernel), by decide, by decide, by decide +kernel⟩
theorem vxX8_consentOf : am_vi MX8_consentOf := ⟨List.mem_of_getElem? (i := 758) (by decide +kernel), List.mem_of_getElem? (i := 759) (by decide +kernel)⟩
set_option maxRecDepth 100000 in
theorem myX8_exchangeConsent : am_my MX8_exchangeConsent 2 := ⟨List.mem_of_getElem? (i := 616) rfl, List.mem_of_getElem? (i := 73) (by decide +kernel), by decide, by decide, by decide +kernel⟩
theorem vxX8_exchangeConsent : am_vi MX8_exchangeConsent := ⟨List.mem_of_getElem? (i := 614) (by decide +kernel), List.mem_of_getElem? (i := 615) (by decide +kernel)⟩
set_option maxRecDepth 100000 in
theorem myX8_alikeTo : am_my MX8_alikeTo 2 := ⟨List.mem_of_getElem? (i := 841) rfl, List.mem_of_getElem? (i := 73) (by decide +kernel), by decide, by decide, by decide +kernel⟩
theorem vxX8_alikeTo : am_vi MX8_alikeTo := ⟨List.mem_of_getElem? (i := 839) (by decide +kernel), List.mem_of_getElem? (i := 840) (by decide +kernel)⟩
set_option maxRecDepth 100000 in
theorem myX8_areAlike : am_my MX8_areAlike 3 := ⟨List.mem_of_getElem? (i := 845) rfl, List.mem_of_getElem? (i := 73) (by decide +kernel), by decide, by decide, by decide +kernel⟩
theorem vxX8_areAlike : am_vi MX8_areAlike := ⟨List.mem_of_getElem? (i := 844) (by decide +kernel), List.mem_of_getElem? (i := 27) (by decide +kernel)⟩
set_option maxRecDepth 100000 in
theorem myX9_init : am_my MX9_init 0 := ⟨List.mem_of_getElem? (i := 90) rfl, List.mem_of_getElem? (i := 69) (by decide +kernel), by decide, by decide, by decide +kernel⟩
theorem nxX9_init : am_in0 MX9_init := ⟨List.mem_of_getElem? (i := 89) (by decide +kernel), rfl⟩
set_option maxRecDepth 100000 in
theorem myX9_feed : am_my MX9_feed 5 := ⟨List.mem_of_getElem? (i := 410) rfl, List.mem_of_getElem? (i := 69) (by decide +kernel), by decide, by decide, by decide +kernel⟩
theorem vxX9_feed : am_vi MX9_feed := ⟨List.mem_of_getElem? (i := 408) (by decide +kernel), List.mem_of_getElem? (i := 409) (by decide +kernel)⟩
set_option maxRecDepth 100000 in
theorem myX9_back : am_my MX9_back 1 := ⟨List.mem_of_getElem? (i := 422) rfl, List.mem_of_getElem? (i := 69) (by decide +kernel), by decide, by decide, by decide +kernel⟩
theorem vxX9_back : am_vi MX9_back := ⟨List.mem_of_getElem? (i := 420) (by decide +kernel), List.mem_of_getElem? (i := 421) (by decide +kernel)⟩
set_option maxRecDepth 100000 in
theorem myX9_read : am_my MX9_read 1 := ⟨List.mem_of_getElem? (i := 430) rfl, List.mem_of_getElem? (i := 69) (by decide +kernel), by decide, by decide, by decide +kernel⟩
theorem vxX9_read : am_vi MX9_read := ⟨List.mem_of_getElem? (i := 428) (by decide +kernel), List.mem_of_getElem? (i := 429) (by decide +kernel)⟩
set_option maxRecDepth 100000 in
theorem myX9_place : am_my MX9_place 0 := ⟨List.mem_of_getElem? (i := 625) rfl, List.mem_of_getElem? (i := 69) (by decide +kernel), by decide, by decide, by decide +kernel⟩
theorem vxX9_place : am_vi MX9_place := ⟨List.mem_of_getElem? (i := 623) (by decide +kernel), List.mem_of_getElem? (i := 624) (by decide +kernel)⟩
set_option maxRecDepth 100000 in
theorem myX9_person : am_my MX9_person 4 := ⟨List.mem_of_getElem? (i := 629) rfl, List.mem_of_getElem? (i := 69) (by decide +kernel), by decide, by decide, by decide +kernel⟩
theorem vxX9_person : am_vi MX9_person := ⟨List.mem_of_getElem? (i := 627) (by decide +kernel), List.mem_of_getElem? (i := 628) (by decide +kernel)⟩
set_option maxRecDepth 100000 in
theorem myX9_topic : am_my MX9_topic 1 := ⟨List.mem_of_getElem? (i := 639) rfl, List.mem_of_getElem? (i := 69) (by decide +kernel), by decide, by decide, by decide +kernel⟩
theorem vxX9_topic : am_vi MX9_topic := ⟨List.mem_of_getElem? (i := 637) (by decide +kernel), List.mem_of_getElem? (i := 638) (by decide +kernel)⟩
set_option maxRecDepth 100000 in
theorem myX9_tape : am_my MX9_tape 3 := ⟨List.mem_of_getElem? (i := 657) rfl, List.mem_of_getElem? (i := 69) (by decide +kernel), by decide, by decide, by decide +kernel⟩
theorem vxX9_tape : am_vi MX9_tape := ⟨List.mem_of_getElem? (i := 655) (by decide +kernel), List.mem_of_getElem? (i := 656) (by decide +kernel)⟩
set_option maxRecDepth 100000 in
theorem myX9_piece : am_my MX9_piece 6 := ⟨List.mem_of_getElem? (i := 668) rfl, List.mem_of_getElem? (i := 69) (by decide +kernel), by decide, by decide, by decide +kernel⟩
theorem vxX9_piece : am_vi MX9_piece := ⟨List.mem_of_getElem? (i := 666) (by decide +kernel), List.mem_of_getElem? (i := 667) (by decide +kernel)⟩
set_option maxRecDepth 100000 in
theorem myX9_asker : am_my MX9_asker 1 := ⟨List.mem_of_getElem? (i := 681) rfl, List.mem_of_getElem? (i := 69) (by decide +kernel), by decide, by decide, by decide +kernel⟩
theorem vxX9_asker : am_vi MX9_asker := ⟨List.mem_of_getElem? (i := 679) (by decide +kernel), List.mem_of_getElem? (i := 680) (by decide +kernel)⟩
set_option maxRecDepth 100000 in
theorem myX9_copy : am_my MX9_copy 1 := ⟨List.mem_of_getElem? (i := 689) rfl, List.mem_of_getElem? (i := 69) (by decide +kernel), by decide, by decide, by decide +kernel⟩
theorem vxX9_copy : am_vi MX9_copy := ⟨List.mem_of_getElem? (i := 687) (by decide +kernel), List.mem_of_getElem? (i := 688) (by decide +kernel)⟩
set_option maxRecDepth 100000 in
theorem myX9_bound : am_my MX9_bound 1 := ⟨List.mem_of_getElem? (i := 693) rfl, List.mem_of_getElem? (i := 69) (by decide +kernel), by decide, by decide, by decide +kernel⟩
theorem vxX9_bound : am_vi MX9_bound := ⟨List.mem_of_getElem? (i := 691) (by decide +kernel), List.mem_of_getElem? (i := 692) (by decide +kernel)⟩
set_option maxRecDepth 100000 in
theorem myX9_dies : am_my MX9_dies 2 := ⟨List.mem_of_getElem? (i := 697) rfl, List.mem_of_getElem? (i := 69) (by decide +kernel), by decide, by decide, by decide +kernel⟩
theorem vxX9_dies : am_vi MX9_dies := ⟨List.mem_of_getElem? (i := 695) (by decide +kernel), List.mem_of_getElem? (i := 696) (by decide +kernel)⟩
set_option maxRecDepth 100000 in
theorem myX9_takes : am_my MX9_takes 2 := ⟨List.mem_of_getElem? (i := 705) rfl, List.mem_of_getElem? (i := 69) (by decide +kernel), by decide, by decide, by decide +kernel⟩
theorem vxX9_takes : am_vi MX9_takes := ⟨List.mem_of_getElem? (i := 703) (by decide +kernel), List.mem_of_getElem? (i := 704) (by decide +kernel)⟩
set_option maxRecDepth 100000 in
theorem myX9_let : am_my MX9_let 4 := ⟨List.mem_of_getElem? (i := 717) rfl, List.mem_of_getElem? (i := 69) (by decide +kernel), by decide, by decide, by decide +kernel⟩
theorem vxX9_let : am_vi MX9_let := ⟨List.mem_of_getElem? (i := 715) (by decide +kernel), List.mem_of_getElem? (i := 716) (by decide +kernel)⟩
set_option maxRecDepth 100000 in
theorem myX9_mask : am_my MX9_mask 4 := ⟨List.mem_of_getElem? (i := 799) rfl, List.mem_of_getElem? (i := 69) (by decide +kernel), by decide, by decide, by decide +kernel⟩
theorem vxX9_mask : am_vi MX9_mask := ⟨List.mem_of_getElem? (i := 797) (by decide +kernel), List.mem_of_getElem? (i := 798) (by decide +kernel)⟩
set_option maxRecDepth 100000 in
theorem myX9_would : am_my MX9_would 5 := ⟨List.mem_of_getElem? (i := 807) rfl, List.mem_of_getElem? (i := 69) (by decide +kernel), by decide, by decide, by decide +kernel⟩
theorem vxX9_would : am_vi MX9_would := ⟨List.mem_of_getElem? (i := 805) (by decide +kernel), List.mem_of_getElem? (i := 806) (by decide +kernel)⟩
set_option maxRecDepth 100000 in
theorem myX9_ask : am_my MX9_ask 5 := ⟨List.mem_of_getElem? (i := 853) rfl, List.mem_of_getElem? (i := 69) (by decide +kernel), by decide, by decide, by decide +kernel⟩
theorem vxX9_ask : am_vi MX9_ask := ⟨List.mem_of_getElem? (i := 851) (by decide +kernel), List.mem_of_getElem? (i := 852) (by decide +kernel)⟩
set_option maxRecDepth 100000 in
theorem myX9_heard : am_my MX9_heard 2 := ⟨List.mem_of_getElem? (i := 862) rfl, List.mem_of_getElem? (i := 69) (by decide +kernel), by decide, by decide, by decide +kernel⟩
theorem vxX9_heard : am_vi MX9_heard := ⟨List.mem_of_getElem? (i := 860) (by decide +kernel), List.mem_of_getElem? (i := 861) (by decide +kernel)⟩
set_option maxRecDepth 100000 in
theorem myX9_could : am_my MX9_could 2 := ⟨List.mem_of_getElem? (i := 866) rfl, List.mem_of_getElem? (i := 69) (by decide +kernel), by decide, by decide, by decide +kernel⟩
theorem vxX9_could : am_vi MX9_could := ⟨List.mem_of_getElem? (i := 864) (by decide +kernel), List.mem_of_getElem? (i := 865) (by decide +kernel)⟩
set_option maxRecDepth 100000 in
theorem myX9_seconds : am_my MX9_seconds 2 := ⟨List.mem_of_getElem? (i := 870) rfl, List.mem_of_getElem? (i := 69) (by decide +kernel), by decide, by decide, by decide +kernel⟩
theorem vxX9_seconds : am_vi MX9_seconds := ⟨List.mem_of_getElem? (i := 868) (by decide +kernel), List.mem_of_getElem? (i := 869) (by decide +kernel)⟩
set_option maxRecDepth 100000 in
theorem myX9_opens : am_my MX9_opens 4 := ⟨List.mem_of_getElem? (i := 874) rfl, List.mem_of_getElem? (i := 69) (by decide +kernel), by decide, by decide, by decide +kernel⟩
theorem vxX9_opens : am_vi MX9_opens := ⟨List.mem_of_getElem? (i := 872) (by decide +kernel), List.mem_of_getElem? (i := 873) (by decide +kernel)⟩
set_option maxRecDepth 100000 in
theorem myX9_at : am_my MX9_at 2 := ⟨List.mem_of_getElem? (i := 878) rfl, List.mem_of_getElem? (i := 69) (by decide +kernel), by decide, by decide, by decide +kernel⟩
theorem vxX9_at : am_vi MX9_at := ⟨List.mem_of_getElem? (i := 876) (by decide +kernel), List.mem_of_getElem? (i := 877) (by decide +kernel)⟩
set_option maxRecDepth 100000 in
theorem myX9_span : am_my MX9_span 3 := ⟨List.mem_of_getElem? (i := 886) rfl, List.mem_of_getElem? (i := 69) (by decide +kernel), by decide, by decide, by decide +kernel⟩
theorem vxX9_span : am_vi MX9_span := ⟨List.mem_of_getElem? (i := 884) (by decide +kernel), List.mem_of_getElem? (i := 885) (by decide +kernel)⟩
set_option maxRecDepth 100000 in
theorem myX9_behind : am_my MX9_behind 3 := ⟨List.mem_of_getElem? (i := 927) rfl, List.mem_of_getElem? (i := 69) (by decide +kernel), by decide, by decide, by decide +kernel⟩
theorem vxX9_behind : am_vi MX9_behind := ⟨List.mem_of_getElem? (i := 925) (by decide +kernel), List.mem_of_getElem? (i := 926) (by decide +kernel)⟩
set_option maxRecDepth 100000 in
theorem myX9_same : am_my MX9_same 2 := ⟨List.mem_of_getElem? (i := 934) rfl, List.mem_of_getElem? (i := 69) (by decide +kernel), by decide, by decide, by decide +kernel⟩
theorem vxX9_same : am_vi MX9_same := ⟨List.mem_of_getElem? (i := 932) (by decide +kernel), List.mem_of_getElem? (i := 933) (by decide +kernel)⟩
set_option maxRecDepth 100000 in
theorem myX9_left : am_my MX9_left 1 := ⟨List.mem_of_getElem? (i := 938) rfl, List.mem_of_getElem? (i := 69) (by decide +kernel), by decide, by decide, by decide +kernel⟩
theorem vxX9_left : am_vi MX9_left := ⟨List.mem_of_getElem? (i := 936) (by decide +kernel), List.mem_of_getElem? (i := 937) (by decide +kernel)⟩
set_option maxRecDepth 100000 in
theorem myX9_when : am_my MX9_when 3 := ⟨List.mem_of_getElem? (i := 946) rfl, List.mem_of_getElem? (i := 69) (by decide +kernel), by decide, by decide, by decide +kernel⟩
theorem vxX9_when : am_vi MX9_when := ⟨List.mem_of_getElem? (i := 944) (by decide +kernel), List.mem_of_getElem? (i := 945) (by decide +kernel)⟩
set_option maxRecDepth 100000 in
theorem myX9_count : am_my MX9_count 1 := ⟨List.mem_of_getElem? (i := 954) rfl, List.mem_of_getElem? (i := 69) (by decide +kernel), by decide, by decide, by decide +kernel⟩
theorem vxX9_count : am_vi MX9_count := ⟨List.mem_of_getElem? (i := 952) (by decide +kernel), List.mem_of_getElem? (i := 953) (by decide +kernel)⟩
set_option maxRecDepth 100000 in
theorem myX9_isBelow : am_my MX9_isBelow 2 := ⟨List.mem_of_getElem? (i := 437) rfl, List.mem_of_getElem? (i := 69) (by decide +kernel), by decide, by decide, by decide +kernel⟩
theorem sxX9_isBelow : am_sta MX9_isBelow := List.mem_of_getElem? (i := 436) (by decide +kernel)
set_option maxRecDepth 100000 in
theorem myX9_isDay : am_my MX9_isDay 1 := ⟨List.mem_of_getElem? (i := 660) rfl, List.mem_of_getElem? (i := 69) (by decide +kernel), by decide, by decide, by decide +kernel⟩
theorem sxX9_isDay : am_sta MX9_isDay := List.mem_of_getElem? (i := 659) (by decide +kernel)
set_option maxRecDepth 100000 in
theorem myX9_isEvent : am_my MX9_isEvent 1 := ⟨List.mem_of_getElem? (i := 889) rfl, List.mem_of_getElem? (i := 69) (by decide +kernel), by decide, by decide, by decide +kernel⟩
theorem sxX9_isEvent : am_sta MX9_isEvent := List.mem_of_getElem? (i := 888) (by decide +kernel)
set_option maxRecDepth 100000 in
theorem myX9_isVar : am_my MX9_isVar 1 := ⟨List.mem_of_getElem? (i := 551) rfl, List.mem_of_getElem? (i := 69) (by decide +kernel), by decide, by decide, by decide +kernel⟩
theorem sxX9_isVar : am_sta MX9_isVar := List.mem_of_getElem? (i := 550) (by decide +kernel)
set_option maxRecDepth 100000 in
theorem myX9_isOperator : am_my MX9_isOperator 1 := ⟨List.mem_of_getElem? (i := 557) rfl, List.mem_of_getElem? (i := 69) (by decide +kernel), by decide, by decide, by decide +kernel⟩
theorem sxX9_isOperator : am_sta MX9_isOperator := List.mem_of_getElem? (i := 556) (by decide +kernel)
set_option maxRecDepth 100000 in
theorem myX9_areTwoEvents : am_my MX9_areTwoEvents 2 := ⟨List.mem_of_getElem? (i := 930) rfl, List.mem_of_getElem? (i := 69) (by decide +kernel), by decide, by decide, by decide +kernel⟩
theorem sxX9_areTwoEvents : am_sta MX9_areTwoEvents := List.mem_of_getElem? (i := 929) (by decide +kernel)
set_option maxRecDepth 100000 in
theorem myX9_isQuestion : am_my MX9_isQuestion 4 := ⟨List.mem_of_getElem? (i := 721) rfl, List.mem_of_getElem? (i := 69) (by decide +kernel), by decide, by decide, by decide +kernel⟩
theorem vxX9_isQuestion : am_vi MX9_isQuestion := ⟨List.mem_of_getElem? (i := 720) (by decide +kernel), List.mem_of_getElem? (i := 17) (by decide +kernel)⟩
set_option maxRecDepth 100000 in
theorem myX9_isAsking : am_my MX9_isAsking 5 := ⟨List.mem_of_getElem? (i := 811) rfl, List.mem_of_getElem? (i := 69) (by decide +kernel), by decide, by decide, by decide +kernel⟩
theorem vxX9_isAsking : am_vi MX9_isAsking := ⟨List.mem_of_getElem? (i := 810) (by decide +kernel), List.mem_of_getElem? (i := 23) (by decide +kernel)⟩
set_option maxRecDepth 100000 in
theorem myX9_pose : am_my MX9_pose 4 := ⟨List.mem_of_getElem? (i := 726) rfl, List.mem_of_getElem? (i := 69) (by decide +kernel), by decide, by decide, by decide +kernel⟩
theorem vxX9_pose : am_vi MX9_pose := ⟨List.mem_of_getElem? (i := 725) (by decide +kernel), List.mem_of_getElem? (i := 18) (by decide +kernel)⟩
set_option maxRecDepth 100000 in
theorem myX9_answerTo : am_my MX9_answerTo 5 := ⟨List.mem_of_getElem? (i := 820) rfl, List.mem_of_getElem? (i := 69) (by decide +kernel), by decide, by decide, by decide +kernel⟩
theorem vxX9_answerTo : am_vi MX9_answerTo := ⟨List.mem_of_getElem? (i := 819) (by decide +kernel), List.mem_of_getElem? (i := 24) (by decide +kernel)⟩
set_option maxRecDepth 100000 in
theorem myX9_wouldUnmask : am_my MX9_wouldUnmask 2 := ⟨List.mem_of_getElem? (i := 829) rfl, List.mem_of_getElem? (i := 69) (by decide +kernel), by decide, by decide, by decide +kernel⟩
theorem vxX9_wouldUnmask : am_vi MX9_wouldUnmask := ⟨List.mem_of_getElem? (i := 828) (by decide +kernel), List.mem_of_getElem? (i := 25) (by decide +kernel)⟩
set_option maxRecDepth 100000 in
theorem myX9_knownTraits : am_my MX9_knownTraits 2 := ⟨List.mem_of_getElem? (i := 833) rfl, List.mem_of_getElem? (i := 69) (by decide +kernel), by decide, by decide, by decide +kernel⟩
theorem vxX9_knownTraits : am_vi MX9_knownTraits := ⟨List.mem_of_getElem? (i := 832) (by decide +kernel), List.mem_of_getElem? (i := 26) (by decide +kernel)⟩
set_option maxRecDepth 100000 in
theorem myX9_knowsByName : am_my MX9_knowsByName 2 := ⟨List.mem_of_getElem? (i := 849) rfl, List.mem_of_getElem? (i := 69) (by decide +kernel), by decide, by decide, by decide +kernel⟩
theorem vxX9_knowsByName : am_vi MX9_knowsByName := ⟨List.mem_of_getElem? (i := 848) (by decide +kernel), List.mem_of_getElem? (i := 28) (by decide +kernel)⟩
set_option maxRecDepth 100000 in
theorem myX10_init : am_my MX10_init 0 := ⟨List.mem_of_getElem? (i := 959) rfl, List.mem_of_getElem? (i := 79) (by decide +kernel), by decide, by decide, by decide +kernel⟩
theorem nxX10_init : am_in0 MX10_init := ⟨List.mem_of_getElem? (i := 958) (by decide +kernel), rfl⟩
set_option maxRecDepth 100000 in
theorem myX10_feed : am_my MX10_feed 5 := ⟨List.mem_of_getElem? (i := 1179) rfl, List.mem_of_getElem? (i := 79) (by decide +kernel), by decide, by decide, by decide +kernel⟩
theorem vxX10_feed : am_vi MX10_feed := ⟨List.mem_of_getElem? (i := 1177) (by decide +kernel), List.mem_of_getElem? (i := 1178) (by decide +kernel)⟩
set_option maxRecDepth 100000 in
theorem myX10_put : am_my MX10_put 1 := ⟨List.mem_of_getElem? (i := 1183) rfl, List.mem_of_getElem? (i := 79) (by decide +kernel), by decide, by decide, by decide +kernel⟩
theorem vxX10_put : am_vi MX10_put := ⟨List.mem_of_getElem? (i := 1182) (by decide +kernel), List.mem_of_getElem? (i := 34) (by decide +kernel)⟩
set_option maxRecDepth 100000 in
theorem myX10_back : am_my MX10_back 1 := ⟨List.mem_of_getElem? (i := 1187) rfl, List.mem_of_getElem? (i := 79) (by decide +kernel), by decide, by decide, by decide +kernel⟩
theorem vxX10_back : am_vi MX10_back := ⟨List.mem_of_getElem? (i := 1185) (by decide +kernel), List.mem_of_getElem? (i := 1186) (by decide +kernel)⟩
set_option maxRecDepth 100000 in
theorem myX10_at : am_my MX10_at 1 := ⟨List.mem_of_getElem? (i := 1203) rfl, List.mem_of_getElem? (i := 79) (by decide +kernel), by decide, by decide, by decide +kernel⟩
theorem vxX10_at : am_vi MX10_at := ⟨List.mem_of_getElem? (i := 1202) (by decide +kernel), List.mem_of_getElem? (i := 37) (by decide +kernel)⟩
set_option maxRecDepth 100000 in
theorem myX10_isDigit : am_my MX10_isDigit 1 := ⟨List.mem_of_getElem? (i := 1213) rfl, List.mem_of_getElem? (i := 79) (by decide +kernel), by decide, by decide, by decide +kernel⟩
theorem sxX10_isDigit : am_sta MX10_isDigit := List.mem_of_getElem? (i := 1212) (by decide +kernel)
set_option maxRecDepth 100000 in
theorem myX10_isLetter : am_my MX10_isLetter 1 := ⟨List.mem_of_getElem? (i := 1210) rfl, List.mem_of_getElem? (i := 79) (by decide +kernel), by decide, by decide, by decide +kernel⟩
theorem sxX10_isLetter : am_sta MX10_isLetter := List.mem_of_getElem? (i := 1209) (by decide +kernel)
set_option maxRecDepth 100000 in
theorem myX10_more : am_my MX10_more 2 := ⟨List.mem_of_getElem? (i := 966) rfl, List.mem_of_getElem? (i := 79) (by decide +kernel), by decide, by decide, by decide +kernel⟩
theorem sxX10_more : am_sta MX10_more := List.mem_of_getElem? (i := 965) (by decide +kernel)
set_option maxRecDepth 100000 in
theorem myX10_word : am_my MX10_word 7 := ⟨List.mem_of_getElem? (i := 963) rfl, List.mem_of_getElem? (i := 79) (by decide +kernel), by decide, by decide, by decide +kernel⟩
theorem sxX10_word : am_sta MX10_word := List.mem_of_getElem? (i := 962) (by decide +kernel)
set_option maxRecDepth 100000 in
theorem myX10_token : am_my MX10_token 4 := ⟨List.mem_of_getElem? (i := 1207) rfl, List.mem_of_getElem? (i := 79) (by decide +kernel), by decide, by decide, by decide +kernel⟩
theorem vxX10_token : am_vi MX10_token := ⟨List.mem_of_getElem? (i := 1206) (by decide +kernel), List.mem_of_getElem? (i := 38) (by decide +kernel)⟩
set_option maxRecDepth 100000 in
theorem myX10_cut : am_my MX10_cut 0 := ⟨List.mem_of_getElem? (i := 1199) rfl, List.mem_of_getElem? (i := 79) (by decide +kernel), by decide, by decide, by decide +kernel⟩
theorem vxX10_cut : am_vi MX10_cut := ⟨List.mem_of_getElem? (i := 1198) (by decide +kernel), List.mem_of_getElem? (i := 36) (by decide +kernel)⟩
set_option maxRecDepth 100000 in
theorem myX10_sign : am_my MX10_sign 3 := ⟨List.mem_of_getElem? (i := 1217) rfl, List.mem_of_getElem? (i := 79) (by decide +kernel), by decide, by decide, by decide +kernel⟩
theorem vxX10_sign : am_vi MX10_sign := ⟨List.mem_of_getElem? (i := 1216) (by decide +kernel), List.mem_of_getElem? (i := 39) (by decide +kernel)⟩
set_option maxRecDepth 100000 in
theorem myX10_is : am_my MX10_is 1 := ⟨List.mem_of_getElem? (i := 1221) rfl, List.mem_of_getElem? (i := 79) (by decide +kernel), by decide, by decide, by decide +kernel⟩
theorem vxX10_is : am_vi MX10_is := ⟨List.mem_of_getElem? (i := 1220) (by decide +kernel), List.mem_of_getElem? (i := 40) (by decide +kernel)⟩
set_option maxRecDepth 100000 in
theorem myX10_fail : am_my MX10_fail 1 := ⟨List.mem_of_getElem? (i := 1229) rfl, List.mem_of_getElem? (i := 79) (by decide +kernel), by decide, by decide, by decide +kernel⟩
theorem vxX10_fail : am_vi MX10_fail := ⟨List.mem_of_getElem? (i := 1228) (by decide +kernel), List.mem_of_getElem? (i := 42) (by decide +kernel)⟩
set_option maxRecDepth 100000 in
theorem myX10_wrong : am_my MX10_wrong 2 := ⟨List.mem_of_getElem? (i := 1245) rfl, List.mem_of_getElem? (i := 79) (by decide +kernel), by decide, by decide, by decide +kernel⟩
theorem vxX10_wrong : am_vi MX10_wrong := ⟨List.mem_of_getElem? (i := 1244) (by decide +kernel), List.mem_of_getElem? (i := 46) (by decide +kernel)⟩
set_option maxRecDepth 100000 in
theorem myX10_next : am_my MX10_next 0 := ⟨List.mem_of_getElem? (i := 1233) rfl, List.mem_of_getElem? (i := 79) (by decide +kernel), by decide, by decide, by decide +kernel⟩
theorem vxX10_next : am_vi MX10_next := ⟨List.mem_of_getElem? (i := 1232) (by decide +kernel), List.mem_of_getElem? (i := 43) (by decide +kernel)⟩
set_option maxRecDepth 100000 in
theorem myX10_must : am_my MX10_must 1 := ⟨List.mem_of_getElem? (i := 1241) rfl, List.mem_of_getElem? (i := 79) (by decide +kernel), by decide, by decide, by decide +kernel⟩
theorem vxX10_must : am_vi MX10_must := ⟨List.mem_of_getElem? (i := 1240) (by decide +kernel), List.mem_of_getElem? (i := 45) (by decide +kernel)⟩
set_option maxRecDepth 100000 in
theorem myX10_read : am_my MX10_read 1 := ⟨List.mem_of_getElem? (i := 1191) rfl, List.mem_of_getElem? (i := 79) (by decide +kernel), by decide, by decide, by decide +kernel⟩
theorem vxX10_read : am_vi MX10_read := ⟨List.mem_of_getElem? (i := 1189) (by decide +kernel), List.mem_of_getElem? (i := 1190) (by decide +kernel)⟩
set_option maxRecDepth 100000 in
theorem myX10_place : am_my MX10_place 0 := ⟨List.mem_of_getElem? (i := 1261) rfl, List.mem_of_getElem? (i := 79) (by decide +kernel), by decide, by decide, by decide +kernel⟩
theorem vxX10_place : am_vi MX10_place := ⟨List.mem_of_getElem? (i := 1259) (by decide +kernel), List.mem_of_getElem? (i := 1260) (by decide +kernel)⟩
set_option maxRecDepth 100000 in
theorem myX10_tellRule : am_my MX10_tellRule 0 := ⟨List.mem_of_getElem? (i := 1225) rfl, List.mem_of_getElem? (i := 79) (by decide +kernel), by decide, by decide, by decide +kernel⟩
theorem vxX10_tellRule : am_vi MX10_tellRule := ⟨List.mem_of_getElem? (i := 1224) (by decide +kernel), List.mem_of_getElem? (i := 41) (by decide +kernel)⟩
set_option maxRecDepth 100000 in
theorem myX10_literal : am_my MX10_literal 1 := ⟨List.mem_of_getElem? (i := 1237) rfl, List.mem_of_getElem? (i := 79) (by decide +kernel), by decide, by decide, by decide +kernel⟩
theorem vxX10_literal : am_vi MX10_literal := ⟨List.mem_of_getElem? (i := 1236) (by decide +kernel), List.mem_of_getElem? (i := 44) (by decide +kernel)⟩
set_option maxRecDepth 100000 in
theorem myX10_emit : am_my MX10_emit 2 := ⟨List.mem_of_getElem? (i := 1249) rfl, List.mem_of_getElem? (i := 79) (by decide +kernel), by decide, by decide, by decide +kernel⟩
theorem vxX10_emit : am_vi MX10_emit := ⟨List.mem_of_getElem? (i := 1248) (by decide +kernel), List.mem_of_getElem? (i := 47) (by decide +kernel)⟩
set_option maxRecDepth 100000 in
theorem myX10_comesOut : am_my MX10_comesOut 1 := ⟨List.mem_of_getElem? (i := 1257) rfl, List.mem_of_getElem? (i := 79) (by decide +kernel), by decide, by decide, by decide +kernel⟩
theorem vxX10_comesOut : am_vi MX10_comesOut := ⟨List.mem_of_getElem? (i := 1256) (by decide +kernel), List.mem_of_getElem? (i := 49) (by decide +kernel)⟩
set_option maxRecDepth 100000 in
theorem myX10_expression : am_my MX10_expression 0 := ⟨List.mem_of_getElem? (i := 1253) rfl, List.mem_of_getElem? (i := 79) (by decide +kernel), by decide, by decide, by decide +kernel⟩
theorem vxX10_expression : am_vi MX10_expression := ⟨List.mem_of_getElem? (i := 1252) (by decide +kernel), List.mem_of_getElem? (i := 48) (by decide +kernel)⟩
set_option maxRecDepth 100000 in
theorem myX10_isPerson : am_my MX10_isPerson 1 := ⟨List.mem_of_getElem? (i := 1195) rfl, List.mem_of_getElem? (i := 79) (by decide +kernel), by decide, by decide, by decide +kernel⟩
theorem vxX10_isPerson : am_vi MX10_isPerson := ⟨List.mem_of_getElem? (i := 1194) (by decide +kernel), List.mem_of_getElem? (i := 35) (by decide +kernel)⟩
set_option maxRecDepth 100000 in
theorem myX10_isPiece : am_my MX10_isPiece 1 := ⟨List.mem_of_getElem? (i := 1307) rfl, List.mem_of_getElem? (i := 79) (by decide +kernel), by decide, by decide, by decide +kernel⟩
theorem vxX10_isPiece : am_vi MX10_isPiece := ⟨List.mem_of_getElem? (i := 1306) (by decide +kernel), List.mem_of_getElem? (i := 50) (by decide +kernel)⟩
set_option maxRecDepth 100000 in
theorem myX10_isAsker : am_my MX10_isAsker 1 := ⟨List.mem_of_getElem? (i := 1359) rfl, List.mem_of_getElem? (i := 79) (by decide +kernel), by decide, by decide, by decide +kernel⟩
theorem vxX10_isAsker : am_vi MX10_isAsker := ⟨List.mem_of_getElem? (i := 1358) (by decide +kernel), List.mem_of_getElem? (i := 59) (by decide +kernel)⟩
set_option maxRecDepth 100000 in
theorem myX10_isDay : am_my MX10_isDay 1 := ⟨List.mem_of_getElem? (i := 1279) rfl, List.mem_of_getElem? (i := 79) (by decide +kernel), by decide, by decide, by decide +kernel⟩
theorem sxX10_isDay : am_sta MX10_isDay := List.mem_of_getElem? (i := 1278) (by decide +kernel)
set_option maxRecDepth 100000 in
theorem myX10_isFour : am_my MX10_isFour 1 := ⟨List.mem_of_getElem? (i := 1268) rfl, List.mem_of_getElem? (i := 79) (by decide +kernel), by decide, by decide, by decide +kernel⟩
theorem sxX10_isFour : am_sta MX10_isFour := List.mem_of_getElem? (i := 1267) (by decide +kernel)
set_option maxRecDepth 100000 in
theorem myX10_person : am_my MX10_person 4 := ⟨List.mem_of_getElem? (i := 1265) rfl, List.mem_of_getElem? (i := 79) (by decide +kernel), by decide, by decide, by decide +kernel⟩
theorem vxX10_person : am_vi MX10_person := ⟨List.mem_of_getElem? (i := 1263) (by decide +kernel), List.mem_of_getElem? (i := 1264) (by decide +kernel)⟩
set_option maxRecDepth 100000 in
theorem myX10_topic : am_my MX10_topic 1 := ⟨List.mem_of_getElem? (i := 1272) rfl, List.mem_of_getElem? (i := 79) (by decide +kernel), by decide, by decide, by decide +kernel⟩
theorem vxX10_topic : am_vi MX10_topic := ⟨List.mem_of_getElem? (i := 1270) (by decide +kernel), List.mem_of_getElem? (i := 1271) (by decide +kernel)⟩
set_option maxRecDepth 100000 in
theorem myX10_tape : am_my MX10_tape 3 := ⟨List.mem_of_getElem? (i := 1276) rfl, List.mem_of_getElem? (i := 79) (by decide +kernel), by decide, by decide, by decide +kernel⟩
theorem vxX10_tape : am_vi MX10_tape := ⟨List.mem_of_getElem? (i := 1274) (by decide +kernel), List.mem_of_getElem? (i := 1275) (by decide +kernel)⟩
set_option maxRecDepth 100000 in
theorem myX10_piece : am_my MX10_piece 6 := ⟨List.mem_of_getElem? (i := 1283) rfl, List.mem_of_getElem? (i := 79) (by decide +kernel), by decide, by decide, by decide +kernel⟩
theorem vxX10_piece : am_vi MX10_piece := ⟨List.mem_of_getElem? (i := 1281) (by decide +kernel), List.mem_of_getElem? (i := 1282) (by decide +kernel)⟩
set_option maxRecDepth 100000 in
theorem myX10_asker : am_my MX10_asker 1 := ⟨List.mem_of_getElem? (i := 1287) rfl, List.mem_of_getElem? (i := 79) (by decide +kernel), by decide, by decide, by decide +kernel⟩
theorem vxX10_asker : am_vi MX10_asker := ⟨List.mem_of_getElem? (i := 1285) (by decide +kernel), List.mem_of_getElem? (i := 1286) (by decide +kernel)⟩
set_option maxRecDepth 100000 in
theorem myX10_copy : am_my MX10_copy 1 := ⟨List.mem_of_getElem? (i := 1291) rfl, List.mem_of_getElem? (i := 79) (by decide +kernel), by decide, by decide, by decide +kernel⟩
theorem vxX10_copy : am_vi MX10_copy := ⟨List.mem_of_getElem? (i := 1289) (by decide +kernel), List.mem_of_getElem? (i := 1290) (by decide +kernel)⟩
set_option maxRecDepth 100000 in
theorem myX10_bound : am_my MX10_bound 1 := ⟨List.mem_of_getElem? (i := 1295) rfl, List.mem_of_getElem? (i := 79) (by decide +kernel), by decide, by decide, by decide +kernel⟩
theorem vxX10_bound : am_vi MX10_bound := ⟨List.mem_of_getElem? (i := 1293) (by decide +kernel), List.mem_of_getElem? (i := 1294) (by decide +kernel)⟩
set_option maxRecDepth 100000 in
theorem myX10_dies : am_my MX10_dies 2 := ⟨List.mem_of_getElem? (i := 1299) rfl, List.mem_of_getElem? (i := 79) (by decide +kernel), by decide, by decide, by decide +kernel⟩
theorem vxX10_dies : am_vi MX10_dies := ⟨List.mem_of_getElem? (i := 1297) (by decide +kernel), List.mem_of_getElem? (i := 1298) (by decide +kernel)⟩
set_option maxRecDepth 100000 in
theorem myX10_takes : am_my MX10_takes 2 := ⟨List.mem_of_getElem? (i := 1303) rfl, List.mem_of_getElem? (i := 79) (by decide +kernel), by decide, by decide, by decide +kernel⟩
theorem vxX10_takes : am_vi MX10_takes := ⟨List.mem_of_getElem? (i := 1301) (by decide +kernel), List.mem_of_getElem? (i := 1302) (by decide +kernel)⟩
set_option maxRecDepth 100000 in
theorem myX10_asks : am_my MX10_asks 4 := ⟨List.mem_of_getElem? (i := 1323) rfl, List.mem_of_getElem? (i := 79) (by decide +kernel), by decide, by decide, by decide +kernel⟩
theorem vxX10_asks : am_vi MX10_asks := ⟨List.mem_of_getElem? (i := 1322) (by decide +kernel), List.mem_of_getElem? (i := 53) (by decide +kernel)⟩
set_option maxRecDepth 100000 in
theorem myX10_value : am_my MX10_value 2 := ⟨List.mem_of_getElem? (i := 1335) rfl, List.mem_of_getElem? (i := 79) (by decide +kernel), by decide, by decide, by decide +kernel⟩
theorem vxX10_value : am_vi MX10_value := ⟨List.mem_of_getElem? (i := 1334) (by decide +kernel), List.mem_of_getElem? (i := 56) (by decide +kernel)⟩
set_option maxRecDepth 100000 in
theorem myX10_isTrue : am_my MX10_isTrue 1 := ⟨List.mem_of_getElem? (i := 1331) rfl, List.mem_of_getElem? (i := 79) (by decide +kernel), by decide, by decide, by decide +kernel⟩
theorem vxX10_isTrue : am_vi MX10_isTrue := ⟨List.mem_of_getElem? (i := 1330) (by decide +kernel), List.mem_of_getElem? (i := 55) (by decide +kernel)⟩
set_option maxRecDepth 100000 in
theorem myX10_holds : am_my MX10_holds 2 := ⟨List.mem_of_getElem? (i := 1327) rfl, List.mem_of_getElem? (i := 79) (by decide +kernel), by decide, by decide, by decide +kernel⟩
theorem vxX10_holds : am_vi MX10_holds := ⟨List.mem_of_getElem? (i := 1326) (by decide +kernel), List.mem_of_getElem? (i := 54) (by decide +kernel)⟩
set_option maxRecDepth 100000 in
theorem myX10_letBy : am_my MX10_letBy 4 := ⟨List.mem_of_getElem? (i := 1319) rfl, List.mem_of_getElem? (i := 79) (by decide +kernel), by decide, by decide, by decide +kernel⟩
theorem vxX10_letBy : am_vi MX10_letBy := ⟨List.mem_of_getElem? (i := 1318) (by decide +kernel), List.mem_of_getElem? (i := 52) (by decide +kernel)⟩
set_option maxRecDepth 100000 in
theorem myX10_maskBy : am_my MX10_maskBy 4 := ⟨List.mem_of_getElem? (i := 1343) rfl, List.mem_of_getElem? (i := 79) (by decide +kernel), by decide, by decide, by decide +kernel⟩
theorem vxX10_maskBy : am_vi MX10_maskBy := ⟨List.mem_of_getElem? (i := 1342) (by decide +kernel), List.mem_of_getElem? (i := 57) (by decide +kernel)⟩
set_option maxRecDepth 100000 in
theorem myX10_isAsked : am_my MX10_isAsked 4 := ⟨List.mem_of_getElem? (i := 1315) rfl, List.mem_of_getElem? (i := 79) (by decide +kernel), by decide, by decide, by decide +kernel⟩
theorem vxX10_isAsked : am_vi MX10_isAsked := ⟨List.mem_of_getElem? (i := 1314) (by decide +kernel), List.mem_of_getElem? (i := 51) (by decide +kernel)⟩
set_option maxRecDepth 100000 in
theorem myX10_let : am_my MX10_let 4 := ⟨List.mem_of_getElem? (i := 1311) rfl, List.mem_of_getElem? (i := 79) (by decide +kernel), by decide, by decide, by decide +kernel⟩
theorem vxX10_let : am_vi MX10_let := ⟨List.mem_of_getElem? (i := 1309) (by decide +kernel), List.mem_of_getElem? (i := 1310) (by decide +kernel)⟩
set_option maxRecDepth 100000 in
theorem myX10_mask : am_my MX10_mask 4 := ⟨List.mem_of_getElem? (i := 1339) rfl, List.mem_of_getElem? (i := 79) (by decide +kernel), by decide, by decide, by decide +kernel⟩
theorem vxX10_mask : am_vi MX10_mask := ⟨List.mem_of_getElem? (i := 1337) (by decide +kernel), List.mem_of_getElem? (i := 1338) (by decide +kernel)⟩
set_option maxRecDepth 100000 in
theorem myX10_opens : am_my MX10_opens 4 := ⟨List.mem_of_getElem? (i := 1347) rfl, List.mem_of_getElem? (i := 79) (by decide +kernel), by decide, by decide, by decide +kernel⟩
theorem vxX10_opens : am_vi MX10_opens := ⟨List.mem_of_getElem? (i := 1345) (by decide +kernel), List.mem_of_getElem? (i := 1346) (by decide +kernel)⟩
set_option maxRecDepth 100000 in
theorem myX10_hasName : am_my MX10_hasName 2 := ⟨List.mem_of_getElem? (i := 1367) rfl, List.mem_of_getElem? (i := 79) (by decide +kernel), by decide, by decide, by decide +kernel⟩
theorem vxX10_hasName : am_vi MX10_hasName := ⟨List.mem_of_getElem? (i := 1366) (by decide +kernel), List.mem_of_getElem? (i := 61) (by decide +kernel)⟩
set_option maxRecDepth 100000 in
theorem myX10_traitsHeard : am_my MX10_traitsHeard 2 := ⟨List.mem_of_getElem? (i := 1371) rfl, List.mem_of_getElem? (i := 79) (by decide +kernel), by decide, by decide, by decide +kernel⟩
theorem vxX10_traitsHeard : am_vi MX10_traitsHeard := ⟨List.mem_of_getElem? (i := 1370) (by decide +kernel), List.mem_of_getElem? (i := 62) (by decide +kernel)⟩
set_option maxRecDepth 100000 in
theorem myX10_alike : am_my MX10_alike 2 := ⟨List.mem_of_getElem? (i := 1375) rfl, List.mem_of_getElem? (i := 79) (by decide +kernel), by decide, by decide, by decide +kernel⟩
theorem vxX10_alike : am_vi MX10_alike := ⟨List.mem_of_getElem? (i := 1374) (by decide +kernel), List.mem_of_getElem? (i := 63) (by decide +kernel)⟩
set_option maxRecDepth 100000 in
theorem myX10_isAsking : am_my MX10_isAsking 5 := ⟨List.mem_of_getElem? (i := 1355) rfl, List.mem_of_getElem? (i := 79) (by decide +kernel), by decide, by decide, by decide +kernel⟩
theorem vxX10_isAsking : am_vi MX10_isAsking := ⟨List.mem_of_getElem? (i := 1354) (by decide +kernel), List.mem_of_getElem? (i := 58) (by decide +kernel)⟩
set_option maxRecDepth 100000 in
theorem myX10_wouldGet : am_my MX10_wouldGet 5 := ⟨List.mem_of_getElem? (i := 1363) rfl, List.mem_of_getElem? (i := 79) (by decide +kernel), by decide, by decide, by decide +kernel⟩
theorem vxX10_wouldGet : am_vi MX10_wouldGet := ⟨List.mem_of_getElem? (i := 1362) (by decide +kernel), List.mem_of_getElem? (i := 60) (by decide +kernel)⟩
set_option maxRecDepth 100000 in
theorem myX10_would : am_my MX10_would 5 := ⟨List.mem_of_getElem? (i := 1351) rfl, List.mem_of_getElem? (i := 79) (by decide +kernel), by decide, by decide, by decide +kernel⟩
theorem vxX10_would : am_vi MX10_would := ⟨List.mem_of_getElem? (i := 1349) (by decide +kernel), List.mem_of_getElem? (i := 1350) (by decide +kernel)⟩
set_option maxRecDepth 100000 in
theorem myX10_ask : am_my MX10_ask 5 := ⟨List.mem_of_getElem? (i := 1379) rfl, List.mem_of_getElem? (i := 79) (by decide +kernel), by decide, by decide, by decide +kernel⟩
theorem vxX10_ask : am_vi MX10_ask := ⟨List.mem_of_getElem? (i := 1377) (by decide +kernel), List.mem_of_getElem? (i := 1378) (by decide +kernel)⟩
set_option maxRecDepth 100000 in
theorem myX10_heard : am_my MX10_heard 2 := ⟨List.mem_of_getElem? (i := 1383) rfl, List.mem_of_getElem? (i := 79) (by decide +kernel), by decide, by decide, by decide +kernel⟩
theorem vxX10_heard : am_vi MX10_heard := ⟨List.mem_of_getElem? (i := 1381) (by decide +kernel), List.mem_of_getElem? (i := 1382) (by decide +kernel)⟩
set_option maxRecDepth 100000 in
theorem myX10_could : am_my MX10_could 2 := ⟨List.mem_of_getElem? (i := 1387) rfl, List.mem_of_getElem? (i := 79) (by decide +kernel), by decide, by decide, by decide +kernel⟩
theorem vxX10_could : am_vi MX10_could := ⟨List.mem_of_getElem? (i := 1385) (by decide +kernel), List.mem_of_getElem? (i := 1386) (by decide +kernel)⟩
set_option maxRecDepth 100000 in
theorem myX10_seconds : am_my MX10_seconds 2 := ⟨List.mem_of_getElem? (i := 1391) rfl, List.mem_of_getElem? (i := 79) (by decide +kernel), by decide, by decide, by decide +kernel⟩
theorem vxX10_seconds : am_vi MX10_seconds := ⟨List.mem_of_getElem? (i := 1389) (by decide +kernel), List.mem_of_getElem? (i := 1390) (by decide +kernel)⟩
set_option maxRecDepth 100000 in
theorem myX10_at_ : am_my MX10_at_ 2 := ⟨List.mem_of_getElem? (i := 1395) rfl, List.mem_of_getElem? (i := 79) (by decide +kernel), by decide, by decide, by decide +kernel⟩
theorem vxX10_at_ : am_vi MX10_at_ := ⟨List.mem_of_getElem? (i := 1393) (by decide +kernel), List.mem_of_getElem? (i := 1394) (by decide +kernel)⟩
set_option maxRecDepth 100000 in
theorem myX10_isEvent : am_my MX10_isEvent 1 := ⟨List.mem_of_getElem? (i := 1402) rfl, List.mem_of_getElem? (i := 79) (by decide +kernel), by decide, by decide, by decide +kernel⟩
theorem sxX10_isEvent : am_sta MX10_isEvent := List.mem_of_getElem? (i := 1401) (by decide +kernel)
set_option maxRecDepth 100000 in
theorem myX10_telling : am_my MX10_telling 4 := ⟨List.mem_of_getElem? (i := 1406) rfl, List.mem_of_getElem? (i := 79) (by decide +kernel), by decide, by decide, by decide +kernel⟩
theorem vxX10_telling : am_vi MX10_telling := ⟨List.mem_of_getElem? (i := 1405) (by decide +kernel), List.mem_of_getElem? (i := 64) (by decide +kernel)⟩
set_option maxRecDepth 100000 in
theorem myX10_span : am_my MX10_span 3 := ⟨List.mem_of_getElem? (i := 1399) rfl, List.mem_of_getElem? (i := 79) (by decide +kernel), by decide, by decide, by decide +kernel⟩
theorem vxX10_span : am_vi MX10_span := ⟨List.mem_of_getElem? (i := 1397) (by decide +kernel), List.mem_of_getElem? (i := 1398) (by decide +kernel)⟩
set_option maxRecDepth 100000 in
theorem myX10_behind : am_my MX10_behind 3 := ⟨List.mem_of_getElem? (i := 1410) rfl, List.mem_of_getElem? (i := 79) (by decide +kernel), by decide, by decide, by decide +kernel⟩
theorem vxX10_behind : am_vi MX10_behind := ⟨List.mem_of_getElem? (i := 1408) (by decide +kernel), List.mem_of_getElem? (i := 1409) (by decide +kernel)⟩
set_option maxRecDepth 100000 in
theorem myX10_same : am_my MX10_same 2 := ⟨List.mem_of_getElem? (i := 1414) rfl, List.mem_of_getElem? (i := 79) (by decide +kernel), by decide, by decide, by decide +kernel⟩
theorem vxX10_same : am_vi MX10_same := ⟨List.mem_of_getElem? (i := 1412) (by decide +kernel), List.mem_of_getElem? (i := 1413) (by decide +kernel)⟩
set_option maxRecDepth 100000 in
theorem myX10_pushes : am_my MX10_pushes 3 := ⟨List.mem_of_getElem? (i := 1433) rfl, List.mem_of_getElem? (i := 79) (by decide +kernel), by decide, by decide, by decide +kernel⟩
theorem vxX10_pushes : am_vi MX10_pushes := ⟨List.mem_of_getElem? (i := 1432) (by decide +kernel), List.mem_of_getElem? (i := 67) (by decide +kernel)⟩
set_option maxRecDepth 100000 in
theorem myX10_agrees : am_my MX10_agrees 2 := ⟨List.mem_of_getElem? (i := 1429) rfl, List.mem_of_getElem? (i := 79) (by decide +kernel), by decide, by decide, by decide +kernel⟩
theorem vxX10_agrees : am_vi MX10_agrees := ⟨List.mem_of_getElem? (i := 1428) (by decide +kernel), List.mem_of_getElem? (i := 66) (by decide +kernel)⟩
set_option maxRecDepth 100000 in
theorem myX10_bits : am_my MX10_bits 1 := ⟨List.mem_of_getElem? (i := 1425) rfl, List.mem_of_getElem? (i := 79) (by decide +kernel), by decide, by decide, by decide +kernel⟩
theorem sxX10_bits : am_sta MX10_bits := List.mem_of_getElem? (i := 1424) (by decide +kernel)
set_option maxRecDepth 100000 in
theorem myX10_leftOf : am_my MX10_leftOf 1 := ⟨List.mem_of_getElem? (i := 1422) rfl, List.mem_of_getElem? (i := 79) (by decide +kernel), by decide, by decide, by decide +kernel⟩
theorem vxX10_leftOf : am_vi MX10_leftOf := ⟨List.mem_of_getElem? (i := 1421) (by decide +kernel), List.mem_of_getElem? (i := 65) (by decide +kernel)⟩
set_option maxRecDepth 100000 in
theorem myX10_left : am_my MX10_left 1 := ⟨List.mem_of_getElem? (i := 1418) rfl, List.mem_of_getElem? (i := 79) (by decide +kernel), by decide, by decide, by decide +kernel⟩
theorem vxX10_left : am_vi MX10_left := ⟨List.mem_of_getElem? (i := 1416) (by decide +kernel), List.mem_of_getElem? (i := 1417) (by decide +kernel)⟩
set_option maxRecDepth 100000 in
theorem myX10_when : am_my MX10_when 3 := ⟨List.mem_of_getElem? (i := 1437) rfl, List.mem_of_getElem? (i := 79) (by decide +kernel), by decide, by decide, by decide +kernel⟩
theorem vxX10_when : am_vi MX10_when := ⟨List.mem_of_getElem? (i := 1435) (by decide +kernel), List.mem_of_getElem? (i := 1436) (by decide +kernel)⟩
set_option maxRecDepth 100000 in
theorem myX10_count : am_my MX10_count 1 := ⟨List.mem_of_getElem? (i := 1441) rfl, List.mem_of_getElem? (i := 79) (by decide +kernel), by decide, by decide, by decide +kernel⟩
theorem vxX10_count : am_vi MX10_count := ⟨List.mem_of_getElem? (i := 1439) (by decide +kernel), List.mem_of_getElem? (i := 1440) (by decide +kernel)⟩
set_option maxRecDepth 100000 in
theorem myJ6_bitCount_0f7a4 : am_my MJ6_bitCount_0f7a4 1 := ⟨List.mem_of_getElem? (i := 900) rfl, List.mem_of_getElem? (i := 85) (by decide +kernel), by decide, by decide, by decide +kernel⟩
theorem sxJ6_bitCount_0f7a4 : am_sta MJ6_bitCount_0f7a4 := List.mem_of_getElem? (i := 899) (by decide +kernel)
set_option maxRecDepth 100000 in
theorem myJ0_length_8abf5 : am_my MJ0_length_8abf5 0 := ⟨List.mem_of_getElem? (i := 476) rfl, List.mem_of_getElem? (i := 80) (by decide +kernel), by decide, by decide, by decide +kernel⟩
theorem vxJ0_length_8abf5 : am_vi MJ0_length_8abf5 := ⟨List.mem_of_getElem? (i := 474) (by decide +kernel), List.mem_of_getElem? (i := 475) (by decide +kernel)⟩
set_option maxRecDepth 100000 in
theorem myJ0_charAt_5068e : am_my MJ0_charAt_5068e 1 := ⟨List.mem_of_getElem? (i := 486) rfl, List.mem_of_getElem? (i := 80) (by decide +kernel), by decide, by decide, by decide +kernel⟩
theorem vxJ0_charAt_5068e : am_vi MJ0_charAt_5068e := ⟨List.mem_of_getElem? (i := 484) (by decide +kernel), List.mem_of_getElem? (i := 485) (by decide +kernel)⟩
set_option maxRecDepth 100000 in
theorem myJ0_coder_7d493 : am_my MJ0_coder_7d493 0 := ⟨List.mem_of_getElem? (i := 480) rfl, List.mem_of_getElem? (i := 80) (by decide +kernel), by decide, by decide, by decide +kernel⟩
theorem vxJ0_coder_7d493 : am_vi MJ0_coder_7d493 := ⟨List.mem_of_getElem? (i := 478) (by decide +kernel), List.mem_of_getElem? (i := 479) (by decide +kernel)⟩
set_option maxRecDepth 100000 in
theorem myJ0_isLatin1_aae02 : am_my MJ0_isLatin1_aae02 0 := ⟨List.mem_of_getElem? (i := 490) rfl, List.mem_of_getElem? (i := 80) (by decide +kernel), by decide, by decide, by decide +kernel⟩
theorem vxJ0_isLatin1_aae02 : am_vi MJ0_isLatin1_aae02 := ⟨List.mem_of_getElem? (i := 488) (by decide +kernel), List.mem_of_getElem? (i := 489) (by decide +kernel)⟩
set_option maxRecDepth 100000 in
theorem myJ0_checkIndex_df160 : am_my MJ0_checkIndex_df160 2 := ⟨List.mem_of_getElem? (i := 496) rfl, List.mem_of_getElem? (i := 80) (by decide +kernel), by decide, by decide, by decide +kernel⟩
theorem sxJ0_checkIndex_df160 : am_sta MJ0_checkIndex_df160 := List.mem_of_getElem? (i := 495) (by decide +kernel)
set_option maxRecDepth 100000 in
theorem myJ1_charAt_3b067 : am_my MJ1_charAt_3b067 2 := ⟨List.mem_of_getElem? (i := 493) rfl, List.mem_of_getElem? (i := 81) (by decide +kernel), by decide, by decide, by decide +kernel⟩
theorem sxJ1_charAt_3b067 : am_sta MJ1_charAt_3b067 := List.mem_of_getElem? (i := 492) (by decide +kernel)
set_option maxRecDepth 100000 in
theorem myJ2_getChar_3b067 : am_my MJ2_getChar_3b067 2 := ⟨List.mem_of_getElem? (i := 514) rfl, List.mem_of_getElem? (i := 83) (by decide +kernel), by decide, by decide, by decide +kernel⟩
theorem sxJ2_getChar_3b067 : am_sta MJ2_getChar_3b067 := List.mem_of_getElem? (i := 513) (by decide +kernel)
set_option maxRecDepth 100000 in
theorem myJ2_length_9d52b : am_my MJ2_length_9d52b 1 := ⟨List.mem_of_getElem? (i := 510) rfl, List.mem_of_getElem? (i := 83) (by decide +kernel), by decide, by decide, by decide +kernel⟩
theorem sxJ2_length_9d52b : am_sta MJ2_length_9d52b := List.mem_of_getElem? (i := 509) (by decide +kernel)
set_option maxRecDepth 100000 in
theorem myJ2_charAt_3b067 : am_my MJ2_charAt_3b067 2 := ⟨List.mem_of_getElem? (i := 504) rfl, List.mem_of_getElem? (i := 83) (by decide +kernel), by decide, by decide, by decide +kernel⟩
theorem sxJ2_charAt_3b067 : am_sta MJ2_charAt_3b067 := List.mem_of_getElem? (i := 503) (by decide +kernel)
set_option maxRecDepth 100000 in
theorem myJ2_checkIndex_2214a : am_my MJ2_checkIndex_2214a 2 := ⟨List.mem_of_getElem? (i := 507) rfl, List.mem_of_getElem? (i := 83) (by decide +kernel), by decide, by decide, by decide +kernel⟩
theorem sxJ2_checkIndex_2214a : am_sta MJ2_checkIndex_2214a := List.mem_of_getElem? (i := 506) (by decide +kernel)
set_option maxRecDepth 100000 in
theorem myJ7_fill_53178 : am_my MJ7_fill_53178 2 := ⟨List.mem_of_getElem? (i := 910) rfl, List.mem_of_getElem? (i := 84) (by decide +kernel), by decide, by decide, by decide +kernel⟩
theorem sxJ7_fill_53178 : am_sta MJ7_fill_53178 := List.mem_of_getElem? (i := 909) (by decide +kernel)
set_option maxRecDepth 100000 in
theorem myJ7_fill_031fb : am_my MJ7_fill_031fb 2 := ⟨List.mem_of_getElem? (i := 746) rfl, List.mem_of_getElem? (i := 84) (by decide +kernel), by decide, by decide, by decide +kernel⟩
theorem sxJ7_fill_031fb : am_sta MJ7_fill_031fb := List.mem_of_getElem? (i := 745) (by decide +kernel)
set_option maxRecDepth 100000 in
theorem myJ3_checkIndex_8e157 : am_my MJ3_checkIndex_8e157 3 := ⟨List.mem_of_getElem? (i := 501) rfl, List.mem_of_getElem? (i := 82) (by decide +kernel), by decide, by decide, by decide +kernel⟩
theorem sxJ3_checkIndex_8e157 : am_sta MJ3_checkIndex_8e157 := List.mem_of_getElem? (i := 500) (by decide +kernel)
theorem lk11_9 : am_lk 11 9 false MX9_init := List.mem_of_getElem? (i := 88) (by decide +kernel)
theorem lk9_11 : am_lk 9 11 true MX6_init := List.mem_of_getElem? (i := 96) (by decide +kernel)
theorem lk9_18 : am_lk 9 18 true MX2_init := List.mem_of_getElem? (i := 126) (by decide +kernel)
theorem lk9_25 : am_lk 9 25 true MX3_init := List.mem_of_getElem? (i := 159) (by decide +kernel)
theorem lk9_32 : am_lk 9 32 true MX8_init := List.mem_of_getElem? (i := 189) (by decide +kernel)
theorem lk9_39 : am_lk 9 39 true MX7_init := List.mem_of_getElem? (i := 211) (by decide +kernel)
theorem lk9_46 : am_lk 9 46 true MX4_init := List.mem_of_getElem? (i := 225) (by decide +kernel)
theorem lk9_53 : am_lk 9 53 true MX0_init := List.mem_of_getElem? (i := 276) (by decide +kernel)
theorem lk9_60 : am_lk 9 60 true MX5_init := List.mem_of_getElem? (i := 293) (by decide +kernel)
theorem lk9_78 : am_lk 9 78 true MX1_init := List.mem_of_getElem? (i := 325) (by decide +kernel)
theorem lk11_13 : am_lk 11 13 false MX9_feed := List.mem_of_getElem? (i := 407) (by decide +kernel)
theorem lk9_83 : am_lk 9 83 false MX6_addTwenty := List.mem_of_getElem? (i := 411) (by decide +kernel)
theorem lk6_19 : am_lk 6 19 false MX6_addFour := List.mem_of_getElem? (i := 415) (by decide +kernel)
theorem lk11_18 : am_lk 11 18 false MX9_back := List.mem_of_getElem? (i := 419) (by decide +kernel)
theorem lk9_87 : am_lk 9 87 false MX6_drop := List.mem_of_getElem? (i := 423) (by decide +kernel)
theorem lk11_23 : am_lk 11 23 false MX9_read := List.mem_of_getElem? (i := 427) (by decide +kernel)
theorem lk9_91 : am_lk 9 91 false MX8_has := List.mem_of_getElem? (i := 431) (by decide +kernel)
theorem lk8_28 : am_lk 8 28 true MX9_isBelow := List.mem_of_getElem? (i := 435) (by decide +kernel)
theorem lk9_98 : am_lk 9 98 false MX2_parse := List.mem_of_getElem? (i := 438) (by decide +kernel)
theorem lk2_15 : am_lk 2 15 false MX2_begin := List.mem_of_getElem? (i := 442) (by decide +kernel)
theorem lk2_18 : am_lk 2 18 false MX6_rewind := List.mem_of_getElem? (i := 446) (by decide +kernel)
theorem lk2_23 : am_lk 2 23 false MX1_clear := List.mem_of_getElem? (i := 450) (by decide +kernel)
theorem lk2_28 : am_lk 2 28 false MX6_advance := List.mem_of_getElem? (i := 454) (by decide +kernel)
theorem lk6_26 : am_lk 6 26 false MX6_isBlank := List.mem_of_getElem? (i := 458) (by decide +kernel)
theorem lk6_39 : am_lk 6 39 false MX6_isLetter := List.mem_of_getElem? (i := 461) (by decide +kernel)
theorem lk6_42 : am_lk 6 42 false MX6_takeWord := List.mem_of_getElem? (i := 464) (by decide +kernel)
theorem lk6_54 : am_lk 6 54 false MX6_wordOf := List.mem_of_getElem? (i := 468) (by decide +kernel)
theorem lk6_60 : am_lk 6 60 false MJ0_length_8abf5 := List.mem_of_getElem? (i := 473) (by decide +kernel)
theorem lk12_335 : am_lk 12 335 false MJ0_coder_7d493 := List.mem_of_getElem? (i := 477) (by decide +kernel)
theorem lk6_66 : am_lk 6 66 false MJ0_charAt_5068e := List.mem_of_getElem? (i := 483) (by decide +kernel)
theorem lk12_492 : am_lk 12 492 false MJ0_isLatin1_aae02 := List.mem_of_getElem? (i := 487) (by decide +kernel)
theorem lk12_495 : am_lk 12 495 false MJ1_charAt_3b067 := List.mem_of_getElem? (i := 491) (by decide +kernel)
theorem lk13_9 : am_lk 13 9 false MJ0_checkIndex_df160 := List.mem_of_getElem? (i := 494) (by decide +kernel)
theorem lk12_1059 : am_lk 12 1059 false MJ3_checkIndex_8e157 := List.mem_of_getElem? (i := 499) (by decide +kernel)
theorem lk12_498 : am_lk 12 498 false MJ2_charAt_3b067 := List.mem_of_getElem? (i := 502) (by decide +kernel)
theorem lk14_67 : am_lk 14 67 false MJ2_checkIndex_2214a := List.mem_of_getElem? (i := 505) (by decide +kernel)
theorem lk14_48 : am_lk 14 48 false MJ2_length_9d52b := List.mem_of_getElem? (i := 508) (by decide +kernel)
theorem lk14_414 : am_lk 14 414 false MJ0_checkIndex_df160 := List.mem_of_getElem? (i := 511) (by decide +kernel)
theorem lk14_71 : am_lk 14 71 false MJ2_getChar_3b067 := List.mem_of_getElem? (i := 512) (by decide +kernel)
theorem lk6_45 : am_lk 6 45 false MX6_isDigit := List.mem_of_getElem? (i := 521) (by decide +kernel)
theorem lk6_48 : am_lk 6 48 false MX6_takeInt := List.mem_of_getElem? (i := 524) (by decide +kernel)
theorem lk6_51 : am_lk 6 51 false MX6_takeSign := List.mem_of_getElem? (i := 528) (by decide +kernel)
theorem lk6_70 : am_lk 6 70 false MX6_signOf := List.mem_of_getElem? (i := 532) (by decide +kernel)
theorem lk2_38 : am_lk 2 38 false MX2_faultOf := List.mem_of_getElem? (i := 535) (by decide +kernel)
theorem lk2_71 : am_lk 2 71 false MX2_goesOn := List.mem_of_getElem? (i := 539) (by decide +kernel)
theorem lk2_75 : am_lk 2 75 false MX2_isHead := List.mem_of_getElem? (i := 543) (by decide +kernel)
theorem lk2_78 : am_lk 2 78 false MX2_startsUnit := List.mem_of_getElem? (i := 546) (by decide +kernel)
theorem lk2_93 : am_lk 2 93 true MX9_isVar := List.mem_of_getElem? (i := 549) (by decide +kernel)
theorem lk2_81 : am_lk 2 81 false MX2_endsLiteral := List.mem_of_getElem? (i := 552) (by decide +kernel)
theorem lk2_84 : am_lk 2 84 true MX9_isOperator := List.mem_of_getElem? (i := 555) (by decide +kernel)
theorem lk2_87 : am_lk 2 87 false MX2_endsSide := List.mem_of_getElem? (i := 558) (by decide +kernel)
theorem lk2_90 : am_lk 2 90 false MX2_isComparison := List.mem_of_getElem? (i := 562) (by decide +kernel)
theorem lk2_42 : am_lk 2 42 false MX2_take := List.mem_of_getElem? (i := 565) (by decide +kernel)
theorem lk2_96 : am_lk 2 96 false MX1_addRule := List.mem_of_getElem? (i := 569) (by decide +kernel)
theorem lk2_100 : am_lk 2 100 false MX2_takeTopic := List.mem_of_getElem? (i := 573) (by decide +kernel)
theorem lk2_110 : am_lk 2 110 false MX1_addCell := List.mem_of_getElem? (i := 577) (by decide +kernel)
theorem lk2_127 : am_lk 2 127 false MX1_addLiteral := List.mem_of_getElem? (i := 581) (by decide +kernel)
theorem lk1_49 : am_lk 1 49 false MX1_firstCell := List.mem_of_getElem? (i := 585) (by decide +kernel)
theorem lk1_53 : am_lk 1 53 false MX1_hasDay := List.mem_of_getElem? (i := 589) (by decide +kernel)
theorem lk1_57 : am_lk 1 57 false MX1_codeOf := List.mem_of_getElem? (i := 593) (by decide +kernel)
theorem lk2_106 : am_lk 2 106 false MX1_codeOf := List.mem_of_getElem? (i := 596) (by decide +kernel)
theorem lk2_113 : am_lk 2 113 false MX2_takeBracket := List.mem_of_getElem? (i := 597) (by decide +kernel)
theorem lk2_121 : am_lk 2 121 false MX2_hold := List.mem_of_getElem? (i := 601) (by decide +kernel)
theorem lk2_117 : am_lk 2 117 false MX2_unload := List.mem_of_getElem? (i := 605) (by decide +kernel)
theorem lk2_124 : am_lk 2 124 false MX2_takeLiteralEnd := List.mem_of_getElem? (i := 609) (by decide +kernel)
theorem lk9_103 : am_lk 9 103 false MX8_exchangeConsent := List.mem_of_getElem? (i := 613) (by decide +kernel)
theorem lk8_33 : am_lk 8 33 false MX8_has := List.mem_of_getElem? (i := 617) (by decide +kernel)
theorem lk9_107 : am_lk 9 107 false MX6_clear := List.mem_of_getElem? (i := 618) (by decide +kernel)
theorem lk11_27 : am_lk 11 27 false MX9_place := List.mem_of_getElem? (i := 622) (by decide +kernel)
theorem lk11_32 : am_lk 11 32 false MX9_person := List.mem_of_getElem? (i := 626) (by decide +kernel)
theorem lk9_110 : am_lk 9 110 false MX9_isBelow := List.mem_of_getElem? (i := 630) (by decide +kernel)
theorem lk9_114 : am_lk 9 114 false MX8_add := List.mem_of_getElem? (i := 631) (by decide +kernel)
theorem lk8_32 : am_lk 8 32 true MX1_init := List.mem_of_getElem? (i := 635) (by decide +kernel)
theorem lk11_37 : am_lk 11 37 false MX9_topic := List.mem_of_getElem? (i := 636) (by decide +kernel)
theorem lk9_118 : am_lk 9 118 false MX7_has := List.mem_of_getElem? (i := 640) (by decide +kernel)
theorem lk7_19 : am_lk 7 19 true MX9_isBelow := List.mem_of_getElem? (i := 644) (by decide +kernel)
theorem lk9_119 : am_lk 9 119 false MX7_add := List.mem_of_getElem? (i := 645) (by decide +kernel)
theorem lk7_23 : am_lk 7 23 false MX7_lineOf := List.mem_of_getElem? (i := 649) (by decide +kernel)
theorem lk7_27 : am_lk 7 27 false MX7_has := List.mem_of_getElem? (i := 653) (by decide +kernel)
theorem lk11_41 : am_lk 11 41 false MX9_tape := List.mem_of_getElem? (i := 654) (by decide +kernel)
theorem lk9_121 : am_lk 9 121 false MX9_isDay := List.mem_of_getElem? (i := 658) (by decide +kernel)
theorem lk9_124 : am_lk 9 124 false MX4_addTape := List.mem_of_getElem? (i := 661) (by decide +kernel)
theorem lk11_46 : am_lk 11 46 false MX9_piece := List.mem_of_getElem? (i := 665) (by decide +kernel)
theorem lk9_128 : am_lk 9 128 false MX4_isFree := List.mem_of_getElem? (i := 669) (by decide +kernel)
theorem lk4_46 : am_lk 4 46 true MX9_isBelow := List.mem_of_getElem? (i := 673) (by decide +kernel)
theorem lk9_132 : am_lk 9 132 false MX4_addPiece := List.mem_of_getElem? (i := 674) (by decide +kernel)
theorem lk11_51 : am_lk 11 51 false MX9_asker := List.mem_of_getElem? (i := 678) (by decide +kernel)
theorem lk9_136 : am_lk 9 136 false MX0_add := List.mem_of_getElem? (i := 682) (by decide +kernel)
theorem lk11_55 : am_lk 11 55 false MX9_copy := List.mem_of_getElem? (i := 686) (by decide +kernel)
theorem lk11_59 : am_lk 11 59 false MX9_bound := List.mem_of_getElem? (i := 690) (by decide +kernel)
theorem lk11_64 : am_lk 11 64 false MX9_dies := List.mem_of_getElem? (i := 694) (by decide +kernel)
theorem lk9_140 : am_lk 9 140 false MX8_setDeath := List.mem_of_getElem? (i := 698) (by decide +kernel)
theorem lk11_69 : am_lk 11 69 false MX9_takes := List.mem_of_getElem? (i := 702) (by decide +kernel)
theorem lk9_143 : am_lk 9 143 false MX4_takeBack := List.mem_of_getElem? (i := 706) (by decide +kernel)
theorem lk4_53 : am_lk 4 53 false MX4_has := List.mem_of_getElem? (i := 710) (by decide +kernel)
theorem lk11_73 : am_lk 11 73 false MX9_let := List.mem_of_getElem? (i := 714) (by decide +kernel)
theorem lk9_146 : am_lk 9 146 false MX9_isQuestion := List.mem_of_getElem? (i := 718) (by decide +kernel)
theorem lk9_176 : am_lk 9 176 false MX4_has := List.mem_of_getElem? (i := 722) (by decide +kernel)
theorem lk9_150 : am_lk 9 150 false MX9_pose := List.mem_of_getElem? (i := 723) (by decide +kernel)
theorem lk9_237 : am_lk 9 237 false MX4_speakerOf := List.mem_of_getElem? (i := 727) (by decide +kernel)
theorem lk9_240 : am_lk 9 240 false MX4_madeOn := List.mem_of_getElem? (i := 731) (by decide +kernel)
theorem lk9_243 : am_lk 9 243 false MX8_deathOf := List.mem_of_getElem? (i := 735) (by decide +kernel)
theorem lk9_195 : am_lk 9 195 false MX7_lineOf := List.mem_of_getElem? (i := 739) (by decide +kernel)
theorem lk9_246 : am_lk 9 246 false MX3_begin := List.mem_of_getElem? (i := 740) (by decide +kernel)
theorem lk3_22 : am_lk 3 22 false MJ7_fill_031fb := List.mem_of_getElem? (i := 744) (by decide +kernel)
theorem lk9_249 : am_lk 9 249 false MX3_give := List.mem_of_getElem? (i := 747) (by decide +kernel)
theorem lk3_38 : am_lk 3 38 true MX9_isVar := List.mem_of_getElem? (i := 751) (by decide +kernel)
theorem lk9_208 : am_lk 9 208 false MX3_turnTo := List.mem_of_getElem? (i := 752) (by decide +kernel)
theorem lk3_42 : am_lk 3 42 false MX3_give := List.mem_of_getElem? (i := 756) (by decide +kernel)
theorem lk9_253 : am_lk 9 253 false MX8_consentOf := List.mem_of_getElem? (i := 757) (by decide +kernel)
theorem lk9_154 : am_lk 9 154 false MX1_letBy := List.mem_of_getElem? (i := 761) (by decide +kernel)
theorem lk1_60 : am_lk 1 60 false MX1_holds := List.mem_of_getElem? (i := 765) (by decide +kernel)
theorem lk1_64 : am_lk 1 64 false MX1_literalHolds := List.mem_of_getElem? (i := 769) (by decide +kernel)
theorem lk1_67 : am_lk 1 67 false MX1_testHolds := List.mem_of_getElem? (i := 773) (by decide +kernel)
theorem lk1_78 : am_lk 1 78 false MX3_takeCell := List.mem_of_getElem? (i := 777) (by decide +kernel)
theorem lk3_52 : am_lk 3 52 true MX9_isOperator := List.mem_of_getElem? (i := 781) (by decide +kernel)
theorem lk3_55 : am_lk 3 55 false MX3_pop := List.mem_of_getElem? (i := 782) (by decide +kernel)
theorem lk3_59 : am_lk 3 59 false MX3_push := List.mem_of_getElem? (i := 786) (by decide +kernel)
theorem lk1_82 : am_lk 1 82 false MX3_pop := List.mem_of_getElem? (i := 790) (by decide +kernel)
theorem lk1_86 : am_lk 1 86 false MX3_isInTopic := List.mem_of_getElem? (i := 791) (by decide +kernel)
theorem lk3_46 : am_lk 3 46 true MX9_isBelow := List.mem_of_getElem? (i := 795) (by decide +kernel)
theorem lk11_77 : am_lk 11 77 false MX9_mask := List.mem_of_getElem? (i := 796) (by decide +kernel)
theorem lk9_161 : am_lk 9 161 false MX1_maskedBy := List.mem_of_getElem? (i := 800) (by decide +kernel)
theorem lk11_81 : am_lk 11 81 false MX9_would := List.mem_of_getElem? (i := 804) (by decide +kernel)
theorem lk9_164 : am_lk 9 164 false MX9_isAsking := List.mem_of_getElem? (i := 808) (by decide +kernel)
theorem lk9_175 : am_lk 9 175 false MX0_has := List.mem_of_getElem? (i := 812) (by decide +kernel)
theorem lk0_23 : am_lk 0 23 true MX9_isBelow := List.mem_of_getElem? (i := 816) (by decide +kernel)
theorem lk9_168 : am_lk 9 168 false MX9_answerTo := List.mem_of_getElem? (i := 817) (by decide +kernel)
theorem lk9_260 : am_lk 9 260 false MX0_kindOf := List.mem_of_getElem? (i := 821) (by decide +kernel)
theorem lk0_27 : am_lk 0 27 false MX0_has := List.mem_of_getElem? (i := 825) (by decide +kernel)
theorem lk9_263 : am_lk 9 263 false MX9_wouldUnmask := List.mem_of_getElem? (i := 826) (by decide +kernel)
theorem lk9_184 : am_lk 9 184 false MX9_knownTraits := List.mem_of_getElem? (i := 830) (by decide +kernel)
theorem lk9_177 : am_lk 9 177 false MX0_wayOf := List.mem_of_getElem? (i := 834) (by decide +kernel)
theorem lk9_187 : am_lk 9 187 false MX8_alikeTo := List.mem_of_getElem? (i := 838) (by decide +kernel)
theorem lk8_37 : am_lk 8 37 false MX8_areAlike := List.mem_of_getElem? (i := 842) (by decide +kernel)
theorem lk9_181 : am_lk 9 181 false MX9_knowsByName := List.mem_of_getElem? (i := 846) (by decide +kernel)
theorem lk11_85 : am_lk 11 85 false MX9_ask := List.mem_of_getElem? (i := 850) (by decide +kernel)
theorem lk9_171 : am_lk 9 171 false MX0_hear := List.mem_of_getElem? (i := 854) (by decide +kernel)
theorem lk0_31 : am_lk 0 31 false MX0_wayOf := List.mem_of_getElem? (i := 858) (by decide +kernel)
theorem lk11_89 : am_lk 11 89 false MX9_heard := List.mem_of_getElem? (i := 859) (by decide +kernel)
theorem lk11_94 : am_lk 11 94 false MX9_could := List.mem_of_getElem? (i := 863) (by decide +kernel)
theorem lk11_98 : am_lk 11 98 false MX9_seconds := List.mem_of_getElem? (i := 867) (by decide +kernel)
theorem lk11_102 : am_lk 11 102 false MX9_opens := List.mem_of_getElem? (i := 871) (by decide +kernel)
theorem lk11_106 : am_lk 11 106 false MX9_at := List.mem_of_getElem? (i := 875) (by decide +kernel)
theorem lk9_212 : am_lk 9 212 false MX4_pieceAt := List.mem_of_getElem? (i := 879) (by decide +kernel)
theorem lk11_110 : am_lk 11 110 false MX9_span := List.mem_of_getElem? (i := 883) (by decide +kernel)
theorem lk9_215 : am_lk 9 215 false MX9_isEvent := List.mem_of_getElem? (i := 887) (by decide +kernel)
theorem lk9_218 : am_lk 9 218 false MX5_add := List.mem_of_getElem? (i := 890) (by decide +kernel)
theorem lk5_37 : am_lk 5 37 false MX5_findLeftOut := List.mem_of_getElem? (i := 894) (by decide +kernel)
theorem lk5_49 : am_lk 5 49 false MJ6_bitCount_0f7a4 := List.mem_of_getElem? (i := 898) (by decide +kernel)
theorem lk5_45 : am_lk 5 45 false MX5_settle := List.mem_of_getElem? (i := 904) (by decide +kernel)
theorem lk5_55 : am_lk 5 55 false MJ7_fill_53178 := List.mem_of_getElem? (i := 908) (by decide +kernel)
theorem lk5_61 : am_lk 5 61 false MX5_pushDays := List.mem_of_getElem? (i := 911) (by decide +kernel)
theorem lk5_68 : am_lk 5 68 false MX5_pushTo := List.mem_of_getElem? (i := 915) (by decide +kernel)
theorem lk5_41 : am_lk 5 41 true MX9_isEvent := List.mem_of_getElem? (i := 919) (by decide +kernel)
theorem lk5_65 : am_lk 5 65 false MX5_areWithin := List.mem_of_getElem? (i := 920) (by decide +kernel)
theorem lk11_114 : am_lk 11 114 false MX9_behind := List.mem_of_getElem? (i := 924) (by decide +kernel)
theorem lk9_220 : am_lk 9 220 false MX9_areTwoEvents := List.mem_of_getElem? (i := 928) (by decide +kernel)
theorem lk11_118 : am_lk 11 118 false MX9_same := List.mem_of_getElem? (i := 931) (by decide +kernel)
theorem lk11_122 : am_lk 11 122 false MX9_left := List.mem_of_getElem? (i := 935) (by decide +kernel)
theorem lk9_223 : am_lk 9 223 false MX5_leftOut := List.mem_of_getElem? (i := 939) (by decide +kernel)
theorem lk11_126 : am_lk 11 126 false MX9_when := List.mem_of_getElem? (i := 943) (by decide +kernel)
theorem lk9_226 : am_lk 9 226 false MX5_dayOf := List.mem_of_getElem? (i := 947) (by decide +kernel)
theorem lk11_130 : am_lk 11 130 false MX9_count := List.mem_of_getElem? (i := 951) (by decide +kernel)
theorem lk11_12 : am_lk 11 12 false MX10_init := List.mem_of_getElem? (i := 957) (by decide +kernel)
theorem lk10_155 : am_lk 10 155 false MX10_word := List.mem_of_getElem? (i := 961) (by decide +kernel)
theorem lk10_174 : am_lk 10 174 false MX10_more := List.mem_of_getElem? (i := 964) (by decide +kernel)
theorem lk11_17 : am_lk 11 17 false MX10_feed := List.mem_of_getElem? (i := 1176) (by decide +kernel)
theorem lk10_165 : am_lk 10 165 false MX10_put := List.mem_of_getElem? (i := 1180) (by decide +kernel)
theorem lk11_22 : am_lk 11 22 false MX10_back := List.mem_of_getElem? (i := 1184) (by decide +kernel)
theorem lk11_26 : am_lk 11 26 false MX10_read := List.mem_of_getElem? (i := 1188) (by decide +kernel)
theorem lk10_224 : am_lk 10 224 false MX10_isPerson := List.mem_of_getElem? (i := 1192) (by decide +kernel)
theorem lk10_227 : am_lk 10 227 false MX10_cut := List.mem_of_getElem? (i := 1196) (by decide +kernel)
theorem lk10_181 : am_lk 10 181 false MX10_at := List.mem_of_getElem? (i := 1200) (by decide +kernel)
theorem lk10_185 : am_lk 10 185 false MX10_token := List.mem_of_getElem? (i := 1204) (by decide +kernel)
theorem lk10_189 : am_lk 10 189 false MX10_isLetter := List.mem_of_getElem? (i := 1208) (by decide +kernel)
theorem lk10_193 : am_lk 10 193 false MX10_isDigit := List.mem_of_getElem? (i := 1211) (by decide +kernel)
theorem lk10_196 : am_lk 10 196 false MX10_sign := List.mem_of_getElem? (i := 1214) (by decide +kernel)
theorem lk10_218 : am_lk 10 218 false MX10_is := List.mem_of_getElem? (i := 1218) (by decide +kernel)
theorem lk10_239 : am_lk 10 239 false MX10_tellRule := List.mem_of_getElem? (i := 1222) (by decide +kernel)
theorem lk10_215 : am_lk 10 215 false MX10_fail := List.mem_of_getElem? (i := 1226) (by decide +kernel)
theorem lk10_221 : am_lk 10 221 false MX10_next := List.mem_of_getElem? (i := 1230) (by decide +kernel)
theorem lk10_242 : am_lk 10 242 false MX10_literal := List.mem_of_getElem? (i := 1234) (by decide +kernel)
theorem lk10_246 : am_lk 10 246 false MX10_must := List.mem_of_getElem? (i := 1238) (by decide +kernel)
theorem lk10_252 : am_lk 10 252 false MX10_wrong := List.mem_of_getElem? (i := 1242) (by decide +kernel)
theorem lk10_256 : am_lk 10 256 false MX10_emit := List.mem_of_getElem? (i := 1246) (by decide +kernel)
theorem lk10_259 : am_lk 10 259 false MX10_expression := List.mem_of_getElem? (i := 1250) (by decide +kernel)
theorem lk10_265 : am_lk 10 265 false MX10_comesOut := List.mem_of_getElem? (i := 1254) (by decide +kernel)
theorem lk11_31 : am_lk 11 31 false MX10_place := List.mem_of_getElem? (i := 1258) (by decide +kernel)
theorem lk11_36 : am_lk 11 36 false MX10_person := List.mem_of_getElem? (i := 1262) (by decide +kernel)
theorem lk10_277 : am_lk 10 277 false MX10_isFour := List.mem_of_getElem? (i := 1266) (by decide +kernel)
theorem lk11_40 : am_lk 11 40 false MX10_topic := List.mem_of_getElem? (i := 1269) (by decide +kernel)
theorem lk11_45 : am_lk 11 45 false MX10_tape := List.mem_of_getElem? (i := 1273) (by decide +kernel)
theorem lk10_283 : am_lk 10 283 false MX10_isDay := List.mem_of_getElem? (i := 1277) (by decide +kernel)
theorem lk11_50 : am_lk 11 50 false MX10_piece := List.mem_of_getElem? (i := 1280) (by decide +kernel)
theorem lk11_54 : am_lk 11 54 false MX10_asker := List.mem_of_getElem? (i := 1284) (by decide +kernel)
theorem lk11_58 : am_lk 11 58 false MX10_copy := List.mem_of_getElem? (i := 1288) (by decide +kernel)
theorem lk11_63 : am_lk 11 63 false MX10_bound := List.mem_of_getElem? (i := 1292) (by decide +kernel)
theorem lk11_68 : am_lk 11 68 false MX10_dies := List.mem_of_getElem? (i := 1296) (by decide +kernel)
theorem lk11_72 : am_lk 11 72 false MX10_takes := List.mem_of_getElem? (i := 1300) (by decide +kernel)
theorem lk10_289 : am_lk 10 289 false MX10_isPiece := List.mem_of_getElem? (i := 1304) (by decide +kernel)
theorem lk11_76 : am_lk 11 76 false MX10_let := List.mem_of_getElem? (i := 1308) (by decide +kernel)
theorem lk10_310 : am_lk 10 310 false MX10_isAsked := List.mem_of_getElem? (i := 1312) (by decide +kernel)
theorem lk10_314 : am_lk 10 314 false MX10_letBy := List.mem_of_getElem? (i := 1316) (by decide +kernel)
theorem lk10_302 : am_lk 10 302 false MX10_asks := List.mem_of_getElem? (i := 1320) (by decide +kernel)
theorem lk10_306 : am_lk 10 306 false MX10_holds := List.mem_of_getElem? (i := 1324) (by decide +kernel)
theorem lk10_299 : am_lk 10 299 false MX10_isTrue := List.mem_of_getElem? (i := 1328) (by decide +kernel)
theorem lk10_295 : am_lk 10 295 false MX10_value := List.mem_of_getElem? (i := 1332) (by decide +kernel)
theorem lk11_80 : am_lk 11 80 false MX10_mask := List.mem_of_getElem? (i := 1336) (by decide +kernel)
theorem lk10_318 : am_lk 10 318 false MX10_maskBy := List.mem_of_getElem? (i := 1340) (by decide +kernel)
theorem lk11_105 : am_lk 11 105 false MX10_opens := List.mem_of_getElem? (i := 1344) (by decide +kernel)
theorem lk11_84 : am_lk 11 84 false MX10_would := List.mem_of_getElem? (i := 1348) (by decide +kernel)
theorem lk10_333 : am_lk 10 333 false MX10_isAsking := List.mem_of_getElem? (i := 1352) (by decide +kernel)
theorem lk10_321 : am_lk 10 321 false MX10_isAsker := List.mem_of_getElem? (i := 1356) (by decide +kernel)
theorem lk10_337 : am_lk 10 337 false MX10_wouldGet := List.mem_of_getElem? (i := 1360) (by decide +kernel)
theorem lk10_324 : am_lk 10 324 false MX10_hasName := List.mem_of_getElem? (i := 1364) (by decide +kernel)
theorem lk10_327 : am_lk 10 327 false MX10_traitsHeard := List.mem_of_getElem? (i := 1368) (by decide +kernel)
theorem lk10_330 : am_lk 10 330 false MX10_alike := List.mem_of_getElem? (i := 1372) (by decide +kernel)
theorem lk11_88 : am_lk 11 88 false MX10_ask := List.mem_of_getElem? (i := 1376) (by decide +kernel)
theorem lk11_93 : am_lk 11 93 false MX10_heard := List.mem_of_getElem? (i := 1380) (by decide +kernel)
theorem lk11_97 : am_lk 11 97 false MX10_could := List.mem_of_getElem? (i := 1384) (by decide +kernel)
theorem lk11_101 : am_lk 11 101 false MX10_seconds := List.mem_of_getElem? (i := 1388) (by decide +kernel)
theorem lk11_109 : am_lk 11 109 false MX10_at_ := List.mem_of_getElem? (i := 1392) (by decide +kernel)
theorem lk11_113 : am_lk 11 113 false MX10_span := List.mem_of_getElem? (i := 1396) (by decide +kernel)
theorem lk10_344 : am_lk 10 344 false MX10_isEvent := List.mem_of_getElem? (i := 1400) (by decide +kernel)
theorem lk10_347 : am_lk 10 347 false MX10_telling := List.mem_of_getElem? (i := 1403) (by decide +kernel)
theorem lk11_117 : am_lk 11 117 false MX10_behind := List.mem_of_getElem? (i := 1407) (by decide +kernel)
theorem lk11_121 : am_lk 11 121 false MX10_same := List.mem_of_getElem? (i := 1411) (by decide +kernel)
theorem lk11_125 : am_lk 11 125 false MX10_left := List.mem_of_getElem? (i := 1415) (by decide +kernel)
theorem lk10_364 : am_lk 10 364 false MX10_leftOf := List.mem_of_getElem? (i := 1419) (by decide +kernel)
theorem lk10_358 : am_lk 10 358 false MX10_bits := List.mem_of_getElem? (i := 1423) (by decide +kernel)
theorem lk10_361 : am_lk 10 361 false MX10_agrees := List.mem_of_getElem? (i := 1426) (by decide +kernel)
theorem lk10_354 : am_lk 10 354 false MX10_pushes := List.mem_of_getElem? (i := 1430) (by decide +kernel)
theorem lk11_129 : am_lk 11 129 false MX10_when := List.mem_of_getElem? (i := 1434) (by decide +kernel)
theorem lk11_133 : am_lk 11 133 false MX10_count := List.mem_of_getElem? (i := 1438) (by decide +kernel)
