theorem kL_15 : v_cI RL 15 mX8_init 0 := ⟨bX8_init, Or.inl (gw_t 26 (by decide +kernel) rfl), gw_t 27 (by decide +kernel) rfl, rfl, rfl⟩
theorem oX8_1 : Cond.methodLink RX8 1 Lib.objectInit ∈ gw := gw_t 29 (by decide +kernel) rfl
theorem oX6_3 : Cond.methodLink RX6 3 Lib.objectInit ∈ gw := gw_t 37 (by decide +kernel) rfl
theorem oX0_3 : Cond.methodLink RX0 3 Lib.objectInit ∈ gw := gw_t 43 (by decide +kernel) rfl
theorem oX5_3 : Cond.methodLink RX5 3 Lib.objectInit ∈ gw := gw_t 134 (by decide +kernel) rfl
theorem oX4_3 : Cond.methodLink RX4 3 Lib.objectInit ∈ gw := gw_t 140 (by decide +kernel) rfl
theorem oX3_3 : Cond.methodLink RX3 3 Lib.objectInit ∈ gw := gw_t 194 (by decide +kernel) rfl
theorem oX2_3 : Cond.methodLink RX2 3 Lib.objectInit ∈ gw := gw_t 292 (by decide +kernel) rfl
theorem oX1_3 : Cond.methodLink RX1 3 Lib.objectInit ∈ gw := gw_t 320 (by decide +kernel) rfl
theorem oX7_3 : Cond.methodLink RX7 3 Lib.objectInit ∈ gw := gw_t 341 (by decide +kernel) rfl
theorem kL_19 : v_cV RL 19 mX8_feed 5 := ⟨bX8_feed, gw_t 423 (by decide +kernel) rfl, gw_t 424 (by decide +kernel) rfl, gw_t 425 (by decide +kernel) rfl⟩
theorem kX8_80 : v_cV RX8 80 mX6_take 5 := ⟨bX6_take, gw_t 427 (by decide +kernel) rfl, gw_t 428 (by decide +kernel) rfl, gw_t 429 (by decide +kernel) rfl⟩
theorem kX6_26 : v_cV RX6 26 mX6_put 1 := ⟨bX6_put, gw_t 431 (by decide +kernel) rfl, gw_t 433 (by decide +kernel) rfl, gw_p 0 (q := (yX6_put, 11)) (by decide +kernel)⟩
theorem kL_24 : v_cV RL 24 mX8_book 1 := ⟨bX8_book, gw_t 435 (by decide +kernel) rfl, gw_t 436 (by decide +kernel) rfl, gw_t 437 (by decide +kernel) rfl⟩
theorem kX8_88 : v_cV RX8 88 mX8_refused 1 := ⟨bX8_refused, gw_t 439 (by decide +kernel) rfl, gw_t 441 (by decide +kernel) rfl, gw_p 1 (q := (yX8_refused, 18)) (by decide +kernel)⟩
theorem kX8_92 : v_cV RX8 92 mX6_read 1 := ⟨bX6_read, gw_t 443 (by decide +kernel) rfl, gw_t 444 (by decide +kernel) rfl, gw_t 445 (by decide +kernel) rfl⟩
theorem kX6_42 : v_cV RX6 42 mX0_clear 0 := ⟨bX0_clear, gw_t 447 (by decide +kernel) rfl, gw_t 448 (by decide +kernel) rfl, gw_t 449 (by decide +kernel) rfl⟩
theorem kX6_45 : v_cV RX6 45 mX6_advance 0 := ⟨bX6_advance, gw_t 451 (by decide +kernel) rfl, gw_t 453 (by decide +kernel) rfl, gw_p 2 (q := (yX6_advance, 11)) (by decide +kernel)⟩
theorem kX6_62 : v_cV RX6 62 mX6_byteAt 1 := ⟨bX6_byteAt, gw_t 455 (by decide +kernel) rfl, gw_t 457 (by decide +kernel) rfl, gw_p 3 (q := (yX6_byteAt, 11)) (by decide +kernel)⟩
theorem kX6_66 : v_cS RX6 66 mX6_isSmall 1 := ⟨bX6_isSmall, gw_t 459 (by decide +kernel) rfl, gw_t 460 (by decide +kernel) rfl⟩
theorem kX6_70 : v_cV RX6 70 mX6_readWord 0 := ⟨bX6_readWord, gw_t 462 (by decide +kernel) rfl, gw_t 464 (by decide +kernel) rfl, gw_p 4 (q := (yX6_readWord, 11)) (by decide +kernel)⟩
theorem kX6_73 : v_cS RX6 73 mX6_isDigit 1 := ⟨bX6_isDigit, gw_t 466 (by decide +kernel) rfl, gw_t 467 (by decide +kernel) rfl⟩
theorem kX6_76 : v_cV RX6 76 mX6_readWhole 0 := ⟨bX6_readWhole, gw_t 469 (by decide +kernel) rfl, gw_t 471 (by decide +kernel) rfl, gw_p 5 (q := (yX6_readWhole, 11)) (by decide +kernel)⟩
theorem kX6_48 : v_cV RX6 48 mX6_readLine 0 := ⟨bX6_readLine, gw_t 473 (by decide +kernel) rfl, gw_t 475 (by decide +kernel) rfl, gw_p 6 (q := (yX6_readLine, 11)) (by decide +kernel)⟩
theorem kX6_58 : v_cV RX6 58 mX6_fail 2 := ⟨bX6_fail, gw_t 477 (by decide +kernel) rfl, gw_t 479 (by decide +kernel) rfl, gw_p 7 (q := (yX6_fail, 11)) (by decide +kernel)⟩
theorem kX6_88 : v_cV RX6 88 mX6_readOwn 0 := ⟨bX6_readOwn, gw_t 482 (by decide +kernel) rfl, gw_t 484 (by decide +kernel) rfl, gw_p 8 (q := (yX6_readOwn, 11)) (by decide +kernel)⟩
theorem kX6_103 : v_cV RX6 103 mX6_readNewName 0 := ⟨bX6_readNewName, gw_t 486 (by decide +kernel) rfl, gw_t 488 (by decide +kernel) rfl, gw_p 9 (q := (yX6_readNewName, 11)) (by decide +kernel)⟩
theorem kX6_120 : v_cV RX6 120 mX6_isName 0 := ⟨bX6_isName, gw_t 490 (by decide +kernel) rfl, gw_t 492 (by decide +kernel) rfl, gw_p 10 (q := (yX6_isName, 11)) (by decide +kernel)⟩
theorem kX6_123 : v_cV RX6 123 mX0_findKind 1 := ⟨bX0_findKind, gw_t 498 (by decide +kernel) rfl, gw_t 499 (by decide +kernel) rfl, gw_t 500 (by decide +kernel) rfl⟩
theorem kX6_127 : v_cV RX6 127 mX0_addKind 1 := ⟨bX0_addKind, gw_t 502 (by decide +kernel) rfl, gw_t 503 (by decide +kernel) rfl, gw_t 504 (by decide +kernel) rfl⟩
theorem kX6_106 : v_cV RX6 106 mX6_readHeavy 0 := ⟨bX6_readHeavy, gw_t 506 (by decide +kernel) rfl, gw_t 508 (by decide +kernel) rfl, gw_p 11 (q := (yX6_readHeavy, 11)) (by decide +kernel)⟩
theorem kX6_109 : v_cV RX6 109 mX0_setOwn 1 := ⟨bX0_setOwn, gw_t 510 (by decide +kernel) rfl, gw_t 511 (by decide +kernel) rfl, gw_t 512 (by decide +kernel) rfl⟩
theorem kX0_55 : v_cV RX0 55 mX0_setKind 5 := ⟨bX0_setKind, gw_t 514 (by decide +kernel) rfl, gw_t 516 (by decide +kernel) rfl, gw_p 12 (q := (yX0_setKind, 11)) (by decide +kernel)⟩
theorem kX6_93 : v_cV RX6 93 mX6_readTwo 1 := ⟨bX6_readTwo, gw_t 518 (by decide +kernel) rfl, gw_t 520 (by decide +kernel) rfl, gw_p 13 (q := (yX6_readTwo, 11)) (by decide +kernel)⟩
theorem kX6_112 : v_cV RX6 112 mX6_readInt 2 := ⟨bX6_readInt, gw_t 522 (by decide +kernel) rfl, gw_t 524 (by decide +kernel) rfl, gw_p 14 (q := (yX6_readInt, 11)) (by decide +kernel)⟩
theorem kX6_116 : v_cV RX6 116 mX0_setTwo 3 := ⟨bX0_setTwo, gw_t 526 (by decide +kernel) rfl, gw_t 527 (by decide +kernel) rfl, gw_t 528 (by decide +kernel) rfl⟩
theorem kX6_100 : v_cV RX6 100 mX6_readMeet 0 := ⟨bX6_readMeet, gw_t 530 (by decide +kernel) rfl, gw_t 532 (by decide +kernel) rfl, gw_p 15 (q := (yX6_readMeet, 11)) (by decide +kernel)⟩
theorem kX6_131 : v_cV RX6 131 mX0_openRule 0 := ⟨bX0_openRule, gw_t 534 (by decide +kernel) rfl, gw_t 535 (by decide +kernel) rfl, gw_t 536 (by decide +kernel) rfl⟩
theorem kX6_134 : v_cV RX6 134 mX6_readLegs 0 := ⟨bX6_readLegs, gw_t 538 (by decide +kernel) rfl, gw_t 540 (by decide +kernel) rfl, gw_p 16 (q := (yX6_readLegs, 11)) (by decide +kernel)⟩
theorem kX6_144 : v_cV RX6 144 mX0_addLeg 1 := ⟨bX0_addLeg, gw_t 542 (by decide +kernel) rfl, gw_t 543 (by decide +kernel) rfl, gw_t 544 (by decide +kernel) rfl⟩
theorem kX6_139 : v_cV RX6 139 mX0_closeRule 2 := ⟨bX0_closeRule, gw_t 547 (by decide +kernel) rfl, gw_t 548 (by decide +kernel) rfl, gw_t 549 (by decide +kernel) rfl⟩
theorem kX0_59 : v_cV RX0 59 mX0_areEven 3 := ⟨bX0_areEven, gw_t 551 (by decide +kernel) rfl, gw_t 552 (by decide +kernel) rfl, gw_t 553 (by decide +kernel) rfl⟩
theorem kX0_47 : v_cV RX0 47 mX0_hasKind 1 := ⟨bX0_hasKind, gw_t 555 (by decide +kernel) rfl, gw_t 556 (by decide +kernel) rfl, gw_t 557 (by decide +kernel) rfl⟩
theorem kX0_52 : v_cV RX0 52 mX0_isHalf 1 := ⟨bX0_isHalf, gw_t 559 (by decide +kernel) rfl, gw_t 560 (by decide +kernel) rfl, gw_t 561 (by decide +kernel) rfl⟩
theorem kX0_63 : v_cV RX0 63 mX0_hasHalfTwice 2 := ⟨bX0_hasHalfTwice, gw_t 563 (by decide +kernel) rfl, gw_t 565 (by decide +kernel) rfl, gw_p 17 (q := (yX0_hasHalfTwice, 11)) (by decide +kernel)⟩
theorem kX8_99 : v_cV RX8 99 mX1_clear 0 := ⟨bX1_clear, gw_t 567 (by decide +kernel) rfl, gw_t 568 (by decide +kernel) rfl, gw_t 569 (by decide +kernel) rfl⟩
theorem kL_29 : v_cV RL 29 mX8_fault 0 := ⟨bX8_fault, gw_t 571 (by decide +kernel) rfl, gw_t 572 (by decide +kernel) rfl, gw_t 573 (by decide +kernel) rfl⟩
theorem kL_34 : v_cV RL 34 mX8_where 0 := ⟨bX8_where, gw_t 575 (by decide +kernel) rfl, gw_t 576 (by decide +kernel) rfl, gw_t 577 (by decide +kernel) rfl⟩
theorem kL_38 : v_cV RL 38 mX8_kind 2 := ⟨bX8_kind, gw_t 579 (by decide +kernel) rfl, gw_t 580 (by decide +kernel) rfl, gw_t 581 (by decide +kernel) rfl⟩
theorem kX8_118 : v_cV RX8 118 mX0_ofKind 2 := ⟨bX0_ofKind, gw_t 583 (by decide +kernel) rfl, gw_t 584 (by decide +kernel) rfl, gw_t 585 (by decide +kernel) rfl⟩
theorem kL_42 : v_cV RL 42 mX8_rule 2 := ⟨bX8_rule, gw_t 588 (by decide +kernel) rfl, gw_t 589 (by decide +kernel) rfl, gw_t 590 (by decide +kernel) rfl⟩
theorem kX8_122 : v_cV RX8 122 mX0_ofRule 2 := ⟨bX0_ofRule, gw_t 592 (by decide +kernel) rfl, gw_t 593 (by decide +kernel) rfl, gw_t 594 (by decide +kernel) rfl⟩
theorem kL_46 : v_cV RL 46 mX8_meeting 6 := ⟨bX8_meeting, gw_t 596 (by decide +kernel) rfl, gw_t 597 (by decide +kernel) rfl, gw_t 598 (by decide +kernel) rfl⟩
theorem kX8_125 : v_cV RX8 125 mX0_hasKind 1 := ⟨bX0_hasKind, gw_t 600 (by decide +kernel) rfl, gw_t 556 (by decide +kernel) rfl, gw_t 557 (by decide +kernel) rfl⟩
theorem kX8_128 : v_cV RX8 128 mX0_isTold 0 := ⟨bX0_isTold, gw_t 601 (by decide +kernel) rfl, gw_t 602 (by decide +kernel) rfl, gw_t 603 (by decide +kernel) rfl⟩
theorem kX8_132 : v_cV RX8 132 mX1_add 2 := ⟨bX1_add, gw_t 605 (by decide +kernel) rfl, gw_t 606 (by decide +kernel) rfl, gw_t 607 (by decide +kernel) rfl⟩
theorem kL_51 : v_cV RL 51 mX8_drawings 1 := ⟨bX8_drawings, gw_t 609 (by decide +kernel) rfl, gw_t 610 (by decide +kernel) rfl, gw_t 611 (by decide +kernel) rfl⟩
theorem kX8_136 : v_cV RX8 136 mX8_orderRefusal 1 := ⟨bX8_orderRefusal, gw_t 613 (by decide +kernel) rfl, gw_t 615 (by decide +kernel) rfl, gw_p 18 (q := (yX8_orderRefusal, 18)) (by decide +kernel)⟩
theorem kX8_139 : v_cV RX8 139 mX1_isBalanced 1 := ⟨bX1_isBalanced, gw_t 617 (by decide +kernel) rfl, gw_t 618 (by decide +kernel) rfl, gw_t 619 (by decide +kernel) rfl⟩
theorem kX1_22 : v_cV RX1 22 mX0_areEven 3 := ⟨bX0_areEven, gw_t 621 (by decide +kernel) rfl, gw_t 552 (by decide +kernel) rfl, gw_t 553 (by decide +kernel) rfl⟩
theorem kX8_143 : v_cV RX8 143 mX5_fill 3 := ⟨bX5_fill, gw_t 622 (by decide +kernel) rfl, gw_t 623 (by decide +kernel) rfl, gw_t 624 (by decide +kernel) rfl⟩
theorem kX5_29 : v_cV RX5 29 mX3_clear 1 := ⟨bX3_clear, gw_t 626 (by decide +kernel) rfl, gw_t 627 (by decide +kernel) rfl, gw_t 628 (by decide +kernel) rfl⟩
theorem kX5_37 : v_cV RX5 37 mX4_lay 4 := ⟨bX4_lay, gw_t 630 (by decide +kernel) rfl, gw_t 631 (by decide +kernel) rfl, gw_t 632 (by decide +kernel) rfl⟩
theorem kX4_51 : v_cS RX4 51 mX3_ruleIn 3 := ⟨bX3_ruleIn, gw_t 634 (by decide +kernel) rfl, gw_t 635 (by decide +kernel) rfl⟩
theorem kX4_64 : v_cV RX4 64 mX4_layPoint 2 := ⟨bX4_layPoint, gw_t 637 (by decide +kernel) rfl, gw_t 639 (by decide +kernel) rfl, gw_p 19 (q := (yX4_layPoint, 13)) (by decide +kernel)⟩
theorem kX4_68 : v_cV RX4 68 mX4_markKinds 1 := ⟨bX4_markKinds, gw_t 641 (by decide +kernel) rfl, gw_t 643 (by decide +kernel) rfl, gw_p 20 (q := (yX4_markKinds, 13)) (by decide +kernel)⟩
theorem kX4_85 : v_cV RX4 85 mX0_isHalf 1 := ⟨bX0_isHalf, gw_t 645 (by decide +kernel) rfl, gw_t 560 (by decide +kernel) rfl, gw_t 561 (by decide +kernel) rfl⟩
theorem kX4_72 : v_cV RX4 72 mX4_countNamings 0 := ⟨bX4_countNamings, gw_t 646 (by decide +kernel) rfl, gw_t 648 (by decide +kernel) rfl, gw_p 21 (q := (yX4_countNamings, 13)) (by decide +kernel)⟩
theorem kX4_92 : v_cV RX4 92 mX4_followsAlike 1 := ⟨bX4_followsAlike, gw_t 650 (by decide +kernel) rfl, gw_t 652 (by decide +kernel) rfl, gw_p 22 (q := (yX4_followsAlike, 13)) (by decide +kernel)⟩
theorem kX4_95 : v_cS RX4 95 mJ6_bitCount_0f7a4 1 := ⟨bJ6_bitCount_0f7a4, gw_t 654 (by decide +kernel) rfl, gw_t 655 (by decide +kernel) rfl⟩
theorem kX5_41 : v_cV RX5 41 mX3_openGroup 3 := ⟨bX3_openGroup, gw_t 660 (by decide +kernel) rfl, gw_t 661 (by decide +kernel) rfl, gw_t 662 (by decide +kernel) rfl⟩
theorem kX5_45 : v_cV RX5 45 mX4_allLegs 0 := ⟨bX4_allLegs, gw_t 664 (by decide +kernel) rfl, gw_t 665 (by decide +kernel) rfl, gw_t 666 (by decide +kernel) rfl⟩
theorem kX5_49 : v_cV RX5 49 mX5_draw 6 := ⟨bX5_draw, gw_t 668 (by decide +kernel) rfl, gw_t 670 (by decide +kernel) rfl, gw_p 23 (q := (yX5_draw, 3)) (by decide +kernel)⟩
theorem kX5_53 : v_cV RX5 53 mX5_keepIfLeast 3 := ⟨bX5_keepIfLeast, gw_t 672 (by decide +kernel) rfl, gw_t 674 (by decide +kernel) rfl, gw_p 24 (q := (yX5_keepIfLeast, 3)) (by decide +kernel)⟩
theorem kX5_82 : v_cV RX5 82 mX5_linksOf 1 := ⟨bX5_linksOf, gw_t 676 (by decide +kernel) rfl, gw_t 678 (by decide +kernel) rfl, gw_p 25 (q := (yX5_linksOf, 3)) (by decide +kernel)⟩
theorem kX5_116 : v_cS RX5 116 mX4_partnerIn 2 := ⟨bX4_partnerIn, gw_t 680 (by decide +kernel) rfl, gw_t 681 (by decide +kernel) rfl⟩
theorem kX5_132 : v_cV RX5 132 mX4_link 2 := ⟨bX4_link, gw_t 683 (by decide +kernel) rfl, gw_t 684 (by decide +kernel) rfl, gw_t 685 (by decide +kernel) rfl⟩
theorem kX5_86 : v_cV RX5 86 mX4_hangs 1 := ⟨bX4_hangs, gw_t 687 (by decide +kernel) rfl, gw_t 688 (by decide +kernel) rfl, gw_t 689 (by decide +kernel) rfl⟩
theorem kX5_90 : v_cV RX5 90 mX4_keepsRules 1 := ⟨bX4_keepsRules, gw_t 691 (by decide +kernel) rfl, gw_t 692 (by decide +kernel) rfl, gw_t 693 (by decide +kernel) rfl⟩
theorem kX5_93 : v_cV RX5 93 mX5_tally 2 := ⟨bX5_tally, gw_t 697 (by decide +kernel) rfl, gw_t 699 (by decide +kernel) rfl, gw_p 26 (q := (yX5_tally, 3)) (by decide +kernel)⟩
theorem kX5_122 : v_cV RX5 122 mX4_swapped 2 := ⟨bX4_swapped, gw_t 701 (by decide +kernel) rfl, gw_t 702 (by decide +kernel) rfl, gw_t 703 (by decide +kernel) rfl⟩
theorem kX5_97 : v_cV RX5 97 mX5_leastTallied 0 := ⟨bX5_leastTallied, gw_t 705 (by decide +kernel) rfl, gw_t 707 (by decide +kernel) rfl, gw_p 27 (q := (yX5_leastTallied, 3)) (by decide +kernel)⟩
theorem kX5_126 : v_cV RX5 126 mX5_firstTallied 2 := ⟨bX5_firstTallied, gw_t 709 (by decide +kernel) rfl, gw_t 711 (by decide +kernel) rfl, gw_p 28 (q := (yX5_firstTallied, 3)) (by decide +kernel)⟩
theorem kX5_74 : v_cS RX5 74 mX4_inRow 2 := ⟨bX4_inRow, gw_t 713 (by decide +kernel) rfl, gw_t 714 (by decide +kernel) rfl⟩
theorem kX5_101 : v_cV RX5 101 mX3_add 3 := ⟨bX3_add, gw_t 716 (by decide +kernel) rfl, gw_t 717 (by decide +kernel) rfl, gw_t 718 (by decide +kernel) rfl⟩
theorem kX5_105 : v_cV RX5 105 mX5_heaviesOf 2 := ⟨bX5_heaviesOf, gw_t 720 (by decide +kernel) rfl, gw_t 722 (by decide +kernel) rfl, gw_p 29 (q := (yX5_heaviesOf, 3)) (by decide +kernel)⟩
theorem kX5_109 : v_cV RX5 109 mX3_setHeavies 1 := ⟨bX3_setHeavies, gw_t 724 (by decide +kernel) rfl, gw_t 725 (by decide +kernel) rfl, gw_t 726 (by decide +kernel) rfl⟩
theorem kX5_112 : v_cV RX5 112 mX5_findCuts 2 := ⟨bX5_findCuts, gw_t 728 (by decide +kernel) rfl, gw_t 730 (by decide +kernel) rfl, gw_p 30 (q := (yX5_findCuts, 3)) (by decide +kernel)⟩
theorem kX5_143 : v_cV RX5 143 mX5_doubledLinks 1 := ⟨bX5_doubledLinks, gw_t 732 (by decide +kernel) rfl, gw_t 734 (by decide +kernel) rfl, gw_p 31 (q := (yX5_doubledLinks, 3)) (by decide +kernel)⟩
theorem kX5_146 : v_cV RX5 146 mX5_reach 2 := ⟨bX5_reach, gw_t 736 (by decide +kernel) rfl, gw_t 738 (by decide +kernel) rfl, gw_p 32 (q := (yX5_reach, 3)) (by decide +kernel)⟩
theorem kX5_71 : v_cV RX5 71 mX4_pointBit 1 := ⟨bX4_pointBit, gw_t 740 (by decide +kernel) rfl, gw_t 741 (by decide +kernel) rfl, gw_t 742 (by decide +kernel) rfl⟩
theorem kX5_149 : v_cV RX5 149 mX5_endsAt 2 := ⟨bX5_endsAt, gw_t 744 (by decide +kernel) rfl, gw_t 746 (by decide +kernel) rfl, gw_p 33 (q := (yX5_endsAt, 3)) (by decide +kernel)⟩
theorem kX5_152 : v_cV RX5 152 mX3_addCut 2 := ⟨bX3_addCut, gw_t 748 (by decide +kernel) rfl, gw_t 749 (by decide +kernel) rfl, gw_t 750 (by decide +kernel) rfl⟩
theorem kX5_57 : v_cS RX5 57 mJ6_numberOfTrailingZeros_0f7a4 1 := ⟨bJ6_numberOfTrailingZeros_0f7a4, gw_t 752 (by decide +kernel) rfl, gw_t 753 (by decide +kernel) rfl⟩
theorem kX5_67 : v_cV RX5 67 mX4_mayLead 4 := ⟨bX4_mayLead, gw_t 756 (by decide +kernel) rfl, gw_t 757 (by decide +kernel) rfl, gw_t 758 (by decide +kernel) rfl⟩
theorem kX4_101 : v_cV RX4 101 mX4_mayJoin 3 := ⟨bX4_mayJoin, gw_t 760 (by decide +kernel) rfl, gw_t 761 (by decide +kernel) rfl, gw_t 762 (by decide +kernel) rfl⟩
theorem kX4_105 : v_cV RX4 105 mX4_pointBit 1 := ⟨bX4_pointBit, gw_t 764 (by decide +kernel) rfl, gw_t 741 (by decide +kernel) rfl, gw_t 742 (by decide +kernel) rfl⟩
theorem kX5_78 : v_cV RX5 78 mX4_signOf 3 := ⟨bX4_signOf, gw_t 765 (by decide +kernel) rfl, gw_t 766 (by decide +kernel) rfl, gw_t 767 (by decide +kernel) rfl⟩
theorem kL_55 : v_cV RL 55 mX8_drawing 2 := ⟨bX8_drawing, gw_t 769 (by decide +kernel) rfl, gw_t 770 (by decide +kernel) rfl, gw_t 771 (by decide +kernel) rfl⟩
theorem kX8_153 : v_cV RX8 153 mX8_isListed 1 := ⟨bX8_isListed, gw_t 773 (by decide +kernel) rfl, gw_t 775 (by decide +kernel) rfl, gw_p 34 (q := (yX8_isListed, 18)) (by decide +kernel)⟩
theorem kX8_156 : v_cV RX8 156 mX3_ofDrawing 2 := ⟨bX3_ofDrawing, gw_t 777 (by decide +kernel) rfl, gw_t 778 (by decide +kernel) rfl, gw_t 779 (by decide +kernel) rfl⟩
theorem kX3_94 : v_cV RX3 94 mX3_loops 1 := ⟨bX3_loops, gw_t 781 (by decide +kernel) rfl, gw_t 782 (by decide +kernel) rfl, gw_t 783 (by decide +kernel) rfl⟩
theorem kX3_98 : v_cV RX3 98 mX3_ways 1 := ⟨bX3_ways, gw_t 785 (by decide +kernel) rfl, gw_t 786 (by decide +kernel) rfl, gw_t 787 (by decide +kernel) rfl⟩
theorem kL_59 : v_cV RL 59 mX8_point 2 := ⟨bX8_point, gw_t 791 (by decide +kernel) rfl, gw_t 792 (by decide +kernel) rfl, gw_t 793 (by decide +kernel) rfl⟩
theorem kX8_160 : v_cV RX8 160 mX3_ruleOf 2 := ⟨bX3_ruleOf, gw_t 795 (by decide +kernel) rfl, gw_t 796 (by decide +kernel) rfl, gw_t 797 (by decide +kernel) rfl⟩
theorem kX3_102 : v_cV RX3 102 mX3_codeOf 1 := ⟨bX3_codeOf, gw_t 799 (by decide +kernel) rfl, gw_t 800 (by decide +kernel) rfl, gw_t 801 (by decide +kernel) rfl⟩
theorem kX3_105 : v_cS RX3 105 mX3_ruleIn 3 := ⟨bX3_ruleIn, gw_t 803 (by decide +kernel) rfl, gw_t 635 (by decide +kernel) rfl⟩
theorem kL_63 : v_cV RL 63 mX8_joined 2 := ⟨bX8_joined, gw_t 804 (by decide +kernel) rfl, gw_t 805 (by decide +kernel) rfl, gw_t 806 (by decide +kernel) rfl⟩
theorem kX8_163 : v_cV RX8 163 mX3_partnerOf 2 := ⟨bX3_partnerOf, gw_t 808 (by decide +kernel) rfl, gw_t 809 (by decide +kernel) rfl, gw_t 810 (by decide +kernel) rfl⟩
theorem kX3_109 : v_cV RX3 109 mX3_legsOf 1 := ⟨bX3_legsOf, gw_t 812 (by decide +kernel) rfl, gw_t 813 (by decide +kernel) rfl, gw_t 814 (by decide +kernel) rfl⟩
theorem kX3_112 : v_cS RX3 112 mX4_partnerIn 2 := ⟨bX4_partnerIn, gw_t 816 (by decide +kernel) rfl, gw_t 681 (by decide +kernel) rfl⟩
theorem kL_76 : v_cV RL 76 mX8_pairings 0 := ⟨bX8_pairings, gw_t 817 (by decide +kernel) rfl, gw_t 818 (by decide +kernel) rfl, gw_t 819 (by decide +kernel) rfl⟩
theorem kX8_176 : v_cV RX8 176 mX3_allWays 0 := ⟨bX3_allWays, gw_t 821 (by decide +kernel) rfl, gw_t 822 (by decide +kernel) rfl, gw_t 823 (by decide +kernel) rfl⟩
theorem kL_80 : v_cV RL 80 mX8_same 7 := ⟨bX8_same, gw_t 825 (by decide +kernel) rfl, gw_t 826 (by decide +kernel) rfl, gw_t 827 (by decide +kernel) rfl⟩
theorem kX8_180 : v_cV RX8 180 mX3_legsOf 1 := ⟨bX3_legsOf, gw_t 829 (by decide +kernel) rfl, gw_t 813 (by decide +kernel) rfl, gw_t 814 (by decide +kernel) rfl⟩
theorem kX8_183 : v_cS RX8 183 mX8_packPair 4 := ⟨bX8_packPair, gw_t 830 (by decide +kernel) rfl, gw_t 831 (by decide +kernel) rfl⟩
theorem kX8_327 : v_cS RX8 327 mJ9_floorDiv_7cf53 2 := ⟨bJ9_floorDiv_7cf53, gw_t 833 (by decide +kernel) rfl, gw_t 834 (by decide +kernel) rfl⟩
theorem kX8_332 : v_cS RX8 332 mJ9_floorMod_7cf53 2 := ⟨bJ9_floorMod_7cf53, gw_t 836 (by decide +kernel) rfl, gw_t 837 (by decide +kernel) rfl⟩
theorem kX8_337 : v_cS RX8 337 mX4_inRow 2 := ⟨bX4_inRow, gw_t 840 (by decide +kernel) rfl, gw_t 714 (by decide +kernel) rfl⟩
theorem kX8_190 : v_cV RX8 190 mX3_codeOf 1 := ⟨bX3_codeOf, gw_t 841 (by decide +kernel) rfl, gw_t 800 (by decide +kernel) rfl, gw_t 801 (by decide +kernel) rfl⟩
theorem kX8_193 : v_cV RX8 193 mX5_leastOf 5 := ⟨bX5_leastOf, gw_t 842 (by decide +kernel) rfl, gw_t 843 (by decide +kernel) rfl, gw_t 844 (by decide +kernel) rfl⟩
theorem kX5_156 : v_cV RX5 156 mX4_isPairing 1 := ⟨bX4_isPairing, gw_t 846 (by decide +kernel) rfl, gw_t 847 (by decide +kernel) rfl, gw_t 848 (by decide +kernel) rfl⟩
theorem kX4_111 : v_cS RX4 111 mX4_partnerIn 2 := ⟨bX4_partnerIn, gw_t 850 (by decide +kernel) rfl, gw_t 681 (by decide +kernel) rfl⟩
theorem kX4_115 : v_cV RX4 115 mX4_link 2 := ⟨bX4_link, gw_t 851 (by decide +kernel) rfl, gw_t 684 (by decide +kernel) rfl, gw_t 685 (by decide +kernel) rfl⟩
theorem kX4_119 : v_cV RX4 119 mX4_hangs 1 := ⟨bX4_hangs, gw_t 852 (by decide +kernel) rfl, gw_t 688 (by decide +kernel) rfl, gw_t 689 (by decide +kernel) rfl⟩
theorem kX5_162 : v_cS RX5 162 mJ9_min_f86c9 2 := ⟨bJ9_min_f86c9, gw_t 854 (by decide +kernel) rfl, gw_t 855 (by decide +kernel) rfl⟩
theorem kX8_197 : v_cV RX8 197 mX3_groupOf 1 := ⟨bX3_groupOf, gw_t 857 (by decide +kernel) rfl, gw_t 858 (by decide +kernel) rfl, gw_t 859 (by decide +kernel) rfl⟩
theorem kX8_200 : v_cV RX8 200 mX3_find 2 := ⟨bX3_find, gw_t 861 (by decide +kernel) rfl, gw_t 862 (by decide +kernel) rfl, gw_t 863 (by decide +kernel) rfl⟩
theorem kL_85 : v_cV RL 85 mX8_sum 4 := ⟨bX8_sum, gw_t 865 (by decide +kernel) rfl, gw_t 866 (by decide +kernel) rfl, gw_t 867 (by decide +kernel) rfl⟩
theorem kX8_204 : v_cV RX8 204 mX8_hasPowers 3 := ⟨bX8_hasPowers, gw_t 869 (by decide +kernel) rfl, gw_t 871 (by decide +kernel) rfl, gw_p 35 (q := (yX8_hasPowers, 18)) (by decide +kernel)⟩
theorem kX8_210 : v_cS RX8 210 mX8_powersCode 3 := ⟨bX8_powersCode, gw_t 874 (by decide +kernel) rfl, gw_t 875 (by decide +kernel) rfl⟩
theorem kX8_214 : v_cV RX8 214 mX8_exactly 3 := ⟨bX8_exactly, gw_t 877 (by decide +kernel) rfl, gw_t 879 (by decide +kernel) rfl, gw_p 36 (q := (yX8_exactly, 18)) (by decide +kernel)⟩
theorem kX8_266 : v_cV RX8 266 mX2_clear 0 := ⟨bX2_clear, gw_t 881 (by decide +kernel) rfl, gw_t 882 (by decide +kernel) rfl, gw_t 883 (by decide +kernel) rfl⟩
theorem kX8_273 : v_cV RX8 273 mX3_divisor 1 := ⟨bX3_divisor, gw_t 885 (by decide +kernel) rfl, gw_t 886 (by decide +kernel) rfl, gw_t 887 (by decide +kernel) rfl⟩
theorem kX8_277 : v_cV RX8 277 mX2_widen 1 := ⟨bX2_widen, gw_t 889 (by decide +kernel) rfl, gw_t 890 (by decide +kernel) rfl, gw_t 891 (by decide +kernel) rfl⟩
theorem kX2_23 : v_cS RX2 23 mX2_exponentOf 2 := ⟨bX2_exponentOf, gw_t 895 (by decide +kernel) rfl, gw_t 896 (by decide +kernel) rfl⟩
theorem kX2_27 : v_cS RX2 27 mJ9_max_7cf53 2 := ⟨bJ9_max_7cf53, gw_t 898 (by decide +kernel) rfl, gw_t 899 (by decide +kernel) rfl⟩
theorem kX8_284 : v_cV RX8 284 mX3_signedWays 1 := ⟨bX3_signedWays, gw_t 901 (by decide +kernel) rfl, gw_t 902 (by decide +kernel) rfl, gw_t 903 (by decide +kernel) rfl⟩
theorem kX8_290 : v_cV RX8 290 mX2_add 2 := ⟨bX2_add, gw_t 905 (by decide +kernel) rfl, gw_t 906 (by decide +kernel) rfl, gw_t 907 (by decide +kernel) rfl⟩
theorem kX2_33 : v_cS RX2 33 mJ9_abs_067f4 1 := ⟨bJ9_abs_067f4, gw_t 909 (by decide +kernel) rfl, gw_t 910 (by decide +kernel) rfl⟩
theorem kX2_39 : v_cV RX2 39 mX2_multiplyTerm 1 := ⟨bX2_multiplyTerm, gw_t 913 (by decide +kernel) rfl, gw_t 915 (by decide +kernel) rfl, gw_p 37 (q := (yX2_multiplyTerm, 6)) (by decide +kernel)⟩
theorem kX8_293 : v_cV RX8 293 mX2_reduce 0 := ⟨bX2_reduce, gw_t 917 (by decide +kernel) rfl, gw_t 918 (by decide +kernel) rfl, gw_t 919 (by decide +kernel) rfl⟩
theorem kX2_43 : v_cV RX2 43 mX2_carryOver 1 := ⟨bX2_carryOver, gw_t 921 (by decide +kernel) rfl, gw_t 923 (by decide +kernel) rfl, gw_p 38 (q := (yX2_carryOver, 6)) (by decide +kernel)⟩
theorem kX2_47 : v_cV RX2 47 mX2_isDivisible 1 := ⟨bX2_isDivisible, gw_t 925 (by decide +kernel) rfl, gw_t 927 (by decide +kernel) rfl, gw_p 39 (q := (yX2_isDivisible, 6)) (by decide +kernel)⟩
theorem kX2_51 : v_cV RX2 51 mX2_divide 1 := ⟨bX2_divide, gw_t 929 (by decide +kernel) rfl, gw_t 931 (by decide +kernel) rfl, gw_p 40 (q := (yX2_divide, 6)) (by decide +kernel)⟩
theorem kX2_54 : v_cV RX2 54 mX2_numeratorSize 0 := ⟨bX2_numeratorSize, gw_t 933 (by decide +kernel) rfl, gw_t 935 (by decide +kernel) rfl, gw_p 41 (q := (yX2_numeratorSize, 6)) (by decide +kernel)⟩
theorem kX2_62 : v_cV RX2 62 mX2_denominatorSize 0 := ⟨bX2_denominatorSize, gw_t 938 (by decide +kernel) rfl, gw_t 940 (by decide +kernel) rfl, gw_p 42 (q := (yX2_denominatorSize, 6)) (by decide +kernel)⟩
theorem kL_90 : v_cV RL 90 mX8_byPairings 4 := ⟨bX8_byPairings, gw_t 943 (by decide +kernel) rfl, gw_t 944 (by decide +kernel) rfl, gw_t 945 (by decide +kernel) rfl⟩
theorem kX8_218 : v_cV RX8 218 mX5_walkAll 4 := ⟨bX5_walkAll, gw_t 947 (by decide +kernel) rfl, gw_t 948 (by decide +kernel) rfl, gw_t 949 (by decide +kernel) rfl⟩
theorem kX5_187 : v_cV RX5 187 mX5_walk 3 := ⟨bX5_walk, gw_t 951 (by decide +kernel) rfl, gw_t 953 (by decide +kernel) rfl, gw_p 43 (q := (yX5_walk, 3)) (by decide +kernel)⟩
theorem kX5_190 : v_cV RX5 190 mX4_mayJoin 3 := ⟨bX4_mayJoin, gw_t 955 (by decide +kernel) rfl, gw_t 761 (by decide +kernel) rfl, gw_t 762 (by decide +kernel) rfl⟩
theorem kL_94 : v_cV RL 94 mX8_number 2 := ⟨bX8_number, gw_t 956 (by decide +kernel) rfl, gw_t 957 (by decide +kernel) rfl, gw_t 958 (by decide +kernel) rfl⟩
theorem kX8_223 : v_cV RX8 223 mX8_allowed 1 := ⟨bX8_allowed, gw_t 960 (by decide +kernel) rfl, gw_t 962 (by decide +kernel) rfl, gw_p 44 (q := (yX8_allowed, 18)) (by decide +kernel)⟩
theorem kL_99 : v_cV RL 99 mX8_letter 2 := ⟨bX8_letter, gw_t 964 (by decide +kernel) rfl, gw_t 965 (by decide +kernel) rfl, gw_t 966 (by decide +kernel) rfl⟩
theorem kL_103 : v_cV RL 103 mX8_at 1 := ⟨bX8_at, gw_t 968 (by decide +kernel) rfl, gw_t 969 (by decide +kernel) rfl, gw_t 970 (by decide +kernel) rfl⟩
theorem kX8_229 : v_cV RX8 229 mX8_reckonWhole 3 := ⟨bX8_reckonWhole, gw_t 972 (by decide +kernel) rfl, gw_t 974 (by decide +kernel) rfl, gw_p 45 (q := (yX8_reckonWhole, 18)) (by decide +kernel)⟩
theorem kX8_301 : v_cV RX8 301 mX1_total 0 := ⟨bX1_total, gw_t 976 (by decide +kernel) rfl, gw_t 977 (by decide +kernel) rfl, gw_t 978 (by decide +kernel) rfl⟩
theorem kX1_28 : v_cV RX1 28 mX1_flow 1 := ⟨bX1_flow, gw_t 980 (by decide +kernel) rfl, gw_t 981 (by decide +kernel) rfl, gw_t 982 (by decide +kernel) rfl⟩
theorem kX8_304 : v_cV RX8 304 mX7_clear 0 := ⟨bX7_clear, gw_t 984 (by decide +kernel) rfl, gw_t 985 (by decide +kernel) rfl, gw_t 986 (by decide +kernel) rfl⟩
theorem kX8_305 : v_cV RX8 305 mX7_addWorths 6 := ⟨bX7_addWorths, gw_t 988 (by decide +kernel) rfl, gw_t 989 (by decide +kernel) rfl, gw_t 990 (by decide +kernel) rfl⟩
theorem kX7_31 : v_cS RX7 31 mX7_findCut 4 := ⟨bX7_findCut, gw_t 992 (by decide +kernel) rfl, gw_t 993 (by decide +kernel) rfl⟩
theorem kX7_58 : v_cV RX7 58 mX3_sideOf 2 := ⟨bX3_sideOf, gw_t 995 (by decide +kernel) rfl, gw_t 996 (by decide +kernel) rfl, gw_t 997 (by decide +kernel) rfl⟩
theorem kX7_62 : v_cV RX7 62 mX3_sideKindOf 2 := ⟨bX3_sideKindOf, gw_t 999 (by decide +kernel) rfl, gw_t 1000 (by decide +kernel) rfl, gw_t 1001 (by decide +kernel) rfl⟩
theorem kX7_35 : v_cV RX7 35 mX3_loops 1 := ⟨bX3_loops, gw_t 1003 (by decide +kernel) rfl, gw_t 782 (by decide +kernel) rfl, gw_t 783 (by decide +kernel) rfl⟩
theorem kX7_39 : v_cV RX7 39 mX7_divideByJoins 5 := ⟨bX7_divideByJoins, gw_t 1004 (by decide +kernel) rfl, gw_t 1006 (by decide +kernel) rfl, gw_p 46 (q := (yX7_divideByJoins, 6)) (by decide +kernel)⟩
theorem kX7_68 : v_cV RX7 68 mX1_flow 1 := ⟨bX1_flow, gw_t 1008 (by decide +kernel) rfl, gw_t 981 (by decide +kernel) rfl, gw_t 982 (by decide +kernel) rfl⟩
theorem kX7_81 : v_cS RX7 81 mJ9_floorMod_f86c9 2 := ⟨bJ9_floorMod_f86c9, gw_t 1011 (by decide +kernel) rfl, gw_t 1012 (by decide +kernel) rfl⟩
theorem kX7_47 : v_cS RX7 47 mX7_above 3 := ⟨bX7_above, gw_t 1014 (by decide +kernel) rfl, gw_t 1015 (by decide +kernel) rfl⟩
theorem kX7_87 : v_cV RX7 87 mX3_groupOf 1 := ⟨bX3_groupOf, gw_t 1017 (by decide +kernel) rfl, gw_t 858 (by decide +kernel) rfl, gw_t 859 (by decide +kernel) rfl⟩
theorem kX7_51 : v_cV RX7 51 mX7_addTerm 1 := ⟨bX7_addTerm, gw_t 1018 (by decide +kernel) rfl, gw_t 1020 (by decide +kernel) rfl, gw_p 47 (q := (yX7_addTerm, 6)) (by decide +kernel)⟩
theorem kX7_96 : v_cS RX7 96 mX7_inverse 2 := ⟨bX7_inverse, gw_t 1022 (by decide +kernel) rfl, gw_t 1023 (by decide +kernel) rfl⟩
theorem kX8_309 : v_cV RX8 309 mX8_settle 0 := ⟨bX8_settle, gw_t 1026 (by decide +kernel) rfl, gw_t 1028 (by decide +kernel) rfl, gw_p 48 (q := (yX8_settle, 18)) (by decide +kernel)⟩
theorem kX8_324 : v_cV RX8 324 mX7_findFraction 0 := ⟨bX7_findFraction, gw_t 1030 (by decide +kernel) rfl, gw_t 1031 (by decide +kernel) rfl, gw_t 1032 (by decide +kernel) rfl⟩
theorem kX7_101 : v_cV RX7 101 mX7_joinedRests 0 := ⟨bX7_joinedRests, gw_t 1034 (by decide +kernel) rfl, gw_t 1036 (by decide +kernel) rfl, gw_p 49 (q := (yX7_joinedRests, 6)) (by decide +kernel)⟩
theorem kX7_107 : v_cS RX7 107 mJ9_abs_067f4 1 := ⟨bJ9_abs_067f4, gw_t 1039 (by decide +kernel) rfl, gw_t 910 (by decide +kernel) rfl⟩
theorem kX7_111 : v_cV RX7 111 mX7_takeFraction 2 := ⟨bX7_takeFraction, gw_t 1040 (by decide +kernel) rfl, gw_t 1042 (by decide +kernel) rfl, gw_p 50 (q := (yX7_takeFraction, 6)) (by decide +kernel)⟩
theorem kX7_115 : v_cS RX7 115 mX7_divisorOf 2 := ⟨bX7_divisorOf, gw_t 1044 (by decide +kernel) rfl, gw_t 1045 (by decide +kernel) rfl⟩
theorem kL_108 : v_cV RL 108 mX8_parted 3 := ⟨bX8_parted, gw_t 1047 (by decide +kernel) rfl, gw_t 1048 (by decide +kernel) rfl, gw_t 1049 (by decide +kernel) rfl⟩
theorem kX8_232 : v_cV RX8 232 mX8_cutRefusal 3 := ⟨bX8_cutRefusal, gw_t 1051 (by decide +kernel) rfl, gw_t 1053 (by decide +kernel) rfl, gw_p 51 (q := (yX8_cutRefusal, 18)) (by decide +kernel)⟩
theorem kX8_263 : v_cV RX8 263 mX1_isSide 1 := ⟨bX1_isSide, gw_t 1055 (by decide +kernel) rfl, gw_t 1056 (by decide +kernel) rfl, gw_t 1057 (by decide +kernel) rfl⟩
theorem kX1_32 : v_cS RX1 32 mJ6_bitCount_0f7a4 1 := ⟨bJ6_bitCount_0f7a4, gw_t 1059 (by decide +kernel) rfl, gw_t 655 (by decide +kernel) rfl⟩
theorem kX8_235 : v_cV RX8 235 mX8_reckonParts 3 := ⟨bX8_reckonParts, gw_t 1060 (by decide +kernel) rfl, gw_t 1062 (by decide +kernel) rfl, gw_p 52 (q := (yX8_reckonParts, 18)) (by decide +kernel)⟩
theorem kX8_312 : v_cV RX8 312 mX8_splitEnds 2 := ⟨bX8_splitEnds, gw_t 1064 (by decide +kernel) rfl, gw_t 1066 (by decide +kernel) rfl, gw_p 53 (q := (yX8_splitEnds, 18)) (by decide +kernel)⟩
theorem kX8_315 : v_cV RX8 315 mX7_addProduct 2 := ⟨bX7_addProduct, gw_t 1068 (by decide +kernel) rfl, gw_t 1069 (by decide +kernel) rfl, gw_t 1070 (by decide +kernel) rfl⟩
theorem kL_113 : v_cV RL 113 mX8_whole 3 := ⟨bX8_whole, gw_t 1072 (by decide +kernel) rfl, gw_t 1073 (by decide +kernel) rfl, gw_t 1074 (by decide +kernel) rfl⟩
theorem kL_117 : v_cV RL 117 mX8_worth 1 := ⟨bX8_worth, gw_t 1076 (by decide +kernel) rfl, gw_t 1077 (by decide +kernel) rfl, gw_t 1078 (by decide +kernel) rfl⟩
theorem kL_122 : v_cV RL 122 mX8_rest 1 := ⟨bX8_rest, gw_t 1080 (by decide +kernel) rfl, gw_t 1081 (by decide +kernel) rfl, gw_t 1082 (by decide +kernel) rfl⟩
theorem kX8_248 : v_cV RX8 248 mX7_restBy 1 := ⟨bX7_restBy, gw_t 1084 (by decide +kernel) rfl, gw_t 1085 (by decide +kernel) rfl, gw_t 1086 (by decide +kernel) rfl⟩
theorem kL_126 : v_cV RL 126 mX8_pole 0 := ⟨bX8_pole, gw_t 1088 (by decide +kernel) rfl, gw_t 1089 (by decide +kernel) rfl, gw_t 1090 (by decide +kernel) rfl⟩
theorem kL_130 : v_cV RL 130 mX8_count 1 := ⟨bX8_count, gw_t 1092 (by decide +kernel) rfl, gw_t 1093 (by decide +kernel) rfl, gw_t 1094 (by decide +kernel) rfl⟩
theorem kX8_257 : v_cV RX8 257 mX3_withoutLoops 0 := ⟨bX3_withoutLoops, gw_t 1096 (by decide +kernel) rfl, gw_t 1097 (by decide +kernel) rfl, gw_t 1098 (by decide +kernel) rfl⟩
theorem kX8_260 : v_cV RX8 260 mX3_withoutCuts 0 := ⟨bX3_withoutCuts, gw_t 1100 (by decide +kernel) rfl, gw_t 1101 (by decide +kernel) rfl, gw_t 1102 (by decide +kernel) rfl⟩
theorem kL_134 : v_cV RL 134 mX8_trouble 0 := ⟨bX8_trouble, gw_t 1104 (by decide +kernel) rfl, gw_t 1105 (by decide +kernel) rfl, gw_t 1106 (by decide +kernel) rfl⟩
theorem kL_7 : v_cV RL 7 mX8_side 2 := ⟨bX8_side, gw_t 1112 (by decide +kernel) rfl, gw_t 1113 (by decide +kernel) rfl, gw_t 1114 (by decide +kernel) rfl⟩
theorem kX8_166 : v_cV RX8 166 mX3_hasCut 2 := ⟨bX3_hasCut, gw_t 1116 (by decide +kernel) rfl, gw_t 1117 (by decide +kernel) rfl, gw_t 1118 (by decide +kernel) rfl⟩
theorem kX8_173 : v_cV RX8 173 mX3_sideOf 2 := ⟨bX3_sideOf, gw_t 1183 (by decide +kernel) rfl, gw_t 996 (by decide +kernel) rfl, gw_t 997 (by decide +kernel) rfl⟩
theorem kL_18 : v_cI RL 18 mX12_init 0 := ⟨bX12_init, Or.inl (gw_t 1186 (by decide +kernel) rfl), gw_t 1187 (by decide +kernel) rfl, rfl, rfl⟩
theorem oX12_1 : Cond.methodLink RX12 1 Lib.objectInit ∈ gw := gw_t 1189 (by decide +kernel) rfl
theorem oX9_3 : Cond.methodLink RX9 3 Lib.objectInit ∈ gw := gw_t 1195 (by decide +kernel) rfl
theorem kX12_25 : v_cI RX12 25 mX11_init 0 := ⟨bX11_init, Or.inl (gw_t 1253 (by decide +kernel) rfl), gw_t 1254 (by decide +kernel) rfl, rfl, rfl⟩
theorem oX10_3 : Cond.methodLink RX10 3 Lib.objectInit ∈ gw := gw_t 1278 (by decide +kernel) rfl
theorem kL_73 : v_cV RL 73 mX12_thrown 0 := ⟨bX12_thrown, gw_t 1495 (by decide +kernel) rfl, gw_t 1496 (by decide +kernel) rfl, gw_t 1497 (by decide +kernel) rfl⟩
theorem kL_23 : v_cV RL 23 mX12_feed 5 := ⟨bX12_feed, gw_t 1499 (by decide +kernel) rfl, gw_t 1500 (by decide +kernel) rfl, gw_t 1501 (by decide +kernel) rfl⟩
theorem kX12_303 : v_cV RX12 303 mX12_refused 1 := ⟨bX12_refused, gw_t 1507 (by decide +kernel) rfl, gw_t 1509 (by decide +kernel) rfl, gw_p 55 (q := (yX12_refused, 59)) (by decide +kernel)⟩
theorem kX12_236 : v_cV RX12 236 mX12_next 0 := ⟨bX12_next, gw_t 1511 (by decide +kernel) rfl, gw_t 1513 (by decide +kernel) rfl, gw_p 56 (q := (yX12_next, 59)) (by decide +kernel)⟩
theorem kX12_182 : v_cV RX12 182 mX12_byteAt 1 := ⟨bX12_byteAt, gw_t 1515 (by decide +kernel) rfl, gw_t 1517 (by decide +kernel) rfl, gw_p 57 (q := (yX12_byteAt, 59)) (by decide +kernel)⟩
theorem kX12_192 : v_cS RX12 192 mX12_isLetter 1 := ⟨bX12_isLetter, gw_t 1519 (by decide +kernel) rfl, gw_t 1520 (by decide +kernel) rfl⟩
theorem kX12_199 : v_cS RX12 199 mX12_isDigit 1 := ⟨bX12_isDigit, gw_t 1523 (by decide +kernel) rfl, gw_t 1524 (by decide +kernel) rfl⟩
theorem kX12_309 : v_cV RX12 309 mX12_readBook 0 := ⟨bX12_readBook, gw_t 1526 (by decide +kernel) rfl, gw_t 1528 (by decide +kernel) rfl, gw_p 58 (q := (yX12_readBook, 59)) (by decide +kernel)⟩
theorem kX12_211 : v_cV RX12 211 mX12_isWord 1 := ⟨bX12_isWord, gw_t 1531 (by decide +kernel) rfl, gw_t 1533 (by decide +kernel) rfl, gw_p 59 (q := (yX12_isWord, 59)) (by decide +kernel)⟩
theorem kX12_205 : v_cS RX12 205 mX12_wordOf 1 := ⟨bX12_wordOf, gw_t 1535 (by decide +kernel) rfl, gw_t 1536 (by decide +kernel) rfl⟩
theorem kX12_167 : v_cV RX12 167 mJ0_length_8abf5 0 := ⟨bJ0_length_8abf5, gw_t 1538 (by decide +kernel) rfl, gw_t 1539 (by decide +kernel) rfl, gw_t 1540 (by decide +kernel) rfl⟩
theorem kJ0_335 : v_cV RJ0 335 mJ0_coder_7d493 0 := ⟨bJ0_coder_7d493, gw_t 1542 (by decide +kernel) rfl, gw_t 1543 (by decide +kernel) rfl, gw_t 1544 (by decide +kernel) rfl⟩
theorem kX12_175 : v_cV RX12 175 mJ0_charAt_5068e 1 := ⟨bJ0_charAt_5068e, gw_t 1548 (by decide +kernel) rfl, gw_t 1549 (by decide +kernel) rfl, gw_t 1550 (by decide +kernel) rfl⟩
theorem kJ0_492 : v_cV RJ0 492 mJ0_isLatin1_aae02 0 := ⟨bJ0_isLatin1_aae02, gw_t 1552 (by decide +kernel) rfl, gw_t 1553 (by decide +kernel) rfl, gw_t 1554 (by decide +kernel) rfl⟩
theorem kJ0_495 : v_cS RJ0 495 mJ1_charAt_3b067 2 := ⟨bJ1_charAt_3b067, gw_t 1556 (by decide +kernel) rfl, gw_t 1557 (by decide +kernel) rfl⟩
theorem kJ1_9 : v_cS RJ1 9 mJ0_checkIndex_df160 2 := ⟨bJ0_checkIndex_df160, gw_t 1559 (by decide +kernel) rfl, gw_t 1560 (by decide +kernel) rfl⟩
theorem kJ0_1059 : v_cS RJ0 1059 mJ3_checkIndex_8e157 3 := ⟨bJ3_checkIndex_8e157, gw_t 1564 (by decide +kernel) rfl, gw_t 1565 (by decide +kernel) rfl⟩
theorem kJ0_498 : v_cS RJ0 498 mJ2_charAt_3b067 2 := ⟨bJ2_charAt_3b067, gw_t 1567 (by decide +kernel) rfl, gw_t 1568 (by decide +kernel) rfl⟩
theorem kJ2_67 : v_cS RJ2 67 mJ2_checkIndex_2214a 2 := ⟨bJ2_checkIndex_2214a, gw_t 1570 (by decide +kernel) rfl, gw_t 1571 (by decide +kernel) rfl⟩
theorem kJ2_48 : v_cS RJ2 48 mJ2_length_9d52b 1 := ⟨bJ2_length_9d52b, gw_t 1573 (by decide +kernel) rfl, gw_t 1574 (by decide +kernel) rfl⟩
theorem kJ2_414 : v_cS RJ2 414 mJ0_checkIndex_df160 2 := ⟨bJ0_checkIndex_df160, gw_t 1576 (by decide +kernel) rfl, gw_t 1560 (by decide +kernel) rfl⟩
theorem kJ2_71 : v_cS RJ2 71 mJ2_getChar_3b067 2 := ⟨bJ2_getChar_3b067, gw_t 1577 (by decide +kernel) rfl, gw_t 1578 (by decide +kernel) rfl⟩
theorem kX12_223 : v_cV RX12 223 mX12_readKinds 1 := ⟨bX12_readKinds, gw_t 1586 (by decide +kernel) rfl, gw_t 1588 (by decide +kernel) rfl, gw_p 60 (q := (yX12_readKinds, 59)) (by decide +kernel)⟩
theorem kX12_239 : v_cV RX12 239 mX12_readNew 0 := ⟨bX12_readNew, gw_t 1590 (by decide +kernel) rfl, gw_t 1592 (by decide +kernel) rfl, gw_p 61 (q := (yX12_readNew, 59)) (by decide +kernel)⟩
theorem kX12_264 : v_cV RX12 264 mX12_isName 0 := ⟨bX12_isName, gw_t 1594 (by decide +kernel) rfl, gw_t 1596 (by decide +kernel) rfl, gw_p 62 (q := (yX12_isName, 59)) (by decide +kernel)⟩
theorem kX12_230 : v_cV RX12 230 mX12_stop 1 := ⟨bX12_stop, gw_t 1602 (by decide +kernel) rfl, gw_t 1604 (by decide +kernel) rfl, gw_p 63 (q := (yX12_stop, 59)) (by decide +kernel)⟩
theorem kX12_160 : v_cV RX12 160 mX12_stopAt 2 := ⟨bX12_stopAt, gw_t 1606 (by decide +kernel) rfl, gw_t 1608 (by decide +kernel) rfl, gw_p 64 (q := (yX12_stopAt, 59)) (by decide +kernel)⟩
theorem kX12_268 : v_cV RX12 268 mX9_kindOf 1 := ⟨bX9_kindOf, gw_t 1610 (by decide +kernel) rfl, gw_t 1611 (by decide +kernel) rfl, gw_t 1612 (by decide +kernel) rfl⟩
theorem kX12_242 : v_cS RX12 242 mX12_in 3 := ⟨bX12_in, gw_t 1614 (by decide +kernel) rfl, gw_t 1615 (by decide +kernel) rfl⟩
theorem kX12_246 : v_cV RX12 246 mX12_readInt 2 := ⟨bX12_readInt, gw_t 1617 (by decide +kernel) rfl, gw_t 1619 (by decide +kernel) rfl, gw_p 65 (q := (yX12_readInt, 59)) (by decide +kernel)⟩
theorem kX12_233 : v_cV RX12 233 mX12_is 1 := ⟨bX12_is, gw_t 1621 (by decide +kernel) rfl, gw_t 1623 (by decide +kernel) rfl, gw_p 66 (q := (yX12_is, 59)) (by decide +kernel)⟩
theorem kX12_227 : v_cV RX12 227 mX12_readMeet 0 := ⟨bX12_readMeet, gw_t 1625 (by decide +kernel) rfl, gw_t 1627 (by decide +kernel) rfl, gw_p 67 (q := (yX12_readMeet, 59)) (by decide +kernel)⟩
theorem kX12_297 : v_cV RX12 297 mX12_isEven 1 := ⟨bX12_isEven, gw_t 1632 (by decide +kernel) rfl, gw_t 1634 (by decide +kernel) rfl, gw_p 68 (q := (yX12_isEven, 59)) (by decide +kernel)⟩
theorem kX12_322 : v_cV RX12 322 mX12_done 1 := ⟨bX12_done, gw_t 1636 (by decide +kernel) rfl, gw_t 1638 (by decide +kernel) rfl, gw_p 69 (q := (yX12_done, 59)) (by decide +kernel)⟩
theorem kL_33 : v_cV RL 33 mX12_fault 0 := ⟨bX12_fault, gw_t 1640 (by decide +kernel) rfl, gw_t 1641 (by decide +kernel) rfl, gw_t 1642 (by decide +kernel) rfl⟩
theorem kL_37 : v_cV RL 37 mX12_where 0 := ⟨bX12_where, gw_t 1644 (by decide +kernel) rfl, gw_t 1645 (by decide +kernel) rfl, gw_t 1646 (by decide +kernel) rfl⟩
theorem kL_41 : v_cV RL 41 mX12_kind 2 := ⟨bX12_kind, gw_t 1648 (by decide +kernel) rfl, gw_t 1649 (by decide +kernel) rfl, gw_t 1650 (by decide +kernel) rfl⟩
theorem kX12_325 : v_cV RX12 325 mX12_isKind 1 := ⟨bX12_isKind, gw_t 1652 (by decide +kernel) rfl, gw_t 1654 (by decide +kernel) rfl, gw_p 70 (q := (yX12_isKind, 59)) (by decide +kernel)⟩
theorem kL_45 : v_cV RL 45 mX12_rule 2 := ⟨bX12_rule, gw_t 1657 (by decide +kernel) rfl, gw_t 1658 (by decide +kernel) rfl, gw_t 1659 (by decide +kernel) rfl⟩
theorem kL_50 : v_cV RL 50 mX12_meeting 6 := ⟨bX12_meeting, gw_t 1661 (by decide +kernel) rfl, gw_t 1662 (by decide +kernel) rfl, gw_t 1663 (by decide +kernel) rfl⟩
theorem kL_54 : v_cV RL 54 mX12_drawings 1 := ⟨bX12_drawings, gw_t 1665 (by decide +kernel) rfl, gw_t 1666 (by decide +kernel) rfl, gw_t 1667 (by decide +kernel) rfl⟩
theorem kX12_428 : v_cV RX12 428 mX12_copiesEnds 1 := ⟨bX12_copiesEnds, gw_t 1669 (by decide +kernel) rfl, gw_t 1671 (by decide +kernel) rfl, gw_p 71 (q := (yX12_copiesEnds, 59)) (by decide +kernel)⟩
theorem kX12_432 : v_cV RX12 432 mX12_isDrawn 1 := ⟨bX12_isDrawn, gw_t 1673 (by decide +kernel) rfl, gw_t 1675 (by decide +kernel) rfl, gw_p 72 (q := (yX12_isDrawn, 59)) (by decide +kernel)⟩
theorem kX12_435 : v_cV RX12 435 mX12_fills 2 := ⟨bX12_fills, gw_t 1677 (by decide +kernel) rfl, gw_t 1679 (by decide +kernel) rfl, gw_p 73 (q := (yX12_fills, 59)) (by decide +kernel)⟩
theorem kX12_389 : v_cV RX12 389 mX12_lists 3 := ⟨bX12_lists, gw_t 1681 (by decide +kernel) rfl, gw_t 1683 (by decide +kernel) rfl, gw_p 74 (q := (yX12_lists, 59)) (by decide +kernel)⟩
theorem kX12_385 : v_cV RX12 385 mX12_listsOf 1 := ⟨bX12_listsOf, gw_t 1685 (by decide +kernel) rfl, gw_t 1687 (by decide +kernel) rfl, gw_p 75 (q := (yX12_listsOf, 59)) (by decide +kernel)⟩
theorem kX12_393 : v_cV RX12 393 mX12_lays 3 := ⟨bX12_lays, gw_t 1689 (by decide +kernel) rfl, gw_t 1691 (by decide +kernel) rfl, gw_p 76 (q := (yX12_lays, 59)) (by decide +kernel)⟩
theorem kX12_335 : v_cV RX12 335 mX12_puts 2 := ⟨bX12_puts, gw_t 1693 (by decide +kernel) rfl, gw_t 1695 (by decide +kernel) rfl, gw_p 77 (q := (yX12_puts, 59)) (by decide +kernel)⟩
theorem kX12_397 : v_cV RX12 397 mX12_pairs 0 := ⟨bX12_pairs, gw_t 1697 (by decide +kernel) rfl, gw_t 1699 (by decide +kernel) rfl, gw_p 78 (q := (yX12_pairs, 59)) (by decide +kernel)⟩
theorem kX12_356 : v_cV RX12 356 mX12_pairsFrom 1 := ⟨bX12_pairsFrom, gw_t 1701 (by decide +kernel) rfl, gw_t 1703 (by decide +kernel) rfl, gw_p 79 (q := (yX12_pairsFrom, 59)) (by decide +kernel)⟩
theorem kX12_359 : v_cV RX12 359 mX12_sets 1 := ⟨bX12_sets, gw_t 1705 (by decide +kernel) rfl, gw_t 1707 (by decide +kernel) rfl, gw_p 80 (q := (yX12_sets, 59)) (by decide +kernel)⟩
theorem kX12_347 : v_cS RX12 347 mJ9_min_7cf53 2 := ⟨bJ9_min_7cf53, gw_t 1709 (by decide +kernel) rfl, gw_t 1710 (by decide +kernel) rfl⟩
theorem kX12_362 : v_cV RX12 362 mX12_rowHere 0 := ⟨bX12_rowHere, gw_t 1712 (by decide +kernel) rfl, gw_t 1714 (by decide +kernel) rfl, gw_p 81 (q := (yX12_rowHere, 59)) (by decide +kernel)⟩
theorem kX12_400 : v_cV RX12 400 mX12_namingsOf 3 := ⟨bX12_namingsOf, gw_t 1716 (by decide +kernel) rfl, gw_t 1718 (by decide +kernel) rfl, gw_p 82 (q := (yX12_namingsOf, 59)) (by decide +kernel)⟩
theorem kX12_419 : v_cV RX12 419 mX12_spreads 5 := ⟨bX12_spreads, gw_t 1720 (by decide +kernel) rfl, gw_t 1722 (by decide +kernel) rfl, gw_p 83 (q := (yX12_spreads, 59)) (by decide +kernel)⟩
theorem kX12_379 : v_cV RX12 379 mX12_plainSwap 0 := ⟨bX12_plainSwap, gw_t 1724 (by decide +kernel) rfl, gw_t 1726 (by decide +kernel) rfl, gw_p 84 (q := (yX12_plainSwap, 59)) (by decide +kernel)⟩
theorem kX12_382 : v_cV RX12 382 mX12_reaches 2 := ⟨bX12_reaches, gw_t 1728 (by decide +kernel) rfl, gw_t 1730 (by decide +kernel) rfl, gw_p 85 (q := (yX12_reaches, 59)) (by decide +kernel)⟩
theorem kX12_373 : v_cV RX12 373 mX12_swappedRow 1 := ⟨bX12_swappedRow, gw_t 1732 (by decide +kernel) rfl, gw_t 1734 (by decide +kernel) rfl, gw_p 86 (q := (yX12_swappedRow, 59)) (by decide +kernel)⟩
theorem kX12_366 : v_cV RX12 366 mX12_takes 1 := ⟨bX12_takes, gw_t 1736 (by decide +kernel) rfl, gw_t 1738 (by decide +kernel) rfl, gw_p 87 (q := (yX12_takes, 59)) (by decide +kernel)⟩
theorem kX12_370 : v_cV RX12 370 mX12_rowAt 1 := ⟨bX12_rowAt, gw_t 1741 (by decide +kernel) rfl, gw_t 1743 (by decide +kernel) rfl, gw_p 88 (q := (yX12_rowAt, 59)) (by decide +kernel)⟩
theorem kL_58 : v_cV RL 58 mX12_drawing 2 := ⟨bX12_drawing, gw_t 1745 (by decide +kernel) rfl, gw_t 1746 (by decide +kernel) rfl, gw_t 1747 (by decide +kernel) rfl⟩
theorem kX12_451 : v_cV RX12 451 mX12_isDrawing 1 := ⟨bX12_isDrawing, gw_t 1749 (by decide +kernel) rfl, gw_t 1751 (by decide +kernel) rfl, gw_p 89 (q := (yX12_isDrawing, 59)) (by decide +kernel)⟩
theorem kX12_454 : v_cV RX12 454 mX12_shows 2 := ⟨bX12_shows, gw_t 1753 (by decide +kernel) rfl, gw_t 1755 (by decide +kernel) rfl, gw_p 90 (q := (yX12_shows, 59)) (by decide +kernel)⟩
theorem kX12_458 : v_cS RX12 458 mX12_common 2 := ⟨bX12_common, gw_t 1757 (by decide +kernel) rfl, gw_t 1758 (by decide +kernel) rfl⟩
theorem kX12_461 : v_cV RX12 461 mX12_signHere 0 := ⟨bX12_signHere, gw_t 1760 (by decide +kernel) rfl, gw_t 1762 (by decide +kernel) rfl, gw_p 91 (q := (yX12_signHere, 59)) (by decide +kernel)⟩
theorem kX12_448 : v_cV RX12 448 mX12_isHalf 1 := ⟨bX12_isHalf, gw_t 1764 (by decide +kernel) rfl, gw_t 1766 (by decide +kernel) rfl, gw_p 92 (q := (yX12_isHalf, 59)) (by decide +kernel)⟩
theorem kX12_464 : v_cV RX12 464 mX12_inners 0 := ⟨bX12_inners, gw_t 1768 (by decide +kernel) rfl, gw_t 1770 (by decide +kernel) rfl, gw_p 93 (q := (yX12_inners, 59)) (by decide +kernel)⟩
theorem kX12_442 : v_cV RX12 442 mX12_isInner 1 := ⟨bX12_isInner, gw_t 1772 (by decide +kernel) rfl, gw_t 1774 (by decide +kernel) rfl, gw_p 94 (q := (yX12_isInner, 59)) (by decide +kernel)⟩
theorem kX12_467 : v_cV RX12 467 mX12_cuts 0 := ⟨bX12_cuts, gw_t 1776 (by decide +kernel) rfl, gw_t 1778 (by decide +kernel) rfl, gw_p 95 (q := (yX12_cuts, 59)) (by decide +kernel)⟩
theorem kX12_445 : v_cV RX12 445 mX12_sideOf 1 := ⟨bX12_sideOf, gw_t 1780 (by decide +kernel) rfl, gw_t 1782 (by decide +kernel) rfl, gw_p 96 (q := (yX12_sideOf, 59)) (by decide +kernel)⟩
theorem kL_62 : v_cV RL 62 mX12_point 2 := ⟨bX12_point, gw_t 1784 (by decide +kernel) rfl, gw_t 1785 (by decide +kernel) rfl, gw_t 1786 (by decide +kernel) rfl⟩
theorem kL_66 : v_cV RL 66 mX12_joined 2 := ⟨bX12_joined, gw_t 1788 (by decide +kernel) rfl, gw_t 1789 (by decide +kernel) rfl, gw_t 1790 (by decide +kernel) rfl⟩
theorem kL_72 : v_cV RL 72 mX12_side 2 := ⟨bX12_side, gw_t 1792 (by decide +kernel) rfl, gw_t 1793 (by decide +kernel) rfl, gw_t 1794 (by decide +kernel) rfl⟩
theorem kL_79 : v_cV RL 79 mX12_pairings 0 := ⟨bX12_pairings, gw_t 1796 (by decide +kernel) rfl, gw_t 1797 (by decide +kernel) rfl, gw_t 1798 (by decide +kernel) rfl⟩
theorem kL_84 : v_cV RL 84 mX12_same 7 := ⟨bX12_same, gw_t 1800 (by decide +kernel) rfl, gw_t 1801 (by decide +kernel) rfl, gw_t 1802 (by decide +kernel) rfl⟩
theorem kL_89 : v_cV RL 89 mX12_sum 4 := ⟨bX12_sum, gw_t 1804 (by decide +kernel) rfl, gw_t 1805 (by decide +kernel) rfl, gw_t 1806 (by decide +kernel) rfl⟩
theorem kX12_530 : v_cV RX12 530 mX12_areOf 3 := ⟨bX12_areOf, gw_t 1808 (by decide +kernel) rfl, gw_t 1810 (by decide +kernel) rfl, gw_p 97 (q := (yX12_areOf, 59)) (by decide +kernel)⟩
theorem kX12_501 : v_cS RX12 501 mX12_set 2 := ⟨bX12_set, gw_t 1812 (by decide +kernel) rfl, gw_t 1813 (by decide +kernel) rfl⟩
theorem kX12_533 : v_cV RX12 533 mX12_hasPowers 5 := ⟨bX12_hasPowers, gw_t 1815 (by decide +kernel) rfl, gw_t 1817 (by decide +kernel) rfl, gw_p 98 (q := (yX12_hasPowers, 59)) (by decide +kernel)⟩
theorem kX12_537 : v_cV RX12 537 mX12_comes 3 := ⟨bX12_comes, gw_t 1819 (by decide +kernel) rfl, gw_t 1821 (by decide +kernel) rfl, gw_p 99 (q := (yX12_comes, 59)) (by decide +kernel)⟩
theorem kX12_480 : v_cS RX12 480 mX12_copies 2 := ⟨bX12_copies, gw_t 1823 (by decide +kernel) rfl, gw_t 1824 (by decide +kernel) rfl⟩
theorem kX12_520 : v_cS RX12 520 mX12_times 2 := ⟨bX12_times, gw_t 1826 (by decide +kernel) rfl, gw_t 1827 (by decide +kernel) rfl⟩
theorem kX12_472 : v_cS RX12 472 mJ9_abs_067f4 1 := ⟨bJ9_abs_067f4, gw_t 1829 (by decide +kernel) rfl, gw_t 910 (by decide +kernel) rfl⟩
theorem kX12_476 : v_cS RX12 476 mX12_turns 1 := ⟨bX12_turns, gw_t 1831 (by decide +kernel) rfl, gw_t 1832 (by decide +kernel) rfl⟩
theorem kX12_523 : v_cV RX12 523 mX12_worths 2 := ⟨bX12_worths, gw_t 1834 (by decide +kernel) rfl, gw_t 1836 (by decide +kernel) rfl, gw_p 100 (q := (yX12_worths, 59)) (by decide +kernel)⟩
theorem kX12_484 : v_cS RX12 484 mX12_adds 2 := ⟨bX12_adds, gw_t 1838 (by decide +kernel) rfl, gw_t 1839 (by decide +kernel) rfl⟩
theorem kX12_527 : v_cV RX12 527 mX12_lowers 0 := ⟨bX12_lowers, gw_t 1841 (by decide +kernel) rfl, gw_t 1843 (by decide +kernel) rfl, gw_p 101 (q := (yX12_lowers, 59)) (by decide +kernel)⟩
theorem kX12_505 : v_cV RX12 505 mX12_divisor 2 := ⟨bX12_divisor, gw_t 1845 (by decide +kernel) rfl, gw_t 1847 (by decide +kernel) rfl, gw_p 102 (q := (yX12_divisor, 59)) (by decide +kernel)⟩
theorem kX12_487 : v_cS RX12 487 mX12_isZero 1 := ⟨bX12_isZero, gw_t 1849 (by decide +kernel) rfl, gw_t 1850 (by decide +kernel) rfl⟩
theorem kX12_491 : v_cS RX12 491 mX12_halves 1 := ⟨bX12_halves, gw_t 1852 (by decide +kernel) rfl, gw_t 1853 (by decide +kernel) rfl⟩
theorem kX12_494 : v_cS RX12 494 mX12_isNoLess 2 := ⟨bX12_isNoLess, gw_t 1855 (by decide +kernel) rfl, gw_t 1856 (by decide +kernel) rfl⟩
theorem kX12_498 : v_cV RX12 498 mX12_takesAway 2 := ⟨bX12_takesAway, gw_t 1858 (by decide +kernel) rfl, gw_t 1860 (by decide +kernel) rfl, gw_p 103 (q := (yX12_takesAway, 59)) (by decide +kernel)⟩
theorem kX12_508 : v_cV RX12 508 mX12_divides 2 := ⟨bX12_divides, gw_t 1862 (by decide +kernel) rfl, gw_t 1864 (by decide +kernel) rfl, gw_p 104 (q := (yX12_divides, 59)) (by decide +kernel)⟩
theorem kX12_541 : v_cV RX12 541 mX12_told 1 := ⟨bX12_told, gw_t 1866 (by decide +kernel) rfl, gw_t 1868 (by decide +kernel) rfl, gw_p 105 (q := (yX12_told, 59)) (by decide +kernel)⟩
theorem kX12_517 : v_cV RX12 517 mX12_isBeyond 1 := ⟨bX12_isBeyond, gw_t 1870 (by decide +kernel) rfl, gw_t 1872 (by decide +kernel) rfl, gw_p 106 (q := (yX12_isBeyond, 59)) (by decide +kernel)⟩
theorem kX12_511 : v_cS RX12 511 mX12_longOf 1 := ⟨bX12_longOf, gw_t 1874 (by decide +kernel) rfl, gw_t 1875 (by decide +kernel) rfl⟩
theorem kL_93 : v_cV RL 93 mX12_byPairings 4 := ⟨bX12_byPairings, gw_t 1878 (by decide +kernel) rfl, gw_t 1879 (by decide +kernel) rfl, gw_t 1880 (by decide +kernel) rfl⟩
theorem kL_98 : v_cV RL 98 mX12_number 2 := ⟨bX12_number, gw_t 1882 (by decide +kernel) rfl, gw_t 1883 (by decide +kernel) rfl, gw_t 1884 (by decide +kernel) rfl⟩
theorem kX12_548 : v_cV RX12 548 mX12_denied 1 := ⟨bX12_denied, gw_t 1886 (by decide +kernel) rfl, gw_t 1888 (by decide +kernel) rfl, gw_p 107 (q := (yX12_denied, 59)) (by decide +kernel)⟩
theorem kX12_551 : v_cV RX12 551 mX12_granted 0 := ⟨bX12_granted, gw_t 1890 (by decide +kernel) rfl, gw_t 1892 (by decide +kernel) rfl, gw_p 108 (q := (yX12_granted, 59)) (by decide +kernel)⟩
theorem kL_102 : v_cV RL 102 mX12_letter 2 := ⟨bX12_letter, gw_t 1894 (by decide +kernel) rfl, gw_t 1895 (by decide +kernel) rfl, gw_t 1896 (by decide +kernel) rfl⟩
theorem kL_107 : v_cV RL 107 mX12_at 1 := ⟨bX12_at, gw_t 1898 (by decide +kernel) rfl, gw_t 1899 (by decide +kernel) rfl, gw_t 1900 (by decide +kernel) rfl⟩
theorem kX12_581 : v_cV RX12 581 mX12_tells 4 := ⟨bX12_tells, gw_t 1902 (by decide +kernel) rfl, gw_t 1904 (by decide +kernel) rfl, gw_p 109 (q := (yX12_tells, 59)) (by decide +kernel)⟩
theorem kX12_585 : v_cV RX12 585 mX12_isEven_ 1 := ⟨bX12_isEven_, gw_t 1906 (by decide +kernel) rfl, gw_t 1908 (by decide +kernel) rfl, gw_p 110 (q := (yX12_isEven_, 59)) (by decide +kernel)⟩
theorem kX12_587 : v_cV RX12 587 mX12_hasPole 3 := ⟨bX12_hasPole, gw_t 1910 (by decide +kernel) rfl, gw_t 1912 (by decide +kernel) rfl, gw_p 111 (q := (yX12_hasPole, 59)) (by decide +kernel)⟩
theorem kX12_557 : v_cV RX12 557 mX12_isTree 2 := ⟨bX12_isTree, gw_t 1914 (by decide +kernel) rfl, gw_t 1916 (by decide +kernel) rfl, gw_p 112 (q := (yX12_isTree, 59)) (by decide +kernel)⟩
theorem kX12_560 : v_cV RX12 560 mX12_cutOf 2 := ⟨bX12_cutOf, gw_t 1918 (by decide +kernel) rfl, gw_t 1920 (by decide +kernel) rfl, gw_p 113 (q := (yX12_cutOf, 59)) (by decide +kernel)⟩
theorem kX12_563 : v_cV RX12 563 mX12_by 3 := ⟨bX12_by, gw_t 1922 (by decide +kernel) rfl, gw_t 1924 (by decide +kernel) rfl, gw_p 114 (q := (yX12_by, 59)) (by decide +kernel)⟩
theorem kX12_554 : v_cS RX12 554 mX12_flow 2 := ⟨bX12_flow, gw_t 1926 (by decide +kernel) rfl, gw_t 1927 (by decide +kernel) rfl⟩
theorem kX12_590 : v_cV RX12 590 mX12_poled 0 := ⟨bX12_poled, gw_t 1929 (by decide +kernel) rfl, gw_t 1931 (by decide +kernel) rfl, gw_p 115 (q := (yX12_poled, 59)) (by decide +kernel)⟩
theorem kX12_576 : v_cS RX12 576 mX12_prime 1 := ⟨bX12_prime, gw_t 1933 (by decide +kernel) rfl, gw_t 1934 (by decide +kernel) rfl⟩
theorem kX12_593 : v_cV RX12 593 mX12_restOf 4 := ⟨bX12_restOf, gw_t 1940 (by decide +kernel) rfl, gw_t 1942 (by decide +kernel) rfl, gw_p 116 (q := (yX12_restOf, 59)) (by decide +kernel)⟩
theorem kX12_569 : v_cS RX12 569 mX12_mod 2 := ⟨bX12_mod, gw_t 1944 (by decide +kernel) rfl, gw_t 1945 (by decide +kernel) rfl⟩
theorem kX12_573 : v_cS RX12 573 mX12_inverse 2 := ⟨bX12_inverse, gw_t 1947 (by decide +kernel) rfl, gw_t 1948 (by decide +kernel) rfl⟩
theorem kX12_597 : v_cV RX12 597 mX12_isFound 0 := ⟨bX12_isFound, gw_t 1950 (by decide +kernel) rfl, gw_t 1952 (by decide +kernel) rfl, gw_p 117 (q := (yX12_isFound, 59)) (by decide +kernel)⟩
theorem kL_112 : v_cV RL 112 mX12_parted 3 := ⟨bX12_parted, gw_t 1955 (by decide +kernel) rfl, gw_t 1956 (by decide +kernel) rfl, gw_t 1957 (by decide +kernel) rfl⟩
theorem kX12_600 : v_cV RX12 600 mX12_isSide 1 := ⟨bX12_isSide, gw_t 1959 (by decide +kernel) rfl, gw_t 1961 (by decide +kernel) rfl, gw_p 118 (q := (yX12_isSide, 59)) (by decide +kernel)⟩
theorem kX12_603 : v_cV RX12 603 mX12_parts 3 := ⟨bX12_parts, gw_t 1963 (by decide +kernel) rfl, gw_t 1965 (by decide +kernel) rfl, gw_p 119 (q := (yX12_parts, 59)) (by decide +kernel)⟩
theorem kL_116 : v_cV RL 116 mX12_whole 3 := ⟨bX12_whole, gw_t 1967 (by decide +kernel) rfl, gw_t 1968 (by decide +kernel) rfl, gw_t 1969 (by decide +kernel) rfl⟩
theorem kL_121 : v_cV RL 121 mX12_worth 1 := ⟨bX12_worth, gw_t 1971 (by decide +kernel) rfl, gw_t 1972 (by decide +kernel) rfl, gw_t 1973 (by decide +kernel) rfl⟩
theorem kL_125 : v_cV RL 125 mX12_rest 1 := ⟨bX12_rest, gw_t 1975 (by decide +kernel) rfl, gw_t 1976 (by decide +kernel) rfl, gw_t 1977 (by decide +kernel) rfl⟩
theorem kL_129 : v_cV RL 129 mX12_pole 0 := ⟨bX12_pole, gw_t 1979 (by decide +kernel) rfl, gw_t 1980 (by decide +kernel) rfl, gw_t 1981 (by decide +kernel) rfl⟩
theorem kL_133 : v_cV RL 133 mX12_count 1 := ⟨bX12_count, gw_t 1983 (by decide +kernel) rfl, gw_t 1984 (by decide +kernel) rfl, gw_t 1985 (by decide +kernel) rfl⟩
theorem kL_137 : v_cV RL 137 mX12_trouble 0 := ⟨bX12_trouble, gw_t 1987 (by decide +kernel) rfl, gw_t 1988 (by decide +kernel) rfl, gw_t 1989 (by decide +kernel) rfl⟩
theorem kX8_9 : v_cI RX8 9 mX6_init 0 := ⟨bX6_init, Or.inr ⟨"DrawnWays", lw_t 34 (by decide +kernel)⟩, gw_t 35 (by decide +kernel) rfl, rfl, rfl⟩
theorem kX6_17 : v_cI RX6 17 mX0_init 0 := ⟨bX0_init, Or.inr ⟨"DrawnWays", lw_t 40 (by decide +kernel)⟩, gw_t 41 (by decide +kernel) rfl, rfl, rfl⟩
theorem kX8_18 : v_cI RX8 18 mX5_init 0 := ⟨bX5_init, Or.inr ⟨"DrawnWays", lw_t 131 (by decide +kernel)⟩, gw_t 132 (by decide +kernel) rfl, rfl, rfl⟩
theorem kX5_11 : v_cI RX5 11 mX4_init 0 := ⟨bX4_init, Or.inr ⟨"DrawnWays", lw_t 137 (by decide +kernel)⟩, gw_t 138 (by decide +kernel) rfl, rfl, rfl⟩
theorem kX5_24 : v_cI RX5 24 mX3_init 0 := ⟨bX3_init, Or.inr ⟨"DrawnWays", lw_t 191 (by decide +kernel)⟩, gw_t 192 (by decide +kernel) rfl, rfl, rfl⟩
theorem kX8_25 : v_cI RX8 25 mX2_init 0 := ⟨bX2_init, Or.inr ⟨"DrawnWays", lw_t 289 (by decide +kernel)⟩, gw_t 290 (by decide +kernel) rfl, rfl, rfl⟩
theorem kX8_32 : v_cI RX8 32 mX1_init 0 := ⟨bX1_init, Or.inr ⟨"DrawnWays", lw_t 317 (by decide +kernel)⟩, gw_t 318 (by decide +kernel) rfl, rfl, rfl⟩
theorem kX8_45 : v_cI RX8 45 mX7_init 0 := ⟨bX7_init, Or.inr ⟨"DrawnWays", lw_t 338 (by decide +kernel)⟩, gw_t 339 (by decide +kernel) rfl, rfl, rfl⟩
theorem kX8_62 : v_cI RX8 62 mX0_init 0 := ⟨bX0_init, Or.inr ⟨"DrawnWays", lw_t 365 (by decide +kernel)⟩, gw_t 41 (by decide +kernel) rfl, rfl, rfl⟩
theorem kX8_69 : v_cI RX8 69 mX3_init 0 := ⟨bX3_init, Or.inr ⟨"DrawnWays", lw_t 367 (by decide +kernel)⟩, gw_t 192 (by decide +kernel) rfl, rfl, rfl⟩
theorem kX12_18 : v_cI RX12 18 mX9_init 0 := ⟨bX9_init, Or.inr ⟨"DrawnWaysModel", lw_t 1192 (by decide +kernel)⟩, gw_t 1193 (by decide +kernel) rfl, rfl, rfl⟩
theorem kX12_46 : v_cI RX12 46 mX10_init 0 := ⟨bX10_init, Or.inr ⟨"DrawnWaysModel", lw_t 1275 (by decide +kernel)⟩, gw_t 1276 (by decide +kernel) rfl, rfl, rfl⟩

