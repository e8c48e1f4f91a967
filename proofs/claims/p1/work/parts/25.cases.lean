theorem k_31_6 : Cond.methodLink RL 60 yX11_run ∈ wsL_law := mr_31 _ (List.mem_of_getElem? (i := 6) rfl)
theorem k_31_7 : Cond.instanceMethod yX11_run ∈ wsL_law := mr_31 _ (List.mem_of_getElem? (i := 7) rfl)
theorem k_31_8 : Cond.selects RX11 yX11_run yX11_run ∈ wsL_law := mr_31 _ (List.mem_of_getElem? (i := 8) rfl)
theorem k_31_9 : Cond.code yX11_run cX11_run 3 (some .int) ∈ wsL_law := mr_31 _ (List.mem_of_getElem? (i := 9) rfl)
theorem k_36_0 : Cond.methodLink RL 64 yX12_run ∈ wsL_law := mr_36 _ (List.mem_of_getElem? (i := 0) rfl)
theorem k_36_1 : Cond.instanceMethod yX12_run ∈ wsL_law := mr_36 _ (List.mem_of_getElem? (i := 1) rfl)
theorem k_36_2 : Cond.selects RX12 yX12_run yX12_run ∈ wsL_law := mr_36 _ (List.mem_of_getElem? (i := 2) rfl)
theorem k_36_3 : Cond.code yX12_run cX12_run 9 (some .int) ∈ wsL_law := mr_36 _ (List.mem_of_getElem? (i := 3) rfl)
theorem k_37_21 : Cond.methodLink RL 65 yX11_gift ∈ wsL_law := mr_37 _ (List.mem_of_getElem? (i := 21) rfl)
theorem k_37_22 : Cond.instanceMethod yX11_gift ∈ wsL_law := mr_37 _ (List.mem_of_getElem? (i := 22) rfl)
theorem k_37_23 : Cond.selects RX11 yX11_gift yX11_gift ∈ wsL_law := mr_37 _ (List.mem_of_getElem? (i := 23) rfl)
theorem k_38_0 : Cond.code yX11_gift cX11_gift 3 (some .int) ∈ wsL_law := mr_38 _ (List.mem_of_getElem? (i := 0) rfl)
theorem k_38_2 : Cond.methodLink RL 68 yX12_gift ∈ wsL_law := mr_38 _ (List.mem_of_getElem? (i := 2) rfl)
theorem k_38_22 : Cond.methodLink RL 72 yX12_score ∈ wsL_law := mr_38 _ (List.mem_of_getElem? (i := 22) rfl)
theorem k_38_23 : Cond.instanceMethod yX12_score ∈ wsL_law := mr_38 _ (List.mem_of_getElem? (i := 23) rfl)
theorem k_38_3 : Cond.instanceMethod yX12_gift ∈ wsL_law := mr_38 _ (List.mem_of_getElem? (i := 3) rfl)
theorem k_38_4 : Cond.selects RX12 yX12_gift yX12_gift ∈ wsL_law := mr_38 _ (List.mem_of_getElem? (i := 4) rfl)
theorem k_38_5 : Cond.code yX12_gift cX12_gift 3 (some .int) ∈ wsL_law := mr_38 _ (List.mem_of_getElem? (i := 5) rfl)
theorem k_38_6 : Cond.methodLink RL 69 yX11_score ∈ wsL_law := mr_38 _ (List.mem_of_getElem? (i := 6) rfl)
theorem k_38_7 : Cond.instanceMethod yX11_score ∈ wsL_law := mr_38 _ (List.mem_of_getElem? (i := 7) rfl)
theorem k_38_8 : Cond.selects RX11 yX11_score yX11_score ∈ wsL_law := mr_38 _ (List.mem_of_getElem? (i := 8) rfl)
theorem k_38_9 : Cond.code yX11_score cX11_score 5 (some .int) ∈ wsL_law := mr_38 _ (List.mem_of_getElem? (i := 9) rfl)
theorem k_39_0 : Cond.selects RX12 yX12_score yX12_score ∈ wsL_law := mr_39 _ (List.mem_of_getElem? (i := 0) rfl)
theorem k_39_1 : Cond.code yX12_score cX12_score 6 (some .int) ∈ wsL_law := mr_39 _ (List.mem_of_getElem? (i := 1) rfl)
theorem k_39_5 : Cond.methodLink RL 73 yX11_place ∈ wsL_law := mr_39 _ (List.mem_of_getElem? (i := 5) rfl)
theorem k_39_6 : Cond.instanceMethod yX11_place ∈ wsL_law := mr_39 _ (List.mem_of_getElem? (i := 6) rfl)
theorem k_39_7 : Cond.selects RX11 yX11_place yX11_place ∈ wsL_law := mr_39 _ (List.mem_of_getElem? (i := 7) rfl)
theorem k_39_8 : Cond.code yX11_place cX11_place 3 (some .int) ∈ wsL_law := mr_39 _ (List.mem_of_getElem? (i := 8) rfl)
theorem k_40_22 : Cond.methodLink RL 77 yX11_won ∈ wsL_law := mr_40 _ (List.mem_of_getElem? (i := 22) rfl)
theorem k_40_23 : Cond.instanceMethod yX11_won ∈ wsL_law := mr_40 _ (List.mem_of_getElem? (i := 23) rfl)
theorem k_40_4 : Cond.methodLink RL 76 yX12_place ∈ wsL_law := mr_40 _ (List.mem_of_getElem? (i := 4) rfl)
theorem k_40_5 : Cond.instanceMethod yX12_place ∈ wsL_law := mr_40 _ (List.mem_of_getElem? (i := 5) rfl)
theorem k_40_6 : Cond.selects RX12 yX12_place yX12_place ∈ wsL_law := mr_40 _ (List.mem_of_getElem? (i := 6) rfl)
theorem k_40_7 : Cond.code yX12_place cX12_place 3 (some .int) ∈ wsL_law := mr_40 _ (List.mem_of_getElem? (i := 7) rfl)
theorem k_41_0 : Cond.selects RX11 yX11_won yX11_won ∈ wsL_law := mr_41 _ (List.mem_of_getElem? (i := 0) rfl)
theorem k_41_1 : Cond.code yX11_won cX11_won 5 (some .int) ∈ wsL_law := mr_41 _ (List.mem_of_getElem? (i := 1) rfl)
theorem k_41_21 : Cond.methodLink RL 80 yX12_won ∈ wsL_law := mr_41 _ (List.mem_of_getElem? (i := 21) rfl)
theorem k_41_22 : Cond.instanceMethod yX12_won ∈ wsL_law := mr_41 _ (List.mem_of_getElem? (i := 22) rfl)
theorem k_41_23 : Cond.selects RX12 yX12_won yX12_won ∈ wsL_law := mr_41 _ (List.mem_of_getElem? (i := 23) rfl)
theorem k_42_0 : Cond.code yX12_won cX12_won 7 (some .int) ∈ wsL_law := mr_42 _ (List.mem_of_getElem? (i := 0) rfl)
theorem k_42_10 : Cond.selects RX11 yX11_cut yX11_cut ∈ wsL_law := mr_42 _ (List.mem_of_getElem? (i := 10) rfl)
theorem k_42_11 : Cond.code yX11_cut cX11_cut 4 (some .int) ∈ wsL_law := mr_42 _ (List.mem_of_getElem? (i := 11) rfl)
theorem k_42_16 : Cond.methodLink RL 85 yX12_cut ∈ wsL_law := mr_42 _ (List.mem_of_getElem? (i := 16) rfl)
theorem k_42_17 : Cond.instanceMethod yX12_cut ∈ wsL_law := mr_42 _ (List.mem_of_getElem? (i := 17) rfl)
theorem k_42_18 : Cond.selects RX12 yX12_cut yX12_cut ∈ wsL_law := mr_42 _ (List.mem_of_getElem? (i := 18) rfl)
theorem k_42_19 : Cond.code yX12_cut cX12_cut 10 (some .int) ∈ wsL_law := mr_42 _ (List.mem_of_getElem? (i := 19) rfl)
theorem k_42_8 : Cond.methodLink RL 81 yX11_cut ∈ wsL_law := mr_42 _ (List.mem_of_getElem? (i := 8) rfl)
theorem k_42_9 : Cond.instanceMethod yX11_cut ∈ wsL_law := mr_42 _ (List.mem_of_getElem? (i := 9) rfl)
theorem k_43_0 : Cond.methodLink RL 86 yX11_luck ∈ wsL_law := mr_43 _ (List.mem_of_getElem? (i := 0) rfl)
theorem k_43_1 : Cond.instanceMethod yX11_luck ∈ wsL_law := mr_43 _ (List.mem_of_getElem? (i := 1) rfl)
theorem k_43_2 : Cond.selects RX11 yX11_luck yX11_luck ∈ wsL_law := mr_43 _ (List.mem_of_getElem? (i := 2) rfl)
theorem k_43_3 : Cond.code yX11_luck cX11_luck 5 (some .long) ∈ wsL_law := mr_43 _ (List.mem_of_getElem? (i := 3) rfl)
theorem k_45_1 : Cond.methodLink RL 90 yX12_luck ∈ wsL_law := mr_45 _ (List.mem_of_getElem? (i := 1) rfl)
theorem k_45_14 : Cond.methodLink RL 91 yX11_back ∈ wsL_law := mr_45 _ (List.mem_of_getElem? (i := 14) rfl)
theorem k_45_15 : Cond.instanceMethod yX11_back ∈ wsL_law := mr_45 _ (List.mem_of_getElem? (i := 15) rfl)
theorem k_45_16 : Cond.selects RX11 yX11_back yX11_back ∈ wsL_law := mr_45 _ (List.mem_of_getElem? (i := 16) rfl)
theorem k_45_17 : Cond.code yX11_back cX11_back 8 (some .int) ∈ wsL_law := mr_45 _ (List.mem_of_getElem? (i := 17) rfl)
theorem k_45_2 : Cond.instanceMethod yX12_luck ∈ wsL_law := mr_45 _ (List.mem_of_getElem? (i := 2) rfl)
theorem k_45_3 : Cond.selects RX12 yX12_luck yX12_luck ∈ wsL_law := mr_45 _ (List.mem_of_getElem? (i := 3) rfl)
theorem k_45_4 : Cond.code yX12_luck cX12_luck 20 (some .long) ∈ wsL_law := mr_45 _ (List.mem_of_getElem? (i := 4) rfl)
theorem k_46_1 : Cond.methodLink RL 94 yX12_back ∈ wsL_law := mr_46 _ (List.mem_of_getElem? (i := 1) rfl)
theorem k_46_13 : Cond.methodLink RL 95 yX11_skill ∈ wsL_law := mr_46 _ (List.mem_of_getElem? (i := 13) rfl)
theorem k_46_14 : Cond.instanceMethod yX11_skill ∈ wsL_law := mr_46 _ (List.mem_of_getElem? (i := 14) rfl)
theorem k_46_15 : Cond.selects RX11 yX11_skill yX11_skill ∈ wsL_law := mr_46 _ (List.mem_of_getElem? (i := 15) rfl)
theorem k_46_16 : Cond.code yX11_skill cX11_skill 5 (some .long) ∈ wsL_law := mr_46 _ (List.mem_of_getElem? (i := 16) rfl)
theorem k_46_2 : Cond.instanceMethod yX12_back ∈ wsL_law := mr_46 _ (List.mem_of_getElem? (i := 2) rfl)
theorem k_46_3 : Cond.selects RX12 yX12_back yX12_back ∈ wsL_law := mr_46 _ (List.mem_of_getElem? (i := 3) rfl)
theorem k_46_4 : Cond.code yX12_back cX12_back 7 (some .int) ∈ wsL_law := mr_46 _ (List.mem_of_getElem? (i := 4) rfl)
theorem k_48_6 : Cond.methodLink RL 98 yX12_skill ∈ wsL_law := mr_48 _ (List.mem_of_getElem? (i := 6) rfl)
theorem k_48_7 : Cond.instanceMethod yX12_skill ∈ wsL_law := mr_48 _ (List.mem_of_getElem? (i := 7) rfl)
theorem k_48_8 : Cond.selects RX12 yX12_skill yX12_skill ∈ wsL_law := mr_48 _ (List.mem_of_getElem? (i := 8) rfl)
theorem k_48_9 : Cond.code yX12_skill cX12_skill 5 (some .long) ∈ wsL_law := mr_48 _ (List.mem_of_getElem? (i := 9) rfl)
theorem k_49_1 : Cond.methodLink RL 99 yX11_span ∈ wsL_law := mr_49 _ (List.mem_of_getElem? (i := 1) rfl)
theorem k_49_16 : Cond.methodLink RL 102 yX12_span ∈ wsL_law := mr_49 _ (List.mem_of_getElem? (i := 16) rfl)
theorem k_49_17 : Cond.instanceMethod yX12_span ∈ wsL_law := mr_49 _ (List.mem_of_getElem? (i := 17) rfl)
theorem k_49_18 : Cond.selects RX12 yX12_span yX12_span ∈ wsL_law := mr_49 _ (List.mem_of_getElem? (i := 18) rfl)
theorem k_49_19 : Cond.code yX12_span cX12_span 13 (some .int) ∈ wsL_law := mr_49 _ (List.mem_of_getElem? (i := 19) rfl)
theorem k_49_2 : Cond.instanceMethod yX11_span ∈ wsL_law := mr_49 _ (List.mem_of_getElem? (i := 2) rfl)
theorem k_49_3 : Cond.selects RX11 yX11_span yX11_span ∈ wsL_law := mr_49 _ (List.mem_of_getElem? (i := 3) rfl)
theorem k_49_4 : Cond.code yX11_span cX11_span 5 (some .int) ∈ wsL_law := mr_49 _ (List.mem_of_getElem? (i := 4) rfl)
theorem dL_law_580 : decode cL_law 580 = .ok (.aload_n 1, 1) := by decide +kernel
theorem dL_law_581 : decode cL_law 581 = .ok (.aload_n 0, 1) := by decide +kernel
theorem dL_law_582 : decode cL_law 582 = .ok (.iload_n 3, 1) := by decide +kernel
theorem dL_law_583 : decode cL_law 583 = .ok (.iconst 1, 1) := by decide +kernel
theorem dL_law_584 : decode cL_law 584 = .ok (.iadd, 1) := by decide +kernel
theorem dL_law_585 : decode cL_law 585 = .ok (.iaload, 1) := by decide +kernel
theorem dL_law_586 : decode cL_law 586 = .ok (.aload_n 0, 1) := by decide +kernel
theorem dL_law_587 : decode cL_law 587 = .ok (.iload_n 3, 1) := by decide +kernel
theorem dL_law_588 : decode cL_law 588 = .ok (.iconst 2, 1) := by decide +kernel
theorem dL_law_589 : decode cL_law 589 = .ok (.iadd, 1) := by decide +kernel
theorem dL_law_590 : decode cL_law 590 = .ok (.iaload, 1) := by decide +kernel
theorem dL_law_591 : decode cL_law 591 = .ok (.invokevirtual 60, 3) := by decide +kernel
theorem dL_law_594 : decode cL_law 594 = .ok (.aload_n 2, 1) := by decide +kernel
theorem dL_law_595 : decode cL_law 595 = .ok (.aload_n 0, 1) := by decide +kernel
theorem dL_law_596 : decode cL_law 596 = .ok (.iload_n 3, 1) := by decide +kernel
theorem dL_law_597 : decode cL_law 597 = .ok (.iconst 1, 1) := by decide +kernel
theorem dL_law_598 : decode cL_law 598 = .ok (.iadd, 1) := by decide +kernel
theorem dL_law_599 : decode cL_law 599 = .ok (.iaload, 1) := by decide +kernel
theorem dL_law_600 : decode cL_law 600 = .ok (.aload_n 0, 1) := by decide +kernel
theorem dL_law_601 : decode cL_law 601 = .ok (.iload_n 3, 1) := by decide +kernel
theorem dL_law_602 : decode cL_law 602 = .ok (.iconst 2, 1) := by decide +kernel
theorem dL_law_603 : decode cL_law 603 = .ok (.iadd, 1) := by decide +kernel
theorem dL_law_604 : decode cL_law 604 = .ok (.iaload, 1) := by decide +kernel
theorem dL_law_605 : decode cL_law 605 = .ok (.invokevirtual 64, 3) := by decide +kernel
theorem dL_law_608 : decode cL_law 608 = .ok (.if_icmp .eq 1113, 3) := by decide +kernel
theorem dL_law_613 : decode cL_law 613 = .ok (.aload_n 1, 1) := by decide +kernel
theorem dL_law_614 : decode cL_law 614 = .ok (.aload_n 0, 1) := by decide +kernel
theorem dL_law_615 : decode cL_law 615 = .ok (.iload_n 3, 1) := by decide +kernel
theorem dL_law_616 : decode cL_law 616 = .ok (.iconst 1, 1) := by decide +kernel
theorem dL_law_617 : decode cL_law 617 = .ok (.iadd, 1) := by decide +kernel
theorem dL_law_618 : decode cL_law 618 = .ok (.iaload, 1) := by decide +kernel
theorem dL_law_619 : decode cL_law 619 = .ok (.aload_n 0, 1) := by decide +kernel
theorem dL_law_620 : decode cL_law 620 = .ok (.iload_n 3, 1) := by decide +kernel
theorem dL_law_621 : decode cL_law 621 = .ok (.iconst 2, 1) := by decide +kernel
theorem dL_law_622 : decode cL_law 622 = .ok (.iadd, 1) := by decide +kernel
theorem dL_law_623 : decode cL_law 623 = .ok (.iaload, 1) := by decide +kernel
theorem dL_law_624 : decode cL_law 624 = .ok (.invokevirtual 65, 3) := by decide +kernel
theorem dL_law_627 : decode cL_law 627 = .ok (.aload_n 2, 1) := by decide +kernel
theorem dL_law_628 : decode cL_law 628 = .ok (.aload_n 0, 1) := by decide +kernel
theorem dL_law_629 : decode cL_law 629 = .ok (.iload_n 3, 1) := by decide +kernel
theorem dL_law_630 : decode cL_law 630 = .ok (.iconst 1, 1) := by decide +kernel
theorem dL_law_631 : decode cL_law 631 = .ok (.iadd, 1) := by decide +kernel
theorem dL_law_632 : decode cL_law 632 = .ok (.iaload, 1) := by decide +kernel
theorem dL_law_633 : decode cL_law 633 = .ok (.aload_n 0, 1) := by decide +kernel
theorem dL_law_634 : decode cL_law 634 = .ok (.iload_n 3, 1) := by decide +kernel
theorem dL_law_635 : decode cL_law 635 = .ok (.iconst 2, 1) := by decide +kernel
theorem dL_law_636 : decode cL_law 636 = .ok (.iadd, 1) := by decide +kernel
theorem dL_law_637 : decode cL_law 637 = .ok (.iaload, 1) := by decide +kernel
theorem dL_law_638 : decode cL_law 638 = .ok (.invokevirtual 68, 3) := by decide +kernel
theorem dL_law_641 : decode cL_law 641 = .ok (.if_icmp .eq 1080, 3) := by decide +kernel
theorem dL_law_646 : decode cL_law 646 = .ok (.aload_n 1, 1) := by decide +kernel
theorem dL_law_647 : decode cL_law 647 = .ok (.aload_n 0, 1) := by decide +kernel
theorem dL_law_648 : decode cL_law 648 = .ok (.iload_n 3, 1) := by decide +kernel
theorem dL_law_649 : decode cL_law 649 = .ok (.iconst 1, 1) := by decide +kernel
theorem dL_law_650 : decode cL_law 650 = .ok (.iadd, 1) := by decide +kernel
theorem dL_law_651 : decode cL_law 651 = .ok (.iaload, 1) := by decide +kernel
theorem dL_law_652 : decode cL_law 652 = .ok (.aload_n 0, 1) := by decide +kernel
theorem dL_law_653 : decode cL_law 653 = .ok (.iload_n 3, 1) := by decide +kernel
theorem dL_law_654 : decode cL_law 654 = .ok (.iconst 2, 1) := by decide +kernel
theorem dL_law_655 : decode cL_law 655 = .ok (.iadd, 1) := by decide +kernel
theorem dL_law_656 : decode cL_law 656 = .ok (.iaload, 1) := by decide +kernel
theorem dL_law_657 : decode cL_law 657 = .ok (.aload_n 0, 1) := by decide +kernel
theorem dL_law_658 : decode cL_law 658 = .ok (.iload_n 3, 1) := by decide +kernel
theorem dL_law_659 : decode cL_law 659 = .ok (.iconst 3, 1) := by decide +kernel
theorem dL_law_660 : decode cL_law 660 = .ok (.iadd, 1) := by decide +kernel
theorem dL_law_661 : decode cL_law 661 = .ok (.iaload, 1) := by decide +kernel
theorem dL_law_662 : decode cL_law 662 = .ok (.aload_n 0, 1) := by decide +kernel
theorem dL_law_663 : decode cL_law 663 = .ok (.iload_n 3, 1) := by decide +kernel
theorem dL_law_664 : decode cL_law 664 = .ok (.iconst 4, 1) := by decide +kernel
theorem dL_law_665 : decode cL_law 665 = .ok (.iadd, 1) := by decide +kernel
theorem dL_law_666 : decode cL_law 666 = .ok (.iaload, 1) := by decide +kernel
theorem dL_law_667 : decode cL_law 667 = .ok (.invokevirtual 69, 3) := by decide +kernel
theorem dL_law_670 : decode cL_law 670 = .ok (.aload_n 2, 1) := by decide +kernel
theorem dL_law_671 : decode cL_law 671 = .ok (.aload_n 0, 1) := by decide +kernel
theorem dL_law_672 : decode cL_law 672 = .ok (.iload_n 3, 1) := by decide +kernel
theorem dL_law_673 : decode cL_law 673 = .ok (.iconst 1, 1) := by decide +kernel
theorem dL_law_674 : decode cL_law 674 = .ok (.iadd, 1) := by decide +kernel
theorem dL_law_675 : decode cL_law 675 = .ok (.iaload, 1) := by decide +kernel
theorem dL_law_676 : decode cL_law 676 = .ok (.aload_n 0, 1) := by decide +kernel
theorem dL_law_677 : decode cL_law 677 = .ok (.iload_n 3, 1) := by decide +kernel
theorem dL_law_678 : decode cL_law 678 = .ok (.iconst 2, 1) := by decide +kernel
theorem dL_law_679 : decode cL_law 679 = .ok (.iadd, 1) := by decide +kernel
theorem dL_law_680 : decode cL_law 680 = .ok (.iaload, 1) := by decide +kernel
theorem dL_law_681 : decode cL_law 681 = .ok (.aload_n 0, 1) := by decide +kernel
theorem dL_law_682 : decode cL_law 682 = .ok (.iload_n 3, 1) := by decide +kernel
theorem dL_law_683 : decode cL_law 683 = .ok (.iconst 3, 1) := by decide +kernel
theorem dL_law_684 : decode cL_law 684 = .ok (.iadd, 1) := by decide +kernel
theorem dL_law_685 : decode cL_law 685 = .ok (.iaload, 1) := by decide +kernel
theorem dL_law_686 : decode cL_law 686 = .ok (.aload_n 0, 1) := by decide +kernel
theorem dL_law_687 : decode cL_law 687 = .ok (.iload_n 3, 1) := by decide +kernel
theorem dL_law_688 : decode cL_law 688 = .ok (.iconst 4, 1) := by decide +kernel
theorem dL_law_689 : decode cL_law 689 = .ok (.iadd, 1) := by decide +kernel
theorem dL_law_690 : decode cL_law 690 = .ok (.iaload, 1) := by decide +kernel
theorem dL_law_691 : decode cL_law 691 = .ok (.invokevirtual 72, 3) := by decide +kernel
theorem dL_law_694 : decode cL_law 694 = .ok (.if_icmp .eq 1027, 3) := by decide +kernel
theorem dL_law_699 : decode cL_law 699 = .ok (.aload_n 1, 1) := by decide +kernel
theorem dL_law_700 : decode cL_law 700 = .ok (.aload_n 0, 1) := by decide +kernel
theorem dL_law_701 : decode cL_law 701 = .ok (.iload_n 3, 1) := by decide +kernel
theorem dL_law_702 : decode cL_law 702 = .ok (.iconst 1, 1) := by decide +kernel
theorem dL_law_703 : decode cL_law 703 = .ok (.iadd, 1) := by decide +kernel
theorem dL_law_704 : decode cL_law 704 = .ok (.iaload, 1) := by decide +kernel
theorem dL_law_705 : decode cL_law 705 = .ok (.aload_n 0, 1) := by decide +kernel
theorem dL_law_706 : decode cL_law 706 = .ok (.iload_n 3, 1) := by decide +kernel
theorem dL_law_707 : decode cL_law 707 = .ok (.iconst 2, 1) := by decide +kernel
theorem dL_law_708 : decode cL_law 708 = .ok (.iadd, 1) := by decide +kernel
theorem dL_law_709 : decode cL_law 709 = .ok (.iaload, 1) := by decide +kernel
theorem dL_law_710 : decode cL_law 710 = .ok (.invokevirtual 73, 3) := by decide +kernel
theorem dL_law_713 : decode cL_law 713 = .ok (.aload_n 2, 1) := by decide +kernel
theorem dL_law_714 : decode cL_law 714 = .ok (.aload_n 0, 1) := by decide +kernel
theorem dL_law_715 : decode cL_law 715 = .ok (.iload_n 3, 1) := by decide +kernel
theorem dL_law_716 : decode cL_law 716 = .ok (.iconst 1, 1) := by decide +kernel
theorem dL_law_717 : decode cL_law 717 = .ok (.iadd, 1) := by decide +kernel
theorem dL_law_718 : decode cL_law 718 = .ok (.iaload, 1) := by decide +kernel
theorem dL_law_719 : decode cL_law 719 = .ok (.aload_n 0, 1) := by decide +kernel
theorem dL_law_720 : decode cL_law 720 = .ok (.iload_n 3, 1) := by decide +kernel
theorem dL_law_721 : decode cL_law 721 = .ok (.iconst 2, 1) := by decide +kernel
theorem dL_law_722 : decode cL_law 722 = .ok (.iadd, 1) := by decide +kernel
theorem dL_law_723 : decode cL_law 723 = .ok (.iaload, 1) := by decide +kernel
theorem dL_law_724 : decode cL_law 724 = .ok (.invokevirtual 76, 3) := by decide +kernel
theorem dL_law_727 : decode cL_law 727 = .ok (.if_icmp .eq 994, 3) := by decide +kernel
theorem dL_law_732 : decode cL_law 732 = .ok (.aload_n 1, 1) := by decide +kernel
theorem dL_law_733 : decode cL_law 733 = .ok (.aload_n 0, 1) := by decide +kernel
theorem dL_law_734 : decode cL_law 734 = .ok (.iload_n 3, 1) := by decide +kernel
theorem dL_law_735 : decode cL_law 735 = .ok (.iconst 1, 1) := by decide +kernel
theorem dL_law_736 : decode cL_law 736 = .ok (.iadd, 1) := by decide +kernel
theorem dL_law_737 : decode cL_law 737 = .ok (.iaload, 1) := by decide +kernel
theorem dL_law_738 : decode cL_law 738 = .ok (.aload_n 0, 1) := by decide +kernel
theorem dL_law_739 : decode cL_law 739 = .ok (.iload_n 3, 1) := by decide +kernel
theorem dL_law_740 : decode cL_law 740 = .ok (.iconst 2, 1) := by decide +kernel
theorem dL_law_741 : decode cL_law 741 = .ok (.iadd, 1) := by decide +kernel
theorem dL_law_742 : decode cL_law 742 = .ok (.iaload, 1) := by decide +kernel
theorem dL_law_743 : decode cL_law 743 = .ok (.aload_n 0, 1) := by decide +kernel
theorem dL_law_744 : decode cL_law 744 = .ok (.iload_n 3, 1) := by decide +kernel
theorem dL_law_745 : decode cL_law 745 = .ok (.iconst 3, 1) := by decide +kernel
theorem dL_law_746 : decode cL_law 746 = .ok (.iadd, 1) := by decide +kernel
theorem dL_law_747 : decode cL_law 747 = .ok (.iaload, 1) := by decide +kernel
theorem dL_law_748 : decode cL_law 748 = .ok (.aload_n 0, 1) := by decide +kernel
theorem dL_law_749 : decode cL_law 749 = .ok (.iload_n 3, 1) := by decide +kernel
theorem dL_law_750 : decode cL_law 750 = .ok (.iconst 4, 1) := by decide +kernel
theorem dL_law_751 : decode cL_law 751 = .ok (.iadd, 1) := by decide +kernel
theorem dL_law_752 : decode cL_law 752 = .ok (.iaload, 1) := by decide +kernel
theorem dL_law_753 : decode cL_law 753 = .ok (.invokevirtual 77, 3) := by decide +kernel
theorem dL_law_756 : decode cL_law 756 = .ok (.aload_n 2, 1) := by decide +kernel
theorem dL_law_757 : decode cL_law 757 = .ok (.aload_n 0, 1) := by decide +kernel
theorem dL_law_758 : decode cL_law 758 = .ok (.iload_n 3, 1) := by decide +kernel
theorem dL_law_759 : decode cL_law 759 = .ok (.iconst 1, 1) := by decide +kernel
theorem dL_law_760 : decode cL_law 760 = .ok (.iadd, 1) := by decide +kernel
theorem dL_law_761 : decode cL_law 761 = .ok (.iaload, 1) := by decide +kernel
theorem dL_law_762 : decode cL_law 762 = .ok (.aload_n 0, 1) := by decide +kernel
theorem dL_law_763 : decode cL_law 763 = .ok (.iload_n 3, 1) := by decide +kernel
theorem dL_law_764 : decode cL_law 764 = .ok (.iconst 2, 1) := by decide +kernel
theorem dL_law_765 : decode cL_law 765 = .ok (.iadd, 1) := by decide +kernel
theorem dL_law_766 : decode cL_law 766 = .ok (.iaload, 1) := by decide +kernel
theorem dL_law_767 : decode cL_law 767 = .ok (.aload_n 0, 1) := by decide +kernel
theorem dL_law_768 : decode cL_law 768 = .ok (.iload_n 3, 1) := by decide +kernel
theorem dL_law_769 : decode cL_law 769 = .ok (.iconst 3, 1) := by decide +kernel
theorem dL_law_770 : decode cL_law 770 = .ok (.iadd, 1) := by decide +kernel
theorem dL_law_771 : decode cL_law 771 = .ok (.iaload, 1) := by decide +kernel
theorem dL_law_772 : decode cL_law 772 = .ok (.aload_n 0, 1) := by decide +kernel
theorem dL_law_773 : decode cL_law 773 = .ok (.iload_n 3, 1) := by decide +kernel
theorem dL_law_774 : decode cL_law 774 = .ok (.iconst 4, 1) := by decide +kernel
theorem dL_law_775 : decode cL_law 775 = .ok (.iadd, 1) := by decide +kernel
theorem dL_law_776 : decode cL_law 776 = .ok (.iaload, 1) := by decide +kernel
theorem dL_law_777 : decode cL_law 777 = .ok (.invokevirtual 80, 3) := by decide +kernel
theorem dL_law_780 : decode cL_law 780 = .ok (.if_icmp .eq 941, 3) := by decide +kernel
theorem dL_law_785 : decode cL_law 785 = .ok (.aload_n 1, 1) := by decide +kernel
theorem dL_law_786 : decode cL_law 786 = .ok (.aload_n 0, 1) := by decide +kernel
theorem dL_law_787 : decode cL_law 787 = .ok (.iload_n 3, 1) := by decide +kernel
theorem dL_law_788 : decode cL_law 788 = .ok (.iconst 1, 1) := by decide +kernel
theorem dL_law_789 : decode cL_law 789 = .ok (.iadd, 1) := by decide +kernel
theorem dL_law_790 : decode cL_law 790 = .ok (.iaload, 1) := by decide +kernel
theorem dL_law_791 : decode cL_law 791 = .ok (.aload_n 0, 1) := by decide +kernel
theorem dL_law_792 : decode cL_law 792 = .ok (.iload_n 3, 1) := by decide +kernel
theorem dL_law_793 : decode cL_law 793 = .ok (.iconst 2, 1) := by decide +kernel
theorem dL_law_794 : decode cL_law 794 = .ok (.iadd, 1) := by decide +kernel
theorem dL_law_795 : decode cL_law 795 = .ok (.iaload, 1) := by decide +kernel
theorem dL_law_796 : decode cL_law 796 = .ok (.aload_n 0, 1) := by decide +kernel
theorem dL_law_797 : decode cL_law 797 = .ok (.iload_n 3, 1) := by decide +kernel
theorem dL_law_798 : decode cL_law 798 = .ok (.iconst 3, 1) := by decide +kernel
theorem dL_law_799 : decode cL_law 799 = .ok (.iadd, 1) := by decide +kernel
theorem dL_law_800 : decode cL_law 800 = .ok (.iaload, 1) := by decide +kernel
theorem dL_law_801 : decode cL_law 801 = .ok (.invokevirtual 81, 3) := by decide +kernel
theorem dL_law_804 : decode cL_law 804 = .ok (.aload_n 2, 1) := by decide +kernel
theorem dL_law_805 : decode cL_law 805 = .ok (.aload_n 0, 1) := by decide +kernel
theorem dL_law_806 : decode cL_law 806 = .ok (.iload_n 3, 1) := by decide +kernel
theorem dL_law_807 : decode cL_law 807 = .ok (.iconst 1, 1) := by decide +kernel
theorem dL_law_808 : decode cL_law 808 = .ok (.iadd, 1) := by decide +kernel
theorem dL_law_809 : decode cL_law 809 = .ok (.iaload, 1) := by decide +kernel
theorem dL_law_810 : decode cL_law 810 = .ok (.aload_n 0, 1) := by decide +kernel
theorem dL_law_811 : decode cL_law 811 = .ok (.iload_n 3, 1) := by decide +kernel
theorem dL_law_812 : decode cL_law 812 = .ok (.iconst 2, 1) := by decide +kernel
theorem dL_law_813 : decode cL_law 813 = .ok (.iadd, 1) := by decide +kernel
theorem dL_law_814 : decode cL_law 814 = .ok (.iaload, 1) := by decide +kernel
theorem dL_law_815 : decode cL_law 815 = .ok (.aload_n 0, 1) := by decide +kernel
theorem dL_law_816 : decode cL_law 816 = .ok (.iload_n 3, 1) := by decide +kernel
theorem dL_law_817 : decode cL_law 817 = .ok (.iconst 3, 1) := by decide +kernel
theorem dL_law_818 : decode cL_law 818 = .ok (.iadd, 1) := by decide +kernel
theorem dL_law_819 : decode cL_law 819 = .ok (.iaload, 1) := by decide +kernel
theorem dL_law_820 : decode cL_law 820 = .ok (.invokevirtual 85, 3) := by decide +kernel
theorem dL_law_823 : decode cL_law 823 = .ok (.if_icmp .eq 898, 3) := by decide +kernel
theorem dL_law_828 : decode cL_law 828 = .ok (.aload_n 1, 1) := by decide +kernel
theorem dL_law_829 : decode cL_law 829 = .ok (.aload_n 0, 1) := by decide +kernel
theorem dL_law_830 : decode cL_law 830 = .ok (.iload_n 3, 1) := by decide +kernel
theorem dL_law_831 : decode cL_law 831 = .ok (.iconst 1, 1) := by decide +kernel
theorem dL_law_832 : decode cL_law 832 = .ok (.iadd, 1) := by decide +kernel
theorem dL_law_833 : decode cL_law 833 = .ok (.iaload, 1) := by decide +kernel
theorem dL_law_834 : decode cL_law 834 = .ok (.aload_n 0, 1) := by decide +kernel
theorem dL_law_835 : decode cL_law 835 = .ok (.iload_n 3, 1) := by decide +kernel
theorem dL_law_836 : decode cL_law 836 = .ok (.iconst 2, 1) := by decide +kernel
theorem dL_law_837 : decode cL_law 837 = .ok (.iadd, 1) := by decide +kernel
theorem dL_law_838 : decode cL_law 838 = .ok (.iaload, 1) := by decide +kernel
theorem dL_law_839 : decode cL_law 839 = .ok (.aload_n 0, 1) := by decide +kernel
theorem dL_law_840 : decode cL_law 840 = .ok (.iload_n 3, 1) := by decide +kernel
theorem dL_law_841 : decode cL_law 841 = .ok (.iconst 3, 1) := by decide +kernel
theorem dL_law_842 : decode cL_law 842 = .ok (.iadd, 1) := by decide +kernel
theorem dL_law_843 : decode cL_law 843 = .ok (.iaload, 1) := by decide +kernel
theorem dL_law_844 : decode cL_law 844 = .ok (.aload_n 0, 1) := by decide +kernel
theorem dL_law_845 : decode cL_law 845 = .ok (.iload_n 3, 1) := by decide +kernel
theorem dL_law_846 : decode cL_law 846 = .ok (.iconst 4, 1) := by decide +kernel
theorem dL_law_847 : decode cL_law 847 = .ok (.iadd, 1) := by decide +kernel
theorem dL_law_848 : decode cL_law 848 = .ok (.iaload, 1) := by decide +kernel
theorem dL_law_849 : decode cL_law 849 = .ok (.invokevirtual 86, 3) := by decide +kernel
theorem dL_law_852 : decode cL_law 852 = .ok (.aload_n 2, 1) := by decide +kernel
theorem dL_law_853 : decode cL_law 853 = .ok (.aload_n 0, 1) := by decide +kernel
theorem dL_law_854 : decode cL_law 854 = .ok (.iload_n 3, 1) := by decide +kernel
theorem dL_law_855 : decode cL_law 855 = .ok (.iconst 1, 1) := by decide +kernel
theorem dL_law_856 : decode cL_law 856 = .ok (.iadd, 1) := by decide +kernel
theorem dL_law_857 : decode cL_law 857 = .ok (.iaload, 1) := by decide +kernel
theorem dL_law_858 : decode cL_law 858 = .ok (.aload_n 0, 1) := by decide +kernel
theorem dL_law_859 : decode cL_law 859 = .ok (.iload_n 3, 1) := by decide +kernel
theorem dL_law_860 : decode cL_law 860 = .ok (.iconst 2, 1) := by decide +kernel
theorem dL_law_861 : decode cL_law 861 = .ok (.iadd, 1) := by decide +kernel
theorem dL_law_862 : decode cL_law 862 = .ok (.iaload, 1) := by decide +kernel
theorem dL_law_863 : decode cL_law 863 = .ok (.aload_n 0, 1) := by decide +kernel
theorem dL_law_864 : decode cL_law 864 = .ok (.iload_n 3, 1) := by decide +kernel
theorem dL_law_865 : decode cL_law 865 = .ok (.iconst 3, 1) := by decide +kernel
theorem dL_law_866 : decode cL_law 866 = .ok (.iadd, 1) := by decide +kernel
theorem dL_law_867 : decode cL_law 867 = .ok (.iaload, 1) := by decide +kernel
theorem dL_law_868 : decode cL_law 868 = .ok (.aload_n 0, 1) := by decide +kernel
theorem dL_law_869 : decode cL_law 869 = .ok (.iload_n 3, 1) := by decide +kernel
theorem dL_law_870 : decode cL_law 870 = .ok (.iconst 4, 1) := by decide +kernel
theorem dL_law_871 : decode cL_law 871 = .ok (.iadd, 1) := by decide +kernel
theorem dL_law_872 : decode cL_law 872 = .ok (.iaload, 1) := by decide +kernel
theorem dL_law_873 : decode cL_law 873 = .ok (.invokevirtual 90, 3) := by decide +kernel
theorem dL_law_876 : decode cL_law 876 = .ok (.lcmp, 1) := by decide +kernel
theorem dL_law_877 : decode cL_law 877 = .ok (.ifCond .eq 844, 3) := by decide +kernel
theorem dL_law_882 : decode cL_law 882 = .ok (.aload_n 1, 1) := by decide +kernel
theorem dL_law_883 : decode cL_law 883 = .ok (.aload_n 0, 1) := by decide +kernel
theorem dL_law_884 : decode cL_law 884 = .ok (.iload_n 3, 1) := by decide +kernel
theorem dL_law_885 : decode cL_law 885 = .ok (.iconst 1, 1) := by decide +kernel
theorem dL_law_886 : decode cL_law 886 = .ok (.iadd, 1) := by decide +kernel
theorem dL_law_887 : decode cL_law 887 = .ok (.iaload, 1) := by decide +kernel
theorem dL_law_888 : decode cL_law 888 = .ok (.aload_n 0, 1) := by decide +kernel
theorem dL_law_889 : decode cL_law 889 = .ok (.iload_n 3, 1) := by decide +kernel
theorem dL_law_890 : decode cL_law 890 = .ok (.iconst 2, 1) := by decide +kernel
theorem dL_law_891 : decode cL_law 891 = .ok (.iadd, 1) := by decide +kernel
theorem dL_law_892 : decode cL_law 892 = .ok (.iaload, 1) := by decide +kernel
theorem dL_law_893 : decode cL_law 893 = .ok (.aload_n 0, 1) := by decide +kernel
theorem dL_law_894 : decode cL_law 894 = .ok (.iload_n 3, 1) := by decide +kernel
theorem dL_law_895 : decode cL_law 895 = .ok (.iconst 3, 1) := by decide +kernel
theorem dL_law_896 : decode cL_law 896 = .ok (.iadd, 1) := by decide +kernel
theorem dL_law_897 : decode cL_law 897 = .ok (.iaload, 1) := by decide +kernel
theorem dL_law_898 : decode cL_law 898 = .ok (.aload_n 0, 1) := by decide +kernel
theorem dL_law_899 : decode cL_law 899 = .ok (.iload_n 3, 1) := by decide +kernel
theorem dL_law_900 : decode cL_law 900 = .ok (.iconst 4, 1) := by decide +kernel
theorem dL_law_901 : decode cL_law 901 = .ok (.iadd, 1) := by decide +kernel
theorem dL_law_902 : decode cL_law 902 = .ok (.iaload, 1) := by decide +kernel
theorem dL_law_903 : decode cL_law 903 = .ok (.aload_n 0, 1) := by decide +kernel
theorem dL_law_904 : decode cL_law 904 = .ok (.iload_n 3, 1) := by decide +kernel
theorem dL_law_905 : decode cL_law 905 = .ok (.iconst 5, 1) := by decide +kernel
theorem dL_law_906 : decode cL_law 906 = .ok (.iadd, 1) := by decide +kernel
theorem dL_law_907 : decode cL_law 907 = .ok (.iaload, 1) := by decide +kernel
theorem dL_law_908 : decode cL_law 908 = .ok (.invokevirtual 91, 3) := by decide +kernel
theorem dL_law_911 : decode cL_law 911 = .ok (.aload_n 2, 1) := by decide +kernel
theorem dL_law_912 : decode cL_law 912 = .ok (.aload_n 0, 1) := by decide +kernel
theorem dL_law_913 : decode cL_law 913 = .ok (.iload_n 3, 1) := by decide +kernel
theorem dL_law_914 : decode cL_law 914 = .ok (.iconst 1, 1) := by decide +kernel
theorem dL_law_915 : decode cL_law 915 = .ok (.iadd, 1) := by decide +kernel
theorem dL_law_916 : decode cL_law 916 = .ok (.iaload, 1) := by decide +kernel
theorem dL_law_917 : decode cL_law 917 = .ok (.aload_n 0, 1) := by decide +kernel
theorem dL_law_918 : decode cL_law 918 = .ok (.iload_n 3, 1) := by decide +kernel
theorem dL_law_919 : decode cL_law 919 = .ok (.iconst 2, 1) := by decide +kernel
theorem dL_law_920 : decode cL_law 920 = .ok (.iadd, 1) := by decide +kernel
theorem dL_law_921 : decode cL_law 921 = .ok (.iaload, 1) := by decide +kernel
theorem dL_law_922 : decode cL_law 922 = .ok (.aload_n 0, 1) := by decide +kernel
theorem dL_law_923 : decode cL_law 923 = .ok (.iload_n 3, 1) := by decide +kernel
theorem dL_law_924 : decode cL_law 924 = .ok (.iconst 3, 1) := by decide +kernel
theorem dL_law_925 : decode cL_law 925 = .ok (.iadd, 1) := by decide +kernel
theorem dL_law_926 : decode cL_law 926 = .ok (.iaload, 1) := by decide +kernel
theorem dL_law_927 : decode cL_law 927 = .ok (.aload_n 0, 1) := by decide +kernel
theorem dL_law_928 : decode cL_law 928 = .ok (.iload_n 3, 1) := by decide +kernel
theorem dL_law_929 : decode cL_law 929 = .ok (.iconst 4, 1) := by decide +kernel
theorem dL_law_930 : decode cL_law 930 = .ok (.iadd, 1) := by decide +kernel
theorem dL_law_931 : decode cL_law 931 = .ok (.iaload, 1) := by decide +kernel
theorem dL_law_932 : decode cL_law 932 = .ok (.aload_n 0, 1) := by decide +kernel
theorem dL_law_933 : decode cL_law 933 = .ok (.iload_n 3, 1) := by decide +kernel
theorem dL_law_934 : decode cL_law 934 = .ok (.iconst 5, 1) := by decide +kernel
theorem dL_law_935 : decode cL_law 935 = .ok (.iadd, 1) := by decide +kernel
theorem dL_law_936 : decode cL_law 936 = .ok (.iaload, 1) := by decide +kernel
theorem dL_law_937 : decode cL_law 937 = .ok (.invokevirtual 94, 3) := by decide +kernel
theorem dL_law_940 : decode cL_law 940 = .ok (.if_icmp .eq 781, 3) := by decide +kernel
theorem dL_law_945 : decode cL_law 945 = .ok (.aload_n 1, 1) := by decide +kernel
theorem dL_law_946 : decode cL_law 946 = .ok (.aload_n 0, 1) := by decide +kernel
theorem dL_law_947 : decode cL_law 947 = .ok (.iload_n 3, 1) := by decide +kernel
theorem dL_law_948 : decode cL_law 948 = .ok (.iconst 1, 1) := by decide +kernel
theorem dL_law_949 : decode cL_law 949 = .ok (.iadd, 1) := by decide +kernel
theorem dL_law_950 : decode cL_law 950 = .ok (.iaload, 1) := by decide +kernel
theorem dL_law_951 : decode cL_law 951 = .ok (.aload_n 0, 1) := by decide +kernel
theorem dL_law_952 : decode cL_law 952 = .ok (.iload_n 3, 1) := by decide +kernel
theorem dL_law_953 : decode cL_law 953 = .ok (.iconst 2, 1) := by decide +kernel
theorem dL_law_954 : decode cL_law 954 = .ok (.iadd, 1) := by decide +kernel
theorem dL_law_955 : decode cL_law 955 = .ok (.iaload, 1) := by decide +kernel
theorem dL_law_956 : decode cL_law 956 = .ok (.aload_n 0, 1) := by decide +kernel
theorem dL_law_957 : decode cL_law 957 = .ok (.iload_n 3, 1) := by decide +kernel
theorem dL_law_958 : decode cL_law 958 = .ok (.iconst 3, 1) := by decide +kernel
theorem dL_law_959 : decode cL_law 959 = .ok (.iadd, 1) := by decide +kernel
theorem dL_law_960 : decode cL_law 960 = .ok (.iaload, 1) := by decide +kernel
theorem dL_law_961 : decode cL_law 961 = .ok (.aload_n 0, 1) := by decide +kernel
theorem dL_law_962 : decode cL_law 962 = .ok (.iload_n 3, 1) := by decide +kernel
theorem dL_law_963 : decode cL_law 963 = .ok (.iconst 4, 1) := by decide +kernel
theorem dL_law_964 : decode cL_law 964 = .ok (.iadd, 1) := by decide +kernel
theorem dL_law_965 : decode cL_law 965 = .ok (.iaload, 1) := by decide +kernel
theorem dL_law_966 : decode cL_law 966 = .ok (.invokevirtual 95, 3) := by decide +kernel
theorem dL_law_969 : decode cL_law 969 = .ok (.aload_n 2, 1) := by decide +kernel
theorem dL_law_970 : decode cL_law 970 = .ok (.aload_n 0, 1) := by decide +kernel
theorem dL_law_971 : decode cL_law 971 = .ok (.iload_n 3, 1) := by decide +kernel
theorem dL_law_972 : decode cL_law 972 = .ok (.iconst 1, 1) := by decide +kernel
theorem dL_law_973 : decode cL_law 973 = .ok (.iadd, 1) := by decide +kernel
theorem dL_law_974 : decode cL_law 974 = .ok (.iaload, 1) := by decide +kernel
theorem dL_law_975 : decode cL_law 975 = .ok (.aload_n 0, 1) := by decide +kernel
theorem dL_law_976 : decode cL_law 976 = .ok (.iload_n 3, 1) := by decide +kernel
theorem dL_law_977 : decode cL_law 977 = .ok (.iconst 2, 1) := by decide +kernel
theorem dL_law_978 : decode cL_law 978 = .ok (.iadd, 1) := by decide +kernel
theorem dL_law_979 : decode cL_law 979 = .ok (.iaload, 1) := by decide +kernel
theorem dL_law_980 : decode cL_law 980 = .ok (.aload_n 0, 1) := by decide +kernel
theorem dL_law_981 : decode cL_law 981 = .ok (.iload_n 3, 1) := by decide +kernel
theorem dL_law_982 : decode cL_law 982 = .ok (.iconst 3, 1) := by decide +kernel
theorem dL_law_983 : decode cL_law 983 = .ok (.iadd, 1) := by decide +kernel
theorem dL_law_984 : decode cL_law 984 = .ok (.iaload, 1) := by decide +kernel
theorem dL_law_985 : decode cL_law 985 = .ok (.aload_n 0, 1) := by decide +kernel
theorem dL_law_986 : decode cL_law 986 = .ok (.iload_n 3, 1) := by decide +kernel
theorem dL_law_987 : decode cL_law 987 = .ok (.iconst 4, 1) := by decide +kernel
theorem dL_law_988 : decode cL_law 988 = .ok (.iadd, 1) := by decide +kernel
theorem dL_law_989 : decode cL_law 989 = .ok (.iaload, 1) := by decide +kernel
theorem dL_law_990 : decode cL_law 990 = .ok (.invokevirtual 98, 3) := by decide +kernel
theorem dL_law_993 : decode cL_law 993 = .ok (.lcmp, 1) := by decide +kernel
theorem dL_law_994 : decode cL_law 994 = .ok (.ifCond .eq 727, 3) := by decide +kernel
theorem dL_law_999 : decode cL_law 999 = .ok (.aload_n 1, 1) := by decide +kernel
theorem dL_law_1000 : decode cL_law 1000 = .ok (.aload_n 0, 1) := by decide +kernel
theorem dL_law_1001 : decode cL_law 1001 = .ok (.iload_n 3, 1) := by decide +kernel
theorem dL_law_1002 : decode cL_law 1002 = .ok (.iconst 1, 1) := by decide +kernel
theorem dL_law_1003 : decode cL_law 1003 = .ok (.iadd, 1) := by decide +kernel
theorem dL_law_1004 : decode cL_law 1004 = .ok (.iaload, 1) := by decide +kernel
theorem dL_law_1005 : decode cL_law 1005 = .ok (.aload_n 0, 1) := by decide +kernel
theorem dL_law_1006 : decode cL_law 1006 = .ok (.iload_n 3, 1) := by decide +kernel
theorem dL_law_1007 : decode cL_law 1007 = .ok (.iconst 2, 1) := by decide +kernel
theorem dL_law_1008 : decode cL_law 1008 = .ok (.iadd, 1) := by decide +kernel
theorem dL_law_1009 : decode cL_law 1009 = .ok (.iaload, 1) := by decide +kernel
theorem dL_law_1010 : decode cL_law 1010 = .ok (.aload_n 0, 1) := by decide +kernel
theorem dL_law_1011 : decode cL_law 1011 = .ok (.iload_n 3, 1) := by decide +kernel
theorem dL_law_1012 : decode cL_law 1012 = .ok (.iconst 3, 1) := by decide +kernel
theorem dL_law_1013 : decode cL_law 1013 = .ok (.iadd, 1) := by decide +kernel
theorem dL_law_1014 : decode cL_law 1014 = .ok (.iaload, 1) := by decide +kernel
theorem dL_law_1015 : decode cL_law 1015 = .ok (.aload_n 0, 1) := by decide +kernel
theorem dL_law_1016 : decode cL_law 1016 = .ok (.iload_n 3, 1) := by decide +kernel
theorem dL_law_1017 : decode cL_law 1017 = .ok (.iconst 4, 1) := by decide +kernel
theorem dL_law_1018 : decode cL_law 1018 = .ok (.iadd, 1) := by decide +kernel
theorem dL_law_1019 : decode cL_law 1019 = .ok (.iaload, 1) := by decide +kernel
theorem dL_law_1020 : decode cL_law 1020 = .ok (.invokevirtual 99, 3) := by decide +kernel
theorem dL_law_1023 : decode cL_law 1023 = .ok (.aload_n 2, 1) := by decide +kernel
theorem dL_law_1024 : decode cL_law 1024 = .ok (.aload_n 0, 1) := by decide +kernel
theorem dL_law_1025 : decode cL_law 1025 = .ok (.iload_n 3, 1) := by decide +kernel
theorem dL_law_1026 : decode cL_law 1026 = .ok (.iconst 1, 1) := by decide +kernel
theorem dL_law_1027 : decode cL_law 1027 = .ok (.iadd, 1) := by decide +kernel
theorem dL_law_1028 : decode cL_law 1028 = .ok (.iaload, 1) := by decide +kernel
theorem dL_law_1029 : decode cL_law 1029 = .ok (.aload_n 0, 1) := by decide +kernel
theorem dL_law_1030 : decode cL_law 1030 = .ok (.iload_n 3, 1) := by decide +kernel
theorem dL_law_1031 : decode cL_law 1031 = .ok (.iconst 2, 1) := by decide +kernel
theorem dL_law_1032 : decode cL_law 1032 = .ok (.iadd, 1) := by decide +kernel
theorem dL_law_1033 : decode cL_law 1033 = .ok (.iaload, 1) := by decide +kernel
theorem dL_law_1034 : decode cL_law 1034 = .ok (.aload_n 0, 1) := by decide +kernel
theorem dL_law_1035 : decode cL_law 1035 = .ok (.iload_n 3, 1) := by decide +kernel
theorem dL_law_1036 : decode cL_law 1036 = .ok (.iconst 3, 1) := by decide +kernel
theorem dL_law_1037 : decode cL_law 1037 = .ok (.iadd, 1) := by decide +kernel
theorem dL_law_1038 : decode cL_law 1038 = .ok (.iaload, 1) := by decide +kernel
theorem dL_law_1039 : decode cL_law 1039 = .ok (.aload_n 0, 1) := by decide +kernel
theorem dL_law_1040 : decode cL_law 1040 = .ok (.iload_n 3, 1) := by decide +kernel
theorem dL_law_1041 : decode cL_law 1041 = .ok (.iconst 4, 1) := by decide +kernel
theorem dL_law_1042 : decode cL_law 1042 = .ok (.iadd, 1) := by decide +kernel
theorem dL_law_1043 : decode cL_law 1043 = .ok (.iaload, 1) := by decide +kernel
theorem dL_law_1044 : decode cL_law 1044 = .ok (.invokevirtual 102, 3) := by decide +kernel
theorem dL_law_1047 : decode cL_law 1047 = .ok (.if_icmp .eq 674, 3) := by decide +kernel
set_option maxHeartbeats 4000000 in
set_option maxRecDepth 100000 in
theorem law_c10 {p : Program} {e : Env} {s : State} {m : MethodId} {below : List Frame} {meth : Method} {c : Code} {l : Launch} {b : Nat} {xs : Nat → Int32} {D : va_G} {cI cJ cZ cB cO : ClassId} (K0 : LwC p s m meth c b xs D [(cI, .int), (cJ, .long), (cZ, .boolean), (cB, .byte), (cO, .object "LuckLinks$World")]) {u v : Nat → Nat} {H : Heap} {locs : List Loc} {ls : Array Slot} (X : Wd D (fun q : Nat => s.heap.size ≤ q) s (xW cI cJ cZ cB cO u ++ mW cI cJ cZ cB cO v) H locs) (hl : lv_has ls 4 [(3, .int (0 : Int32)), (2, .ref (v 0)), (1, .ref (u 0)), (0, .ref b)]) :
    W p l e room_1 s m #[Value.ref b] below meth c H locs 150 141288 (lw_Z below #[Value.ref b] s) (F0 m 580 ls []) := by
  have C := K0.1
  have hx := C.1
  have hb := C.2.1
  have hX := K0.2.2.2.1
  have hbl := K0.2.2.2.2
  have hbA : ¬ (fun q : Nat => s.heap.size ≤ q) b := Nat.not_le.mpr hbl
  refine lv_aload_n hx hb dL_law_580 rfl (lv_at hl 2 rfl) ?_
  refine lv_aload_n hx hb dL_law_581 rfl (lv_at hl 3 rfl) ?_
  refine lv_iload_n hx hb dL_law_582 rfl (lv_at hl 0 rfl) ?_
  refine lv_iconst (v := (1 : Int32)) hx hb dL_law_583 (by decide) ?_
  refine lv_iadd hx hb dL_law_584 ?_
  refine x_eqi (show (0 : Int32) + (1 : Int32) = (1 : Int32) from by decide +kernel) ?_
  refine va_sld hx hb hX hbl hbA X.2.2.1 (i := (1 : Int32)) (vp_in_nI (n := 1) (by omega) (by omega)) dL_law_585 ?_
  refine x_eqi (show xs ((1 : Int32).toNatClampNeg) = xs 1 from rfl) ?_
  refine lv_aload_n hx hb dL_law_586 rfl (lv_at hl 3 rfl) ?_
  refine lv_iload_n hx hb dL_law_587 rfl (lv_at hl 0 rfl) ?_
  refine lv_iconst (v := (2 : Int32)) hx hb dL_law_588 (by decide) ?_
  refine lv_iadd hx hb dL_law_589 ?_
  refine x_eqi (show (0 : Int32) + (2 : Int32) = (2 : Int32) from by decide +kernel) ?_
  refine va_sld hx hb hX hbl hbA X.2.2.1 (i := (2 : Int32)) (vp_in_nI (n := 2) (by omega) (by omega)) dL_law_590 ?_
  refine x_eqi (show xs ((2 : Int32).toNatClampNeg) = xs 2 from rfl) ?_
  refine x_cV (own := RL) (wr := [((v 0), .inr (12, (mF v))), ((v 1), .inl (cI, 4, .inl (fun _ => (0 : Int32)))), ((v 7), .inl (cI, 160, .inl (wk0))), ((v 13), .inl (cI, 3, .inl (fun _ => (0 : Int32))))]) (As := [.int (xs 1), .int (xs 2)]) C X hl.1 (cx_run l D cI cJ cZ cB cO u (xs 1) (xs 2)) [0, 1, 4, 66] [98, 99, 105, 111] ⟨rfl, rfl, by decide, by decide, by decide⟩ (qb := 0) rfl rfl k_31_6 k_31_7 k_31_8 k_1_2 k_31_9 (n := 2) (by decide +kernel) ⟨Nat.le_of_ble_eq_true rfl, Nat.le_of_ble_eq_true rfl⟩ rfl rfl (Nat.le_of_ble_eq_true rfl) dL_law_591 ⟨Nat.le_of_ble_eq_true rfl, Nat.le_of_ble_eq_true rfl⟩ (fun r_2 u_1 H locs w_3 X => ?_)
  have X : Wd D (fun q : Nat => s.heap.size ≤ q) s [((v 0), .inr (12, (mF v))), ((v 1), .inl (cI, 4, .inl (fun _ => (0 : Int32)))), ((v 7), .inl (cI, 160, .inl (wk0))), ((v 13), .inl (cI, 3, .inl (fun _ => (0 : Int32))))] H locs := X
  refine W.widen (k := 150) (n := 141288) (Nat.le_of_ble_eq_true rfl) (Nat.le_of_ble_eq_true rfl) ?_
  obtain ⟨rfl, fw_3⟩ : r_2 = (-1 : Int32) ∧ True := w_3
  refine lv_aload_n hx hb dL_law_594 rfl (lv_at hl 1 rfl) ?_
  refine lv_aload_n hx hb dL_law_595 rfl (lv_at hl 3 rfl) ?_
  refine lv_iload_n hx hb dL_law_596 rfl (lv_at hl 0 rfl) ?_
  refine lv_iconst (v := (1 : Int32)) hx hb dL_law_597 (by decide) ?_
  refine lv_iadd hx hb dL_law_598 ?_
  refine x_eqi (show (0 : Int32) + (1 : Int32) = (1 : Int32) from by decide +kernel) ?_
  refine va_sld hx hb hX hbl hbA X.2.2.1 (i := (1 : Int32)) (vp_in_nI (n := 1) (by omega) (by omega)) dL_law_599 ?_
  refine x_eqi (show xs ((1 : Int32).toNatClampNeg) = xs 1 from rfl) ?_
  refine lv_aload_n hx hb dL_law_600 rfl (lv_at hl 3 rfl) ?_
  refine lv_iload_n hx hb dL_law_601 rfl (lv_at hl 0 rfl) ?_
  refine lv_iconst (v := (2 : Int32)) hx hb dL_law_602 (by decide) ?_
  refine lv_iadd hx hb dL_law_603 ?_
  refine x_eqi (show (0 : Int32) + (2 : Int32) = (2 : Int32) from by decide +kernel) ?_
  refine va_sld hx hb hX hbl hbA X.2.2.1 (i := (2 : Int32)) (vp_in_nI (n := 2) (by omega) (by omega)) dL_law_604 ?_
  refine x_eqi (show xs ((2 : Int32).toNatClampNeg) = xs 2 from rfl) ?_
  refine x_cV (own := RL) (wr := []) (As := [.int (xs 1), .int (xs 2)]) C X hl.1 (cm_run l D cI cJ cZ cB cO v (xs 1) (xs 2)) [0, 1, 2, 3] [] ⟨rfl, rfl, by decide, by decide, by decide⟩ (qb := 0) rfl rfl k_36_0 k_36_1 k_36_2 k_1_5 k_36_3 (n := 2) (by decide +kernel) ⟨Nat.le_of_ble_eq_true rfl, Nat.le_of_ble_eq_true rfl⟩ rfl rfl (Nat.le_of_ble_eq_true rfl) dL_law_605 ⟨Nat.le_of_ble_eq_true rfl, Nat.le_of_ble_eq_true rfl⟩ (fun r_5 u_4 H locs w_6 X => ?_)
  have X : Wd D (fun q : Nat => s.heap.size ≤ q) s [] H locs := X
  refine W.widen (k := 150) (n := 141288) (Nat.le_of_ble_eq_true rfl) (Nat.le_of_ble_eq_true rfl) ?_
  obtain ⟨rfl, fw_6⟩ : r_5 = (-1 : Int32) ∧ True := w_6
  refine lv_icmp_eq (tgt := 1721) hx hb dL_law_608 (by decide) (fun _ => ?_) (fun c0 => absurd (by decide) c0)
  exact law_tail K0 X hl (Nat.le_of_ble_eq_true rfl) (Nat.le_of_ble_eq_true rfl)
set_option maxHeartbeats 4000000 in
set_option maxRecDepth 100000 in
theorem law_c11 {p : Program} {e : Env} {s : State} {m : MethodId} {below : List Frame} {meth : Method} {c : Code} {l : Launch} {b : Nat} {xs : Nat → Int32} {D : va_G} {cI cJ cZ cB cO : ClassId} (K0 : LwC p s m meth c b xs D [(cI, .int), (cJ, .long), (cZ, .boolean), (cB, .byte), (cO, .object "LuckLinks$World")]) {u v : Nat → Nat} {H : Heap} {locs : List Loc} {ls : Array Slot} (X : Wd D (fun q : Nat => s.heap.size ≤ q) s (xW cI cJ cZ cB cO u ++ mW cI cJ cZ cB cO v) H locs) (hl : lv_has ls 4 [(3, .int (0 : Int32)), (2, .ref (v 0)), (1, .ref (u 0)), (0, .ref b)]) :
    W p l e room_1 s m #[Value.ref b] below meth c H locs 150 141288 (lw_Z below #[Value.ref b] s) (F0 m 613 ls []) := by
  have C := K0.1
  have hx := C.1
  have hb := C.2.1
  have hX := K0.2.2.2.1
  have hbl := K0.2.2.2.2
  have hbA : ¬ (fun q : Nat => s.heap.size ≤ q) b := Nat.not_le.mpr hbl
  refine lv_aload_n hx hb dL_law_613 rfl (lv_at hl 2 rfl) ?_
  refine lv_aload_n hx hb dL_law_614 rfl (lv_at hl 3 rfl) ?_
  refine lv_iload_n hx hb dL_law_615 rfl (lv_at hl 0 rfl) ?_
  refine lv_iconst (v := (1 : Int32)) hx hb dL_law_616 (by decide) ?_
  refine lv_iadd hx hb dL_law_617 ?_
  refine x_eqi (show (0 : Int32) + (1 : Int32) = (1 : Int32) from by decide +kernel) ?_
  refine va_sld hx hb hX hbl hbA X.2.2.1 (i := (1 : Int32)) (vp_in_nI (n := 1) (by omega) (by omega)) dL_law_618 ?_
  refine x_eqi (show xs ((1 : Int32).toNatClampNeg) = xs 1 from rfl) ?_
  refine lv_aload_n hx hb dL_law_619 rfl (lv_at hl 3 rfl) ?_
  refine lv_iload_n hx hb dL_law_620 rfl (lv_at hl 0 rfl) ?_
  refine lv_iconst (v := (2 : Int32)) hx hb dL_law_621 (by decide) ?_
  refine lv_iadd hx hb dL_law_622 ?_
  refine x_eqi (show (0 : Int32) + (2 : Int32) = (2 : Int32) from by decide +kernel) ?_
  refine va_sld hx hb hX hbl hbA X.2.2.1 (i := (2 : Int32)) (vp_in_nI (n := 2) (by omega) (by omega)) dL_law_623 ?_
  refine x_eqi (show xs ((2 : Int32).toNatClampNeg) = xs 2 from rfl) ?_
  refine x_cV (own := RL) (wr := [((v 0), .inr (12, (mF v))), ((v 1), .inl (cI, 4, .inl (fun _ => (0 : Int32))))]) (As := [.int (xs 1), .int (xs 2)]) C X hl.1 (cx_gift l D cI cJ cZ cB cO u (xs 1) (xs 2)) [0, 1] [98, 99] ⟨rfl, rfl, by decide, by decide, by decide⟩ (qb := 0) rfl rfl k_37_21 k_37_22 k_37_23 k_1_2 k_38_0 (n := 2) (by decide +kernel) ⟨Nat.le_of_ble_eq_true rfl, Nat.le_of_ble_eq_true rfl⟩ rfl rfl (Nat.le_of_ble_eq_true rfl) dL_law_624 ⟨Nat.le_of_ble_eq_true rfl, Nat.le_of_ble_eq_true rfl⟩ (fun r_2 u_1 H locs w_3 X => ?_)
  have X : Wd D (fun q : Nat => s.heap.size ≤ q) s [((v 0), .inr (12, (mF v))), ((v 1), .inl (cI, 4, .inl (fun _ => (0 : Int32))))] H locs := X
  refine W.widen (k := 150) (n := 141288) (Nat.le_of_ble_eq_true rfl) (Nat.le_of_ble_eq_true rfl) ?_
  obtain ⟨rfl, fw_3⟩ : r_2 = (-100 : Int32) ∧ True := w_3
  refine lv_aload_n hx hb dL_law_627 rfl (lv_at hl 1 rfl) ?_
  refine lv_aload_n hx hb dL_law_628 rfl (lv_at hl 3 rfl) ?_
  refine lv_iload_n hx hb dL_law_629 rfl (lv_at hl 0 rfl) ?_
  refine lv_iconst (v := (1 : Int32)) hx hb dL_law_630 (by decide) ?_
  refine lv_iadd hx hb dL_law_631 ?_
  refine x_eqi (show (0 : Int32) + (1 : Int32) = (1 : Int32) from by decide +kernel) ?_
  refine va_sld hx hb hX hbl hbA X.2.2.1 (i := (1 : Int32)) (vp_in_nI (n := 1) (by omega) (by omega)) dL_law_632 ?_
  refine x_eqi (show xs ((1 : Int32).toNatClampNeg) = xs 1 from rfl) ?_
  refine lv_aload_n hx hb dL_law_633 rfl (lv_at hl 3 rfl) ?_
  refine lv_iload_n hx hb dL_law_634 rfl (lv_at hl 0 rfl) ?_
  refine lv_iconst (v := (2 : Int32)) hx hb dL_law_635 (by decide) ?_
  refine lv_iadd hx hb dL_law_636 ?_
  refine x_eqi (show (0 : Int32) + (2 : Int32) = (2 : Int32) from by decide +kernel) ?_
  refine va_sld hx hb hX hbl hbA X.2.2.1 (i := (2 : Int32)) (vp_in_nI (n := 2) (by omega) (by omega)) dL_law_637 ?_
  refine x_eqi (show xs ((2 : Int32).toNatClampNeg) = xs 2 from rfl) ?_
  refine x_cV (own := RL) (wr := []) (As := [.int (xs 1), .int (xs 2)]) C X hl.1 (cm_gift l D cI cJ cZ cB cO v (xs 1) (xs 2)) [0, 1] [] ⟨rfl, rfl, by decide, by decide, by decide⟩ (qb := 0) rfl rfl k_38_2 k_38_3 k_38_4 k_1_5 k_38_5 (n := 2) (by decide +kernel) ⟨Nat.le_of_ble_eq_true rfl, Nat.le_of_ble_eq_true rfl⟩ rfl rfl (Nat.le_of_ble_eq_true rfl) dL_law_638 ⟨Nat.le_of_ble_eq_true rfl, Nat.le_of_ble_eq_true rfl⟩ (fun r_5 u_4 H locs w_6 X => ?_)
  have X : Wd D (fun q : Nat => s.heap.size ≤ q) s [] H locs := X
  refine W.widen (k := 150) (n := 141288) (Nat.le_of_ble_eq_true rfl) (Nat.le_of_ble_eq_true rfl) ?_
  obtain ⟨rfl, fw_6⟩ : r_5 = (-100 : Int32) ∧ True := w_6
  refine lv_icmp_eq (tgt := 1721) hx hb dL_law_641 (by decide) (fun _ => ?_) (fun c0 => absurd (by decide) c0)
  exact law_tail K0 X hl (Nat.le_of_ble_eq_true rfl) (Nat.le_of_ble_eq_true rfl)
set_option maxHeartbeats 4000000 in
set_option maxRecDepth 100000 in
theorem law_c12 {p : Program} {e : Env} {s : State} {m : MethodId} {below : List Frame} {meth : Method} {c : Code} {l : Launch} {b : Nat} {xs : Nat → Int32} {D : va_G} {cI cJ cZ cB cO : ClassId} (K0 : LwC p s m meth c b xs D [(cI, .int), (cJ, .long), (cZ, .boolean), (cB, .byte), (cO, .object "LuckLinks$World")]) {u v : Nat → Nat} {H : Heap} {locs : List Loc} {ls : Array Slot} (X : Wd D (fun q : Nat => s.heap.size ≤ q) s (xW cI cJ cZ cB cO u ++ mW cI cJ cZ cB cO v) H locs) (hl : lv_has ls 4 [(3, .int (0 : Int32)), (2, .ref (v 0)), (1, .ref (u 0)), (0, .ref b)]) :
    W p l e room_1 s m #[Value.ref b] below meth c H locs 150 141288 (lw_Z below #[Value.ref b] s) (F0 m 646 ls []) := by
  have C := K0.1
  have hx := C.1
  have hb := C.2.1
  have hX := K0.2.2.2.1
  have hbl := K0.2.2.2.2
  have hbA : ¬ (fun q : Nat => s.heap.size ≤ q) b := Nat.not_le.mpr hbl
  refine lv_aload_n hx hb dL_law_646 rfl (lv_at hl 2 rfl) ?_
  refine lv_aload_n hx hb dL_law_647 rfl (lv_at hl 3 rfl) ?_
  refine lv_iload_n hx hb dL_law_648 rfl (lv_at hl 0 rfl) ?_
  refine lv_iconst (v := (1 : Int32)) hx hb dL_law_649 (by decide) ?_
  refine lv_iadd hx hb dL_law_650 ?_
  refine x_eqi (show (0 : Int32) + (1 : Int32) = (1 : Int32) from by decide +kernel) ?_
  refine va_sld hx hb hX hbl hbA X.2.2.1 (i := (1 : Int32)) (vp_in_nI (n := 1) (by omega) (by omega)) dL_law_651 ?_
  refine x_eqi (show xs ((1 : Int32).toNatClampNeg) = xs 1 from rfl) ?_
  refine lv_aload_n hx hb dL_law_652 rfl (lv_at hl 3 rfl) ?_
  refine lv_iload_n hx hb dL_law_653 rfl (lv_at hl 0 rfl) ?_
  refine lv_iconst (v := (2 : Int32)) hx hb dL_law_654 (by decide) ?_
  refine lv_iadd hx hb dL_law_655 ?_
  refine x_eqi (show (0 : Int32) + (2 : Int32) = (2 : Int32) from by decide +kernel) ?_
  refine va_sld hx hb hX hbl hbA X.2.2.1 (i := (2 : Int32)) (vp_in_nI (n := 2) (by omega) (by omega)) dL_law_656 ?_
  refine x_eqi (show xs ((2 : Int32).toNatClampNeg) = xs 2 from rfl) ?_
  refine lv_aload_n hx hb dL_law_657 rfl (lv_at hl 3 rfl) ?_
  refine lv_iload_n hx hb dL_law_658 rfl (lv_at hl 0 rfl) ?_
  refine lv_iconst (v := (3 : Int32)) hx hb dL_law_659 (by decide) ?_
  refine lv_iadd hx hb dL_law_660 ?_
  refine x_eqi (show (0 : Int32) + (3 : Int32) = (3 : Int32) from by decide +kernel) ?_
  refine va_sld hx hb hX hbl hbA X.2.2.1 (i := (3 : Int32)) (vp_in_nI (n := 3) (by omega) (by omega)) dL_law_661 ?_
  refine x_eqi (show xs ((3 : Int32).toNatClampNeg) = xs 3 from rfl) ?_
  refine lv_aload_n hx hb dL_law_662 rfl (lv_at hl 3 rfl) ?_
  refine lv_iload_n hx hb dL_law_663 rfl (lv_at hl 0 rfl) ?_
  refine lv_iconst (v := (4 : Int32)) hx hb dL_law_664 (by decide) ?_
  refine lv_iadd hx hb dL_law_665 ?_
  refine x_eqi (show (0 : Int32) + (4 : Int32) = (4 : Int32) from by decide +kernel) ?_
  refine va_sld hx hb hX hbl hbA X.2.2.1 (i := (4 : Int32)) (vp_in_nI (n := 4) (by omega) (by omega)) dL_law_666 ?_
  refine x_eqi (show xs ((4 : Int32).toNatClampNeg) = xs 4 from rfl) ?_
  refine x_cV (own := RL) (wr := [((v 0), .inr (12, (mF v))), ((v 1), .inl (cI, 4, .inl (fun _ => (0 : Int32))))]) (As := [.int (xs 1), .int (xs 2), .int (xs 3), .int (xs 4)]) C X hl.1 (cx_score l D cI cJ cZ cB cO u (xs 1) (xs 2) (xs 3) (xs 4)) [0, 1, 5] [98, 99] ⟨rfl, rfl, by decide, by decide, by decide⟩ (qb := 0) rfl rfl k_38_6 k_38_7 k_38_8 k_1_2 k_38_9 (n := 4) (by decide +kernel) ⟨Nat.le_of_ble_eq_true rfl, Nat.le_of_ble_eq_true rfl⟩ rfl rfl (Nat.le_of_ble_eq_true rfl) dL_law_667 ⟨Nat.le_of_ble_eq_true rfl, Nat.le_of_ble_eq_true rfl⟩ (fun r_2 u_1 H locs w_3 X => ?_)
  have X : Wd D (fun q : Nat => s.heap.size ≤ q) s [((v 0), .inr (12, (mF v))), ((v 1), .inl (cI, 4, .inl (fun _ => (0 : Int32))))] H locs := X
  refine W.widen (k := 150) (n := 141288) (Nat.le_of_ble_eq_true rfl) (Nat.le_of_ble_eq_true rfl) ?_
  obtain ⟨rfl, fw_3⟩ : r_2 = (-1 : Int32) ∧ True := w_3
  refine lv_aload_n hx hb dL_law_670 rfl (lv_at hl 1 rfl) ?_
  refine lv_aload_n hx hb dL_law_671 rfl (lv_at hl 3 rfl) ?_
  refine lv_iload_n hx hb dL_law_672 rfl (lv_at hl 0 rfl) ?_
  refine lv_iconst (v := (1 : Int32)) hx hb dL_law_673 (by decide) ?_
  refine lv_iadd hx hb dL_law_674 ?_
  refine x_eqi (show (0 : Int32) + (1 : Int32) = (1 : Int32) from by decide +kernel) ?_
  refine va_sld hx hb hX hbl hbA X.2.2.1 (i := (1 : Int32)) (vp_in_nI (n := 1) (by omega) (by omega)) dL_law_675 ?_
  refine x_eqi (show xs ((1 : Int32).toNatClampNeg) = xs 1 from rfl) ?_
  refine lv_aload_n hx hb dL_law_676 rfl (lv_at hl 3 rfl) ?_
  refine lv_iload_n hx hb dL_law_677 rfl (lv_at hl 0 rfl) ?_
  refine lv_iconst (v := (2 : Int32)) hx hb dL_law_678 (by decide) ?_
  refine lv_iadd hx hb dL_law_679 ?_
  refine x_eqi (show (0 : Int32) + (2 : Int32) = (2 : Int32) from by decide +kernel) ?_
  refine va_sld hx hb hX hbl hbA X.2.2.1 (i := (2 : Int32)) (vp_in_nI (n := 2) (by omega) (by omega)) dL_law_680 ?_
  refine x_eqi (show xs ((2 : Int32).toNatClampNeg) = xs 2 from rfl) ?_
  refine lv_aload_n hx hb dL_law_681 rfl (lv_at hl 3 rfl) ?_
  refine lv_iload_n hx hb dL_law_682 rfl (lv_at hl 0 rfl) ?_
  refine lv_iconst (v := (3 : Int32)) hx hb dL_law_683 (by decide) ?_
  refine lv_iadd hx hb dL_law_684 ?_
  refine x_eqi (show (0 : Int32) + (3 : Int32) = (3 : Int32) from by decide +kernel) ?_
  refine va_sld hx hb hX hbl hbA X.2.2.1 (i := (3 : Int32)) (vp_in_nI (n := 3) (by omega) (by omega)) dL_law_685 ?_
  refine x_eqi (show xs ((3 : Int32).toNatClampNeg) = xs 3 from rfl) ?_
  refine lv_aload_n hx hb dL_law_686 rfl (lv_at hl 3 rfl) ?_
  refine lv_iload_n hx hb dL_law_687 rfl (lv_at hl 0 rfl) ?_
  refine lv_iconst (v := (4 : Int32)) hx hb dL_law_688 (by decide) ?_
  refine lv_iadd hx hb dL_law_689 ?_
  refine x_eqi (show (0 : Int32) + (4 : Int32) = (4 : Int32) from by decide +kernel) ?_
  refine va_sld hx hb hX hbl hbA X.2.2.1 (i := (4 : Int32)) (vp_in_nI (n := 4) (by omega) (by omega)) dL_law_690 ?_
  refine x_eqi (show xs ((4 : Int32).toNatClampNeg) = xs 4 from rfl) ?_
  refine x_cV (own := RL) (wr := []) (As := [.int (xs 1), .int (xs 2), .int (xs 3), .int (xs 4)]) C X hl.1 (cm_score l D cI cJ cZ cB cO v (xs 1) (xs 2) (xs 3) (xs 4)) [0, 1] [] ⟨rfl, rfl, by decide, by decide, by decide⟩ (qb := 0) rfl rfl k_38_22 k_38_23 k_39_0 k_1_5 k_39_1 (n := 4) (by decide +kernel) ⟨Nat.le_of_ble_eq_true rfl, Nat.le_of_ble_eq_true rfl⟩ rfl rfl (Nat.le_of_ble_eq_true rfl) dL_law_691 ⟨Nat.le_of_ble_eq_true rfl, Nat.le_of_ble_eq_true rfl⟩ (fun r_5 u_4 H locs w_6 X => ?_)
  have X : Wd D (fun q : Nat => s.heap.size ≤ q) s [] H locs := X
  refine W.widen (k := 150) (n := 141288) (Nat.le_of_ble_eq_true rfl) (Nat.le_of_ble_eq_true rfl) ?_
  obtain ⟨rfl, fw_6⟩ : r_5 = (-1 : Int32) ∧ True := w_6
  refine lv_icmp_eq (tgt := 1721) hx hb dL_law_694 (by decide) (fun _ => ?_) (fun c0 => absurd (by decide) c0)
  exact law_tail K0 X hl (Nat.le_of_ble_eq_true rfl) (Nat.le_of_ble_eq_true rfl)
set_option maxHeartbeats 4000000 in
set_option maxRecDepth 100000 in
theorem law_c13 {p : Program} {e : Env} {s : State} {m : MethodId} {below : List Frame} {meth : Method} {c : Code} {l : Launch} {b : Nat} {xs : Nat → Int32} {D : va_G} {cI cJ cZ cB cO : ClassId} (K0 : LwC p s m meth c b xs D [(cI, .int), (cJ, .long), (cZ, .boolean), (cB, .byte), (cO, .object "LuckLinks$World")]) {u v : Nat → Nat} {H : Heap} {locs : List Loc} {ls : Array Slot} (X : Wd D (fun q : Nat => s.heap.size ≤ q) s (xW cI cJ cZ cB cO u ++ mW cI cJ cZ cB cO v) H locs) (hl : lv_has ls 4 [(3, .int (0 : Int32)), (2, .ref (v 0)), (1, .ref (u 0)), (0, .ref b)]) :
    W p l e room_1 s m #[Value.ref b] below meth c H locs 150 141288 (lw_Z below #[Value.ref b] s) (F0 m 699 ls []) := by
  have C := K0.1
  have hx := C.1
  have hb := C.2.1
  have hX := K0.2.2.2.1
  have hbl := K0.2.2.2.2
  have hbA : ¬ (fun q : Nat => s.heap.size ≤ q) b := Nat.not_le.mpr hbl
  refine lv_aload_n hx hb dL_law_699 rfl (lv_at hl 2 rfl) ?_
  refine lv_aload_n hx hb dL_law_700 rfl (lv_at hl 3 rfl) ?_
  refine lv_iload_n hx hb dL_law_701 rfl (lv_at hl 0 rfl) ?_
  refine lv_iconst (v := (1 : Int32)) hx hb dL_law_702 (by decide) ?_
  refine lv_iadd hx hb dL_law_703 ?_
  refine x_eqi (show (0 : Int32) + (1 : Int32) = (1 : Int32) from by decide +kernel) ?_
  refine va_sld hx hb hX hbl hbA X.2.2.1 (i := (1 : Int32)) (vp_in_nI (n := 1) (by omega) (by omega)) dL_law_704 ?_
  refine x_eqi (show xs ((1 : Int32).toNatClampNeg) = xs 1 from rfl) ?_
  refine lv_aload_n hx hb dL_law_705 rfl (lv_at hl 3 rfl) ?_
  refine lv_iload_n hx hb dL_law_706 rfl (lv_at hl 0 rfl) ?_
  refine lv_iconst (v := (2 : Int32)) hx hb dL_law_707 (by decide) ?_
  refine lv_iadd hx hb dL_law_708 ?_
  refine x_eqi (show (0 : Int32) + (2 : Int32) = (2 : Int32) from by decide +kernel) ?_
  refine va_sld hx hb hX hbl hbA X.2.2.1 (i := (2 : Int32)) (vp_in_nI (n := 2) (by omega) (by omega)) dL_law_709 ?_
  refine x_eqi (show xs ((2 : Int32).toNatClampNeg) = xs 2 from rfl) ?_
  refine x_cV (own := RL) (wr := [((v 0), .inr (12, (mF v))), ((v 1), .inl (cI, 4, .inl (fun _ => (0 : Int32))))]) (As := [.int (xs 1), .int (xs 2)]) C X hl.1 (cx_place l D cI cJ cZ cB cO u (xs 1) (xs 2)) [0, 1] [98, 99] ⟨rfl, rfl, by decide, by decide, by decide⟩ (qb := 0) rfl rfl k_39_5 k_39_6 k_39_7 k_1_2 k_39_8 (n := 2) (by decide +kernel) ⟨Nat.le_of_ble_eq_true rfl, Nat.le_of_ble_eq_true rfl⟩ rfl rfl (Nat.le_of_ble_eq_true rfl) dL_law_710 ⟨Nat.le_of_ble_eq_true rfl, Nat.le_of_ble_eq_true rfl⟩ (fun r_2 u_1 H locs w_3 X => ?_)
  have X : Wd D (fun q : Nat => s.heap.size ≤ q) s [((v 0), .inr (12, (mF v))), ((v 1), .inl (cI, 4, .inl (fun _ => (0 : Int32))))] H locs := X
  refine W.widen (k := 150) (n := 141288) (Nat.le_of_ble_eq_true rfl) (Nat.le_of_ble_eq_true rfl) ?_
  obtain ⟨rfl, fw_3⟩ : r_2 = (-1 : Int32) ∧ True := w_3
  refine lv_aload_n hx hb dL_law_713 rfl (lv_at hl 1 rfl) ?_
  refine lv_aload_n hx hb dL_law_714 rfl (lv_at hl 3 rfl) ?_
  refine lv_iload_n hx hb dL_law_715 rfl (lv_at hl 0 rfl) ?_
  refine lv_iconst (v := (1 : Int32)) hx hb dL_law_716 (by decide) ?_
  refine lv_iadd hx hb dL_law_717 ?_
  refine x_eqi (show (0 : Int32) + (1 : Int32) = (1 : Int32) from by decide +kernel) ?_
  refine va_sld hx hb hX hbl hbA X.2.2.1 (i := (1 : Int32)) (vp_in_nI (n := 1) (by omega) (by omega)) dL_law_718 ?_
  refine x_eqi (show xs ((1 : Int32).toNatClampNeg) = xs 1 from rfl) ?_
  refine lv_aload_n hx hb dL_law_719 rfl (lv_at hl 3 rfl) ?_
  refine lv_iload_n hx hb dL_law_720 rfl (lv_at hl 0 rfl) ?_
  refine lv_iconst (v := (2 : Int32)) hx hb dL_law_721 (by decide) ?_
  refine lv_iadd hx hb dL_law_722 ?_
  refine x_eqi (show (0 : Int32) + (2 : Int32) = (2 : Int32) from by decide +kernel) ?_
  refine va_sld hx hb hX hbl hbA X.2.2.1 (i := (2 : Int32)) (vp_in_nI (n := 2) (by omega) (by omega)) dL_law_723 ?_
  refine x_eqi (show xs ((2 : Int32).toNatClampNeg) = xs 2 from rfl) ?_
  refine x_cV (own := RL) (wr := []) (As := [.int (xs 1), .int (xs 2)]) C X hl.1 (cm_place l D cI cJ cZ cB cO v (xs 1) (xs 2)) [0, 1] [] ⟨rfl, rfl, by decide, by decide, by decide⟩ (qb := 0) rfl rfl k_40_4 k_40_5 k_40_6 k_1_5 k_40_7 (n := 2) (by decide +kernel) ⟨Nat.le_of_ble_eq_true rfl, Nat.le_of_ble_eq_true rfl⟩ rfl rfl (Nat.le_of_ble_eq_true rfl) dL_law_724 ⟨Nat.le_of_ble_eq_true rfl, Nat.le_of_ble_eq_true rfl⟩ (fun r_5 u_4 H locs w_6 X => ?_)
  have X : Wd D (fun q : Nat => s.heap.size ≤ q) s [] H locs := X
  refine W.widen (k := 150) (n := 141288) (Nat.le_of_ble_eq_true rfl) (Nat.le_of_ble_eq_true rfl) ?_
  obtain ⟨rfl, fw_6⟩ : r_5 = (-1 : Int32) ∧ True := w_6
  refine lv_icmp_eq (tgt := 1721) hx hb dL_law_727 (by decide) (fun _ => ?_) (fun c0 => absurd (by decide) c0)
  exact law_tail K0 X hl (Nat.le_of_ble_eq_true rfl) (Nat.le_of_ble_eq_true rfl)
set_option maxHeartbeats 4000000 in
set_option maxRecDepth 100000 in
theorem law_c14 {p : Program} {e : Env} {s : State} {m : MethodId} {below : List Frame} {meth : Method} {c : Code} {l : Launch} {b : Nat} {xs : Nat → Int32} {D : va_G} {cI cJ cZ cB cO : ClassId} (K0 : LwC p s m meth c b xs D [(cI, .int), (cJ, .long), (cZ, .boolean), (cB, .byte), (cO, .object "LuckLinks$World")]) {u v : Nat → Nat} {H : Heap} {locs : List Loc} {ls : Array Slot} (X : Wd D (fun q : Nat => s.heap.size ≤ q) s (xW cI cJ cZ cB cO u ++ mW cI cJ cZ cB cO v) H locs) (hl : lv_has ls 4 [(3, .int (0 : Int32)), (2, .ref (v 0)), (1, .ref (u 0)), (0, .ref b)]) :
    W p l e room_1 s m #[Value.ref b] below meth c H locs 150 141288 (lw_Z below #[Value.ref b] s) (F0 m 732 ls []) := by
  have C := K0.1
  have hx := C.1
  have hb := C.2.1
  have hX := K0.2.2.2.1
  have hbl := K0.2.2.2.2
  have hbA : ¬ (fun q : Nat => s.heap.size ≤ q) b := Nat.not_le.mpr hbl
  refine lv_aload_n hx hb dL_law_732 rfl (lv_at hl 2 rfl) ?_
  refine lv_aload_n hx hb dL_law_733 rfl (lv_at hl 3 rfl) ?_
  refine lv_iload_n hx hb dL_law_734 rfl (lv_at hl 0 rfl) ?_
  refine lv_iconst (v := (1 : Int32)) hx hb dL_law_735 (by decide) ?_
  refine lv_iadd hx hb dL_law_736 ?_
  refine x_eqi (show (0 : Int32) + (1 : Int32) = (1 : Int32) from by decide +kernel) ?_
  refine va_sld hx hb hX hbl hbA X.2.2.1 (i := (1 : Int32)) (vp_in_nI (n := 1) (by omega) (by omega)) dL_law_737 ?_
  refine x_eqi (show xs ((1 : Int32).toNatClampNeg) = xs 1 from rfl) ?_
  refine lv_aload_n hx hb dL_law_738 rfl (lv_at hl 3 rfl) ?_
  refine lv_iload_n hx hb dL_law_739 rfl (lv_at hl 0 rfl) ?_
  refine lv_iconst (v := (2 : Int32)) hx hb dL_law_740 (by decide) ?_
  refine lv_iadd hx hb dL_law_741 ?_
  refine x_eqi (show (0 : Int32) + (2 : Int32) = (2 : Int32) from by decide +kernel) ?_
  refine va_sld hx hb hX hbl hbA X.2.2.1 (i := (2 : Int32)) (vp_in_nI (n := 2) (by omega) (by omega)) dL_law_742 ?_
  refine x_eqi (show xs ((2 : Int32).toNatClampNeg) = xs 2 from rfl) ?_
  refine lv_aload_n hx hb dL_law_743 rfl (lv_at hl 3 rfl) ?_
  refine lv_iload_n hx hb dL_law_744 rfl (lv_at hl 0 rfl) ?_
  refine lv_iconst (v := (3 : Int32)) hx hb dL_law_745 (by decide) ?_
  refine lv_iadd hx hb dL_law_746 ?_
  refine x_eqi (show (0 : Int32) + (3 : Int32) = (3 : Int32) from by decide +kernel) ?_
  refine va_sld hx hb hX hbl hbA X.2.2.1 (i := (3 : Int32)) (vp_in_nI (n := 3) (by omega) (by omega)) dL_law_747 ?_
  refine x_eqi (show xs ((3 : Int32).toNatClampNeg) = xs 3 from rfl) ?_
  refine lv_aload_n hx hb dL_law_748 rfl (lv_at hl 3 rfl) ?_
  refine lv_iload_n hx hb dL_law_749 rfl (lv_at hl 0 rfl) ?_
  refine lv_iconst (v := (4 : Int32)) hx hb dL_law_750 (by decide) ?_
  refine lv_iadd hx hb dL_law_751 ?_
  refine x_eqi (show (0 : Int32) + (4 : Int32) = (4 : Int32) from by decide +kernel) ?_
  refine va_sld hx hb hX hbl hbA X.2.2.1 (i := (4 : Int32)) (vp_in_nI (n := 4) (by omega) (by omega)) dL_law_752 ?_
  refine x_eqi (show xs ((4 : Int32).toNatClampNeg) = xs 4 from rfl) ?_
  refine x_cV (own := RL) (wr := [((v 0), .inr (12, (mF v))), ((v 1), .inl (cI, 4, .inl (fun _ => (0 : Int32))))]) (As := [.int (xs 1), .int (xs 2), .int (xs 3), .int (xs 4)]) C X hl.1 (cx_won l D cI cJ cZ cB cO u (xs 1) (xs 2) (xs 3) (xs 4)) [0, 1] [98, 99] ⟨rfl, rfl, by decide, by decide, by decide⟩ (qb := 0) rfl rfl k_40_22 k_40_23 k_41_0 k_1_2 k_41_1 (n := 4) (by decide +kernel) ⟨Nat.le_of_ble_eq_true rfl, Nat.le_of_ble_eq_true rfl⟩ rfl rfl (Nat.le_of_ble_eq_true rfl) dL_law_753 ⟨Nat.le_of_ble_eq_true rfl, Nat.le_of_ble_eq_true rfl⟩ (fun r_2 u_1 H locs w_3 X => ?_)
  have X : Wd D (fun q : Nat => s.heap.size ≤ q) s [((v 0), .inr (12, (mF v))), ((v 1), .inl (cI, 4, .inl (fun _ => (0 : Int32))))] H locs := X
  refine W.widen (k := 150) (n := 141288) (Nat.le_of_ble_eq_true rfl) (Nat.le_of_ble_eq_true rfl) ?_
  obtain ⟨rfl, fw_3⟩ : r_2 = (-1 : Int32) ∧ True := w_3
  refine lv_aload_n hx hb dL_law_756 rfl (lv_at hl 1 rfl) ?_
  refine lv_aload_n hx hb dL_law_757 rfl (lv_at hl 3 rfl) ?_
  refine lv_iload_n hx hb dL_law_758 rfl (lv_at hl 0 rfl) ?_
  refine lv_iconst (v := (1 : Int32)) hx hb dL_law_759 (by decide) ?_
  refine lv_iadd hx hb dL_law_760 ?_
  refine x_eqi (show (0 : Int32) + (1 : Int32) = (1 : Int32) from by decide +kernel) ?_
  refine va_sld hx hb hX hbl hbA X.2.2.1 (i := (1 : Int32)) (vp_in_nI (n := 1) (by omega) (by omega)) dL_law_761 ?_
  refine x_eqi (show xs ((1 : Int32).toNatClampNeg) = xs 1 from rfl) ?_
  refine lv_aload_n hx hb dL_law_762 rfl (lv_at hl 3 rfl) ?_
  refine lv_iload_n hx hb dL_law_763 rfl (lv_at hl 0 rfl) ?_
  refine lv_iconst (v := (2 : Int32)) hx hb dL_law_764 (by decide) ?_
  refine lv_iadd hx hb dL_law_765 ?_
  refine x_eqi (show (0 : Int32) + (2 : Int32) = (2 : Int32) from by decide +kernel) ?_
  refine va_sld hx hb hX hbl hbA X.2.2.1 (i := (2 : Int32)) (vp_in_nI (n := 2) (by omega) (by omega)) dL_law_766 ?_
  refine x_eqi (show xs ((2 : Int32).toNatClampNeg) = xs 2 from rfl) ?_
  refine lv_aload_n hx hb dL_law_767 rfl (lv_at hl 3 rfl) ?_
  refine lv_iload_n hx hb dL_law_768 rfl (lv_at hl 0 rfl) ?_
  refine lv_iconst (v := (3 : Int32)) hx hb dL_law_769 (by decide) ?_
  refine lv_iadd hx hb dL_law_770 ?_
  refine x_eqi (show (0 : Int32) + (3 : Int32) = (3 : Int32) from by decide +kernel) ?_
  refine va_sld hx hb hX hbl hbA X.2.2.1 (i := (3 : Int32)) (vp_in_nI (n := 3) (by omega) (by omega)) dL_law_771 ?_
  refine x_eqi (show xs ((3 : Int32).toNatClampNeg) = xs 3 from rfl) ?_
  refine lv_aload_n hx hb dL_law_772 rfl (lv_at hl 3 rfl) ?_
  refine lv_iload_n hx hb dL_law_773 rfl (lv_at hl 0 rfl) ?_
  refine lv_iconst (v := (4 : Int32)) hx hb dL_law_774 (by decide) ?_
  refine lv_iadd hx hb dL_law_775 ?_
  refine x_eqi (show (0 : Int32) + (4 : Int32) = (4 : Int32) from by decide +kernel) ?_
  refine va_sld hx hb hX hbl hbA X.2.2.1 (i := (4 : Int32)) (vp_in_nI (n := 4) (by omega) (by omega)) dL_law_776 ?_
  refine x_eqi (show xs ((4 : Int32).toNatClampNeg) = xs 4 from rfl) ?_
  refine x_cV (own := RL) (wr := []) (As := [.int (xs 1), .int (xs 2), .int (xs 3), .int (xs 4)]) C X hl.1 (cm_won l D cI cJ cZ cB cO v (xs 1) (xs 2) (xs 3) (xs 4)) [0, 1] [] ⟨rfl, rfl, by decide, by decide, by decide⟩ (qb := 0) rfl rfl k_41_21 k_41_22 k_41_23 k_1_5 k_42_0 (n := 4) (by decide +kernel) ⟨Nat.le_of_ble_eq_true rfl, Nat.le_of_ble_eq_true rfl⟩ rfl rfl (Nat.le_of_ble_eq_true rfl) dL_law_777 ⟨Nat.le_of_ble_eq_true rfl, Nat.le_of_ble_eq_true rfl⟩ (fun r_5 u_4 H locs w_6 X => ?_)
  have X : Wd D (fun q : Nat => s.heap.size ≤ q) s [] H locs := X
  refine W.widen (k := 150) (n := 141288) (Nat.le_of_ble_eq_true rfl) (Nat.le_of_ble_eq_true rfl) ?_
  obtain ⟨rfl, fw_6⟩ : r_5 = (-1 : Int32) ∧ True := w_6
  refine lv_icmp_eq (tgt := 1721) hx hb dL_law_780 (by decide) (fun _ => ?_) (fun c0 => absurd (by decide) c0)
  exact law_tail K0 X hl (Nat.le_of_ble_eq_true rfl) (Nat.le_of_ble_eq_true rfl)
set_option maxHeartbeats 4000000 in
set_option maxRecDepth 100000 in
theorem law_c15 {p : Program} {e : Env} {s : State} {m : MethodId} {below : List Frame} {meth : Method} {c : Code} {l : Launch} {b : Nat} {xs : Nat → Int32} {D : va_G} {cI cJ cZ cB cO : ClassId} (K0 : LwC p s m meth c b xs D [(cI, .int), (cJ, .long), (cZ, .boolean), (cB, .byte), (cO, .object "LuckLinks$World")]) {u v : Nat → Nat} {H : Heap} {locs : List Loc} {ls : Array Slot} (X : Wd D (fun q : Nat => s.heap.size ≤ q) s (xW cI cJ cZ cB cO u ++ mW cI cJ cZ cB cO v) H locs) (hl : lv_has ls 4 [(3, .int (0 : Int32)), (2, .ref (v 0)), (1, .ref (u 0)), (0, .ref b)]) :
    W p l e room_1 s m #[Value.ref b] below meth c H locs 150 141288 (lw_Z below #[Value.ref b] s) (F0 m 785 ls []) := by
  have C := K0.1
  have hx := C.1
  have hb := C.2.1
  have hX := K0.2.2.2.1
  have hbl := K0.2.2.2.2
  have hbA : ¬ (fun q : Nat => s.heap.size ≤ q) b := Nat.not_le.mpr hbl
  refine lv_aload_n hx hb dL_law_785 rfl (lv_at hl 2 rfl) ?_
  refine lv_aload_n hx hb dL_law_786 rfl (lv_at hl 3 rfl) ?_
  refine lv_iload_n hx hb dL_law_787 rfl (lv_at hl 0 rfl) ?_
  refine lv_iconst (v := (1 : Int32)) hx hb dL_law_788 (by decide) ?_
  refine lv_iadd hx hb dL_law_789 ?_
  refine x_eqi (show (0 : Int32) + (1 : Int32) = (1 : Int32) from by decide +kernel) ?_
  refine va_sld hx hb hX hbl hbA X.2.2.1 (i := (1 : Int32)) (vp_in_nI (n := 1) (by omega) (by omega)) dL_law_790 ?_
  refine x_eqi (show xs ((1 : Int32).toNatClampNeg) = xs 1 from rfl) ?_
  refine lv_aload_n hx hb dL_law_791 rfl (lv_at hl 3 rfl) ?_
  refine lv_iload_n hx hb dL_law_792 rfl (lv_at hl 0 rfl) ?_
  refine lv_iconst (v := (2 : Int32)) hx hb dL_law_793 (by decide) ?_
  refine lv_iadd hx hb dL_law_794 ?_
  refine x_eqi (show (0 : Int32) + (2 : Int32) = (2 : Int32) from by decide +kernel) ?_
  refine va_sld hx hb hX hbl hbA X.2.2.1 (i := (2 : Int32)) (vp_in_nI (n := 2) (by omega) (by omega)) dL_law_795 ?_
  refine x_eqi (show xs ((2 : Int32).toNatClampNeg) = xs 2 from rfl) ?_
  refine lv_aload_n hx hb dL_law_796 rfl (lv_at hl 3 rfl) ?_
  refine lv_iload_n hx hb dL_law_797 rfl (lv_at hl 0 rfl) ?_
  refine lv_iconst (v := (3 : Int32)) hx hb dL_law_798 (by decide) ?_
  refine lv_iadd hx hb dL_law_799 ?_
  refine x_eqi (show (0 : Int32) + (3 : Int32) = (3 : Int32) from by decide +kernel) ?_
  refine va_sld hx hb hX hbl hbA X.2.2.1 (i := (3 : Int32)) (vp_in_nI (n := 3) (by omega) (by omega)) dL_law_800 ?_
  refine x_eqi (show xs ((3 : Int32).toNatClampNeg) = xs 3 from rfl) ?_
  refine x_cV (own := RL) (wr := [((v 0), .inr (12, (mF v))), ((v 19), .inl (cI, 6, .inl (fun _ => (0 : Int32))))]) (As := [.int (xs 1), .int (xs 2), .int (xs 3)]) C X hl.1 (cx_cut l D cI cJ cZ cB cO u (xs 1) (xs 2) (xs 3)) [0, 34, 37] [98, 117] ⟨rfl, rfl, by decide, by decide, by decide⟩ (qb := 0) rfl rfl k_42_8 k_42_9 k_42_10 k_1_2 k_42_11 (n := 3) (by decide +kernel) ⟨Nat.le_of_ble_eq_true rfl, Nat.le_of_ble_eq_true rfl⟩ rfl rfl (Nat.le_of_ble_eq_true rfl) dL_law_801 ⟨Nat.le_of_ble_eq_true rfl, Nat.le_of_ble_eq_true rfl⟩ (fun r_2 u_1 H locs w_3 X => ?_)
  have X : Wd D (fun q : Nat => s.heap.size ≤ q) s [((v 0), .inr (12, (mF v))), ((v 19), .inl (cI, 6, .inl (fun _ => (0 : Int32))))] H locs := X
  refine W.widen (k := 150) (n := 141288) (Nat.le_of_ble_eq_true rfl) (Nat.le_of_ble_eq_true rfl) ?_
  obtain ⟨rfl, fw_3⟩ : r_2 = (-1 : Int32) ∧ True := w_3
  refine lv_aload_n hx hb dL_law_804 rfl (lv_at hl 1 rfl) ?_
  refine lv_aload_n hx hb dL_law_805 rfl (lv_at hl 3 rfl) ?_
  refine lv_iload_n hx hb dL_law_806 rfl (lv_at hl 0 rfl) ?_
  refine lv_iconst (v := (1 : Int32)) hx hb dL_law_807 (by decide) ?_
  refine lv_iadd hx hb dL_law_808 ?_
  refine x_eqi (show (0 : Int32) + (1 : Int32) = (1 : Int32) from by decide +kernel) ?_
  refine va_sld hx hb hX hbl hbA X.2.2.1 (i := (1 : Int32)) (vp_in_nI (n := 1) (by omega) (by omega)) dL_law_809 ?_
  refine x_eqi (show xs ((1 : Int32).toNatClampNeg) = xs 1 from rfl) ?_
  refine lv_aload_n hx hb dL_law_810 rfl (lv_at hl 3 rfl) ?_
  refine lv_iload_n hx hb dL_law_811 rfl (lv_at hl 0 rfl) ?_
  refine lv_iconst (v := (2 : Int32)) hx hb dL_law_812 (by decide) ?_
  refine lv_iadd hx hb dL_law_813 ?_
  refine x_eqi (show (0 : Int32) + (2 : Int32) = (2 : Int32) from by decide +kernel) ?_
  refine va_sld hx hb hX hbl hbA X.2.2.1 (i := (2 : Int32)) (vp_in_nI (n := 2) (by omega) (by omega)) dL_law_814 ?_
  refine x_eqi (show xs ((2 : Int32).toNatClampNeg) = xs 2 from rfl) ?_
  refine lv_aload_n hx hb dL_law_815 rfl (lv_at hl 3 rfl) ?_
  refine lv_iload_n hx hb dL_law_816 rfl (lv_at hl 0 rfl) ?_
  refine lv_iconst (v := (3 : Int32)) hx hb dL_law_817 (by decide) ?_
  refine lv_iadd hx hb dL_law_818 ?_
  refine x_eqi (show (0 : Int32) + (3 : Int32) = (3 : Int32) from by decide +kernel) ?_
  refine va_sld hx hb hX hbl hbA X.2.2.1 (i := (3 : Int32)) (vp_in_nI (n := 3) (by omega) (by omega)) dL_law_819 ?_
  refine x_eqi (show xs ((3 : Int32).toNatClampNeg) = xs 3 from rfl) ?_
  refine x_cV (own := RL) (wr := []) (As := [.int (xs 1), .int (xs 2), .int (xs 3)]) C X hl.1 (cm_cut l D cI cJ cZ cB cO v (xs 1) (xs 2) (xs 3)) [0, 1] [] ⟨rfl, rfl, by decide, by decide, by decide⟩ (qb := 0) rfl rfl k_42_16 k_42_17 k_42_18 k_1_5 k_42_19 (n := 3) (by decide +kernel) ⟨Nat.le_of_ble_eq_true rfl, Nat.le_of_ble_eq_true rfl⟩ rfl rfl (Nat.le_of_ble_eq_true rfl) dL_law_820 ⟨Nat.le_of_ble_eq_true rfl, Nat.le_of_ble_eq_true rfl⟩ (fun r_5 u_4 H locs w_6 X => ?_)
  have X : Wd D (fun q : Nat => s.heap.size ≤ q) s [] H locs := X
  refine W.widen (k := 150) (n := 141288) (Nat.le_of_ble_eq_true rfl) (Nat.le_of_ble_eq_true rfl) ?_
  obtain ⟨rfl, fw_6⟩ : r_5 = (-1 : Int32) ∧ True := w_6
  refine lv_icmp_eq (tgt := 1721) hx hb dL_law_823 (by decide) (fun _ => ?_) (fun c0 => absurd (by decide) c0)
  exact law_tail K0 X hl (Nat.le_of_ble_eq_true rfl) (Nat.le_of_ble_eq_true rfl)
set_option maxHeartbeats 4000000 in
set_option maxRecDepth 100000 in
theorem law_c16 {p : Program} {e : Env} {s : State} {m : MethodId} {below : List Frame} {meth : Method} {c : Code} {l : Launch} {b : Nat} {xs : Nat → Int32} {D : va_G} {cI cJ cZ cB cO : ClassId} (K0 : LwC p s m meth c b xs D [(cI, .int), (cJ, .long), (cZ, .boolean), (cB, .byte), (cO, .object "LuckLinks$World")]) {u v : Nat → Nat} {H : Heap} {locs : List Loc} {ls : Array Slot} (X : Wd D (fun q : Nat => s.heap.size ≤ q) s (xW cI cJ cZ cB cO u ++ mW cI cJ cZ cB cO v) H locs) (hl : lv_has ls 4 [(3, .int (0 : Int32)), (2, .ref (v 0)), (1, .ref (u 0)), (0, .ref b)]) :
    W p l e room_1 s m #[Value.ref b] below meth c H locs 150 141288 (lw_Z below #[Value.ref b] s) (F0 m 828 ls []) := by
  have C := K0.1
  have hx := C.1
  have hb := C.2.1
  have hX := K0.2.2.2.1
  have hbl := K0.2.2.2.2
  have hbA : ¬ (fun q : Nat => s.heap.size ≤ q) b := Nat.not_le.mpr hbl
  refine lv_aload_n hx hb dL_law_828 rfl (lv_at hl 2 rfl) ?_
  refine lv_aload_n hx hb dL_law_829 rfl (lv_at hl 3 rfl) ?_
  refine lv_iload_n hx hb dL_law_830 rfl (lv_at hl 0 rfl) ?_
  refine lv_iconst (v := (1 : Int32)) hx hb dL_law_831 (by decide) ?_
  refine lv_iadd hx hb dL_law_832 ?_
  refine x_eqi (show (0 : Int32) + (1 : Int32) = (1 : Int32) from by decide +kernel) ?_
  refine va_sld hx hb hX hbl hbA X.2.2.1 (i := (1 : Int32)) (vp_in_nI (n := 1) (by omega) (by omega)) dL_law_833 ?_
  refine x_eqi (show xs ((1 : Int32).toNatClampNeg) = xs 1 from rfl) ?_
  refine lv_aload_n hx hb dL_law_834 rfl (lv_at hl 3 rfl) ?_
  refine lv_iload_n hx hb dL_law_835 rfl (lv_at hl 0 rfl) ?_
  refine lv_iconst (v := (2 : Int32)) hx hb dL_law_836 (by decide) ?_
  refine lv_iadd hx hb dL_law_837 ?_
  refine x_eqi (show (0 : Int32) + (2 : Int32) = (2 : Int32) from by decide +kernel) ?_
  refine va_sld hx hb hX hbl hbA X.2.2.1 (i := (2 : Int32)) (vp_in_nI (n := 2) (by omega) (by omega)) dL_law_838 ?_
  refine x_eqi (show xs ((2 : Int32).toNatClampNeg) = xs 2 from rfl) ?_
  refine lv_aload_n hx hb dL_law_839 rfl (lv_at hl 3 rfl) ?_
  refine lv_iload_n hx hb dL_law_840 rfl (lv_at hl 0 rfl) ?_
  refine lv_iconst (v := (3 : Int32)) hx hb dL_law_841 (by decide) ?_
  refine lv_iadd hx hb dL_law_842 ?_
  refine x_eqi (show (0 : Int32) + (3 : Int32) = (3 : Int32) from by decide +kernel) ?_
  refine va_sld hx hb hX hbl hbA X.2.2.1 (i := (3 : Int32)) (vp_in_nI (n := 3) (by omega) (by omega)) dL_law_843 ?_
  refine x_eqi (show xs ((3 : Int32).toNatClampNeg) = xs 3 from rfl) ?_
  refine lv_aload_n hx hb dL_law_844 rfl (lv_at hl 3 rfl) ?_
  refine lv_iload_n hx hb dL_law_845 rfl (lv_at hl 0 rfl) ?_
  refine lv_iconst (v := (4 : Int32)) hx hb dL_law_846 (by decide) ?_
  refine lv_iadd hx hb dL_law_847 ?_
  refine x_eqi (show (0 : Int32) + (4 : Int32) = (4 : Int32) from by decide +kernel) ?_
  refine va_sld hx hb hX hbl hbA X.2.2.1 (i := (4 : Int32)) (vp_in_nI (n := 4) (by omega) (by omega)) dL_law_848 ?_
  refine x_eqi (show xs ((4 : Int32).toNatClampNeg) = xs 4 from rfl) ?_
  refine x_cVl (own := RL) (wr := [((v 0), .inr (12, (mF v))), ((v 1), .inl (cI, 4, .inl (fun _ => (0 : Int32))))]) (As := [.int (xs 1), .int (xs 2), .int (xs 3), .int (xs 4)]) C X hl.1 (cx_luck l D cI cJ cZ cB cO u (xs 1) (xs 2) (xs 3) (xs 4)) [0, 97, 1, 7, 67] [98, 99] ⟨rfl, rfl, by decide, by decide, by decide⟩ (qb := 0) rfl rfl k_43_0 k_43_1 k_43_2 k_1_2 k_43_3 (n := 4) (by decide +kernel) ⟨Nat.le_of_ble_eq_true rfl, Nat.le_of_ble_eq_true rfl⟩ rfl rfl (Nat.le_of_ble_eq_true rfl) dL_law_849 ⟨Nat.le_of_ble_eq_true rfl, Nat.le_of_ble_eq_true rfl⟩ (fun r_2 u_1 H locs w_3 X => ?_)
  have X : Wd D (fun q : Nat => s.heap.size ≤ q) s [((v 0), .inr (12, (mF v))), ((v 1), .inl (cI, 4, .inl (fun _ => (0 : Int32))))] H locs := X
  refine W.widen (k := 150) (n := 141288) (Nat.le_of_ble_eq_true rfl) (Nat.le_of_ble_eq_true rfl) ?_
  obtain ⟨rfl, fw_3⟩ : r_2 = (-1 : Int64) ∧ True := w_3
  refine lv_aload_n hx hb dL_law_852 rfl (lv_at hl 1 rfl) ?_
  refine lv_aload_n hx hb dL_law_853 rfl (lv_at hl 3 rfl) ?_
  refine lv_iload_n hx hb dL_law_854 rfl (lv_at hl 0 rfl) ?_
  refine lv_iconst (v := (1 : Int32)) hx hb dL_law_855 (by decide) ?_
  refine lv_iadd hx hb dL_law_856 ?_
  refine x_eqi (show (0 : Int32) + (1 : Int32) = (1 : Int32) from by decide +kernel) ?_
  refine va_sld hx hb hX hbl hbA X.2.2.1 (i := (1 : Int32)) (vp_in_nI (n := 1) (by omega) (by omega)) dL_law_857 ?_
  refine x_eqi (show xs ((1 : Int32).toNatClampNeg) = xs 1 from rfl) ?_
  refine lv_aload_n hx hb dL_law_858 rfl (lv_at hl 3 rfl) ?_
  refine lv_iload_n hx hb dL_law_859 rfl (lv_at hl 0 rfl) ?_
  refine lv_iconst (v := (2 : Int32)) hx hb dL_law_860 (by decide) ?_
  refine lv_iadd hx hb dL_law_861 ?_
  refine x_eqi (show (0 : Int32) + (2 : Int32) = (2 : Int32) from by decide +kernel) ?_
  refine va_sld hx hb hX hbl hbA X.2.2.1 (i := (2 : Int32)) (vp_in_nI (n := 2) (by omega) (by omega)) dL_law_862 ?_
  refine x_eqi (show xs ((2 : Int32).toNatClampNeg) = xs 2 from rfl) ?_
  refine lv_aload_n hx hb dL_law_863 rfl (lv_at hl 3 rfl) ?_
  refine lv_iload_n hx hb dL_law_864 rfl (lv_at hl 0 rfl) ?_
  refine lv_iconst (v := (3 : Int32)) hx hb dL_law_865 (by decide) ?_
  refine lv_iadd hx hb dL_law_866 ?_
  refine x_eqi (show (0 : Int32) + (3 : Int32) = (3 : Int32) from by decide +kernel) ?_
  refine va_sld hx hb hX hbl hbA X.2.2.1 (i := (3 : Int32)) (vp_in_nI (n := 3) (by omega) (by omega)) dL_law_867 ?_
  refine x_eqi (show xs ((3 : Int32).toNatClampNeg) = xs 3 from rfl) ?_
  refine lv_aload_n hx hb dL_law_868 rfl (lv_at hl 3 rfl) ?_
  refine lv_iload_n hx hb dL_law_869 rfl (lv_at hl 0 rfl) ?_
  refine lv_iconst (v := (4 : Int32)) hx hb dL_law_870 (by decide) ?_
  refine lv_iadd hx hb dL_law_871 ?_
  refine x_eqi (show (0 : Int32) + (4 : Int32) = (4 : Int32) from by decide +kernel) ?_
  refine va_sld hx hb hX hbl hbA X.2.2.1 (i := (4 : Int32)) (vp_in_nI (n := 4) (by omega) (by omega)) dL_law_872 ?_
  refine x_eqi (show xs ((4 : Int32).toNatClampNeg) = xs 4 from rfl) ?_
  refine x_cVl (own := RL) (wr := []) (As := [.int (xs 1), .int (xs 2), .int (xs 3), .int (xs 4)]) C X hl.1 (cm_luck l D cI cJ cZ cB cO v (xs 1) (xs 2) (xs 3) (xs 4)) [0, 1] [] ⟨rfl, rfl, by decide, by decide, by decide⟩ (qb := 0) rfl rfl k_45_1 k_45_2 k_45_3 k_1_5 k_45_4 (n := 4) (by decide +kernel) ⟨Nat.le_of_ble_eq_true rfl, Nat.le_of_ble_eq_true rfl⟩ rfl rfl (Nat.le_of_ble_eq_true rfl) dL_law_873 ⟨Nat.le_of_ble_eq_true rfl, Nat.le_of_ble_eq_true rfl⟩ (fun r_5 u_4 H locs w_6 X => ?_)
  have X : Wd D (fun q : Nat => s.heap.size ≤ q) s [] H locs := X
  refine W.widen (k := 150) (n := 141288) (Nat.le_of_ble_eq_true rfl) (Nat.le_of_ble_eq_true rfl) ?_
  obtain ⟨rfl, fw_6⟩ : r_5 = (-1 : Int64) ∧ True := w_6
  refine W.lcmp hx hb dL_law_876 ?_
  refine x_eqi (show lg_cmp (-1 : Int64) (-1 : Int64) = (0 : Int32) from by decide) ?_
  refine lv_if_eq (tgt := 1721) hx hb dL_law_877 (by decide) (fun _ => ?_) (fun c0 => absurd (by decide) c0)
  exact law_tail K0 X hl (Nat.le_of_ble_eq_true rfl) (Nat.le_of_ble_eq_true rfl)
set_option maxHeartbeats 4000000 in
set_option maxRecDepth 100000 in
theorem law_c17 {p : Program} {e : Env} {s : State} {m : MethodId} {below : List Frame} {meth : Method} {c : Code} {l : Launch} {b : Nat} {xs : Nat → Int32} {D : va_G} {cI cJ cZ cB cO : ClassId} (K0 : LwC p s m meth c b xs D [(cI, .int), (cJ, .long), (cZ, .boolean), (cB, .byte), (cO, .object "LuckLinks$World")]) {u v : Nat → Nat} {H : Heap} {locs : List Loc} {ls : Array Slot} (X : Wd D (fun q : Nat => s.heap.size ≤ q) s (xW cI cJ cZ cB cO u ++ mW cI cJ cZ cB cO v) H locs) (hl : lv_has ls 4 [(3, .int (0 : Int32)), (2, .ref (v 0)), (1, .ref (u 0)), (0, .ref b)]) :
    W p l e room_1 s m #[Value.ref b] below meth c H locs 150 141288 (lw_Z below #[Value.ref b] s) (F0 m 882 ls []) := by
  have C := K0.1
  have hx := C.1
  have hb := C.2.1
  have hX := K0.2.2.2.1
  have hbl := K0.2.2.2.2
  have hbA : ¬ (fun q : Nat => s.heap.size ≤ q) b := Nat.not_le.mpr hbl
  refine lv_aload_n hx hb dL_law_882 rfl (lv_at hl 2 rfl) ?_
  refine lv_aload_n hx hb dL_law_883 rfl (lv_at hl 3 rfl) ?_
  refine lv_iload_n hx hb dL_law_884 rfl (lv_at hl 0 rfl) ?_
  refine lv_iconst (v := (1 : Int32)) hx hb dL_law_885 (by decide) ?_
  refine lv_iadd hx hb dL_law_886 ?_
  refine x_eqi (show (0 : Int32) + (1 : Int32) = (1 : Int32) from by decide +kernel) ?_
  refine va_sld hx hb hX hbl hbA X.2.2.1 (i := (1 : Int32)) (vp_in_nI (n := 1) (by omega) (by omega)) dL_law_887 ?_
  refine x_eqi (show xs ((1 : Int32).toNatClampNeg) = xs 1 from rfl) ?_
  refine lv_aload_n hx hb dL_law_888 rfl (lv_at hl 3 rfl) ?_
  refine lv_iload_n hx hb dL_law_889 rfl (lv_at hl 0 rfl) ?_
  refine lv_iconst (v := (2 : Int32)) hx hb dL_law_890 (by decide) ?_
  refine lv_iadd hx hb dL_law_891 ?_
  refine x_eqi (show (0 : Int32) + (2 : Int32) = (2 : Int32) from by decide +kernel) ?_
  refine va_sld hx hb hX hbl hbA X.2.2.1 (i := (2 : Int32)) (vp_in_nI (n := 2) (by omega) (by omega)) dL_law_892 ?_
  refine x_eqi (show xs ((2 : Int32).toNatClampNeg) = xs 2 from rfl) ?_
  refine lv_aload_n hx hb dL_law_893 rfl (lv_at hl 3 rfl) ?_
  refine lv_iload_n hx hb dL_law_894 rfl (lv_at hl 0 rfl) ?_
  refine lv_iconst (v := (3 : Int32)) hx hb dL_law_895 (by decide) ?_
  refine lv_iadd hx hb dL_law_896 ?_
  refine x_eqi (show (0 : Int32) + (3 : Int32) = (3 : Int32) from by decide +kernel) ?_
  refine va_sld hx hb hX hbl hbA X.2.2.1 (i := (3 : Int32)) (vp_in_nI (n := 3) (by omega) (by omega)) dL_law_897 ?_
  refine x_eqi (show xs ((3 : Int32).toNatClampNeg) = xs 3 from rfl) ?_
  refine lv_aload_n hx hb dL_law_898 rfl (lv_at hl 3 rfl) ?_
  refine lv_iload_n hx hb dL_law_899 rfl (lv_at hl 0 rfl) ?_
  refine lv_iconst (v := (4 : Int32)) hx hb dL_law_900 (by decide) ?_
  refine lv_iadd hx hb dL_law_901 ?_
  refine x_eqi (show (0 : Int32) + (4 : Int32) = (4 : Int32) from by decide +kernel) ?_
  refine va_sld hx hb hX hbl hbA X.2.2.1 (i := (4 : Int32)) (vp_in_nI (n := 4) (by omega) (by omega)) dL_law_902 ?_
  refine x_eqi (show xs ((4 : Int32).toNatClampNeg) = xs 4 from rfl) ?_
  refine lv_aload_n hx hb dL_law_903 rfl (lv_at hl 3 rfl) ?_
  refine lv_iload_n hx hb dL_law_904 rfl (lv_at hl 0 rfl) ?_
  refine lv_iconst (v := (5 : Int32)) hx hb dL_law_905 (by decide) ?_
  refine lv_iadd hx hb dL_law_906 ?_
  refine x_eqi (show (0 : Int32) + (5 : Int32) = (5 : Int32) from by decide +kernel) ?_
  refine va_sld hx hb hX hbl hbA X.2.2.1 (i := (5 : Int32)) (vp_in_nI (n := 5) (by omega) (by omega)) dL_law_907 ?_
  refine x_eqi (show xs ((5 : Int32).toNatClampNeg) = xs 5 from rfl) ?_
  refine x_cV (own := RL) (wr := [((v 0), .inr (12, (mF v))), ((v 1), .inl (cI, 4, .inl (fun _ => (0 : Int32))))]) (As := [.int (xs 1), .int (xs 2), .int (xs 3), .int (xs 4), .int (xs 5)]) C X hl.1 (cx_back l D cI cJ cZ cB cO u (xs 1) (xs 2) (xs 3) (xs 4) (xs 5)) [0, 76, 77, 1] [98, 99] ⟨rfl, rfl, by decide, by decide, by decide⟩ (qb := 0) rfl rfl k_45_14 k_45_15 k_45_16 k_1_2 k_45_17 (n := 5) (by decide +kernel) ⟨Nat.le_of_ble_eq_true rfl, Nat.le_of_ble_eq_true rfl⟩ rfl rfl (Nat.le_of_ble_eq_true rfl) dL_law_908 ⟨Nat.le_of_ble_eq_true rfl, Nat.le_of_ble_eq_true rfl⟩ (fun r_2 u_1 H locs w_3 X => ?_)
  have X : Wd D (fun q : Nat => s.heap.size ≤ q) s [((v 0), .inr (12, (mF v))), ((v 1), .inl (cI, 4, .inl (fun _ => (0 : Int32))))] H locs := X
  refine W.widen (k := 150) (n := 141288) (Nat.le_of_ble_eq_true rfl) (Nat.le_of_ble_eq_true rfl) ?_
  obtain ⟨rfl, fw_3⟩ | ⟨rfl, fw_3⟩ : (r_2 = (0 : Int32) ∧ (0 ≤ (xs 1).toInt ∧ (xs 1).toInt ≤ 2 ∧ 1 ≤ (xs 2).toInt ∧ (xs 2).toInt ≤ 20 ∧ 0 ≤ (xs 3).toInt ∧ (xs 3).toInt ≤ (xs 4).toInt ∧ (xs 4).toInt ≤ 39 ∧ 0 ≤ (xs 5).toInt ∧ (xs 5).toInt ≤ 2)) ∨ (r_2 = (-1000000000 : Int32) ∧ ((xs 1).toInt < 0 ∨ 2 < (xs 1).toInt ∨ (xs 2).toInt < 1 ∨ 20 < (xs 2).toInt ∨ (xs 3).toInt < 0 ∨ (xs 4).toInt < (xs 3).toInt ∨ 39 < (xs 4).toInt ∨ (xs 5).toInt < 0 ∨ 2 < (xs 5).toInt)) := w_3
  · refine lv_aload_n hx hb dL_law_911 rfl (lv_at hl 1 rfl) ?_
    refine lv_aload_n hx hb dL_law_912 rfl (lv_at hl 3 rfl) ?_
    refine lv_iload_n hx hb dL_law_913 rfl (lv_at hl 0 rfl) ?_
    refine lv_iconst (v := (1 : Int32)) hx hb dL_law_914 (by decide) ?_
    refine lv_iadd hx hb dL_law_915 ?_
    refine x_eqi (show (0 : Int32) + (1 : Int32) = (1 : Int32) from by decide +kernel) ?_
    refine va_sld hx hb hX hbl hbA X.2.2.1 (i := (1 : Int32)) (vp_in_nI (n := 1) (by omega) (by omega)) dL_law_916 ?_
    refine x_eqi (show xs ((1 : Int32).toNatClampNeg) = xs 1 from rfl) ?_
    refine lv_aload_n hx hb dL_law_917 rfl (lv_at hl 3 rfl) ?_
    refine lv_iload_n hx hb dL_law_918 rfl (lv_at hl 0 rfl) ?_
    refine lv_iconst (v := (2 : Int32)) hx hb dL_law_919 (by decide) ?_
    refine lv_iadd hx hb dL_law_920 ?_
    refine x_eqi (show (0 : Int32) + (2 : Int32) = (2 : Int32) from by decide +kernel) ?_
    refine va_sld hx hb hX hbl hbA X.2.2.1 (i := (2 : Int32)) (vp_in_nI (n := 2) (by omega) (by omega)) dL_law_921 ?_
    refine x_eqi (show xs ((2 : Int32).toNatClampNeg) = xs 2 from rfl) ?_
    refine lv_aload_n hx hb dL_law_922 rfl (lv_at hl 3 rfl) ?_
    refine lv_iload_n hx hb dL_law_923 rfl (lv_at hl 0 rfl) ?_
    refine lv_iconst (v := (3 : Int32)) hx hb dL_law_924 (by decide) ?_
    refine lv_iadd hx hb dL_law_925 ?_
    refine x_eqi (show (0 : Int32) + (3 : Int32) = (3 : Int32) from by decide +kernel) ?_
    refine va_sld hx hb hX hbl hbA X.2.2.1 (i := (3 : Int32)) (vp_in_nI (n := 3) (by omega) (by omega)) dL_law_926 ?_
    refine x_eqi (show xs ((3 : Int32).toNatClampNeg) = xs 3 from rfl) ?_
    refine lv_aload_n hx hb dL_law_927 rfl (lv_at hl 3 rfl) ?_
    refine lv_iload_n hx hb dL_law_928 rfl (lv_at hl 0 rfl) ?_
    refine lv_iconst (v := (4 : Int32)) hx hb dL_law_929 (by decide) ?_
    refine lv_iadd hx hb dL_law_930 ?_
    refine x_eqi (show (0 : Int32) + (4 : Int32) = (4 : Int32) from by decide +kernel) ?_
    refine va_sld hx hb hX hbl hbA X.2.2.1 (i := (4 : Int32)) (vp_in_nI (n := 4) (by omega) (by omega)) dL_law_931 ?_
    refine x_eqi (show xs ((4 : Int32).toNatClampNeg) = xs 4 from rfl) ?_
    refine lv_aload_n hx hb dL_law_932 rfl (lv_at hl 3 rfl) ?_
    refine lv_iload_n hx hb dL_law_933 rfl (lv_at hl 0 rfl) ?_
    refine lv_iconst (v := (5 : Int32)) hx hb dL_law_934 (by decide) ?_
    refine lv_iadd hx hb dL_law_935 ?_
    refine x_eqi (show (0 : Int32) + (5 : Int32) = (5 : Int32) from by decide +kernel) ?_
    refine va_sld hx hb hX hbl hbA X.2.2.1 (i := (5 : Int32)) (vp_in_nI (n := 5) (by omega) (by omega)) dL_law_936 ?_
    refine x_eqi (show xs ((5 : Int32).toNatClampNeg) = xs 5 from rfl) ?_
    refine x_cV (own := RL) (wr := []) (As := [.int (xs 1), .int (xs 2), .int (xs 3), .int (xs 4), .int (xs 5)]) C X hl.1 (cm_back l D cI cJ cZ cB cO v (xs 1) (xs 2) (xs 3) (xs 4) (xs 5)) [0, 1] [] ⟨rfl, rfl, by decide, by decide, by decide⟩ (qb := 0) rfl rfl k_46_1 k_46_2 k_46_3 k_1_5 k_46_4 (n := 5) (by decide +kernel) ⟨Nat.le_of_ble_eq_true rfl, Nat.le_of_ble_eq_true rfl⟩ rfl rfl (Nat.le_of_ble_eq_true rfl) dL_law_937 ⟨Nat.le_of_ble_eq_true rfl, Nat.le_of_ble_eq_true rfl⟩ (fun r_5 u_4 H locs w_6 X => ?_)
    have X : Wd D (fun q : Nat => s.heap.size ≤ q) s [] H locs := X
    refine W.widen (k := 150) (n := 141288) (Nat.le_of_ble_eq_true rfl) (Nat.le_of_ble_eq_true rfl) ?_
    obtain ⟨rfl, fw_6⟩ | ⟨rfl, fw_6⟩ : (r_5 = (0 : Int32) ∧ (0 ≤ (xs 1).toInt ∧ (xs 1).toInt ≤ 2 ∧ 1 ≤ (xs 2).toInt ∧ (xs 2).toInt ≤ 20 ∧ 0 ≤ (xs 3).toInt ∧ (xs 3).toInt ≤ (xs 4).toInt ∧ (xs 4).toInt ≤ 39 ∧ 0 ≤ (xs 5).toInt ∧ (xs 5).toInt ≤ 2)) ∨ (r_5 = (-1000000000 : Int32) ∧ ((xs 1).toInt < 0 ∨ 2 < (xs 1).toInt ∨ (xs 2).toInt < 1 ∨ 20 < (xs 2).toInt ∨ (xs 3).toInt < 0 ∨ (xs 4).toInt < (xs 3).toInt ∨ 39 < (xs 4).toInt ∨ (xs 5).toInt < 0 ∨ 2 < (xs 5).toInt)) := w_6
    · refine lv_icmp_eq (tgt := 1721) hx hb dL_law_940 (by decide) (fun _ => ?_) (fun c0 => absurd (by decide) c0)
      exact law_tail K0 X hl (Nat.le_of_ble_eq_true rfl) (Nat.le_of_ble_eq_true rfl)
    · exfalso; omega
  · refine lv_aload_n hx hb dL_law_911 rfl (lv_at hl 1 rfl) ?_
    refine lv_aload_n hx hb dL_law_912 rfl (lv_at hl 3 rfl) ?_
    refine lv_iload_n hx hb dL_law_913 rfl (lv_at hl 0 rfl) ?_
    refine lv_iconst (v := (1 : Int32)) hx hb dL_law_914 (by decide) ?_
    refine lv_iadd hx hb dL_law_915 ?_
    refine x_eqi (show (0 : Int32) + (1 : Int32) = (1 : Int32) from by decide +kernel) ?_
    refine va_sld hx hb hX hbl hbA X.2.2.1 (i := (1 : Int32)) (vp_in_nI (n := 1) (by omega) (by omega)) dL_law_916 ?_
    refine x_eqi (show xs ((1 : Int32).toNatClampNeg) = xs 1 from rfl) ?_
    refine lv_aload_n hx hb dL_law_917 rfl (lv_at hl 3 rfl) ?_
    refine lv_iload_n hx hb dL_law_918 rfl (lv_at hl 0 rfl) ?_
    refine lv_iconst (v := (2 : Int32)) hx hb dL_law_919 (by decide) ?_
    refine lv_iadd hx hb dL_law_920 ?_
    refine x_eqi (show (0 : Int32) + (2 : Int32) = (2 : Int32) from by decide +kernel) ?_
    refine va_sld hx hb hX hbl hbA X.2.2.1 (i := (2 : Int32)) (vp_in_nI (n := 2) (by omega) (by omega)) dL_law_921 ?_
    refine x_eqi (show xs ((2 : Int32).toNatClampNeg) = xs 2 from rfl) ?_
    refine lv_aload_n hx hb dL_law_922 rfl (lv_at hl 3 rfl) ?_
    refine lv_iload_n hx hb dL_law_923 rfl (lv_at hl 0 rfl) ?_
    refine lv_iconst (v := (3 : Int32)) hx hb dL_law_924 (by decide) ?_
    refine lv_iadd hx hb dL_law_925 ?_
    refine x_eqi (show (0 : Int32) + (3 : Int32) = (3 : Int32) from by decide +kernel) ?_
    refine va_sld hx hb hX hbl hbA X.2.2.1 (i := (3 : Int32)) (vp_in_nI (n := 3) (by omega) (by omega)) dL_law_926 ?_
    refine x_eqi (show xs ((3 : Int32).toNatClampNeg) = xs 3 from rfl) ?_
    refine lv_aload_n hx hb dL_law_927 rfl (lv_at hl 3 rfl) ?_
    refine lv_iload_n hx hb dL_law_928 rfl (lv_at hl 0 rfl) ?_
    refine lv_iconst (v := (4 : Int32)) hx hb dL_law_929 (by decide) ?_
    refine lv_iadd hx hb dL_law_930 ?_
    refine x_eqi (show (0 : Int32) + (4 : Int32) = (4 : Int32) from by decide +kernel) ?_
    refine va_sld hx hb hX hbl hbA X.2.2.1 (i := (4 : Int32)) (vp_in_nI (n := 4) (by omega) (by omega)) dL_law_931 ?_
    refine x_eqi (show xs ((4 : Int32).toNatClampNeg) = xs 4 from rfl) ?_
    refine lv_aload_n hx hb dL_law_932 rfl (lv_at hl 3 rfl) ?_
    refine lv_iload_n hx hb dL_law_933 rfl (lv_at hl 0 rfl) ?_
    refine lv_iconst (v := (5 : Int32)) hx hb dL_law_934 (by decide) ?_
    refine lv_iadd hx hb dL_law_935 ?_
    refine x_eqi (show (0 : Int32) + (5 : Int32) = (5 : Int32) from by decide +kernel) ?_
    refine va_sld hx hb hX hbl hbA X.2.2.1 (i := (5 : Int32)) (vp_in_nI (n := 5) (by omega) (by omega)) dL_law_936 ?_
    refine x_eqi (show xs ((5 : Int32).toNatClampNeg) = xs 5 from rfl) ?_
    refine x_cV (own := RL) (wr := []) (As := [.int (xs 1), .int (xs 2), .int (xs 3), .int (xs 4), .int (xs 5)]) C X hl.1 (cm_back l D cI cJ cZ cB cO v (xs 1) (xs 2) (xs 3) (xs 4) (xs 5)) [0, 1] [] ⟨rfl, rfl, by decide, by decide, by decide⟩ (qb := 0) rfl rfl k_46_1 k_46_2 k_46_3 k_1_5 k_46_4 (n := 5) (by decide +kernel) ⟨Nat.le_of_ble_eq_true rfl, Nat.le_of_ble_eq_true rfl⟩ rfl rfl (Nat.le_of_ble_eq_true rfl) dL_law_937 ⟨Nat.le_of_ble_eq_true rfl, Nat.le_of_ble_eq_true rfl⟩ (fun r_8 u_7 H locs w_9 X => ?_)
    have X : Wd D (fun q : Nat => s.heap.size ≤ q) s [] H locs := X
    refine W.widen (k := 150) (n := 141288) (Nat.le_of_ble_eq_true rfl) (Nat.le_of_ble_eq_true rfl) ?_
    obtain ⟨rfl, fw_9⟩ | ⟨rfl, fw_9⟩ : (r_8 = (0 : Int32) ∧ (0 ≤ (xs 1).toInt ∧ (xs 1).toInt ≤ 2 ∧ 1 ≤ (xs 2).toInt ∧ (xs 2).toInt ≤ 20 ∧ 0 ≤ (xs 3).toInt ∧ (xs 3).toInt ≤ (xs 4).toInt ∧ (xs 4).toInt ≤ 39 ∧ 0 ≤ (xs 5).toInt ∧ (xs 5).toInt ≤ 2)) ∨ (r_8 = (-1000000000 : Int32) ∧ ((xs 1).toInt < 0 ∨ 2 < (xs 1).toInt ∨ (xs 2).toInt < 1 ∨ 20 < (xs 2).toInt ∨ (xs 3).toInt < 0 ∨ (xs 4).toInt < (xs 3).toInt ∨ 39 < (xs 4).toInt ∨ (xs 5).toInt < 0 ∨ 2 < (xs 5).toInt)) := w_9
    · exfalso; omega
    · refine lv_icmp_eq (tgt := 1721) hx hb dL_law_940 (by decide) (fun _ => ?_) (fun c0 => absurd (by decide) c0)
      exact law_tail K0 X hl (Nat.le_of_ble_eq_true rfl) (Nat.le_of_ble_eq_true rfl)
set_option maxHeartbeats 4000000 in
set_option maxRecDepth 100000 in
theorem law_c18 {p : Program} {e : Env} {s : State} {m : MethodId} {below : List Frame} {meth : Method} {c : Code} {l : Launch} {b : Nat} {xs : Nat → Int32} {D : va_G} {cI cJ cZ cB cO : ClassId} (K0 : LwC p s m meth c b xs D [(cI, .int), (cJ, .long), (cZ, .boolean), (cB, .byte), (cO, .object "LuckLinks$World")]) {u v : Nat → Nat} {H : Heap} {locs : List Loc} {ls : Array Slot} (X : Wd D (fun q : Nat => s.heap.size ≤ q) s (xW cI cJ cZ cB cO u ++ mW cI cJ cZ cB cO v) H locs) (hl : lv_has ls 4 [(3, .int (0 : Int32)), (2, .ref (v 0)), (1, .ref (u 0)), (0, .ref b)]) :
    W p l e room_1 s m #[Value.ref b] below meth c H locs 150 141288 (lw_Z below #[Value.ref b] s) (F0 m 945 ls []) := by
  have C := K0.1
  have hx := C.1
  have hb := C.2.1
  have hX := K0.2.2.2.1
  have hbl := K0.2.2.2.2
  have hbA : ¬ (fun q : Nat => s.heap.size ≤ q) b := Nat.not_le.mpr hbl
  refine lv_aload_n hx hb dL_law_945 rfl (lv_at hl 2 rfl) ?_
  refine lv_aload_n hx hb dL_law_946 rfl (lv_at hl 3 rfl) ?_
  refine lv_iload_n hx hb dL_law_947 rfl (lv_at hl 0 rfl) ?_
  refine lv_iconst (v := (1 : Int32)) hx hb dL_law_948 (by decide) ?_
  refine lv_iadd hx hb dL_law_949 ?_
  refine x_eqi (show (0 : Int32) + (1 : Int32) = (1 : Int32) from by decide +kernel) ?_
  refine va_sld hx hb hX hbl hbA X.2.2.1 (i := (1 : Int32)) (vp_in_nI (n := 1) (by omega) (by omega)) dL_law_950 ?_
  refine x_eqi (show xs ((1 : Int32).toNatClampNeg) = xs 1 from rfl) ?_
  refine lv_aload_n hx hb dL_law_951 rfl (lv_at hl 3 rfl) ?_
  refine lv_iload_n hx hb dL_law_952 rfl (lv_at hl 0 rfl) ?_
  refine lv_iconst (v := (2 : Int32)) hx hb dL_law_953 (by decide) ?_
  refine lv_iadd hx hb dL_law_954 ?_
  refine x_eqi (show (0 : Int32) + (2 : Int32) = (2 : Int32) from by decide +kernel) ?_
  refine va_sld hx hb hX hbl hbA X.2.2.1 (i := (2 : Int32)) (vp_in_nI (n := 2) (by omega) (by omega)) dL_law_955 ?_
  refine x_eqi (show xs ((2 : Int32).toNatClampNeg) = xs 2 from rfl) ?_
  refine lv_aload_n hx hb dL_law_956 rfl (lv_at hl 3 rfl) ?_
  refine lv_iload_n hx hb dL_law_957 rfl (lv_at hl 0 rfl) ?_
  refine lv_iconst (v := (3 : Int32)) hx hb dL_law_958 (by decide) ?_
  refine lv_iadd hx hb dL_law_959 ?_
  refine x_eqi (show (0 : Int32) + (3 : Int32) = (3 : Int32) from by decide +kernel) ?_
  refine va_sld hx hb hX hbl hbA X.2.2.1 (i := (3 : Int32)) (vp_in_nI (n := 3) (by omega) (by omega)) dL_law_960 ?_
  refine x_eqi (show xs ((3 : Int32).toNatClampNeg) = xs 3 from rfl) ?_
  refine lv_aload_n hx hb dL_law_961 rfl (lv_at hl 3 rfl) ?_
  refine lv_iload_n hx hb dL_law_962 rfl (lv_at hl 0 rfl) ?_
  refine lv_iconst (v := (4 : Int32)) hx hb dL_law_963 (by decide) ?_
  refine lv_iadd hx hb dL_law_964 ?_
  refine x_eqi (show (0 : Int32) + (4 : Int32) = (4 : Int32) from by decide +kernel) ?_
  refine va_sld hx hb hX hbl hbA X.2.2.1 (i := (4 : Int32)) (vp_in_nI (n := 4) (by omega) (by omega)) dL_law_965 ?_
  refine x_eqi (show xs ((4 : Int32).toNatClampNeg) = xs 4 from rfl) ?_
  refine x_cVl (own := RL) (wr := [((v 0), .inr (12, (mF v))), ((v 1), .inl (cI, 4, .inl (fun _ => (0 : Int32))))]) (As := [.int (xs 1), .int (xs 2), .int (xs 3), .int (xs 4)]) C X hl.1 (cx_skill l D cI cJ cZ cB cO u (xs 1) (xs 2) (xs 3) (xs 4)) [0, 1] [98, 99] ⟨rfl, rfl, by decide, by decide, by decide⟩ (qb := 0) rfl rfl k_46_13 k_46_14 k_46_15 k_1_2 k_46_16 (n := 4) (by decide +kernel) ⟨Nat.le_of_ble_eq_true rfl, Nat.le_of_ble_eq_true rfl⟩ rfl rfl (Nat.le_of_ble_eq_true rfl) dL_law_966 ⟨Nat.le_of_ble_eq_true rfl, Nat.le_of_ble_eq_true rfl⟩ (fun r_2 u_1 H locs w_3 X => ?_)
  have X : Wd D (fun q : Nat => s.heap.size ≤ q) s [((v 0), .inr (12, (mF v))), ((v 1), .inl (cI, 4, .inl (fun _ => (0 : Int32))))] H locs := X
  refine W.widen (k := 150) (n := 141288) (Nat.le_of_ble_eq_true rfl) (Nat.le_of_ble_eq_true rfl) ?_
  obtain ⟨rfl, fw_3⟩ : r_2 = (-1000000000000 : Int64) ∧ True := w_3
  refine lv_aload_n hx hb dL_law_969 rfl (lv_at hl 1 rfl) ?_
  refine lv_aload_n hx hb dL_law_970 rfl (lv_at hl 3 rfl) ?_
  refine lv_iload_n hx hb dL_law_971 rfl (lv_at hl 0 rfl) ?_
  refine lv_iconst (v := (1 : Int32)) hx hb dL_law_972 (by decide) ?_
  refine lv_iadd hx hb dL_law_973 ?_
  refine x_eqi (show (0 : Int32) + (1 : Int32) = (1 : Int32) from by decide +kernel) ?_
  refine va_sld hx hb hX hbl hbA X.2.2.1 (i := (1 : Int32)) (vp_in_nI (n := 1) (by omega) (by omega)) dL_law_974 ?_
  refine x_eqi (show xs ((1 : Int32).toNatClampNeg) = xs 1 from rfl) ?_
  refine lv_aload_n hx hb dL_law_975 rfl (lv_at hl 3 rfl) ?_
  refine lv_iload_n hx hb dL_law_976 rfl (lv_at hl 0 rfl) ?_
  refine lv_iconst (v := (2 : Int32)) hx hb dL_law_977 (by decide) ?_
  refine lv_iadd hx hb dL_law_978 ?_
  refine x_eqi (show (0 : Int32) + (2 : Int32) = (2 : Int32) from by decide +kernel) ?_
  refine va_sld hx hb hX hbl hbA X.2.2.1 (i := (2 : Int32)) (vp_in_nI (n := 2) (by omega) (by omega)) dL_law_979 ?_
  refine x_eqi (show xs ((2 : Int32).toNatClampNeg) = xs 2 from rfl) ?_
  refine lv_aload_n hx hb dL_law_980 rfl (lv_at hl 3 rfl) ?_
  refine lv_iload_n hx hb dL_law_981 rfl (lv_at hl 0 rfl) ?_
  refine lv_iconst (v := (3 : Int32)) hx hb dL_law_982 (by decide) ?_
  refine lv_iadd hx hb dL_law_983 ?_
  refine x_eqi (show (0 : Int32) + (3 : Int32) = (3 : Int32) from by decide +kernel) ?_
  refine va_sld hx hb hX hbl hbA X.2.2.1 (i := (3 : Int32)) (vp_in_nI (n := 3) (by omega) (by omega)) dL_law_984 ?_
  refine x_eqi (show xs ((3 : Int32).toNatClampNeg) = xs 3 from rfl) ?_
  refine lv_aload_n hx hb dL_law_985 rfl (lv_at hl 3 rfl) ?_
  refine lv_iload_n hx hb dL_law_986 rfl (lv_at hl 0 rfl) ?_
  refine lv_iconst (v := (4 : Int32)) hx hb dL_law_987 (by decide) ?_
  refine lv_iadd hx hb dL_law_988 ?_
  refine x_eqi (show (0 : Int32) + (4 : Int32) = (4 : Int32) from by decide +kernel) ?_
  refine va_sld hx hb hX hbl hbA X.2.2.1 (i := (4 : Int32)) (vp_in_nI (n := 4) (by omega) (by omega)) dL_law_989 ?_
  refine x_eqi (show xs ((4 : Int32).toNatClampNeg) = xs 4 from rfl) ?_
  refine x_cVl (own := RL) (wr := []) (As := [.int (xs 1), .int (xs 2), .int (xs 3), .int (xs 4)]) C X hl.1 (cm_skill l D cI cJ cZ cB cO v (xs 1) (xs 2) (xs 3) (xs 4)) [0, 1] [] ⟨rfl, rfl, by decide, by decide, by decide⟩ (qb := 0) rfl rfl k_48_6 k_48_7 k_48_8 k_1_5 k_48_9 (n := 4) (by decide +kernel) ⟨Nat.le_of_ble_eq_true rfl, Nat.le_of_ble_eq_true rfl⟩ rfl rfl (Nat.le_of_ble_eq_true rfl) dL_law_990 ⟨Nat.le_of_ble_eq_true rfl, Nat.le_of_ble_eq_true rfl⟩ (fun r_5 u_4 H locs w_6 X => ?_)
  have X : Wd D (fun q : Nat => s.heap.size ≤ q) s [] H locs := X
  refine W.widen (k := 150) (n := 141288) (Nat.le_of_ble_eq_true rfl) (Nat.le_of_ble_eq_true rfl) ?_
  obtain ⟨rfl, fw_6⟩ : r_5 = (-1000000000000 : Int64) ∧ True := w_6
  refine W.lcmp hx hb dL_law_993 ?_
  refine x_eqi (show lg_cmp (-1000000000000 : Int64) (-1000000000000 : Int64) = (0 : Int32) from by decide) ?_
  refine lv_if_eq (tgt := 1721) hx hb dL_law_994 (by decide) (fun _ => ?_) (fun c0 => absurd (by decide) c0)
  exact law_tail K0 X hl (Nat.le_of_ble_eq_true rfl) (Nat.le_of_ble_eq_true rfl)
set_option maxHeartbeats 4000000 in
set_option maxRecDepth 100000 in
theorem law_c19 {p : Program} {e : Env} {s : State} {m : MethodId} {below : List Frame} {meth : Method} {c : Code} {l : Launch} {b : Nat} {xs : Nat → Int32} {D : va_G} {cI cJ cZ cB cO : ClassId} (K0 : LwC p s m meth c b xs D [(cI, .int), (cJ, .long), (cZ, .boolean), (cB, .byte), (cO, .object "LuckLinks$World")]) {u v : Nat → Nat} {H : Heap} {locs : List Loc} {ls : Array Slot} (X : Wd D (fun q : Nat => s.heap.size ≤ q) s (xW cI cJ cZ cB cO u ++ mW cI cJ cZ cB cO v) H locs) (hl : lv_has ls 4 [(3, .int (0 : Int32)), (2, .ref (v 0)), (1, .ref (u 0)), (0, .ref b)]) :
    W p l e room_1 s m #[Value.ref b] below meth c H locs 150 141288 (lw_Z below #[Value.ref b] s) (F0 m 999 ls []) := by
  have C := K0.1
  have hx := C.1
  have hb := C.2.1
  have hX := K0.2.2.2.1
  have hbl := K0.2.2.2.2
  have hbA : ¬ (fun q : Nat => s.heap.size ≤ q) b := Nat.not_le.mpr hbl
  refine lv_aload_n hx hb dL_law_999 rfl (lv_at hl 2 rfl) ?_
  refine lv_aload_n hx hb dL_law_1000 rfl (lv_at hl 3 rfl) ?_
  refine lv_iload_n hx hb dL_law_1001 rfl (lv_at hl 0 rfl) ?_
  refine lv_iconst (v := (1 : Int32)) hx hb dL_law_1002 (by decide) ?_
  refine lv_iadd hx hb dL_law_1003 ?_
  refine x_eqi (show (0 : Int32) + (1 : Int32) = (1 : Int32) from by decide +kernel) ?_
  refine va_sld hx hb hX hbl hbA X.2.2.1 (i := (1 : Int32)) (vp_in_nI (n := 1) (by omega) (by omega)) dL_law_1004 ?_
  refine x_eqi (show xs ((1 : Int32).toNatClampNeg) = xs 1 from rfl) ?_
  refine lv_aload_n hx hb dL_law_1005 rfl (lv_at hl 3 rfl) ?_
  refine lv_iload_n hx hb dL_law_1006 rfl (lv_at hl 0 rfl) ?_
  refine lv_iconst (v := (2 : Int32)) hx hb dL_law_1007 (by decide) ?_
  refine lv_iadd hx hb dL_law_1008 ?_
  refine x_eqi (show (0 : Int32) + (2 : Int32) = (2 : Int32) from by decide +kernel) ?_
  refine va_sld hx hb hX hbl hbA X.2.2.1 (i := (2 : Int32)) (vp_in_nI (n := 2) (by omega) (by omega)) dL_law_1009 ?_
  refine x_eqi (show xs ((2 : Int32).toNatClampNeg) = xs 2 from rfl) ?_
  refine lv_aload_n hx hb dL_law_1010 rfl (lv_at hl 3 rfl) ?_
  refine lv_iload_n hx hb dL_law_1011 rfl (lv_at hl 0 rfl) ?_
  refine lv_iconst (v := (3 : Int32)) hx hb dL_law_1012 (by decide) ?_
  refine lv_iadd hx hb dL_law_1013 ?_
  refine x_eqi (show (0 : Int32) + (3 : Int32) = (3 : Int32) from by decide +kernel) ?_
  refine va_sld hx hb hX hbl hbA X.2.2.1 (i := (3 : Int32)) (vp_in_nI (n := 3) (by omega) (by omega)) dL_law_1014 ?_
  refine x_eqi (show xs ((3 : Int32).toNatClampNeg) = xs 3 from rfl) ?_
  refine lv_aload_n hx hb dL_law_1015 rfl (lv_at hl 3 rfl) ?_
  refine lv_iload_n hx hb dL_law_1016 rfl (lv_at hl 0 rfl) ?_
  refine lv_iconst (v := (4 : Int32)) hx hb dL_law_1017 (by decide) ?_
  refine lv_iadd hx hb dL_law_1018 ?_
  refine x_eqi (show (0 : Int32) + (4 : Int32) = (4 : Int32) from by decide +kernel) ?_
  refine va_sld hx hb hX hbl hbA X.2.2.1 (i := (4 : Int32)) (vp_in_nI (n := 4) (by omega) (by omega)) dL_law_1019 ?_
  refine x_eqi (show xs ((4 : Int32).toNatClampNeg) = xs 4 from rfl) ?_
  refine x_cV (own := RL) (wr := [((v 0), .inr (12, (mF v))), ((v 1), .inl (cI, 4, .inl (fun _ => (0 : Int32))))]) (As := [.int (xs 1), .int (xs 2), .int (xs 3), .int (xs 4)]) C X hl.1 (cx_span l D cI cJ cZ cB cO u (xs 1) (xs 2) (xs 3) (xs 4)) [0, 1] [98, 99] ⟨rfl, rfl, by decide, by decide, by decide⟩ (qb := 0) rfl rfl k_49_1 k_49_2 k_49_3 k_1_2 k_49_4 (n := 4) (by decide +kernel) ⟨Nat.le_of_ble_eq_true rfl, Nat.le_of_ble_eq_true rfl⟩ rfl rfl (Nat.le_of_ble_eq_true rfl) dL_law_1020 ⟨Nat.le_of_ble_eq_true rfl, Nat.le_of_ble_eq_true rfl⟩ (fun r_2 u_1 H locs w_3 X => ?_)
  have X : Wd D (fun q : Nat => s.heap.size ≤ q) s [((v 0), .inr (12, (mF v))), ((v 1), .inl (cI, 4, .inl (fun _ => (0 : Int32))))] H locs := X
  refine W.widen (k := 150) (n := 141288) (Nat.le_of_ble_eq_true rfl) (Nat.le_of_ble_eq_true rfl) ?_
  obtain ⟨rfl, fw_3⟩ : r_2 = (-1000000 : Int32) ∧ True := w_3
  refine lv_aload_n hx hb dL_law_1023 rfl (lv_at hl 1 rfl) ?_
  refine lv_aload_n hx hb dL_law_1024 rfl (lv_at hl 3 rfl) ?_
  refine lv_iload_n hx hb dL_law_1025 rfl (lv_at hl 0 rfl) ?_
  refine lv_iconst (v := (1 : Int32)) hx hb dL_law_1026 (by decide) ?_
  refine lv_iadd hx hb dL_law_1027 ?_
  refine x_eqi (show (0 : Int32) + (1 : Int32) = (1 : Int32) from by decide +kernel) ?_
  refine va_sld hx hb hX hbl hbA X.2.2.1 (i := (1 : Int32)) (vp_in_nI (n := 1) (by omega) (by omega)) dL_law_1028 ?_
  refine x_eqi (show xs ((1 : Int32).toNatClampNeg) = xs 1 from rfl) ?_
  refine lv_aload_n hx hb dL_law_1029 rfl (lv_at hl 3 rfl) ?_
  refine lv_iload_n hx hb dL_law_1030 rfl (lv_at hl 0 rfl) ?_
  refine lv_iconst (v := (2 : Int32)) hx hb dL_law_1031 (by decide) ?_
  refine lv_iadd hx hb dL_law_1032 ?_
  refine x_eqi (show (0 : Int32) + (2 : Int32) = (2 : Int32) from by decide +kernel) ?_
  refine va_sld hx hb hX hbl hbA X.2.2.1 (i := (2 : Int32)) (vp_in_nI (n := 2) (by omega) (by omega)) dL_law_1033 ?_
  refine x_eqi (show xs ((2 : Int32).toNatClampNeg) = xs 2 from rfl) ?_
  refine lv_aload_n hx hb dL_law_1034 rfl (lv_at hl 3 rfl) ?_
  refine lv_iload_n hx hb dL_law_1035 rfl (lv_at hl 0 rfl) ?_
  refine lv_iconst (v := (3 : Int32)) hx hb dL_law_1036 (by decide) ?_
  refine lv_iadd hx hb dL_law_1037 ?_
  refine x_eqi (show (0 : Int32) + (3 : Int32) = (3 : Int32) from by decide +kernel) ?_
  refine va_sld hx hb hX hbl hbA X.2.2.1 (i := (3 : Int32)) (vp_in_nI (n := 3) (by omega) (by omega)) dL_law_1038 ?_
  refine x_eqi (show xs ((3 : Int32).toNatClampNeg) = xs 3 from rfl) ?_
  refine lv_aload_n hx hb dL_law_1039 rfl (lv_at hl 3 rfl) ?_
  refine lv_iload_n hx hb dL_law_1040 rfl (lv_at hl 0 rfl) ?_
  refine lv_iconst (v := (4 : Int32)) hx hb dL_law_1041 (by decide) ?_
  refine lv_iadd hx hb dL_law_1042 ?_
  refine x_eqi (show (0 : Int32) + (4 : Int32) = (4 : Int32) from by decide +kernel) ?_
  refine va_sld hx hb hX hbl hbA X.2.2.1 (i := (4 : Int32)) (vp_in_nI (n := 4) (by omega) (by omega)) dL_law_1043 ?_
  refine x_eqi (show xs ((4 : Int32).toNatClampNeg) = xs 4 from rfl) ?_
  refine x_cV (own := RL) (wr := []) (As := [.int (xs 1), .int (xs 2), .int (xs 3), .int (xs 4)]) C X hl.1 (cm_span l D cI cJ cZ cB cO v (xs 1) (xs 2) (xs 3) (xs 4)) [0, 1] [] ⟨rfl, rfl, by decide, by decide, by decide⟩ (qb := 0) rfl rfl k_49_16 k_49_17 k_49_18 k_1_5 k_49_19 (n := 4) (by decide +kernel) ⟨Nat.le_of_ble_eq_true rfl, Nat.le_of_ble_eq_true rfl⟩ rfl rfl (Nat.le_of_ble_eq_true rfl) dL_law_1044 ⟨Nat.le_of_ble_eq_true rfl, Nat.le_of_ble_eq_true rfl⟩ (fun r_5 u_4 H locs w_6 X => ?_)
  have X : Wd D (fun q : Nat => s.heap.size ≤ q) s [] H locs := X
  refine W.widen (k := 150) (n := 141288) (Nat.le_of_ble_eq_true rfl) (Nat.le_of_ble_eq_true rfl) ?_
  obtain ⟨rfl, fw_6⟩ : r_5 = (-1000000 : Int32) ∧ True := w_6
  refine lv_icmp_eq (tgt := 1721) hx hb dL_law_1047 (by decide) (fun _ => ?_) (fun c0 => absurd (by decide) c0)
  exact law_tail K0 X hl (Nat.le_of_ble_eq_true rfl) (Nat.le_of_ble_eq_true rfl)
