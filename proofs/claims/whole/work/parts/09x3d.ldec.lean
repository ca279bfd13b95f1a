set_option maxHeartbeats 400000
set_option maxRecDepth 100000
theorem dl_602 : decode code 602 = .ok (.iadd, 1) := by decide +kernel
theorem dl_603 : decode code 603 = .ok (.iaload, 1) := by decide +kernel
theorem dl_604 : decode code 604 = .ok (.aload_n 0, 1) := by decide +kernel
theorem dl_605 : decode code 605 = .ok (.iload_n 3, 1) := by decide +kernel
theorem dl_606 : decode code 606 = .ok (.iconst 3, 1) := by decide +kernel
theorem dl_607 : decode code 607 = .ok (.iadd, 1) := by decide +kernel
theorem dl_608 : decode code 608 = .ok (.iaload, 1) := by decide +kernel
theorem dl_609 : decode code 609 = .ok (.invokevirtual 70, 3) := by decide +kernel
theorem dl_612 : decode code 612 = .ok (.aload_n 2, 1) := by decide +kernel
theorem dl_613 : decode code 613 = .ok (.aload_n 0, 1) := by decide +kernel
theorem dl_614 : decode code 614 = .ok (.iload_n 3, 1) := by decide +kernel
theorem dl_615 : decode code 615 = .ok (.iconst 1, 1) := by decide +kernel
theorem dl_616 : decode code 616 = .ok (.iadd, 1) := by decide +kernel
theorem dl_617 : decode code 617 = .ok (.iaload, 1) := by decide +kernel
theorem dl_618 : decode code 618 = .ok (.aload_n 0, 1) := by decide +kernel
theorem dl_619 : decode code 619 = .ok (.iload_n 3, 1) := by decide +kernel
theorem dl_620 : decode code 620 = .ok (.iconst 2, 1) := by decide +kernel
theorem dl_621 : decode code 621 = .ok (.iadd, 1) := by decide +kernel
theorem dl_622 : decode code 622 = .ok (.iaload, 1) := by decide +kernel
theorem dl_623 : decode code 623 = .ok (.aload_n 0, 1) := by decide +kernel
theorem dl_624 : decode code 624 = .ok (.iload_n 3, 1) := by decide +kernel
theorem dl_625 : decode code 625 = .ok (.iconst 3, 1) := by decide +kernel
theorem dl_626 : decode code 626 = .ok (.iadd, 1) := by decide +kernel
theorem dl_627 : decode code 627 = .ok (.iaload, 1) := by decide +kernel
theorem dl_628 : decode code 628 = .ok (.invokevirtual 74, 3) := by decide +kernel
theorem dl_631 : decode code 631 = .ok (.if_icmp .eq 528, 3) := by decide +kernel
theorem dl_634 : decode code 634 = .ok (.iconst 0, 1) := by decide +kernel
theorem dl_635 : decode code 635 = .ok (.ireturn, 1) := by decide +kernel
theorem dl_636 : decode code 636 = .ok (.aload_n 1, 1) := by decide +kernel
theorem dl_637 : decode code 637 = .ok (.aload_n 0, 1) := by decide +kernel
theorem dl_638 : decode code 638 = .ok (.iload_n 3, 1) := by decide +kernel
theorem dl_639 : decode code 639 = .ok (.iconst 1, 1) := by decide +kernel
theorem dl_640 : decode code 640 = .ok (.iadd, 1) := by decide +kernel
theorem dl_641 : decode code 641 = .ok (.iaload, 1) := by decide +kernel
theorem dl_642 : decode code 642 = .ok (.aload_n 0, 1) := by decide +kernel
theorem dl_643 : decode code 643 = .ok (.iload_n 3, 1) := by decide +kernel
theorem dl_644 : decode code 644 = .ok (.iconst 2, 1) := by decide +kernel
theorem dl_645 : decode code 645 = .ok (.iadd, 1) := by decide +kernel
theorem dl_646 : decode code 646 = .ok (.iaload, 1) := by decide +kernel
theorem dl_647 : decode code 647 = .ok (.invokevirtual 75, 3) := by decide +kernel
theorem dl_650 : decode code 650 = .ok (.aload_n 2, 1) := by decide +kernel
theorem dl_651 : decode code 651 = .ok (.aload_n 0, 1) := by decide +kernel
theorem dl_652 : decode code 652 = .ok (.iload_n 3, 1) := by decide +kernel
theorem dl_653 : decode code 653 = .ok (.iconst 1, 1) := by decide +kernel
theorem dl_654 : decode code 654 = .ok (.iadd, 1) := by decide +kernel
theorem dl_655 : decode code 655 = .ok (.iaload, 1) := by decide +kernel
theorem dl_656 : decode code 656 = .ok (.aload_n 0, 1) := by decide +kernel
theorem dl_657 : decode code 657 = .ok (.iload_n 3, 1) := by decide +kernel
theorem dl_658 : decode code 658 = .ok (.iconst 2, 1) := by decide +kernel
theorem dl_659 : decode code 659 = .ok (.iadd, 1) := by decide +kernel
theorem dl_660 : decode code 660 = .ok (.iaload, 1) := by decide +kernel
theorem dl_661 : decode code 661 = .ok (.invokevirtual 78, 3) := by decide +kernel
theorem dl_664 : decode code 664 = .ok (.if_icmp .eq 495, 3) := by decide +kernel
theorem dl_667 : decode code 667 = .ok (.iconst 0, 1) := by decide +kernel
theorem dl_668 : decode code 668 = .ok (.ireturn, 1) := by decide +kernel
theorem dl_669 : decode code 669 = .ok (.aload_n 1, 1) := by decide +kernel
theorem dl_670 : decode code 670 = .ok (.aload_n 0, 1) := by decide +kernel
theorem dl_671 : decode code 671 = .ok (.iload_n 3, 1) := by decide +kernel
theorem dl_672 : decode code 672 = .ok (.iconst 1, 1) := by decide +kernel
theorem dl_673 : decode code 673 = .ok (.iadd, 1) := by decide +kernel
theorem dl_674 : decode code 674 = .ok (.iaload, 1) := by decide +kernel
theorem dl_675 : decode code 675 = .ok (.invokevirtual 79, 3) := by decide +kernel
theorem dl_678 : decode code 678 = .ok (.aload_n 2, 1) := by decide +kernel
theorem dl_679 : decode code 679 = .ok (.aload_n 0, 1) := by decide +kernel
theorem dl_680 : decode code 680 = .ok (.iload_n 3, 1) := by decide +kernel
theorem dl_681 : decode code 681 = .ok (.iconst 1, 1) := by decide +kernel
theorem dl_682 : decode code 682 = .ok (.iadd, 1) := by decide +kernel
theorem dl_683 : decode code 683 = .ok (.iaload, 1) := by decide +kernel
theorem dl_684 : decode code 684 = .ok (.invokevirtual 82, 3) := by decide +kernel
theorem dl_687 : decode code 687 = .ok (.if_icmp .eq 472, 3) := by decide +kernel
theorem dl_690 : decode code 690 = .ok (.iconst 0, 1) := by decide +kernel
theorem dl_691 : decode code 691 = .ok (.ireturn, 1) := by decide +kernel
theorem dl_692 : decode code 692 = .ok (.aload_n 1, 1) := by decide +kernel
theorem dl_693 : decode code 693 = .ok (.aload_n 0, 1) := by decide +kernel
theorem dl_694 : decode code 694 = .ok (.iload_n 3, 1) := by decide +kernel
theorem dl_695 : decode code 695 = .ok (.iconst 1, 1) := by decide +kernel
theorem dl_696 : decode code 696 = .ok (.iadd, 1) := by decide +kernel
theorem dl_697 : decode code 697 = .ok (.iaload, 1) := by decide +kernel
theorem dl_698 : decode code 698 = .ok (.invokevirtual 83, 3) := by decide +kernel
theorem dl_701 : decode code 701 = .ok (.aload_n 2, 1) := by decide +kernel
theorem dl_702 : decode code 702 = .ok (.aload_n 0, 1) := by decide +kernel
theorem dl_703 : decode code 703 = .ok (.iload_n 3, 1) := by decide +kernel
theorem dl_704 : decode code 704 = .ok (.iconst 1, 1) := by decide +kernel
theorem dl_705 : decode code 705 = .ok (.iadd, 1) := by decide +kernel
theorem dl_706 : decode code 706 = .ok (.iaload, 1) := by decide +kernel
theorem dl_707 : decode code 707 = .ok (.invokevirtual 86, 3) := by decide +kernel
theorem dl_710 : decode code 710 = .ok (.if_icmp .eq 449, 3) := by decide +kernel
theorem dl_713 : decode code 713 = .ok (.iconst 0, 1) := by decide +kernel
theorem dl_714 : decode code 714 = .ok (.ireturn, 1) := by decide +kernel
theorem dl_715 : decode code 715 = .ok (.aload_n 1, 1) := by decide +kernel
theorem dl_716 : decode code 716 = .ok (.aload_n 0, 1) := by decide +kernel
theorem dl_717 : decode code 717 = .ok (.iload_n 3, 1) := by decide +kernel
theorem dl_718 : decode code 718 = .ok (.iconst 1, 1) := by decide +kernel
theorem dl_719 : decode code 719 = .ok (.iadd, 1) := by decide +kernel
theorem dl_720 : decode code 720 = .ok (.iaload, 1) := by decide +kernel
theorem dl_721 : decode code 721 = .ok (.invokevirtual 87, 3) := by decide +kernel
theorem dl_724 : decode code 724 = .ok (.aload_n 2, 1) := by decide +kernel
theorem dl_725 : decode code 725 = .ok (.aload_n 0, 1) := by decide +kernel
theorem dl_726 : decode code 726 = .ok (.iload_n 3, 1) := by decide +kernel
theorem dl_727 : decode code 727 = .ok (.iconst 1, 1) := by decide +kernel
theorem dl_728 : decode code 728 = .ok (.iadd, 1) := by decide +kernel
theorem dl_729 : decode code 729 = .ok (.iaload, 1) := by decide +kernel
theorem dl_730 : decode code 730 = .ok (.invokevirtual 90, 3) := by decide +kernel
theorem dl_733 : decode code 733 = .ok (.if_icmp .eq 426, 3) := by decide +kernel
theorem dl_736 : decode code 736 = .ok (.iconst 0, 1) := by decide +kernel
theorem dl_737 : decode code 737 = .ok (.ireturn, 1) := by decide +kernel
theorem dl_738 : decode code 738 = .ok (.aload_n 1, 1) := by decide +kernel
theorem dl_739 : decode code 739 = .ok (.aload_n 0, 1) := by decide +kernel
theorem dl_740 : decode code 740 = .ok (.iload_n 3, 1) := by decide +kernel
theorem dl_741 : decode code 741 = .ok (.iconst 1, 1) := by decide +kernel
theorem dl_742 : decode code 742 = .ok (.iadd, 1) := by decide +kernel
theorem dl_743 : decode code 743 = .ok (.iaload, 1) := by decide +kernel
theorem dl_744 : decode code 744 = .ok (.invokevirtual 91, 3) := by decide +kernel
theorem dl_747 : decode code 747 = .ok (.aload_n 2, 1) := by decide +kernel
theorem dl_748 : decode code 748 = .ok (.aload_n 0, 1) := by decide +kernel
theorem dl_749 : decode code 749 = .ok (.iload_n 3, 1) := by decide +kernel
theorem dl_750 : decode code 750 = .ok (.iconst 1, 1) := by decide +kernel
theorem dl_751 : decode code 751 = .ok (.iadd, 1) := by decide +kernel
theorem dl_752 : decode code 752 = .ok (.iaload, 1) := by decide +kernel
theorem dl_753 : decode code 753 = .ok (.invokevirtual 94, 3) := by decide +kernel
