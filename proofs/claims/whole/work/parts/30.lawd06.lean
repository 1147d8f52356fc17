theorem d_Law_law_611 : decode b_Law_law 611 = .ok (.iconst 0, 1) := by decide +kernel
theorem d_Law_law_612 : decode b_Law_law 612 = .ok (.ireturn, 1) := by decide +kernel
theorem d_Law_law_613 : decode b_Law_law 613 = .ok (.iload 5, 2) := by decide +kernel
theorem d_Law_law_615 : decode b_Law_law 615 = .ok (.ifCond .ne 15, 3) := by decide +kernel
theorem d_Law_law_618 : decode b_Law_law 618 = .ok (.aload_n 3, 1) := by decide +kernel
theorem d_Law_law_619 : decode b_Law_law 619 = .ok (.iconst 0, 1) := by decide +kernel
theorem d_Law_law_620 : decode b_Law_law 620 = .ok (.laload, 1) := by decide +kernel
theorem d_Law_law_621 : decode b_Law_law 621 = .ok (.iload 6, 2) := by decide +kernel
theorem d_Law_law_623 : decode b_Law_law 623 = .ok (.i2l, 1) := by decide +kernel
theorem d_Law_law_624 : decode b_Law_law 624 = .ok (.lcmp, 1) := by decide +kernel
theorem d_Law_law_625 : decode b_Law_law 625 = .ok (.ifCond .eq 5, 3) := by decide +kernel
theorem d_Law_law_628 : decode b_Law_law 628 = .ok (.iconst 0, 1) := by decide +kernel
theorem d_Law_law_629 : decode b_Law_law 629 = .ok (.ireturn, 1) := by decide +kernel
theorem d_Law_law_630 : decode b_Law_law 630 = .ok (.goto 425, 3) := by decide +kernel
theorem d_Law_law_633 : decode b_Law_law 633 = .ok (.aload_n 1, 1) := by decide +kernel
theorem d_Law_law_634 : decode b_Law_law 634 = .ok (.invokestatic 97, 3) := by decide +kernel
theorem d_Law_law_637 : decode b_Law_law 637 = .ok (.istore 5, 2) := by decide +kernel
theorem d_Law_law_639 : decode b_Law_law 639 = .ok (.aload_n 2, 1) := by decide +kernel
theorem d_Law_law_640 : decode b_Law_law 640 = .ok (.invokevirtual 100, 3) := by decide +kernel
theorem d_Law_law_643 : decode b_Law_law 643 = .ok (.aload_n 2, 1) := by decide +kernel
theorem d_Law_law_644 : decode b_Law_law 644 = .ok (.invokevirtual 69, 3) := by decide +kernel
theorem d_Law_law_647 : decode b_Law_law 647 = .ok (.iload 5, 2) := by decide +kernel
theorem d_Law_law_649 : decode b_Law_law 649 = .ok (.if_icmp .eq 5, 3) := by decide +kernel
theorem d_Law_law_652 : decode b_Law_law 652 = .ok (.iconst 0, 1) := by decide +kernel
theorem d_Law_law_653 : decode b_Law_law 653 = .ok (.ireturn, 1) := by decide +kernel
theorem d_Law_law_654 : decode b_Law_law 654 = .ok (.goto 401, 3) := by decide +kernel
theorem d_Law_law_657 : decode b_Law_law 657 = .ok (.aload_n 1, 1) := by decide +kernel
theorem d_Law_law_658 : decode b_Law_law 658 = .ok (.aload_n 3, 1) := by decide +kernel
theorem d_Law_law_659 : decode b_Law_law 659 = .ok (.invokestatic 101, 3) := by decide +kernel
theorem d_Law_law_662 : decode b_Law_law 662 = .ok (.istore 5, 2) := by decide +kernel
theorem d_Law_law_664 : decode b_Law_law 664 = .ok (.aload_n 2, 1) := by decide +kernel
theorem d_Law_law_665 : decode b_Law_law 665 = .ok (.invokevirtual 104, 3) := by decide +kernel
theorem d_Law_law_668 : decode b_Law_law 668 = .ok (.istore 6, 2) := by decide +kernel
theorem d_Law_law_670 : decode b_Law_law 670 = .ok (.aload_n 2, 1) := by decide +kernel
theorem d_Law_law_671 : decode b_Law_law 671 = .ok (.invokevirtual 69, 3) := by decide +kernel
theorem d_Law_law_674 : decode b_Law_law 674 = .ok (.iload 5, 2) := by decide +kernel
theorem d_Law_law_676 : decode b_Law_law 676 = .ok (.if_icmp .eq 5, 3) := by decide +kernel
theorem d_Law_law_679 : decode b_Law_law 679 = .ok (.iconst 0, 1) := by decide +kernel
theorem d_Law_law_680 : decode b_Law_law 680 = .ok (.ireturn, 1) := by decide +kernel
theorem d_Law_law_681 : decode b_Law_law 681 = .ok (.iload 5, 2) := by decide +kernel
theorem d_Law_law_683 : decode b_Law_law 683 = .ok (.ifCond .ne 15, 3) := by decide +kernel
theorem d_Law_law_686 : decode b_Law_law 686 = .ok (.aload_n 3, 1) := by decide +kernel
theorem d_Law_law_687 : decode b_Law_law 687 = .ok (.iconst 0, 1) := by decide +kernel
theorem d_Law_law_688 : decode b_Law_law 688 = .ok (.laload, 1) := by decide +kernel
theorem d_Law_law_689 : decode b_Law_law 689 = .ok (.iload 6, 2) := by decide +kernel
theorem d_Law_law_691 : decode b_Law_law 691 = .ok (.i2l, 1) := by decide +kernel
theorem d_Law_law_692 : decode b_Law_law 692 = .ok (.lcmp, 1) := by decide +kernel
theorem d_Law_law_693 : decode b_Law_law 693 = .ok (.ifCond .eq 5, 3) := by decide +kernel
theorem d_Law_law_696 : decode b_Law_law 696 = .ok (.iconst 0, 1) := by decide +kernel
theorem d_Law_law_697 : decode b_Law_law 697 = .ok (.ireturn, 1) := by decide +kernel
theorem d_Law_law_698 : decode b_Law_law 698 = .ok (.goto 357, 3) := by decide +kernel
theorem d_Law_law_701 : decode b_Law_law 701 = .ok (.aload_n 1, 1) := by decide +kernel
theorem d_Law_law_702 : decode b_Law_law 702 = .ok (.aload_n 3, 1) := by decide +kernel
theorem d_Law_law_703 : decode b_Law_law 703 = .ok (.invokestatic 105, 3) := by decide +kernel
theorem d_Law_law_706 : decode b_Law_law 706 = .ok (.istore 5, 2) := by decide +kernel
theorem d_Law_law_708 : decode b_Law_law 708 = .ok (.aload_n 2, 1) := by decide +kernel
theorem d_Law_law_709 : decode b_Law_law 709 = .ok (.invokevirtual 107, 3) := by decide +kernel
theorem d_Law_law_712 : decode b_Law_law 712 = .ok (.istore 6, 2) := by decide +kernel
theorem d_Law_law_714 : decode b_Law_law 714 = .ok (.aload_n 2, 1) := by decide +kernel
theorem d_Law_law_715 : decode b_Law_law 715 = .ok (.invokevirtual 69, 3) := by decide +kernel
