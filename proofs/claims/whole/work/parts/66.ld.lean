theorem d_LW_596 : decode code 596 = .ok (.aload_n 2, 1) := by decide +kernel
theorem d_LW_597 : decode code 597 = .ok (.aload_n 0, 1) := by decide +kernel
theorem d_LW_598 : decode code 598 = .ok (.iload_n 3, 1) := by decide +kernel
theorem d_LW_599 : decode code 599 = .ok (.iconst 1, 1) := by decide +kernel
theorem d_LW_600 : decode code 600 = .ok (.iadd, 1) := by decide +kernel
theorem d_LW_601 : decode code 601 = .ok (.iaload, 1) := by decide +kernel
theorem d_LW_602 : decode code 602 = .ok (.invokevirtual 72, 3) := by decide +kernel
theorem d_LW_605 : decode code 605 = .ok (.if_icmp .eq 796, 3) := by decide +kernel
theorem d_LW_608 : decode code 608 = .ok (.iconst 0, 1) := by decide +kernel
theorem d_LW_609 : decode code 609 = .ok (.ireturn, 1) := by decide +kernel
theorem d_LW_610 : decode code 610 = .ok (.aload_n 1, 1) := by decide +kernel
theorem d_LW_611 : decode code 611 = .ok (.aload_n 0, 1) := by decide +kernel
theorem d_LW_612 : decode code 612 = .ok (.iload_n 3, 1) := by decide +kernel
theorem d_LW_613 : decode code 613 = .ok (.iconst 1, 1) := by decide +kernel
theorem d_LW_614 : decode code 614 = .ok (.iadd, 1) := by decide +kernel
theorem d_LW_615 : decode code 615 = .ok (.iaload, 1) := by decide +kernel
theorem d_LW_616 : decode code 616 = .ok (.invokevirtual 73, 3) := by decide +kernel
theorem d_LW_619 : decode code 619 = .ok (.aload_n 2, 1) := by decide +kernel
theorem d_LW_620 : decode code 620 = .ok (.aload_n 0, 1) := by decide +kernel
theorem d_LW_621 : decode code 621 = .ok (.iload_n 3, 1) := by decide +kernel
theorem d_LW_622 : decode code 622 = .ok (.iconst 1, 1) := by decide +kernel
theorem d_LW_623 : decode code 623 = .ok (.iadd, 1) := by decide +kernel
theorem d_LW_624 : decode code 624 = .ok (.iaload, 1) := by decide +kernel
theorem d_LW_625 : decode code 625 = .ok (.invokevirtual 76, 3) := by decide +kernel
theorem d_LW_628 : decode code 628 = .ok (.if_icmp .eq 773, 3) := by decide +kernel
theorem d_LW_631 : decode code 631 = .ok (.iconst 0, 1) := by decide +kernel
theorem d_LW_632 : decode code 632 = .ok (.ireturn, 1) := by decide +kernel
theorem d_LW_633 : decode code 633 = .ok (.aload_n 1, 1) := by decide +kernel
theorem d_LW_634 : decode code 634 = .ok (.aload_n 0, 1) := by decide +kernel
theorem d_LW_635 : decode code 635 = .ok (.iload_n 3, 1) := by decide +kernel
theorem d_LW_636 : decode code 636 = .ok (.iconst 1, 1) := by decide +kernel
theorem d_LW_637 : decode code 637 = .ok (.iadd, 1) := by decide +kernel
theorem d_LW_638 : decode code 638 = .ok (.iaload, 1) := by decide +kernel
theorem d_LW_639 : decode code 639 = .ok (.aload_n 0, 1) := by decide +kernel
theorem d_LW_640 : decode code 640 = .ok (.iload_n 3, 1) := by decide +kernel
theorem d_LW_641 : decode code 641 = .ok (.iconst 2, 1) := by decide +kernel
theorem d_LW_642 : decode code 642 = .ok (.iadd, 1) := by decide +kernel
theorem d_LW_643 : decode code 643 = .ok (.iaload, 1) := by decide +kernel
theorem d_LW_644 : decode code 644 = .ok (.invokevirtual 77, 3) := by decide +kernel
theorem d_LW_647 : decode code 647 = .ok (.aload_n 2, 1) := by decide +kernel
theorem d_LW_648 : decode code 648 = .ok (.aload_n 0, 1) := by decide +kernel
theorem d_LW_649 : decode code 649 = .ok (.iload_n 3, 1) := by decide +kernel
theorem d_LW_650 : decode code 650 = .ok (.iconst 1, 1) := by decide +kernel
theorem d_LW_651 : decode code 651 = .ok (.iadd, 1) := by decide +kernel
theorem d_LW_652 : decode code 652 = .ok (.iaload, 1) := by decide +kernel
theorem d_LW_653 : decode code 653 = .ok (.aload_n 0, 1) := by decide +kernel
theorem d_LW_654 : decode code 654 = .ok (.iload_n 3, 1) := by decide +kernel
theorem d_LW_655 : decode code 655 = .ok (.iconst 2, 1) := by decide +kernel
theorem d_LW_656 : decode code 656 = .ok (.iadd, 1) := by decide +kernel
theorem d_LW_657 : decode code 657 = .ok (.iaload, 1) := by decide +kernel
theorem d_LW_658 : decode code 658 = .ok (.invokevirtual 80, 3) := by decide +kernel
theorem d_LW_661 : decode code 661 = .ok (.if_icmp .eq 740, 3) := by decide +kernel
theorem d_LW_664 : decode code 664 = .ok (.iconst 0, 1) := by decide +kernel
theorem d_LW_665 : decode code 665 = .ok (.ireturn, 1) := by decide +kernel
theorem d_LW_666 : decode code 666 = .ok (.aload_n 1, 1) := by decide +kernel
theorem d_LW_667 : decode code 667 = .ok (.aload_n 0, 1) := by decide +kernel
theorem d_LW_668 : decode code 668 = .ok (.iload_n 3, 1) := by decide +kernel
theorem d_LW_669 : decode code 669 = .ok (.iconst 1, 1) := by decide +kernel
theorem d_LW_670 : decode code 670 = .ok (.iadd, 1) := by decide +kernel
theorem d_LW_671 : decode code 671 = .ok (.iaload, 1) := by decide +kernel
theorem d_LW_672 : decode code 672 = .ok (.invokevirtual 81, 3) := by decide +kernel
theorem d_LW_675 : decode code 675 = .ok (.aload_n 2, 1) := by decide +kernel
theorem d_LW_676 : decode code 676 = .ok (.aload_n 0, 1) := by decide +kernel
theorem d_LW_677 : decode code 677 = .ok (.iload_n 3, 1) := by decide +kernel
theorem d_LW_678 : decode code 678 = .ok (.iconst 1, 1) := by decide +kernel
theorem d_LW_679 : decode code 679 = .ok (.iadd, 1) := by decide +kernel
theorem d_LW_680 : decode code 680 = .ok (.iaload, 1) := by decide +kernel
theorem d_LW_681 : decode code 681 = .ok (.invokevirtual 84, 3) := by decide +kernel
theorem d_LW_684 : decode code 684 = .ok (.if_icmp .eq 717, 3) := by decide +kernel
theorem d_LW_687 : decode code 687 = .ok (.iconst 0, 1) := by decide +kernel
theorem d_LW_688 : decode code 688 = .ok (.ireturn, 1) := by decide +kernel
theorem d_LW_689 : decode code 689 = .ok (.aload_n 1, 1) := by decide +kernel
theorem d_LW_690 : decode code 690 = .ok (.aload_n 0, 1) := by decide +kernel
theorem d_LW_691 : decode code 691 = .ok (.iload_n 3, 1) := by decide +kernel
theorem d_LW_692 : decode code 692 = .ok (.iconst 1, 1) := by decide +kernel
theorem d_LW_693 : decode code 693 = .ok (.iadd, 1) := by decide +kernel
theorem d_LW_694 : decode code 694 = .ok (.iaload, 1) := by decide +kernel
theorem d_LW_695 : decode code 695 = .ok (.aload_n 0, 1) := by decide +kernel
theorem d_LW_696 : decode code 696 = .ok (.iload_n 3, 1) := by decide +kernel
theorem d_LW_697 : decode code 697 = .ok (.iconst 2, 1) := by decide +kernel
theorem d_LW_698 : decode code 698 = .ok (.iadd, 1) := by decide +kernel
theorem d_LW_699 : decode code 699 = .ok (.iaload, 1) := by decide +kernel
theorem d_LW_700 : decode code 700 = .ok (.invokevirtual 85, 3) := by decide +kernel
theorem d_LW_703 : decode code 703 = .ok (.aload_n 2, 1) := by decide +kernel
theorem d_LW_704 : decode code 704 = .ok (.aload_n 0, 1) := by decide +kernel
theorem d_LW_705 : decode code 705 = .ok (.iload_n 3, 1) := by decide +kernel
theorem d_LW_706 : decode code 706 = .ok (.iconst 1, 1) := by decide +kernel
theorem d_LW_707 : decode code 707 = .ok (.iadd, 1) := by decide +kernel
theorem d_LW_708 : decode code 708 = .ok (.iaload, 1) := by decide +kernel
theorem d_LW_709 : decode code 709 = .ok (.aload_n 0, 1) := by decide +kernel
theorem d_LW_710 : decode code 710 = .ok (.iload_n 3, 1) := by decide +kernel
theorem d_LW_711 : decode code 711 = .ok (.iconst 2, 1) := by decide +kernel
theorem d_LW_712 : decode code 712 = .ok (.iadd, 1) := by decide +kernel
theorem d_LW_713 : decode code 713 = .ok (.iaload, 1) := by decide +kernel
theorem d_LW_714 : decode code 714 = .ok (.invokevirtual 88, 3) := by decide +kernel
theorem d_LW_717 : decode code 717 = .ok (.if_icmp .eq 684, 3) := by decide +kernel
theorem d_LW_720 : decode code 720 = .ok (.iconst 0, 1) := by decide +kernel
theorem d_LW_721 : decode code 721 = .ok (.ireturn, 1) := by decide +kernel
theorem d_LW_722 : decode code 722 = .ok (.aload_n 1, 1) := by decide +kernel
theorem d_LW_723 : decode code 723 = .ok (.aload_n 0, 1) := by decide +kernel
theorem d_LW_724 : decode code 724 = .ok (.iload_n 3, 1) := by decide +kernel
theorem d_LW_725 : decode code 725 = .ok (.iconst 1, 1) := by decide +kernel
theorem d_LW_726 : decode code 726 = .ok (.iadd, 1) := by decide +kernel
theorem d_LW_727 : decode code 727 = .ok (.iaload, 1) := by decide +kernel
theorem d_LW_728 : decode code 728 = .ok (.invokevirtual 89, 3) := by decide +kernel
theorem d_LW_731 : decode code 731 = .ok (.aload_n 2, 1) := by decide +kernel
theorem d_LW_732 : decode code 732 = .ok (.aload_n 0, 1) := by decide +kernel
theorem d_LW_733 : decode code 733 = .ok (.iload_n 3, 1) := by decide +kernel
theorem d_LW_734 : decode code 734 = .ok (.iconst 1, 1) := by decide +kernel
theorem d_LW_735 : decode code 735 = .ok (.iadd, 1) := by decide +kernel
theorem d_LW_736 : decode code 736 = .ok (.iaload, 1) := by decide +kernel
theorem d_LW_737 : decode code 737 = .ok (.invokevirtual 92, 3) := by decide +kernel
theorem d_LW_740 : decode code 740 = .ok (.if_icmp .eq 661, 3) := by decide +kernel
theorem d_LW_743 : decode code 743 = .ok (.iconst 0, 1) := by decide +kernel
theorem d_LW_744 : decode code 744 = .ok (.ireturn, 1) := by decide +kernel
theorem d_LW_745 : decode code 745 = .ok (.aload_n 1, 1) := by decide +kernel
theorem d_LW_746 : decode code 746 = .ok (.aload_n 0, 1) := by decide +kernel
theorem d_LW_747 : decode code 747 = .ok (.iload_n 3, 1) := by decide +kernel
theorem d_LW_748 : decode code 748 = .ok (.iconst 1, 1) := by decide +kernel
theorem d_LW_749 : decode code 749 = .ok (.iadd, 1) := by decide +kernel
theorem d_LW_750 : decode code 750 = .ok (.iaload, 1) := by decide +kernel
theorem d_LW_751 : decode code 751 = .ok (.invokevirtual 93, 3) := by decide +kernel
theorem d_LW_754 : decode code 754 = .ok (.aload_n 2, 1) := by decide +kernel
theorem d_LW_755 : decode code 755 = .ok (.aload_n 0, 1) := by decide +kernel
theorem d_LW_756 : decode code 756 = .ok (.iload_n 3, 1) := by decide +kernel
theorem d_LW_757 : decode code 757 = .ok (.iconst 1, 1) := by decide +kernel
theorem d_LW_758 : decode code 758 = .ok (.iadd, 1) := by decide +kernel
theorem d_LW_759 : decode code 759 = .ok (.iaload, 1) := by decide +kernel
theorem d_LW_760 : decode code 760 = .ok (.invokevirtual 96, 3) := by decide +kernel
theorem d_LW_763 : decode code 763 = .ok (.if_icmp .eq 638, 3) := by decide +kernel
theorem d_LW_766 : decode code 766 = .ok (.iconst 0, 1) := by decide +kernel
theorem d_LW_767 : decode code 767 = .ok (.ireturn, 1) := by decide +kernel
theorem d_LW_768 : decode code 768 = .ok (.aload_n 1, 1) := by decide +kernel
theorem d_LW_769 : decode code 769 = .ok (.aload_n 0, 1) := by decide +kernel
theorem d_LW_770 : decode code 770 = .ok (.iload_n 3, 1) := by decide +kernel
theorem d_LW_771 : decode code 771 = .ok (.iconst 1, 1) := by decide +kernel
theorem d_LW_772 : decode code 772 = .ok (.iadd, 1) := by decide +kernel
theorem d_LW_773 : decode code 773 = .ok (.iaload, 1) := by decide +kernel
theorem d_LW_774 : decode code 774 = .ok (.aload_n 0, 1) := by decide +kernel
theorem d_LW_775 : decode code 775 = .ok (.iload_n 3, 1) := by decide +kernel
theorem d_LW_776 : decode code 776 = .ok (.iconst 2, 1) := by decide +kernel
theorem d_LW_777 : decode code 777 = .ok (.iadd, 1) := by decide +kernel
theorem d_LW_778 : decode code 778 = .ok (.iaload, 1) := by decide +kernel
theorem d_LW_779 : decode code 779 = .ok (.invokevirtual 97, 3) := by decide +kernel
theorem d_LW_782 : decode code 782 = .ok (.aload_n 2, 1) := by decide +kernel
theorem d_LW_783 : decode code 783 = .ok (.aload_n 0, 1) := by decide +kernel
theorem d_LW_784 : decode code 784 = .ok (.iload_n 3, 1) := by decide +kernel
theorem d_LW_785 : decode code 785 = .ok (.iconst 1, 1) := by decide +kernel
theorem d_LW_786 : decode code 786 = .ok (.iadd, 1) := by decide +kernel
theorem d_LW_787 : decode code 787 = .ok (.iaload, 1) := by decide +kernel
theorem d_LW_788 : decode code 788 = .ok (.aload_n 0, 1) := by decide +kernel
theorem d_LW_789 : decode code 789 = .ok (.iload_n 3, 1) := by decide +kernel
theorem d_LW_790 : decode code 790 = .ok (.iconst 2, 1) := by decide +kernel
theorem d_LW_791 : decode code 791 = .ok (.iadd, 1) := by decide +kernel
theorem d_LW_792 : decode code 792 = .ok (.iaload, 1) := by decide +kernel
theorem d_LW_793 : decode code 793 = .ok (.invokevirtual 100, 3) := by decide +kernel
theorem d_LW_796 : decode code 796 = .ok (.if_icmp .eq 605, 3) := by decide +kernel
theorem d_LW_799 : decode code 799 = .ok (.iconst 0, 1) := by decide +kernel
theorem d_LW_800 : decode code 800 = .ok (.ireturn, 1) := by decide +kernel
theorem d_LW_801 : decode code 801 = .ok (.aload_n 1, 1) := by decide +kernel
theorem d_LW_802 : decode code 802 = .ok (.aload_n 0, 1) := by decide +kernel
theorem d_LW_803 : decode code 803 = .ok (.iload_n 3, 1) := by decide +kernel
theorem d_LW_804 : decode code 804 = .ok (.iconst 1, 1) := by decide +kernel
theorem d_LW_805 : decode code 805 = .ok (.iadd, 1) := by decide +kernel
theorem d_LW_806 : decode code 806 = .ok (.iaload, 1) := by decide +kernel
theorem d_LW_807 : decode code 807 = .ok (.aload_n 0, 1) := by decide +kernel
theorem d_LW_808 : decode code 808 = .ok (.iload_n 3, 1) := by decide +kernel
theorem d_LW_809 : decode code 809 = .ok (.iconst 2, 1) := by decide +kernel
theorem d_LW_810 : decode code 810 = .ok (.iadd, 1) := by decide +kernel
theorem d_LW_811 : decode code 811 = .ok (.iaload, 1) := by decide +kernel
theorem d_LW_812 : decode code 812 = .ok (.aload_n 0, 1) := by decide +kernel
theorem d_LW_813 : decode code 813 = .ok (.iload_n 3, 1) := by decide +kernel
theorem d_LW_814 : decode code 814 = .ok (.iconst 3, 1) := by decide +kernel
theorem d_LW_815 : decode code 815 = .ok (.iadd, 1) := by decide +kernel
theorem d_LW_816 : decode code 816 = .ok (.iaload, 1) := by decide +kernel
theorem d_LW_817 : decode code 817 = .ok (.invokevirtual 101, 3) := by decide +kernel
theorem d_LW_820 : decode code 820 = .ok (.aload_n 2, 1) := by decide +kernel
theorem d_LW_821 : decode code 821 = .ok (.aload_n 0, 1) := by decide +kernel
theorem d_LW_822 : decode code 822 = .ok (.iload_n 3, 1) := by decide +kernel
theorem d_LW_823 : decode code 823 = .ok (.iconst 1, 1) := by decide +kernel
theorem d_LW_824 : decode code 824 = .ok (.iadd, 1) := by decide +kernel
theorem d_LW_825 : decode code 825 = .ok (.iaload, 1) := by decide +kernel
theorem d_LW_826 : decode code 826 = .ok (.aload_n 0, 1) := by decide +kernel
theorem d_LW_827 : decode code 827 = .ok (.iload_n 3, 1) := by decide +kernel
theorem d_LW_828 : decode code 828 = .ok (.iconst 2, 1) := by decide +kernel
theorem d_LW_829 : decode code 829 = .ok (.iadd, 1) := by decide +kernel
theorem d_LW_830 : decode code 830 = .ok (.iaload, 1) := by decide +kernel
theorem d_LW_831 : decode code 831 = .ok (.aload_n 0, 1) := by decide +kernel
theorem d_LW_832 : decode code 832 = .ok (.iload_n 3, 1) := by decide +kernel
theorem d_LW_833 : decode code 833 = .ok (.iconst 3, 1) := by decide +kernel
theorem d_LW_834 : decode code 834 = .ok (.iadd, 1) := by decide +kernel
theorem d_LW_835 : decode code 835 = .ok (.iaload, 1) := by decide +kernel
theorem d_LW_836 : decode code 836 = .ok (.invokevirtual 104, 3) := by decide +kernel
theorem d_LW_839 : decode code 839 = .ok (.if_icmp .eq 562, 3) := by decide +kernel
theorem d_LW_842 : decode code 842 = .ok (.iconst 0, 1) := by decide +kernel
theorem d_LW_843 : decode code 843 = .ok (.ireturn, 1) := by decide +kernel
theorem d_LW_844 : decode code 844 = .ok (.aload_n 1, 1) := by decide +kernel
theorem d_LW_845 : decode code 845 = .ok (.aload_n 0, 1) := by decide +kernel
theorem d_LW_846 : decode code 846 = .ok (.iload_n 3, 1) := by decide +kernel
theorem d_LW_847 : decode code 847 = .ok (.iconst 1, 1) := by decide +kernel
theorem d_LW_848 : decode code 848 = .ok (.iadd, 1) := by decide +kernel
theorem d_LW_849 : decode code 849 = .ok (.iaload, 1) := by decide +kernel
theorem d_LW_850 : decode code 850 = .ok (.invokevirtual 105, 3) := by decide +kernel
theorem d_LW_853 : decode code 853 = .ok (.aload_n 2, 1) := by decide +kernel
theorem d_LW_854 : decode code 854 = .ok (.aload_n 0, 1) := by decide +kernel
theorem d_LW_855 : decode code 855 = .ok (.iload_n 3, 1) := by decide +kernel
theorem d_LW_856 : decode code 856 = .ok (.iconst 1, 1) := by decide +kernel
theorem d_LW_857 : decode code 857 = .ok (.iadd, 1) := by decide +kernel
theorem d_LW_858 : decode code 858 = .ok (.iaload, 1) := by decide +kernel
theorem d_LW_859 : decode code 859 = .ok (.invokevirtual 108, 3) := by decide +kernel
theorem d_LW_862 : decode code 862 = .ok (.if_icmp .eq 539, 3) := by decide +kernel
theorem d_LW_865 : decode code 865 = .ok (.iconst 0, 1) := by decide +kernel
theorem d_LW_866 : decode code 866 = .ok (.ireturn, 1) := by decide +kernel
theorem d_LW_867 : decode code 867 = .ok (.aload_n 1, 1) := by decide +kernel
theorem d_LW_868 : decode code 868 = .ok (.aload_n 0, 1) := by decide +kernel
theorem d_LW_869 : decode code 869 = .ok (.iload_n 3, 1) := by decide +kernel
theorem d_LW_870 : decode code 870 = .ok (.iconst 1, 1) := by decide +kernel
theorem d_LW_871 : decode code 871 = .ok (.iadd, 1) := by decide +kernel
theorem d_LW_872 : decode code 872 = .ok (.iaload, 1) := by decide +kernel
theorem d_LW_873 : decode code 873 = .ok (.invokevirtual 109, 3) := by decide +kernel
theorem d_LW_876 : decode code 876 = .ok (.aload_n 2, 1) := by decide +kernel
theorem d_LW_877 : decode code 877 = .ok (.aload_n 0, 1) := by decide +kernel
theorem d_LW_878 : decode code 878 = .ok (.iload_n 3, 1) := by decide +kernel
theorem d_LW_879 : decode code 879 = .ok (.iconst 1, 1) := by decide +kernel
theorem d_LW_880 : decode code 880 = .ok (.iadd, 1) := by decide +kernel
theorem d_LW_881 : decode code 881 = .ok (.iaload, 1) := by decide +kernel
theorem d_LW_882 : decode code 882 = .ok (.invokevirtual 112, 3) := by decide +kernel
theorem d_LW_885 : decode code 885 = .ok (.if_icmp .eq 516, 3) := by decide +kernel
theorem d_LW_888 : decode code 888 = .ok (.iconst 0, 1) := by decide +kernel
theorem d_LW_889 : decode code 889 = .ok (.ireturn, 1) := by decide +kernel
theorem d_LW_890 : decode code 890 = .ok (.aload_n 1, 1) := by decide +kernel
theorem d_LW_891 : decode code 891 = .ok (.aload_n 0, 1) := by decide +kernel
theorem d_LW_892 : decode code 892 = .ok (.iload_n 3, 1) := by decide +kernel
theorem d_LW_893 : decode code 893 = .ok (.iconst 1, 1) := by decide +kernel
theorem d_LW_894 : decode code 894 = .ok (.iadd, 1) := by decide +kernel
theorem d_LW_895 : decode code 895 = .ok (.iaload, 1) := by decide +kernel
theorem d_LW_896 : decode code 896 = .ok (.invokevirtual 113, 3) := by decide +kernel
theorem d_LW_899 : decode code 899 = .ok (.aload_n 2, 1) := by decide +kernel
theorem d_LW_900 : decode code 900 = .ok (.aload_n 0, 1) := by decide +kernel
theorem d_LW_901 : decode code 901 = .ok (.iload_n 3, 1) := by decide +kernel
theorem d_LW_902 : decode code 902 = .ok (.iconst 1, 1) := by decide +kernel
theorem d_LW_903 : decode code 903 = .ok (.iadd, 1) := by decide +kernel
theorem d_LW_904 : decode code 904 = .ok (.iaload, 1) := by decide +kernel
theorem d_LW_905 : decode code 905 = .ok (.invokevirtual 116, 3) := by decide +kernel
theorem d_LW_908 : decode code 908 = .ok (.if_icmp .eq 493, 3) := by decide +kernel
theorem d_LW_911 : decode code 911 = .ok (.iconst 0, 1) := by decide +kernel
theorem d_LW_912 : decode code 912 = .ok (.ireturn, 1) := by decide +kernel
theorem d_LW_913 : decode code 913 = .ok (.aload_n 1, 1) := by decide +kernel
theorem d_LW_914 : decode code 914 = .ok (.aload_n 0, 1) := by decide +kernel
theorem d_LW_915 : decode code 915 = .ok (.iload_n 3, 1) := by decide +kernel
theorem d_LW_916 : decode code 916 = .ok (.iconst 1, 1) := by decide +kernel
theorem d_LW_917 : decode code 917 = .ok (.iadd, 1) := by decide +kernel
theorem d_LW_918 : decode code 918 = .ok (.iaload, 1) := by decide +kernel
theorem d_LW_919 : decode code 919 = .ok (.aload_n 0, 1) := by decide +kernel
theorem d_LW_920 : decode code 920 = .ok (.iload_n 3, 1) := by decide +kernel
theorem d_LW_921 : decode code 921 = .ok (.iconst 2, 1) := by decide +kernel
theorem d_LW_922 : decode code 922 = .ok (.iadd, 1) := by decide +kernel
theorem d_LW_923 : decode code 923 = .ok (.iaload, 1) := by decide +kernel
theorem d_LW_924 : decode code 924 = .ok (.invokevirtual 117, 3) := by decide +kernel
theorem d_LW_927 : decode code 927 = .ok (.aload_n 2, 1) := by decide +kernel
theorem d_LW_928 : decode code 928 = .ok (.aload_n 0, 1) := by decide +kernel
theorem d_LW_929 : decode code 929 = .ok (.iload_n 3, 1) := by decide +kernel
theorem d_LW_930 : decode code 930 = .ok (.iconst 1, 1) := by decide +kernel
theorem d_LW_931 : decode code 931 = .ok (.iadd, 1) := by decide +kernel
theorem d_LW_932 : decode code 932 = .ok (.iaload, 1) := by decide +kernel
theorem d_LW_933 : decode code 933 = .ok (.aload_n 0, 1) := by decide +kernel
theorem d_LW_934 : decode code 934 = .ok (.iload_n 3, 1) := by decide +kernel
theorem d_LW_935 : decode code 935 = .ok (.iconst 2, 1) := by decide +kernel
theorem d_LW_936 : decode code 936 = .ok (.iadd, 1) := by decide +kernel
theorem d_LW_937 : decode code 937 = .ok (.iaload, 1) := by decide +kernel
theorem d_LW_938 : decode code 938 = .ok (.invokevirtual 121, 3) := by decide +kernel
theorem d_LW_941 : decode code 941 = .ok (.lcmp, 1) := by decide +kernel
theorem d_LW_942 : decode code 942 = .ok (.ifCond .eq 459, 3) := by decide +kernel
theorem d_LW_945 : decode code 945 = .ok (.iconst 0, 1) := by decide +kernel
theorem d_LW_946 : decode code 946 = .ok (.ireturn, 1) := by decide +kernel
theorem d_LW_947 : decode code 947 = .ok (.aload_n 1, 1) := by decide +kernel
theorem d_LW_948 : decode code 948 = .ok (.aload_n 0, 1) := by decide +kernel
theorem d_LW_949 : decode code 949 = .ok (.iload_n 3, 1) := by decide +kernel
theorem d_LW_950 : decode code 950 = .ok (.iconst 1, 1) := by decide +kernel
theorem d_LW_951 : decode code 951 = .ok (.iadd, 1) := by decide +kernel
theorem d_LW_952 : decode code 952 = .ok (.iaload, 1) := by decide +kernel
theorem d_LW_953 : decode code 953 = .ok (.invokevirtual 122, 3) := by decide +kernel
theorem d_LW_956 : decode code 956 = .ok (.aload_n 2, 1) := by decide +kernel
theorem d_LW_957 : decode code 957 = .ok (.aload_n 0, 1) := by decide +kernel
theorem d_LW_958 : decode code 958 = .ok (.iload_n 3, 1) := by decide +kernel
theorem d_LW_959 : decode code 959 = .ok (.iconst 1, 1) := by decide +kernel
theorem d_LW_960 : decode code 960 = .ok (.iadd, 1) := by decide +kernel
theorem d_LW_961 : decode code 961 = .ok (.iaload, 1) := by decide +kernel
theorem d_LW_962 : decode code 962 = .ok (.invokevirtual 125, 3) := by decide +kernel
theorem d_LW_965 : decode code 965 = .ok (.if_icmp .eq 436, 3) := by decide +kernel
theorem d_LW_968 : decode code 968 = .ok (.iconst 0, 1) := by decide +kernel
theorem d_LW_969 : decode code 969 = .ok (.ireturn, 1) := by decide +kernel
theorem d_LW_970 : decode code 970 = .ok (.aload_n 1, 1) := by decide +kernel
theorem d_LW_971 : decode code 971 = .ok (.aload_n 0, 1) := by decide +kernel
theorem d_LW_972 : decode code 972 = .ok (.iload_n 3, 1) := by decide +kernel
theorem d_LW_973 : decode code 973 = .ok (.iconst 1, 1) := by decide +kernel
theorem d_LW_974 : decode code 974 = .ok (.iadd, 1) := by decide +kernel
theorem d_LW_975 : decode code 975 = .ok (.iaload, 1) := by decide +kernel
theorem d_LW_976 : decode code 976 = .ok (.aload_n 0, 1) := by decide +kernel
theorem d_LW_977 : decode code 977 = .ok (.iload_n 3, 1) := by decide +kernel
theorem d_LW_978 : decode code 978 = .ok (.iconst 2, 1) := by decide +kernel
theorem d_LW_979 : decode code 979 = .ok (.iadd, 1) := by decide +kernel
theorem d_LW_980 : decode code 980 = .ok (.iaload, 1) := by decide +kernel
theorem d_LW_981 : decode code 981 = .ok (.invokevirtual 126, 3) := by decide +kernel
theorem d_LW_984 : decode code 984 = .ok (.aload_n 2, 1) := by decide +kernel
theorem d_LW_985 : decode code 985 = .ok (.aload_n 0, 1) := by decide +kernel
theorem d_LW_986 : decode code 986 = .ok (.iload_n 3, 1) := by decide +kernel
theorem d_LW_987 : decode code 987 = .ok (.iconst 1, 1) := by decide +kernel
theorem d_LW_988 : decode code 988 = .ok (.iadd, 1) := by decide +kernel
theorem d_LW_989 : decode code 989 = .ok (.iaload, 1) := by decide +kernel
theorem d_LW_990 : decode code 990 = .ok (.aload_n 0, 1) := by decide +kernel
theorem d_LW_991 : decode code 991 = .ok (.iload_n 3, 1) := by decide +kernel
theorem d_LW_992 : decode code 992 = .ok (.iconst 2, 1) := by decide +kernel
theorem d_LW_993 : decode code 993 = .ok (.iadd, 1) := by decide +kernel
theorem d_LW_994 : decode code 994 = .ok (.iaload, 1) := by decide +kernel
theorem d_LW_995 : decode code 995 = .ok (.invokevirtual 129, 3) := by decide +kernel
theorem d_LW_998 : decode code 998 = .ok (.if_icmp .eq 403, 3) := by decide +kernel
theorem d_LW_1001 : decode code 1001 = .ok (.iconst 0, 1) := by decide +kernel
theorem d_LW_1002 : decode code 1002 = .ok (.ireturn, 1) := by decide +kernel
theorem d_LW_1003 : decode code 1003 = .ok (.aload_n 1, 1) := by decide +kernel
theorem d_LW_1004 : decode code 1004 = .ok (.invokevirtual 130, 3) := by decide +kernel
theorem d_LW_1007 : decode code 1007 = .ok (.aload_n 2, 1) := by decide +kernel
theorem d_LW_1008 : decode code 1008 = .ok (.invokevirtual 133, 3) := by decide +kernel
theorem d_LW_1011 : decode code 1011 = .ok (.if_icmp .eq 390, 3) := by decide +kernel
theorem d_LW_1014 : decode code 1014 = .ok (.iconst 0, 1) := by decide +kernel
theorem d_LW_1015 : decode code 1015 = .ok (.ireturn, 1) := by decide +kernel
theorem d_LW_1016 : decode code 1016 = .ok (.aload_n 1, 1) := by decide +kernel
theorem d_LW_1017 : decode code 1017 = .ok (.aload_n 0, 1) := by decide +kernel
theorem d_LW_1018 : decode code 1018 = .ok (.iload_n 3, 1) := by decide +kernel
theorem d_LW_1019 : decode code 1019 = .ok (.iconst 1, 1) := by decide +kernel
