/-! the law's instructions (printed by wip/gen/g99d.py) -/
theorem dl_650 : decode code 650 = .ok (.iaload, 1) := by decide +kernel
theorem dl_651 : decode code 651 = .ok (.aload_n 0, 1) := by decide +kernel
theorem dl_652 : decode code 652 = .ok (.iload_n 3, 1) := by decide +kernel
theorem dl_653 : decode code 653 = .ok (.iconst 2, 1) := by decide +kernel
theorem dl_654 : decode code 654 = .ok (.iadd, 1) := by decide +kernel
theorem dl_655 : decode code 655 = .ok (.iaload, 1) := by decide +kernel
theorem dl_656 : decode code 656 = .ok (.invokevirtual 73, 3) := by decide +kernel
theorem dl_659 : decode code 659 = .ok (.if_icmp .eq 892, 3) := by decide +kernel
theorem dl_662 : decode code 662 = .ok (.iconst 0, 1) := by decide +kernel
theorem dl_663 : decode code 663 = .ok (.ireturn, 1) := by decide +kernel
theorem dl_664 : decode code 664 = .ok (.aload_n 1, 1) := by decide +kernel
theorem dl_665 : decode code 665 = .ok (.invokevirtual 74, 3) := by decide +kernel
theorem dl_668 : decode code 668 = .ok (.aload_n 2, 1) := by decide +kernel
theorem dl_669 : decode code 669 = .ok (.invokevirtual 77, 3) := by decide +kernel
theorem dl_672 : decode code 672 = .ok (.if_icmp .eq 879, 3) := by decide +kernel
theorem dl_675 : decode code 675 = .ok (.iconst 0, 1) := by decide +kernel
theorem dl_676 : decode code 676 = .ok (.ireturn, 1) := by decide +kernel
theorem dl_677 : decode code 677 = .ok (.aload_n 1, 1) := by decide +kernel
theorem dl_678 : decode code 678 = .ok (.aload_n 0, 1) := by decide +kernel
theorem dl_679 : decode code 679 = .ok (.iload_n 3, 1) := by decide +kernel
theorem dl_680 : decode code 680 = .ok (.iconst 1, 1) := by decide +kernel
theorem dl_681 : decode code 681 = .ok (.iadd, 1) := by decide +kernel
theorem dl_682 : decode code 682 = .ok (.iaload, 1) := by decide +kernel
theorem dl_683 : decode code 683 = .ok (.invokevirtual 78, 3) := by decide +kernel
theorem dl_686 : decode code 686 = .ok (.aload_n 2, 1) := by decide +kernel
theorem dl_687 : decode code 687 = .ok (.aload_n 0, 1) := by decide +kernel
theorem dl_688 : decode code 688 = .ok (.iload_n 3, 1) := by decide +kernel
theorem dl_689 : decode code 689 = .ok (.iconst 1, 1) := by decide +kernel
theorem dl_690 : decode code 690 = .ok (.iadd, 1) := by decide +kernel
theorem dl_691 : decode code 691 = .ok (.iaload, 1) := by decide +kernel
theorem dl_692 : decode code 692 = .ok (.invokevirtual 81, 3) := by decide +kernel
theorem dl_695 : decode code 695 = .ok (.if_icmp .eq 856, 3) := by decide +kernel
theorem dl_698 : decode code 698 = .ok (.iconst 0, 1) := by decide +kernel
theorem dl_699 : decode code 699 = .ok (.ireturn, 1) := by decide +kernel
theorem dl_700 : decode code 700 = .ok (.aload_n 1, 1) := by decide +kernel
theorem dl_701 : decode code 701 = .ok (.aload_n 0, 1) := by decide +kernel
theorem dl_702 : decode code 702 = .ok (.iload_n 3, 1) := by decide +kernel
theorem dl_703 : decode code 703 = .ok (.iconst 1, 1) := by decide +kernel
theorem dl_704 : decode code 704 = .ok (.iadd, 1) := by decide +kernel
theorem dl_705 : decode code 705 = .ok (.iaload, 1) := by decide +kernel
theorem dl_706 : decode code 706 = .ok (.invokevirtual 82, 3) := by decide +kernel
theorem dl_709 : decode code 709 = .ok (.aload_n 2, 1) := by decide +kernel
theorem dl_710 : decode code 710 = .ok (.aload_n 0, 1) := by decide +kernel
theorem dl_711 : decode code 711 = .ok (.iload_n 3, 1) := by decide +kernel
theorem dl_712 : decode code 712 = .ok (.iconst 1, 1) := by decide +kernel
theorem dl_713 : decode code 713 = .ok (.iadd, 1) := by decide +kernel
theorem dl_714 : decode code 714 = .ok (.iaload, 1) := by decide +kernel
theorem dl_715 : decode code 715 = .ok (.invokevirtual 85, 3) := by decide +kernel
theorem dl_718 : decode code 718 = .ok (.if_icmp .eq 833, 3) := by decide +kernel
theorem dl_721 : decode code 721 = .ok (.iconst 0, 1) := by decide +kernel
theorem dl_722 : decode code 722 = .ok (.ireturn, 1) := by decide +kernel
theorem dl_723 : decode code 723 = .ok (.aload_n 1, 1) := by decide +kernel
theorem dl_724 : decode code 724 = .ok (.aload_n 0, 1) := by decide +kernel
theorem dl_725 : decode code 725 = .ok (.iload_n 3, 1) := by decide +kernel
theorem dl_726 : decode code 726 = .ok (.iconst 1, 1) := by decide +kernel
theorem dl_727 : decode code 727 = .ok (.iadd, 1) := by decide +kernel
theorem dl_728 : decode code 728 = .ok (.iaload, 1) := by decide +kernel
theorem dl_729 : decode code 729 = .ok (.aload_n 0, 1) := by decide +kernel
theorem dl_730 : decode code 730 = .ok (.iload_n 3, 1) := by decide +kernel
theorem dl_731 : decode code 731 = .ok (.iconst 2, 1) := by decide +kernel
theorem dl_732 : decode code 732 = .ok (.iadd, 1) := by decide +kernel
theorem dl_733 : decode code 733 = .ok (.iaload, 1) := by decide +kernel
theorem dl_734 : decode code 734 = .ok (.aload_n 0, 1) := by decide +kernel
theorem dl_735 : decode code 735 = .ok (.iload_n 3, 1) := by decide +kernel
theorem dl_736 : decode code 736 = .ok (.iconst 3, 1) := by decide +kernel
theorem dl_737 : decode code 737 = .ok (.iadd, 1) := by decide +kernel
theorem dl_738 : decode code 738 = .ok (.iaload, 1) := by decide +kernel
theorem dl_739 : decode code 739 = .ok (.invokevirtual 86, 3) := by decide +kernel
theorem dl_742 : decode code 742 = .ok (.aload_n 2, 1) := by decide +kernel
theorem dl_743 : decode code 743 = .ok (.aload_n 0, 1) := by decide +kernel
theorem dl_744 : decode code 744 = .ok (.iload_n 3, 1) := by decide +kernel
theorem dl_745 : decode code 745 = .ok (.iconst 1, 1) := by decide +kernel
theorem dl_746 : decode code 746 = .ok (.iadd, 1) := by decide +kernel
theorem dl_747 : decode code 747 = .ok (.iaload, 1) := by decide +kernel
theorem dl_748 : decode code 748 = .ok (.aload_n 0, 1) := by decide +kernel
theorem dl_749 : decode code 749 = .ok (.iload_n 3, 1) := by decide +kernel
theorem dl_750 : decode code 750 = .ok (.iconst 2, 1) := by decide +kernel
theorem dl_751 : decode code 751 = .ok (.iadd, 1) := by decide +kernel
theorem dl_752 : decode code 752 = .ok (.iaload, 1) := by decide +kernel
theorem dl_753 : decode code 753 = .ok (.aload_n 0, 1) := by decide +kernel
theorem dl_754 : decode code 754 = .ok (.iload_n 3, 1) := by decide +kernel
theorem dl_755 : decode code 755 = .ok (.iconst 3, 1) := by decide +kernel
theorem dl_756 : decode code 756 = .ok (.iadd, 1) := by decide +kernel
theorem dl_757 : decode code 757 = .ok (.iaload, 1) := by decide +kernel
theorem dl_758 : decode code 758 = .ok (.invokevirtual 89, 3) := by decide +kernel
theorem dl_761 : decode code 761 = .ok (.if_icmp .eq 790, 3) := by decide +kernel
theorem dl_764 : decode code 764 = .ok (.iconst 0, 1) := by decide +kernel
theorem dl_765 : decode code 765 = .ok (.ireturn, 1) := by decide +kernel
theorem dl_766 : decode code 766 = .ok (.aload_n 1, 1) := by decide +kernel
theorem dl_767 : decode code 767 = .ok (.aload_n 0, 1) := by decide +kernel
theorem dl_768 : decode code 768 = .ok (.iload_n 3, 1) := by decide +kernel
theorem dl_769 : decode code 769 = .ok (.iconst 1, 1) := by decide +kernel
theorem dl_770 : decode code 770 = .ok (.iadd, 1) := by decide +kernel
theorem dl_771 : decode code 771 = .ok (.iaload, 1) := by decide +kernel
theorem dl_772 : decode code 772 = .ok (.aload_n 0, 1) := by decide +kernel
theorem dl_773 : decode code 773 = .ok (.iload_n 3, 1) := by decide +kernel
theorem dl_774 : decode code 774 = .ok (.iconst 2, 1) := by decide +kernel
theorem dl_775 : decode code 775 = .ok (.iadd, 1) := by decide +kernel
theorem dl_776 : decode code 776 = .ok (.iaload, 1) := by decide +kernel
theorem dl_777 : decode code 777 = .ok (.invokevirtual 90, 3) := by decide +kernel
theorem dl_780 : decode code 780 = .ok (.aload_n 2, 1) := by decide +kernel
theorem dl_781 : decode code 781 = .ok (.aload_n 0, 1) := by decide +kernel
theorem dl_782 : decode code 782 = .ok (.iload_n 3, 1) := by decide +kernel
theorem dl_783 : decode code 783 = .ok (.iconst 1, 1) := by decide +kernel
theorem dl_784 : decode code 784 = .ok (.iadd, 1) := by decide +kernel
theorem dl_785 : decode code 785 = .ok (.iaload, 1) := by decide +kernel
theorem dl_786 : decode code 786 = .ok (.aload_n 0, 1) := by decide +kernel
theorem dl_787 : decode code 787 = .ok (.iload_n 3, 1) := by decide +kernel
theorem dl_788 : decode code 788 = .ok (.iconst 2, 1) := by decide +kernel
theorem dl_789 : decode code 789 = .ok (.iadd, 1) := by decide +kernel
theorem dl_790 : decode code 790 = .ok (.iaload, 1) := by decide +kernel
theorem dl_791 : decode code 791 = .ok (.invokevirtual 93, 3) := by decide +kernel
theorem dl_794 : decode code 794 = .ok (.if_icmp .eq 757, 3) := by decide +kernel
theorem dl_797 : decode code 797 = .ok (.iconst 0, 1) := by decide +kernel
theorem dl_798 : decode code 798 = .ok (.ireturn, 1) := by decide +kernel
theorem dl_799 : decode code 799 = .ok (.aload_n 1, 1) := by decide +kernel
theorem dl_800 : decode code 800 = .ok (.aload_n 0, 1) := by decide +kernel
theorem dl_801 : decode code 801 = .ok (.iload_n 3, 1) := by decide +kernel
theorem dl_802 : decode code 802 = .ok (.iconst 1, 1) := by decide +kernel
theorem dl_803 : decode code 803 = .ok (.iadd, 1) := by decide +kernel
theorem dl_804 : decode code 804 = .ok (.iaload, 1) := by decide +kernel
theorem dl_805 : decode code 805 = .ok (.invokevirtual 94, 3) := by decide +kernel
theorem dl_808 : decode code 808 = .ok (.aload_n 2, 1) := by decide +kernel
theorem dl_809 : decode code 809 = .ok (.aload_n 0, 1) := by decide +kernel
theorem dl_810 : decode code 810 = .ok (.iload_n 3, 1) := by decide +kernel
theorem dl_811 : decode code 811 = .ok (.iconst 1, 1) := by decide +kernel
theorem dl_812 : decode code 812 = .ok (.iadd, 1) := by decide +kernel
theorem dl_813 : decode code 813 = .ok (.iaload, 1) := by decide +kernel
theorem dl_814 : decode code 814 = .ok (.invokevirtual 97, 3) := by decide +kernel
theorem dl_817 : decode code 817 = .ok (.if_icmp .eq 734, 3) := by decide +kernel
theorem dl_820 : decode code 820 = .ok (.iconst 0, 1) := by decide +kernel
theorem dl_821 : decode code 821 = .ok (.ireturn, 1) := by decide +kernel
theorem dl_822 : decode code 822 = .ok (.aload_n 1, 1) := by decide +kernel
theorem dl_823 : decode code 823 = .ok (.aload_n 0, 1) := by decide +kernel
theorem dl_824 : decode code 824 = .ok (.iload_n 3, 1) := by decide +kernel
theorem dl_825 : decode code 825 = .ok (.iconst 1, 1) := by decide +kernel
theorem dl_826 : decode code 826 = .ok (.iadd, 1) := by decide +kernel
theorem dl_827 : decode code 827 = .ok (.iaload, 1) := by decide +kernel
theorem dl_828 : decode code 828 = .ok (.aload_n 0, 1) := by decide +kernel
theorem dl_829 : decode code 829 = .ok (.iload_n 3, 1) := by decide +kernel
theorem dl_830 : decode code 830 = .ok (.iconst 2, 1) := by decide +kernel
theorem dl_831 : decode code 831 = .ok (.iadd, 1) := by decide +kernel
theorem dl_832 : decode code 832 = .ok (.iaload, 1) := by decide +kernel
theorem dl_833 : decode code 833 = .ok (.aload_n 0, 1) := by decide +kernel
theorem dl_834 : decode code 834 = .ok (.iload_n 3, 1) := by decide +kernel
theorem dl_835 : decode code 835 = .ok (.iconst 3, 1) := by decide +kernel
theorem dl_836 : decode code 836 = .ok (.iadd, 1) := by decide +kernel
theorem dl_837 : decode code 837 = .ok (.iaload, 1) := by decide +kernel
theorem dl_838 : decode code 838 = .ok (.invokevirtual 98, 3) := by decide +kernel
theorem dl_841 : decode code 841 = .ok (.aload_n 2, 1) := by decide +kernel
theorem dl_842 : decode code 842 = .ok (.aload_n 0, 1) := by decide +kernel
theorem dl_843 : decode code 843 = .ok (.iload_n 3, 1) := by decide +kernel
theorem dl_844 : decode code 844 = .ok (.iconst 1, 1) := by decide +kernel
theorem dl_845 : decode code 845 = .ok (.iadd, 1) := by decide +kernel
theorem dl_846 : decode code 846 = .ok (.iaload, 1) := by decide +kernel
theorem dl_847 : decode code 847 = .ok (.aload_n 0, 1) := by decide +kernel
theorem dl_848 : decode code 848 = .ok (.iload_n 3, 1) := by decide +kernel
theorem dl_849 : decode code 849 = .ok (.iconst 2, 1) := by decide +kernel
theorem dl_850 : decode code 850 = .ok (.iadd, 1) := by decide +kernel
theorem dl_851 : decode code 851 = .ok (.iaload, 1) := by decide +kernel
theorem dl_852 : decode code 852 = .ok (.aload_n 0, 1) := by decide +kernel
theorem dl_853 : decode code 853 = .ok (.iload_n 3, 1) := by decide +kernel
theorem dl_854 : decode code 854 = .ok (.iconst 3, 1) := by decide +kernel
theorem dl_855 : decode code 855 = .ok (.iadd, 1) := by decide +kernel
theorem dl_856 : decode code 856 = .ok (.iaload, 1) := by decide +kernel
theorem dl_857 : decode code 857 = .ok (.invokevirtual 101, 3) := by decide +kernel
theorem dl_860 : decode code 860 = .ok (.if_icmp .eq 691, 3) := by decide +kernel
theorem dl_863 : decode code 863 = .ok (.iconst 0, 1) := by decide +kernel
theorem dl_864 : decode code 864 = .ok (.ireturn, 1) := by decide +kernel
theorem dl_865 : decode code 865 = .ok (.aload_n 1, 1) := by decide +kernel
theorem dl_866 : decode code 866 = .ok (.aload_n 0, 1) := by decide +kernel
theorem dl_867 : decode code 867 = .ok (.iload_n 3, 1) := by decide +kernel
theorem dl_868 : decode code 868 = .ok (.iconst 1, 1) := by decide +kernel
theorem dl_869 : decode code 869 = .ok (.iadd, 1) := by decide +kernel
theorem dl_870 : decode code 870 = .ok (.iaload, 1) := by decide +kernel
theorem dl_871 : decode code 871 = .ok (.invokevirtual 102, 3) := by decide +kernel
theorem dl_874 : decode code 874 = .ok (.aload_n 2, 1) := by decide +kernel
theorem dl_875 : decode code 875 = .ok (.aload_n 0, 1) := by decide +kernel
theorem dl_876 : decode code 876 = .ok (.iload_n 3, 1) := by decide +kernel
theorem dl_877 : decode code 877 = .ok (.iconst 1, 1) := by decide +kernel
