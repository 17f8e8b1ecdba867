/-! the law's instructions -/
theorem dL_637 : decode cL_law 637 = .ok (.if_icmp .eq 924, 3) := by decide +kernel
theorem dL_640 : decode cL_law 640 = .ok (.iconst 0, 1) := by decide +kernel
theorem dL_641 : decode cL_law 641 = .ok (.ireturn, 1) := by decide +kernel
theorem dL_642 : decode cL_law 642 = .ok (.aload_n 1, 1) := by decide +kernel
theorem dL_643 : decode cL_law 643 = .ok (.aload_n 0, 1) := by decide +kernel
theorem dL_644 : decode cL_law 644 = .ok (.iload_n 3, 1) := by decide +kernel
theorem dL_645 : decode cL_law 645 = .ok (.iconst 1, 1) := by decide +kernel
theorem dL_646 : decode cL_law 646 = .ok (.iadd, 1) := by decide +kernel
theorem dL_647 : decode cL_law 647 = .ok (.iaload, 1) := by decide +kernel
theorem dL_648 : decode cL_law 648 = .ok (.aload_n 0, 1) := by decide +kernel
theorem dL_649 : decode cL_law 649 = .ok (.iload_n 3, 1) := by decide +kernel
theorem dL_650 : decode cL_law 650 = .ok (.iconst 2, 1) := by decide +kernel
theorem dL_651 : decode cL_law 651 = .ok (.iadd, 1) := by decide +kernel
theorem dL_652 : decode cL_law 652 = .ok (.iaload, 1) := by decide +kernel
theorem dL_653 : decode cL_law 653 = .ok (.aload_n 0, 1) := by decide +kernel
theorem dL_654 : decode cL_law 654 = .ok (.iload_n 3, 1) := by decide +kernel
theorem dL_655 : decode cL_law 655 = .ok (.iconst 3, 1) := by decide +kernel
theorem dL_656 : decode cL_law 656 = .ok (.iadd, 1) := by decide +kernel
theorem dL_657 : decode cL_law 657 = .ok (.iaload, 1) := by decide +kernel
theorem dL_658 : decode cL_law 658 = .ok (.invokevirtual 69, 3) := by decide +kernel
theorem dL_661 : decode cL_law 661 = .ok (.aload_n 2, 1) := by decide +kernel
theorem dL_662 : decode cL_law 662 = .ok (.aload_n 0, 1) := by decide +kernel
theorem dL_663 : decode cL_law 663 = .ok (.iload_n 3, 1) := by decide +kernel
theorem dL_664 : decode cL_law 664 = .ok (.iconst 1, 1) := by decide +kernel
theorem dL_665 : decode cL_law 665 = .ok (.iadd, 1) := by decide +kernel
theorem dL_666 : decode cL_law 666 = .ok (.iaload, 1) := by decide +kernel
theorem dL_667 : decode cL_law 667 = .ok (.aload_n 0, 1) := by decide +kernel
theorem dL_668 : decode cL_law 668 = .ok (.iload_n 3, 1) := by decide +kernel
theorem dL_669 : decode cL_law 669 = .ok (.iconst 2, 1) := by decide +kernel
theorem dL_670 : decode cL_law 670 = .ok (.iadd, 1) := by decide +kernel
theorem dL_671 : decode cL_law 671 = .ok (.iaload, 1) := by decide +kernel
theorem dL_672 : decode cL_law 672 = .ok (.aload_n 0, 1) := by decide +kernel
theorem dL_673 : decode cL_law 673 = .ok (.iload_n 3, 1) := by decide +kernel
theorem dL_674 : decode cL_law 674 = .ok (.iconst 3, 1) := by decide +kernel
theorem dL_675 : decode cL_law 675 = .ok (.iadd, 1) := by decide +kernel
theorem dL_676 : decode cL_law 676 = .ok (.iaload, 1) := by decide +kernel
theorem dL_677 : decode cL_law 677 = .ok (.invokevirtual 72, 3) := by decide +kernel
theorem dL_680 : decode cL_law 680 = .ok (.if_icmp .eq 881, 3) := by decide +kernel
theorem dL_683 : decode cL_law 683 = .ok (.iconst 0, 1) := by decide +kernel
theorem dL_684 : decode cL_law 684 = .ok (.ireturn, 1) := by decide +kernel
theorem dL_685 : decode cL_law 685 = .ok (.aload_n 1, 1) := by decide +kernel
theorem dL_686 : decode cL_law 686 = .ok (.aload_n 0, 1) := by decide +kernel
theorem dL_687 : decode cL_law 687 = .ok (.iload_n 3, 1) := by decide +kernel
theorem dL_688 : decode cL_law 688 = .ok (.iconst 1, 1) := by decide +kernel
theorem dL_689 : decode cL_law 689 = .ok (.iadd, 1) := by decide +kernel
theorem dL_690 : decode cL_law 690 = .ok (.iaload, 1) := by decide +kernel
theorem dL_691 : decode cL_law 691 = .ok (.aload_n 0, 1) := by decide +kernel
theorem dL_692 : decode cL_law 692 = .ok (.iload_n 3, 1) := by decide +kernel
theorem dL_693 : decode cL_law 693 = .ok (.iconst 2, 1) := by decide +kernel
theorem dL_694 : decode cL_law 694 = .ok (.iadd, 1) := by decide +kernel
theorem dL_695 : decode cL_law 695 = .ok (.iaload, 1) := by decide +kernel
theorem dL_696 : decode cL_law 696 = .ok (.aload_n 0, 1) := by decide +kernel
theorem dL_697 : decode cL_law 697 = .ok (.iload_n 3, 1) := by decide +kernel
theorem dL_698 : decode cL_law 698 = .ok (.iconst 3, 1) := by decide +kernel
theorem dL_699 : decode cL_law 699 = .ok (.iadd, 1) := by decide +kernel
theorem dL_700 : decode cL_law 700 = .ok (.iaload, 1) := by decide +kernel
theorem dL_701 : decode cL_law 701 = .ok (.aload_n 0, 1) := by decide +kernel
theorem dL_702 : decode cL_law 702 = .ok (.iload_n 3, 1) := by decide +kernel
theorem dL_703 : decode cL_law 703 = .ok (.iconst 4, 1) := by decide +kernel
theorem dL_704 : decode cL_law 704 = .ok (.iadd, 1) := by decide +kernel
theorem dL_705 : decode cL_law 705 = .ok (.iaload, 1) := by decide +kernel
theorem dL_706 : decode cL_law 706 = .ok (.aload_n 0, 1) := by decide +kernel
theorem dL_707 : decode cL_law 707 = .ok (.iload_n 3, 1) := by decide +kernel
theorem dL_708 : decode cL_law 708 = .ok (.iconst 5, 1) := by decide +kernel
theorem dL_709 : decode cL_law 709 = .ok (.iadd, 1) := by decide +kernel
theorem dL_710 : decode cL_law 710 = .ok (.iaload, 1) := by decide +kernel
theorem dL_711 : decode cL_law 711 = .ok (.aload_n 0, 1) := by decide +kernel
theorem dL_712 : decode cL_law 712 = .ok (.iload_n 3, 1) := by decide +kernel
theorem dL_713 : decode cL_law 713 = .ok (.bipush 6, 2) := by decide +kernel
theorem dL_715 : decode cL_law 715 = .ok (.iadd, 1) := by decide +kernel
theorem dL_716 : decode cL_law 716 = .ok (.iaload, 1) := by decide +kernel
theorem dL_717 : decode cL_law 717 = .ok (.invokevirtual 73, 3) := by decide +kernel
theorem dL_720 : decode cL_law 720 = .ok (.aload_n 2, 1) := by decide +kernel
theorem dL_721 : decode cL_law 721 = .ok (.aload_n 0, 1) := by decide +kernel
theorem dL_722 : decode cL_law 722 = .ok (.iload_n 3, 1) := by decide +kernel
theorem dL_723 : decode cL_law 723 = .ok (.iconst 1, 1) := by decide +kernel
theorem dL_724 : decode cL_law 724 = .ok (.iadd, 1) := by decide +kernel
theorem dL_725 : decode cL_law 725 = .ok (.iaload, 1) := by decide +kernel
theorem dL_726 : decode cL_law 726 = .ok (.aload_n 0, 1) := by decide +kernel
theorem dL_727 : decode cL_law 727 = .ok (.iload_n 3, 1) := by decide +kernel
theorem dL_728 : decode cL_law 728 = .ok (.iconst 2, 1) := by decide +kernel
theorem dL_729 : decode cL_law 729 = .ok (.iadd, 1) := by decide +kernel
theorem dL_730 : decode cL_law 730 = .ok (.iaload, 1) := by decide +kernel
theorem dL_731 : decode cL_law 731 = .ok (.aload_n 0, 1) := by decide +kernel
theorem dL_732 : decode cL_law 732 = .ok (.iload_n 3, 1) := by decide +kernel
theorem dL_733 : decode cL_law 733 = .ok (.iconst 3, 1) := by decide +kernel
theorem dL_734 : decode cL_law 734 = .ok (.iadd, 1) := by decide +kernel
theorem dL_735 : decode cL_law 735 = .ok (.iaload, 1) := by decide +kernel
theorem dL_736 : decode cL_law 736 = .ok (.aload_n 0, 1) := by decide +kernel
theorem dL_737 : decode cL_law 737 = .ok (.iload_n 3, 1) := by decide +kernel
theorem dL_738 : decode cL_law 738 = .ok (.iconst 4, 1) := by decide +kernel
theorem dL_739 : decode cL_law 739 = .ok (.iadd, 1) := by decide +kernel
theorem dL_740 : decode cL_law 740 = .ok (.iaload, 1) := by decide +kernel
theorem dL_741 : decode cL_law 741 = .ok (.aload_n 0, 1) := by decide +kernel
theorem dL_742 : decode cL_law 742 = .ok (.iload_n 3, 1) := by decide +kernel
theorem dL_743 : decode cL_law 743 = .ok (.iconst 5, 1) := by decide +kernel
theorem dL_744 : decode cL_law 744 = .ok (.iadd, 1) := by decide +kernel
theorem dL_745 : decode cL_law 745 = .ok (.iaload, 1) := by decide +kernel
theorem dL_746 : decode cL_law 746 = .ok (.aload_n 0, 1) := by decide +kernel
theorem dL_747 : decode cL_law 747 = .ok (.iload_n 3, 1) := by decide +kernel
theorem dL_748 : decode cL_law 748 = .ok (.bipush 6, 2) := by decide +kernel
theorem dL_750 : decode cL_law 750 = .ok (.iadd, 1) := by decide +kernel
theorem dL_751 : decode cL_law 751 = .ok (.iaload, 1) := by decide +kernel
theorem dL_752 : decode cL_law 752 = .ok (.invokevirtual 77, 3) := by decide +kernel
theorem dL_755 : decode cL_law 755 = .ok (.if_icmp .eq 806, 3) := by decide +kernel
theorem dL_758 : decode cL_law 758 = .ok (.iconst 0, 1) := by decide +kernel
theorem dL_759 : decode cL_law 759 = .ok (.ireturn, 1) := by decide +kernel
theorem dL_760 : decode cL_law 760 = .ok (.aload_n 1, 1) := by decide +kernel
theorem dL_761 : decode cL_law 761 = .ok (.aload_n 0, 1) := by decide +kernel
theorem dL_762 : decode cL_law 762 = .ok (.iload_n 3, 1) := by decide +kernel
theorem dL_763 : decode cL_law 763 = .ok (.iconst 1, 1) := by decide +kernel
theorem dL_764 : decode cL_law 764 = .ok (.iadd, 1) := by decide +kernel
theorem dL_765 : decode cL_law 765 = .ok (.iaload, 1) := by decide +kernel
theorem dL_766 : decode cL_law 766 = .ok (.invokevirtual 78, 3) := by decide +kernel
theorem dL_769 : decode cL_law 769 = .ok (.aload_n 2, 1) := by decide +kernel
theorem dL_770 : decode cL_law 770 = .ok (.aload_n 0, 1) := by decide +kernel
theorem dL_771 : decode cL_law 771 = .ok (.iload_n 3, 1) := by decide +kernel
theorem dL_772 : decode cL_law 772 = .ok (.iconst 1, 1) := by decide +kernel
theorem dL_773 : decode cL_law 773 = .ok (.iadd, 1) := by decide +kernel
theorem dL_774 : decode cL_law 774 = .ok (.iaload, 1) := by decide +kernel
theorem dL_775 : decode cL_law 775 = .ok (.invokevirtual 81, 3) := by decide +kernel
theorem dL_778 : decode cL_law 778 = .ok (.if_icmp .eq 783, 3) := by decide +kernel
theorem dL_781 : decode cL_law 781 = .ok (.iconst 0, 1) := by decide +kernel
theorem dL_782 : decode cL_law 782 = .ok (.ireturn, 1) := by decide +kernel
theorem dL_783 : decode cL_law 783 = .ok (.aload_n 1, 1) := by decide +kernel
theorem dL_784 : decode cL_law 784 = .ok (.aload_n 0, 1) := by decide +kernel
theorem dL_785 : decode cL_law 785 = .ok (.iload_n 3, 1) := by decide +kernel
theorem dL_786 : decode cL_law 786 = .ok (.iconst 1, 1) := by decide +kernel
theorem dL_787 : decode cL_law 787 = .ok (.iadd, 1) := by decide +kernel
theorem dL_788 : decode cL_law 788 = .ok (.iaload, 1) := by decide +kernel
theorem dL_789 : decode cL_law 789 = .ok (.aload_n 0, 1) := by decide +kernel
theorem dL_790 : decode cL_law 790 = .ok (.iload_n 3, 1) := by decide +kernel
theorem dL_791 : decode cL_law 791 = .ok (.iconst 2, 1) := by decide +kernel
theorem dL_792 : decode cL_law 792 = .ok (.iadd, 1) := by decide +kernel
theorem dL_793 : decode cL_law 793 = .ok (.iaload, 1) := by decide +kernel
theorem dL_794 : decode cL_law 794 = .ok (.aload_n 0, 1) := by decide +kernel
theorem dL_795 : decode cL_law 795 = .ok (.iload_n 3, 1) := by decide +kernel
theorem dL_796 : decode cL_law 796 = .ok (.iconst 3, 1) := by decide +kernel
theorem dL_797 : decode cL_law 797 = .ok (.iadd, 1) := by decide +kernel
theorem dL_798 : decode cL_law 798 = .ok (.iaload, 1) := by decide +kernel
theorem dL_799 : decode cL_law 799 = .ok (.invokevirtual 82, 3) := by decide +kernel
theorem dL_802 : decode cL_law 802 = .ok (.aload_n 2, 1) := by decide +kernel
theorem dL_803 : decode cL_law 803 = .ok (.aload_n 0, 1) := by decide +kernel
theorem dL_804 : decode cL_law 804 = .ok (.iload_n 3, 1) := by decide +kernel
theorem dL_805 : decode cL_law 805 = .ok (.iconst 1, 1) := by decide +kernel
theorem dL_806 : decode cL_law 806 = .ok (.iadd, 1) := by decide +kernel
theorem dL_807 : decode cL_law 807 = .ok (.iaload, 1) := by decide +kernel
theorem dL_808 : decode cL_law 808 = .ok (.aload_n 0, 1) := by decide +kernel
theorem dL_809 : decode cL_law 809 = .ok (.iload_n 3, 1) := by decide +kernel
theorem dL_810 : decode cL_law 810 = .ok (.iconst 2, 1) := by decide +kernel
theorem dL_811 : decode cL_law 811 = .ok (.iadd, 1) := by decide +kernel
theorem dL_812 : decode cL_law 812 = .ok (.iaload, 1) := by decide +kernel
theorem dL_813 : decode cL_law 813 = .ok (.aload_n 0, 1) := by decide +kernel
theorem dL_814 : decode cL_law 814 = .ok (.iload_n 3, 1) := by decide +kernel
theorem dL_815 : decode cL_law 815 = .ok (.iconst 3, 1) := by decide +kernel
theorem dL_816 : decode cL_law 816 = .ok (.iadd, 1) := by decide +kernel
theorem dL_817 : decode cL_law 817 = .ok (.iaload, 1) := by decide +kernel
theorem dL_818 : decode cL_law 818 = .ok (.invokevirtual 85, 3) := by decide +kernel
theorem dL_821 : decode cL_law 821 = .ok (.if_icmp .eq 740, 3) := by decide +kernel
theorem dL_824 : decode cL_law 824 = .ok (.iconst 0, 1) := by decide +kernel
theorem dL_825 : decode cL_law 825 = .ok (.ireturn, 1) := by decide +kernel
theorem dL_826 : decode cL_law 826 = .ok (.aload_n 1, 1) := by decide +kernel
theorem dL_827 : decode cL_law 827 = .ok (.aload_n 0, 1) := by decide +kernel
theorem dL_828 : decode cL_law 828 = .ok (.iload_n 3, 1) := by decide +kernel
theorem dL_829 : decode cL_law 829 = .ok (.iconst 1, 1) := by decide +kernel
theorem dL_830 : decode cL_law 830 = .ok (.iadd, 1) := by decide +kernel
theorem dL_831 : decode cL_law 831 = .ok (.iaload, 1) := by decide +kernel
theorem dL_832 : decode cL_law 832 = .ok (.aload_n 0, 1) := by decide +kernel
theorem dL_833 : decode cL_law 833 = .ok (.iload_n 3, 1) := by decide +kernel
theorem dL_834 : decode cL_law 834 = .ok (.iconst 2, 1) := by decide +kernel
theorem dL_835 : decode cL_law 835 = .ok (.iadd, 1) := by decide +kernel
theorem dL_836 : decode cL_law 836 = .ok (.iaload, 1) := by decide +kernel
theorem dL_837 : decode cL_law 837 = .ok (.aload_n 0, 1) := by decide +kernel
theorem dL_838 : decode cL_law 838 = .ok (.iload_n 3, 1) := by decide +kernel
theorem dL_839 : decode cL_law 839 = .ok (.iconst 3, 1) := by decide +kernel
theorem dL_840 : decode cL_law 840 = .ok (.iadd, 1) := by decide +kernel
theorem dL_841 : decode cL_law 841 = .ok (.iaload, 1) := by decide +kernel
theorem dL_842 : decode cL_law 842 = .ok (.invokevirtual 86, 3) := by decide +kernel
theorem dL_845 : decode cL_law 845 = .ok (.aload_n 2, 1) := by decide +kernel
theorem dL_846 : decode cL_law 846 = .ok (.aload_n 0, 1) := by decide +kernel
theorem dL_847 : decode cL_law 847 = .ok (.iload_n 3, 1) := by decide +kernel
theorem dL_848 : decode cL_law 848 = .ok (.iconst 1, 1) := by decide +kernel
theorem dL_849 : decode cL_law 849 = .ok (.iadd, 1) := by decide +kernel
theorem dL_850 : decode cL_law 850 = .ok (.iaload, 1) := by decide +kernel
theorem dL_851 : decode cL_law 851 = .ok (.aload_n 0, 1) := by decide +kernel
theorem dL_852 : decode cL_law 852 = .ok (.iload_n 3, 1) := by decide +kernel
theorem dL_853 : decode cL_law 853 = .ok (.iconst 2, 1) := by decide +kernel
theorem dL_854 : decode cL_law 854 = .ok (.iadd, 1) := by decide +kernel
theorem dL_855 : decode cL_law 855 = .ok (.iaload, 1) := by decide +kernel
theorem dL_856 : decode cL_law 856 = .ok (.aload_n 0, 1) := by decide +kernel
theorem dL_857 : decode cL_law 857 = .ok (.iload_n 3, 1) := by decide +kernel
theorem dL_858 : decode cL_law 858 = .ok (.iconst 3, 1) := by decide +kernel
theorem dL_859 : decode cL_law 859 = .ok (.iadd, 1) := by decide +kernel
theorem dL_860 : decode cL_law 860 = .ok (.iaload, 1) := by decide +kernel
theorem dL_861 : decode cL_law 861 = .ok (.invokevirtual 89, 3) := by decide +kernel
theorem dL_864 : decode cL_law 864 = .ok (.if_icmp .eq 697, 3) := by decide +kernel
theorem dL_867 : decode cL_law 867 = .ok (.iconst 0, 1) := by decide +kernel
theorem dL_868 : decode cL_law 868 = .ok (.ireturn, 1) := by decide +kernel
theorem dL_869 : decode cL_law 869 = .ok (.aload_n 1, 1) := by decide +kernel
theorem dL_870 : decode cL_law 870 = .ok (.aload_n 0, 1) := by decide +kernel
theorem dL_871 : decode cL_law 871 = .ok (.iload_n 3, 1) := by decide +kernel
theorem dL_872 : decode cL_law 872 = .ok (.iconst 1, 1) := by decide +kernel
theorem dL_873 : decode cL_law 873 = .ok (.iadd, 1) := by decide +kernel
theorem dL_874 : decode cL_law 874 = .ok (.iaload, 1) := by decide +kernel
theorem dL_875 : decode cL_law 875 = .ok (.aload_n 0, 1) := by decide +kernel
theorem dL_876 : decode cL_law 876 = .ok (.iload_n 3, 1) := by decide +kernel
theorem dL_877 : decode cL_law 877 = .ok (.iconst 2, 1) := by decide +kernel
theorem dL_878 : decode cL_law 878 = .ok (.iadd, 1) := by decide +kernel
theorem dL_879 : decode cL_law 879 = .ok (.iaload, 1) := by decide +kernel
theorem dL_880 : decode cL_law 880 = .ok (.aload_n 0, 1) := by decide +kernel
theorem dL_881 : decode cL_law 881 = .ok (.iload_n 3, 1) := by decide +kernel
theorem dL_882 : decode cL_law 882 = .ok (.iconst 3, 1) := by decide +kernel
theorem dL_883 : decode cL_law 883 = .ok (.iadd, 1) := by decide +kernel
theorem dL_884 : decode cL_law 884 = .ok (.iaload, 1) := by decide +kernel
theorem dL_885 : decode cL_law 885 = .ok (.invokevirtual 90, 3) := by decide +kernel
theorem dL_888 : decode cL_law 888 = .ok (.aload_n 2, 1) := by decide +kernel
theorem dL_889 : decode cL_law 889 = .ok (.aload_n 0, 1) := by decide +kernel
theorem dL_890 : decode cL_law 890 = .ok (.iload_n 3, 1) := by decide +kernel
theorem dL_891 : decode cL_law 891 = .ok (.iconst 1, 1) := by decide +kernel
theorem dL_892 : decode cL_law 892 = .ok (.iadd, 1) := by decide +kernel
theorem dL_893 : decode cL_law 893 = .ok (.iaload, 1) := by decide +kernel
theorem dL_894 : decode cL_law 894 = .ok (.aload_n 0, 1) := by decide +kernel
theorem dL_895 : decode cL_law 895 = .ok (.iload_n 3, 1) := by decide +kernel
theorem dL_896 : decode cL_law 896 = .ok (.iconst 2, 1) := by decide +kernel
theorem dL_897 : decode cL_law 897 = .ok (.iadd, 1) := by decide +kernel
theorem dL_898 : decode cL_law 898 = .ok (.iaload, 1) := by decide +kernel
theorem dL_899 : decode cL_law 899 = .ok (.aload_n 0, 1) := by decide +kernel
theorem dL_900 : decode cL_law 900 = .ok (.iload_n 3, 1) := by decide +kernel
theorem dL_901 : decode cL_law 901 = .ok (.iconst 3, 1) := by decide +kernel
theorem dL_902 : decode cL_law 902 = .ok (.iadd, 1) := by decide +kernel
theorem dL_903 : decode cL_law 903 = .ok (.iaload, 1) := by decide +kernel
theorem dL_904 : decode cL_law 904 = .ok (.invokevirtual 93, 3) := by decide +kernel
theorem dL_907 : decode cL_law 907 = .ok (.if_icmp .eq 654, 3) := by decide +kernel
theorem dL_910 : decode cL_law 910 = .ok (.iconst 0, 1) := by decide +kernel
theorem dL_911 : decode cL_law 911 = .ok (.ireturn, 1) := by decide +kernel
theorem dL_912 : decode cL_law 912 = .ok (.aload_n 1, 1) := by decide +kernel
theorem dL_913 : decode cL_law 913 = .ok (.aload_n 0, 1) := by decide +kernel
theorem dL_914 : decode cL_law 914 = .ok (.iload_n 3, 1) := by decide +kernel
theorem dL_915 : decode cL_law 915 = .ok (.iconst 1, 1) := by decide +kernel
theorem dL_916 : decode cL_law 916 = .ok (.iadd, 1) := by decide +kernel
theorem dL_917 : decode cL_law 917 = .ok (.iaload, 1) := by decide +kernel
theorem dL_918 : decode cL_law 918 = .ok (.aload_n 0, 1) := by decide +kernel
theorem dL_919 : decode cL_law 919 = .ok (.iload_n 3, 1) := by decide +kernel
theorem dL_920 : decode cL_law 920 = .ok (.iconst 2, 1) := by decide +kernel
theorem dL_921 : decode cL_law 921 = .ok (.iadd, 1) := by decide +kernel
theorem dL_922 : decode cL_law 922 = .ok (.iaload, 1) := by decide +kernel
theorem dL_923 : decode cL_law 923 = .ok (.invokevirtual 94, 3) := by decide +kernel
theorem dL_926 : decode cL_law 926 = .ok (.aload_n 2, 1) := by decide +kernel
theorem dL_927 : decode cL_law 927 = .ok (.aload_n 0, 1) := by decide +kernel
theorem dL_928 : decode cL_law 928 = .ok (.iload_n 3, 1) := by decide +kernel
theorem dL_929 : decode cL_law 929 = .ok (.iconst 1, 1) := by decide +kernel
theorem dL_930 : decode cL_law 930 = .ok (.iadd, 1) := by decide +kernel
theorem dL_931 : decode cL_law 931 = .ok (.iaload, 1) := by decide +kernel
theorem dL_932 : decode cL_law 932 = .ok (.aload_n 0, 1) := by decide +kernel
theorem dL_933 : decode cL_law 933 = .ok (.iload_n 3, 1) := by decide +kernel
theorem dL_934 : decode cL_law 934 = .ok (.iconst 2, 1) := by decide +kernel
theorem dL_935 : decode cL_law 935 = .ok (.iadd, 1) := by decide +kernel
theorem dL_936 : decode cL_law 936 = .ok (.iaload, 1) := by decide +kernel
theorem dL_937 : decode cL_law 937 = .ok (.invokevirtual 97, 3) := by decide +kernel
theorem dL_940 : decode cL_law 940 = .ok (.if_icmp .eq 621, 3) := by decide +kernel
theorem dL_943 : decode cL_law 943 = .ok (.iconst 0, 1) := by decide +kernel
theorem dL_944 : decode cL_law 944 = .ok (.ireturn, 1) := by decide +kernel
theorem dL_945 : decode cL_law 945 = .ok (.aload_n 1, 1) := by decide +kernel
theorem dL_946 : decode cL_law 946 = .ok (.aload_n 0, 1) := by decide +kernel
theorem dL_947 : decode cL_law 947 = .ok (.iload_n 3, 1) := by decide +kernel
theorem dL_948 : decode cL_law 948 = .ok (.iconst 1, 1) := by decide +kernel
theorem dL_949 : decode cL_law 949 = .ok (.iadd, 1) := by decide +kernel
theorem dL_950 : decode cL_law 950 = .ok (.iaload, 1) := by decide +kernel
theorem dL_951 : decode cL_law 951 = .ok (.invokevirtual 98, 3) := by decide +kernel
theorem dL_954 : decode cL_law 954 = .ok (.aload_n 2, 1) := by decide +kernel
theorem dL_955 : decode cL_law 955 = .ok (.aload_n 0, 1) := by decide +kernel
theorem dL_956 : decode cL_law 956 = .ok (.iload_n 3, 1) := by decide +kernel
theorem dL_957 : decode cL_law 957 = .ok (.iconst 1, 1) := by decide +kernel
theorem dL_958 : decode cL_law 958 = .ok (.iadd, 1) := by decide +kernel
theorem dL_959 : decode cL_law 959 = .ok (.iaload, 1) := by decide +kernel
theorem dL_960 : decode cL_law 960 = .ok (.invokevirtual 101, 3) := by decide +kernel
theorem dL_963 : decode cL_law 963 = .ok (.if_icmp .eq 598, 3) := by decide +kernel
theorem dL_966 : decode cL_law 966 = .ok (.iconst 0, 1) := by decide +kernel
theorem dL_967 : decode cL_law 967 = .ok (.ireturn, 1) := by decide +kernel
theorem dL_968 : decode cL_law 968 = .ok (.aload_n 1, 1) := by decide +kernel
theorem dL_969 : decode cL_law 969 = .ok (.aload_n 0, 1) := by decide +kernel
theorem dL_970 : decode cL_law 970 = .ok (.iload_n 3, 1) := by decide +kernel
theorem dL_971 : decode cL_law 971 = .ok (.iconst 1, 1) := by decide +kernel
theorem dL_972 : decode cL_law 972 = .ok (.iadd, 1) := by decide +kernel
theorem dL_973 : decode cL_law 973 = .ok (.iaload, 1) := by decide +kernel
theorem dL_974 : decode cL_law 974 = .ok (.aload_n 0, 1) := by decide +kernel
theorem dL_975 : decode cL_law 975 = .ok (.iload_n 3, 1) := by decide +kernel
theorem dL_976 : decode cL_law 976 = .ok (.iconst 2, 1) := by decide +kernel
theorem dL_977 : decode cL_law 977 = .ok (.iadd, 1) := by decide +kernel
theorem dL_978 : decode cL_law 978 = .ok (.iaload, 1) := by decide +kernel
theorem dL_979 : decode cL_law 979 = .ok (.aload_n 0, 1) := by decide +kernel
theorem dL_980 : decode cL_law 980 = .ok (.iload_n 3, 1) := by decide +kernel
theorem dL_981 : decode cL_law 981 = .ok (.iconst 3, 1) := by decide +kernel
theorem dL_982 : decode cL_law 982 = .ok (.iadd, 1) := by decide +kernel
theorem dL_983 : decode cL_law 983 = .ok (.iaload, 1) := by decide +kernel
theorem dL_984 : decode cL_law 984 = .ok (.aload_n 0, 1) := by decide +kernel
theorem dL_985 : decode cL_law 985 = .ok (.iload_n 3, 1) := by decide +kernel
theorem dL_986 : decode cL_law 986 = .ok (.iconst 4, 1) := by decide +kernel
theorem dL_987 : decode cL_law 987 = .ok (.iadd, 1) := by decide +kernel
theorem dL_988 : decode cL_law 988 = .ok (.iaload, 1) := by decide +kernel
theorem dL_989 : decode cL_law 989 = .ok (.invokevirtual 102, 3) := by decide +kernel
theorem dL_992 : decode cL_law 992 = .ok (.aload_n 2, 1) := by decide +kernel
theorem dL_993 : decode cL_law 993 = .ok (.aload_n 0, 1) := by decide +kernel
theorem dL_994 : decode cL_law 994 = .ok (.iload_n 3, 1) := by decide +kernel
theorem dL_995 : decode cL_law 995 = .ok (.iconst 1, 1) := by decide +kernel
theorem dL_996 : decode cL_law 996 = .ok (.iadd, 1) := by decide +kernel
theorem dL_997 : decode cL_law 997 = .ok (.iaload, 1) := by decide +kernel
theorem dL_998 : decode cL_law 998 = .ok (.aload_n 0, 1) := by decide +kernel
theorem dL_999 : decode cL_law 999 = .ok (.iload_n 3, 1) := by decide +kernel
theorem dL_1000 : decode cL_law 1000 = .ok (.iconst 2, 1) := by decide +kernel
theorem dL_1001 : decode cL_law 1001 = .ok (.iadd, 1) := by decide +kernel
theorem dL_1002 : decode cL_law 1002 = .ok (.iaload, 1) := by decide +kernel
theorem dL_1003 : decode cL_law 1003 = .ok (.aload_n 0, 1) := by decide +kernel
theorem dL_1004 : decode cL_law 1004 = .ok (.iload_n 3, 1) := by decide +kernel
theorem dL_1005 : decode cL_law 1005 = .ok (.iconst 3, 1) := by decide +kernel
theorem dL_1006 : decode cL_law 1006 = .ok (.iadd, 1) := by decide +kernel
theorem dL_1007 : decode cL_law 1007 = .ok (.iaload, 1) := by decide +kernel
theorem dL_1008 : decode cL_law 1008 = .ok (.aload_n 0, 1) := by decide +kernel
theorem dL_1009 : decode cL_law 1009 = .ok (.iload_n 3, 1) := by decide +kernel
theorem dL_1010 : decode cL_law 1010 = .ok (.iconst 4, 1) := by decide +kernel
theorem dL_1011 : decode cL_law 1011 = .ok (.iadd, 1) := by decide +kernel
theorem dL_1012 : decode cL_law 1012 = .ok (.iaload, 1) := by decide +kernel
theorem dL_1013 : decode cL_law 1013 = .ok (.invokevirtual 106, 3) := by decide +kernel
theorem dL_1016 : decode cL_law 1016 = .ok (.if_icmp .eq 545, 3) := by decide +kernel
theorem dL_1019 : decode cL_law 1019 = .ok (.iconst 0, 1) := by decide +kernel
theorem dL_1020 : decode cL_law 1020 = .ok (.ireturn, 1) := by decide +kernel
theorem dL_1021 : decode cL_law 1021 = .ok (.aload_n 1, 1) := by decide +kernel
theorem dL_1022 : decode cL_law 1022 = .ok (.aload_n 0, 1) := by decide +kernel
theorem dL_1023 : decode cL_law 1023 = .ok (.iload_n 3, 1) := by decide +kernel
theorem dL_1024 : decode cL_law 1024 = .ok (.iconst 1, 1) := by decide +kernel
theorem dL_1025 : decode cL_law 1025 = .ok (.iadd, 1) := by decide +kernel
theorem dL_1026 : decode cL_law 1026 = .ok (.iaload, 1) := by decide +kernel
theorem dL_1027 : decode cL_law 1027 = .ok (.aload_n 0, 1) := by decide +kernel
theorem dL_1028 : decode cL_law 1028 = .ok (.iload_n 3, 1) := by decide +kernel
theorem dL_1029 : decode cL_law 1029 = .ok (.iconst 2, 1) := by decide +kernel
theorem dL_1030 : decode cL_law 1030 = .ok (.iadd, 1) := by decide +kernel
theorem dL_1031 : decode cL_law 1031 = .ok (.iaload, 1) := by decide +kernel
theorem dL_1032 : decode cL_law 1032 = .ok (.aload_n 0, 1) := by decide +kernel
theorem dL_1033 : decode cL_law 1033 = .ok (.iload_n 3, 1) := by decide +kernel
theorem dL_1034 : decode cL_law 1034 = .ok (.iconst 3, 1) := by decide +kernel
theorem dL_1035 : decode cL_law 1035 = .ok (.iadd, 1) := by decide +kernel
theorem dL_1036 : decode cL_law 1036 = .ok (.iaload, 1) := by decide +kernel
theorem dL_1037 : decode cL_law 1037 = .ok (.aload_n 0, 1) := by decide +kernel
theorem dL_1038 : decode cL_law 1038 = .ok (.iload_n 3, 1) := by decide +kernel
theorem dL_1039 : decode cL_law 1039 = .ok (.iconst 4, 1) := by decide +kernel
theorem dL_1040 : decode cL_law 1040 = .ok (.iadd, 1) := by decide +kernel
theorem dL_1041 : decode cL_law 1041 = .ok (.iaload, 1) := by decide +kernel
theorem dL_1042 : decode cL_law 1042 = .ok (.invokevirtual 107, 3) := by decide +kernel
theorem dL_1045 : decode cL_law 1045 = .ok (.aload_n 2, 1) := by decide +kernel
theorem dL_1046 : decode cL_law 1046 = .ok (.aload_n 0, 1) := by decide +kernel
theorem dL_1047 : decode cL_law 1047 = .ok (.iload_n 3, 1) := by decide +kernel
theorem dL_1048 : decode cL_law 1048 = .ok (.iconst 1, 1) := by decide +kernel
theorem dL_1049 : decode cL_law 1049 = .ok (.iadd, 1) := by decide +kernel
theorem dL_1050 : decode cL_law 1050 = .ok (.iaload, 1) := by decide +kernel
theorem dL_1051 : decode cL_law 1051 = .ok (.aload_n 0, 1) := by decide +kernel
theorem dL_1052 : decode cL_law 1052 = .ok (.iload_n 3, 1) := by decide +kernel
theorem dL_1053 : decode cL_law 1053 = .ok (.iconst 2, 1) := by decide +kernel
theorem dL_1054 : decode cL_law 1054 = .ok (.iadd, 1) := by decide +kernel
theorem dL_1055 : decode cL_law 1055 = .ok (.iaload, 1) := by decide +kernel
theorem dL_1056 : decode cL_law 1056 = .ok (.aload_n 0, 1) := by decide +kernel
theorem dL_1057 : decode cL_law 1057 = .ok (.iload_n 3, 1) := by decide +kernel
theorem dL_1058 : decode cL_law 1058 = .ok (.iconst 3, 1) := by decide +kernel
theorem dL_1059 : decode cL_law 1059 = .ok (.iadd, 1) := by decide +kernel
theorem dL_1060 : decode cL_law 1060 = .ok (.iaload, 1) := by decide +kernel
theorem dL_1061 : decode cL_law 1061 = .ok (.aload_n 0, 1) := by decide +kernel
theorem dL_1062 : decode cL_law 1062 = .ok (.iload_n 3, 1) := by decide +kernel
theorem dL_1063 : decode cL_law 1063 = .ok (.iconst 4, 1) := by decide +kernel
theorem dL_1064 : decode cL_law 1064 = .ok (.iadd, 1) := by decide +kernel
theorem dL_1065 : decode cL_law 1065 = .ok (.iaload, 1) := by decide +kernel
theorem dL_1066 : decode cL_law 1066 = .ok (.invokevirtual 110, 3) := by decide +kernel
theorem dL_1069 : decode cL_law 1069 = .ok (.if_icmp .eq 492, 3) := by decide +kernel
theorem dL_1072 : decode cL_law 1072 = .ok (.iconst 0, 1) := by decide +kernel
theorem dL_1073 : decode cL_law 1073 = .ok (.ireturn, 1) := by decide +kernel
theorem dL_1074 : decode cL_law 1074 = .ok (.aload_n 1, 1) := by decide +kernel
theorem dL_1075 : decode cL_law 1075 = .ok (.aload_n 0, 1) := by decide +kernel
theorem dL_1076 : decode cL_law 1076 = .ok (.iload_n 3, 1) := by decide +kernel
theorem dL_1077 : decode cL_law 1077 = .ok (.iconst 1, 1) := by decide +kernel
theorem dL_1078 : decode cL_law 1078 = .ok (.iadd, 1) := by decide +kernel
theorem dL_1079 : decode cL_law 1079 = .ok (.iaload, 1) := by decide +kernel
theorem dL_1080 : decode cL_law 1080 = .ok (.aload_n 0, 1) := by decide +kernel
theorem dL_1081 : decode cL_law 1081 = .ok (.iload_n 3, 1) := by decide +kernel
theorem dL_1082 : decode cL_law 1082 = .ok (.iconst 2, 1) := by decide +kernel
theorem dL_1083 : decode cL_law 1083 = .ok (.iadd, 1) := by decide +kernel
theorem dL_1084 : decode cL_law 1084 = .ok (.iaload, 1) := by decide +kernel
theorem dL_1085 : decode cL_law 1085 = .ok (.aload_n 0, 1) := by decide +kernel
theorem dL_1086 : decode cL_law 1086 = .ok (.iload_n 3, 1) := by decide +kernel
theorem dL_1087 : decode cL_law 1087 = .ok (.iconst 3, 1) := by decide +kernel
