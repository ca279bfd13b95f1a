set_option maxHeartbeats 400000
set_option maxRecDepth 100000
theorem dl_756 : decode code 756 = .ok (.if_icmp .eq 403, 3) := by decide +kernel
theorem dl_759 : decode code 759 = .ok (.iconst 0, 1) := by decide +kernel
theorem dl_760 : decode code 760 = .ok (.ireturn, 1) := by decide +kernel
theorem dl_761 : decode code 761 = .ok (.aload_n 1, 1) := by decide +kernel
theorem dl_762 : decode code 762 = .ok (.aload_n 0, 1) := by decide +kernel
theorem dl_763 : decode code 763 = .ok (.iload_n 3, 1) := by decide +kernel
theorem dl_764 : decode code 764 = .ok (.iconst 1, 1) := by decide +kernel
theorem dl_765 : decode code 765 = .ok (.iadd, 1) := by decide +kernel
theorem dl_766 : decode code 766 = .ok (.iaload, 1) := by decide +kernel
theorem dl_767 : decode code 767 = .ok (.invokevirtual 95, 3) := by decide +kernel
theorem dl_770 : decode code 770 = .ok (.aload_n 2, 1) := by decide +kernel
theorem dl_771 : decode code 771 = .ok (.aload_n 0, 1) := by decide +kernel
theorem dl_772 : decode code 772 = .ok (.iload_n 3, 1) := by decide +kernel
theorem dl_773 : decode code 773 = .ok (.iconst 1, 1) := by decide +kernel
theorem dl_774 : decode code 774 = .ok (.iadd, 1) := by decide +kernel
theorem dl_775 : decode code 775 = .ok (.iaload, 1) := by decide +kernel
theorem dl_776 : decode code 776 = .ok (.invokevirtual 98, 3) := by decide +kernel
theorem dl_779 : decode code 779 = .ok (.if_icmp .eq 380, 3) := by decide +kernel
theorem dl_782 : decode code 782 = .ok (.iconst 0, 1) := by decide +kernel
theorem dl_783 : decode code 783 = .ok (.ireturn, 1) := by decide +kernel
theorem dl_784 : decode code 784 = .ok (.aload_n 1, 1) := by decide +kernel
theorem dl_785 : decode code 785 = .ok (.aload_n 0, 1) := by decide +kernel
theorem dl_786 : decode code 786 = .ok (.iload_n 3, 1) := by decide +kernel
theorem dl_787 : decode code 787 = .ok (.iconst 1, 1) := by decide +kernel
theorem dl_788 : decode code 788 = .ok (.iadd, 1) := by decide +kernel
theorem dl_789 : decode code 789 = .ok (.iaload, 1) := by decide +kernel
theorem dl_790 : decode code 790 = .ok (.aload_n 0, 1) := by decide +kernel
theorem dl_791 : decode code 791 = .ok (.iload_n 3, 1) := by decide +kernel
theorem dl_792 : decode code 792 = .ok (.iconst 2, 1) := by decide +kernel
theorem dl_793 : decode code 793 = .ok (.iadd, 1) := by decide +kernel
theorem dl_794 : decode code 794 = .ok (.iaload, 1) := by decide +kernel
theorem dl_795 : decode code 795 = .ok (.aload_n 0, 1) := by decide +kernel
theorem dl_796 : decode code 796 = .ok (.iload_n 3, 1) := by decide +kernel
theorem dl_797 : decode code 797 = .ok (.iconst 3, 1) := by decide +kernel
theorem dl_798 : decode code 798 = .ok (.iadd, 1) := by decide +kernel
theorem dl_799 : decode code 799 = .ok (.iaload, 1) := by decide +kernel
theorem dl_800 : decode code 800 = .ok (.invokevirtual 99, 3) := by decide +kernel
theorem dl_803 : decode code 803 = .ok (.aload_n 2, 1) := by decide +kernel
theorem dl_804 : decode code 804 = .ok (.aload_n 0, 1) := by decide +kernel
theorem dl_805 : decode code 805 = .ok (.iload_n 3, 1) := by decide +kernel
theorem dl_806 : decode code 806 = .ok (.iconst 1, 1) := by decide +kernel
theorem dl_807 : decode code 807 = .ok (.iadd, 1) := by decide +kernel
theorem dl_808 : decode code 808 = .ok (.iaload, 1) := by decide +kernel
theorem dl_809 : decode code 809 = .ok (.aload_n 0, 1) := by decide +kernel
theorem dl_810 : decode code 810 = .ok (.iload_n 3, 1) := by decide +kernel
theorem dl_811 : decode code 811 = .ok (.iconst 2, 1) := by decide +kernel
theorem dl_812 : decode code 812 = .ok (.iadd, 1) := by decide +kernel
theorem dl_813 : decode code 813 = .ok (.iaload, 1) := by decide +kernel
theorem dl_814 : decode code 814 = .ok (.aload_n 0, 1) := by decide +kernel
theorem dl_815 : decode code 815 = .ok (.iload_n 3, 1) := by decide +kernel
theorem dl_816 : decode code 816 = .ok (.iconst 3, 1) := by decide +kernel
theorem dl_817 : decode code 817 = .ok (.iadd, 1) := by decide +kernel
theorem dl_818 : decode code 818 = .ok (.iaload, 1) := by decide +kernel
theorem dl_819 : decode code 819 = .ok (.invokevirtual 103, 3) := by decide +kernel
theorem dl_822 : decode code 822 = .ok (.if_icmp .eq 337, 3) := by decide +kernel
theorem dl_825 : decode code 825 = .ok (.iconst 0, 1) := by decide +kernel
theorem dl_826 : decode code 826 = .ok (.ireturn, 1) := by decide +kernel
theorem dl_827 : decode code 827 = .ok (.aload_n 1, 1) := by decide +kernel
theorem dl_828 : decode code 828 = .ok (.aload_n 0, 1) := by decide +kernel
theorem dl_829 : decode code 829 = .ok (.iload_n 3, 1) := by decide +kernel
theorem dl_830 : decode code 830 = .ok (.iconst 1, 1) := by decide +kernel
theorem dl_831 : decode code 831 = .ok (.iadd, 1) := by decide +kernel
theorem dl_832 : decode code 832 = .ok (.iaload, 1) := by decide +kernel
theorem dl_833 : decode code 833 = .ok (.aload_n 0, 1) := by decide +kernel
theorem dl_834 : decode code 834 = .ok (.iload_n 3, 1) := by decide +kernel
theorem dl_835 : decode code 835 = .ok (.iconst 2, 1) := by decide +kernel
theorem dl_836 : decode code 836 = .ok (.iadd, 1) := by decide +kernel
theorem dl_837 : decode code 837 = .ok (.iaload, 1) := by decide +kernel
theorem dl_838 : decode code 838 = .ok (.aload_n 0, 1) := by decide +kernel
theorem dl_839 : decode code 839 = .ok (.iload_n 3, 1) := by decide +kernel
theorem dl_840 : decode code 840 = .ok (.iconst 3, 1) := by decide +kernel
theorem dl_841 : decode code 841 = .ok (.iadd, 1) := by decide +kernel
theorem dl_842 : decode code 842 = .ok (.iaload, 1) := by decide +kernel
theorem dl_843 : decode code 843 = .ok (.invokevirtual 104, 3) := by decide +kernel
theorem dl_846 : decode code 846 = .ok (.aload_n 2, 1) := by decide +kernel
theorem dl_847 : decode code 847 = .ok (.aload_n 0, 1) := by decide +kernel
theorem dl_848 : decode code 848 = .ok (.iload_n 3, 1) := by decide +kernel
theorem dl_849 : decode code 849 = .ok (.iconst 1, 1) := by decide +kernel
theorem dl_850 : decode code 850 = .ok (.iadd, 1) := by decide +kernel
theorem dl_851 : decode code 851 = .ok (.iaload, 1) := by decide +kernel
theorem dl_852 : decode code 852 = .ok (.aload_n 0, 1) := by decide +kernel
theorem dl_853 : decode code 853 = .ok (.iload_n 3, 1) := by decide +kernel
theorem dl_854 : decode code 854 = .ok (.iconst 2, 1) := by decide +kernel
theorem dl_855 : decode code 855 = .ok (.iadd, 1) := by decide +kernel
theorem dl_856 : decode code 856 = .ok (.iaload, 1) := by decide +kernel
theorem dl_857 : decode code 857 = .ok (.aload_n 0, 1) := by decide +kernel
theorem dl_858 : decode code 858 = .ok (.iload_n 3, 1) := by decide +kernel
theorem dl_859 : decode code 859 = .ok (.iconst 3, 1) := by decide +kernel
theorem dl_860 : decode code 860 = .ok (.iadd, 1) := by decide +kernel
theorem dl_861 : decode code 861 = .ok (.iaload, 1) := by decide +kernel
theorem dl_862 : decode code 862 = .ok (.invokevirtual 107, 3) := by decide +kernel
theorem dl_865 : decode code 865 = .ok (.if_icmp .eq 294, 3) := by decide +kernel
theorem dl_868 : decode code 868 = .ok (.iconst 0, 1) := by decide +kernel
theorem dl_869 : decode code 869 = .ok (.ireturn, 1) := by decide +kernel
theorem dl_870 : decode code 870 = .ok (.aload_n 1, 1) := by decide +kernel
theorem dl_871 : decode code 871 = .ok (.aload_n 0, 1) := by decide +kernel
theorem dl_872 : decode code 872 = .ok (.iload_n 3, 1) := by decide +kernel
theorem dl_873 : decode code 873 = .ok (.iconst 1, 1) := by decide +kernel
theorem dl_874 : decode code 874 = .ok (.iadd, 1) := by decide +kernel
theorem dl_875 : decode code 875 = .ok (.iaload, 1) := by decide +kernel
theorem dl_876 : decode code 876 = .ok (.aload_n 0, 1) := by decide +kernel
theorem dl_877 : decode code 877 = .ok (.iload_n 3, 1) := by decide +kernel
theorem dl_878 : decode code 878 = .ok (.iconst 2, 1) := by decide +kernel
theorem dl_879 : decode code 879 = .ok (.iadd, 1) := by decide +kernel
theorem dl_880 : decode code 880 = .ok (.iaload, 1) := by decide +kernel
theorem dl_881 : decode code 881 = .ok (.invokevirtual 108, 3) := by decide +kernel
theorem dl_884 : decode code 884 = .ok (.aload_n 2, 1) := by decide +kernel
theorem dl_885 : decode code 885 = .ok (.aload_n 0, 1) := by decide +kernel
theorem dl_886 : decode code 886 = .ok (.iload_n 3, 1) := by decide +kernel
theorem dl_887 : decode code 887 = .ok (.iconst 1, 1) := by decide +kernel
theorem dl_888 : decode code 888 = .ok (.iadd, 1) := by decide +kernel
theorem dl_889 : decode code 889 = .ok (.iaload, 1) := by decide +kernel
theorem dl_890 : decode code 890 = .ok (.aload_n 0, 1) := by decide +kernel
theorem dl_891 : decode code 891 = .ok (.iload_n 3, 1) := by decide +kernel
theorem dl_892 : decode code 892 = .ok (.iconst 2, 1) := by decide +kernel
theorem dl_893 : decode code 893 = .ok (.iadd, 1) := by decide +kernel
theorem dl_894 : decode code 894 = .ok (.iaload, 1) := by decide +kernel
theorem dl_895 : decode code 895 = .ok (.invokevirtual 111, 3) := by decide +kernel
theorem dl_898 : decode code 898 = .ok (.if_icmp .eq 261, 3) := by decide +kernel
theorem dl_901 : decode code 901 = .ok (.iconst 0, 1) := by decide +kernel
