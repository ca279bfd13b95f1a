set_option maxHeartbeats 400000
set_option maxRecDepth 100000
theorem dl_902 : decode code 902 = .ok (.ireturn, 1) := by decide +kernel
theorem dl_903 : decode code 903 = .ok (.aload_n 1, 1) := by decide +kernel
theorem dl_904 : decode code 904 = .ok (.aload_n 0, 1) := by decide +kernel
theorem dl_905 : decode code 905 = .ok (.iload_n 3, 1) := by decide +kernel
theorem dl_906 : decode code 906 = .ok (.iconst 1, 1) := by decide +kernel
theorem dl_907 : decode code 907 = .ok (.iadd, 1) := by decide +kernel
theorem dl_908 : decode code 908 = .ok (.iaload, 1) := by decide +kernel
theorem dl_909 : decode code 909 = .ok (.invokevirtual 112, 3) := by decide +kernel
theorem dl_912 : decode code 912 = .ok (.aload_n 2, 1) := by decide +kernel
theorem dl_913 : decode code 913 = .ok (.aload_n 0, 1) := by decide +kernel
theorem dl_914 : decode code 914 = .ok (.iload_n 3, 1) := by decide +kernel
theorem dl_915 : decode code 915 = .ok (.iconst 1, 1) := by decide +kernel
theorem dl_916 : decode code 916 = .ok (.iadd, 1) := by decide +kernel
theorem dl_917 : decode code 917 = .ok (.iaload, 1) := by decide +kernel
theorem dl_918 : decode code 918 = .ok (.invokevirtual 115, 3) := by decide +kernel
theorem dl_921 : decode code 921 = .ok (.if_icmp .eq 238, 3) := by decide +kernel
theorem dl_924 : decode code 924 = .ok (.iconst 0, 1) := by decide +kernel
theorem dl_925 : decode code 925 = .ok (.ireturn, 1) := by decide +kernel
theorem dl_926 : decode code 926 = .ok (.aload_n 1, 1) := by decide +kernel
theorem dl_927 : decode code 927 = .ok (.aload_n 0, 1) := by decide +kernel
theorem dl_928 : decode code 928 = .ok (.iload_n 3, 1) := by decide +kernel
theorem dl_929 : decode code 929 = .ok (.iconst 1, 1) := by decide +kernel
theorem dl_930 : decode code 930 = .ok (.iadd, 1) := by decide +kernel
theorem dl_931 : decode code 931 = .ok (.iaload, 1) := by decide +kernel
theorem dl_932 : decode code 932 = .ok (.invokevirtual 116, 3) := by decide +kernel
theorem dl_935 : decode code 935 = .ok (.aload_n 2, 1) := by decide +kernel
theorem dl_936 : decode code 936 = .ok (.aload_n 0, 1) := by decide +kernel
theorem dl_937 : decode code 937 = .ok (.iload_n 3, 1) := by decide +kernel
theorem dl_938 : decode code 938 = .ok (.iconst 1, 1) := by decide +kernel
theorem dl_939 : decode code 939 = .ok (.iadd, 1) := by decide +kernel
theorem dl_940 : decode code 940 = .ok (.iaload, 1) := by decide +kernel
theorem dl_941 : decode code 941 = .ok (.invokevirtual 119, 3) := by decide +kernel
theorem dl_944 : decode code 944 = .ok (.if_icmp .eq 215, 3) := by decide +kernel
theorem dl_947 : decode code 947 = .ok (.iconst 0, 1) := by decide +kernel
theorem dl_948 : decode code 948 = .ok (.ireturn, 1) := by decide +kernel
theorem dl_949 : decode code 949 = .ok (.aload_n 1, 1) := by decide +kernel
theorem dl_950 : decode code 950 = .ok (.aload_n 0, 1) := by decide +kernel
theorem dl_951 : decode code 951 = .ok (.iload_n 3, 1) := by decide +kernel
theorem dl_952 : decode code 952 = .ok (.iconst 1, 1) := by decide +kernel
theorem dl_953 : decode code 953 = .ok (.iadd, 1) := by decide +kernel
theorem dl_954 : decode code 954 = .ok (.iaload, 1) := by decide +kernel
theorem dl_955 : decode code 955 = .ok (.aload_n 0, 1) := by decide +kernel
theorem dl_956 : decode code 956 = .ok (.iload_n 3, 1) := by decide +kernel
theorem dl_957 : decode code 957 = .ok (.iconst 2, 1) := by decide +kernel
theorem dl_958 : decode code 958 = .ok (.iadd, 1) := by decide +kernel
theorem dl_959 : decode code 959 = .ok (.iaload, 1) := by decide +kernel
theorem dl_960 : decode code 960 = .ok (.aload_n 0, 1) := by decide +kernel
theorem dl_961 : decode code 961 = .ok (.iload_n 3, 1) := by decide +kernel
theorem dl_962 : decode code 962 = .ok (.iconst 3, 1) := by decide +kernel
theorem dl_963 : decode code 963 = .ok (.iadd, 1) := by decide +kernel
theorem dl_964 : decode code 964 = .ok (.iaload, 1) := by decide +kernel
theorem dl_965 : decode code 965 = .ok (.invokevirtual 120, 3) := by decide +kernel
theorem dl_968 : decode code 968 = .ok (.aload_n 2, 1) := by decide +kernel
theorem dl_969 : decode code 969 = .ok (.aload_n 0, 1) := by decide +kernel
theorem dl_970 : decode code 970 = .ok (.iload_n 3, 1) := by decide +kernel
theorem dl_971 : decode code 971 = .ok (.iconst 1, 1) := by decide +kernel
theorem dl_972 : decode code 972 = .ok (.iadd, 1) := by decide +kernel
theorem dl_973 : decode code 973 = .ok (.iaload, 1) := by decide +kernel
theorem dl_974 : decode code 974 = .ok (.aload_n 0, 1) := by decide +kernel
theorem dl_975 : decode code 975 = .ok (.iload_n 3, 1) := by decide +kernel
theorem dl_976 : decode code 976 = .ok (.iconst 2, 1) := by decide +kernel
theorem dl_977 : decode code 977 = .ok (.iadd, 1) := by decide +kernel
theorem dl_978 : decode code 978 = .ok (.iaload, 1) := by decide +kernel
theorem dl_979 : decode code 979 = .ok (.aload_n 0, 1) := by decide +kernel
theorem dl_980 : decode code 980 = .ok (.iload_n 3, 1) := by decide +kernel
theorem dl_981 : decode code 981 = .ok (.iconst 3, 1) := by decide +kernel
theorem dl_982 : decode code 982 = .ok (.iadd, 1) := by decide +kernel
theorem dl_983 : decode code 983 = .ok (.iaload, 1) := by decide +kernel
theorem dl_984 : decode code 984 = .ok (.invokevirtual 124, 3) := by decide +kernel
theorem dl_987 : decode code 987 = .ok (.lcmp, 1) := by decide +kernel
theorem dl_988 : decode code 988 = .ok (.ifCond .eq 171, 3) := by decide +kernel
theorem dl_991 : decode code 991 = .ok (.iconst 0, 1) := by decide +kernel
theorem dl_992 : decode code 992 = .ok (.ireturn, 1) := by decide +kernel
theorem dl_993 : decode code 993 = .ok (.aload_n 1, 1) := by decide +kernel
theorem dl_994 : decode code 994 = .ok (.aload_n 0, 1) := by decide +kernel
theorem dl_995 : decode code 995 = .ok (.iload_n 3, 1) := by decide +kernel
theorem dl_996 : decode code 996 = .ok (.iconst 1, 1) := by decide +kernel
theorem dl_997 : decode code 997 = .ok (.iadd, 1) := by decide +kernel
theorem dl_998 : decode code 998 = .ok (.iaload, 1) := by decide +kernel
theorem dl_999 : decode code 999 = .ok (.invokevirtual 125, 3) := by decide +kernel
theorem dl_1002 : decode code 1002 = .ok (.aload_n 2, 1) := by decide +kernel
theorem dl_1003 : decode code 1003 = .ok (.aload_n 0, 1) := by decide +kernel
theorem dl_1004 : decode code 1004 = .ok (.iload_n 3, 1) := by decide +kernel
theorem dl_1005 : decode code 1005 = .ok (.iconst 1, 1) := by decide +kernel
theorem dl_1006 : decode code 1006 = .ok (.iadd, 1) := by decide +kernel
theorem dl_1007 : decode code 1007 = .ok (.iaload, 1) := by decide +kernel
theorem dl_1008 : decode code 1008 = .ok (.invokevirtual 129, 3) := by decide +kernel
theorem dl_1011 : decode code 1011 = .ok (.lcmp, 1) := by decide +kernel
theorem dl_1012 : decode code 1012 = .ok (.ifCond .eq 147, 3) := by decide +kernel
theorem dl_1015 : decode code 1015 = .ok (.iconst 0, 1) := by decide +kernel
theorem dl_1016 : decode code 1016 = .ok (.ireturn, 1) := by decide +kernel
theorem dl_1017 : decode code 1017 = .ok (.aload_n 1, 1) := by decide +kernel
theorem dl_1018 : decode code 1018 = .ok (.aload_n 0, 1) := by decide +kernel
theorem dl_1019 : decode code 1019 = .ok (.iload_n 3, 1) := by decide +kernel
theorem dl_1020 : decode code 1020 = .ok (.iconst 1, 1) := by decide +kernel
theorem dl_1021 : decode code 1021 = .ok (.iadd, 1) := by decide +kernel
theorem dl_1022 : decode code 1022 = .ok (.iaload, 1) := by decide +kernel
theorem dl_1023 : decode code 1023 = .ok (.aload_n 0, 1) := by decide +kernel
theorem dl_1024 : decode code 1024 = .ok (.iload_n 3, 1) := by decide +kernel
theorem dl_1025 : decode code 1025 = .ok (.iconst 2, 1) := by decide +kernel
theorem dl_1026 : decode code 1026 = .ok (.iadd, 1) := by decide +kernel
theorem dl_1027 : decode code 1027 = .ok (.iaload, 1) := by decide +kernel
theorem dl_1028 : decode code 1028 = .ok (.aload_n 0, 1) := by decide +kernel
theorem dl_1029 : decode code 1029 = .ok (.iload_n 3, 1) := by decide +kernel
theorem dl_1030 : decode code 1030 = .ok (.iconst 3, 1) := by decide +kernel
theorem dl_1031 : decode code 1031 = .ok (.iadd, 1) := by decide +kernel
theorem dl_1032 : decode code 1032 = .ok (.iaload, 1) := by decide +kernel
theorem dl_1033 : decode code 1033 = .ok (.i2l, 1) := by decide +kernel
theorem dl_1034 : decode code 1034 = .ok (.bipush 32, 2) := by decide +kernel
theorem dl_1036 : decode code 1036 = .ok (.lshl, 1) := by decide +kernel
theorem dl_1037 : decode code 1037 = .ok (.aload_n 0, 1) := by decide +kernel
theorem dl_1038 : decode code 1038 = .ok (.iload_n 3, 1) := by decide +kernel
theorem dl_1039 : decode code 1039 = .ok (.iconst 4, 1) := by decide +kernel
theorem dl_1040 : decode code 1040 = .ok (.iadd, 1) := by decide +kernel
theorem dl_1041 : decode code 1041 = .ok (.iaload, 1) := by decide +kernel
theorem dl_1042 : decode code 1042 = .ok (.i2l, 1) := by decide +kernel
theorem dl_1043 : decode code 1043 = .ok (.ldc2_w 130, 3) := by decide +kernel
theorem dl_1046 : decode code 1046 = .ok (.land, 1) := by decide +kernel
theorem dl_1047 : decode code 1047 = .ok (.lor, 1) := by decide +kernel
theorem dl_1048 : decode code 1048 = .ok (.invokevirtual 132, 3) := by decide +kernel
