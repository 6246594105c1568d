theorem d_Law_816 : decode code 816 = .ok (.aload_n 0, 1) := by decide +kernel
theorem d_Law_817 : decode code 817 = .ok (.iload_n 3, 1) := by decide +kernel
theorem d_Law_818 : decode code 818 = .ok (.iconst 2, 1) := by decide +kernel
theorem d_Law_819 : decode code 819 = .ok (.iadd, 1) := by decide +kernel
theorem d_Law_820 : decode code 820 = .ok (.iaload, 1) := by decide +kernel
theorem d_Law_821 : decode code 821 = .ok (.aload_n 0, 1) := by decide +kernel
theorem d_Law_822 : decode code 822 = .ok (.iload_n 3, 1) := by decide +kernel
theorem d_Law_823 : decode code 823 = .ok (.iconst 3, 1) := by decide +kernel
theorem d_Law_824 : decode code 824 = .ok (.iadd, 1) := by decide +kernel
theorem d_Law_825 : decode code 825 = .ok (.iaload, 1) := by decide +kernel
theorem d_Law_826 : decode code 826 = .ok (.aload_n 0, 1) := by decide +kernel
theorem d_Law_827 : decode code 827 = .ok (.iload_n 3, 1) := by decide +kernel
theorem d_Law_828 : decode code 828 = .ok (.iconst 4, 1) := by decide +kernel
theorem d_Law_829 : decode code 829 = .ok (.iadd, 1) := by decide +kernel
theorem d_Law_830 : decode code 830 = .ok (.iaload, 1) := by decide +kernel
theorem d_Law_831 : decode code 831 = .ok (.invokevirtual 93, 3) := by decide +kernel
theorem d_Law_834 : decode code 834 = .ok (.if_icmp .eq 629, 3) := by decide +kernel
theorem d_Law_837 : decode code 837 = .ok (.iconst 0, 1) := by decide +kernel
theorem d_Law_838 : decode code 838 = .ok (.ireturn, 1) := by decide +kernel
theorem d_Law_839 : decode code 839 = .ok (.aload_n 1, 1) := by decide +kernel
theorem d_Law_840 : decode code 840 = .ok (.aload_n 0, 1) := by decide +kernel
theorem d_Law_841 : decode code 841 = .ok (.iload_n 3, 1) := by decide +kernel
theorem d_Law_842 : decode code 842 = .ok (.iconst 1, 1) := by decide +kernel
theorem d_Law_843 : decode code 843 = .ok (.iadd, 1) := by decide +kernel
theorem d_Law_844 : decode code 844 = .ok (.iaload, 1) := by decide +kernel
theorem d_Law_845 : decode code 845 = .ok (.aload_n 0, 1) := by decide +kernel
theorem d_Law_846 : decode code 846 = .ok (.iload_n 3, 1) := by decide +kernel
theorem d_Law_847 : decode code 847 = .ok (.iconst 2, 1) := by decide +kernel
theorem d_Law_848 : decode code 848 = .ok (.iadd, 1) := by decide +kernel
theorem d_Law_849 : decode code 849 = .ok (.iaload, 1) := by decide +kernel
theorem d_Law_850 : decode code 850 = .ok (.invokevirtual 94, 3) := by decide +kernel
theorem d_Law_853 : decode code 853 = .ok (.aload_n 2, 1) := by decide +kernel
theorem d_Law_854 : decode code 854 = .ok (.aload_n 0, 1) := by decide +kernel
theorem d_Law_855 : decode code 855 = .ok (.iload_n 3, 1) := by decide +kernel
theorem d_Law_856 : decode code 856 = .ok (.iconst 1, 1) := by decide +kernel
theorem d_Law_857 : decode code 857 = .ok (.iadd, 1) := by decide +kernel
theorem d_Law_858 : decode code 858 = .ok (.iaload, 1) := by decide +kernel
theorem d_Law_859 : decode code 859 = .ok (.aload_n 0, 1) := by decide +kernel
theorem d_Law_860 : decode code 860 = .ok (.iload_n 3, 1) := by decide +kernel
theorem d_Law_861 : decode code 861 = .ok (.iconst 2, 1) := by decide +kernel
theorem d_Law_862 : decode code 862 = .ok (.iadd, 1) := by decide +kernel
theorem d_Law_863 : decode code 863 = .ok (.iaload, 1) := by decide +kernel
theorem d_Law_864 : decode code 864 = .ok (.invokevirtual 97, 3) := by decide +kernel
theorem d_Law_867 : decode code 867 = .ok (.if_icmp .eq 596, 3) := by decide +kernel
theorem d_Law_870 : decode code 870 = .ok (.iconst 0, 1) := by decide +kernel
theorem d_Law_871 : decode code 871 = .ok (.ireturn, 1) := by decide +kernel
theorem d_Law_872 : decode code 872 = .ok (.aload_n 1, 1) := by decide +kernel
theorem d_Law_873 : decode code 873 = .ok (.aload_n 0, 1) := by decide +kernel
theorem d_Law_874 : decode code 874 = .ok (.iload_n 3, 1) := by decide +kernel
theorem d_Law_875 : decode code 875 = .ok (.iconst 1, 1) := by decide +kernel
theorem d_Law_876 : decode code 876 = .ok (.iadd, 1) := by decide +kernel
theorem d_Law_877 : decode code 877 = .ok (.iaload, 1) := by decide +kernel
theorem d_Law_878 : decode code 878 = .ok (.invokevirtual 98, 3) := by decide +kernel
theorem d_Law_881 : decode code 881 = .ok (.aload_n 2, 1) := by decide +kernel
theorem d_Law_882 : decode code 882 = .ok (.aload_n 0, 1) := by decide +kernel
theorem d_Law_883 : decode code 883 = .ok (.iload_n 3, 1) := by decide +kernel
theorem d_Law_884 : decode code 884 = .ok (.iconst 1, 1) := by decide +kernel
theorem d_Law_885 : decode code 885 = .ok (.iadd, 1) := by decide +kernel
theorem d_Law_886 : decode code 886 = .ok (.iaload, 1) := by decide +kernel
theorem d_Law_887 : decode code 887 = .ok (.invokevirtual 101, 3) := by decide +kernel
theorem d_Law_890 : decode code 890 = .ok (.if_icmp .eq 573, 3) := by decide +kernel
theorem d_Law_893 : decode code 893 = .ok (.iconst 0, 1) := by decide +kernel
theorem d_Law_894 : decode code 894 = .ok (.ireturn, 1) := by decide +kernel
theorem d_Law_895 : decode code 895 = .ok (.aload_n 1, 1) := by decide +kernel
theorem d_Law_896 : decode code 896 = .ok (.aload_n 0, 1) := by decide +kernel
theorem d_Law_897 : decode code 897 = .ok (.iload_n 3, 1) := by decide +kernel
theorem d_Law_898 : decode code 898 = .ok (.iconst 1, 1) := by decide +kernel
theorem d_Law_899 : decode code 899 = .ok (.iadd, 1) := by decide +kernel
theorem d_Law_900 : decode code 900 = .ok (.iaload, 1) := by decide +kernel
theorem d_Law_901 : decode code 901 = .ok (.aload_n 0, 1) := by decide +kernel
theorem d_Law_902 : decode code 902 = .ok (.iload_n 3, 1) := by decide +kernel
theorem d_Law_903 : decode code 903 = .ok (.iconst 2, 1) := by decide +kernel
theorem d_Law_904 : decode code 904 = .ok (.iadd, 1) := by decide +kernel
theorem d_Law_905 : decode code 905 = .ok (.iaload, 1) := by decide +kernel
theorem d_Law_906 : decode code 906 = .ok (.aload_n 0, 1) := by decide +kernel
theorem d_Law_907 : decode code 907 = .ok (.iload_n 3, 1) := by decide +kernel
theorem d_Law_908 : decode code 908 = .ok (.iconst 3, 1) := by decide +kernel
theorem d_Law_909 : decode code 909 = .ok (.iadd, 1) := by decide +kernel
theorem d_Law_910 : decode code 910 = .ok (.iaload, 1) := by decide +kernel
theorem d_Law_911 : decode code 911 = .ok (.invokevirtual 102, 3) := by decide +kernel
theorem d_Law_914 : decode code 914 = .ok (.aload_n 2, 1) := by decide +kernel
theorem d_Law_915 : decode code 915 = .ok (.aload_n 0, 1) := by decide +kernel
theorem d_Law_916 : decode code 916 = .ok (.iload_n 3, 1) := by decide +kernel
theorem d_Law_917 : decode code 917 = .ok (.iconst 1, 1) := by decide +kernel
theorem d_Law_918 : decode code 918 = .ok (.iadd, 1) := by decide +kernel
theorem d_Law_919 : decode code 919 = .ok (.iaload, 1) := by decide +kernel
theorem d_Law_920 : decode code 920 = .ok (.aload_n 0, 1) := by decide +kernel
theorem d_Law_921 : decode code 921 = .ok (.iload_n 3, 1) := by decide +kernel
theorem d_Law_922 : decode code 922 = .ok (.iconst 2, 1) := by decide +kernel
theorem d_Law_923 : decode code 923 = .ok (.iadd, 1) := by decide +kernel
theorem d_Law_924 : decode code 924 = .ok (.iaload, 1) := by decide +kernel
theorem d_Law_925 : decode code 925 = .ok (.aload_n 0, 1) := by decide +kernel
theorem d_Law_926 : decode code 926 = .ok (.iload_n 3, 1) := by decide +kernel
theorem d_Law_927 : decode code 927 = .ok (.iconst 3, 1) := by decide +kernel
theorem d_Law_928 : decode code 928 = .ok (.iadd, 1) := by decide +kernel
theorem d_Law_929 : decode code 929 = .ok (.iaload, 1) := by decide +kernel
theorem d_Law_930 : decode code 930 = .ok (.invokevirtual 105, 3) := by decide +kernel
theorem d_Law_933 : decode code 933 = .ok (.if_icmp .eq 530, 3) := by decide +kernel
theorem d_Law_936 : decode code 936 = .ok (.iconst 0, 1) := by decide +kernel
theorem d_Law_937 : decode code 937 = .ok (.ireturn, 1) := by decide +kernel
theorem d_Law_938 : decode code 938 = .ok (.aload_n 1, 1) := by decide +kernel
theorem d_Law_939 : decode code 939 = .ok (.aload_n 0, 1) := by decide +kernel
theorem d_Law_940 : decode code 940 = .ok (.iload_n 3, 1) := by decide +kernel
theorem d_Law_941 : decode code 941 = .ok (.iconst 1, 1) := by decide +kernel
theorem d_Law_942 : decode code 942 = .ok (.iadd, 1) := by decide +kernel
theorem d_Law_943 : decode code 943 = .ok (.iaload, 1) := by decide +kernel
theorem d_Law_944 : decode code 944 = .ok (.invokevirtual 106, 3) := by decide +kernel
theorem d_Law_947 : decode code 947 = .ok (.aload_n 2, 1) := by decide +kernel
theorem d_Law_948 : decode code 948 = .ok (.aload_n 0, 1) := by decide +kernel
theorem d_Law_949 : decode code 949 = .ok (.iload_n 3, 1) := by decide +kernel
theorem d_Law_950 : decode code 950 = .ok (.iconst 1, 1) := by decide +kernel
theorem d_Law_951 : decode code 951 = .ok (.iadd, 1) := by decide +kernel
theorem d_Law_952 : decode code 952 = .ok (.iaload, 1) := by decide +kernel
theorem d_Law_953 : decode code 953 = .ok (.invokevirtual 109, 3) := by decide +kernel
theorem d_Law_956 : decode code 956 = .ok (.if_icmp .eq 507, 3) := by decide +kernel
theorem d_Law_959 : decode code 959 = .ok (.iconst 0, 1) := by decide +kernel
theorem d_Law_960 : decode code 960 = .ok (.ireturn, 1) := by decide +kernel
theorem d_Law_961 : decode code 961 = .ok (.aload_n 1, 1) := by decide +kernel
theorem d_Law_962 : decode code 962 = .ok (.aload_n 0, 1) := by decide +kernel
theorem d_Law_963 : decode code 963 = .ok (.iload_n 3, 1) := by decide +kernel
theorem d_Law_964 : decode code 964 = .ok (.iconst 1, 1) := by decide +kernel
theorem d_Law_965 : decode code 965 = .ok (.iadd, 1) := by decide +kernel
theorem d_Law_966 : decode code 966 = .ok (.iaload, 1) := by decide +kernel
theorem d_Law_967 : decode code 967 = .ok (.aload_n 0, 1) := by decide +kernel
theorem d_Law_968 : decode code 968 = .ok (.iload_n 3, 1) := by decide +kernel
theorem d_Law_969 : decode code 969 = .ok (.iconst 2, 1) := by decide +kernel
theorem d_Law_970 : decode code 970 = .ok (.iadd, 1) := by decide +kernel
theorem d_Law_971 : decode code 971 = .ok (.iaload, 1) := by decide +kernel
theorem d_Law_972 : decode code 972 = .ok (.invokevirtual 110, 3) := by decide +kernel
theorem d_Law_975 : decode code 975 = .ok (.aload_n 2, 1) := by decide +kernel
theorem d_Law_976 : decode code 976 = .ok (.aload_n 0, 1) := by decide +kernel
theorem d_Law_977 : decode code 977 = .ok (.iload_n 3, 1) := by decide +kernel
theorem d_Law_978 : decode code 978 = .ok (.iconst 1, 1) := by decide +kernel
theorem d_Law_979 : decode code 979 = .ok (.iadd, 1) := by decide +kernel
theorem d_Law_980 : decode code 980 = .ok (.iaload, 1) := by decide +kernel
theorem d_Law_981 : decode code 981 = .ok (.aload_n 0, 1) := by decide +kernel
theorem d_Law_982 : decode code 982 = .ok (.iload_n 3, 1) := by decide +kernel
theorem d_Law_983 : decode code 983 = .ok (.iconst 2, 1) := by decide +kernel
theorem d_Law_984 : decode code 984 = .ok (.iadd, 1) := by decide +kernel
theorem d_Law_985 : decode code 985 = .ok (.iaload, 1) := by decide +kernel
theorem d_Law_986 : decode code 986 = .ok (.invokevirtual 113, 3) := by decide +kernel
theorem d_Law_989 : decode code 989 = .ok (.if_icmp .eq 474, 3) := by decide +kernel
theorem d_Law_992 : decode code 992 = .ok (.iconst 0, 1) := by decide +kernel
theorem d_Law_993 : decode code 993 = .ok (.ireturn, 1) := by decide +kernel
theorem d_Law_994 : decode code 994 = .ok (.aload_n 1, 1) := by decide +kernel
theorem d_Law_995 : decode code 995 = .ok (.aload_n 0, 1) := by decide +kernel
theorem d_Law_996 : decode code 996 = .ok (.iload_n 3, 1) := by decide +kernel
theorem d_Law_997 : decode code 997 = .ok (.iconst 1, 1) := by decide +kernel
theorem d_Law_998 : decode code 998 = .ok (.iadd, 1) := by decide +kernel
theorem d_Law_999 : decode code 999 = .ok (.iaload, 1) := by decide +kernel
theorem d_Law_1000 : decode code 1000 = .ok (.aload_n 0, 1) := by decide +kernel
theorem d_Law_1001 : decode code 1001 = .ok (.iload_n 3, 1) := by decide +kernel
theorem d_Law_1002 : decode code 1002 = .ok (.iconst 2, 1) := by decide +kernel
theorem d_Law_1003 : decode code 1003 = .ok (.iadd, 1) := by decide +kernel
theorem d_Law_1004 : decode code 1004 = .ok (.iaload, 1) := by decide +kernel
theorem d_Law_1005 : decode code 1005 = .ok (.invokevirtual 114, 3) := by decide +kernel
theorem d_Law_1008 : decode code 1008 = .ok (.aload_n 2, 1) := by decide +kernel
theorem d_Law_1009 : decode code 1009 = .ok (.aload_n 0, 1) := by decide +kernel
theorem d_Law_1010 : decode code 1010 = .ok (.iload_n 3, 1) := by decide +kernel
theorem d_Law_1011 : decode code 1011 = .ok (.iconst 1, 1) := by decide +kernel
theorem d_Law_1012 : decode code 1012 = .ok (.iadd, 1) := by decide +kernel
theorem d_Law_1013 : decode code 1013 = .ok (.iaload, 1) := by decide +kernel
theorem d_Law_1014 : decode code 1014 = .ok (.aload_n 0, 1) := by decide +kernel
theorem d_Law_1015 : decode code 1015 = .ok (.iload_n 3, 1) := by decide +kernel
theorem d_Law_1016 : decode code 1016 = .ok (.iconst 2, 1) := by decide +kernel
theorem d_Law_1017 : decode code 1017 = .ok (.iadd, 1) := by decide +kernel
theorem d_Law_1018 : decode code 1018 = .ok (.iaload, 1) := by decide +kernel
theorem d_Law_1019 : decode code 1019 = .ok (.invokevirtual 117, 3) := by decide +kernel
theorem d_Law_1022 : decode code 1022 = .ok (.if_icmp .eq 441, 3) := by decide +kernel
theorem d_Law_1025 : decode code 1025 = .ok (.iconst 0, 1) := by decide +kernel
theorem d_Law_1026 : decode code 1026 = .ok (.ireturn, 1) := by decide +kernel
theorem d_Law_1027 : decode code 1027 = .ok (.aload_n 1, 1) := by decide +kernel
theorem d_Law_1028 : decode code 1028 = .ok (.aload_n 0, 1) := by decide +kernel
theorem d_Law_1029 : decode code 1029 = .ok (.iload_n 3, 1) := by decide +kernel
theorem d_Law_1030 : decode code 1030 = .ok (.iconst 1, 1) := by decide +kernel
theorem d_Law_1031 : decode code 1031 = .ok (.iadd, 1) := by decide +kernel
theorem d_Law_1032 : decode code 1032 = .ok (.iaload, 1) := by decide +kernel
theorem d_Law_1033 : decode code 1033 = .ok (.aload_n 0, 1) := by decide +kernel
theorem d_Law_1034 : decode code 1034 = .ok (.iload_n 3, 1) := by decide +kernel
theorem d_Law_1035 : decode code 1035 = .ok (.iconst 2, 1) := by decide +kernel
theorem d_Law_1036 : decode code 1036 = .ok (.iadd, 1) := by decide +kernel
theorem d_Law_1037 : decode code 1037 = .ok (.iaload, 1) := by decide +kernel
theorem d_Law_1038 : decode code 1038 = .ok (.aload_n 0, 1) := by decide +kernel
theorem d_Law_1039 : decode code 1039 = .ok (.iload_n 3, 1) := by decide +kernel
theorem d_Law_1040 : decode code 1040 = .ok (.iconst 3, 1) := by decide +kernel
theorem d_Law_1041 : decode code 1041 = .ok (.iadd, 1) := by decide +kernel
theorem d_Law_1042 : decode code 1042 = .ok (.iaload, 1) := by decide +kernel
theorem d_Law_1043 : decode code 1043 = .ok (.aload_n 0, 1) := by decide +kernel
theorem d_Law_1044 : decode code 1044 = .ok (.iload_n 3, 1) := by decide +kernel
theorem d_Law_1045 : decode code 1045 = .ok (.iconst 4, 1) := by decide +kernel
theorem d_Law_1046 : decode code 1046 = .ok (.iadd, 1) := by decide +kernel
theorem d_Law_1047 : decode code 1047 = .ok (.iaload, 1) := by decide +kernel
theorem d_Law_1048 : decode code 1048 = .ok (.aload_n 0, 1) := by decide +kernel
theorem d_Law_1049 : decode code 1049 = .ok (.iload_n 3, 1) := by decide +kernel
theorem d_Law_1050 : decode code 1050 = .ok (.iconst 5, 1) := by decide +kernel
theorem d_Law_1051 : decode code 1051 = .ok (.iadd, 1) := by decide +kernel
theorem d_Law_1052 : decode code 1052 = .ok (.iaload, 1) := by decide +kernel
theorem d_Law_1053 : decode code 1053 = .ok (.invokevirtual 118, 3) := by decide +kernel
theorem d_Law_1056 : decode code 1056 = .ok (.aload_n 2, 1) := by decide +kernel
theorem d_Law_1057 : decode code 1057 = .ok (.aload_n 0, 1) := by decide +kernel
theorem d_Law_1058 : decode code 1058 = .ok (.iload_n 3, 1) := by decide +kernel
theorem d_Law_1059 : decode code 1059 = .ok (.iconst 1, 1) := by decide +kernel
theorem d_Law_1060 : decode code 1060 = .ok (.iadd, 1) := by decide +kernel
theorem d_Law_1061 : decode code 1061 = .ok (.iaload, 1) := by decide +kernel
theorem d_Law_1062 : decode code 1062 = .ok (.aload_n 0, 1) := by decide +kernel
theorem d_Law_1063 : decode code 1063 = .ok (.iload_n 3, 1) := by decide +kernel
theorem d_Law_1064 : decode code 1064 = .ok (.iconst 2, 1) := by decide +kernel
theorem d_Law_1065 : decode code 1065 = .ok (.iadd, 1) := by decide +kernel
theorem d_Law_1066 : decode code 1066 = .ok (.iaload, 1) := by decide +kernel
theorem d_Law_1067 : decode code 1067 = .ok (.aload_n 0, 1) := by decide +kernel
theorem d_Law_1068 : decode code 1068 = .ok (.iload_n 3, 1) := by decide +kernel
theorem d_Law_1069 : decode code 1069 = .ok (.iconst 3, 1) := by decide +kernel
theorem d_Law_1070 : decode code 1070 = .ok (.iadd, 1) := by decide +kernel
theorem d_Law_1071 : decode code 1071 = .ok (.iaload, 1) := by decide +kernel
theorem d_Law_1072 : decode code 1072 = .ok (.aload_n 0, 1) := by decide +kernel
theorem d_Law_1073 : decode code 1073 = .ok (.iload_n 3, 1) := by decide +kernel
theorem d_Law_1074 : decode code 1074 = .ok (.iconst 4, 1) := by decide +kernel
theorem d_Law_1075 : decode code 1075 = .ok (.iadd, 1) := by decide +kernel
theorem d_Law_1076 : decode code 1076 = .ok (.iaload, 1) := by decide +kernel
theorem d_Law_1077 : decode code 1077 = .ok (.aload_n 0, 1) := by decide +kernel
theorem d_Law_1078 : decode code 1078 = .ok (.iload_n 3, 1) := by decide +kernel
theorem d_Law_1079 : decode code 1079 = .ok (.iconst 5, 1) := by decide +kernel
theorem d_Law_1080 : decode code 1080 = .ok (.iadd, 1) := by decide +kernel
theorem d_Law_1081 : decode code 1081 = .ok (.iaload, 1) := by decide +kernel
theorem d_Law_1082 : decode code 1082 = .ok (.invokevirtual 122, 3) := by decide +kernel
theorem d_Law_1085 : decode code 1085 = .ok (.if_icmp .eq 378, 3) := by decide +kernel
theorem d_Law_1088 : decode code 1088 = .ok (.iconst 0, 1) := by decide +kernel
theorem d_Law_1089 : decode code 1089 = .ok (.ireturn, 1) := by decide +kernel
theorem d_Law_1090 : decode code 1090 = .ok (.aload_n 1, 1) := by decide +kernel
theorem d_Law_1091 : decode code 1091 = .ok (.aload_n 0, 1) := by decide +kernel
theorem d_Law_1092 : decode code 1092 = .ok (.iload_n 3, 1) := by decide +kernel
theorem d_Law_1093 : decode code 1093 = .ok (.iconst 1, 1) := by decide +kernel
theorem d_Law_1094 : decode code 1094 = .ok (.iadd, 1) := by decide +kernel
theorem d_Law_1095 : decode code 1095 = .ok (.iaload, 1) := by decide +kernel
theorem d_Law_1096 : decode code 1096 = .ok (.aload_n 0, 1) := by decide +kernel
theorem d_Law_1097 : decode code 1097 = .ok (.iload_n 3, 1) := by decide +kernel
theorem d_Law_1098 : decode code 1098 = .ok (.iconst 2, 1) := by decide +kernel
theorem d_Law_1099 : decode code 1099 = .ok (.iadd, 1) := by decide +kernel
theorem d_Law_1100 : decode code 1100 = .ok (.iaload, 1) := by decide +kernel
theorem d_Law_1101 : decode code 1101 = .ok (.invokevirtual 123, 3) := by decide +kernel
theorem d_Law_1104 : decode code 1104 = .ok (.aload_n 2, 1) := by decide +kernel
theorem d_Law_1105 : decode code 1105 = .ok (.aload_n 0, 1) := by decide +kernel
theorem d_Law_1106 : decode code 1106 = .ok (.iload_n 3, 1) := by decide +kernel
theorem d_Law_1107 : decode code 1107 = .ok (.iconst 1, 1) := by decide +kernel
theorem d_Law_1108 : decode code 1108 = .ok (.iadd, 1) := by decide +kernel
theorem d_Law_1109 : decode code 1109 = .ok (.iaload, 1) := by decide +kernel
theorem d_Law_1110 : decode code 1110 = .ok (.aload_n 0, 1) := by decide +kernel
theorem d_Law_1111 : decode code 1111 = .ok (.iload_n 3, 1) := by decide +kernel
theorem d_Law_1112 : decode code 1112 = .ok (.iconst 2, 1) := by decide +kernel
theorem d_Law_1113 : decode code 1113 = .ok (.iadd, 1) := by decide +kernel
theorem d_Law_1114 : decode code 1114 = .ok (.iaload, 1) := by decide +kernel
theorem d_Law_1115 : decode code 1115 = .ok (.invokevirtual 126, 3) := by decide +kernel
theorem d_Law_1118 : decode code 1118 = .ok (.if_icmp .eq 345, 3) := by decide +kernel
theorem d_Law_1121 : decode code 1121 = .ok (.iconst 0, 1) := by decide +kernel
theorem d_Law_1122 : decode code 1122 = .ok (.ireturn, 1) := by decide +kernel
theorem d_Law_1123 : decode code 1123 = .ok (.aload_n 1, 1) := by decide +kernel
theorem d_Law_1124 : decode code 1124 = .ok (.aload_n 0, 1) := by decide +kernel
theorem d_Law_1125 : decode code 1125 = .ok (.iload_n 3, 1) := by decide +kernel
theorem d_Law_1126 : decode code 1126 = .ok (.iconst 1, 1) := by decide +kernel
theorem d_Law_1127 : decode code 1127 = .ok (.iadd, 1) := by decide +kernel
theorem d_Law_1128 : decode code 1128 = .ok (.iaload, 1) := by decide +kernel
theorem d_Law_1129 : decode code 1129 = .ok (.aload_n 0, 1) := by decide +kernel
theorem d_Law_1130 : decode code 1130 = .ok (.iload_n 3, 1) := by decide +kernel
theorem d_Law_1131 : decode code 1131 = .ok (.iconst 2, 1) := by decide +kernel
theorem d_Law_1132 : decode code 1132 = .ok (.iadd, 1) := by decide +kernel
theorem d_Law_1133 : decode code 1133 = .ok (.iaload, 1) := by decide +kernel
theorem d_Law_1134 : decode code 1134 = .ok (.aload_n 0, 1) := by decide +kernel
theorem d_Law_1135 : decode code 1135 = .ok (.iload_n 3, 1) := by decide +kernel
theorem d_Law_1136 : decode code 1136 = .ok (.iconst 3, 1) := by decide +kernel
theorem d_Law_1137 : decode code 1137 = .ok (.iadd, 1) := by decide +kernel
theorem d_Law_1138 : decode code 1138 = .ok (.iaload, 1) := by decide +kernel
theorem d_Law_1139 : decode code 1139 = .ok (.invokevirtual 127, 3) := by decide +kernel
theorem d_Law_1142 : decode code 1142 = .ok (.aload_n 2, 1) := by decide +kernel
theorem d_Law_1143 : decode code 1143 = .ok (.aload_n 0, 1) := by decide +kernel
theorem d_Law_1144 : decode code 1144 = .ok (.iload_n 3, 1) := by decide +kernel
theorem d_Law_1145 : decode code 1145 = .ok (.iconst 1, 1) := by decide +kernel
theorem d_Law_1146 : decode code 1146 = .ok (.iadd, 1) := by decide +kernel
theorem d_Law_1147 : decode code 1147 = .ok (.iaload, 1) := by decide +kernel
theorem d_Law_1148 : decode code 1148 = .ok (.aload_n 0, 1) := by decide +kernel
theorem d_Law_1149 : decode code 1149 = .ok (.iload_n 3, 1) := by decide +kernel
theorem d_Law_1150 : decode code 1150 = .ok (.iconst 2, 1) := by decide +kernel
theorem d_Law_1151 : decode code 1151 = .ok (.iadd, 1) := by decide +kernel
theorem d_Law_1152 : decode code 1152 = .ok (.iaload, 1) := by decide +kernel
theorem d_Law_1153 : decode code 1153 = .ok (.aload_n 0, 1) := by decide +kernel
theorem d_Law_1154 : decode code 1154 = .ok (.iload_n 3, 1) := by decide +kernel
theorem d_Law_1155 : decode code 1155 = .ok (.iconst 3, 1) := by decide +kernel
theorem d_Law_1156 : decode code 1156 = .ok (.iadd, 1) := by decide +kernel
theorem d_Law_1157 : decode code 1157 = .ok (.iaload, 1) := by decide +kernel
theorem d_Law_1158 : decode code 1158 = .ok (.invokevirtual 130, 3) := by decide +kernel
theorem d_Law_1161 : decode code 1161 = .ok (.if_icmp .eq 302, 3) := by decide +kernel
theorem d_Law_1164 : decode code 1164 = .ok (.iconst 0, 1) := by decide +kernel
theorem d_Law_1165 : decode code 1165 = .ok (.ireturn, 1) := by decide +kernel
theorem d_Law_1166 : decode code 1166 = .ok (.aload_n 1, 1) := by decide +kernel
theorem d_Law_1167 : decode code 1167 = .ok (.aload_n 0, 1) := by decide +kernel
theorem d_Law_1168 : decode code 1168 = .ok (.iload_n 3, 1) := by decide +kernel
theorem d_Law_1169 : decode code 1169 = .ok (.iconst 1, 1) := by decide +kernel
theorem d_Law_1170 : decode code 1170 = .ok (.iadd, 1) := by decide +kernel
theorem d_Law_1171 : decode code 1171 = .ok (.iaload, 1) := by decide +kernel
theorem d_Law_1172 : decode code 1172 = .ok (.aload_n 0, 1) := by decide +kernel
theorem d_Law_1173 : decode code 1173 = .ok (.iload_n 3, 1) := by decide +kernel
theorem d_Law_1174 : decode code 1174 = .ok (.iconst 2, 1) := by decide +kernel
theorem d_Law_1175 : decode code 1175 = .ok (.iadd, 1) := by decide +kernel
theorem d_Law_1176 : decode code 1176 = .ok (.iaload, 1) := by decide +kernel
theorem d_Law_1177 : decode code 1177 = .ok (.aload_n 0, 1) := by decide +kernel
theorem d_Law_1178 : decode code 1178 = .ok (.iload_n 3, 1) := by decide +kernel
theorem d_Law_1179 : decode code 1179 = .ok (.iconst 3, 1) := by decide +kernel
theorem d_Law_1180 : decode code 1180 = .ok (.iadd, 1) := by decide +kernel
theorem d_Law_1181 : decode code 1181 = .ok (.iaload, 1) := by decide +kernel
theorem d_Law_1182 : decode code 1182 = .ok (.invokevirtual 131, 3) := by decide +kernel
theorem d_Law_1185 : decode code 1185 = .ok (.aload_n 2, 1) := by decide +kernel
theorem d_Law_1186 : decode code 1186 = .ok (.aload_n 0, 1) := by decide +kernel
theorem d_Law_1187 : decode code 1187 = .ok (.iload_n 3, 1) := by decide +kernel
theorem d_Law_1188 : decode code 1188 = .ok (.iconst 1, 1) := by decide +kernel
theorem d_Law_1189 : decode code 1189 = .ok (.iadd, 1) := by decide +kernel
theorem d_Law_1190 : decode code 1190 = .ok (.iaload, 1) := by decide +kernel
theorem d_Law_1191 : decode code 1191 = .ok (.aload_n 0, 1) := by decide +kernel
theorem d_Law_1192 : decode code 1192 = .ok (.iload_n 3, 1) := by decide +kernel
theorem d_Law_1193 : decode code 1193 = .ok (.iconst 2, 1) := by decide +kernel
theorem d_Law_1194 : decode code 1194 = .ok (.iadd, 1) := by decide +kernel
theorem d_Law_1195 : decode code 1195 = .ok (.iaload, 1) := by decide +kernel
theorem d_Law_1196 : decode code 1196 = .ok (.aload_n 0, 1) := by decide +kernel
theorem d_Law_1197 : decode code 1197 = .ok (.iload_n 3, 1) := by decide +kernel
theorem d_Law_1198 : decode code 1198 = .ok (.iconst 3, 1) := by decide +kernel
theorem d_Law_1199 : decode code 1199 = .ok (.iadd, 1) := by decide +kernel
theorem d_Law_1200 : decode code 1200 = .ok (.iaload, 1) := by decide +kernel
theorem d_Law_1201 : decode code 1201 = .ok (.invokevirtual 135, 3) := by decide +kernel
theorem d_Law_1204 : decode code 1204 = .ok (.if_icmp .eq 259, 3) := by decide +kernel
theorem d_Law_1207 : decode code 1207 = .ok (.iconst 0, 1) := by decide +kernel
theorem d_Law_1208 : decode code 1208 = .ok (.ireturn, 1) := by decide +kernel
theorem d_Law_1209 : decode code 1209 = .ok (.aload_n 1, 1) := by decide +kernel
theorem d_Law_1210 : decode code 1210 = .ok (.aload_n 0, 1) := by decide +kernel
theorem d_Law_1211 : decode code 1211 = .ok (.iload_n 3, 1) := by decide +kernel
theorem d_Law_1212 : decode code 1212 = .ok (.iconst 1, 1) := by decide +kernel
theorem d_Law_1213 : decode code 1213 = .ok (.iadd, 1) := by decide +kernel
theorem d_Law_1214 : decode code 1214 = .ok (.iaload, 1) := by decide +kernel
theorem d_Law_1215 : decode code 1215 = .ok (.aload_n 0, 1) := by decide +kernel
theorem d_Law_1216 : decode code 1216 = .ok (.iload_n 3, 1) := by decide +kernel
theorem d_Law_1217 : decode code 1217 = .ok (.iconst 2, 1) := by decide +kernel
theorem d_Law_1218 : decode code 1218 = .ok (.iadd, 1) := by decide +kernel
theorem d_Law_1219 : decode code 1219 = .ok (.iaload, 1) := by decide +kernel
theorem d_Law_1220 : decode code 1220 = .ok (.aload_n 0, 1) := by decide +kernel
theorem d_Law_1221 : decode code 1221 = .ok (.iload_n 3, 1) := by decide +kernel
theorem d_Law_1222 : decode code 1222 = .ok (.iconst 3, 1) := by decide +kernel
theorem d_Law_1223 : decode code 1223 = .ok (.iadd, 1) := by decide +kernel
theorem d_Law_1224 : decode code 1224 = .ok (.iaload, 1) := by decide +kernel
theorem d_Law_1225 : decode code 1225 = .ok (.invokevirtual 136, 3) := by decide +kernel
theorem d_Law_1228 : decode code 1228 = .ok (.aload_n 2, 1) := by decide +kernel
theorem d_Law_1229 : decode code 1229 = .ok (.aload_n 0, 1) := by decide +kernel
theorem d_Law_1230 : decode code 1230 = .ok (.iload_n 3, 1) := by decide +kernel
theorem d_Law_1231 : decode code 1231 = .ok (.iconst 1, 1) := by decide +kernel
theorem d_Law_1232 : decode code 1232 = .ok (.iadd, 1) := by decide +kernel
theorem d_Law_1233 : decode code 1233 = .ok (.iaload, 1) := by decide +kernel
theorem d_Law_1234 : decode code 1234 = .ok (.aload_n 0, 1) := by decide +kernel
theorem d_Law_1235 : decode code 1235 = .ok (.iload_n 3, 1) := by decide +kernel
theorem d_Law_1236 : decode code 1236 = .ok (.iconst 2, 1) := by decide +kernel
theorem d_Law_1237 : decode code 1237 = .ok (.iadd, 1) := by decide +kernel
theorem d_Law_1238 : decode code 1238 = .ok (.iaload, 1) := by decide +kernel
theorem d_Law_1239 : decode code 1239 = .ok (.aload_n 0, 1) := by decide +kernel
theorem d_Law_1240 : decode code 1240 = .ok (.iload_n 3, 1) := by decide +kernel
theorem d_Law_1241 : decode code 1241 = .ok (.iconst 3, 1) := by decide +kernel
theorem d_Law_1242 : decode code 1242 = .ok (.iadd, 1) := by decide +kernel
theorem d_Law_1243 : decode code 1243 = .ok (.iaload, 1) := by decide +kernel
theorem d_Law_1244 : decode code 1244 = .ok (.invokevirtual 139, 3) := by decide +kernel
theorem d_Law_1247 : decode code 1247 = .ok (.if_icmp .eq 216, 3) := by decide +kernel
theorem d_Law_1250 : decode code 1250 = .ok (.iconst 0, 1) := by decide +kernel
theorem d_Law_1251 : decode code 1251 = .ok (.ireturn, 1) := by decide +kernel
theorem d_Law_1252 : decode code 1252 = .ok (.aload_n 1, 1) := by decide +kernel
theorem d_Law_1253 : decode code 1253 = .ok (.aload_n 0, 1) := by decide +kernel
theorem d_Law_1254 : decode code 1254 = .ok (.iload_n 3, 1) := by decide +kernel
theorem d_Law_1255 : decode code 1255 = .ok (.iconst 1, 1) := by decide +kernel
theorem d_Law_1256 : decode code 1256 = .ok (.iadd, 1) := by decide +kernel
theorem d_Law_1257 : decode code 1257 = .ok (.iaload, 1) := by decide +kernel
theorem d_Law_1258 : decode code 1258 = .ok (.aload_n 0, 1) := by decide +kernel
theorem d_Law_1259 : decode code 1259 = .ok (.iload_n 3, 1) := by decide +kernel
theorem d_Law_1260 : decode code 1260 = .ok (.iconst 2, 1) := by decide +kernel
theorem d_Law_1261 : decode code 1261 = .ok (.iadd, 1) := by decide +kernel
theorem d_Law_1262 : decode code 1262 = .ok (.iaload, 1) := by decide +kernel
theorem d_Law_1263 : decode code 1263 = .ok (.aload_n 0, 1) := by decide +kernel
theorem d_Law_1264 : decode code 1264 = .ok (.iload_n 3, 1) := by decide +kernel
theorem d_Law_1265 : decode code 1265 = .ok (.iconst 3, 1) := by decide +kernel
theorem d_Law_1266 : decode code 1266 = .ok (.iadd, 1) := by decide +kernel
theorem d_Law_1267 : decode code 1267 = .ok (.iaload, 1) := by decide +kernel
theorem d_Law_1268 : decode code 1268 = .ok (.invokevirtual 140, 3) := by decide +kernel
theorem d_Law_1271 : decode code 1271 = .ok (.aload_n 2, 1) := by decide +kernel
theorem d_Law_1272 : decode code 1272 = .ok (.aload_n 0, 1) := by decide +kernel
theorem d_Law_1273 : decode code 1273 = .ok (.iload_n 3, 1) := by decide +kernel
theorem d_Law_1274 : decode code 1274 = .ok (.iconst 1, 1) := by decide +kernel
theorem d_Law_1275 : decode code 1275 = .ok (.iadd, 1) := by decide +kernel
theorem d_Law_1276 : decode code 1276 = .ok (.iaload, 1) := by decide +kernel
theorem d_Law_1277 : decode code 1277 = .ok (.aload_n 0, 1) := by decide +kernel
theorem d_Law_1278 : decode code 1278 = .ok (.iload_n 3, 1) := by decide +kernel
theorem d_Law_1279 : decode code 1279 = .ok (.iconst 2, 1) := by decide +kernel
theorem d_Law_1280 : decode code 1280 = .ok (.iadd, 1) := by decide +kernel
theorem d_Law_1281 : decode code 1281 = .ok (.iaload, 1) := by decide +kernel
theorem d_Law_1282 : decode code 1282 = .ok (.aload_n 0, 1) := by decide +kernel
theorem d_Law_1283 : decode code 1283 = .ok (.iload_n 3, 1) := by decide +kernel
theorem d_Law_1284 : decode code 1284 = .ok (.iconst 3, 1) := by decide +kernel
theorem d_Law_1285 : decode code 1285 = .ok (.iadd, 1) := by decide +kernel
theorem d_Law_1286 : decode code 1286 = .ok (.iaload, 1) := by decide +kernel
theorem d_Law_1287 : decode code 1287 = .ok (.invokevirtual 143, 3) := by decide +kernel
theorem d_Law_1290 : decode code 1290 = .ok (.if_icmp .eq 173, 3) := by decide +kernel
theorem d_Law_1293 : decode code 1293 = .ok (.iconst 0, 1) := by decide +kernel
theorem d_Law_1294 : decode code 1294 = .ok (.ireturn, 1) := by decide +kernel
theorem d_Law_1295 : decode code 1295 = .ok (.aload_n 1, 1) := by decide +kernel
theorem d_Law_1296 : decode code 1296 = .ok (.aload_n 0, 1) := by decide +kernel
theorem d_Law_1297 : decode code 1297 = .ok (.iload_n 3, 1) := by decide +kernel
theorem d_Law_1298 : decode code 1298 = .ok (.iconst 1, 1) := by decide +kernel
theorem d_Law_1299 : decode code 1299 = .ok (.iadd, 1) := by decide +kernel
theorem d_Law_1300 : decode code 1300 = .ok (.iaload, 1) := by decide +kernel
theorem d_Law_1301 : decode code 1301 = .ok (.aload_n 0, 1) := by decide +kernel
theorem d_Law_1302 : decode code 1302 = .ok (.iload_n 3, 1) := by decide +kernel
theorem d_Law_1303 : decode code 1303 = .ok (.iconst 2, 1) := by decide +kernel
theorem d_Law_1304 : decode code 1304 = .ok (.iadd, 1) := by decide +kernel
theorem d_Law_1305 : decode code 1305 = .ok (.iaload, 1) := by decide +kernel
theorem d_Law_1306 : decode code 1306 = .ok (.invokevirtual 144, 3) := by decide +kernel
theorem d_Law_1309 : decode code 1309 = .ok (.aload_n 2, 1) := by decide +kernel
theorem d_Law_1310 : decode code 1310 = .ok (.aload_n 0, 1) := by decide +kernel
theorem d_Law_1311 : decode code 1311 = .ok (.iload_n 3, 1) := by decide +kernel
theorem d_Law_1312 : decode code 1312 = .ok (.iconst 1, 1) := by decide +kernel
theorem d_Law_1313 : decode code 1313 = .ok (.iadd, 1) := by decide +kernel
theorem d_Law_1314 : decode code 1314 = .ok (.iaload, 1) := by decide +kernel
theorem d_Law_1315 : decode code 1315 = .ok (.aload_n 0, 1) := by decide +kernel
theorem d_Law_1316 : decode code 1316 = .ok (.iload_n 3, 1) := by decide +kernel
theorem d_Law_1317 : decode code 1317 = .ok (.iconst 2, 1) := by decide +kernel
theorem d_Law_1318 : decode code 1318 = .ok (.iadd, 1) := by decide +kernel
theorem d_Law_1319 : decode code 1319 = .ok (.iaload, 1) := by decide +kernel
theorem d_Law_1320 : decode code 1320 = .ok (.invokevirtual 147, 3) := by decide +kernel
theorem d_Law_1323 : decode code 1323 = .ok (.if_icmp .eq 140, 3) := by decide +kernel
theorem d_Law_1326 : decode code 1326 = .ok (.iconst 0, 1) := by decide +kernel
theorem d_Law_1327 : decode code 1327 = .ok (.ireturn, 1) := by decide +kernel
theorem d_Law_1328 : decode code 1328 = .ok (.aload_n 1, 1) := by decide +kernel
theorem d_Law_1329 : decode code 1329 = .ok (.aload_n 0, 1) := by decide +kernel
theorem d_Law_1330 : decode code 1330 = .ok (.iload_n 3, 1) := by decide +kernel
theorem d_Law_1331 : decode code 1331 = .ok (.iconst 1, 1) := by decide +kernel
theorem d_Law_1332 : decode code 1332 = .ok (.iadd, 1) := by decide +kernel
theorem d_Law_1333 : decode code 1333 = .ok (.iaload, 1) := by decide +kernel
theorem d_Law_1334 : decode code 1334 = .ok (.aload_n 0, 1) := by decide +kernel
theorem d_Law_1335 : decode code 1335 = .ok (.iload_n 3, 1) := by decide +kernel
theorem d_Law_1336 : decode code 1336 = .ok (.iconst 2, 1) := by decide +kernel
theorem d_Law_1337 : decode code 1337 = .ok (.iadd, 1) := by decide +kernel
theorem d_Law_1338 : decode code 1338 = .ok (.iaload, 1) := by decide +kernel
theorem d_Law_1339 : decode code 1339 = .ok (.aload_n 0, 1) := by decide +kernel
theorem d_Law_1340 : decode code 1340 = .ok (.iload_n 3, 1) := by decide +kernel
theorem d_Law_1341 : decode code 1341 = .ok (.iconst 3, 1) := by decide +kernel
theorem d_Law_1342 : decode code 1342 = .ok (.iadd, 1) := by decide +kernel
theorem d_Law_1343 : decode code 1343 = .ok (.iaload, 1) := by decide +kernel
theorem d_Law_1344 : decode code 1344 = .ok (.aload_n 0, 1) := by decide +kernel
theorem d_Law_1345 : decode code 1345 = .ok (.iload_n 3, 1) := by decide +kernel
theorem d_Law_1346 : decode code 1346 = .ok (.iconst 4, 1) := by decide +kernel
theorem d_Law_1347 : decode code 1347 = .ok (.iadd, 1) := by decide +kernel
theorem d_Law_1348 : decode code 1348 = .ok (.iaload, 1) := by decide +kernel
theorem d_Law_1349 : decode code 1349 = .ok (.invokevirtual 148, 3) := by decide +kernel
theorem d_Law_1352 : decode code 1352 = .ok (.aload_n 2, 1) := by decide +kernel
theorem d_Law_1353 : decode code 1353 = .ok (.aload_n 0, 1) := by decide +kernel
theorem d_Law_1354 : decode code 1354 = .ok (.iload_n 3, 1) := by decide +kernel
theorem d_Law_1355 : decode code 1355 = .ok (.iconst 1, 1) := by decide +kernel
theorem d_Law_1356 : decode code 1356 = .ok (.iadd, 1) := by decide +kernel
theorem d_Law_1357 : decode code 1357 = .ok (.iaload, 1) := by decide +kernel
theorem d_Law_1358 : decode code 1358 = .ok (.aload_n 0, 1) := by decide +kernel
theorem d_Law_1359 : decode code 1359 = .ok (.iload_n 3, 1) := by decide +kernel
theorem d_Law_1360 : decode code 1360 = .ok (.iconst 2, 1) := by decide +kernel
theorem d_Law_1361 : decode code 1361 = .ok (.iadd, 1) := by decide +kernel
theorem d_Law_1362 : decode code 1362 = .ok (.iaload, 1) := by decide +kernel
theorem d_Law_1363 : decode code 1363 = .ok (.aload_n 0, 1) := by decide +kernel
theorem d_Law_1364 : decode code 1364 = .ok (.iload_n 3, 1) := by decide +kernel
theorem d_Law_1365 : decode code 1365 = .ok (.iconst 3, 1) := by decide +kernel
theorem d_Law_1366 : decode code 1366 = .ok (.iadd, 1) := by decide +kernel
theorem d_Law_1367 : decode code 1367 = .ok (.iaload, 1) := by decide +kernel
theorem d_Law_1368 : decode code 1368 = .ok (.aload_n 0, 1) := by decide +kernel
theorem d_Law_1369 : decode code 1369 = .ok (.iload_n 3, 1) := by decide +kernel
theorem d_Law_1370 : decode code 1370 = .ok (.iconst 4, 1) := by decide +kernel
theorem d_Law_1371 : decode code 1371 = .ok (.iadd, 1) := by decide +kernel
theorem d_Law_1372 : decode code 1372 = .ok (.iaload, 1) := by decide +kernel
theorem d_Law_1373 : decode code 1373 = .ok (.invokevirtual 151, 3) := by decide +kernel
theorem d_Law_1376 : decode code 1376 = .ok (.if_icmp .eq 87, 3) := by decide +kernel
theorem d_Law_1379 : decode code 1379 = .ok (.iconst 0, 1) := by decide +kernel
theorem d_Law_1380 : decode code 1380 = .ok (.ireturn, 1) := by decide +kernel
theorem d_Law_1381 : decode code 1381 = .ok (.aload_n 1, 1) := by decide +kernel
theorem d_Law_1382 : decode code 1382 = .ok (.aload_n 0, 1) := by decide +kernel
theorem d_Law_1383 : decode code 1383 = .ok (.iload_n 3, 1) := by decide +kernel
theorem d_Law_1384 : decode code 1384 = .ok (.iconst 1, 1) := by decide +kernel
theorem d_Law_1385 : decode code 1385 = .ok (.iadd, 1) := by decide +kernel
theorem d_Law_1386 : decode code 1386 = .ok (.iaload, 1) := by decide +kernel
theorem d_Law_1387 : decode code 1387 = .ok (.invokevirtual 152, 3) := by decide +kernel
theorem d_Law_1390 : decode code 1390 = .ok (.aload_n 2, 1) := by decide +kernel
theorem d_Law_1391 : decode code 1391 = .ok (.aload_n 0, 1) := by decide +kernel
theorem d_Law_1392 : decode code 1392 = .ok (.iload_n 3, 1) := by decide +kernel
theorem d_Law_1393 : decode code 1393 = .ok (.iconst 1, 1) := by decide +kernel
theorem d_Law_1394 : decode code 1394 = .ok (.iadd, 1) := by decide +kernel
theorem d_Law_1395 : decode code 1395 = .ok (.iaload, 1) := by decide +kernel
theorem d_Law_1396 : decode code 1396 = .ok (.invokevirtual 155, 3) := by decide +kernel
theorem d_Law_1399 : decode code 1399 = .ok (.if_icmp .eq 64, 3) := by decide +kernel
theorem d_Law_1402 : decode code 1402 = .ok (.iconst 0, 1) := by decide +kernel
theorem d_Law_1403 : decode code 1403 = .ok (.ireturn, 1) := by decide +kernel
theorem d_Law_1404 : decode code 1404 = .ok (.aload_n 1, 1) := by decide +kernel
theorem d_Law_1405 : decode code 1405 = .ok (.invokevirtual 156, 3) := by decide +kernel
theorem d_Law_1408 : decode code 1408 = .ok (.aload_n 2, 1) := by decide +kernel
theorem d_Law_1409 : decode code 1409 = .ok (.invokevirtual 159, 3) := by decide +kernel
theorem d_Law_1412 : decode code 1412 = .ok (.if_icmp .eq 51, 3) := by decide +kernel
theorem d_Law_1415 : decode code 1415 = .ok (.iconst 0, 1) := by decide +kernel
theorem d_Law_1416 : decode code 1416 = .ok (.ireturn, 1) := by decide +kernel
theorem d_Law_1417 : decode code 1417 = .ok (.aload_n 1, 1) := by decide +kernel
theorem d_Law_1418 : decode code 1418 = .ok (.aload_n 0, 1) := by decide +kernel
theorem d_Law_1419 : decode code 1419 = .ok (.iload_n 3, 1) := by decide +kernel
theorem d_Law_1420 : decode code 1420 = .ok (.iconst 1, 1) := by decide +kernel
theorem d_Law_1421 : decode code 1421 = .ok (.iadd, 1) := by decide +kernel
theorem d_Law_1422 : decode code 1422 = .ok (.iaload, 1) := by decide +kernel
theorem d_Law_1423 : decode code 1423 = .ok (.aload_n 0, 1) := by decide +kernel
theorem d_Law_1424 : decode code 1424 = .ok (.iload_n 3, 1) := by decide +kernel
theorem d_Law_1425 : decode code 1425 = .ok (.iconst 2, 1) := by decide +kernel
theorem d_Law_1426 : decode code 1426 = .ok (.iadd, 1) := by decide +kernel
theorem d_Law_1427 : decode code 1427 = .ok (.iaload, 1) := by decide +kernel
theorem d_Law_1428 : decode code 1428 = .ok (.invokevirtual 160, 3) := by decide +kernel
theorem d_Law_1431 : decode code 1431 = .ok (.aload_n 2, 1) := by decide +kernel
theorem d_Law_1432 : decode code 1432 = .ok (.aload_n 0, 1) := by decide +kernel
theorem d_Law_1433 : decode code 1433 = .ok (.iload_n 3, 1) := by decide +kernel
theorem d_Law_1434 : decode code 1434 = .ok (.iconst 1, 1) := by decide +kernel
theorem d_Law_1435 : decode code 1435 = .ok (.iadd, 1) := by decide +kernel
theorem d_Law_1436 : decode code 1436 = .ok (.iaload, 1) := by decide +kernel
theorem d_Law_1437 : decode code 1437 = .ok (.aload_n 0, 1) := by decide +kernel
theorem d_Law_1438 : decode code 1438 = .ok (.iload_n 3, 1) := by decide +kernel
theorem d_Law_1439 : decode code 1439 = .ok (.iconst 2, 1) := by decide +kernel
theorem d_Law_1440 : decode code 1440 = .ok (.iadd, 1) := by decide +kernel
theorem d_Law_1441 : decode code 1441 = .ok (.iaload, 1) := by decide +kernel
theorem d_Law_1442 : decode code 1442 = .ok (.invokevirtual 163, 3) := by decide +kernel
theorem d_Law_1445 : decode code 1445 = .ok (.if_icmp .eq 18, 3) := by decide +kernel
theorem d_Law_1448 : decode code 1448 = .ok (.iconst 0, 1) := by decide +kernel
theorem d_Law_1449 : decode code 1449 = .ok (.ireturn, 1) := by decide +kernel
theorem d_Law_1450 : decode code 1450 = .ok (.aload_n 1, 1) := by decide +kernel
theorem d_Law_1451 : decode code 1451 = .ok (.invokevirtual 164, 3) := by decide +kernel
theorem d_Law_1454 : decode code 1454 = .ok (.aload_n 2, 1) := by decide +kernel
theorem d_Law_1455 : decode code 1455 = .ok (.invokevirtual 167, 3) := by decide +kernel
theorem d_Law_1458 : decode code 1458 = .ok (.if_icmp .eq 5, 3) := by decide +kernel
theorem d_Law_1461 : decode code 1461 = .ok (.iconst 0, 1) := by decide +kernel
theorem d_Law_1462 : decode code 1462 = .ok (.ireturn, 1) := by decide +kernel
theorem d_Law_1463 : decode code 1463 = .ok (.iinc 3 7, 3) := by decide +kernel
theorem d_Law_1466 : decode code 1466 = .ok (.goto (-1448), 3) := by decide +kernel
theorem d_Law_1469 : decode code 1469 = .ok (.iconst 1, 1) := by decide +kernel
theorem d_Law_1470 : decode code 1470 = .ok (.ireturn, 1) := by decide +kernel
