theorem dL_law_836 : decode cL_law 836 = .ok (.iconst 3, 1) := by decide +kernel
theorem dL_law_837 : decode cL_law 837 = .ok (.iload 14, 2) := by decide +kernel
theorem dL_law_839 : decode cL_law 839 = .ok (.iload 15, 2) := by decide +kernel
theorem dL_law_841 : decode cL_law 841 = .ok (.iconst 0, 1) := by decide +kernel
theorem dL_law_842 : decode cL_law 842 = .ok (.invokestatic 63, 3) := by decide +kernel
theorem dL_law_845 : decode cL_law 845 = .ok (.invokestatic 89, 3) := by decide +kernel
theorem dL_law_848 : decode cL_law 848 = .ok (.if_icmp .ne 7, 3) := by decide +kernel
theorem dL_law_851 : decode cL_law 851 = .ok (.iconst 1, 1) := by decide +kernel
theorem dL_law_852 : decode cL_law 852 = .ok (.goto 4, 3) := by decide +kernel
theorem dL_law_855 : decode cL_law 855 = .ok (.iconst 0, 1) := by decide +kernel
theorem dL_law_856 : decode cL_law 856 = .ok (.istore 7, 2) := by decide +kernel
theorem dL_law_858 : decode cL_law 858 = .ok (.iinc 3 1, 3) := by decide +kernel
theorem dL_law_861 : decode cL_law 861 = .ok (.goto 407, 3) := by decide +kernel
theorem dL_law_864 : decode cL_law 864 = .ok (.iload 12, 2) := by decide +kernel
theorem dL_law_866 : decode cL_law 866 = .ok (.bipush 20, 2) := by decide +kernel
theorem dL_law_868 : decode cL_law 868 = .ok (.if_icmp .ge 108, 3) := by decide +kernel
theorem dL_law_871 : decode cL_law 871 = .ok (.iload 11, 2) := by decide +kernel
theorem dL_law_873 : decode cL_law 873 = .ok (.bipush 11, 2) := by decide +kernel
theorem dL_law_875 : decode cL_law 875 = .ok (.ishr, 1) := by decide +kernel
theorem dL_law_876 : decode cL_law 876 = .ok (.iconst 5, 1) := by decide +kernel
theorem dL_law_877 : decode cL_law 877 = .ok (.irem, 1) := by decide +kernel
theorem dL_law_878 : decode cL_law 878 = .ok (.istore 15, 2) := by decide +kernel
theorem dL_law_880 : decode cL_law 880 = .ok (.aload_n 1, 1) := by decide +kernel
theorem dL_law_881 : decode cL_law 881 = .ok (.iconst 5, 1) := by decide +kernel
theorem dL_law_882 : decode cL_law 882 = .ok (.iload 13, 2) := by decide +kernel
theorem dL_law_884 : decode cL_law 884 = .ok (.iload 14, 2) := by decide +kernel
theorem dL_law_886 : decode cL_law 886 = .ok (.iload 15, 2) := by decide +kernel
theorem dL_law_888 : decode cL_law 888 = .ok (.invokestatic 63, 3) := by decide +kernel
theorem dL_law_891 : decode cL_law 891 = .ok (.istore 16, 2) := by decide +kernel
theorem dL_law_893 : decode cL_law 893 = .ok (.aload_n 1, 1) := by decide +kernel
theorem dL_law_894 : decode cL_law 894 = .ok (.iconst 5, 1) := by decide +kernel
theorem dL_law_895 : decode cL_law 895 = .ok (.iload 14, 2) := by decide +kernel
theorem dL_law_897 : decode cL_law 897 = .ok (.iload 13, 2) := by decide +kernel
theorem dL_law_899 : decode cL_law 899 = .ok (.iload 15, 2) := by decide +kernel
theorem dL_law_901 : decode cL_law 901 = .ok (.invokestatic 63, 3) := by decide +kernel
theorem dL_law_904 : decode cL_law 904 = .ok (.istore 17, 2) := by decide +kernel
theorem dL_law_906 : decode cL_law 906 = .ok (.iload 16, 2) := by decide +kernel
theorem dL_law_908 : decode cL_law 908 = .ok (.ifCond .ge 25, 3) := by decide +kernel
theorem dL_law_911 : decode cL_law 911 = .ok (.iload 16, 2) := by decide +kernel
theorem dL_law_913 : decode cL_law 913 = .ok (.bipush (-12), 2) := by decide +kernel
theorem dL_law_915 : decode cL_law 915 = .ok (.if_icmp .ne 14, 3) := by decide +kernel
theorem dL_law_918 : decode cL_law 918 = .ok (.iload 17, 2) := by decide +kernel
theorem dL_law_920 : decode cL_law 920 = .ok (.bipush (-12), 2) := by decide +kernel
theorem dL_law_922 : decode cL_law 922 = .ok (.if_icmp .ne 7, 3) := by decide +kernel
theorem dL_law_925 : decode cL_law 925 = .ok (.iconst 1, 1) := by decide +kernel
theorem dL_law_926 : decode cL_law 926 = .ok (.goto 45, 3) := by decide +kernel
theorem dL_law_929 : decode cL_law 929 = .ok (.iconst 0, 1) := by decide +kernel
theorem dL_law_930 : decode cL_law 930 = .ok (.goto 41, 3) := by decide +kernel
theorem dL_law_933 : decode cL_law 933 = .ok (.iload 15, 2) := by decide +kernel
theorem dL_law_935 : decode cL_law 935 = .ok (.iconst 2, 1) := by decide +kernel
theorem dL_law_936 : decode cL_law 936 = .ok (.irem, 1) := by decide +kernel
theorem dL_law_937 : decode cL_law 937 = .ok (.ifCond .ne 18, 3) := by decide +kernel
theorem dL_law_940 : decode cL_law 940 = .ok (.iload 16, 2) := by decide +kernel
theorem dL_law_942 : decode cL_law 942 = .ok (.iload 17, 2) := by decide +kernel
theorem dL_law_944 : decode cL_law 944 = .ok (.if_icmp .ne 7, 3) := by decide +kernel
theorem dL_law_947 : decode cL_law 947 = .ok (.iconst 1, 1) := by decide +kernel
theorem dL_law_948 : decode cL_law 948 = .ok (.goto 23, 3) := by decide +kernel
theorem dL_law_951 : decode cL_law 951 = .ok (.iconst 0, 1) := by decide +kernel
theorem dL_law_952 : decode cL_law 952 = .ok (.goto 19, 3) := by decide +kernel
theorem dL_law_955 : decode cL_law 955 = .ok (.iload_n 2, 1) := by decide +kernel
