/-! the law: its instructions, 3 -/
theorem dlaw_728 : decode code 728 = .ok (.aload_n 0, 1) := by decide +kernel
theorem dlaw_729 : decode code 729 = .ok (.iload_n 3, 1) := by decide +kernel
theorem dlaw_730 : decode code 730 = .ok (.iconst 3, 1) := by decide +kernel
theorem dlaw_731 : decode code 731 = .ok (.iadd, 1) := by decide +kernel
theorem dlaw_732 : decode code 732 = .ok (.iaload, 1) := by decide +kernel
theorem dlaw_733 : decode code 733 = .ok (.invokevirtual 77, 3) := by decide +kernel
theorem dlaw_736 : decode code 736 = .ok (.aload_n 2, 1) := by decide +kernel
theorem dlaw_737 : decode code 737 = .ok (.aload_n 0, 1) := by decide +kernel
theorem dlaw_738 : decode code 738 = .ok (.iload_n 3, 1) := by decide +kernel
theorem dlaw_739 : decode code 739 = .ok (.iconst 1, 1) := by decide +kernel
theorem dlaw_740 : decode code 740 = .ok (.iadd, 1) := by decide +kernel
theorem dlaw_741 : decode code 741 = .ok (.iaload, 1) := by decide +kernel
theorem dlaw_742 : decode code 742 = .ok (.aload_n 0, 1) := by decide +kernel
theorem dlaw_743 : decode code 743 = .ok (.iload_n 3, 1) := by decide +kernel
theorem dlaw_744 : decode code 744 = .ok (.iconst 2, 1) := by decide +kernel
theorem dlaw_745 : decode code 745 = .ok (.iadd, 1) := by decide +kernel
theorem dlaw_746 : decode code 746 = .ok (.iaload, 1) := by decide +kernel
theorem dlaw_747 : decode code 747 = .ok (.aload_n 0, 1) := by decide +kernel
theorem dlaw_748 : decode code 748 = .ok (.iload_n 3, 1) := by decide +kernel
theorem dlaw_749 : decode code 749 = .ok (.iconst 3, 1) := by decide +kernel
theorem dlaw_750 : decode code 750 = .ok (.iadd, 1) := by decide +kernel
theorem dlaw_751 : decode code 751 = .ok (.iaload, 1) := by decide +kernel
theorem dlaw_752 : decode code 752 = .ok (.invokevirtual 80, 3) := by decide +kernel
theorem dlaw_755 : decode code 755 = .ok (.if_icmp .eq 565, 3) := by decide +kernel
theorem dlaw_760 : decode code 760 = .ok (.aload_n 1, 1) := by decide +kernel
theorem dlaw_761 : decode code 761 = .ok (.aload_n 0, 1) := by decide +kernel
theorem dlaw_762 : decode code 762 = .ok (.iload_n 3, 1) := by decide +kernel
theorem dlaw_763 : decode code 763 = .ok (.iconst 1, 1) := by decide +kernel
theorem dlaw_764 : decode code 764 = .ok (.iadd, 1) := by decide +kernel
theorem dlaw_765 : decode code 765 = .ok (.iaload, 1) := by decide +kernel
theorem dlaw_766 : decode code 766 = .ok (.aload_n 0, 1) := by decide +kernel
theorem dlaw_767 : decode code 767 = .ok (.iload_n 3, 1) := by decide +kernel
theorem dlaw_768 : decode code 768 = .ok (.iconst 2, 1) := by decide +kernel
theorem dlaw_769 : decode code 769 = .ok (.iadd, 1) := by decide +kernel
theorem dlaw_770 : decode code 770 = .ok (.iaload, 1) := by decide +kernel
theorem dlaw_771 : decode code 771 = .ok (.aload_n 0, 1) := by decide +kernel
theorem dlaw_772 : decode code 772 = .ok (.iload_n 3, 1) := by decide +kernel
theorem dlaw_773 : decode code 773 = .ok (.iconst 3, 1) := by decide +kernel
theorem dlaw_774 : decode code 774 = .ok (.iadd, 1) := by decide +kernel
theorem dlaw_775 : decode code 775 = .ok (.iaload, 1) := by decide +kernel
theorem dlaw_776 : decode code 776 = .ok (.invokevirtual 81, 3) := by decide +kernel
theorem dlaw_779 : decode code 779 = .ok (.aload_n 2, 1) := by decide +kernel
theorem dlaw_780 : decode code 780 = .ok (.aload_n 0, 1) := by decide +kernel
theorem dlaw_781 : decode code 781 = .ok (.iload_n 3, 1) := by decide +kernel
theorem dlaw_782 : decode code 782 = .ok (.iconst 1, 1) := by decide +kernel
theorem dlaw_783 : decode code 783 = .ok (.iadd, 1) := by decide +kernel
theorem dlaw_784 : decode code 784 = .ok (.iaload, 1) := by decide +kernel
theorem dlaw_785 : decode code 785 = .ok (.aload_n 0, 1) := by decide +kernel
theorem dlaw_786 : decode code 786 = .ok (.iload_n 3, 1) := by decide +kernel
theorem dlaw_787 : decode code 787 = .ok (.iconst 2, 1) := by decide +kernel
theorem dlaw_788 : decode code 788 = .ok (.iadd, 1) := by decide +kernel
theorem dlaw_789 : decode code 789 = .ok (.iaload, 1) := by decide +kernel
theorem dlaw_790 : decode code 790 = .ok (.aload_n 0, 1) := by decide +kernel
theorem dlaw_791 : decode code 791 = .ok (.iload_n 3, 1) := by decide +kernel
theorem dlaw_792 : decode code 792 = .ok (.iconst 3, 1) := by decide +kernel
theorem dlaw_793 : decode code 793 = .ok (.iadd, 1) := by decide +kernel
theorem dlaw_794 : decode code 794 = .ok (.iaload, 1) := by decide +kernel
theorem dlaw_795 : decode code 795 = .ok (.invokevirtual 84, 3) := by decide +kernel
theorem dlaw_798 : decode code 798 = .ok (.if_icmp .eq 522, 3) := by decide +kernel
theorem dlaw_803 : decode code 803 = .ok (.aload_n 1, 1) := by decide +kernel
theorem dlaw_804 : decode code 804 = .ok (.aload_n 0, 1) := by decide +kernel
theorem dlaw_805 : decode code 805 = .ok (.iload_n 3, 1) := by decide +kernel
theorem dlaw_806 : decode code 806 = .ok (.iconst 1, 1) := by decide +kernel
theorem dlaw_807 : decode code 807 = .ok (.iadd, 1) := by decide +kernel
theorem dlaw_808 : decode code 808 = .ok (.iaload, 1) := by decide +kernel
theorem dlaw_809 : decode code 809 = .ok (.invokevirtual 85, 3) := by decide +kernel
theorem dlaw_812 : decode code 812 = .ok (.aload_n 2, 1) := by decide +kernel
theorem dlaw_813 : decode code 813 = .ok (.aload_n 0, 1) := by decide +kernel
theorem dlaw_814 : decode code 814 = .ok (.iload_n 3, 1) := by decide +kernel
theorem dlaw_815 : decode code 815 = .ok (.iconst 1, 1) := by decide +kernel
theorem dlaw_816 : decode code 816 = .ok (.iadd, 1) := by decide +kernel
theorem dlaw_817 : decode code 817 = .ok (.iaload, 1) := by decide +kernel
theorem dlaw_818 : decode code 818 = .ok (.invokevirtual 88, 3) := by decide +kernel
theorem dlaw_821 : decode code 821 = .ok (.if_icmp .eq 499, 3) := by decide +kernel
theorem dlaw_826 : decode code 826 = .ok (.aload_n 1, 1) := by decide +kernel
theorem dlaw_827 : decode code 827 = .ok (.aload_n 0, 1) := by decide +kernel
theorem dlaw_828 : decode code 828 = .ok (.iload_n 3, 1) := by decide +kernel
theorem dlaw_829 : decode code 829 = .ok (.iconst 1, 1) := by decide +kernel
theorem dlaw_830 : decode code 830 = .ok (.iadd, 1) := by decide +kernel
theorem dlaw_831 : decode code 831 = .ok (.iaload, 1) := by decide +kernel
theorem dlaw_832 : decode code 832 = .ok (.invokevirtual 89, 3) := by decide +kernel
theorem dlaw_835 : decode code 835 = .ok (.aload_n 2, 1) := by decide +kernel
theorem dlaw_836 : decode code 836 = .ok (.aload_n 0, 1) := by decide +kernel
theorem dlaw_837 : decode code 837 = .ok (.iload_n 3, 1) := by decide +kernel
theorem dlaw_838 : decode code 838 = .ok (.iconst 1, 1) := by decide +kernel
theorem dlaw_839 : decode code 839 = .ok (.iadd, 1) := by decide +kernel
theorem dlaw_840 : decode code 840 = .ok (.iaload, 1) := by decide +kernel
theorem dlaw_841 : decode code 841 = .ok (.invokevirtual 92, 3) := by decide +kernel
theorem dlaw_844 : decode code 844 = .ok (.if_icmp .eq 476, 3) := by decide +kernel
theorem dlaw_849 : decode code 849 = .ok (.aload_n 1, 1) := by decide +kernel
theorem dlaw_850 : decode code 850 = .ok (.aload_n 0, 1) := by decide +kernel
theorem dlaw_851 : decode code 851 = .ok (.iload_n 3, 1) := by decide +kernel
theorem dlaw_852 : decode code 852 = .ok (.iconst 1, 1) := by decide +kernel
theorem dlaw_853 : decode code 853 = .ok (.iadd, 1) := by decide +kernel
theorem dlaw_854 : decode code 854 = .ok (.iaload, 1) := by decide +kernel
theorem dlaw_855 : decode code 855 = .ok (.aload_n 0, 1) := by decide +kernel
theorem dlaw_856 : decode code 856 = .ok (.iload_n 3, 1) := by decide +kernel
theorem dlaw_857 : decode code 857 = .ok (.iconst 2, 1) := by decide +kernel
theorem dlaw_858 : decode code 858 = .ok (.iadd, 1) := by decide +kernel
theorem dlaw_859 : decode code 859 = .ok (.iaload, 1) := by decide +kernel
theorem dlaw_860 : decode code 860 = .ok (.aload_n 0, 1) := by decide +kernel
theorem dlaw_861 : decode code 861 = .ok (.iload_n 3, 1) := by decide +kernel
theorem dlaw_862 : decode code 862 = .ok (.iconst 3, 1) := by decide +kernel
theorem dlaw_863 : decode code 863 = .ok (.iadd, 1) := by decide +kernel
theorem dlaw_864 : decode code 864 = .ok (.iaload, 1) := by decide +kernel
theorem dlaw_865 : decode code 865 = .ok (.invokevirtual 93, 3) := by decide +kernel
theorem dlaw_868 : decode code 868 = .ok (.aload_n 2, 1) := by decide +kernel
theorem dlaw_869 : decode code 869 = .ok (.aload_n 0, 1) := by decide +kernel
theorem dlaw_870 : decode code 870 = .ok (.iload_n 3, 1) := by decide +kernel
theorem dlaw_871 : decode code 871 = .ok (.iconst 1, 1) := by decide +kernel
theorem dlaw_872 : decode code 872 = .ok (.iadd, 1) := by decide +kernel
theorem dlaw_873 : decode code 873 = .ok (.iaload, 1) := by decide +kernel
theorem dlaw_874 : decode code 874 = .ok (.aload_n 0, 1) := by decide +kernel
theorem dlaw_875 : decode code 875 = .ok (.iload_n 3, 1) := by decide +kernel
theorem dlaw_876 : decode code 876 = .ok (.iconst 2, 1) := by decide +kernel
theorem dlaw_877 : decode code 877 = .ok (.iadd, 1) := by decide +kernel
theorem dlaw_878 : decode code 878 = .ok (.iaload, 1) := by decide +kernel
theorem dlaw_879 : decode code 879 = .ok (.aload_n 0, 1) := by decide +kernel
theorem dlaw_880 : decode code 880 = .ok (.iload_n 3, 1) := by decide +kernel
theorem dlaw_881 : decode code 881 = .ok (.iconst 3, 1) := by decide +kernel
theorem dlaw_882 : decode code 882 = .ok (.iadd, 1) := by decide +kernel
theorem dlaw_883 : decode code 883 = .ok (.iaload, 1) := by decide +kernel
theorem dlaw_884 : decode code 884 = .ok (.invokevirtual 96, 3) := by decide +kernel
theorem dlaw_887 : decode code 887 = .ok (.if_icmp .eq 433, 3) := by decide +kernel
theorem dlaw_892 : decode code 892 = .ok (.aload_n 1, 1) := by decide +kernel
theorem dlaw_893 : decode code 893 = .ok (.aload_n 0, 1) := by decide +kernel
theorem dlaw_894 : decode code 894 = .ok (.iload_n 3, 1) := by decide +kernel
theorem dlaw_895 : decode code 895 = .ok (.iconst 1, 1) := by decide +kernel
theorem dlaw_896 : decode code 896 = .ok (.iadd, 1) := by decide +kernel
theorem dlaw_897 : decode code 897 = .ok (.iaload, 1) := by decide +kernel
theorem dlaw_898 : decode code 898 = .ok (.aload_n 0, 1) := by decide +kernel
theorem dlaw_899 : decode code 899 = .ok (.iload_n 3, 1) := by decide +kernel
theorem dlaw_900 : decode code 900 = .ok (.iconst 2, 1) := by decide +kernel
theorem dlaw_901 : decode code 901 = .ok (.iadd, 1) := by decide +kernel
theorem dlaw_902 : decode code 902 = .ok (.iaload, 1) := by decide +kernel
theorem dlaw_903 : decode code 903 = .ok (.invokevirtual 97, 3) := by decide +kernel
theorem dlaw_906 : decode code 906 = .ok (.aload_n 2, 1) := by decide +kernel
theorem dlaw_907 : decode code 907 = .ok (.aload_n 0, 1) := by decide +kernel
theorem dlaw_908 : decode code 908 = .ok (.iload_n 3, 1) := by decide +kernel
theorem dlaw_909 : decode code 909 = .ok (.iconst 1, 1) := by decide +kernel
theorem dlaw_910 : decode code 910 = .ok (.iadd, 1) := by decide +kernel
theorem dlaw_911 : decode code 911 = .ok (.iaload, 1) := by decide +kernel
theorem dlaw_912 : decode code 912 = .ok (.aload_n 0, 1) := by decide +kernel
theorem dlaw_913 : decode code 913 = .ok (.iload_n 3, 1) := by decide +kernel
theorem dlaw_914 : decode code 914 = .ok (.iconst 2, 1) := by decide +kernel
theorem dlaw_915 : decode code 915 = .ok (.iadd, 1) := by decide +kernel
theorem dlaw_916 : decode code 916 = .ok (.iaload, 1) := by decide +kernel
theorem dlaw_917 : decode code 917 = .ok (.invokevirtual 100, 3) := by decide +kernel
theorem dlaw_920 : decode code 920 = .ok (.if_icmp .eq 400, 3) := by decide +kernel
theorem dlaw_925 : decode code 925 = .ok (.aload_n 1, 1) := by decide +kernel
theorem dlaw_926 : decode code 926 = .ok (.aload_n 0, 1) := by decide +kernel
theorem dlaw_927 : decode code 927 = .ok (.iload_n 3, 1) := by decide +kernel
theorem dlaw_928 : decode code 928 = .ok (.iconst 1, 1) := by decide +kernel
theorem dlaw_929 : decode code 929 = .ok (.iadd, 1) := by decide +kernel
theorem dlaw_930 : decode code 930 = .ok (.iaload, 1) := by decide +kernel
theorem dlaw_931 : decode code 931 = .ok (.aload_n 0, 1) := by decide +kernel
theorem dlaw_932 : decode code 932 = .ok (.iload_n 3, 1) := by decide +kernel
theorem dlaw_933 : decode code 933 = .ok (.iconst 2, 1) := by decide +kernel
theorem dlaw_934 : decode code 934 = .ok (.iadd, 1) := by decide +kernel
theorem dlaw_935 : decode code 935 = .ok (.iaload, 1) := by decide +kernel
theorem dlaw_936 : decode code 936 = .ok (.aload_n 0, 1) := by decide +kernel
theorem dlaw_937 : decode code 937 = .ok (.iload_n 3, 1) := by decide +kernel
theorem dlaw_938 : decode code 938 = .ok (.iconst 3, 1) := by decide +kernel
theorem dlaw_939 : decode code 939 = .ok (.iadd, 1) := by decide +kernel
theorem dlaw_940 : decode code 940 = .ok (.iaload, 1) := by decide +kernel
theorem dlaw_941 : decode code 941 = .ok (.invokevirtual 101, 3) := by decide +kernel
theorem dlaw_944 : decode code 944 = .ok (.aload_n 2, 1) := by decide +kernel
theorem dlaw_945 : decode code 945 = .ok (.aload_n 0, 1) := by decide +kernel
theorem dlaw_946 : decode code 946 = .ok (.iload_n 3, 1) := by decide +kernel
theorem dlaw_947 : decode code 947 = .ok (.iconst 1, 1) := by decide +kernel
theorem dlaw_948 : decode code 948 = .ok (.iadd, 1) := by decide +kernel
theorem dlaw_949 : decode code 949 = .ok (.iaload, 1) := by decide +kernel
theorem dlaw_950 : decode code 950 = .ok (.aload_n 0, 1) := by decide +kernel
theorem dlaw_951 : decode code 951 = .ok (.iload_n 3, 1) := by decide +kernel
theorem dlaw_952 : decode code 952 = .ok (.iconst 2, 1) := by decide +kernel
theorem dlaw_953 : decode code 953 = .ok (.iadd, 1) := by decide +kernel
theorem dlaw_954 : decode code 954 = .ok (.iaload, 1) := by decide +kernel
theorem dlaw_955 : decode code 955 = .ok (.aload_n 0, 1) := by decide +kernel
theorem dlaw_956 : decode code 956 = .ok (.iload_n 3, 1) := by decide +kernel
theorem dlaw_957 : decode code 957 = .ok (.iconst 3, 1) := by decide +kernel
theorem dlaw_958 : decode code 958 = .ok (.iadd, 1) := by decide +kernel
theorem dlaw_959 : decode code 959 = .ok (.iaload, 1) := by decide +kernel
theorem dlaw_960 : decode code 960 = .ok (.invokevirtual 104, 3) := by decide +kernel
theorem dlaw_963 : decode code 963 = .ok (.if_icmp .eq 357, 3) := by decide +kernel
theorem dlaw_968 : decode code 968 = .ok (.aload_n 1, 1) := by decide +kernel
theorem dlaw_969 : decode code 969 = .ok (.invokevirtual 105, 3) := by decide +kernel
theorem dlaw_972 : decode code 972 = .ok (.aload_n 2, 1) := by decide +kernel
theorem dlaw_973 : decode code 973 = .ok (.invokevirtual 109, 3) := by decide +kernel
theorem dlaw_976 : decode code 976 = .ok (.if_icmp .eq 344, 3) := by decide +kernel
theorem dlaw_981 : decode code 981 = .ok (.aload_n 1, 1) := by decide +kernel
theorem dlaw_982 : decode code 982 = .ok (.aload_n 0, 1) := by decide +kernel
theorem dlaw_983 : decode code 983 = .ok (.iload_n 3, 1) := by decide +kernel
theorem dlaw_984 : decode code 984 = .ok (.iconst 1, 1) := by decide +kernel
theorem dlaw_985 : decode code 985 = .ok (.iadd, 1) := by decide +kernel
theorem dlaw_986 : decode code 986 = .ok (.iaload, 1) := by decide +kernel
theorem dlaw_987 : decode code 987 = .ok (.invokevirtual 110, 3) := by decide +kernel
theorem dlaw_990 : decode code 990 = .ok (.aload_n 2, 1) := by decide +kernel
theorem dlaw_991 : decode code 991 = .ok (.aload_n 0, 1) := by decide +kernel
theorem dlaw_992 : decode code 992 = .ok (.iload_n 3, 1) := by decide +kernel
theorem dlaw_993 : decode code 993 = .ok (.iconst 1, 1) := by decide +kernel
theorem dlaw_994 : decode code 994 = .ok (.iadd, 1) := by decide +kernel
theorem dlaw_995 : decode code 995 = .ok (.iaload, 1) := by decide +kernel
theorem dlaw_996 : decode code 996 = .ok (.invokevirtual 113, 3) := by decide +kernel
theorem dlaw_999 : decode code 999 = .ok (.if_icmp .eq 321, 3) := by decide +kernel
theorem dlaw_1004 : decode code 1004 = .ok (.aload_n 1, 1) := by decide +kernel
theorem dlaw_1005 : decode code 1005 = .ok (.aload_n 0, 1) := by decide +kernel
theorem dlaw_1006 : decode code 1006 = .ok (.iload_n 3, 1) := by decide +kernel
theorem dlaw_1007 : decode code 1007 = .ok (.iconst 1, 1) := by decide +kernel
theorem dlaw_1008 : decode code 1008 = .ok (.iadd, 1) := by decide +kernel
theorem dlaw_1009 : decode code 1009 = .ok (.iaload, 1) := by decide +kernel
theorem dlaw_1010 : decode code 1010 = .ok (.invokevirtual 114, 3) := by decide +kernel
theorem dlaw_1013 : decode code 1013 = .ok (.aload_n 2, 1) := by decide +kernel
theorem dlaw_1014 : decode code 1014 = .ok (.aload_n 0, 1) := by decide +kernel
theorem dlaw_1015 : decode code 1015 = .ok (.iload_n 3, 1) := by decide +kernel
theorem dlaw_1016 : decode code 1016 = .ok (.iconst 1, 1) := by decide +kernel
