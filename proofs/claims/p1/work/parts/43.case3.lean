theorem dL_law_726 : decode cL_law 726 = .ok (.aload_n 1, 1) := by decide +kernel
theorem dL_law_727 : decode cL_law 727 = .ok (.aload_n 0, 1) := by decide +kernel
theorem dL_law_728 : decode cL_law 728 = .ok (.iload_n 3, 1) := by decide +kernel
theorem dL_law_729 : decode cL_law 729 = .ok (.iconst 1, 1) := by decide +kernel
theorem dL_law_730 : decode cL_law 730 = .ok (.iadd, 1) := by decide +kernel
theorem dL_law_731 : decode cL_law 731 = .ok (.iaload, 1) := by decide +kernel
theorem dL_law_732 : decode cL_law 732 = .ok (.invokevirtual 91, 3) := by decide +kernel
theorem dL_law_735 : decode cL_law 735 = .ok (.aload_n 2, 1) := by decide +kernel
theorem dL_law_736 : decode cL_law 736 = .ok (.aload_n 0, 1) := by decide +kernel
theorem dL_law_737 : decode cL_law 737 = .ok (.iload_n 3, 1) := by decide +kernel
theorem dL_law_738 : decode cL_law 738 = .ok (.iconst 1, 1) := by decide +kernel
theorem dL_law_739 : decode cL_law 739 = .ok (.iadd, 1) := by decide +kernel
theorem dL_law_740 : decode cL_law 740 = .ok (.iaload, 1) := by decide +kernel
theorem dL_law_741 : decode cL_law 741 = .ok (.invokevirtual 94, 3) := by decide +kernel
theorem dL_law_744 : decode cL_law 744 = .ok (.if_icmp .eq 239, 3) := by decide +kernel
theorem dL_law_749 : decode cL_law 749 = .ok (.aload_n 1, 1) := by decide +kernel
theorem dL_law_750 : decode cL_law 750 = .ok (.aload_n 0, 1) := by decide +kernel
theorem dL_law_751 : decode cL_law 751 = .ok (.iload_n 3, 1) := by decide +kernel
theorem dL_law_752 : decode cL_law 752 = .ok (.iconst 1, 1) := by decide +kernel
theorem dL_law_753 : decode cL_law 753 = .ok (.iadd, 1) := by decide +kernel
theorem dL_law_754 : decode cL_law 754 = .ok (.iaload, 1) := by decide +kernel
theorem dL_law_755 : decode cL_law 755 = .ok (.invokevirtual 95, 3) := by decide +kernel
theorem dL_law_758 : decode cL_law 758 = .ok (.aload_n 2, 1) := by decide +kernel
theorem dL_law_759 : decode cL_law 759 = .ok (.aload_n 0, 1) := by decide +kernel
theorem dL_law_760 : decode cL_law 760 = .ok (.iload_n 3, 1) := by decide +kernel
theorem dL_law_761 : decode cL_law 761 = .ok (.iconst 1, 1) := by decide +kernel
theorem dL_law_762 : decode cL_law 762 = .ok (.iadd, 1) := by decide +kernel
theorem dL_law_763 : decode cL_law 763 = .ok (.iaload, 1) := by decide +kernel
theorem dL_law_764 : decode cL_law 764 = .ok (.invokevirtual 98, 3) := by decide +kernel
theorem dL_law_767 : decode cL_law 767 = .ok (.if_icmp .eq 216, 3) := by decide +kernel
theorem dL_law_772 : decode cL_law 772 = .ok (.aload_n 1, 1) := by decide +kernel
theorem dL_law_773 : decode cL_law 773 = .ok (.aload_n 0, 1) := by decide +kernel
theorem dL_law_774 : decode cL_law 774 = .ok (.iload_n 3, 1) := by decide +kernel
theorem dL_law_775 : decode cL_law 775 = .ok (.iconst 1, 1) := by decide +kernel
theorem dL_law_776 : decode cL_law 776 = .ok (.iadd, 1) := by decide +kernel
theorem dL_law_777 : decode cL_law 777 = .ok (.iaload, 1) := by decide +kernel
theorem dL_law_778 : decode cL_law 778 = .ok (.aload_n 0, 1) := by decide +kernel
theorem dL_law_779 : decode cL_law 779 = .ok (.iload_n 3, 1) := by decide +kernel
theorem dL_law_780 : decode cL_law 780 = .ok (.iconst 2, 1) := by decide +kernel
theorem dL_law_781 : decode cL_law 781 = .ok (.iadd, 1) := by decide +kernel
theorem dL_law_782 : decode cL_law 782 = .ok (.iaload, 1) := by decide +kernel
theorem dL_law_783 : decode cL_law 783 = .ok (.aload_n 0, 1) := by decide +kernel
theorem dL_law_784 : decode cL_law 784 = .ok (.iload_n 3, 1) := by decide +kernel
theorem dL_law_785 : decode cL_law 785 = .ok (.iconst 3, 1) := by decide +kernel
theorem dL_law_786 : decode cL_law 786 = .ok (.iadd, 1) := by decide +kernel
theorem dL_law_787 : decode cL_law 787 = .ok (.iaload, 1) := by decide +kernel
theorem dL_law_788 : decode cL_law 788 = .ok (.invokevirtual 99, 3) := by decide +kernel
theorem dL_law_791 : decode cL_law 791 = .ok (.aload_n 2, 1) := by decide +kernel
theorem dL_law_792 : decode cL_law 792 = .ok (.aload_n 0, 1) := by decide +kernel
theorem dL_law_793 : decode cL_law 793 = .ok (.iload_n 3, 1) := by decide +kernel
theorem dL_law_794 : decode cL_law 794 = .ok (.iconst 1, 1) := by decide +kernel
theorem dL_law_795 : decode cL_law 795 = .ok (.iadd, 1) := by decide +kernel
theorem dL_law_796 : decode cL_law 796 = .ok (.iaload, 1) := by decide +kernel
theorem dL_law_797 : decode cL_law 797 = .ok (.aload_n 0, 1) := by decide +kernel
theorem dL_law_798 : decode cL_law 798 = .ok (.iload_n 3, 1) := by decide +kernel
theorem dL_law_799 : decode cL_law 799 = .ok (.iconst 2, 1) := by decide +kernel
theorem dL_law_800 : decode cL_law 800 = .ok (.iadd, 1) := by decide +kernel
theorem dL_law_801 : decode cL_law 801 = .ok (.iaload, 1) := by decide +kernel
theorem dL_law_802 : decode cL_law 802 = .ok (.aload_n 0, 1) := by decide +kernel
theorem dL_law_803 : decode cL_law 803 = .ok (.iload_n 3, 1) := by decide +kernel
theorem dL_law_804 : decode cL_law 804 = .ok (.iconst 3, 1) := by decide +kernel
theorem dL_law_805 : decode cL_law 805 = .ok (.iadd, 1) := by decide +kernel
theorem dL_law_806 : decode cL_law 806 = .ok (.iaload, 1) := by decide +kernel
theorem dL_law_807 : decode cL_law 807 = .ok (.invokevirtual 102, 3) := by decide +kernel
theorem dL_law_810 : decode cL_law 810 = .ok (.if_icmp .eq 173, 3) := by decide +kernel
theorem dL_law_815 : decode cL_law 815 = .ok (.aload_n 1, 1) := by decide +kernel
theorem dL_law_816 : decode cL_law 816 = .ok (.aload_n 0, 1) := by decide +kernel
theorem dL_law_817 : decode cL_law 817 = .ok (.iload_n 3, 1) := by decide +kernel
theorem dL_law_818 : decode cL_law 818 = .ok (.iconst 1, 1) := by decide +kernel
theorem dL_law_819 : decode cL_law 819 = .ok (.iadd, 1) := by decide +kernel
theorem dL_law_820 : decode cL_law 820 = .ok (.iaload, 1) := by decide +kernel
theorem dL_law_821 : decode cL_law 821 = .ok (.aload_n 0, 1) := by decide +kernel
theorem dL_law_822 : decode cL_law 822 = .ok (.iload_n 3, 1) := by decide +kernel
theorem dL_law_823 : decode cL_law 823 = .ok (.iconst 2, 1) := by decide +kernel
theorem dL_law_824 : decode cL_law 824 = .ok (.iadd, 1) := by decide +kernel
theorem dL_law_825 : decode cL_law 825 = .ok (.iaload, 1) := by decide +kernel
theorem dL_law_826 : decode cL_law 826 = .ok (.invokevirtual 103, 3) := by decide +kernel
theorem dL_law_829 : decode cL_law 829 = .ok (.aload_n 2, 1) := by decide +kernel
theorem dL_law_830 : decode cL_law 830 = .ok (.aload_n 0, 1) := by decide +kernel
theorem dL_law_831 : decode cL_law 831 = .ok (.iload_n 3, 1) := by decide +kernel
theorem dL_law_832 : decode cL_law 832 = .ok (.iconst 1, 1) := by decide +kernel
theorem dL_law_833 : decode cL_law 833 = .ok (.iadd, 1) := by decide +kernel
theorem dL_law_834 : decode cL_law 834 = .ok (.iaload, 1) := by decide +kernel
theorem dL_law_835 : decode cL_law 835 = .ok (.aload_n 0, 1) := by decide +kernel
theorem dL_law_836 : decode cL_law 836 = .ok (.iload_n 3, 1) := by decide +kernel
theorem dL_law_837 : decode cL_law 837 = .ok (.iconst 2, 1) := by decide +kernel
theorem dL_law_838 : decode cL_law 838 = .ok (.iadd, 1) := by decide +kernel
theorem dL_law_839 : decode cL_law 839 = .ok (.iaload, 1) := by decide +kernel
theorem dL_law_840 : decode cL_law 840 = .ok (.invokevirtual 106, 3) := by decide +kernel
theorem dL_law_843 : decode cL_law 843 = .ok (.if_icmp .eq 140, 3) := by decide +kernel
theorem dL_law_848 : decode cL_law 848 = .ok (.aload_n 1, 1) := by decide +kernel
theorem dL_law_849 : decode cL_law 849 = .ok (.invokevirtual 107, 3) := by decide +kernel
theorem dL_law_852 : decode cL_law 852 = .ok (.aload_n 2, 1) := by decide +kernel
theorem dL_law_853 : decode cL_law 853 = .ok (.invokevirtual 110, 3) := by decide +kernel
theorem dL_law_856 : decode cL_law 856 = .ok (.if_icmp .eq 127, 3) := by decide +kernel
theorem dL_law_861 : decode cL_law 861 = .ok (.aload_n 1, 1) := by decide +kernel
theorem dL_law_862 : decode cL_law 862 = .ok (.aload_n 0, 1) := by decide +kernel
theorem dL_law_863 : decode cL_law 863 = .ok (.iload_n 3, 1) := by decide +kernel
theorem dL_law_864 : decode cL_law 864 = .ok (.iconst 1, 1) := by decide +kernel
theorem dL_law_865 : decode cL_law 865 = .ok (.iadd, 1) := by decide +kernel
theorem dL_law_866 : decode cL_law 866 = .ok (.iaload, 1) := by decide +kernel
theorem dL_law_867 : decode cL_law 867 = .ok (.aload_n 0, 1) := by decide +kernel
theorem dL_law_868 : decode cL_law 868 = .ok (.iload_n 3, 1) := by decide +kernel
theorem dL_law_869 : decode cL_law 869 = .ok (.iconst 2, 1) := by decide +kernel
theorem dL_law_870 : decode cL_law 870 = .ok (.iadd, 1) := by decide +kernel
theorem dL_law_871 : decode cL_law 871 = .ok (.iaload, 1) := by decide +kernel
theorem dL_law_872 : decode cL_law 872 = .ok (.invokevirtual 111, 3) := by decide +kernel
theorem dL_law_875 : decode cL_law 875 = .ok (.aload_n 2, 1) := by decide +kernel
theorem dL_law_876 : decode cL_law 876 = .ok (.aload_n 0, 1) := by decide +kernel
theorem dL_law_877 : decode cL_law 877 = .ok (.iload_n 3, 1) := by decide +kernel
theorem dL_law_878 : decode cL_law 878 = .ok (.iconst 1, 1) := by decide +kernel
theorem dL_law_879 : decode cL_law 879 = .ok (.iadd, 1) := by decide +kernel
theorem dL_law_880 : decode cL_law 880 = .ok (.iaload, 1) := by decide +kernel
theorem dL_law_881 : decode cL_law 881 = .ok (.aload_n 0, 1) := by decide +kernel
theorem dL_law_882 : decode cL_law 882 = .ok (.iload_n 3, 1) := by decide +kernel
theorem dL_law_883 : decode cL_law 883 = .ok (.iconst 2, 1) := by decide +kernel
theorem dL_law_884 : decode cL_law 884 = .ok (.iadd, 1) := by decide +kernel
theorem dL_law_885 : decode cL_law 885 = .ok (.iaload, 1) := by decide +kernel
theorem dL_law_886 : decode cL_law 886 = .ok (.invokevirtual 114, 3) := by decide +kernel
theorem dL_law_889 : decode cL_law 889 = .ok (.if_icmp .eq 94, 3) := by decide +kernel
theorem dL_law_894 : decode cL_law 894 = .ok (.aload_n 1, 1) := by decide +kernel
theorem dL_law_895 : decode cL_law 895 = .ok (.aload_n 0, 1) := by decide +kernel
theorem dL_law_896 : decode cL_law 896 = .ok (.iload_n 3, 1) := by decide +kernel
theorem dL_law_897 : decode cL_law 897 = .ok (.iconst 1, 1) := by decide +kernel
theorem dL_law_898 : decode cL_law 898 = .ok (.iadd, 1) := by decide +kernel
theorem dL_law_899 : decode cL_law 899 = .ok (.iaload, 1) := by decide +kernel
theorem dL_law_900 : decode cL_law 900 = .ok (.aload_n 0, 1) := by decide +kernel
theorem dL_law_901 : decode cL_law 901 = .ok (.iload_n 3, 1) := by decide +kernel
theorem dL_law_902 : decode cL_law 902 = .ok (.iconst 2, 1) := by decide +kernel
theorem dL_law_903 : decode cL_law 903 = .ok (.iadd, 1) := by decide +kernel
theorem dL_law_904 : decode cL_law 904 = .ok (.iaload, 1) := by decide +kernel
theorem dL_law_905 : decode cL_law 905 = .ok (.invokevirtual 115, 3) := by decide +kernel
theorem dL_law_908 : decode cL_law 908 = .ok (.aload_n 2, 1) := by decide +kernel
theorem dL_law_909 : decode cL_law 909 = .ok (.aload_n 0, 1) := by decide +kernel
theorem dL_law_910 : decode cL_law 910 = .ok (.iload_n 3, 1) := by decide +kernel
theorem dL_law_911 : decode cL_law 911 = .ok (.iconst 1, 1) := by decide +kernel
theorem dL_law_912 : decode cL_law 912 = .ok (.iadd, 1) := by decide +kernel
theorem dL_law_913 : decode cL_law 913 = .ok (.iaload, 1) := by decide +kernel
theorem dL_law_914 : decode cL_law 914 = .ok (.aload_n 0, 1) := by decide +kernel
theorem dL_law_915 : decode cL_law 915 = .ok (.iload_n 3, 1) := by decide +kernel
theorem dL_law_916 : decode cL_law 916 = .ok (.iconst 2, 1) := by decide +kernel
theorem dL_law_917 : decode cL_law 917 = .ok (.iadd, 1) := by decide +kernel
theorem dL_law_918 : decode cL_law 918 = .ok (.iaload, 1) := by decide +kernel
theorem dL_law_919 : decode cL_law 919 = .ok (.invokevirtual 118, 3) := by decide +kernel
theorem dL_law_922 : decode cL_law 922 = .ok (.if_icmp .eq 61, 3) := by decide +kernel
theorem dL_law_927 : decode cL_law 927 = .ok (.aload_n 1, 1) := by decide +kernel
theorem dL_law_928 : decode cL_law 928 = .ok (.aload_n 0, 1) := by decide +kernel
theorem dL_law_929 : decode cL_law 929 = .ok (.iload_n 3, 1) := by decide +kernel
theorem dL_law_930 : decode cL_law 930 = .ok (.iconst 1, 1) := by decide +kernel
theorem dL_law_931 : decode cL_law 931 = .ok (.iadd, 1) := by decide +kernel
theorem dL_law_932 : decode cL_law 932 = .ok (.iaload, 1) := by decide +kernel
theorem dL_law_933 : decode cL_law 933 = .ok (.aload_n 0, 1) := by decide +kernel
theorem dL_law_934 : decode cL_law 934 = .ok (.iload_n 3, 1) := by decide +kernel
theorem dL_law_935 : decode cL_law 935 = .ok (.iconst 2, 1) := by decide +kernel
theorem dL_law_936 : decode cL_law 936 = .ok (.iadd, 1) := by decide +kernel
theorem dL_law_937 : decode cL_law 937 = .ok (.iaload, 1) := by decide +kernel
theorem dL_law_938 : decode cL_law 938 = .ok (.invokevirtual 119, 3) := by decide +kernel
theorem dL_law_941 : decode cL_law 941 = .ok (.aload_n 2, 1) := by decide +kernel
theorem dL_law_942 : decode cL_law 942 = .ok (.aload_n 0, 1) := by decide +kernel
theorem dL_law_943 : decode cL_law 943 = .ok (.iload_n 3, 1) := by decide +kernel
theorem dL_law_944 : decode cL_law 944 = .ok (.iconst 1, 1) := by decide +kernel
theorem dL_law_945 : decode cL_law 945 = .ok (.iadd, 1) := by decide +kernel
theorem dL_law_946 : decode cL_law 946 = .ok (.iaload, 1) := by decide +kernel
theorem dL_law_947 : decode cL_law 947 = .ok (.aload_n 0, 1) := by decide +kernel
theorem dL_law_948 : decode cL_law 948 = .ok (.iload_n 3, 1) := by decide +kernel
theorem dL_law_949 : decode cL_law 949 = .ok (.iconst 2, 1) := by decide +kernel
theorem dL_law_950 : decode cL_law 950 = .ok (.iadd, 1) := by decide +kernel
theorem dL_law_951 : decode cL_law 951 = .ok (.iaload, 1) := by decide +kernel
theorem dL_law_952 : decode cL_law 952 = .ok (.invokevirtual 122, 3) := by decide +kernel
theorem dL_law_955 : decode cL_law 955 = .ok (.if_icmp .eq 28, 3) := by decide +kernel
theorem dL_law_960 : decode cL_law 960 = .ok (.aload_n 1, 1) := by decide +kernel
theorem dL_law_961 : decode cL_law 961 = .ok (.aload_n 0, 1) := by decide +kernel
theorem dL_law_962 : decode cL_law 962 = .ok (.iload_n 3, 1) := by decide +kernel
theorem dL_law_963 : decode cL_law 963 = .ok (.iconst 1, 1) := by decide +kernel
theorem dL_law_964 : decode cL_law 964 = .ok (.iadd, 1) := by decide +kernel
theorem dL_law_965 : decode cL_law 965 = .ok (.iaload, 1) := by decide +kernel
theorem dL_law_966 : decode cL_law 966 = .ok (.invokevirtual 123, 3) := by decide +kernel
theorem dL_law_969 : decode cL_law 969 = .ok (.aload_n 2, 1) := by decide +kernel
theorem dL_law_970 : decode cL_law 970 = .ok (.aload_n 0, 1) := by decide +kernel
theorem dL_law_971 : decode cL_law 971 = .ok (.iload_n 3, 1) := by decide +kernel
theorem dL_law_972 : decode cL_law 972 = .ok (.iconst 1, 1) := by decide +kernel
theorem dL_law_973 : decode cL_law 973 = .ok (.iadd, 1) := by decide +kernel
theorem dL_law_974 : decode cL_law 974 = .ok (.iaload, 1) := by decide +kernel
theorem dL_law_975 : decode cL_law 975 = .ok (.invokevirtual 126, 3) := by decide +kernel
theorem dL_law_978 : decode cL_law 978 = .ok (.if_icmp .eq 5, 3) := by decide +kernel
set_option maxHeartbeats 4000000 in
set_option maxRecDepth 100000 in
theorem lc_18 {p : Program} {e : Env} {s : State} {m : MethodId} {below : List Frame} {meth : Method} {c : Code} (l : Launch) {b : Nat} {xs : Nat → Int32} {dC : Nat → ClassId} {dI : Nat → Nat → Nat} {x0 : Nat} {xq_1 : Nat} {xq_20 : Nat} {xq_24 : Nat} {xq_32 : Nat} {xq_36 : Nat} {xq_48 : Nat} {xa_3 : Nat} {xa_5 : Nat} {xa_7 : Nat} {xa_9 : Nat} {xa_11 : Nat} {xq_13 : Nat} {xa_38 : Nat} {xa_40 : Nat} {xa_42 : Nat} {xa_44 : Nat} {xa_46 : Nat} {xk_39 : ClassId} {xk_45 : ClassId} {xk_47 : ClassId} {m0 : Nat} {ma_1 : Nat} {ma_3 : Nat} {ma_5 : Nat} {ma_7 : Nat} {ma_9 : Nat} {ma_11 : Nat} {ma_13 : Nat} {ma_15 : Nat} {ma_17 : Nat} {ma_19 : Nat} {ma_21 : Nat} {ma_23 : Nat} {ma_25 : Nat} {ma_27 : Nat} {ma_29 : Nat} {ma_31 : Nat} {ma_33 : Nat} {ma_35 : Nat} {ma_37 : Nat} {ma_39 : Nat} {ma_41 : Nat} {ma_43 : Nat} {ma_45 : Nat} {ma_47 : Nat} {ma_49 : Nat} {mk_40 : ClassId} (C0 : lw_At p s m meth c b 5 xs) {H : Heap} {locs : List Loc} (hK : va_K (dC, dI) vwCl [(xk_39, .int), (xk_45, .int), (xk_47, .int), (mk_40, .int)] s) (hP : va_P (dC, dI) vwCl [(x0, .inr (7, [.ref xq_1, .ref xq_20, .ref xq_24, .ref xq_32, .ref xq_36, .ref xq_48])), (xq_1, .inr (1, [.ref xa_3, .ref xa_5, .ref xa_7, .ref xa_9, .ref xa_11, .ref xq_13, .int 0, .int 0])), (xq_36, .inr (6, [.ref xa_38, .ref xa_40, .ref xa_42, .ref xa_44, .ref xa_46])), (xa_38, .inl (xk_39, 10, .inl (fun _ => 0))), (xa_44, .inl (xk_45, 10, .inl (fun _ => 0))), (xa_46, .inl (xk_47, 100, .inl (fun _ => 0))), (m0, .inr (8, [.ref ma_1, .ref ma_3, .ref ma_5, .ref ma_7, .int 0, .ref ma_9, .ref ma_11, .ref ma_13, .ref ma_15, .ref ma_17, .ref ma_19, .int 0, .ref ma_21, .ref ma_23, .ref ma_25, .ref ma_27, .ref ma_29, .ref ma_31, .int 0, .int 0, .ref ma_33, .int 0, .int 0, .ref ma_35, .ref ma_37, .int 0, .ref ma_39, .ref ma_41, .int 0, .ref ma_43, .ref ma_45, .int 0, .ref ma_47, .ref ma_49, .int 0])), (ma_39, .inl (mk_40, 100, .inl (fun _ => 0)))] H) (hD : va_D (fun q : Nat => s.heap.size ≤ q) [(x0, .inr (7, [.ref xq_1, .ref xq_20, .ref xq_24, .ref xq_32, .ref xq_36, .ref xq_48])), (xq_1, .inr (1, [.ref xa_3, .ref xa_5, .ref xa_7, .ref xa_9, .ref xa_11, .ref xq_13, .int 0, .int 0])), (xq_36, .inr (6, [.ref xa_38, .ref xa_40, .ref xa_42, .ref xa_44, .ref xa_46])), (xa_38, .inl (xk_39, 10, .inl (fun _ => 0))), (xa_44, .inl (xk_45, 10, .inl (fun _ => 0))), (xa_46, .inl (xk_47, 100, .inl (fun _ => 0))), (m0, .inr (8, [.ref ma_1, .ref ma_3, .ref ma_5, .ref ma_7, .int 0, .ref ma_9, .ref ma_11, .ref ma_13, .ref ma_15, .ref ma_17, .ref ma_19, .int 0, .ref ma_21, .ref ma_23, .ref ma_25, .ref ma_27, .ref ma_29, .ref ma_31, .int 0, .int 0, .ref ma_33, .int 0, .int 0, .ref ma_35, .ref ma_37, .int 0, .ref ma_39, .ref ma_41, .int 0, .ref ma_43, .ref ma_45, .int 0, .ref ma_47, .ref ma_49, .int 0])), (ma_39, .inl (mk_40, 100, .inl (fun _ => 0)))]) (hS : va_S (fun q : Nat => s.heap.size ≤ q) s.heap H locs) (ls : Array Slot) (hl : lv_has ls 4 [(3, .int 0), (2, .ref m0), (1, .ref x0), (0, .ref b)]) : W p l e room_1 s m #[Value.ref b] below meth c H locs 56 3153 (lw_Z below #[Value.ref b] s) (F0 m 726 ls []) := by
  obtain ⟨hx, hb, hr, hml, hown, hts, hX, hbl, hlocks, hgv⟩ := id C0
  have hN := nw_start hts
  have hts : ∀ w ∈ BG, w.before _ s = true := fun w h => hts w (BG_lw h)
  have hown : s.vm.findClass RL = some m.cls := hown
  have hA : ∀ q : Nat, s.heap.size ≤ q → (fun q : Nat => s.heap.size ≤ q) q := fun _ h => h
  have hbA : ¬ (fun q : Nat => s.heap.size ≤ q) b := Nat.not_le.mpr hbl
  refine lv_aload_n hx hb dL_law_726 rfl (lv_at hl 2 rfl) ?_
  refine lv_aload_n hx hb dL_law_727 rfl (lv_at hl 3 rfl) ?_
  refine lv_iload_n hx hb dL_law_728 rfl (lv_at hl 0 rfl) ?_
  refine lv_iconst (v := 1) hx hb dL_law_729 (by decide) ?_
  refine lv_iadd hx hb dL_law_730 ?_
  refine hx_top (y := 1) (by decide) ?_
  refine va_sld hx hb hX hbl hbA hS (show vp_in 1 5 by unfold vp_in; decide) dL_law_731 ?_
  refine hx_top (y := (xs 1)) rfl ?_
  have hPc := hP.sub (ws' := [(x0, .inr (7, [.ref xq_1, .ref xq_20, .ref xq_24, .ref xq_32, .ref xq_36, .ref xq_48])), (xq_1, .inr (1, [.ref xa_3, .ref xa_5, .ref xa_7, .ref xa_9, .ref xa_11, .ref xq_13, .int 0, .int 0])), (xq_36, .inr (6, [.ref xa_38, .ref xa_40, .ref xa_42, .ref xa_44, .ref xa_46])), (xa_38, .inl (xk_39, 10, .inl (fun _ => 0))), (xa_44, .inl (xk_45, 10, .inl (fun _ => 0))), (xa_46, .inl (xk_47, 100, .inl (fun _ => 0)))]) [0, 1, 2, 3, 4, 5] rfl
  have hDc := hD.sub (ws' := [(x0, .inr (7, [.ref xq_1, .ref xq_20, .ref xq_24, .ref xq_32, .ref xq_36, .ref xq_48])), (xq_1, .inr (1, [.ref xa_3, .ref xa_5, .ref xa_7, .ref xa_9, .ref xa_11, .ref xq_13, .int 0, .int 0])), (xq_36, .inr (6, [.ref xa_38, .ref xa_40, .ref xa_42, .ref xa_44, .ref xa_46])), (xa_38, .inl (xk_39, 10, .inl (fun _ => 0))), (xa_44, .inl (xk_45, 10, .inl (fun _ => 0))), (xa_46, .inl (xk_47, 100, .inl (fun _ => 0)))]) [0, 1, 2, 3, 4, 5] (by decide) rfl
  have hKc := hK.sub (tys' := [(xk_39, .int), (xk_45, .int), (xk_47, .int)]) [0, 1, 2] rfl
  have hFc := va_free (wc := [(x0, .inr (7, [.ref xq_1, .ref xq_20, .ref xq_24, .ref xq_32, .ref xq_36, .ref xq_48])), (xq_1, .inr (1, [.ref xa_3, .ref xa_5, .ref xa_7, .ref xa_9, .ref xa_11, .ref xq_13, .int 0, .int 0])), (xq_36, .inr (6, [.ref xa_38, .ref xa_40, .ref xa_42, .ref xa_44, .ref xa_46])), (xa_38, .inl (xk_39, 10, .inl (fun _ => 0))), (xa_44, .inl (xk_45, 10, .inl (fun _ => 0))), (xa_46, .inl (xk_47, 100, .inl (fun _ => 0)))]) hD hS hA [0, 1, 2, 3, 4, 5] rfl
  refine va_calli (va_runV (As := [.int (xs 1)]) (rest := []) ⟨hx, hb, hml, hown, hts⟩ (x_packed l dC dI H.size x0 xq_1 (.ref xq_20) xq_24 (.ref xq_32) xq_36 (.ref xq_48) (.ref xa_3) (.ref xa_5) (.ref xa_7) (.ref xa_9) (.ref xa_11) (.ref xq_13) (.int 0) xa_38 (.ref xa_40) (.ref xa_42) xa_44 xa_46 xk_39 xk_45 xk_47 (xs 1)) (cwV 1 hts (gV mw_3_40 mw_3_41 mw_3_42 mw_1_1 mw_3_43) rfl rfl rfl (by decide +kernel) ⟨Nat.le_of_ble_eq_true rfl, Nat.le_of_ble_eq_true rfl⟩) ⟨pcW_blind, va_recv hKc hPc (ci := 7) (q0 := 0) rfl rfl, pcW_at hPc hKc hDc hN⟩ rfl rfl hl.1 rfl (lv_room (Nat.le_of_ble_eq_true rfl)) dL_law_732 ⟨Nat.le_of_ble_eq_true rfl, Nat.le_of_ble_eq_true rfl⟩) hS (fun q _ h => hFc q h) hFc (fun r_1 u t H1 locs ht hvm hw_1 hB hz1 hk1 hS => ?_)
  obtain ⟨hP, hD⟩ := va_join (wr := [(m0, .inr (8, [.ref ma_1, .ref ma_3, .ref ma_5, .ref ma_7, .int 0, .ref ma_9, .ref ma_11, .ref ma_13, .ref ma_15, .ref ma_17, .ref ma_19, .int 0, .ref ma_21, .ref ma_23, .ref ma_25, .ref ma_27, .ref ma_29, .ref ma_31, .int 0, .int 0, .ref ma_33, .int 0, .int 0, .ref ma_35, .ref ma_37, .int 0, .ref ma_39, .ref ma_41, .int 0, .ref ma_43, .ref ma_45, .int 0, .ref ma_47, .ref ma_49, .int 0])), (ma_39, .inl (mk_40, 100, .inl (fun _ => 0)))]) (w1 := []) hP hD [0, 1, 2, 3, 4, 5] [6, 7] rfl rfl (by decide) (by decide) hk1 hFc nilP nilD
  rw [List.append_nil] at hP hD
  clear hz1 hk1 hPc hDc hKc hFc
  generalize H1 = H at hP hS ⊢
  have hK : va_K (dC, dI) vwCl [(xk_39, .int), (xk_45, .int), (xk_47, .int), (mk_40, .int)] s := hK
  have hP : va_P (dC, dI) vwCl [(m0, .inr (8, [.ref ma_1, .ref ma_3, .ref ma_5, .ref ma_7, .int 0, .ref ma_9, .ref ma_11, .ref ma_13, .ref ma_15, .ref ma_17, .ref ma_19, .int 0, .ref ma_21, .ref ma_23, .ref ma_25, .ref ma_27, .ref ma_29, .ref ma_31, .int 0, .int 0, .ref ma_33, .int 0, .int 0, .ref ma_35, .ref ma_37, .int 0, .ref ma_39, .ref ma_41, .int 0, .ref ma_43, .ref ma_45, .int 0, .ref ma_47, .ref ma_49, .int 0])), (ma_39, .inl (mk_40, 100, .inl (fun _ => 0)))] H := hP
  have hD : va_D (fun q : Nat => s.heap.size ≤ q) [(m0, .inr (8, [.ref ma_1, .ref ma_3, .ref ma_5, .ref ma_7, .int 0, .ref ma_9, .ref ma_11, .ref ma_13, .ref ma_15, .ref ma_17, .ref ma_19, .int 0, .ref ma_21, .ref ma_23, .ref ma_25, .ref ma_27, .ref ma_29, .ref ma_31, .int 0, .int 0, .ref ma_33, .int 0, .int 0, .ref ma_35, .ref ma_37, .int 0, .ref ma_39, .ref ma_41, .int 0, .ref ma_43, .ref ma_45, .int 0, .ref ma_47, .ref ma_49, .int 0])), (ma_39, .inl (mk_40, 100, .inl (fun _ => 0)))] := hD
  refine lv_aload_n hx hb dL_law_735 rfl (lv_at hl 1 rfl) ?_
  refine lv_aload_n hx hb dL_law_736 rfl (lv_at hl 3 rfl) ?_
  refine lv_iload_n hx hb dL_law_737 rfl (lv_at hl 0 rfl) ?_
  refine lv_iconst (v := 1) hx hb dL_law_738 (by decide) ?_
  refine lv_iadd hx hb dL_law_739 ?_
  refine hx_top (y := 1) (by decide) ?_
  refine va_sld hx hb hX hbl hbA hS (show vp_in 1 5 by unfold vp_in; decide) dL_law_740 ?_
  refine hx_top (y := (xs 1)) rfl ?_
  have hPc := hP.sub (ws' := [(m0, .inr (8, [.ref ma_1, .ref ma_3, .ref ma_5, .ref ma_7, .int 0, .ref ma_9, .ref ma_11, .ref ma_13, .ref ma_15, .ref ma_17, .ref ma_19, .int 0, .ref ma_21, .ref ma_23, .ref ma_25, .ref ma_27, .ref ma_29, .ref ma_31, .int 0, .int 0, .ref ma_33, .int 0, .int 0, .ref ma_35, .ref ma_37, .int 0, .ref ma_39, .ref ma_41, .int 0, .ref ma_43, .ref ma_45, .int 0, .ref ma_47, .ref ma_49, .int 0])), (ma_39, .inl (mk_40, 100, .inl (fun _ => 0)))]) [0, 1] rfl
  have hDc := hD.sub (ws' := [(m0, .inr (8, [.ref ma_1, .ref ma_3, .ref ma_5, .ref ma_7, .int 0, .ref ma_9, .ref ma_11, .ref ma_13, .ref ma_15, .ref ma_17, .ref ma_19, .int 0, .ref ma_21, .ref ma_23, .ref ma_25, .ref ma_27, .ref ma_29, .ref ma_31, .int 0, .int 0, .ref ma_33, .int 0, .int 0, .ref ma_35, .ref ma_37, .int 0, .ref ma_39, .ref ma_41, .int 0, .ref ma_43, .ref ma_45, .int 0, .ref ma_47, .ref ma_49, .int 0])), (ma_39, .inl (mk_40, 100, .inl (fun _ => 0)))]) [0, 1] (by decide) rfl
  have hKc := hK.sub (tys' := [(mk_40, .int)]) [3] rfl
  have hFc := va_free (wc := [(m0, .inr (8, [.ref ma_1, .ref ma_3, .ref ma_5, .ref ma_7, .int 0, .ref ma_9, .ref ma_11, .ref ma_13, .ref ma_15, .ref ma_17, .ref ma_19, .int 0, .ref ma_21, .ref ma_23, .ref ma_25, .ref ma_27, .ref ma_29, .ref ma_31, .int 0, .int 0, .ref ma_33, .int 0, .int 0, .ref ma_35, .ref ma_37, .int 0, .ref ma_39, .ref ma_41, .int 0, .ref ma_43, .ref ma_45, .int 0, .ref ma_47, .ref ma_49, .int 0])), (ma_39, .inl (mk_40, 100, .inl (fun _ => 0)))]) hD hS hA [0, 1] rfl
  refine va_calli (va_runV (As := [.int (xs 1)]) (rest := [.int r_1]) ⟨hx, hb, hml, hown, hts⟩ (m_packed l dC dI H.size m0 (.ref ma_1) (.ref ma_3) (.ref ma_5) (.ref ma_7) (.ref ma_9) (.ref ma_11) (.ref ma_13) (.ref ma_15) (.ref ma_17) (.ref ma_19) (.int 0) (.ref ma_21) (.ref ma_23) (.ref ma_25) (.ref ma_27) (.ref ma_29) (.ref ma_31) (.int 0) (.int 0) (.ref ma_33) (.int 0) (.int 0) (.ref ma_35) (.ref ma_37) (.int 0) ma_39 (.ref ma_41) (.ref ma_43) (.ref ma_45) (.int 0) (.ref ma_47) (.ref ma_49) (.int 0) mk_40 (xs 1)) (cwV 1 hts (gV mw_4_222 mw_4_223 mw_4_224 mw_1_9 mw_4_225) rfl rfl rfl (by decide +kernel) ⟨Nat.le_of_ble_eq_true rfl, Nat.le_of_ble_eq_true rfl⟩) ⟨pcW_blind, va_recv hKc hPc (ci := 8) (q0 := 0) rfl rfl, pcW_at hPc hKc hDc hN⟩ rfl rfl hl.1 rfl (lv_room (Nat.le_of_ble_eq_true rfl)) dL_law_741 ⟨Nat.le_of_ble_eq_true rfl, Nat.le_of_ble_eq_true rfl⟩) hS (fun q _ h => hFc q h) hFc (fun r_2 u t H1 locs ht hvm hw_2 hB hz1 hk1 hS => ?_)
  obtain ⟨hP, hD⟩ := va_join (wr := []) (w1 := []) hP hD [0, 1] [] rfl rfl (by decide) (by decide) hk1 hFc nilP nilD
  rw [List.append_nil] at hP hD
  clear hz1 hk1 hPc hDc hKc hFc
  generalize H1 = H at hP hS ⊢
  have hK : va_K (dC, dI) vwCl [(xk_39, .int), (xk_45, .int), (xk_47, .int), (mk_40, .int)] s := hK
  have hP : va_P (dC, dI) vwCl [] H := hP
  have hD : va_D (fun q : Nat => s.heap.size ≤ q) [] := hD
  refine lv_icmp_eq (tgt := 983) hx hb dL_law_744 (by decide) (fun _ => ?_) (fun h => absurd (hw_1.trans hw_2.symm) h)
  exact law_end l C0 hS ls (lv_sub hl [0, 3] rfl)
set_option maxHeartbeats 4000000 in
set_option maxRecDepth 100000 in
theorem lc_19 {p : Program} {e : Env} {s : State} {m : MethodId} {below : List Frame} {meth : Method} {c : Code} (l : Launch) {b : Nat} {xs : Nat → Int32} {dC : Nat → ClassId} {dI : Nat → Nat → Nat} {x0 : Nat} {xq_1 : Nat} {xq_20 : Nat} {xq_24 : Nat} {xq_32 : Nat} {xq_36 : Nat} {xq_48 : Nat} {xa_3 : Nat} {xa_5 : Nat} {xa_7 : Nat} {xa_9 : Nat} {xa_11 : Nat} {xq_13 : Nat} {xa_38 : Nat} {xa_40 : Nat} {xa_42 : Nat} {xa_44 : Nat} {xa_46 : Nat} {xk_39 : ClassId} {xk_45 : ClassId} {xk_47 : ClassId} {m0 : Nat} {ma_1 : Nat} {ma_3 : Nat} {ma_5 : Nat} {ma_7 : Nat} {ma_9 : Nat} {ma_11 : Nat} {ma_13 : Nat} {ma_15 : Nat} {ma_17 : Nat} {ma_19 : Nat} {ma_21 : Nat} {ma_23 : Nat} {ma_25 : Nat} {ma_27 : Nat} {ma_29 : Nat} {ma_31 : Nat} {ma_33 : Nat} {ma_35 : Nat} {ma_37 : Nat} {ma_39 : Nat} {ma_41 : Nat} {ma_43 : Nat} {ma_45 : Nat} {ma_47 : Nat} {ma_49 : Nat} {mk_40 : ClassId} (C0 : lw_At p s m meth c b 5 xs) {H : Heap} {locs : List Loc} (hK : va_K (dC, dI) vwCl [(xk_39, .int), (xk_45, .int), (xk_47, .int), (mk_40, .int)] s) (hP : va_P (dC, dI) vwCl [(x0, .inr (7, [.ref xq_1, .ref xq_20, .ref xq_24, .ref xq_32, .ref xq_36, .ref xq_48])), (xq_1, .inr (1, [.ref xa_3, .ref xa_5, .ref xa_7, .ref xa_9, .ref xa_11, .ref xq_13, .int 0, .int 0])), (xq_36, .inr (6, [.ref xa_38, .ref xa_40, .ref xa_42, .ref xa_44, .ref xa_46])), (xa_38, .inl (xk_39, 10, .inl (fun _ => 0))), (xa_44, .inl (xk_45, 10, .inl (fun _ => 0))), (xa_46, .inl (xk_47, 100, .inl (fun _ => 0))), (m0, .inr (8, [.ref ma_1, .ref ma_3, .ref ma_5, .ref ma_7, .int 0, .ref ma_9, .ref ma_11, .ref ma_13, .ref ma_15, .ref ma_17, .ref ma_19, .int 0, .ref ma_21, .ref ma_23, .ref ma_25, .ref ma_27, .ref ma_29, .ref ma_31, .int 0, .int 0, .ref ma_33, .int 0, .int 0, .ref ma_35, .ref ma_37, .int 0, .ref ma_39, .ref ma_41, .int 0, .ref ma_43, .ref ma_45, .int 0, .ref ma_47, .ref ma_49, .int 0])), (ma_39, .inl (mk_40, 100, .inl (fun _ => 0)))] H) (hD : va_D (fun q : Nat => s.heap.size ≤ q) [(x0, .inr (7, [.ref xq_1, .ref xq_20, .ref xq_24, .ref xq_32, .ref xq_36, .ref xq_48])), (xq_1, .inr (1, [.ref xa_3, .ref xa_5, .ref xa_7, .ref xa_9, .ref xa_11, .ref xq_13, .int 0, .int 0])), (xq_36, .inr (6, [.ref xa_38, .ref xa_40, .ref xa_42, .ref xa_44, .ref xa_46])), (xa_38, .inl (xk_39, 10, .inl (fun _ => 0))), (xa_44, .inl (xk_45, 10, .inl (fun _ => 0))), (xa_46, .inl (xk_47, 100, .inl (fun _ => 0))), (m0, .inr (8, [.ref ma_1, .ref ma_3, .ref ma_5, .ref ma_7, .int 0, .ref ma_9, .ref ma_11, .ref ma_13, .ref ma_15, .ref ma_17, .ref ma_19, .int 0, .ref ma_21, .ref ma_23, .ref ma_25, .ref ma_27, .ref ma_29, .ref ma_31, .int 0, .int 0, .ref ma_33, .int 0, .int 0, .ref ma_35, .ref ma_37, .int 0, .ref ma_39, .ref ma_41, .int 0, .ref ma_43, .ref ma_45, .int 0, .ref ma_47, .ref ma_49, .int 0])), (ma_39, .inl (mk_40, 100, .inl (fun _ => 0)))]) (hS : va_S (fun q : Nat => s.heap.size ≤ q) s.heap H locs) (ls : Array Slot) (hl : lv_has ls 4 [(3, .int 0), (2, .ref m0), (1, .ref x0), (0, .ref b)]) : W p l e room_1 s m #[Value.ref b] below meth c H locs 56 3153 (lw_Z below #[Value.ref b] s) (F0 m 749 ls []) := by
  obtain ⟨hx, hb, hr, hml, hown, hts, hX, hbl, hlocks, hgv⟩ := id C0
  have hN := nw_start hts
  have hts : ∀ w ∈ BG, w.before _ s = true := fun w h => hts w (BG_lw h)
  have hown : s.vm.findClass RL = some m.cls := hown
  have hA : ∀ q : Nat, s.heap.size ≤ q → (fun q : Nat => s.heap.size ≤ q) q := fun _ h => h
  have hbA : ¬ (fun q : Nat => s.heap.size ≤ q) b := Nat.not_le.mpr hbl
  refine lv_aload_n hx hb dL_law_749 rfl (lv_at hl 2 rfl) ?_
  refine lv_aload_n hx hb dL_law_750 rfl (lv_at hl 3 rfl) ?_
  refine lv_iload_n hx hb dL_law_751 rfl (lv_at hl 0 rfl) ?_
  refine lv_iconst (v := 1) hx hb dL_law_752 (by decide) ?_
  refine lv_iadd hx hb dL_law_753 ?_
  refine hx_top (y := 1) (by decide) ?_
  refine va_sld hx hb hX hbl hbA hS (show vp_in 1 5 by unfold vp_in; decide) dL_law_754 ?_
  refine hx_top (y := (xs 1)) rfl ?_
  have hPc := hP.sub (ws' := [(x0, .inr (7, [.ref xq_1, .ref xq_20, .ref xq_24, .ref xq_32, .ref xq_36, .ref xq_48])), (xq_1, .inr (1, [.ref xa_3, .ref xa_5, .ref xa_7, .ref xa_9, .ref xa_11, .ref xq_13, .int 0, .int 0])), (xq_36, .inr (6, [.ref xa_38, .ref xa_40, .ref xa_42, .ref xa_44, .ref xa_46])), (xa_38, .inl (xk_39, 10, .inl (fun _ => 0))), (xa_44, .inl (xk_45, 10, .inl (fun _ => 0))), (xa_46, .inl (xk_47, 100, .inl (fun _ => 0)))]) [0, 1, 2, 3, 4, 5] rfl
  have hDc := hD.sub (ws' := [(x0, .inr (7, [.ref xq_1, .ref xq_20, .ref xq_24, .ref xq_32, .ref xq_36, .ref xq_48])), (xq_1, .inr (1, [.ref xa_3, .ref xa_5, .ref xa_7, .ref xa_9, .ref xa_11, .ref xq_13, .int 0, .int 0])), (xq_36, .inr (6, [.ref xa_38, .ref xa_40, .ref xa_42, .ref xa_44, .ref xa_46])), (xa_38, .inl (xk_39, 10, .inl (fun _ => 0))), (xa_44, .inl (xk_45, 10, .inl (fun _ => 0))), (xa_46, .inl (xk_47, 100, .inl (fun _ => 0)))]) [0, 1, 2, 3, 4, 5] (by decide) rfl
  have hKc := hK.sub (tys' := [(xk_39, .int), (xk_45, .int), (xk_47, .int)]) [0, 1, 2] rfl
  have hFc := va_free (wc := [(x0, .inr (7, [.ref xq_1, .ref xq_20, .ref xq_24, .ref xq_32, .ref xq_36, .ref xq_48])), (xq_1, .inr (1, [.ref xa_3, .ref xa_5, .ref xa_7, .ref xa_9, .ref xa_11, .ref xq_13, .int 0, .int 0])), (xq_36, .inr (6, [.ref xa_38, .ref xa_40, .ref xa_42, .ref xa_44, .ref xa_46])), (xa_38, .inl (xk_39, 10, .inl (fun _ => 0))), (xa_44, .inl (xk_45, 10, .inl (fun _ => 0))), (xa_46, .inl (xk_47, 100, .inl (fun _ => 0)))]) hD hS hA [0, 1, 2, 3, 4, 5] rfl
  refine va_calli (va_runV (As := [.int (xs 1)]) (rest := []) ⟨hx, hb, hml, hown, hts⟩ (x_slot l dC dI H.size x0 xq_1 (.ref xq_20) xq_24 (.ref xq_32) xq_36 (.ref xq_48) (.ref xa_3) (.ref xa_5) (.ref xa_7) (.ref xa_9) (.ref xa_11) (.ref xq_13) (.int 0) xa_38 (.ref xa_40) (.ref xa_42) xa_44 xa_46 xk_39 xk_45 xk_47 (xs 1)) (cwV 1 hts (gV mw_3_64 mw_3_65 mw_3_66 mw_1_1 mw_3_67) rfl rfl rfl (by decide +kernel) ⟨Nat.le_of_ble_eq_true rfl, Nat.le_of_ble_eq_true rfl⟩) ⟨pcW_blind, va_recv hKc hPc (ci := 7) (q0 := 0) rfl rfl, pcW_at hPc hKc hDc hN⟩ rfl rfl hl.1 rfl (lv_room (Nat.le_of_ble_eq_true rfl)) dL_law_755 ⟨Nat.le_of_ble_eq_true rfl, Nat.le_of_ble_eq_true rfl⟩) hS (fun q _ h => hFc q h) hFc (fun r_1 u t H1 locs ht hvm hw_1 hB hz1 hk1 hS => ?_)
  obtain ⟨hP, hD⟩ := va_join (wr := [(m0, .inr (8, [.ref ma_1, .ref ma_3, .ref ma_5, .ref ma_7, .int 0, .ref ma_9, .ref ma_11, .ref ma_13, .ref ma_15, .ref ma_17, .ref ma_19, .int 0, .ref ma_21, .ref ma_23, .ref ma_25, .ref ma_27, .ref ma_29, .ref ma_31, .int 0, .int 0, .ref ma_33, .int 0, .int 0, .ref ma_35, .ref ma_37, .int 0, .ref ma_39, .ref ma_41, .int 0, .ref ma_43, .ref ma_45, .int 0, .ref ma_47, .ref ma_49, .int 0])), (ma_39, .inl (mk_40, 100, .inl (fun _ => 0)))]) (w1 := []) hP hD [0, 1, 2, 3, 4, 5] [6, 7] rfl rfl (by decide) (by decide) hk1 hFc nilP nilD
  rw [List.append_nil] at hP hD
  clear hz1 hk1 hPc hDc hKc hFc
  generalize H1 = H at hP hS ⊢
  have hK : va_K (dC, dI) vwCl [(xk_39, .int), (xk_45, .int), (xk_47, .int), (mk_40, .int)] s := hK
  have hP : va_P (dC, dI) vwCl [(m0, .inr (8, [.ref ma_1, .ref ma_3, .ref ma_5, .ref ma_7, .int 0, .ref ma_9, .ref ma_11, .ref ma_13, .ref ma_15, .ref ma_17, .ref ma_19, .int 0, .ref ma_21, .ref ma_23, .ref ma_25, .ref ma_27, .ref ma_29, .ref ma_31, .int 0, .int 0, .ref ma_33, .int 0, .int 0, .ref ma_35, .ref ma_37, .int 0, .ref ma_39, .ref ma_41, .int 0, .ref ma_43, .ref ma_45, .int 0, .ref ma_47, .ref ma_49, .int 0])), (ma_39, .inl (mk_40, 100, .inl (fun _ => 0)))] H := hP
  have hD : va_D (fun q : Nat => s.heap.size ≤ q) [(m0, .inr (8, [.ref ma_1, .ref ma_3, .ref ma_5, .ref ma_7, .int 0, .ref ma_9, .ref ma_11, .ref ma_13, .ref ma_15, .ref ma_17, .ref ma_19, .int 0, .ref ma_21, .ref ma_23, .ref ma_25, .ref ma_27, .ref ma_29, .ref ma_31, .int 0, .int 0, .ref ma_33, .int 0, .int 0, .ref ma_35, .ref ma_37, .int 0, .ref ma_39, .ref ma_41, .int 0, .ref ma_43, .ref ma_45, .int 0, .ref ma_47, .ref ma_49, .int 0])), (ma_39, .inl (mk_40, 100, .inl (fun _ => 0)))] := hD
  refine lv_aload_n hx hb dL_law_758 rfl (lv_at hl 1 rfl) ?_
  refine lv_aload_n hx hb dL_law_759 rfl (lv_at hl 3 rfl) ?_
  refine lv_iload_n hx hb dL_law_760 rfl (lv_at hl 0 rfl) ?_
  refine lv_iconst (v := 1) hx hb dL_law_761 (by decide) ?_
  refine lv_iadd hx hb dL_law_762 ?_
  refine hx_top (y := 1) (by decide) ?_
  refine va_sld hx hb hX hbl hbA hS (show vp_in 1 5 by unfold vp_in; decide) dL_law_763 ?_
  refine hx_top (y := (xs 1)) rfl ?_
  have hPc := hP.sub (ws' := [(m0, .inr (8, [.ref ma_1, .ref ma_3, .ref ma_5, .ref ma_7, .int 0, .ref ma_9, .ref ma_11, .ref ma_13, .ref ma_15, .ref ma_17, .ref ma_19, .int 0, .ref ma_21, .ref ma_23, .ref ma_25, .ref ma_27, .ref ma_29, .ref ma_31, .int 0, .int 0, .ref ma_33, .int 0, .int 0, .ref ma_35, .ref ma_37, .int 0, .ref ma_39, .ref ma_41, .int 0, .ref ma_43, .ref ma_45, .int 0, .ref ma_47, .ref ma_49, .int 0])), (ma_39, .inl (mk_40, 100, .inl (fun _ => 0)))]) [0, 1] rfl
  have hDc := hD.sub (ws' := [(m0, .inr (8, [.ref ma_1, .ref ma_3, .ref ma_5, .ref ma_7, .int 0, .ref ma_9, .ref ma_11, .ref ma_13, .ref ma_15, .ref ma_17, .ref ma_19, .int 0, .ref ma_21, .ref ma_23, .ref ma_25, .ref ma_27, .ref ma_29, .ref ma_31, .int 0, .int 0, .ref ma_33, .int 0, .int 0, .ref ma_35, .ref ma_37, .int 0, .ref ma_39, .ref ma_41, .int 0, .ref ma_43, .ref ma_45, .int 0, .ref ma_47, .ref ma_49, .int 0])), (ma_39, .inl (mk_40, 100, .inl (fun _ => 0)))]) [0, 1] (by decide) rfl
  have hKc := hK.sub (tys' := [(mk_40, .int)]) [3] rfl
  have hFc := va_free (wc := [(m0, .inr (8, [.ref ma_1, .ref ma_3, .ref ma_5, .ref ma_7, .int 0, .ref ma_9, .ref ma_11, .ref ma_13, .ref ma_15, .ref ma_17, .ref ma_19, .int 0, .ref ma_21, .ref ma_23, .ref ma_25, .ref ma_27, .ref ma_29, .ref ma_31, .int 0, .int 0, .ref ma_33, .int 0, .int 0, .ref ma_35, .ref ma_37, .int 0, .ref ma_39, .ref ma_41, .int 0, .ref ma_43, .ref ma_45, .int 0, .ref ma_47, .ref ma_49, .int 0])), (ma_39, .inl (mk_40, 100, .inl (fun _ => 0)))]) hD hS hA [0, 1] rfl
  refine va_calli (va_runV (As := [.int (xs 1)]) (rest := [.int r_1]) ⟨hx, hb, hml, hown, hts⟩ (m_slot l dC dI H.size m0 (.ref ma_1) (.ref ma_3) (.ref ma_5) (.ref ma_7) (.ref ma_9) (.ref ma_11) (.ref ma_13) (.ref ma_15) (.ref ma_17) (.ref ma_19) (.int 0) (.ref ma_21) (.ref ma_23) (.ref ma_25) (.ref ma_27) (.ref ma_29) (.ref ma_31) (.int 0) (.int 0) (.ref ma_33) (.int 0) (.int 0) (.ref ma_35) (.ref ma_37) (.int 0) ma_39 (.ref ma_41) (.ref ma_43) (.ref ma_45) (.int 0) (.ref ma_47) (.ref ma_49) (.int 0) mk_40 (xs 1)) (cwV 1 hts (gV mw_4_234 mw_4_235 mw_4_236 mw_1_9 mw_4_237) rfl rfl rfl (by decide +kernel) ⟨Nat.le_of_ble_eq_true rfl, Nat.le_of_ble_eq_true rfl⟩) ⟨pcW_blind, va_recv hKc hPc (ci := 8) (q0 := 0) rfl rfl, pcW_at hPc hKc hDc hN⟩ rfl rfl hl.1 rfl (lv_room (Nat.le_of_ble_eq_true rfl)) dL_law_764 ⟨Nat.le_of_ble_eq_true rfl, Nat.le_of_ble_eq_true rfl⟩) hS (fun q _ h => hFc q h) hFc (fun r_2 u t H1 locs ht hvm hw_2 hB hz1 hk1 hS => ?_)
  obtain ⟨hP, hD⟩ := va_join (wr := []) (w1 := []) hP hD [0, 1] [] rfl rfl (by decide) (by decide) hk1 hFc nilP nilD
  rw [List.append_nil] at hP hD
  clear hz1 hk1 hPc hDc hKc hFc
  generalize H1 = H at hP hS ⊢
  have hK : va_K (dC, dI) vwCl [(xk_39, .int), (xk_45, .int), (xk_47, .int), (mk_40, .int)] s := hK
  have hP : va_P (dC, dI) vwCl [] H := hP
  have hD : va_D (fun q : Nat => s.heap.size ≤ q) [] := hD
  refine lv_icmp_eq (tgt := 983) hx hb dL_law_767 (by decide) (fun _ => ?_) (fun h => absurd (hw_1.trans hw_2.symm) h)
  exact law_end l C0 hS ls (lv_sub hl [0, 3] rfl)
set_option maxHeartbeats 4000000 in
set_option maxRecDepth 100000 in
theorem lc_20 {p : Program} {e : Env} {s : State} {m : MethodId} {below : List Frame} {meth : Method} {c : Code} (l : Launch) {b : Nat} {xs : Nat → Int32} {dC : Nat → ClassId} {dI : Nat → Nat → Nat} {x0 : Nat} {xq_1 : Nat} {xq_20 : Nat} {xq_24 : Nat} {xq_32 : Nat} {xq_36 : Nat} {xq_48 : Nat} {xa_3 : Nat} {xa_5 : Nat} {xa_7 : Nat} {xa_9 : Nat} {xa_11 : Nat} {xq_13 : Nat} {m0 : Nat} {ma_1 : Nat} {ma_3 : Nat} {ma_5 : Nat} {ma_7 : Nat} {ma_9 : Nat} {ma_11 : Nat} {ma_13 : Nat} {ma_15 : Nat} {ma_17 : Nat} {ma_19 : Nat} {ma_21 : Nat} {ma_23 : Nat} {ma_25 : Nat} {ma_27 : Nat} {ma_29 : Nat} {ma_31 : Nat} {ma_33 : Nat} {ma_35 : Nat} {ma_37 : Nat} {ma_39 : Nat} {ma_41 : Nat} {ma_43 : Nat} {ma_45 : Nat} {ma_47 : Nat} {ma_49 : Nat} (C0 : lw_At p s m meth c b 5 xs) {H : Heap} {locs : List Loc} (hK : va_K (dC, dI) vwCl [] s) (hP : va_P (dC, dI) vwCl [(x0, .inr (7, [.ref xq_1, .ref xq_20, .ref xq_24, .ref xq_32, .ref xq_36, .ref xq_48])), (xq_1, .inr (1, [.ref xa_3, .ref xa_5, .ref xa_7, .ref xa_9, .ref xa_11, .ref xq_13, .int 0, .int 0])), (m0, .inr (8, [.ref ma_1, .ref ma_3, .ref ma_5, .ref ma_7, .int 0, .ref ma_9, .ref ma_11, .ref ma_13, .ref ma_15, .ref ma_17, .ref ma_19, .int 0, .ref ma_21, .ref ma_23, .ref ma_25, .ref ma_27, .ref ma_29, .ref ma_31, .int 0, .int 0, .ref ma_33, .int 0, .int 0, .ref ma_35, .ref ma_37, .int 0, .ref ma_39, .ref ma_41, .int 0, .ref ma_43, .ref ma_45, .int 0, .ref ma_47, .ref ma_49, .int 0]))] H) (hD : va_D (fun q : Nat => s.heap.size ≤ q) [(x0, .inr (7, [.ref xq_1, .ref xq_20, .ref xq_24, .ref xq_32, .ref xq_36, .ref xq_48])), (xq_1, .inr (1, [.ref xa_3, .ref xa_5, .ref xa_7, .ref xa_9, .ref xa_11, .ref xq_13, .int 0, .int 0])), (m0, .inr (8, [.ref ma_1, .ref ma_3, .ref ma_5, .ref ma_7, .int 0, .ref ma_9, .ref ma_11, .ref ma_13, .ref ma_15, .ref ma_17, .ref ma_19, .int 0, .ref ma_21, .ref ma_23, .ref ma_25, .ref ma_27, .ref ma_29, .ref ma_31, .int 0, .int 0, .ref ma_33, .int 0, .int 0, .ref ma_35, .ref ma_37, .int 0, .ref ma_39, .ref ma_41, .int 0, .ref ma_43, .ref ma_45, .int 0, .ref ma_47, .ref ma_49, .int 0]))]) (hS : va_S (fun q : Nat => s.heap.size ≤ q) s.heap H locs) (ls : Array Slot) (hl : lv_has ls 4 [(3, .int 0), (2, .ref m0), (1, .ref x0), (0, .ref b)]) : W p l e room_1 s m #[Value.ref b] below meth c H locs 56 3153 (lw_Z below #[Value.ref b] s) (F0 m 772 ls []) := by
  obtain ⟨hx, hb, hr, hml, hown, hts, hX, hbl, hlocks, hgv⟩ := id C0
  have hN := nw_start hts
  have hts : ∀ w ∈ BG, w.before _ s = true := fun w h => hts w (BG_lw h)
  have hown : s.vm.findClass RL = some m.cls := hown
  have hA : ∀ q : Nat, s.heap.size ≤ q → (fun q : Nat => s.heap.size ≤ q) q := fun _ h => h
  have hbA : ¬ (fun q : Nat => s.heap.size ≤ q) b := Nat.not_le.mpr hbl
  refine lv_aload_n hx hb dL_law_772 rfl (lv_at hl 2 rfl) ?_
  refine lv_aload_n hx hb dL_law_773 rfl (lv_at hl 3 rfl) ?_
  refine lv_iload_n hx hb dL_law_774 rfl (lv_at hl 0 rfl) ?_
  refine lv_iconst (v := 1) hx hb dL_law_775 (by decide) ?_
  refine lv_iadd hx hb dL_law_776 ?_
  refine hx_top (y := 1) (by decide) ?_
  refine va_sld hx hb hX hbl hbA hS (show vp_in 1 5 by unfold vp_in; decide) dL_law_777 ?_
  refine hx_top (y := (xs 1)) rfl ?_
  refine lv_aload_n hx hb dL_law_778 rfl (lv_at hl 3 rfl) ?_
  refine lv_iload_n hx hb dL_law_779 rfl (lv_at hl 0 rfl) ?_
  refine lv_iconst (v := 2) hx hb dL_law_780 (by decide) ?_
  refine lv_iadd hx hb dL_law_781 ?_
  refine hx_top (y := 2) (by decide) ?_
  refine va_sld hx hb hX hbl hbA hS (show vp_in 2 5 by unfold vp_in; decide) dL_law_782 ?_
  refine hx_top (y := (xs 2)) rfl ?_
  refine lv_aload_n hx hb dL_law_783 rfl (lv_at hl 3 rfl) ?_
  refine lv_iload_n hx hb dL_law_784 rfl (lv_at hl 0 rfl) ?_
  refine lv_iconst (v := 3) hx hb dL_law_785 (by decide) ?_
  refine lv_iadd hx hb dL_law_786 ?_
  refine hx_top (y := 3) (by decide) ?_
  refine va_sld hx hb hX hbl hbA hS (show vp_in 3 5 by unfold vp_in; decide) dL_law_787 ?_
  refine hx_top (y := (xs 3)) rfl ?_
  have hPc := hP.sub (ws' := [(x0, .inr (7, [.ref xq_1, .ref xq_20, .ref xq_24, .ref xq_32, .ref xq_36, .ref xq_48])), (xq_1, .inr (1, [.ref xa_3, .ref xa_5, .ref xa_7, .ref xa_9, .ref xa_11, .ref xq_13, .int 0, .int 0]))]) [0, 1] rfl
  have hDc := hD.sub (ws' := [(x0, .inr (7, [.ref xq_1, .ref xq_20, .ref xq_24, .ref xq_32, .ref xq_36, .ref xq_48])), (xq_1, .inr (1, [.ref xa_3, .ref xa_5, .ref xa_7, .ref xa_9, .ref xa_11, .ref xq_13, .int 0, .int 0]))]) [0, 1] (by decide) rfl
  have hKc := hK.sub (tys' := []) [] rfl
  refine va_calli (va_runV (As := [.int (xs 1), .int (xs 2), .int (xs 3)]) (rest := []) ⟨hx, hb, hml, hown, hts⟩ (x_one l dC dI H.size x0 xq_1 (.ref xq_20) (.ref xq_24) (.ref xq_32) (.ref xq_36) (.ref xq_48) (.ref xa_3) (.ref xa_5) (.ref xa_7) (.ref xa_9) (.ref xa_11) (.ref xq_13) (.int 0) (xs 1) (xs 2) (xs 3)) (cwV 3 hts (gV mw_3_72 mw_3_73 mw_3_74 mw_1_1 mw_3_75) rfl rfl rfl (by decide +kernel) ⟨Nat.le_of_ble_eq_true rfl, Nat.le_of_ble_eq_true rfl⟩) ⟨pcW_blind, va_recv hKc hPc (ci := 7) (q0 := 0) rfl rfl, pcW_at hPc hKc hDc hN⟩ rfl rfl hl.1 rfl (lv_room (Nat.le_of_ble_eq_true rfl)) dL_law_788 ⟨Nat.le_of_ble_eq_true rfl, Nat.le_of_ble_eq_true rfl⟩) hS (fun q h1 h2 => absurd h2 (Nat.not_le.mpr h1)) (fun q h => hA q (Nat.le_trans hS.1 h)) (fun r_1 u t H1 locs ht hvm hw_1 hB hz1 hk1 hS => ?_)
  have hP := keepP hP hk1
  clear hz1 hk1 hB ht hvm hPc hDc hKc
  generalize H1 = H at hP hS ⊢
  obtain rfl : r_1 = (-1) := hw_1
  refine lv_aload_n hx hb dL_law_791 rfl (lv_at hl 1 rfl) ?_
  refine lv_aload_n hx hb dL_law_792 rfl (lv_at hl 3 rfl) ?_
  refine lv_iload_n hx hb dL_law_793 rfl (lv_at hl 0 rfl) ?_
  refine lv_iconst (v := 1) hx hb dL_law_794 (by decide) ?_
  refine lv_iadd hx hb dL_law_795 ?_
  refine hx_top (y := 1) (by decide) ?_
  refine va_sld hx hb hX hbl hbA hS (show vp_in 1 5 by unfold vp_in; decide) dL_law_796 ?_
  refine hx_top (y := (xs 1)) rfl ?_
  refine lv_aload_n hx hb dL_law_797 rfl (lv_at hl 3 rfl) ?_
  refine lv_iload_n hx hb dL_law_798 rfl (lv_at hl 0 rfl) ?_
  refine lv_iconst (v := 2) hx hb dL_law_799 (by decide) ?_
  refine lv_iadd hx hb dL_law_800 ?_
  refine hx_top (y := 2) (by decide) ?_
  refine va_sld hx hb hX hbl hbA hS (show vp_in 2 5 by unfold vp_in; decide) dL_law_801 ?_
  refine hx_top (y := (xs 2)) rfl ?_
  refine lv_aload_n hx hb dL_law_802 rfl (lv_at hl 3 rfl) ?_
  refine lv_iload_n hx hb dL_law_803 rfl (lv_at hl 0 rfl) ?_
  refine lv_iconst (v := 3) hx hb dL_law_804 (by decide) ?_
  refine lv_iadd hx hb dL_law_805 ?_
  refine hx_top (y := 3) (by decide) ?_
  refine va_sld hx hb hX hbl hbA hS (show vp_in 3 5 by unfold vp_in; decide) dL_law_806 ?_
  refine hx_top (y := (xs 3)) rfl ?_
  have hPc := hP.sub (ws' := [(m0, .inr (8, [.ref ma_1, .ref ma_3, .ref ma_5, .ref ma_7, .int 0, .ref ma_9, .ref ma_11, .ref ma_13, .ref ma_15, .ref ma_17, .ref ma_19, .int 0, .ref ma_21, .ref ma_23, .ref ma_25, .ref ma_27, .ref ma_29, .ref ma_31, .int 0, .int 0, .ref ma_33, .int 0, .int 0, .ref ma_35, .ref ma_37, .int 0, .ref ma_39, .ref ma_41, .int 0, .ref ma_43, .ref ma_45, .int 0, .ref ma_47, .ref ma_49, .int 0]))]) [2] rfl
  have hDc := hD.sub (ws' := [(m0, .inr (8, [.ref ma_1, .ref ma_3, .ref ma_5, .ref ma_7, .int 0, .ref ma_9, .ref ma_11, .ref ma_13, .ref ma_15, .ref ma_17, .ref ma_19, .int 0, .ref ma_21, .ref ma_23, .ref ma_25, .ref ma_27, .ref ma_29, .ref ma_31, .int 0, .int 0, .ref ma_33, .int 0, .int 0, .ref ma_35, .ref ma_37, .int 0, .ref ma_39, .ref ma_41, .int 0, .ref ma_43, .ref ma_45, .int 0, .ref ma_47, .ref ma_49, .int 0]))]) [2] (by decide) rfl
  have hKc := hK.sub (tys' := []) [] rfl
  refine va_calli (va_runV (As := [.int (xs 1), .int (xs 2), .int (xs 3)]) (rest := [.int (-1)]) ⟨hx, hb, hml, hown, hts⟩ (m_one l dC dI H.size m0 (.ref ma_1) (.ref ma_3) (.ref ma_5) (.ref ma_7) (.ref ma_9) (.ref ma_11) (.ref ma_13) (.ref ma_15) (.ref ma_17) (.ref ma_19) (.int 0) (.ref ma_21) (.ref ma_23) (.ref ma_25) (.ref ma_27) (.ref ma_29) (.ref ma_31) (.int 0) (.int 0) (.ref ma_33) (.int 0) (.int 0) (.ref ma_35) (.ref ma_37) (.int 0) (.ref ma_39) (.ref ma_41) (.int 0) (.ref ma_43) (.ref ma_45) (.int 0) (.ref ma_47) (.ref ma_49) (.int 0) (xs 1) (xs 2) (xs 3)) (cwV 3 hts (gV mw_4_239 mw_5_0 mw_5_1 mw_1_9 mw_5_2) rfl rfl rfl (by decide +kernel) ⟨Nat.le_of_ble_eq_true rfl, Nat.le_of_ble_eq_true rfl⟩) ⟨pcW_blind, va_recv hKc hPc (ci := 8) (q0 := 0) rfl rfl, pcW_at hPc hKc hDc hN⟩ rfl rfl hl.1 rfl (lv_room (Nat.le_of_ble_eq_true rfl)) dL_law_807 ⟨Nat.le_of_ble_eq_true rfl, Nat.le_of_ble_eq_true rfl⟩) hS (fun q h1 h2 => absurd h2 (Nat.not_le.mpr h1)) (fun q h => hA q (Nat.le_trans hS.1 h)) (fun r_2 u t H1 locs ht hvm hw_2 hB hz1 hk1 hS => ?_)
  have hP := keepP hP hk1
  clear hz1 hk1 hB ht hvm hPc hDc hKc
  generalize H1 = H at hP hS ⊢
  obtain rfl : r_2 = (-1) := hw_2
  refine lv_icmp_eq (tgt := 983) hx hb dL_law_810 (by decide) (fun _ => ?_) (fun h => absurd (by decide) h)
  exact law_end l C0 hS ls (lv_sub hl [0, 3] rfl)
set_option maxHeartbeats 4000000 in
set_option maxRecDepth 100000 in
theorem lc_21 {p : Program} {e : Env} {s : State} {m : MethodId} {below : List Frame} {meth : Method} {c : Code} (l : Launch) {b : Nat} {xs : Nat → Int32} {dC : Nat → ClassId} {dI : Nat → Nat → Nat} {x0 : Nat} {xq_1 : Nat} {xq_20 : Nat} {xq_24 : Nat} {xq_32 : Nat} {xq_36 : Nat} {xq_48 : Nat} {xa_3 : Nat} {xa_5 : Nat} {xa_7 : Nat} {xa_9 : Nat} {xa_11 : Nat} {xq_13 : Nat} {m0 : Nat} {ma_1 : Nat} {ma_3 : Nat} {ma_5 : Nat} {ma_7 : Nat} {ma_9 : Nat} {ma_11 : Nat} {ma_13 : Nat} {ma_15 : Nat} {ma_17 : Nat} {ma_19 : Nat} {ma_21 : Nat} {ma_23 : Nat} {ma_25 : Nat} {ma_27 : Nat} {ma_29 : Nat} {ma_31 : Nat} {ma_33 : Nat} {ma_35 : Nat} {ma_37 : Nat} {ma_39 : Nat} {ma_41 : Nat} {ma_43 : Nat} {ma_45 : Nat} {ma_47 : Nat} {ma_49 : Nat} (C0 : lw_At p s m meth c b 5 xs) {H : Heap} {locs : List Loc} (hK : va_K (dC, dI) vwCl [] s) (hP : va_P (dC, dI) vwCl [(x0, .inr (7, [.ref xq_1, .ref xq_20, .ref xq_24, .ref xq_32, .ref xq_36, .ref xq_48])), (xq_1, .inr (1, [.ref xa_3, .ref xa_5, .ref xa_7, .ref xa_9, .ref xa_11, .ref xq_13, .int 0, .int 0])), (m0, .inr (8, [.ref ma_1, .ref ma_3, .ref ma_5, .ref ma_7, .int 0, .ref ma_9, .ref ma_11, .ref ma_13, .ref ma_15, .ref ma_17, .ref ma_19, .int 0, .ref ma_21, .ref ma_23, .ref ma_25, .ref ma_27, .ref ma_29, .ref ma_31, .int 0, .int 0, .ref ma_33, .int 0, .int 0, .ref ma_35, .ref ma_37, .int 0, .ref ma_39, .ref ma_41, .int 0, .ref ma_43, .ref ma_45, .int 0, .ref ma_47, .ref ma_49, .int 0]))] H) (hD : va_D (fun q : Nat => s.heap.size ≤ q) [(x0, .inr (7, [.ref xq_1, .ref xq_20, .ref xq_24, .ref xq_32, .ref xq_36, .ref xq_48])), (xq_1, .inr (1, [.ref xa_3, .ref xa_5, .ref xa_7, .ref xa_9, .ref xa_11, .ref xq_13, .int 0, .int 0])), (m0, .inr (8, [.ref ma_1, .ref ma_3, .ref ma_5, .ref ma_7, .int 0, .ref ma_9, .ref ma_11, .ref ma_13, .ref ma_15, .ref ma_17, .ref ma_19, .int 0, .ref ma_21, .ref ma_23, .ref ma_25, .ref ma_27, .ref ma_29, .ref ma_31, .int 0, .int 0, .ref ma_33, .int 0, .int 0, .ref ma_35, .ref ma_37, .int 0, .ref ma_39, .ref ma_41, .int 0, .ref ma_43, .ref ma_45, .int 0, .ref ma_47, .ref ma_49, .int 0]))]) (hS : va_S (fun q : Nat => s.heap.size ≤ q) s.heap H locs) (ls : Array Slot) (hl : lv_has ls 4 [(3, .int 0), (2, .ref m0), (1, .ref x0), (0, .ref b)]) : W p l e room_1 s m #[Value.ref b] below meth c H locs 56 3153 (lw_Z below #[Value.ref b] s) (F0 m 815 ls []) := by
  obtain ⟨hx, hb, hr, hml, hown, hts, hX, hbl, hlocks, hgv⟩ := id C0
  have hN := nw_start hts
  have hts : ∀ w ∈ BG, w.before _ s = true := fun w h => hts w (BG_lw h)
  have hown : s.vm.findClass RL = some m.cls := hown
  have hA : ∀ q : Nat, s.heap.size ≤ q → (fun q : Nat => s.heap.size ≤ q) q := fun _ h => h
  have hbA : ¬ (fun q : Nat => s.heap.size ≤ q) b := Nat.not_le.mpr hbl
  refine lv_aload_n hx hb dL_law_815 rfl (lv_at hl 2 rfl) ?_
  refine lv_aload_n hx hb dL_law_816 rfl (lv_at hl 3 rfl) ?_
  refine lv_iload_n hx hb dL_law_817 rfl (lv_at hl 0 rfl) ?_
  refine lv_iconst (v := 1) hx hb dL_law_818 (by decide) ?_
  refine lv_iadd hx hb dL_law_819 ?_
  refine hx_top (y := 1) (by decide) ?_
  refine va_sld hx hb hX hbl hbA hS (show vp_in 1 5 by unfold vp_in; decide) dL_law_820 ?_
  refine hx_top (y := (xs 1)) rfl ?_
  refine lv_aload_n hx hb dL_law_821 rfl (lv_at hl 3 rfl) ?_
  refine lv_iload_n hx hb dL_law_822 rfl (lv_at hl 0 rfl) ?_
  refine lv_iconst (v := 2) hx hb dL_law_823 (by decide) ?_
  refine lv_iadd hx hb dL_law_824 ?_
  refine hx_top (y := 2) (by decide) ?_
  refine va_sld hx hb hX hbl hbA hS (show vp_in 2 5 by unfold vp_in; decide) dL_law_825 ?_
  refine hx_top (y := (xs 2)) rfl ?_
  have hPc := hP.sub (ws' := [(x0, .inr (7, [.ref xq_1, .ref xq_20, .ref xq_24, .ref xq_32, .ref xq_36, .ref xq_48])), (xq_1, .inr (1, [.ref xa_3, .ref xa_5, .ref xa_7, .ref xa_9, .ref xa_11, .ref xq_13, .int 0, .int 0]))]) [0, 1] rfl
  have hDc := hD.sub (ws' := [(x0, .inr (7, [.ref xq_1, .ref xq_20, .ref xq_24, .ref xq_32, .ref xq_36, .ref xq_48])), (xq_1, .inr (1, [.ref xa_3, .ref xa_5, .ref xa_7, .ref xa_9, .ref xa_11, .ref xq_13, .int 0, .int 0]))]) [0, 1] (by decide) rfl
  have hKc := hK.sub (tys' := []) [] rfl
  refine va_calli (va_runV (As := [.int (xs 1), .int (xs 2)]) (rest := []) ⟨hx, hb, hml, hown, hts⟩ (x_call l dC dI H.size x0 xq_1 (.ref xq_20) (.ref xq_24) (.ref xq_32) (.ref xq_36) (.ref xq_48) (.ref xa_3) (.ref xa_5) (.ref xa_7) (.ref xa_9) (.ref xa_11) (.ref xq_13) (.int 0) (xs 1) (xs 2)) (cwV 2 hts (gV mw_3_81 mw_3_82 mw_3_83 mw_1_1 mw_3_84) rfl rfl rfl (by decide +kernel) ⟨Nat.le_of_ble_eq_true rfl, Nat.le_of_ble_eq_true rfl⟩) ⟨pcW_blind, va_recv hKc hPc (ci := 7) (q0 := 0) rfl rfl, pcW_at hPc hKc hDc hN⟩ rfl rfl hl.1 rfl (lv_room (Nat.le_of_ble_eq_true rfl)) dL_law_826 ⟨Nat.le_of_ble_eq_true rfl, Nat.le_of_ble_eq_true rfl⟩) hS (fun q h1 h2 => absurd h2 (Nat.not_le.mpr h1)) (fun q h => hA q (Nat.le_trans hS.1 h)) (fun r_1 u t H1 locs ht hvm hw_1 hB hz1 hk1 hS => ?_)
  have hP := keepP hP hk1
  clear hz1 hk1 hB ht hvm hPc hDc hKc
  generalize H1 = H at hP hS ⊢
  obtain rfl : r_1 = (-1) := hw_1
  refine lv_aload_n hx hb dL_law_829 rfl (lv_at hl 1 rfl) ?_
  refine lv_aload_n hx hb dL_law_830 rfl (lv_at hl 3 rfl) ?_
  refine lv_iload_n hx hb dL_law_831 rfl (lv_at hl 0 rfl) ?_
  refine lv_iconst (v := 1) hx hb dL_law_832 (by decide) ?_
  refine lv_iadd hx hb dL_law_833 ?_
  refine hx_top (y := 1) (by decide) ?_
  refine va_sld hx hb hX hbl hbA hS (show vp_in 1 5 by unfold vp_in; decide) dL_law_834 ?_
  refine hx_top (y := (xs 1)) rfl ?_
  refine lv_aload_n hx hb dL_law_835 rfl (lv_at hl 3 rfl) ?_
  refine lv_iload_n hx hb dL_law_836 rfl (lv_at hl 0 rfl) ?_
  refine lv_iconst (v := 2) hx hb dL_law_837 (by decide) ?_
  refine lv_iadd hx hb dL_law_838 ?_
  refine hx_top (y := 2) (by decide) ?_
  refine va_sld hx hb hX hbl hbA hS (show vp_in 2 5 by unfold vp_in; decide) dL_law_839 ?_
  refine hx_top (y := (xs 2)) rfl ?_
  have hPc := hP.sub (ws' := [(m0, .inr (8, [.ref ma_1, .ref ma_3, .ref ma_5, .ref ma_7, .int 0, .ref ma_9, .ref ma_11, .ref ma_13, .ref ma_15, .ref ma_17, .ref ma_19, .int 0, .ref ma_21, .ref ma_23, .ref ma_25, .ref ma_27, .ref ma_29, .ref ma_31, .int 0, .int 0, .ref ma_33, .int 0, .int 0, .ref ma_35, .ref ma_37, .int 0, .ref ma_39, .ref ma_41, .int 0, .ref ma_43, .ref ma_45, .int 0, .ref ma_47, .ref ma_49, .int 0]))]) [2] rfl
  have hDc := hD.sub (ws' := [(m0, .inr (8, [.ref ma_1, .ref ma_3, .ref ma_5, .ref ma_7, .int 0, .ref ma_9, .ref ma_11, .ref ma_13, .ref ma_15, .ref ma_17, .ref ma_19, .int 0, .ref ma_21, .ref ma_23, .ref ma_25, .ref ma_27, .ref ma_29, .ref ma_31, .int 0, .int 0, .ref ma_33, .int 0, .int 0, .ref ma_35, .ref ma_37, .int 0, .ref ma_39, .ref ma_41, .int 0, .ref ma_43, .ref ma_45, .int 0, .ref ma_47, .ref ma_49, .int 0]))]) [2] (by decide) rfl
  have hKc := hK.sub (tys' := []) [] rfl
  refine va_calli (va_runV (As := [.int (xs 1), .int (xs 2)]) (rest := [.int (-1)]) ⟨hx, hb, hml, hown, hts⟩ (m_call l dC dI H.size m0 (.ref ma_1) (.ref ma_3) (.ref ma_5) (.ref ma_7) (.ref ma_9) (.ref ma_11) (.ref ma_13) (.ref ma_15) (.ref ma_17) (.ref ma_19) (.int 0) (.ref ma_21) (.ref ma_23) (.ref ma_25) (.ref ma_27) (.ref ma_29) (.ref ma_31) (.int 0) (.int 0) (.ref ma_33) (.int 0) (.int 0) (.ref ma_35) (.ref ma_37) (.int 0) (.ref ma_39) (.ref ma_41) (.int 0) (.ref ma_43) (.ref ma_45) (.int 0) (.ref ma_47) (.ref ma_49) (.int 0) (xs 1) (xs 2)) (cwV 2 hts (gV mw_5_3 mw_5_4 mw_5_5 mw_1_9 mw_5_6) rfl rfl rfl (by decide +kernel) ⟨Nat.le_of_ble_eq_true rfl, Nat.le_of_ble_eq_true rfl⟩) ⟨pcW_blind, va_recv hKc hPc (ci := 8) (q0 := 0) rfl rfl, pcW_at hPc hKc hDc hN⟩ rfl rfl hl.1 rfl (lv_room (Nat.le_of_ble_eq_true rfl)) dL_law_840 ⟨Nat.le_of_ble_eq_true rfl, Nat.le_of_ble_eq_true rfl⟩) hS (fun q h1 h2 => absurd h2 (Nat.not_le.mpr h1)) (fun q h => hA q (Nat.le_trans hS.1 h)) (fun r_2 u t H1 locs ht hvm hw_2 hB hz1 hk1 hS => ?_)
  have hP := keepP hP hk1
  clear hz1 hk1 hB ht hvm hPc hDc hKc
  generalize H1 = H at hP hS ⊢
  obtain rfl : r_2 = (-1) := hw_2
  refine lv_icmp_eq (tgt := 983) hx hb dL_law_843 (by decide) (fun _ => ?_) (fun h => absurd (by decide) h)
  exact law_end l C0 hS ls (lv_sub hl [0, 3] rfl)
set_option maxHeartbeats 4000000 in
set_option maxRecDepth 100000 in
theorem lc_22 {p : Program} {e : Env} {s : State} {m : MethodId} {below : List Frame} {meth : Method} {c : Code} (l : Launch) {b : Nat} {xs : Nat → Int32} {dC : Nat → ClassId} {dI : Nat → Nat → Nat} {x0 : Nat} {xq_1 : Nat} {xq_20 : Nat} {xq_24 : Nat} {xq_32 : Nat} {xq_36 : Nat} {xq_48 : Nat} {xa_50 : Nat} {xa_52 : Nat} {xa_54 : Nat} {xa_56 : Nat} {m0 : Nat} {ma_1 : Nat} {ma_3 : Nat} {ma_5 : Nat} {ma_7 : Nat} {ma_9 : Nat} {ma_11 : Nat} {ma_13 : Nat} {ma_15 : Nat} {ma_17 : Nat} {ma_19 : Nat} {ma_21 : Nat} {ma_23 : Nat} {ma_25 : Nat} {ma_27 : Nat} {ma_29 : Nat} {ma_31 : Nat} {ma_33 : Nat} {ma_35 : Nat} {ma_37 : Nat} {ma_39 : Nat} {ma_41 : Nat} {ma_43 : Nat} {ma_45 : Nat} {ma_47 : Nat} {ma_49 : Nat} (C0 : lw_At p s m meth c b 5 xs) {H : Heap} {locs : List Loc} (hK : va_K (dC, dI) vwCl [] s) (hP : va_P (dC, dI) vwCl [(x0, .inr (7, [.ref xq_1, .ref xq_20, .ref xq_24, .ref xq_32, .ref xq_36, .ref xq_48])), (xq_48, .inr (3, [.ref xa_50, .ref xa_52, .ref xa_54, .ref xa_56, .int 0, .int 0])), (m0, .inr (8, [.ref ma_1, .ref ma_3, .ref ma_5, .ref ma_7, .int 0, .ref ma_9, .ref ma_11, .ref ma_13, .ref ma_15, .ref ma_17, .ref ma_19, .int 0, .ref ma_21, .ref ma_23, .ref ma_25, .ref ma_27, .ref ma_29, .ref ma_31, .int 0, .int 0, .ref ma_33, .int 0, .int 0, .ref ma_35, .ref ma_37, .int 0, .ref ma_39, .ref ma_41, .int 0, .ref ma_43, .ref ma_45, .int 0, .ref ma_47, .ref ma_49, .int 0]))] H) (hD : va_D (fun q : Nat => s.heap.size ≤ q) [(x0, .inr (7, [.ref xq_1, .ref xq_20, .ref xq_24, .ref xq_32, .ref xq_36, .ref xq_48])), (xq_48, .inr (3, [.ref xa_50, .ref xa_52, .ref xa_54, .ref xa_56, .int 0, .int 0])), (m0, .inr (8, [.ref ma_1, .ref ma_3, .ref ma_5, .ref ma_7, .int 0, .ref ma_9, .ref ma_11, .ref ma_13, .ref ma_15, .ref ma_17, .ref ma_19, .int 0, .ref ma_21, .ref ma_23, .ref ma_25, .ref ma_27, .ref ma_29, .ref ma_31, .int 0, .int 0, .ref ma_33, .int 0, .int 0, .ref ma_35, .ref ma_37, .int 0, .ref ma_39, .ref ma_41, .int 0, .ref ma_43, .ref ma_45, .int 0, .ref ma_47, .ref ma_49, .int 0]))]) (hS : va_S (fun q : Nat => s.heap.size ≤ q) s.heap H locs) (ls : Array Slot) (hl : lv_has ls 4 [(3, .int 0), (2, .ref m0), (1, .ref x0), (0, .ref b)]) : W p l e room_1 s m #[Value.ref b] below meth c H locs 56 3153 (lw_Z below #[Value.ref b] s) (F0 m 848 ls []) := by
  obtain ⟨hx, hb, hr, hml, hown, hts, hX, hbl, hlocks, hgv⟩ := id C0
  have hN := nw_start hts
  have hts : ∀ w ∈ BG, w.before _ s = true := fun w h => hts w (BG_lw h)
  have hown : s.vm.findClass RL = some m.cls := hown
  have hA : ∀ q : Nat, s.heap.size ≤ q → (fun q : Nat => s.heap.size ≤ q) q := fun _ h => h
  have hbA : ¬ (fun q : Nat => s.heap.size ≤ q) b := Nat.not_le.mpr hbl
  refine lv_aload_n hx hb dL_law_848 rfl (lv_at hl 2 rfl) ?_
  have hPc := hP.sub (ws' := [(x0, .inr (7, [.ref xq_1, .ref xq_20, .ref xq_24, .ref xq_32, .ref xq_36, .ref xq_48])), (xq_48, .inr (3, [.ref xa_50, .ref xa_52, .ref xa_54, .ref xa_56, .int 0, .int 0]))]) [0, 1] rfl
  have hDc := hD.sub (ws' := [(x0, .inr (7, [.ref xq_1, .ref xq_20, .ref xq_24, .ref xq_32, .ref xq_36, .ref xq_48])), (xq_48, .inr (3, [.ref xa_50, .ref xa_52, .ref xa_54, .ref xa_56, .int 0, .int 0]))]) [0, 1] (by decide) rfl
  have hKc := hK.sub (tys' := []) [] rfl
  have hFc := va_free (wc := [(x0, .inr (7, [.ref xq_1, .ref xq_20, .ref xq_24, .ref xq_32, .ref xq_36, .ref xq_48])), (xq_48, .inr (3, [.ref xa_50, .ref xa_52, .ref xa_54, .ref xa_56, .int 0, .int 0]))]) hD hS hA [0, 1] rfl
  refine va_calli (va_runV (As := []) (rest := []) ⟨hx, hb, hml, hown, hts⟩ (x_forget l dC dI H.size x0 (.ref xq_1) (.ref xq_20) (.ref xq_24) (.ref xq_32) (.ref xq_36) xq_48 (.ref xa_50) (.ref xa_52) (.ref xa_54) (.ref xa_56)) (cwV 0 hts (gV mw_3_97 mw_3_98 mw_3_99 mw_1_1 mw_3_100) rfl rfl rfl (by decide +kernel) ⟨Nat.le_of_ble_eq_true rfl, Nat.le_of_ble_eq_true rfl⟩) ⟨pcW_blind, va_recv hKc hPc (ci := 7) (q0 := 0) rfl rfl, pcW_at hPc hKc hDc hN⟩ rfl rfl hl.1 rfl (lv_room (Nat.le_of_ble_eq_true rfl)) dL_law_849 ⟨Nat.le_of_ble_eq_true rfl, Nat.le_of_ble_eq_true rfl⟩) hS (fun q _ h => hFc q h) hFc (fun r_1 u t H1 locs ht hvm hw_1 hB hz1 hk1 hS => ?_)
  obtain ⟨hP, hD⟩ := va_join (wr := [(m0, .inr (8, [.ref ma_1, .ref ma_3, .ref ma_5, .ref ma_7, .int 0, .ref ma_9, .ref ma_11, .ref ma_13, .ref ma_15, .ref ma_17, .ref ma_19, .int 0, .ref ma_21, .ref ma_23, .ref ma_25, .ref ma_27, .ref ma_29, .ref ma_31, .int 0, .int 0, .ref ma_33, .int 0, .int 0, .ref ma_35, .ref ma_37, .int 0, .ref ma_39, .ref ma_41, .int 0, .ref ma_43, .ref ma_45, .int 0, .ref ma_47, .ref ma_49, .int 0]))]) (w1 := []) hP hD [0, 1] [2] rfl rfl (by decide) (by decide) hk1 hFc nilP nilD
  rw [List.append_nil] at hP hD
  clear hz1 hk1 hPc hDc hKc hFc
  generalize H1 = H at hP hS ⊢
  have hK : va_K (dC, dI) vwCl [] s := hK
  have hP : va_P (dC, dI) vwCl [(m0, .inr (8, [.ref ma_1, .ref ma_3, .ref ma_5, .ref ma_7, .int 0, .ref ma_9, .ref ma_11, .ref ma_13, .ref ma_15, .ref ma_17, .ref ma_19, .int 0, .ref ma_21, .ref ma_23, .ref ma_25, .ref ma_27, .ref ma_29, .ref ma_31, .int 0, .int 0, .ref ma_33, .int 0, .int 0, .ref ma_35, .ref ma_37, .int 0, .ref ma_39, .ref ma_41, .int 0, .ref ma_43, .ref ma_45, .int 0, .ref ma_47, .ref ma_49, .int 0]))] H := hP
  have hD : va_D (fun q : Nat => s.heap.size ≤ q) [(m0, .inr (8, [.ref ma_1, .ref ma_3, .ref ma_5, .ref ma_7, .int 0, .ref ma_9, .ref ma_11, .ref ma_13, .ref ma_15, .ref ma_17, .ref ma_19, .int 0, .ref ma_21, .ref ma_23, .ref ma_25, .ref ma_27, .ref ma_29, .ref ma_31, .int 0, .int 0, .ref ma_33, .int 0, .int 0, .ref ma_35, .ref ma_37, .int 0, .ref ma_39, .ref ma_41, .int 0, .ref ma_43, .ref ma_45, .int 0, .ref ma_47, .ref ma_49, .int 0]))] := hD
  obtain rfl : r_1 = 0 := hw_1
  refine lv_aload_n hx hb dL_law_852 rfl (lv_at hl 1 rfl) ?_
  have hPc := hP.sub (ws' := [(m0, .inr (8, [.ref ma_1, .ref ma_3, .ref ma_5, .ref ma_7, .int 0, .ref ma_9, .ref ma_11, .ref ma_13, .ref ma_15, .ref ma_17, .ref ma_19, .int 0, .ref ma_21, .ref ma_23, .ref ma_25, .ref ma_27, .ref ma_29, .ref ma_31, .int 0, .int 0, .ref ma_33, .int 0, .int 0, .ref ma_35, .ref ma_37, .int 0, .ref ma_39, .ref ma_41, .int 0, .ref ma_43, .ref ma_45, .int 0, .ref ma_47, .ref ma_49, .int 0]))]) [0] rfl
  have hDc := hD.sub (ws' := [(m0, .inr (8, [.ref ma_1, .ref ma_3, .ref ma_5, .ref ma_7, .int 0, .ref ma_9, .ref ma_11, .ref ma_13, .ref ma_15, .ref ma_17, .ref ma_19, .int 0, .ref ma_21, .ref ma_23, .ref ma_25, .ref ma_27, .ref ma_29, .ref ma_31, .int 0, .int 0, .ref ma_33, .int 0, .int 0, .ref ma_35, .ref ma_37, .int 0, .ref ma_39, .ref ma_41, .int 0, .ref ma_43, .ref ma_45, .int 0, .ref ma_47, .ref ma_49, .int 0]))]) [0] (by decide) rfl
  have hKc := hK.sub (tys' := []) [] rfl
  have hFc := va_free (wc := [(m0, .inr (8, [.ref ma_1, .ref ma_3, .ref ma_5, .ref ma_7, .int 0, .ref ma_9, .ref ma_11, .ref ma_13, .ref ma_15, .ref ma_17, .ref ma_19, .int 0, .ref ma_21, .ref ma_23, .ref ma_25, .ref ma_27, .ref ma_29, .ref ma_31, .int 0, .int 0, .ref ma_33, .int 0, .int 0, .ref ma_35, .ref ma_37, .int 0, .ref ma_39, .ref ma_41, .int 0, .ref ma_43, .ref ma_45, .int 0, .ref ma_47, .ref ma_49, .int 0]))]) hD hS hA [0] rfl
  refine va_calli (va_runV (As := []) (rest := [.int 0]) ⟨hx, hb, hml, hown, hts⟩ (m_forget l dC dI H.size m0 (.ref ma_1) (.ref ma_3) (.ref ma_5) (.ref ma_7) (.int 0) (.ref ma_9) (.ref ma_11) (.ref ma_13) (.ref ma_15) (.ref ma_17) (.ref ma_19) (.int 0) (.ref ma_21) (.ref ma_23) (.ref ma_25) (.ref ma_27) (.ref ma_29) (.ref ma_31) (.int 0) (.int 0) (.ref ma_33) (.int 0) (.int 0) (.ref ma_35) (.ref ma_37) (.int 0) (.ref ma_39) (.ref ma_41) (.int 0) (.ref ma_43) (.ref ma_45) (.ref ma_47) (.ref ma_49) (.int 0)) (cwV 0 hts (gV mw_5_10 mw_5_11 mw_5_12 mw_1_9 mw_5_13) rfl rfl rfl (by decide +kernel) ⟨Nat.le_of_ble_eq_true rfl, Nat.le_of_ble_eq_true rfl⟩) ⟨pcW_blind, va_recv hKc hPc (ci := 8) (q0 := 0) rfl rfl, pcW_at hPc hKc hDc hN⟩ rfl rfl hl.1 rfl (lv_room (Nat.le_of_ble_eq_true rfl)) dL_law_853 ⟨Nat.le_of_ble_eq_true rfl, Nat.le_of_ble_eq_true rfl⟩) hS (fun q _ h => hFc q h) hFc (fun r_2 u t H1 locs ht hvm hw_2 hB hz1 hk1 hS => ?_)
  obtain ⟨hP, hD⟩ := va_join (wr := []) (w1 := []) hP hD [0] [] rfl rfl (by decide) (by decide) hk1 hFc nilP nilD
  rw [List.append_nil] at hP hD
  clear hz1 hk1 hPc hDc hKc hFc
  generalize H1 = H at hP hS ⊢
  have hK : va_K (dC, dI) vwCl [] s := hK
  have hP : va_P (dC, dI) vwCl [] H := hP
  have hD : va_D (fun q : Nat => s.heap.size ≤ q) [] := hD
  obtain rfl : r_2 = 0 := hw_2
  refine lv_icmp_eq (tgt := 983) hx hb dL_law_856 (by decide) (fun _ => ?_) (fun h => absurd (by decide) h)
  exact law_end l C0 hS ls (lv_sub hl [0, 3] rfl)
set_option maxHeartbeats 4000000 in
set_option maxRecDepth 100000 in
theorem lc_23 {p : Program} {e : Env} {s : State} {m : MethodId} {below : List Frame} {meth : Method} {c : Code} (l : Launch) {b : Nat} {xs : Nat → Int32} {dC : Nat → ClassId} {dI : Nat → Nat → Nat} {x0 : Nat} {xq_1 : Nat} {xq_20 : Nat} {xq_24 : Nat} {xq_32 : Nat} {xq_36 : Nat} {xq_48 : Nat} {xa_50 : Nat} {xa_52 : Nat} {xa_54 : Nat} {xa_56 : Nat} {xk_51 : ClassId} {m0 : Nat} {ma_1 : Nat} {ma_3 : Nat} {ma_5 : Nat} {ma_7 : Nat} {ma_9 : Nat} {ma_11 : Nat} {ma_13 : Nat} {ma_15 : Nat} {ma_17 : Nat} {ma_19 : Nat} {ma_21 : Nat} {ma_23 : Nat} {ma_25 : Nat} {ma_27 : Nat} {ma_29 : Nat} {ma_31 : Nat} {ma_33 : Nat} {ma_35 : Nat} {ma_37 : Nat} {ma_39 : Nat} {ma_41 : Nat} {ma_43 : Nat} {ma_45 : Nat} {ma_47 : Nat} {ma_49 : Nat} {mk_48 : ClassId} (C0 : lw_At p s m meth c b 5 xs) {H : Heap} {locs : List Loc} (hK : va_K (dC, dI) vwCl [(xk_51, .int), (mk_48, .int)] s) (hP : va_P (dC, dI) vwCl [(x0, .inr (7, [.ref xq_1, .ref xq_20, .ref xq_24, .ref xq_32, .ref xq_36, .ref xq_48])), (xq_48, .inr (3, [.ref xa_50, .ref xa_52, .ref xa_54, .ref xa_56, .int 0, .int 0])), (xa_50, .inl (xk_51, 4, .inl (slF 1 0 4))), (m0, .inr (8, [.ref ma_1, .ref ma_3, .ref ma_5, .ref ma_7, .int 0, .ref ma_9, .ref ma_11, .ref ma_13, .ref ma_15, .ref ma_17, .ref ma_19, .int 0, .ref ma_21, .ref ma_23, .ref ma_25, .ref ma_27, .ref ma_29, .ref ma_31, .int 0, .int 0, .ref ma_33, .int 0, .int 0, .ref ma_35, .ref ma_37, .int 0, .ref ma_39, .ref ma_41, .int 0, .ref ma_43, .ref ma_45, .int 0, .ref ma_47, .ref ma_49, .int 0])), (ma_47, .inl (mk_48, 4, .inl (slF 1 0 4)))] H) (hD : va_D (fun q : Nat => s.heap.size ≤ q) [(x0, .inr (7, [.ref xq_1, .ref xq_20, .ref xq_24, .ref xq_32, .ref xq_36, .ref xq_48])), (xq_48, .inr (3, [.ref xa_50, .ref xa_52, .ref xa_54, .ref xa_56, .int 0, .int 0])), (xa_50, .inl (xk_51, 4, .inl (slF 1 0 4))), (m0, .inr (8, [.ref ma_1, .ref ma_3, .ref ma_5, .ref ma_7, .int 0, .ref ma_9, .ref ma_11, .ref ma_13, .ref ma_15, .ref ma_17, .ref ma_19, .int 0, .ref ma_21, .ref ma_23, .ref ma_25, .ref ma_27, .ref ma_29, .ref ma_31, .int 0, .int 0, .ref ma_33, .int 0, .int 0, .ref ma_35, .ref ma_37, .int 0, .ref ma_39, .ref ma_41, .int 0, .ref ma_43, .ref ma_45, .int 0, .ref ma_47, .ref ma_49, .int 0])), (ma_47, .inl (mk_48, 4, .inl (slF 1 0 4)))]) (hS : va_S (fun q : Nat => s.heap.size ≤ q) s.heap H locs) (ls : Array Slot) (hl : lv_has ls 4 [(3, .int 0), (2, .ref m0), (1, .ref x0), (0, .ref b)]) : W p l e room_1 s m #[Value.ref b] below meth c H locs 56 3153 (lw_Z below #[Value.ref b] s) (F0 m 861 ls []) := by
  obtain ⟨hx, hb, hr, hml, hown, hts, hX, hbl, hlocks, hgv⟩ := id C0
  have hN := nw_start hts
  have hts : ∀ w ∈ BG, w.before _ s = true := fun w h => hts w (BG_lw h)
  have hown : s.vm.findClass RL = some m.cls := hown
  have hA : ∀ q : Nat, s.heap.size ≤ q → (fun q : Nat => s.heap.size ≤ q) q := fun _ h => h
  have hbA : ¬ (fun q : Nat => s.heap.size ≤ q) b := Nat.not_le.mpr hbl
  refine lv_aload_n hx hb dL_law_861 rfl (lv_at hl 2 rfl) ?_
  refine lv_aload_n hx hb dL_law_862 rfl (lv_at hl 3 rfl) ?_
  refine lv_iload_n hx hb dL_law_863 rfl (lv_at hl 0 rfl) ?_
  refine lv_iconst (v := 1) hx hb dL_law_864 (by decide) ?_
  refine lv_iadd hx hb dL_law_865 ?_
  refine hx_top (y := 1) (by decide) ?_
  refine va_sld hx hb hX hbl hbA hS (show vp_in 1 5 by unfold vp_in; decide) dL_law_866 ?_
  refine hx_top (y := (xs 1)) rfl ?_
  refine lv_aload_n hx hb dL_law_867 rfl (lv_at hl 3 rfl) ?_
  refine lv_iload_n hx hb dL_law_868 rfl (lv_at hl 0 rfl) ?_
  refine lv_iconst (v := 2) hx hb dL_law_869 (by decide) ?_
  refine lv_iadd hx hb dL_law_870 ?_
  refine hx_top (y := 2) (by decide) ?_
  refine va_sld hx hb hX hbl hbA hS (show vp_in 2 5 by unfold vp_in; decide) dL_law_871 ?_
  refine hx_top (y := (xs 2)) rfl ?_
  have hPc := hP.sub (ws' := [(x0, .inr (7, [.ref xq_1, .ref xq_20, .ref xq_24, .ref xq_32, .ref xq_36, .ref xq_48])), (xq_48, .inr (3, [.ref xa_50, .ref xa_52, .ref xa_54, .ref xa_56, .int 0, .int 0])), (xa_50, .inl (xk_51, 4, .inl (slF 1 0 4)))]) [0, 1, 2] rfl
  have hDc := hD.sub (ws' := [(x0, .inr (7, [.ref xq_1, .ref xq_20, .ref xq_24, .ref xq_32, .ref xq_36, .ref xq_48])), (xq_48, .inr (3, [.ref xa_50, .ref xa_52, .ref xa_54, .ref xa_56, .int 0, .int 0])), (xa_50, .inl (xk_51, 4, .inl (slF 1 0 4)))]) [0, 1, 2] (by decide) rfl
  have hKc := hK.sub (tys' := [(xk_51, .int)]) [0] rfl
  have hFc := va_free (wc := [(x0, .inr (7, [.ref xq_1, .ref xq_20, .ref xq_24, .ref xq_32, .ref xq_36, .ref xq_48])), (xq_48, .inr (3, [.ref xa_50, .ref xa_52, .ref xa_54, .ref xa_56, .int 0, .int 0])), (xa_50, .inl (xk_51, 4, .inl (slF 1 0 4)))]) hD hS hA [0, 1, 2] rfl
  refine va_calli (va_runV (As := [.int (xs 1), .int (xs 2)]) (rest := []) ⟨hx, hb, hml, hown, hts⟩ (x_size l dC dI H.size x0 (.ref xq_1) (.ref xq_20) (.ref xq_24) (.ref xq_32) (.ref xq_36) xq_48 xa_50 (.ref xa_52) (.ref xa_54) (.ref xa_56) xk_51 (xs 1) (xs 2)) (cwV 2 hts (gV mw_3_105 mw_3_106 mw_3_107 mw_1_1 mw_3_108) rfl rfl rfl (by decide +kernel) ⟨Nat.le_of_ble_eq_true rfl, Nat.le_of_ble_eq_true rfl⟩) ⟨pcW_blind, va_recv hKc hPc (ci := 7) (q0 := 0) rfl rfl, pcW_at hPc hKc hDc hN⟩ rfl rfl hl.1 rfl (lv_room (Nat.le_of_ble_eq_true rfl)) dL_law_872 ⟨Nat.le_of_ble_eq_true rfl, Nat.le_of_ble_eq_true rfl⟩) hS (fun q _ h => hFc q h) hFc (fun r_1 u t H1 locs ht hvm hw_1 hB hz1 hk1 hS => ?_)
  obtain ⟨hP, hD⟩ := va_join (wr := [(m0, .inr (8, [.ref ma_1, .ref ma_3, .ref ma_5, .ref ma_7, .int 0, .ref ma_9, .ref ma_11, .ref ma_13, .ref ma_15, .ref ma_17, .ref ma_19, .int 0, .ref ma_21, .ref ma_23, .ref ma_25, .ref ma_27, .ref ma_29, .ref ma_31, .int 0, .int 0, .ref ma_33, .int 0, .int 0, .ref ma_35, .ref ma_37, .int 0, .ref ma_39, .ref ma_41, .int 0, .ref ma_43, .ref ma_45, .int 0, .ref ma_47, .ref ma_49, .int 0])), (ma_47, .inl (mk_48, 4, .inl (slF 1 0 4)))]) (w1 := []) hP hD [0, 1, 2] [3, 4] rfl rfl (by decide) (by decide) hk1 hFc nilP nilD
  rw [List.append_nil] at hP hD
  clear hz1 hk1 hPc hDc hKc hFc
  generalize H1 = H at hP hS ⊢
  have hK : va_K (dC, dI) vwCl [(xk_51, .int), (mk_48, .int)] s := hK
  have hP : va_P (dC, dI) vwCl [(m0, .inr (8, [.ref ma_1, .ref ma_3, .ref ma_5, .ref ma_7, .int 0, .ref ma_9, .ref ma_11, .ref ma_13, .ref ma_15, .ref ma_17, .ref ma_19, .int 0, .ref ma_21, .ref ma_23, .ref ma_25, .ref ma_27, .ref ma_29, .ref ma_31, .int 0, .int 0, .ref ma_33, .int 0, .int 0, .ref ma_35, .ref ma_37, .int 0, .ref ma_39, .ref ma_41, .int 0, .ref ma_43, .ref ma_45, .int 0, .ref ma_47, .ref ma_49, .int 0])), (ma_47, .inl (mk_48, 4, .inl (slF 1 0 4)))] H := hP
  have hD : va_D (fun q : Nat => s.heap.size ≤ q) [(m0, .inr (8, [.ref ma_1, .ref ma_3, .ref ma_5, .ref ma_7, .int 0, .ref ma_9, .ref ma_11, .ref ma_13, .ref ma_15, .ref ma_17, .ref ma_19, .int 0, .ref ma_21, .ref ma_23, .ref ma_25, .ref ma_27, .ref ma_29, .ref ma_31, .int 0, .int 0, .ref ma_33, .int 0, .int 0, .ref ma_35, .ref ma_37, .int 0, .ref ma_39, .ref ma_41, .int 0, .ref ma_43, .ref ma_45, .int 0, .ref ma_47, .ref ma_49, .int 0])), (ma_47, .inl (mk_48, 4, .inl (slF 1 0 4)))] := hD
  refine lv_aload_n hx hb dL_law_875 rfl (lv_at hl 1 rfl) ?_
  refine lv_aload_n hx hb dL_law_876 rfl (lv_at hl 3 rfl) ?_
  refine lv_iload_n hx hb dL_law_877 rfl (lv_at hl 0 rfl) ?_
  refine lv_iconst (v := 1) hx hb dL_law_878 (by decide) ?_
  refine lv_iadd hx hb dL_law_879 ?_
  refine hx_top (y := 1) (by decide) ?_
  refine va_sld hx hb hX hbl hbA hS (show vp_in 1 5 by unfold vp_in; decide) dL_law_880 ?_
  refine hx_top (y := (xs 1)) rfl ?_
  refine lv_aload_n hx hb dL_law_881 rfl (lv_at hl 3 rfl) ?_
  refine lv_iload_n hx hb dL_law_882 rfl (lv_at hl 0 rfl) ?_
  refine lv_iconst (v := 2) hx hb dL_law_883 (by decide) ?_
  refine lv_iadd hx hb dL_law_884 ?_
  refine hx_top (y := 2) (by decide) ?_
  refine va_sld hx hb hX hbl hbA hS (show vp_in 2 5 by unfold vp_in; decide) dL_law_885 ?_
  refine hx_top (y := (xs 2)) rfl ?_
  have hPc := hP.sub (ws' := [(m0, .inr (8, [.ref ma_1, .ref ma_3, .ref ma_5, .ref ma_7, .int 0, .ref ma_9, .ref ma_11, .ref ma_13, .ref ma_15, .ref ma_17, .ref ma_19, .int 0, .ref ma_21, .ref ma_23, .ref ma_25, .ref ma_27, .ref ma_29, .ref ma_31, .int 0, .int 0, .ref ma_33, .int 0, .int 0, .ref ma_35, .ref ma_37, .int 0, .ref ma_39, .ref ma_41, .int 0, .ref ma_43, .ref ma_45, .int 0, .ref ma_47, .ref ma_49, .int 0])), (ma_47, .inl (mk_48, 4, .inl (slF 1 0 4)))]) [0, 1] rfl
  have hDc := hD.sub (ws' := [(m0, .inr (8, [.ref ma_1, .ref ma_3, .ref ma_5, .ref ma_7, .int 0, .ref ma_9, .ref ma_11, .ref ma_13, .ref ma_15, .ref ma_17, .ref ma_19, .int 0, .ref ma_21, .ref ma_23, .ref ma_25, .ref ma_27, .ref ma_29, .ref ma_31, .int 0, .int 0, .ref ma_33, .int 0, .int 0, .ref ma_35, .ref ma_37, .int 0, .ref ma_39, .ref ma_41, .int 0, .ref ma_43, .ref ma_45, .int 0, .ref ma_47, .ref ma_49, .int 0])), (ma_47, .inl (mk_48, 4, .inl (slF 1 0 4)))]) [0, 1] (by decide) rfl
  have hKc := hK.sub (tys' := [(mk_48, .int)]) [1] rfl
  have hFc := va_free (wc := [(m0, .inr (8, [.ref ma_1, .ref ma_3, .ref ma_5, .ref ma_7, .int 0, .ref ma_9, .ref ma_11, .ref ma_13, .ref ma_15, .ref ma_17, .ref ma_19, .int 0, .ref ma_21, .ref ma_23, .ref ma_25, .ref ma_27, .ref ma_29, .ref ma_31, .int 0, .int 0, .ref ma_33, .int 0, .int 0, .ref ma_35, .ref ma_37, .int 0, .ref ma_39, .ref ma_41, .int 0, .ref ma_43, .ref ma_45, .int 0, .ref ma_47, .ref ma_49, .int 0])), (ma_47, .inl (mk_48, 4, .inl (slF 1 0 4)))]) hD hS hA [0, 1] rfl
  refine va_calli (va_runV (As := [.int (xs 1), .int (xs 2)]) (rest := [.int r_1]) ⟨hx, hb, hml, hown, hts⟩ (m_size l dC dI H.size m0 (.ref ma_1) (.ref ma_3) (.ref ma_5) (.ref ma_7) (.int 0) (.ref ma_9) (.ref ma_11) (.ref ma_13) (.ref ma_15) (.ref ma_17) (.ref ma_19) (.int 0) (.ref ma_21) (.ref ma_23) (.ref ma_25) (.ref ma_27) (.ref ma_29) (.ref ma_31) (.int 0) (.int 0) (.ref ma_33) (.int 0) (.int 0) (.ref ma_35) (.ref ma_37) (.int 0) (.ref ma_39) (.ref ma_41) (.int 0) (.ref ma_43) (.ref ma_45) ma_47 (.ref ma_49) mk_48 (xs 1) (xs 2)) (cwV 2 hts (gV mw_5_14 mw_5_15 mw_5_16 mw_1_9 mw_5_17) rfl rfl rfl (by decide +kernel) ⟨Nat.le_of_ble_eq_true rfl, Nat.le_of_ble_eq_true rfl⟩) ⟨pcW_blind, va_recv hKc hPc (ci := 8) (q0 := 0) rfl rfl, pcW_at hPc hKc hDc hN⟩ rfl rfl hl.1 rfl (lv_room (Nat.le_of_ble_eq_true rfl)) dL_law_886 ⟨Nat.le_of_ble_eq_true rfl, Nat.le_of_ble_eq_true rfl⟩) hS (fun q _ h => hFc q h) hFc (fun r_2 u t H1 locs ht hvm hw_2 hB hz1 hk1 hS => ?_)
  obtain ⟨hP, hD⟩ := va_join (wr := []) (w1 := []) hP hD [0, 1] [] rfl rfl (by decide) (by decide) hk1 hFc nilP nilD
  rw [List.append_nil] at hP hD
  clear hz1 hk1 hPc hDc hKc hFc
  generalize H1 = H at hP hS ⊢
  have hK : va_K (dC, dI) vwCl [(xk_51, .int), (mk_48, .int)] s := hK
  have hP : va_P (dC, dI) vwCl [] H := hP
  have hD : va_D (fun q : Nat => s.heap.size ≤ q) [] := hD
  refine lv_icmp_eq (tgt := 983) hx hb dL_law_889 (by decide) (fun _ => ?_) (fun h => absurd (hw_1.trans hw_2.symm) h)
  exact law_end l C0 hS ls (lv_sub hl [0, 3] rfl)
set_option maxHeartbeats 4000000 in
set_option maxRecDepth 100000 in
theorem lc_24 {p : Program} {e : Env} {s : State} {m : MethodId} {below : List Frame} {meth : Method} {c : Code} (l : Launch) {b : Nat} {xs : Nat → Int32} {dC : Nat → ClassId} {dI : Nat → Nat → Nat} {x0 : Nat} {xq_1 : Nat} {xq_20 : Nat} {xq_24 : Nat} {xq_32 : Nat} {xq_36 : Nat} {xq_48 : Nat} {xa_50 : Nat} {xa_52 : Nat} {xa_54 : Nat} {xa_56 : Nat} {xk_51 : ClassId} {m0 : Nat} {ma_1 : Nat} {ma_3 : Nat} {ma_5 : Nat} {ma_7 : Nat} {ma_9 : Nat} {ma_11 : Nat} {ma_13 : Nat} {ma_15 : Nat} {ma_17 : Nat} {ma_19 : Nat} {ma_21 : Nat} {ma_23 : Nat} {ma_25 : Nat} {ma_27 : Nat} {ma_29 : Nat} {ma_31 : Nat} {ma_33 : Nat} {ma_35 : Nat} {ma_37 : Nat} {ma_39 : Nat} {ma_41 : Nat} {ma_43 : Nat} {ma_45 : Nat} {ma_47 : Nat} {ma_49 : Nat} {mk_48 : ClassId} (C0 : lw_At p s m meth c b 5 xs) {H : Heap} {locs : List Loc} (hK : va_K (dC, dI) vwCl [(xk_51, .int), (mk_48, .int)] s) (hP : va_P (dC, dI) vwCl [(x0, .inr (7, [.ref xq_1, .ref xq_20, .ref xq_24, .ref xq_32, .ref xq_36, .ref xq_48])), (xq_48, .inr (3, [.ref xa_50, .ref xa_52, .ref xa_54, .ref xa_56, .int 0, .int 0])), (xa_50, .inl (xk_51, 4, .inl (slF 1 0 4))), (m0, .inr (8, [.ref ma_1, .ref ma_3, .ref ma_5, .ref ma_7, .int 0, .ref ma_9, .ref ma_11, .ref ma_13, .ref ma_15, .ref ma_17, .ref ma_19, .int 0, .ref ma_21, .ref ma_23, .ref ma_25, .ref ma_27, .ref ma_29, .ref ma_31, .int 0, .int 0, .ref ma_33, .int 0, .int 0, .ref ma_35, .ref ma_37, .int 0, .ref ma_39, .ref ma_41, .int 0, .ref ma_43, .ref ma_45, .int 0, .ref ma_47, .ref ma_49, .int 0])), (ma_47, .inl (mk_48, 4, .inl (slF 1 0 4)))] H) (hD : va_D (fun q : Nat => s.heap.size ≤ q) [(x0, .inr (7, [.ref xq_1, .ref xq_20, .ref xq_24, .ref xq_32, .ref xq_36, .ref xq_48])), (xq_48, .inr (3, [.ref xa_50, .ref xa_52, .ref xa_54, .ref xa_56, .int 0, .int 0])), (xa_50, .inl (xk_51, 4, .inl (slF 1 0 4))), (m0, .inr (8, [.ref ma_1, .ref ma_3, .ref ma_5, .ref ma_7, .int 0, .ref ma_9, .ref ma_11, .ref ma_13, .ref ma_15, .ref ma_17, .ref ma_19, .int 0, .ref ma_21, .ref ma_23, .ref ma_25, .ref ma_27, .ref ma_29, .ref ma_31, .int 0, .int 0, .ref ma_33, .int 0, .int 0, .ref ma_35, .ref ma_37, .int 0, .ref ma_39, .ref ma_41, .int 0, .ref ma_43, .ref ma_45, .int 0, .ref ma_47, .ref ma_49, .int 0])), (ma_47, .inl (mk_48, 4, .inl (slF 1 0 4)))]) (hS : va_S (fun q : Nat => s.heap.size ≤ q) s.heap H locs) (ls : Array Slot) (hl : lv_has ls 4 [(3, .int 0), (2, .ref m0), (1, .ref x0), (0, .ref b)]) : W p l e room_1 s m #[Value.ref b] below meth c H locs 56 3153 (lw_Z below #[Value.ref b] s) (F0 m 894 ls []) := by
  obtain ⟨hx, hb, hr, hml, hown, hts, hX, hbl, hlocks, hgv⟩ := id C0
  have hN := nw_start hts
  have hts : ∀ w ∈ BG, w.before _ s = true := fun w h => hts w (BG_lw h)
  have hown : s.vm.findClass RL = some m.cls := hown
  have hA : ∀ q : Nat, s.heap.size ≤ q → (fun q : Nat => s.heap.size ≤ q) q := fun _ h => h
  have hbA : ¬ (fun q : Nat => s.heap.size ≤ q) b := Nat.not_le.mpr hbl
  refine lv_aload_n hx hb dL_law_894 rfl (lv_at hl 2 rfl) ?_
  refine lv_aload_n hx hb dL_law_895 rfl (lv_at hl 3 rfl) ?_
  refine lv_iload_n hx hb dL_law_896 rfl (lv_at hl 0 rfl) ?_
  refine lv_iconst (v := 1) hx hb dL_law_897 (by decide) ?_
  refine lv_iadd hx hb dL_law_898 ?_
  refine hx_top (y := 1) (by decide) ?_
  refine va_sld hx hb hX hbl hbA hS (show vp_in 1 5 by unfold vp_in; decide) dL_law_899 ?_
  refine hx_top (y := (xs 1)) rfl ?_
  refine lv_aload_n hx hb dL_law_900 rfl (lv_at hl 3 rfl) ?_
  refine lv_iload_n hx hb dL_law_901 rfl (lv_at hl 0 rfl) ?_
  refine lv_iconst (v := 2) hx hb dL_law_902 (by decide) ?_
  refine lv_iadd hx hb dL_law_903 ?_
  refine hx_top (y := 2) (by decide) ?_
  refine va_sld hx hb hX hbl hbA hS (show vp_in 2 5 by unfold vp_in; decide) dL_law_904 ?_
  refine hx_top (y := (xs 2)) rfl ?_
  have hPc := hP.sub (ws' := [(x0, .inr (7, [.ref xq_1, .ref xq_20, .ref xq_24, .ref xq_32, .ref xq_36, .ref xq_48])), (xq_48, .inr (3, [.ref xa_50, .ref xa_52, .ref xa_54, .ref xa_56, .int 0, .int 0])), (xa_50, .inl (xk_51, 4, .inl (slF 1 0 4)))]) [0, 1, 2] rfl
  have hDc := hD.sub (ws' := [(x0, .inr (7, [.ref xq_1, .ref xq_20, .ref xq_24, .ref xq_32, .ref xq_36, .ref xq_48])), (xq_48, .inr (3, [.ref xa_50, .ref xa_52, .ref xa_54, .ref xa_56, .int 0, .int 0])), (xa_50, .inl (xk_51, 4, .inl (slF 1 0 4)))]) [0, 1, 2] (by decide) rfl
  have hKc := hK.sub (tys' := [(xk_51, .int)]) [0] rfl
  have hFc := va_free (wc := [(x0, .inr (7, [.ref xq_1, .ref xq_20, .ref xq_24, .ref xq_32, .ref xq_36, .ref xq_48])), (xq_48, .inr (3, [.ref xa_50, .ref xa_52, .ref xa_54, .ref xa_56, .int 0, .int 0])), (xa_50, .inl (xk_51, 4, .inl (slF 1 0 4)))]) hD hS hA [0, 1, 2] rfl
  refine va_calli (va_runV (As := [.int (xs 1), .int (xs 2)]) (rest := []) ⟨hx, hb, hml, hown, hts⟩ (x_hits l dC dI H.size x0 (.ref xq_1) (.ref xq_20) (.ref xq_24) (.ref xq_32) (.ref xq_36) xq_48 xa_50 (.ref xa_52) (.ref xa_54) (.ref xa_56) xk_51 (xs 1) (xs 2)) (cwV 2 hts (gV mw_3_118 mw_3_119 mw_3_120 mw_1_1 mw_3_121) rfl rfl rfl (by decide +kernel) ⟨Nat.le_of_ble_eq_true rfl, Nat.le_of_ble_eq_true rfl⟩) ⟨pcW_blind, va_recv hKc hPc (ci := 7) (q0 := 0) rfl rfl, pcW_at hPc hKc hDc hN⟩ rfl rfl hl.1 rfl (lv_room (Nat.le_of_ble_eq_true rfl)) dL_law_905 ⟨Nat.le_of_ble_eq_true rfl, Nat.le_of_ble_eq_true rfl⟩) hS (fun q _ h => hFc q h) hFc (fun r_1 u t H1 locs ht hvm hw_1 hB hz1 hk1 hS => ?_)
  obtain ⟨hP, hD⟩ := va_join (wr := [(m0, .inr (8, [.ref ma_1, .ref ma_3, .ref ma_5, .ref ma_7, .int 0, .ref ma_9, .ref ma_11, .ref ma_13, .ref ma_15, .ref ma_17, .ref ma_19, .int 0, .ref ma_21, .ref ma_23, .ref ma_25, .ref ma_27, .ref ma_29, .ref ma_31, .int 0, .int 0, .ref ma_33, .int 0, .int 0, .ref ma_35, .ref ma_37, .int 0, .ref ma_39, .ref ma_41, .int 0, .ref ma_43, .ref ma_45, .int 0, .ref ma_47, .ref ma_49, .int 0])), (ma_47, .inl (mk_48, 4, .inl (slF 1 0 4)))]) (w1 := []) hP hD [0, 1, 2] [3, 4] rfl rfl (by decide) (by decide) hk1 hFc nilP nilD
  rw [List.append_nil] at hP hD
  clear hz1 hk1 hPc hDc hKc hFc
  generalize H1 = H at hP hS ⊢
  have hK : va_K (dC, dI) vwCl [(xk_51, .int), (mk_48, .int)] s := hK
  have hP : va_P (dC, dI) vwCl [(m0, .inr (8, [.ref ma_1, .ref ma_3, .ref ma_5, .ref ma_7, .int 0, .ref ma_9, .ref ma_11, .ref ma_13, .ref ma_15, .ref ma_17, .ref ma_19, .int 0, .ref ma_21, .ref ma_23, .ref ma_25, .ref ma_27, .ref ma_29, .ref ma_31, .int 0, .int 0, .ref ma_33, .int 0, .int 0, .ref ma_35, .ref ma_37, .int 0, .ref ma_39, .ref ma_41, .int 0, .ref ma_43, .ref ma_45, .int 0, .ref ma_47, .ref ma_49, .int 0])), (ma_47, .inl (mk_48, 4, .inl (slF 1 0 4)))] H := hP
  have hD : va_D (fun q : Nat => s.heap.size ≤ q) [(m0, .inr (8, [.ref ma_1, .ref ma_3, .ref ma_5, .ref ma_7, .int 0, .ref ma_9, .ref ma_11, .ref ma_13, .ref ma_15, .ref ma_17, .ref ma_19, .int 0, .ref ma_21, .ref ma_23, .ref ma_25, .ref ma_27, .ref ma_29, .ref ma_31, .int 0, .int 0, .ref ma_33, .int 0, .int 0, .ref ma_35, .ref ma_37, .int 0, .ref ma_39, .ref ma_41, .int 0, .ref ma_43, .ref ma_45, .int 0, .ref ma_47, .ref ma_49, .int 0])), (ma_47, .inl (mk_48, 4, .inl (slF 1 0 4)))] := hD
  refine lv_aload_n hx hb dL_law_908 rfl (lv_at hl 1 rfl) ?_
  refine lv_aload_n hx hb dL_law_909 rfl (lv_at hl 3 rfl) ?_
  refine lv_iload_n hx hb dL_law_910 rfl (lv_at hl 0 rfl) ?_
  refine lv_iconst (v := 1) hx hb dL_law_911 (by decide) ?_
  refine lv_iadd hx hb dL_law_912 ?_
  refine hx_top (y := 1) (by decide) ?_
  refine va_sld hx hb hX hbl hbA hS (show vp_in 1 5 by unfold vp_in; decide) dL_law_913 ?_
  refine hx_top (y := (xs 1)) rfl ?_
  refine lv_aload_n hx hb dL_law_914 rfl (lv_at hl 3 rfl) ?_
  refine lv_iload_n hx hb dL_law_915 rfl (lv_at hl 0 rfl) ?_
  refine lv_iconst (v := 2) hx hb dL_law_916 (by decide) ?_
  refine lv_iadd hx hb dL_law_917 ?_
  refine hx_top (y := 2) (by decide) ?_
  refine va_sld hx hb hX hbl hbA hS (show vp_in 2 5 by unfold vp_in; decide) dL_law_918 ?_
  refine hx_top (y := (xs 2)) rfl ?_
  have hPc := hP.sub (ws' := [(m0, .inr (8, [.ref ma_1, .ref ma_3, .ref ma_5, .ref ma_7, .int 0, .ref ma_9, .ref ma_11, .ref ma_13, .ref ma_15, .ref ma_17, .ref ma_19, .int 0, .ref ma_21, .ref ma_23, .ref ma_25, .ref ma_27, .ref ma_29, .ref ma_31, .int 0, .int 0, .ref ma_33, .int 0, .int 0, .ref ma_35, .ref ma_37, .int 0, .ref ma_39, .ref ma_41, .int 0, .ref ma_43, .ref ma_45, .int 0, .ref ma_47, .ref ma_49, .int 0])), (ma_47, .inl (mk_48, 4, .inl (slF 1 0 4)))]) [0, 1] rfl
  have hDc := hD.sub (ws' := [(m0, .inr (8, [.ref ma_1, .ref ma_3, .ref ma_5, .ref ma_7, .int 0, .ref ma_9, .ref ma_11, .ref ma_13, .ref ma_15, .ref ma_17, .ref ma_19, .int 0, .ref ma_21, .ref ma_23, .ref ma_25, .ref ma_27, .ref ma_29, .ref ma_31, .int 0, .int 0, .ref ma_33, .int 0, .int 0, .ref ma_35, .ref ma_37, .int 0, .ref ma_39, .ref ma_41, .int 0, .ref ma_43, .ref ma_45, .int 0, .ref ma_47, .ref ma_49, .int 0])), (ma_47, .inl (mk_48, 4, .inl (slF 1 0 4)))]) [0, 1] (by decide) rfl
  have hKc := hK.sub (tys' := [(mk_48, .int)]) [1] rfl
  have hFc := va_free (wc := [(m0, .inr (8, [.ref ma_1, .ref ma_3, .ref ma_5, .ref ma_7, .int 0, .ref ma_9, .ref ma_11, .ref ma_13, .ref ma_15, .ref ma_17, .ref ma_19, .int 0, .ref ma_21, .ref ma_23, .ref ma_25, .ref ma_27, .ref ma_29, .ref ma_31, .int 0, .int 0, .ref ma_33, .int 0, .int 0, .ref ma_35, .ref ma_37, .int 0, .ref ma_39, .ref ma_41, .int 0, .ref ma_43, .ref ma_45, .int 0, .ref ma_47, .ref ma_49, .int 0])), (ma_47, .inl (mk_48, 4, .inl (slF 1 0 4)))]) hD hS hA [0, 1] rfl
  refine va_calli (va_runV (As := [.int (xs 1), .int (xs 2)]) (rest := [.int r_1]) ⟨hx, hb, hml, hown, hts⟩ (m_hits l dC dI H.size m0 (.ref ma_1) (.ref ma_3) (.ref ma_5) (.ref ma_7) (.int 0) (.ref ma_9) (.ref ma_11) (.ref ma_13) (.ref ma_15) (.ref ma_17) (.ref ma_19) (.int 0) (.ref ma_21) (.ref ma_23) (.ref ma_25) (.ref ma_27) (.ref ma_29) (.ref ma_31) (.int 0) (.int 0) (.ref ma_33) (.int 0) (.int 0) (.ref ma_35) (.ref ma_37) (.int 0) (.ref ma_39) (.ref ma_41) (.int 0) (.ref ma_43) (.ref ma_45) ma_47 (.ref ma_49) mk_48 (xs 1) (xs 2)) (cwV 2 hts (gV mw_5_19 mw_5_20 mw_5_21 mw_1_9 mw_5_22) rfl rfl rfl (by decide +kernel) ⟨Nat.le_of_ble_eq_true rfl, Nat.le_of_ble_eq_true rfl⟩) ⟨pcW_blind, va_recv hKc hPc (ci := 8) (q0 := 0) rfl rfl, pcW_at hPc hKc hDc hN⟩ rfl rfl hl.1 rfl (lv_room (Nat.le_of_ble_eq_true rfl)) dL_law_919 ⟨Nat.le_of_ble_eq_true rfl, Nat.le_of_ble_eq_true rfl⟩) hS (fun q _ h => hFc q h) hFc (fun r_2 u t H1 locs ht hvm hw_2 hB hz1 hk1 hS => ?_)
  obtain ⟨hP, hD⟩ := va_join (wr := []) (w1 := []) hP hD [0, 1] [] rfl rfl (by decide) (by decide) hk1 hFc nilP nilD
  rw [List.append_nil] at hP hD
  clear hz1 hk1 hPc hDc hKc hFc
  generalize H1 = H at hP hS ⊢
  have hK : va_K (dC, dI) vwCl [(xk_51, .int), (mk_48, .int)] s := hK
  have hP : va_P (dC, dI) vwCl [] H := hP
  have hD : va_D (fun q : Nat => s.heap.size ≤ q) [] := hD
  refine lv_icmp_eq (tgt := 983) hx hb dL_law_922 (by decide) (fun _ => ?_) (fun h => absurd (hw_1.trans hw_2.symm) h)
  exact law_end l C0 hS ls (lv_sub hl [0, 3] rfl)
set_option maxHeartbeats 4000000 in
set_option maxRecDepth 100000 in
theorem lc_25 {p : Program} {e : Env} {s : State} {m : MethodId} {below : List Frame} {meth : Method} {c : Code} (l : Launch) {b : Nat} {xs : Nat → Int32} {dC : Nat → ClassId} {dI : Nat → Nat → Nat} {x0 : Nat} {xq_1 : Nat} {xq_20 : Nat} {xq_24 : Nat} {xq_32 : Nat} {xq_36 : Nat} {xq_48 : Nat} {xa_50 : Nat} {xa_52 : Nat} {xa_54 : Nat} {xa_56 : Nat} {m0 : Nat} {ma_1 : Nat} {ma_3 : Nat} {ma_5 : Nat} {ma_7 : Nat} {ma_9 : Nat} {ma_11 : Nat} {ma_13 : Nat} {ma_15 : Nat} {ma_17 : Nat} {ma_19 : Nat} {ma_21 : Nat} {ma_23 : Nat} {ma_25 : Nat} {ma_27 : Nat} {ma_29 : Nat} {ma_31 : Nat} {ma_33 : Nat} {ma_35 : Nat} {ma_37 : Nat} {ma_39 : Nat} {ma_41 : Nat} {ma_43 : Nat} {ma_45 : Nat} {ma_47 : Nat} {ma_49 : Nat} (C0 : lw_At p s m meth c b 5 xs) {H : Heap} {locs : List Loc} (hK : va_K (dC, dI) vwCl [] s) (hP : va_P (dC, dI) vwCl [(x0, .inr (7, [.ref xq_1, .ref xq_20, .ref xq_24, .ref xq_32, .ref xq_36, .ref xq_48])), (xq_48, .inr (3, [.ref xa_50, .ref xa_52, .ref xa_54, .ref xa_56, .int 0, .int 0])), (m0, .inr (8, [.ref ma_1, .ref ma_3, .ref ma_5, .ref ma_7, .int 0, .ref ma_9, .ref ma_11, .ref ma_13, .ref ma_15, .ref ma_17, .ref ma_19, .int 0, .ref ma_21, .ref ma_23, .ref ma_25, .ref ma_27, .ref ma_29, .ref ma_31, .int 0, .int 0, .ref ma_33, .int 0, .int 0, .ref ma_35, .ref ma_37, .int 0, .ref ma_39, .ref ma_41, .int 0, .ref ma_43, .ref ma_45, .int 0, .ref ma_47, .ref ma_49, .int 0]))] H) (hD : va_D (fun q : Nat => s.heap.size ≤ q) [(x0, .inr (7, [.ref xq_1, .ref xq_20, .ref xq_24, .ref xq_32, .ref xq_36, .ref xq_48])), (xq_48, .inr (3, [.ref xa_50, .ref xa_52, .ref xa_54, .ref xa_56, .int 0, .int 0])), (m0, .inr (8, [.ref ma_1, .ref ma_3, .ref ma_5, .ref ma_7, .int 0, .ref ma_9, .ref ma_11, .ref ma_13, .ref ma_15, .ref ma_17, .ref ma_19, .int 0, .ref ma_21, .ref ma_23, .ref ma_25, .ref ma_27, .ref ma_29, .ref ma_31, .int 0, .int 0, .ref ma_33, .int 0, .int 0, .ref ma_35, .ref ma_37, .int 0, .ref ma_39, .ref ma_41, .int 0, .ref ma_43, .ref ma_45, .int 0, .ref ma_47, .ref ma_49, .int 0]))]) (hS : va_S (fun q : Nat => s.heap.size ≤ q) s.heap H locs) (ls : Array Slot) (hl : lv_has ls 4 [(3, .int 0), (2, .ref m0), (1, .ref x0), (0, .ref b)]) : W p l e room_1 s m #[Value.ref b] below meth c H locs 56 3153 (lw_Z below #[Value.ref b] s) (F0 m 927 ls []) := by
  obtain ⟨hx, hb, hr, hml, hown, hts, hX, hbl, hlocks, hgv⟩ := id C0
  have hN := nw_start hts
  have hts : ∀ w ∈ BG, w.before _ s = true := fun w h => hts w (BG_lw h)
  have hown : s.vm.findClass RL = some m.cls := hown
  have hA : ∀ q : Nat, s.heap.size ≤ q → (fun q : Nat => s.heap.size ≤ q) q := fun _ h => h
  have hbA : ¬ (fun q : Nat => s.heap.size ≤ q) b := Nat.not_le.mpr hbl
  refine lv_aload_n hx hb dL_law_927 rfl (lv_at hl 2 rfl) ?_
  refine lv_aload_n hx hb dL_law_928 rfl (lv_at hl 3 rfl) ?_
  refine lv_iload_n hx hb dL_law_929 rfl (lv_at hl 0 rfl) ?_
  refine lv_iconst (v := 1) hx hb dL_law_930 (by decide) ?_
  refine lv_iadd hx hb dL_law_931 ?_
  refine hx_top (y := 1) (by decide) ?_
  refine va_sld hx hb hX hbl hbA hS (show vp_in 1 5 by unfold vp_in; decide) dL_law_932 ?_
  refine hx_top (y := (xs 1)) rfl ?_
  refine lv_aload_n hx hb dL_law_933 rfl (lv_at hl 3 rfl) ?_
  refine lv_iload_n hx hb dL_law_934 rfl (lv_at hl 0 rfl) ?_
  refine lv_iconst (v := 2) hx hb dL_law_935 (by decide) ?_
  refine lv_iadd hx hb dL_law_936 ?_
  refine hx_top (y := 2) (by decide) ?_
  refine va_sld hx hb hX hbl hbA hS (show vp_in 2 5 by unfold vp_in; decide) dL_law_937 ?_
  refine hx_top (y := (xs 2)) rfl ?_
  have hPc := hP.sub (ws' := [(x0, .inr (7, [.ref xq_1, .ref xq_20, .ref xq_24, .ref xq_32, .ref xq_36, .ref xq_48])), (xq_48, .inr (3, [.ref xa_50, .ref xa_52, .ref xa_54, .ref xa_56, .int 0, .int 0]))]) [0, 1] rfl
  have hDc := hD.sub (ws' := [(x0, .inr (7, [.ref xq_1, .ref xq_20, .ref xq_24, .ref xq_32, .ref xq_36, .ref xq_48])), (xq_48, .inr (3, [.ref xa_50, .ref xa_52, .ref xa_54, .ref xa_56, .int 0, .int 0]))]) [0, 1] (by decide) rfl
  have hKc := hK.sub (tys' := []) [] rfl
  have hFc := va_free (wc := [(x0, .inr (7, [.ref xq_1, .ref xq_20, .ref xq_24, .ref xq_32, .ref xq_36, .ref xq_48])), (xq_48, .inr (3, [.ref xa_50, .ref xa_52, .ref xa_54, .ref xa_56, .int 0, .int 0]))]) hD hS hA [0, 1] rfl
  refine va_calli (va_runV (As := [.int (xs 1), .int (xs 2)]) (rest := []) ⟨hx, hb, hml, hown, hts⟩ (x_need l dC dI H.size x0 (.ref xq_1) (.ref xq_20) (.ref xq_24) (.ref xq_32) (.ref xq_36) xq_48 (.ref xa_50) (.ref xa_52) (.ref xa_54) (.ref xa_56) (xs 1) (xs 2)) (cwV 2 hts (gV mw_3_157 mw_3_158 mw_3_159 mw_1_1 mw_3_160) rfl rfl rfl (by decide +kernel) ⟨Nat.le_of_ble_eq_true rfl, Nat.le_of_ble_eq_true rfl⟩) ⟨pcW_blind, va_recv hKc hPc (ci := 7) (q0 := 0) rfl rfl, pcW_at hPc hKc hDc hN⟩ rfl rfl hl.1 rfl (lv_room (Nat.le_of_ble_eq_true rfl)) dL_law_938 ⟨Nat.le_of_ble_eq_true rfl, Nat.le_of_ble_eq_true rfl⟩) hS (fun q _ h => hFc q h) hFc (fun r_1 u t H1 locs ht hvm hw_1 hB hz1 hk1 hS => ?_)
  obtain ⟨hP, hD⟩ := va_join (wr := [(m0, .inr (8, [.ref ma_1, .ref ma_3, .ref ma_5, .ref ma_7, .int 0, .ref ma_9, .ref ma_11, .ref ma_13, .ref ma_15, .ref ma_17, .ref ma_19, .int 0, .ref ma_21, .ref ma_23, .ref ma_25, .ref ma_27, .ref ma_29, .ref ma_31, .int 0, .int 0, .ref ma_33, .int 0, .int 0, .ref ma_35, .ref ma_37, .int 0, .ref ma_39, .ref ma_41, .int 0, .ref ma_43, .ref ma_45, .int 0, .ref ma_47, .ref ma_49, .int 0]))]) (w1 := []) hP hD [0, 1] [2] rfl rfl (by decide) (by decide) hk1 hFc nilP nilD
  rw [List.append_nil] at hP hD
  clear hz1 hk1 hPc hDc hKc hFc
  generalize H1 = H at hP hS ⊢
  have hK : va_K (dC, dI) vwCl [] s := hK
  have hP : va_P (dC, dI) vwCl [(m0, .inr (8, [.ref ma_1, .ref ma_3, .ref ma_5, .ref ma_7, .int 0, .ref ma_9, .ref ma_11, .ref ma_13, .ref ma_15, .ref ma_17, .ref ma_19, .int 0, .ref ma_21, .ref ma_23, .ref ma_25, .ref ma_27, .ref ma_29, .ref ma_31, .int 0, .int 0, .ref ma_33, .int 0, .int 0, .ref ma_35, .ref ma_37, .int 0, .ref ma_39, .ref ma_41, .int 0, .ref ma_43, .ref ma_45, .int 0, .ref ma_47, .ref ma_49, .int 0]))] H := hP
  have hD : va_D (fun q : Nat => s.heap.size ≤ q) [(m0, .inr (8, [.ref ma_1, .ref ma_3, .ref ma_5, .ref ma_7, .int 0, .ref ma_9, .ref ma_11, .ref ma_13, .ref ma_15, .ref ma_17, .ref ma_19, .int 0, .ref ma_21, .ref ma_23, .ref ma_25, .ref ma_27, .ref ma_29, .ref ma_31, .int 0, .int 0, .ref ma_33, .int 0, .int 0, .ref ma_35, .ref ma_37, .int 0, .ref ma_39, .ref ma_41, .int 0, .ref ma_43, .ref ma_45, .int 0, .ref ma_47, .ref ma_49, .int 0]))] := hD
  refine lv_aload_n hx hb dL_law_941 rfl (lv_at hl 1 rfl) ?_
  refine lv_aload_n hx hb dL_law_942 rfl (lv_at hl 3 rfl) ?_
  refine lv_iload_n hx hb dL_law_943 rfl (lv_at hl 0 rfl) ?_
  refine lv_iconst (v := 1) hx hb dL_law_944 (by decide) ?_
  refine lv_iadd hx hb dL_law_945 ?_
  refine hx_top (y := 1) (by decide) ?_
  refine va_sld hx hb hX hbl hbA hS (show vp_in 1 5 by unfold vp_in; decide) dL_law_946 ?_
  refine hx_top (y := (xs 1)) rfl ?_
  refine lv_aload_n hx hb dL_law_947 rfl (lv_at hl 3 rfl) ?_
  refine lv_iload_n hx hb dL_law_948 rfl (lv_at hl 0 rfl) ?_
  refine lv_iconst (v := 2) hx hb dL_law_949 (by decide) ?_
  refine lv_iadd hx hb dL_law_950 ?_
  refine hx_top (y := 2) (by decide) ?_
  refine va_sld hx hb hX hbl hbA hS (show vp_in 2 5 by unfold vp_in; decide) dL_law_951 ?_
  refine hx_top (y := (xs 2)) rfl ?_
  have hPc := hP.sub (ws' := [(m0, .inr (8, [.ref ma_1, .ref ma_3, .ref ma_5, .ref ma_7, .int 0, .ref ma_9, .ref ma_11, .ref ma_13, .ref ma_15, .ref ma_17, .ref ma_19, .int 0, .ref ma_21, .ref ma_23, .ref ma_25, .ref ma_27, .ref ma_29, .ref ma_31, .int 0, .int 0, .ref ma_33, .int 0, .int 0, .ref ma_35, .ref ma_37, .int 0, .ref ma_39, .ref ma_41, .int 0, .ref ma_43, .ref ma_45, .int 0, .ref ma_47, .ref ma_49, .int 0]))]) [0] rfl
  have hDc := hD.sub (ws' := [(m0, .inr (8, [.ref ma_1, .ref ma_3, .ref ma_5, .ref ma_7, .int 0, .ref ma_9, .ref ma_11, .ref ma_13, .ref ma_15, .ref ma_17, .ref ma_19, .int 0, .ref ma_21, .ref ma_23, .ref ma_25, .ref ma_27, .ref ma_29, .ref ma_31, .int 0, .int 0, .ref ma_33, .int 0, .int 0, .ref ma_35, .ref ma_37, .int 0, .ref ma_39, .ref ma_41, .int 0, .ref ma_43, .ref ma_45, .int 0, .ref ma_47, .ref ma_49, .int 0]))]) [0] (by decide) rfl
  have hKc := hK.sub (tys' := []) [] rfl
  have hFc := va_free (wc := [(m0, .inr (8, [.ref ma_1, .ref ma_3, .ref ma_5, .ref ma_7, .int 0, .ref ma_9, .ref ma_11, .ref ma_13, .ref ma_15, .ref ma_17, .ref ma_19, .int 0, .ref ma_21, .ref ma_23, .ref ma_25, .ref ma_27, .ref ma_29, .ref ma_31, .int 0, .int 0, .ref ma_33, .int 0, .int 0, .ref ma_35, .ref ma_37, .int 0, .ref ma_39, .ref ma_41, .int 0, .ref ma_43, .ref ma_45, .int 0, .ref ma_47, .ref ma_49, .int 0]))]) hD hS hA [0] rfl
  refine va_calli (va_runV (As := [.int (xs 1), .int (xs 2)]) (rest := [.int r_1]) ⟨hx, hb, hml, hown, hts⟩ (m_need l dC dI H.size m0 (.ref ma_1) (.ref ma_3) (.ref ma_5) (.ref ma_7) (.int 0) (.ref ma_9) (.ref ma_11) (.ref ma_13) (.ref ma_15) (.ref ma_17) (.ref ma_19) (.int 0) (.ref ma_21) (.ref ma_23) (.ref ma_25) (.ref ma_27) (.ref ma_29) (.ref ma_31) (.int 0) (.int 0) (.ref ma_33) (.int 0) (.int 0) (.ref ma_35) (.ref ma_37) (.int 0) (.ref ma_39) (.ref ma_41) (.int 0) (.ref ma_43) (.ref ma_45) (.ref ma_47) (.ref ma_49) (xs 1) (xs 2)) (cwV 2 hts (gV mw_5_49 mw_5_50 mw_5_51 mw_1_9 mw_5_52) rfl rfl rfl (by decide +kernel) ⟨Nat.le_of_ble_eq_true rfl, Nat.le_of_ble_eq_true rfl⟩) ⟨pcW_blind, va_recv hKc hPc (ci := 8) (q0 := 0) rfl rfl, pcW_at hPc hKc hDc hN⟩ rfl rfl hl.1 rfl (lv_room (Nat.le_of_ble_eq_true rfl)) dL_law_952 ⟨Nat.le_of_ble_eq_true rfl, Nat.le_of_ble_eq_true rfl⟩) hS (fun q _ h => hFc q h) hFc (fun r_2 u t H1 locs ht hvm hw_2 hB hz1 hk1 hS => ?_)
  obtain ⟨hP, hD⟩ := va_join (wr := []) (w1 := []) hP hD [0] [] rfl rfl (by decide) (by decide) hk1 hFc nilP nilD
  rw [List.append_nil] at hP hD
  clear hz1 hk1 hPc hDc hKc hFc
  generalize H1 = H at hP hS ⊢
  have hK : va_K (dC, dI) vwCl [] s := hK
  have hP : va_P (dC, dI) vwCl [] H := hP
  have hD : va_D (fun q : Nat => s.heap.size ≤ q) [] := hD
  refine lv_icmp_eq (tgt := 983) hx hb dL_law_955 (by decide) (fun _ => ?_) (fun h => absurd (hw_1.trans hw_2.symm) h)
  exact law_end l C0 hS ls (lv_sub hl [0, 3] rfl)
set_option maxHeartbeats 4000000 in
set_option maxRecDepth 100000 in
theorem lc_26 {p : Program} {e : Env} {s : State} {m : MethodId} {below : List Frame} {meth : Method} {c : Code} (l : Launch) {b : Nat} {xs : Nat → Int32} {dC : Nat → ClassId} {dI : Nat → Nat → Nat} {x0 : Nat} {xq_1 : Nat} {xq_20 : Nat} {xq_24 : Nat} {xq_32 : Nat} {xq_36 : Nat} {xq_48 : Nat} {xa_3 : Nat} {xa_5 : Nat} {xa_7 : Nat} {xa_9 : Nat} {xa_11 : Nat} {xq_13 : Nat} {xa_22 : Nat} {xa_26 : Nat} {xa_28 : Nat} {xa_30 : Nat} {xk_27 : ClassId} {xa_50 : Nat} {xa_52 : Nat} {xa_54 : Nat} {xa_56 : Nat} {m0 : Nat} {ma_1 : Nat} {ma_3 : Nat} {ma_5 : Nat} {ma_7 : Nat} {ma_9 : Nat} {ma_11 : Nat} {ma_13 : Nat} {ma_15 : Nat} {ma_17 : Nat} {ma_19 : Nat} {ma_21 : Nat} {ma_23 : Nat} {ma_25 : Nat} {ma_27 : Nat} {ma_29 : Nat} {ma_31 : Nat} {ma_33 : Nat} {ma_35 : Nat} {ma_37 : Nat} {ma_39 : Nat} {ma_41 : Nat} {ma_43 : Nat} {ma_45 : Nat} {ma_47 : Nat} {ma_49 : Nat} {mk_24 : ClassId} (C0 : lw_At p s m meth c b 5 xs) {H : Heap} {locs : List Loc} (hK : va_K (dC, dI) vwCl [(xk_27, .int), (mk_24, .int)] s) (hP : va_P (dC, dI) vwCl [(x0, .inr (7, [.ref xq_1, .ref xq_20, .ref xq_24, .ref xq_32, .ref xq_36, .ref xq_48])), (xq_1, .inr (1, [.ref xa_3, .ref xa_5, .ref xa_7, .ref xa_9, .ref xa_11, .ref xq_13, .int 0, .int 0])), (xq_20, .inr (2, [.ref xa_22, .int 0])), (xq_24, .inr (0, [.ref xa_26, .ref xa_28, .ref xa_30])), (xa_26, .inl (xk_27, 8, .inl (fun _ => 0))), (xq_48, .inr (3, [.ref xa_50, .ref xa_52, .ref xa_54, .ref xa_56, .int 0, .int 0])), (m0, .inr (8, [.ref ma_1, .ref ma_3, .ref ma_5, .ref ma_7, .int 0, .ref ma_9, .ref ma_11, .ref ma_13, .ref ma_15, .ref ma_17, .ref ma_19, .int 0, .ref ma_21, .ref ma_23, .ref ma_25, .ref ma_27, .ref ma_29, .ref ma_31, .int 0, .int 0, .ref ma_33, .int 0, .int 0, .ref ma_35, .ref ma_37, .int 0, .ref ma_39, .ref ma_41, .int 0, .ref ma_43, .ref ma_45, .int 0, .ref ma_47, .ref ma_49, .int 0])), (ma_23, .inl (mk_24, 81, .inl (fun _ => 0)))] H) (hD : va_D (fun q : Nat => s.heap.size ≤ q) [(x0, .inr (7, [.ref xq_1, .ref xq_20, .ref xq_24, .ref xq_32, .ref xq_36, .ref xq_48])), (xq_1, .inr (1, [.ref xa_3, .ref xa_5, .ref xa_7, .ref xa_9, .ref xa_11, .ref xq_13, .int 0, .int 0])), (xq_20, .inr (2, [.ref xa_22, .int 0])), (xq_24, .inr (0, [.ref xa_26, .ref xa_28, .ref xa_30])), (xa_26, .inl (xk_27, 8, .inl (fun _ => 0))), (xq_48, .inr (3, [.ref xa_50, .ref xa_52, .ref xa_54, .ref xa_56, .int 0, .int 0])), (m0, .inr (8, [.ref ma_1, .ref ma_3, .ref ma_5, .ref ma_7, .int 0, .ref ma_9, .ref ma_11, .ref ma_13, .ref ma_15, .ref ma_17, .ref ma_19, .int 0, .ref ma_21, .ref ma_23, .ref ma_25, .ref ma_27, .ref ma_29, .ref ma_31, .int 0, .int 0, .ref ma_33, .int 0, .int 0, .ref ma_35, .ref ma_37, .int 0, .ref ma_39, .ref ma_41, .int 0, .ref ma_43, .ref ma_45, .int 0, .ref ma_47, .ref ma_49, .int 0])), (ma_23, .inl (mk_24, 81, .inl (fun _ => 0)))]) (hS : va_S (fun q : Nat => s.heap.size ≤ q) s.heap H locs) (ls : Array Slot) (hl : lv_has ls 4 [(3, .int 0), (2, .ref m0), (1, .ref x0), (0, .ref b)]) : W p l e room_1 s m #[Value.ref b] below meth c H locs 56 3153 (lw_Z below #[Value.ref b] s) (F0 m 960 ls []) := by
  obtain ⟨hx, hb, hr, hml, hown, hts, hX, hbl, hlocks, hgv⟩ := id C0
  have hN := nw_start hts
  have hts : ∀ w ∈ BG, w.before _ s = true := fun w h => hts w (BG_lw h)
  have hown : s.vm.findClass RL = some m.cls := hown
  have hA : ∀ q : Nat, s.heap.size ≤ q → (fun q : Nat => s.heap.size ≤ q) q := fun _ h => h
  have hbA : ¬ (fun q : Nat => s.heap.size ≤ q) b := Nat.not_le.mpr hbl
  refine lv_aload_n hx hb dL_law_960 rfl (lv_at hl 2 rfl) ?_
  refine lv_aload_n hx hb dL_law_961 rfl (lv_at hl 3 rfl) ?_
  refine lv_iload_n hx hb dL_law_962 rfl (lv_at hl 0 rfl) ?_
  refine lv_iconst (v := 1) hx hb dL_law_963 (by decide) ?_
  refine lv_iadd hx hb dL_law_964 ?_
  refine hx_top (y := 1) (by decide) ?_
  refine va_sld hx hb hX hbl hbA hS (show vp_in 1 5 by unfold vp_in; decide) dL_law_965 ?_
  refine hx_top (y := (xs 1)) rfl ?_
  have hPc := hP.sub (ws' := [(x0, .inr (7, [.ref xq_1, .ref xq_20, .ref xq_24, .ref xq_32, .ref xq_36, .ref xq_48])), (xq_1, .inr (1, [.ref xa_3, .ref xa_5, .ref xa_7, .ref xa_9, .ref xa_11, .ref xq_13, .int 0, .int 0])), (xq_20, .inr (2, [.ref xa_22, .int 0])), (xq_24, .inr (0, [.ref xa_26, .ref xa_28, .ref xa_30])), (xa_26, .inl (xk_27, 8, .inl (fun _ => 0))), (xq_48, .inr (3, [.ref xa_50, .ref xa_52, .ref xa_54, .ref xa_56, .int 0, .int 0]))]) [0, 1, 2, 3, 4, 5] rfl
  have hDc := hD.sub (ws' := [(x0, .inr (7, [.ref xq_1, .ref xq_20, .ref xq_24, .ref xq_32, .ref xq_36, .ref xq_48])), (xq_1, .inr (1, [.ref xa_3, .ref xa_5, .ref xa_7, .ref xa_9, .ref xa_11, .ref xq_13, .int 0, .int 0])), (xq_20, .inr (2, [.ref xa_22, .int 0])), (xq_24, .inr (0, [.ref xa_26, .ref xa_28, .ref xa_30])), (xa_26, .inl (xk_27, 8, .inl (fun _ => 0))), (xq_48, .inr (3, [.ref xa_50, .ref xa_52, .ref xa_54, .ref xa_56, .int 0, .int 0]))]) [0, 1, 2, 3, 4, 5] (by decide) rfl
  have hKc := hK.sub (tys' := [(xk_27, .int)]) [0] rfl
  refine va_calli (va_runV (As := [.int (xs 1)]) (rest := []) ⟨hx, hb, hml, hown, hts⟩ (x_told l dC dI H.size x0 xq_1 xq_20 xq_24 (.ref xq_32) (.ref xq_36) xq_48 (.ref xa_3) (.ref xa_5) (.ref xa_7) (.ref xa_9) (.ref xa_11) (.ref xq_13) (.int 0) (.ref xa_22) xa_26 (.ref xa_28) (.ref xa_30) xk_27 (.ref xa_50) (.ref xa_52) (.ref xa_54) (.ref xa_56) (xs 1)) (cwV 1 hts (gV mw_3_161 mw_3_162 mw_3_163 mw_1_1 mw_3_164) rfl rfl rfl (by decide +kernel) ⟨Nat.le_of_ble_eq_true rfl, Nat.le_of_ble_eq_true rfl⟩) ⟨pcW_blind, va_recv hKc hPc (ci := 7) (q0 := 0) rfl rfl, pcW_at hPc hKc hDc hN⟩ rfl rfl hl.1 rfl (lv_room (Nat.le_of_ble_eq_true rfl)) dL_law_966 ⟨Nat.le_of_ble_eq_true rfl, Nat.le_of_ble_eq_true rfl⟩) hS (fun q h1 h2 => absurd h2 (Nat.not_le.mpr h1)) (fun q h => hA q (Nat.le_trans hS.1 h)) (fun r_1 u t H1 locs ht hvm hw_1 hB hz1 hk1 hS => ?_)
  have hP := keepP hP hk1
  clear hz1 hk1 hB ht hvm hPc hDc hKc
  generalize H1 = H at hP hS ⊢
  refine lv_aload_n hx hb dL_law_969 rfl (lv_at hl 1 rfl) ?_
  refine lv_aload_n hx hb dL_law_970 rfl (lv_at hl 3 rfl) ?_
  refine lv_iload_n hx hb dL_law_971 rfl (lv_at hl 0 rfl) ?_
  refine lv_iconst (v := 1) hx hb dL_law_972 (by decide) ?_
  refine lv_iadd hx hb dL_law_973 ?_
  refine hx_top (y := 1) (by decide) ?_
  refine va_sld hx hb hX hbl hbA hS (show vp_in 1 5 by unfold vp_in; decide) dL_law_974 ?_
  refine hx_top (y := (xs 1)) rfl ?_
  have hPc := hP.sub (ws' := [(m0, .inr (8, [.ref ma_1, .ref ma_3, .ref ma_5, .ref ma_7, .int 0, .ref ma_9, .ref ma_11, .ref ma_13, .ref ma_15, .ref ma_17, .ref ma_19, .int 0, .ref ma_21, .ref ma_23, .ref ma_25, .ref ma_27, .ref ma_29, .ref ma_31, .int 0, .int 0, .ref ma_33, .int 0, .int 0, .ref ma_35, .ref ma_37, .int 0, .ref ma_39, .ref ma_41, .int 0, .ref ma_43, .ref ma_45, .int 0, .ref ma_47, .ref ma_49, .int 0])), (ma_23, .inl (mk_24, 81, .inl (fun _ => 0)))]) [6, 7] rfl
  have hDc := hD.sub (ws' := [(m0, .inr (8, [.ref ma_1, .ref ma_3, .ref ma_5, .ref ma_7, .int 0, .ref ma_9, .ref ma_11, .ref ma_13, .ref ma_15, .ref ma_17, .ref ma_19, .int 0, .ref ma_21, .ref ma_23, .ref ma_25, .ref ma_27, .ref ma_29, .ref ma_31, .int 0, .int 0, .ref ma_33, .int 0, .int 0, .ref ma_35, .ref ma_37, .int 0, .ref ma_39, .ref ma_41, .int 0, .ref ma_43, .ref ma_45, .int 0, .ref ma_47, .ref ma_49, .int 0])), (ma_23, .inl (mk_24, 81, .inl (fun _ => 0)))]) [6, 7] (by decide) rfl
  have hKc := hK.sub (tys' := [(mk_24, .int)]) [1] rfl
  refine va_calli (va_runV (As := [.int (xs 1)]) (rest := [.int r_1]) ⟨hx, hb, hml, hown, hts⟩ (m_told l dC dI H.size m0 (.ref ma_1) (.ref ma_3) (.ref ma_5) (.ref ma_7) (.ref ma_9) (.ref ma_11) (.ref ma_13) (.ref ma_15) (.ref ma_17) (.ref ma_19) (.int 0) (.ref ma_21) ma_23 (.ref ma_25) (.ref ma_27) (.ref ma_29) (.ref ma_31) (.int 0) (.int 0) (.ref ma_33) (.int 0) (.int 0) (.ref ma_35) (.ref ma_37) (.int 0) (.ref ma_39) (.ref ma_41) (.int 0) (.ref ma_43) (.ref ma_45) (.ref ma_47) (.ref ma_49) (.int 0) mk_24 (xs 1)) (cwV 1 hts (gV mw_5_54 mw_5_55 mw_5_56 mw_1_9 mw_5_57) rfl rfl rfl (by decide +kernel) ⟨Nat.le_of_ble_eq_true rfl, Nat.le_of_ble_eq_true rfl⟩) ⟨pcW_blind, va_recv hKc hPc (ci := 8) (q0 := 0) rfl rfl, pcW_at hPc hKc hDc hN⟩ rfl rfl hl.1 rfl (lv_room (Nat.le_of_ble_eq_true rfl)) dL_law_975 ⟨Nat.le_of_ble_eq_true rfl, Nat.le_of_ble_eq_true rfl⟩) hS (fun q h1 h2 => absurd h2 (Nat.not_le.mpr h1)) (fun q h => hA q (Nat.le_trans hS.1 h)) (fun r_2 u t H1 locs ht hvm hw_2 hB hz1 hk1 hS => ?_)
  have hP := keepP hP hk1
  clear hz1 hk1 hB ht hvm hPc hDc hKc
  generalize H1 = H at hP hS ⊢
  refine lv_icmp_eq (tgt := 983) hx hb dL_law_978 (by decide) (fun _ => ?_) (fun h => absurd (hw_1.trans hw_2.symm) h)
  exact law_end l C0 hS ls (lv_sub hl [0, 3] rfl)
