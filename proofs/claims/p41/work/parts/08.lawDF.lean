set_option maxRecDepth 100000 in
theorem zk_733L : zck 735 (cL_law.data.toList.drop 735) [(735, .aload_n 0, 1), (736, .iload 4, 2), (738, .iconst 1, 1), (739, .iadd, 1), (740, .iaload, 1), (741, .aload_n 0, 1), (742, .iload 4, 2), (744, .iconst 2, 1), (745, .iadd, 1), (746, .iaload, 1), (747, .aload_n 0, 1), (748, .iload 4, 2)] = true := by decide +kernel
theorem zr_733L : decode cL_law 735 = .ok (.aload_n 0, 1) ∧ decode cL_law 736 = .ok (.iload 4, 2) ∧ decode cL_law 738 = .ok (.iconst 1, 1) ∧ decode cL_law 739 = .ok (.iadd, 1) ∧ decode cL_law 740 = .ok (.iaload, 1) ∧ decode cL_law 741 = .ok (.aload_n 0, 1) ∧ decode cL_law 742 = .ok (.iload 4, 2) ∧ decode cL_law 744 = .ok (.iconst 2, 1) ∧ decode cL_law 745 = .ok (.iadd, 1) ∧ decode cL_law 746 = .ok (.iaload, 1) ∧ decode cL_law 747 = .ok (.aload_n 0, 1) ∧ decode cL_law 748 = .ok (.iload 4, 2) ∧ True := zj_of zk_733L
abbrev dL_law_735 := zr_733L.1
abbrev dL_law_736 := zr_733L.2.1
abbrev dL_law_738 := zr_733L.2.2.1
abbrev dL_law_739 := zr_733L.2.2.2.1
abbrev dL_law_740 := zr_733L.2.2.2.2.1
abbrev dL_law_741 := zr_733L.2.2.2.2.2.1
abbrev dL_law_742 := zr_733L.2.2.2.2.2.2.1
abbrev dL_law_744 := zr_733L.2.2.2.2.2.2.2.1
abbrev dL_law_745 := zr_733L.2.2.2.2.2.2.2.2.1
abbrev dL_law_746 := zr_733L.2.2.2.2.2.2.2.2.2.1
abbrev dL_law_747 := zr_733L.2.2.2.2.2.2.2.2.2.2.1
abbrev dL_law_748 := zr_733L.2.2.2.2.2.2.2.2.2.2.2.1
set_option maxRecDepth 100000 in
theorem zk_734L : zck 750 (cL_law.data.toList.drop 750) [(750, .iconst 3, 1), (751, .iadd, 1), (752, .iaload, 1), (753, .aload_n 0, 1), (754, .iload 4, 2), (756, .iconst 4, 1), (757, .iadd, 1), (758, .iaload, 1), (759, .invokevirtual 96, 3), (762, .pop, 1), (763, .goto 1073, 3), (766, .aload_n 1, 1)] = true := by decide +kernel
theorem zr_734L : decode cL_law 750 = .ok (.iconst 3, 1) ∧ decode cL_law 751 = .ok (.iadd, 1) ∧ decode cL_law 752 = .ok (.iaload, 1) ∧ decode cL_law 753 = .ok (.aload_n 0, 1) ∧ decode cL_law 754 = .ok (.iload 4, 2) ∧ decode cL_law 756 = .ok (.iconst 4, 1) ∧ decode cL_law 757 = .ok (.iadd, 1) ∧ decode cL_law 758 = .ok (.iaload, 1) ∧ decode cL_law 759 = .ok (.invokevirtual 96, 3) ∧ decode cL_law 762 = .ok (.pop, 1) ∧ decode cL_law 763 = .ok (.goto 1073, 3) ∧ decode cL_law 766 = .ok (.aload_n 1, 1) ∧ True := zj_of zk_734L
abbrev dL_law_750 := zr_734L.1
abbrev dL_law_751 := zr_734L.2.1
abbrev dL_law_752 := zr_734L.2.2.1
abbrev dL_law_753 := zr_734L.2.2.2.1
abbrev dL_law_754 := zr_734L.2.2.2.2.1
abbrev dL_law_756 := zr_734L.2.2.2.2.2.1
abbrev dL_law_757 := zr_734L.2.2.2.2.2.2.1
abbrev dL_law_758 := zr_734L.2.2.2.2.2.2.2.1
abbrev dL_law_759 := zr_734L.2.2.2.2.2.2.2.2.1
abbrev dL_law_762 := zr_734L.2.2.2.2.2.2.2.2.2.1
abbrev dL_law_763 := zr_734L.2.2.2.2.2.2.2.2.2.2.1
abbrev dL_law_766 := zr_734L.2.2.2.2.2.2.2.2.2.2.2.1
set_option maxRecDepth 100000 in
theorem zk_735L : zck 767 (cL_law.data.toList.drop 767) [(767, .aload_n 0, 1), (768, .iload 4, 2), (770, .iconst 1, 1), (771, .iadd, 1), (772, .iaload, 1), (773, .aload_n 0, 1), (774, .iload 4, 2), (776, .iconst 2, 1), (777, .iadd, 1), (778, .iaload, 1), (779, .aload_n 0, 1), (780, .iload 4, 2)] = true := by decide +kernel
theorem zr_735L : decode cL_law 767 = .ok (.aload_n 0, 1) ∧ decode cL_law 768 = .ok (.iload 4, 2) ∧ decode cL_law 770 = .ok (.iconst 1, 1) ∧ decode cL_law 771 = .ok (.iadd, 1) ∧ decode cL_law 772 = .ok (.iaload, 1) ∧ decode cL_law 773 = .ok (.aload_n 0, 1) ∧ decode cL_law 774 = .ok (.iload 4, 2) ∧ decode cL_law 776 = .ok (.iconst 2, 1) ∧ decode cL_law 777 = .ok (.iadd, 1) ∧ decode cL_law 778 = .ok (.iaload, 1) ∧ decode cL_law 779 = .ok (.aload_n 0, 1) ∧ decode cL_law 780 = .ok (.iload 4, 2) ∧ True := zj_of zk_735L
abbrev dL_law_767 := zr_735L.1
abbrev dL_law_768 := zr_735L.2.1
abbrev dL_law_770 := zr_735L.2.2.1
abbrev dL_law_771 := zr_735L.2.2.2.1
abbrev dL_law_772 := zr_735L.2.2.2.2.1
abbrev dL_law_773 := zr_735L.2.2.2.2.2.1
abbrev dL_law_774 := zr_735L.2.2.2.2.2.2.1
abbrev dL_law_776 := zr_735L.2.2.2.2.2.2.2.1
abbrev dL_law_777 := zr_735L.2.2.2.2.2.2.2.2.1
abbrev dL_law_778 := zr_735L.2.2.2.2.2.2.2.2.2.1
abbrev dL_law_779 := zr_735L.2.2.2.2.2.2.2.2.2.2.1
abbrev dL_law_780 := zr_735L.2.2.2.2.2.2.2.2.2.2.2.1
set_option maxRecDepth 100000 in
theorem zk_736L : zck 782 (cL_law.data.toList.drop 782) [(782, .iconst 3, 1), (783, .iadd, 1), (784, .iaload, 1), (785, .invokevirtual 97, 3), (788, .pop, 1), (789, .aload_n 2, 1), (790, .aload_n 0, 1), (791, .iload 4, 2), (793, .iconst 1, 1), (794, .iadd, 1), (795, .iaload, 1), (796, .aload_n 0, 1)] = true := by decide +kernel
theorem zr_736L : decode cL_law 782 = .ok (.iconst 3, 1) ∧ decode cL_law 783 = .ok (.iadd, 1) ∧ decode cL_law 784 = .ok (.iaload, 1) ∧ decode cL_law 785 = .ok (.invokevirtual 97, 3) ∧ decode cL_law 788 = .ok (.pop, 1) ∧ decode cL_law 789 = .ok (.aload_n 2, 1) ∧ decode cL_law 790 = .ok (.aload_n 0, 1) ∧ decode cL_law 791 = .ok (.iload 4, 2) ∧ decode cL_law 793 = .ok (.iconst 1, 1) ∧ decode cL_law 794 = .ok (.iadd, 1) ∧ decode cL_law 795 = .ok (.iaload, 1) ∧ decode cL_law 796 = .ok (.aload_n 0, 1) ∧ True := zj_of zk_736L
abbrev dL_law_782 := zr_736L.1
abbrev dL_law_783 := zr_736L.2.1
abbrev dL_law_784 := zr_736L.2.2.1
abbrev dL_law_785 := zr_736L.2.2.2.1
abbrev dL_law_788 := zr_736L.2.2.2.2.1
abbrev dL_law_789 := zr_736L.2.2.2.2.2.1
abbrev dL_law_790 := zr_736L.2.2.2.2.2.2.1
abbrev dL_law_791 := zr_736L.2.2.2.2.2.2.2.1
abbrev dL_law_793 := zr_736L.2.2.2.2.2.2.2.2.1
abbrev dL_law_794 := zr_736L.2.2.2.2.2.2.2.2.2.1
abbrev dL_law_795 := zr_736L.2.2.2.2.2.2.2.2.2.2.1
abbrev dL_law_796 := zr_736L.2.2.2.2.2.2.2.2.2.2.2.1
set_option maxRecDepth 100000 in
theorem zk_737L : zck 797 (cL_law.data.toList.drop 797) [(797, .iload 4, 2), (799, .iconst 2, 1), (800, .iadd, 1), (801, .iaload, 1), (802, .aload_n 0, 1), (803, .iload 4, 2), (805, .iconst 3, 1), (806, .iadd, 1), (807, .iaload, 1), (808, .invokevirtual 100, 3), (811, .pop, 1), (812, .goto 1024, 3)] = true := by decide +kernel
theorem zr_737L : decode cL_law 797 = .ok (.iload 4, 2) ∧ decode cL_law 799 = .ok (.iconst 2, 1) ∧ decode cL_law 800 = .ok (.iadd, 1) ∧ decode cL_law 801 = .ok (.iaload, 1) ∧ decode cL_law 802 = .ok (.aload_n 0, 1) ∧ decode cL_law 803 = .ok (.iload 4, 2) ∧ decode cL_law 805 = .ok (.iconst 3, 1) ∧ decode cL_law 806 = .ok (.iadd, 1) ∧ decode cL_law 807 = .ok (.iaload, 1) ∧ decode cL_law 808 = .ok (.invokevirtual 100, 3) ∧ decode cL_law 811 = .ok (.pop, 1) ∧ decode cL_law 812 = .ok (.goto 1024, 3) ∧ True := zj_of zk_737L
abbrev dL_law_797 := zr_737L.1
abbrev dL_law_799 := zr_737L.2.1
abbrev dL_law_800 := zr_737L.2.2.1
abbrev dL_law_801 := zr_737L.2.2.2.1
abbrev dL_law_802 := zr_737L.2.2.2.2.1
abbrev dL_law_803 := zr_737L.2.2.2.2.2.1
abbrev dL_law_805 := zr_737L.2.2.2.2.2.2.1
abbrev dL_law_806 := zr_737L.2.2.2.2.2.2.2.1
abbrev dL_law_807 := zr_737L.2.2.2.2.2.2.2.2.1
abbrev dL_law_808 := zr_737L.2.2.2.2.2.2.2.2.2.1
abbrev dL_law_811 := zr_737L.2.2.2.2.2.2.2.2.2.2.1
abbrev dL_law_812 := zr_737L.2.2.2.2.2.2.2.2.2.2.2.1
set_option maxRecDepth 100000 in
theorem zk_738L : zck 815 (cL_law.data.toList.drop 815) [(815, .aload_n 1, 1), (816, .aload_n 0, 1), (817, .iload 4, 2), (819, .iconst 1, 1), (820, .iadd, 1), (821, .iaload, 1), (822, .aload_n 0, 1), (823, .iload 4, 2), (825, .iconst 2, 1), (826, .iadd, 1), (827, .iaload, 1), (828, .aload_n 0, 1)] = true := by decide +kernel
theorem zr_738L : decode cL_law 815 = .ok (.aload_n 1, 1) ∧ decode cL_law 816 = .ok (.aload_n 0, 1) ∧ decode cL_law 817 = .ok (.iload 4, 2) ∧ decode cL_law 819 = .ok (.iconst 1, 1) ∧ decode cL_law 820 = .ok (.iadd, 1) ∧ decode cL_law 821 = .ok (.iaload, 1) ∧ decode cL_law 822 = .ok (.aload_n 0, 1) ∧ decode cL_law 823 = .ok (.iload 4, 2) ∧ decode cL_law 825 = .ok (.iconst 2, 1) ∧ decode cL_law 826 = .ok (.iadd, 1) ∧ decode cL_law 827 = .ok (.iaload, 1) ∧ decode cL_law 828 = .ok (.aload_n 0, 1) ∧ True := zj_of zk_738L
abbrev dL_law_815 := zr_738L.1
abbrev dL_law_816 := zr_738L.2.1
abbrev dL_law_817 := zr_738L.2.2.1
abbrev dL_law_819 := zr_738L.2.2.2.1
abbrev dL_law_820 := zr_738L.2.2.2.2.1
abbrev dL_law_821 := zr_738L.2.2.2.2.2.1
abbrev dL_law_822 := zr_738L.2.2.2.2.2.2.1
abbrev dL_law_823 := zr_738L.2.2.2.2.2.2.2.1
abbrev dL_law_825 := zr_738L.2.2.2.2.2.2.2.2.1
abbrev dL_law_826 := zr_738L.2.2.2.2.2.2.2.2.2.1
abbrev dL_law_827 := zr_738L.2.2.2.2.2.2.2.2.2.2.1
abbrev dL_law_828 := zr_738L.2.2.2.2.2.2.2.2.2.2.2.1
set_option maxRecDepth 100000 in
theorem zk_739L : zck 829 (cL_law.data.toList.drop 829) [(829, .iload 4, 2), (831, .iconst 3, 1), (832, .iadd, 1), (833, .iaload, 1), (834, .invokevirtual 101, 3), (837, .pop, 1), (838, .aload_n 2, 1), (839, .aload_n 0, 1), (840, .iload 4, 2), (842, .iconst 1, 1), (843, .iadd, 1), (844, .iaload, 1)] = true := by decide +kernel
theorem zr_739L : decode cL_law 829 = .ok (.iload 4, 2) ∧ decode cL_law 831 = .ok (.iconst 3, 1) ∧ decode cL_law 832 = .ok (.iadd, 1) ∧ decode cL_law 833 = .ok (.iaload, 1) ∧ decode cL_law 834 = .ok (.invokevirtual 101, 3) ∧ decode cL_law 837 = .ok (.pop, 1) ∧ decode cL_law 838 = .ok (.aload_n 2, 1) ∧ decode cL_law 839 = .ok (.aload_n 0, 1) ∧ decode cL_law 840 = .ok (.iload 4, 2) ∧ decode cL_law 842 = .ok (.iconst 1, 1) ∧ decode cL_law 843 = .ok (.iadd, 1) ∧ decode cL_law 844 = .ok (.iaload, 1) ∧ True := zj_of zk_739L
abbrev dL_law_829 := zr_739L.1
abbrev dL_law_831 := zr_739L.2.1
abbrev dL_law_832 := zr_739L.2.2.1
abbrev dL_law_833 := zr_739L.2.2.2.1
abbrev dL_law_834 := zr_739L.2.2.2.2.1
abbrev dL_law_837 := zr_739L.2.2.2.2.2.1
abbrev dL_law_838 := zr_739L.2.2.2.2.2.2.1
abbrev dL_law_839 := zr_739L.2.2.2.2.2.2.2.1
abbrev dL_law_840 := zr_739L.2.2.2.2.2.2.2.2.1
abbrev dL_law_842 := zr_739L.2.2.2.2.2.2.2.2.2.1
abbrev dL_law_843 := zr_739L.2.2.2.2.2.2.2.2.2.2.1
abbrev dL_law_844 := zr_739L.2.2.2.2.2.2.2.2.2.2.2.1
set_option maxRecDepth 100000 in
theorem zk_740L : zck 845 (cL_law.data.toList.drop 845) [(845, .aload_n 0, 1), (846, .iload 4, 2), (848, .iconst 2, 1), (849, .iadd, 1), (850, .iaload, 1), (851, .aload_n 0, 1), (852, .iload 4, 2), (854, .iconst 3, 1), (855, .iadd, 1), (856, .iaload, 1), (857, .invokevirtual 104, 3), (860, .pop, 1)] = true := by decide +kernel
theorem zr_740L : decode cL_law 845 = .ok (.aload_n 0, 1) ∧ decode cL_law 846 = .ok (.iload 4, 2) ∧ decode cL_law 848 = .ok (.iconst 2, 1) ∧ decode cL_law 849 = .ok (.iadd, 1) ∧ decode cL_law 850 = .ok (.iaload, 1) ∧ decode cL_law 851 = .ok (.aload_n 0, 1) ∧ decode cL_law 852 = .ok (.iload 4, 2) ∧ decode cL_law 854 = .ok (.iconst 3, 1) ∧ decode cL_law 855 = .ok (.iadd, 1) ∧ decode cL_law 856 = .ok (.iaload, 1) ∧ decode cL_law 857 = .ok (.invokevirtual 104, 3) ∧ decode cL_law 860 = .ok (.pop, 1) ∧ True := zj_of zk_740L
abbrev dL_law_845 := zr_740L.1
abbrev dL_law_846 := zr_740L.2.1
abbrev dL_law_848 := zr_740L.2.2.1
abbrev dL_law_849 := zr_740L.2.2.2.1
abbrev dL_law_850 := zr_740L.2.2.2.2.1
abbrev dL_law_851 := zr_740L.2.2.2.2.2.1
abbrev dL_law_852 := zr_740L.2.2.2.2.2.2.1
abbrev dL_law_854 := zr_740L.2.2.2.2.2.2.2.1
abbrev dL_law_855 := zr_740L.2.2.2.2.2.2.2.2.1
abbrev dL_law_856 := zr_740L.2.2.2.2.2.2.2.2.2.1
abbrev dL_law_857 := zr_740L.2.2.2.2.2.2.2.2.2.2.1
abbrev dL_law_860 := zr_740L.2.2.2.2.2.2.2.2.2.2.2.1
set_option maxRecDepth 100000 in
theorem zk_741L : zck 861 (cL_law.data.toList.drop 861) [(861, .goto 975, 3), (864, .aload_n 1, 1), (865, .aload_n 0, 1), (866, .iload 4, 2), (868, .iconst 1, 1), (869, .iadd, 1), (870, .iaload, 1), (871, .aload_n 0, 1), (872, .iload 4, 2), (874, .iconst 2, 1), (875, .iadd, 1), (876, .iaload, 1)] = true := by decide +kernel
theorem zr_741L : decode cL_law 861 = .ok (.goto 975, 3) ∧ decode cL_law 864 = .ok (.aload_n 1, 1) ∧ decode cL_law 865 = .ok (.aload_n 0, 1) ∧ decode cL_law 866 = .ok (.iload 4, 2) ∧ decode cL_law 868 = .ok (.iconst 1, 1) ∧ decode cL_law 869 = .ok (.iadd, 1) ∧ decode cL_law 870 = .ok (.iaload, 1) ∧ decode cL_law 871 = .ok (.aload_n 0, 1) ∧ decode cL_law 872 = .ok (.iload 4, 2) ∧ decode cL_law 874 = .ok (.iconst 2, 1) ∧ decode cL_law 875 = .ok (.iadd, 1) ∧ decode cL_law 876 = .ok (.iaload, 1) ∧ True := zj_of zk_741L
abbrev dL_law_861 := zr_741L.1
abbrev dL_law_864 := zr_741L.2.1
abbrev dL_law_865 := zr_741L.2.2.1
abbrev dL_law_866 := zr_741L.2.2.2.1
abbrev dL_law_868 := zr_741L.2.2.2.2.1
abbrev dL_law_869 := zr_741L.2.2.2.2.2.1
abbrev dL_law_870 := zr_741L.2.2.2.2.2.2.1
abbrev dL_law_871 := zr_741L.2.2.2.2.2.2.2.1
abbrev dL_law_872 := zr_741L.2.2.2.2.2.2.2.2.1
abbrev dL_law_874 := zr_741L.2.2.2.2.2.2.2.2.2.1
abbrev dL_law_875 := zr_741L.2.2.2.2.2.2.2.2.2.2.1
abbrev dL_law_876 := zr_741L.2.2.2.2.2.2.2.2.2.2.2.1
set_option maxRecDepth 100000 in
theorem zk_742L : zck 877 (cL_law.data.toList.drop 877) [(877, .aload_n 0, 1), (878, .iload 4, 2), (880, .iconst 3, 1), (881, .iadd, 1), (882, .iaload, 1), (883, .invokevirtual 105, 3), (886, .pop, 1), (887, .aload_n 2, 1), (888, .aload_n 0, 1), (889, .iload 4, 2), (891, .iconst 1, 1), (892, .iadd, 1)] = true := by decide +kernel
theorem zr_742L : decode cL_law 877 = .ok (.aload_n 0, 1) ∧ decode cL_law 878 = .ok (.iload 4, 2) ∧ decode cL_law 880 = .ok (.iconst 3, 1) ∧ decode cL_law 881 = .ok (.iadd, 1) ∧ decode cL_law 882 = .ok (.iaload, 1) ∧ decode cL_law 883 = .ok (.invokevirtual 105, 3) ∧ decode cL_law 886 = .ok (.pop, 1) ∧ decode cL_law 887 = .ok (.aload_n 2, 1) ∧ decode cL_law 888 = .ok (.aload_n 0, 1) ∧ decode cL_law 889 = .ok (.iload 4, 2) ∧ decode cL_law 891 = .ok (.iconst 1, 1) ∧ decode cL_law 892 = .ok (.iadd, 1) ∧ True := zj_of zk_742L
abbrev dL_law_877 := zr_742L.1
abbrev dL_law_878 := zr_742L.2.1
abbrev dL_law_880 := zr_742L.2.2.1
abbrev dL_law_881 := zr_742L.2.2.2.1
abbrev dL_law_882 := zr_742L.2.2.2.2.1
abbrev dL_law_883 := zr_742L.2.2.2.2.2.1
abbrev dL_law_886 := zr_742L.2.2.2.2.2.2.1
abbrev dL_law_887 := zr_742L.2.2.2.2.2.2.2.1
abbrev dL_law_888 := zr_742L.2.2.2.2.2.2.2.2.1
abbrev dL_law_889 := zr_742L.2.2.2.2.2.2.2.2.2.1
abbrev dL_law_891 := zr_742L.2.2.2.2.2.2.2.2.2.2.1
abbrev dL_law_892 := zr_742L.2.2.2.2.2.2.2.2.2.2.2.1
set_option maxRecDepth 100000 in
theorem zk_743L : zck 893 (cL_law.data.toList.drop 893) [(893, .iaload, 1), (894, .aload_n 0, 1), (895, .iload 4, 2), (897, .iconst 2, 1), (898, .iadd, 1), (899, .iaload, 1), (900, .aload_n 0, 1), (901, .iload 4, 2), (903, .iconst 3, 1), (904, .iadd, 1), (905, .iaload, 1), (906, .invokevirtual 108, 3)] = true := by decide +kernel
theorem zr_743L : decode cL_law 893 = .ok (.iaload, 1) ∧ decode cL_law 894 = .ok (.aload_n 0, 1) ∧ decode cL_law 895 = .ok (.iload 4, 2) ∧ decode cL_law 897 = .ok (.iconst 2, 1) ∧ decode cL_law 898 = .ok (.iadd, 1) ∧ decode cL_law 899 = .ok (.iaload, 1) ∧ decode cL_law 900 = .ok (.aload_n 0, 1) ∧ decode cL_law 901 = .ok (.iload 4, 2) ∧ decode cL_law 903 = .ok (.iconst 3, 1) ∧ decode cL_law 904 = .ok (.iadd, 1) ∧ decode cL_law 905 = .ok (.iaload, 1) ∧ decode cL_law 906 = .ok (.invokevirtual 108, 3) ∧ True := zj_of zk_743L
abbrev dL_law_893 := zr_743L.1
abbrev dL_law_894 := zr_743L.2.1
abbrev dL_law_895 := zr_743L.2.2.1
abbrev dL_law_897 := zr_743L.2.2.2.1
abbrev dL_law_898 := zr_743L.2.2.2.2.1
abbrev dL_law_899 := zr_743L.2.2.2.2.2.1
abbrev dL_law_900 := zr_743L.2.2.2.2.2.2.1
abbrev dL_law_901 := zr_743L.2.2.2.2.2.2.2.1
abbrev dL_law_903 := zr_743L.2.2.2.2.2.2.2.2.1
abbrev dL_law_904 := zr_743L.2.2.2.2.2.2.2.2.2.1
abbrev dL_law_905 := zr_743L.2.2.2.2.2.2.2.2.2.2.1
abbrev dL_law_906 := zr_743L.2.2.2.2.2.2.2.2.2.2.2.1
set_option maxRecDepth 100000 in
theorem zk_744L : zck 909 (cL_law.data.toList.drop 909) [(909, .pop, 1), (910, .goto 926, 3), (913, .aload_n 1, 1), (914, .aload_n 0, 1), (915, .iload 4, 2), (917, .iconst 1, 1), (918, .iadd, 1), (919, .iaload, 1), (920, .aload_n 0, 1), (921, .iload 4, 2), (923, .iconst 2, 1), (924, .iadd, 1)] = true := by decide +kernel
theorem zr_744L : decode cL_law 909 = .ok (.pop, 1) ∧ decode cL_law 910 = .ok (.goto 926, 3) ∧ decode cL_law 913 = .ok (.aload_n 1, 1) ∧ decode cL_law 914 = .ok (.aload_n 0, 1) ∧ decode cL_law 915 = .ok (.iload 4, 2) ∧ decode cL_law 917 = .ok (.iconst 1, 1) ∧ decode cL_law 918 = .ok (.iadd, 1) ∧ decode cL_law 919 = .ok (.iaload, 1) ∧ decode cL_law 920 = .ok (.aload_n 0, 1) ∧ decode cL_law 921 = .ok (.iload 4, 2) ∧ decode cL_law 923 = .ok (.iconst 2, 1) ∧ decode cL_law 924 = .ok (.iadd, 1) ∧ True := zj_of zk_744L
abbrev dL_law_909 := zr_744L.1
abbrev dL_law_910 := zr_744L.2.1
abbrev dL_law_913 := zr_744L.2.2.1
abbrev dL_law_914 := zr_744L.2.2.2.1
abbrev dL_law_915 := zr_744L.2.2.2.2.1
abbrev dL_law_917 := zr_744L.2.2.2.2.2.1
abbrev dL_law_918 := zr_744L.2.2.2.2.2.2.1
abbrev dL_law_919 := zr_744L.2.2.2.2.2.2.2.1
abbrev dL_law_920 := zr_744L.2.2.2.2.2.2.2.2.1
abbrev dL_law_921 := zr_744L.2.2.2.2.2.2.2.2.2.1
abbrev dL_law_923 := zr_744L.2.2.2.2.2.2.2.2.2.2.1
abbrev dL_law_924 := zr_744L.2.2.2.2.2.2.2.2.2.2.2.1
set_option maxRecDepth 100000 in
theorem zk_745L : zck 925 (cL_law.data.toList.drop 925) [(925, .iaload, 1), (926, .aload_n 0, 1), (927, .iload 4, 2), (929, .iconst 3, 1), (930, .iadd, 1), (931, .iaload, 1), (932, .invokevirtual 109, 3), (935, .pop, 1), (936, .aload_n 2, 1), (937, .aload_n 0, 1), (938, .iload 4, 2), (940, .iconst 1, 1)] = true := by decide +kernel
theorem zr_745L : decode cL_law 925 = .ok (.iaload, 1) ∧ decode cL_law 926 = .ok (.aload_n 0, 1) ∧ decode cL_law 927 = .ok (.iload 4, 2) ∧ decode cL_law 929 = .ok (.iconst 3, 1) ∧ decode cL_law 930 = .ok (.iadd, 1) ∧ decode cL_law 931 = .ok (.iaload, 1) ∧ decode cL_law 932 = .ok (.invokevirtual 109, 3) ∧ decode cL_law 935 = .ok (.pop, 1) ∧ decode cL_law 936 = .ok (.aload_n 2, 1) ∧ decode cL_law 937 = .ok (.aload_n 0, 1) ∧ decode cL_law 938 = .ok (.iload 4, 2) ∧ decode cL_law 940 = .ok (.iconst 1, 1) ∧ True := zj_of zk_745L
abbrev dL_law_925 := zr_745L.1
abbrev dL_law_926 := zr_745L.2.1
abbrev dL_law_927 := zr_745L.2.2.1
abbrev dL_law_929 := zr_745L.2.2.2.1
abbrev dL_law_930 := zr_745L.2.2.2.2.1
abbrev dL_law_931 := zr_745L.2.2.2.2.2.1
abbrev dL_law_932 := zr_745L.2.2.2.2.2.2.1
abbrev dL_law_935 := zr_745L.2.2.2.2.2.2.2.1
abbrev dL_law_936 := zr_745L.2.2.2.2.2.2.2.2.1
abbrev dL_law_937 := zr_745L.2.2.2.2.2.2.2.2.2.1
abbrev dL_law_938 := zr_745L.2.2.2.2.2.2.2.2.2.2.1
abbrev dL_law_940 := zr_745L.2.2.2.2.2.2.2.2.2.2.2.1
set_option maxRecDepth 100000 in
theorem zk_746L : zck 941 (cL_law.data.toList.drop 941) [(941, .iadd, 1), (942, .iaload, 1), (943, .aload_n 0, 1), (944, .iload 4, 2), (946, .iconst 2, 1), (947, .iadd, 1), (948, .iaload, 1), (949, .aload_n 0, 1), (950, .iload 4, 2), (952, .iconst 3, 1), (953, .iadd, 1), (954, .iaload, 1)] = true := by decide +kernel
theorem zr_746L : decode cL_law 941 = .ok (.iadd, 1) ∧ decode cL_law 942 = .ok (.iaload, 1) ∧ decode cL_law 943 = .ok (.aload_n 0, 1) ∧ decode cL_law 944 = .ok (.iload 4, 2) ∧ decode cL_law 946 = .ok (.iconst 2, 1) ∧ decode cL_law 947 = .ok (.iadd, 1) ∧ decode cL_law 948 = .ok (.iaload, 1) ∧ decode cL_law 949 = .ok (.aload_n 0, 1) ∧ decode cL_law 950 = .ok (.iload 4, 2) ∧ decode cL_law 952 = .ok (.iconst 3, 1) ∧ decode cL_law 953 = .ok (.iadd, 1) ∧ decode cL_law 954 = .ok (.iaload, 1) ∧ True := zj_of zk_746L
abbrev dL_law_941 := zr_746L.1
abbrev dL_law_942 := zr_746L.2.1
abbrev dL_law_943 := zr_746L.2.2.1
abbrev dL_law_944 := zr_746L.2.2.2.1
abbrev dL_law_946 := zr_746L.2.2.2.2.1
abbrev dL_law_947 := zr_746L.2.2.2.2.2.1
abbrev dL_law_948 := zr_746L.2.2.2.2.2.2.1
abbrev dL_law_949 := zr_746L.2.2.2.2.2.2.2.1
abbrev dL_law_950 := zr_746L.2.2.2.2.2.2.2.2.1
abbrev dL_law_952 := zr_746L.2.2.2.2.2.2.2.2.2.1
abbrev dL_law_953 := zr_746L.2.2.2.2.2.2.2.2.2.2.1
abbrev dL_law_954 := zr_746L.2.2.2.2.2.2.2.2.2.2.2.1
set_option maxRecDepth 100000 in
theorem zk_747L : zck 955 (cL_law.data.toList.drop 955) [(955, .invokevirtual 112, 3), (958, .pop, 1), (959, .goto 877, 3), (962, .aload_n 1, 1), (963, .aload_n 0, 1), (964, .iload 4, 2), (966, .iconst 1, 1), (967, .iadd, 1), (968, .iaload, 1), (969, .aload_n 0, 1), (970, .iload 4, 2), (972, .iconst 2, 1)] = true := by decide +kernel
theorem zr_747L : decode cL_law 955 = .ok (.invokevirtual 112, 3) ∧ decode cL_law 958 = .ok (.pop, 1) ∧ decode cL_law 959 = .ok (.goto 877, 3) ∧ decode cL_law 962 = .ok (.aload_n 1, 1) ∧ decode cL_law 963 = .ok (.aload_n 0, 1) ∧ decode cL_law 964 = .ok (.iload 4, 2) ∧ decode cL_law 966 = .ok (.iconst 1, 1) ∧ decode cL_law 967 = .ok (.iadd, 1) ∧ decode cL_law 968 = .ok (.iaload, 1) ∧ decode cL_law 969 = .ok (.aload_n 0, 1) ∧ decode cL_law 970 = .ok (.iload 4, 2) ∧ decode cL_law 972 = .ok (.iconst 2, 1) ∧ True := zj_of zk_747L
abbrev dL_law_955 := zr_747L.1
abbrev dL_law_958 := zr_747L.2.1
abbrev dL_law_959 := zr_747L.2.2.1
abbrev dL_law_962 := zr_747L.2.2.2.1
abbrev dL_law_963 := zr_747L.2.2.2.2.1
abbrev dL_law_964 := zr_747L.2.2.2.2.2.1
abbrev dL_law_966 := zr_747L.2.2.2.2.2.2.1
abbrev dL_law_967 := zr_747L.2.2.2.2.2.2.2.1
abbrev dL_law_968 := zr_747L.2.2.2.2.2.2.2.2.1
abbrev dL_law_969 := zr_747L.2.2.2.2.2.2.2.2.2.1
abbrev dL_law_970 := zr_747L.2.2.2.2.2.2.2.2.2.2.1
abbrev dL_law_972 := zr_747L.2.2.2.2.2.2.2.2.2.2.2.1
set_option maxRecDepth 100000 in
theorem zk_748L : zck 973 (cL_law.data.toList.drop 973) [(973, .iadd, 1), (974, .iaload, 1), (975, .invokevirtual 113, 3), (978, .pop, 1), (979, .aload_n 2, 1), (980, .aload_n 0, 1), (981, .iload 4, 2), (983, .iconst 1, 1), (984, .iadd, 1), (985, .iaload, 1), (986, .aload_n 0, 1), (987, .iload 4, 2)] = true := by decide +kernel
theorem zr_748L : decode cL_law 973 = .ok (.iadd, 1) ∧ decode cL_law 974 = .ok (.iaload, 1) ∧ decode cL_law 975 = .ok (.invokevirtual 113, 3) ∧ decode cL_law 978 = .ok (.pop, 1) ∧ decode cL_law 979 = .ok (.aload_n 2, 1) ∧ decode cL_law 980 = .ok (.aload_n 0, 1) ∧ decode cL_law 981 = .ok (.iload 4, 2) ∧ decode cL_law 983 = .ok (.iconst 1, 1) ∧ decode cL_law 984 = .ok (.iadd, 1) ∧ decode cL_law 985 = .ok (.iaload, 1) ∧ decode cL_law 986 = .ok (.aload_n 0, 1) ∧ decode cL_law 987 = .ok (.iload 4, 2) ∧ True := zj_of zk_748L
abbrev dL_law_973 := zr_748L.1
abbrev dL_law_974 := zr_748L.2.1
abbrev dL_law_975 := zr_748L.2.2.1
abbrev dL_law_978 := zr_748L.2.2.2.1
abbrev dL_law_979 := zr_748L.2.2.2.2.1
abbrev dL_law_980 := zr_748L.2.2.2.2.2.1
abbrev dL_law_981 := zr_748L.2.2.2.2.2.2.1
abbrev dL_law_983 := zr_748L.2.2.2.2.2.2.2.1
abbrev dL_law_984 := zr_748L.2.2.2.2.2.2.2.2.1
abbrev dL_law_985 := zr_748L.2.2.2.2.2.2.2.2.2.1
abbrev dL_law_986 := zr_748L.2.2.2.2.2.2.2.2.2.2.1
abbrev dL_law_987 := zr_748L.2.2.2.2.2.2.2.2.2.2.2.1
set_option maxRecDepth 100000 in
theorem zk_749L : zck 989 (cL_law.data.toList.drop 989) [(989, .iconst 2, 1), (990, .iadd, 1), (991, .iaload, 1), (992, .invokevirtual 116, 3), (995, .pop, 1), (996, .goto 840, 3), (999, .aload_n 1, 1), (1000, .aload_n 0, 1), (1001, .iload 4, 2), (1003, .iconst 1, 1), (1004, .iadd, 1), (1005, .iaload, 1)] = true := by decide +kernel
theorem zr_749L : decode cL_law 989 = .ok (.iconst 2, 1) ∧ decode cL_law 990 = .ok (.iadd, 1) ∧ decode cL_law 991 = .ok (.iaload, 1) ∧ decode cL_law 992 = .ok (.invokevirtual 116, 3) ∧ decode cL_law 995 = .ok (.pop, 1) ∧ decode cL_law 996 = .ok (.goto 840, 3) ∧ decode cL_law 999 = .ok (.aload_n 1, 1) ∧ decode cL_law 1000 = .ok (.aload_n 0, 1) ∧ decode cL_law 1001 = .ok (.iload 4, 2) ∧ decode cL_law 1003 = .ok (.iconst 1, 1) ∧ decode cL_law 1004 = .ok (.iadd, 1) ∧ decode cL_law 1005 = .ok (.iaload, 1) ∧ True := zj_of zk_749L
abbrev dL_law_989 := zr_749L.1
abbrev dL_law_990 := zr_749L.2.1
abbrev dL_law_991 := zr_749L.2.2.1
abbrev dL_law_992 := zr_749L.2.2.2.1
abbrev dL_law_995 := zr_749L.2.2.2.2.1
abbrev dL_law_996 := zr_749L.2.2.2.2.2.1
abbrev dL_law_999 := zr_749L.2.2.2.2.2.2.1
abbrev dL_law_1000 := zr_749L.2.2.2.2.2.2.2.1
abbrev dL_law_1001 := zr_749L.2.2.2.2.2.2.2.2.1
abbrev dL_law_1003 := zr_749L.2.2.2.2.2.2.2.2.2.1
abbrev dL_law_1004 := zr_749L.2.2.2.2.2.2.2.2.2.2.1
abbrev dL_law_1005 := zr_749L.2.2.2.2.2.2.2.2.2.2.2.1
set_option maxRecDepth 100000 in
theorem zk_750L : zck 1006 (cL_law.data.toList.drop 1006) [(1006, .aload_n 0, 1), (1007, .iload 4, 2), (1009, .iconst 2, 1), (1010, .iadd, 1), (1011, .iaload, 1), (1012, .aload_n 0, 1), (1013, .iload 4, 2), (1015, .iconst 3, 1), (1016, .iadd, 1), (1017, .iaload, 1), (1018, .aload_n 0, 1), (1019, .iload 4, 2)] = true := by decide +kernel
theorem zr_750L : decode cL_law 1006 = .ok (.aload_n 0, 1) ∧ decode cL_law 1007 = .ok (.iload 4, 2) ∧ decode cL_law 1009 = .ok (.iconst 2, 1) ∧ decode cL_law 1010 = .ok (.iadd, 1) ∧ decode cL_law 1011 = .ok (.iaload, 1) ∧ decode cL_law 1012 = .ok (.aload_n 0, 1) ∧ decode cL_law 1013 = .ok (.iload 4, 2) ∧ decode cL_law 1015 = .ok (.iconst 3, 1) ∧ decode cL_law 1016 = .ok (.iadd, 1) ∧ decode cL_law 1017 = .ok (.iaload, 1) ∧ decode cL_law 1018 = .ok (.aload_n 0, 1) ∧ decode cL_law 1019 = .ok (.iload 4, 2) ∧ True := zj_of zk_750L
abbrev dL_law_1006 := zr_750L.1
abbrev dL_law_1007 := zr_750L.2.1
abbrev dL_law_1009 := zr_750L.2.2.1
abbrev dL_law_1010 := zr_750L.2.2.2.1
abbrev dL_law_1011 := zr_750L.2.2.2.2.1
abbrev dL_law_1012 := zr_750L.2.2.2.2.2.1
abbrev dL_law_1013 := zr_750L.2.2.2.2.2.2.1
abbrev dL_law_1015 := zr_750L.2.2.2.2.2.2.2.1
abbrev dL_law_1016 := zr_750L.2.2.2.2.2.2.2.2.1
abbrev dL_law_1017 := zr_750L.2.2.2.2.2.2.2.2.2.1
abbrev dL_law_1018 := zr_750L.2.2.2.2.2.2.2.2.2.2.1
abbrev dL_law_1019 := zr_750L.2.2.2.2.2.2.2.2.2.2.2.1
set_option maxRecDepth 100000 in
theorem zk_751L : zck 1021 (cL_law.data.toList.drop 1021) [(1021, .iconst 4, 1), (1022, .iadd, 1), (1023, .iaload, 1), (1024, .invokevirtual 117, 3), (1027, .pop, 1), (1028, .aload_n 2, 1), (1029, .aload_n 0, 1), (1030, .iload 4, 2), (1032, .iconst 1, 1), (1033, .iadd, 1), (1034, .iaload, 1), (1035, .aload_n 0, 1)] = true := by decide +kernel
theorem zr_751L : decode cL_law 1021 = .ok (.iconst 4, 1) ∧ decode cL_law 1022 = .ok (.iadd, 1) ∧ decode cL_law 1023 = .ok (.iaload, 1) ∧ decode cL_law 1024 = .ok (.invokevirtual 117, 3) ∧ decode cL_law 1027 = .ok (.pop, 1) ∧ decode cL_law 1028 = .ok (.aload_n 2, 1) ∧ decode cL_law 1029 = .ok (.aload_n 0, 1) ∧ decode cL_law 1030 = .ok (.iload 4, 2) ∧ decode cL_law 1032 = .ok (.iconst 1, 1) ∧ decode cL_law 1033 = .ok (.iadd, 1) ∧ decode cL_law 1034 = .ok (.iaload, 1) ∧ decode cL_law 1035 = .ok (.aload_n 0, 1) ∧ True := zj_of zk_751L
abbrev dL_law_1021 := zr_751L.1
abbrev dL_law_1022 := zr_751L.2.1
abbrev dL_law_1023 := zr_751L.2.2.1
abbrev dL_law_1024 := zr_751L.2.2.2.1
abbrev dL_law_1027 := zr_751L.2.2.2.2.1
abbrev dL_law_1028 := zr_751L.2.2.2.2.2.1
abbrev dL_law_1029 := zr_751L.2.2.2.2.2.2.1
abbrev dL_law_1030 := zr_751L.2.2.2.2.2.2.2.1
abbrev dL_law_1032 := zr_751L.2.2.2.2.2.2.2.2.1
abbrev dL_law_1033 := zr_751L.2.2.2.2.2.2.2.2.2.1
abbrev dL_law_1034 := zr_751L.2.2.2.2.2.2.2.2.2.2.1
abbrev dL_law_1035 := zr_751L.2.2.2.2.2.2.2.2.2.2.2.1
set_option maxRecDepth 100000 in
theorem zk_752L : zck 1036 (cL_law.data.toList.drop 1036) [(1036, .iload 4, 2), (1038, .iconst 2, 1), (1039, .iadd, 1), (1040, .iaload, 1), (1041, .aload_n 0, 1), (1042, .iload 4, 2), (1044, .iconst 3, 1), (1045, .iadd, 1), (1046, .iaload, 1), (1047, .aload_n 0, 1), (1048, .iload 4, 2), (1050, .iconst 4, 1)] = true := by decide +kernel
theorem zr_752L : decode cL_law 1036 = .ok (.iload 4, 2) ∧ decode cL_law 1038 = .ok (.iconst 2, 1) ∧ decode cL_law 1039 = .ok (.iadd, 1) ∧ decode cL_law 1040 = .ok (.iaload, 1) ∧ decode cL_law 1041 = .ok (.aload_n 0, 1) ∧ decode cL_law 1042 = .ok (.iload 4, 2) ∧ decode cL_law 1044 = .ok (.iconst 3, 1) ∧ decode cL_law 1045 = .ok (.iadd, 1) ∧ decode cL_law 1046 = .ok (.iaload, 1) ∧ decode cL_law 1047 = .ok (.aload_n 0, 1) ∧ decode cL_law 1048 = .ok (.iload 4, 2) ∧ decode cL_law 1050 = .ok (.iconst 4, 1) ∧ True := zj_of zk_752L
abbrev dL_law_1036 := zr_752L.1
abbrev dL_law_1038 := zr_752L.2.1
abbrev dL_law_1039 := zr_752L.2.2.1
abbrev dL_law_1040 := zr_752L.2.2.2.1
abbrev dL_law_1041 := zr_752L.2.2.2.2.1
abbrev dL_law_1042 := zr_752L.2.2.2.2.2.1
abbrev dL_law_1044 := zr_752L.2.2.2.2.2.2.1
abbrev dL_law_1045 := zr_752L.2.2.2.2.2.2.2.1
abbrev dL_law_1046 := zr_752L.2.2.2.2.2.2.2.2.1
abbrev dL_law_1047 := zr_752L.2.2.2.2.2.2.2.2.2.1
abbrev dL_law_1048 := zr_752L.2.2.2.2.2.2.2.2.2.2.1
abbrev dL_law_1050 := zr_752L.2.2.2.2.2.2.2.2.2.2.2.1
set_option maxRecDepth 100000 in
theorem zk_753L : zck 1051 (cL_law.data.toList.drop 1051) [(1051, .iadd, 1), (1052, .iaload, 1), (1053, .invokevirtual 120, 3), (1056, .pop, 1), (1057, .goto 779, 3), (1060, .aload_n 1, 1), (1061, .aload_n 0, 1), (1062, .iload 4, 2), (1064, .iconst 1, 1), (1065, .iadd, 1), (1066, .iaload, 1), (1067, .aload_n 0, 1)] = true := by decide +kernel
theorem zr_753L : decode cL_law 1051 = .ok (.iadd, 1) ∧ decode cL_law 1052 = .ok (.iaload, 1) ∧ decode cL_law 1053 = .ok (.invokevirtual 120, 3) ∧ decode cL_law 1056 = .ok (.pop, 1) ∧ decode cL_law 1057 = .ok (.goto 779, 3) ∧ decode cL_law 1060 = .ok (.aload_n 1, 1) ∧ decode cL_law 1061 = .ok (.aload_n 0, 1) ∧ decode cL_law 1062 = .ok (.iload 4, 2) ∧ decode cL_law 1064 = .ok (.iconst 1, 1) ∧ decode cL_law 1065 = .ok (.iadd, 1) ∧ decode cL_law 1066 = .ok (.iaload, 1) ∧ decode cL_law 1067 = .ok (.aload_n 0, 1) ∧ True := zj_of zk_753L
abbrev dL_law_1051 := zr_753L.1
abbrev dL_law_1052 := zr_753L.2.1
abbrev dL_law_1053 := zr_753L.2.2.1
abbrev dL_law_1056 := zr_753L.2.2.2.1
abbrev dL_law_1057 := zr_753L.2.2.2.2.1
abbrev dL_law_1060 := zr_753L.2.2.2.2.2.1
abbrev dL_law_1061 := zr_753L.2.2.2.2.2.2.1
abbrev dL_law_1062 := zr_753L.2.2.2.2.2.2.2.1
abbrev dL_law_1064 := zr_753L.2.2.2.2.2.2.2.2.1
abbrev dL_law_1065 := zr_753L.2.2.2.2.2.2.2.2.2.1
abbrev dL_law_1066 := zr_753L.2.2.2.2.2.2.2.2.2.2.1
abbrev dL_law_1067 := zr_753L.2.2.2.2.2.2.2.2.2.2.2.1
set_option maxRecDepth 100000 in
theorem zk_754L : zck 1068 (cL_law.data.toList.drop 1068) [(1068, .iload 4, 2), (1070, .iconst 2, 1), (1071, .iadd, 1), (1072, .iaload, 1), (1073, .invokevirtual 121, 3), (1076, .pop, 1), (1077, .aload_n 2, 1), (1078, .aload_n 0, 1), (1079, .iload 4, 2), (1081, .iconst 1, 1), (1082, .iadd, 1), (1083, .iaload, 1)] = true := by decide +kernel
theorem zr_754L : decode cL_law 1068 = .ok (.iload 4, 2) ∧ decode cL_law 1070 = .ok (.iconst 2, 1) ∧ decode cL_law 1071 = .ok (.iadd, 1) ∧ decode cL_law 1072 = .ok (.iaload, 1) ∧ decode cL_law 1073 = .ok (.invokevirtual 121, 3) ∧ decode cL_law 1076 = .ok (.pop, 1) ∧ decode cL_law 1077 = .ok (.aload_n 2, 1) ∧ decode cL_law 1078 = .ok (.aload_n 0, 1) ∧ decode cL_law 1079 = .ok (.iload 4, 2) ∧ decode cL_law 1081 = .ok (.iconst 1, 1) ∧ decode cL_law 1082 = .ok (.iadd, 1) ∧ decode cL_law 1083 = .ok (.iaload, 1) ∧ True := zj_of zk_754L
abbrev dL_law_1068 := zr_754L.1
abbrev dL_law_1070 := zr_754L.2.1
abbrev dL_law_1071 := zr_754L.2.2.1
abbrev dL_law_1072 := zr_754L.2.2.2.1
abbrev dL_law_1073 := zr_754L.2.2.2.2.1
abbrev dL_law_1076 := zr_754L.2.2.2.2.2.1
abbrev dL_law_1077 := zr_754L.2.2.2.2.2.2.1
abbrev dL_law_1078 := zr_754L.2.2.2.2.2.2.2.1
abbrev dL_law_1079 := zr_754L.2.2.2.2.2.2.2.2.1
abbrev dL_law_1081 := zr_754L.2.2.2.2.2.2.2.2.2.1
abbrev dL_law_1082 := zr_754L.2.2.2.2.2.2.2.2.2.2.1
abbrev dL_law_1083 := zr_754L.2.2.2.2.2.2.2.2.2.2.2.1
set_option maxRecDepth 100000 in
theorem zk_755L : zck 1084 (cL_law.data.toList.drop 1084) [(1084, .aload_n 0, 1), (1085, .iload 4, 2), (1087, .iconst 2, 1), (1088, .iadd, 1), (1089, .iaload, 1), (1090, .invokevirtual 124, 3), (1093, .pop, 1), (1094, .goto 742, 3), (1097, .aload_n 1, 1), (1098, .aload_n 0, 1), (1099, .iload 4, 2), (1101, .iconst 1, 1)] = true := by decide +kernel
theorem zr_755L : decode cL_law 1084 = .ok (.aload_n 0, 1) ∧ decode cL_law 1085 = .ok (.iload 4, 2) ∧ decode cL_law 1087 = .ok (.iconst 2, 1) ∧ decode cL_law 1088 = .ok (.iadd, 1) ∧ decode cL_law 1089 = .ok (.iaload, 1) ∧ decode cL_law 1090 = .ok (.invokevirtual 124, 3) ∧ decode cL_law 1093 = .ok (.pop, 1) ∧ decode cL_law 1094 = .ok (.goto 742, 3) ∧ decode cL_law 1097 = .ok (.aload_n 1, 1) ∧ decode cL_law 1098 = .ok (.aload_n 0, 1) ∧ decode cL_law 1099 = .ok (.iload 4, 2) ∧ decode cL_law 1101 = .ok (.iconst 1, 1) ∧ True := zj_of zk_755L
abbrev dL_law_1084 := zr_755L.1
abbrev dL_law_1085 := zr_755L.2.1
abbrev dL_law_1087 := zr_755L.2.2.1
abbrev dL_law_1088 := zr_755L.2.2.2.1
abbrev dL_law_1089 := zr_755L.2.2.2.2.1
abbrev dL_law_1090 := zr_755L.2.2.2.2.2.1
abbrev dL_law_1093 := zr_755L.2.2.2.2.2.2.1
abbrev dL_law_1094 := zr_755L.2.2.2.2.2.2.2.1
abbrev dL_law_1097 := zr_755L.2.2.2.2.2.2.2.2.1
abbrev dL_law_1098 := zr_755L.2.2.2.2.2.2.2.2.2.1
abbrev dL_law_1099 := zr_755L.2.2.2.2.2.2.2.2.2.2.1
abbrev dL_law_1101 := zr_755L.2.2.2.2.2.2.2.2.2.2.2.1
set_option maxRecDepth 100000 in
theorem zk_756L : zck 1102 (cL_law.data.toList.drop 1102) [(1102, .iadd, 1), (1103, .iaload, 1), (1104, .aload_n 0, 1), (1105, .iload 4, 2), (1107, .iconst 2, 1), (1108, .iadd, 1), (1109, .iaload, 1), (1110, .aload_n 0, 1), (1111, .iload 4, 2), (1113, .iconst 3, 1), (1114, .iadd, 1), (1115, .iaload, 1)] = true := by decide +kernel
theorem zr_756L : decode cL_law 1102 = .ok (.iadd, 1) ∧ decode cL_law 1103 = .ok (.iaload, 1) ∧ decode cL_law 1104 = .ok (.aload_n 0, 1) ∧ decode cL_law 1105 = .ok (.iload 4, 2) ∧ decode cL_law 1107 = .ok (.iconst 2, 1) ∧ decode cL_law 1108 = .ok (.iadd, 1) ∧ decode cL_law 1109 = .ok (.iaload, 1) ∧ decode cL_law 1110 = .ok (.aload_n 0, 1) ∧ decode cL_law 1111 = .ok (.iload 4, 2) ∧ decode cL_law 1113 = .ok (.iconst 3, 1) ∧ decode cL_law 1114 = .ok (.iadd, 1) ∧ decode cL_law 1115 = .ok (.iaload, 1) ∧ True := zj_of zk_756L
abbrev dL_law_1102 := zr_756L.1
abbrev dL_law_1103 := zr_756L.2.1
abbrev dL_law_1104 := zr_756L.2.2.1
abbrev dL_law_1105 := zr_756L.2.2.2.1
abbrev dL_law_1107 := zr_756L.2.2.2.2.1
abbrev dL_law_1108 := zr_756L.2.2.2.2.2.1
abbrev dL_law_1109 := zr_756L.2.2.2.2.2.2.1
abbrev dL_law_1110 := zr_756L.2.2.2.2.2.2.2.1
abbrev dL_law_1111 := zr_756L.2.2.2.2.2.2.2.2.1
abbrev dL_law_1113 := zr_756L.2.2.2.2.2.2.2.2.2.1
abbrev dL_law_1114 := zr_756L.2.2.2.2.2.2.2.2.2.2.1
abbrev dL_law_1115 := zr_756L.2.2.2.2.2.2.2.2.2.2.2.1
set_option maxRecDepth 100000 in
theorem zk_757L : zck 1116 (cL_law.data.toList.drop 1116) [(1116, .invokevirtual 125, 3), (1119, .pop, 1), (1120, .aload_n 2, 1), (1121, .aload_n 0, 1), (1122, .iload 4, 2), (1124, .iconst 1, 1), (1125, .iadd, 1), (1126, .iaload, 1), (1127, .aload_n 0, 1), (1128, .iload 4, 2), (1130, .iconst 2, 1), (1131, .iadd, 1)] = true := by decide +kernel
theorem zr_757L : decode cL_law 1116 = .ok (.invokevirtual 125, 3) ∧ decode cL_law 1119 = .ok (.pop, 1) ∧ decode cL_law 1120 = .ok (.aload_n 2, 1) ∧ decode cL_law 1121 = .ok (.aload_n 0, 1) ∧ decode cL_law 1122 = .ok (.iload 4, 2) ∧ decode cL_law 1124 = .ok (.iconst 1, 1) ∧ decode cL_law 1125 = .ok (.iadd, 1) ∧ decode cL_law 1126 = .ok (.iaload, 1) ∧ decode cL_law 1127 = .ok (.aload_n 0, 1) ∧ decode cL_law 1128 = .ok (.iload 4, 2) ∧ decode cL_law 1130 = .ok (.iconst 2, 1) ∧ decode cL_law 1131 = .ok (.iadd, 1) ∧ True := zj_of zk_757L
abbrev dL_law_1116 := zr_757L.1
abbrev dL_law_1119 := zr_757L.2.1
abbrev dL_law_1120 := zr_757L.2.2.1
abbrev dL_law_1121 := zr_757L.2.2.2.1
abbrev dL_law_1122 := zr_757L.2.2.2.2.1
abbrev dL_law_1124 := zr_757L.2.2.2.2.2.1
abbrev dL_law_1125 := zr_757L.2.2.2.2.2.2.1
abbrev dL_law_1126 := zr_757L.2.2.2.2.2.2.2.1
abbrev dL_law_1127 := zr_757L.2.2.2.2.2.2.2.2.1
abbrev dL_law_1128 := zr_757L.2.2.2.2.2.2.2.2.2.1
abbrev dL_law_1130 := zr_757L.2.2.2.2.2.2.2.2.2.2.1
abbrev dL_law_1131 := zr_757L.2.2.2.2.2.2.2.2.2.2.2.1
set_option maxRecDepth 100000 in
theorem zk_758L : zck 1132 (cL_law.data.toList.drop 1132) [(1132, .iaload, 1), (1133, .aload_n 0, 1), (1134, .iload 4, 2), (1136, .iconst 3, 1), (1137, .iadd, 1), (1138, .iaload, 1), (1139, .invokevirtual 128, 3), (1142, .pop, 1), (1143, .goto 693, 3), (1146, .aload_n 1, 1), (1147, .aload_n 0, 1), (1148, .iload 4, 2)] = true := by decide +kernel
theorem zr_758L : decode cL_law 1132 = .ok (.iaload, 1) ∧ decode cL_law 1133 = .ok (.aload_n 0, 1) ∧ decode cL_law 1134 = .ok (.iload 4, 2) ∧ decode cL_law 1136 = .ok (.iconst 3, 1) ∧ decode cL_law 1137 = .ok (.iadd, 1) ∧ decode cL_law 1138 = .ok (.iaload, 1) ∧ decode cL_law 1139 = .ok (.invokevirtual 128, 3) ∧ decode cL_law 1142 = .ok (.pop, 1) ∧ decode cL_law 1143 = .ok (.goto 693, 3) ∧ decode cL_law 1146 = .ok (.aload_n 1, 1) ∧ decode cL_law 1147 = .ok (.aload_n 0, 1) ∧ decode cL_law 1148 = .ok (.iload 4, 2) ∧ True := zj_of zk_758L
abbrev dL_law_1132 := zr_758L.1
abbrev dL_law_1133 := zr_758L.2.1
abbrev dL_law_1134 := zr_758L.2.2.1
abbrev dL_law_1136 := zr_758L.2.2.2.1
abbrev dL_law_1137 := zr_758L.2.2.2.2.1
abbrev dL_law_1138 := zr_758L.2.2.2.2.2.1
abbrev dL_law_1139 := zr_758L.2.2.2.2.2.2.1
abbrev dL_law_1142 := zr_758L.2.2.2.2.2.2.2.1
abbrev dL_law_1143 := zr_758L.2.2.2.2.2.2.2.2.1
abbrev dL_law_1146 := zr_758L.2.2.2.2.2.2.2.2.2.1
abbrev dL_law_1147 := zr_758L.2.2.2.2.2.2.2.2.2.2.1
abbrev dL_law_1148 := zr_758L.2.2.2.2.2.2.2.2.2.2.2.1
set_option maxRecDepth 100000 in
theorem zk_759L : zck 1150 (cL_law.data.toList.drop 1150) [(1150, .iconst 1, 1), (1151, .iadd, 1), (1152, .iaload, 1), (1153, .aload_n 0, 1), (1154, .iload 4, 2), (1156, .iconst 2, 1), (1157, .iadd, 1), (1158, .iaload, 1), (1159, .invokevirtual 129, 3), (1162, .pop, 1), (1163, .aload_n 2, 1), (1164, .aload_n 0, 1)] = true := by decide +kernel
theorem zr_759L : decode cL_law 1150 = .ok (.iconst 1, 1) ∧ decode cL_law 1151 = .ok (.iadd, 1) ∧ decode cL_law 1152 = .ok (.iaload, 1) ∧ decode cL_law 1153 = .ok (.aload_n 0, 1) ∧ decode cL_law 1154 = .ok (.iload 4, 2) ∧ decode cL_law 1156 = .ok (.iconst 2, 1) ∧ decode cL_law 1157 = .ok (.iadd, 1) ∧ decode cL_law 1158 = .ok (.iaload, 1) ∧ decode cL_law 1159 = .ok (.invokevirtual 129, 3) ∧ decode cL_law 1162 = .ok (.pop, 1) ∧ decode cL_law 1163 = .ok (.aload_n 2, 1) ∧ decode cL_law 1164 = .ok (.aload_n 0, 1) ∧ True := zj_of zk_759L
abbrev dL_law_1150 := zr_759L.1
abbrev dL_law_1151 := zr_759L.2.1
abbrev dL_law_1152 := zr_759L.2.2.1
abbrev dL_law_1153 := zr_759L.2.2.2.1
abbrev dL_law_1154 := zr_759L.2.2.2.2.1
abbrev dL_law_1156 := zr_759L.2.2.2.2.2.1
abbrev dL_law_1157 := zr_759L.2.2.2.2.2.2.1
abbrev dL_law_1158 := zr_759L.2.2.2.2.2.2.2.1
abbrev dL_law_1159 := zr_759L.2.2.2.2.2.2.2.2.1
abbrev dL_law_1162 := zr_759L.2.2.2.2.2.2.2.2.2.1
abbrev dL_law_1163 := zr_759L.2.2.2.2.2.2.2.2.2.2.1
abbrev dL_law_1164 := zr_759L.2.2.2.2.2.2.2.2.2.2.2.1
set_option maxRecDepth 100000 in
theorem zk_760L : zck 1165 (cL_law.data.toList.drop 1165) [(1165, .iload 4, 2), (1167, .iconst 1, 1), (1168, .iadd, 1), (1169, .iaload, 1), (1170, .aload_n 0, 1), (1171, .iload 4, 2), (1173, .iconst 2, 1), (1174, .iadd, 1), (1175, .iaload, 1), (1176, .invokevirtual 132, 3), (1179, .pop, 1), (1180, .goto 656, 3)] = true := by decide +kernel
theorem zr_760L : decode cL_law 1165 = .ok (.iload 4, 2) ∧ decode cL_law 1167 = .ok (.iconst 1, 1) ∧ decode cL_law 1168 = .ok (.iadd, 1) ∧ decode cL_law 1169 = .ok (.iaload, 1) ∧ decode cL_law 1170 = .ok (.aload_n 0, 1) ∧ decode cL_law 1171 = .ok (.iload 4, 2) ∧ decode cL_law 1173 = .ok (.iconst 2, 1) ∧ decode cL_law 1174 = .ok (.iadd, 1) ∧ decode cL_law 1175 = .ok (.iaload, 1) ∧ decode cL_law 1176 = .ok (.invokevirtual 132, 3) ∧ decode cL_law 1179 = .ok (.pop, 1) ∧ decode cL_law 1180 = .ok (.goto 656, 3) ∧ True := zj_of zk_760L
abbrev dL_law_1165 := zr_760L.1
abbrev dL_law_1167 := zr_760L.2.1
abbrev dL_law_1168 := zr_760L.2.2.1
abbrev dL_law_1169 := zr_760L.2.2.2.1
abbrev dL_law_1170 := zr_760L.2.2.2.2.1
abbrev dL_law_1171 := zr_760L.2.2.2.2.2.1
abbrev dL_law_1173 := zr_760L.2.2.2.2.2.2.1
abbrev dL_law_1174 := zr_760L.2.2.2.2.2.2.2.1
abbrev dL_law_1175 := zr_760L.2.2.2.2.2.2.2.2.1
abbrev dL_law_1176 := zr_760L.2.2.2.2.2.2.2.2.2.1
abbrev dL_law_1179 := zr_760L.2.2.2.2.2.2.2.2.2.2.1
abbrev dL_law_1180 := zr_760L.2.2.2.2.2.2.2.2.2.2.2.1
set_option maxRecDepth 100000 in
theorem zk_761L : zck 1183 (cL_law.data.toList.drop 1183) [(1183, .aload_n 1, 1), (1184, .aload_n 0, 1), (1185, .iload 4, 2), (1187, .iconst 1, 1), (1188, .iadd, 1), (1189, .iaload, 1), (1190, .aload_n 0, 1), (1191, .iload 4, 2), (1193, .iconst 2, 1), (1194, .iadd, 1), (1195, .iaload, 1), (1196, .aload_n 0, 1)] = true := by decide +kernel
theorem zr_761L : decode cL_law 1183 = .ok (.aload_n 1, 1) ∧ decode cL_law 1184 = .ok (.aload_n 0, 1) ∧ decode cL_law 1185 = .ok (.iload 4, 2) ∧ decode cL_law 1187 = .ok (.iconst 1, 1) ∧ decode cL_law 1188 = .ok (.iadd, 1) ∧ decode cL_law 1189 = .ok (.iaload, 1) ∧ decode cL_law 1190 = .ok (.aload_n 0, 1) ∧ decode cL_law 1191 = .ok (.iload 4, 2) ∧ decode cL_law 1193 = .ok (.iconst 2, 1) ∧ decode cL_law 1194 = .ok (.iadd, 1) ∧ decode cL_law 1195 = .ok (.iaload, 1) ∧ decode cL_law 1196 = .ok (.aload_n 0, 1) ∧ True := zj_of zk_761L
abbrev dL_law_1183 := zr_761L.1
abbrev dL_law_1184 := zr_761L.2.1
abbrev dL_law_1185 := zr_761L.2.2.1
abbrev dL_law_1187 := zr_761L.2.2.2.1
abbrev dL_law_1188 := zr_761L.2.2.2.2.1
abbrev dL_law_1189 := zr_761L.2.2.2.2.2.1
abbrev dL_law_1190 := zr_761L.2.2.2.2.2.2.1
abbrev dL_law_1191 := zr_761L.2.2.2.2.2.2.2.1
abbrev dL_law_1193 := zr_761L.2.2.2.2.2.2.2.2.1
abbrev dL_law_1194 := zr_761L.2.2.2.2.2.2.2.2.2.1
abbrev dL_law_1195 := zr_761L.2.2.2.2.2.2.2.2.2.2.1
abbrev dL_law_1196 := zr_761L.2.2.2.2.2.2.2.2.2.2.2.1
set_option maxRecDepth 100000 in
theorem zk_762L : zck 1197 (cL_law.data.toList.drop 1197) [(1197, .iload 4, 2), (1199, .iconst 3, 1), (1200, .iadd, 1), (1201, .iaload, 1), (1202, .invokevirtual 133, 3), (1205, .pop, 1), (1206, .aload_n 2, 1), (1207, .aload_n 0, 1), (1208, .iload 4, 2), (1210, .iconst 1, 1), (1211, .iadd, 1), (1212, .iaload, 1)] = true := by decide +kernel
theorem zr_762L : decode cL_law 1197 = .ok (.iload 4, 2) ∧ decode cL_law 1199 = .ok (.iconst 3, 1) ∧ decode cL_law 1200 = .ok (.iadd, 1) ∧ decode cL_law 1201 = .ok (.iaload, 1) ∧ decode cL_law 1202 = .ok (.invokevirtual 133, 3) ∧ decode cL_law 1205 = .ok (.pop, 1) ∧ decode cL_law 1206 = .ok (.aload_n 2, 1) ∧ decode cL_law 1207 = .ok (.aload_n 0, 1) ∧ decode cL_law 1208 = .ok (.iload 4, 2) ∧ decode cL_law 1210 = .ok (.iconst 1, 1) ∧ decode cL_law 1211 = .ok (.iadd, 1) ∧ decode cL_law 1212 = .ok (.iaload, 1) ∧ True := zj_of zk_762L
abbrev dL_law_1197 := zr_762L.1
abbrev dL_law_1199 := zr_762L.2.1
abbrev dL_law_1200 := zr_762L.2.2.1
abbrev dL_law_1201 := zr_762L.2.2.2.1
abbrev dL_law_1202 := zr_762L.2.2.2.2.1
abbrev dL_law_1205 := zr_762L.2.2.2.2.2.1
abbrev dL_law_1206 := zr_762L.2.2.2.2.2.2.1
abbrev dL_law_1207 := zr_762L.2.2.2.2.2.2.2.1
abbrev dL_law_1208 := zr_762L.2.2.2.2.2.2.2.2.1
abbrev dL_law_1210 := zr_762L.2.2.2.2.2.2.2.2.2.1
abbrev dL_law_1211 := zr_762L.2.2.2.2.2.2.2.2.2.2.1
abbrev dL_law_1212 := zr_762L.2.2.2.2.2.2.2.2.2.2.2.1
set_option maxRecDepth 100000 in
theorem zk_763L : zck 1213 (cL_law.data.toList.drop 1213) [(1213, .aload_n 0, 1), (1214, .iload 4, 2), (1216, .iconst 2, 1), (1217, .iadd, 1), (1218, .iaload, 1), (1219, .aload_n 0, 1), (1220, .iload 4, 2), (1222, .iconst 3, 1), (1223, .iadd, 1), (1224, .iaload, 1), (1225, .invokevirtual 136, 3), (1228, .pop, 1)] = true := by decide +kernel
theorem zr_763L : decode cL_law 1213 = .ok (.aload_n 0, 1) ∧ decode cL_law 1214 = .ok (.iload 4, 2) ∧ decode cL_law 1216 = .ok (.iconst 2, 1) ∧ decode cL_law 1217 = .ok (.iadd, 1) ∧ decode cL_law 1218 = .ok (.iaload, 1) ∧ decode cL_law 1219 = .ok (.aload_n 0, 1) ∧ decode cL_law 1220 = .ok (.iload 4, 2) ∧ decode cL_law 1222 = .ok (.iconst 3, 1) ∧ decode cL_law 1223 = .ok (.iadd, 1) ∧ decode cL_law 1224 = .ok (.iaload, 1) ∧ decode cL_law 1225 = .ok (.invokevirtual 136, 3) ∧ decode cL_law 1228 = .ok (.pop, 1) ∧ True := zj_of zk_763L
abbrev dL_law_1213 := zr_763L.1
abbrev dL_law_1214 := zr_763L.2.1
abbrev dL_law_1216 := zr_763L.2.2.1
abbrev dL_law_1217 := zr_763L.2.2.2.1
abbrev dL_law_1218 := zr_763L.2.2.2.2.1
abbrev dL_law_1219 := zr_763L.2.2.2.2.2.1
abbrev dL_law_1220 := zr_763L.2.2.2.2.2.2.1
abbrev dL_law_1222 := zr_763L.2.2.2.2.2.2.2.1
abbrev dL_law_1223 := zr_763L.2.2.2.2.2.2.2.2.1
abbrev dL_law_1224 := zr_763L.2.2.2.2.2.2.2.2.2.1
abbrev dL_law_1225 := zr_763L.2.2.2.2.2.2.2.2.2.2.1
abbrev dL_law_1228 := zr_763L.2.2.2.2.2.2.2.2.2.2.2.1
set_option maxRecDepth 100000 in
theorem zk_764L : zck 1229 (cL_law.data.toList.drop 1229) [(1229, .goto 607, 3), (1232, .aload_n 1, 1), (1233, .aload_n 0, 1), (1234, .iload 4, 2), (1236, .iconst 1, 1), (1237, .iadd, 1), (1238, .iaload, 1), (1239, .aload_n 0, 1), (1240, .iload 4, 2), (1242, .iconst 2, 1), (1243, .iadd, 1), (1244, .iaload, 1)] = true := by decide +kernel
theorem zr_764L : decode cL_law 1229 = .ok (.goto 607, 3) ∧ decode cL_law 1232 = .ok (.aload_n 1, 1) ∧ decode cL_law 1233 = .ok (.aload_n 0, 1) ∧ decode cL_law 1234 = .ok (.iload 4, 2) ∧ decode cL_law 1236 = .ok (.iconst 1, 1) ∧ decode cL_law 1237 = .ok (.iadd, 1) ∧ decode cL_law 1238 = .ok (.iaload, 1) ∧ decode cL_law 1239 = .ok (.aload_n 0, 1) ∧ decode cL_law 1240 = .ok (.iload 4, 2) ∧ decode cL_law 1242 = .ok (.iconst 2, 1) ∧ decode cL_law 1243 = .ok (.iadd, 1) ∧ decode cL_law 1244 = .ok (.iaload, 1) ∧ True := zj_of zk_764L
abbrev dL_law_1229 := zr_764L.1
abbrev dL_law_1232 := zr_764L.2.1
abbrev dL_law_1233 := zr_764L.2.2.1
abbrev dL_law_1234 := zr_764L.2.2.2.1
abbrev dL_law_1236 := zr_764L.2.2.2.2.1
abbrev dL_law_1237 := zr_764L.2.2.2.2.2.1
abbrev dL_law_1238 := zr_764L.2.2.2.2.2.2.1
abbrev dL_law_1239 := zr_764L.2.2.2.2.2.2.2.1
abbrev dL_law_1240 := zr_764L.2.2.2.2.2.2.2.2.1
abbrev dL_law_1242 := zr_764L.2.2.2.2.2.2.2.2.2.1
abbrev dL_law_1243 := zr_764L.2.2.2.2.2.2.2.2.2.2.1
abbrev dL_law_1244 := zr_764L.2.2.2.2.2.2.2.2.2.2.2.1
set_option maxRecDepth 100000 in
theorem zk_765L : zck 1245 (cL_law.data.toList.drop 1245) [(1245, .aload_n 0, 1), (1246, .iload 4, 2), (1248, .iconst 3, 1), (1249, .iadd, 1), (1250, .iaload, 1), (1251, .invokevirtual 137, 3), (1254, .pop, 1), (1255, .aload_n 2, 1), (1256, .aload_n 0, 1), (1257, .iload 4, 2), (1259, .iconst 1, 1), (1260, .iadd, 1)] = true := by decide +kernel
theorem zr_765L : decode cL_law 1245 = .ok (.aload_n 0, 1) ∧ decode cL_law 1246 = .ok (.iload 4, 2) ∧ decode cL_law 1248 = .ok (.iconst 3, 1) ∧ decode cL_law 1249 = .ok (.iadd, 1) ∧ decode cL_law 1250 = .ok (.iaload, 1) ∧ decode cL_law 1251 = .ok (.invokevirtual 137, 3) ∧ decode cL_law 1254 = .ok (.pop, 1) ∧ decode cL_law 1255 = .ok (.aload_n 2, 1) ∧ decode cL_law 1256 = .ok (.aload_n 0, 1) ∧ decode cL_law 1257 = .ok (.iload 4, 2) ∧ decode cL_law 1259 = .ok (.iconst 1, 1) ∧ decode cL_law 1260 = .ok (.iadd, 1) ∧ True := zj_of zk_765L
abbrev dL_law_1245 := zr_765L.1
abbrev dL_law_1246 := zr_765L.2.1
abbrev dL_law_1248 := zr_765L.2.2.1
abbrev dL_law_1249 := zr_765L.2.2.2.1
abbrev dL_law_1250 := zr_765L.2.2.2.2.1
abbrev dL_law_1251 := zr_765L.2.2.2.2.2.1
abbrev dL_law_1254 := zr_765L.2.2.2.2.2.2.1
abbrev dL_law_1255 := zr_765L.2.2.2.2.2.2.2.1
abbrev dL_law_1256 := zr_765L.2.2.2.2.2.2.2.2.1
abbrev dL_law_1257 := zr_765L.2.2.2.2.2.2.2.2.2.1
abbrev dL_law_1259 := zr_765L.2.2.2.2.2.2.2.2.2.2.1
abbrev dL_law_1260 := zr_765L.2.2.2.2.2.2.2.2.2.2.2.1
set_option maxRecDepth 100000 in
theorem zk_766L : zck 1261 (cL_law.data.toList.drop 1261) [(1261, .iaload, 1), (1262, .aload_n 0, 1), (1263, .iload 4, 2), (1265, .iconst 2, 1)] = true := by decide +kernel
theorem zr_766L : decode cL_law 1261 = .ok (.iaload, 1) ∧ decode cL_law 1262 = .ok (.aload_n 0, 1) ∧ decode cL_law 1263 = .ok (.iload 4, 2) ∧ decode cL_law 1265 = .ok (.iconst 2, 1) ∧ True := zj_of zk_766L
abbrev dL_law_1261 := zr_766L.1
abbrev dL_law_1262 := zr_766L.2.1
abbrev dL_law_1263 := zr_766L.2.2.1
abbrev dL_law_1265 := zr_766L.2.2.2.1
