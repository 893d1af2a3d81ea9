theorem qw_28 : (Jvm.Cond.instantiable "RingKeepers" (19 : Nat)) ∈ mx_wall := mx_w 209 (by decide +kernel) (by decide +kernel)
theorem qw_474 : (Jvm.Cond.methodLink "RingKeepersLaw" (22 : Nat) ({ cls := "RingKeepers", name := "feed", desc := "(IIIII)I" } : Jvm.MethodName)) ∈ mx_wall := mx_w 655 (by decide +kernel) (by decide +kernel)
theorem qw_475 : (Jvm.Cond.instanceMethod ({ cls := "RingKeepers", name := "feed", desc := "(IIIII)I" } : Jvm.MethodName)) ∈ mx_wall := mx_w 656 (by decide +kernel) (by decide +kernel)
theorem qw_476 : (Jvm.Cond.selects "RingKeepers" ({ cls := "RingKeepers", name := "feed", desc := "(IIIII)I" } : Jvm.MethodName) ({ cls := "RingKeepers", name := "feed", desc := "(IIIII)I" } : Jvm.MethodName)) ∈ mx_wall := mx_w 657 (by decide +kernel) (by decide +kernel)
theorem qw_477 : (Jvm.Cond.code ({ cls := "RingKeepers", name := "feed", desc := "(IIIII)I" } : Jvm.MethodName) prog_1_method_2_code (6 : Nat) (Option.some Jvm.ClassFile.FieldType.int)) ∈ mx_wall := mx_w 658 (by decide +kernel) (by decide +kernel)
theorem qw_486 : (Jvm.Cond.methodLink "RingKeepersLaw" (27 : Nat) ({ cls := "RingKeepers", name := "end", desc := "(I)Z" } : Jvm.MethodName)) ∈ mx_wall := mx_w 667 (by decide +kernel) (by decide +kernel)
theorem qw_487 : (Jvm.Cond.instanceMethod ({ cls := "RingKeepers", name := "end", desc := "(I)Z" } : Jvm.MethodName)) ∈ mx_wall := mx_w 668 (by decide +kernel) (by decide +kernel)
theorem qw_488 : (Jvm.Cond.selects "RingKeepers" ({ cls := "RingKeepers", name := "end", desc := "(I)Z" } : Jvm.MethodName) ({ cls := "RingKeepers", name := "end", desc := "(I)Z" } : Jvm.MethodName)) ∈ mx_wall := mx_w 669 (by decide +kernel) (by decide +kernel)
theorem qw_489 : (Jvm.Cond.code ({ cls := "RingKeepers", name := "end", desc := "(I)Z" } : Jvm.MethodName) prog_1_method_3_code (2 : Nat) (Option.some Jvm.ClassFile.FieldType.boolean)) ∈ mx_wall := mx_w 670 (by decide +kernel) (by decide +kernel)
theorem qw_494 : (Jvm.Cond.methodLink "RingKeepersLaw" (32 : Nat) ({ cls := "RingKeepers", name := "island", desc := "()I" } : Jvm.MethodName)) ∈ mx_wall := mx_w 675 (by decide +kernel) (by decide +kernel)
theorem qw_495 : (Jvm.Cond.instanceMethod ({ cls := "RingKeepers", name := "island", desc := "()I" } : Jvm.MethodName)) ∈ mx_wall := mx_w 676 (by decide +kernel) (by decide +kernel)
theorem qw_496 : (Jvm.Cond.selects "RingKeepers" ({ cls := "RingKeepers", name := "island", desc := "()I" } : Jvm.MethodName) ({ cls := "RingKeepers", name := "island", desc := "()I" } : Jvm.MethodName)) ∈ mx_wall := mx_w 677 (by decide +kernel) (by decide +kernel)
theorem qw_497 : (Jvm.Cond.code ({ cls := "RingKeepers", name := "island", desc := "()I" } : Jvm.MethodName) prog_1_method_4_code (2 : Nat) (Option.some Jvm.ClassFile.FieldType.int)) ∈ mx_wall := mx_w 678 (by decide +kernel) (by decide +kernel)
theorem qw_650 : (Jvm.Cond.methodLink "RingKeepersLaw" (37 : Nat) ({ cls := "RingKeepers", name := "fault", desc := "()I" } : Jvm.MethodName)) ∈ mx_wall := mx_w 831 (by decide +kernel) (by decide +kernel)
theorem qw_651 : (Jvm.Cond.instanceMethod ({ cls := "RingKeepers", name := "fault", desc := "()I" } : Jvm.MethodName)) ∈ mx_wall := mx_w 832 (by decide +kernel) (by decide +kernel)
theorem qw_652 : (Jvm.Cond.selects "RingKeepers" ({ cls := "RingKeepers", name := "fault", desc := "()I" } : Jvm.MethodName) ({ cls := "RingKeepers", name := "fault", desc := "()I" } : Jvm.MethodName)) ∈ mx_wall := mx_w 833 (by decide +kernel) (by decide +kernel)
theorem qw_653 : (Jvm.Cond.code ({ cls := "RingKeepers", name := "fault", desc := "()I" } : Jvm.MethodName) prog_1_method_5_code (1 : Nat) (Option.some Jvm.ClassFile.FieldType.int)) ∈ mx_wall := mx_w 834 (by decide +kernel) (by decide +kernel)
theorem qw_654 : (Jvm.Cond.methodLink "RingKeepersLaw" (53 : Nat) ({ cls := "RingKeepers", name := "fits", desc := "(II)I" } : Jvm.MethodName)) ∈ mx_wall := mx_w 835 (by decide +kernel) (by decide +kernel)
theorem qw_655 : (Jvm.Cond.instanceMethod ({ cls := "RingKeepers", name := "fits", desc := "(II)I" } : Jvm.MethodName)) ∈ mx_wall := mx_w 836 (by decide +kernel) (by decide +kernel)
theorem qw_656 : (Jvm.Cond.selects "RingKeepers" ({ cls := "RingKeepers", name := "fits", desc := "(II)I" } : Jvm.MethodName) ({ cls := "RingKeepers", name := "fits", desc := "(II)I" } : Jvm.MethodName)) ∈ mx_wall := mx_w 837 (by decide +kernel) (by decide +kernel)
theorem qw_657 : (Jvm.Cond.code ({ cls := "RingKeepers", name := "fits", desc := "(II)I" } : Jvm.MethodName) prog_1_method_8_code (3 : Nat) (Option.some Jvm.ClassFile.FieldType.int)) ∈ mx_wall := mx_w 838 (by decide +kernel) (by decide +kernel)
theorem qw_670 : (Jvm.Cond.methodLink "RingKeepersLaw" (57 : Nat) ({ cls := "RingKeepers", name := "now", desc := "(I)I" } : Jvm.MethodName)) ∈ mx_wall := mx_w 851 (by decide +kernel) (by decide +kernel)
theorem qw_671 : (Jvm.Cond.instanceMethod ({ cls := "RingKeepers", name := "now", desc := "(I)I" } : Jvm.MethodName)) ∈ mx_wall := mx_w 852 (by decide +kernel) (by decide +kernel)
theorem qw_672 : (Jvm.Cond.selects "RingKeepers" ({ cls := "RingKeepers", name := "now", desc := "(I)I" } : Jvm.MethodName) ({ cls := "RingKeepers", name := "now", desc := "(I)I" } : Jvm.MethodName)) ∈ mx_wall := mx_w 853 (by decide +kernel) (by decide +kernel)
theorem qw_673 : (Jvm.Cond.code ({ cls := "RingKeepers", name := "now", desc := "(I)I" } : Jvm.MethodName) prog_1_method_9_code (2 : Nat) (Option.some Jvm.ClassFile.FieldType.int)) ∈ mx_wall := mx_w 854 (by decide +kernel) (by decide +kernel)
theorem qw_686 : (Jvm.Cond.methodLink "RingKeepersLaw" (62 : Nat) ({ cls := "RingKeepers", name := "go", desc := "(III)I" } : Jvm.MethodName)) ∈ mx_wall := mx_w 867 (by decide +kernel) (by decide +kernel)
theorem qw_687 : (Jvm.Cond.instanceMethod ({ cls := "RingKeepers", name := "go", desc := "(III)I" } : Jvm.MethodName)) ∈ mx_wall := mx_w 868 (by decide +kernel) (by decide +kernel)
theorem qw_688 : (Jvm.Cond.selects "RingKeepers" ({ cls := "RingKeepers", name := "go", desc := "(III)I" } : Jvm.MethodName) ({ cls := "RingKeepers", name := "go", desc := "(III)I" } : Jvm.MethodName)) ∈ mx_wall := mx_w 869 (by decide +kernel) (by decide +kernel)
theorem qw_689 : (Jvm.Cond.code ({ cls := "RingKeepers", name := "go", desc := "(III)I" } : Jvm.MethodName) prog_1_method_10_code (4 : Nat) (Option.some Jvm.ClassFile.FieldType.int)) ∈ mx_wall := mx_w 870 (by decide +kernel) (by decide +kernel)
theorem qw_722 : (Jvm.Cond.methodLink "RingKeepersLaw" (67 : Nat) ({ cls := "RingKeepers", name := "hand", desc := "(III)I" } : Jvm.MethodName)) ∈ mx_wall := mx_w 903 (by decide +kernel) (by decide +kernel)
theorem qw_723 : (Jvm.Cond.instanceMethod ({ cls := "RingKeepers", name := "hand", desc := "(III)I" } : Jvm.MethodName)) ∈ mx_wall := mx_w 904 (by decide +kernel) (by decide +kernel)
theorem qw_724 : (Jvm.Cond.selects "RingKeepers" ({ cls := "RingKeepers", name := "hand", desc := "(III)I" } : Jvm.MethodName) ({ cls := "RingKeepers", name := "hand", desc := "(III)I" } : Jvm.MethodName)) ∈ mx_wall := mx_w 905 (by decide +kernel) (by decide +kernel)
theorem qw_725 : (Jvm.Cond.code ({ cls := "RingKeepers", name := "hand", desc := "(III)I" } : Jvm.MethodName) prog_1_method_11_code (4 : Nat) (Option.some Jvm.ClassFile.FieldType.int)) ∈ mx_wall := mx_w 906 (by decide +kernel) (by decide +kernel)
theorem qw_738 : (Jvm.Cond.methodLink "RingKeepersLaw" (71 : Nat) ({ cls := "RingKeepers", name := "wear", desc := "(II)I" } : Jvm.MethodName)) ∈ mx_wall := mx_w 919 (by decide +kernel) (by decide +kernel)
theorem qw_739 : (Jvm.Cond.instanceMethod ({ cls := "RingKeepers", name := "wear", desc := "(II)I" } : Jvm.MethodName)) ∈ mx_wall := mx_w 920 (by decide +kernel) (by decide +kernel)
theorem qw_740 : (Jvm.Cond.selects "RingKeepers" ({ cls := "RingKeepers", name := "wear", desc := "(II)I" } : Jvm.MethodName) ({ cls := "RingKeepers", name := "wear", desc := "(II)I" } : Jvm.MethodName)) ∈ mx_wall := mx_w 921 (by decide +kernel) (by decide +kernel)
theorem qw_741 : (Jvm.Cond.code ({ cls := "RingKeepers", name := "wear", desc := "(II)I" } : Jvm.MethodName) prog_1_method_12_code (3 : Nat) (Option.some Jvm.ClassFile.FieldType.int)) ∈ mx_wall := mx_w 922 (by decide +kernel) (by decide +kernel)
theorem qw_751 : (Jvm.Cond.methodLink "RingKeepersLaw" (75 : Nat) ({ cls := "RingKeepers", name := "doff", desc := "(I)I" } : Jvm.MethodName)) ∈ mx_wall := mx_w 932 (by decide +kernel) (by decide +kernel)
theorem qw_752 : (Jvm.Cond.instanceMethod ({ cls := "RingKeepers", name := "doff", desc := "(I)I" } : Jvm.MethodName)) ∈ mx_wall := mx_w 933 (by decide +kernel) (by decide +kernel)
theorem qw_753 : (Jvm.Cond.selects "RingKeepers" ({ cls := "RingKeepers", name := "doff", desc := "(I)I" } : Jvm.MethodName) ({ cls := "RingKeepers", name := "doff", desc := "(I)I" } : Jvm.MethodName)) ∈ mx_wall := mx_w 934 (by decide +kernel) (by decide +kernel)
theorem qw_754 : (Jvm.Cond.code ({ cls := "RingKeepers", name := "doff", desc := "(I)I" } : Jvm.MethodName) prog_1_method_13_code (2 : Nat) (Option.some Jvm.ClassFile.FieldType.int)) ∈ mx_wall := mx_w 935 (by decide +kernel) (by decide +kernel)
theorem qw_759 : (Jvm.Cond.methodLink "RingKeepersLaw" (79 : Nat) ({ cls := "RingKeepers", name := "find", desc := "(II)I" } : Jvm.MethodName)) ∈ mx_wall := mx_w 940 (by decide +kernel) (by decide +kernel)
theorem qw_760 : (Jvm.Cond.instanceMethod ({ cls := "RingKeepers", name := "find", desc := "(II)I" } : Jvm.MethodName)) ∈ mx_wall := mx_w 941 (by decide +kernel) (by decide +kernel)
theorem qw_761 : (Jvm.Cond.selects "RingKeepers" ({ cls := "RingKeepers", name := "find", desc := "(II)I" } : Jvm.MethodName) ({ cls := "RingKeepers", name := "find", desc := "(II)I" } : Jvm.MethodName)) ∈ mx_wall := mx_w 942 (by decide +kernel) (by decide +kernel)
theorem qw_762 : (Jvm.Cond.code ({ cls := "RingKeepers", name := "find", desc := "(II)I" } : Jvm.MethodName) prog_1_method_14_code (3 : Nat) (Option.some Jvm.ClassFile.FieldType.int)) ∈ mx_wall := mx_w 943 (by decide +kernel) (by decide +kernel)
theorem qw_767 : (Jvm.Cond.methodLink "RingKeepersLaw" (83 : Nat) ({ cls := "RingKeepers", name := "days", desc := "(I)I" } : Jvm.MethodName)) ∈ mx_wall := mx_w 948 (by decide +kernel) (by decide +kernel)
theorem qw_768 : (Jvm.Cond.instanceMethod ({ cls := "RingKeepers", name := "days", desc := "(I)I" } : Jvm.MethodName)) ∈ mx_wall := mx_w 949 (by decide +kernel) (by decide +kernel)
theorem qw_769 : (Jvm.Cond.selects "RingKeepers" ({ cls := "RingKeepers", name := "days", desc := "(I)I" } : Jvm.MethodName) ({ cls := "RingKeepers", name := "days", desc := "(I)I" } : Jvm.MethodName)) ∈ mx_wall := mx_w 950 (by decide +kernel) (by decide +kernel)
theorem qw_770 : (Jvm.Cond.code ({ cls := "RingKeepers", name := "days", desc := "(I)I" } : Jvm.MethodName) prog_1_method_15_code (2 : Nat) (Option.some Jvm.ClassFile.FieldType.int)) ∈ mx_wall := mx_w 951 (by decide +kernel) (by decide +kernel)
theorem qw_797 : (Jvm.Cond.methodLink "RingKeepersLaw" (87 : Nat) ({ cls := "RingKeepers", name := "undo", desc := "()I" } : Jvm.MethodName)) ∈ mx_wall := mx_w 978 (by decide +kernel) (by decide +kernel)
theorem qw_798 : (Jvm.Cond.instanceMethod ({ cls := "RingKeepers", name := "undo", desc := "()I" } : Jvm.MethodName)) ∈ mx_wall := mx_w 979 (by decide +kernel) (by decide +kernel)
theorem qw_799 : (Jvm.Cond.selects "RingKeepers" ({ cls := "RingKeepers", name := "undo", desc := "()I" } : Jvm.MethodName) ({ cls := "RingKeepers", name := "undo", desc := "()I" } : Jvm.MethodName)) ∈ mx_wall := mx_w 980 (by decide +kernel) (by decide +kernel)
theorem qw_800 : (Jvm.Cond.code ({ cls := "RingKeepers", name := "undo", desc := "()I" } : Jvm.MethodName) prog_1_method_16_code (1 : Nat) (Option.some Jvm.ClassFile.FieldType.int)) ∈ mx_wall := mx_w 981 (by decide +kernel) (by decide +kernel)
theorem qw_805 : (Jvm.Cond.methodLink "RingKeepersLaw" (91 : Nat) ({ cls := "RingKeepers", name := "reach", desc := "(I)I" } : Jvm.MethodName)) ∈ mx_wall := mx_w 986 (by decide +kernel) (by decide +kernel)
theorem qw_806 : (Jvm.Cond.instanceMethod ({ cls := "RingKeepers", name := "reach", desc := "(I)I" } : Jvm.MethodName)) ∈ mx_wall := mx_w 987 (by decide +kernel) (by decide +kernel)
theorem qw_807 : (Jvm.Cond.selects "RingKeepers" ({ cls := "RingKeepers", name := "reach", desc := "(I)I" } : Jvm.MethodName) ({ cls := "RingKeepers", name := "reach", desc := "(I)I" } : Jvm.MethodName)) ∈ mx_wall := mx_w 988 (by decide +kernel) (by decide +kernel)
theorem qw_808 : (Jvm.Cond.code ({ cls := "RingKeepers", name := "reach", desc := "(I)I" } : Jvm.MethodName) prog_1_method_17_code (2 : Nat) (Option.some Jvm.ClassFile.FieldType.int)) ∈ mx_wall := mx_w 989 (by decide +kernel) (by decide +kernel)
theorem qw_822 : (Jvm.Cond.methodLink "RingKeepersLaw" (95 : Nat) ({ cls := "RingKeepers", name := "inTime", desc := "()I" } : Jvm.MethodName)) ∈ mx_wall := mx_w 1003 (by decide +kernel) (by decide +kernel)
theorem qw_823 : (Jvm.Cond.instanceMethod ({ cls := "RingKeepers", name := "inTime", desc := "()I" } : Jvm.MethodName)) ∈ mx_wall := mx_w 1004 (by decide +kernel) (by decide +kernel)
theorem qw_824 : (Jvm.Cond.selects "RingKeepers" ({ cls := "RingKeepers", name := "inTime", desc := "()I" } : Jvm.MethodName) ({ cls := "RingKeepers", name := "inTime", desc := "()I" } : Jvm.MethodName)) ∈ mx_wall := mx_w 1005 (by decide +kernel) (by decide +kernel)
theorem qw_825 : (Jvm.Cond.code ({ cls := "RingKeepers", name := "inTime", desc := "()I" } : Jvm.MethodName) prog_1_method_18_code (3 : Nat) (Option.some Jvm.ClassFile.FieldType.int)) ∈ mx_wall := mx_w 1006 (by decide +kernel) (by decide +kernel)
theorem qw_826 : (Jvm.Cond.methodLink "RingKeepersLaw" (99 : Nat) ({ cls := "RingKeepers", name := "tour", desc := "(I)I" } : Jvm.MethodName)) ∈ mx_wall := mx_w 1007 (by decide +kernel) (by decide +kernel)
theorem qw_827 : (Jvm.Cond.instanceMethod ({ cls := "RingKeepers", name := "tour", desc := "(I)I" } : Jvm.MethodName)) ∈ mx_wall := mx_w 1008 (by decide +kernel) (by decide +kernel)
theorem qw_828 : (Jvm.Cond.selects "RingKeepers" ({ cls := "RingKeepers", name := "tour", desc := "(I)I" } : Jvm.MethodName) ({ cls := "RingKeepers", name := "tour", desc := "(I)I" } : Jvm.MethodName)) ∈ mx_wall := mx_w 1009 (by decide +kernel) (by decide +kernel)
theorem qw_829 : (Jvm.Cond.code ({ cls := "RingKeepers", name := "tour", desc := "(I)I" } : Jvm.MethodName) prog_1_method_19_code (2 : Nat) (Option.some Jvm.ClassFile.FieldType.int)) ∈ mx_wall := mx_w 1010 (by decide +kernel) (by decide +kernel)
theorem qw_859 : (Jvm.Cond.methodLink "RingKeepersLaw" (103 : Nat) ({ cls := "RingKeepers", name := "tourAt", desc := "(I)I" } : Jvm.MethodName)) ∈ mx_wall := mx_w 1040 (by decide +kernel) (by decide +kernel)
theorem qw_860 : (Jvm.Cond.instanceMethod ({ cls := "RingKeepers", name := "tourAt", desc := "(I)I" } : Jvm.MethodName)) ∈ mx_wall := mx_w 1041 (by decide +kernel) (by decide +kernel)
theorem qw_861 : (Jvm.Cond.selects "RingKeepers" ({ cls := "RingKeepers", name := "tourAt", desc := "(I)I" } : Jvm.MethodName) ({ cls := "RingKeepers", name := "tourAt", desc := "(I)I" } : Jvm.MethodName)) ∈ mx_wall := mx_w 1042 (by decide +kernel) (by decide +kernel)
theorem qw_862 : (Jvm.Cond.code ({ cls := "RingKeepers", name := "tourAt", desc := "(I)I" } : Jvm.MethodName) prog_1_method_20_code (2 : Nat) (Option.some Jvm.ClassFile.FieldType.int)) ∈ mx_wall := mx_w 1043 (by decide +kernel) (by decide +kernel)
theorem qw_863 : (Jvm.Cond.methodLink "RingKeepersLaw" (107 : Nat) ({ cls := "RingKeepers", name := "keepers", desc := "()I" } : Jvm.MethodName)) ∈ mx_wall := mx_w 1044 (by decide +kernel) (by decide +kernel)
theorem qw_864 : (Jvm.Cond.instanceMethod ({ cls := "RingKeepers", name := "keepers", desc := "()I" } : Jvm.MethodName)) ∈ mx_wall := mx_w 1045 (by decide +kernel) (by decide +kernel)
theorem qw_865 : (Jvm.Cond.selects "RingKeepers" ({ cls := "RingKeepers", name := "keepers", desc := "()I" } : Jvm.MethodName) ({ cls := "RingKeepers", name := "keepers", desc := "()I" } : Jvm.MethodName)) ∈ mx_wall := mx_w 1046 (by decide +kernel) (by decide +kernel)
theorem qw_866 : (Jvm.Cond.code ({ cls := "RingKeepers", name := "keepers", desc := "()I" } : Jvm.MethodName) prog_1_method_21_code (1 : Nat) (Option.some Jvm.ClassFile.FieldType.int)) ∈ mx_wall := mx_w 1047 (by decide +kernel) (by decide +kernel)
theorem qw_891 : (Jvm.Cond.methodLink "RingKeepersLaw" (111 : Nat) ({ cls := "RingKeepers", name := "keeperOf", desc := "(I)I" } : Jvm.MethodName)) ∈ mx_wall := mx_w 1072 (by decide +kernel) (by decide +kernel)
theorem qw_892 : (Jvm.Cond.instanceMethod ({ cls := "RingKeepers", name := "keeperOf", desc := "(I)I" } : Jvm.MethodName)) ∈ mx_wall := mx_w 1073 (by decide +kernel) (by decide +kernel)
theorem qw_893 : (Jvm.Cond.selects "RingKeepers" ({ cls := "RingKeepers", name := "keeperOf", desc := "(I)I" } : Jvm.MethodName) ({ cls := "RingKeepers", name := "keeperOf", desc := "(I)I" } : Jvm.MethodName)) ∈ mx_wall := mx_w 1074 (by decide +kernel) (by decide +kernel)
theorem qw_894 : (Jvm.Cond.code ({ cls := "RingKeepers", name := "keeperOf", desc := "(I)I" } : Jvm.MethodName) prog_1_method_22_code (2 : Nat) (Option.some Jvm.ClassFile.FieldType.int)) ∈ mx_wall := mx_w 1075 (by decide +kernel) (by decide +kernel)
theorem qw_895 : (Jvm.Cond.methodLink "RingKeepersLaw" (115 : Nat) ({ cls := "RingKeepers", name := "sizes", desc := "()I" } : Jvm.MethodName)) ∈ mx_wall := mx_w 1076 (by decide +kernel) (by decide +kernel)
theorem qw_896 : (Jvm.Cond.instanceMethod ({ cls := "RingKeepers", name := "sizes", desc := "()I" } : Jvm.MethodName)) ∈ mx_wall := mx_w 1077 (by decide +kernel) (by decide +kernel)
theorem qw_897 : (Jvm.Cond.selects "RingKeepers" ({ cls := "RingKeepers", name := "sizes", desc := "()I" } : Jvm.MethodName) ({ cls := "RingKeepers", name := "sizes", desc := "()I" } : Jvm.MethodName)) ∈ mx_wall := mx_w 1078 (by decide +kernel) (by decide +kernel)
theorem qw_898 : (Jvm.Cond.code ({ cls := "RingKeepers", name := "sizes", desc := "()I" } : Jvm.MethodName) prog_1_method_23_code (2 : Nat) (Option.some Jvm.ClassFile.FieldType.int)) ∈ mx_wall := mx_w 1079 (by decide +kernel) (by decide +kernel)
theorem qw_926 : (Jvm.Cond.methodLink "RingKeepersLaw" (119 : Nat) ({ cls := "RingKeepers", name := "sizeLeast", desc := "()I" } : Jvm.MethodName)) ∈ mx_wall := mx_w 1107 (by decide +kernel) (by decide +kernel)
theorem qw_927 : (Jvm.Cond.instanceMethod ({ cls := "RingKeepers", name := "sizeLeast", desc := "()I" } : Jvm.MethodName)) ∈ mx_wall := mx_w 1108 (by decide +kernel) (by decide +kernel)
theorem qw_928 : (Jvm.Cond.selects "RingKeepers" ({ cls := "RingKeepers", name := "sizeLeast", desc := "()I" } : Jvm.MethodName) ({ cls := "RingKeepers", name := "sizeLeast", desc := "()I" } : Jvm.MethodName)) ∈ mx_wall := mx_w 1109 (by decide +kernel) (by decide +kernel)
theorem qw_929 : (Jvm.Cond.code ({ cls := "RingKeepers", name := "sizeLeast", desc := "()I" } : Jvm.MethodName) prog_1_method_24_code (1 : Nat) (Option.some Jvm.ClassFile.FieldType.int)) ∈ mx_wall := mx_w 1110 (by decide +kernel) (by decide +kernel)
theorem qw_930 : (Jvm.Cond.methodLink "RingKeepersLaw" (123 : Nat) ({ cls := "RingKeepers", name := "knuckle", desc := "()I" } : Jvm.MethodName)) ∈ mx_wall := mx_w 1111 (by decide +kernel) (by decide +kernel)
theorem qw_931 : (Jvm.Cond.instanceMethod ({ cls := "RingKeepers", name := "knuckle", desc := "()I" } : Jvm.MethodName)) ∈ mx_wall := mx_w 1112 (by decide +kernel) (by decide +kernel)
theorem qw_932 : (Jvm.Cond.selects "RingKeepers" ({ cls := "RingKeepers", name := "knuckle", desc := "()I" } : Jvm.MethodName) ({ cls := "RingKeepers", name := "knuckle", desc := "()I" } : Jvm.MethodName)) ∈ mx_wall := mx_w 1113 (by decide +kernel) (by decide +kernel)
theorem qw_933 : (Jvm.Cond.code ({ cls := "RingKeepers", name := "knuckle", desc := "()I" } : Jvm.MethodName) prog_1_method_25_code (1 : Nat) (Option.some Jvm.ClassFile.FieldType.int)) ∈ mx_wall := mx_w 1114 (by decide +kernel) (by decide +kernel)
theorem qw_934 : (Jvm.Cond.methodLink "RingKeepersLaw" (127 : Nat) ({ cls := "RingKeepers", name := "ways", desc := "()I" } : Jvm.MethodName)) ∈ mx_wall := mx_w 1115 (by decide +kernel) (by decide +kernel)
theorem qw_935 : (Jvm.Cond.instanceMethod ({ cls := "RingKeepers", name := "ways", desc := "()I" } : Jvm.MethodName)) ∈ mx_wall := mx_w 1116 (by decide +kernel) (by decide +kernel)
theorem qw_936 : (Jvm.Cond.selects "RingKeepers" ({ cls := "RingKeepers", name := "ways", desc := "()I" } : Jvm.MethodName) ({ cls := "RingKeepers", name := "ways", desc := "()I" } : Jvm.MethodName)) ∈ mx_wall := mx_w 1117 (by decide +kernel) (by decide +kernel)
theorem qw_937 : (Jvm.Cond.code ({ cls := "RingKeepers", name := "ways", desc := "()I" } : Jvm.MethodName) prog_1_method_26_code (1 : Nat) (Option.some Jvm.ClassFile.FieldType.int)) ∈ mx_wall := mx_w 1118 (by decide +kernel) (by decide +kernel)
theorem qw_953 : (Jvm.Cond.methodLink "RingKeepersLaw" (131 : Nat) ({ cls := "RingKeepers", name := "likely", desc := "(I)I" } : Jvm.MethodName)) ∈ mx_wall := mx_w 1134 (by decide +kernel) (by decide +kernel)
theorem qw_954 : (Jvm.Cond.instanceMethod ({ cls := "RingKeepers", name := "likely", desc := "(I)I" } : Jvm.MethodName)) ∈ mx_wall := mx_w 1135 (by decide +kernel) (by decide +kernel)
theorem qw_955 : (Jvm.Cond.selects "RingKeepers" ({ cls := "RingKeepers", name := "likely", desc := "(I)I" } : Jvm.MethodName) ({ cls := "RingKeepers", name := "likely", desc := "(I)I" } : Jvm.MethodName)) ∈ mx_wall := mx_w 1136 (by decide +kernel) (by decide +kernel)
theorem qw_956 : (Jvm.Cond.code ({ cls := "RingKeepers", name := "likely", desc := "(I)I" } : Jvm.MethodName) prog_1_method_27_code (2 : Nat) (Option.some Jvm.ClassFile.FieldType.int)) ∈ mx_wall := mx_w 1137 (by decide +kernel) (by decide +kernel)
theorem qw_965 : (Jvm.Cond.methodLink "RingKeepersLaw" (135 : Nat) ({ cls := "RingKeepers", name := "chain", desc := "(I)I" } : Jvm.MethodName)) ∈ mx_wall := mx_w 1146 (by decide +kernel) (by decide +kernel)
theorem qw_966 : (Jvm.Cond.instanceMethod ({ cls := "RingKeepers", name := "chain", desc := "(I)I" } : Jvm.MethodName)) ∈ mx_wall := mx_w 1147 (by decide +kernel) (by decide +kernel)
theorem qw_967 : (Jvm.Cond.selects "RingKeepers" ({ cls := "RingKeepers", name := "chain", desc := "(I)I" } : Jvm.MethodName) ({ cls := "RingKeepers", name := "chain", desc := "(I)I" } : Jvm.MethodName)) ∈ mx_wall := mx_w 1148 (by decide +kernel) (by decide +kernel)
theorem qw_968 : (Jvm.Cond.code ({ cls := "RingKeepers", name := "chain", desc := "(I)I" } : Jvm.MethodName) prog_1_method_28_code (2 : Nat) (Option.some Jvm.ClassFile.FieldType.int)) ∈ mx_wall := mx_w 1149 (by decide +kernel) (by decide +kernel)
theorem qw_977 : (Jvm.Cond.methodLink "RingKeepersLaw" (139 : Nat) ({ cls := "RingKeepers", name := "closed", desc := "(I)I" } : Jvm.MethodName)) ∈ mx_wall := mx_w 1158 (by decide +kernel) (by decide +kernel)
theorem qw_978 : (Jvm.Cond.instanceMethod ({ cls := "RingKeepers", name := "closed", desc := "(I)I" } : Jvm.MethodName)) ∈ mx_wall := mx_w 1159 (by decide +kernel) (by decide +kernel)
theorem qw_979 : (Jvm.Cond.selects "RingKeepers" ({ cls := "RingKeepers", name := "closed", desc := "(I)I" } : Jvm.MethodName) ({ cls := "RingKeepers", name := "closed", desc := "(I)I" } : Jvm.MethodName)) ∈ mx_wall := mx_w 1160 (by decide +kernel) (by decide +kernel)
theorem qw_980 : (Jvm.Cond.code ({ cls := "RingKeepers", name := "closed", desc := "(I)I" } : Jvm.MethodName) prog_1_method_29_code (2 : Nat) (Option.some Jvm.ClassFile.FieldType.int)) ∈ mx_wall := mx_w 1161 (by decide +kernel) (by decide +kernel)
theorem qw_981 : (Jvm.Cond.methodLink "RingKeepersLaw" (143 : Nat) ({ cls := "RingKeepers", name := "note", desc := "(I)I" } : Jvm.MethodName)) ∈ mx_wall := mx_w 1162 (by decide +kernel) (by decide +kernel)
theorem qw_982 : (Jvm.Cond.instanceMethod ({ cls := "RingKeepers", name := "note", desc := "(I)I" } : Jvm.MethodName)) ∈ mx_wall := mx_w 1163 (by decide +kernel) (by decide +kernel)
theorem qw_983 : (Jvm.Cond.selects "RingKeepers" ({ cls := "RingKeepers", name := "note", desc := "(I)I" } : Jvm.MethodName) ({ cls := "RingKeepers", name := "note", desc := "(I)I" } : Jvm.MethodName)) ∈ mx_wall := mx_w 1164 (by decide +kernel) (by decide +kernel)
theorem qw_984 : (Jvm.Cond.code ({ cls := "RingKeepers", name := "note", desc := "(I)I" } : Jvm.MethodName) prog_1_method_30_code (2 : Nat) (Option.some Jvm.ClassFile.FieldType.int)) ∈ mx_wall := mx_w 1165 (by decide +kernel) (by decide +kernel)
theorem qw_1055 : (Jvm.Cond.methodLink "RingKeepersLaw" (147 : Nat) ({ cls := "RingKeepers", name := "byteAt", desc := "(I)I" } : Jvm.MethodName)) ∈ mx_wall := mx_w 1236 (by decide +kernel) (by decide +kernel)
theorem qw_1056 : (Jvm.Cond.instanceMethod ({ cls := "RingKeepers", name := "byteAt", desc := "(I)I" } : Jvm.MethodName)) ∈ mx_wall := mx_w 1237 (by decide +kernel) (by decide +kernel)
theorem qw_1057 : (Jvm.Cond.selects "RingKeepers" ({ cls := "RingKeepers", name := "byteAt", desc := "(I)I" } : Jvm.MethodName) ({ cls := "RingKeepers", name := "byteAt", desc := "(I)I" } : Jvm.MethodName)) ∈ mx_wall := mx_w 1238 (by decide +kernel) (by decide +kernel)
theorem qw_1058 : (Jvm.Cond.code ({ cls := "RingKeepers", name := "byteAt", desc := "(I)I" } : Jvm.MethodName) prog_1_method_31_code (2 : Nat) (Option.some Jvm.ClassFile.FieldType.int)) ∈ mx_wall := mx_w 1239 (by decide +kernel) (by decide +kernel)
theorem qw_1059 : (Jvm.Cond.methodLink "RingKeepersLaw" (151 : Nat) ({ cls := "RingKeepers", name := "drawn", desc := "(II)I" } : Jvm.MethodName)) ∈ mx_wall := mx_w 1240 (by decide +kernel) (by decide +kernel)
theorem qw_1060 : (Jvm.Cond.instanceMethod ({ cls := "RingKeepers", name := "drawn", desc := "(II)I" } : Jvm.MethodName)) ∈ mx_wall := mx_w 1241 (by decide +kernel) (by decide +kernel)
theorem qw_1061 : (Jvm.Cond.selects "RingKeepers" ({ cls := "RingKeepers", name := "drawn", desc := "(II)I" } : Jvm.MethodName) ({ cls := "RingKeepers", name := "drawn", desc := "(II)I" } : Jvm.MethodName)) ∈ mx_wall := mx_w 1242 (by decide +kernel) (by decide +kernel)
theorem qw_1062 : (Jvm.Cond.code ({ cls := "RingKeepers", name := "drawn", desc := "(II)I" } : Jvm.MethodName) prog_1_method_32_code (3 : Nat) (Option.some Jvm.ClassFile.FieldType.int)) ∈ mx_wall := mx_w 1243 (by decide +kernel) (by decide +kernel)
theorem qw_1080 : (Jvm.Cond.methodLink "RingKeepersLaw" (155 : Nat) ({ cls := "RingKeepers", name := "odds", desc := "(III)I" } : Jvm.MethodName)) ∈ mx_wall := mx_w 1261 (by decide +kernel) (by decide +kernel)
theorem qw_1081 : (Jvm.Cond.instanceMethod ({ cls := "RingKeepers", name := "odds", desc := "(III)I" } : Jvm.MethodName)) ∈ mx_wall := mx_w 1262 (by decide +kernel) (by decide +kernel)
theorem qw_1082 : (Jvm.Cond.selects "RingKeepers" ({ cls := "RingKeepers", name := "odds", desc := "(III)I" } : Jvm.MethodName) ({ cls := "RingKeepers", name := "odds", desc := "(III)I" } : Jvm.MethodName)) ∈ mx_wall := mx_w 1263 (by decide +kernel) (by decide +kernel)
theorem qw_1083 : (Jvm.Cond.code ({ cls := "RingKeepers", name := "odds", desc := "(III)I" } : Jvm.MethodName) prog_1_method_33_code (6 : Nat) (Option.some Jvm.ClassFile.FieldType.int)) ∈ mx_wall := mx_w 1264 (by decide +kernel) (by decide +kernel)
theorem qw_1084 : (Jvm.Cond.methodLink "RingKeepersLaw" (159 : Nat) ({ cls := "RingKeepers", name := "book", desc := "(I)I" } : Jvm.MethodName)) ∈ mx_wall := mx_w 1265 (by decide +kernel) (by decide +kernel)
theorem qw_1085 : (Jvm.Cond.instanceMethod ({ cls := "RingKeepers", name := "book", desc := "(I)I" } : Jvm.MethodName)) ∈ mx_wall := mx_w 1266 (by decide +kernel) (by decide +kernel)
theorem qw_1086 : (Jvm.Cond.selects "RingKeepers" ({ cls := "RingKeepers", name := "book", desc := "(I)I" } : Jvm.MethodName) ({ cls := "RingKeepers", name := "book", desc := "(I)I" } : Jvm.MethodName)) ∈ mx_wall := mx_w 1267 (by decide +kernel) (by decide +kernel)
theorem qw_1087 : (Jvm.Cond.code ({ cls := "RingKeepers", name := "book", desc := "(I)I" } : Jvm.MethodName) prog_1_method_34_code (4 : Nat) (Option.some Jvm.ClassFile.FieldType.int)) ∈ mx_wall := mx_w 1268 (by decide +kernel) (by decide +kernel)
theorem qw_1148 : (Jvm.Cond.methodLink "RingKeepersLaw" (163 : Nat) ({ cls := "RingKeepers", name := "told", desc := "(I)I" } : Jvm.MethodName)) ∈ mx_wall := mx_w 1329 (by decide +kernel) (by decide +kernel)
theorem qw_1149 : (Jvm.Cond.instanceMethod ({ cls := "RingKeepers", name := "told", desc := "(I)I" } : Jvm.MethodName)) ∈ mx_wall := mx_w 1330 (by decide +kernel) (by decide +kernel)
theorem qw_1150 : (Jvm.Cond.selects "RingKeepers" ({ cls := "RingKeepers", name := "told", desc := "(I)I" } : Jvm.MethodName) ({ cls := "RingKeepers", name := "told", desc := "(I)I" } : Jvm.MethodName)) ∈ mx_wall := mx_w 1331 (by decide +kernel) (by decide +kernel)
theorem qw_1151 : (Jvm.Cond.code ({ cls := "RingKeepers", name := "told", desc := "(I)I" } : Jvm.MethodName) prog_1_method_35_code (2 : Nat) (Option.some Jvm.ClassFile.FieldType.int)) ∈ mx_wall := mx_w 1332 (by decide +kernel) (by decide +kernel)
theorem qw_1152 : (Jvm.Cond.methodLink "RingKeepersLaw" (167 : Nat) ({ cls := "RingKeepers", name := "sentence", desc := "()I" } : Jvm.MethodName)) ∈ mx_wall := mx_w 1333 (by decide +kernel) (by decide +kernel)
theorem qw_1153 : (Jvm.Cond.instanceMethod ({ cls := "RingKeepers", name := "sentence", desc := "()I" } : Jvm.MethodName)) ∈ mx_wall := mx_w 1334 (by decide +kernel) (by decide +kernel)
theorem qw_1154 : (Jvm.Cond.selects "RingKeepers" ({ cls := "RingKeepers", name := "sentence", desc := "()I" } : Jvm.MethodName) ({ cls := "RingKeepers", name := "sentence", desc := "()I" } : Jvm.MethodName)) ∈ mx_wall := mx_w 1335 (by decide +kernel) (by decide +kernel)
theorem qw_1155 : (Jvm.Cond.code ({ cls := "RingKeepers", name := "sentence", desc := "()I" } : Jvm.MethodName) prog_1_method_36_code (2 : Nat) (Option.some Jvm.ClassFile.FieldType.int)) ∈ mx_wall := mx_w 1336 (by decide +kernel) (by decide +kernel)
theorem qw_1215 : (Jvm.Cond.methodLink "RingKeepersLaw" (171 : Nat) ({ cls := "RingKeepers", name := "said", desc := "(I)I" } : Jvm.MethodName)) ∈ mx_wall := mx_w 1396 (by decide +kernel) (by decide +kernel)
theorem qw_1216 : (Jvm.Cond.instanceMethod ({ cls := "RingKeepers", name := "said", desc := "(I)I" } : Jvm.MethodName)) ∈ mx_wall := mx_w 1397 (by decide +kernel) (by decide +kernel)
theorem qw_1217 : (Jvm.Cond.selects "RingKeepers" ({ cls := "RingKeepers", name := "said", desc := "(I)I" } : Jvm.MethodName) ({ cls := "RingKeepers", name := "said", desc := "(I)I" } : Jvm.MethodName)) ∈ mx_wall := mx_w 1398 (by decide +kernel) (by decide +kernel)
theorem qw_1218 : (Jvm.Cond.code ({ cls := "RingKeepers", name := "said", desc := "(I)I" } : Jvm.MethodName) prog_1_method_37_code (4 : Nat) (Option.some Jvm.ClassFile.FieldType.int)) ∈ mx_wall := mx_w 1399 (by decide +kernel) (by decide +kernel)
theorem qw_1243 : (Jvm.Cond.methodLink "RingKeepersLaw" (175 : Nat) ({ cls := "RingKeepers", name := "image", desc := "(I)Z" } : Jvm.MethodName)) ∈ mx_wall := mx_w 1424 (by decide +kernel) (by decide +kernel)
theorem qw_1244 : (Jvm.Cond.instanceMethod ({ cls := "RingKeepers", name := "image", desc := "(I)Z" } : Jvm.MethodName)) ∈ mx_wall := mx_w 1425 (by decide +kernel) (by decide +kernel)
theorem qw_1245 : (Jvm.Cond.selects "RingKeepers" ({ cls := "RingKeepers", name := "image", desc := "(I)Z" } : Jvm.MethodName) ({ cls := "RingKeepers", name := "image", desc := "(I)Z" } : Jvm.MethodName)) ∈ mx_wall := mx_w 1426 (by decide +kernel) (by decide +kernel)
theorem qw_1246 : (Jvm.Cond.code ({ cls := "RingKeepers", name := "image", desc := "(I)Z" } : Jvm.MethodName) prog_1_method_38_code (2 : Nat) (Option.some Jvm.ClassFile.FieldType.boolean)) ∈ mx_wall := mx_w 1427 (by decide +kernel) (by decide +kernel)
theorem qw_1247 : (Jvm.Cond.methodLink "RingKeepersLaw" (179 : Nat) ({ cls := "RingKeepers", name := "restore", desc := "(I)Z" } : Jvm.MethodName)) ∈ mx_wall := mx_w 1428 (by decide +kernel) (by decide +kernel)
theorem qw_1248 : (Jvm.Cond.instanceMethod ({ cls := "RingKeepers", name := "restore", desc := "(I)Z" } : Jvm.MethodName)) ∈ mx_wall := mx_w 1429 (by decide +kernel) (by decide +kernel)
theorem qw_1249 : (Jvm.Cond.selects "RingKeepers" ({ cls := "RingKeepers", name := "restore", desc := "(I)Z" } : Jvm.MethodName) ({ cls := "RingKeepers", name := "restore", desc := "(I)Z" } : Jvm.MethodName)) ∈ mx_wall := mx_w 1430 (by decide +kernel) (by decide +kernel)
theorem qw_1250 : (Jvm.Cond.code ({ cls := "RingKeepers", name := "restore", desc := "(I)Z" } : Jvm.MethodName) prog_1_method_39_code (2 : Nat) (Option.some Jvm.ClassFile.FieldType.boolean)) ∈ mx_wall := mx_w 1431 (by decide +kernel) (by decide +kernel)
theorem qw_1251 : (Jvm.Cond.methodLink "RingKeepersLaw" (183 : Nat) ({ cls := "RingKeepers", name := "count", desc := "(I)I" } : Jvm.MethodName)) ∈ mx_wall := mx_w 1432 (by decide +kernel) (by decide +kernel)
theorem qw_1252 : (Jvm.Cond.instanceMethod ({ cls := "RingKeepers", name := "count", desc := "(I)I" } : Jvm.MethodName)) ∈ mx_wall := mx_w 1433 (by decide +kernel) (by decide +kernel)
theorem qw_1253 : (Jvm.Cond.selects "RingKeepers" ({ cls := "RingKeepers", name := "count", desc := "(I)I" } : Jvm.MethodName) ({ cls := "RingKeepers", name := "count", desc := "(I)I" } : Jvm.MethodName)) ∈ mx_wall := mx_w 1434 (by decide +kernel) (by decide +kernel)
theorem qw_1254 : (Jvm.Cond.code ({ cls := "RingKeepers", name := "count", desc := "(I)I" } : Jvm.MethodName) prog_1_method_40_code (2 : Nat) (Option.some Jvm.ClassFile.FieldType.int)) ∈ mx_wall := mx_w 1435 (by decide +kernel) (by decide +kernel)
theorem qw_1340 : (Jvm.Cond.methodLink "RingKeepersLaw" (26 : Nat) ({ cls := "RingKeepersModel", name := "feed", desc := "(IIIII)I" } : Jvm.MethodName)) ∈ mx_wall := mx_w 1521 (by decide +kernel) (by decide +kernel)
theorem qw_1341 : (Jvm.Cond.instanceMethod ({ cls := "RingKeepersModel", name := "feed", desc := "(IIIII)I" } : Jvm.MethodName)) ∈ mx_wall := mx_w 1522 (by decide +kernel) (by decide +kernel)
theorem qw_1342 : (Jvm.Cond.selects "RingKeepersModel" ({ cls := "RingKeepersModel", name := "feed", desc := "(IIIII)I" } : Jvm.MethodName) ({ cls := "RingKeepersModel", name := "feed", desc := "(IIIII)I" } : Jvm.MethodName)) ∈ mx_wall := mx_w 1523 (by decide +kernel) (by decide +kernel)
theorem qw_1343 : (Jvm.Cond.code ({ cls := "RingKeepersModel", name := "feed", desc := "(IIIII)I" } : Jvm.MethodName) prog_15_method_3_code (6 : Nat) (Option.some Jvm.ClassFile.FieldType.int)) ∈ mx_wall := mx_w 1524 (by decide +kernel) (by decide +kernel)
theorem qw_1349 : (Jvm.Cond.methodLink "RingKeepersLaw" (31 : Nat) ({ cls := "RingKeepersModel", name := "end", desc := "(I)Z" } : Jvm.MethodName)) ∈ mx_wall := mx_w 1530 (by decide +kernel) (by decide +kernel)
theorem qw_1350 : (Jvm.Cond.instanceMethod ({ cls := "RingKeepersModel", name := "end", desc := "(I)Z" } : Jvm.MethodName)) ∈ mx_wall := mx_w 1531 (by decide +kernel) (by decide +kernel)
theorem qw_1351 : (Jvm.Cond.selects "RingKeepersModel" ({ cls := "RingKeepersModel", name := "end", desc := "(I)Z" } : Jvm.MethodName) ({ cls := "RingKeepersModel", name := "end", desc := "(I)Z" } : Jvm.MethodName)) ∈ mx_wall := mx_w 1532 (by decide +kernel) (by decide +kernel)
theorem qw_1352 : (Jvm.Cond.code ({ cls := "RingKeepersModel", name := "end", desc := "(I)Z" } : Jvm.MethodName) prog_15_method_5_code (2 : Nat) (Option.some Jvm.ClassFile.FieldType.boolean)) ∈ mx_wall := mx_w 1533 (by decide +kernel) (by decide +kernel)
theorem qw_1542 : (Jvm.Cond.methodLink "RingKeepersLaw" (36 : Nat) ({ cls := "RingKeepersModel", name := "island", desc := "()I" } : Jvm.MethodName)) ∈ mx_wall := mx_w 1723 (by decide +kernel) (by decide +kernel)
theorem qw_1543 : (Jvm.Cond.instanceMethod ({ cls := "RingKeepersModel", name := "island", desc := "()I" } : Jvm.MethodName)) ∈ mx_wall := mx_w 1724 (by decide +kernel) (by decide +kernel)
theorem qw_1544 : (Jvm.Cond.selects "RingKeepersModel" ({ cls := "RingKeepersModel", name := "island", desc := "()I" } : Jvm.MethodName) ({ cls := "RingKeepersModel", name := "island", desc := "()I" } : Jvm.MethodName)) ∈ mx_wall := mx_w 1725 (by decide +kernel) (by decide +kernel)
theorem qw_1545 : (Jvm.Cond.code ({ cls := "RingKeepersModel", name := "island", desc := "()I" } : Jvm.MethodName) prog_15_method_35_code (2 : Nat) (Option.some Jvm.ClassFile.FieldType.int)) ∈ mx_wall := mx_w 1726 (by decide +kernel) (by decide +kernel)
theorem qw_1630 : (Jvm.Cond.methodLink "RingKeepersLaw" (40 : Nat) ({ cls := "RingKeepersModel", name := "fault", desc := "()I" } : Jvm.MethodName)) ∈ mx_wall := mx_w 1811 (by decide +kernel) (by decide +kernel)
theorem qw_1631 : (Jvm.Cond.instanceMethod ({ cls := "RingKeepersModel", name := "fault", desc := "()I" } : Jvm.MethodName)) ∈ mx_wall := mx_w 1812 (by decide +kernel) (by decide +kernel)
theorem qw_1632 : (Jvm.Cond.selects "RingKeepersModel" ({ cls := "RingKeepersModel", name := "fault", desc := "()I" } : Jvm.MethodName) ({ cls := "RingKeepersModel", name := "fault", desc := "()I" } : Jvm.MethodName)) ∈ mx_wall := mx_w 1813 (by decide +kernel) (by decide +kernel)
theorem qw_1633 : (Jvm.Cond.code ({ cls := "RingKeepersModel", name := "fault", desc := "()I" } : Jvm.MethodName) prog_15_method_36_code (1 : Nat) (Option.some Jvm.ClassFile.FieldType.int)) ∈ mx_wall := mx_w 1814 (by decide +kernel) (by decide +kernel)
theorem qw_1670 : (Jvm.Cond.methodLink "RingKeepersLaw" (56 : Nat) ({ cls := "RingKeepersModel", name := "fits", desc := "(II)I" } : Jvm.MethodName)) ∈ mx_wall := mx_w 1851 (by decide +kernel) (by decide +kernel)
theorem qw_1671 : (Jvm.Cond.instanceMethod ({ cls := "RingKeepersModel", name := "fits", desc := "(II)I" } : Jvm.MethodName)) ∈ mx_wall := mx_w 1852 (by decide +kernel) (by decide +kernel)
theorem qw_1672 : (Jvm.Cond.selects "RingKeepersModel" ({ cls := "RingKeepersModel", name := "fits", desc := "(II)I" } : Jvm.MethodName) ({ cls := "RingKeepersModel", name := "fits", desc := "(II)I" } : Jvm.MethodName)) ∈ mx_wall := mx_w 1853 (by decide +kernel) (by decide +kernel)
theorem qw_1673 : (Jvm.Cond.code ({ cls := "RingKeepersModel", name := "fits", desc := "(II)I" } : Jvm.MethodName) prog_15_method_51_code (3 : Nat) (Option.some Jvm.ClassFile.FieldType.int)) ∈ mx_wall := mx_w 1854 (by decide +kernel) (by decide +kernel)
theorem qw_1678 : (Jvm.Cond.methodLink "RingKeepersLaw" (61 : Nat) ({ cls := "RingKeepersModel", name := "now", desc := "(I)I" } : Jvm.MethodName)) ∈ mx_wall := mx_w 1859 (by decide +kernel) (by decide +kernel)
theorem qw_1679 : (Jvm.Cond.instanceMethod ({ cls := "RingKeepersModel", name := "now", desc := "(I)I" } : Jvm.MethodName)) ∈ mx_wall := mx_w 1860 (by decide +kernel) (by decide +kernel)
theorem qw_1680 : (Jvm.Cond.selects "RingKeepersModel" ({ cls := "RingKeepersModel", name := "now", desc := "(I)I" } : Jvm.MethodName) ({ cls := "RingKeepersModel", name := "now", desc := "(I)I" } : Jvm.MethodName)) ∈ mx_wall := mx_w 1861 (by decide +kernel) (by decide +kernel)
theorem qw_1681 : (Jvm.Cond.code ({ cls := "RingKeepersModel", name := "now", desc := "(I)I" } : Jvm.MethodName) prog_15_method_52_code (2 : Nat) (Option.some Jvm.ClassFile.FieldType.int)) ∈ mx_wall := mx_w 1862 (by decide +kernel) (by decide +kernel)
theorem qw_1686 : (Jvm.Cond.methodLink "RingKeepersLaw" (66 : Nat) ({ cls := "RingKeepersModel", name := "go", desc := "(III)I" } : Jvm.MethodName)) ∈ mx_wall := mx_w 1867 (by decide +kernel) (by decide +kernel)
theorem qw_1687 : (Jvm.Cond.instanceMethod ({ cls := "RingKeepersModel", name := "go", desc := "(III)I" } : Jvm.MethodName)) ∈ mx_wall := mx_w 1868 (by decide +kernel) (by decide +kernel)
theorem qw_1688 : (Jvm.Cond.selects "RingKeepersModel" ({ cls := "RingKeepersModel", name := "go", desc := "(III)I" } : Jvm.MethodName) ({ cls := "RingKeepersModel", name := "go", desc := "(III)I" } : Jvm.MethodName)) ∈ mx_wall := mx_w 1869 (by decide +kernel) (by decide +kernel)
theorem qw_1689 : (Jvm.Cond.code ({ cls := "RingKeepersModel", name := "go", desc := "(III)I" } : Jvm.MethodName) prog_15_method_62_code (5 : Nat) (Option.some Jvm.ClassFile.FieldType.int)) ∈ mx_wall := mx_w 1870 (by decide +kernel) (by decide +kernel)
theorem qw_1709 : (Jvm.Cond.methodLink "RingKeepersLaw" (70 : Nat) ({ cls := "RingKeepersModel", name := "hand", desc := "(III)I" } : Jvm.MethodName)) ∈ mx_wall := mx_w 1890 (by decide +kernel) (by decide +kernel)
theorem qw_1710 : (Jvm.Cond.instanceMethod ({ cls := "RingKeepersModel", name := "hand", desc := "(III)I" } : Jvm.MethodName)) ∈ mx_wall := mx_w 1891 (by decide +kernel) (by decide +kernel)
theorem qw_1711 : (Jvm.Cond.selects "RingKeepersModel" ({ cls := "RingKeepersModel", name := "hand", desc := "(III)I" } : Jvm.MethodName) ({ cls := "RingKeepersModel", name := "hand", desc := "(III)I" } : Jvm.MethodName)) ∈ mx_wall := mx_w 1892 (by decide +kernel) (by decide +kernel)
theorem qw_1712 : (Jvm.Cond.code ({ cls := "RingKeepersModel", name := "hand", desc := "(III)I" } : Jvm.MethodName) prog_15_method_63_code (5 : Nat) (Option.some Jvm.ClassFile.FieldType.int)) ∈ mx_wall := mx_w 1893 (by decide +kernel) (by decide +kernel)
theorem qw_1725 : (Jvm.Cond.methodLink "RingKeepersLaw" (74 : Nat) ({ cls := "RingKeepersModel", name := "wear", desc := "(II)I" } : Jvm.MethodName)) ∈ mx_wall := mx_w 1906 (by decide +kernel) (by decide +kernel)
theorem qw_1726 : (Jvm.Cond.instanceMethod ({ cls := "RingKeepersModel", name := "wear", desc := "(II)I" } : Jvm.MethodName)) ∈ mx_wall := mx_w 1907 (by decide +kernel) (by decide +kernel)
theorem qw_1727 : (Jvm.Cond.selects "RingKeepersModel" ({ cls := "RingKeepersModel", name := "wear", desc := "(II)I" } : Jvm.MethodName) ({ cls := "RingKeepersModel", name := "wear", desc := "(II)I" } : Jvm.MethodName)) ∈ mx_wall := mx_w 1908 (by decide +kernel) (by decide +kernel)
theorem qw_1728 : (Jvm.Cond.code ({ cls := "RingKeepersModel", name := "wear", desc := "(II)I" } : Jvm.MethodName) prog_15_method_64_code (4 : Nat) (Option.some Jvm.ClassFile.FieldType.int)) ∈ mx_wall := mx_w 1909 (by decide +kernel) (by decide +kernel)
theorem qw_1737 : (Jvm.Cond.methodLink "RingKeepersLaw" (78 : Nat) ({ cls := "RingKeepersModel", name := "doff", desc := "(I)I" } : Jvm.MethodName)) ∈ mx_wall := mx_w 1918 (by decide +kernel) (by decide +kernel)
theorem qw_1738 : (Jvm.Cond.instanceMethod ({ cls := "RingKeepersModel", name := "doff", desc := "(I)I" } : Jvm.MethodName)) ∈ mx_wall := mx_w 1919 (by decide +kernel) (by decide +kernel)
theorem qw_1739 : (Jvm.Cond.selects "RingKeepersModel" ({ cls := "RingKeepersModel", name := "doff", desc := "(I)I" } : Jvm.MethodName) ({ cls := "RingKeepersModel", name := "doff", desc := "(I)I" } : Jvm.MethodName)) ∈ mx_wall := mx_w 1920 (by decide +kernel) (by decide +kernel)
theorem qw_1740 : (Jvm.Cond.code ({ cls := "RingKeepersModel", name := "doff", desc := "(I)I" } : Jvm.MethodName) prog_15_method_65_code (2 : Nat) (Option.some Jvm.ClassFile.FieldType.int)) ∈ mx_wall := mx_w 1921 (by decide +kernel) (by decide +kernel)
theorem qw_1741 : (Jvm.Cond.methodLink "RingKeepersLaw" (82 : Nat) ({ cls := "RingKeepersModel", name := "find", desc := "(II)I" } : Jvm.MethodName)) ∈ mx_wall := mx_w 1922 (by decide +kernel) (by decide +kernel)
theorem qw_1742 : (Jvm.Cond.instanceMethod ({ cls := "RingKeepersModel", name := "find", desc := "(II)I" } : Jvm.MethodName)) ∈ mx_wall := mx_w 1923 (by decide +kernel) (by decide +kernel)
theorem qw_1743 : (Jvm.Cond.selects "RingKeepersModel" ({ cls := "RingKeepersModel", name := "find", desc := "(II)I" } : Jvm.MethodName) ({ cls := "RingKeepersModel", name := "find", desc := "(II)I" } : Jvm.MethodName)) ∈ mx_wall := mx_w 1924 (by decide +kernel) (by decide +kernel)
theorem qw_1744 : (Jvm.Cond.code ({ cls := "RingKeepersModel", name := "find", desc := "(II)I" } : Jvm.MethodName) prog_15_method_66_code (4 : Nat) (Option.some Jvm.ClassFile.FieldType.int)) ∈ mx_wall := mx_w 1925 (by decide +kernel) (by decide +kernel)
theorem qw_1753 : (Jvm.Cond.methodLink "RingKeepersLaw" (86 : Nat) ({ cls := "RingKeepersModel", name := "days", desc := "(I)I" } : Jvm.MethodName)) ∈ mx_wall := mx_w 1934 (by decide +kernel) (by decide +kernel)
theorem qw_1754 : (Jvm.Cond.instanceMethod ({ cls := "RingKeepersModel", name := "days", desc := "(I)I" } : Jvm.MethodName)) ∈ mx_wall := mx_w 1935 (by decide +kernel) (by decide +kernel)
theorem qw_1755 : (Jvm.Cond.selects "RingKeepersModel" ({ cls := "RingKeepersModel", name := "days", desc := "(I)I" } : Jvm.MethodName) ({ cls := "RingKeepersModel", name := "days", desc := "(I)I" } : Jvm.MethodName)) ∈ mx_wall := mx_w 1936 (by decide +kernel) (by decide +kernel)
theorem qw_1756 : (Jvm.Cond.code ({ cls := "RingKeepersModel", name := "days", desc := "(I)I" } : Jvm.MethodName) prog_15_method_67_code (2 : Nat) (Option.some Jvm.ClassFile.FieldType.int)) ∈ mx_wall := mx_w 1937 (by decide +kernel) (by decide +kernel)
theorem qw_1772 : (Jvm.Cond.methodLink "RingKeepersLaw" (90 : Nat) ({ cls := "RingKeepersModel", name := "undo", desc := "()I" } : Jvm.MethodName)) ∈ mx_wall := mx_w 1953 (by decide +kernel) (by decide +kernel)
theorem qw_1773 : (Jvm.Cond.instanceMethod ({ cls := "RingKeepersModel", name := "undo", desc := "()I" } : Jvm.MethodName)) ∈ mx_wall := mx_w 1954 (by decide +kernel) (by decide +kernel)
theorem qw_1774 : (Jvm.Cond.selects "RingKeepersModel" ({ cls := "RingKeepersModel", name := "undo", desc := "()I" } : Jvm.MethodName) ({ cls := "RingKeepersModel", name := "undo", desc := "()I" } : Jvm.MethodName)) ∈ mx_wall := mx_w 1955 (by decide +kernel) (by decide +kernel)
theorem qw_1775 : (Jvm.Cond.code ({ cls := "RingKeepersModel", name := "undo", desc := "()I" } : Jvm.MethodName) prog_15_method_69_code (2 : Nat) (Option.some Jvm.ClassFile.FieldType.int)) ∈ mx_wall := mx_w 1956 (by decide +kernel) (by decide +kernel)
theorem qw_1776 : (Jvm.Cond.methodLink "RingKeepersLaw" (94 : Nat) ({ cls := "RingKeepersModel", name := "reach", desc := "(I)I" } : Jvm.MethodName)) ∈ mx_wall := mx_w 1957 (by decide +kernel) (by decide +kernel)
theorem qw_1777 : (Jvm.Cond.instanceMethod ({ cls := "RingKeepersModel", name := "reach", desc := "(I)I" } : Jvm.MethodName)) ∈ mx_wall := mx_w 1958 (by decide +kernel) (by decide +kernel)
theorem qw_1778 : (Jvm.Cond.selects "RingKeepersModel" ({ cls := "RingKeepersModel", name := "reach", desc := "(I)I" } : Jvm.MethodName) ({ cls := "RingKeepersModel", name := "reach", desc := "(I)I" } : Jvm.MethodName)) ∈ mx_wall := mx_w 1959 (by decide +kernel) (by decide +kernel)
theorem qw_1779 : (Jvm.Cond.code ({ cls := "RingKeepersModel", name := "reach", desc := "(I)I" } : Jvm.MethodName) prog_15_method_74_code (2 : Nat) (Option.some Jvm.ClassFile.FieldType.int)) ∈ mx_wall := mx_w 1960 (by decide +kernel) (by decide +kernel)
theorem qw_1791 : (Jvm.Cond.methodLink "RingKeepersLaw" (98 : Nat) ({ cls := "RingKeepersModel", name := "inTime", desc := "()I" } : Jvm.MethodName)) ∈ mx_wall := mx_w 1972 (by decide +kernel) (by decide +kernel)
theorem qw_1792 : (Jvm.Cond.instanceMethod ({ cls := "RingKeepersModel", name := "inTime", desc := "()I" } : Jvm.MethodName)) ∈ mx_wall := mx_w 1973 (by decide +kernel) (by decide +kernel)
theorem qw_1793 : (Jvm.Cond.selects "RingKeepersModel" ({ cls := "RingKeepersModel", name := "inTime", desc := "()I" } : Jvm.MethodName) ({ cls := "RingKeepersModel", name := "inTime", desc := "()I" } : Jvm.MethodName)) ∈ mx_wall := mx_w 1974 (by decide +kernel) (by decide +kernel)
theorem qw_1794 : (Jvm.Cond.code ({ cls := "RingKeepersModel", name := "inTime", desc := "()I" } : Jvm.MethodName) prog_15_method_75_code (3 : Nat) (Option.some Jvm.ClassFile.FieldType.int)) ∈ mx_wall := mx_w 1975 (by decide +kernel) (by decide +kernel)
theorem qw_1795 : (Jvm.Cond.methodLink "RingKeepersLaw" (102 : Nat) ({ cls := "RingKeepersModel", name := "tour", desc := "(I)I" } : Jvm.MethodName)) ∈ mx_wall := mx_w 1976 (by decide +kernel) (by decide +kernel)
theorem qw_1796 : (Jvm.Cond.instanceMethod ({ cls := "RingKeepersModel", name := "tour", desc := "(I)I" } : Jvm.MethodName)) ∈ mx_wall := mx_w 1977 (by decide +kernel) (by decide +kernel)
theorem qw_1797 : (Jvm.Cond.selects "RingKeepersModel" ({ cls := "RingKeepersModel", name := "tour", desc := "(I)I" } : Jvm.MethodName) ({ cls := "RingKeepersModel", name := "tour", desc := "(I)I" } : Jvm.MethodName)) ∈ mx_wall := mx_w 1978 (by decide +kernel) (by decide +kernel)
theorem qw_1798 : (Jvm.Cond.code ({ cls := "RingKeepersModel", name := "tour", desc := "(I)I" } : Jvm.MethodName) prog_15_method_77_code (8 : Nat) (Option.some Jvm.ClassFile.FieldType.int)) ∈ mx_wall := mx_w 1979 (by decide +kernel) (by decide +kernel)
theorem qw_1804 : (Jvm.Cond.methodLink "RingKeepersLaw" (106 : Nat) ({ cls := "RingKeepersModel", name := "tourAt", desc := "(I)I" } : Jvm.MethodName)) ∈ mx_wall := mx_w 1985 (by decide +kernel) (by decide +kernel)
theorem qw_1805 : (Jvm.Cond.instanceMethod ({ cls := "RingKeepersModel", name := "tourAt", desc := "(I)I" } : Jvm.MethodName)) ∈ mx_wall := mx_w 1986 (by decide +kernel) (by decide +kernel)
theorem qw_1806 : (Jvm.Cond.selects "RingKeepersModel" ({ cls := "RingKeepersModel", name := "tourAt", desc := "(I)I" } : Jvm.MethodName) ({ cls := "RingKeepersModel", name := "tourAt", desc := "(I)I" } : Jvm.MethodName)) ∈ mx_wall := mx_w 1987 (by decide +kernel) (by decide +kernel)
theorem qw_1807 : (Jvm.Cond.code ({ cls := "RingKeepersModel", name := "tourAt", desc := "(I)I" } : Jvm.MethodName) prog_15_method_78_code (2 : Nat) (Option.some Jvm.ClassFile.FieldType.int)) ∈ mx_wall := mx_w 1988 (by decide +kernel) (by decide +kernel)
theorem qw_1808 : (Jvm.Cond.methodLink "RingKeepersLaw" (110 : Nat) ({ cls := "RingKeepersModel", name := "keepers", desc := "()I" } : Jvm.MethodName)) ∈ mx_wall := mx_w 1989 (by decide +kernel) (by decide +kernel)
theorem qw_1809 : (Jvm.Cond.instanceMethod ({ cls := "RingKeepersModel", name := "keepers", desc := "()I" } : Jvm.MethodName)) ∈ mx_wall := mx_w 1990 (by decide +kernel) (by decide +kernel)
theorem qw_1810 : (Jvm.Cond.selects "RingKeepersModel" ({ cls := "RingKeepersModel", name := "keepers", desc := "()I" } : Jvm.MethodName) ({ cls := "RingKeepersModel", name := "keepers", desc := "()I" } : Jvm.MethodName)) ∈ mx_wall := mx_w 1991 (by decide +kernel) (by decide +kernel)
theorem qw_1811 : (Jvm.Cond.code ({ cls := "RingKeepersModel", name := "keepers", desc := "()I" } : Jvm.MethodName) prog_15_method_81_code (6 : Nat) (Option.some Jvm.ClassFile.FieldType.int)) ∈ mx_wall := mx_w 1992 (by decide +kernel) (by decide +kernel)
theorem qw_1823 : (Jvm.Cond.methodLink "RingKeepersLaw" (114 : Nat) ({ cls := "RingKeepersModel", name := "keeperOf", desc := "(I)I" } : Jvm.MethodName)) ∈ mx_wall := mx_w 2004 (by decide +kernel) (by decide +kernel)
theorem qw_1824 : (Jvm.Cond.instanceMethod ({ cls := "RingKeepersModel", name := "keeperOf", desc := "(I)I" } : Jvm.MethodName)) ∈ mx_wall := mx_w 2005 (by decide +kernel) (by decide +kernel)
theorem qw_1825 : (Jvm.Cond.selects "RingKeepersModel" ({ cls := "RingKeepersModel", name := "keeperOf", desc := "(I)I" } : Jvm.MethodName) ({ cls := "RingKeepersModel", name := "keeperOf", desc := "(I)I" } : Jvm.MethodName)) ∈ mx_wall := mx_w 2006 (by decide +kernel) (by decide +kernel)
theorem qw_1826 : (Jvm.Cond.code ({ cls := "RingKeepersModel", name := "keeperOf", desc := "(I)I" } : Jvm.MethodName) prog_15_method_82_code (2 : Nat) (Option.some Jvm.ClassFile.FieldType.int)) ∈ mx_wall := mx_w 2007 (by decide +kernel) (by decide +kernel)
theorem qw_1827 : (Jvm.Cond.methodLink "RingKeepersLaw" (118 : Nat) ({ cls := "RingKeepersModel", name := "sizes", desc := "()I" } : Jvm.MethodName)) ∈ mx_wall := mx_w 2008 (by decide +kernel) (by decide +kernel)
theorem qw_1828 : (Jvm.Cond.instanceMethod ({ cls := "RingKeepersModel", name := "sizes", desc := "()I" } : Jvm.MethodName)) ∈ mx_wall := mx_w 2009 (by decide +kernel) (by decide +kernel)
theorem qw_1829 : (Jvm.Cond.selects "RingKeepersModel" ({ cls := "RingKeepersModel", name := "sizes", desc := "()I" } : Jvm.MethodName) ({ cls := "RingKeepersModel", name := "sizes", desc := "()I" } : Jvm.MethodName)) ∈ mx_wall := mx_w 2010 (by decide +kernel) (by decide +kernel)
theorem qw_1830 : (Jvm.Cond.code ({ cls := "RingKeepersModel", name := "sizes", desc := "()I" } : Jvm.MethodName) prog_15_method_85_code (4 : Nat) (Option.some Jvm.ClassFile.FieldType.int)) ∈ mx_wall := mx_w 2011 (by decide +kernel) (by decide +kernel)
theorem qw_1843 : (Jvm.Cond.methodLink "RingKeepersLaw" (122 : Nat) ({ cls := "RingKeepersModel", name := "sizeLeast", desc := "()I" } : Jvm.MethodName)) ∈ mx_wall := mx_w 2024 (by decide +kernel) (by decide +kernel)
theorem qw_1844 : (Jvm.Cond.instanceMethod ({ cls := "RingKeepersModel", name := "sizeLeast", desc := "()I" } : Jvm.MethodName)) ∈ mx_wall := mx_w 2025 (by decide +kernel) (by decide +kernel)
theorem qw_1845 : (Jvm.Cond.selects "RingKeepersModel" ({ cls := "RingKeepersModel", name := "sizeLeast", desc := "()I" } : Jvm.MethodName) ({ cls := "RingKeepersModel", name := "sizeLeast", desc := "()I" } : Jvm.MethodName)) ∈ mx_wall := mx_w 2026 (by decide +kernel) (by decide +kernel)
theorem qw_1846 : (Jvm.Cond.code ({ cls := "RingKeepersModel", name := "sizeLeast", desc := "()I" } : Jvm.MethodName) prog_15_method_86_code (1 : Nat) (Option.some Jvm.ClassFile.FieldType.int)) ∈ mx_wall := mx_w 2027 (by decide +kernel) (by decide +kernel)
theorem qw_1847 : (Jvm.Cond.methodLink "RingKeepersLaw" (126 : Nat) ({ cls := "RingKeepersModel", name := "knuckle", desc := "()I" } : Jvm.MethodName)) ∈ mx_wall := mx_w 2028 (by decide +kernel) (by decide +kernel)
theorem qw_1848 : (Jvm.Cond.instanceMethod ({ cls := "RingKeepersModel", name := "knuckle", desc := "()I" } : Jvm.MethodName)) ∈ mx_wall := mx_w 2029 (by decide +kernel) (by decide +kernel)
theorem qw_1849 : (Jvm.Cond.selects "RingKeepersModel" ({ cls := "RingKeepersModel", name := "knuckle", desc := "()I" } : Jvm.MethodName) ({ cls := "RingKeepersModel", name := "knuckle", desc := "()I" } : Jvm.MethodName)) ∈ mx_wall := mx_w 2030 (by decide +kernel) (by decide +kernel)
theorem qw_1850 : (Jvm.Cond.code ({ cls := "RingKeepersModel", name := "knuckle", desc := "()I" } : Jvm.MethodName) prog_15_method_87_code (1 : Nat) (Option.some Jvm.ClassFile.FieldType.int)) ∈ mx_wall := mx_w 2031 (by decide +kernel) (by decide +kernel)
theorem qw_1851 : (Jvm.Cond.methodLink "RingKeepersLaw" (130 : Nat) ({ cls := "RingKeepersModel", name := "ways", desc := "()I" } : Jvm.MethodName)) ∈ mx_wall := mx_w 2032 (by decide +kernel) (by decide +kernel)
theorem qw_1852 : (Jvm.Cond.instanceMethod ({ cls := "RingKeepersModel", name := "ways", desc := "()I" } : Jvm.MethodName)) ∈ mx_wall := mx_w 2033 (by decide +kernel) (by decide +kernel)
theorem qw_1853 : (Jvm.Cond.selects "RingKeepersModel" ({ cls := "RingKeepersModel", name := "ways", desc := "()I" } : Jvm.MethodName) ({ cls := "RingKeepersModel", name := "ways", desc := "()I" } : Jvm.MethodName)) ∈ mx_wall := mx_w 2034 (by decide +kernel) (by decide +kernel)
theorem qw_1854 : (Jvm.Cond.code ({ cls := "RingKeepersModel", name := "ways", desc := "()I" } : Jvm.MethodName) prog_15_method_89_code (1 : Nat) (Option.some Jvm.ClassFile.FieldType.int)) ∈ mx_wall := mx_w 2035 (by decide +kernel) (by decide +kernel)
theorem qw_1859 : (Jvm.Cond.methodLink "RingKeepersLaw" (134 : Nat) ({ cls := "RingKeepersModel", name := "likely", desc := "(I)I" } : Jvm.MethodName)) ∈ mx_wall := mx_w 2040 (by decide +kernel) (by decide +kernel)
theorem qw_1860 : (Jvm.Cond.instanceMethod ({ cls := "RingKeepersModel", name := "likely", desc := "(I)I" } : Jvm.MethodName)) ∈ mx_wall := mx_w 2041 (by decide +kernel) (by decide +kernel)
theorem qw_1861 : (Jvm.Cond.selects "RingKeepersModel" ({ cls := "RingKeepersModel", name := "likely", desc := "(I)I" } : Jvm.MethodName) ({ cls := "RingKeepersModel", name := "likely", desc := "(I)I" } : Jvm.MethodName)) ∈ mx_wall := mx_w 2042 (by decide +kernel) (by decide +kernel)
theorem qw_1862 : (Jvm.Cond.code ({ cls := "RingKeepersModel", name := "likely", desc := "(I)I" } : Jvm.MethodName) prog_15_method_91_code (6 : Nat) (Option.some Jvm.ClassFile.FieldType.int)) ∈ mx_wall := mx_w 2043 (by decide +kernel) (by decide +kernel)
theorem qw_1867 : (Jvm.Cond.methodLink "RingKeepersLaw" (138 : Nat) ({ cls := "RingKeepersModel", name := "chain", desc := "(I)I" } : Jvm.MethodName)) ∈ mx_wall := mx_w 2048 (by decide +kernel) (by decide +kernel)
theorem qw_1868 : (Jvm.Cond.instanceMethod ({ cls := "RingKeepersModel", name := "chain", desc := "(I)I" } : Jvm.MethodName)) ∈ mx_wall := mx_w 2049 (by decide +kernel) (by decide +kernel)
theorem qw_1869 : (Jvm.Cond.selects "RingKeepersModel" ({ cls := "RingKeepersModel", name := "chain", desc := "(I)I" } : Jvm.MethodName) ({ cls := "RingKeepersModel", name := "chain", desc := "(I)I" } : Jvm.MethodName)) ∈ mx_wall := mx_w 2050 (by decide +kernel) (by decide +kernel)
theorem qw_1870 : (Jvm.Cond.code ({ cls := "RingKeepersModel", name := "chain", desc := "(I)I" } : Jvm.MethodName) prog_15_method_94_code (2 : Nat) (Option.some Jvm.ClassFile.FieldType.int)) ∈ mx_wall := mx_w 2051 (by decide +kernel) (by decide +kernel)
theorem qw_1879 : (Jvm.Cond.methodLink "RingKeepersLaw" (142 : Nat) ({ cls := "RingKeepersModel", name := "closed", desc := "(I)I" } : Jvm.MethodName)) ∈ mx_wall := mx_w 2060 (by decide +kernel) (by decide +kernel)
theorem qw_1880 : (Jvm.Cond.instanceMethod ({ cls := "RingKeepersModel", name := "closed", desc := "(I)I" } : Jvm.MethodName)) ∈ mx_wall := mx_w 2061 (by decide +kernel) (by decide +kernel)
theorem qw_1881 : (Jvm.Cond.selects "RingKeepersModel" ({ cls := "RingKeepersModel", name := "closed", desc := "(I)I" } : Jvm.MethodName) ({ cls := "RingKeepersModel", name := "closed", desc := "(I)I" } : Jvm.MethodName)) ∈ mx_wall := mx_w 2062 (by decide +kernel) (by decide +kernel)
theorem qw_1882 : (Jvm.Cond.code ({ cls := "RingKeepersModel", name := "closed", desc := "(I)I" } : Jvm.MethodName) prog_15_method_95_code (2 : Nat) (Option.some Jvm.ClassFile.FieldType.int)) ∈ mx_wall := mx_w 2063 (by decide +kernel) (by decide +kernel)
theorem qw_1883 : (Jvm.Cond.methodLink "RingKeepersLaw" (146 : Nat) ({ cls := "RingKeepersModel", name := "note", desc := "(I)I" } : Jvm.MethodName)) ∈ mx_wall := mx_w 2064 (by decide +kernel) (by decide +kernel)
theorem qw_1884 : (Jvm.Cond.instanceMethod ({ cls := "RingKeepersModel", name := "note", desc := "(I)I" } : Jvm.MethodName)) ∈ mx_wall := mx_w 2065 (by decide +kernel) (by decide +kernel)
theorem qw_1885 : (Jvm.Cond.selects "RingKeepersModel" ({ cls := "RingKeepersModel", name := "note", desc := "(I)I" } : Jvm.MethodName) ({ cls := "RingKeepersModel", name := "note", desc := "(I)I" } : Jvm.MethodName)) ∈ mx_wall := mx_w 2066 (by decide +kernel) (by decide +kernel)
theorem qw_1886 : (Jvm.Cond.code ({ cls := "RingKeepersModel", name := "note", desc := "(I)I" } : Jvm.MethodName) prog_15_method_99_code (4 : Nat) (Option.some Jvm.ClassFile.FieldType.int)) ∈ mx_wall := mx_w 2067 (by decide +kernel) (by decide +kernel)
theorem qw_1901 : (Jvm.Cond.methodLink "RingKeepersLaw" (150 : Nat) ({ cls := "RingKeepersModel", name := "byteAt", desc := "(I)I" } : Jvm.MethodName)) ∈ mx_wall := mx_w 2082 (by decide +kernel) (by decide +kernel)
theorem qw_1902 : (Jvm.Cond.instanceMethod ({ cls := "RingKeepersModel", name := "byteAt", desc := "(I)I" } : Jvm.MethodName)) ∈ mx_wall := mx_w 2083 (by decide +kernel) (by decide +kernel)
theorem qw_1903 : (Jvm.Cond.selects "RingKeepersModel" ({ cls := "RingKeepersModel", name := "byteAt", desc := "(I)I" } : Jvm.MethodName) ({ cls := "RingKeepersModel", name := "byteAt", desc := "(I)I" } : Jvm.MethodName)) ∈ mx_wall := mx_w 2084 (by decide +kernel) (by decide +kernel)
theorem qw_1904 : (Jvm.Cond.code ({ cls := "RingKeepersModel", name := "byteAt", desc := "(I)I" } : Jvm.MethodName) prog_15_method_100_code (2 : Nat) (Option.some Jvm.ClassFile.FieldType.int)) ∈ mx_wall := mx_w 2085 (by decide +kernel) (by decide +kernel)
theorem qw_1905 : (Jvm.Cond.methodLink "RingKeepersLaw" (154 : Nat) ({ cls := "RingKeepersModel", name := "drawn", desc := "(II)I" } : Jvm.MethodName)) ∈ mx_wall := mx_w 2086 (by decide +kernel) (by decide +kernel)
theorem qw_1906 : (Jvm.Cond.instanceMethod ({ cls := "RingKeepersModel", name := "drawn", desc := "(II)I" } : Jvm.MethodName)) ∈ mx_wall := mx_w 2087 (by decide +kernel) (by decide +kernel)
theorem qw_1907 : (Jvm.Cond.selects "RingKeepersModel" ({ cls := "RingKeepersModel", name := "drawn", desc := "(II)I" } : Jvm.MethodName) ({ cls := "RingKeepersModel", name := "drawn", desc := "(II)I" } : Jvm.MethodName)) ∈ mx_wall := mx_w 2088 (by decide +kernel) (by decide +kernel)
theorem qw_1908 : (Jvm.Cond.code ({ cls := "RingKeepersModel", name := "drawn", desc := "(II)I" } : Jvm.MethodName) prog_15_method_104_code (3 : Nat) (Option.some Jvm.ClassFile.FieldType.int)) ∈ mx_wall := mx_w 2089 (by decide +kernel) (by decide +kernel)
theorem qw_1922 : (Jvm.Cond.methodLink "RingKeepersLaw" (158 : Nat) ({ cls := "RingKeepersModel", name := "odds", desc := "(III)I" } : Jvm.MethodName)) ∈ mx_wall := mx_w 2103 (by decide +kernel) (by decide +kernel)
theorem qw_1923 : (Jvm.Cond.instanceMethod ({ cls := "RingKeepersModel", name := "odds", desc := "(III)I" } : Jvm.MethodName)) ∈ mx_wall := mx_w 2104 (by decide +kernel) (by decide +kernel)
theorem qw_1924 : (Jvm.Cond.selects "RingKeepersModel" ({ cls := "RingKeepersModel", name := "odds", desc := "(III)I" } : Jvm.MethodName) ({ cls := "RingKeepersModel", name := "odds", desc := "(III)I" } : Jvm.MethodName)) ∈ mx_wall := mx_w 2105 (by decide +kernel) (by decide +kernel)
theorem qw_1925 : (Jvm.Cond.code ({ cls := "RingKeepersModel", name := "odds", desc := "(III)I" } : Jvm.MethodName) prog_15_method_105_code (6 : Nat) (Option.some Jvm.ClassFile.FieldType.int)) ∈ mx_wall := mx_w 2106 (by decide +kernel) (by decide +kernel)
theorem qw_1934 : (Jvm.Cond.methodLink "RingKeepersLaw" (162 : Nat) ({ cls := "RingKeepersModel", name := "book", desc := "(I)I" } : Jvm.MethodName)) ∈ mx_wall := mx_w 2115 (by decide +kernel) (by decide +kernel)
theorem qw_1935 : (Jvm.Cond.instanceMethod ({ cls := "RingKeepersModel", name := "book", desc := "(I)I" } : Jvm.MethodName)) ∈ mx_wall := mx_w 2116 (by decide +kernel) (by decide +kernel)
theorem qw_1936 : (Jvm.Cond.selects "RingKeepersModel" ({ cls := "RingKeepersModel", name := "book", desc := "(I)I" } : Jvm.MethodName) ({ cls := "RingKeepersModel", name := "book", desc := "(I)I" } : Jvm.MethodName)) ∈ mx_wall := mx_w 2117 (by decide +kernel) (by decide +kernel)
theorem qw_1937 : (Jvm.Cond.code ({ cls := "RingKeepersModel", name := "book", desc := "(I)I" } : Jvm.MethodName) prog_15_method_108_code (4 : Nat) (Option.some Jvm.ClassFile.FieldType.int)) ∈ mx_wall := mx_w 2118 (by decide +kernel) (by decide +kernel)
theorem qw_1946 : (Jvm.Cond.methodLink "RingKeepersLaw" (166 : Nat) ({ cls := "RingKeepersModel", name := "told", desc := "(I)I" } : Jvm.MethodName)) ∈ mx_wall := mx_w 2127 (by decide +kernel) (by decide +kernel)
theorem qw_1947 : (Jvm.Cond.instanceMethod ({ cls := "RingKeepersModel", name := "told", desc := "(I)I" } : Jvm.MethodName)) ∈ mx_wall := mx_w 2128 (by decide +kernel) (by decide +kernel)
theorem qw_1948 : (Jvm.Cond.selects "RingKeepersModel" ({ cls := "RingKeepersModel", name := "told", desc := "(I)I" } : Jvm.MethodName) ({ cls := "RingKeepersModel", name := "told", desc := "(I)I" } : Jvm.MethodName)) ∈ mx_wall := mx_w 2129 (by decide +kernel) (by decide +kernel)
theorem qw_1949 : (Jvm.Cond.code ({ cls := "RingKeepersModel", name := "told", desc := "(I)I" } : Jvm.MethodName) prog_15_method_109_code (2 : Nat) (Option.some Jvm.ClassFile.FieldType.int)) ∈ mx_wall := mx_w 2130 (by decide +kernel) (by decide +kernel)
theorem qw_1950 : (Jvm.Cond.methodLink "RingKeepersLaw" (170 : Nat) ({ cls := "RingKeepersModel", name := "sentence", desc := "()I" } : Jvm.MethodName)) ∈ mx_wall := mx_w 2131 (by decide +kernel) (by decide +kernel)
theorem qw_1951 : (Jvm.Cond.instanceMethod ({ cls := "RingKeepersModel", name := "sentence", desc := "()I" } : Jvm.MethodName)) ∈ mx_wall := mx_w 2132 (by decide +kernel) (by decide +kernel)
theorem qw_1952 : (Jvm.Cond.selects "RingKeepersModel" ({ cls := "RingKeepersModel", name := "sentence", desc := "()I" } : Jvm.MethodName) ({ cls := "RingKeepersModel", name := "sentence", desc := "()I" } : Jvm.MethodName)) ∈ mx_wall := mx_w 2133 (by decide +kernel) (by decide +kernel)
theorem qw_1953 : (Jvm.Cond.code ({ cls := "RingKeepersModel", name := "sentence", desc := "()I" } : Jvm.MethodName) prog_15_method_116_code (3 : Nat) (Option.some Jvm.ClassFile.FieldType.int)) ∈ mx_wall := mx_w 2134 (by decide +kernel) (by decide +kernel)
theorem qw_1978 : (Jvm.Cond.methodLink "RingKeepersLaw" (174 : Nat) ({ cls := "RingKeepersModel", name := "said", desc := "(I)I" } : Jvm.MethodName)) ∈ mx_wall := mx_w 2159 (by decide +kernel) (by decide +kernel)
theorem qw_1979 : (Jvm.Cond.instanceMethod ({ cls := "RingKeepersModel", name := "said", desc := "(I)I" } : Jvm.MethodName)) ∈ mx_wall := mx_w 2160 (by decide +kernel) (by decide +kernel)
theorem qw_1980 : (Jvm.Cond.selects "RingKeepersModel" ({ cls := "RingKeepersModel", name := "said", desc := "(I)I" } : Jvm.MethodName) ({ cls := "RingKeepersModel", name := "said", desc := "(I)I" } : Jvm.MethodName)) ∈ mx_wall := mx_w 2161 (by decide +kernel) (by decide +kernel)
theorem qw_1981 : (Jvm.Cond.code ({ cls := "RingKeepersModel", name := "said", desc := "(I)I" } : Jvm.MethodName) prog_15_method_120_code (4 : Nat) (Option.some Jvm.ClassFile.FieldType.int)) ∈ mx_wall := mx_w 2162 (by decide +kernel) (by decide +kernel)
theorem qw_1994 : (Jvm.Cond.methodLink "RingKeepersLaw" (178 : Nat) ({ cls := "RingKeepersModel", name := "image", desc := "(I)Z" } : Jvm.MethodName)) ∈ mx_wall := mx_w 2175 (by decide +kernel) (by decide +kernel)
theorem qw_1995 : (Jvm.Cond.instanceMethod ({ cls := "RingKeepersModel", name := "image", desc := "(I)Z" } : Jvm.MethodName)) ∈ mx_wall := mx_w 2176 (by decide +kernel) (by decide +kernel)
theorem qw_1996 : (Jvm.Cond.selects "RingKeepersModel" ({ cls := "RingKeepersModel", name := "image", desc := "(I)Z" } : Jvm.MethodName) ({ cls := "RingKeepersModel", name := "image", desc := "(I)Z" } : Jvm.MethodName)) ∈ mx_wall := mx_w 2177 (by decide +kernel) (by decide +kernel)
theorem qw_1997 : (Jvm.Cond.code ({ cls := "RingKeepersModel", name := "image", desc := "(I)Z" } : Jvm.MethodName) prog_15_method_121_code (3 : Nat) (Option.some Jvm.ClassFile.FieldType.boolean)) ∈ mx_wall := mx_w 2178 (by decide +kernel) (by decide +kernel)
theorem qw_1998 : (Jvm.Cond.methodLink "RingKeepersLaw" (182 : Nat) ({ cls := "RingKeepersModel", name := "restore", desc := "(I)Z" } : Jvm.MethodName)) ∈ mx_wall := mx_w 2179 (by decide +kernel) (by decide +kernel)
theorem qw_1999 : (Jvm.Cond.instanceMethod ({ cls := "RingKeepersModel", name := "restore", desc := "(I)Z" } : Jvm.MethodName)) ∈ mx_wall := mx_w 2180 (by decide +kernel) (by decide +kernel)
theorem qw_2000 : (Jvm.Cond.selects "RingKeepersModel" ({ cls := "RingKeepersModel", name := "restore", desc := "(I)Z" } : Jvm.MethodName) ({ cls := "RingKeepersModel", name := "restore", desc := "(I)Z" } : Jvm.MethodName)) ∈ mx_wall := mx_w 2181 (by decide +kernel) (by decide +kernel)
theorem qw_2001 : (Jvm.Cond.code ({ cls := "RingKeepersModel", name := "restore", desc := "(I)Z" } : Jvm.MethodName) prog_15_method_122_code (3 : Nat) (Option.some Jvm.ClassFile.FieldType.boolean)) ∈ mx_wall := mx_w 2182 (by decide +kernel) (by decide +kernel)
theorem qw_2002 : (Jvm.Cond.methodLink "RingKeepersLaw" (186 : Nat) ({ cls := "RingKeepersModel", name := "count", desc := "(I)I" } : Jvm.MethodName)) ∈ mx_wall := mx_w 2183 (by decide +kernel) (by decide +kernel)
theorem qw_2003 : (Jvm.Cond.instanceMethod ({ cls := "RingKeepersModel", name := "count", desc := "(I)I" } : Jvm.MethodName)) ∈ mx_wall := mx_w 2184 (by decide +kernel) (by decide +kernel)
theorem qw_2004 : (Jvm.Cond.selects "RingKeepersModel" ({ cls := "RingKeepersModel", name := "count", desc := "(I)I" } : Jvm.MethodName) ({ cls := "RingKeepersModel", name := "count", desc := "(I)I" } : Jvm.MethodName)) ∈ mx_wall := mx_w 2185 (by decide +kernel) (by decide +kernel)
theorem qw_2005 : (Jvm.Cond.code ({ cls := "RingKeepersModel", name := "count", desc := "(I)I" } : Jvm.MethodName) prog_15_method_123_code (2 : Nat) (Option.some Jvm.ClassFile.FieldType.int)) ∈ mx_wall := mx_w 2186 (by decide +kernel) (by decide +kernel)
theorem yo_X12_book : mx_Y yX12_book cX12_book 4 (some .int) 1 := ⟨qw_1087, qw_1, by decide +kernel, by decide⟩
theorem yo_X12_byteAt : mx_Y yX12_byteAt cX12_byteAt 2 (some .int) 1 := ⟨qw_1058, qw_1, by decide +kernel, by decide⟩
theorem yo_X12_chain : mx_Y yX12_chain cX12_chain 2 (some .int) 1 := ⟨qw_968, qw_1, by decide +kernel, by decide⟩
theorem yo_X12_closed : mx_Y yX12_closed cX12_closed 2 (some .int) 1 := ⟨qw_980, qw_1, by decide +kernel, by decide⟩
theorem yo_X12_count : mx_Y yX12_count cX12_count 2 (some .int) 1 := ⟨qw_1254, qw_1, by decide +kernel, by decide⟩
theorem yo_X12_days : mx_Y yX12_days cX12_days 2 (some .int) 1 := ⟨qw_770, qw_1, by decide +kernel, by decide⟩
theorem yo_X12_doff : mx_Y yX12_doff cX12_doff 2 (some .int) 1 := ⟨qw_754, qw_1, by decide +kernel, by decide⟩
theorem yo_X12_drawn : mx_Y yX12_drawn cX12_drawn 3 (some .int) 2 := ⟨qw_1062, qw_1, by decide +kernel, by decide⟩
theorem yo_X12_end : mx_Y yX12_end cX12_end 2 (some .boolean) 1 := ⟨qw_489, qw_1, by decide +kernel, by decide⟩
theorem yo_X12_fault : mx_Y yX12_fault cX12_fault 1 (some .int) 0 := ⟨qw_653, qw_1, by decide +kernel, by decide⟩
theorem yo_X12_feed : mx_Y yX12_feed cX12_feed 6 (some .int) 5 := ⟨qw_477, qw_1, by decide +kernel, by decide⟩
theorem yo_X12_find : mx_Y yX12_find cX12_find 3 (some .int) 2 := ⟨qw_762, qw_1, by decide +kernel, by decide⟩
theorem yo_X12_fits : mx_Y yX12_fits cX12_fits 3 (some .int) 2 := ⟨qw_657, qw_1, by decide +kernel, by decide⟩
theorem yo_X12_go : mx_Y yX12_go cX12_go 4 (some .int) 3 := ⟨qw_689, qw_1, by decide +kernel, by decide⟩
theorem yo_X12_hand : mx_Y yX12_hand cX12_hand 4 (some .int) 3 := ⟨qw_725, qw_1, by decide +kernel, by decide⟩
theorem yo_X12_image : mx_Y yX12_image cX12_image 2 (some .boolean) 1 := ⟨qw_1246, qw_1, by decide +kernel, by decide⟩
theorem yo_X12_inTime : mx_Y yX12_inTime cX12_inTime 3 (some .int) 0 := ⟨qw_825, qw_1, by decide +kernel, by decide⟩
theorem yo_X12_island : mx_Y yX12_island cX12_island 2 (some .int) 0 := ⟨qw_497, qw_1, by decide +kernel, by decide⟩
theorem yo_X12_keeperOf : mx_Y yX12_keeperOf cX12_keeperOf 2 (some .int) 1 := ⟨qw_894, qw_1, by decide +kernel, by decide⟩
theorem yo_X12_keepers : mx_Y yX12_keepers cX12_keepers 1 (some .int) 0 := ⟨qw_866, qw_1, by decide +kernel, by decide⟩
theorem yo_X12_knuckle : mx_Y yX12_knuckle cX12_knuckle 1 (some .int) 0 := ⟨qw_933, qw_1, by decide +kernel, by decide⟩
theorem yo_X12_likely : mx_Y yX12_likely cX12_likely 2 (some .int) 1 := ⟨qw_956, qw_1, by decide +kernel, by decide⟩
theorem yo_X12_note : mx_Y yX12_note cX12_note 2 (some .int) 1 := ⟨qw_984, qw_1, by decide +kernel, by decide⟩
theorem yo_X12_now : mx_Y yX12_now cX12_now 2 (some .int) 1 := ⟨qw_673, qw_1, by decide +kernel, by decide⟩
theorem yo_X12_odds : mx_Y yX12_odds cX12_odds 6 (some .int) 3 := ⟨qw_1083, qw_1, by decide +kernel, by decide⟩
theorem yo_X12_reach : mx_Y yX12_reach cX12_reach 2 (some .int) 1 := ⟨qw_808, qw_1, by decide +kernel, by decide⟩
theorem yo_X12_restore : mx_Y yX12_restore cX12_restore 2 (some .boolean) 1 := ⟨qw_1250, qw_1, by decide +kernel, by decide⟩
theorem yo_X12_said : mx_Y yX12_said cX12_said 4 (some .int) 1 := ⟨qw_1218, qw_1, by decide +kernel, by decide⟩
theorem yo_X12_sentence : mx_Y yX12_sentence cX12_sentence 2 (some .int) 0 := ⟨qw_1155, qw_1, by decide +kernel, by decide⟩
theorem yo_X12_sizeLeast : mx_Y yX12_sizeLeast cX12_sizeLeast 1 (some .int) 0 := ⟨qw_929, qw_1, by decide +kernel, by decide⟩
theorem yo_X12_sizes : mx_Y yX12_sizes cX12_sizes 2 (some .int) 0 := ⟨qw_898, qw_1, by decide +kernel, by decide⟩
theorem yo_X12_told : mx_Y yX12_told cX12_told 2 (some .int) 1 := ⟨qw_1151, qw_1, by decide +kernel, by decide⟩
theorem yo_X12_tour : mx_Y yX12_tour cX12_tour 2 (some .int) 1 := ⟨qw_829, qw_1, by decide +kernel, by decide⟩
theorem yo_X12_tourAt : mx_Y yX12_tourAt cX12_tourAt 2 (some .int) 1 := ⟨qw_862, qw_1, by decide +kernel, by decide⟩
theorem yo_X12_undo : mx_Y yX12_undo cX12_undo 1 (some .int) 0 := ⟨qw_800, qw_1, by decide +kernel, by decide⟩
theorem yo_X12_ways : mx_Y yX12_ways cX12_ways 1 (some .int) 0 := ⟨qw_937, qw_1, by decide +kernel, by decide⟩
theorem yo_X12_wear : mx_Y yX12_wear cX12_wear 3 (some .int) 2 := ⟨qw_741, qw_1, by decide +kernel, by decide⟩
theorem yo_X13_book : mx_Y yX13_book cX13_book 4 (some .int) 1 := ⟨qw_1937, qw_14, by decide +kernel, by decide⟩
theorem yo_X13_byteAt : mx_Y yX13_byteAt cX13_byteAt 2 (some .int) 1 := ⟨qw_1904, qw_14, by decide +kernel, by decide⟩
theorem yo_X13_chain : mx_Y yX13_chain cX13_chain 2 (some .int) 1 := ⟨qw_1870, qw_14, by decide +kernel, by decide⟩
theorem yo_X13_closed : mx_Y yX13_closed cX13_closed 2 (some .int) 1 := ⟨qw_1882, qw_14, by decide +kernel, by decide⟩
theorem yo_X13_count : mx_Y yX13_count cX13_count 2 (some .int) 1 := ⟨qw_2005, qw_14, by decide +kernel, by decide⟩
theorem yo_X13_days : mx_Y yX13_days cX13_days 2 (some .int) 1 := ⟨qw_1756, qw_14, by decide +kernel, by decide⟩
theorem yo_X13_doff : mx_Y yX13_doff cX13_doff 2 (some .int) 1 := ⟨qw_1740, qw_14, by decide +kernel, by decide⟩
theorem yo_X13_drawn : mx_Y yX13_drawn cX13_drawn 3 (some .int) 2 := ⟨qw_1908, qw_14, by decide +kernel, by decide⟩
theorem yo_X13_end : mx_Y yX13_end cX13_end 2 (some .boolean) 1 := ⟨qw_1352, qw_14, by decide +kernel, by decide⟩
theorem yo_X13_fault : mx_Y yX13_fault cX13_fault 1 (some .int) 0 := ⟨qw_1633, qw_14, by decide +kernel, by decide⟩
theorem yo_X13_feed : mx_Y yX13_feed cX13_feed 6 (some .int) 5 := ⟨qw_1343, qw_14, by decide +kernel, by decide⟩
theorem yo_X13_find : mx_Y yX13_find cX13_find 4 (some .int) 2 := ⟨qw_1744, qw_14, by decide +kernel, by decide⟩
theorem yo_X13_fits : mx_Y yX13_fits cX13_fits 3 (some .int) 2 := ⟨qw_1673, qw_14, by decide +kernel, by decide⟩
theorem yo_X13_go : mx_Y yX13_go cX13_go 5 (some .int) 3 := ⟨qw_1689, qw_14, by decide +kernel, by decide⟩
theorem yo_X13_hand : mx_Y yX13_hand cX13_hand 5 (some .int) 3 := ⟨qw_1712, qw_14, by decide +kernel, by decide⟩
theorem yo_X13_image : mx_Y yX13_image cX13_image 3 (some .boolean) 1 := ⟨qw_1997, qw_14, by decide +kernel, by decide⟩
theorem yo_X13_inTime : mx_Y yX13_inTime cX13_inTime 3 (some .int) 0 := ⟨qw_1794, qw_14, by decide +kernel, by decide⟩
theorem yo_X13_island : mx_Y yX13_island cX13_island 2 (some .int) 0 := ⟨qw_1545, qw_14, by decide +kernel, by decide⟩
theorem yo_X13_keeperOf : mx_Y yX13_keeperOf cX13_keeperOf 2 (some .int) 1 := ⟨qw_1826, qw_14, by decide +kernel, by decide⟩
theorem yo_X13_keepers : mx_Y yX13_keepers cX13_keepers 6 (some .int) 0 := ⟨qw_1811, qw_14, by decide +kernel, by decide⟩
theorem yo_X13_knuckle : mx_Y yX13_knuckle cX13_knuckle 1 (some .int) 0 := ⟨qw_1850, qw_14, by decide +kernel, by decide⟩
theorem yo_X13_likely : mx_Y yX13_likely cX13_likely 6 (some .int) 1 := ⟨qw_1862, qw_14, by decide +kernel, by decide⟩
theorem yo_X13_note : mx_Y yX13_note cX13_note 4 (some .int) 1 := ⟨qw_1886, qw_14, by decide +kernel, by decide⟩
theorem yo_X13_now : mx_Y yX13_now cX13_now 2 (some .int) 1 := ⟨qw_1681, qw_14, by decide +kernel, by decide⟩
theorem yo_X13_odds : mx_Y yX13_odds cX13_odds 6 (some .int) 3 := ⟨qw_1925, qw_14, by decide +kernel, by decide⟩
theorem yo_X13_reach : mx_Y yX13_reach cX13_reach 2 (some .int) 1 := ⟨qw_1779, qw_14, by decide +kernel, by decide⟩
theorem yo_X13_restore : mx_Y yX13_restore cX13_restore 3 (some .boolean) 1 := ⟨qw_2001, qw_14, by decide +kernel, by decide⟩
theorem yo_X13_said : mx_Y yX13_said cX13_said 4 (some .int) 1 := ⟨qw_1981, qw_14, by decide +kernel, by decide⟩
theorem yo_X13_sentence : mx_Y yX13_sentence cX13_sentence 3 (some .int) 0 := ⟨qw_1953, qw_14, by decide +kernel, by decide⟩
theorem yo_X13_sizeLeast : mx_Y yX13_sizeLeast cX13_sizeLeast 1 (some .int) 0 := ⟨qw_1846, qw_14, by decide +kernel, by decide⟩
theorem yo_X13_sizes : mx_Y yX13_sizes cX13_sizes 4 (some .int) 0 := ⟨qw_1830, qw_14, by decide +kernel, by decide⟩
theorem yo_X13_told : mx_Y yX13_told cX13_told 2 (some .int) 1 := ⟨qw_1949, qw_14, by decide +kernel, by decide⟩
theorem yo_X13_tour : mx_Y yX13_tour cX13_tour 8 (some .int) 1 := ⟨qw_1798, qw_14, by decide +kernel, by decide⟩
theorem yo_X13_tourAt : mx_Y yX13_tourAt cX13_tourAt 2 (some .int) 1 := ⟨qw_1807, qw_14, by decide +kernel, by decide⟩
theorem yo_X13_undo : mx_Y yX13_undo cX13_undo 2 (some .int) 0 := ⟨qw_1775, qw_14, by decide +kernel, by decide⟩
theorem yo_X13_ways : mx_Y yX13_ways cX13_ways 1 (some .int) 0 := ⟨qw_1854, qw_14, by decide +kernel, by decide⟩
theorem yo_X13_wear : mx_Y yX13_wear cX13_wear 4 (some .int) 2 := ⟨qw_1728, qw_14, by decide +kernel, by decide⟩
/-! the law: what its start gives, its state, its rows -/
def tyl : List FieldType := [.int, .byte, .long, .boolean, .object RX9, .object RX3, .object RX8, .object RX11]
theorem st_pr {args : Array Value} {s : State} {ty : FieldType} (h : (Cond.arrayClass ty).before args s = true) (hr : ∀ cA, s.vm.findClass ("[" ++ ty.toString) = some cA → va_RA s cA ty) : ∃ cA, ArrOfT s cA ty ∧ va_RA s cA ty := by
  obtain ⟨cA, k, comp, h1, h2, h3⟩ := Cond.arrayClass_spec h
  exact ⟨cA, fun n z => ⟨fun k h => (by cases h), k, h2, comp, h3⟩, hr cA h1⟩
theorem st_ob {args : Array Value} {s : State} {C : String} (h : (Cond.arrayOver (.object C)).before args s = true) : ∃ cA, ArrOfT s cA (.object C) ∧ va_RA s cA (.object C) := by
  obtain ⟨comp, cA, k, h1, -, h2, h3, h4⟩ := Cond.arrayOver_spec h
  exact ⟨cA, fun n z => ⟨fun k h => (by cases h), k, h2, comp, h3⟩, k, comp, h2, h3, h1, h4⟩
theorem st_KK {args : Array Value} {s : State} (hts : ∀ w ∈ lw_tbl, w.before args s = true) : ∃ (D : va_G) (cA : Nat → ClassId), ∀ X : XE, X.1 = D → X.2.2.2 = cA → va_K X.1 mx_cl (mx_tys X) s := by
  have hw : ∀ w ∈ mx_wall, w.before args s = true := fun w h => hts w (List.mem_filter.mp h).1
  have h0 : ∀ c : Nat, ∃ q : ClassId × (Nat → Nat), ∀ r : vw_C, mx_cl[c]? = some r → u_Kn s r.1 r.2.1 r.2.2 q.1 q.2 := by
    intro c
    match c with
    | 0 =>
      obtain ⟨a, b, h⟩ := u_known hw cl_12.2.1 (hw _ qw_28)
      exact ⟨(a, b), fun r hr => by cases hr; exact h⟩
    | 1 =>
      obtain ⟨a, b, h⟩ := u_known hw cl_1.2.1 (hw _ qw_304)
      exact ⟨(a, b), fun r hr => by cases hr; exact h⟩
    | 2 =>
      obtain ⟨a, b, h⟩ := u_known hw cl_2.2.1 (hw _ qw_378)
      exact ⟨(a, b), fun r hr => by cases hr; exact h⟩
    | 3 =>
      obtain ⟨a, b, h⟩ := u_known hw cl_3.2.1 (hw _ qw_107)
      exact ⟨(a, b), fun r hr => by cases hr; exact h⟩
    | 4 =>
      obtain ⟨a, b, h⟩ := u_known hw cl_4.2.1 (hw _ qw_399)
      exact ⟨(a, b), fun r hr => by cases hr; exact h⟩
    | 5 =>
      obtain ⟨a, b, h⟩ := u_known hw cl_5.2.1 (hw _ qw_262)
      exact ⟨(a, b), fun r hr => by cases hr; exact h⟩
    | 6 =>
      obtain ⟨a, b, h⟩ := u_known hw cl_6.2.1 (hw _ qw_346)
      exact ⟨(a, b), fun r hr => by cases hr; exact h⟩
    | 7 =>
      obtain ⟨a, b, h⟩ := u_known hw cl_7.2.1 (hw _ qw_53)
      exact ⟨(a, b), fun r hr => by cases hr; exact h⟩
    | 8 =>
      obtain ⟨a, b, h⟩ := u_known hw cl_8.2.1 (hw _ qw_279)
      exact ⟨(a, b), fun r hr => by cases hr; exact h⟩
    | 9 =>
      obtain ⟨a, b, h⟩ := u_known hw cl_9.2.1 (hw _ qw_199)
      exact ⟨(a, b), fun r hr => by cases hr; exact h⟩
    | 10 =>
      obtain ⟨a, b, h⟩ := u_known hw cl_10.2.1 (hw _ qw_36)
      exact ⟨(a, b), fun r hr => by cases hr; exact h⟩
    | 11 =>
      obtain ⟨a, b, h⟩ := u_known hw cl_12.2.1 (hw _ qw_28)
      exact ⟨(a, b), fun r hr => by cases hr; exact h⟩
    | 12 =>
      obtain ⟨a, b, h⟩ := u_known hw cl_12.2.1 (hw _ qw_28)
      exact ⟨(a, b), fun r hr => by cases hr; exact h⟩
    | 13 =>
      obtain ⟨a, b, h⟩ := u_known hw cl_13.2.1 (hw _ qw_1347)
      exact ⟨(a, b), fun r hr => by cases hr; exact h⟩
    | n + 14 => exact ⟨(0, fun _ => 0), fun r hr => by cases hr⟩
  have h1 : ∀ t : Nat, ∃ cA : ClassId, ∀ ty : FieldType, tyl[t]? = some ty → ArrOfT s cA ty ∧ va_RA s cA ty := by
    obtain ⟨a4, a5, a6, a7, a0, a1, a2, a3⟩ := gv_ao
    intro t
    match t with
    | 0 => obtain ⟨a, h⟩ := st_pr (hts _ a0) (fun _ h => h); exact ⟨a, fun ty ht => by cases ht; exact h⟩
    | 1 => obtain ⟨a, h⟩ := st_pr (hts _ a1) (fun _ h => h); exact ⟨a, fun ty ht => by cases ht; exact h⟩
    | 2 => obtain ⟨a, h⟩ := st_pr (hts _ a2) (fun _ h => h); exact ⟨a, fun ty ht => by cases ht; exact h⟩
    | 3 => obtain ⟨a, h⟩ := st_pr (hts _ a3) (fun _ h => h); exact ⟨a, fun ty ht => by cases ht; exact h⟩
    | 4 => obtain ⟨a, h⟩ := st_ob (hts _ a4); exact ⟨a, fun ty ht => by cases ht; exact h⟩
    | 5 => obtain ⟨a, h⟩ := st_ob (hts _ a5); exact ⟨a, fun ty ht => by cases ht; exact h⟩
    | 6 => obtain ⟨a, h⟩ := st_ob (hts _ a6); exact ⟨a, fun ty ht => by cases ht; exact h⟩
    | 7 => obtain ⟨a, h⟩ := st_ob (hts _ a7); exact ⟨a, fun ty ht => by cases ht; exact h⟩
    | n + 8 => exact ⟨0, fun ty ht => by cases ht⟩
  obtain ⟨F, hF⟩ := Classical.axiomOfChoice h0
  obtain ⟨cA, hA⟩ := Classical.axiomOfChoice h1
  refine ⟨(fun c => (F c).1, fun c => (F c).2), cA, fun X hD hC => ⟨fun c r hr => by rw [hD]; exact hF c r hr, fun k q hk => ?_⟩⟩
  have key : ∃ ty, tyl[k]? = some ty ∧ q = (X.2.2.2 k, ty) := by
    match k, hk with
    | 0, hk => exact ⟨_, rfl, (Option.some.inj hk).symm⟩
    | 1, hk => exact ⟨_, rfl, (Option.some.inj hk).symm⟩
    | 2, hk => exact ⟨_, rfl, (Option.some.inj hk).symm⟩
    | 3, hk => exact ⟨_, rfl, (Option.some.inj hk).symm⟩
    | 4, hk => exact ⟨_, rfl, (Option.some.inj hk).symm⟩
    | 5, hk => exact ⟨_, rfl, (Option.some.inj hk).symm⟩
    | 6, hk => exact ⟨_, rfl, (Option.some.inj hk).symm⟩
    | 7, hk => exact ⟨_, rfl, (Option.some.inj hk).symm⟩
    | n + 8, hk => cases hk
  obtain ⟨ty, h2, h3⟩ := key
  rw [h3, hC]
  exact hA k ty h2
def lA (X : XE) (n : Nat) : Nat → Prop := fun q => X.2.1 0 ≤ q ∧ q < X.2.1 0 + n
def lE1 (X : XE) : KE := (xt, X, lA X 204, fun U => xg X (lA X 204) U)
def lE2 (X : XE) : KE := (mt, X, lA X 22, fun _ => True)
theorem lE1_ok {X : XE} (h : ∀ k, X.2.1 k = X.2.1 0 + k) : mx_ok (lE1 X) := ⟨fun M => mx_D h xt (fun k hk => by have h1 := h k; have h2 : xt.length = 204 := rfl; show X.2.1 0 ≤ X.2.1 k ∧ X.2.1 k < X.2.1 0 + 204; omega) M, fun s U hW _ hq hG => xg_moved hW hq hG⟩
theorem lE2_ok {X : XE} (h : ∀ k, X.2.1 k = X.2.1 0 + k) : mx_ok (lE2 X) := ⟨fun M => mx_D h mt (fun k hk => by have h1 := h k; have h2 : mt.length = 22 := rfl; show X.2.1 0 ≤ X.2.1 k ∧ X.2.1 k < X.2.1 0 + 22; omega) M, fun _ _ _ _ _ _ => trivial⟩
theorem lE1_x (X : XE) : xOK (lE1 X) := ⟨rfl, fun _ h => h⟩
def R_law : String := "RingKeepersLaw"
def LS (X1 X2 : XE) (s : State) (M1 M2 : MM) (w : Int64) (H : Heap) (locs : List Loc) : Prop :=
  va_P X1.1 mx_cl (mx_ws xt X1 M1) H ∧ va_P X2.1 mx_cl (mx_ws mt X2 M2) H ∧ H[s.heap.size + 226]? = some (vp_cell (X1.2.2.2 2) (1, .inr (.inl (fun _ => w)))) ∧ va_S (fun q => s.heap.size ≤ q) s.heap H locs
def LC (X1 X2 : XE) (p : Program) (m : MethodId) (c : Code) (s : State) (b L : Nat) (xs : Nat → Int32) : Prop :=
  CallFix p m c code 7 s #[Value.ref b] mx_wall R_law ∧ va_K X1.1 mx_cl (mx_tys X1) s ∧ va_K X2.1 mx_cl (mx_tys X2) s ∧ xg X1 (lA X1 204) s ∧ (∀ k, X1.2.1 k = s.heap.size + k) ∧ (∀ k, X2.2.1 k = s.heap.size + 204 + k) ∧ va_X b L xs s s.heap ∧ b < s.heap.size ∧ L ≤ 3072
theorem mx_wsat {S : List CD} {X : XE} {M : MM} {k : Nat} {q : Nat × va_E} (h : (mx_ws S X M)[k]? = some q) : q.1 = X.2.1 k ∧ k < S.length := by
  simp only [mx_ws, List.getElem?_mapIdx] at h
  cases hT : S[k]? with
  | none => rw [hT] at h; cases h
  | some d =>
    rw [hT] at h
    cases h
    exact ⟨rfl, (List.getElem?_eq_some_iff.mp hT).1⟩
section LAW
variable {X1 X2 : XE} {M1 M2 M' : MM} {w : Int64} {p : Program} {l : Launch} {e : Env} {s : State} {m : MethodId} {below : List Frame} {meth : Method} {c : Code} {H : Heap} {locs : List Loc} {cells slots : Nat} {Q : State → Prop}
variable {pc b L : Nat} {xs : Nat → Int32} {ls : Array Slot} {rest : List Value}
theorem lw_c1 (C : LC X1 X2 p m c s b L xs) (hM : LS X1 X2 s M1 M2 w H locs) {h' n index yL : Nat} {y : MethodName} {yc : ByteArray} {yr : Option FieldType} {As st0 st1 : List Value} {o : Option Value} (hl : ls.size = 7) (Y : mx_Y y yc yL yr n) (hR : h' + 1 ≤ 2048 ∧ 8 + (yL + 11) + 64 * h' ≤ 84000) (hlink : Cond.methodLink R_law index y ∈ mx_wall) (hins : Cond.instanceMethod y ∈ mx_wall) (hsel : Cond.selects RX12 y y ∈ mx_wall)
    (hy : mx_Met (lE1 X1) l y yc yL yr h' (.ref (X1.2.1 0) :: As) M1 o M') (hn : As.length = n) (hst : st0 = As.reverse ++ .ref (X1.2.1 0) :: rest) (hs1 : o.toList ++ rest = st1) (hW : (rest.map fun v => v.category).sum ≤ 8) (hdg : decode code pc = .ok (.invokevirtual index, 3)) (hf : cells ≤ 601024 ∧ slots ≤ 7293034)
    (kk : ∀ (H : Heap) (locs : List Loc), LS X1 X2 s M' M2 w H locs → W p l e room_1 s m #[Value.ref b] below meth c H locs cells slots Q (F0 m (pc + 3) ls st1)) : W p l e room_1 s m #[Value.ref b] below meth c H locs cells slots Q (F0 m pc ls st0) := by
  obtain ⟨S, hK1, hK2, hG, hx1, hx2, -, -, -⟩ := C
  obtain ⟨hP1, hP2, hO, hS⟩ := hM
  have hx : ∀ k, X1.2.1 k = X1.2.1 0 + k := fun k => by have := hx1 k; have := hx1 0; omega
  have h10 := hx1 0
  refine lw_callV (E := lE1 X1) (A := fun q => s.heap.size ≤ q) (k := 0) (ci := 12) S hK1 hG (lE1_ok hx) hP1 hS (fun q hq => by have : X1.2.1 0 ≤ q := hq.1; show s.heap.size ≤ q; omega) (fun q h1 _ h2 => by have : s.heap.size ≤ q := h2; omega) hl Y hR hlink hins hsel (q := (RX12, TX12, 19)) rfl (xt_0 (lE1_x X1)) hy hn hst hs1 hW hdg hf (fun H1 locs1 hP hS1 hz hk => kk H1 locs1 ⟨hP, ?_, ?_, hS1⟩)
  · refine hP2.kept (fun k q hq => hk q.1 ((hP2 k q hq).lt) ?_)
    have h1 := mx_wsat hq
    have h2 := hx2 k
    rw [h1.1]
    intro h3
    have : X1.2.1 0 ≤ X2.2.1 k ∧ X2.2.1 k < X1.2.1 0 + 204 := h3
    omega
  · rw [hk _ ((Array.getElem?_eq_some_iff.mp hO).1) (fun h3 => by
      have : X1.2.1 0 ≤ s.heap.size + 226 ∧ s.heap.size + 226 < X1.2.1 0 + 204 := h3
      omega)]
    exact hO
theorem lw_c2 (C : LC X1 X2 p m c s b L xs) (hM : LS X1 X2 s M1 M2 w H locs) {h' n index yL : Nat} {y : MethodName} {yc : ByteArray} {yr : Option FieldType} {As st0 st1 : List Value} {o : Option Value} (hl : ls.size = 7) (Y : mx_Y y yc yL yr n) (hR : h' + 1 ≤ 2048 ∧ 8 + (yL + 11) + 64 * h' ≤ 84000) (hlink : Cond.methodLink R_law index y ∈ mx_wall) (hins : Cond.instanceMethod y ∈ mx_wall) (hsel : Cond.selects RX13 y y ∈ mx_wall)
    (hy : mx_Met (lE2 X2) l y yc yL yr h' (.ref (X2.2.1 0) :: As) M2 o M') (hn : As.length = n) (hst : st0 = As.reverse ++ .ref (X2.2.1 0) :: rest) (hs1 : o.toList ++ rest = st1) (hW : (rest.map fun v => v.category).sum ≤ 8) (hdg : decode code pc = .ok (.invokevirtual index, 3)) (hf : cells ≤ 601024 ∧ slots ≤ 7293034)
    (kk : ∀ (H : Heap) (locs : List Loc), LS X1 X2 s M1 M' w H locs → W p l e room_1 s m #[Value.ref b] below meth c H locs cells slots Q (F0 m (pc + 3) ls st1)) : W p l e room_1 s m #[Value.ref b] below meth c H locs cells slots Q (F0 m pc ls st0) := by
  obtain ⟨S, hK1, hK2, hG, hx1, hx2, -, -, -⟩ := C
  obtain ⟨hP1, hP2, hO, hS⟩ := hM
  have hx : ∀ k, X2.2.1 k = X2.2.1 0 + k := fun k => by have := hx2 k; have := hx2 0; omega
  have h10 := hx2 0
  refine lw_callV (E := lE2 X2) (A := fun q => s.heap.size ≤ q) (k := 0) (ci := 13) S hK2 trivial (lE2_ok hx) hP2 hS (fun q hq => by have : X2.2.1 0 ≤ q := hq.1; show s.heap.size ≤ q; omega) (fun q h1 _ h2 => by have : s.heap.size ≤ q := h2; omega) hl Y hR hlink hins hsel (q := (RX13, TX13, 52)) rfl (mt_0 (E := lE2 X2) rfl) hy hn hst hs1 hW hdg hf (fun H1 locs1 hP hS1 hz hk => kk H1 locs1 ⟨?_, hP, ?_, hS1⟩)
  · refine hP1.kept (fun k q hq => hk q.1 ((hP1 k q hq).lt) ?_)
    have h1 := mx_wsat hq
    have h2 := hx1 k
    have h4 : xt.length = 204 := rfl
    rw [h1.1]
    intro h3
    have : X2.2.1 0 ≤ X1.2.1 k ∧ X1.2.1 k < X2.2.1 0 + 22 := h3
    omega
  · rw [hk _ ((Array.getElem?_eq_some_iff.mp hO).1) (fun h3 => by
      have : X2.2.1 0 ≤ s.heap.size + 226 ∧ s.heap.size + 226 < X2.2.1 0 + 22 := h3
      omega)]
    exact hO
theorem lw_arg (C : LC X1 X2 p m c s b L xs) (hM : LS X1 X2 s M1 M2 w H locs) {i k : Nat} {z : Int} {lr : List (Nat × Value)} (hi : i + k < L) (hl : lv_has ls 7 ((4, .int (nI i)) :: (0, .ref b) :: lr)) (hk : Int32.ofInt z = nI k) (d1 : decode code pc = .ok (.aload_n 0, 1)) (d2 : decode code (pc + 1) = .ok (.iload 4, 2)) (d3 : decode code (pc + 3) = .ok (.iconst z, 1)) (d4 : decode code (pc + 4) = .ok (.iadd, 1)) (d5 : decode code (pc + 5) = .ok (.iaload, 1))
    (kk : W p l e room_1 s m #[Value.ref b] below meth c H locs cells slots Q (F0 m (pc + 6) ls (.int (xs (i + k)) :: rest))) : W p l e room_1 s m #[Value.ref b] below meth c H locs cells slots Q (F0 m pc ls rest) := by
  obtain ⟨⟨hx, hb, hml, hown, hts⟩, hK1, hK2, hG, hx1, hx2, hX, hbl, hL⟩ := C
  refine lv_aload_n hx hb d1 rfl (lv_at hl 1 rfl) ?_
  refine lv_iload hx hb d2 (lv_at hl 0 rfl) ?_
  refine lv_iconst (v := nI k) hx hb d3 hk ?_
  refine lv_iadd hx hb d4 ?_
  rw [nI_add]
  refine va_sld (A := fun q => s.heap.size ≤ q) hx hb hX hbl (fun h => by have : s.heap.size ≤ b := h; omega) hM.2.2.2 (vp_in_nI hi (by omega)) d5 ?_
  rw [nI_clamp (by omega)]
  exact kk
end LAW
