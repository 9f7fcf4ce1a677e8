/-! ===== the law and its helpers: words, codes, soundness ===== -/
theorem qw_69 : Cond.initialized "PlateArmLaw" ∈ WG := wg 69 (by decide +kernel) (by decide +kernel)
theorem qw_95 : Cond.classLink "PlateArmLaw" (8 : Nat) "PlateArm" ∈ WG := wg 95 (by decide +kernel) (by decide +kernel)
theorem qw_96 : Cond.instantiable "PlateArm" (7 : Nat) ∈ WG := wg 96 (by decide +kernel) (by decide +kernel)
theorem qw_97 : Cond.methodLink "PlateArmLaw" (73 : Nat) ({ cls := "PlateArm", name := "<init>", desc := "()V" } : MethodName) ∈ WG := wg 97 (by decide +kernel) (by decide +kernel)
theorem qw_98 : Cond.instanceMethod ({ cls := "PlateArm", name := "<init>", desc := "()V" } : MethodName) ∈ WG := wg 98 (by decide +kernel) (by decide +kernel)
theorem qw_99 : Cond.code ({ cls := "PlateArm", name := "<init>", desc := "()V" } : MethodName) prog_1_method_1_code (2 : Nat) (Option.none : Option Jvm.ClassFile.FieldType) ∈ WG := wg 99 (by decide +kernel) (by decide +kernel)
theorem qw_341 : Cond.methodLink "PlateArmLaw" (128 : Nat) ({ cls := "PlateArm", name := "bestWay", desc := "()I" } : MethodName) ∈ WG := wg 341 (by decide +kernel) (by decide +kernel)
theorem qw_342 : Cond.instanceMethod ({ cls := "PlateArm", name := "bestWay", desc := "()I" } : MethodName) ∈ WG := wg 342 (by decide +kernel) (by decide +kernel)
theorem qw_343 : Cond.selects "PlateArm" ({ cls := "PlateArm", name := "bestWay", desc := "()I" } : MethodName) ({ cls := "PlateArm", name := "bestWay", desc := "()I" } : MethodName) ∈ WG := wg 343 (by decide +kernel) (by decide +kernel)
theorem qw_344 : Cond.code ({ cls := "PlateArm", name := "bestWay", desc := "()I" } : MethodName) prog_1_method_16_code (1 : Nat) (Option.some FieldType.int) ∈ WG := wg 344 (by decide +kernel) (by decide +kernel)
theorem qw_454 : Cond.methodLink "PlateArmLaw" (135 : Nat) ({ cls := "PlateArm", name := "widest", desc := "()I" } : MethodName) ∈ WG := wg 454 (by decide +kernel) (by decide +kernel)
theorem qw_466 : Cond.methodLink "PlateArmLaw" (145 : Nat) ({ cls := "PlateArm", name := "clearCommands", desc := "()I" } : MethodName) ∈ WG := wg 466 (by decide +kernel) (by decide +kernel)
theorem qw_467 : Cond.instanceMethod ({ cls := "PlateArm", name := "clearCommands", desc := "()I" } : MethodName) ∈ WG := wg 467 (by decide +kernel) (by decide +kernel)
theorem qw_468 : Cond.selects "PlateArm" ({ cls := "PlateArm", name := "clearCommands", desc := "()I" } : MethodName) ({ cls := "PlateArm", name := "clearCommands", desc := "()I" } : MethodName) ∈ WG := wg 468 (by decide +kernel) (by decide +kernel)
theorem qw_469 : Cond.code ({ cls := "PlateArm", name := "clearCommands", desc := "()I" } : MethodName) prog_1_method_21_code (2 : Nat) (Option.some FieldType.int) ∈ WG := wg 469 (by decide +kernel) (by decide +kernel)
theorem qw_470 : Cond.methodLink "PlateArmLaw" (149 : Nat) ({ cls := "PlateArm", name := "runCommands", desc := "()I" } : MethodName) ∈ WG := wg 470 (by decide +kernel) (by decide +kernel)
theorem qw_471 : Cond.instanceMethod ({ cls := "PlateArm", name := "runCommands", desc := "()I" } : MethodName) ∈ WG := wg 471 (by decide +kernel) (by decide +kernel)
theorem qw_472 : Cond.selects "PlateArm" ({ cls := "PlateArm", name := "runCommands", desc := "()I" } : MethodName) ({ cls := "PlateArm", name := "runCommands", desc := "()I" } : MethodName) ∈ WG := wg 472 (by decide +kernel) (by decide +kernel)
theorem qw_473 : Cond.code ({ cls := "PlateArm", name := "runCommands", desc := "()I" } : MethodName) prog_1_method_22_code (4 : Nat) (Option.some FieldType.int) ∈ WG := wg 473 (by decide +kernel) (by decide +kernel)
theorem qw_680 : Cond.methodLink "PlateArmLaw" (156 : Nat) ({ cls := "PlateArm", name := "digest", desc := "()J" } : MethodName) ∈ WG := wg 680 (by decide +kernel) (by decide +kernel)
theorem qw_681 : Cond.instanceMethod ({ cls := "PlateArm", name := "digest", desc := "()J" } : MethodName) ∈ WG := wg 681 (by decide +kernel) (by decide +kernel)
theorem qw_682 : Cond.selects "PlateArm" ({ cls := "PlateArm", name := "digest", desc := "()J" } : MethodName) ({ cls := "PlateArm", name := "digest", desc := "()J" } : MethodName) ∈ WG := wg 682 (by decide +kernel) (by decide +kernel)
theorem qw_683 : Cond.code ({ cls := "PlateArm", name := "digest", desc := "()J" } : MethodName) prog_1_method_24_code (4 : Nat) (Option.some FieldType.long) ∈ WG := wg 683 (by decide +kernel) (by decide +kernel)
theorem qw_800 : Cond.methodLink "PlateArmLaw" (77 : Nat) ({ cls := "PlateArmLaw", name := "plate", desc := "(LPlateArm;II[J)I" } : MethodName) ∈ WG := wg 800 (by decide +kernel) (by decide +kernel)
theorem qw_801 : Cond.static ({ cls := "PlateArmLaw", name := "plate", desc := "(LPlateArm;II[J)I" } : MethodName) ∈ WG := wg 801 (by decide +kernel) (by decide +kernel)
theorem qw_802 : Cond.codeWith ({ cls := "PlateArmLaw", name := "plate", desc := "(LPlateArm;II[J)I" } : MethodName) method_3_code (5 : Nat) (Option.some FieldType.int) [((0 : Nat), (10 : Nat), (13 : Nat), (13 : Nat))] ∈ WG := wg 802 (by decide +kernel) (by decide +kernel)
theorem qw_803 : Cond.classLink "PlateArmLaw" (13 : Nat) "java/lang/IllegalArgumentException" ∈ WG := wg 803 (by decide +kernel) (by decide +kernel)
theorem qw_804 : Cond.methodLink "PlateArmLaw" (7 : Nat) ({ cls := "PlateArm", name := "plate", desc := "(II)I" } : MethodName) ∈ WG := wg 804 (by decide +kernel) (by decide +kernel)
theorem qw_805 : Cond.instanceMethod ({ cls := "PlateArm", name := "plate", desc := "(II)I" } : MethodName) ∈ WG := wg 805 (by decide +kernel) (by decide +kernel)
theorem qw_806 : Cond.selects "PlateArm" ({ cls := "PlateArm", name := "plate", desc := "(II)I" } : MethodName) ({ cls := "PlateArm", name := "plate", desc := "(II)I" } : MethodName) ∈ WG := wg 806 (by decide +kernel) (by decide +kernel)
theorem qw_807 : Cond.code ({ cls := "PlateArm", name := "plate", desc := "(II)I" } : MethodName) prog_1_method_2_code (4 : Nat) (Option.some FieldType.int) ∈ WG := wg 807 (by decide +kernel) (by decide +kernel)
theorem qw_808 : Cond.methodLink "PlateArmLaw" (86 : Nat) ({ cls := "PlateArmLaw", name := "request", desc := "(LPlateArm;III[J)I" } : MethodName) ∈ WG := wg 808 (by decide +kernel) (by decide +kernel)
theorem qw_809 : Cond.static ({ cls := "PlateArmLaw", name := "request", desc := "(LPlateArm;III[J)I" } : MethodName) ∈ WG := wg 809 (by decide +kernel) (by decide +kernel)
theorem qw_810 : Cond.codeWith ({ cls := "PlateArmLaw", name := "request", desc := "(LPlateArm;III[J)I" } : MethodName) method_4_code (6 : Nat) (Option.some FieldType.int) [((0 : Nat), (12 : Nat), (15 : Nat), (13 : Nat)), ((0 : Nat), (12 : Nat), (19 : Nat), (19 : Nat))] ∈ WG := wg 810 (by decide +kernel) (by decide +kernel)
theorem qw_811 : Cond.classLink "PlateArmLaw" (19 : Nat) "java/lang/IllegalStateException" ∈ WG := wg 811 (by decide +kernel) (by decide +kernel)
theorem qw_812 : Cond.methodLink "PlateArmLaw" (15 : Nat) ({ cls := "PlateArm", name := "request", desc := "(III)I" } : MethodName) ∈ WG := wg 812 (by decide +kernel) (by decide +kernel)
theorem qw_813 : Cond.instanceMethod ({ cls := "PlateArm", name := "request", desc := "(III)I" } : MethodName) ∈ WG := wg 813 (by decide +kernel) (by decide +kernel)
theorem qw_814 : Cond.selects "PlateArm" ({ cls := "PlateArm", name := "request", desc := "(III)I" } : MethodName) ({ cls := "PlateArm", name := "request", desc := "(III)I" } : MethodName) ∈ WG := wg 814 (by decide +kernel) (by decide +kernel)
theorem qw_815 : Cond.code ({ cls := "PlateArm", name := "request", desc := "(III)I" } : MethodName) prog_1_method_3_code (4 : Nat) (Option.some FieldType.int) ∈ WG := wg 815 (by decide +kernel) (by decide +kernel)
theorem qw_831 : Cond.methodLink "PlateArmLaw" (90 : Nat) ({ cls := "PlateArmLaw", name := "cancel", desc := "(LPlateArm;I[J)I" } : MethodName) ∈ WG := wg 831 (by decide +kernel) (by decide +kernel)
theorem qw_832 : Cond.static ({ cls := "PlateArmLaw", name := "cancel", desc := "(LPlateArm;I[J)I" } : MethodName) ∈ WG := wg 832 (by decide +kernel) (by decide +kernel)
theorem qw_833 : Cond.codeWith ({ cls := "PlateArmLaw", name := "cancel", desc := "(LPlateArm;I[J)I" } : MethodName) method_5_code (4 : Nat) (Option.some FieldType.int) [((0 : Nat), (9 : Nat), (12 : Nat), (25 : Nat))] ∈ WG := wg 833 (by decide +kernel) (by decide +kernel)
theorem qw_834 : Cond.classLink "PlateArmLaw" (25 : Nat) "java/lang/IndexOutOfBoundsException" ∈ WG := wg 834 (by decide +kernel) (by decide +kernel)
theorem qw_835 : Cond.methodLink "PlateArmLaw" (21 : Nat) ({ cls := "PlateArm", name := "cancel", desc := "(I)I" } : MethodName) ∈ WG := wg 835 (by decide +kernel) (by decide +kernel)
theorem qw_836 : Cond.instanceMethod ({ cls := "PlateArm", name := "cancel", desc := "(I)I" } : MethodName) ∈ WG := wg 836 (by decide +kernel) (by decide +kernel)
theorem qw_837 : Cond.selects "PlateArm" ({ cls := "PlateArm", name := "cancel", desc := "(I)I" } : MethodName) ({ cls := "PlateArm", name := "cancel", desc := "(I)I" } : MethodName) ∈ WG := wg 837 (by decide +kernel) (by decide +kernel)
theorem qw_838 : Cond.code ({ cls := "PlateArm", name := "cancel", desc := "(I)I" } : MethodName) prog_1_method_4_code (4 : Nat) (Option.some FieldType.int) ∈ WG := wg 838 (by decide +kernel) (by decide +kernel)
theorem qw_854 : Cond.methodLink "PlateArmLaw" (94 : Nat) ({ cls := "PlateArmLaw", name := "set", desc := "(LPlateArm;II[J)I" } : MethodName) ∈ WG := wg 854 (by decide +kernel) (by decide +kernel)
theorem qw_855 : Cond.static ({ cls := "PlateArmLaw", name := "set", desc := "(LPlateArm;II[J)I" } : MethodName) ∈ WG := wg 855 (by decide +kernel) (by decide +kernel)
theorem qw_856 : Cond.codeWith ({ cls := "PlateArmLaw", name := "set", desc := "(LPlateArm;II[J)I" } : MethodName) method_6_code (5 : Nat) (Option.some FieldType.int) [((0 : Nat), (10 : Nat), (13 : Nat), (13 : Nat))] ∈ WG := wg 856 (by decide +kernel) (by decide +kernel)
theorem qw_857 : Cond.methodLink "PlateArmLaw" (27 : Nat) ({ cls := "PlateArm", name := "set", desc := "(II)I" } : MethodName) ∈ WG := wg 857 (by decide +kernel) (by decide +kernel)
theorem qw_858 : Cond.instanceMethod ({ cls := "PlateArm", name := "set", desc := "(II)I" } : MethodName) ∈ WG := wg 858 (by decide +kernel) (by decide +kernel)
theorem qw_859 : Cond.selects "PlateArm" ({ cls := "PlateArm", name := "set", desc := "(II)I" } : MethodName) ({ cls := "PlateArm", name := "set", desc := "(II)I" } : MethodName) ∈ WG := wg 859 (by decide +kernel) (by decide +kernel)
theorem qw_860 : Cond.code ({ cls := "PlateArm", name := "set", desc := "(II)I" } : MethodName) prog_1_method_5_code (4 : Nat) (Option.some FieldType.int) ∈ WG := wg 860 (by decide +kernel) (by decide +kernel)
theorem qw_861 : Cond.methodLink "PlateArmLaw" (97 : Nat) ({ cls := "PlateArmLaw", name := "pass", desc := "(LPlateArm;I[J)I" } : MethodName) ∈ WG := wg 861 (by decide +kernel) (by decide +kernel)
theorem qw_862 : Cond.static ({ cls := "PlateArmLaw", name := "pass", desc := "(LPlateArm;I[J)I" } : MethodName) ∈ WG := wg 862 (by decide +kernel) (by decide +kernel)
theorem qw_863 : Cond.codeWith ({ cls := "PlateArmLaw", name := "pass", desc := "(LPlateArm;I[J)I" } : MethodName) method_7_code (4 : Nat) (Option.some FieldType.int) [((0 : Nat), (9 : Nat), (12 : Nat), (13 : Nat)), ((0 : Nat), (9 : Nat), (15 : Nat), (19 : Nat))] ∈ WG := wg 863 (by decide +kernel) (by decide +kernel)
theorem qw_864 : Cond.methodLink "PlateArmLaw" (30 : Nat) ({ cls := "PlateArm", name := "pass", desc := "(I)I" } : MethodName) ∈ WG := wg 864 (by decide +kernel) (by decide +kernel)
theorem qw_865 : Cond.instanceMethod ({ cls := "PlateArm", name := "pass", desc := "(I)I" } : MethodName) ∈ WG := wg 865 (by decide +kernel) (by decide +kernel)
theorem qw_866 : Cond.selects "PlateArm" ({ cls := "PlateArm", name := "pass", desc := "(I)I" } : MethodName) ({ cls := "PlateArm", name := "pass", desc := "(I)I" } : MethodName) ∈ WG := wg 866 (by decide +kernel) (by decide +kernel)
theorem qw_867 : Cond.code ({ cls := "PlateArm", name := "pass", desc := "(I)I" } : MethodName) prog_1_method_6_code (3 : Nat) (Option.some FieldType.int) ∈ WG := wg 867 (by decide +kernel) (by decide +kernel)
theorem qw_868 : Cond.methodLink "PlateArmLaw" (100 : Nat) ({ cls := "PlateArmLaw", name := "finish", desc := "(LPlateArm;[J)I" } : MethodName) ∈ WG := wg 868 (by decide +kernel) (by decide +kernel)
theorem qw_869 : Cond.static ({ cls := "PlateArmLaw", name := "finish", desc := "(LPlateArm;[J)I" } : MethodName) ∈ WG := wg 869 (by decide +kernel) (by decide +kernel)
theorem qw_870 : Cond.codeWith ({ cls := "PlateArmLaw", name := "finish", desc := "(LPlateArm;[J)I" } : MethodName) method_8_code (3 : Nat) (Option.some FieldType.int) [((0 : Nat), (8 : Nat), (11 : Nat), (19 : Nat))] ∈ WG := wg 870 (by decide +kernel) (by decide +kernel)
theorem qw_871 : Cond.methodLink "PlateArmLaw" (33 : Nat) ({ cls := "PlateArm", name := "finish", desc := "()I" } : MethodName) ∈ WG := wg 871 (by decide +kernel) (by decide +kernel)
theorem qw_872 : Cond.instanceMethod ({ cls := "PlateArm", name := "finish", desc := "()I" } : MethodName) ∈ WG := wg 872 (by decide +kernel) (by decide +kernel)
theorem qw_873 : Cond.selects "PlateArm" ({ cls := "PlateArm", name := "finish", desc := "()I" } : MethodName) ({ cls := "PlateArm", name := "finish", desc := "()I" } : MethodName) ∈ WG := wg 873 (by decide +kernel) (by decide +kernel)
theorem qw_874 : Cond.code ({ cls := "PlateArm", name := "finish", desc := "()I" } : MethodName) prog_1_method_7_code (2 : Nat) (Option.some FieldType.int) ∈ WG := wg 874 (by decide +kernel) (by decide +kernel)
theorem qw_875 : Cond.methodLink "PlateArmLaw" (104 : Nat) ({ cls := "PlateArmLaw", name := "requestOf", desc := "(LPlateArm;II[J)I" } : MethodName) ∈ WG := wg 875 (by decide +kernel) (by decide +kernel)
theorem qw_876 : Cond.static ({ cls := "PlateArmLaw", name := "requestOf", desc := "(LPlateArm;II[J)I" } : MethodName) ∈ WG := wg 876 (by decide +kernel) (by decide +kernel)
theorem qw_877 : Cond.codeWith ({ cls := "PlateArmLaw", name := "requestOf", desc := "(LPlateArm;II[J)I" } : MethodName) method_9_code (5 : Nat) (Option.some FieldType.int) [((0 : Nat), (10 : Nat), (13 : Nat), (25 : Nat)), ((0 : Nat), (10 : Nat), (17 : Nat), (13 : Nat))] ∈ WG := wg 877 (by decide +kernel) (by decide +kernel)
theorem qw_878 : Cond.methodLink "PlateArmLaw" (37 : Nat) ({ cls := "PlateArm", name := "requestOf", desc := "(II)I" } : MethodName) ∈ WG := wg 878 (by decide +kernel) (by decide +kernel)
theorem qw_879 : Cond.instanceMethod ({ cls := "PlateArm", name := "requestOf", desc := "(II)I" } : MethodName) ∈ WG := wg 879 (by decide +kernel) (by decide +kernel)
theorem qw_880 : Cond.selects "PlateArm" ({ cls := "PlateArm", name := "requestOf", desc := "(II)I" } : MethodName) ({ cls := "PlateArm", name := "requestOf", desc := "(II)I" } : MethodName) ∈ WG := wg 880 (by decide +kernel) (by decide +kernel)
theorem qw_881 : Cond.code ({ cls := "PlateArm", name := "requestOf", desc := "(II)I" } : MethodName) prog_1_method_8_code (4 : Nat) (Option.some FieldType.int) ∈ WG := wg 881 (by decide +kernel) (by decide +kernel)
theorem qw_882 : Cond.methodLink "PlateArmLaw" (107 : Nat) ({ cls := "PlateArmLaw", name := "requestAt", desc := "(LPlateArm;I[J)I" } : MethodName) ∈ WG := wg 882 (by decide +kernel) (by decide +kernel)
theorem qw_883 : Cond.static ({ cls := "PlateArmLaw", name := "requestAt", desc := "(LPlateArm;I[J)I" } : MethodName) ∈ WG := wg 883 (by decide +kernel) (by decide +kernel)
theorem qw_884 : Cond.codeWith ({ cls := "PlateArmLaw", name := "requestAt", desc := "(LPlateArm;I[J)I" } : MethodName) method_10_code (4 : Nat) (Option.some FieldType.int) [((0 : Nat), (9 : Nat), (12 : Nat), (13 : Nat))] ∈ WG := wg 884 (by decide +kernel) (by decide +kernel)
theorem qw_885 : Cond.methodLink "PlateArmLaw" (40 : Nat) ({ cls := "PlateArm", name := "requestAt", desc := "(I)I" } : MethodName) ∈ WG := wg 885 (by decide +kernel) (by decide +kernel)
theorem qw_886 : Cond.instanceMethod ({ cls := "PlateArm", name := "requestAt", desc := "(I)I" } : MethodName) ∈ WG := wg 886 (by decide +kernel) (by decide +kernel)
theorem qw_887 : Cond.selects "PlateArm" ({ cls := "PlateArm", name := "requestAt", desc := "(I)I" } : MethodName) ({ cls := "PlateArm", name := "requestAt", desc := "(I)I" } : MethodName) ∈ WG := wg 887 (by decide +kernel) (by decide +kernel)
theorem qw_888 : Cond.code ({ cls := "PlateArm", name := "requestAt", desc := "(I)I" } : MethodName) prog_1_method_9_code (2 : Nat) (Option.some FieldType.int) ∈ WG := wg 888 (by decide +kernel) (by decide +kernel)
theorem qw_889 : Cond.methodLink "PlateArmLaw" (110 : Nat) ({ cls := "PlateArmLaw", name := "logged", desc := "(LPlateArm;II[J)I" } : MethodName) ∈ WG := wg 889 (by decide +kernel) (by decide +kernel)
theorem qw_890 : Cond.static ({ cls := "PlateArmLaw", name := "logged", desc := "(LPlateArm;II[J)I" } : MethodName) ∈ WG := wg 890 (by decide +kernel) (by decide +kernel)
theorem qw_891 : Cond.codeWith ({ cls := "PlateArmLaw", name := "logged", desc := "(LPlateArm;II[J)I" } : MethodName) method_11_code (5 : Nat) (Option.some FieldType.int) [((0 : Nat), (10 : Nat), (13 : Nat), (13 : Nat))] ∈ WG := wg 891 (by decide +kernel) (by decide +kernel)
theorem qw_892 : Cond.methodLink "PlateArmLaw" (43 : Nat) ({ cls := "PlateArm", name := "logged", desc := "(II)I" } : MethodName) ∈ WG := wg 892 (by decide +kernel) (by decide +kernel)
theorem qw_893 : Cond.instanceMethod ({ cls := "PlateArm", name := "logged", desc := "(II)I" } : MethodName) ∈ WG := wg 893 (by decide +kernel) (by decide +kernel)
theorem qw_894 : Cond.selects "PlateArm" ({ cls := "PlateArm", name := "logged", desc := "(II)I" } : MethodName) ({ cls := "PlateArm", name := "logged", desc := "(II)I" } : MethodName) ∈ WG := wg 894 (by decide +kernel) (by decide +kernel)
theorem qw_895 : Cond.code ({ cls := "PlateArm", name := "logged", desc := "(II)I" } : MethodName) prog_1_method_10_code (3 : Nat) (Option.some FieldType.int) ∈ WG := wg 895 (by decide +kernel) (by decide +kernel)
theorem qw_896 : Cond.methodLink "PlateArmLaw" (113 : Nat) ({ cls := "PlateArmLaw", name := "arm", desc := "(LPlateArm;I[J)I" } : MethodName) ∈ WG := wg 896 (by decide +kernel) (by decide +kernel)
theorem qw_897 : Cond.static ({ cls := "PlateArmLaw", name := "arm", desc := "(LPlateArm;I[J)I" } : MethodName) ∈ WG := wg 897 (by decide +kernel) (by decide +kernel)
theorem qw_898 : Cond.codeWith ({ cls := "PlateArmLaw", name := "arm", desc := "(LPlateArm;I[J)I" } : MethodName) method_12_code (4 : Nat) (Option.some FieldType.int) [((0 : Nat), (9 : Nat), (12 : Nat), (13 : Nat))] ∈ WG := wg 898 (by decide +kernel) (by decide +kernel)
theorem qw_899 : Cond.methodLink "PlateArmLaw" (46 : Nat) ({ cls := "PlateArm", name := "arm", desc := "(I)I" } : MethodName) ∈ WG := wg 899 (by decide +kernel) (by decide +kernel)
theorem qw_900 : Cond.methodLink "PlateArmLaw" (116 : Nat) ({ cls := "PlateArmLaw", name := "whole", desc := "(LPlateArm;I[J)I" } : MethodName) ∈ WG := wg 900 (by decide +kernel) (by decide +kernel)
theorem qw_901 : Cond.static ({ cls := "PlateArmLaw", name := "whole", desc := "(LPlateArm;I[J)I" } : MethodName) ∈ WG := wg 901 (by decide +kernel) (by decide +kernel)
theorem qw_902 : Cond.codeWith ({ cls := "PlateArmLaw", name := "whole", desc := "(LPlateArm;I[J)I" } : MethodName) method_13_code (4 : Nat) (Option.some FieldType.int) [((0 : Nat), (9 : Nat), (12 : Nat), (13 : Nat))] ∈ WG := wg 902 (by decide +kernel) (by decide +kernel)
theorem qw_903 : Cond.methodLink "PlateArmLaw" (49 : Nat) ({ cls := "PlateArm", name := "whole", desc := "(I)I" } : MethodName) ∈ WG := wg 903 (by decide +kernel) (by decide +kernel)
theorem qw_904 : Cond.methodLink "PlateArmLaw" (119 : Nat) ({ cls := "PlateArmLaw", name := "target", desc := "(LPlateArm;I[J)I" } : MethodName) ∈ WG := wg 904 (by decide +kernel) (by decide +kernel)
theorem qw_905 : Cond.static ({ cls := "PlateArmLaw", name := "target", desc := "(LPlateArm;I[J)I" } : MethodName) ∈ WG := wg 905 (by decide +kernel) (by decide +kernel)
theorem qw_906 : Cond.codeWith ({ cls := "PlateArmLaw", name := "target", desc := "(LPlateArm;I[J)I" } : MethodName) method_14_code (4 : Nat) (Option.some FieldType.int) [((0 : Nat), (9 : Nat), (12 : Nat), (13 : Nat))] ∈ WG := wg 906 (by decide +kernel) (by decide +kernel)
theorem qw_907 : Cond.methodLink "PlateArmLaw" (52 : Nat) ({ cls := "PlateArm", name := "target", desc := "(I)I" } : MethodName) ∈ WG := wg 907 (by decide +kernel) (by decide +kernel)
theorem qw_908 : Cond.methodLink "PlateArmLaw" (122 : Nat) ({ cls := "PlateArmLaw", name := "readIn", desc := "(LPlateArm;I[J)I" } : MethodName) ∈ WG := wg 908 (by decide +kernel) (by decide +kernel)
theorem qw_909 : Cond.static ({ cls := "PlateArmLaw", name := "readIn", desc := "(LPlateArm;I[J)I" } : MethodName) ∈ WG := wg 909 (by decide +kernel) (by decide +kernel)
theorem qw_910 : Cond.codeWith ({ cls := "PlateArmLaw", name := "readIn", desc := "(LPlateArm;I[J)I" } : MethodName) method_15_code (4 : Nat) (Option.some FieldType.int) [((0 : Nat), (9 : Nat), (12 : Nat), (25 : Nat))] ∈ WG := wg 910 (by decide +kernel) (by decide +kernel)
theorem qw_911 : Cond.methodLink "PlateArmLaw" (55 : Nat) ({ cls := "PlateArm", name := "readIn", desc := "(I)I" } : MethodName) ∈ WG := wg 911 (by decide +kernel) (by decide +kernel)
theorem qw_912 : Cond.instanceMethod ({ cls := "PlateArm", name := "readIn", desc := "(I)I" } : MethodName) ∈ WG := wg 912 (by decide +kernel) (by decide +kernel)
theorem qw_913 : Cond.selects "PlateArm" ({ cls := "PlateArm", name := "readIn", desc := "(I)I" } : MethodName) ({ cls := "PlateArm", name := "readIn", desc := "(I)I" } : MethodName) ∈ WG := wg 913 (by decide +kernel) (by decide +kernel)
theorem qw_914 : Cond.code ({ cls := "PlateArm", name := "readIn", desc := "(I)I" } : MethodName) prog_1_method_14_code (2 : Nat) (Option.some FieldType.int) ∈ WG := wg 914 (by decide +kernel) (by decide +kernel)
theorem qw_920 : Cond.methodLink "PlateArmLaw" (125 : Nat) ({ cls := "PlateArmLaw", name := "finishBy", desc := "(LPlateArm;II[J)I" } : MethodName) ∈ WG := wg 920 (by decide +kernel) (by decide +kernel)
theorem qw_921 : Cond.static ({ cls := "PlateArmLaw", name := "finishBy", desc := "(LPlateArm;II[J)I" } : MethodName) ∈ WG := wg 921 (by decide +kernel) (by decide +kernel)
theorem qw_922 : Cond.codeWith ({ cls := "PlateArmLaw", name := "finishBy", desc := "(LPlateArm;II[J)I" } : MethodName) method_16_code (5 : Nat) (Option.some FieldType.int) [((0 : Nat), (10 : Nat), (13 : Nat), (13 : Nat))] ∈ WG := wg 922 (by decide +kernel) (by decide +kernel)
theorem qw_923 : Cond.methodLink "PlateArmLaw" (58 : Nat) ({ cls := "PlateArm", name := "finishBy", desc := "(II)I" } : MethodName) ∈ WG := wg 923 (by decide +kernel) (by decide +kernel)
theorem qw_924 : Cond.instanceMethod ({ cls := "PlateArm", name := "finishBy", desc := "(II)I" } : MethodName) ∈ WG := wg 924 (by decide +kernel) (by decide +kernel)
theorem qw_925 : Cond.selects "PlateArm" ({ cls := "PlateArm", name := "finishBy", desc := "(II)I" } : MethodName) ({ cls := "PlateArm", name := "finishBy", desc := "(II)I" } : MethodName) ∈ WG := wg 925 (by decide +kernel) (by decide +kernel)
theorem qw_926 : Cond.code ({ cls := "PlateArm", name := "finishBy", desc := "(II)I" } : MethodName) prog_1_method_15_code (3 : Nat) (Option.some FieldType.int) ∈ WG := wg 926 (by decide +kernel) (by decide +kernel)
theorem qw_927 : Cond.methodLink "PlateArmLaw" (132 : Nat) ({ cls := "PlateArmLaw", name := "heatIn", desc := "(LPlateArm;I[J)I" } : MethodName) ∈ WG := wg 927 (by decide +kernel) (by decide +kernel)
theorem qw_928 : Cond.static ({ cls := "PlateArmLaw", name := "heatIn", desc := "(LPlateArm;I[J)I" } : MethodName) ∈ WG := wg 928 (by decide +kernel) (by decide +kernel)
theorem qw_929 : Cond.codeWith ({ cls := "PlateArmLaw", name := "heatIn", desc := "(LPlateArm;I[J)I" } : MethodName) method_17_code (4 : Nat) (Option.some FieldType.int) [((0 : Nat), (9 : Nat), (12 : Nat), (13 : Nat))] ∈ WG := wg 929 (by decide +kernel) (by decide +kernel)
theorem qw_930 : Cond.methodLink "PlateArmLaw" (61 : Nat) ({ cls := "PlateArm", name := "heatIn", desc := "(I)I" } : MethodName) ∈ WG := wg 930 (by decide +kernel) (by decide +kernel)
theorem qw_931 : Cond.methodLink "PlateArmLaw" (139 : Nat) ({ cls := "PlateArmLaw", name := "reason", desc := "(LPlateArm;I[J)I" } : MethodName) ∈ WG := wg 931 (by decide +kernel) (by decide +kernel)
theorem qw_932 : Cond.static ({ cls := "PlateArmLaw", name := "reason", desc := "(LPlateArm;I[J)I" } : MethodName) ∈ WG := wg 932 (by decide +kernel) (by decide +kernel)
theorem qw_933 : Cond.codeWith ({ cls := "PlateArmLaw", name := "reason", desc := "(LPlateArm;I[J)I" } : MethodName) method_18_code (4 : Nat) (Option.some FieldType.int) [((0 : Nat), (9 : Nat), (12 : Nat), (25 : Nat))] ∈ WG := wg 933 (by decide +kernel) (by decide +kernel)
theorem qw_934 : Cond.methodLink "PlateArmLaw" (64 : Nat) ({ cls := "PlateArm", name := "reason", desc := "(I)I" } : MethodName) ∈ WG := wg 934 (by decide +kernel) (by decide +kernel)
theorem qw_935 : Cond.instanceMethod ({ cls := "PlateArm", name := "reason", desc := "(I)I" } : MethodName) ∈ WG := wg 935 (by decide +kernel) (by decide +kernel)
theorem qw_936 : Cond.selects "PlateArm" ({ cls := "PlateArm", name := "reason", desc := "(I)I" } : MethodName) ({ cls := "PlateArm", name := "reason", desc := "(I)I" } : MethodName) ∈ WG := wg 936 (by decide +kernel) (by decide +kernel)
theorem qw_937 : Cond.code ({ cls := "PlateArm", name := "reason", desc := "(I)I" } : MethodName) prog_1_method_19_code (3 : Nat) (Option.some FieldType.int) ∈ WG := wg 937 (by decide +kernel) (by decide +kernel)
theorem qw_943 : Cond.methodLink "PlateArmLaw" (142 : Nat) ({ cls := "PlateArmLaw", name := "type", desc := "(LPlateArm;I[J)I" } : MethodName) ∈ WG := wg 943 (by decide +kernel) (by decide +kernel)
theorem qw_944 : Cond.static ({ cls := "PlateArmLaw", name := "type", desc := "(LPlateArm;I[J)I" } : MethodName) ∈ WG := wg 944 (by decide +kernel) (by decide +kernel)
theorem qw_945 : Cond.codeWith ({ cls := "PlateArmLaw", name := "type", desc := "(LPlateArm;I[J)I" } : MethodName) method_19_code (4 : Nat) (Option.some FieldType.int) [((0 : Nat), (9 : Nat), (12 : Nat), (13 : Nat)), ((0 : Nat), (9 : Nat), (15 : Nat), (19 : Nat))] ∈ WG := wg 945 (by decide +kernel) (by decide +kernel)
theorem qw_946 : Cond.methodLink "PlateArmLaw" (67 : Nat) ({ cls := "PlateArm", name := "type", desc := "(I)I" } : MethodName) ∈ WG := wg 946 (by decide +kernel) (by decide +kernel)
theorem qw_947 : Cond.instanceMethod ({ cls := "PlateArm", name := "type", desc := "(I)I" } : MethodName) ∈ WG := wg 947 (by decide +kernel) (by decide +kernel)
theorem qw_948 : Cond.selects "PlateArm" ({ cls := "PlateArm", name := "type", desc := "(I)I" } : MethodName) ({ cls := "PlateArm", name := "type", desc := "(I)I" } : MethodName) ∈ WG := wg 948 (by decide +kernel) (by decide +kernel)
theorem qw_949 : Cond.code ({ cls := "PlateArm", name := "type", desc := "(I)I" } : MethodName) prog_1_method_20_code (2 : Nat) (Option.some FieldType.int) ∈ WG := wg 949 (by decide +kernel) (by decide +kernel)
theorem qw_959 : Cond.methodLink "PlateArmLaw" (153 : Nat) ({ cls := "PlateArmLaw", name := "undo", desc := "(LPlateArm;[J)I" } : MethodName) ∈ WG := wg 959 (by decide +kernel) (by decide +kernel)
theorem qw_960 : Cond.static ({ cls := "PlateArmLaw", name := "undo", desc := "(LPlateArm;[J)I" } : MethodName) ∈ WG := wg 960 (by decide +kernel) (by decide +kernel)
theorem qw_961 : Cond.codeWith ({ cls := "PlateArmLaw", name := "undo", desc := "(LPlateArm;[J)I" } : MethodName) method_20_code (3 : Nat) (Option.some FieldType.int) [((0 : Nat), (8 : Nat), (11 : Nat), (19 : Nat))] ∈ WG := wg 961 (by decide +kernel) (by decide +kernel)
theorem qw_962 : Cond.methodLink "PlateArmLaw" (70 : Nat) ({ cls := "PlateArm", name := "undo", desc := "()I" } : MethodName) ∈ WG := wg 962 (by decide +kernel) (by decide +kernel)
theorem qw_963 : Cond.instanceMethod ({ cls := "PlateArm", name := "undo", desc := "()I" } : MethodName) ∈ WG := wg 963 (by decide +kernel) (by decide +kernel)
theorem qw_964 : Cond.selects "PlateArm" ({ cls := "PlateArm", name := "undo", desc := "()I" } : MethodName) ({ cls := "PlateArm", name := "undo", desc := "()I" } : MethodName) ∈ WG := wg 964 (by decide +kernel) (by decide +kernel)
theorem qw_965 : Cond.code ({ cls := "PlateArm", name := "undo", desc := "()I" } : MethodName) prog_1_method_23_code (1 : Nat) (Option.some FieldType.int) ∈ WG := wg 965 (by decide +kernel) (by decide +kernel)
theorem qw_966 : Cond.classLink "PlateArmLaw" (74 : Nat) "PlateArmModel" ∈ WG := wg 966 (by decide +kernel) (by decide +kernel)
theorem qw_967 : Cond.instantiable "PlateArmModel" (14 : Nat) ∈ WG := wg 967 (by decide +kernel) (by decide +kernel)
theorem qw_968 : Cond.methodLink "PlateArmLaw" (76 : Nat) ({ cls := "PlateArmModel", name := "<init>", desc := "()V" } : MethodName) ∈ WG := wg 968 (by decide +kernel) (by decide +kernel)
theorem qw_969 : Cond.instanceMethod ({ cls := "PlateArmModel", name := "<init>", desc := "()V" } : MethodName) ∈ WG := wg 969 (by decide +kernel) (by decide +kernel)
theorem qw_970 : Cond.code ({ cls := "PlateArmModel", name := "<init>", desc := "()V" } : MethodName) prog_12_method_1_code (1 : Nat) (Option.none : Option Jvm.ClassFile.FieldType) ∈ WG := wg 970 (by decide +kernel) (by decide +kernel)
theorem qw_1015 : Cond.methodLink "PlateArmLaw" (83 : Nat) ({ cls := "PlateArmModel", name := "thrown", desc := "()I" } : MethodName) ∈ WG := wg 1015 (by decide +kernel) (by decide +kernel)
theorem qw_1016 : Cond.instanceMethod ({ cls := "PlateArmModel", name := "thrown", desc := "()I" } : MethodName) ∈ WG := wg 1016 (by decide +kernel) (by decide +kernel)
theorem qw_1017 : Cond.selects "PlateArmModel" ({ cls := "PlateArmModel", name := "thrown", desc := "()I" } : MethodName) ({ cls := "PlateArmModel", name := "thrown", desc := "()I" } : MethodName) ∈ WG := wg 1017 (by decide +kernel) (by decide +kernel)
theorem qw_1018 : Cond.code ({ cls := "PlateArmModel", name := "thrown", desc := "()I" } : MethodName) prog_12_method_2_code (1 : Nat) (Option.some FieldType.int) ∈ WG := wg 1018 (by decide +kernel) (by decide +kernel)
theorem qw_1019 : Cond.methodLink "PlateArmLaw" (82 : Nat) ({ cls := "PlateArmModel", name := "plate", desc := "(II)I" } : MethodName) ∈ WG := wg 1019 (by decide +kernel) (by decide +kernel)
theorem qw_1034 : Cond.methodLink "PlateArmLaw" (89 : Nat) ({ cls := "PlateArmModel", name := "request", desc := "(III)I" } : MethodName) ∈ WG := wg 1034 (by decide +kernel) (by decide +kernel)
theorem qw_1038 : Cond.methodLink "PlateArmLaw" (93 : Nat) ({ cls := "PlateArmModel", name := "cancel", desc := "(I)I" } : MethodName) ∈ WG := wg 1038 (by decide +kernel) (by decide +kernel)
theorem qw_1054 : Cond.methodLink "PlateArmLaw" (96 : Nat) ({ cls := "PlateArmModel", name := "set", desc := "(II)I" } : MethodName) ∈ WG := wg 1054 (by decide +kernel) (by decide +kernel)
theorem qw_1058 : Cond.methodLink "PlateArmLaw" (99 : Nat) ({ cls := "PlateArmModel", name := "pass", desc := "(I)I" } : MethodName) ∈ WG := wg 1058 (by decide +kernel) (by decide +kernel)
theorem qw_1113 : Cond.methodLink "PlateArmLaw" (103 : Nat) ({ cls := "PlateArmModel", name := "finish", desc := "()I" } : MethodName) ∈ WG := wg 1113 (by decide +kernel) (by decide +kernel)
theorem qw_1114 : Cond.instanceMethod ({ cls := "PlateArmModel", name := "finish", desc := "()I" } : MethodName) ∈ WG := wg 1114 (by decide +kernel) (by decide +kernel)
theorem qw_1115 : Cond.selects "PlateArmModel" ({ cls := "PlateArmModel", name := "finish", desc := "()I" } : MethodName) ({ cls := "PlateArmModel", name := "finish", desc := "()I" } : MethodName) ∈ WG := wg 1115 (by decide +kernel) (by decide +kernel)
theorem qw_1116 : Cond.code ({ cls := "PlateArmModel", name := "finish", desc := "()I" } : MethodName) prog_12_method_30_code (3 : Nat) (Option.some FieldType.int) ∈ WG := wg 1116 (by decide +kernel) (by decide +kernel)
theorem qw_1129 : Cond.methodLink "PlateArmLaw" (106 : Nat) ({ cls := "PlateArmModel", name := "requestOf", desc := "(II)I" } : MethodName) ∈ WG := wg 1129 (by decide +kernel) (by decide +kernel)
theorem qw_1130 : Cond.instanceMethod ({ cls := "PlateArmModel", name := "requestOf", desc := "(II)I" } : MethodName) ∈ WG := wg 1130 (by decide +kernel) (by decide +kernel)
theorem qw_1131 : Cond.selects "PlateArmModel" ({ cls := "PlateArmModel", name := "requestOf", desc := "(II)I" } : MethodName) ({ cls := "PlateArmModel", name := "requestOf", desc := "(II)I" } : MethodName) ∈ WG := wg 1131 (by decide +kernel) (by decide +kernel)
theorem qw_1132 : Cond.code ({ cls := "PlateArmModel", name := "requestOf", desc := "(II)I" } : MethodName) prog_12_method_32_code (4 : Nat) (Option.some FieldType.int) ∈ WG := wg 1132 (by decide +kernel) (by decide +kernel)
theorem qw_1137 : Cond.methodLink "PlateArmLaw" (109 : Nat) ({ cls := "PlateArmModel", name := "requestAt", desc := "(I)I" } : MethodName) ∈ WG := wg 1137 (by decide +kernel) (by decide +kernel)
theorem qw_1138 : Cond.instanceMethod ({ cls := "PlateArmModel", name := "requestAt", desc := "(I)I" } : MethodName) ∈ WG := wg 1138 (by decide +kernel) (by decide +kernel)
theorem qw_1139 : Cond.selects "PlateArmModel" ({ cls := "PlateArmModel", name := "requestAt", desc := "(I)I" } : MethodName) ({ cls := "PlateArmModel", name := "requestAt", desc := "(I)I" } : MethodName) ∈ WG := wg 1139 (by decide +kernel) (by decide +kernel)
theorem qw_1140 : Cond.code ({ cls := "PlateArmModel", name := "requestAt", desc := "(I)I" } : MethodName) prog_12_method_33_code (2 : Nat) (Option.some FieldType.int) ∈ WG := wg 1140 (by decide +kernel) (by decide +kernel)
theorem qw_1141 : Cond.methodLink "PlateArmLaw" (112 : Nat) ({ cls := "PlateArmModel", name := "logged", desc := "(II)I" } : MethodName) ∈ WG := wg 1141 (by decide +kernel) (by decide +kernel)
theorem qw_1142 : Cond.instanceMethod ({ cls := "PlateArmModel", name := "logged", desc := "(II)I" } : MethodName) ∈ WG := wg 1142 (by decide +kernel) (by decide +kernel)
theorem qw_1143 : Cond.selects "PlateArmModel" ({ cls := "PlateArmModel", name := "logged", desc := "(II)I" } : MethodName) ({ cls := "PlateArmModel", name := "logged", desc := "(II)I" } : MethodName) ∈ WG := wg 1143 (by decide +kernel) (by decide +kernel)
theorem qw_1144 : Cond.code ({ cls := "PlateArmModel", name := "logged", desc := "(II)I" } : MethodName) prog_12_method_35_code (3 : Nat) (Option.some FieldType.int) ∈ WG := wg 1144 (by decide +kernel) (by decide +kernel)
theorem qw_1149 : Cond.methodLink "PlateArmLaw" (115 : Nat) ({ cls := "PlateArmModel", name := "arm", desc := "(I)I" } : MethodName) ∈ WG := wg 1149 (by decide +kernel) (by decide +kernel)
theorem qw_1150 : Cond.instanceMethod ({ cls := "PlateArmModel", name := "arm", desc := "(I)I" } : MethodName) ∈ WG := wg 1150 (by decide +kernel) (by decide +kernel)
theorem qw_1151 : Cond.selects "PlateArmModel" ({ cls := "PlateArmModel", name := "arm", desc := "(I)I" } : MethodName) ({ cls := "PlateArmModel", name := "arm", desc := "(I)I" } : MethodName) ∈ WG := wg 1151 (by decide +kernel) (by decide +kernel)
theorem qw_1152 : Cond.code ({ cls := "PlateArmModel", name := "arm", desc := "(I)I" } : MethodName) prog_12_method_37_code (2 : Nat) (Option.some FieldType.int) ∈ WG := wg 1152 (by decide +kernel) (by decide +kernel)
theorem qw_1157 : Cond.methodLink "PlateArmLaw" (118 : Nat) ({ cls := "PlateArmModel", name := "whole", desc := "(I)I" } : MethodName) ∈ WG := wg 1157 (by decide +kernel) (by decide +kernel)
theorem qw_1158 : Cond.instanceMethod ({ cls := "PlateArmModel", name := "whole", desc := "(I)I" } : MethodName) ∈ WG := wg 1158 (by decide +kernel) (by decide +kernel)
theorem qw_1159 : Cond.selects "PlateArmModel" ({ cls := "PlateArmModel", name := "whole", desc := "(I)I" } : MethodName) ({ cls := "PlateArmModel", name := "whole", desc := "(I)I" } : MethodName) ∈ WG := wg 1159 (by decide +kernel) (by decide +kernel)
theorem qw_1160 : Cond.code ({ cls := "PlateArmModel", name := "whole", desc := "(I)I" } : MethodName) prog_12_method_39_code (2 : Nat) (Option.some FieldType.int) ∈ WG := wg 1160 (by decide +kernel) (by decide +kernel)
theorem qw_1165 : Cond.methodLink "PlateArmLaw" (121 : Nat) ({ cls := "PlateArmModel", name := "target", desc := "(I)I" } : MethodName) ∈ WG := wg 1165 (by decide +kernel) (by decide +kernel)
theorem qw_1166 : Cond.instanceMethod ({ cls := "PlateArmModel", name := "target", desc := "(I)I" } : MethodName) ∈ WG := wg 1166 (by decide +kernel) (by decide +kernel)
theorem qw_1167 : Cond.selects "PlateArmModel" ({ cls := "PlateArmModel", name := "target", desc := "(I)I" } : MethodName) ({ cls := "PlateArmModel", name := "target", desc := "(I)I" } : MethodName) ∈ WG := wg 1167 (by decide +kernel) (by decide +kernel)
theorem qw_1168 : Cond.code ({ cls := "PlateArmModel", name := "target", desc := "(I)I" } : MethodName) prog_12_method_41_code (2 : Nat) (Option.some FieldType.int) ∈ WG := wg 1168 (by decide +kernel) (by decide +kernel)
theorem qw_1173 : Cond.methodLink "PlateArmLaw" (124 : Nat) ({ cls := "PlateArmModel", name := "readIn", desc := "(I)I" } : MethodName) ∈ WG := wg 1173 (by decide +kernel) (by decide +kernel)
theorem qw_1174 : Cond.instanceMethod ({ cls := "PlateArmModel", name := "readIn", desc := "(I)I" } : MethodName) ∈ WG := wg 1174 (by decide +kernel) (by decide +kernel)
theorem qw_1175 : Cond.selects "PlateArmModel" ({ cls := "PlateArmModel", name := "readIn", desc := "(I)I" } : MethodName) ({ cls := "PlateArmModel", name := "readIn", desc := "(I)I" } : MethodName) ∈ WG := wg 1175 (by decide +kernel) (by decide +kernel)
theorem qw_1176 : Cond.code ({ cls := "PlateArmModel", name := "readIn", desc := "(I)I" } : MethodName) prog_12_method_42_code (3 : Nat) (Option.some FieldType.int) ∈ WG := wg 1176 (by decide +kernel) (by decide +kernel)
theorem qw_1177 : Cond.methodLink "PlateArmLaw" (127 : Nat) ({ cls := "PlateArmModel", name := "finishBy", desc := "(II)I" } : MethodName) ∈ WG := wg 1177 (by decide +kernel) (by decide +kernel)
theorem qw_1178 : Cond.instanceMethod ({ cls := "PlateArmModel", name := "finishBy", desc := "(II)I" } : MethodName) ∈ WG := wg 1178 (by decide +kernel) (by decide +kernel)
theorem qw_1179 : Cond.selects "PlateArmModel" ({ cls := "PlateArmModel", name := "finishBy", desc := "(II)I" } : MethodName) ({ cls := "PlateArmModel", name := "finishBy", desc := "(II)I" } : MethodName) ∈ WG := wg 1179 (by decide +kernel) (by decide +kernel)
theorem qw_1180 : Cond.code ({ cls := "PlateArmModel", name := "finishBy", desc := "(II)I" } : MethodName) prog_12_method_44_code (3 : Nat) (Option.some FieldType.int) ∈ WG := wg 1180 (by decide +kernel) (by decide +kernel)
theorem qw_1185 : Cond.methodLink "PlateArmLaw" (131 : Nat) ({ cls := "PlateArmModel", name := "bestWay", desc := "()I" } : MethodName) ∈ WG := wg 1185 (by decide +kernel) (by decide +kernel)
theorem qw_1186 : Cond.instanceMethod ({ cls := "PlateArmModel", name := "bestWay", desc := "()I" } : MethodName) ∈ WG := wg 1186 (by decide +kernel) (by decide +kernel)
theorem qw_1187 : Cond.selects "PlateArmModel" ({ cls := "PlateArmModel", name := "bestWay", desc := "()I" } : MethodName) ({ cls := "PlateArmModel", name := "bestWay", desc := "()I" } : MethodName) ∈ WG := wg 1187 (by decide +kernel) (by decide +kernel)
theorem qw_1188 : Cond.code ({ cls := "PlateArmModel", name := "bestWay", desc := "()I" } : MethodName) prog_12_method_46_code (1 : Nat) (Option.some FieldType.int) ∈ WG := wg 1188 (by decide +kernel) (by decide +kernel)
theorem qw_1193 : Cond.methodLink "PlateArmLaw" (134 : Nat) ({ cls := "PlateArmModel", name := "heatIn", desc := "(I)I" } : MethodName) ∈ WG := wg 1193 (by decide +kernel) (by decide +kernel)
theorem qw_1194 : Cond.instanceMethod ({ cls := "PlateArmModel", name := "heatIn", desc := "(I)I" } : MethodName) ∈ WG := wg 1194 (by decide +kernel) (by decide +kernel)
theorem qw_1195 : Cond.selects "PlateArmModel" ({ cls := "PlateArmModel", name := "heatIn", desc := "(I)I" } : MethodName) ({ cls := "PlateArmModel", name := "heatIn", desc := "(I)I" } : MethodName) ∈ WG := wg 1195 (by decide +kernel) (by decide +kernel)
theorem qw_1196 : Cond.code ({ cls := "PlateArmModel", name := "heatIn", desc := "(I)I" } : MethodName) prog_12_method_48_code (2 : Nat) (Option.some FieldType.int) ∈ WG := wg 1196 (by decide +kernel) (by decide +kernel)
theorem qw_1201 : Cond.methodLink "PlateArmLaw" (138 : Nat) ({ cls := "PlateArmModel", name := "widest", desc := "()I" } : MethodName) ∈ WG := wg 1201 (by decide +kernel) (by decide +kernel)
theorem qw_1202 : Cond.instanceMethod ({ cls := "PlateArmModel", name := "widest", desc := "()I" } : MethodName) ∈ WG := wg 1202 (by decide +kernel) (by decide +kernel)
theorem qw_1203 : Cond.selects "PlateArmModel" ({ cls := "PlateArmModel", name := "widest", desc := "()I" } : MethodName) ({ cls := "PlateArmModel", name := "widest", desc := "()I" } : MethodName) ∈ WG := wg 1203 (by decide +kernel) (by decide +kernel)
theorem qw_1204 : Cond.code ({ cls := "PlateArmModel", name := "widest", desc := "()I" } : MethodName) prog_12_method_50_code (1 : Nat) (Option.some FieldType.int) ∈ WG := wg 1204 (by decide +kernel) (by decide +kernel)
theorem qw_1209 : Cond.methodLink "PlateArmLaw" (141 : Nat) ({ cls := "PlateArmModel", name := "reason", desc := "(I)I" } : MethodName) ∈ WG := wg 1209 (by decide +kernel) (by decide +kernel)
theorem qw_1210 : Cond.instanceMethod ({ cls := "PlateArmModel", name := "reason", desc := "(I)I" } : MethodName) ∈ WG := wg 1210 (by decide +kernel) (by decide +kernel)
theorem qw_1211 : Cond.selects "PlateArmModel" ({ cls := "PlateArmModel", name := "reason", desc := "(I)I" } : MethodName) ({ cls := "PlateArmModel", name := "reason", desc := "(I)I" } : MethodName) ∈ WG := wg 1211 (by decide +kernel) (by decide +kernel)
theorem qw_1212 : Cond.code ({ cls := "PlateArmModel", name := "reason", desc := "(I)I" } : MethodName) prog_12_method_51_code (3 : Nat) (Option.some FieldType.int) ∈ WG := wg 1212 (by decide +kernel) (by decide +kernel)
theorem qw_1213 : Cond.methodLink "PlateArmLaw" (144 : Nat) ({ cls := "PlateArmModel", name := "type", desc := "(I)I" } : MethodName) ∈ WG := wg 1213 (by decide +kernel) (by decide +kernel)
theorem qw_1214 : Cond.instanceMethod ({ cls := "PlateArmModel", name := "type", desc := "(I)I" } : MethodName) ∈ WG := wg 1214 (by decide +kernel) (by decide +kernel)
theorem qw_1215 : Cond.selects "PlateArmModel" ({ cls := "PlateArmModel", name := "type", desc := "(I)I" } : MethodName) ({ cls := "PlateArmModel", name := "type", desc := "(I)I" } : MethodName) ∈ WG := wg 1215 (by decide +kernel) (by decide +kernel)
theorem qw_1216 : Cond.code ({ cls := "PlateArmModel", name := "type", desc := "(I)I" } : MethodName) prog_12_method_52_code (2 : Nat) (Option.some FieldType.int) ∈ WG := wg 1216 (by decide +kernel) (by decide +kernel)
theorem qw_1217 : Cond.methodLink "PlateArmLaw" (148 : Nat) ({ cls := "PlateArmModel", name := "clearCommands", desc := "()I" } : MethodName) ∈ WG := wg 1217 (by decide +kernel) (by decide +kernel)
theorem qw_1218 : Cond.instanceMethod ({ cls := "PlateArmModel", name := "clearCommands", desc := "()I" } : MethodName) ∈ WG := wg 1218 (by decide +kernel) (by decide +kernel)
theorem qw_1219 : Cond.selects "PlateArmModel" ({ cls := "PlateArmModel", name := "clearCommands", desc := "()I" } : MethodName) ({ cls := "PlateArmModel", name := "clearCommands", desc := "()I" } : MethodName) ∈ WG := wg 1219 (by decide +kernel) (by decide +kernel)
theorem qw_1220 : Cond.code ({ cls := "PlateArmModel", name := "clearCommands", desc := "()I" } : MethodName) prog_12_method_53_code (2 : Nat) (Option.some FieldType.int) ∈ WG := wg 1220 (by decide +kernel) (by decide +kernel)
theorem qw_1221 : Cond.methodLink "PlateArmLaw" (152 : Nat) ({ cls := "PlateArmModel", name := "runCommands", desc := "()I" } : MethodName) ∈ WG := wg 1221 (by decide +kernel) (by decide +kernel)
theorem qw_1222 : Cond.instanceMethod ({ cls := "PlateArmModel", name := "runCommands", desc := "()I" } : MethodName) ∈ WG := wg 1222 (by decide +kernel) (by decide +kernel)
theorem qw_1223 : Cond.selects "PlateArmModel" ({ cls := "PlateArmModel", name := "runCommands", desc := "()I" } : MethodName) ({ cls := "PlateArmModel", name := "runCommands", desc := "()I" } : MethodName) ∈ WG := wg 1223 (by decide +kernel) (by decide +kernel)
theorem qw_1224 : Cond.code ({ cls := "PlateArmModel", name := "runCommands", desc := "()I" } : MethodName) prog_12_method_62_code (4 : Nat) (Option.some FieldType.int) ∈ WG := wg 1224 (by decide +kernel) (by decide +kernel)
theorem qw_1262 : Cond.methodLink "PlateArmLaw" (155 : Nat) ({ cls := "PlateArmModel", name := "undo", desc := "()I" } : MethodName) ∈ WG := wg 1262 (by decide +kernel) (by decide +kernel)
theorem qw_1263 : Cond.instanceMethod ({ cls := "PlateArmModel", name := "undo", desc := "()I" } : MethodName) ∈ WG := wg 1263 (by decide +kernel) (by decide +kernel)
theorem qw_1264 : Cond.selects "PlateArmModel" ({ cls := "PlateArmModel", name := "undo", desc := "()I" } : MethodName) ({ cls := "PlateArmModel", name := "undo", desc := "()I" } : MethodName) ∈ WG := wg 1264 (by decide +kernel) (by decide +kernel)
theorem qw_1265 : Cond.code ({ cls := "PlateArmModel", name := "undo", desc := "()I" } : MethodName) prog_12_method_63_code (2 : Nat) (Option.some FieldType.int) ∈ WG := wg 1265 (by decide +kernel) (by decide +kernel)
theorem qw_1266 : Cond.methodLink "PlateArmLaw" (160 : Nat) ({ cls := "PlateArmModel", name := "digest", desc := "()J" } : MethodName) ∈ WG := wg 1266 (by decide +kernel) (by decide +kernel)
theorem qw_1267 : Cond.instanceMethod ({ cls := "PlateArmModel", name := "digest", desc := "()J" } : MethodName) ∈ WG := wg 1267 (by decide +kernel) (by decide +kernel)
theorem qw_1268 : Cond.selects "PlateArmModel" ({ cls := "PlateArmModel", name := "digest", desc := "()J" } : MethodName) ({ cls := "PlateArmModel", name := "digest", desc := "()J" } : MethodName) ∈ WG := wg 1268 (by decide +kernel) (by decide +kernel)
theorem qw_1269 : Cond.code ({ cls := "PlateArmModel", name := "digest", desc := "()J" } : MethodName) prog_12_method_65_code (3 : Nat) (Option.some FieldType.long) ∈ WG := wg 1269 (by decide +kernel) (by decide +kernel)
theorem qw_1276 : Cond.arrayClass FieldType.long ∈ WG := wg 1276 (by decide +kernel) (by decide +kernel)
/-! L_plate -/
def tL_plate : TrD := (yL_plate, cL_plate, 5, some .int, 7, 145)
def hhL_plate : HH := [(0, 10, 13, 13)]
def hlL_plate : List (String × Int32) := [("java/lang/IllegalArgumentException", 1)]
theorem dL_plate_0 : decode cL_plate 0 = .ok (.aload_n 3, 1) := by decide +kernel
theorem dL_plate_1 : decode cL_plate 1 = .ok (.iconst 0, 1) := by decide +kernel
theorem dL_plate_2 : decode cL_plate 2 = .ok (.aload_n 0, 1) := by decide +kernel
theorem dL_plate_3 : decode cL_plate 3 = .ok (.iload_n 1, 1) := by decide +kernel
theorem dL_plate_4 : decode cL_plate 4 = .ok (.iload_n 2, 1) := by decide +kernel
theorem dL_plate_5 : decode cL_plate 5 = .ok (.invokevirtual 7, 3) := by decide +kernel
theorem dL_plate_8 : decode cL_plate 8 = .ok (.i2l, 1) := by decide +kernel
theorem dL_plate_9 : decode cL_plate 9 = .ok (.lastore, 1) := by decide +kernel
theorem dL_plate_10 : decode cL_plate 10 = .ok (.goto 7, 3) := by decide +kernel
theorem dL_plate_13 : decode cL_plate 13 = .ok (.astore 4, 2) := by decide +kernel
theorem dL_plate_15 : decode cL_plate 15 = .ok (.iconst 1, 1) := by decide +kernel
theorem dL_plate_16 : decode cL_plate 16 = .ok (.ireturn, 1) := by decide +kernel
theorem dL_plate_17 : decode cL_plate 17 = .ok (.iconst 0, 1) := by decide +kernel
theorem dL_plate_18 : decode cL_plate 18 = .ok (.ireturn, 1) := by decide +kernel
theorem cc_L_plate_X9_plate : CallC tL_plate tX9_plate 2 := ⟨by decide +kernel, by decide +kernel, by decide +kernel, by decide, by decide, qw_70, qw_807⟩
theorem hoL_plate_0 : HOk tL_plate hhL_plate 5 "java/lang/IllegalArgumentException" 1 := ⟨[], (0, 10, 13, 13), [], 1, rfl, fun _ hz => (nomatch hz), by decide +kernel, by decide, qw_803, by decide +kernel, by decide +kernel, Or.inr ⟨4, dL_plate_13, by decide, dL_plate_15, dL_plate_16⟩⟩
theorem hoL_plate : ∀ (E : String) (k : Int32), (E, k) ∈ hlL_plate → HOk tL_plate hhL_plate 5 E k := fun E k hq => by
  obtain ⟨rfl, rfl⟩ := Prod.mk.inj (List.mem_singleton.mp hq)
  exact hoL_plate_0
abbrev opTL_plate : HOp := o_callVT 8 7 2 tX9_plate 1 6 hlL_plate
theorem sTL_plate : SndH tL_plate hhL_plate 5 opTL_plate := s_callVT (d' := tX9_plate) (mc := 1) (ms := 6) rfl hoL_plate ok_7 cc_L_plate_X9_plate qw_804 qw_805 qw_806 dL_plate_5
def kL_plate : Nat → WOp := cN 8 (cN 2 (cN 0 (cL 0 (o_aload 1 3)) (cN 1 (cL 1 (o_push 2 0)) (cL 2 (o_aload 3 0)))) (cN 4 (cN 3 (cL 3 (o_iload 4 1)) (cL 4 (o_iload 5 2))) (cN 5 (cL 5 (oBad)) (cL 8 (o_i2l 9))))) (cN 13 (cN 9 (cL 9 (o_last 10)) (cN 10 (cL 10 (o_goto 17)) (cL 13 (oBad)))) (cN 16 (cN 15 (cL 15 (o_push 16 1)) (cL 16 (o_iret))) (cN 17 (cL 17 (o_push 18 0)) (cL 18 (o_iret)))))
theorem sL_plate : ∀ pc, Snd tL_plate G1 pc (kL_plate pc) := s_N (s_N (s_N (s_L (s_aload_n dL_plate_0 rfl)) (s_N (s_L (s_iconst dL_plate_1 (by decide +kernel))) (s_L (s_aload_n dL_plate_2 rfl)))) (s_N (s_N (s_L (s_iload_n dL_plate_3 rfl)) (s_L (s_iload_n dL_plate_4 rfl))) (s_N (s_L (s_bad)) (s_L (s_o_i2l dL_plate_8))))) (s_N (s_N (s_L (s_last dL_plate_9)) (s_N (s_L (s_o_goto dL_plate_10 (by decide))) (s_L (s_bad)))) (s_N (s_N (s_L (s_iconst dL_plate_15 (by decide +kernel))) (s_L (s_iret rfl dL_plate_16))) (s_N (s_L (s_iconst dL_plate_17 (by decide +kernel))) (s_L (s_iret rfl dL_plate_18)))))
/-! L_request -/
def tL_request : TrD := (yL_request, cL_request, 6, some .int, 7, 145)
def hhL_request : HH := [(0, 12, 15, 13), (0, 12, 19, 19)]
def hlL_request : List (String × Int32) := [("java/lang/IllegalArgumentException", 1), ("java/lang/IllegalStateException", 2)]
theorem dL_request_0 : decode cL_request 0 = .ok (.aload 4, 2) := by decide +kernel
theorem dL_request_2 : decode cL_request 2 = .ok (.iconst 0, 1) := by decide +kernel
theorem dL_request_3 : decode cL_request 3 = .ok (.aload_n 0, 1) := by decide +kernel
theorem dL_request_4 : decode cL_request 4 = .ok (.iload_n 1, 1) := by decide +kernel
theorem dL_request_5 : decode cL_request 5 = .ok (.iload_n 2, 1) := by decide +kernel
theorem dL_request_6 : decode cL_request 6 = .ok (.iload_n 3, 1) := by decide +kernel
theorem dL_request_7 : decode cL_request 7 = .ok (.invokevirtual 15, 3) := by decide +kernel
theorem dL_request_10 : decode cL_request 10 = .ok (.i2l, 1) := by decide +kernel
theorem dL_request_11 : decode cL_request 11 = .ok (.lastore, 1) := by decide +kernel
theorem dL_request_12 : decode cL_request 12 = .ok (.goto 11, 3) := by decide +kernel
theorem dL_request_15 : decode cL_request 15 = .ok (.astore 5, 2) := by decide +kernel
theorem dL_request_17 : decode cL_request 17 = .ok (.iconst 1, 1) := by decide +kernel
theorem dL_request_18 : decode cL_request 18 = .ok (.ireturn, 1) := by decide +kernel
theorem dL_request_19 : decode cL_request 19 = .ok (.astore 5, 2) := by decide +kernel
theorem dL_request_21 : decode cL_request 21 = .ok (.iconst 2, 1) := by decide +kernel
theorem dL_request_22 : decode cL_request 22 = .ok (.ireturn, 1) := by decide +kernel
theorem dL_request_23 : decode cL_request 23 = .ok (.iconst 0, 1) := by decide +kernel
theorem dL_request_24 : decode cL_request 24 = .ok (.ireturn, 1) := by decide +kernel
theorem cc_L_request_X9_request : CallC tL_request tX9_request 3 := ⟨by decide +kernel, by decide +kernel, by decide +kernel, by decide, by decide, qw_70, qw_815⟩
theorem hoL_request_0 : HOk tL_request hhL_request 7 "java/lang/IllegalArgumentException" 1 := ⟨[], (0, 12, 15, 13), [(0, 12, 19, 19)], 1, rfl, fun _ hz => (nomatch hz), by decide +kernel, by decide, qw_803, by decide +kernel, by decide +kernel, Or.inr ⟨5, dL_request_15, by decide, dL_request_17, dL_request_18⟩⟩
theorem hoL_request_1 : HOk tL_request hhL_request 7 "java/lang/IllegalStateException" 2 := ⟨[(0, 12, 15, 13)], (0, 12, 19, 19), [], 2, rfl, fun z hz => by rw [List.mem_singleton.mp hz]; exact ⟨by decide, "java/lang/IllegalArgumentException", qw_803, by decide +kernel⟩, by decide +kernel, by decide, qw_811, by decide +kernel, by decide +kernel, Or.inr ⟨5, dL_request_19, by decide, dL_request_21, dL_request_22⟩⟩
theorem hoL_request : ∀ (E : String) (k : Int32), (E, k) ∈ hlL_request → HOk tL_request hhL_request 7 E k := fun E k hq => by
  rcases List.mem_cons.mp hq with hq | hq
  · obtain ⟨rfl, rfl⟩ := Prod.mk.inj hq
    exact hoL_request_0
  · obtain ⟨rfl, rfl⟩ := Prod.mk.inj (List.mem_singleton.mp hq)
    exact hoL_request_1
abbrev opTL_request : HOp := o_callVT 10 7 3 tX9_request 1 6 hlL_request
theorem sTL_request : SndH tL_request hhL_request 7 opTL_request := s_callVT (d' := tX9_request) (mc := 1) (ms := 6) rfl hoL_request ok_7 cc_L_request_X9_request qw_812 qw_813 qw_814 dL_request_7
def kL_request : Nat → WOp := cN 11 (cN 4 (cN 2 (cN 0 (cL 0 (o_aload 2 4)) (cL 2 (o_push 3 0))) (cN 3 (cL 3 (o_aload 4 0)) (cL 4 (o_iload 5 1)))) (cN 6 (cN 5 (cL 5 (o_iload 6 2)) (cL 6 (o_iload 7 3))) (cN 7 (cL 7 (oBad)) (cN 10 (cL 10 (o_i2l 11)) (cL 11 (o_last 12)))))) (cN 18 (cN 15 (cN 12 (cL 12 (o_goto 23)) (cL 15 (oBad))) (cN 17 (cL 17 (o_push 18 1)) (cL 18 (o_iret)))) (cN 21 (cN 19 (cL 19 (oBad)) (cL 21 (o_push 22 2))) (cN 22 (cL 22 (o_iret)) (cN 23 (cL 23 (o_push 24 0)) (cL 24 (o_iret))))))
theorem sL_request : ∀ pc, Snd tL_request G1 pc (kL_request pc) := s_N (s_N (s_N (s_N (s_L (s_aload dL_request_0)) (s_L (s_iconst dL_request_2 (by decide +kernel)))) (s_N (s_L (s_aload_n dL_request_3 rfl)) (s_L (s_iload_n dL_request_4 rfl)))) (s_N (s_N (s_L (s_iload_n dL_request_5 rfl)) (s_L (s_iload_n dL_request_6 rfl))) (s_N (s_L (s_bad)) (s_N (s_L (s_o_i2l dL_request_10)) (s_L (s_last dL_request_11)))))) (s_N (s_N (s_N (s_L (s_o_goto dL_request_12 (by decide))) (s_L (s_bad))) (s_N (s_L (s_iconst dL_request_17 (by decide +kernel))) (s_L (s_iret rfl dL_request_18)))) (s_N (s_N (s_L (s_bad)) (s_L (s_iconst dL_request_21 (by decide +kernel)))) (s_N (s_L (s_iret rfl dL_request_22)) (s_N (s_L (s_iconst dL_request_23 (by decide +kernel))) (s_L (s_iret rfl dL_request_24))))))
/-! L_cancel -/
def tL_cancel : TrD := (yL_cancel, cL_cancel, 4, some .int, 7, 145)
def hhL_cancel : HH := [(0, 9, 12, 25)]
def hlL_cancel : List (String × Int32) := [("java/lang/IndexOutOfBoundsException", 1)]
theorem dL_cancel_0 : decode cL_cancel 0 = .ok (.aload_n 2, 1) := by decide +kernel
theorem dL_cancel_1 : decode cL_cancel 1 = .ok (.iconst 0, 1) := by decide +kernel
theorem dL_cancel_2 : decode cL_cancel 2 = .ok (.aload_n 0, 1) := by decide +kernel
theorem dL_cancel_3 : decode cL_cancel 3 = .ok (.iload_n 1, 1) := by decide +kernel
theorem dL_cancel_4 : decode cL_cancel 4 = .ok (.invokevirtual 21, 3) := by decide +kernel
theorem dL_cancel_7 : decode cL_cancel 7 = .ok (.i2l, 1) := by decide +kernel
theorem dL_cancel_8 : decode cL_cancel 8 = .ok (.lastore, 1) := by decide +kernel
theorem dL_cancel_9 : decode cL_cancel 9 = .ok (.goto 6, 3) := by decide +kernel
theorem dL_cancel_12 : decode cL_cancel 12 = .ok (.astore_n 3, 1) := by decide +kernel
theorem dL_cancel_13 : decode cL_cancel 13 = .ok (.iconst 1, 1) := by decide +kernel
theorem dL_cancel_14 : decode cL_cancel 14 = .ok (.ireturn, 1) := by decide +kernel
theorem dL_cancel_15 : decode cL_cancel 15 = .ok (.iconst 0, 1) := by decide +kernel
theorem dL_cancel_16 : decode cL_cancel 16 = .ok (.ireturn, 1) := by decide +kernel
theorem cc_L_cancel_X9_cancel : CallC tL_cancel tX9_cancel 1 := ⟨by decide +kernel, by decide +kernel, by decide +kernel, by decide, by decide, qw_70, qw_838⟩
theorem hoL_cancel_0 : HOk tL_cancel hhL_cancel 4 "java/lang/IndexOutOfBoundsException" 1 := ⟨[], (0, 9, 12, 25), [], 1, rfl, fun _ hz => (nomatch hz), by decide +kernel, by decide, qw_834, by decide +kernel, by decide +kernel, Or.inl ⟨3, dL_cancel_12, by decide, dL_cancel_13, dL_cancel_14⟩⟩
theorem hoL_cancel : ∀ (E : String) (k : Int32), (E, k) ∈ hlL_cancel → HOk tL_cancel hhL_cancel 4 E k := fun E k hq => by
  obtain ⟨rfl, rfl⟩ := Prod.mk.inj (List.mem_singleton.mp hq)
  exact hoL_cancel_0
abbrev opTL_cancel : HOp := o_callVT 7 7 1 tX9_cancel 1 6 hlL_cancel
theorem sTL_cancel : SndH tL_cancel hhL_cancel 4 opTL_cancel := s_callVT (d' := tX9_cancel) (mc := 1) (ms := 6) rfl hoL_cancel ok_7 cc_L_cancel_X9_cancel qw_835 qw_836 qw_837 dL_cancel_4
def kL_cancel : Nat → WOp := cN 7 (cN 2 (cN 0 (cL 0 (o_aload 1 2)) (cN 1 (cL 1 (o_push 2 0)) (cL 2 (o_aload 3 0)))) (cN 3 (cL 3 (o_iload 4 1)) (cN 4 (cL 4 (oBad)) (cL 7 (o_i2l 8))))) (cN 12 (cN 8 (cL 8 (o_last 9)) (cN 9 (cL 9 (o_goto 15)) (cL 12 (oBad)))) (cN 14 (cN 13 (cL 13 (o_push 14 1)) (cL 14 (o_iret))) (cN 15 (cL 15 (o_push 16 0)) (cL 16 (o_iret)))))
theorem sL_cancel : ∀ pc, Snd tL_cancel G1 pc (kL_cancel pc) := s_N (s_N (s_N (s_L (s_aload_n dL_cancel_0 rfl)) (s_N (s_L (s_iconst dL_cancel_1 (by decide +kernel))) (s_L (s_aload_n dL_cancel_2 rfl)))) (s_N (s_L (s_iload_n dL_cancel_3 rfl)) (s_N (s_L (s_bad)) (s_L (s_o_i2l dL_cancel_7))))) (s_N (s_N (s_L (s_last dL_cancel_8)) (s_N (s_L (s_o_goto dL_cancel_9 (by decide))) (s_L (s_bad)))) (s_N (s_N (s_L (s_iconst dL_cancel_13 (by decide +kernel))) (s_L (s_iret rfl dL_cancel_14))) (s_N (s_L (s_iconst dL_cancel_15 (by decide +kernel))) (s_L (s_iret rfl dL_cancel_16)))))
/-! L_set -/
def tL_set : TrD := (yL_set, cL_set, 5, some .int, 7, 145)
def hhL_set : HH := [(0, 10, 13, 13)]
def hlL_set : List (String × Int32) := [("java/lang/IllegalArgumentException", 1)]
theorem dL_set_0 : decode cL_set 0 = .ok (.aload_n 3, 1) := by decide +kernel
theorem dL_set_1 : decode cL_set 1 = .ok (.iconst 0, 1) := by decide +kernel
theorem dL_set_2 : decode cL_set 2 = .ok (.aload_n 0, 1) := by decide +kernel
theorem dL_set_3 : decode cL_set 3 = .ok (.iload_n 1, 1) := by decide +kernel
theorem dL_set_4 : decode cL_set 4 = .ok (.iload_n 2, 1) := by decide +kernel
theorem dL_set_5 : decode cL_set 5 = .ok (.invokevirtual 27, 3) := by decide +kernel
theorem dL_set_8 : decode cL_set 8 = .ok (.i2l, 1) := by decide +kernel
theorem dL_set_9 : decode cL_set 9 = .ok (.lastore, 1) := by decide +kernel
theorem dL_set_10 : decode cL_set 10 = .ok (.goto 7, 3) := by decide +kernel
theorem dL_set_13 : decode cL_set 13 = .ok (.astore 4, 2) := by decide +kernel
theorem dL_set_15 : decode cL_set 15 = .ok (.iconst 1, 1) := by decide +kernel
theorem dL_set_16 : decode cL_set 16 = .ok (.ireturn, 1) := by decide +kernel
theorem dL_set_17 : decode cL_set 17 = .ok (.iconst 0, 1) := by decide +kernel
theorem dL_set_18 : decode cL_set 18 = .ok (.ireturn, 1) := by decide +kernel
theorem cc_L_set_X9_set : CallC tL_set tX9_set 2 := ⟨by decide +kernel, by decide +kernel, by decide +kernel, by decide, by decide, qw_70, qw_860⟩
theorem hoL_set_0 : HOk tL_set hhL_set 5 "java/lang/IllegalArgumentException" 1 := ⟨[], (0, 10, 13, 13), [], 1, rfl, fun _ hz => (nomatch hz), by decide +kernel, by decide, qw_803, by decide +kernel, by decide +kernel, Or.inr ⟨4, dL_set_13, by decide, dL_set_15, dL_set_16⟩⟩
theorem hoL_set : ∀ (E : String) (k : Int32), (E, k) ∈ hlL_set → HOk tL_set hhL_set 5 E k := fun E k hq => by
  obtain ⟨rfl, rfl⟩ := Prod.mk.inj (List.mem_singleton.mp hq)
  exact hoL_set_0
abbrev opTL_set : HOp := o_callVT 8 7 2 tX9_set 1 6 hlL_set
theorem sTL_set : SndH tL_set hhL_set 5 opTL_set := s_callVT (d' := tX9_set) (mc := 1) (ms := 6) rfl hoL_set ok_7 cc_L_set_X9_set qw_857 qw_858 qw_859 dL_set_5
def kL_set : Nat → WOp := cN 8 (cN 2 (cN 0 (cL 0 (o_aload 1 3)) (cN 1 (cL 1 (o_push 2 0)) (cL 2 (o_aload 3 0)))) (cN 4 (cN 3 (cL 3 (o_iload 4 1)) (cL 4 (o_iload 5 2))) (cN 5 (cL 5 (oBad)) (cL 8 (o_i2l 9))))) (cN 13 (cN 9 (cL 9 (o_last 10)) (cN 10 (cL 10 (o_goto 17)) (cL 13 (oBad)))) (cN 16 (cN 15 (cL 15 (o_push 16 1)) (cL 16 (o_iret))) (cN 17 (cL 17 (o_push 18 0)) (cL 18 (o_iret)))))
theorem sL_set : ∀ pc, Snd tL_set G1 pc (kL_set pc) := s_N (s_N (s_N (s_L (s_aload_n dL_set_0 rfl)) (s_N (s_L (s_iconst dL_set_1 (by decide +kernel))) (s_L (s_aload_n dL_set_2 rfl)))) (s_N (s_N (s_L (s_iload_n dL_set_3 rfl)) (s_L (s_iload_n dL_set_4 rfl))) (s_N (s_L (s_bad)) (s_L (s_o_i2l dL_set_8))))) (s_N (s_N (s_L (s_last dL_set_9)) (s_N (s_L (s_o_goto dL_set_10 (by decide))) (s_L (s_bad)))) (s_N (s_N (s_L (s_iconst dL_set_15 (by decide +kernel))) (s_L (s_iret rfl dL_set_16))) (s_N (s_L (s_iconst dL_set_17 (by decide +kernel))) (s_L (s_iret rfl dL_set_18)))))
/-! L_pass -/
def tL_pass : TrD := (yL_pass, cL_pass, 4, some .int, 7, 144)
def hhL_pass : HH := [(0, 9, 12, 13), (0, 9, 15, 19)]
def hlL_pass : List (String × Int32) := [("java/lang/IllegalArgumentException", 1), ("java/lang/IllegalStateException", 2)]
theorem dL_pass_0 : decode cL_pass 0 = .ok (.aload_n 2, 1) := by decide +kernel
theorem dL_pass_1 : decode cL_pass 1 = .ok (.iconst 0, 1) := by decide +kernel
theorem dL_pass_2 : decode cL_pass 2 = .ok (.aload_n 0, 1) := by decide +kernel
theorem dL_pass_3 : decode cL_pass 3 = .ok (.iload_n 1, 1) := by decide +kernel
theorem dL_pass_4 : decode cL_pass 4 = .ok (.invokevirtual 30, 3) := by decide +kernel
theorem dL_pass_7 : decode cL_pass 7 = .ok (.i2l, 1) := by decide +kernel
theorem dL_pass_8 : decode cL_pass 8 = .ok (.lastore, 1) := by decide +kernel
theorem dL_pass_9 : decode cL_pass 9 = .ok (.goto 9, 3) := by decide +kernel
theorem dL_pass_12 : decode cL_pass 12 = .ok (.astore_n 3, 1) := by decide +kernel
theorem dL_pass_13 : decode cL_pass 13 = .ok (.iconst 1, 1) := by decide +kernel
theorem dL_pass_14 : decode cL_pass 14 = .ok (.ireturn, 1) := by decide +kernel
theorem dL_pass_15 : decode cL_pass 15 = .ok (.astore_n 3, 1) := by decide +kernel
theorem dL_pass_16 : decode cL_pass 16 = .ok (.iconst 2, 1) := by decide +kernel
theorem dL_pass_17 : decode cL_pass 17 = .ok (.ireturn, 1) := by decide +kernel
theorem dL_pass_18 : decode cL_pass 18 = .ok (.iconst 0, 1) := by decide +kernel
theorem dL_pass_19 : decode cL_pass 19 = .ok (.ireturn, 1) := by decide +kernel
theorem cc_L_pass_X9_pass : CallC tL_pass tX9_pass 1 := ⟨by decide +kernel, by decide +kernel, by decide +kernel, by decide, by decide, qw_70, qw_867⟩
theorem hoL_pass_0 : HOk tL_pass hhL_pass 4 "java/lang/IllegalArgumentException" 1 := ⟨[], (0, 9, 12, 13), [(0, 9, 15, 19)], 1, rfl, fun _ hz => (nomatch hz), by decide +kernel, by decide, qw_803, by decide +kernel, by decide +kernel, Or.inl ⟨3, dL_pass_12, by decide, dL_pass_13, dL_pass_14⟩⟩
theorem hoL_pass_1 : HOk tL_pass hhL_pass 4 "java/lang/IllegalStateException" 2 := ⟨[(0, 9, 12, 13)], (0, 9, 15, 19), [], 2, rfl, fun z hz => by rw [List.mem_singleton.mp hz]; exact ⟨by decide, "java/lang/IllegalArgumentException", qw_803, by decide +kernel⟩, by decide +kernel, by decide, qw_811, by decide +kernel, by decide +kernel, Or.inl ⟨3, dL_pass_15, by decide, dL_pass_16, dL_pass_17⟩⟩
theorem hoL_pass : ∀ (E : String) (k : Int32), (E, k) ∈ hlL_pass → HOk tL_pass hhL_pass 4 E k := fun E k hq => by
  rcases List.mem_cons.mp hq with hq | hq
  · obtain ⟨rfl, rfl⟩ := Prod.mk.inj hq
    exact hoL_pass_0
  · obtain ⟨rfl, rfl⟩ := Prod.mk.inj (List.mem_singleton.mp hq)
    exact hoL_pass_1
abbrev opTL_pass : HOp := o_callVT 7 7 1 tX9_pass 1 6 hlL_pass
theorem sTL_pass : SndH tL_pass hhL_pass 4 opTL_pass := s_callVT (d' := tX9_pass) (mc := 1) (ms := 6) rfl hoL_pass ok_7 cc_L_pass_X9_pass qw_864 qw_865 qw_866 dL_pass_4
def kL_pass : Nat → WOp := cN 9 (cN 3 (cN 1 (cN 0 (cL 0 (o_aload 1 2)) (cL 1 (o_push 2 0))) (cN 2 (cL 2 (o_aload 3 0)) (cL 3 (o_iload 4 1)))) (cN 7 (cN 4 (cL 4 (oBad)) (cL 7 (o_i2l 8))) (cN 8 (cL 8 (o_last 9)) (cL 9 (o_goto 18))))) (cN 15 (cN 13 (cN 12 (cL 12 (oBad)) (cL 13 (o_push 14 1))) (cN 14 (cL 14 (o_iret)) (cL 15 (oBad)))) (cN 17 (cN 16 (cL 16 (o_push 17 2)) (cL 17 (o_iret))) (cN 18 (cL 18 (o_push 19 0)) (cL 19 (o_iret)))))
theorem sL_pass : ∀ pc, Snd tL_pass G1 pc (kL_pass pc) := s_N (s_N (s_N (s_N (s_L (s_aload_n dL_pass_0 rfl)) (s_L (s_iconst dL_pass_1 (by decide +kernel)))) (s_N (s_L (s_aload_n dL_pass_2 rfl)) (s_L (s_iload_n dL_pass_3 rfl)))) (s_N (s_N (s_L (s_bad)) (s_L (s_o_i2l dL_pass_7))) (s_N (s_L (s_last dL_pass_8)) (s_L (s_o_goto dL_pass_9 (by decide)))))) (s_N (s_N (s_N (s_L (s_bad)) (s_L (s_iconst dL_pass_13 (by decide +kernel)))) (s_N (s_L (s_iret rfl dL_pass_14)) (s_L (s_bad)))) (s_N (s_N (s_L (s_iconst dL_pass_16 (by decide +kernel))) (s_L (s_iret rfl dL_pass_17))) (s_N (s_L (s_iconst dL_pass_18 (by decide +kernel))) (s_L (s_iret rfl dL_pass_19)))))
/-! L_finish -/
def tL_finish : TrD := (yL_finish, cL_finish, 3, some .int, 7, 143)
def hhL_finish : HH := [(0, 8, 11, 19)]
def hlL_finish : List (String × Int32) := [("java/lang/IllegalStateException", 1)]
theorem dL_finish_0 : decode cL_finish 0 = .ok (.aload_n 1, 1) := by decide +kernel
theorem dL_finish_1 : decode cL_finish 1 = .ok (.iconst 0, 1) := by decide +kernel
theorem dL_finish_2 : decode cL_finish 2 = .ok (.aload_n 0, 1) := by decide +kernel
theorem dL_finish_3 : decode cL_finish 3 = .ok (.invokevirtual 33, 3) := by decide +kernel
theorem dL_finish_6 : decode cL_finish 6 = .ok (.i2l, 1) := by decide +kernel
theorem dL_finish_7 : decode cL_finish 7 = .ok (.lastore, 1) := by decide +kernel
theorem dL_finish_8 : decode cL_finish 8 = .ok (.goto 6, 3) := by decide +kernel
theorem dL_finish_11 : decode cL_finish 11 = .ok (.astore_n 2, 1) := by decide +kernel
theorem dL_finish_12 : decode cL_finish 12 = .ok (.iconst 1, 1) := by decide +kernel
theorem dL_finish_13 : decode cL_finish 13 = .ok (.ireturn, 1) := by decide +kernel
theorem dL_finish_14 : decode cL_finish 14 = .ok (.iconst 0, 1) := by decide +kernel
theorem dL_finish_15 : decode cL_finish 15 = .ok (.ireturn, 1) := by decide +kernel
theorem cc_L_finish_X9_finish : CallC tL_finish tX9_finish 0 := ⟨by decide +kernel, by decide +kernel, by decide +kernel, by decide, by decide, qw_70, qw_874⟩
theorem hoL_finish_0 : HOk tL_finish hhL_finish 3 "java/lang/IllegalStateException" 1 := ⟨[], (0, 8, 11, 19), [], 1, rfl, fun _ hz => (nomatch hz), by decide +kernel, by decide, qw_811, by decide +kernel, by decide +kernel, Or.inl ⟨2, dL_finish_11, by decide, dL_finish_12, dL_finish_13⟩⟩
theorem hoL_finish : ∀ (E : String) (k : Int32), (E, k) ∈ hlL_finish → HOk tL_finish hhL_finish 3 E k := fun E k hq => by
  obtain ⟨rfl, rfl⟩ := Prod.mk.inj (List.mem_singleton.mp hq)
  exact hoL_finish_0
abbrev opTL_finish : HOp := o_callVT 6 7 0 tX9_finish 1 6 hlL_finish
theorem sTL_finish : SndH tL_finish hhL_finish 3 opTL_finish := s_callVT (d' := tX9_finish) (mc := 1) (ms := 6) rfl hoL_finish ok_7 cc_L_finish_X9_finish qw_871 qw_872 qw_873 dL_finish_3
def kL_finish : Nat → WOp := cN 7 (cN 2 (cN 0 (cL 0 (o_aload 1 1)) (cN 1 (cL 1 (o_push 2 0)) (cL 2 (o_aload 3 0)))) (cN 3 (cL 3 (oBad)) (cN 6 (cL 6 (o_i2l 7)) (cL 7 (o_last 8))))) (cN 12 (cN 8 (cL 8 (o_goto 14)) (cN 11 (cL 11 (oBad)) (cL 12 (o_push 13 1)))) (cN 13 (cL 13 (o_iret)) (cN 14 (cL 14 (o_push 15 0)) (cL 15 (o_iret)))))
theorem sL_finish : ∀ pc, Snd tL_finish G1 pc (kL_finish pc) := s_N (s_N (s_N (s_L (s_aload_n dL_finish_0 rfl)) (s_N (s_L (s_iconst dL_finish_1 (by decide +kernel))) (s_L (s_aload_n dL_finish_2 rfl)))) (s_N (s_L (s_bad)) (s_N (s_L (s_o_i2l dL_finish_6)) (s_L (s_last dL_finish_7))))) (s_N (s_N (s_L (s_o_goto dL_finish_8 (by decide))) (s_N (s_L (s_bad)) (s_L (s_iconst dL_finish_12 (by decide +kernel))))) (s_N (s_L (s_iret rfl dL_finish_13)) (s_N (s_L (s_iconst dL_finish_14 (by decide +kernel))) (s_L (s_iret rfl dL_finish_15)))))
/-! L_requestOf -/
def tL_requestOf : TrD := (yL_requestOf, cL_requestOf, 5, some .int, 7, 104)
def hhL_requestOf : HH := [(0, 10, 13, 25), (0, 10, 17, 13)]
def hlL_requestOf : List (String × Int32) := [("java/lang/IndexOutOfBoundsException", 1), ("java/lang/IllegalArgumentException", 2)]
theorem dL_requestOf_0 : decode cL_requestOf 0 = .ok (.aload_n 3, 1) := by decide +kernel
theorem dL_requestOf_1 : decode cL_requestOf 1 = .ok (.iconst 0, 1) := by decide +kernel
theorem dL_requestOf_2 : decode cL_requestOf 2 = .ok (.aload_n 0, 1) := by decide +kernel
theorem dL_requestOf_3 : decode cL_requestOf 3 = .ok (.iload_n 1, 1) := by decide +kernel
theorem dL_requestOf_4 : decode cL_requestOf 4 = .ok (.iload_n 2, 1) := by decide +kernel
theorem dL_requestOf_5 : decode cL_requestOf 5 = .ok (.invokevirtual 37, 3) := by decide +kernel
theorem dL_requestOf_8 : decode cL_requestOf 8 = .ok (.i2l, 1) := by decide +kernel
theorem dL_requestOf_9 : decode cL_requestOf 9 = .ok (.lastore, 1) := by decide +kernel
theorem dL_requestOf_10 : decode cL_requestOf 10 = .ok (.goto 11, 3) := by decide +kernel
theorem dL_requestOf_13 : decode cL_requestOf 13 = .ok (.astore 4, 2) := by decide +kernel
theorem dL_requestOf_15 : decode cL_requestOf 15 = .ok (.iconst 1, 1) := by decide +kernel
theorem dL_requestOf_16 : decode cL_requestOf 16 = .ok (.ireturn, 1) := by decide +kernel
theorem dL_requestOf_17 : decode cL_requestOf 17 = .ok (.astore 4, 2) := by decide +kernel
theorem dL_requestOf_19 : decode cL_requestOf 19 = .ok (.iconst 2, 1) := by decide +kernel
theorem dL_requestOf_20 : decode cL_requestOf 20 = .ok (.ireturn, 1) := by decide +kernel
theorem dL_requestOf_21 : decode cL_requestOf 21 = .ok (.iconst 0, 1) := by decide +kernel
theorem dL_requestOf_22 : decode cL_requestOf 22 = .ok (.ireturn, 1) := by decide +kernel
theorem cc_L_requestOf_X9_requestOf : CallC tL_requestOf tX9_requestOf 2 := ⟨by decide +kernel, by decide +kernel, by decide +kernel, by decide, by decide, qw_70, qw_881⟩
theorem hoL_requestOf_0 : HOk tL_requestOf hhL_requestOf 5 "java/lang/IndexOutOfBoundsException" 1 := ⟨[], (0, 10, 13, 25), [(0, 10, 17, 13)], 1, rfl, fun _ hz => (nomatch hz), by decide +kernel, by decide, qw_834, by decide +kernel, by decide +kernel, Or.inr ⟨4, dL_requestOf_13, by decide, dL_requestOf_15, dL_requestOf_16⟩⟩
theorem hoL_requestOf_1 : HOk tL_requestOf hhL_requestOf 5 "java/lang/IllegalArgumentException" 2 := ⟨[(0, 10, 13, 25)], (0, 10, 17, 13), [], 2, rfl, fun z hz => by rw [List.mem_singleton.mp hz]; exact ⟨by decide, "java/lang/IndexOutOfBoundsException", qw_834, by decide +kernel⟩, by decide +kernel, by decide, qw_803, by decide +kernel, by decide +kernel, Or.inr ⟨4, dL_requestOf_17, by decide, dL_requestOf_19, dL_requestOf_20⟩⟩
theorem hoL_requestOf : ∀ (E : String) (k : Int32), (E, k) ∈ hlL_requestOf → HOk tL_requestOf hhL_requestOf 5 E k := fun E k hq => by
  rcases List.mem_cons.mp hq with hq | hq
  · obtain ⟨rfl, rfl⟩ := Prod.mk.inj hq
    exact hoL_requestOf_0
  · obtain ⟨rfl, rfl⟩ := Prod.mk.inj (List.mem_singleton.mp hq)
    exact hoL_requestOf_1
abbrev opTL_requestOf : HOp := o_callVT 8 7 2 tX9_requestOf 1 6 hlL_requestOf
theorem sTL_requestOf : SndH tL_requestOf hhL_requestOf 5 opTL_requestOf := s_callVT (d' := tX9_requestOf) (mc := 1) (ms := 6) rfl hoL_requestOf ok_7 cc_L_requestOf_X9_requestOf qw_878 qw_879 qw_880 dL_requestOf_5
def kL_requestOf : Nat → WOp := cN 9 (cN 3 (cN 1 (cN 0 (cL 0 (o_aload 1 3)) (cL 1 (o_push 2 0))) (cN 2 (cL 2 (o_aload 3 0)) (cL 3 (o_iload 4 1)))) (cN 5 (cN 4 (cL 4 (o_iload 5 2)) (cL 5 (oBad))) (cN 8 (cL 8 (o_i2l 9)) (cL 9 (o_last 10))))) (cN 16 (cN 13 (cN 10 (cL 10 (o_goto 21)) (cL 13 (oBad))) (cN 15 (cL 15 (o_push 16 1)) (cL 16 (o_iret)))) (cN 19 (cN 17 (cL 17 (oBad)) (cL 19 (o_push 20 2))) (cN 20 (cL 20 (o_iret)) (cN 21 (cL 21 (o_push 22 0)) (cL 22 (o_iret))))))
theorem sL_requestOf : ∀ pc, Snd tL_requestOf G1 pc (kL_requestOf pc) := s_N (s_N (s_N (s_N (s_L (s_aload_n dL_requestOf_0 rfl)) (s_L (s_iconst dL_requestOf_1 (by decide +kernel)))) (s_N (s_L (s_aload_n dL_requestOf_2 rfl)) (s_L (s_iload_n dL_requestOf_3 rfl)))) (s_N (s_N (s_L (s_iload_n dL_requestOf_4 rfl)) (s_L (s_bad))) (s_N (s_L (s_o_i2l dL_requestOf_8)) (s_L (s_last dL_requestOf_9))))) (s_N (s_N (s_N (s_L (s_o_goto dL_requestOf_10 (by decide))) (s_L (s_bad))) (s_N (s_L (s_iconst dL_requestOf_15 (by decide +kernel))) (s_L (s_iret rfl dL_requestOf_16)))) (s_N (s_N (s_L (s_bad)) (s_L (s_iconst dL_requestOf_19 (by decide +kernel)))) (s_N (s_L (s_iret rfl dL_requestOf_20)) (s_N (s_L (s_iconst dL_requestOf_21 (by decide +kernel))) (s_L (s_iret rfl dL_requestOf_22))))))
/-! L_requestAt -/
def tL_requestAt : TrD := (yL_requestAt, cL_requestAt, 4, some .int, 7, 102)
def hhL_requestAt : HH := [(0, 9, 12, 13)]
def hlL_requestAt : List (String × Int32) := [("java/lang/IllegalArgumentException", 1)]
theorem dL_requestAt_0 : decode cL_requestAt 0 = .ok (.aload_n 2, 1) := by decide +kernel
theorem dL_requestAt_1 : decode cL_requestAt 1 = .ok (.iconst 0, 1) := by decide +kernel
theorem dL_requestAt_2 : decode cL_requestAt 2 = .ok (.aload_n 0, 1) := by decide +kernel
theorem dL_requestAt_3 : decode cL_requestAt 3 = .ok (.iload_n 1, 1) := by decide +kernel
theorem dL_requestAt_4 : decode cL_requestAt 4 = .ok (.invokevirtual 40, 3) := by decide +kernel
theorem dL_requestAt_7 : decode cL_requestAt 7 = .ok (.i2l, 1) := by decide +kernel
theorem dL_requestAt_8 : decode cL_requestAt 8 = .ok (.lastore, 1) := by decide +kernel
theorem dL_requestAt_9 : decode cL_requestAt 9 = .ok (.goto 6, 3) := by decide +kernel
theorem dL_requestAt_12 : decode cL_requestAt 12 = .ok (.astore_n 3, 1) := by decide +kernel
theorem dL_requestAt_13 : decode cL_requestAt 13 = .ok (.iconst 1, 1) := by decide +kernel
theorem dL_requestAt_14 : decode cL_requestAt 14 = .ok (.ireturn, 1) := by decide +kernel
theorem dL_requestAt_15 : decode cL_requestAt 15 = .ok (.iconst 0, 1) := by decide +kernel
theorem dL_requestAt_16 : decode cL_requestAt 16 = .ok (.ireturn, 1) := by decide +kernel
theorem cc_L_requestAt_X9_requestAt : CallC tL_requestAt tX9_requestAt 1 := ⟨by decide +kernel, by decide +kernel, by decide +kernel, by decide, by decide, qw_70, qw_888⟩
theorem hoL_requestAt_0 : HOk tL_requestAt hhL_requestAt 4 "java/lang/IllegalArgumentException" 1 := ⟨[], (0, 9, 12, 13), [], 1, rfl, fun _ hz => (nomatch hz), by decide +kernel, by decide, qw_803, by decide +kernel, by decide +kernel, Or.inl ⟨3, dL_requestAt_12, by decide, dL_requestAt_13, dL_requestAt_14⟩⟩
theorem hoL_requestAt : ∀ (E : String) (k : Int32), (E, k) ∈ hlL_requestAt → HOk tL_requestAt hhL_requestAt 4 E k := fun E k hq => by
  obtain ⟨rfl, rfl⟩ := Prod.mk.inj (List.mem_singleton.mp hq)
  exact hoL_requestAt_0
abbrev opTL_requestAt : HOp := o_callVT 7 7 1 tX9_requestAt 1 6 hlL_requestAt
theorem sTL_requestAt : SndH tL_requestAt hhL_requestAt 4 opTL_requestAt := s_callVT (d' := tX9_requestAt) (mc := 1) (ms := 6) rfl hoL_requestAt ok_7 cc_L_requestAt_X9_requestAt qw_885 qw_886 qw_887 dL_requestAt_4
def kL_requestAt : Nat → WOp := cN 7 (cN 2 (cN 0 (cL 0 (o_aload 1 2)) (cN 1 (cL 1 (o_push 2 0)) (cL 2 (o_aload 3 0)))) (cN 3 (cL 3 (o_iload 4 1)) (cN 4 (cL 4 (oBad)) (cL 7 (o_i2l 8))))) (cN 12 (cN 8 (cL 8 (o_last 9)) (cN 9 (cL 9 (o_goto 15)) (cL 12 (oBad)))) (cN 14 (cN 13 (cL 13 (o_push 14 1)) (cL 14 (o_iret))) (cN 15 (cL 15 (o_push 16 0)) (cL 16 (o_iret)))))
theorem sL_requestAt : ∀ pc, Snd tL_requestAt G1 pc (kL_requestAt pc) := s_N (s_N (s_N (s_L (s_aload_n dL_requestAt_0 rfl)) (s_N (s_L (s_iconst dL_requestAt_1 (by decide +kernel))) (s_L (s_aload_n dL_requestAt_2 rfl)))) (s_N (s_L (s_iload_n dL_requestAt_3 rfl)) (s_N (s_L (s_bad)) (s_L (s_o_i2l dL_requestAt_7))))) (s_N (s_N (s_L (s_last dL_requestAt_8)) (s_N (s_L (s_o_goto dL_requestAt_9 (by decide))) (s_L (s_bad)))) (s_N (s_N (s_L (s_iconst dL_requestAt_13 (by decide +kernel))) (s_L (s_iret rfl dL_requestAt_14))) (s_N (s_L (s_iconst dL_requestAt_15 (by decide +kernel))) (s_L (s_iret rfl dL_requestAt_16)))))
/-! L_logged -/
def tL_logged : TrD := (yL_logged, cL_logged, 5, some .int, 7, 103)
def hhL_logged : HH := [(0, 10, 13, 13)]
def hlL_logged : List (String × Int32) := [("java/lang/IllegalArgumentException", 1)]
theorem dL_logged_0 : decode cL_logged 0 = .ok (.aload_n 3, 1) := by decide +kernel
theorem dL_logged_1 : decode cL_logged 1 = .ok (.iconst 0, 1) := by decide +kernel
theorem dL_logged_2 : decode cL_logged 2 = .ok (.aload_n 0, 1) := by decide +kernel
theorem dL_logged_3 : decode cL_logged 3 = .ok (.iload_n 1, 1) := by decide +kernel
theorem dL_logged_4 : decode cL_logged 4 = .ok (.iload_n 2, 1) := by decide +kernel
theorem dL_logged_5 : decode cL_logged 5 = .ok (.invokevirtual 43, 3) := by decide +kernel
theorem dL_logged_8 : decode cL_logged 8 = .ok (.i2l, 1) := by decide +kernel
theorem dL_logged_9 : decode cL_logged 9 = .ok (.lastore, 1) := by decide +kernel
theorem dL_logged_10 : decode cL_logged 10 = .ok (.goto 7, 3) := by decide +kernel
theorem dL_logged_13 : decode cL_logged 13 = .ok (.astore 4, 2) := by decide +kernel
theorem dL_logged_15 : decode cL_logged 15 = .ok (.iconst 1, 1) := by decide +kernel
theorem dL_logged_16 : decode cL_logged 16 = .ok (.ireturn, 1) := by decide +kernel
theorem dL_logged_17 : decode cL_logged 17 = .ok (.iconst 0, 1) := by decide +kernel
theorem dL_logged_18 : decode cL_logged 18 = .ok (.ireturn, 1) := by decide +kernel
theorem cc_L_logged_X9_logged : CallC tL_logged tX9_logged 2 := ⟨by decide +kernel, by decide +kernel, by decide +kernel, by decide, by decide, qw_70, qw_895⟩
theorem hoL_logged_0 : HOk tL_logged hhL_logged 5 "java/lang/IllegalArgumentException" 1 := ⟨[], (0, 10, 13, 13), [], 1, rfl, fun _ hz => (nomatch hz), by decide +kernel, by decide, qw_803, by decide +kernel, by decide +kernel, Or.inr ⟨4, dL_logged_13, by decide, dL_logged_15, dL_logged_16⟩⟩
theorem hoL_logged : ∀ (E : String) (k : Int32), (E, k) ∈ hlL_logged → HOk tL_logged hhL_logged 5 E k := fun E k hq => by
  obtain ⟨rfl, rfl⟩ := Prod.mk.inj (List.mem_singleton.mp hq)
  exact hoL_logged_0
abbrev opTL_logged : HOp := o_callVT 8 7 2 tX9_logged 1 6 hlL_logged
theorem sTL_logged : SndH tL_logged hhL_logged 5 opTL_logged := s_callVT (d' := tX9_logged) (mc := 1) (ms := 6) rfl hoL_logged ok_7 cc_L_logged_X9_logged qw_892 qw_893 qw_894 dL_logged_5
def kL_logged : Nat → WOp := cN 8 (cN 2 (cN 0 (cL 0 (o_aload 1 3)) (cN 1 (cL 1 (o_push 2 0)) (cL 2 (o_aload 3 0)))) (cN 4 (cN 3 (cL 3 (o_iload 4 1)) (cL 4 (o_iload 5 2))) (cN 5 (cL 5 (oBad)) (cL 8 (o_i2l 9))))) (cN 13 (cN 9 (cL 9 (o_last 10)) (cN 10 (cL 10 (o_goto 17)) (cL 13 (oBad)))) (cN 16 (cN 15 (cL 15 (o_push 16 1)) (cL 16 (o_iret))) (cN 17 (cL 17 (o_push 18 0)) (cL 18 (o_iret)))))
theorem sL_logged : ∀ pc, Snd tL_logged G1 pc (kL_logged pc) := s_N (s_N (s_N (s_L (s_aload_n dL_logged_0 rfl)) (s_N (s_L (s_iconst dL_logged_1 (by decide +kernel))) (s_L (s_aload_n dL_logged_2 rfl)))) (s_N (s_N (s_L (s_iload_n dL_logged_3 rfl)) (s_L (s_iload_n dL_logged_4 rfl))) (s_N (s_L (s_bad)) (s_L (s_o_i2l dL_logged_8))))) (s_N (s_N (s_L (s_last dL_logged_9)) (s_N (s_L (s_o_goto dL_logged_10 (by decide))) (s_L (s_bad)))) (s_N (s_N (s_L (s_iconst dL_logged_15 (by decide +kernel))) (s_L (s_iret rfl dL_logged_16))) (s_N (s_L (s_iconst dL_logged_17 (by decide +kernel))) (s_L (s_iret rfl dL_logged_18)))))
/-! L_arm -/
def tL_arm : TrD := (yL_arm, cL_arm, 4, some .int, 7, 102)
def hhL_arm : HH := [(0, 9, 12, 13)]
def hlL_arm : List (String × Int32) := [("java/lang/IllegalArgumentException", 1)]
theorem dL_arm_0 : decode cL_arm 0 = .ok (.aload_n 2, 1) := by decide +kernel
theorem dL_arm_1 : decode cL_arm 1 = .ok (.iconst 0, 1) := by decide +kernel
theorem dL_arm_2 : decode cL_arm 2 = .ok (.aload_n 0, 1) := by decide +kernel
theorem dL_arm_3 : decode cL_arm 3 = .ok (.iload_n 1, 1) := by decide +kernel
theorem dL_arm_4 : decode cL_arm 4 = .ok (.invokevirtual 46, 3) := by decide +kernel
theorem dL_arm_7 : decode cL_arm 7 = .ok (.i2l, 1) := by decide +kernel
theorem dL_arm_8 : decode cL_arm 8 = .ok (.lastore, 1) := by decide +kernel
theorem dL_arm_9 : decode cL_arm 9 = .ok (.goto 6, 3) := by decide +kernel
theorem dL_arm_12 : decode cL_arm 12 = .ok (.astore_n 3, 1) := by decide +kernel
theorem dL_arm_13 : decode cL_arm 13 = .ok (.iconst 1, 1) := by decide +kernel
theorem dL_arm_14 : decode cL_arm 14 = .ok (.ireturn, 1) := by decide +kernel
theorem dL_arm_15 : decode cL_arm 15 = .ok (.iconst 0, 1) := by decide +kernel
theorem dL_arm_16 : decode cL_arm 16 = .ok (.ireturn, 1) := by decide +kernel
theorem cc_L_arm_X9_arm : CallC tL_arm tX9_arm 1 := ⟨by decide +kernel, by decide +kernel, by decide +kernel, by decide, by decide, qw_70, qw_756⟩
theorem hoL_arm_0 : HOk tL_arm hhL_arm 4 "java/lang/IllegalArgumentException" 1 := ⟨[], (0, 9, 12, 13), [], 1, rfl, fun _ hz => (nomatch hz), by decide +kernel, by decide, qw_803, by decide +kernel, by decide +kernel, Or.inl ⟨3, dL_arm_12, by decide, dL_arm_13, dL_arm_14⟩⟩
theorem hoL_arm : ∀ (E : String) (k : Int32), (E, k) ∈ hlL_arm → HOk tL_arm hhL_arm 4 E k := fun E k hq => by
  obtain ⟨rfl, rfl⟩ := Prod.mk.inj (List.mem_singleton.mp hq)
  exact hoL_arm_0
abbrev opTL_arm : HOp := o_callVT 7 7 1 tX9_arm 1 6 hlL_arm
theorem sTL_arm : SndH tL_arm hhL_arm 4 opTL_arm := s_callVT (d' := tX9_arm) (mc := 1) (ms := 6) rfl hoL_arm ok_7 cc_L_arm_X9_arm qw_899 qw_754 qw_755 dL_arm_4
def kL_arm : Nat → WOp := cN 7 (cN 2 (cN 0 (cL 0 (o_aload 1 2)) (cN 1 (cL 1 (o_push 2 0)) (cL 2 (o_aload 3 0)))) (cN 3 (cL 3 (o_iload 4 1)) (cN 4 (cL 4 (oBad)) (cL 7 (o_i2l 8))))) (cN 12 (cN 8 (cL 8 (o_last 9)) (cN 9 (cL 9 (o_goto 15)) (cL 12 (oBad)))) (cN 14 (cN 13 (cL 13 (o_push 14 1)) (cL 14 (o_iret))) (cN 15 (cL 15 (o_push 16 0)) (cL 16 (o_iret)))))
theorem sL_arm : ∀ pc, Snd tL_arm G1 pc (kL_arm pc) := s_N (s_N (s_N (s_L (s_aload_n dL_arm_0 rfl)) (s_N (s_L (s_iconst dL_arm_1 (by decide +kernel))) (s_L (s_aload_n dL_arm_2 rfl)))) (s_N (s_L (s_iload_n dL_arm_3 rfl)) (s_N (s_L (s_bad)) (s_L (s_o_i2l dL_arm_7))))) (s_N (s_N (s_L (s_last dL_arm_8)) (s_N (s_L (s_o_goto dL_arm_9 (by decide))) (s_L (s_bad)))) (s_N (s_N (s_L (s_iconst dL_arm_13 (by decide +kernel))) (s_L (s_iret rfl dL_arm_14))) (s_N (s_L (s_iconst dL_arm_15 (by decide +kernel))) (s_L (s_iret rfl dL_arm_16)))))
/-! L_whole -/
def tL_whole : TrD := (yL_whole, cL_whole, 4, some .int, 7, 102)
def hhL_whole : HH := [(0, 9, 12, 13)]
def hlL_whole : List (String × Int32) := [("java/lang/IllegalArgumentException", 1)]
theorem dL_whole_0 : decode cL_whole 0 = .ok (.aload_n 2, 1) := by decide +kernel
theorem dL_whole_1 : decode cL_whole 1 = .ok (.iconst 0, 1) := by decide +kernel
theorem dL_whole_2 : decode cL_whole 2 = .ok (.aload_n 0, 1) := by decide +kernel
theorem dL_whole_3 : decode cL_whole 3 = .ok (.iload_n 1, 1) := by decide +kernel
theorem dL_whole_4 : decode cL_whole 4 = .ok (.invokevirtual 49, 3) := by decide +kernel
theorem dL_whole_7 : decode cL_whole 7 = .ok (.i2l, 1) := by decide +kernel
theorem dL_whole_8 : decode cL_whole 8 = .ok (.lastore, 1) := by decide +kernel
theorem dL_whole_9 : decode cL_whole 9 = .ok (.goto 6, 3) := by decide +kernel
theorem dL_whole_12 : decode cL_whole 12 = .ok (.astore_n 3, 1) := by decide +kernel
theorem dL_whole_13 : decode cL_whole 13 = .ok (.iconst 1, 1) := by decide +kernel
theorem dL_whole_14 : decode cL_whole 14 = .ok (.ireturn, 1) := by decide +kernel
theorem dL_whole_15 : decode cL_whole 15 = .ok (.iconst 0, 1) := by decide +kernel
theorem dL_whole_16 : decode cL_whole 16 = .ok (.ireturn, 1) := by decide +kernel
theorem cc_L_whole_X9_whole : CallC tL_whole tX9_whole 1 := ⟨by decide +kernel, by decide +kernel, by decide +kernel, by decide, by decide, qw_70, qw_689⟩
theorem hoL_whole_0 : HOk tL_whole hhL_whole 4 "java/lang/IllegalArgumentException" 1 := ⟨[], (0, 9, 12, 13), [], 1, rfl, fun _ hz => (nomatch hz), by decide +kernel, by decide, qw_803, by decide +kernel, by decide +kernel, Or.inl ⟨3, dL_whole_12, by decide, dL_whole_13, dL_whole_14⟩⟩
theorem hoL_whole : ∀ (E : String) (k : Int32), (E, k) ∈ hlL_whole → HOk tL_whole hhL_whole 4 E k := fun E k hq => by
  obtain ⟨rfl, rfl⟩ := Prod.mk.inj (List.mem_singleton.mp hq)
  exact hoL_whole_0
abbrev opTL_whole : HOp := o_callVT 7 7 1 tX9_whole 1 6 hlL_whole
theorem sTL_whole : SndH tL_whole hhL_whole 4 opTL_whole := s_callVT (d' := tX9_whole) (mc := 1) (ms := 6) rfl hoL_whole ok_7 cc_L_whole_X9_whole qw_903 qw_687 qw_688 dL_whole_4
def kL_whole : Nat → WOp := cN 7 (cN 2 (cN 0 (cL 0 (o_aload 1 2)) (cN 1 (cL 1 (o_push 2 0)) (cL 2 (o_aload 3 0)))) (cN 3 (cL 3 (o_iload 4 1)) (cN 4 (cL 4 (oBad)) (cL 7 (o_i2l 8))))) (cN 12 (cN 8 (cL 8 (o_last 9)) (cN 9 (cL 9 (o_goto 15)) (cL 12 (oBad)))) (cN 14 (cN 13 (cL 13 (o_push 14 1)) (cL 14 (o_iret))) (cN 15 (cL 15 (o_push 16 0)) (cL 16 (o_iret)))))
theorem sL_whole : ∀ pc, Snd tL_whole G1 pc (kL_whole pc) := s_N (s_N (s_N (s_L (s_aload_n dL_whole_0 rfl)) (s_N (s_L (s_iconst dL_whole_1 (by decide +kernel))) (s_L (s_aload_n dL_whole_2 rfl)))) (s_N (s_L (s_iload_n dL_whole_3 rfl)) (s_N (s_L (s_bad)) (s_L (s_o_i2l dL_whole_7))))) (s_N (s_N (s_L (s_last dL_whole_8)) (s_N (s_L (s_o_goto dL_whole_9 (by decide))) (s_L (s_bad)))) (s_N (s_N (s_L (s_iconst dL_whole_13 (by decide +kernel))) (s_L (s_iret rfl dL_whole_14))) (s_N (s_L (s_iconst dL_whole_15 (by decide +kernel))) (s_L (s_iret rfl dL_whole_16)))))
/-! L_target -/
def tL_target : TrD := (yL_target, cL_target, 4, some .int, 7, 115)
def hhL_target : HH := [(0, 9, 12, 13)]
def hlL_target : List (String × Int32) := [("java/lang/IllegalArgumentException", 1)]
theorem dL_target_0 : decode cL_target 0 = .ok (.aload_n 2, 1) := by decide +kernel
theorem dL_target_1 : decode cL_target 1 = .ok (.iconst 0, 1) := by decide +kernel
theorem dL_target_2 : decode cL_target 2 = .ok (.aload_n 0, 1) := by decide +kernel
theorem dL_target_3 : decode cL_target 3 = .ok (.iload_n 1, 1) := by decide +kernel
theorem dL_target_4 : decode cL_target 4 = .ok (.invokevirtual 52, 3) := by decide +kernel
theorem dL_target_7 : decode cL_target 7 = .ok (.i2l, 1) := by decide +kernel
theorem dL_target_8 : decode cL_target 8 = .ok (.lastore, 1) := by decide +kernel
theorem dL_target_9 : decode cL_target 9 = .ok (.goto 6, 3) := by decide +kernel
theorem dL_target_12 : decode cL_target 12 = .ok (.astore_n 3, 1) := by decide +kernel
theorem dL_target_13 : decode cL_target 13 = .ok (.iconst 1, 1) := by decide +kernel
theorem dL_target_14 : decode cL_target 14 = .ok (.ireturn, 1) := by decide +kernel
theorem dL_target_15 : decode cL_target 15 = .ok (.iconst 0, 1) := by decide +kernel
theorem dL_target_16 : decode cL_target 16 = .ok (.ireturn, 1) := by decide +kernel
theorem cc_L_target_X9_target : CallC tL_target tX9_target 1 := ⟨by decide +kernel, by decide +kernel, by decide +kernel, by decide, by decide, qw_70, qw_787⟩
theorem hoL_target_0 : HOk tL_target hhL_target 4 "java/lang/IllegalArgumentException" 1 := ⟨[], (0, 9, 12, 13), [], 1, rfl, fun _ hz => (nomatch hz), by decide +kernel, by decide, qw_803, by decide +kernel, by decide +kernel, Or.inl ⟨3, dL_target_12, by decide, dL_target_13, dL_target_14⟩⟩
theorem hoL_target : ∀ (E : String) (k : Int32), (E, k) ∈ hlL_target → HOk tL_target hhL_target 4 E k := fun E k hq => by
  obtain ⟨rfl, rfl⟩ := Prod.mk.inj (List.mem_singleton.mp hq)
  exact hoL_target_0
abbrev opTL_target : HOp := o_callVT 7 7 1 tX9_target 1 6 hlL_target
theorem sTL_target : SndH tL_target hhL_target 4 opTL_target := s_callVT (d' := tX9_target) (mc := 1) (ms := 6) rfl hoL_target ok_7 cc_L_target_X9_target qw_907 qw_785 qw_786 dL_target_4
def kL_target : Nat → WOp := cN 7 (cN 2 (cN 0 (cL 0 (o_aload 1 2)) (cN 1 (cL 1 (o_push 2 0)) (cL 2 (o_aload 3 0)))) (cN 3 (cL 3 (o_iload 4 1)) (cN 4 (cL 4 (oBad)) (cL 7 (o_i2l 8))))) (cN 12 (cN 8 (cL 8 (o_last 9)) (cN 9 (cL 9 (o_goto 15)) (cL 12 (oBad)))) (cN 14 (cN 13 (cL 13 (o_push 14 1)) (cL 14 (o_iret))) (cN 15 (cL 15 (o_push 16 0)) (cL 16 (o_iret)))))
theorem sL_target : ∀ pc, Snd tL_target G1 pc (kL_target pc) := s_N (s_N (s_N (s_L (s_aload_n dL_target_0 rfl)) (s_N (s_L (s_iconst dL_target_1 (by decide +kernel))) (s_L (s_aload_n dL_target_2 rfl)))) (s_N (s_L (s_iload_n dL_target_3 rfl)) (s_N (s_L (s_bad)) (s_L (s_o_i2l dL_target_7))))) (s_N (s_N (s_L (s_last dL_target_8)) (s_N (s_L (s_o_goto dL_target_9 (by decide))) (s_L (s_bad)))) (s_N (s_N (s_L (s_iconst dL_target_13 (by decide +kernel))) (s_L (s_iret rfl dL_target_14))) (s_N (s_L (s_iconst dL_target_15 (by decide +kernel))) (s_L (s_iret rfl dL_target_16)))))
/-! L_readIn -/
def tL_readIn : TrD := (yL_readIn, cL_readIn, 4, some .int, 7, 136)
def hhL_readIn : HH := [(0, 9, 12, 25)]
def hlL_readIn : List (String × Int32) := [("java/lang/IndexOutOfBoundsException", 1)]
theorem dL_readIn_0 : decode cL_readIn 0 = .ok (.aload_n 2, 1) := by decide +kernel
theorem dL_readIn_1 : decode cL_readIn 1 = .ok (.iconst 0, 1) := by decide +kernel
theorem dL_readIn_2 : decode cL_readIn 2 = .ok (.aload_n 0, 1) := by decide +kernel
theorem dL_readIn_3 : decode cL_readIn 3 = .ok (.iload_n 1, 1) := by decide +kernel
theorem dL_readIn_4 : decode cL_readIn 4 = .ok (.invokevirtual 55, 3) := by decide +kernel
theorem dL_readIn_7 : decode cL_readIn 7 = .ok (.i2l, 1) := by decide +kernel
theorem dL_readIn_8 : decode cL_readIn 8 = .ok (.lastore, 1) := by decide +kernel
theorem dL_readIn_9 : decode cL_readIn 9 = .ok (.goto 6, 3) := by decide +kernel
theorem dL_readIn_12 : decode cL_readIn 12 = .ok (.astore_n 3, 1) := by decide +kernel
theorem dL_readIn_13 : decode cL_readIn 13 = .ok (.iconst 1, 1) := by decide +kernel
theorem dL_readIn_14 : decode cL_readIn 14 = .ok (.ireturn, 1) := by decide +kernel
theorem dL_readIn_15 : decode cL_readIn 15 = .ok (.iconst 0, 1) := by decide +kernel
theorem dL_readIn_16 : decode cL_readIn 16 = .ok (.ireturn, 1) := by decide +kernel
theorem cc_L_readIn_X9_readIn : CallC tL_readIn tX9_readIn 1 := ⟨by decide +kernel, by decide +kernel, by decide +kernel, by decide, by decide, qw_70, qw_914⟩
theorem hoL_readIn_0 : HOk tL_readIn hhL_readIn 4 "java/lang/IndexOutOfBoundsException" 1 := ⟨[], (0, 9, 12, 25), [], 1, rfl, fun _ hz => (nomatch hz), by decide +kernel, by decide, qw_834, by decide +kernel, by decide +kernel, Or.inl ⟨3, dL_readIn_12, by decide, dL_readIn_13, dL_readIn_14⟩⟩
theorem hoL_readIn : ∀ (E : String) (k : Int32), (E, k) ∈ hlL_readIn → HOk tL_readIn hhL_readIn 4 E k := fun E k hq => by
  obtain ⟨rfl, rfl⟩ := Prod.mk.inj (List.mem_singleton.mp hq)
  exact hoL_readIn_0
abbrev opTL_readIn : HOp := o_callVT 7 7 1 tX9_readIn 1 6 hlL_readIn
theorem sTL_readIn : SndH tL_readIn hhL_readIn 4 opTL_readIn := s_callVT (d' := tX9_readIn) (mc := 1) (ms := 6) rfl hoL_readIn ok_7 cc_L_readIn_X9_readIn qw_911 qw_912 qw_913 dL_readIn_4
def kL_readIn : Nat → WOp := cN 7 (cN 2 (cN 0 (cL 0 (o_aload 1 2)) (cN 1 (cL 1 (o_push 2 0)) (cL 2 (o_aload 3 0)))) (cN 3 (cL 3 (o_iload 4 1)) (cN 4 (cL 4 (oBad)) (cL 7 (o_i2l 8))))) (cN 12 (cN 8 (cL 8 (o_last 9)) (cN 9 (cL 9 (o_goto 15)) (cL 12 (oBad)))) (cN 14 (cN 13 (cL 13 (o_push 14 1)) (cL 14 (o_iret))) (cN 15 (cL 15 (o_push 16 0)) (cL 16 (o_iret)))))
theorem sL_readIn : ∀ pc, Snd tL_readIn G1 pc (kL_readIn pc) := s_N (s_N (s_N (s_L (s_aload_n dL_readIn_0 rfl)) (s_N (s_L (s_iconst dL_readIn_1 (by decide +kernel))) (s_L (s_aload_n dL_readIn_2 rfl)))) (s_N (s_L (s_iload_n dL_readIn_3 rfl)) (s_N (s_L (s_bad)) (s_L (s_o_i2l dL_readIn_7))))) (s_N (s_N (s_L (s_last dL_readIn_8)) (s_N (s_L (s_o_goto dL_readIn_9 (by decide))) (s_L (s_bad)))) (s_N (s_N (s_L (s_iconst dL_readIn_13 (by decide +kernel))) (s_L (s_iret rfl dL_readIn_14))) (s_N (s_L (s_iconst dL_readIn_15 (by decide +kernel))) (s_L (s_iret rfl dL_readIn_16)))))
/-! L_finishBy -/
def tL_finishBy : TrD := (yL_finishBy, cL_finishBy, 5, some .int, 7, 158)
def hhL_finishBy : HH := [(0, 10, 13, 13)]
def hlL_finishBy : List (String × Int32) := [("java/lang/IllegalArgumentException", 1)]
theorem dL_finishBy_0 : decode cL_finishBy 0 = .ok (.aload_n 3, 1) := by decide +kernel
theorem dL_finishBy_1 : decode cL_finishBy 1 = .ok (.iconst 0, 1) := by decide +kernel
theorem dL_finishBy_2 : decode cL_finishBy 2 = .ok (.aload_n 0, 1) := by decide +kernel
theorem dL_finishBy_3 : decode cL_finishBy 3 = .ok (.iload_n 1, 1) := by decide +kernel
theorem dL_finishBy_4 : decode cL_finishBy 4 = .ok (.iload_n 2, 1) := by decide +kernel
theorem dL_finishBy_5 : decode cL_finishBy 5 = .ok (.invokevirtual 58, 3) := by decide +kernel
theorem dL_finishBy_8 : decode cL_finishBy 8 = .ok (.i2l, 1) := by decide +kernel
theorem dL_finishBy_9 : decode cL_finishBy 9 = .ok (.lastore, 1) := by decide +kernel
theorem dL_finishBy_10 : decode cL_finishBy 10 = .ok (.goto 7, 3) := by decide +kernel
theorem dL_finishBy_13 : decode cL_finishBy 13 = .ok (.astore 4, 2) := by decide +kernel
theorem dL_finishBy_15 : decode cL_finishBy 15 = .ok (.iconst 1, 1) := by decide +kernel
theorem dL_finishBy_16 : decode cL_finishBy 16 = .ok (.ireturn, 1) := by decide +kernel
theorem dL_finishBy_17 : decode cL_finishBy 17 = .ok (.iconst 0, 1) := by decide +kernel
theorem dL_finishBy_18 : decode cL_finishBy 18 = .ok (.ireturn, 1) := by decide +kernel
theorem cc_L_finishBy_X9_finishBy : CallC tL_finishBy tX9_finishBy 2 := ⟨by decide +kernel, by decide +kernel, by decide +kernel, by decide, by decide, qw_70, qw_926⟩
theorem hoL_finishBy_0 : HOk tL_finishBy hhL_finishBy 5 "java/lang/IllegalArgumentException" 1 := ⟨[], (0, 10, 13, 13), [], 1, rfl, fun _ hz => (nomatch hz), by decide +kernel, by decide, qw_803, by decide +kernel, by decide +kernel, Or.inr ⟨4, dL_finishBy_13, by decide, dL_finishBy_15, dL_finishBy_16⟩⟩
theorem hoL_finishBy : ∀ (E : String) (k : Int32), (E, k) ∈ hlL_finishBy → HOk tL_finishBy hhL_finishBy 5 E k := fun E k hq => by
  obtain ⟨rfl, rfl⟩ := Prod.mk.inj (List.mem_singleton.mp hq)
  exact hoL_finishBy_0
abbrev opTL_finishBy : HOp := o_callVT 8 7 2 tX9_finishBy 1 6 hlL_finishBy
theorem sTL_finishBy : SndH tL_finishBy hhL_finishBy 5 opTL_finishBy := s_callVT (d' := tX9_finishBy) (mc := 1) (ms := 6) rfl hoL_finishBy ok_7 cc_L_finishBy_X9_finishBy qw_923 qw_924 qw_925 dL_finishBy_5
def kL_finishBy : Nat → WOp := cN 8 (cN 2 (cN 0 (cL 0 (o_aload 1 3)) (cN 1 (cL 1 (o_push 2 0)) (cL 2 (o_aload 3 0)))) (cN 4 (cN 3 (cL 3 (o_iload 4 1)) (cL 4 (o_iload 5 2))) (cN 5 (cL 5 (oBad)) (cL 8 (o_i2l 9))))) (cN 13 (cN 9 (cL 9 (o_last 10)) (cN 10 (cL 10 (o_goto 17)) (cL 13 (oBad)))) (cN 16 (cN 15 (cL 15 (o_push 16 1)) (cL 16 (o_iret))) (cN 17 (cL 17 (o_push 18 0)) (cL 18 (o_iret)))))
theorem sL_finishBy : ∀ pc, Snd tL_finishBy G1 pc (kL_finishBy pc) := s_N (s_N (s_N (s_L (s_aload_n dL_finishBy_0 rfl)) (s_N (s_L (s_iconst dL_finishBy_1 (by decide +kernel))) (s_L (s_aload_n dL_finishBy_2 rfl)))) (s_N (s_N (s_L (s_iload_n dL_finishBy_3 rfl)) (s_L (s_iload_n dL_finishBy_4 rfl))) (s_N (s_L (s_bad)) (s_L (s_o_i2l dL_finishBy_8))))) (s_N (s_N (s_L (s_last dL_finishBy_9)) (s_N (s_L (s_o_goto dL_finishBy_10 (by decide))) (s_L (s_bad)))) (s_N (s_N (s_L (s_iconst dL_finishBy_15 (by decide +kernel))) (s_L (s_iret rfl dL_finishBy_16))) (s_N (s_L (s_iconst dL_finishBy_17 (by decide +kernel))) (s_L (s_iret rfl dL_finishBy_18)))))
/-! L_heatIn -/
def tL_heatIn : TrD := (yL_heatIn, cL_heatIn, 4, some .int, 7, 136)
def hhL_heatIn : HH := [(0, 9, 12, 13)]
def hlL_heatIn : List (String × Int32) := [("java/lang/IllegalArgumentException", 1)]
theorem dL_heatIn_0 : decode cL_heatIn 0 = .ok (.aload_n 2, 1) := by decide +kernel
theorem dL_heatIn_1 : decode cL_heatIn 1 = .ok (.iconst 0, 1) := by decide +kernel
theorem dL_heatIn_2 : decode cL_heatIn 2 = .ok (.aload_n 0, 1) := by decide +kernel
theorem dL_heatIn_3 : decode cL_heatIn 3 = .ok (.iload_n 1, 1) := by decide +kernel
theorem dL_heatIn_4 : decode cL_heatIn 4 = .ok (.invokevirtual 61, 3) := by decide +kernel
theorem dL_heatIn_7 : decode cL_heatIn 7 = .ok (.i2l, 1) := by decide +kernel
theorem dL_heatIn_8 : decode cL_heatIn 8 = .ok (.lastore, 1) := by decide +kernel
theorem dL_heatIn_9 : decode cL_heatIn 9 = .ok (.goto 6, 3) := by decide +kernel
theorem dL_heatIn_12 : decode cL_heatIn 12 = .ok (.astore_n 3, 1) := by decide +kernel
theorem dL_heatIn_13 : decode cL_heatIn 13 = .ok (.iconst 1, 1) := by decide +kernel
theorem dL_heatIn_14 : decode cL_heatIn 14 = .ok (.ireturn, 1) := by decide +kernel
theorem dL_heatIn_15 : decode cL_heatIn 15 = .ok (.iconst 0, 1) := by decide +kernel
theorem dL_heatIn_16 : decode cL_heatIn 16 = .ok (.ireturn, 1) := by decide +kernel
theorem cc_L_heatIn_X9_heatIn : CallC tL_heatIn tX9_heatIn 1 := ⟨by decide +kernel, by decide +kernel, by decide +kernel, by decide, by decide, qw_70, qw_798⟩
theorem hoL_heatIn_0 : HOk tL_heatIn hhL_heatIn 4 "java/lang/IllegalArgumentException" 1 := ⟨[], (0, 9, 12, 13), [], 1, rfl, fun _ hz => (nomatch hz), by decide +kernel, by decide, qw_803, by decide +kernel, by decide +kernel, Or.inl ⟨3, dL_heatIn_12, by decide, dL_heatIn_13, dL_heatIn_14⟩⟩
theorem hoL_heatIn : ∀ (E : String) (k : Int32), (E, k) ∈ hlL_heatIn → HOk tL_heatIn hhL_heatIn 4 E k := fun E k hq => by
  obtain ⟨rfl, rfl⟩ := Prod.mk.inj (List.mem_singleton.mp hq)
  exact hoL_heatIn_0
abbrev opTL_heatIn : HOp := o_callVT 7 7 1 tX9_heatIn 1 6 hlL_heatIn
theorem sTL_heatIn : SndH tL_heatIn hhL_heatIn 4 opTL_heatIn := s_callVT (d' := tX9_heatIn) (mc := 1) (ms := 6) rfl hoL_heatIn ok_7 cc_L_heatIn_X9_heatIn qw_930 qw_796 qw_797 dL_heatIn_4
def kL_heatIn : Nat → WOp := cN 7 (cN 2 (cN 0 (cL 0 (o_aload 1 2)) (cN 1 (cL 1 (o_push 2 0)) (cL 2 (o_aload 3 0)))) (cN 3 (cL 3 (o_iload 4 1)) (cN 4 (cL 4 (oBad)) (cL 7 (o_i2l 8))))) (cN 12 (cN 8 (cL 8 (o_last 9)) (cN 9 (cL 9 (o_goto 15)) (cL 12 (oBad)))) (cN 14 (cN 13 (cL 13 (o_push 14 1)) (cL 14 (o_iret))) (cN 15 (cL 15 (o_push 16 0)) (cL 16 (o_iret)))))
theorem sL_heatIn : ∀ pc, Snd tL_heatIn G1 pc (kL_heatIn pc) := s_N (s_N (s_N (s_L (s_aload_n dL_heatIn_0 rfl)) (s_N (s_L (s_iconst dL_heatIn_1 (by decide +kernel))) (s_L (s_aload_n dL_heatIn_2 rfl)))) (s_N (s_L (s_iload_n dL_heatIn_3 rfl)) (s_N (s_L (s_bad)) (s_L (s_o_i2l dL_heatIn_7))))) (s_N (s_N (s_L (s_last dL_heatIn_8)) (s_N (s_L (s_o_goto dL_heatIn_9 (by decide))) (s_L (s_bad)))) (s_N (s_N (s_L (s_iconst dL_heatIn_13 (by decide +kernel))) (s_L (s_iret rfl dL_heatIn_14))) (s_N (s_L (s_iconst dL_heatIn_15 (by decide +kernel))) (s_L (s_iret rfl dL_heatIn_16)))))
/-! L_reason -/
def tL_reason : TrD := (yL_reason, cL_reason, 4, some .int, 7, 137)
def hhL_reason : HH := [(0, 9, 12, 25)]
def hlL_reason : List (String × Int32) := [("java/lang/IndexOutOfBoundsException", 1)]
theorem dL_reason_0 : decode cL_reason 0 = .ok (.aload_n 2, 1) := by decide +kernel
theorem dL_reason_1 : decode cL_reason 1 = .ok (.iconst 0, 1) := by decide +kernel
theorem dL_reason_2 : decode cL_reason 2 = .ok (.aload_n 0, 1) := by decide +kernel
theorem dL_reason_3 : decode cL_reason 3 = .ok (.iload_n 1, 1) := by decide +kernel
theorem dL_reason_4 : decode cL_reason 4 = .ok (.invokevirtual 64, 3) := by decide +kernel
theorem dL_reason_7 : decode cL_reason 7 = .ok (.i2l, 1) := by decide +kernel
theorem dL_reason_8 : decode cL_reason 8 = .ok (.lastore, 1) := by decide +kernel
theorem dL_reason_9 : decode cL_reason 9 = .ok (.goto 6, 3) := by decide +kernel
theorem dL_reason_12 : decode cL_reason 12 = .ok (.astore_n 3, 1) := by decide +kernel
theorem dL_reason_13 : decode cL_reason 13 = .ok (.iconst 1, 1) := by decide +kernel
theorem dL_reason_14 : decode cL_reason 14 = .ok (.ireturn, 1) := by decide +kernel
theorem dL_reason_15 : decode cL_reason 15 = .ok (.iconst 0, 1) := by decide +kernel
theorem dL_reason_16 : decode cL_reason 16 = .ok (.ireturn, 1) := by decide +kernel
theorem cc_L_reason_X9_reason : CallC tL_reason tX9_reason 1 := ⟨by decide +kernel, by decide +kernel, by decide +kernel, by decide, by decide, qw_70, qw_937⟩
theorem hoL_reason_0 : HOk tL_reason hhL_reason 4 "java/lang/IndexOutOfBoundsException" 1 := ⟨[], (0, 9, 12, 25), [], 1, rfl, fun _ hz => (nomatch hz), by decide +kernel, by decide, qw_834, by decide +kernel, by decide +kernel, Or.inl ⟨3, dL_reason_12, by decide, dL_reason_13, dL_reason_14⟩⟩
theorem hoL_reason : ∀ (E : String) (k : Int32), (E, k) ∈ hlL_reason → HOk tL_reason hhL_reason 4 E k := fun E k hq => by
  obtain ⟨rfl, rfl⟩ := Prod.mk.inj (List.mem_singleton.mp hq)
  exact hoL_reason_0
abbrev opTL_reason : HOp := o_callVT 7 7 1 tX9_reason 1 6 hlL_reason
theorem sTL_reason : SndH tL_reason hhL_reason 4 opTL_reason := s_callVT (d' := tX9_reason) (mc := 1) (ms := 6) rfl hoL_reason ok_7 cc_L_reason_X9_reason qw_934 qw_935 qw_936 dL_reason_4
def kL_reason : Nat → WOp := cN 7 (cN 2 (cN 0 (cL 0 (o_aload 1 2)) (cN 1 (cL 1 (o_push 2 0)) (cL 2 (o_aload 3 0)))) (cN 3 (cL 3 (o_iload 4 1)) (cN 4 (cL 4 (oBad)) (cL 7 (o_i2l 8))))) (cN 12 (cN 8 (cL 8 (o_last 9)) (cN 9 (cL 9 (o_goto 15)) (cL 12 (oBad)))) (cN 14 (cN 13 (cL 13 (o_push 14 1)) (cL 14 (o_iret))) (cN 15 (cL 15 (o_push 16 0)) (cL 16 (o_iret)))))
theorem sL_reason : ∀ pc, Snd tL_reason G1 pc (kL_reason pc) := s_N (s_N (s_N (s_L (s_aload_n dL_reason_0 rfl)) (s_N (s_L (s_iconst dL_reason_1 (by decide +kernel))) (s_L (s_aload_n dL_reason_2 rfl)))) (s_N (s_L (s_iload_n dL_reason_3 rfl)) (s_N (s_L (s_bad)) (s_L (s_o_i2l dL_reason_7))))) (s_N (s_N (s_L (s_last dL_reason_8)) (s_N (s_L (s_o_goto dL_reason_9 (by decide))) (s_L (s_bad)))) (s_N (s_N (s_L (s_iconst dL_reason_13 (by decide +kernel))) (s_L (s_iret rfl dL_reason_14))) (s_N (s_L (s_iconst dL_reason_15 (by decide +kernel))) (s_L (s_iret rfl dL_reason_16)))))
/-! L_type -/
def tL_type : TrD := (yL_type, cL_type, 4, some .int, 7, 102)
def hhL_type : HH := [(0, 9, 12, 13), (0, 9, 15, 19)]
def hlL_type : List (String × Int32) := [("java/lang/IllegalArgumentException", 1), ("java/lang/IllegalStateException", 2)]
theorem dL_type_0 : decode cL_type 0 = .ok (.aload_n 2, 1) := by decide +kernel
theorem dL_type_1 : decode cL_type 1 = .ok (.iconst 0, 1) := by decide +kernel
theorem dL_type_2 : decode cL_type 2 = .ok (.aload_n 0, 1) := by decide +kernel
theorem dL_type_3 : decode cL_type 3 = .ok (.iload_n 1, 1) := by decide +kernel
theorem dL_type_4 : decode cL_type 4 = .ok (.invokevirtual 67, 3) := by decide +kernel
theorem dL_type_7 : decode cL_type 7 = .ok (.i2l, 1) := by decide +kernel
theorem dL_type_8 : decode cL_type 8 = .ok (.lastore, 1) := by decide +kernel
theorem dL_type_9 : decode cL_type 9 = .ok (.goto 9, 3) := by decide +kernel
theorem dL_type_12 : decode cL_type 12 = .ok (.astore_n 3, 1) := by decide +kernel
theorem dL_type_13 : decode cL_type 13 = .ok (.iconst 1, 1) := by decide +kernel
theorem dL_type_14 : decode cL_type 14 = .ok (.ireturn, 1) := by decide +kernel
theorem dL_type_15 : decode cL_type 15 = .ok (.astore_n 3, 1) := by decide +kernel
theorem dL_type_16 : decode cL_type 16 = .ok (.iconst 2, 1) := by decide +kernel
theorem dL_type_17 : decode cL_type 17 = .ok (.ireturn, 1) := by decide +kernel
theorem dL_type_18 : decode cL_type 18 = .ok (.iconst 0, 1) := by decide +kernel
theorem dL_type_19 : decode cL_type 19 = .ok (.ireturn, 1) := by decide +kernel
theorem cc_L_type_X9_type : CallC tL_type tX9_type 1 := ⟨by decide +kernel, by decide +kernel, by decide +kernel, by decide, by decide, qw_70, qw_949⟩
theorem hoL_type_0 : HOk tL_type hhL_type 4 "java/lang/IllegalArgumentException" 1 := ⟨[], (0, 9, 12, 13), [(0, 9, 15, 19)], 1, rfl, fun _ hz => (nomatch hz), by decide +kernel, by decide, qw_803, by decide +kernel, by decide +kernel, Or.inl ⟨3, dL_type_12, by decide, dL_type_13, dL_type_14⟩⟩
theorem hoL_type_1 : HOk tL_type hhL_type 4 "java/lang/IllegalStateException" 2 := ⟨[(0, 9, 12, 13)], (0, 9, 15, 19), [], 2, rfl, fun z hz => by rw [List.mem_singleton.mp hz]; exact ⟨by decide, "java/lang/IllegalArgumentException", qw_803, by decide +kernel⟩, by decide +kernel, by decide, qw_811, by decide +kernel, by decide +kernel, Or.inl ⟨3, dL_type_15, by decide, dL_type_16, dL_type_17⟩⟩
theorem hoL_type : ∀ (E : String) (k : Int32), (E, k) ∈ hlL_type → HOk tL_type hhL_type 4 E k := fun E k hq => by
  rcases List.mem_cons.mp hq with hq | hq
  · obtain ⟨rfl, rfl⟩ := Prod.mk.inj hq
    exact hoL_type_0
  · obtain ⟨rfl, rfl⟩ := Prod.mk.inj (List.mem_singleton.mp hq)
    exact hoL_type_1
abbrev opTL_type : HOp := o_callVT 7 7 1 tX9_type 1 6 hlL_type
theorem sTL_type : SndH tL_type hhL_type 4 opTL_type := s_callVT (d' := tX9_type) (mc := 1) (ms := 6) rfl hoL_type ok_7 cc_L_type_X9_type qw_946 qw_947 qw_948 dL_type_4
def kL_type : Nat → WOp := cN 9 (cN 3 (cN 1 (cN 0 (cL 0 (o_aload 1 2)) (cL 1 (o_push 2 0))) (cN 2 (cL 2 (o_aload 3 0)) (cL 3 (o_iload 4 1)))) (cN 7 (cN 4 (cL 4 (oBad)) (cL 7 (o_i2l 8))) (cN 8 (cL 8 (o_last 9)) (cL 9 (o_goto 18))))) (cN 15 (cN 13 (cN 12 (cL 12 (oBad)) (cL 13 (o_push 14 1))) (cN 14 (cL 14 (o_iret)) (cL 15 (oBad)))) (cN 17 (cN 16 (cL 16 (o_push 17 2)) (cL 17 (o_iret))) (cN 18 (cL 18 (o_push 19 0)) (cL 19 (o_iret)))))
theorem sL_type : ∀ pc, Snd tL_type G1 pc (kL_type pc) := s_N (s_N (s_N (s_N (s_L (s_aload_n dL_type_0 rfl)) (s_L (s_iconst dL_type_1 (by decide +kernel)))) (s_N (s_L (s_aload_n dL_type_2 rfl)) (s_L (s_iload_n dL_type_3 rfl)))) (s_N (s_N (s_L (s_bad)) (s_L (s_o_i2l dL_type_7))) (s_N (s_L (s_last dL_type_8)) (s_L (s_o_goto dL_type_9 (by decide)))))) (s_N (s_N (s_N (s_L (s_bad)) (s_L (s_iconst dL_type_13 (by decide +kernel)))) (s_N (s_L (s_iret rfl dL_type_14)) (s_L (s_bad)))) (s_N (s_N (s_L (s_iconst dL_type_16 (by decide +kernel))) (s_L (s_iret rfl dL_type_17))) (s_N (s_L (s_iconst dL_type_18 (by decide +kernel))) (s_L (s_iret rfl dL_type_19)))))
/-! L_undo -/
def tL_undo : TrD := (yL_undo, cL_undo, 3, some .int, 7, 122)
def hhL_undo : HH := [(0, 8, 11, 19)]
def hlL_undo : List (String × Int32) := [("java/lang/IllegalStateException", 1)]
theorem dL_undo_0 : decode cL_undo 0 = .ok (.aload_n 1, 1) := by decide +kernel
theorem dL_undo_1 : decode cL_undo 1 = .ok (.iconst 0, 1) := by decide +kernel
theorem dL_undo_2 : decode cL_undo 2 = .ok (.aload_n 0, 1) := by decide +kernel
theorem dL_undo_3 : decode cL_undo 3 = .ok (.invokevirtual 70, 3) := by decide +kernel
theorem dL_undo_6 : decode cL_undo 6 = .ok (.i2l, 1) := by decide +kernel
theorem dL_undo_7 : decode cL_undo 7 = .ok (.lastore, 1) := by decide +kernel
theorem dL_undo_8 : decode cL_undo 8 = .ok (.goto 6, 3) := by decide +kernel
theorem dL_undo_11 : decode cL_undo 11 = .ok (.astore_n 2, 1) := by decide +kernel
theorem dL_undo_12 : decode cL_undo 12 = .ok (.iconst 1, 1) := by decide +kernel
theorem dL_undo_13 : decode cL_undo 13 = .ok (.ireturn, 1) := by decide +kernel
theorem dL_undo_14 : decode cL_undo 14 = .ok (.iconst 0, 1) := by decide +kernel
theorem dL_undo_15 : decode cL_undo 15 = .ok (.ireturn, 1) := by decide +kernel
theorem cc_L_undo_X9_undo : CallC tL_undo tX9_undo 0 := ⟨by decide +kernel, by decide +kernel, by decide +kernel, by decide, by decide, qw_70, qw_965⟩
theorem hoL_undo_0 : HOk tL_undo hhL_undo 3 "java/lang/IllegalStateException" 1 := ⟨[], (0, 8, 11, 19), [], 1, rfl, fun _ hz => (nomatch hz), by decide +kernel, by decide, qw_811, by decide +kernel, by decide +kernel, Or.inl ⟨2, dL_undo_11, by decide, dL_undo_12, dL_undo_13⟩⟩
theorem hoL_undo : ∀ (E : String) (k : Int32), (E, k) ∈ hlL_undo → HOk tL_undo hhL_undo 3 E k := fun E k hq => by
  obtain ⟨rfl, rfl⟩ := Prod.mk.inj (List.mem_singleton.mp hq)
  exact hoL_undo_0
abbrev opTL_undo : HOp := o_callVT 6 7 0 tX9_undo 1 6 hlL_undo
theorem sTL_undo : SndH tL_undo hhL_undo 3 opTL_undo := s_callVT (d' := tX9_undo) (mc := 1) (ms := 6) rfl hoL_undo ok_7 cc_L_undo_X9_undo qw_962 qw_963 qw_964 dL_undo_3
def kL_undo : Nat → WOp := cN 7 (cN 2 (cN 0 (cL 0 (o_aload 1 1)) (cN 1 (cL 1 (o_push 2 0)) (cL 2 (o_aload 3 0)))) (cN 3 (cL 3 (oBad)) (cN 6 (cL 6 (o_i2l 7)) (cL 7 (o_last 8))))) (cN 12 (cN 8 (cL 8 (o_goto 14)) (cN 11 (cL 11 (oBad)) (cL 12 (o_push 13 1)))) (cN 13 (cL 13 (o_iret)) (cN 14 (cL 14 (o_push 15 0)) (cL 15 (o_iret)))))
theorem sL_undo : ∀ pc, Snd tL_undo G1 pc (kL_undo pc) := s_N (s_N (s_N (s_L (s_aload_n dL_undo_0 rfl)) (s_N (s_L (s_iconst dL_undo_1 (by decide +kernel))) (s_L (s_aload_n dL_undo_2 rfl)))) (s_N (s_L (s_bad)) (s_N (s_L (s_o_i2l dL_undo_6)) (s_L (s_last dL_undo_7))))) (s_N (s_N (s_L (s_o_goto dL_undo_8 (by decide))) (s_N (s_L (s_bad)) (s_L (s_iconst dL_undo_12 (by decide +kernel))))) (s_N (s_L (s_iret rfl dL_undo_13)) (s_N (s_L (s_iconst dL_undo_14 (by decide +kernel))) (s_L (s_iret rfl dL_undo_15)))))
