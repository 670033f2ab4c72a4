theorem nd_M_act_573 : decode prog_11_method_38_code 573 = .ok (.invokevirtual 162, 3) := by decide +kernel
theorem nd_M_act_576 : decode prog_11_method_38_code 576 = .ok (.aload_n 0, 1) := by decide +kernel
theorem nd_M_act_577 : decode prog_11_method_38_code 577 = .ok (.getfield 36, 3) := by decide +kernel
theorem nd_M_act_580 : decode prog_11_method_38_code 580 = .ok (.iload_n 1, 1) := by decide +kernel
theorem nd_M_act_581 : decode prog_11_method_38_code 581 = .ok (.iload_n 2, 1) := by decide +kernel
theorem nd_M_act_582 : decode prog_11_method_38_code 582 = .ok (.aload_n 0, 1) := by decide +kernel
theorem nd_M_act_583 : decode prog_11_method_38_code 583 = .ok (.getfield 36, 3) := by decide +kernel
theorem nd_M_act_586 : decode prog_11_method_38_code 586 = .ok (.iload_n 1, 1) := by decide +kernel
theorem nd_M_act_587 : decode prog_11_method_38_code 587 = .ok (.iaload, 1) := by decide +kernel
theorem nd_M_act_588 : decode prog_11_method_38_code 588 = .ok (.invokestatic 137, 3) := by decide +kernel
theorem nd_M_act_591 : decode prog_11_method_38_code 591 = .ok (.iastore, 1) := by decide +kernel
theorem nd_M_act_592 : decode prog_11_method_38_code 592 = .ok (.aload_n 0, 1) := by decide +kernel
theorem nd_M_act_593 : decode prog_11_method_38_code 593 = .ok (.getfield 33, 3) := by decide +kernel
theorem nd_M_act_596 : decode prog_11_method_38_code 596 = .ok (.iload_n 1, 1) := by decide +kernel
theorem nd_M_act_597 : decode prog_11_method_38_code 597 = .ok (.aload_n 0, 1) := by decide +kernel
theorem nd_M_act_598 : decode prog_11_method_38_code 598 = .ok (.getfield 33, 3) := by decide +kernel
theorem nd_M_act_601 : decode prog_11_method_38_code 601 = .ok (.iload_n 1, 1) := by decide +kernel
theorem nd_M_act_602 : decode prog_11_method_38_code 602 = .ok (.iaload, 1) := by decide +kernel
theorem nd_M_act_603 : decode prog_11_method_38_code 603 = .ok (.aload_n 0, 1) := by decide +kernel
theorem nd_M_act_604 : decode prog_11_method_38_code 604 = .ok (.getfield 36, 3) := by decide +kernel
theorem nd_M_act_607 : decode prog_11_method_38_code 607 = .ok (.iload_n 1, 1) := by decide +kernel
theorem nd_M_act_608 : decode prog_11_method_38_code 608 = .ok (.iaload, 1) := by decide +kernel
theorem nd_M_act_609 : decode prog_11_method_38_code 609 = .ok (.invokestatic 133, 3) := by decide +kernel
theorem nd_M_act_612 : decode prog_11_method_38_code 612 = .ok (.iastore, 1) := by decide +kernel
theorem nd_M_act_613 : decode prog_11_method_38_code 613 = .ok (.aload_n 0, 1) := by decide +kernel
theorem nd_M_act_614 : decode prog_11_method_38_code 614 = .ok (.getfield 33, 3) := by decide +kernel
theorem nd_M_act_617 : decode prog_11_method_38_code 617 = .ok (.iload_n 1, 1) := by decide +kernel
theorem nd_M_act_618 : decode prog_11_method_38_code 618 = .ok (.iload_n 2, 1) := by decide +kernel
theorem nd_M_act_619 : decode prog_11_method_38_code 619 = .ok (.bipush 35, 2) := by decide +kernel
theorem nd_M_act_621 : decode prog_11_method_38_code 621 = .ok (.if_icmp .ne 21, 3) := by decide +kernel
theorem nd_M_act_624 : decode prog_11_method_38_code 624 = .ok (.aload_n 0, 1) := by decide +kernel
theorem nd_M_act_625 : decode prog_11_method_38_code 625 = .ok (.getfield 33, 3) := by decide +kernel
theorem nd_M_act_628 : decode prog_11_method_38_code 628 = .ok (.iload_n 1, 1) := by decide +kernel
theorem nd_M_act_629 : decode prog_11_method_38_code 629 = .ok (.iaload, 1) := by decide +kernel
theorem nd_M_act_630 : decode prog_11_method_38_code 630 = .ok (.aload_n 0, 1) := by decide +kernel
theorem nd_M_act_631 : decode prog_11_method_38_code 631 = .ok (.getfield 36, 3) := by decide +kernel
theorem nd_M_act_634 : decode prog_11_method_38_code 634 = .ok (.iload_n 1, 1) := by decide +kernel
theorem nd_M_act_635 : decode prog_11_method_38_code 635 = .ok (.iaload, 1) := by decide +kernel
theorem nd_M_act_636 : decode prog_11_method_38_code 636 = .ok (.invokestatic 133, 3) := by decide +kernel
theorem nd_M_act_639 : decode prog_11_method_38_code 639 = .ok (.goto 9, 3) := by decide +kernel
theorem nd_M_act_642 : decode prog_11_method_38_code 642 = .ok (.aload_n 0, 1) := by decide +kernel
theorem nd_M_act_643 : decode prog_11_method_38_code 643 = .ok (.getfield 33, 3) := by decide +kernel
theorem nd_M_act_646 : decode prog_11_method_38_code 646 = .ok (.iload_n 1, 1) := by decide +kernel
theorem nd_M_act_647 : decode prog_11_method_38_code 647 = .ok (.iaload, 1) := by decide +kernel
theorem nd_M_act_648 : decode prog_11_method_38_code 648 = .ok (.iastore, 1) := by decide +kernel
theorem nd_M_act_649 : decode prog_11_method_38_code 649 = .ok (.return_, 1) := by decide +kernel
def ny_M_copyPointer : MethodName := ⟨"DrawnPathsModel", "copyPointer", "(II)V"⟩
theorem nd_M_copyPointer_0 : decode prog_11_method_39_code 0 = .ok (.aload_n 0, 1) := by decide +kernel
theorem nd_M_copyPointer_1 : decode prog_11_method_39_code 1 = .ok (.getfield 29, 3) := by decide +kernel
theorem nd_M_copyPointer_4 : decode prog_11_method_39_code 4 = .ok (.iload_n 2, 1) := by decide +kernel
theorem nd_M_copyPointer_5 : decode prog_11_method_39_code 5 = .ok (.aload_n 0, 1) := by decide +kernel
theorem nd_M_copyPointer_6 : decode prog_11_method_39_code 6 = .ok (.getfield 29, 3) := by decide +kernel
theorem nd_M_copyPointer_9 : decode prog_11_method_39_code 9 = .ok (.iload_n 1, 1) := by decide +kernel
theorem nd_M_copyPointer_10 : decode prog_11_method_39_code 10 = .ok (.baload, 1) := by decide +kernel
theorem nd_M_copyPointer_11 : decode prog_11_method_39_code 11 = .ok (.bastore, 1) := by decide +kernel
theorem nd_M_copyPointer_12 : decode prog_11_method_39_code 12 = .ok (.aload_n 0, 1) := by decide +kernel
theorem nd_M_copyPointer_13 : decode prog_11_method_39_code 13 = .ok (.getfield 33, 3) := by decide +kernel
theorem nd_M_copyPointer_16 : decode prog_11_method_39_code 16 = .ok (.iload_n 2, 1) := by decide +kernel
theorem nd_M_copyPointer_17 : decode prog_11_method_39_code 17 = .ok (.aload_n 0, 1) := by decide +kernel
theorem nd_M_copyPointer_18 : decode prog_11_method_39_code 18 = .ok (.getfield 33, 3) := by decide +kernel
theorem nd_M_copyPointer_21 : decode prog_11_method_39_code 21 = .ok (.iload_n 1, 1) := by decide +kernel
theorem nd_M_copyPointer_22 : decode prog_11_method_39_code 22 = .ok (.iaload, 1) := by decide +kernel
theorem nd_M_copyPointer_23 : decode prog_11_method_39_code 23 = .ok (.iastore, 1) := by decide +kernel
theorem nd_M_copyPointer_24 : decode prog_11_method_39_code 24 = .ok (.aload_n 0, 1) := by decide +kernel
theorem nd_M_copyPointer_25 : decode prog_11_method_39_code 25 = .ok (.getfield 36, 3) := by decide +kernel
theorem nd_M_copyPointer_28 : decode prog_11_method_39_code 28 = .ok (.iload_n 2, 1) := by decide +kernel
theorem nd_M_copyPointer_29 : decode prog_11_method_39_code 29 = .ok (.aload_n 0, 1) := by decide +kernel
theorem nd_M_copyPointer_30 : decode prog_11_method_39_code 30 = .ok (.getfield 36, 3) := by decide +kernel
theorem nd_M_copyPointer_33 : decode prog_11_method_39_code 33 = .ok (.iload_n 1, 1) := by decide +kernel
theorem nd_M_copyPointer_34 : decode prog_11_method_39_code 34 = .ok (.iaload, 1) := by decide +kernel
theorem nd_M_copyPointer_35 : decode prog_11_method_39_code 35 = .ok (.iastore, 1) := by decide +kernel
theorem nd_M_copyPointer_36 : decode prog_11_method_39_code 36 = .ok (.aload_n 0, 1) := by decide +kernel
theorem nd_M_copyPointer_37 : decode prog_11_method_39_code 37 = .ok (.getfield 39, 3) := by decide +kernel
theorem nd_M_copyPointer_40 : decode prog_11_method_39_code 40 = .ok (.iload_n 2, 1) := by decide +kernel
theorem nd_M_copyPointer_41 : decode prog_11_method_39_code 41 = .ok (.aload_n 0, 1) := by decide +kernel
theorem nd_M_copyPointer_42 : decode prog_11_method_39_code 42 = .ok (.getfield 39, 3) := by decide +kernel
theorem nd_M_copyPointer_45 : decode prog_11_method_39_code 45 = .ok (.iload_n 1, 1) := by decide +kernel
theorem nd_M_copyPointer_46 : decode prog_11_method_39_code 46 = .ok (.baload, 1) := by decide +kernel
theorem nd_M_copyPointer_47 : decode prog_11_method_39_code 47 = .ok (.bastore, 1) := by decide +kernel
theorem nd_M_copyPointer_48 : decode prog_11_method_39_code 48 = .ok (.aload_n 0, 1) := by decide +kernel
theorem nd_M_copyPointer_49 : decode prog_11_method_39_code 49 = .ok (.getfield 42, 3) := by decide +kernel
theorem nd_M_copyPointer_52 : decode prog_11_method_39_code 52 = .ok (.iload_n 2, 1) := by decide +kernel
theorem nd_M_copyPointer_53 : decode prog_11_method_39_code 53 = .ok (.aload_n 0, 1) := by decide +kernel
theorem nd_M_copyPointer_54 : decode prog_11_method_39_code 54 = .ok (.getfield 42, 3) := by decide +kernel
theorem nd_M_copyPointer_57 : decode prog_11_method_39_code 57 = .ok (.iload_n 1, 1) := by decide +kernel
theorem nd_M_copyPointer_58 : decode prog_11_method_39_code 58 = .ok (.iaload, 1) := by decide +kernel
theorem nd_M_copyPointer_59 : decode prog_11_method_39_code 59 = .ok (.iastore, 1) := by decide +kernel
theorem nd_M_copyPointer_60 : decode prog_11_method_39_code 60 = .ok (.aload_n 0, 1) := by decide +kernel
theorem nd_M_copyPointer_61 : decode prog_11_method_39_code 61 = .ok (.getfield 48, 3) := by decide +kernel
theorem nd_M_copyPointer_64 : decode prog_11_method_39_code 64 = .ok (.iload_n 2, 1) := by decide +kernel
theorem nd_M_copyPointer_65 : decode prog_11_method_39_code 65 = .ok (.aload_n 0, 1) := by decide +kernel
theorem nd_M_copyPointer_66 : decode prog_11_method_39_code 66 = .ok (.getfield 48, 3) := by decide +kernel
theorem nd_M_copyPointer_69 : decode prog_11_method_39_code 69 = .ok (.iload_n 1, 1) := by decide +kernel
theorem nd_M_copyPointer_70 : decode prog_11_method_39_code 70 = .ok (.iaload, 1) := by decide +kernel
theorem nd_M_copyPointer_71 : decode prog_11_method_39_code 71 = .ok (.iastore, 1) := by decide +kernel
theorem nd_M_copyPointer_72 : decode prog_11_method_39_code 72 = .ok (.iconst 0, 1) := by decide +kernel
theorem nd_M_copyPointer_73 : decode prog_11_method_39_code 73 = .ok (.istore_n 3, 1) := by decide +kernel
theorem nd_M_copyPointer_74 : decode prog_11_method_39_code 74 = .ok (.iload_n 3, 1) := by decide +kernel
theorem nd_M_copyPointer_75 : decode prog_11_method_39_code 75 = .ok (.bipush 24, 2) := by decide +kernel
theorem nd_M_copyPointer_77 : decode prog_11_method_39_code 77 = .ok (.if_icmp .ge 31, 3) := by decide +kernel
theorem nd_M_copyPointer_80 : decode prog_11_method_39_code 80 = .ok (.aload_n 0, 1) := by decide +kernel
theorem nd_M_copyPointer_81 : decode prog_11_method_39_code 81 = .ok (.getfield 45, 3) := by decide +kernel
theorem nd_M_copyPointer_84 : decode prog_11_method_39_code 84 = .ok (.bipush 24, 2) := by decide +kernel
theorem nd_M_copyPointer_86 : decode prog_11_method_39_code 86 = .ok (.iload_n 2, 1) := by decide +kernel
theorem nd_M_copyPointer_87 : decode prog_11_method_39_code 87 = .ok (.imul, 1) := by decide +kernel
theorem nd_M_copyPointer_88 : decode prog_11_method_39_code 88 = .ok (.iload_n 3, 1) := by decide +kernel
theorem nd_M_copyPointer_89 : decode prog_11_method_39_code 89 = .ok (.iadd, 1) := by decide +kernel
theorem nd_M_copyPointer_90 : decode prog_11_method_39_code 90 = .ok (.aload_n 0, 1) := by decide +kernel
theorem nd_M_copyPointer_91 : decode prog_11_method_39_code 91 = .ok (.getfield 45, 3) := by decide +kernel
theorem nd_M_copyPointer_94 : decode prog_11_method_39_code 94 = .ok (.bipush 24, 2) := by decide +kernel
theorem nd_M_copyPointer_96 : decode prog_11_method_39_code 96 = .ok (.iload_n 1, 1) := by decide +kernel
theorem nd_M_copyPointer_97 : decode prog_11_method_39_code 97 = .ok (.imul, 1) := by decide +kernel
theorem nd_M_copyPointer_98 : decode prog_11_method_39_code 98 = .ok (.iload_n 3, 1) := by decide +kernel
theorem nd_M_copyPointer_99 : decode prog_11_method_39_code 99 = .ok (.iadd, 1) := by decide +kernel
theorem nd_M_copyPointer_100 : decode prog_11_method_39_code 100 = .ok (.laload, 1) := by decide +kernel
theorem nd_M_copyPointer_101 : decode prog_11_method_39_code 101 = .ok (.lastore, 1) := by decide +kernel
theorem nd_M_copyPointer_102 : decode prog_11_method_39_code 102 = .ok (.iinc 3 1, 3) := by decide +kernel
theorem nd_M_copyPointer_105 : decode prog_11_method_39_code 105 = .ok (.goto (-31), 3) := by decide +kernel
theorem nd_M_copyPointer_108 : decode prog_11_method_39_code 108 = .ok (.iconst 0, 1) := by decide +kernel
theorem nd_M_copyPointer_109 : decode prog_11_method_39_code 109 = .ok (.istore_n 3, 1) := by decide +kernel
theorem nd_M_copyPointer_110 : decode prog_11_method_39_code 110 = .ok (.iload_n 3, 1) := by decide +kernel
theorem nd_M_copyPointer_111 : decode prog_11_method_39_code 111 = .ok (.bipush 8, 2) := by decide +kernel
theorem nd_M_copyPointer_113 : decode prog_11_method_39_code 113 = .ok (.if_icmp .ge 31, 3) := by decide +kernel
theorem nd_M_copyPointer_116 : decode prog_11_method_39_code 116 = .ok (.aload_n 0, 1) := by decide +kernel
theorem nd_M_copyPointer_117 : decode prog_11_method_39_code 117 = .ok (.getfield 51, 3) := by decide +kernel
theorem nd_M_copyPointer_120 : decode prog_11_method_39_code 120 = .ok (.bipush 8, 2) := by decide +kernel
theorem nd_M_copyPointer_122 : decode prog_11_method_39_code 122 = .ok (.iload_n 2, 1) := by decide +kernel
theorem nd_M_copyPointer_123 : decode prog_11_method_39_code 123 = .ok (.imul, 1) := by decide +kernel
theorem nd_M_copyPointer_124 : decode prog_11_method_39_code 124 = .ok (.iload_n 3, 1) := by decide +kernel
theorem nd_M_copyPointer_125 : decode prog_11_method_39_code 125 = .ok (.iadd, 1) := by decide +kernel
theorem nd_M_copyPointer_126 : decode prog_11_method_39_code 126 = .ok (.aload_n 0, 1) := by decide +kernel
theorem nd_M_copyPointer_127 : decode prog_11_method_39_code 127 = .ok (.getfield 51, 3) := by decide +kernel
theorem nd_M_copyPointer_130 : decode prog_11_method_39_code 130 = .ok (.bipush 8, 2) := by decide +kernel
theorem nd_M_copyPointer_132 : decode prog_11_method_39_code 132 = .ok (.iload_n 1, 1) := by decide +kernel
theorem nd_M_copyPointer_133 : decode prog_11_method_39_code 133 = .ok (.imul, 1) := by decide +kernel
theorem nd_M_copyPointer_134 : decode prog_11_method_39_code 134 = .ok (.iload_n 3, 1) := by decide +kernel
theorem nd_M_copyPointer_135 : decode prog_11_method_39_code 135 = .ok (.iadd, 1) := by decide +kernel
theorem nd_M_copyPointer_136 : decode prog_11_method_39_code 136 = .ok (.iaload, 1) := by decide +kernel
theorem nd_M_copyPointer_137 : decode prog_11_method_39_code 137 = .ok (.iastore, 1) := by decide +kernel
theorem nd_M_copyPointer_138 : decode prog_11_method_39_code 138 = .ok (.iinc 3 1, 3) := by decide +kernel
theorem nd_M_copyPointer_141 : decode prog_11_method_39_code 141 = .ok (.goto (-31), 3) := by decide +kernel
theorem nd_M_copyPointer_144 : decode prog_11_method_39_code 144 = .ok (.return_, 1) := by decide +kernel
def ny_M_bury : MethodName := ⟨"DrawnPathsModel", "bury", "()V"⟩
theorem nd_M_bury_0 : decode prog_11_method_40_code 0 = .ok (.iconst 0, 1) := by decide +kernel
theorem nd_M_bury_1 : decode prog_11_method_40_code 1 = .ok (.istore_n 1, 1) := by decide +kernel
theorem nd_M_bury_2 : decode prog_11_method_40_code 2 = .ok (.iconst 0, 1) := by decide +kernel
theorem nd_M_bury_3 : decode prog_11_method_40_code 3 = .ok (.istore_n 2, 1) := by decide +kernel
theorem nd_M_bury_4 : decode prog_11_method_40_code 4 = .ok (.iload_n 2, 1) := by decide +kernel
theorem nd_M_bury_5 : decode prog_11_method_40_code 5 = .ok (.aload_n 0, 1) := by decide +kernel
theorem nd_M_bury_6 : decode prog_11_method_40_code 6 = .ok (.getfield 117, 3) := by decide +kernel
theorem nd_M_bury_9 : decode prog_11_method_40_code 9 = .ok (.if_icmp .ge 27, 3) := by decide +kernel
theorem nd_M_bury_12 : decode prog_11_method_40_code 12 = .ok (.aload_n 0, 1) := by decide +kernel
theorem nd_M_bury_13 : decode prog_11_method_40_code 13 = .ok (.getfield 29, 3) := by decide +kernel
theorem nd_M_bury_16 : decode prog_11_method_40_code 16 = .ok (.iload_n 2, 1) := by decide +kernel
theorem nd_M_bury_17 : decode prog_11_method_40_code 17 = .ok (.baload, 1) := by decide +kernel
theorem nd_M_bury_18 : decode prog_11_method_40_code 18 = .ok (.ifCond .eq 12, 3) := by decide +kernel
theorem nd_M_bury_21 : decode prog_11_method_40_code 21 = .ok (.aload_n 0, 1) := by decide +kernel
theorem nd_M_bury_22 : decode prog_11_method_40_code 22 = .ok (.iload_n 2, 1) := by decide +kernel
theorem nd_M_bury_23 : decode prog_11_method_40_code 23 = .ok (.iload_n 1, 1) := by decide +kernel
theorem nd_M_bury_24 : decode prog_11_method_40_code 24 = .ok (.invokevirtual 198, 3) := by decide +kernel
theorem nd_M_bury_27 : decode prog_11_method_40_code 27 = .ok (.iinc 1 1, 3) := by decide +kernel
theorem nd_M_bury_30 : decode prog_11_method_40_code 30 = .ok (.iinc 2 1, 3) := by decide +kernel
theorem nd_M_bury_33 : decode prog_11_method_40_code 33 = .ok (.goto (-29), 3) := by decide +kernel
theorem nd_M_bury_36 : decode prog_11_method_40_code 36 = .ok (.aload_n 0, 1) := by decide +kernel
theorem nd_M_bury_37 : decode prog_11_method_40_code 37 = .ok (.iload_n 1, 1) := by decide +kernel
theorem nd_M_bury_38 : decode prog_11_method_40_code 38 = .ok (.putfield 117, 3) := by decide +kernel
theorem nd_M_bury_41 : decode prog_11_method_40_code 41 = .ok (.return_, 1) := by decide +kernel
def ny_M_stepAll : MethodName := ⟨"DrawnPathsModel", "stepAll", "()V"⟩
theorem nd_M_stepAll_0 : decode prog_11_method_41_code 0 = .ok (.aload_n 0, 1) := by decide +kernel
theorem nd_M_stepAll_1 : decode prog_11_method_41_code 1 = .ok (.getfield 117, 3) := by decide +kernel
theorem nd_M_stepAll_4 : decode prog_11_method_41_code 4 = .ok (.istore_n 1, 1) := by decide +kernel
theorem nd_M_stepAll_5 : decode prog_11_method_41_code 5 = .ok (.iconst 0, 1) := by decide +kernel
theorem nd_M_stepAll_6 : decode prog_11_method_41_code 6 = .ok (.istore_n 2, 1) := by decide +kernel
theorem nd_M_stepAll_7 : decode prog_11_method_41_code 7 = .ok (.iload_n 2, 1) := by decide +kernel
theorem nd_M_stepAll_8 : decode prog_11_method_41_code 8 = .ok (.iload_n 1, 1) := by decide +kernel
theorem nd_M_stepAll_9 : decode prog_11_method_41_code 9 = .ok (.if_icmp .ge 37, 3) := by decide +kernel
theorem nd_M_stepAll_12 : decode prog_11_method_41_code 12 = .ok (.aload_n 0, 1) := by decide +kernel
theorem nd_M_stepAll_13 : decode prog_11_method_41_code 13 = .ok (.getfield 120, 3) := by decide +kernel
theorem nd_M_stepAll_16 : decode prog_11_method_41_code 16 = .ok (.ifCond .ne 30, 3) := by decide +kernel
theorem nd_M_stepAll_19 : decode prog_11_method_41_code 19 = .ok (.aload_n 0, 1) := by decide +kernel
theorem nd_M_stepAll_20 : decode prog_11_method_41_code 20 = .ok (.aload_n 0, 1) := by decide +kernel
theorem nd_M_stepAll_21 : decode prog_11_method_41_code 21 = .ok (.iload_n 2, 1) := by decide +kernel
theorem nd_M_stepAll_22 : decode prog_11_method_41_code 22 = .ok (.invokevirtual 201, 3) := by decide +kernel
theorem nd_M_stepAll_25 : decode prog_11_method_41_code 25 = .ok (.putfield 120, 3) := by decide +kernel
theorem nd_M_stepAll_28 : decode prog_11_method_41_code 28 = .ok (.aload_n 0, 1) := by decide +kernel
theorem nd_M_stepAll_29 : decode prog_11_method_41_code 29 = .ok (.getfield 120, 3) := by decide +kernel
theorem nd_M_stepAll_32 : decode prog_11_method_41_code 32 = .ok (.ifCond .ne 8, 3) := by decide +kernel
theorem nd_M_stepAll_35 : decode prog_11_method_41_code 35 = .ok (.aload_n 0, 1) := by decide +kernel
theorem nd_M_stepAll_36 : decode prog_11_method_41_code 36 = .ok (.iload_n 2, 1) := by decide +kernel
theorem nd_M_stepAll_37 : decode prog_11_method_41_code 37 = .ok (.invokevirtual 204, 3) := by decide +kernel
theorem nd_M_stepAll_40 : decode prog_11_method_41_code 40 = .ok (.iinc 2 1, 3) := by decide +kernel
theorem nd_M_stepAll_43 : decode prog_11_method_41_code 43 = .ok (.goto (-36), 3) := by decide +kernel
theorem nd_M_stepAll_46 : decode prog_11_method_41_code 46 = .ok (.aload_n 0, 1) := by decide +kernel
theorem nd_M_stepAll_47 : decode prog_11_method_41_code 47 = .ok (.invokevirtual 207, 3) := by decide +kernel
theorem nd_M_stepAll_50 : decode prog_11_method_41_code 50 = .ok (.aload_n 0, 1) := by decide +kernel
theorem nd_M_stepAll_51 : decode prog_11_method_41_code 51 = .ok (.aload_n 0, 1) := by decide +kernel
theorem nd_M_stepAll_52 : decode prog_11_method_41_code 52 = .ok (.getfield 120, 3) := by decide +kernel
theorem nd_M_stepAll_55 : decode prog_11_method_41_code 55 = .ok (.ifCond .ne 12, 3) := by decide +kernel
theorem nd_M_stepAll_58 : decode prog_11_method_41_code 58 = .ok (.aload_n 0, 1) := by decide +kernel
theorem nd_M_stepAll_59 : decode prog_11_method_41_code 59 = .ok (.getfield 123, 3) := by decide +kernel
theorem nd_M_stepAll_62 : decode prog_11_method_41_code 62 = .ok (.iconst 1, 1) := by decide +kernel
theorem nd_M_stepAll_63 : decode prog_11_method_41_code 63 = .ok (.iadd, 1) := by decide +kernel
theorem nd_M_stepAll_64 : decode prog_11_method_41_code 64 = .ok (.goto 7, 3) := by decide +kernel
theorem nd_M_stepAll_67 : decode prog_11_method_41_code 67 = .ok (.aload_n 0, 1) := by decide +kernel
theorem nd_M_stepAll_68 : decode prog_11_method_41_code 68 = .ok (.getfield 123, 3) := by decide +kernel
theorem nd_M_stepAll_71 : decode prog_11_method_41_code 71 = .ok (.putfield 123, 3) := by decide +kernel
theorem nd_M_stepAll_74 : decode prog_11_method_41_code 74 = .ok (.return_, 1) := by decide +kernel
def ny_M_step : MethodName := ⟨"DrawnPathsModel", "step", "(I)I"⟩
theorem nd_M_step_0 : decode prog_11_method_42_code 0 = .ok (.aload_n 0, 1) := by decide +kernel
theorem nd_M_step_1 : decode prog_11_method_42_code 1 = .ok (.iload_n 1, 1) := by decide +kernel
theorem nd_M_step_2 : decode prog_11_method_42_code 2 = .ok (.iconst 1, 1) := by decide +kernel
theorem nd_M_step_3 : decode prog_11_method_42_code 3 = .ok (.if_icmp .lt 10, 3) := by decide +kernel
theorem nd_M_step_6 : decode prog_11_method_42_code 6 = .ok (.iload_n 1, 1) := by decide +kernel
theorem nd_M_step_7 : decode prog_11_method_42_code 7 = .ok (.sipush 1000, 3) := by decide +kernel
theorem nd_M_step_10 : decode prog_11_method_42_code 10 = .ok (.if_icmp .le 7, 3) := by decide +kernel
theorem nd_M_step_13 : decode prog_11_method_42_code 13 = .ok (.iconst 1, 1) := by decide +kernel
theorem nd_M_step_14 : decode prog_11_method_42_code 14 = .ok (.goto 4, 3) := by decide +kernel
theorem nd_M_step_17 : decode prog_11_method_42_code 17 = .ok (.iconst 0, 1) := by decide +kernel
theorem nd_M_step_18 : decode prog_11_method_42_code 18 = .ok (.invokevirtual 97, 3) := by decide +kernel
theorem nd_M_step_21 : decode prog_11_method_42_code 21 = .ok (.ifCond .eq 5, 3) := by decide +kernel
theorem nd_M_step_24 : decode prog_11_method_42_code 24 = .ok (.iconst 0, 1) := by decide +kernel
theorem nd_M_step_25 : decode prog_11_method_42_code 25 = .ok (.ireturn, 1) := by decide +kernel
theorem nd_M_step_26 : decode prog_11_method_42_code 26 = .ok (.iconst 0, 1) := by decide +kernel
theorem nd_M_step_27 : decode prog_11_method_42_code 27 = .ok (.istore_n 2, 1) := by decide +kernel
theorem nd_M_step_28 : decode prog_11_method_42_code 28 = .ok (.iload_n 2, 1) := by decide +kernel
theorem nd_M_step_29 : decode prog_11_method_42_code 29 = .ok (.iload_n 1, 1) := by decide +kernel
theorem nd_M_step_30 : decode prog_11_method_42_code 30 = .ok (.if_icmp .ge 20, 3) := by decide +kernel
theorem nd_M_step_33 : decode prog_11_method_42_code 33 = .ok (.aload_n 0, 1) := by decide +kernel
theorem nd_M_step_34 : decode prog_11_method_42_code 34 = .ok (.invokevirtual 210, 3) := by decide +kernel
theorem nd_M_step_37 : decode prog_11_method_42_code 37 = .ok (.ifCond .ne 13, 3) := by decide +kernel
theorem nd_M_step_40 : decode prog_11_method_42_code 40 = .ok (.aload_n 0, 1) := by decide +kernel
theorem nd_M_step_41 : decode prog_11_method_42_code 41 = .ok (.invokevirtual 213, 3) := by decide +kernel
theorem nd_M_step_44 : decode prog_11_method_42_code 44 = .ok (.iinc 2 1, 3) := by decide +kernel
theorem nd_M_step_47 : decode prog_11_method_42_code 47 = .ok (.goto (-19), 3) := by decide +kernel
theorem nd_M_step_50 : decode prog_11_method_42_code 50 = .ok (.aload_n 0, 1) := by decide +kernel
theorem nd_M_step_51 : decode prog_11_method_42_code 51 = .ok (.invokevirtual 210, 3) := by decide +kernel
theorem nd_M_step_54 : decode prog_11_method_42_code 54 = .ok (.ireturn, 1) := by decide +kernel
def ny_M_findBlock : MethodName := ⟨"DrawnPathsModel", "findBlock", "(I)I"⟩
theorem nd_M_findBlock_0 : decode prog_11_method_43_code 0 = .ok (.iconst (-1), 1) := by decide +kernel
theorem nd_M_findBlock_1 : decode prog_11_method_43_code 1 = .ok (.istore_n 2, 1) := by decide +kernel
theorem nd_M_findBlock_2 : decode prog_11_method_43_code 2 = .ok (.iconst 0, 1) := by decide +kernel
theorem nd_M_findBlock_3 : decode prog_11_method_43_code 3 = .ok (.istore_n 3, 1) := by decide +kernel
theorem nd_M_findBlock_4 : decode prog_11_method_43_code 4 = .ok (.iload_n 3, 1) := by decide +kernel
theorem nd_M_findBlock_5 : decode prog_11_method_43_code 5 = .ok (.aload_n 0, 1) := by decide +kernel
theorem nd_M_findBlock_6 : decode prog_11_method_43_code 6 = .ok (.getfield 83, 3) := by decide +kernel
theorem nd_M_findBlock_9 : decode prog_11_method_43_code 9 = .ok (.if_icmp .ge 25, 3) := by decide +kernel
theorem nd_M_findBlock_12 : decode prog_11_method_43_code 12 = .ok (.aload_n 0, 1) := by decide +kernel
theorem nd_M_findBlock_13 : decode prog_11_method_43_code 13 = .ok (.getfield 54, 3) := by decide +kernel
theorem nd_M_findBlock_16 : decode prog_11_method_43_code 16 = .ok (.iload_n 3, 1) := by decide +kernel
theorem nd_M_findBlock_17 : decode prog_11_method_43_code 17 = .ok (.iaload, 1) := by decide +kernel
theorem nd_M_findBlock_18 : decode prog_11_method_43_code 18 = .ok (.iload_n 1, 1) := by decide +kernel
theorem nd_M_findBlock_19 : decode prog_11_method_43_code 19 = .ok (.if_icmp .ne 7, 3) := by decide +kernel
theorem nd_M_findBlock_22 : decode prog_11_method_43_code 22 = .ok (.iload_n 3, 1) := by decide +kernel
theorem nd_M_findBlock_23 : decode prog_11_method_43_code 23 = .ok (.goto 4, 3) := by decide +kernel
theorem nd_M_findBlock_26 : decode prog_11_method_43_code 26 = .ok (.iload_n 2, 1) := by decide +kernel
theorem nd_M_findBlock_27 : decode prog_11_method_43_code 27 = .ok (.istore_n 2, 1) := by decide +kernel
theorem nd_M_findBlock_28 : decode prog_11_method_43_code 28 = .ok (.iinc 3 1, 3) := by decide +kernel
theorem nd_M_findBlock_31 : decode prog_11_method_43_code 31 = .ok (.goto (-27), 3) := by decide +kernel
theorem nd_M_findBlock_34 : decode prog_11_method_43_code 34 = .ok (.iload_n 2, 1) := by decide +kernel
theorem nd_M_findBlock_35 : decode prog_11_method_43_code 35 = .ok (.ireturn, 1) := by decide +kernel
def ny_M_isActAt : MethodName := ⟨"DrawnPathsModel", "isActAt", "(I)Z"⟩
theorem nd_M_isActAt_0 : decode prog_11_method_44_code 0 = .ok (.iload_n 1, 1) := by decide +kernel
theorem nd_M_isActAt_1 : decode prog_11_method_44_code 1 = .ok (.iconst 2, 1) := by decide +kernel
theorem nd_M_isActAt_2 : decode prog_11_method_44_code 2 = .ok (.irem, 1) := by decide +kernel
theorem nd_M_isActAt_3 : decode prog_11_method_44_code 3 = .ok (.ifCond .ne 22, 3) := by decide +kernel
theorem nd_M_isActAt_6 : decode prog_11_method_44_code 6 = .ok (.aload_n 0, 1) := by decide +kernel
theorem nd_M_isActAt_7 : decode prog_11_method_44_code 7 = .ok (.getfield 7, 3) := by decide +kernel
theorem nd_M_isActAt_10 : decode prog_11_method_44_code 10 = .ok (.iload_n 1, 1) := by decide +kernel
theorem nd_M_isActAt_11 : decode prog_11_method_44_code 11 = .ok (.bipush 8, 2) := by decide +kernel
theorem nd_M_isActAt_13 : decode prog_11_method_44_code 13 = .ok (.idiv, 1) := by decide +kernel
theorem nd_M_isActAt_14 : decode prog_11_method_44_code 14 = .ok (.iaload, 1) := by decide +kernel
theorem nd_M_isActAt_15 : decode prog_11_method_44_code 15 = .ok (.invokestatic 216, 3) := by decide +kernel
theorem nd_M_isActAt_18 : decode prog_11_method_44_code 18 = .ok (.ifCond .eq 7, 3) := by decide +kernel
theorem nd_M_isActAt_21 : decode prog_11_method_44_code 21 = .ok (.iconst 1, 1) := by decide +kernel
theorem nd_M_isActAt_22 : decode prog_11_method_44_code 22 = .ok (.goto 4, 3) := by decide +kernel
theorem nd_M_isActAt_25 : decode prog_11_method_44_code 25 = .ok (.iconst 0, 1) := by decide +kernel
theorem nd_M_isActAt_26 : decode prog_11_method_44_code 26 = .ok (.ireturn, 1) := by decide +kernel
def ny_M_makeBlock : MethodName := ⟨"DrawnPathsModel", "makeBlock", "(I)V"⟩
theorem nd_M_makeBlock_0 : decode prog_11_method_45_code 0 = .ok (.aload_n 0, 1) := by decide +kernel
theorem nd_M_makeBlock_1 : decode prog_11_method_45_code 1 = .ok (.getfield 83, 3) := by decide +kernel
theorem nd_M_makeBlock_4 : decode prog_11_method_45_code 4 = .ok (.istore_n 2, 1) := by decide +kernel
theorem nd_M_makeBlock_5 : decode prog_11_method_45_code 5 = .ok (.aload_n 0, 1) := by decide +kernel
theorem nd_M_makeBlock_6 : decode prog_11_method_45_code 6 = .ok (.dup, 1) := by decide +kernel
theorem nd_M_makeBlock_7 : decode prog_11_method_45_code 7 = .ok (.getfield 83, 3) := by decide +kernel
theorem nd_M_makeBlock_10 : decode prog_11_method_45_code 10 = .ok (.iconst 1, 1) := by decide +kernel
theorem nd_M_makeBlock_11 : decode prog_11_method_45_code 11 = .ok (.iadd, 1) := by decide +kernel
theorem nd_M_makeBlock_12 : decode prog_11_method_45_code 12 = .ok (.putfield 83, 3) := by decide +kernel
theorem nd_M_makeBlock_15 : decode prog_11_method_45_code 15 = .ok (.aload_n 0, 1) := by decide +kernel
theorem nd_M_makeBlock_16 : decode prog_11_method_45_code 16 = .ok (.getfield 54, 3) := by decide +kernel
theorem nd_M_makeBlock_19 : decode prog_11_method_45_code 19 = .ok (.iload_n 2, 1) := by decide +kernel
theorem nd_M_makeBlock_20 : decode prog_11_method_45_code 20 = .ok (.iload_n 1, 1) := by decide +kernel
theorem nd_M_makeBlock_21 : decode prog_11_method_45_code 21 = .ok (.iastore, 1) := by decide +kernel
theorem nd_M_makeBlock_22 : decode prog_11_method_45_code 22 = .ok (.iconst 0, 1) := by decide +kernel
theorem nd_M_makeBlock_23 : decode prog_11_method_45_code 23 = .ok (.istore_n 3, 1) := by decide +kernel
theorem nd_M_makeBlock_24 : decode prog_11_method_45_code 24 = .ok (.iload_n 3, 1) := by decide +kernel
theorem nd_M_makeBlock_25 : decode prog_11_method_45_code 25 = .ok (.sipush 768, 3) := by decide +kernel
theorem nd_M_makeBlock_28 : decode prog_11_method_45_code 28 = .ok (.if_icmp .ge 16, 3) := by decide +kernel
theorem nd_M_makeBlock_31 : decode prog_11_method_45_code 31 = .ok (.aload_n 0, 1) := by decide +kernel
theorem nd_M_makeBlock_32 : decode prog_11_method_45_code 32 = .ok (.getfield 66, 3) := by decide +kernel
theorem nd_M_makeBlock_35 : decode prog_11_method_45_code 35 = .ok (.iload_n 3, 1) := by decide +kernel
theorem nd_M_makeBlock_36 : decode prog_11_method_45_code 36 = .ok (.iconst 0, 1) := by decide +kernel
theorem nd_M_makeBlock_37 : decode prog_11_method_45_code 37 = .ok (.bastore, 1) := by decide +kernel
theorem nd_M_makeBlock_38 : decode prog_11_method_45_code 38 = .ok (.iinc 3 1, 3) := by decide +kernel
theorem nd_M_makeBlock_41 : decode prog_11_method_45_code 41 = .ok (.goto (-17), 3) := by decide +kernel
theorem nd_M_makeBlock_44 : decode prog_11_method_45_code 44 = .ok (.iconst 0, 1) := by decide +kernel
theorem nd_M_makeBlock_45 : decode prog_11_method_45_code 45 = .ok (.istore_n 3, 1) := by decide +kernel
theorem nd_M_makeBlock_46 : decode prog_11_method_45_code 46 = .ok (.iload_n 3, 1) := by decide +kernel
theorem nd_M_makeBlock_47 : decode prog_11_method_45_code 47 = .ok (.bipush 96, 2) := by decide +kernel
theorem nd_M_makeBlock_49 : decode prog_11_method_45_code 49 = .ok (.if_icmp .ge 21, 3) := by decide +kernel
theorem nd_M_makeBlock_52 : decode prog_11_method_45_code 52 = .ok (.aload_n 0, 1) := by decide +kernel
theorem nd_M_makeBlock_53 : decode prog_11_method_45_code 53 = .ok (.getfield 63, 3) := by decide +kernel
theorem nd_M_makeBlock_56 : decode prog_11_method_45_code 56 = .ok (.bipush 96, 2) := by decide +kernel
theorem nd_M_makeBlock_58 : decode prog_11_method_45_code 58 = .ok (.iload_n 2, 1) := by decide +kernel
theorem nd_M_makeBlock_59 : decode prog_11_method_45_code 59 = .ok (.imul, 1) := by decide +kernel
theorem nd_M_makeBlock_60 : decode prog_11_method_45_code 60 = .ok (.iload_n 3, 1) := by decide +kernel
theorem nd_M_makeBlock_61 : decode prog_11_method_45_code 61 = .ok (.iadd, 1) := by decide +kernel
theorem nd_M_makeBlock_62 : decode prog_11_method_45_code 62 = .ok (.iconst 0, 1) := by decide +kernel
theorem nd_M_makeBlock_63 : decode prog_11_method_45_code 63 = .ok (.bastore, 1) := by decide +kernel
theorem nd_M_makeBlock_64 : decode prog_11_method_45_code 64 = .ok (.iinc 3 1, 3) := by decide +kernel
theorem nd_M_makeBlock_67 : decode prog_11_method_45_code 67 = .ok (.goto (-21), 3) := by decide +kernel
theorem nd_M_makeBlock_70 : decode prog_11_method_45_code 70 = .ok (.iconst 0, 1) := by decide +kernel
theorem nd_M_makeBlock_71 : decode prog_11_method_45_code 71 = .ok (.istore_n 3, 1) := by decide +kernel
theorem nd_M_makeBlock_72 : decode prog_11_method_45_code 72 = .ok (.iload_n 1, 1) := by decide +kernel
theorem nd_M_makeBlock_73 : decode prog_11_method_45_code 73 = .ok (.istore 4, 2) := by decide +kernel
theorem nd_M_makeBlock_75 : decode prog_11_method_45_code 75 = .ok (.iload_n 3, 1) := by decide +kernel
theorem nd_M_makeBlock_76 : decode prog_11_method_45_code 76 = .ok (.bipush 32, 2) := by decide +kernel
theorem nd_M_makeBlock_78 : decode prog_11_method_45_code 78 = .ok (.if_icmp .ge 60, 3) := by decide +kernel
theorem nd_M_makeBlock_81 : decode prog_11_method_45_code 81 = .ok (.aload_n 0, 1) := by decide +kernel
theorem nd_M_makeBlock_82 : decode prog_11_method_45_code 82 = .ok (.iload 4, 2) := by decide +kernel
theorem nd_M_makeBlock_84 : decode prog_11_method_45_code 84 = .ok (.invokevirtual 219, 3) := by decide +kernel
theorem nd_M_makeBlock_87 : decode prog_11_method_45_code 87 = .ok (.ifCond .ne 51, 3) := by decide +kernel
theorem nd_M_makeBlock_90 : decode prog_11_method_45_code 90 = .ok (.aload_n 0, 1) := by decide +kernel
theorem nd_M_makeBlock_91 : decode prog_11_method_45_code 91 = .ok (.getfield 66, 3) := by decide +kernel
theorem nd_M_makeBlock_94 : decode prog_11_method_45_code 94 = .ok (.iload 4, 2) := by decide +kernel
theorem nd_M_makeBlock_96 : decode prog_11_method_45_code 96 = .ok (.baload, 1) := by decide +kernel
theorem nd_M_makeBlock_97 : decode prog_11_method_45_code 97 = .ok (.ifCond .ne 41, 3) := by decide +kernel
theorem nd_M_makeBlock_100 : decode prog_11_method_45_code 100 = .ok (.aload_n 0, 1) := by decide +kernel
theorem nd_M_makeBlock_101 : decode prog_11_method_45_code 101 = .ok (.getfield 66, 3) := by decide +kernel
theorem nd_M_makeBlock_104 : decode prog_11_method_45_code 104 = .ok (.iload 4, 2) := by decide +kernel
theorem nd_M_makeBlock_106 : decode prog_11_method_45_code 106 = .ok (.iconst 1, 1) := by decide +kernel
theorem nd_M_makeBlock_107 : decode prog_11_method_45_code 107 = .ok (.bastore, 1) := by decide +kernel
theorem nd_M_makeBlock_108 : decode prog_11_method_45_code 108 = .ok (.aload_n 0, 1) := by decide +kernel
theorem nd_M_makeBlock_109 : decode prog_11_method_45_code 109 = .ok (.getfield 63, 3) := by decide +kernel
theorem nd_M_makeBlock_112 : decode prog_11_method_45_code 112 = .ok (.bipush 96, 2) := by decide +kernel
theorem nd_M_makeBlock_114 : decode prog_11_method_45_code 114 = .ok (.iload_n 2, 1) := by decide +kernel
theorem nd_M_makeBlock_115 : decode prog_11_method_45_code 115 = .ok (.imul, 1) := by decide +kernel
theorem nd_M_makeBlock_116 : decode prog_11_method_45_code 116 = .ok (.iload 4, 2) := by decide +kernel
theorem nd_M_makeBlock_118 : decode prog_11_method_45_code 118 = .ok (.bipush 8, 2) := by decide +kernel
theorem nd_M_makeBlock_120 : decode prog_11_method_45_code 120 = .ok (.idiv, 1) := by decide +kernel
theorem nd_M_makeBlock_121 : decode prog_11_method_45_code 121 = .ok (.iadd, 1) := by decide +kernel
theorem nd_M_makeBlock_122 : decode prog_11_method_45_code 122 = .ok (.iconst 1, 1) := by decide +kernel
theorem nd_M_makeBlock_123 : decode prog_11_method_45_code 123 = .ok (.bastore, 1) := by decide +kernel
theorem nd_M_makeBlock_124 : decode prog_11_method_45_code 124 = .ok (.aload_n 0, 1) := by decide +kernel
theorem nd_M_makeBlock_125 : decode prog_11_method_45_code 125 = .ok (.iload 4, 2) := by decide +kernel
theorem nd_M_makeBlock_127 : decode prog_11_method_45_code 127 = .ok (.invokevirtual 222, 3) := by decide +kernel
theorem nd_M_makeBlock_130 : decode prog_11_method_45_code 130 = .ok (.istore 4, 2) := by decide +kernel
theorem nd_M_makeBlock_132 : decode prog_11_method_45_code 132 = .ok (.iinc 3 1, 3) := by decide +kernel
theorem nd_M_makeBlock_135 : decode prog_11_method_45_code 135 = .ok (.goto (-60), 3) := by decide +kernel
theorem nd_M_makeBlock_138 : decode prog_11_method_45_code 138 = .ok (.aload_n 0, 1) := by decide +kernel
theorem nd_M_makeBlock_139 : decode prog_11_method_45_code 139 = .ok (.getfield 57, 3) := by decide +kernel
theorem nd_M_makeBlock_142 : decode prog_11_method_45_code 142 = .ok (.iload_n 2, 1) := by decide +kernel
theorem nd_M_makeBlock_143 : decode prog_11_method_45_code 143 = .ok (.iload_n 3, 1) := by decide +kernel
theorem nd_M_makeBlock_144 : decode prog_11_method_45_code 144 = .ok (.iastore, 1) := by decide +kernel
theorem nd_M_makeBlock_145 : decode prog_11_method_45_code 145 = .ok (.aload_n 0, 1) := by decide +kernel
theorem nd_M_makeBlock_146 : decode prog_11_method_45_code 146 = .ok (.getfield 60, 3) := by decide +kernel
theorem nd_M_makeBlock_149 : decode prog_11_method_45_code 149 = .ok (.iload_n 2, 1) := by decide +kernel
theorem nd_M_makeBlock_150 : decode prog_11_method_45_code 150 = .ok (.iload 4, 2) := by decide +kernel
theorem nd_M_makeBlock_152 : decode prog_11_method_45_code 152 = .ok (.iastore, 1) := by decide +kernel
theorem nd_M_makeBlock_153 : decode prog_11_method_45_code 153 = .ok (.return_, 1) := by decide +kernel
def ny_M_fast : MethodName := ⟨"DrawnPathsModel", "fast", "(I)I"⟩
theorem nd_M_fast_0 : decode prog_11_method_46_code 0 = .ok (.aload_n 0, 1) := by decide +kernel
theorem nd_M_fast_1 : decode prog_11_method_46_code 1 = .ok (.iload_n 1, 1) := by decide +kernel
theorem nd_M_fast_2 : decode prog_11_method_46_code 2 = .ok (.iconst 1, 1) := by decide +kernel
theorem nd_M_fast_3 : decode prog_11_method_46_code 3 = .ok (.if_icmp .lt 10, 3) := by decide +kernel
theorem nd_M_fast_6 : decode prog_11_method_46_code 6 = .ok (.iload_n 1, 1) := by decide +kernel
theorem nd_M_fast_7 : decode prog_11_method_46_code 7 = .ok (.sipush 1000, 3) := by decide +kernel
theorem nd_M_fast_10 : decode prog_11_method_46_code 10 = .ok (.if_icmp .le 7, 3) := by decide +kernel
theorem nd_M_fast_13 : decode prog_11_method_46_code 13 = .ok (.iconst 1, 1) := by decide +kernel
theorem nd_M_fast_14 : decode prog_11_method_46_code 14 = .ok (.goto 4, 3) := by decide +kernel
theorem nd_M_fast_17 : decode prog_11_method_46_code 17 = .ok (.iconst 0, 1) := by decide +kernel
theorem nd_M_fast_18 : decode prog_11_method_46_code 18 = .ok (.invokevirtual 97, 3) := by decide +kernel
theorem nd_M_fast_21 : decode prog_11_method_46_code 21 = .ok (.ifCond .eq 5, 3) := by decide +kernel
theorem nd_M_fast_24 : decode prog_11_method_46_code 24 = .ok (.iconst 0, 1) := by decide +kernel
theorem nd_M_fast_25 : decode prog_11_method_46_code 25 = .ok (.ireturn, 1) := by decide +kernel
theorem nd_M_fast_26 : decode prog_11_method_46_code 26 = .ok (.iload_n 1, 1) := by decide +kernel
theorem nd_M_fast_27 : decode prog_11_method_46_code 27 = .ok (.istore_n 2, 1) := by decide +kernel
theorem nd_M_fast_28 : decode prog_11_method_46_code 28 = .ok (.iload_n 2, 1) := by decide +kernel
theorem nd_M_fast_29 : decode prog_11_method_46_code 29 = .ok (.ifCond .le 176, 3) := by decide +kernel
theorem nd_M_fast_32 : decode prog_11_method_46_code 32 = .ok (.aload_n 0, 1) := by decide +kernel
theorem nd_M_fast_33 : decode prog_11_method_46_code 33 = .ok (.invokevirtual 210, 3) := by decide +kernel
theorem nd_M_fast_36 : decode prog_11_method_46_code 36 = .ok (.ifCond .ne 169, 3) := by decide +kernel
theorem nd_M_fast_39 : decode prog_11_method_46_code 39 = .ok (.iconst 1, 1) := by decide +kernel
theorem nd_M_fast_40 : decode prog_11_method_46_code 40 = .ok (.istore_n 3, 1) := by decide +kernel
theorem nd_M_fast_41 : decode prog_11_method_46_code 41 = .ok (.bipush 8, 2) := by decide +kernel
theorem nd_M_fast_43 : decode prog_11_method_46_code 43 = .ok (.aload_n 0, 1) := by decide +kernel
theorem nd_M_fast_44 : decode prog_11_method_46_code 44 = .ok (.getfield 33, 3) := by decide +kernel
theorem nd_M_fast_47 : decode prog_11_method_46_code 47 = .ok (.iconst 0, 1) := by decide +kernel
theorem nd_M_fast_48 : decode prog_11_method_46_code 48 = .ok (.iaload, 1) := by decide +kernel
theorem nd_M_fast_49 : decode prog_11_method_46_code 49 = .ok (.imul, 1) := by decide +kernel
theorem nd_M_fast_50 : decode prog_11_method_46_code 50 = .ok (.iconst 2, 1) := by decide +kernel
theorem nd_M_fast_51 : decode prog_11_method_46_code 51 = .ok (.aload_n 0, 1) := by decide +kernel
theorem nd_M_fast_52 : decode prog_11_method_46_code 52 = .ok (.getfield 36, 3) := by decide +kernel
theorem nd_M_fast_55 : decode prog_11_method_46_code 55 = .ok (.iconst 0, 1) := by decide +kernel
theorem nd_M_fast_56 : decode prog_11_method_46_code 56 = .ok (.iaload, 1) := by decide +kernel
theorem nd_M_fast_57 : decode prog_11_method_46_code 57 = .ok (.imul, 1) := by decide +kernel
theorem nd_M_fast_58 : decode prog_11_method_46_code 58 = .ok (.iadd, 1) := by decide +kernel
theorem nd_M_fast_59 : decode prog_11_method_46_code 59 = .ok (.aload_n 0, 1) := by decide +kernel
theorem nd_M_fast_60 : decode prog_11_method_46_code 60 = .ok (.getfield 39, 3) := by decide +kernel
theorem nd_M_fast_63 : decode prog_11_method_46_code 63 = .ok (.iconst 0, 1) := by decide +kernel
theorem nd_M_fast_64 : decode prog_11_method_46_code 64 = .ok (.baload, 1) := by decide +kernel
theorem nd_M_fast_65 : decode prog_11_method_46_code 65 = .ok (.ifCond .eq 7, 3) := by decide +kernel
theorem nd_M_fast_68 : decode prog_11_method_46_code 68 = .ok (.iconst 1, 1) := by decide +kernel
theorem nd_M_fast_69 : decode prog_11_method_46_code 69 = .ok (.goto 4, 3) := by decide +kernel
theorem nd_M_fast_72 : decode prog_11_method_46_code 72 = .ok (.iconst 0, 1) := by decide +kernel
theorem nd_M_fast_73 : decode prog_11_method_46_code 73 = .ok (.iadd, 1) := by decide +kernel
theorem nd_M_fast_74 : decode prog_11_method_46_code 74 = .ok (.istore 4, 2) := by decide +kernel
theorem nd_M_fast_76 : decode prog_11_method_46_code 76 = .ok (.aload_n 0, 1) := by decide +kernel
theorem nd_M_fast_77 : decode prog_11_method_46_code 77 = .ok (.getfield 117, 3) := by decide +kernel
theorem nd_M_fast_80 : decode prog_11_method_46_code 80 = .ok (.iconst 1, 1) := by decide +kernel
theorem nd_M_fast_81 : decode prog_11_method_46_code 81 = .ok (.if_icmp .ne 91, 3) := by decide +kernel
theorem nd_M_fast_84 : decode prog_11_method_46_code 84 = .ok (.aload_n 0, 1) := by decide +kernel
theorem nd_M_fast_85 : decode prog_11_method_46_code 85 = .ok (.iload 4, 2) := by decide +kernel
theorem nd_M_fast_87 : decode prog_11_method_46_code 87 = .ok (.invokevirtual 219, 3) := by decide +kernel
theorem nd_M_fast_90 : decode prog_11_method_46_code 90 = .ok (.ifCond .ne 82, 3) := by decide +kernel
theorem nd_M_fast_93 : decode prog_11_method_46_code 93 = .ok (.aload_n 0, 1) := by decide +kernel
theorem nd_M_fast_94 : decode prog_11_method_46_code 94 = .ok (.iload 4, 2) := by decide +kernel
theorem nd_M_fast_96 : decode prog_11_method_46_code 96 = .ok (.invokevirtual 225, 3) := by decide +kernel
theorem nd_M_fast_99 : decode prog_11_method_46_code 99 = .ok (.ifCond .ge 18, 3) := by decide +kernel
theorem nd_M_fast_102 : decode prog_11_method_46_code 102 = .ok (.aload_n 0, 1) := by decide +kernel
theorem nd_M_fast_103 : decode prog_11_method_46_code 103 = .ok (.getfield 83, 3) := by decide +kernel
theorem nd_M_fast_106 : decode prog_11_method_46_code 106 = .ok (.bipush 30, 2) := by decide +kernel
theorem nd_M_fast_108 : decode prog_11_method_46_code 108 = .ok (.if_icmp .ge 9, 3) := by decide +kernel
theorem nd_M_fast_111 : decode prog_11_method_46_code 111 = .ok (.aload_n 0, 1) := by decide +kernel
theorem nd_M_fast_112 : decode prog_11_method_46_code 112 = .ok (.iload 4, 2) := by decide +kernel
theorem nd_M_fast_114 : decode prog_11_method_46_code 114 = .ok (.invokevirtual 228, 3) := by decide +kernel
theorem nd_M_fast_117 : decode prog_11_method_46_code 117 = .ok (.aload_n 0, 1) := by decide +kernel
theorem nd_M_fast_118 : decode prog_11_method_46_code 118 = .ok (.iload 4, 2) := by decide +kernel
theorem nd_M_fast_120 : decode prog_11_method_46_code 120 = .ok (.invokevirtual 225, 3) := by decide +kernel
theorem nd_M_fast_123 : decode prog_11_method_46_code 123 = .ok (.istore 5, 2) := by decide +kernel
theorem nd_M_fast_125 : decode prog_11_method_46_code 125 = .ok (.iload 5, 2) := by decide +kernel
theorem nd_M_fast_127 : decode prog_11_method_46_code 127 = .ok (.ifCond .lt 43, 3) := by decide +kernel
theorem nd_M_fast_130 : decode prog_11_method_46_code 130 = .ok (.aload_n 0, 1) := by decide +kernel
theorem nd_M_fast_131 : decode prog_11_method_46_code 131 = .ok (.getfield 57, 3) := by decide +kernel
theorem nd_M_fast_134 : decode prog_11_method_46_code 134 = .ok (.iload 5, 2) := by decide +kernel
theorem nd_M_fast_136 : decode prog_11_method_46_code 136 = .ok (.iaload, 1) := by decide +kernel
theorem nd_M_fast_137 : decode prog_11_method_46_code 137 = .ok (.iload_n 2, 1) := by decide +kernel
theorem nd_M_fast_138 : decode prog_11_method_46_code 138 = .ok (.if_icmp .gt 32, 3) := by decide +kernel
theorem nd_M_fast_141 : decode prog_11_method_46_code 141 = .ok (.aload_n 0, 1) := by decide +kernel
theorem nd_M_fast_142 : decode prog_11_method_46_code 142 = .ok (.getfield 57, 3) := by decide +kernel
theorem nd_M_fast_145 : decode prog_11_method_46_code 145 = .ok (.iload 5, 2) := by decide +kernel
theorem nd_M_fast_147 : decode prog_11_method_46_code 147 = .ok (.iaload, 1) := by decide +kernel
theorem nd_M_fast_148 : decode prog_11_method_46_code 148 = .ok (.aload_n 0, 1) := by decide +kernel
theorem nd_M_fast_149 : decode prog_11_method_46_code 149 = .ok (.getfield 42, 3) := by decide +kernel
theorem nd_M_fast_152 : decode prog_11_method_46_code 152 = .ok (.iconst 0, 1) := by decide +kernel
theorem nd_M_fast_153 : decode prog_11_method_46_code 153 = .ok (.iaload, 1) := by decide +kernel
theorem nd_M_fast_154 : decode prog_11_method_46_code 154 = .ok (.iadd, 1) := by decide +kernel
theorem nd_M_fast_155 : decode prog_11_method_46_code 155 = .ok (.bipush 24, 2) := by decide +kernel
theorem nd_M_fast_157 : decode prog_11_method_46_code 157 = .ok (.if_icmp .ge 13, 3) := by decide +kernel
theorem nd_M_fast_160 : decode prog_11_method_46_code 160 = .ok (.aload_n 0, 1) := by decide +kernel
theorem nd_M_fast_161 : decode prog_11_method_46_code 161 = .ok (.getfield 57, 3) := by decide +kernel
theorem nd_M_fast_164 : decode prog_11_method_46_code 164 = .ok (.iload 5, 2) := by decide +kernel
theorem nd_M_fast_166 : decode prog_11_method_46_code 166 = .ok (.iaload, 1) := by decide +kernel
theorem nd_M_fast_167 : decode prog_11_method_46_code 167 = .ok (.goto 4, 3) := by decide +kernel
theorem nd_M_fast_170 : decode prog_11_method_46_code 170 = .ok (.iconst 1, 1) := by decide +kernel
theorem nd_M_fast_171 : decode prog_11_method_46_code 171 = .ok (.istore_n 3, 1) := by decide +kernel
theorem nd_M_fast_172 : decode prog_11_method_46_code 172 = .ok (.iconst 0, 1) := by decide +kernel
theorem nd_M_fast_173 : decode prog_11_method_46_code 173 = .ok (.istore 5, 2) := by decide +kernel
theorem nd_M_fast_175 : decode prog_11_method_46_code 175 = .ok (.iload 5, 2) := by decide +kernel
theorem nd_M_fast_177 : decode prog_11_method_46_code 177 = .ok (.iload_n 3, 1) := by decide +kernel
theorem nd_M_fast_178 : decode prog_11_method_46_code 178 = .ok (.if_icmp .ge 20, 3) := by decide +kernel
theorem nd_M_fast_181 : decode prog_11_method_46_code 181 = .ok (.aload_n 0, 1) := by decide +kernel
theorem nd_M_fast_182 : decode prog_11_method_46_code 182 = .ok (.getfield 120, 3) := by decide +kernel
theorem nd_M_fast_185 : decode prog_11_method_46_code 185 = .ok (.ifCond .ne 13, 3) := by decide +kernel
theorem nd_M_fast_188 : decode prog_11_method_46_code 188 = .ok (.aload_n 0, 1) := by decide +kernel
theorem nd_M_fast_189 : decode prog_11_method_46_code 189 = .ok (.invokevirtual 213, 3) := by decide +kernel
theorem nd_M_fast_192 : decode prog_11_method_46_code 192 = .ok (.iinc 5 1, 3) := by decide +kernel
theorem nd_M_fast_195 : decode prog_11_method_46_code 195 = .ok (.goto (-20), 3) := by decide +kernel
theorem nd_M_fast_198 : decode prog_11_method_46_code 198 = .ok (.iload_n 2, 1) := by decide +kernel
theorem nd_M_fast_199 : decode prog_11_method_46_code 199 = .ok (.iload_n 3, 1) := by decide +kernel
theorem nd_M_fast_200 : decode prog_11_method_46_code 200 = .ok (.isub, 1) := by decide +kernel
theorem nd_M_fast_201 : decode prog_11_method_46_code 201 = .ok (.istore_n 2, 1) := by decide +kernel
theorem nd_M_fast_202 : decode prog_11_method_46_code 202 = .ok (.goto (-174), 3) := by decide +kernel
theorem nd_M_fast_205 : decode prog_11_method_46_code 205 = .ok (.aload_n 0, 1) := by decide +kernel
theorem nd_M_fast_206 : decode prog_11_method_46_code 206 = .ok (.invokevirtual 210, 3) := by decide +kernel
theorem nd_M_fast_209 : decode prog_11_method_46_code 209 = .ok (.ireturn, 1) := by decide +kernel
def ny_M_pointer : MethodName := ⟨"DrawnPathsModel", "pointer", "(II)I"⟩
theorem nd_M_pointer_0 : decode prog_11_method_47_code 0 = .ok (.iload_n 1, 1) := by decide +kernel
theorem nd_M_pointer_1 : decode prog_11_method_47_code 1 = .ok (.ifCond .lt 15, 3) := by decide +kernel
theorem nd_M_pointer_4 : decode prog_11_method_47_code 4 = .ok (.iload_n 1, 1) := by decide +kernel
theorem nd_M_pointer_5 : decode prog_11_method_47_code 5 = .ok (.aload_n 0, 1) := by decide +kernel
theorem nd_M_pointer_6 : decode prog_11_method_47_code 6 = .ok (.getfield 117, 3) := by decide +kernel
theorem nd_M_pointer_9 : decode prog_11_method_47_code 9 = .ok (.if_icmp .ge 7, 3) := by decide +kernel
theorem nd_M_pointer_12 : decode prog_11_method_47_code 12 = .ok (.iconst 1, 1) := by decide +kernel
theorem nd_M_pointer_13 : decode prog_11_method_47_code 13 = .ok (.goto 4, 3) := by decide +kernel
theorem nd_M_pointer_16 : decode prog_11_method_47_code 16 = .ok (.iconst 0, 1) := by decide +kernel
theorem nd_M_pointer_17 : decode prog_11_method_47_code 17 = .ok (.istore_n 3, 1) := by decide +kernel
theorem nd_M_pointer_18 : decode prog_11_method_47_code 18 = .ok (.aload_n 0, 1) := by decide +kernel
theorem nd_M_pointer_19 : decode prog_11_method_47_code 19 = .ok (.iload_n 3, 1) := by decide +kernel
theorem nd_M_pointer_20 : decode prog_11_method_47_code 20 = .ok (.ifCond .ne 7, 3) := by decide +kernel
theorem nd_M_pointer_23 : decode prog_11_method_47_code 23 = .ok (.iconst 1, 1) := by decide +kernel
theorem nd_M_pointer_24 : decode prog_11_method_47_code 24 = .ok (.goto 17, 3) := by decide +kernel
theorem nd_M_pointer_27 : decode prog_11_method_47_code 27 = .ok (.iload_n 2, 1) := by decide +kernel
theorem nd_M_pointer_28 : decode prog_11_method_47_code 28 = .ok (.ifCond .lt 8, 3) := by decide +kernel
theorem nd_M_pointer_31 : decode prog_11_method_47_code 31 = .ok (.iload_n 2, 1) := by decide +kernel
theorem nd_M_pointer_32 : decode prog_11_method_47_code 32 = .ok (.iconst 5, 1) := by decide +kernel
theorem nd_M_pointer_33 : decode prog_11_method_47_code 33 = .ok (.if_icmp .le 7, 3) := by decide +kernel
theorem nd_M_pointer_36 : decode prog_11_method_47_code 36 = .ok (.iconst 2, 1) := by decide +kernel
theorem nd_M_pointer_37 : decode prog_11_method_47_code 37 = .ok (.goto 4, 3) := by decide +kernel
theorem nd_M_pointer_40 : decode prog_11_method_47_code 40 = .ok (.iconst 0, 1) := by decide +kernel
theorem nd_M_pointer_41 : decode prog_11_method_47_code 41 = .ok (.invokevirtual 97, 3) := by decide +kernel
theorem nd_M_pointer_44 : decode prog_11_method_47_code 44 = .ok (.ifCond .eq 5, 3) := by decide +kernel
theorem nd_M_pointer_47 : decode prog_11_method_47_code 47 = .ok (.iconst 0, 1) := by decide +kernel
theorem nd_M_pointer_48 : decode prog_11_method_47_code 48 = .ok (.ireturn, 1) := by decide +kernel
theorem nd_M_pointer_49 : decode prog_11_method_47_code 49 = .ok (.iload_n 2, 1) := by decide +kernel
theorem nd_M_pointer_50 : decode prog_11_method_47_code 50 = .ok (.tableswitch 83 0 4 #[34, 44, 54, 61, 76], 34) := by decide +kernel
theorem nd_M_pointer_84 : decode prog_11_method_47_code 84 = .ok (.aload_n 0, 1) := by decide +kernel
theorem nd_M_pointer_85 : decode prog_11_method_47_code 85 = .ok (.getfield 33, 3) := by decide +kernel
theorem nd_M_pointer_88 : decode prog_11_method_47_code 88 = .ok (.iload_n 1, 1) := by decide +kernel
theorem nd_M_pointer_89 : decode prog_11_method_47_code 89 = .ok (.iaload, 1) := by decide +kernel
theorem nd_M_pointer_90 : decode prog_11_method_47_code 90 = .ok (.bipush 12, 2) := by decide +kernel
theorem nd_M_pointer_92 : decode prog_11_method_47_code 92 = .ok (.irem, 1) := by decide +kernel
theorem nd_M_pointer_93 : decode prog_11_method_47_code 93 = .ok (.ireturn, 1) := by decide +kernel
theorem nd_M_pointer_94 : decode prog_11_method_47_code 94 = .ok (.aload_n 0, 1) := by decide +kernel
theorem nd_M_pointer_95 : decode prog_11_method_47_code 95 = .ok (.getfield 33, 3) := by decide +kernel
theorem nd_M_pointer_98 : decode prog_11_method_47_code 98 = .ok (.iload_n 1, 1) := by decide +kernel
theorem nd_M_pointer_99 : decode prog_11_method_47_code 99 = .ok (.iaload, 1) := by decide +kernel
theorem nd_M_pointer_100 : decode prog_11_method_47_code 100 = .ok (.bipush 12, 2) := by decide +kernel
theorem nd_M_pointer_102 : decode prog_11_method_47_code 102 = .ok (.idiv, 1) := by decide +kernel
theorem nd_M_pointer_103 : decode prog_11_method_47_code 103 = .ok (.ireturn, 1) := by decide +kernel
theorem nd_M_pointer_104 : decode prog_11_method_47_code 104 = .ok (.aload_n 0, 1) := by decide +kernel
theorem nd_M_pointer_105 : decode prog_11_method_47_code 105 = .ok (.getfield 36, 3) := by decide +kernel
theorem nd_M_pointer_108 : decode prog_11_method_47_code 108 = .ok (.iload_n 1, 1) := by decide +kernel
theorem nd_M_pointer_109 : decode prog_11_method_47_code 109 = .ok (.iaload, 1) := by decide +kernel
theorem nd_M_pointer_110 : decode prog_11_method_47_code 110 = .ok (.ireturn, 1) := by decide +kernel
theorem nd_M_pointer_111 : decode prog_11_method_47_code 111 = .ok (.aload_n 0, 1) := by decide +kernel
theorem nd_M_pointer_112 : decode prog_11_method_47_code 112 = .ok (.getfield 39, 3) := by decide +kernel
theorem nd_M_pointer_115 : decode prog_11_method_47_code 115 = .ok (.iload_n 1, 1) := by decide +kernel
theorem nd_M_pointer_116 : decode prog_11_method_47_code 116 = .ok (.baload, 1) := by decide +kernel
theorem nd_M_pointer_117 : decode prog_11_method_47_code 117 = .ok (.ifCond .eq 7, 3) := by decide +kernel
theorem nd_M_pointer_120 : decode prog_11_method_47_code 120 = .ok (.iconst 1, 1) := by decide +kernel
theorem nd_M_pointer_121 : decode prog_11_method_47_code 121 = .ok (.goto 4, 3) := by decide +kernel
theorem nd_M_pointer_124 : decode prog_11_method_47_code 124 = .ok (.iconst 0, 1) := by decide +kernel
theorem nd_M_pointer_125 : decode prog_11_method_47_code 125 = .ok (.ireturn, 1) := by decide +kernel
theorem nd_M_pointer_126 : decode prog_11_method_47_code 126 = .ok (.aload_n 0, 1) := by decide +kernel
theorem nd_M_pointer_127 : decode prog_11_method_47_code 127 = .ok (.getfield 42, 3) := by decide +kernel
theorem nd_M_pointer_130 : decode prog_11_method_47_code 130 = .ok (.iload_n 1, 1) := by decide +kernel
theorem nd_M_pointer_131 : decode prog_11_method_47_code 131 = .ok (.iaload, 1) := by decide +kernel
theorem nd_M_pointer_132 : decode prog_11_method_47_code 132 = .ok (.ireturn, 1) := by decide +kernel
theorem nd_M_pointer_133 : decode prog_11_method_47_code 133 = .ok (.aload_n 0, 1) := by decide +kernel
theorem nd_M_pointer_134 : decode prog_11_method_47_code 134 = .ok (.getfield 48, 3) := by decide +kernel
theorem nd_M_pointer_137 : decode prog_11_method_47_code 137 = .ok (.iload_n 1, 1) := by decide +kernel
theorem nd_M_pointer_138 : decode prog_11_method_47_code 138 = .ok (.iaload, 1) := by decide +kernel
theorem nd_M_pointer_139 : decode prog_11_method_47_code 139 = .ok (.ireturn, 1) := by decide +kernel
def ny_M_value : MethodName := ⟨"DrawnPathsModel", "value", "(II)J"⟩
theorem nd_M_value_0 : decode prog_11_method_48_code 0 = .ok (.iload_n 1, 1) := by decide +kernel
theorem nd_M_value_1 : decode prog_11_method_48_code 1 = .ok (.ifCond .lt 19, 3) := by decide +kernel
theorem nd_M_value_4 : decode prog_11_method_48_code 4 = .ok (.iload_n 1, 1) := by decide +kernel
theorem nd_M_value_5 : decode prog_11_method_48_code 5 = .ok (.aload_n 0, 1) := by decide +kernel
theorem nd_M_value_6 : decode prog_11_method_48_code 6 = .ok (.getfield 117, 3) := by decide +kernel
theorem nd_M_value_9 : decode prog_11_method_48_code 9 = .ok (.if_icmp .ge 11, 3) := by decide +kernel
theorem nd_M_value_12 : decode prog_11_method_48_code 12 = .ok (.iload_n 2, 1) := by decide +kernel
theorem nd_M_value_13 : decode prog_11_method_48_code 13 = .ok (.ifCond .lt 7, 3) := by decide +kernel
theorem nd_M_value_16 : decode prog_11_method_48_code 16 = .ok (.iconst 1, 1) := by decide +kernel
theorem nd_M_value_17 : decode prog_11_method_48_code 17 = .ok (.goto 4, 3) := by decide +kernel
theorem nd_M_value_20 : decode prog_11_method_48_code 20 = .ok (.iconst 0, 1) := by decide +kernel
theorem nd_M_value_21 : decode prog_11_method_48_code 21 = .ok (.istore_n 3, 1) := by decide +kernel
theorem nd_M_value_22 : decode prog_11_method_48_code 22 = .ok (.iload_n 3, 1) := by decide +kernel
theorem nd_M_value_23 : decode prog_11_method_48_code 23 = .ok (.ifCond .eq 17, 3) := by decide +kernel
theorem nd_M_value_26 : decode prog_11_method_48_code 26 = .ok (.iload_n 2, 1) := by decide +kernel
theorem nd_M_value_27 : decode prog_11_method_48_code 27 = .ok (.aload_n 0, 1) := by decide +kernel
theorem nd_M_value_28 : decode prog_11_method_48_code 28 = .ok (.getfield 42, 3) := by decide +kernel
theorem nd_M_value_31 : decode prog_11_method_48_code 31 = .ok (.iload_n 1, 1) := by decide +kernel
theorem nd_M_value_32 : decode prog_11_method_48_code 32 = .ok (.iaload, 1) := by decide +kernel
theorem nd_M_value_33 : decode prog_11_method_48_code 33 = .ok (.if_icmp .ge 7, 3) := by decide +kernel
theorem nd_M_value_36 : decode prog_11_method_48_code 36 = .ok (.iconst 1, 1) := by decide +kernel
theorem nd_M_value_37 : decode prog_11_method_48_code 37 = .ok (.goto 4, 3) := by decide +kernel
theorem nd_M_value_40 : decode prog_11_method_48_code 40 = .ok (.iconst 0, 1) := by decide +kernel
theorem nd_M_value_41 : decode prog_11_method_48_code 41 = .ok (.istore_n 3, 1) := by decide +kernel
theorem nd_M_value_42 : decode prog_11_method_48_code 42 = .ok (.aload_n 0, 1) := by decide +kernel
theorem nd_M_value_43 : decode prog_11_method_48_code 43 = .ok (.iload_n 3, 1) := by decide +kernel
theorem nd_M_value_44 : decode prog_11_method_48_code 44 = .ok (.ifCond .eq 7, 3) := by decide +kernel
theorem nd_M_value_47 : decode prog_11_method_48_code 47 = .ok (.iconst 0, 1) := by decide +kernel
theorem nd_M_value_48 : decode prog_11_method_48_code 48 = .ok (.goto 4, 3) := by decide +kernel
theorem nd_M_value_51 : decode prog_11_method_48_code 51 = .ok (.iconst 1, 1) := by decide +kernel
theorem nd_M_value_52 : decode prog_11_method_48_code 52 = .ok (.invokevirtual 97, 3) := by decide +kernel
theorem nd_M_value_55 : decode prog_11_method_48_code 55 = .ok (.ifCond .eq 7, 3) := by decide +kernel
theorem nd_M_value_58 : decode prog_11_method_48_code 58 = .ok (.lconst 0, 1) := by decide +kernel
theorem nd_M_value_59 : decode prog_11_method_48_code 59 = .ok (.goto 23, 3) := by decide +kernel
theorem nd_M_value_62 : decode prog_11_method_48_code 62 = .ok (.aload_n 0, 1) := by decide +kernel
theorem nd_M_value_63 : decode prog_11_method_48_code 63 = .ok (.getfield 45, 3) := by decide +kernel
theorem nd_M_value_66 : decode prog_11_method_48_code 66 = .ok (.bipush 24, 2) := by decide +kernel
theorem nd_M_value_68 : decode prog_11_method_48_code 68 = .ok (.iload_n 1, 1) := by decide +kernel
theorem nd_M_value_69 : decode prog_11_method_48_code 69 = .ok (.imul, 1) := by decide +kernel
theorem nd_M_value_70 : decode prog_11_method_48_code 70 = .ok (.aload_n 0, 1) := by decide +kernel
theorem nd_M_value_71 : decode prog_11_method_48_code 71 = .ok (.getfield 42, 3) := by decide +kernel
theorem nd_M_value_74 : decode prog_11_method_48_code 74 = .ok (.iload_n 1, 1) := by decide +kernel
theorem nd_M_value_75 : decode prog_11_method_48_code 75 = .ok (.iaload, 1) := by decide +kernel
theorem nd_M_value_76 : decode prog_11_method_48_code 76 = .ok (.iadd, 1) := by decide +kernel
theorem nd_M_value_77 : decode prog_11_method_48_code 77 = .ok (.iconst 1, 1) := by decide +kernel
theorem nd_M_value_78 : decode prog_11_method_48_code 78 = .ok (.isub, 1) := by decide +kernel
theorem nd_M_value_79 : decode prog_11_method_48_code 79 = .ok (.iload_n 2, 1) := by decide +kernel
theorem nd_M_value_80 : decode prog_11_method_48_code 80 = .ok (.isub, 1) := by decide +kernel
theorem nd_M_value_81 : decode prog_11_method_48_code 81 = .ok (.laload, 1) := by decide +kernel
theorem nd_M_value_82 : decode prog_11_method_48_code 82 = .ok (.lreturn, 1) := by decide +kernel
def ny_M_comeTo : MethodName := ⟨"DrawnPathsModel", "comeTo", "(I)Z"⟩
theorem nd_M_comeTo_0 : decode prog_11_method_53_code 0 = .ok (.aload_n 0, 1) := by decide +kernel
theorem nd_M_comeTo_1 : decode prog_11_method_53_code 1 = .ok (.getfield 69, 3) := by decide +kernel
theorem nd_M_comeTo_4 : decode prog_11_method_53_code 4 = .ok (.iload_n 1, 1) := by decide +kernel
theorem nd_M_comeTo_5 : decode prog_11_method_53_code 5 = .ok (.baload, 1) := by decide +kernel
theorem nd_M_comeTo_6 : decode prog_11_method_53_code 6 = .ok (.ifCond .ne 7, 3) := by decide +kernel
theorem nd_M_comeTo_9 : decode prog_11_method_53_code 9 = .ok (.iconst 1, 1) := by decide +kernel
theorem nd_M_comeTo_10 : decode prog_11_method_53_code 10 = .ok (.goto 4, 3) := by decide +kernel
theorem nd_M_comeTo_13 : decode prog_11_method_53_code 13 = .ok (.iconst 0, 1) := by decide +kernel
theorem nd_M_comeTo_14 : decode prog_11_method_53_code 14 = .ok (.istore_n 2, 1) := by decide +kernel
theorem nd_M_comeTo_15 : decode prog_11_method_53_code 15 = .ok (.aload_n 0, 1) := by decide +kernel
theorem nd_M_comeTo_16 : decode prog_11_method_53_code 16 = .ok (.getfield 69, 3) := by decide +kernel
theorem nd_M_comeTo_19 : decode prog_11_method_53_code 19 = .ok (.iload_n 1, 1) := by decide +kernel
theorem nd_M_comeTo_20 : decode prog_11_method_53_code 20 = .ok (.iconst 1, 1) := by decide +kernel
theorem nd_M_comeTo_21 : decode prog_11_method_53_code 21 = .ok (.bastore, 1) := by decide +kernel
theorem nd_M_comeTo_22 : decode prog_11_method_53_code 22 = .ok (.iload_n 2, 1) := by decide +kernel
theorem nd_M_comeTo_23 : decode prog_11_method_53_code 23 = .ok (.ireturn, 1) := by decide +kernel
def ny_M_goOn : MethodName := ⟨"DrawnPathsModel", "goOn", "()Z"⟩
theorem nd_M_goOn_0 : decode prog_11_method_52_code 0 = .ok (.iconst 0, 1) := by decide +kernel
theorem nd_M_goOn_1 : decode prog_11_method_52_code 1 = .ok (.istore_n 1, 1) := by decide +kernel
theorem nd_M_goOn_2 : decode prog_11_method_52_code 2 = .ok (.iconst 0, 1) := by decide +kernel
theorem nd_M_goOn_3 : decode prog_11_method_52_code 3 = .ok (.istore_n 2, 1) := by decide +kernel
theorem nd_M_goOn_4 : decode prog_11_method_52_code 4 = .ok (.iload_n 2, 1) := by decide +kernel
theorem nd_M_goOn_5 : decode prog_11_method_52_code 5 = .ok (.sipush 768, 3) := by decide +kernel
theorem nd_M_goOn_8 : decode prog_11_method_52_code 8 = .ok (.if_icmp .ge 197, 3) := by decide +kernel
theorem nd_M_goOn_11 : decode prog_11_method_52_code 11 = .ok (.aload_n 0, 1) := by decide +kernel
theorem nd_M_goOn_12 : decode prog_11_method_52_code 12 = .ok (.getfield 69, 3) := by decide +kernel
theorem nd_M_goOn_15 : decode prog_11_method_52_code 15 = .ok (.iload_n 2, 1) := by decide +kernel
theorem nd_M_goOn_16 : decode prog_11_method_52_code 16 = .ok (.baload, 1) := by decide +kernel
theorem nd_M_goOn_17 : decode prog_11_method_52_code 17 = .ok (.ifCond .eq 182, 3) := by decide +kernel
theorem nd_M_goOn_20 : decode prog_11_method_52_code 20 = .ok (.iload_n 2, 1) := by decide +kernel
theorem nd_M_goOn_21 : decode prog_11_method_52_code 21 = .ok (.bipush 8, 2) := by decide +kernel
theorem nd_M_goOn_23 : decode prog_11_method_52_code 23 = .ok (.idiv, 1) := by decide +kernel
theorem nd_M_goOn_24 : decode prog_11_method_52_code 24 = .ok (.istore_n 3, 1) := by decide +kernel
theorem nd_M_goOn_25 : decode prog_11_method_52_code 25 = .ok (.iload_n 2, 1) := by decide +kernel
theorem nd_M_goOn_26 : decode prog_11_method_52_code 26 = .ok (.iconst 2, 1) := by decide +kernel
theorem nd_M_goOn_27 : decode prog_11_method_52_code 27 = .ok (.idiv, 1) := by decide +kernel
theorem nd_M_goOn_28 : decode prog_11_method_52_code 28 = .ok (.iconst 4, 1) := by decide +kernel
theorem nd_M_goOn_29 : decode prog_11_method_52_code 29 = .ok (.irem, 1) := by decide +kernel
theorem nd_M_goOn_30 : decode prog_11_method_52_code 30 = .ok (.istore 4, 2) := by decide +kernel
theorem nd_M_goOn_32 : decode prog_11_method_52_code 32 = .ok (.iload_n 2, 1) := by decide +kernel
theorem nd_M_goOn_33 : decode prog_11_method_52_code 33 = .ok (.iconst 2, 1) := by decide +kernel
theorem nd_M_goOn_34 : decode prog_11_method_52_code 34 = .ok (.irem, 1) := by decide +kernel
theorem nd_M_goOn_35 : decode prog_11_method_52_code 35 = .ok (.iconst 1, 1) := by decide +kernel
theorem nd_M_goOn_36 : decode prog_11_method_52_code 36 = .ok (.if_icmp .ne 8, 3) := by decide +kernel
theorem nd_M_goOn_39 : decode prog_11_method_52_code 39 = .ok (.bipush 32, 2) := by decide +kernel
theorem nd_M_goOn_41 : decode prog_11_method_52_code 41 = .ok (.goto 9, 3) := by decide +kernel
theorem nd_M_goOn_44 : decode prog_11_method_52_code 44 = .ok (.aload_n 0, 1) := by decide +kernel
theorem nd_M_goOn_45 : decode prog_11_method_52_code 45 = .ok (.getfield 7, 3) := by decide +kernel
theorem nd_M_goOn_48 : decode prog_11_method_52_code 48 = .ok (.iload_n 3, 1) := by decide +kernel
theorem nd_M_goOn_49 : decode prog_11_method_52_code 49 = .ok (.iaload, 1) := by decide +kernel
theorem nd_M_goOn_50 : decode prog_11_method_52_code 50 = .ok (.istore 5, 2) := by decide +kernel
theorem nd_M_goOn_52 : decode prog_11_method_52_code 52 = .ok (.iload 5, 2) := by decide +kernel
theorem nd_M_goOn_54 : decode prog_11_method_52_code 54 = .ok (.bipush 82, 2) := by decide +kernel
theorem nd_M_goOn_56 : decode prog_11_method_52_code 56 = .ok (.if_icmp .eq 10, 3) := by decide +kernel
theorem nd_M_goOn_59 : decode prog_11_method_52_code 59 = .ok (.iload 5, 2) := by decide +kernel
theorem nd_M_goOn_61 : decode prog_11_method_52_code 61 = .ok (.bipush 64, 2) := by decide +kernel
theorem nd_M_goOn_63 : decode prog_11_method_52_code 63 = .ok (.if_icmp .ne 7, 3) := by decide +kernel
theorem nd_M_goOn_66 : decode prog_11_method_52_code 66 = .ok (.iconst 1, 1) := by decide +kernel
theorem nd_M_goOn_67 : decode prog_11_method_52_code 67 = .ok (.goto 4, 3) := by decide +kernel
theorem nd_M_goOn_70 : decode prog_11_method_52_code 70 = .ok (.iconst 0, 1) := by decide +kernel
theorem nd_M_goOn_71 : decode prog_11_method_52_code 71 = .ok (.istore 6, 2) := by decide +kernel
theorem nd_M_goOn_73 : decode prog_11_method_52_code 73 = .ok (.iload 6, 2) := by decide +kernel
theorem nd_M_goOn_75 : decode prog_11_method_52_code 75 = .ok (.ifCond .ne 15, 3) := by decide +kernel
theorem nd_M_goOn_78 : decode prog_11_method_52_code 78 = .ok (.aload_n 0, 1) := by decide +kernel
theorem nd_M_goOn_79 : decode prog_11_method_52_code 79 = .ok (.aload_n 0, 1) := by decide +kernel
theorem nd_M_goOn_80 : decode prog_11_method_52_code 80 = .ok (.iload_n 2, 1) := by decide +kernel
theorem nd_M_goOn_81 : decode prog_11_method_52_code 81 = .ok (.invokevirtual 222, 3) := by decide +kernel
theorem nd_M_goOn_84 : decode prog_11_method_52_code 84 = .ok (.invokevirtual 234, 3) := by decide +kernel
theorem nd_M_goOn_87 : decode prog_11_method_52_code 87 = .ok (.ifCond .ne 7, 3) := by decide +kernel
theorem nd_M_goOn_90 : decode prog_11_method_52_code 90 = .ok (.iload_n 1, 1) := by decide +kernel
theorem nd_M_goOn_91 : decode prog_11_method_52_code 91 = .ok (.ifCond .eq 7, 3) := by decide +kernel
theorem nd_M_goOn_94 : decode prog_11_method_52_code 94 = .ok (.iconst 1, 1) := by decide +kernel
theorem nd_M_goOn_95 : decode prog_11_method_52_code 95 = .ok (.goto 4, 3) := by decide +kernel
theorem nd_M_goOn_98 : decode prog_11_method_52_code 98 = .ok (.iconst 0, 1) := by decide +kernel
theorem nd_M_goOn_99 : decode prog_11_method_52_code 99 = .ok (.istore_n 1, 1) := by decide +kernel
theorem nd_M_goOn_100 : decode prog_11_method_52_code 100 = .ok (.iload 4, 2) := by decide +kernel
theorem nd_M_goOn_102 : decode prog_11_method_52_code 102 = .ok (.iconst 1, 1) := by decide +kernel
theorem nd_M_goOn_103 : decode prog_11_method_52_code 103 = .ok (.iadd, 1) := by decide +kernel
theorem nd_M_goOn_104 : decode prog_11_method_52_code 104 = .ok (.iconst 4, 1) := by decide +kernel
theorem nd_M_goOn_105 : decode prog_11_method_52_code 105 = .ok (.irem, 1) := by decide +kernel
theorem nd_M_goOn_106 : decode prog_11_method_52_code 106 = .ok (.istore 7, 2) := by decide +kernel
theorem nd_M_goOn_108 : decode prog_11_method_52_code 108 = .ok (.iload 4, 2) := by decide +kernel
theorem nd_M_goOn_110 : decode prog_11_method_52_code 110 = .ok (.iconst 3, 1) := by decide +kernel
theorem nd_M_goOn_111 : decode prog_11_method_52_code 111 = .ok (.iadd, 1) := by decide +kernel
theorem nd_M_goOn_112 : decode prog_11_method_52_code 112 = .ok (.iconst 4, 1) := by decide +kernel
theorem nd_M_goOn_113 : decode prog_11_method_52_code 113 = .ok (.irem, 1) := by decide +kernel
theorem nd_M_goOn_114 : decode prog_11_method_52_code 114 = .ok (.istore 8, 2) := by decide +kernel
theorem nd_M_goOn_116 : decode prog_11_method_52_code 116 = .ok (.iload 5, 2) := by decide +kernel
theorem nd_M_goOn_118 : decode prog_11_method_52_code 118 = .ok (.bipush 63, 2) := by decide +kernel
theorem nd_M_goOn_120 : decode prog_11_method_52_code 120 = .ok (.if_icmp .ne 34, 3) := by decide +kernel
theorem nd_M_goOn_123 : decode prog_11_method_52_code 123 = .ok (.aload_n 0, 1) := by decide +kernel
theorem nd_M_goOn_124 : decode prog_11_method_52_code 124 = .ok (.bipush 8, 2) := by decide +kernel
theorem nd_M_goOn_126 : decode prog_11_method_52_code 126 = .ok (.iload_n 3, 1) := by decide +kernel
theorem nd_M_goOn_127 : decode prog_11_method_52_code 127 = .ok (.iload 7, 2) := by decide +kernel
theorem nd_M_goOn_129 : decode prog_11_method_52_code 129 = .ok (.invokestatic 133, 3) := by decide +kernel
