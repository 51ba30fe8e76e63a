theorem dX5_nextWaiting_12 : decode cX5_nextWaiting 12 = .ok (.if_icmp .ge 32, 3) := by decide +kernel
theorem dX5_nextWaiting_15 : decode cX5_nextWaiting 15 = .ok (.aload_n 1, 1) := by decide +kernel
theorem dX5_nextWaiting_16 : decode cX5_nextWaiting 16 = .ok (.getfield 134, 3) := by decide +kernel
theorem dX5_nextWaiting_19 : decode cX5_nextWaiting 19 = .ok (.iload_n 3, 1) := by decide +kernel
theorem dX5_nextWaiting_20 : decode cX5_nextWaiting 20 = .ok (.iaload, 1) := by decide +kernel
theorem dX5_nextWaiting_21 : decode cX5_nextWaiting 21 = .ok (.aload_n 0, 1) := by decide +kernel
theorem dX5_nextWaiting_22 : decode cX5_nextWaiting 22 = .ok (.getfield 65, 3) := by decide +kernel
theorem dX5_nextWaiting_25 : decode cX5_nextWaiting 25 = .ok (.if_icmp .gt 19, 3) := by decide +kernel
theorem dX5_nextWaiting_28 : decode cX5_nextWaiting 28 = .ok (.aload_n 1, 1) := by decide +kernel
theorem dX5_nextWaiting_29 : decode cX5_nextWaiting 29 = .ok (.getfield 100, 3) := by decide +kernel
theorem dX5_nextWaiting_32 : decode cX5_nextWaiting 32 = .ok (.iload_n 3, 1) := by decide +kernel
theorem dX5_nextWaiting_33 : decode cX5_nextWaiting 33 = .ok (.iaload, 1) := by decide +kernel
theorem dX5_nextWaiting_34 : decode cX5_nextWaiting 34 = .ok (.iload_n 2, 1) := by decide +kernel
theorem dX5_nextWaiting_35 : decode cX5_nextWaiting 35 = .ok (.if_icmp .eq 9, 3) := by decide +kernel
theorem dX5_nextWaiting_38 : decode cX5_nextWaiting 38 = .ok (.iinc 3 1, 3) := by decide +kernel
theorem dX5_nextWaiting_41 : decode cX5_nextWaiting 41 = .ok (.goto (-34), 3) := by decide +kernel
theorem dX5_nextWaiting_44 : decode cX5_nextWaiting 44 = .ok (.aload_n 0, 1) := by decide +kernel
theorem dX5_nextWaiting_45 : decode cX5_nextWaiting 45 = .ok (.getfield 39, 3) := by decide +kernel
theorem dX5_nextWaiting_48 : decode cX5_nextWaiting 48 = .ok (.iload_n 2, 1) := by decide +kernel
theorem dX5_nextWaiting_49 : decode cX5_nextWaiting 49 = .ok (.iload_n 3, 1) := by decide +kernel
theorem dX5_nextWaiting_50 : decode cX5_nextWaiting 50 = .ok (.iastore, 1) := by decide +kernel
theorem dX5_nextWaiting_51 : decode cX5_nextWaiting 51 = .ok (.iload_n 3, 1) := by decide +kernel
theorem dX5_nextWaiting_52 : decode cX5_nextWaiting 52 = .ok (.aload_n 1, 1) := by decide +kernel
theorem dX5_nextWaiting_53 : decode cX5_nextWaiting 53 = .ok (.getfield 86, 3) := by decide +kernel
theorem dX5_nextWaiting_56 : decode cX5_nextWaiting 56 = .ok (.if_icmp .ge 20, 3) := by decide +kernel
theorem dX5_nextWaiting_59 : decode cX5_nextWaiting 59 = .ok (.aload_n 1, 1) := by decide +kernel
theorem dX5_nextWaiting_60 : decode cX5_nextWaiting 60 = .ok (.getfield 134, 3) := by decide +kernel
theorem dX5_nextWaiting_63 : decode cX5_nextWaiting 63 = .ok (.iload_n 3, 1) := by decide +kernel
theorem dX5_nextWaiting_64 : decode cX5_nextWaiting 64 = .ok (.iaload, 1) := by decide +kernel
theorem dX5_nextWaiting_65 : decode cX5_nextWaiting 65 = .ok (.aload_n 0, 1) := by decide +kernel
theorem dX5_nextWaiting_66 : decode cX5_nextWaiting 66 = .ok (.getfield 65, 3) := by decide +kernel
theorem dX5_nextWaiting_69 : decode cX5_nextWaiting 69 = .ok (.if_icmp .gt 7, 3) := by decide +kernel
theorem dX5_nextWaiting_72 : decode cX5_nextWaiting 72 = .ok (.iload_n 3, 1) := by decide +kernel
theorem dX5_nextWaiting_73 : decode cX5_nextWaiting 73 = .ok (.goto 4, 3) := by decide +kernel
theorem dX5_nextWaiting_76 : decode cX5_nextWaiting 76 = .ok (.iconst (-1), 1) := by decide +kernel
theorem dX5_nextWaiting_77 : decode cX5_nextWaiting 77 = .ok (.ireturn, 1) := by decide +kernel
theorem dX5_offerDue_0 : decode cX5_offerDue 0 = .ok (.aload_n 0, 1) := by decide +kernel
theorem dX5_offerDue_1 : decode cX5_offerDue 1 = .ok (.getfield 94, 3) := by decide +kernel
theorem dX5_offerDue_4 : decode cX5_offerDue 4 = .ok (.aload_n 1, 1) := by decide +kernel
theorem dX5_offerDue_5 : decode cX5_offerDue 5 = .ok (.getfield 86, 3) := by decide +kernel
theorem dX5_offerDue_8 : decode cX5_offerDue 8 = .ok (.if_icmp .ge 56, 3) := by decide +kernel
theorem dX5_offerDue_11 : decode cX5_offerDue 11 = .ok (.aload_n 1, 1) := by decide +kernel
theorem dX5_offerDue_12 : decode cX5_offerDue 12 = .ok (.getfield 134, 3) := by decide +kernel
theorem dX5_offerDue_15 : decode cX5_offerDue 15 = .ok (.aload_n 0, 1) := by decide +kernel
theorem dX5_offerDue_16 : decode cX5_offerDue 16 = .ok (.getfield 94, 3) := by decide +kernel
theorem dX5_offerDue_19 : decode cX5_offerDue 19 = .ok (.iaload, 1) := by decide +kernel
theorem dX5_offerDue_20 : decode cX5_offerDue 20 = .ok (.aload_n 0, 1) := by decide +kernel
theorem dX5_offerDue_21 : decode cX5_offerDue 21 = .ok (.getfield 65, 3) := by decide +kernel
theorem dX5_offerDue_24 : decode cX5_offerDue 24 = .ok (.if_icmp .gt 40, 3) := by decide +kernel
theorem dX5_offerDue_27 : decode cX5_offerDue 27 = .ok (.aload_n 0, 1) := by decide +kernel
theorem dX5_offerDue_28 : decode cX5_offerDue 28 = .ok (.aload_n 1, 1) := by decide +kernel
theorem dX5_offerDue_29 : decode cX5_offerDue 29 = .ok (.getfield 100, 3) := by decide +kernel
theorem dX5_offerDue_32 : decode cX5_offerDue 32 = .ok (.aload_n 0, 1) := by decide +kernel
theorem dX5_offerDue_33 : decode cX5_offerDue 33 = .ok (.getfield 94, 3) := by decide +kernel
theorem dX5_offerDue_36 : decode cX5_offerDue 36 = .ok (.iaload, 1) := by decide +kernel
theorem dX5_offerDue_37 : decode cX5_offerDue 37 = .ok (.invokevirtual 110, 3) := by decide +kernel
theorem dX5_offerDue_40 : decode cX5_offerDue 40 = .ok (.ifCond .ne 11, 3) := by decide +kernel
theorem dX5_offerDue_43 : decode cX5_offerDue 43 = .ok (.aload_n 0, 1) := by decide +kernel
theorem dX5_offerDue_44 : decode cX5_offerDue 44 = .ok (.aload_n 0, 1) := by decide +kernel
theorem dX5_offerDue_45 : decode cX5_offerDue 45 = .ok (.getfield 94, 3) := by decide +kernel
theorem dX5_offerDue_48 : decode cX5_offerDue 48 = .ok (.invokevirtual 121, 3) := by decide +kernel
theorem dX5_offerDue_51 : decode cX5_offerDue 51 = .ok (.aload_n 0, 1) := by decide +kernel
theorem dX5_offerDue_52 : decode cX5_offerDue 52 = .ok (.dup, 1) := by decide +kernel
theorem dX5_offerDue_53 : decode cX5_offerDue 53 = .ok (.getfield 94, 3) := by decide +kernel
theorem dX5_offerDue_56 : decode cX5_offerDue 56 = .ok (.iconst 1, 1) := by decide +kernel
theorem dX5_offerDue_57 : decode cX5_offerDue 57 = .ok (.iadd, 1) := by decide +kernel
theorem dX5_offerDue_58 : decode cX5_offerDue 58 = .ok (.putfield 94, 3) := by decide +kernel
theorem dX5_offerDue_61 : decode cX5_offerDue 61 = .ok (.goto (-61), 3) := by decide +kernel
theorem dX5_offerDue_64 : decode cX5_offerDue 64 = .ok (.return_, 1) := by decide +kernel
theorem dX5_offer_0 : decode cX5_offer 0 = .ok (.aload_n 0, 1) := by decide +kernel
theorem dX5_offer_1 : decode cX5_offer 1 = .ok (.dup, 1) := by decide +kernel
theorem dX5_offer_2 : decode cX5_offer 2 = .ok (.getfield 59, 3) := by decide +kernel
theorem dX5_offer_5 : decode cX5_offer 5 = .ok (.iconst 1, 1) := by decide +kernel
theorem dX5_offer_6 : decode cX5_offer 6 = .ok (.isub, 1) := by decide +kernel
theorem dX5_offer_7 : decode cX5_offer 7 = .ok (.putfield 59, 3) := by decide +kernel
theorem dX5_offer_10 : decode cX5_offer 10 = .ok (.aload_n 0, 1) := by decide +kernel
theorem dX5_offer_11 : decode cX5_offer 11 = .ok (.iload_n 1, 1) := by decide +kernel
theorem dX5_offer_12 : decode cX5_offer 12 = .ok (.invokevirtual 137, 3) := by decide +kernel
theorem dX5_offer_15 : decode cX5_offer 15 = .ok (.ifCond .eq 11, 3) := by decide +kernel
theorem dX5_offer_18 : decode cX5_offer 18 = .ok (.aload_n 0, 1) := by decide +kernel
theorem dX5_offer_19 : decode cX5_offer 19 = .ok (.iload_n 1, 1) := by decide +kernel
theorem dX5_offer_20 : decode cX5_offer 20 = .ok (.invokevirtual 140, 3) := by decide +kernel
theorem dX5_offer_23 : decode cX5_offer 23 = .ok (.goto 13, 3) := by decide +kernel
theorem dX5_offer_26 : decode cX5_offer 26 = .ok (.aload_n 0, 1) := by decide +kernel
theorem dX5_offer_27 : decode cX5_offer 27 = .ok (.iload_n 1, 1) := by decide +kernel
theorem dX5_offer_28 : decode cX5_offer 28 = .ok (.iconst 1, 1) := by decide +kernel
theorem dX5_offer_29 : decode cX5_offer 29 = .ok (.aload_n 0, 1) := by decide +kernel
theorem dX5_offer_30 : decode cX5_offer 30 = .ok (.getfield 65, 3) := by decide +kernel
theorem dX5_offer_33 : decode cX5_offer 33 = .ok (.invokevirtual 101, 3) := by decide +kernel
theorem dX5_offer_36 : decode cX5_offer 36 = .ok (.return_, 1) := by decide +kernel
theorem dX5_admits_0 : decode cX5_admits 0 = .ok (.aload_n 0, 1) := by decide +kernel
theorem dX5_admits_1 : decode cX5_admits 1 = .ok (.getfield 17, 3) := by decide +kernel
theorem dX5_admits_4 : decode cX5_admits 4 = .ok (.iload_n 1, 1) := by decide +kernel
theorem dX5_admits_5 : decode cX5_admits 5 = .ok (.iaload, 1) := by decide +kernel
theorem dX5_admits_6 : decode cX5_admits 6 = .ok (.istore_n 2, 1) := by decide +kernel
theorem dX5_admits_7 : decode cX5_admits 7 = .ok (.aload_n 0, 1) := by decide +kernel
theorem dX5_admits_8 : decode cX5_admits 8 = .ok (.getfield 11, 3) := by decide +kernel
theorem dX5_admits_11 : decode cX5_admits 11 = .ok (.iload_n 2, 1) := by decide +kernel
theorem dX5_admits_12 : decode cX5_admits 12 = .ok (.aaload, 1) := by decide +kernel
theorem dX5_admits_13 : decode cX5_admits 13 = .ok (.getfield 143, 3) := by decide +kernel
theorem dX5_admits_16 : decode cX5_admits 16 = .ok (.istore_n 3, 1) := by decide +kernel
theorem dX5_admits_17 : decode cX5_admits 17 = .ok (.aload_n 0, 1) := by decide +kernel
theorem dX5_admits_18 : decode cX5_admits 18 = .ok (.getfield 42, 3) := by decide +kernel
theorem dX5_admits_21 : decode cX5_admits 21 = .ok (.getfield 144, 3) := by decide +kernel
theorem dX5_admits_24 : decode cX5_admits 24 = .ok (.aload_n 0, 1) := by decide +kernel
theorem dX5_admits_25 : decode cX5_admits 25 = .ok (.getfield 62, 3) := by decide +kernel
theorem dX5_admits_28 : decode cX5_admits 28 = .ok (.isub, 1) := by decide +kernel
theorem dX5_admits_29 : decode cX5_admits 29 = .ok (.istore 4, 2) := by decide +kernel
theorem dX5_admits_31 : decode cX5_admits 31 = .ok (.aload_n 0, 1) := by decide +kernel
theorem dX5_admits_32 : decode cX5_admits 32 = .ok (.getfield 51, 3) := by decide +kernel
theorem dX5_admits_35 : decode cX5_admits 35 = .ok (.tableswitch 100 0 2 #[25, 52, 80], 25) := by decide +kernel
theorem dX5_admits_60 : decode cX5_admits 60 = .ok (.iload_n 3, 1) := by decide +kernel
theorem dX5_admits_61 : decode cX5_admits 61 = .ok (.aload_n 0, 1) := by decide +kernel
theorem dX5_admits_62 : decode cX5_admits 62 = .ok (.getfield 42, 3) := by decide +kernel
theorem dX5_admits_65 : decode cX5_admits 65 = .ok (.getfield 125, 3) := by decide +kernel
theorem dX5_admits_68 : decode cX5_admits 68 = .ok (.iload_n 2, 1) := by decide +kernel
theorem dX5_admits_69 : decode cX5_admits 69 = .ok (.aaload, 1) := by decide +kernel
theorem dX5_admits_70 : decode cX5_admits 70 = .ok (.getfield 147, 3) := by decide +kernel
theorem dX5_admits_73 : decode cX5_admits 73 = .ok (.if_icmp .ge 12, 3) := by decide +kernel
theorem dX5_admits_76 : decode cX5_admits 76 = .ok (.iload 4, 2) := by decide +kernel
theorem dX5_admits_78 : decode cX5_admits 78 = .ok (.ifCond .le 7, 3) := by decide +kernel
theorem dX5_admits_81 : decode cX5_admits 81 = .ok (.iconst 1, 1) := by decide +kernel
theorem dX5_admits_82 : decode cX5_admits 82 = .ok (.goto 4, 3) := by decide +kernel
theorem dX5_admits_85 : decode cX5_admits 85 = .ok (.iconst 0, 1) := by decide +kernel
theorem dX5_admits_86 : decode cX5_admits 86 = .ok (.ireturn, 1) := by decide +kernel
theorem dX5_admits_87 : decode cX5_admits 87 = .ok (.bipush 16, 2) := by decide +kernel
theorem dX5_admits_89 : decode cX5_admits 89 = .ok (.iload_n 3, 1) := by decide +kernel
theorem dX5_admits_90 : decode cX5_admits 90 = .ok (.imul, 1) := by decide +kernel
theorem dX5_admits_91 : decode cX5_admits 91 = .ok (.aload_n 0, 1) := by decide +kernel
theorem dX5_admits_92 : decode cX5_admits 92 = .ok (.getfield 42, 3) := by decide +kernel
theorem dX5_admits_95 : decode cX5_admits 95 = .ok (.getfield 152, 3) := by decide +kernel
theorem dX5_admits_98 : decode cX5_admits 98 = .ok (.iload 4, 2) := by decide +kernel
theorem dX5_admits_100 : decode cX5_admits 100 = .ok (.imul, 1) := by decide +kernel
theorem dX5_admits_101 : decode cX5_admits 101 = .ok (.if_icmp .ge 12, 3) := by decide +kernel
theorem dX5_admits_104 : decode cX5_admits 104 = .ok (.iload 4, 2) := by decide +kernel
theorem dX5_admits_106 : decode cX5_admits 106 = .ok (.ifCond .le 7, 3) := by decide +kernel
theorem dX5_admits_109 : decode cX5_admits 109 = .ok (.iconst 1, 1) := by decide +kernel
theorem dX5_admits_110 : decode cX5_admits 110 = .ok (.goto 4, 3) := by decide +kernel
theorem dX5_admits_113 : decode cX5_admits 113 = .ok (.iconst 0, 1) := by decide +kernel
theorem dX5_admits_114 : decode cX5_admits 114 = .ok (.ireturn, 1) := by decide +kernel
theorem dX5_admits_115 : decode cX5_admits 115 = .ok (.iload 4, 2) := by decide +kernel
theorem dX5_admits_117 : decode cX5_admits 117 = .ok (.ifCond .gt 12, 3) := by decide +kernel
theorem dX5_admits_120 : decode cX5_admits 120 = .ok (.aload_n 0, 1) := by decide +kernel
theorem dX5_admits_121 : decode cX5_admits 121 = .ok (.iload_n 1, 1) := by decide +kernel
theorem dX5_admits_122 : decode cX5_admits 122 = .ok (.iload_n 3, 1) := by decide +kernel
theorem dX5_admits_123 : decode cX5_admits 123 = .ok (.invokevirtual 155, 3) := by decide +kernel
theorem dX5_admits_126 : decode cX5_admits 126 = .ok (.ifCond .eq 7, 3) := by decide +kernel
theorem dX5_admits_129 : decode cX5_admits 129 = .ok (.iconst 1, 1) := by decide +kernel
theorem dX5_admits_130 : decode cX5_admits 130 = .ok (.goto 4, 3) := by decide +kernel
theorem dX5_admits_133 : decode cX5_admits 133 = .ok (.iconst 0, 1) := by decide +kernel
theorem dX5_admits_134 : decode cX5_admits 134 = .ok (.ireturn, 1) := by decide +kernel
theorem dX5_admits_135 : decode cX5_admits 135 = .ok (.iload_n 3, 1) := by decide +kernel
theorem dX5_admits_136 : decode cX5_admits 136 = .ok (.aload_n 0, 1) := by decide +kernel
theorem dX5_admits_137 : decode cX5_admits 137 = .ok (.getfield 42, 3) := by decide +kernel
theorem dX5_admits_140 : decode cX5_admits 140 = .ok (.getfield 125, 3) := by decide +kernel
theorem dX5_admits_143 : decode cX5_admits 143 = .ok (.iload_n 2, 1) := by decide +kernel
theorem dX5_admits_144 : decode cX5_admits 144 = .ok (.aaload, 1) := by decide +kernel
theorem dX5_admits_145 : decode cX5_admits 145 = .ok (.invokevirtual 159, 3) := by decide +kernel
theorem dX5_admits_148 : decode cX5_admits 148 = .ok (.if_icmp .lt 10, 3) := by decide +kernel
theorem dX5_admits_151 : decode cX5_admits 151 = .ok (.aload_n 0, 1) := by decide +kernel
theorem dX5_admits_152 : decode cX5_admits 152 = .ok (.invokevirtual 163, 3) := by decide +kernel
theorem dX5_admits_155 : decode cX5_admits 155 = .ok (.ifCond .eq 7, 3) := by decide +kernel
theorem dX5_admits_158 : decode cX5_admits 158 = .ok (.iconst 1, 1) := by decide +kernel
theorem dX5_admits_159 : decode cX5_admits 159 = .ok (.goto 4, 3) := by decide +kernel
theorem dX5_admits_162 : decode cX5_admits 162 = .ok (.iconst 0, 1) := by decide +kernel
theorem dX5_admits_163 : decode cX5_admits 163 = .ok (.ireturn, 1) := by decide +kernel
theorem dX5_pushesOut_0 : decode cX5_pushesOut 0 = .ok (.iconst 0, 1) := by decide +kernel
theorem dX5_pushesOut_1 : decode cX5_pushesOut 1 = .ok (.istore_n 3, 1) := by decide +kernel
theorem dX5_pushesOut_2 : decode cX5_pushesOut 2 = .ok (.iconst 1, 1) := by decide +kernel
theorem dX5_pushesOut_3 : decode cX5_pushesOut 3 = .ok (.istore 4, 2) := by decide +kernel
theorem dX5_pushesOut_5 : decode cX5_pushesOut 5 = .ok (.iload 4, 2) := by decide +kernel
theorem dX5_pushesOut_7 : decode cX5_pushesOut 7 = .ok (.aload_n 0, 1) := by decide +kernel
theorem dX5_pushesOut_8 : decode cX5_pushesOut 8 = .ok (.getfield 42, 3) := by decide +kernel
theorem dX5_pushesOut_11 : decode cX5_pushesOut 11 = .ok (.getfield 105, 3) := by decide +kernel
theorem dX5_pushesOut_14 : decode cX5_pushesOut 14 = .ok (.if_icmp .ge 34, 3) := by decide +kernel
theorem dX5_pushesOut_17 : decode cX5_pushesOut 17 = .ok (.aload_n 0, 1) := by decide +kernel
theorem dX5_pushesOut_18 : decode cX5_pushesOut 18 = .ok (.getfield 11, 3) := by decide +kernel
theorem dX5_pushesOut_21 : decode cX5_pushesOut 21 = .ok (.iload 4, 2) := by decide +kernel
theorem dX5_pushesOut_23 : decode cX5_pushesOut 23 = .ok (.aaload, 1) := by decide +kernel
theorem dX5_pushesOut_24 : decode cX5_pushesOut 24 = .ok (.getfield 143, 3) := by decide +kernel
theorem dX5_pushesOut_27 : decode cX5_pushesOut 27 = .ok (.aload_n 0, 1) := by decide +kernel
theorem dX5_pushesOut_28 : decode cX5_pushesOut 28 = .ok (.getfield 11, 3) := by decide +kernel
theorem dX5_pushesOut_31 : decode cX5_pushesOut 31 = .ok (.iload_n 3, 1) := by decide +kernel
theorem dX5_pushesOut_32 : decode cX5_pushesOut 32 = .ok (.aaload, 1) := by decide +kernel
theorem dX5_pushesOut_33 : decode cX5_pushesOut 33 = .ok (.getfield 143, 3) := by decide +kernel
theorem dX5_pushesOut_36 : decode cX5_pushesOut 36 = .ok (.if_icmp .lt 6, 3) := by decide +kernel
theorem dX5_pushesOut_39 : decode cX5_pushesOut 39 = .ok (.iload 4, 2) := by decide +kernel
theorem dX5_pushesOut_41 : decode cX5_pushesOut 41 = .ok (.istore_n 3, 1) := by decide +kernel
theorem dX5_pushesOut_42 : decode cX5_pushesOut 42 = .ok (.iinc 4 1, 3) := by decide +kernel
theorem dX5_pushesOut_45 : decode cX5_pushesOut 45 = .ok (.goto (-40), 3) := by decide +kernel
theorem dX5_pushesOut_48 : decode cX5_pushesOut 48 = .ok (.aload_n 0, 1) := by decide +kernel
theorem dX5_pushesOut_49 : decode cX5_pushesOut 49 = .ok (.getfield 11, 3) := by decide +kernel
theorem dX5_pushesOut_52 : decode cX5_pushesOut 52 = .ok (.iload_n 3, 1) := by decide +kernel
theorem dX5_pushesOut_53 : decode cX5_pushesOut 53 = .ok (.aaload, 1) := by decide +kernel
theorem dX5_pushesOut_54 : decode cX5_pushesOut 54 = .ok (.getfield 143, 3) := by decide +kernel
theorem dX5_pushesOut_57 : decode cX5_pushesOut 57 = .ok (.iload_n 2, 1) := by decide +kernel
theorem dX5_pushesOut_58 : decode cX5_pushesOut 58 = .ok (.iconst 1, 1) := by decide +kernel
theorem dX5_pushesOut_59 : decode cX5_pushesOut 59 = .ok (.iadd, 1) := by decide +kernel
theorem dX5_pushesOut_60 : decode cX5_pushesOut 60 = .ok (.if_icmp .gt 5, 3) := by decide +kernel
theorem dX5_pushesOut_63 : decode cX5_pushesOut 63 = .ok (.iconst 0, 1) := by decide +kernel
theorem dX5_pushesOut_64 : decode cX5_pushesOut 64 = .ok (.ireturn, 1) := by decide +kernel
theorem dX5_pushesOut_65 : decode cX5_pushesOut 65 = .ok (.aload_n 0, 1) := by decide +kernel
theorem dX5_pushesOut_66 : decode cX5_pushesOut 66 = .ok (.getfield 11, 3) := by decide +kernel
theorem dX5_pushesOut_69 : decode cX5_pushesOut 69 = .ok (.iload_n 3, 1) := by decide +kernel
theorem dX5_pushesOut_70 : decode cX5_pushesOut 70 = .ok (.aaload, 1) := by decide +kernel
theorem dX5_pushesOut_71 : decode cX5_pushesOut 71 = .ok (.invokevirtual 167, 3) := by decide +kernel
theorem dX5_pushesOut_74 : decode cX5_pushesOut 74 = .ok (.istore 4, 2) := by decide +kernel
theorem dX5_pushesOut_76 : decode cX5_pushesOut 76 = .ok (.aload_n 0, 1) := by decide +kernel
theorem dX5_pushesOut_77 : decode cX5_pushesOut 77 = .ok (.dup, 1) := by decide +kernel
theorem dX5_pushesOut_78 : decode cX5_pushesOut 78 = .ok (.getfield 62, 3) := by decide +kernel
theorem dX5_pushesOut_81 : decode cX5_pushesOut 81 = .ok (.iconst 1, 1) := by decide +kernel
theorem dX5_pushesOut_82 : decode cX5_pushesOut 82 = .ok (.isub, 1) := by decide +kernel
theorem dX5_pushesOut_83 : decode cX5_pushesOut 83 = .ok (.putfield 62, 3) := by decide +kernel
theorem dX5_pushesOut_86 : decode cX5_pushesOut 86 = .ok (.aload_n 0, 1) := by decide +kernel
theorem dX5_pushesOut_87 : decode cX5_pushesOut 87 = .ok (.iload 4, 2) := by decide +kernel
theorem dX5_pushesOut_89 : decode cX5_pushesOut 89 = .ok (.iconst 2, 1) := by decide +kernel
theorem dX5_pushesOut_90 : decode cX5_pushesOut 90 = .ok (.aload_n 0, 1) := by decide +kernel
theorem dX5_pushesOut_91 : decode cX5_pushesOut 91 = .ok (.getfield 65, 3) := by decide +kernel
theorem dX5_pushesOut_94 : decode cX5_pushesOut 94 = .ok (.invokevirtual 101, 3) := by decide +kernel
theorem dX5_pushesOut_97 : decode cX5_pushesOut 97 = .ok (.aload_n 0, 1) := by decide +kernel
theorem dX5_pushesOut_98 : decode cX5_pushesOut 98 = .ok (.getfield 30, 3) := by decide +kernel
theorem dX5_pushesOut_101 : decode cX5_pushesOut 101 = .ok (.iload 4, 2) := by decide +kernel
theorem dX5_pushesOut_103 : decode cX5_pushesOut 103 = .ok (.iload_n 1, 1) := by decide +kernel
theorem dX5_pushesOut_104 : decode cX5_pushesOut 104 = .ok (.iastore, 1) := by decide +kernel
theorem dX5_pushesOut_105 : decode cX5_pushesOut 105 = .ok (.iconst 1, 1) := by decide +kernel
theorem dX5_pushesOut_106 : decode cX5_pushesOut 106 = .ok (.ireturn, 1) := by decide +kernel
theorem dX5_hasRoomBeside_0 : decode cX5_hasRoomBeside 0 = .ok (.iconst 0, 1) := by decide +kernel
theorem dX5_hasRoomBeside_1 : decode cX5_hasRoomBeside 1 = .ok (.istore_n 1, 1) := by decide +kernel
theorem dX5_hasRoomBeside_2 : decode cX5_hasRoomBeside 2 = .ok (.iconst 0, 1) := by decide +kernel
theorem dX5_hasRoomBeside_3 : decode cX5_hasRoomBeside 3 = .ok (.istore_n 2, 1) := by decide +kernel
theorem dX5_hasRoomBeside_4 : decode cX5_hasRoomBeside 4 = .ok (.iload_n 2, 1) := by decide +kernel
theorem dX5_hasRoomBeside_5 : decode cX5_hasRoomBeside 5 = .ok (.aload_n 0, 1) := by decide +kernel
theorem dX5_hasRoomBeside_6 : decode cX5_hasRoomBeside 6 = .ok (.getfield 42, 3) := by decide +kernel
theorem dX5_hasRoomBeside_9 : decode cX5_hasRoomBeside 9 = .ok (.getfield 105, 3) := by decide +kernel
theorem dX5_hasRoomBeside_12 : decode cX5_hasRoomBeside 12 = .ok (.if_icmp .ge 36, 3) := by decide +kernel
theorem dX5_hasRoomBeside_15 : decode cX5_hasRoomBeside 15 = .ok (.iload_n 1, 1) := by decide +kernel
theorem dX5_hasRoomBeside_16 : decode cX5_hasRoomBeside 16 = .ok (.aload_n 0, 1) := by decide +kernel
theorem dX5_hasRoomBeside_17 : decode cX5_hasRoomBeside 17 = .ok (.getfield 11, 3) := by decide +kernel
theorem dX5_hasRoomBeside_20 : decode cX5_hasRoomBeside 20 = .ok (.iload_n 2, 1) := by decide +kernel
theorem dX5_hasRoomBeside_21 : decode cX5_hasRoomBeside 21 = .ok (.aaload, 1) := by decide +kernel
theorem dX5_hasRoomBeside_22 : decode cX5_hasRoomBeside 22 = .ok (.getfield 143, 3) := by decide +kernel
theorem dX5_hasRoomBeside_25 : decode cX5_hasRoomBeside 25 = .ok (.aload_n 0, 1) := by decide +kernel
theorem dX5_hasRoomBeside_26 : decode cX5_hasRoomBeside 26 = .ok (.getfield 42, 3) := by decide +kernel
theorem dX5_hasRoomBeside_29 : decode cX5_hasRoomBeside 29 = .ok (.getfield 125, 3) := by decide +kernel
theorem dX5_hasRoomBeside_32 : decode cX5_hasRoomBeside 32 = .ok (.iload_n 2, 1) := by decide +kernel
theorem dX5_hasRoomBeside_33 : decode cX5_hasRoomBeside 33 = .ok (.aaload, 1) := by decide +kernel
theorem dX5_hasRoomBeside_34 : decode cX5_hasRoomBeside 34 = .ok (.invokevirtual 159, 3) := by decide +kernel
theorem dX5_hasRoomBeside_37 : decode cX5_hasRoomBeside 37 = .ok (.invokestatic 170, 3) := by decide +kernel
theorem dX5_hasRoomBeside_40 : decode cX5_hasRoomBeside 40 = .ok (.iadd, 1) := by decide +kernel
theorem dX5_hasRoomBeside_41 : decode cX5_hasRoomBeside 41 = .ok (.istore_n 1, 1) := by decide +kernel
theorem dX5_hasRoomBeside_42 : decode cX5_hasRoomBeside 42 = .ok (.iinc 2 1, 3) := by decide +kernel
theorem dX5_hasRoomBeside_45 : decode cX5_hasRoomBeside 45 = .ok (.goto (-41), 3) := by decide +kernel
theorem dX5_hasRoomBeside_48 : decode cX5_hasRoomBeside 48 = .ok (.iload_n 1, 1) := by decide +kernel
theorem dX5_hasRoomBeside_49 : decode cX5_hasRoomBeside 49 = .ok (.aload_n 0, 1) := by decide +kernel
theorem dX5_hasRoomBeside_50 : decode cX5_hasRoomBeside 50 = .ok (.getfield 42, 3) := by decide +kernel
theorem dX5_hasRoomBeside_53 : decode cX5_hasRoomBeside 53 = .ok (.getfield 144, 3) := by decide +kernel
theorem dX5_hasRoomBeside_56 : decode cX5_hasRoomBeside 56 = .ok (.if_icmp .ge 7, 3) := by decide +kernel
theorem dX5_hasRoomBeside_59 : decode cX5_hasRoomBeside 59 = .ok (.iconst 1, 1) := by decide +kernel
theorem dX5_hasRoomBeside_60 : decode cX5_hasRoomBeside 60 = .ok (.goto 4, 3) := by decide +kernel
theorem dX5_hasRoomBeside_63 : decode cX5_hasRoomBeside 63 = .ok (.iconst 0, 1) := by decide +kernel
theorem dX5_hasRoomBeside_64 : decode cX5_hasRoomBeside 64 = .ok (.ireturn, 1) := by decide +kernel
theorem dX5_take_0 : decode cX5_take 0 = .ok (.aload_n 0, 1) := by decide +kernel
theorem dX5_take_1 : decode cX5_take 1 = .ok (.getfield 17, 3) := by decide +kernel
theorem dX5_take_4 : decode cX5_take 4 = .ok (.iload_n 1, 1) := by decide +kernel
theorem dX5_take_5 : decode cX5_take 5 = .ok (.iaload, 1) := by decide +kernel
theorem dX5_take_6 : decode cX5_take 6 = .ok (.istore_n 2, 1) := by decide +kernel
theorem dX5_take_7 : decode cX5_take 7 = .ok (.aload_n 0, 1) := by decide +kernel
theorem dX5_take_8 : decode cX5_take 8 = .ok (.getfield 11, 3) := by decide +kernel
theorem dX5_take_11 : decode cX5_take 11 = .ok (.iload_n 2, 1) := by decide +kernel
theorem dX5_take_12 : decode cX5_take 12 = .ok (.aaload, 1) := by decide +kernel
theorem dX5_take_13 : decode cX5_take 13 = .ok (.iload_n 1, 1) := by decide +kernel
theorem dX5_take_14 : decode cX5_take 14 = .ok (.invokevirtual 176, 3) := by decide +kernel
theorem dX5_take_17 : decode cX5_take 17 = .ok (.aload_n 0, 1) := by decide +kernel
theorem dX5_take_18 : decode cX5_take 18 = .ok (.getfield 21, 3) := by decide +kernel
theorem dX5_take_21 : decode cX5_take 21 = .ok (.iload_n 1, 1) := by decide +kernel
theorem dX5_take_22 : decode cX5_take 22 = .ok (.aload_n 0, 1) := by decide +kernel
theorem dX5_take_23 : decode cX5_take 23 = .ok (.getfield 65, 3) := by decide +kernel
theorem dX5_take_26 : decode cX5_take 26 = .ok (.iastore, 1) := by decide +kernel
theorem dX5_take_27 : decode cX5_take 27 = .ok (.aload_n 0, 1) := by decide +kernel
theorem dX5_take_28 : decode cX5_take 28 = .ok (.dup, 1) := by decide +kernel
theorem dX5_take_29 : decode cX5_take 29 = .ok (.getfield 62, 3) := by decide +kernel
theorem dX5_take_32 : decode cX5_take 32 = .ok (.iconst 1, 1) := by decide +kernel
theorem dX5_take_33 : decode cX5_take 33 = .ok (.iadd, 1) := by decide +kernel
theorem dX5_take_34 : decode cX5_take 34 = .ok (.putfield 62, 3) := by decide +kernel
theorem dX5_take_37 : decode cX5_take 37 = .ok (.aload_n 0, 1) := by decide +kernel
theorem dX5_take_38 : decode cX5_take 38 = .ok (.getfield 33, 3) := by decide +kernel
theorem dX5_take_41 : decode cX5_take 41 = .ok (.iload_n 2, 1) := by decide +kernel
theorem dX5_take_42 : decode cX5_take 42 = .ok (.aload_n 0, 1) := by decide +kernel
theorem dX5_take_43 : decode cX5_take 43 = .ok (.getfield 33, 3) := by decide +kernel
theorem dX5_take_46 : decode cX5_take 46 = .ok (.iload_n 2, 1) := by decide +kernel
theorem dX5_take_47 : decode cX5_take 47 = .ok (.iaload, 1) := by decide +kernel
theorem dX5_take_48 : decode cX5_take 48 = .ok (.aload_n 0, 1) := by decide +kernel
theorem dX5_take_49 : decode cX5_take 49 = .ok (.getfield 11, 3) := by decide +kernel
theorem dX5_take_52 : decode cX5_take 52 = .ok (.iload_n 2, 1) := by decide +kernel
theorem dX5_take_53 : decode cX5_take 53 = .ok (.aaload, 1) := by decide +kernel
theorem dX5_take_54 : decode cX5_take 54 = .ok (.getfield 143, 3) := by decide +kernel
theorem dX5_take_57 : decode cX5_take 57 = .ok (.invokestatic 170, 3) := by decide +kernel
theorem dX5_take_60 : decode cX5_take 60 = .ok (.iastore, 1) := by decide +kernel
theorem dX5_take_61 : decode cX5_take 61 = .ok (.aload_n 0, 1) := by decide +kernel
theorem dX5_take_62 : decode cX5_take 62 = .ok (.aload_n 0, 1) := by decide +kernel
theorem dX5_take_63 : decode cX5_take 63 = .ok (.getfield 97, 3) := by decide +kernel
theorem dX5_take_66 : decode cX5_take 66 = .ok (.aload_n 0, 1) := by decide +kernel
theorem dX5_take_67 : decode cX5_take 67 = .ok (.getfield 62, 3) := by decide +kernel
theorem dX5_take_70 : decode cX5_take 70 = .ok (.invokestatic 170, 3) := by decide +kernel
theorem dX5_take_73 : decode cX5_take 73 = .ok (.putfield 97, 3) := by decide +kernel
theorem dX5_take_76 : decode cX5_take 76 = .ok (.return_, 1) := by decide +kernel
theorem dX5_sendFirsts_0 : decode cX5_sendFirsts 0 = .ok (.iconst 0, 1) := by decide +kernel
theorem dX5_sendFirsts_1 : decode cX5_sendFirsts 1 = .ok (.istore_n 1, 1) := by decide +kernel
theorem dX5_sendFirsts_2 : decode cX5_sendFirsts 2 = .ok (.iload_n 1, 1) := by decide +kernel
theorem dX5_sendFirsts_3 : decode cX5_sendFirsts 3 = .ok (.aload_n 0, 1) := by decide +kernel
theorem dX5_sendFirsts_4 : decode cX5_sendFirsts 4 = .ok (.getfield 42, 3) := by decide +kernel
theorem dX5_sendFirsts_7 : decode cX5_sendFirsts 7 = .ok (.getfield 105, 3) := by decide +kernel
theorem dX5_sendFirsts_10 : decode cX5_sendFirsts 10 = .ok (.if_icmp .ge 68, 3) := by decide +kernel
theorem dX5_sendFirsts_13 : decode cX5_sendFirsts 13 = .ok (.aload_n 0, 1) := by decide +kernel
theorem dX5_sendFirsts_14 : decode cX5_sendFirsts 14 = .ok (.getfield 11, 3) := by decide +kernel
theorem dX5_sendFirsts_17 : decode cX5_sendFirsts 17 = .ok (.iload_n 1, 1) := by decide +kernel
theorem dX5_sendFirsts_18 : decode cX5_sendFirsts 18 = .ok (.aaload, 1) := by decide +kernel
theorem dX5_sendFirsts_19 : decode cX5_sendFirsts 19 = .ok (.getfield 143, 3) := by decide +kernel
theorem dX5_sendFirsts_22 : decode cX5_sendFirsts 22 = .ok (.ifCond .le 50, 3) := by decide +kernel
theorem dX5_sendFirsts_25 : decode cX5_sendFirsts 25 = .ok (.aload_n 0, 1) := by decide +kernel
theorem dX5_sendFirsts_26 : decode cX5_sendFirsts 26 = .ok (.getfield 42, 3) := by decide +kernel
theorem dX5_sendFirsts_29 : decode cX5_sendFirsts 29 = .ok (.getfield 125, 3) := by decide +kernel
theorem dX5_sendFirsts_32 : decode cX5_sendFirsts 32 = .ok (.iload_n 1, 1) := by decide +kernel
theorem dX5_sendFirsts_33 : decode cX5_sendFirsts 33 = .ok (.aaload, 1) := by decide +kernel
theorem dX5_sendFirsts_34 : decode cX5_sendFirsts 34 = .ok (.aload_n 0, 1) := by decide +kernel
theorem dX5_sendFirsts_35 : decode cX5_sendFirsts 35 = .ok (.getfield 65, 3) := by decide +kernel
theorem dX5_sendFirsts_38 : decode cX5_sendFirsts 38 = .ok (.invokevirtual 179, 3) := by decide +kernel
theorem dX5_sendFirsts_41 : decode cX5_sendFirsts 41 = .ok (.ifCond .eq 31, 3) := by decide +kernel
theorem dX5_sendFirsts_44 : decode cX5_sendFirsts 44 = .ok (.aload_n 0, 1) := by decide +kernel
theorem dX5_sendFirsts_45 : decode cX5_sendFirsts 45 = .ok (.aload_n 0, 1) := by decide +kernel
theorem dX5_sendFirsts_46 : decode cX5_sendFirsts 46 = .ok (.getfield 11, 3) := by decide +kernel
theorem dX5_sendFirsts_49 : decode cX5_sendFirsts 49 = .ok (.iload_n 1, 1) := by decide +kernel
theorem dX5_sendFirsts_50 : decode cX5_sendFirsts 50 = .ok (.aaload, 1) := by decide +kernel
theorem dX5_sendFirsts_51 : decode cX5_sendFirsts 51 = .ok (.invokevirtual 182, 3) := by decide +kernel
theorem dX5_sendFirsts_54 : decode cX5_sendFirsts 54 = .ok (.iconst 0, 1) := by decide +kernel
theorem dX5_sendFirsts_55 : decode cX5_sendFirsts 55 = .ok (.aload_n 0, 1) := by decide +kernel
theorem dX5_sendFirsts_56 : decode cX5_sendFirsts 56 = .ok (.getfield 65, 3) := by decide +kernel
theorem dX5_sendFirsts_59 : decode cX5_sendFirsts 59 = .ok (.invokevirtual 101, 3) := by decide +kernel
theorem dX5_sendFirsts_62 : decode cX5_sendFirsts 62 = .ok (.aload_n 0, 1) := by decide +kernel
theorem dX5_sendFirsts_63 : decode cX5_sendFirsts 63 = .ok (.dup, 1) := by decide +kernel
theorem dX5_sendFirsts_64 : decode cX5_sendFirsts 64 = .ok (.getfield 62, 3) := by decide +kernel
theorem dX5_sendFirsts_67 : decode cX5_sendFirsts 67 = .ok (.iconst 1, 1) := by decide +kernel
theorem dX5_sendFirsts_68 : decode cX5_sendFirsts 68 = .ok (.isub, 1) := by decide +kernel
theorem dX5_sendFirsts_69 : decode cX5_sendFirsts 69 = .ok (.putfield 62, 3) := by decide +kernel
theorem dX5_sendFirsts_72 : decode cX5_sendFirsts 72 = .ok (.iinc 1 1, 3) := by decide +kernel
theorem dX5_sendFirsts_75 : decode cX5_sendFirsts 75 = .ok (.goto (-73), 3) := by decide +kernel
theorem dX5_sendFirsts_78 : decode cX5_sendFirsts 78 = .ok (.return_, 1) := by decide +kernel
theorem dX5_tellStates_0 : decode cX5_tellStates 0 = .ok (.iconst 0, 1) := by decide +kernel
theorem dX5_tellStates_1 : decode cX5_tellStates 1 = .ok (.istore_n 1, 1) := by decide +kernel
theorem dX5_tellStates_2 : decode cX5_tellStates 2 = .ok (.iload_n 1, 1) := by decide +kernel
theorem dX5_tellStates_3 : decode cX5_tellStates 3 = .ok (.aload_n 0, 1) := by decide +kernel
theorem dX5_tellStates_4 : decode cX5_tellStates 4 = .ok (.getfield 42, 3) := by decide +kernel
theorem dX5_tellStates_7 : decode cX5_tellStates 7 = .ok (.getfield 105, 3) := by decide +kernel
theorem dX5_tellStates_10 : decode cX5_tellStates 10 = .ok (.if_icmp .ge 86, 3) := by decide +kernel
theorem dX5_tellStates_13 : decode cX5_tellStates 13 = .ok (.aload_n 0, 1) := by decide +kernel
theorem dX5_tellStates_14 : decode cX5_tellStates 14 = .ok (.getfield 42, 3) := by decide +kernel
theorem dX5_tellStates_17 : decode cX5_tellStates 17 = .ok (.getfield 125, 3) := by decide +kernel
theorem dX5_tellStates_20 : decode cX5_tellStates 20 = .ok (.iload_n 1, 1) := by decide +kernel
theorem dX5_tellStates_21 : decode cX5_tellStates 21 = .ok (.aaload, 1) := by decide +kernel
theorem dX5_tellStates_22 : decode cX5_tellStates 22 = .ok (.astore_n 3, 1) := by decide +kernel
theorem dX5_tellStates_23 : decode cX5_tellStates 23 = .ok (.aload_n 3, 1) := by decide +kernel
theorem dX5_tellStates_24 : decode cX5_tellStates 24 = .ok (.instanceof 129, 3) := by decide +kernel
theorem dX5_tellStates_27 : decode cX5_tellStates 27 = .ok (.ifCond .eq 63, 3) := by decide +kernel
theorem dX5_tellStates_30 : decode cX5_tellStates 30 = .ok (.aload_n 3, 1) := by decide +kernel
theorem dX5_tellStates_31 : decode cX5_tellStates 31 = .ok (.checkcast 129, 3) := by decide +kernel
theorem dX5_tellStates_34 : decode cX5_tellStates 34 = .ok (.astore_n 2, 1) := by decide +kernel
theorem dX5_tellStates_35 : decode cX5_tellStates 35 = .ok (.aload_n 2, 1) := by decide +kernel
theorem dX5_tellStates_36 : decode cX5_tellStates 36 = .ok (.aload_n 0, 1) := by decide +kernel
theorem dX5_tellStates_37 : decode cX5_tellStates 37 = .ok (.getfield 11, 3) := by decide +kernel
theorem dX5_tellStates_40 : decode cX5_tellStates 40 = .ok (.iload_n 1, 1) := by decide +kernel
theorem dX5_tellStates_41 : decode cX5_tellStates 41 = .ok (.aaload, 1) := by decide +kernel
theorem dX5_tellStates_42 : decode cX5_tellStates 42 = .ok (.getfield 143, 3) := by decide +kernel
theorem dX5_tellStates_45 : decode cX5_tellStates 45 = .ok (.aload_n 0, 1) := by decide +kernel
theorem dX5_tellStates_46 : decode cX5_tellStates 46 = .ok (.getfield 36, 3) := by decide +kernel
theorem dX5_tellStates_49 : decode cX5_tellStates 49 = .ok (.iload_n 1, 1) := by decide +kernel
theorem dX5_tellStates_50 : decode cX5_tellStates 50 = .ok (.iaload, 1) := by decide +kernel
theorem dX5_tellStates_51 : decode cX5_tellStates 51 = .ok (.iconst 1, 1) := by decide +kernel
theorem dX5_tellStates_52 : decode cX5_tellStates 52 = .ok (.iand, 1) := by decide +kernel
theorem dX5_tellStates_53 : decode cX5_tellStates 53 = .ok (.iconst 1, 1) := by decide +kernel
theorem dX5_tellStates_54 : decode cX5_tellStates 54 = .ok (.if_icmp .ne 7, 3) := by decide +kernel
theorem dX5_tellStates_57 : decode cX5_tellStates 57 = .ok (.iconst 1, 1) := by decide +kernel
theorem dX5_tellStates_58 : decode cX5_tellStates 58 = .ok (.goto 4, 3) := by decide +kernel
theorem dX5_tellStates_61 : decode cX5_tellStates 61 = .ok (.iconst 0, 1) := by decide +kernel
theorem dX5_tellStates_62 : decode cX5_tellStates 62 = .ok (.invokevirtual 185, 3) := by decide +kernel
theorem dX5_tellStates_65 : decode cX5_tellStates 65 = .ok (.istore_n 3, 1) := by decide +kernel
theorem dX5_tellStates_66 : decode cX5_tellStates 66 = .ok (.aload_n 0, 1) := by decide +kernel
theorem dX5_tellStates_67 : decode cX5_tellStates 67 = .ok (.getfield 36, 3) := by decide +kernel
theorem dX5_tellStates_70 : decode cX5_tellStates 70 = .ok (.iload_n 1, 1) := by decide +kernel
theorem dX5_tellStates_71 : decode cX5_tellStates 71 = .ok (.aload_n 0, 1) := by decide +kernel
theorem dX5_tellStates_72 : decode cX5_tellStates 72 = .ok (.getfield 36, 3) := by decide +kernel
theorem dX5_tellStates_75 : decode cX5_tellStates 75 = .ok (.iload_n 1, 1) := by decide +kernel
theorem dX5_tellStates_76 : decode cX5_tellStates 76 = .ok (.iaload, 1) := by decide +kernel
theorem dX5_tellStates_77 : decode cX5_tellStates 77 = .ok (.iconst 1, 1) := by decide +kernel
theorem dX5_tellStates_78 : decode cX5_tellStates 78 = .ok (.ishl, 1) := by decide +kernel
theorem dX5_tellStates_79 : decode cX5_tellStates 79 = .ok (.iload_n 3, 1) := by decide +kernel
theorem dX5_tellStates_80 : decode cX5_tellStates 80 = .ok (.ifCond .eq 7, 3) := by decide +kernel
theorem dX5_tellStates_83 : decode cX5_tellStates 83 = .ok (.iconst 1, 1) := by decide +kernel
theorem dX5_tellStates_84 : decode cX5_tellStates 84 = .ok (.goto 4, 3) := by decide +kernel
theorem dX5_tellStates_87 : decode cX5_tellStates 87 = .ok (.iconst 0, 1) := by decide +kernel
theorem dX5_tellStates_88 : decode cX5_tellStates 88 = .ok (.ior, 1) := by decide +kernel
theorem dX5_tellStates_89 : decode cX5_tellStates 89 = .ok (.iastore, 1) := by decide +kernel
theorem dX5_tellStates_90 : decode cX5_tellStates 90 = .ok (.iinc 1 1, 3) := by decide +kernel
theorem dX5_tellStates_93 : decode cX5_tellStates 93 = .ok (.goto (-91), 3) := by decide +kernel
theorem dX5_tellStates_96 : decode cX5_tellStates 96 = .ok (.return_, 1) := by decide +kernel
theorem dX5_sendRest_0 : decode cX5_sendRest 0 = .ok (.iconst 0, 1) := by decide +kernel
theorem dX5_sendRest_1 : decode cX5_sendRest 1 = .ok (.istore_n 1, 1) := by decide +kernel
theorem dX5_sendRest_2 : decode cX5_sendRest 2 = .ok (.iload_n 1, 1) := by decide +kernel
theorem dX5_sendRest_3 : decode cX5_sendRest 3 = .ok (.iconst 4, 1) := by decide +kernel
theorem dX5_sendRest_4 : decode cX5_sendRest 4 = .ok (.if_icmp .ge 46, 3) := by decide +kernel
theorem dX5_sendRest_7 : decode cX5_sendRest 7 = .ok (.aload_n 0, 1) := by decide +kernel
theorem dX5_sendRest_8 : decode cX5_sendRest 8 = .ok (.getfield 11, 3) := by decide +kernel
theorem dX5_sendRest_11 : decode cX5_sendRest 11 = .ok (.iload_n 1, 1) := by decide +kernel
theorem dX5_sendRest_12 : decode cX5_sendRest 12 = .ok (.aaload, 1) := by decide +kernel
theorem dX5_sendRest_13 : decode cX5_sendRest 13 = .ok (.getfield 143, 3) := by decide +kernel
theorem dX5_sendRest_16 : decode cX5_sendRest 16 = .ok (.istore_n 2, 1) := by decide +kernel
theorem dX5_sendRest_17 : decode cX5_sendRest 17 = .ok (.iload_n 2, 1) := by decide +kernel
theorem dX5_sendRest_18 : decode cX5_sendRest 18 = .ok (.ifCond .le 26, 3) := by decide +kernel
theorem dX5_sendRest_21 : decode cX5_sendRest 21 = .ok (.aload_n 0, 1) := by decide +kernel
theorem dX5_sendRest_22 : decode cX5_sendRest 22 = .ok (.aload_n 0, 1) := by decide +kernel
theorem dX5_sendRest_23 : decode cX5_sendRest 23 = .ok (.getfield 11, 3) := by decide +kernel
theorem dX5_sendRest_26 : decode cX5_sendRest 26 = .ok (.iload_n 1, 1) := by decide +kernel
theorem dX5_sendRest_27 : decode cX5_sendRest 27 = .ok (.aaload, 1) := by decide +kernel
theorem dX5_sendRest_28 : decode cX5_sendRest 28 = .ok (.invokevirtual 182, 3) := by decide +kernel
theorem dX5_sendRest_31 : decode cX5_sendRest 31 = .ok (.iconst 0, 1) := by decide +kernel
theorem dX5_sendRest_32 : decode cX5_sendRest 32 = .ok (.sipush 400, 3) := by decide +kernel
theorem dX5_sendRest_35 : decode cX5_sendRest 35 = .ok (.invokevirtual 101, 3) := by decide +kernel
theorem dX5_sendRest_38 : decode cX5_sendRest 38 = .ok (.iinc 2 (-1), 3) := by decide +kernel
theorem dX5_sendRest_41 : decode cX5_sendRest 41 = .ok (.goto (-24), 3) := by decide +kernel
theorem dX5_sendRest_44 : decode cX5_sendRest 44 = .ok (.iinc 1 1, 3) := by decide +kernel
theorem dX5_sendRest_47 : decode cX5_sendRest 47 = .ok (.goto (-45), 3) := by decide +kernel
theorem dX5_sendRest_50 : decode cX5_sendRest 50 = .ok (.return_, 1) := by decide +kernel
theorem dX5_countOf_0 : decode cX5_countOf 0 = .ok (.iconst 0, 1) := by decide +kernel
theorem dX5_countOf_1 : decode cX5_countOf 1 = .ok (.istore_n 3, 1) := by decide +kernel
theorem dX5_countOf_2 : decode cX5_countOf 2 = .ok (.iconst 0, 1) := by decide +kernel
theorem dX5_countOf_3 : decode cX5_countOf 3 = .ok (.istore 4, 2) := by decide +kernel
theorem dX5_countOf_5 : decode cX5_countOf 5 = .ok (.iload 4, 2) := by decide +kernel
theorem dX5_countOf_7 : decode cX5_countOf 7 = .ok (.aload_n 0, 1) := by decide +kernel
theorem dX5_countOf_8 : decode cX5_countOf 8 = .ok (.getfield 91, 3) := by decide +kernel
theorem dX5_countOf_11 : decode cX5_countOf 11 = .ok (.if_icmp .ge 39, 3) := by decide +kernel
theorem dX5_countOf_14 : decode cX5_countOf 14 = .ok (.aload_n 0, 1) := by decide +kernel
theorem dX5_countOf_15 : decode cX5_countOf 15 = .ok (.getfield 24, 3) := by decide +kernel
theorem dX5_countOf_18 : decode cX5_countOf 18 = .ok (.iload 4, 2) := by decide +kernel
theorem dX5_countOf_20 : decode cX5_countOf 20 = .ok (.iaload, 1) := by decide +kernel
theorem dX5_countOf_21 : decode cX5_countOf 21 = .ok (.iload_n 2, 1) := by decide +kernel
theorem dX5_countOf_22 : decode cX5_countOf 22 = .ok (.if_icmp .ne 22, 3) := by decide +kernel
theorem dX5_countOf_25 : decode cX5_countOf 25 = .ok (.iload_n 1, 1) := by decide +kernel
theorem dX5_countOf_26 : decode cX5_countOf 26 = .ok (.iconst (-1), 1) := by decide +kernel
theorem dX5_countOf_27 : decode cX5_countOf 27 = .ok (.if_icmp .eq 14, 3) := by decide +kernel
theorem dX5_countOf_30 : decode cX5_countOf 30 = .ok (.aload_n 0, 1) := by decide +kernel
theorem dX5_countOf_31 : decode cX5_countOf 31 = .ok (.getfield 17, 3) := by decide +kernel
theorem dX5_countOf_34 : decode cX5_countOf 34 = .ok (.iload 4, 2) := by decide +kernel
theorem dX5_countOf_36 : decode cX5_countOf 36 = .ok (.iaload, 1) := by decide +kernel
theorem dX5_countOf_37 : decode cX5_countOf 37 = .ok (.iload_n 1, 1) := by decide +kernel
theorem dX5_countOf_38 : decode cX5_countOf 38 = .ok (.if_icmp .ne 6, 3) := by decide +kernel
theorem dX5_countOf_41 : decode cX5_countOf 41 = .ok (.iinc 3 1, 3) := by decide +kernel
theorem dX5_countOf_44 : decode cX5_countOf 44 = .ok (.iinc 4 1, 3) := by decide +kernel
theorem dX5_countOf_47 : decode cX5_countOf 47 = .ok (.goto (-42), 3) := by decide +kernel
theorem dX5_countOf_50 : decode cX5_countOf 50 = .ok (.iload_n 3, 1) := by decide +kernel
theorem dX5_countOf_51 : decode cX5_countOf 51 = .ok (.ireturn, 1) := by decide +kernel
theorem dX5_lengthAt_0 : decode cX5_lengthAt 0 = .ok (.iconst 0, 1) := by decide +kernel
theorem dX5_lengthAt_1 : decode cX5_lengthAt 1 = .ok (.istore_n 3, 1) := by decide +kernel
theorem dX5_lengthAt_2 : decode cX5_lengthAt 2 = .ok (.iconst 0, 1) := by decide +kernel
theorem dX5_lengthAt_3 : decode cX5_lengthAt 3 = .ok (.istore 4, 2) := by decide +kernel
theorem dX5_lengthAt_5 : decode cX5_lengthAt 5 = .ok (.iload 4, 2) := by decide +kernel
theorem dX5_lengthAt_7 : decode cX5_lengthAt 7 = .ok (.aload_n 0, 1) := by decide +kernel
theorem dX5_lengthAt_8 : decode cX5_lengthAt 8 = .ok (.getfield 91, 3) := by decide +kernel
theorem dX5_lengthAt_11 : decode cX5_lengthAt 11 = .ok (.if_icmp .ge 45, 3) := by decide +kernel
theorem dX5_lengthAt_14 : decode cX5_lengthAt 14 = .ok (.aload_n 0, 1) := by decide +kernel
theorem dX5_lengthAt_15 : decode cX5_lengthAt 15 = .ok (.getfield 17, 3) := by decide +kernel
theorem dX5_lengthAt_18 : decode cX5_lengthAt 18 = .ok (.iload 4, 2) := by decide +kernel
theorem dX5_lengthAt_20 : decode cX5_lengthAt 20 = .ok (.iaload, 1) := by decide +kernel
theorem dX5_lengthAt_21 : decode cX5_lengthAt 21 = .ok (.iload_n 1, 1) := by decide +kernel
theorem dX5_lengthAt_22 : decode cX5_lengthAt 22 = .ok (.if_icmp .ne 28, 3) := by decide +kernel
theorem dX5_lengthAt_25 : decode cX5_lengthAt 25 = .ok (.aload_n 0, 1) := by decide +kernel
theorem dX5_lengthAt_26 : decode cX5_lengthAt 26 = .ok (.getfield 21, 3) := by decide +kernel
theorem dX5_lengthAt_29 : decode cX5_lengthAt 29 = .ok (.iload 4, 2) := by decide +kernel
theorem dX5_lengthAt_31 : decode cX5_lengthAt 31 = .ok (.iaload, 1) := by decide +kernel
theorem dX5_lengthAt_32 : decode cX5_lengthAt 32 = .ok (.iload_n 2, 1) := by decide +kernel
theorem dX5_lengthAt_33 : decode cX5_lengthAt 33 = .ok (.if_icmp .gt 17, 3) := by decide +kernel
theorem dX5_lengthAt_36 : decode cX5_lengthAt 36 = .ok (.iload_n 2, 1) := by decide +kernel
theorem dX5_lengthAt_37 : decode cX5_lengthAt 37 = .ok (.aload_n 0, 1) := by decide +kernel
theorem dX5_lengthAt_38 : decode cX5_lengthAt 38 = .ok (.getfield 27, 3) := by decide +kernel
theorem dX5_lengthAt_41 : decode cX5_lengthAt 41 = .ok (.iload 4, 2) := by decide +kernel
theorem dX5_lengthAt_43 : decode cX5_lengthAt 43 = .ok (.iaload, 1) := by decide +kernel
theorem dX5_lengthAt_44 : decode cX5_lengthAt 44 = .ok (.if_icmp .ge 6, 3) := by decide +kernel
theorem dX5_lengthAt_47 : decode cX5_lengthAt 47 = .ok (.iinc 3 1, 3) := by decide +kernel
theorem dX5_lengthAt_50 : decode cX5_lengthAt 50 = .ok (.iinc 4 1, 3) := by decide +kernel
theorem dX5_lengthAt_53 : decode cX5_lengthAt 53 = .ok (.goto (-48), 3) := by decide +kernel
theorem dX5_lengthAt_56 : decode cX5_lengthAt 56 = .ok (.iload_n 3, 1) := by decide +kernel
theorem dX5_lengthAt_57 : decode cX5_lengthAt 57 = .ok (.ireturn, 1) := by decide +kernel
theorem dX6_init_0 : decode cX6_init 0 = .ok (.aload_n 0, 1) := by decide +kernel
theorem dX6_init_1 : decode cX6_init 1 = .ok (.invokespecial 3, 3) := by decide +kernel
theorem dX6_init_4 : decode cX6_init 4 = .ok (.aload_n 0, 1) := by decide +kernel
theorem dX6_init_5 : decode cX6_init 5 = .ok (.iconst 4, 1) := by decide +kernel
theorem dX6_init_6 : decode cX6_init 6 = .ok (.anewarray 9, 3) := by decide +kernel
theorem dX6_init_9 : decode cX6_init 9 = .ok (.putfield 11, 3) := by decide +kernel
theorem dX6_init_12 : decode cX6_init 12 = .ok (.aload_n 0, 1) := by decide +kernel
theorem dX6_init_13 : decode cX6_init 13 = .ok (.iconst 1, 1) := by decide +kernel
theorem dX6_init_14 : decode cX6_init 14 = .ok (.putfield 17, 3) := by decide +kernel
theorem dX6_init_17 : decode cX6_init 17 = .ok (.aload_n 0, 1) := by decide +kernel
theorem dX6_init_18 : decode cX6_init 18 = .ok (.bipush 8, 2) := by decide +kernel
theorem dX6_init_20 : decode cX6_init 20 = .ok (.putfield 21, 3) := by decide +kernel
theorem dX6_init_23 : decode cX6_init 23 = .ok (.aload_n 0, 1) := by decide +kernel
theorem dX6_init_24 : decode cX6_init 24 = .ok (.bipush 16, 2) := by decide +kernel
theorem dX6_init_26 : decode cX6_init 26 = .ok (.putfield 24, 3) := by decide +kernel
theorem dX6_init_29 : decode cX6_init 29 = .ok (.aload_n 0, 1) := by decide +kernel
theorem dX6_init_30 : decode cX6_init 30 = .ok (.getfield 11, 3) := by decide +kernel
theorem dX6_init_33 : decode cX6_init 33 = .ok (.iconst 0, 1) := by decide +kernel
theorem dX6_init_34 : decode cX6_init 34 = .ok (.new 9, 3) := by decide +kernel
theorem dX6_init_37 : decode cX6_init 37 = .ok (.dup, 1) := by decide +kernel
theorem dX6_init_38 : decode cX6_init 38 = .ok (.iconst 4, 1) := by decide +kernel
theorem dX6_init_39 : decode cX6_init 39 = .ok (.invokespecial 27, 3) := by decide +kernel
theorem dX6_init_42 : decode cX6_init 42 = .ok (.aastore, 1) := by decide +kernel
theorem dX6_init_43 : decode cX6_init 43 = .ok (.return_, 1) := by decide +kernel
theorem dX6_lineAt_0 : decode cX6_lineAt 0 = .ok (.iload_n 1, 1) := by decide +kernel
theorem dX6_lineAt_1 : decode cX6_lineAt 1 = .ok (.iconst 0, 1) := by decide +kernel
theorem dX6_lineAt_2 : decode cX6_lineAt 2 = .ok (.aload_n 0, 1) := by decide +kernel
theorem dX6_lineAt_3 : decode cX6_lineAt 3 = .ok (.getfield 17, 3) := by decide +kernel
theorem dX6_lineAt_6 : decode cX6_lineAt 6 = .ok (.iconst 1, 1) := by decide +kernel
theorem dX6_lineAt_7 : decode cX6_lineAt 7 = .ok (.isub, 1) := by decide +kernel
theorem dX6_lineAt_8 : decode cX6_lineAt 8 = .ok (.invokestatic 30, 3) := by decide +kernel
theorem dX6_lineAt_11 : decode cX6_lineAt 11 = .ok (.ifCond .eq 12, 3) := by decide +kernel
theorem dX6_lineAt_14 : decode cX6_lineAt 14 = .ok (.aload_n 0, 1) := by decide +kernel
theorem dX6_lineAt_15 : decode cX6_lineAt 15 = .ok (.getfield 11, 3) := by decide +kernel
theorem dX6_lineAt_18 : decode cX6_lineAt 18 = .ok (.iload_n 1, 1) := by decide +kernel
theorem dX6_lineAt_19 : decode cX6_lineAt 19 = .ok (.aaload, 1) := by decide +kernel
theorem dX6_lineAt_20 : decode cX6_lineAt 20 = .ok (.goto 4, 3) := by decide +kernel
theorem dX6_lineAt_23 : decode cX6_lineAt 23 = .ok (.aconst_null, 1) := by decide +kernel
theorem dX6_lineAt_24 : decode cX6_lineAt 24 = .ok (.areturn, 1) := by decide +kernel
theorem dX6_addLine_0 : decode cX6_addLine 0 = .ok (.aload_n 0, 1) := by decide +kernel
theorem dX6_addLine_1 : decode cX6_addLine 1 = .ok (.getfield 17, 3) := by decide +kernel
theorem dX6_addLine_4 : decode cX6_addLine 4 = .ok (.istore_n 2, 1) := by decide +kernel
theorem dX6_addLine_5 : decode cX6_addLine 5 = .ok (.aload_n 0, 1) := by decide +kernel
theorem dX6_addLine_6 : decode cX6_addLine 6 = .ok (.getfield 11, 3) := by decide +kernel
theorem dX6_addLine_9 : decode cX6_addLine 9 = .ok (.iload_n 2, 1) := by decide +kernel
theorem dX6_addLine_10 : decode cX6_addLine 10 = .ok (.aload_n 1, 1) := by decide +kernel
theorem dX6_addLine_11 : decode cX6_addLine 11 = .ok (.aastore, 1) := by decide +kernel
theorem dX6_addLine_12 : decode cX6_addLine 12 = .ok (.aload_n 0, 1) := by decide +kernel
theorem dX6_addLine_13 : decode cX6_addLine 13 = .ok (.dup, 1) := by decide +kernel
theorem dX6_addLine_14 : decode cX6_addLine 14 = .ok (.getfield 17, 3) := by decide +kernel
theorem dX6_addLine_17 : decode cX6_addLine 17 = .ok (.iconst 1, 1) := by decide +kernel
theorem dX6_addLine_18 : decode cX6_addLine 18 = .ok (.iadd, 1) := by decide +kernel
theorem dX6_addLine_19 : decode cX6_addLine 19 = .ok (.putfield 17, 3) := by decide +kernel
theorem dX6_addLine_22 : decode cX6_addLine 22 = .ok (.iload_n 2, 1) := by decide +kernel
theorem dX6_addLine_23 : decode cX6_addLine 23 = .ok (.ireturn, 1) := by decide +kernel
theorem dX6_partsTogether_0 : decode cX6_partsTogether 0 = .ok (.iconst 0, 1) := by decide +kernel
theorem dX6_partsTogether_1 : decode cX6_partsTogether 1 = .ok (.istore_n 1, 1) := by decide +kernel
theorem dX6_partsTogether_2 : decode cX6_partsTogether 2 = .ok (.iconst 0, 1) := by decide +kernel
theorem dX6_partsTogether_3 : decode cX6_partsTogether 3 = .ok (.istore_n 2, 1) := by decide +kernel
theorem dX6_partsTogether_4 : decode cX6_partsTogether 4 = .ok (.iload_n 2, 1) := by decide +kernel
theorem dX6_partsTogether_5 : decode cX6_partsTogether 5 = .ok (.aload_n 0, 1) := by decide +kernel
theorem dX6_partsTogether_6 : decode cX6_partsTogether 6 = .ok (.getfield 17, 3) := by decide +kernel
theorem dX6_partsTogether_9 : decode cX6_partsTogether 9 = .ok (.if_icmp .ge 21, 3) := by decide +kernel
theorem dX6_partsTogether_12 : decode cX6_partsTogether 12 = .ok (.iload_n 1, 1) := by decide +kernel
theorem dX6_partsTogether_13 : decode cX6_partsTogether 13 = .ok (.aload_n 0, 1) := by decide +kernel
theorem dX6_partsTogether_14 : decode cX6_partsTogether 14 = .ok (.getfield 11, 3) := by decide +kernel
theorem dX6_partsTogether_17 : decode cX6_partsTogether 17 = .ok (.iload_n 2, 1) := by decide +kernel
theorem dX6_partsTogether_18 : decode cX6_partsTogether 18 = .ok (.aaload, 1) := by decide +kernel
theorem dX6_partsTogether_19 : decode cX6_partsTogether 19 = .ok (.invokevirtual 34, 3) := by decide +kernel
theorem dX6_partsTogether_22 : decode cX6_partsTogether 22 = .ok (.iadd, 1) := by decide +kernel
theorem dX6_partsTogether_23 : decode cX6_partsTogether 23 = .ok (.istore_n 1, 1) := by decide +kernel
theorem dX6_partsTogether_24 : decode cX6_partsTogether 24 = .ok (.iinc 2 1, 3) := by decide +kernel
theorem dX6_partsTogether_27 : decode cX6_partsTogether 27 = .ok (.goto (-23), 3) := by decide +kernel
theorem dX6_partsTogether_30 : decode cX6_partsTogether 30 = .ok (.iload_n 1, 1) := by decide +kernel
theorem dX6_partsTogether_31 : decode cX6_partsTogether 31 = .ok (.ireturn, 1) := by decide +kernel
theorem dX7_init_0 : decode cX7_init 0 = .ok (.aload_n 0, 1) := by decide +kernel
theorem dX7_init_1 : decode cX7_init 1 = .ok (.invokespecial 3, 3) := by decide +kernel
theorem dX7_init_4 : decode cX7_init 4 = .ok (.aload_n 0, 1) := by decide +kernel
theorem dX7_init_5 : decode cX7_init 5 = .ok (.sipush 160, 3) := by decide +kernel
theorem dX7_init_8 : decode cX7_init 8 = .ok (.newarray .int, 2) := by decide +kernel
theorem dX7_init_10 : decode cX7_init 10 = .ok (.putfield 9, 3) := by decide +kernel
theorem dX7_init_13 : decode cX7_init 13 = .ok (.return_, 1) := by decide +kernel
theorem dX7_beginRow_0 : decode cX7_beginRow 0 = .ok (.aload_n 0, 1) := by decide +kernel
theorem dX7_beginRow_1 : decode cX7_beginRow 1 = .ok (.iconst 1, 1) := by decide +kernel
theorem dX7_beginRow_2 : decode cX7_beginRow 2 = .ok (.putfield 15, 3) := by decide +kernel
theorem dX7_beginRow_5 : decode cX7_beginRow 5 = .ok (.aload_n 0, 1) := by decide +kernel
theorem dX7_beginRow_6 : decode cX7_beginRow 6 = .ok (.iload_n 1, 1) := by decide +kernel
theorem dX7_beginRow_7 : decode cX7_beginRow 7 = .ok (.putfield 19, 3) := by decide +kernel
theorem dX7_beginRow_10 : decode cX7_beginRow 10 = .ok (.aload_n 0, 1) := by decide +kernel
theorem dX7_beginRow_11 : decode cX7_beginRow 11 = .ok (.iload_n 2, 1) := by decide +kernel
theorem dX7_beginRow_12 : decode cX7_beginRow 12 = .ok (.putfield 23, 3) := by decide +kernel
theorem dX7_beginRow_15 : decode cX7_beginRow 15 = .ok (.iconst 0, 1) := by decide +kernel
theorem dX7_beginRow_16 : decode cX7_beginRow 16 = .ok (.istore_n 3, 1) := by decide +kernel
theorem dX7_beginRow_17 : decode cX7_beginRow 17 = .ok (.iload_n 3, 1) := by decide +kernel
theorem dX7_beginRow_18 : decode cX7_beginRow 18 = .ok (.sipush 160, 3) := by decide +kernel
theorem dX7_beginRow_21 : decode cX7_beginRow 21 = .ok (.if_icmp .ge 16, 3) := by decide +kernel
theorem dX7_beginRow_24 : decode cX7_beginRow 24 = .ok (.aload_n 0, 1) := by decide +kernel
theorem dX7_beginRow_25 : decode cX7_beginRow 25 = .ok (.getfield 9, 3) := by decide +kernel
theorem dX7_beginRow_28 : decode cX7_beginRow 28 = .ok (.iload_n 3, 1) := by decide +kernel
theorem dX7_beginRow_29 : decode cX7_beginRow 29 = .ok (.iconst 0, 1) := by decide +kernel
theorem dX7_beginRow_30 : decode cX7_beginRow 30 = .ok (.iastore, 1) := by decide +kernel
theorem dX7_beginRow_31 : decode cX7_beginRow 31 = .ok (.iinc 3 1, 3) := by decide +kernel
theorem dX7_beginRow_34 : decode cX7_beginRow 34 = .ok (.goto (-17), 3) := by decide +kernel
theorem dX7_beginRow_37 : decode cX7_beginRow 37 = .ok (.return_, 1) := by decide +kernel
theorem dX7_hasItems_0 : decode cX7_hasItems 0 = .ok (.iload_n 1, 1) := by decide +kernel
theorem dX7_hasItems_1 : decode cX7_hasItems 1 = .ok (.ifCond .lt 21, 3) := by decide +kernel
theorem dX7_hasItems_4 : decode cX7_hasItems 4 = .ok (.iload_n 2, 1) := by decide +kernel
theorem dX7_hasItems_5 : decode cX7_hasItems 5 = .ok (.ifCond .lt 17, 3) := by decide +kernel
theorem dX7_hasItems_8 : decode cX7_hasItems 8 = .ok (.iload_n 1, 1) := by decide +kernel
theorem dX7_hasItems_9 : decode cX7_hasItems 9 = .ok (.aload_n 0, 1) := by decide +kernel
theorem dX7_hasItems_10 : decode cX7_hasItems 10 = .ok (.getfield 23, 3) := by decide +kernel
theorem dX7_hasItems_13 : decode cX7_hasItems 13 = .ok (.iload_n 2, 1) := by decide +kernel
theorem dX7_hasItems_14 : decode cX7_hasItems 14 = .ok (.isub, 1) := by decide +kernel
theorem dX7_hasItems_15 : decode cX7_hasItems 15 = .ok (.if_icmp .gt 7, 3) := by decide +kernel
theorem dX7_hasItems_18 : decode cX7_hasItems 18 = .ok (.iconst 1, 1) := by decide +kernel
theorem dX7_hasItems_19 : decode cX7_hasItems 19 = .ok (.goto 4, 3) := by decide +kernel
theorem dX7_hasItems_22 : decode cX7_hasItems 22 = .ok (.iconst 0, 1) := by decide +kernel
theorem dX7_hasItems_23 : decode cX7_hasItems 23 = .ok (.ireturn, 1) := by decide +kernel
theorem dX7_put_0 : decode cX7_put 0 = .ok (.aload_n 0, 1) := by decide +kernel
theorem dX7_put_1 : decode cX7_put 1 = .ok (.getfield 19, 3) := by decide +kernel
theorem dX7_put_4 : decode cX7_put 4 = .ok (.ifCond .ne 14, 3) := by decide +kernel
theorem dX7_put_7 : decode cX7_put 7 = .ok (.aload_n 0, 1) := by decide +kernel
theorem dX7_put_8 : decode cX7_put 8 = .ok (.getfield 9, 3) := by decide +kernel
theorem dX7_put_11 : decode cX7_put 11 = .ok (.iload_n 1, 1) := by decide +kernel
theorem dX7_put_12 : decode cX7_put 12 = .ok (.iload_n 2, 1) := by decide +kernel
theorem dX7_put_13 : decode cX7_put 13 = .ok (.i2b, 1) := by decide +kernel
theorem dX7_put_14 : decode cX7_put 14 = .ok (.iastore, 1) := by decide +kernel
theorem dX7_put_15 : decode cX7_put 15 = .ok (.goto 29, 3) := by decide +kernel
theorem dX7_put_18 : decode cX7_put 18 = .ok (.aload_n 0, 1) := by decide +kernel
theorem dX7_put_19 : decode cX7_put 19 = .ok (.getfield 19, 3) := by decide +kernel
theorem dX7_put_22 : decode cX7_put 22 = .ok (.iconst 1, 1) := by decide +kernel
theorem dX7_put_23 : decode cX7_put 23 = .ok (.if_icmp .ne 14, 3) := by decide +kernel
theorem dX7_put_26 : decode cX7_put 26 = .ok (.aload_n 0, 1) := by decide +kernel
theorem dX7_put_27 : decode cX7_put 27 = .ok (.getfield 9, 3) := by decide +kernel
theorem dX7_put_30 : decode cX7_put 30 = .ok (.iload_n 1, 1) := by decide +kernel
theorem dX7_put_31 : decode cX7_put 31 = .ok (.iload_n 2, 1) := by decide +kernel
theorem dX7_put_32 : decode cX7_put 32 = .ok (.i2s, 1) := by decide +kernel
theorem dX7_put_33 : decode cX7_put 33 = .ok (.iastore, 1) := by decide +kernel
theorem dX7_put_34 : decode cX7_put 34 = .ok (.goto 10, 3) := by decide +kernel
theorem dX7_put_37 : decode cX7_put 37 = .ok (.aload_n 0, 1) := by decide +kernel
theorem dX7_put_38 : decode cX7_put 38 = .ok (.getfield 9, 3) := by decide +kernel
theorem dX7_put_41 : decode cX7_put 41 = .ok (.iload_n 1, 1) := by decide +kernel
theorem dX7_put_42 : decode cX7_put 42 = .ok (.iload_n 2, 1) := by decide +kernel
theorem dX7_put_43 : decode cX7_put 43 = .ok (.iastore, 1) := by decide +kernel
theorem dX7_put_44 : decode cX7_put 44 = .ok (.return_, 1) := by decide +kernel
theorem dX8_init_0 : decode cX8_init 0 = .ok (.aload_n 0, 1) := by decide +kernel
theorem dX8_init_1 : decode cX8_init 1 = .ok (.iload_n 1, 1) := by decide +kernel
theorem dX8_init_2 : decode cX8_init 2 = .ok (.invokespecial 3, 3) := by decide +kernel
theorem dX8_init_5 : decode cX8_init 5 = .ok (.aload_n 0, 1) := by decide +kernel
theorem dX8_init_6 : decode cX8_init 6 = .ok (.iconst 1, 1) := by decide +kernel
theorem dX8_init_7 : decode cX8_init 7 = .ok (.putfield 11, 3) := by decide +kernel
theorem dX8_init_10 : decode cX8_init 10 = .ok (.return_, 1) := by decide +kernel
theorem dX8_kindNumber_0 : decode cX8_kindNumber 0 = .ok (.iconst 1, 1) := by decide +kernel
theorem dX8_kindNumber_1 : decode cX8_kindNumber 1 = .ok (.ireturn, 1) := by decide +kernel
theorem dX8_keptPart_0 : decode cX8_keptPart 0 = .ok (.aload_n 0, 1) := by decide +kernel
theorem dX8_keptPart_1 : decode cX8_keptPart 1 = .ok (.getfield 11, 3) := by decide +kernel
theorem dX8_keptPart_4 : decode cX8_keptPart 4 = .ok (.ireturn, 1) := by decide +kernel
theorem dX9_init_0 : decode cX9_init 0 = .ok (.aload_n 0, 1) := by decide +kernel
theorem dX9_init_1 : decode cX9_init 1 = .ok (.invokespecial 1, 3) := by decide +kernel
theorem dX9_init_4 : decode cX9_init 4 = .ok (.aload_n 0, 1) := by decide +kernel
theorem dX9_init_5 : decode cX9_init 5 = .ok (.new 7, 3) := by decide +kernel
theorem dX9_init_8 : decode cX9_init 8 = .ok (.dup, 1) := by decide +kernel
theorem dX9_init_9 : decode cX9_init 9 = .ok (.invokespecial 9, 3) := by decide +kernel
theorem dX9_init_12 : decode cX9_init 12 = .ok (.putfield 10, 3) := by decide +kernel
theorem dX9_init_15 : decode cX9_init 15 = .ok (.aload_n 0, 1) := by decide +kernel
theorem dX9_init_16 : decode cX9_init 16 = .ok (.iconst 4, 1) := by decide +kernel
theorem dX9_init_17 : decode cX9_init 17 = .ok (.anewarray 16, 3) := by decide +kernel
theorem dX9_init_20 : decode cX9_init 20 = .ok (.putfield 18, 3) := by decide +kernel
theorem dX9_init_23 : decode cX9_init 23 = .ok (.aload_n 0, 1) := by decide +kernel
theorem dX9_init_24 : decode cX9_init 24 = .ok (.iconst 4, 1) := by decide +kernel
theorem dX9_init_25 : decode cX9_init 25 = .ok (.anewarray 22, 3) := by decide +kernel
theorem dX9_init_28 : decode cX9_init 28 = .ok (.putfield 24, 3) := by decide +kernel
theorem dX9_init_31 : decode cX9_init 31 = .ok (.aload_n 0, 1) := by decide +kernel
theorem dX9_init_32 : decode cX9_init 32 = .ok (.new 28, 3) := by decide +kernel
theorem dX9_init_35 : decode cX9_init 35 = .ok (.dup, 1) := by decide +kernel
theorem dX9_init_36 : decode cX9_init 36 = .ok (.aload_n 0, 1) := by decide +kernel
theorem dX9_init_37 : decode cX9_init 37 = .ok (.getfield 10, 3) := by decide +kernel
theorem dX9_init_40 : decode cX9_init 40 = .ok (.invokespecial 30, 3) := by decide +kernel
theorem dX9_init_43 : decode cX9_init 43 = .ok (.putfield 33, 3) := by decide +kernel
theorem dX9_init_46 : decode cX9_init 46 = .ok (.aload_n 0, 1) := by decide +kernel
theorem dX9_init_47 : decode cX9_init 47 = .ok (.new 28, 3) := by decide +kernel
theorem dX9_init_50 : decode cX9_init 50 = .ok (.dup, 1) := by decide +kernel
theorem dX9_init_51 : decode cX9_init 51 = .ok (.aload_n 0, 1) := by decide +kernel
theorem dX9_init_52 : decode cX9_init 52 = .ok (.getfield 10, 3) := by decide +kernel
theorem dX9_init_55 : decode cX9_init 55 = .ok (.invokespecial 30, 3) := by decide +kernel
theorem dX9_init_58 : decode cX9_init 58 = .ok (.putfield 37, 3) := by decide +kernel
theorem dX9_init_61 : decode cX9_init 61 = .ok (.aload_n 0, 1) := by decide +kernel
theorem dX9_init_62 : decode cX9_init 62 = .ok (.new 40, 3) := by decide +kernel
theorem dX9_init_65 : decode cX9_init 65 = .ok (.dup, 1) := by decide +kernel
theorem dX9_init_66 : decode cX9_init 66 = .ok (.aload_n 0, 1) := by decide +kernel
theorem dX9_init_67 : decode cX9_init 67 = .ok (.getfield 10, 3) := by decide +kernel
theorem dX9_init_70 : decode cX9_init 70 = .ok (.invokespecial 42, 3) := by decide +kernel
theorem dX9_init_73 : decode cX9_init 73 = .ok (.putfield 43, 3) := by decide +kernel
theorem dX9_init_76 : decode cX9_init 76 = .ok (.aload_n 0, 1) := by decide +kernel
theorem dX9_init_77 : decode cX9_init 77 = .ok (.iconst (-1), 1) := by decide +kernel
theorem dX9_init_78 : decode cX9_init 78 = .ok (.putfield 47, 3) := by decide +kernel
theorem dX9_init_81 : decode cX9_init 81 = .ok (.iconst 0, 1) := by decide +kernel
theorem dX9_init_82 : decode cX9_init 82 = .ok (.istore_n 1, 1) := by decide +kernel
theorem dX9_init_83 : decode cX9_init 83 = .ok (.iload_n 1, 1) := by decide +kernel
theorem dX9_init_84 : decode cX9_init 84 = .ok (.iconst 4, 1) := by decide +kernel
theorem dX9_init_85 : decode cX9_init 85 = .ok (.if_icmp .ge 22, 3) := by decide +kernel
theorem dX9_init_88 : decode cX9_init 88 = .ok (.aload_n 0, 1) := by decide +kernel
theorem dX9_init_89 : decode cX9_init 89 = .ok (.getfield 18, 3) := by decide +kernel
theorem dX9_init_92 : decode cX9_init 92 = .ok (.iload_n 1, 1) := by decide +kernel
theorem dX9_init_93 : decode cX9_init 93 = .ok (.new 16, 3) := by decide +kernel
theorem dX9_init_96 : decode cX9_init 96 = .ok (.dup, 1) := by decide +kernel
theorem dX9_init_97 : decode cX9_init 97 = .ok (.invokespecial 51, 3) := by decide +kernel
theorem dX9_init_100 : decode cX9_init 100 = .ok (.aastore, 1) := by decide +kernel
theorem dX9_init_101 : decode cX9_init 101 = .ok (.iinc 1 1, 3) := by decide +kernel
theorem dX9_init_104 : decode cX9_init 104 = .ok (.goto (-21), 3) := by decide +kernel
theorem dX9_init_107 : decode cX9_init 107 = .ok (.iconst 0, 1) := by decide +kernel
theorem dX9_init_108 : decode cX9_init 108 = .ok (.istore_n 1, 1) := by decide +kernel
theorem dX9_init_109 : decode cX9_init 109 = .ok (.iload_n 1, 1) := by decide +kernel
theorem dX9_init_110 : decode cX9_init 110 = .ok (.iconst 4, 1) := by decide +kernel
theorem dX9_init_111 : decode cX9_init 111 = .ok (.if_icmp .ge 22, 3) := by decide +kernel
theorem dX9_init_114 : decode cX9_init 114 = .ok (.aload_n 0, 1) := by decide +kernel
theorem dX9_init_115 : decode cX9_init 115 = .ok (.getfield 24, 3) := by decide +kernel
theorem dX9_init_118 : decode cX9_init 118 = .ok (.iload_n 1, 1) := by decide +kernel
theorem dX9_init_119 : decode cX9_init 119 = .ok (.new 22, 3) := by decide +kernel
theorem dX9_init_122 : decode cX9_init 122 = .ok (.dup, 1) := by decide +kernel
theorem dX9_init_123 : decode cX9_init 123 = .ok (.invokespecial 52, 3) := by decide +kernel
theorem dX9_init_126 : decode cX9_init 126 = .ok (.aastore, 1) := by decide +kernel
theorem dX9_init_127 : decode cX9_init 127 = .ok (.iinc 1 1, 3) := by decide +kernel
theorem dX9_init_130 : decode cX9_init 130 = .ok (.goto (-21), 3) := by decide +kernel
theorem dX9_init_133 : decode cX9_init 133 = .ok (.return_, 1) := by decide +kernel
theorem dX9_room_0 : decode cX9_room 0 = .ok (.iload_n 1, 1) := by decide +kernel
theorem dX9_room_1 : decode cX9_room 1 = .ok (.iconst 1, 1) := by decide +kernel
theorem dX9_room_2 : decode cX9_room 2 = .ok (.bipush 12, 2) := by decide +kernel
theorem dX9_room_4 : decode cX9_room 4 = .ok (.invokestatic 53, 3) := by decide +kernel
theorem dX9_room_7 : decode cX9_room 7 = .ok (.ifCond .eq 14, 3) := by decide +kernel
theorem dX9_room_10 : decode cX9_room 10 = .ok (.aload_n 0, 1) := by decide +kernel
theorem dX9_room_11 : decode cX9_room 11 = .ok (.getfield 10, 3) := by decide +kernel
theorem dX9_room_14 : decode cX9_room 14 = .ok (.invokevirtual 57, 3) := by decide +kernel
theorem dX9_room_17 : decode cX9_room 17 = .ok (.iload_n 1, 1) := by decide +kernel
theorem dX9_room_18 : decode cX9_room 18 = .ok (.if_icmp .le 5, 3) := by decide +kernel
theorem dX9_room_21 : decode cX9_room 21 = .ok (.iconst (-1), 1) := by decide +kernel
theorem dX9_room_22 : decode cX9_room 22 = .ok (.ireturn, 1) := by decide +kernel
theorem dX9_room_23 : decode cX9_room 23 = .ok (.aload_n 0, 1) := by decide +kernel
theorem dX9_room_24 : decode cX9_room 24 = .ok (.getfield 10, 3) := by decide +kernel
theorem dX9_room_27 : decode cX9_room 27 = .ok (.getfield 61, 3) := by decide +kernel
theorem dX9_room_30 : decode cX9_room 30 = .ok (.istore_n 2, 1) := by decide +kernel
theorem dX9_room_31 : decode cX9_room 31 = .ok (.aload_n 0, 1) := by decide +kernel
theorem dX9_room_32 : decode cX9_room 32 = .ok (.getfield 10, 3) := by decide +kernel
theorem dX9_room_35 : decode cX9_room 35 = .ok (.iload_n 1, 1) := by decide +kernel
theorem dX9_room_36 : decode cX9_room 36 = .ok (.putfield 61, 3) := by decide +kernel
theorem dX9_room_39 : decode cX9_room 39 = .ok (.iload_n 2, 1) := by decide +kernel
theorem dX9_room_40 : decode cX9_room 40 = .ok (.ireturn, 1) := by decide +kernel
theorem dX9_line_0 : decode cX9_line 0 = .ok (.iload_n 1, 1) := by decide +kernel
theorem dX9_line_1 : decode cX9_line 1 = .ok (.iconst 0, 1) := by decide +kernel
theorem dX9_line_2 : decode cX9_line 2 = .ok (.iconst 2, 1) := by decide +kernel
theorem dX9_line_3 : decode cX9_line 3 = .ok (.invokestatic 53, 3) := by decide +kernel
theorem dX9_line_6 : decode cX9_line 6 = .ok (.ifCond .eq 13, 3) := by decide +kernel
theorem dX9_line_9 : decode cX9_line 9 = .ok (.iload_n 2, 1) := by decide +kernel
theorem dX9_line_10 : decode cX9_line 10 = .ok (.iconst 0, 1) := by decide +kernel
theorem dX9_line_11 : decode cX9_line 11 = .ok (.bipush 12, 2) := by decide +kernel
theorem dX9_line_13 : decode cX9_line 13 = .ok (.invokestatic 53, 3) := by decide +kernel
theorem dX9_line_16 : decode cX9_line 16 = .ok (.ifCond .ne 5, 3) := by decide +kernel
theorem dX9_line_19 : decode cX9_line 19 = .ok (.iconst (-1), 1) := by decide +kernel
theorem dX9_line_20 : decode cX9_line 20 = .ok (.ireturn, 1) := by decide +kernel
theorem dX9_line_21 : decode cX9_line 21 = .ok (.iload_n 1, 1) := by decide +kernel
theorem dX9_line_22 : decode cX9_line 22 = .ok (.ifCond .ne 7, 3) := by decide +kernel
theorem dX9_line_25 : decode cX9_line 25 = .ok (.iconst 0, 1) := by decide +kernel
theorem dX9_line_26 : decode cX9_line 26 = .ok (.goto 4, 3) := by decide +kernel
theorem dX9_line_29 : decode cX9_line 29 = .ok (.iconst 1, 1) := by decide +kernel
theorem dX9_line_30 : decode cX9_line 30 = .ok (.istore_n 3, 1) := by decide +kernel
theorem dX9_line_31 : decode cX9_line 31 = .ok (.aload_n 0, 1) := by decide +kernel
theorem dX9_line_32 : decode cX9_line 32 = .ok (.getfield 10, 3) := by decide +kernel
theorem dX9_line_35 : decode cX9_line 35 = .ok (.invokevirtual 57, 3) := by decide +kernel
theorem dX9_line_38 : decode cX9_line 38 = .ok (.iload_n 3, 1) := by decide +kernel
theorem dX9_line_39 : decode cX9_line 39 = .ok (.iadd, 1) := by decide +kernel
theorem dX9_line_40 : decode cX9_line 40 = .ok (.aload_n 0, 1) := by decide +kernel
theorem dX9_line_41 : decode cX9_line 41 = .ok (.getfield 10, 3) := by decide +kernel
theorem dX9_line_44 : decode cX9_line 44 = .ok (.getfield 61, 3) := by decide +kernel
theorem dX9_line_47 : decode cX9_line 47 = .ok (.if_icmp .le 6, 3) := by decide +kernel
theorem dX9_line_50 : decode cX9_line 50 = .ok (.bipush (-2), 2) := by decide +kernel
theorem dX9_line_52 : decode cX9_line 52 = .ok (.ireturn, 1) := by decide +kernel
theorem dX9_line_53 : decode cX9_line 53 = .ok (.aload_n 0, 1) := by decide +kernel
theorem dX9_line_54 : decode cX9_line 54 = .ok (.getfield 10, 3) := by decide +kernel
theorem dX9_line_57 : decode cX9_line 57 = .ok (.getfield 66, 3) := by decide +kernel
theorem dX9_line_60 : decode cX9_line 60 = .ok (.iconst 4, 1) := by decide +kernel
theorem dX9_line_61 : decode cX9_line 61 = .ok (.if_icmp .lt 6, 3) := by decide +kernel
theorem dX9_line_64 : decode cX9_line 64 = .ok (.bipush (-3), 2) := by decide +kernel
theorem dX9_line_66 : decode cX9_line 66 = .ok (.ireturn, 1) := by decide +kernel
theorem dX9_line_67 : decode cX9_line 67 = .ok (.aload_n 0, 1) := by decide +kernel
theorem dX9_line_68 : decode cX9_line 68 = .ok (.getfield 10, 3) := by decide +kernel
theorem dX9_line_71 : decode cX9_line 71 = .ok (.iload_n 1, 1) := by decide +kernel
theorem dX9_line_72 : decode cX9_line 72 = .ok (.iload_n 2, 1) := by decide +kernel
theorem dX9_line_73 : decode cX9_line 73 = .ok (.invokestatic 69, 3) := by decide +kernel
theorem dX9_line_76 : decode cX9_line 76 = .ok (.invokevirtual 73, 3) := by decide +kernel
theorem dX9_line_79 : decode cX9_line 79 = .ok (.ireturn, 1) := by decide +kernel
theorem dX9_mark_0 : decode cX9_mark 0 = .ok (.aload_n 0, 1) := by decide +kernel
theorem dX9_mark_1 : decode cX9_mark 1 = .ok (.getfield 10, 3) := by decide +kernel
theorem dX9_mark_4 : decode cX9_mark 4 = .ok (.iload_n 1, 1) := by decide +kernel
theorem dX9_mark_5 : decode cX9_mark 5 = .ok (.invokevirtual 77, 3) := by decide +kernel
theorem dX9_mark_8 : decode cX9_mark 8 = .ok (.astore_n 3, 1) := by decide +kernel
theorem dX9_mark_9 : decode cX9_mark 9 = .ok (.aload_n 3, 1) := by decide +kernel
theorem dX9_mark_10 : decode cX9_mark 10 = .ok (.ifnull 13, 3) := by decide +kernel
theorem dX9_mark_13 : decode cX9_mark 13 = .ok (.iload_n 2, 1) := by decide +kernel
theorem dX9_mark_14 : decode cX9_mark 14 = .ok (.iconst 0, 1) := by decide +kernel
theorem dX9_mark_15 : decode cX9_mark 15 = .ok (.bipush 12, 2) := by decide +kernel
theorem dX9_mark_17 : decode cX9_mark 17 = .ok (.invokestatic 53, 3) := by decide +kernel
theorem dX9_mark_20 : decode cX9_mark 20 = .ok (.ifCond .ne 5, 3) := by decide +kernel
theorem dX9_mark_23 : decode cX9_mark 23 = .ok (.iconst (-1), 1) := by decide +kernel
theorem dX9_mark_24 : decode cX9_mark 24 = .ok (.ireturn, 1) := by decide +kernel
theorem dX9_mark_25 : decode cX9_mark 25 = .ok (.aload_n 3, 1) := by decide +kernel
theorem dX9_mark_26 : decode cX9_mark 26 = .ok (.getfield 81, 3) := by decide +kernel
theorem dX9_mark_29 : decode cX9_mark 29 = .ok (.istore 4, 2) := by decide +kernel
theorem dX9_mark_31 : decode cX9_mark 31 = .ok (.aload_n 3, 1) := by decide +kernel
theorem dX9_mark_32 : decode cX9_mark 32 = .ok (.iload_n 2, 1) := by decide +kernel
theorem dX9_mark_33 : decode cX9_mark 33 = .ok (.putfield 81, 3) := by decide +kernel
