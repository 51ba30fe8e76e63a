theorem dX9_mark_36 : decode cX9_mark 36 = .ok (.iload 4, 2) := by decide +kernel
theorem dX9_mark_38 : decode cX9_mark 38 = .ok (.ireturn, 1) := by decide +kernel
theorem dX9_pace_0 : decode cX9_pace 0 = .ok (.aload_n 0, 1) := by decide +kernel
theorem dX9_pace_1 : decode cX9_pace 1 = .ok (.getfield 10, 3) := by decide +kernel
theorem dX9_pace_4 : decode cX9_pace 4 = .ok (.iload_n 1, 1) := by decide +kernel
theorem dX9_pace_5 : decode cX9_pace 5 = .ok (.invokevirtual 77, 3) := by decide +kernel
theorem dX9_pace_8 : decode cX9_pace 8 = .ok (.astore_n 3, 1) := by decide +kernel
theorem dX9_pace_9 : decode cX9_pace 9 = .ok (.aload_n 3, 1) := by decide +kernel
theorem dX9_pace_10 : decode cX9_pace 10 = .ok (.ifnull 12, 3) := by decide +kernel
theorem dX9_pace_13 : decode cX9_pace 13 = .ok (.iload_n 2, 1) := by decide +kernel
theorem dX9_pace_14 : decode cX9_pace 14 = .ok (.iconst 1, 1) := by decide +kernel
theorem dX9_pace_15 : decode cX9_pace 15 = .ok (.iconst 5, 1) := by decide +kernel
theorem dX9_pace_16 : decode cX9_pace 16 = .ok (.invokestatic 53, 3) := by decide +kernel
theorem dX9_pace_19 : decode cX9_pace 19 = .ok (.ifCond .ne 5, 3) := by decide +kernel
theorem dX9_pace_22 : decode cX9_pace 22 = .ok (.iconst (-1), 1) := by decide +kernel
theorem dX9_pace_23 : decode cX9_pace 23 = .ok (.ireturn, 1) := by decide +kernel
theorem dX9_pace_24 : decode cX9_pace 24 = .ok (.aload_n 3, 1) := by decide +kernel
theorem dX9_pace_25 : decode cX9_pace 25 = .ok (.getfield 86, 3) := by decide +kernel
theorem dX9_pace_28 : decode cX9_pace 28 = .ok (.istore 4, 2) := by decide +kernel
theorem dX9_pace_30 : decode cX9_pace 30 = .ok (.aload_n 3, 1) := by decide +kernel
theorem dX9_pace_31 : decode cX9_pace 31 = .ok (.iload_n 2, 1) := by decide +kernel
theorem dX9_pace_32 : decode cX9_pace 32 = .ok (.putfield 86, 3) := by decide +kernel
theorem dX9_pace_35 : decode cX9_pace 35 = .ok (.iload 4, 2) := by decide +kernel
theorem dX9_pace_37 : decode cX9_pace 37 = .ok (.ireturn, 1) := by decide +kernel
theorem dX9_part_0 : decode cX9_part 0 = .ok (.aload_n 0, 1) := by decide +kernel
theorem dX9_part_1 : decode cX9_part 1 = .ok (.getfield 10, 3) := by decide +kernel
theorem dX9_part_4 : decode cX9_part 4 = .ok (.iload_n 1, 1) := by decide +kernel
theorem dX9_part_5 : decode cX9_part 5 = .ok (.invokevirtual 77, 3) := by decide +kernel
theorem dX9_part_8 : decode cX9_part 8 = .ok (.astore_n 3, 1) := by decide +kernel
theorem dX9_part_9 : decode cX9_part 9 = .ok (.aload_n 3, 1) := by decide +kernel
theorem dX9_part_10 : decode cX9_part 10 = .ok (.ifnull 13, 3) := by decide +kernel
theorem dX9_part_13 : decode cX9_part 13 = .ok (.iload_n 2, 1) := by decide +kernel
theorem dX9_part_14 : decode cX9_part 14 = .ok (.iconst 0, 1) := by decide +kernel
theorem dX9_part_15 : decode cX9_part 15 = .ok (.bipush 12, 2) := by decide +kernel
theorem dX9_part_17 : decode cX9_part 17 = .ok (.invokestatic 53, 3) := by decide +kernel
theorem dX9_part_20 : decode cX9_part 20 = .ok (.ifCond .ne 5, 3) := by decide +kernel
theorem dX9_part_23 : decode cX9_part 23 = .ok (.iconst (-1), 1) := by decide +kernel
theorem dX9_part_24 : decode cX9_part 24 = .ok (.ireturn, 1) := by decide +kernel
theorem dX9_part_25 : decode cX9_part 25 = .ok (.aload_n 3, 1) := by decide +kernel
theorem dX9_part_26 : decode cX9_part 26 = .ok (.instanceof 64, 3) := by decide +kernel
theorem dX9_part_29 : decode cX9_part 29 = .ok (.ifCond .eq 53, 3) := by decide +kernel
theorem dX9_part_32 : decode cX9_part 32 = .ok (.aload_n 3, 1) := by decide +kernel
theorem dX9_part_33 : decode cX9_part 33 = .ok (.checkcast 64, 3) := by decide +kernel
theorem dX9_part_36 : decode cX9_part 36 = .ok (.astore 4, 2) := by decide +kernel
theorem dX9_part_38 : decode cX9_part 38 = .ok (.aload_n 0, 1) := by decide +kernel
theorem dX9_part_39 : decode cX9_part 39 = .ok (.getfield 10, 3) := by decide +kernel
theorem dX9_part_42 : decode cX9_part 42 = .ok (.invokevirtual 57, 3) := by decide +kernel
theorem dX9_part_45 : decode cX9_part 45 = .ok (.aload 4, 2) := by decide +kernel
theorem dX9_part_47 : decode cX9_part 47 = .ok (.getfield 89, 3) := by decide +kernel
theorem dX9_part_50 : decode cX9_part 50 = .ok (.isub, 1) := by decide +kernel
theorem dX9_part_51 : decode cX9_part 51 = .ok (.iload_n 2, 1) := by decide +kernel
theorem dX9_part_52 : decode cX9_part 52 = .ok (.iadd, 1) := by decide +kernel
theorem dX9_part_53 : decode cX9_part 53 = .ok (.aload_n 0, 1) := by decide +kernel
theorem dX9_part_54 : decode cX9_part 54 = .ok (.getfield 10, 3) := by decide +kernel
theorem dX9_part_57 : decode cX9_part 57 = .ok (.getfield 61, 3) := by decide +kernel
theorem dX9_part_60 : decode cX9_part 60 = .ok (.if_icmp .le 6, 3) := by decide +kernel
theorem dX9_part_63 : decode cX9_part 63 = .ok (.bipush (-2), 2) := by decide +kernel
theorem dX9_part_65 : decode cX9_part 65 = .ok (.ireturn, 1) := by decide +kernel
theorem dX9_part_66 : decode cX9_part 66 = .ok (.aload 4, 2) := by decide +kernel
theorem dX9_part_68 : decode cX9_part 68 = .ok (.getfield 89, 3) := by decide +kernel
theorem dX9_part_71 : decode cX9_part 71 = .ok (.istore 5, 2) := by decide +kernel
theorem dX9_part_73 : decode cX9_part 73 = .ok (.aload 4, 2) := by decide +kernel
theorem dX9_part_75 : decode cX9_part 75 = .ok (.iload_n 2, 1) := by decide +kernel
theorem dX9_part_76 : decode cX9_part 76 = .ok (.putfield 89, 3) := by decide +kernel
theorem dX9_part_79 : decode cX9_part 79 = .ok (.iload 5, 2) := by decide +kernel
theorem dX9_part_81 : decode cX9_part 81 = .ok (.ireturn, 1) := by decide +kernel
theorem dX9_part_82 : decode cX9_part 82 = .ok (.bipush (-12), 2) := by decide +kernel
theorem dX9_part_84 : decode cX9_part 84 = .ok (.ireturn, 1) := by decide +kernel
theorem dX9_hold_0 : decode cX9_hold 0 = .ok (.aload_n 0, 1) := by decide +kernel
theorem dX9_hold_1 : decode cX9_hold 1 = .ok (.getfield 10, 3) := by decide +kernel
theorem dX9_hold_4 : decode cX9_hold 4 = .ok (.iload_n 1, 1) := by decide +kernel
theorem dX9_hold_5 : decode cX9_hold 5 = .ok (.invokevirtual 77, 3) := by decide +kernel
theorem dX9_hold_8 : decode cX9_hold 8 = .ok (.astore 5, 2) := by decide +kernel
theorem dX9_hold_10 : decode cX9_hold 10 = .ok (.aload 5, 2) := by decide +kernel
theorem dX9_hold_12 : decode cX9_hold 12 = .ok (.ifnull 34, 3) := by decide +kernel
theorem dX9_hold_15 : decode cX9_hold 15 = .ok (.iload_n 2, 1) := by decide +kernel
theorem dX9_hold_16 : decode cX9_hold 16 = .ok (.iconst 1, 1) := by decide +kernel
theorem dX9_hold_17 : decode cX9_hold 17 = .ok (.bipush 12, 2) := by decide +kernel
theorem dX9_hold_19 : decode cX9_hold 19 = .ok (.invokestatic 53, 3) := by decide +kernel
theorem dX9_hold_22 : decode cX9_hold 22 = .ok (.ifCond .eq 24, 3) := by decide +kernel
theorem dX9_hold_25 : decode cX9_hold 25 = .ok (.iload_n 3, 1) := by decide +kernel
theorem dX9_hold_26 : decode cX9_hold 26 = .ok (.iconst 0, 1) := by decide +kernel
theorem dX9_hold_27 : decode cX9_hold 27 = .ok (.iload_n 2, 1) := by decide +kernel
theorem dX9_hold_28 : decode cX9_hold 28 = .ok (.iconst 1, 1) := by decide +kernel
theorem dX9_hold_29 : decode cX9_hold 29 = .ok (.isub, 1) := by decide +kernel
theorem dX9_hold_30 : decode cX9_hold 30 = .ok (.invokestatic 53, 3) := by decide +kernel
theorem dX9_hold_33 : decode cX9_hold 33 = .ok (.ifCond .eq 13, 3) := by decide +kernel
theorem dX9_hold_36 : decode cX9_hold 36 = .ok (.iload 4, 2) := by decide +kernel
theorem dX9_hold_38 : decode cX9_hold 38 = .ok (.iconst 0, 1) := by decide +kernel
theorem dX9_hold_39 : decode cX9_hold 39 = .ok (.iconst 5, 1) := by decide +kernel
theorem dX9_hold_40 : decode cX9_hold 40 = .ok (.invokestatic 53, 3) := by decide +kernel
theorem dX9_hold_43 : decode cX9_hold 43 = .ok (.ifCond .ne 5, 3) := by decide +kernel
theorem dX9_hold_46 : decode cX9_hold 46 = .ok (.iconst (-1), 1) := by decide +kernel
theorem dX9_hold_47 : decode cX9_hold 47 = .ok (.ireturn, 1) := by decide +kernel
theorem dX9_hold_48 : decode cX9_hold 48 = .ok (.aload 5, 2) := by decide +kernel
theorem dX9_hold_50 : decode cX9_hold 50 = .ok (.instanceof 92, 3) := by decide +kernel
theorem dX9_hold_53 : decode cX9_hold 53 = .ok (.ifCond .eq 31, 3) := by decide +kernel
theorem dX9_hold_56 : decode cX9_hold 56 = .ok (.aload 5, 2) := by decide +kernel
theorem dX9_hold_58 : decode cX9_hold 58 = .ok (.checkcast 92, 3) := by decide +kernel
theorem dX9_hold_61 : decode cX9_hold 61 = .ok (.astore 6, 2) := by decide +kernel
theorem dX9_hold_63 : decode cX9_hold 63 = .ok (.aload 6, 2) := by decide +kernel
theorem dX9_hold_65 : decode cX9_hold 65 = .ok (.iload_n 2, 1) := by decide +kernel
theorem dX9_hold_66 : decode cX9_hold 66 = .ok (.putfield 94, 3) := by decide +kernel
theorem dX9_hold_69 : decode cX9_hold 69 = .ok (.aload 6, 2) := by decide +kernel
theorem dX9_hold_71 : decode cX9_hold 71 = .ok (.iload_n 3, 1) := by decide +kernel
theorem dX9_hold_72 : decode cX9_hold 72 = .ok (.putfield 97, 3) := by decide +kernel
theorem dX9_hold_75 : decode cX9_hold 75 = .ok (.aload 6, 2) := by decide +kernel
theorem dX9_hold_77 : decode cX9_hold 77 = .ok (.iload 4, 2) := by decide +kernel
theorem dX9_hold_79 : decode cX9_hold 79 = .ok (.putfield 100, 3) := by decide +kernel
theorem dX9_hold_82 : decode cX9_hold 82 = .ok (.iconst 1, 1) := by decide +kernel
theorem dX9_hold_83 : decode cX9_hold 83 = .ok (.ireturn, 1) := by decide +kernel
theorem dX9_hold_84 : decode cX9_hold 84 = .ok (.bipush (-12), 2) := by decide +kernel
theorem dX9_hold_86 : decode cX9_hold 86 = .ok (.ireturn, 1) := by decide +kernel
theorem dX9_told_0 : decode cX9_told 0 = .ok (.aload_n 0, 1) := by decide +kernel
theorem dX9_told_1 : decode cX9_told 1 = .ok (.getfield 10, 3) := by decide +kernel
theorem dX9_told_4 : decode cX9_told 4 = .ok (.iload_n 1, 1) := by decide +kernel
theorem dX9_told_5 : decode cX9_told 5 = .ok (.invokevirtual 77, 3) := by decide +kernel
theorem dX9_told_8 : decode cX9_told 8 = .ok (.astore_n 3, 1) := by decide +kernel
theorem dX9_told_9 : decode cX9_told 9 = .ok (.aload_n 3, 1) := by decide +kernel
theorem dX9_told_10 : decode cX9_told 10 = .ok (.ifnonnull 5, 3) := by decide +kernel
theorem dX9_told_13 : decode cX9_told 13 = .ok (.iconst (-1), 1) := by decide +kernel
theorem dX9_told_14 : decode cX9_told 14 = .ok (.ireturn, 1) := by decide +kernel
theorem dX9_told_15 : decode cX9_told 15 = .ok (.iload_n 2, 1) := by decide +kernel
theorem dX9_told_16 : decode cX9_told 16 = .ok (.tableswitch 92 0 7 #[48, 53, 58, 63, 63, 63, 63, 87], 48) := by decide +kernel
theorem dX9_told_64 : decode cX9_told 64 = .ok (.aload_n 3, 1) := by decide +kernel
theorem dX9_told_65 : decode cX9_told 65 = .ok (.invokevirtual 103, 3) := by decide +kernel
theorem dX9_told_68 : decode cX9_told 68 = .ok (.ireturn, 1) := by decide +kernel
theorem dX9_told_69 : decode cX9_told 69 = .ok (.aload_n 3, 1) := by decide +kernel
theorem dX9_told_70 : decode cX9_told 70 = .ok (.getfield 81, 3) := by decide +kernel
theorem dX9_told_73 : decode cX9_told 73 = .ok (.ireturn, 1) := by decide +kernel
theorem dX9_told_74 : decode cX9_told 74 = .ok (.aload_n 3, 1) := by decide +kernel
theorem dX9_told_75 : decode cX9_told 75 = .ok (.invokevirtual 106, 3) := by decide +kernel
theorem dX9_told_78 : decode cX9_told 78 = .ok (.ireturn, 1) := by decide +kernel
theorem dX9_told_79 : decode cX9_told 79 = .ok (.aload_n 3, 1) := by decide +kernel
theorem dX9_told_80 : decode cX9_told 80 = .ok (.instanceof 92, 3) := by decide +kernel
theorem dX9_told_83 : decode cX9_told 83 = .ok (.ifCond .eq 18, 3) := by decide +kernel
theorem dX9_told_86 : decode cX9_told 86 = .ok (.aload_n 3, 1) := by decide +kernel
theorem dX9_told_87 : decode cX9_told 87 = .ok (.checkcast 92, 3) := by decide +kernel
theorem dX9_told_90 : decode cX9_told 90 = .ok (.astore 4, 2) := by decide +kernel
theorem dX9_told_92 : decode cX9_told 92 = .ok (.aload 4, 2) := by decide +kernel
theorem dX9_told_94 : decode cX9_told 94 = .ok (.iload_n 2, 1) := by decide +kernel
theorem dX9_told_95 : decode cX9_told 95 = .ok (.invokevirtual 109, 3) := by decide +kernel
theorem dX9_told_98 : decode cX9_told 98 = .ok (.goto 4, 3) := by decide +kernel
theorem dX9_told_101 : decode cX9_told 101 = .ok (.iconst 0, 1) := by decide +kernel
theorem dX9_told_102 : decode cX9_told 102 = .ok (.ireturn, 1) := by decide +kernel
theorem dX9_told_103 : decode cX9_told 103 = .ok (.aload_n 3, 1) := by decide +kernel
theorem dX9_told_104 : decode cX9_told 104 = .ok (.getfield 86, 3) := by decide +kernel
theorem dX9_told_107 : decode cX9_told 107 = .ok (.ireturn, 1) := by decide +kernel
theorem dX9_told_108 : decode cX9_told 108 = .ok (.iconst (-1), 1) := by decide +kernel
theorem dX9_told_109 : decode cX9_told 109 = .ok (.ireturn, 1) := by decide +kernel
theorem dX9_share_0 : decode cX9_share 0 = .ok (.iload_n 1, 1) := by decide +kernel
theorem dX9_share_1 : decode cX9_share 1 = .ok (.iconst 1, 1) := by decide +kernel
theorem dX9_share_2 : decode cX9_share 2 = .ok (.sipush 160, 3) := by decide +kernel
theorem dX9_share_5 : decode cX9_share 5 = .ok (.invokestatic 53, 3) := by decide +kernel
theorem dX9_share_8 : decode cX9_share 8 = .ok (.ifCond .ne 5, 3) := by decide +kernel
theorem dX9_share_11 : decode cX9_share 11 = .ok (.iconst (-1), 1) := by decide +kernel
theorem dX9_share_12 : decode cX9_share 12 = .ok (.ireturn, 1) := by decide +kernel
theorem dX9_share_13 : decode cX9_share 13 = .ok (.aload_n 0, 1) := by decide +kernel
theorem dX9_share_14 : decode cX9_share 14 = .ok (.getfield 10, 3) := by decide +kernel
theorem dX9_share_17 : decode cX9_share 17 = .ok (.getfield 113, 3) := by decide +kernel
theorem dX9_share_20 : decode cX9_share 20 = .ok (.istore_n 2, 1) := by decide +kernel
theorem dX9_share_21 : decode cX9_share 21 = .ok (.aload_n 0, 1) := by decide +kernel
theorem dX9_share_22 : decode cX9_share 22 = .ok (.getfield 10, 3) := by decide +kernel
theorem dX9_share_25 : decode cX9_share 25 = .ok (.iload_n 1, 1) := by decide +kernel
theorem dX9_share_26 : decode cX9_share 26 = .ok (.putfield 113, 3) := by decide +kernel
theorem dX9_share_29 : decode cX9_share 29 = .ok (.iload_n 2, 1) := by decide +kernel
theorem dX9_share_30 : decode cX9_share 30 = .ok (.ireturn, 1) := by decide +kernel
theorem dX9_sheet_0 : decode cX9_sheet 0 = .ok (.iload_n 1, 1) := by decide +kernel
theorem dX9_sheet_1 : decode cX9_sheet 1 = .ok (.invokestatic 116, 3) := by decide +kernel
theorem dX9_sheet_4 : decode cX9_sheet 4 = .ok (.ifCond .eq 17, 3) := by decide +kernel
theorem dX9_sheet_7 : decode cX9_sheet 7 = .ok (.iload_n 2, 1) := by decide +kernel
theorem dX9_sheet_8 : decode cX9_sheet 8 = .ok (.invokestatic 120, 3) := by decide +kernel
theorem dX9_sheet_11 : decode cX9_sheet 11 = .ok (.ifCond .eq 10, 3) := by decide +kernel
theorem dX9_sheet_14 : decode cX9_sheet 14 = .ok (.iload_n 3, 1) := by decide +kernel
theorem dX9_sheet_15 : decode cX9_sheet 15 = .ok (.sipush 160, 3) := by decide +kernel
theorem dX9_sheet_18 : decode cX9_sheet 18 = .ok (.if_icmp .le 5, 3) := by decide +kernel
theorem dX9_sheet_21 : decode cX9_sheet 21 = .ok (.iconst (-1), 1) := by decide +kernel
theorem dX9_sheet_22 : decode cX9_sheet 22 = .ok (.ireturn, 1) := by decide +kernel
theorem dX9_sheet_23 : decode cX9_sheet 23 = .ok (.iload_n 3, 1) := by decide +kernel
theorem dX9_sheet_24 : decode cX9_sheet 24 = .ok (.ifCond .ge 6, 3) := by decide +kernel
theorem dX9_sheet_27 : decode cX9_sheet 27 = .ok (.bipush (-14), 2) := by decide +kernel
theorem dX9_sheet_29 : decode cX9_sheet 29 = .ok (.ireturn, 1) := by decide +kernel
theorem dX9_sheet_30 : decode cX9_sheet 30 = .ok (.aload_n 0, 1) := by decide +kernel
theorem dX9_sheet_31 : decode cX9_sheet 31 = .ok (.getfield 24, 3) := by decide +kernel
theorem dX9_sheet_34 : decode cX9_sheet 34 = .ok (.iload_n 1, 1) := by decide +kernel
theorem dX9_sheet_35 : decode cX9_sheet 35 = .ok (.aaload, 1) := by decide +kernel
theorem dX9_sheet_36 : decode cX9_sheet 36 = .ok (.iload_n 2, 1) := by decide +kernel
theorem dX9_sheet_37 : decode cX9_sheet 37 = .ok (.iload_n 3, 1) := by decide +kernel
theorem dX9_sheet_38 : decode cX9_sheet 38 = .ok (.invokevirtual 123, 3) := by decide +kernel
theorem dX9_sheet_41 : decode cX9_sheet 41 = .ok (.iload_n 3, 1) := by decide +kernel
theorem dX9_sheet_42 : decode cX9_sheet 42 = .ok (.ireturn, 1) := by decide +kernel
theorem dX9_drop_0 : decode cX9_drop 0 = .ok (.iload_n 1, 1) := by decide +kernel
theorem dX9_drop_1 : decode cX9_drop 1 = .ok (.invokestatic 116, 3) := by decide +kernel
theorem dX9_drop_4 : decode cX9_drop 4 = .ok (.ifCond .ne 5, 3) := by decide +kernel
theorem dX9_drop_7 : decode cX9_drop 7 = .ok (.iconst (-1), 1) := by decide +kernel
theorem dX9_drop_8 : decode cX9_drop 8 = .ok (.ireturn, 1) := by decide +kernel
theorem dX9_drop_9 : decode cX9_drop 9 = .ok (.aload_n 0, 1) := by decide +kernel
theorem dX9_drop_10 : decode cX9_drop 10 = .ok (.getfield 24, 3) := by decide +kernel
theorem dX9_drop_13 : decode cX9_drop 13 = .ok (.iload_n 1, 1) := by decide +kernel
theorem dX9_drop_14 : decode cX9_drop 14 = .ok (.aaload, 1) := by decide +kernel
theorem dX9_drop_15 : decode cX9_drop 15 = .ok (.astore_n 2, 1) := by decide +kernel
theorem dX9_drop_16 : decode cX9_drop 16 = .ok (.aload_n 2, 1) := by decide +kernel
theorem dX9_drop_17 : decode cX9_drop 17 = .ok (.getfield 127, 3) := by decide +kernel
theorem dX9_drop_20 : decode cX9_drop 20 = .ok (.ifCond .ne 6, 3) := by decide +kernel
theorem dX9_drop_23 : decode cX9_drop 23 = .ok (.bipush (-11), 2) := by decide +kernel
theorem dX9_drop_25 : decode cX9_drop 25 = .ok (.ireturn, 1) := by decide +kernel
theorem dX9_drop_26 : decode cX9_drop 26 = .ok (.aload_n 2, 1) := by decide +kernel
theorem dX9_drop_27 : decode cX9_drop 27 = .ok (.iconst 0, 1) := by decide +kernel
theorem dX9_drop_28 : decode cX9_drop 28 = .ok (.putfield 127, 3) := by decide +kernel
theorem dX9_drop_31 : decode cX9_drop 31 = .ok (.aload_n 2, 1) := by decide +kernel
theorem dX9_drop_32 : decode cX9_drop 32 = .ok (.getfield 131, 3) := by decide +kernel
theorem dX9_drop_35 : decode cX9_drop 35 = .ok (.ireturn, 1) := by decide +kernel
theorem dX9_item_0 : decode cX9_item 0 = .ok (.iload_n 1, 1) := by decide +kernel
theorem dX9_item_1 : decode cX9_item 1 = .ok (.invokestatic 116, 3) := by decide +kernel
theorem dX9_item_4 : decode cX9_item 4 = .ok (.ifCond .eq 10, 3) := by decide +kernel
theorem dX9_item_7 : decode cX9_item 7 = .ok (.iload_n 2, 1) := by decide +kernel
theorem dX9_item_8 : decode cX9_item 8 = .ok (.invokestatic 120, 3) := by decide +kernel
theorem dX9_item_11 : decode cX9_item 11 = .ok (.ifCond .ne 5, 3) := by decide +kernel
theorem dX9_item_14 : decode cX9_item 14 = .ok (.iconst (-1), 1) := by decide +kernel
theorem dX9_item_15 : decode cX9_item 15 = .ok (.ireturn, 1) := by decide +kernel
theorem dX9_item_16 : decode cX9_item 16 = .ok (.aload_n 0, 1) := by decide +kernel
theorem dX9_item_17 : decode cX9_item 17 = .ok (.getfield 24, 3) := by decide +kernel
theorem dX9_item_20 : decode cX9_item 20 = .ok (.iload_n 1, 1) := by decide +kernel
theorem dX9_item_21 : decode cX9_item 21 = .ok (.aaload, 1) := by decide +kernel
theorem dX9_item_22 : decode cX9_item 22 = .ok (.astore 5, 2) := by decide +kernel
theorem dX9_item_24 : decode cX9_item 24 = .ok (.aload 5, 2) := by decide +kernel
theorem dX9_item_26 : decode cX9_item 26 = .ok (.getfield 127, 3) := by decide +kernel
theorem dX9_item_29 : decode cX9_item 29 = .ok (.ifCond .ne 6, 3) := by decide +kernel
theorem dX9_item_32 : decode cX9_item 32 = .ok (.bipush (-11), 2) := by decide +kernel
theorem dX9_item_34 : decode cX9_item 34 = .ok (.ireturn, 1) := by decide +kernel
theorem dX9_item_35 : decode cX9_item 35 = .ok (.aload 5, 2) := by decide +kernel
theorem dX9_item_37 : decode cX9_item 37 = .ok (.getfield 134, 3) := by decide +kernel
theorem dX9_item_40 : decode cX9_item 40 = .ok (.iload_n 2, 1) := by decide +kernel
theorem dX9_item_41 : decode cX9_item 41 = .ok (.if_icmp .eq 6, 3) := by decide +kernel
theorem dX9_item_44 : decode cX9_item 44 = .ok (.bipush (-12), 2) := by decide +kernel
theorem dX9_item_46 : decode cX9_item 46 = .ok (.ireturn, 1) := by decide +kernel
theorem dX9_item_47 : decode cX9_item 47 = .ok (.aload 5, 2) := by decide +kernel
theorem dX9_item_49 : decode cX9_item 49 = .ok (.iload_n 3, 1) := by decide +kernel
theorem dX9_item_50 : decode cX9_item 50 = .ok (.iconst 1, 1) := by decide +kernel
theorem dX9_item_51 : decode cX9_item 51 = .ok (.invokevirtual 137, 3) := by decide +kernel
theorem dX9_item_54 : decode cX9_item 54 = .ok (.ifCond .ne 6, 3) := by decide +kernel
theorem dX9_item_57 : decode cX9_item 57 = .ok (.bipush (-13), 2) := by decide +kernel
theorem dX9_item_59 : decode cX9_item 59 = .ok (.ireturn, 1) := by decide +kernel
theorem dX9_item_60 : decode cX9_item 60 = .ok (.aload 5, 2) := by decide +kernel
theorem dX9_item_62 : decode cX9_item 62 = .ok (.iload_n 3, 1) := by decide +kernel
theorem dX9_item_63 : decode cX9_item 63 = .ok (.iload 4, 2) := by decide +kernel
theorem dX9_item_65 : decode cX9_item 65 = .ok (.invokevirtual 141, 3) := by decide +kernel
theorem dX9_item_68 : decode cX9_item 68 = .ok (.iconst 1, 1) := by decide +kernel
theorem dX9_item_69 : decode cX9_item 69 = .ok (.ireturn, 1) := by decide +kernel
theorem dX9_copy_0 : decode cX9_copy 0 = .ok (.iload_n 1, 1) := by decide +kernel
theorem dX9_copy_1 : decode cX9_copy 1 = .ok (.invokestatic 116, 3) := by decide +kernel
theorem dX9_copy_4 : decode cX9_copy 4 = .ok (.ifCond .eq 10, 3) := by decide +kernel
theorem dX9_copy_7 : decode cX9_copy 7 = .ok (.iload_n 3, 1) := by decide +kernel
theorem dX9_copy_8 : decode cX9_copy 8 = .ok (.invokestatic 116, 3) := by decide +kernel
theorem dX9_copy_11 : decode cX9_copy 11 = .ok (.ifCond .ne 5, 3) := by decide +kernel
theorem dX9_copy_14 : decode cX9_copy 14 = .ok (.iconst (-1), 1) := by decide +kernel
theorem dX9_copy_15 : decode cX9_copy 15 = .ok (.ireturn, 1) := by decide +kernel
theorem dX9_copy_16 : decode cX9_copy 16 = .ok (.aload_n 0, 1) := by decide +kernel
theorem dX9_copy_17 : decode cX9_copy 17 = .ok (.getfield 24, 3) := by decide +kernel
theorem dX9_copy_20 : decode cX9_copy 20 = .ok (.iload_n 1, 1) := by decide +kernel
theorem dX9_copy_21 : decode cX9_copy 21 = .ok (.aaload, 1) := by decide +kernel
theorem dX9_copy_22 : decode cX9_copy 22 = .ok (.astore 6, 2) := by decide +kernel
theorem dX9_copy_24 : decode cX9_copy 24 = .ok (.aload_n 0, 1) := by decide +kernel
theorem dX9_copy_25 : decode cX9_copy 25 = .ok (.getfield 24, 3) := by decide +kernel
theorem dX9_copy_28 : decode cX9_copy 28 = .ok (.iload_n 3, 1) := by decide +kernel
theorem dX9_copy_29 : decode cX9_copy 29 = .ok (.aaload, 1) := by decide +kernel
theorem dX9_copy_30 : decode cX9_copy 30 = .ok (.astore 7, 2) := by decide +kernel
theorem dX9_copy_32 : decode cX9_copy 32 = .ok (.aload 6, 2) := by decide +kernel
theorem dX9_copy_34 : decode cX9_copy 34 = .ok (.getfield 127, 3) := by decide +kernel
theorem dX9_copy_37 : decode cX9_copy 37 = .ok (.ifCond .eq 11, 3) := by decide +kernel
theorem dX9_copy_40 : decode cX9_copy 40 = .ok (.aload 7, 2) := by decide +kernel
theorem dX9_copy_42 : decode cX9_copy 42 = .ok (.getfield 127, 3) := by decide +kernel
theorem dX9_copy_45 : decode cX9_copy 45 = .ok (.ifCond .ne 6, 3) := by decide +kernel
theorem dX9_copy_48 : decode cX9_copy 48 = .ok (.bipush (-11), 2) := by decide +kernel
theorem dX9_copy_50 : decode cX9_copy 50 = .ok (.ireturn, 1) := by decide +kernel
theorem dX9_copy_51 : decode cX9_copy 51 = .ok (.aload 6, 2) := by decide +kernel
theorem dX9_copy_53 : decode cX9_copy 53 = .ok (.getfield 134, 3) := by decide +kernel
theorem dX9_copy_56 : decode cX9_copy 56 = .ok (.aload 7, 2) := by decide +kernel
theorem dX9_copy_58 : decode cX9_copy 58 = .ok (.getfield 134, 3) := by decide +kernel
theorem dX9_copy_61 : decode cX9_copy 61 = .ok (.if_icmp .eq 6, 3) := by decide +kernel
theorem dX9_copy_64 : decode cX9_copy 64 = .ok (.bipush (-12), 2) := by decide +kernel
theorem dX9_copy_66 : decode cX9_copy 66 = .ok (.ireturn, 1) := by decide +kernel
theorem dX9_copy_67 : decode cX9_copy 67 = .ok (.aload 6, 2) := by decide +kernel
theorem dX9_copy_69 : decode cX9_copy 69 = .ok (.iload_n 2, 1) := by decide +kernel
theorem dX9_copy_70 : decode cX9_copy 70 = .ok (.iload 5, 2) := by decide +kernel
theorem dX9_copy_72 : decode cX9_copy 72 = .ok (.invokevirtual 137, 3) := by decide +kernel
theorem dX9_copy_75 : decode cX9_copy 75 = .ok (.ifCond .eq 15, 3) := by decide +kernel
theorem dX9_copy_78 : decode cX9_copy 78 = .ok (.aload 7, 2) := by decide +kernel
theorem dX9_copy_80 : decode cX9_copy 80 = .ok (.iload 4, 2) := by decide +kernel
theorem dX9_copy_82 : decode cX9_copy 82 = .ok (.iload 5, 2) := by decide +kernel
theorem dX9_copy_84 : decode cX9_copy 84 = .ok (.invokevirtual 137, 3) := by decide +kernel
theorem dX9_copy_87 : decode cX9_copy 87 = .ok (.ifCond .ne 6, 3) := by decide +kernel
theorem dX9_copy_90 : decode cX9_copy 90 = .ok (.bipush (-13), 2) := by decide +kernel
theorem dX9_copy_92 : decode cX9_copy 92 = .ok (.ireturn, 1) := by decide +kernel
theorem dX9_copy_93 : decode cX9_copy 93 = .ok (.aload 6, 2) := by decide +kernel
theorem dX9_copy_95 : decode cX9_copy 95 = .ok (.getfield 144, 3) := by decide +kernel
theorem dX9_copy_98 : decode cX9_copy 98 = .ok (.iload_n 2, 1) := by decide +kernel
theorem dX9_copy_99 : decode cX9_copy 99 = .ok (.aload 7, 2) := by decide +kernel
theorem dX9_copy_101 : decode cX9_copy 101 = .ok (.getfield 144, 3) := by decide +kernel
theorem dX9_copy_104 : decode cX9_copy 104 = .ok (.iload 4, 2) := by decide +kernel
theorem dX9_copy_106 : decode cX9_copy 106 = .ok (.iload 5, 2) := by decide +kernel
theorem dX9_copy_108 : decode cX9_copy 108 = .ok (.invokestatic 148, 3) := by decide +kernel
theorem dX9_copy_111 : decode cX9_copy 111 = .ok (.iload 5, 2) := by decide +kernel
theorem dX9_copy_113 : decode cX9_copy 113 = .ok (.ireturn, 1) := by decide +kernel
theorem dX9_letters_0 : decode cX9_letters 0 = .ok (.aload_n 0, 1) := by decide +kernel
theorem dX9_letters_1 : decode cX9_letters 1 = .ok (.iload_n 1, 1) := by decide +kernel
theorem dX9_letters_2 : decode cX9_letters 2 = .ok (.invokevirtual 154, 3) := by decide +kernel
theorem dX9_letters_5 : decode cX9_letters 5 = .ok (.astore 6, 2) := by decide +kernel
theorem dX9_letters_7 : decode cX9_letters 7 = .ok (.aload 6, 2) := by decide +kernel
theorem dX9_letters_9 : decode cX9_letters 9 = .ok (.ifnull 28, 3) := by decide +kernel
theorem dX9_letters_12 : decode cX9_letters 12 = .ok (.iload_n 2, 1) := by decide +kernel
theorem dX9_letters_13 : decode cX9_letters 13 = .ok (.invokestatic 116, 3) := by decide +kernel
theorem dX9_letters_16 : decode cX9_letters 16 = .ok (.ifCond .eq 21, 3) := by decide +kernel
theorem dX9_letters_19 : decode cX9_letters 19 = .ok (.iload_n 3, 1) := by decide +kernel
theorem dX9_letters_20 : decode cX9_letters 20 = .ok (.invokestatic 120, 3) := by decide +kernel
theorem dX9_letters_23 : decode cX9_letters 23 = .ok (.ifCond .eq 14, 3) := by decide +kernel
theorem dX9_letters_26 : decode cX9_letters 26 = .ok (.iload 5, 2) := by decide +kernel
theorem dX9_letters_28 : decode cX9_letters 28 = .ok (.iconst 0, 1) := by decide +kernel
theorem dX9_letters_29 : decode cX9_letters 29 = .ok (.bipush 80, 2) := by decide +kernel
theorem dX9_letters_31 : decode cX9_letters 31 = .ok (.invokestatic 53, 3) := by decide +kernel
theorem dX9_letters_34 : decode cX9_letters 34 = .ok (.ifCond .ne 5, 3) := by decide +kernel
theorem dX9_letters_37 : decode cX9_letters 37 = .ok (.iconst (-1), 1) := by decide +kernel
theorem dX9_letters_38 : decode cX9_letters 38 = .ok (.ireturn, 1) := by decide +kernel
theorem dX9_letters_39 : decode cX9_letters 39 = .ok (.aload_n 0, 1) := by decide +kernel
theorem dX9_letters_40 : decode cX9_letters 40 = .ok (.getfield 24, 3) := by decide +kernel
theorem dX9_letters_43 : decode cX9_letters 43 = .ok (.iload_n 2, 1) := by decide +kernel
theorem dX9_letters_44 : decode cX9_letters 44 = .ok (.aaload, 1) := by decide +kernel
theorem dX9_letters_45 : decode cX9_letters 45 = .ok (.astore 7, 2) := by decide +kernel
theorem dX9_letters_47 : decode cX9_letters 47 = .ok (.aload 7, 2) := by decide +kernel
theorem dX9_letters_49 : decode cX9_letters 49 = .ok (.getfield 127, 3) := by decide +kernel
theorem dX9_letters_52 : decode cX9_letters 52 = .ok (.ifCond .ne 6, 3) := by decide +kernel
theorem dX9_letters_55 : decode cX9_letters 55 = .ok (.bipush (-11), 2) := by decide +kernel
theorem dX9_letters_57 : decode cX9_letters 57 = .ok (.ireturn, 1) := by decide +kernel
theorem dX9_letters_58 : decode cX9_letters 58 = .ok (.aload 7, 2) := by decide +kernel
theorem dX9_letters_60 : decode cX9_letters 60 = .ok (.getfield 134, 3) := by decide +kernel
theorem dX9_letters_63 : decode cX9_letters 63 = .ok (.iload_n 3, 1) := by decide +kernel
theorem dX9_letters_64 : decode cX9_letters 64 = .ok (.if_icmp .eq 6, 3) := by decide +kernel
theorem dX9_letters_67 : decode cX9_letters 67 = .ok (.bipush (-12), 2) := by decide +kernel
theorem dX9_letters_69 : decode cX9_letters 69 = .ok (.ireturn, 1) := by decide +kernel
theorem dX9_letters_70 : decode cX9_letters 70 = .ok (.aload 7, 2) := by decide +kernel
theorem dX9_letters_72 : decode cX9_letters 72 = .ok (.iload 4, 2) := by decide +kernel
theorem dX9_letters_74 : decode cX9_letters 74 = .ok (.iconst 2, 1) := by decide +kernel
theorem dX9_letters_75 : decode cX9_letters 75 = .ok (.iload 5, 2) := by decide +kernel
theorem dX9_letters_77 : decode cX9_letters 77 = .ok (.imul, 1) := by decide +kernel
theorem dX9_letters_78 : decode cX9_letters 78 = .ok (.invokevirtual 137, 3) := by decide +kernel
theorem dX9_letters_81 : decode cX9_letters 81 = .ok (.ifCond .ne 6, 3) := by decide +kernel
theorem dX9_letters_84 : decode cX9_letters 84 = .ok (.bipush (-13), 2) := by decide +kernel
theorem dX9_letters_86 : decode cX9_letters 86 = .ok (.ireturn, 1) := by decide +kernel
theorem dX9_letters_87 : decode cX9_letters 87 = .ok (.aload_n 0, 1) := by decide +kernel
theorem dX9_letters_88 : decode cX9_letters 88 = .ok (.aload 7, 2) := by decide +kernel
theorem dX9_letters_90 : decode cX9_letters 90 = .ok (.iload 4, 2) := by decide +kernel
theorem dX9_letters_92 : decode cX9_letters 92 = .ok (.iload 5, 2) := by decide +kernel
theorem dX9_letters_94 : decode cX9_letters 94 = .ok (.aload 6, 2) := by decide +kernel
theorem dX9_letters_96 : decode cX9_letters 96 = .ok (.invokevirtual 158, 3) := by decide +kernel
theorem dX9_letters_99 : decode cX9_letters 99 = .ok (.invokevirtual 161, 3) := by decide +kernel
theorem dX9_letters_102 : decode cX9_letters 102 = .ok (.ifCond .ne 6, 3) := by decide +kernel
theorem dX9_letters_105 : decode cX9_letters 105 = .ok (.bipush (-2), 2) := by decide +kernel
theorem dX9_letters_107 : decode cX9_letters 107 = .ok (.ireturn, 1) := by decide +kernel
theorem dX9_letters_108 : decode cX9_letters 108 = .ok (.aload 6, 2) := by decide +kernel
theorem dX9_letters_110 : decode cX9_letters 110 = .ok (.getfield 165, 3) := by decide +kernel
theorem dX9_letters_113 : decode cX9_letters 113 = .ok (.iload 5, 2) := by decide +kernel
theorem dX9_letters_115 : decode cX9_letters 115 = .ok (.iadd, 1) := by decide +kernel
theorem dX9_letters_116 : decode cX9_letters 116 = .ok (.bipush 80, 2) := by decide +kernel
theorem dX9_letters_118 : decode cX9_letters 118 = .ok (.if_icmp .le 6, 3) := by decide +kernel
theorem dX9_letters_121 : decode cX9_letters 121 = .ok (.bipush (-3), 2) := by decide +kernel
theorem dX9_letters_123 : decode cX9_letters 123 = .ok (.ireturn, 1) := by decide +kernel
theorem dX9_letters_124 : decode cX9_letters 124 = .ok (.aload 6, 2) := by decide +kernel
theorem dX9_letters_126 : decode cX9_letters 126 = .ok (.aload 7, 2) := by decide +kernel
theorem dX9_letters_128 : decode cX9_letters 128 = .ok (.iload 4, 2) := by decide +kernel
theorem dX9_letters_130 : decode cX9_letters 130 = .ok (.iload 5, 2) := by decide +kernel
theorem dX9_letters_132 : decode cX9_letters 132 = .ok (.invokevirtual 166, 3) := by decide +kernel
theorem dX9_letters_135 : decode cX9_letters 135 = .ok (.aload 6, 2) := by decide +kernel
theorem dX9_letters_137 : decode cX9_letters 137 = .ok (.getfield 165, 3) := by decide +kernel
theorem dX9_letters_140 : decode cX9_letters 140 = .ok (.ireturn, 1) := by decide +kernel
theorem dX9_clear_0 : decode cX9_clear 0 = .ok (.aload_n 0, 1) := by decide +kernel
theorem dX9_clear_1 : decode cX9_clear 1 = .ok (.iload_n 1, 1) := by decide +kernel
theorem dX9_clear_2 : decode cX9_clear 2 = .ok (.invokevirtual 154, 3) := by decide +kernel
theorem dX9_clear_5 : decode cX9_clear 5 = .ok (.astore_n 2, 1) := by decide +kernel
theorem dX9_clear_6 : decode cX9_clear 6 = .ok (.aload_n 2, 1) := by decide +kernel
theorem dX9_clear_7 : decode cX9_clear 7 = .ok (.ifnonnull 5, 3) := by decide +kernel
theorem dX9_clear_10 : decode cX9_clear 10 = .ok (.iconst (-1), 1) := by decide +kernel
theorem dX9_clear_11 : decode cX9_clear 11 = .ok (.ireturn, 1) := by decide +kernel
theorem dX9_clear_12 : decode cX9_clear 12 = .ok (.aload_n 2, 1) := by decide +kernel
theorem dX9_clear_13 : decode cX9_clear 13 = .ok (.getfield 165, 3) := by decide +kernel
theorem dX9_clear_16 : decode cX9_clear 16 = .ok (.istore_n 3, 1) := by decide +kernel
theorem dX9_clear_17 : decode cX9_clear 17 = .ok (.aload_n 2, 1) := by decide +kernel
theorem dX9_clear_18 : decode cX9_clear 18 = .ok (.iconst 0, 1) := by decide +kernel
theorem dX9_clear_19 : decode cX9_clear 19 = .ok (.putfield 165, 3) := by decide +kernel
theorem dX9_clear_22 : decode cX9_clear 22 = .ok (.aload_n 2, 1) := by decide +kernel
theorem dX9_clear_23 : decode cX9_clear 23 = .ok (.iconst 0, 1) := by decide +kernel
theorem dX9_clear_24 : decode cX9_clear 24 = .ok (.putfield 170, 3) := by decide +kernel
theorem dX9_clear_27 : decode cX9_clear 27 = .ok (.iload_n 3, 1) := by decide +kernel
theorem dX9_clear_28 : decode cX9_clear 28 = .ok (.ireturn, 1) := by decide +kernel
theorem dX9_letter_0 : decode cX9_letter 0 = .ok (.aload_n 0, 1) := by decide +kernel
theorem dX9_letter_1 : decode cX9_letter 1 = .ok (.iload_n 1, 1) := by decide +kernel
theorem dX9_letter_2 : decode cX9_letter 2 = .ok (.invokevirtual 154, 3) := by decide +kernel
theorem dX9_letter_5 : decode cX9_letter 5 = .ok (.astore 4, 2) := by decide +kernel
theorem dX9_letter_7 : decode cX9_letter 7 = .ok (.aload 4, 2) := by decide +kernel
theorem dX9_letter_9 : decode cX9_letter 9 = .ok (.ifnonnull 5, 3) := by decide +kernel
theorem dX9_letter_12 : decode cX9_letter 12 = .ok (.iconst (-1), 1) := by decide +kernel
theorem dX9_letter_13 : decode cX9_letter 13 = .ok (.ireturn, 1) := by decide +kernel
theorem dX9_letter_14 : decode cX9_letter 14 = .ok (.iload_n 2, 1) := by decide +kernel
theorem dX9_letter_15 : decode cX9_letter 15 = .ok (.iconst (-1), 1) := by decide +kernel
theorem dX9_letter_16 : decode cX9_letter 16 = .ok (.if_icmp .ne 9, 3) := by decide +kernel
theorem dX9_letter_19 : decode cX9_letter 19 = .ok (.aload 4, 2) := by decide +kernel
theorem dX9_letter_21 : decode cX9_letter 21 = .ok (.getfield 165, 3) := by decide +kernel
theorem dX9_letter_24 : decode cX9_letter 24 = .ok (.ireturn, 1) := by decide +kernel
theorem dX9_letter_25 : decode cX9_letter 25 = .ok (.iload_n 2, 1) := by decide +kernel
theorem dX9_letter_26 : decode cX9_letter 26 = .ok (.iconst 0, 1) := by decide +kernel
theorem dX9_letter_27 : decode cX9_letter 27 = .ok (.aload 4, 2) := by decide +kernel
theorem dX9_letter_29 : decode cX9_letter 29 = .ok (.getfield 165, 3) := by decide +kernel
theorem dX9_letter_32 : decode cX9_letter 32 = .ok (.iconst 1, 1) := by decide +kernel
theorem dX9_letter_33 : decode cX9_letter 33 = .ok (.isub, 1) := by decide +kernel
theorem dX9_letter_34 : decode cX9_letter 34 = .ok (.invokestatic 53, 3) := by decide +kernel
theorem dX9_letter_37 : decode cX9_letter 37 = .ok (.ifCond .eq 12, 3) := by decide +kernel
theorem dX9_letter_40 : decode cX9_letter 40 = .ok (.iload_n 3, 1) := by decide +kernel
theorem dX9_letter_41 : decode cX9_letter 41 = .ok (.iconst 0, 1) := by decide +kernel
theorem dX9_letter_42 : decode cX9_letter 42 = .ok (.iconst 1, 1) := by decide +kernel
theorem dX9_letter_43 : decode cX9_letter 43 = .ok (.invokestatic 53, 3) := by decide +kernel
theorem dX9_letter_46 : decode cX9_letter 46 = .ok (.ifCond .ne 5, 3) := by decide +kernel
theorem dX9_letter_49 : decode cX9_letter 49 = .ok (.iconst (-1), 1) := by decide +kernel
theorem dX9_letter_50 : decode cX9_letter 50 = .ok (.ireturn, 1) := by decide +kernel
theorem dX9_letter_51 : decode cX9_letter 51 = .ok (.iload_n 3, 1) := by decide +kernel
theorem dX9_letter_52 : decode cX9_letter 52 = .ok (.ifCond .ne 13, 3) := by decide +kernel
theorem dX9_letter_55 : decode cX9_letter 55 = .ok (.aload 4, 2) := by decide +kernel
theorem dX9_letter_57 : decode cX9_letter 57 = .ok (.getfield 173, 3) := by decide +kernel
theorem dX9_letter_60 : decode cX9_letter 60 = .ok (.iload_n 2, 1) := by decide +kernel
theorem dX9_letter_61 : decode cX9_letter 61 = .ok (.iaload, 1) := by decide +kernel
theorem dX9_letter_62 : decode cX9_letter 62 = .ok (.goto 10, 3) := by decide +kernel
theorem dX9_letter_65 : decode cX9_letter 65 = .ok (.aload 4, 2) := by decide +kernel
theorem dX9_letter_67 : decode cX9_letter 67 = .ok (.getfield 176, 3) := by decide +kernel
theorem dX9_letter_70 : decode cX9_letter 70 = .ok (.iload_n 2, 1) := by decide +kernel
theorem dX9_letter_71 : decode cX9_letter 71 = .ok (.iaload, 1) := by decide +kernel
theorem dX9_letter_72 : decode cX9_letter 72 = .ok (.ireturn, 1) := by decide +kernel
theorem dX9_run_0 : decode cX9_run 0 = .ok (.aload_n 0, 1) := by decide +kernel
theorem dX9_run_1 : decode cX9_run 1 = .ok (.iload_n 1, 1) := by decide +kernel
theorem dX9_run_2 : decode cX9_run 2 = .ok (.invokevirtual 154, 3) := by decide +kernel
theorem dX9_run_5 : decode cX9_run 5 = .ok (.astore_n 3, 1) := by decide +kernel
theorem dX9_run_6 : decode cX9_run 6 = .ok (.aload_n 3, 1) := by decide +kernel
theorem dX9_run_7 : decode cX9_run 7 = .ok (.ifnull 12, 3) := by decide +kernel
theorem dX9_run_10 : decode cX9_run 10 = .ok (.iload_n 2, 1) := by decide +kernel
theorem dX9_run_11 : decode cX9_run 11 = .ok (.iconst 0, 1) := by decide +kernel
theorem dX9_run_12 : decode cX9_run 12 = .ok (.iconst 3, 1) := by decide +kernel
theorem dX9_run_13 : decode cX9_run 13 = .ok (.invokestatic 53, 3) := by decide +kernel
theorem dX9_run_16 : decode cX9_run 16 = .ok (.ifCond .ne 5, 3) := by decide +kernel
theorem dX9_run_19 : decode cX9_run 19 = .ok (.iconst (-1), 1) := by decide +kernel
theorem dX9_run_20 : decode cX9_run 20 = .ok (.ireturn, 1) := by decide +kernel
theorem dX9_run_21 : decode cX9_run 21 = .ok (.aload_n 0, 1) := by decide +kernel
theorem dX9_run_22 : decode cX9_run 22 = .ok (.getfield 33, 3) := by decide +kernel
theorem dX9_run_25 : decode cX9_run 25 = .ok (.aload_n 3, 1) := by decide +kernel
theorem dX9_run_26 : decode cX9_run 26 = .ok (.iload_n 2, 1) := by decide +kernel
theorem dX9_run_27 : decode cX9_run 27 = .ok (.iconst 1, 1) := by decide +kernel
theorem dX9_run_28 : decode cX9_run 28 = .ok (.invokevirtual 179, 3) := by decide +kernel
theorem dX9_run_31 : decode cX9_run 31 = .ok (.aload_n 0, 1) := by decide +kernel
theorem dX9_run_32 : decode cX9_run 32 = .ok (.iconst 1, 1) := by decide +kernel
theorem dX9_run_33 : decode cX9_run 33 = .ok (.putfield 183, 3) := by decide +kernel
theorem dX9_run_36 : decode cX9_run 36 = .ok (.aload_n 0, 1) := by decide +kernel
theorem dX9_run_37 : decode cX9_run 37 = .ok (.getfield 33, 3) := by decide +kernel
theorem dX9_run_40 : decode cX9_run 40 = .ok (.iconst (-1), 1) := by decide +kernel
theorem dX9_run_41 : decode cX9_run 41 = .ok (.iconst 0, 1) := by decide +kernel
theorem dX9_run_42 : decode cX9_run 42 = .ok (.invokevirtual 186, 3) := by decide +kernel
theorem dX9_run_45 : decode cX9_run 45 = .ok (.ireturn, 1) := by decide +kernel
theorem dX9_fate_0 : decode cX9_fate 0 = .ok (.aload_n 0, 1) := by decide +kernel
theorem dX9_fate_1 : decode cX9_fate 1 = .ok (.getfield 183, 3) := by decide +kernel
theorem dX9_fate_4 : decode cX9_fate 4 = .ok (.ifCond .eq 20, 3) := by decide +kernel
theorem dX9_fate_7 : decode cX9_fate 7 = .ok (.iload_n 1, 1) := by decide +kernel
theorem dX9_fate_8 : decode cX9_fate 8 = .ok (.iconst 0, 1) := by decide +kernel
theorem dX9_fate_9 : decode cX9_fate 9 = .ok (.aload_n 0, 1) := by decide +kernel
theorem dX9_fate_10 : decode cX9_fate 10 = .ok (.getfield 33, 3) := by decide +kernel
theorem dX9_fate_13 : decode cX9_fate 13 = .ok (.getfield 190, 3) := by decide +kernel
theorem dX9_fate_16 : decode cX9_fate 16 = .ok (.iconst 1, 1) := by decide +kernel
theorem dX9_fate_17 : decode cX9_fate 17 = .ok (.isub, 1) := by decide +kernel
theorem dX9_fate_18 : decode cX9_fate 18 = .ok (.invokestatic 53, 3) := by decide +kernel
theorem dX9_fate_21 : decode cX9_fate 21 = .ok (.ifCond .ne 5, 3) := by decide +kernel
theorem dX9_fate_24 : decode cX9_fate 24 = .ok (.iconst (-1), 1) := by decide +kernel
theorem dX9_fate_25 : decode cX9_fate 25 = .ok (.ireturn, 1) := by decide +kernel
theorem dX9_fate_26 : decode cX9_fate 26 = .ok (.iload_n 2, 1) := by decide +kernel
theorem dX9_fate_27 : decode cX9_fate 27 = .ok (.tableswitch 55 0 2 #[25, 35, 45], 25) := by decide +kernel
theorem dX9_fate_52 : decode cX9_fate 52 = .ok (.aload_n 0, 1) := by decide +kernel
theorem dX9_fate_53 : decode cX9_fate 53 = .ok (.getfield 33, 3) := by decide +kernel
theorem dX9_fate_56 : decode cX9_fate 56 = .ok (.getfield 193, 3) := by decide +kernel
theorem dX9_fate_59 : decode cX9_fate 59 = .ok (.iload_n 1, 1) := by decide +kernel
theorem dX9_fate_60 : decode cX9_fate 60 = .ok (.iaload, 1) := by decide +kernel
theorem dX9_fate_61 : decode cX9_fate 61 = .ok (.ireturn, 1) := by decide +kernel
theorem dX9_fate_62 : decode cX9_fate 62 = .ok (.aload_n 0, 1) := by decide +kernel
theorem dX9_fate_63 : decode cX9_fate 63 = .ok (.getfield 33, 3) := by decide +kernel
theorem dX9_fate_66 : decode cX9_fate 66 = .ok (.getfield 196, 3) := by decide +kernel
theorem dX9_fate_69 : decode cX9_fate 69 = .ok (.iload_n 1, 1) := by decide +kernel
theorem dX9_fate_70 : decode cX9_fate 70 = .ok (.iaload, 1) := by decide +kernel
theorem dX9_fate_71 : decode cX9_fate 71 = .ok (.ireturn, 1) := by decide +kernel
theorem dX9_fate_72 : decode cX9_fate 72 = .ok (.aload_n 0, 1) := by decide +kernel
theorem dX9_fate_73 : decode cX9_fate 73 = .ok (.getfield 33, 3) := by decide +kernel
theorem dX9_fate_76 : decode cX9_fate 76 = .ok (.getfield 199, 3) := by decide +kernel
theorem dX9_fate_79 : decode cX9_fate 79 = .ok (.iload_n 1, 1) := by decide +kernel
theorem dX9_fate_80 : decode cX9_fate 80 = .ok (.iaload, 1) := by decide +kernel
theorem dX9_fate_81 : decode cX9_fate 81 = .ok (.ireturn, 1) := by decide +kernel
theorem dX9_fate_82 : decode cX9_fate 82 = .ok (.iconst (-1), 1) := by decide +kernel
theorem dX9_fate_83 : decode cX9_fate 83 = .ok (.ireturn, 1) := by decide +kernel
theorem dX9_sum_0 : decode cX9_sum 0 = .ok (.aload_n 0, 1) := by decide +kernel
theorem dX9_sum_1 : decode cX9_sum 1 = .ok (.getfield 183, 3) := by decide +kernel
theorem dX9_sum_4 : decode cX9_sum 4 = .ok (.ifCond .eq 29, 3) := by decide +kernel
theorem dX9_sum_7 : decode cX9_sum 7 = .ok (.iload_n 1, 1) := by decide +kernel
theorem dX9_sum_8 : decode cX9_sum 8 = .ok (.iconst (-1), 1) := by decide +kernel
theorem dX9_sum_9 : decode cX9_sum 9 = .ok (.aload_n 0, 1) := by decide +kernel
theorem dX9_sum_10 : decode cX9_sum 10 = .ok (.getfield 10, 3) := by decide +kernel
theorem dX9_sum_13 : decode cX9_sum 13 = .ok (.getfield 66, 3) := by decide +kernel
theorem dX9_sum_16 : decode cX9_sum 16 = .ok (.iconst 1, 1) := by decide +kernel
theorem dX9_sum_17 : decode cX9_sum 17 = .ok (.isub, 1) := by decide +kernel
theorem dX9_sum_18 : decode cX9_sum 18 = .ok (.invokestatic 53, 3) := by decide +kernel
theorem dX9_sum_21 : decode cX9_sum 21 = .ok (.ifCond .eq 12, 3) := by decide +kernel
theorem dX9_sum_24 : decode cX9_sum 24 = .ok (.iload_n 2, 1) := by decide +kernel
theorem dX9_sum_25 : decode cX9_sum 25 = .ok (.iconst 0, 1) := by decide +kernel
theorem dX9_sum_26 : decode cX9_sum 26 = .ok (.iconst 4, 1) := by decide +kernel
theorem dX9_sum_27 : decode cX9_sum 27 = .ok (.invokestatic 53, 3) := by decide +kernel
theorem dX9_sum_30 : decode cX9_sum 30 = .ok (.ifCond .ne 5, 3) := by decide +kernel
theorem dX9_sum_33 : decode cX9_sum 33 = .ok (.iconst (-1), 1) := by decide +kernel
theorem dX9_sum_34 : decode cX9_sum 34 = .ok (.ireturn, 1) := by decide +kernel
theorem dX9_sum_35 : decode cX9_sum 35 = .ok (.iload_n 2, 1) := by decide +kernel
theorem dX9_sum_36 : decode cX9_sum 36 = .ok (.iconst 4, 1) := by decide +kernel
theorem dX9_sum_37 : decode cX9_sum 37 = .ok (.if_icmp .eq 13, 3) := by decide +kernel
theorem dX9_sum_40 : decode cX9_sum 40 = .ok (.aload_n 0, 1) := by decide +kernel
theorem dX9_sum_41 : decode cX9_sum 41 = .ok (.getfield 33, 3) := by decide +kernel
theorem dX9_sum_44 : decode cX9_sum 44 = .ok (.iload_n 1, 1) := by decide +kernel
theorem dX9_sum_45 : decode cX9_sum 45 = .ok (.iload_n 2, 1) := by decide +kernel
theorem dX9_sum_46 : decode cX9_sum 46 = .ok (.invokevirtual 186, 3) := by decide +kernel
theorem dX9_sum_49 : decode cX9_sum 49 = .ok (.ireturn, 1) := by decide +kernel
theorem dX9_sum_50 : decode cX9_sum 50 = .ok (.iload_n 1, 1) := by decide +kernel
theorem dX9_sum_51 : decode cX9_sum 51 = .ok (.iconst (-1), 1) := by decide +kernel
theorem dX9_sum_52 : decode cX9_sum 52 = .ok (.if_icmp .ne 13, 3) := by decide +kernel
theorem dX9_sum_55 : decode cX9_sum 55 = .ok (.aload_n 0, 1) := by decide +kernel
theorem dX9_sum_56 : decode cX9_sum 56 = .ok (.getfield 33, 3) := by decide +kernel
theorem dX9_sum_59 : decode cX9_sum 59 = .ok (.getfield 202, 3) := by decide +kernel
theorem dX9_sum_62 : decode cX9_sum 62 = .ok (.goto 12, 3) := by decide +kernel
theorem dX9_sum_65 : decode cX9_sum 65 = .ok (.aload_n 0, 1) := by decide +kernel
theorem dX9_sum_66 : decode cX9_sum 66 = .ok (.getfield 33, 3) := by decide +kernel
theorem dX9_sum_69 : decode cX9_sum 69 = .ok (.getfield 205, 3) := by decide +kernel
theorem dX9_sum_72 : decode cX9_sum 72 = .ok (.iload_n 1, 1) := by decide +kernel
theorem dX9_sum_73 : decode cX9_sum 73 = .ok (.iaload, 1) := by decide +kernel
theorem dX9_sum_74 : decode cX9_sum 74 = .ok (.ireturn, 1) := by decide +kernel
theorem dX9_length_0 : decode cX9_length 0 = .ok (.aload_n 0, 1) := by decide +kernel
theorem dX9_length_1 : decode cX9_length 1 = .ok (.getfield 183, 3) := by decide +kernel
theorem dX9_length_4 : decode cX9_length 4 = .ok (.ifCond .eq 25, 3) := by decide +kernel
theorem dX9_length_7 : decode cX9_length 7 = .ok (.aload_n 0, 1) := by decide +kernel
theorem dX9_length_8 : decode cX9_length 8 = .ok (.getfield 10, 3) := by decide +kernel
theorem dX9_length_11 : decode cX9_length 11 = .ok (.iload_n 1, 1) := by decide +kernel
theorem dX9_length_12 : decode cX9_length 12 = .ok (.invokevirtual 77, 3) := by decide +kernel
theorem dX9_length_15 : decode cX9_length 15 = .ok (.ifnull 14, 3) := by decide +kernel
theorem dX9_length_18 : decode cX9_length 18 = .ok (.iload_n 2, 1) := by decide +kernel
theorem dX9_length_19 : decode cX9_length 19 = .ok (.iconst 0, 1) := by decide +kernel
theorem dX9_length_20 : decode cX9_length 20 = .ok (.sipush 399, 3) := by decide +kernel
theorem dX9_length_23 : decode cX9_length 23 = .ok (.invokestatic 53, 3) := by decide +kernel
theorem dX9_length_26 : decode cX9_length 26 = .ok (.ifCond .ne 5, 3) := by decide +kernel
theorem dX9_length_29 : decode cX9_length 29 = .ok (.iconst (-1), 1) := by decide +kernel
theorem dX9_length_30 : decode cX9_length 30 = .ok (.ireturn, 1) := by decide +kernel
theorem dX9_length_31 : decode cX9_length 31 = .ok (.aload_n 0, 1) := by decide +kernel
theorem dX9_length_32 : decode cX9_length 32 = .ok (.getfield 33, 3) := by decide +kernel
theorem dX9_length_35 : decode cX9_length 35 = .ok (.iload_n 1, 1) := by decide +kernel
theorem dX9_length_36 : decode cX9_length 36 = .ok (.iload_n 2, 1) := by decide +kernel
theorem dX9_length_37 : decode cX9_length 37 = .ok (.invokevirtual 208, 3) := by decide +kernel
theorem dX9_length_40 : decode cX9_length 40 = .ok (.ireturn, 1) := by decide +kernel
theorem dX9_ticks_0 : decode cX9_ticks 0 = .ok (.aload_n 0, 1) := by decide +kernel
theorem dX9_ticks_1 : decode cX9_ticks 1 = .ok (.getfield 183, 3) := by decide +kernel
theorem dX9_ticks_4 : decode cX9_ticks 4 = .ok (.ifCond .eq 13, 3) := by decide +kernel
theorem dX9_ticks_7 : decode cX9_ticks 7 = .ok (.aload_n 0, 1) := by decide +kernel
theorem dX9_ticks_8 : decode cX9_ticks 8 = .ok (.getfield 33, 3) := by decide +kernel
theorem dX9_ticks_11 : decode cX9_ticks 11 = .ok (.getfield 211, 3) := by decide +kernel
theorem dX9_ticks_14 : decode cX9_ticks 14 = .ok (.goto 4, 3) := by decide +kernel
theorem dX9_ticks_17 : decode cX9_ticks 17 = .ok (.iconst (-1), 1) := by decide +kernel
theorem dX9_ticks_18 : decode cX9_ticks 18 = .ok (.ireturn, 1) := by decide +kernel
theorem dX9_best_0 : decode cX9_best 0 = .ok (.aload_n 0, 1) := by decide +kernel
theorem dX9_best_1 : decode cX9_best 1 = .ok (.iload_n 1, 1) := by decide +kernel
theorem dX9_best_2 : decode cX9_best 2 = .ok (.invokevirtual 154, 3) := by decide +kernel
theorem dX9_best_5 : decode cX9_best 5 = .ok (.astore_n 2, 1) := by decide +kernel
theorem dX9_best_6 : decode cX9_best 6 = .ok (.aload_n 2, 1) := by decide +kernel
theorem dX9_best_7 : decode cX9_best 7 = .ok (.ifnonnull 7, 3) := by decide +kernel
theorem dX9_best_10 : decode cX9_best 10 = .ok (.iconst (-1), 1) := by decide +kernel
theorem dX9_best_11 : decode cX9_best 11 = .ok (.goto 11, 3) := by decide +kernel
theorem dX9_best_14 : decode cX9_best 14 = .ok (.aload_n 0, 1) := by decide +kernel
theorem dX9_best_15 : decode cX9_best 15 = .ok (.getfield 43, 3) := by decide +kernel
theorem dX9_best_18 : decode cX9_best 18 = .ok (.aload_n 2, 1) := by decide +kernel
theorem dX9_best_19 : decode cX9_best 19 = .ok (.invokevirtual 214, 3) := by decide +kernel
theorem dX9_best_22 : decode cX9_best 22 = .ok (.ireturn, 1) := by decide +kernel
theorem dX9_shortBy_0 : decode cX9_shortBy 0 = .ok (.aload_n 0, 1) := by decide +kernel
theorem dX9_shortBy_1 : decode cX9_shortBy 1 = .ok (.iload_n 1, 1) := by decide +kernel
theorem dX9_shortBy_2 : decode cX9_shortBy 2 = .ok (.invokevirtual 154, 3) := by decide +kernel
theorem dX9_shortBy_5 : decode cX9_shortBy 5 = .ok (.astore_n 3, 1) := by decide +kernel
theorem dX9_shortBy_6 : decode cX9_shortBy 6 = .ok (.aload_n 3, 1) := by decide +kernel
theorem dX9_shortBy_7 : decode cX9_shortBy 7 = .ok (.ifnull 12, 3) := by decide +kernel
theorem dX9_shortBy_10 : decode cX9_shortBy 10 = .ok (.iload_n 2, 1) := by decide +kernel
theorem dX9_shortBy_11 : decode cX9_shortBy 11 = .ok (.iconst 0, 1) := by decide +kernel
theorem dX9_shortBy_12 : decode cX9_shortBy 12 = .ok (.iconst 2, 1) := by decide +kernel
theorem dX9_shortBy_13 : decode cX9_shortBy 13 = .ok (.invokestatic 53, 3) := by decide +kernel
theorem dX9_shortBy_16 : decode cX9_shortBy 16 = .ok (.ifCond .ne 5, 3) := by decide +kernel
theorem dX9_shortBy_19 : decode cX9_shortBy 19 = .ok (.iconst (-1), 1) := by decide +kernel
theorem dX9_shortBy_20 : decode cX9_shortBy 20 = .ok (.ireturn, 1) := by decide +kernel
theorem dX9_shortBy_21 : decode cX9_shortBy 21 = .ok (.aload_n 0, 1) := by decide +kernel
theorem dX9_shortBy_22 : decode cX9_shortBy 22 = .ok (.getfield 37, 3) := by decide +kernel
theorem dX9_shortBy_25 : decode cX9_shortBy 25 = .ok (.aload_n 3, 1) := by decide +kernel
theorem dX9_shortBy_26 : decode cX9_shortBy 26 = .ok (.iload_n 2, 1) := by decide +kernel
theorem dX9_shortBy_27 : decode cX9_shortBy 27 = .ok (.iconst 0, 1) := by decide +kernel
theorem dX9_shortBy_28 : decode cX9_shortBy 28 = .ok (.invokevirtual 179, 3) := by decide +kernel
theorem dX9_shortBy_31 : decode cX9_shortBy 31 = .ok (.aload_n 0, 1) := by decide +kernel
theorem dX9_shortBy_32 : decode cX9_shortBy 32 = .ok (.getfield 43, 3) := by decide +kernel
theorem dX9_shortBy_35 : decode cX9_shortBy 35 = .ok (.aload_n 3, 1) := by decide +kernel
theorem dX9_shortBy_36 : decode cX9_shortBy 36 = .ok (.invokevirtual 214, 3) := by decide +kernel
theorem dX9_shortBy_39 : decode cX9_shortBy 39 = .ok (.aload_n 0, 1) := by decide +kernel
theorem dX9_shortBy_40 : decode cX9_shortBy 40 = .ok (.getfield 37, 3) := by decide +kernel
theorem dX9_shortBy_43 : decode cX9_shortBy 43 = .ok (.iconst (-1), 1) := by decide +kernel
theorem dX9_shortBy_44 : decode cX9_shortBy 44 = .ok (.iconst 0, 1) := by decide +kernel
theorem dX9_shortBy_45 : decode cX9_shortBy 45 = .ok (.invokevirtual 186, 3) := by decide +kernel
theorem dX9_shortBy_48 : decode cX9_shortBy 48 = .ok (.isub, 1) := by decide +kernel
theorem dX9_shortBy_49 : decode cX9_shortBy 49 = .ok (.ireturn, 1) := by decide +kernel
theorem dX9_pass_0 : decode cX9_pass 0 = .ok (.aload_n 0, 1) := by decide +kernel
theorem dX9_pass_1 : decode cX9_pass 1 = .ok (.iload_n 1, 1) := by decide +kernel
theorem dX9_pass_2 : decode cX9_pass 2 = .ok (.invokevirtual 154, 3) := by decide +kernel
theorem dX9_pass_5 : decode cX9_pass 5 = .ok (.astore_n 3, 1) := by decide +kernel
theorem dX9_pass_6 : decode cX9_pass 6 = .ok (.aload_n 3, 1) := by decide +kernel
theorem dX9_pass_7 : decode cX9_pass 7 = .ok (.ifnonnull 5, 3) := by decide +kernel
theorem dX9_pass_10 : decode cX9_pass 10 = .ok (.iconst (-1), 1) := by decide +kernel
theorem dX9_pass_11 : decode cX9_pass 11 = .ok (.ireturn, 1) := by decide +kernel
theorem dX9_pass_12 : decode cX9_pass 12 = .ok (.aload_n 3, 1) := by decide +kernel
theorem dX9_pass_13 : decode cX9_pass 13 = .ok (.iload_n 2, 1) := by decide +kernel
theorem dX9_pass_14 : decode cX9_pass 14 = .ok (.putfield 170, 3) := by decide +kernel
theorem dX9_pass_17 : decode cX9_pass 17 = .ok (.iconst 0, 1) := by decide +kernel
theorem dX9_pass_18 : decode cX9_pass 18 = .ok (.istore 4, 2) := by decide +kernel
theorem dX9_pass_20 : decode cX9_pass 20 = .ok (.iconst 0, 1) := by decide +kernel
theorem dX9_pass_21 : decode cX9_pass 21 = .ok (.istore 5, 2) := by decide +kernel
theorem dX9_pass_23 : decode cX9_pass 23 = .ok (.iload 5, 2) := by decide +kernel
theorem dX9_pass_25 : decode cX9_pass 25 = .ok (.iconst 4, 1) := by decide +kernel
theorem dX9_pass_26 : decode cX9_pass 26 = .ok (.if_icmp .ge 25, 3) := by decide +kernel
theorem dX9_pass_29 : decode cX9_pass 29 = .ok (.aload_n 0, 1) := by decide +kernel
theorem dX9_pass_30 : decode cX9_pass 30 = .ok (.getfield 18, 3) := by decide +kernel
theorem dX9_pass_33 : decode cX9_pass 33 = .ok (.iload 5, 2) := by decide +kernel
theorem dX9_pass_35 : decode cX9_pass 35 = .ok (.aaload, 1) := by decide +kernel
theorem dX9_pass_36 : decode cX9_pass 36 = .ok (.getfield 170, 3) := by decide +kernel
theorem dX9_pass_39 : decode cX9_pass 39 = .ok (.ifCond .eq 6, 3) := by decide +kernel
theorem dX9_pass_42 : decode cX9_pass 42 = .ok (.iinc 4 1, 3) := by decide +kernel
theorem dX9_pass_45 : decode cX9_pass 45 = .ok (.iinc 5 1, 3) := by decide +kernel
theorem dX9_pass_48 : decode cX9_pass 48 = .ok (.goto (-25), 3) := by decide +kernel
theorem dX9_pass_51 : decode cX9_pass 51 = .ok (.iload 4, 2) := by decide +kernel
theorem dX9_pass_53 : decode cX9_pass 53 = .ok (.ireturn, 1) := by decide +kernel
theorem dX9_marks_0 : decode cX9_marks 0 = .ok (.iconst 1, 1) := by decide +kernel
theorem dX9_marks_1 : decode cX9_marks 1 = .ok (.istore_n 1, 1) := by decide +kernel
theorem dX9_marks_2 : decode cX9_marks 2 = .ok (.iconst 0, 1) := by decide +kernel
theorem dX9_marks_3 : decode cX9_marks 3 = .ok (.istore_n 2, 1) := by decide +kernel
theorem dX9_marks_4 : decode cX9_marks 4 = .ok (.iload_n 2, 1) := by decide +kernel
theorem dX9_marks_5 : decode cX9_marks 5 = .ok (.iconst 4, 1) := by decide +kernel
theorem dX9_marks_6 : decode cX9_marks 6 = .ok (.if_icmp .ge 54, 3) := by decide +kernel
theorem dX9_marks_9 : decode cX9_marks 9 = .ok (.aload_n 0, 1) := by decide +kernel
theorem dX9_marks_10 : decode cX9_marks 10 = .ok (.getfield 18, 3) := by decide +kernel
theorem dX9_marks_13 : decode cX9_marks 13 = .ok (.iload_n 2, 1) := by decide +kernel
theorem dX9_marks_14 : decode cX9_marks 14 = .ok (.aaload, 1) := by decide +kernel
theorem dX9_marks_15 : decode cX9_marks 15 = .ok (.getfield 170, 3) := by decide +kernel
theorem dX9_marks_18 : decode cX9_marks 18 = .ok (.ifCond .eq 36, 3) := by decide +kernel
theorem dX9_marks_21 : decode cX9_marks 21 = .ok (.aload_n 0, 1) := by decide +kernel
theorem dX9_marks_22 : decode cX9_marks 22 = .ok (.getfield 43, 3) := by decide +kernel
theorem dX9_marks_25 : decode cX9_marks 25 = .ok (.aload_n 0, 1) := by decide +kernel
theorem dX9_marks_26 : decode cX9_marks 26 = .ok (.getfield 18, 3) := by decide +kernel
theorem dX9_marks_29 : decode cX9_marks 29 = .ok (.iload_n 2, 1) := by decide +kernel
theorem dX9_marks_30 : decode cX9_marks 30 = .ok (.aaload, 1) := by decide +kernel
theorem dX9_marks_31 : decode cX9_marks 31 = .ok (.invokevirtual 218, 3) := by decide +kernel
theorem dX9_marks_34 : decode cX9_marks 34 = .ok (.istore_n 3, 1) := by decide +kernel
theorem dX9_marks_35 : decode cX9_marks 35 = .ok (.iload_n 3, 1) := by decide +kernel
theorem dX9_marks_36 : decode cX9_marks 36 = .ok (.iconst (-1), 1) := by decide +kernel
theorem dX9_marks_37 : decode cX9_marks 37 = .ok (.if_icmp .ne 11, 3) := by decide +kernel
theorem dX9_marks_40 : decode cX9_marks 40 = .ok (.aload_n 0, 1) := by decide +kernel
theorem dX9_marks_41 : decode cX9_marks 41 = .ok (.iload_n 2, 1) := by decide +kernel
theorem dX9_marks_42 : decode cX9_marks 42 = .ok (.putfield 47, 3) := by decide +kernel
theorem dX9_marks_45 : decode cX9_marks 45 = .ok (.bipush (-2), 2) := by decide +kernel
theorem dX9_marks_47 : decode cX9_marks 47 = .ok (.ireturn, 1) := by decide +kernel
theorem dX9_marks_48 : decode cX9_marks 48 = .ok (.iload_n 1, 1) := by decide +kernel
theorem dX9_marks_49 : decode cX9_marks 49 = .ok (.iload_n 3, 1) := by decide +kernel
theorem dX9_marks_50 : decode cX9_marks 50 = .ok (.invokestatic 221, 3) := by decide +kernel
theorem dX9_marks_53 : decode cX9_marks 53 = .ok (.istore_n 1, 1) := by decide +kernel
theorem dX9_marks_54 : decode cX9_marks 54 = .ok (.iinc 2 1, 3) := by decide +kernel
theorem dX9_marks_57 : decode cX9_marks 57 = .ok (.goto (-53), 3) := by decide +kernel
theorem dX9_marks_60 : decode cX9_marks 60 = .ok (.aload_n 0, 1) := by decide +kernel
theorem dX9_marks_61 : decode cX9_marks 61 = .ok (.iconst (-1), 1) := by decide +kernel
theorem dX9_marks_62 : decode cX9_marks 62 = .ok (.putfield 47, 3) := by decide +kernel
theorem dX9_marks_65 : decode cX9_marks 65 = .ok (.iload_n 1, 1) := by decide +kernel
theorem dX9_marks_66 : decode cX9_marks 66 = .ok (.ireturn, 1) := by decide +kernel
theorem dX9_witness_0 : decode cX9_witness 0 = .ok (.aload_n 0, 1) := by decide +kernel
theorem dX9_witness_1 : decode cX9_witness 1 = .ok (.getfield 47, 3) := by decide +kernel
theorem dX9_witness_4 : decode cX9_witness 4 = .ok (.ireturn, 1) := by decide +kernel
theorem dX9_isWithin_0 : decode cX9_isWithin 0 = .ok (.iload_n 0, 1) := by decide +kernel
theorem dX9_isWithin_1 : decode cX9_isWithin 1 = .ok (.iload_n 1, 1) := by decide +kernel
theorem dX9_isWithin_2 : decode cX9_isWithin 2 = .ok (.if_icmp .lt 12, 3) := by decide +kernel
theorem dX9_isWithin_5 : decode cX9_isWithin 5 = .ok (.iload_n 0, 1) := by decide +kernel
theorem dX9_isWithin_6 : decode cX9_isWithin 6 = .ok (.iload_n 2, 1) := by decide +kernel
theorem dX9_isWithin_7 : decode cX9_isWithin 7 = .ok (.if_icmp .gt 7, 3) := by decide +kernel
theorem dX9_isWithin_10 : decode cX9_isWithin 10 = .ok (.iconst 1, 1) := by decide +kernel
theorem dX9_isWithin_11 : decode cX9_isWithin 11 = .ok (.goto 4, 3) := by decide +kernel
theorem dX9_isWithin_14 : decode cX9_isWithin 14 = .ok (.iconst 0, 1) := by decide +kernel
theorem dX9_isWithin_15 : decode cX9_isWithin 15 = .ok (.ireturn, 1) := by decide +kernel
theorem dX9_isSheetNumber_0 : decode cX9_isSheetNumber 0 = .ok (.iload_n 0, 1) := by decide +kernel
theorem dX9_isSheetNumber_1 : decode cX9_isSheetNumber 1 = .ok (.iconst 0, 1) := by decide +kernel
theorem dX9_isSheetNumber_2 : decode cX9_isSheetNumber 2 = .ok (.iconst 3, 1) := by decide +kernel
theorem dX9_isSheetNumber_3 : decode cX9_isSheetNumber 3 = .ok (.invokestatic 53, 3) := by decide +kernel
theorem dX9_isSheetNumber_6 : decode cX9_isSheetNumber 6 = .ok (.ireturn, 1) := by decide +kernel
theorem dX9_isLane_0 : decode cX9_isLane 0 = .ok (.iload_n 0, 1) := by decide +kernel
theorem dX9_isLane_1 : decode cX9_isLane 1 = .ok (.iconst 0, 1) := by decide +kernel
theorem dX9_isLane_2 : decode cX9_isLane 2 = .ok (.iconst 2, 1) := by decide +kernel
theorem dX9_isLane_3 : decode cX9_isLane 3 = .ok (.invokestatic 53, 3) := by decide +kernel
theorem dX9_isLane_6 : decode cX9_isLane 6 = .ok (.ireturn, 1) := by decide +kernel
theorem dX9_newLine_0 : decode cX9_newLine 0 = .ok (.iload_n 0, 1) := by decide +kernel
theorem dX9_newLine_1 : decode cX9_newLine 1 = .ok (.iconst 2, 1) := by decide +kernel
theorem dX9_newLine_2 : decode cX9_newLine 2 = .ok (.if_icmp .ne 12, 3) := by decide +kernel
theorem dX9_newLine_5 : decode cX9_newLine 5 = .ok (.new 92, 3) := by decide +kernel
theorem dX9_newLine_8 : decode cX9_newLine 8 = .ok (.dup, 1) := by decide +kernel
theorem dX9_newLine_9 : decode cX9_newLine 9 = .ok (.iload_n 1, 1) := by decide +kernel
theorem dX9_newLine_10 : decode cX9_newLine 10 = .ok (.invokespecial 226, 3) := by decide +kernel
theorem dX9_newLine_13 : decode cX9_newLine 13 = .ok (.areturn, 1) := by decide +kernel
theorem dX9_newLine_14 : decode cX9_newLine 14 = .ok (.iload_n 0, 1) := by decide +kernel
theorem dX9_newLine_15 : decode cX9_newLine 15 = .ok (.iconst 1, 1) := by decide +kernel
theorem dX9_newLine_16 : decode cX9_newLine 16 = .ok (.if_icmp .ne 14, 3) := by decide +kernel
theorem dX9_newLine_19 : decode cX9_newLine 19 = .ok (.new 64, 3) := by decide +kernel
theorem dX9_newLine_22 : decode cX9_newLine 22 = .ok (.dup, 1) := by decide +kernel
theorem dX9_newLine_23 : decode cX9_newLine 23 = .ok (.iload_n 1, 1) := by decide +kernel
theorem dX9_newLine_24 : decode cX9_newLine 24 = .ok (.invokespecial 229, 3) := by decide +kernel
theorem dX9_newLine_27 : decode cX9_newLine 27 = .ok (.goto 11, 3) := by decide +kernel
theorem dX9_newLine_30 : decode cX9_newLine 30 = .ok (.new 82, 3) := by decide +kernel
theorem dX9_newLine_33 : decode cX9_newLine 33 = .ok (.dup, 1) := by decide +kernel
theorem dX9_newLine_34 : decode cX9_newLine 34 = .ok (.iload_n 1, 1) := by decide +kernel
theorem dX9_newLine_35 : decode cX9_newLine 35 = .ok (.invokespecial 230, 3) := by decide +kernel
theorem dX9_newLine_38 : decode cX9_newLine 38 = .ok (.areturn, 1) := by decide +kernel
theorem dX9_rowAt_0 : decode cX9_rowAt 0 = .ok (.iload_n 1, 1) := by decide +kernel
theorem dX9_rowAt_1 : decode cX9_rowAt 1 = .ok (.iconst 0, 1) := by decide +kernel
theorem dX9_rowAt_2 : decode cX9_rowAt 2 = .ok (.iconst 3, 1) := by decide +kernel
theorem dX9_rowAt_3 : decode cX9_rowAt 3 = .ok (.invokestatic 53, 3) := by decide +kernel
theorem dX9_rowAt_6 : decode cX9_rowAt 6 = .ok (.ifCond .eq 12, 3) := by decide +kernel
theorem dX9_rowAt_9 : decode cX9_rowAt 9 = .ok (.aload_n 0, 1) := by decide +kernel
theorem dX9_rowAt_10 : decode cX9_rowAt 10 = .ok (.getfield 18, 3) := by decide +kernel
theorem dX9_rowAt_13 : decode cX9_rowAt 13 = .ok (.iload_n 1, 1) := by decide +kernel
theorem dX9_rowAt_14 : decode cX9_rowAt 14 = .ok (.aaload, 1) := by decide +kernel
theorem dX9_rowAt_15 : decode cX9_rowAt 15 = .ok (.goto 4, 3) := by decide +kernel
theorem dX9_rowAt_18 : decode cX9_rowAt 18 = .ok (.aconst_null, 1) := by decide +kernel
theorem dX9_rowAt_19 : decode cX9_rowAt 19 = .ok (.areturn, 1) := by decide +kernel
theorem dX9_areLetters_0 : decode cX9_areLetters 0 = .ok (.iload 4, 2) := by decide +kernel
theorem dX9_areLetters_2 : decode cX9_areLetters 2 = .ok (.istore 5, 2) := by decide +kernel
theorem dX9_areLetters_4 : decode cX9_areLetters 4 = .ok (.iconst 0, 1) := by decide +kernel
theorem dX9_areLetters_5 : decode cX9_areLetters 5 = .ok (.istore 6, 2) := by decide +kernel
theorem dX9_areLetters_7 : decode cX9_areLetters 7 = .ok (.iload 6, 2) := by decide +kernel
theorem dX9_areLetters_9 : decode cX9_areLetters 9 = .ok (.iload_n 3, 1) := by decide +kernel
theorem dX9_areLetters_10 : decode cX9_areLetters 10 = .ok (.if_icmp .ge 63, 3) := by decide +kernel
theorem dX9_areLetters_13 : decode cX9_areLetters 13 = .ok (.aload_n 1, 1) := by decide +kernel
theorem dX9_areLetters_14 : decode cX9_areLetters 14 = .ok (.getfield 144, 3) := by decide +kernel
theorem dX9_areLetters_17 : decode cX9_areLetters 17 = .ok (.iload_n 2, 1) := by decide +kernel
theorem dX9_areLetters_18 : decode cX9_areLetters 18 = .ok (.iconst 2, 1) := by decide +kernel
theorem dX9_areLetters_19 : decode cX9_areLetters 19 = .ok (.iload 6, 2) := by decide +kernel
theorem dX9_areLetters_21 : decode cX9_areLetters 21 = .ok (.imul, 1) := by decide +kernel
theorem dX9_areLetters_22 : decode cX9_areLetters 22 = .ok (.iadd, 1) := by decide +kernel
theorem dX9_areLetters_23 : decode cX9_areLetters 23 = .ok (.iaload, 1) := by decide +kernel
theorem dX9_areLetters_24 : decode cX9_areLetters 24 = .ok (.istore 7, 2) := by decide +kernel
theorem dX9_areLetters_26 : decode cX9_areLetters 26 = .ok (.iload 7, 2) := by decide +kernel
theorem dX9_areLetters_28 : decode cX9_areLetters 28 = .ok (.iload 5, 2) := by decide +kernel
theorem dX9_areLetters_30 : decode cX9_areLetters 30 = .ok (.bipush 39, 2) := by decide +kernel
theorem dX9_areLetters_32 : decode cX9_areLetters 32 = .ok (.invokestatic 53, 3) := by decide +kernel
theorem dX9_areLetters_35 : decode cX9_areLetters 35 = .ok (.ifCond .eq 26, 3) := by decide +kernel
theorem dX9_areLetters_38 : decode cX9_areLetters 38 = .ok (.aload_n 0, 1) := by decide +kernel
theorem dX9_areLetters_39 : decode cX9_areLetters 39 = .ok (.getfield 10, 3) := by decide +kernel
theorem dX9_areLetters_42 : decode cX9_areLetters 42 = .ok (.aload_n 1, 1) := by decide +kernel
theorem dX9_areLetters_43 : decode cX9_areLetters 43 = .ok (.getfield 144, 3) := by decide +kernel
theorem dX9_areLetters_46 : decode cX9_areLetters 46 = .ok (.iload_n 2, 1) := by decide +kernel
theorem dX9_areLetters_47 : decode cX9_areLetters 47 = .ok (.iconst 2, 1) := by decide +kernel
theorem dX9_areLetters_48 : decode cX9_areLetters 48 = .ok (.iload 6, 2) := by decide +kernel
theorem dX9_areLetters_50 : decode cX9_areLetters 50 = .ok (.imul, 1) := by decide +kernel
theorem dX9_areLetters_51 : decode cX9_areLetters 51 = .ok (.iadd, 1) := by decide +kernel
theorem dX9_areLetters_52 : decode cX9_areLetters 52 = .ok (.iconst 1, 1) := by decide +kernel
theorem dX9_areLetters_53 : decode cX9_areLetters 53 = .ok (.iadd, 1) := by decide +kernel
theorem dX9_areLetters_54 : decode cX9_areLetters 54 = .ok (.iaload, 1) := by decide +kernel
theorem dX9_areLetters_55 : decode cX9_areLetters 55 = .ok (.invokevirtual 77, 3) := by decide +kernel
theorem dX9_areLetters_58 : decode cX9_areLetters 58 = .ok (.ifnonnull 5, 3) := by decide +kernel
theorem dX9_areLetters_61 : decode cX9_areLetters 61 = .ok (.iconst 0, 1) := by decide +kernel
theorem dX9_areLetters_62 : decode cX9_areLetters 62 = .ok (.ireturn, 1) := by decide +kernel
theorem dX9_areLetters_63 : decode cX9_areLetters 63 = .ok (.iload 7, 2) := by decide +kernel
theorem dX9_areLetters_65 : decode cX9_areLetters 65 = .ok (.istore 5, 2) := by decide +kernel
theorem dX9_areLetters_67 : decode cX9_areLetters 67 = .ok (.iinc 6 1, 3) := by decide +kernel
theorem dX9_areLetters_70 : decode cX9_areLetters 70 = .ok (.goto (-63), 3) := by decide +kernel
theorem dX9_areLetters_73 : decode cX9_areLetters 73 = .ok (.iconst 1, 1) := by decide +kernel
theorem dX9_areLetters_74 : decode cX9_areLetters 74 = .ok (.ireturn, 1) := by decide +kernel
theorem dX10_in_0 : decode cX10_in 0 = .ok (.iload_n 0, 1) := by decide +kernel
theorem dX10_in_1 : decode cX10_in 1 = .ok (.iload_n 1, 1) := by decide +kernel
theorem dX10_in_2 : decode cX10_in 2 = .ok (.if_icmp .lt 12, 3) := by decide +kernel
theorem dX10_in_5 : decode cX10_in 5 = .ok (.iload_n 0, 1) := by decide +kernel
theorem dX10_in_6 : decode cX10_in 6 = .ok (.iload_n 2, 1) := by decide +kernel
theorem dX10_in_7 : decode cX10_in 7 = .ok (.if_icmp .gt 7, 3) := by decide +kernel
theorem dX10_in_10 : decode cX10_in 10 = .ok (.iconst 1, 1) := by decide +kernel
theorem dX10_in_11 : decode cX10_in 11 = .ok (.goto 4, 3) := by decide +kernel
theorem dX10_in_14 : decode cX10_in 14 = .ok (.iconst 0, 1) := by decide +kernel
theorem dX10_in_15 : decode cX10_in 15 = .ok (.ireturn, 1) := by decide +kernel
theorem dX10_init_0 : decode cX10_init 0 = .ok (.aload_n 0, 1) := by decide +kernel
theorem dX10_init_1 : decode cX10_init 1 = .ok (.invokespecial 1, 3) := by decide +kernel
theorem dX10_init_4 : decode cX10_init 4 = .ok (.aload_n 0, 1) := by decide +kernel
theorem dX10_init_5 : decode cX10_init 5 = .ok (.bipush 8, 2) := by decide +kernel
theorem dX10_init_7 : decode cX10_init 7 = .ok (.putfield 7, 3) := by decide +kernel
theorem dX10_init_10 : decode cX10_init 10 = .ok (.aload_n 0, 1) := by decide +kernel
theorem dX10_init_11 : decode cX10_init 11 = .ok (.iconst 1, 1) := by decide +kernel
theorem dX10_init_12 : decode cX10_init 12 = .ok (.putfield 13, 3) := by decide +kernel
theorem dX10_init_15 : decode cX10_init 15 = .ok (.aload_n 0, 1) := by decide +kernel
theorem dX10_init_16 : decode cX10_init 16 = .ok (.iconst 4, 1) := by decide +kernel
