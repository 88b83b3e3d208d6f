theorem dJ_bitCount_0 : decode cJ_bitCount 0 = .ok (.lload_n 0, 1) := by decide +kernel
theorem dJ_bitCount_1 : decode cJ_bitCount 1 = .ok (.lload_n 0, 1) := by decide +kernel
theorem dJ_bitCount_2 : decode cJ_bitCount 2 = .ok (.iconst 1, 1) := by decide +kernel
theorem dJ_bitCount_3 : decode cJ_bitCount 3 = .ok (.lushr, 1) := by decide +kernel
theorem dJ_bitCount_4 : decode cJ_bitCount 4 = .ok (.ldc2_w 314, 3) := by decide +kernel
theorem dJ_bitCount_7 : decode cJ_bitCount 7 = .ok (.land, 1) := by decide +kernel
theorem dJ_bitCount_8 : decode cJ_bitCount 8 = .ok (.lsub, 1) := by decide +kernel
theorem dJ_bitCount_9 : decode cJ_bitCount 9 = .ok (.lstore_n 0, 1) := by decide +kernel
theorem dJ_bitCount_10 : decode cJ_bitCount 10 = .ok (.lload_n 0, 1) := by decide +kernel
theorem dJ_bitCount_11 : decode cJ_bitCount 11 = .ok (.ldc2_w 316, 3) := by decide +kernel
theorem dJ_bitCount_14 : decode cJ_bitCount 14 = .ok (.land, 1) := by decide +kernel
theorem dJ_bitCount_15 : decode cJ_bitCount 15 = .ok (.lload_n 0, 1) := by decide +kernel
theorem dJ_bitCount_16 : decode cJ_bitCount 16 = .ok (.iconst 2, 1) := by decide +kernel
theorem dJ_bitCount_17 : decode cJ_bitCount 17 = .ok (.lushr, 1) := by decide +kernel
theorem dJ_bitCount_18 : decode cJ_bitCount 18 = .ok (.ldc2_w 316, 3) := by decide +kernel
theorem dJ_bitCount_21 : decode cJ_bitCount 21 = .ok (.land, 1) := by decide +kernel
theorem dJ_bitCount_22 : decode cJ_bitCount 22 = .ok (.ladd, 1) := by decide +kernel
theorem dJ_bitCount_23 : decode cJ_bitCount 23 = .ok (.lstore_n 0, 1) := by decide +kernel
theorem dJ_bitCount_24 : decode cJ_bitCount 24 = .ok (.lload_n 0, 1) := by decide +kernel
theorem dJ_bitCount_25 : decode cJ_bitCount 25 = .ok (.lload_n 0, 1) := by decide +kernel
theorem dJ_bitCount_26 : decode cJ_bitCount 26 = .ok (.iconst 4, 1) := by decide +kernel
theorem dJ_bitCount_27 : decode cJ_bitCount 27 = .ok (.lushr, 1) := by decide +kernel
theorem dJ_bitCount_28 : decode cJ_bitCount 28 = .ok (.ladd, 1) := by decide +kernel
theorem dJ_bitCount_29 : decode cJ_bitCount 29 = .ok (.ldc2_w 318, 3) := by decide +kernel
theorem dJ_bitCount_32 : decode cJ_bitCount 32 = .ok (.land, 1) := by decide +kernel
theorem dJ_bitCount_33 : decode cJ_bitCount 33 = .ok (.lstore_n 0, 1) := by decide +kernel
theorem dJ_bitCount_34 : decode cJ_bitCount 34 = .ok (.lload_n 0, 1) := by decide +kernel
theorem dJ_bitCount_35 : decode cJ_bitCount 35 = .ok (.lload_n 0, 1) := by decide +kernel
theorem dJ_bitCount_36 : decode cJ_bitCount 36 = .ok (.bipush 8, 2) := by decide +kernel
theorem dJ_bitCount_38 : decode cJ_bitCount 38 = .ok (.lushr, 1) := by decide +kernel
theorem dJ_bitCount_39 : decode cJ_bitCount 39 = .ok (.ladd, 1) := by decide +kernel
theorem dJ_bitCount_40 : decode cJ_bitCount 40 = .ok (.lstore_n 0, 1) := by decide +kernel
theorem dJ_bitCount_41 : decode cJ_bitCount 41 = .ok (.lload_n 0, 1) := by decide +kernel
theorem dJ_bitCount_42 : decode cJ_bitCount 42 = .ok (.lload_n 0, 1) := by decide +kernel
theorem dJ_bitCount_43 : decode cJ_bitCount 43 = .ok (.bipush 16, 2) := by decide +kernel
theorem dJ_bitCount_45 : decode cJ_bitCount 45 = .ok (.lushr, 1) := by decide +kernel
theorem dJ_bitCount_46 : decode cJ_bitCount 46 = .ok (.ladd, 1) := by decide +kernel
theorem dJ_bitCount_47 : decode cJ_bitCount 47 = .ok (.lstore_n 0, 1) := by decide +kernel
theorem dJ_bitCount_48 : decode cJ_bitCount 48 = .ok (.lload_n 0, 1) := by decide +kernel
theorem dJ_bitCount_49 : decode cJ_bitCount 49 = .ok (.lload_n 0, 1) := by decide +kernel
theorem dJ_bitCount_50 : decode cJ_bitCount 50 = .ok (.bipush 32, 2) := by decide +kernel
theorem dJ_bitCount_52 : decode cJ_bitCount 52 = .ok (.lushr, 1) := by decide +kernel
theorem dJ_bitCount_53 : decode cJ_bitCount 53 = .ok (.ladd, 1) := by decide +kernel
theorem dJ_bitCount_54 : decode cJ_bitCount 54 = .ok (.lstore_n 0, 1) := by decide +kernel
theorem dJ_bitCount_55 : decode cJ_bitCount 55 = .ok (.lload_n 0, 1) := by decide +kernel
theorem dJ_bitCount_56 : decode cJ_bitCount 56 = .ok (.l2i, 1) := by decide +kernel
theorem dJ_bitCount_57 : decode cJ_bitCount 57 = .ok (.bipush 127, 2) := by decide +kernel
theorem dJ_bitCount_59 : decode cJ_bitCount 59 = .ok (.iand, 1) := by decide +kernel
theorem dJ_bitCount_60 : decode cJ_bitCount 60 = .ok (.ireturn, 1) := by decide +kernel
theorem dL_policy_0 : decode cL_policy 0 = .ok (.aload 5, 2) := by decide +kernel
theorem dL_policy_2 : decode cL_policy 2 = .ok (.iconst 0, 1) := by decide +kernel
theorem dL_policy_3 : decode cL_policy 3 = .ok (.aload_n 0, 1) := by decide +kernel
theorem dL_policy_4 : decode cL_policy 4 = .ok (.iload_n 1, 1) := by decide +kernel
theorem dL_policy_5 : decode cL_policy 5 = .ok (.iload_n 2, 1) := by decide +kernel
theorem dL_policy_6 : decode cL_policy 6 = .ok (.iload_n 3, 1) := by decide +kernel
theorem dL_policy_7 : decode cL_policy 7 = .ok (.iload 4, 2) := by decide +kernel
theorem dL_policy_9 : decode cL_policy 9 = .ok (.invokevirtual 7, 3) := by decide +kernel
theorem dL_policy_12 : decode cL_policy 12 = .ok (.i2l, 1) := by decide +kernel
theorem dL_policy_13 : decode cL_policy 13 = .ok (.lastore, 1) := by decide +kernel
theorem dL_policy_14 : decode cL_policy 14 = .ok (.goto 15, 3) := by decide +kernel
theorem dL_policy_17 : decode cL_policy 17 = .ok (.astore 6, 2) := by decide +kernel
theorem dL_policy_19 : decode cL_policy 19 = .ok (.iconst 1, 1) := by decide +kernel
theorem dL_policy_20 : decode cL_policy 20 = .ok (.ireturn, 1) := by decide +kernel
theorem dL_policy_21 : decode cL_policy 21 = .ok (.astore 6, 2) := by decide +kernel
theorem dL_policy_23 : decode cL_policy 23 = .ok (.iconst 2, 1) := by decide +kernel
theorem dL_policy_24 : decode cL_policy 24 = .ok (.ireturn, 1) := by decide +kernel
theorem dL_policy_25 : decode cL_policy 25 = .ok (.astore 6, 2) := by decide +kernel
theorem dL_policy_27 : decode cL_policy 27 = .ok (.iconst 3, 1) := by decide +kernel
theorem dL_policy_28 : decode cL_policy 28 = .ok (.ireturn, 1) := by decide +kernel
theorem dL_policy_29 : decode cL_policy 29 = .ok (.iconst 0, 1) := by decide +kernel
theorem dL_policy_30 : decode cL_policy 30 = .ok (.ireturn, 1) := by decide +kernel
theorem dL_outcome_0 : decode cL_outcome 0 = .ok (.aload_n 3, 1) := by decide +kernel
theorem dL_outcome_1 : decode cL_outcome 1 = .ok (.iconst 0, 1) := by decide +kernel
theorem dL_outcome_2 : decode cL_outcome 2 = .ok (.aload_n 0, 1) := by decide +kernel
theorem dL_outcome_3 : decode cL_outcome 3 = .ok (.iload_n 1, 1) := by decide +kernel
theorem dL_outcome_4 : decode cL_outcome 4 = .ok (.iload_n 2, 1) := by decide +kernel
theorem dL_outcome_5 : decode cL_outcome 5 = .ok (.invokevirtual 19, 3) := by decide +kernel
theorem dL_outcome_8 : decode cL_outcome 8 = .ok (.lastore, 1) := by decide +kernel
theorem dL_outcome_9 : decode cL_outcome 9 = .ok (.goto 11, 3) := by decide +kernel
theorem dL_outcome_12 : decode cL_outcome 12 = .ok (.astore 4, 2) := by decide +kernel
theorem dL_outcome_14 : decode cL_outcome 14 = .ok (.iconst 1, 1) := by decide +kernel
theorem dL_outcome_15 : decode cL_outcome 15 = .ok (.ireturn, 1) := by decide +kernel
theorem dL_outcome_16 : decode cL_outcome 16 = .ok (.astore 4, 2) := by decide +kernel
theorem dL_outcome_18 : decode cL_outcome 18 = .ok (.iconst 2, 1) := by decide +kernel
theorem dL_outcome_19 : decode cL_outcome 19 = .ok (.ireturn, 1) := by decide +kernel
theorem dL_outcome_20 : decode cL_outcome 20 = .ok (.iconst 0, 1) := by decide +kernel
theorem dL_outcome_21 : decode cL_outcome 21 = .ok (.ireturn, 1) := by decide +kernel
theorem dL_image_0 : decode cL_image 0 = .ok (.aload 4, 2) := by decide +kernel
theorem dL_image_2 : decode cL_image 2 = .ok (.iconst 0, 1) := by decide +kernel
theorem dL_image_3 : decode cL_image 3 = .ok (.aload_n 0, 1) := by decide +kernel
theorem dL_image_4 : decode cL_image 4 = .ok (.iload_n 1, 1) := by decide +kernel
theorem dL_image_5 : decode cL_image 5 = .ok (.lload_n 2, 1) := by decide +kernel
theorem dL_image_6 : decode cL_image 6 = .ok (.invokevirtual 25, 3) := by decide +kernel
theorem dL_image_9 : decode cL_image 9 = .ok (.lastore, 1) := by decide +kernel
theorem dL_image_10 : decode cL_image 10 = .ok (.goto 7, 3) := by decide +kernel
theorem dL_image_13 : decode cL_image 13 = .ok (.astore 5, 2) := by decide +kernel
theorem dL_image_15 : decode cL_image 15 = .ok (.iconst 1, 1) := by decide +kernel
theorem dL_image_16 : decode cL_image 16 = .ok (.ireturn, 1) := by decide +kernel
theorem dL_image_17 : decode cL_image 17 = .ok (.iconst 0, 1) := by decide +kernel
theorem dL_image_18 : decode cL_image 18 = .ok (.ireturn, 1) := by decide +kernel
theorem dL_source_0 : decode cL_source 0 = .ok (.aload 4, 2) := by decide +kernel
theorem dL_source_2 : decode cL_source 2 = .ok (.iconst 0, 1) := by decide +kernel
theorem dL_source_3 : decode cL_source 3 = .ok (.aload_n 0, 1) := by decide +kernel
theorem dL_source_4 : decode cL_source 4 = .ok (.iload_n 1, 1) := by decide +kernel
theorem dL_source_5 : decode cL_source 5 = .ok (.lload_n 2, 1) := by decide +kernel
theorem dL_source_6 : decode cL_source 6 = .ok (.invokevirtual 29, 3) := by decide +kernel
theorem dL_source_9 : decode cL_source 9 = .ok (.lastore, 1) := by decide +kernel
theorem dL_source_10 : decode cL_source 10 = .ok (.goto 7, 3) := by decide +kernel
theorem dL_source_13 : decode cL_source 13 = .ok (.astore 5, 2) := by decide +kernel
theorem dL_source_15 : decode cL_source 15 = .ok (.iconst 1, 1) := by decide +kernel
theorem dL_source_16 : decode cL_source 16 = .ok (.ireturn, 1) := by decide +kernel
theorem dL_source_17 : decode cL_source 17 = .ok (.iconst 0, 1) := by decide +kernel
theorem dL_source_18 : decode cL_source 18 = .ok (.ireturn, 1) := by decide +kernel
theorem dL_filter_0 : decode cL_filter 0 = .ok (.aload_n 2, 1) := by decide +kernel
theorem dL_filter_1 : decode cL_filter 1 = .ok (.iconst 0, 1) := by decide +kernel
theorem dL_filter_2 : decode cL_filter 2 = .ok (.aload_n 0, 1) := by decide +kernel
theorem dL_filter_3 : decode cL_filter 3 = .ok (.iload_n 1, 1) := by decide +kernel
theorem dL_filter_4 : decode cL_filter 4 = .ok (.invokevirtual 32, 3) := by decide +kernel
theorem dL_filter_7 : decode cL_filter 7 = .ok (.i2l, 1) := by decide +kernel
theorem dL_filter_8 : decode cL_filter 8 = .ok (.lastore, 1) := by decide +kernel
theorem dL_filter_9 : decode cL_filter 9 = .ok (.goto 6, 3) := by decide +kernel
theorem dL_filter_12 : decode cL_filter 12 = .ok (.astore_n 3, 1) := by decide +kernel
theorem dL_filter_13 : decode cL_filter 13 = .ok (.iconst 1, 1) := by decide +kernel
theorem dL_filter_14 : decode cL_filter 14 = .ok (.ireturn, 1) := by decide +kernel
theorem dL_filter_15 : decode cL_filter 15 = .ok (.iconst 0, 1) := by decide +kernel
theorem dL_filter_16 : decode cL_filter 16 = .ok (.ireturn, 1) := by decide +kernel
theorem dL_same_0 : decode cL_same 0 = .ok (.aload_n 3, 1) := by decide +kernel
theorem dL_same_1 : decode cL_same 1 = .ok (.iconst 0, 1) := by decide +kernel
theorem dL_same_2 : decode cL_same 2 = .ok (.aload_n 0, 1) := by decide +kernel
theorem dL_same_3 : decode cL_same 3 = .ok (.iload_n 1, 1) := by decide +kernel
theorem dL_same_4 : decode cL_same 4 = .ok (.iload_n 2, 1) := by decide +kernel
theorem dL_same_5 : decode cL_same 5 = .ok (.invokevirtual 36, 3) := by decide +kernel
theorem dL_same_8 : decode cL_same 8 = .ok (.i2l, 1) := by decide +kernel
theorem dL_same_9 : decode cL_same 9 = .ok (.lastore, 1) := by decide +kernel
theorem dL_same_10 : decode cL_same 10 = .ok (.goto 7, 3) := by decide +kernel
theorem dL_same_13 : decode cL_same 13 = .ok (.astore 4, 2) := by decide +kernel
theorem dL_same_15 : decode cL_same 15 = .ok (.iconst 1, 1) := by decide +kernel
theorem dL_same_16 : decode cL_same 16 = .ok (.ireturn, 1) := by decide +kernel
theorem dL_same_17 : decode cL_same 17 = .ok (.iconst 0, 1) := by decide +kernel
theorem dL_same_18 : decode cL_same 18 = .ok (.ireturn, 1) := by decide +kernel
theorem dL_covers_0 : decode cL_covers 0 = .ok (.aload_n 3, 1) := by decide +kernel
theorem dL_covers_1 : decode cL_covers 1 = .ok (.iconst 0, 1) := by decide +kernel
theorem dL_covers_2 : decode cL_covers 2 = .ok (.aload_n 0, 1) := by decide +kernel
theorem dL_covers_3 : decode cL_covers 3 = .ok (.iload_n 1, 1) := by decide +kernel
theorem dL_covers_4 : decode cL_covers 4 = .ok (.iload_n 2, 1) := by decide +kernel
theorem dL_covers_5 : decode cL_covers 5 = .ok (.invokevirtual 40, 3) := by decide +kernel
theorem dL_covers_8 : decode cL_covers 8 = .ok (.i2l, 1) := by decide +kernel
theorem dL_covers_9 : decode cL_covers 9 = .ok (.lastore, 1) := by decide +kernel
theorem dL_covers_10 : decode cL_covers 10 = .ok (.goto 7, 3) := by decide +kernel
theorem dL_covers_13 : decode cL_covers 13 = .ok (.astore 4, 2) := by decide +kernel
theorem dL_covers_15 : decode cL_covers 15 = .ok (.iconst 1, 1) := by decide +kernel
theorem dL_covers_16 : decode cL_covers 16 = .ok (.ireturn, 1) := by decide +kernel
theorem dL_covers_17 : decode cL_covers 17 = .ok (.iconst 0, 1) := by decide +kernel
theorem dL_covers_18 : decode cL_covers 18 = .ok (.ireturn, 1) := by decide +kernel
theorem dL_differ_0 : decode cL_differ 0 = .ok (.aload_n 3, 1) := by decide +kernel
theorem dL_differ_1 : decode cL_differ 1 = .ok (.iconst 0, 1) := by decide +kernel
theorem dL_differ_2 : decode cL_differ 2 = .ok (.aload_n 0, 1) := by decide +kernel
theorem dL_differ_3 : decode cL_differ 3 = .ok (.iload_n 1, 1) := by decide +kernel
theorem dL_differ_4 : decode cL_differ 4 = .ok (.iload_n 2, 1) := by decide +kernel
theorem dL_differ_5 : decode cL_differ 5 = .ok (.invokevirtual 43, 3) := by decide +kernel
theorem dL_differ_8 : decode cL_differ 8 = .ok (.i2l, 1) := by decide +kernel
theorem dL_differ_9 : decode cL_differ 9 = .ok (.lastore, 1) := by decide +kernel
theorem dL_differ_10 : decode cL_differ 10 = .ok (.goto 11, 3) := by decide +kernel
theorem dL_differ_13 : decode cL_differ 13 = .ok (.astore 4, 2) := by decide +kernel
theorem dL_differ_15 : decode cL_differ 15 = .ok (.iconst 1, 1) := by decide +kernel
theorem dL_differ_16 : decode cL_differ 16 = .ok (.ireturn, 1) := by decide +kernel
theorem dL_differ_17 : decode cL_differ 17 = .ok (.astore 4, 2) := by decide +kernel
theorem dL_differ_19 : decode cL_differ 19 = .ok (.iconst 2, 1) := by decide +kernel
theorem dL_differ_20 : decode cL_differ 20 = .ok (.ireturn, 1) := by decide +kernel
theorem dL_differ_21 : decode cL_differ 21 = .ok (.iconst 0, 1) := by decide +kernel
theorem dL_differ_22 : decode cL_differ 22 = .ok (.ireturn, 1) := by decide +kernel
theorem dL_rules_0 : decode cL_rules 0 = .ok (.aload_n 2, 1) := by decide +kernel
theorem dL_rules_1 : decode cL_rules 1 = .ok (.iconst 0, 1) := by decide +kernel
theorem dL_rules_2 : decode cL_rules 2 = .ok (.aload_n 0, 1) := by decide +kernel
theorem dL_rules_3 : decode cL_rules 3 = .ok (.iload_n 1, 1) := by decide +kernel
theorem dL_rules_4 : decode cL_rules 4 = .ok (.invokevirtual 46, 3) := by decide +kernel
theorem dL_rules_7 : decode cL_rules 7 = .ok (.i2l, 1) := by decide +kernel
theorem dL_rules_8 : decode cL_rules 8 = .ok (.lastore, 1) := by decide +kernel
theorem dL_rules_9 : decode cL_rules 9 = .ok (.goto 6, 3) := by decide +kernel
theorem dL_rules_12 : decode cL_rules 12 = .ok (.astore_n 3, 1) := by decide +kernel
theorem dL_rules_13 : decode cL_rules 13 = .ok (.iconst 1, 1) := by decide +kernel
theorem dL_rules_14 : decode cL_rules 14 = .ok (.ireturn, 1) := by decide +kernel
theorem dL_rules_15 : decode cL_rules 15 = .ok (.iconst 0, 1) := by decide +kernel
theorem dL_rules_16 : decode cL_rules 16 = .ok (.ireturn, 1) := by decide +kernel
theorem dL_rule_0 : decode cL_rule 0 = .ok (.aload 4, 2) := by decide +kernel
theorem dL_rule_2 : decode cL_rule 2 = .ok (.iconst 0, 1) := by decide +kernel
theorem dL_rule_3 : decode cL_rule 3 = .ok (.aload_n 0, 1) := by decide +kernel
theorem dL_rule_4 : decode cL_rule 4 = .ok (.iload_n 1, 1) := by decide +kernel
theorem dL_rule_5 : decode cL_rule 5 = .ok (.iload_n 2, 1) := by decide +kernel
theorem dL_rule_6 : decode cL_rule 6 = .ok (.iload_n 3, 1) := by decide +kernel
theorem dL_rule_7 : decode cL_rule 7 = .ok (.invokevirtual 49, 3) := by decide +kernel
theorem dL_rule_10 : decode cL_rule 10 = .ok (.i2l, 1) := by decide +kernel
theorem dL_rule_11 : decode cL_rule 11 = .ok (.lastore, 1) := by decide +kernel
theorem dL_rule_12 : decode cL_rule 12 = .ok (.goto 11, 3) := by decide +kernel
theorem dL_rule_15 : decode cL_rule 15 = .ok (.astore 5, 2) := by decide +kernel
theorem dL_rule_17 : decode cL_rule 17 = .ok (.iconst 1, 1) := by decide +kernel
theorem dL_rule_18 : decode cL_rule 18 = .ok (.ireturn, 1) := by decide +kernel
theorem dL_rule_19 : decode cL_rule 19 = .ok (.astore 5, 2) := by decide +kernel
theorem dL_rule_21 : decode cL_rule 21 = .ok (.iconst 2, 1) := by decide +kernel
theorem dL_rule_22 : decode cL_rule 22 = .ok (.ireturn, 1) := by decide +kernel
theorem dL_rule_23 : decode cL_rule 23 = .ok (.iconst 0, 1) := by decide +kernel
theorem dL_rule_24 : decode cL_rule 24 = .ok (.ireturn, 1) := by decide +kernel
theorem dL_match_0 : decode cL_match 0 = .ok (.aload_n 3, 1) := by decide +kernel
theorem dL_match_1 : decode cL_match 1 = .ok (.iconst 0, 1) := by decide +kernel
theorem dL_match_2 : decode cL_match 2 = .ok (.aload_n 0, 1) := by decide +kernel
theorem dL_match_3 : decode cL_match 3 = .ok (.iload_n 1, 1) := by decide +kernel
theorem dL_match_4 : decode cL_match 4 = .ok (.iload_n 2, 1) := by decide +kernel
theorem dL_match_5 : decode cL_match 5 = .ok (.invokevirtual 53, 3) := by decide +kernel
theorem dL_match_8 : decode cL_match 8 = .ok (.i2l, 1) := by decide +kernel
theorem dL_match_9 : decode cL_match 9 = .ok (.lastore, 1) := by decide +kernel
theorem dL_match_10 : decode cL_match 10 = .ok (.goto 11, 3) := by decide +kernel
theorem dL_match_13 : decode cL_match 13 = .ok (.astore 4, 2) := by decide +kernel
theorem dL_match_15 : decode cL_match 15 = .ok (.iconst 1, 1) := by decide +kernel
theorem dL_match_16 : decode cL_match 16 = .ok (.ireturn, 1) := by decide +kernel
theorem dL_match_17 : decode cL_match 17 = .ok (.astore 4, 2) := by decide +kernel
theorem dL_match_19 : decode cL_match 19 = .ok (.iconst 2, 1) := by decide +kernel
theorem dL_match_20 : decode cL_match 20 = .ok (.ireturn, 1) := by decide +kernel
theorem dL_match_21 : decode cL_match 21 = .ok (.iconst 0, 1) := by decide +kernel
theorem dL_match_22 : decode cL_match 22 = .ok (.ireturn, 1) := by decide +kernel
theorem dL_hops_0 : decode cL_hops 0 = .ok (.aload 5, 2) := by decide +kernel
theorem dL_hops_2 : decode cL_hops 2 = .ok (.iconst 0, 1) := by decide +kernel
theorem dL_hops_3 : decode cL_hops 3 = .ok (.aload_n 0, 1) := by decide +kernel
theorem dL_hops_4 : decode cL_hops 4 = .ok (.iload_n 1, 1) := by decide +kernel
theorem dL_hops_5 : decode cL_hops 5 = .ok (.iload_n 2, 1) := by decide +kernel
theorem dL_hops_6 : decode cL_hops 6 = .ok (.lload_n 3, 1) := by decide +kernel
theorem dL_hops_7 : decode cL_hops 7 = .ok (.invokevirtual 56, 3) := by decide +kernel
theorem dL_hops_10 : decode cL_hops 10 = .ok (.i2l, 1) := by decide +kernel
theorem dL_hops_11 : decode cL_hops 11 = .ok (.lastore, 1) := by decide +kernel
theorem dL_hops_12 : decode cL_hops 12 = .ok (.goto 11, 3) := by decide +kernel
theorem dL_hops_15 : decode cL_hops 15 = .ok (.astore 6, 2) := by decide +kernel
theorem dL_hops_17 : decode cL_hops 17 = .ok (.iconst 1, 1) := by decide +kernel
theorem dL_hops_18 : decode cL_hops 18 = .ok (.ireturn, 1) := by decide +kernel
theorem dL_hops_19 : decode cL_hops 19 = .ok (.astore 6, 2) := by decide +kernel
theorem dL_hops_21 : decode cL_hops 21 = .ok (.iconst 2, 1) := by decide +kernel
theorem dL_hops_22 : decode cL_hops 22 = .ok (.ireturn, 1) := by decide +kernel
theorem dL_hops_23 : decode cL_hops 23 = .ok (.iconst 0, 1) := by decide +kernel
theorem dL_hops_24 : decode cL_hops 24 = .ok (.ireturn, 1) := by decide +kernel
theorem dL_count_0 : decode cL_count 0 = .ok (.aload_n 2, 1) := by decide +kernel
theorem dL_count_1 : decode cL_count 1 = .ok (.iconst 0, 1) := by decide +kernel
theorem dL_count_2 : decode cL_count 2 = .ok (.aload_n 0, 1) := by decide +kernel
theorem dL_count_3 : decode cL_count 3 = .ok (.iload_n 1, 1) := by decide +kernel
theorem dL_count_4 : decode cL_count 4 = .ok (.invokevirtual 60, 3) := by decide +kernel
theorem dL_count_7 : decode cL_count 7 = .ok (.i2l, 1) := by decide +kernel
theorem dL_count_8 : decode cL_count 8 = .ok (.lastore, 1) := by decide +kernel
theorem dL_count_9 : decode cL_count 9 = .ok (.goto 6, 3) := by decide +kernel
theorem dL_count_12 : decode cL_count 12 = .ok (.astore_n 3, 1) := by decide +kernel
theorem dL_count_13 : decode cL_count 13 = .ok (.iconst 1, 1) := by decide +kernel
theorem dL_count_14 : decode cL_count 14 = .ok (.ireturn, 1) := by decide +kernel
theorem dL_count_15 : decode cL_count 15 = .ok (.iconst 0, 1) := by decide +kernel
theorem dL_count_16 : decode cL_count 16 = .ok (.ireturn, 1) := by decide +kernel
theorem dP_init_0 : decode cP_init 0 = .ok (.aload_n 0, 1) := by decide +kernel
theorem dP_init_1 : decode cP_init 1 = .ok (.invokespecial 3, 3) := by decide +kernel
theorem dP_init_4 : decode cP_init 4 = .ok (.aload_n 0, 1) := by decide +kernel
theorem dP_init_5 : decode cP_init 5 = .ok (.iload_n 1, 1) := by decide +kernel
theorem dP_init_6 : decode cP_init 6 = .ok (.putfield 9, 3) := by decide +kernel
theorem dP_init_9 : decode cP_init 9 = .ok (.aload_n 0, 1) := by decide +kernel
theorem dP_init_10 : decode cP_init 10 = .ok (.bipush 64, 2) := by decide +kernel
theorem dP_init_12 : decode cP_init 12 = .ok (.newarray .long, 2) := by decide +kernel
theorem dP_init_14 : decode cP_init 14 = .ok (.putfield 15, 3) := by decide +kernel
theorem dP_init_17 : decode cP_init 17 = .ok (.aload_n 0, 1) := by decide +kernel
theorem dP_init_18 : decode cP_init 18 = .ok (.aconst_null, 1) := by decide +kernel
theorem dP_init_19 : decode cP_init 19 = .ok (.putfield 19, 3) := by decide +kernel
theorem dP_init_22 : decode cP_init 22 = .ok (.return_, 1) := by decide +kernel
theorem dQ_init_0 : decode cQ_init 0 = .ok (.aload_n 0, 1) := by decide +kernel
theorem dQ_init_1 : decode cQ_init 1 = .ok (.invokespecial 3, 3) := by decide +kernel
theorem dQ_init_4 : decode cQ_init 4 = .ok (.aload_n 0, 1) := by decide +kernel
theorem dQ_init_5 : decode cQ_init 5 = .ok (.bipush 64, 2) := by decide +kernel
theorem dQ_init_7 : decode cQ_init 7 = .ok (.newarray .long, 2) := by decide +kernel
theorem dQ_init_9 : decode cQ_init 9 = .ok (.putfield 9, 3) := by decide +kernel
theorem dQ_init_12 : decode cQ_init 12 = .ok (.aload_n 0, 1) := by decide +kernel
theorem dQ_init_13 : decode cQ_init 13 = .ok (.bipush 64, 2) := by decide +kernel
theorem dQ_init_15 : decode cQ_init 15 = .ok (.newarray .long, 2) := by decide +kernel
theorem dQ_init_17 : decode cQ_init 17 = .ok (.putfield 15, 3) := by decide +kernel
theorem dQ_init_20 : decode cQ_init 20 = .ok (.return_, 1) := by decide +kernel
theorem dQ_read_0 : decode cQ_read 0 = .ok (.iconst 0, 1) := by decide +kernel
theorem dQ_read_1 : decode cQ_read 1 = .ok (.istore_n 2, 1) := by decide +kernel
theorem dQ_read_2 : decode cQ_read 2 = .ok (.iload_n 2, 1) := by decide +kernel
theorem dQ_read_3 : decode cQ_read 3 = .ok (.bipush 64, 2) := by decide +kernel
theorem dQ_read_5 : decode cQ_read 5 = .ok (.if_icmp .ge 17, 3) := by decide +kernel
theorem dQ_read_8 : decode cQ_read 8 = .ok (.aload_n 0, 1) := by decide +kernel
theorem dQ_read_9 : decode cQ_read 9 = .ok (.iload_n 2, 1) := by decide +kernel
theorem dQ_read_10 : decode cQ_read 10 = .ok (.aload_n 1, 1) := by decide +kernel
theorem dQ_read_11 : decode cQ_read 11 = .ok (.iload_n 2, 1) := by decide +kernel
theorem dQ_read_12 : decode cQ_read 12 = .ok (.laload, 1) := by decide +kernel
theorem dQ_read_13 : decode cQ_read 13 = .ok (.invokevirtual 18, 3) := by decide +kernel
theorem dQ_read_16 : decode cQ_read 16 = .ok (.iinc 2 1, 3) := by decide +kernel
theorem dQ_read_19 : decode cQ_read 19 = .ok (.goto (-17), 3) := by decide +kernel
theorem dQ_read_22 : decode cQ_read 22 = .ok (.return_, 1) := by decide +kernel
theorem dQ_readPacket_0 : decode cQ_readPacket 0 = .ok (.lconst 0, 1) := by decide +kernel
theorem dQ_readPacket_1 : decode cQ_readPacket 1 = .ok (.lstore 4, 2) := by decide +kernel
theorem dQ_readPacket_3 : decode cQ_readPacket 3 = .ok (.lconst 0, 1) := by decide +kernel
theorem dQ_readPacket_4 : decode cQ_readPacket 4 = .ok (.lstore 6, 2) := by decide +kernel
theorem dQ_readPacket_6 : decode cQ_readPacket 6 = .ok (.iconst 0, 1) := by decide +kernel
theorem dQ_readPacket_7 : decode cQ_readPacket 7 = .ok (.istore 8, 2) := by decide +kernel
theorem dQ_readPacket_9 : decode cQ_readPacket 9 = .ok (.iload 8, 2) := by decide +kernel
theorem dQ_readPacket_11 : decode cQ_readPacket 11 = .ok (.bipush 64, 2) := by decide +kernel
theorem dQ_readPacket_13 : decode cQ_readPacket 13 = .ok (.if_icmp .ge 57, 3) := by decide +kernel
theorem dQ_readPacket_16 : decode cQ_readPacket 16 = .ok (.lload_n 2, 1) := by decide +kernel
theorem dQ_readPacket_17 : decode cQ_readPacket 17 = .ok (.iload 8, 2) := by decide +kernel
theorem dQ_readPacket_19 : decode cQ_readPacket 19 = .ok (.invokestatic 22, 3) := by decide +kernel
theorem dQ_readPacket_22 : decode cQ_readPacket 22 = .ok (.ifCond .eq 42, 3) := by decide +kernel
theorem dQ_readPacket_25 : decode cQ_readPacket 25 = .ok (.iload_n 1, 1) := by decide +kernel
theorem dQ_readPacket_26 : decode cQ_readPacket 26 = .ok (.iload 8, 2) := by decide +kernel
theorem dQ_readPacket_28 : decode cQ_readPacket 28 = .ok (.invokestatic 26, 3) := by decide +kernel
theorem dQ_readPacket_31 : decode cQ_readPacket 31 = .ok (.istore 9, 2) := by decide +kernel
theorem dQ_readPacket_33 : decode cQ_readPacket 33 = .ok (.iload 9, 2) := by decide +kernel
theorem dQ_readPacket_35 : decode cQ_readPacket 35 = .ok (.bipush 64, 2) := by decide +kernel
theorem dQ_readPacket_37 : decode cQ_readPacket 37 = .ok (.if_icmp .ge 15, 3) := by decide +kernel
theorem dQ_readPacket_40 : decode cQ_readPacket 40 = .ok (.lload 4, 2) := by decide +kernel
theorem dQ_readPacket_42 : decode cQ_readPacket 42 = .ok (.lconst 1, 1) := by decide +kernel
theorem dQ_readPacket_43 : decode cQ_readPacket 43 = .ok (.iload 9, 2) := by decide +kernel
theorem dQ_readPacket_45 : decode cQ_readPacket 45 = .ok (.lshl, 1) := by decide +kernel
theorem dQ_readPacket_46 : decode cQ_readPacket 46 = .ok (.lor, 1) := by decide +kernel
theorem dQ_readPacket_47 : decode cQ_readPacket 47 = .ok (.lstore 4, 2) := by decide +kernel
theorem dQ_readPacket_49 : decode cQ_readPacket 49 = .ok (.goto 15, 3) := by decide +kernel
theorem dQ_readPacket_52 : decode cQ_readPacket 52 = .ok (.lload 6, 2) := by decide +kernel
theorem dQ_readPacket_54 : decode cQ_readPacket 54 = .ok (.lconst 1, 1) := by decide +kernel
theorem dQ_readPacket_55 : decode cQ_readPacket 55 = .ok (.iload 9, 2) := by decide +kernel
theorem dQ_readPacket_57 : decode cQ_readPacket 57 = .ok (.bipush 64, 2) := by decide +kernel
theorem dQ_readPacket_59 : decode cQ_readPacket 59 = .ok (.isub, 1) := by decide +kernel
theorem dQ_readPacket_60 : decode cQ_readPacket 60 = .ok (.lshl, 1) := by decide +kernel
theorem dQ_readPacket_61 : decode cQ_readPacket 61 = .ok (.lor, 1) := by decide +kernel
theorem dQ_readPacket_62 : decode cQ_readPacket 62 = .ok (.lstore 6, 2) := by decide +kernel
theorem dQ_readPacket_64 : decode cQ_readPacket 64 = .ok (.iinc 8 1, 3) := by decide +kernel
theorem dQ_readPacket_67 : decode cQ_readPacket 67 = .ok (.goto (-58), 3) := by decide +kernel
theorem dQ_readPacket_70 : decode cQ_readPacket 70 = .ok (.aload_n 0, 1) := by decide +kernel
theorem dQ_readPacket_71 : decode cQ_readPacket 71 = .ok (.getfield 9, 3) := by decide +kernel
theorem dQ_readPacket_74 : decode cQ_readPacket 74 = .ok (.iload_n 1, 1) := by decide +kernel
theorem dQ_readPacket_75 : decode cQ_readPacket 75 = .ok (.lload 4, 2) := by decide +kernel
theorem dQ_readPacket_77 : decode cQ_readPacket 77 = .ok (.lastore, 1) := by decide +kernel
theorem dQ_readPacket_78 : decode cQ_readPacket 78 = .ok (.aload_n 0, 1) := by decide +kernel
theorem dQ_readPacket_79 : decode cQ_readPacket 79 = .ok (.getfield 15, 3) := by decide +kernel
theorem dQ_readPacket_82 : decode cQ_readPacket 82 = .ok (.iload_n 1, 1) := by decide +kernel
theorem dQ_readPacket_83 : decode cQ_readPacket 83 = .ok (.lload 6, 2) := by decide +kernel
theorem dQ_readPacket_85 : decode cQ_readPacket 85 = .ok (.lastore, 1) := by decide +kernel
theorem dQ_readPacket_86 : decode cQ_readPacket 86 = .ok (.return_, 1) := by decide +kernel
theorem dQ_actionFrom_0 : decode cQ_actionFrom 0 = .ok (.iconst 0, 1) := by decide +kernel
theorem dQ_actionFrom_1 : decode cQ_actionFrom 1 = .ok (.istore_n 2, 1) := by decide +kernel
theorem dQ_actionFrom_2 : decode cQ_actionFrom 2 = .ok (.iconst 0, 1) := by decide +kernel
theorem dQ_actionFrom_3 : decode cQ_actionFrom 3 = .ok (.istore_n 3, 1) := by decide +kernel
theorem dQ_actionFrom_4 : decode cQ_actionFrom 4 = .ok (.iload_n 3, 1) := by decide +kernel
theorem dQ_actionFrom_5 : decode cQ_actionFrom 5 = .ok (.iconst 3, 1) := by decide +kernel
theorem dQ_actionFrom_6 : decode cQ_actionFrom 6 = .ok (.if_icmp .ge 37, 3) := by decide +kernel
theorem dQ_actionFrom_9 : decode cQ_actionFrom 9 = .ok (.iload_n 1, 1) := by decide +kernel
theorem dQ_actionFrom_10 : decode cQ_actionFrom 10 = .ok (.iload_n 3, 1) := by decide +kernel
theorem dQ_actionFrom_11 : decode cQ_actionFrom 11 = .ok (.invokestatic 30, 3) := by decide +kernel
theorem dQ_actionFrom_14 : decode cQ_actionFrom 14 = .ok (.istore 4, 2) := by decide +kernel
theorem dQ_actionFrom_16 : decode cQ_actionFrom 16 = .ok (.iload_n 2, 1) := by decide +kernel
theorem dQ_actionFrom_17 : decode cQ_actionFrom 17 = .ok (.iconst 5, 1) := by decide +kernel
theorem dQ_actionFrom_18 : decode cQ_actionFrom 18 = .ok (.imul, 1) := by decide +kernel
theorem dQ_actionFrom_19 : decode cQ_actionFrom 19 = .ok (.iload 4, 2) := by decide +kernel
theorem dQ_actionFrom_21 : decode cQ_actionFrom 21 = .ok (.iload_n 0, 1) := by decide +kernel
theorem dQ_actionFrom_22 : decode cQ_actionFrom 22 = .ok (.iload_n 3, 1) := by decide +kernel
theorem dQ_actionFrom_23 : decode cQ_actionFrom 23 = .ok (.invokestatic 30, 3) := by decide +kernel
theorem dQ_actionFrom_26 : decode cQ_actionFrom 26 = .ok (.if_icmp .ne 7, 3) := by decide +kernel
theorem dQ_actionFrom_29 : decode cQ_actionFrom 29 = .ok (.iconst 4, 1) := by decide +kernel
theorem dQ_actionFrom_30 : decode cQ_actionFrom 30 = .ok (.goto 5, 3) := by decide +kernel
theorem dQ_actionFrom_33 : decode cQ_actionFrom 33 = .ok (.iload 4, 2) := by decide +kernel
theorem dQ_actionFrom_35 : decode cQ_actionFrom 35 = .ok (.iadd, 1) := by decide +kernel
theorem dQ_actionFrom_36 : decode cQ_actionFrom 36 = .ok (.istore_n 2, 1) := by decide +kernel
theorem dQ_actionFrom_37 : decode cQ_actionFrom 37 = .ok (.iinc 3 1, 3) := by decide +kernel
theorem dQ_actionFrom_40 : decode cQ_actionFrom 40 = .ok (.goto (-36), 3) := by decide +kernel
theorem dQ_actionFrom_43 : decode cQ_actionFrom 43 = .ok (.iload_n 2, 1) := by decide +kernel
theorem dQ_actionFrom_44 : decode cQ_actionFrom 44 = .ok (.ireturn, 1) := by decide +kernel
theorem dQ_areAlike_0 : decode cQ_areAlike 0 = .ok (.iload_n 1, 1) := by decide +kernel
theorem dQ_areAlike_1 : decode cQ_areAlike 1 = .ok (.iconst 1, 1) := by decide +kernel
theorem dQ_areAlike_2 : decode cQ_areAlike 2 = .ok (.iadd, 1) := by decide +kernel
theorem dQ_areAlike_3 : decode cQ_areAlike 3 = .ok (.istore_n 3, 1) := by decide +kernel
theorem dQ_areAlike_4 : decode cQ_areAlike 4 = .ok (.iload_n 3, 1) := by decide +kernel
theorem dQ_areAlike_5 : decode cQ_areAlike 5 = .ok (.iload_n 1, 1) := by decide +kernel
theorem dQ_areAlike_6 : decode cQ_areAlike 6 = .ok (.iload_n 2, 1) := by decide +kernel
theorem dQ_areAlike_7 : decode cQ_areAlike 7 = .ok (.iadd, 1) := by decide +kernel
theorem dQ_areAlike_8 : decode cQ_areAlike 8 = .ok (.if_icmp .ge 43, 3) := by decide +kernel
theorem dQ_areAlike_11 : decode cQ_areAlike 11 = .ok (.aload_n 0, 1) := by decide +kernel
theorem dQ_areAlike_12 : decode cQ_areAlike 12 = .ok (.getfield 9, 3) := by decide +kernel
theorem dQ_areAlike_15 : decode cQ_areAlike 15 = .ok (.iload_n 3, 1) := by decide +kernel
theorem dQ_areAlike_16 : decode cQ_areAlike 16 = .ok (.laload, 1) := by decide +kernel
theorem dQ_areAlike_17 : decode cQ_areAlike 17 = .ok (.aload_n 0, 1) := by decide +kernel
theorem dQ_areAlike_18 : decode cQ_areAlike 18 = .ok (.getfield 9, 3) := by decide +kernel
theorem dQ_areAlike_21 : decode cQ_areAlike 21 = .ok (.iload_n 1, 1) := by decide +kernel
theorem dQ_areAlike_22 : decode cQ_areAlike 22 = .ok (.laload, 1) := by decide +kernel
theorem dQ_areAlike_23 : decode cQ_areAlike 23 = .ok (.lcmp, 1) := by decide +kernel
theorem dQ_areAlike_24 : decode cQ_areAlike 24 = .ok (.ifCond .ne 19, 3) := by decide +kernel
theorem dQ_areAlike_27 : decode cQ_areAlike 27 = .ok (.aload_n 0, 1) := by decide +kernel
theorem dQ_areAlike_28 : decode cQ_areAlike 28 = .ok (.getfield 15, 3) := by decide +kernel
theorem dQ_areAlike_31 : decode cQ_areAlike 31 = .ok (.iload_n 3, 1) := by decide +kernel
theorem dQ_areAlike_32 : decode cQ_areAlike 32 = .ok (.laload, 1) := by decide +kernel
theorem dQ_areAlike_33 : decode cQ_areAlike 33 = .ok (.aload_n 0, 1) := by decide +kernel
theorem dQ_areAlike_34 : decode cQ_areAlike 34 = .ok (.getfield 15, 3) := by decide +kernel
theorem dQ_areAlike_37 : decode cQ_areAlike 37 = .ok (.iload_n 1, 1) := by decide +kernel
theorem dQ_areAlike_38 : decode cQ_areAlike 38 = .ok (.laload, 1) := by decide +kernel
theorem dQ_areAlike_39 : decode cQ_areAlike 39 = .ok (.lcmp, 1) := by decide +kernel
theorem dQ_areAlike_40 : decode cQ_areAlike 40 = .ok (.ifCond .eq 5, 3) := by decide +kernel
theorem dQ_areAlike_43 : decode cQ_areAlike 43 = .ok (.iconst 0, 1) := by decide +kernel
theorem dQ_areAlike_44 : decode cQ_areAlike 44 = .ok (.ireturn, 1) := by decide +kernel
theorem dQ_areAlike_45 : decode cQ_areAlike 45 = .ok (.iinc 3 1, 3) := by decide +kernel
theorem dQ_areAlike_48 : decode cQ_areAlike 48 = .ok (.goto (-44), 3) := by decide +kernel
theorem dQ_areAlike_51 : decode cQ_areAlike 51 = .ok (.iconst 1, 1) := by decide +kernel
theorem dQ_areAlike_52 : decode cQ_areAlike 52 = .ok (.ireturn, 1) := by decide +kernel
theorem dT_init_0 : decode cT_init 0 = .ok (.aload_n 0, 1) := by decide +kernel
theorem dT_init_1 : decode cT_init 1 = .ok (.invokespecial 3, 3) := by decide +kernel
theorem dT_init_4 : decode cT_init 4 = .ok (.aload_n 0, 1) := by decide +kernel
theorem dT_init_5 : decode cT_init 5 = .ok (.bipush 64, 2) := by decide +kernel
theorem dT_init_7 : decode cT_init 7 = .ok (.newarray .int, 2) := by decide +kernel
theorem dT_init_9 : decode cT_init 9 = .ok (.putfield 9, 3) := by decide +kernel
theorem dT_init_12 : decode cT_init 12 = .ok (.aload_n 0, 1) := by decide +kernel
theorem dT_init_13 : decode cT_init 13 = .ok (.bipush 64, 2) := by decide +kernel
theorem dT_init_15 : decode cT_init 15 = .ok (.newarray .int, 2) := by decide +kernel
theorem dT_init_17 : decode cT_init 17 = .ok (.putfield 15, 3) := by decide +kernel
theorem dT_init_20 : decode cT_init 20 = .ok (.aload_n 0, 1) := by decide +kernel
theorem dT_init_21 : decode cT_init 21 = .ok (.bipush 64, 2) := by decide +kernel
theorem dT_init_23 : decode cT_init 23 = .ok (.newarray .int, 2) := by decide +kernel
theorem dT_init_25 : decode cT_init 25 = .ok (.putfield 18, 3) := by decide +kernel
theorem dT_init_28 : decode cT_init 28 = .ok (.aload_n 0, 1) := by decide +kernel
theorem dT_init_29 : decode cT_init 29 = .ok (.iconst 0, 1) := by decide +kernel
theorem dT_init_30 : decode cT_init 30 = .ok (.putfield 21, 3) := by decide +kernel
theorem dT_init_33 : decode cT_init 33 = .ok (.return_, 1) := by decide +kernel
theorem dT_fill_0 : decode cT_fill 0 = .ok (.aload_n 0, 1) := by decide +kernel
theorem dT_fill_1 : decode cT_fill 1 = .ok (.aload_n 1, 1) := by decide +kernel
theorem dT_fill_2 : decode cT_fill 2 = .ok (.iconst 0, 1) := by decide +kernel
theorem dT_fill_3 : decode cT_fill 3 = .ok (.iconst 0, 1) := by decide +kernel
theorem dT_fill_4 : decode cT_fill 4 = .ok (.invokevirtual 25, 3) := by decide +kernel
theorem dT_fill_7 : decode cT_fill 7 = .ok (.return_, 1) := by decide +kernel
theorem dT_addRegion_0 : decode cT_addRegion 0 = .ok (.bipush 64, 2) := by decide +kernel
theorem dT_addRegion_2 : decode cT_addRegion 2 = .ok (.iconst 2, 1) := by decide +kernel
theorem dT_addRegion_3 : decode cT_addRegion 3 = .ok (.iload_n 3, 1) := by decide +kernel
theorem dT_addRegion_4 : decode cT_addRegion 4 = .ok (.imul, 1) := by decide +kernel
theorem dT_addRegion_5 : decode cT_addRegion 5 = .ok (.ishr, 1) := by decide +kernel
theorem dT_addRegion_6 : decode cT_addRegion 6 = .ok (.istore 4, 2) := by decide +kernel
theorem dT_addRegion_8 : decode cT_addRegion 8 = .ok (.iload_n 3, 1) := by decide +kernel
theorem dT_addRegion_9 : decode cT_addRegion 9 = .ok (.iconst 3, 1) := by decide +kernel
theorem dT_addRegion_10 : decode cT_addRegion 10 = .ok (.if_icmp .ge 13, 3) := by decide +kernel
theorem dT_addRegion_13 : decode cT_addRegion 13 = .ok (.aload_n 1, 1) := by decide +kernel
theorem dT_addRegion_14 : decode cT_addRegion 14 = .ok (.iload_n 2, 1) := by decide +kernel
theorem dT_addRegion_15 : decode cT_addRegion 15 = .ok (.iload 4, 2) := by decide +kernel
theorem dT_addRegion_17 : decode cT_addRegion 17 = .ok (.invokevirtual 29, 3) := by decide +kernel
theorem dT_addRegion_20 : decode cT_addRegion 20 = .ok (.ifCond .eq 12, 3) := by decide +kernel
theorem dT_addRegion_23 : decode cT_addRegion 23 = .ok (.aload_n 0, 1) := by decide +kernel
theorem dT_addRegion_24 : decode cT_addRegion 24 = .ok (.iload_n 2, 1) := by decide +kernel
theorem dT_addRegion_25 : decode cT_addRegion 25 = .ok (.iload_n 3, 1) := by decide +kernel
theorem dT_addRegion_26 : decode cT_addRegion 26 = .ok (.iload 4, 2) := by decide +kernel
theorem dT_addRegion_28 : decode cT_addRegion 28 = .ok (.invokevirtual 35, 3) := by decide +kernel
theorem dT_addRegion_31 : decode cT_addRegion 31 = .ok (.return_, 1) := by decide +kernel
theorem dT_addRegion_32 : decode cT_addRegion 32 = .ok (.iconst 0, 1) := by decide +kernel
theorem dT_addRegion_33 : decode cT_addRegion 33 = .ok (.istore 5, 2) := by decide +kernel
theorem dT_addRegion_35 : decode cT_addRegion 35 = .ok (.iload 5, 2) := by decide +kernel
theorem dT_addRegion_37 : decode cT_addRegion 37 = .ok (.iconst 4, 1) := by decide +kernel
theorem dT_addRegion_38 : decode cT_addRegion 38 = .ok (.if_icmp .ge 26, 3) := by decide +kernel
theorem dT_addRegion_41 : decode cT_addRegion 41 = .ok (.aload_n 0, 1) := by decide +kernel
theorem dT_addRegion_42 : decode cT_addRegion 42 = .ok (.aload_n 1, 1) := by decide +kernel
theorem dT_addRegion_43 : decode cT_addRegion 43 = .ok (.iload_n 2, 1) := by decide +kernel
theorem dT_addRegion_44 : decode cT_addRegion 44 = .ok (.iload 5, 2) := by decide +kernel
theorem dT_addRegion_46 : decode cT_addRegion 46 = .ok (.iload_n 3, 1) := by decide +kernel
theorem dT_addRegion_47 : decode cT_addRegion 47 = .ok (.invokestatic 39, 3) := by decide +kernel
theorem dT_addRegion_50 : decode cT_addRegion 50 = .ok (.imul, 1) := by decide +kernel
theorem dT_addRegion_51 : decode cT_addRegion 51 = .ok (.iadd, 1) := by decide +kernel
theorem dT_addRegion_52 : decode cT_addRegion 52 = .ok (.iload_n 3, 1) := by decide +kernel
theorem dT_addRegion_53 : decode cT_addRegion 53 = .ok (.iconst 1, 1) := by decide +kernel
theorem dT_addRegion_54 : decode cT_addRegion 54 = .ok (.iadd, 1) := by decide +kernel
theorem dT_addRegion_55 : decode cT_addRegion 55 = .ok (.invokevirtual 25, 3) := by decide +kernel
theorem dT_addRegion_58 : decode cT_addRegion 58 = .ok (.iinc 5 1, 3) := by decide +kernel
theorem dT_addRegion_61 : decode cT_addRegion 61 = .ok (.goto (-26), 3) := by decide +kernel
theorem dT_addRegion_64 : decode cT_addRegion 64 = .ok (.return_, 1) := by decide +kernel
theorem dT_addRule_0 : decode cT_addRule 0 = .ok (.aload_n 0, 1) := by decide +kernel
theorem dT_addRule_1 : decode cT_addRule 1 = .ok (.getfield 9, 3) := by decide +kernel
theorem dT_addRule_4 : decode cT_addRule 4 = .ok (.aload_n 0, 1) := by decide +kernel
theorem dT_addRule_5 : decode cT_addRule 5 = .ok (.getfield 21, 3) := by decide +kernel
theorem dT_addRule_8 : decode cT_addRule 8 = .ok (.iload_n 1, 1) := by decide +kernel
theorem dT_addRule_9 : decode cT_addRule 9 = .ok (.iastore, 1) := by decide +kernel
theorem dT_addRule_10 : decode cT_addRule 10 = .ok (.aload_n 0, 1) := by decide +kernel
theorem dT_addRule_11 : decode cT_addRule 11 = .ok (.getfield 15, 3) := by decide +kernel
theorem dT_addRule_14 : decode cT_addRule 14 = .ok (.aload_n 0, 1) := by decide +kernel
theorem dT_addRule_15 : decode cT_addRule 15 = .ok (.getfield 21, 3) := by decide +kernel
theorem dT_addRule_18 : decode cT_addRule 18 = .ok (.iload_n 2, 1) := by decide +kernel
theorem dT_addRule_19 : decode cT_addRule 19 = .ok (.iastore, 1) := by decide +kernel
theorem dT_addRule_20 : decode cT_addRule 20 = .ok (.iload_n 1, 1) := by decide +kernel
theorem dT_addRule_21 : decode cT_addRule 21 = .ok (.istore 4, 2) := by decide +kernel
theorem dT_addRule_23 : decode cT_addRule 23 = .ok (.iload 4, 2) := by decide +kernel
theorem dT_addRule_25 : decode cT_addRule 25 = .ok (.iload_n 1, 1) := by decide +kernel
theorem dT_addRule_26 : decode cT_addRule 26 = .ok (.iload_n 3, 1) := by decide +kernel
theorem dT_addRule_27 : decode cT_addRule 27 = .ok (.iadd, 1) := by decide +kernel
theorem dT_addRule_28 : decode cT_addRule 28 = .ok (.if_icmp .ge 20, 3) := by decide +kernel
theorem dT_addRule_31 : decode cT_addRule 31 = .ok (.aload_n 0, 1) := by decide +kernel
theorem dT_addRule_32 : decode cT_addRule 32 = .ok (.getfield 18, 3) := by decide +kernel
theorem dT_addRule_35 : decode cT_addRule 35 = .ok (.iload 4, 2) := by decide +kernel
theorem dT_addRule_37 : decode cT_addRule 37 = .ok (.aload_n 0, 1) := by decide +kernel
theorem dT_addRule_38 : decode cT_addRule 38 = .ok (.getfield 21, 3) := by decide +kernel
theorem dT_addRule_41 : decode cT_addRule 41 = .ok (.iastore, 1) := by decide +kernel
theorem dT_addRule_42 : decode cT_addRule 42 = .ok (.iinc 4 1, 3) := by decide +kernel
theorem dT_addRule_45 : decode cT_addRule 45 = .ok (.goto (-22), 3) := by decide +kernel
theorem dT_addRule_48 : decode cT_addRule 48 = .ok (.aload_n 0, 1) := by decide +kernel
theorem dT_addRule_49 : decode cT_addRule 49 = .ok (.dup, 1) := by decide +kernel
theorem dT_addRule_50 : decode cT_addRule 50 = .ok (.getfield 21, 3) := by decide +kernel
theorem dT_addRule_53 : decode cT_addRule 53 = .ok (.iconst 1, 1) := by decide +kernel
theorem dT_addRule_54 : decode cT_addRule 54 = .ok (.iadd, 1) := by decide +kernel
theorem dT_addRule_55 : decode cT_addRule 55 = .ok (.putfield 21, 3) := by decide +kernel
theorem dT_addRule_58 : decode cT_addRule 58 = .ok (.return_, 1) := by decide +kernel
theorem dV_init_0 : decode cV_init 0 = .ok (.aload_n 0, 1) := by decide +kernel
theorem dV_init_1 : decode cV_init 1 = .ok (.invokespecial 1, 3) := by decide +kernel
theorem dV_init_4 : decode cV_init 4 = .ok (.aload_n 0, 1) := by decide +kernel
theorem dV_init_5 : decode cV_init 5 = .ok (.bipush 50, 2) := by decide +kernel
theorem dV_init_7 : decode cV_init 7 = .ok (.anewarray 9, 3) := by decide +kernel
theorem dV_init_10 : decode cV_init 10 = .ok (.putfield 11, 3) := by decide +kernel
theorem dV_init_13 : decode cV_init 13 = .ok (.aload_n 0, 1) := by decide +kernel
theorem dV_init_14 : decode cV_init 14 = .ok (.new 15, 3) := by decide +kernel
theorem dV_init_17 : decode cV_init 17 = .ok (.dup, 1) := by decide +kernel
theorem dV_init_18 : decode cV_init 18 = .ok (.invokespecial 17, 3) := by decide +kernel
theorem dV_init_21 : decode cV_init 21 = .ok (.putfield 18, 3) := by decide +kernel
theorem dV_init_24 : decode cV_init 24 = .ok (.aload_n 0, 1) := by decide +kernel
theorem dV_init_25 : decode cV_init 25 = .ok (.iconst 0, 1) := by decide +kernel
theorem dV_init_26 : decode cV_init 26 = .ok (.putfield 22, 3) := by decide +kernel
theorem dV_init_29 : decode cV_init 29 = .ok (.aload_n 0, 1) := by decide +kernel
theorem dV_init_30 : decode cV_init 30 = .ok (.iconst 0, 1) := by decide +kernel
theorem dV_init_31 : decode cV_init 31 = .ok (.putfield 26, 3) := by decide +kernel
theorem dV_init_34 : decode cV_init 34 = .ok (.return_, 1) := by decide +kernel
theorem dV_policy_0 : decode cV_policy 0 = .ok (.aload_n 0, 1) := by decide +kernel
theorem dV_policy_1 : decode cV_policy 1 = .ok (.iload_n 1, 1) := by decide +kernel
theorem dV_policy_2 : decode cV_policy 2 = .ok (.iload_n 2, 1) := by decide +kernel
theorem dV_policy_3 : decode cV_policy 3 = .ok (.iload_n 3, 1) := by decide +kernel
theorem dV_policy_4 : decode cV_policy 4 = .ok (.iload 4, 2) := by decide +kernel
theorem dV_policy_6 : decode cV_policy 6 = .ok (.invokevirtual 29, 3) := by decide +kernel
theorem dV_policy_9 : decode cV_policy 9 = .ok (.ifCond .ne 11, 3) := by decide +kernel
theorem dV_policy_12 : decode cV_policy 12 = .ok (.new 33, 3) := by decide +kernel
theorem dV_policy_15 : decode cV_policy 15 = .ok (.dup, 1) := by decide +kernel
theorem dV_policy_16 : decode cV_policy 16 = .ok (.invokespecial 35, 3) := by decide +kernel
theorem dV_policy_19 : decode cV_policy 19 = .ok (.athrow, 1) := by decide +kernel
theorem dV_policy_20 : decode cV_policy 20 = .ok (.iload_n 1, 1) := by decide +kernel
theorem dV_policy_21 : decode cV_policy 21 = .ok (.bipush 7, 2) := by decide +kernel
theorem dV_policy_23 : decode cV_policy 23 = .ok (.if_icmp .eq 9, 3) := by decide +kernel
theorem dV_policy_26 : decode cV_policy 26 = .ok (.iload_n 1, 1) := by decide +kernel
theorem dV_policy_27 : decode cV_policy 27 = .ok (.bipush 8, 2) := by decide +kernel
theorem dV_policy_29 : decode cV_policy 29 = .ok (.if_icmp .ne 23, 3) := by decide +kernel
theorem dV_policy_32 : decode cV_policy 32 = .ok (.aload_n 0, 1) := by decide +kernel
theorem dV_policy_33 : decode cV_policy 33 = .ok (.getfield 11, 3) := by decide +kernel
theorem dV_policy_36 : decode cV_policy 36 = .ok (.iload_n 2, 1) := by decide +kernel
theorem dV_policy_37 : decode cV_policy 37 = .ok (.aaload, 1) := by decide +kernel
theorem dV_policy_38 : decode cV_policy 38 = .ok (.getfield 36, 3) := by decide +kernel
theorem dV_policy_41 : decode cV_policy 41 = .ok (.ifCond .ne 11, 3) := by decide +kernel
theorem dV_policy_44 : decode cV_policy 44 = .ok (.new 40, 3) := by decide +kernel
theorem dV_policy_47 : decode cV_policy 47 = .ok (.dup, 1) := by decide +kernel
theorem dV_policy_48 : decode cV_policy 48 = .ok (.invokespecial 42, 3) := by decide +kernel
theorem dV_policy_51 : decode cV_policy 51 = .ok (.athrow, 1) := by decide +kernel
theorem dV_policy_52 : decode cV_policy 52 = .ok (.aload_n 0, 1) := by decide +kernel
theorem dV_policy_53 : decode cV_policy 53 = .ok (.getfield 22, 3) := by decide +kernel
theorem dV_policy_56 : decode cV_policy 56 = .ok (.bipush 50, 2) := by decide +kernel
theorem dV_policy_58 : decode cV_policy 58 = .ok (.if_icmp .lt 11, 3) := by decide +kernel
theorem dV_policy_61 : decode cV_policy 61 = .ok (.new 43, 3) := by decide +kernel
theorem dV_policy_64 : decode cV_policy 64 = .ok (.dup, 1) := by decide +kernel
theorem dV_policy_65 : decode cV_policy 65 = .ok (.invokespecial 45, 3) := by decide +kernel
theorem dV_policy_68 : decode cV_policy 68 = .ok (.athrow, 1) := by decide +kernel
theorem dV_policy_69 : decode cV_policy 69 = .ok (.new 9, 3) := by decide +kernel
theorem dV_policy_72 : decode cV_policy 72 = .ok (.dup, 1) := by decide +kernel
theorem dV_policy_73 : decode cV_policy 73 = .ok (.aload_n 0, 1) := by decide +kernel
theorem dV_policy_74 : decode cV_policy 74 = .ok (.iload_n 1, 1) := by decide +kernel
theorem dV_policy_75 : decode cV_policy 75 = .ok (.iload_n 2, 1) := by decide +kernel
theorem dV_policy_76 : decode cV_policy 76 = .ok (.iload_n 3, 1) := by decide +kernel
theorem dV_policy_77 : decode cV_policy 77 = .ok (.iload 4, 2) := by decide +kernel
theorem dV_policy_79 : decode cV_policy 79 = .ok (.invokevirtual 46, 3) := by decide +kernel
theorem dV_policy_82 : decode cV_policy 82 = .ok (.invokespecial 49, 3) := by decide +kernel
theorem dV_policy_85 : decode cV_policy 85 = .ok (.astore 5, 2) := by decide +kernel
theorem dV_policy_87 : decode cV_policy 87 = .ok (.aload_n 0, 1) := by decide +kernel
theorem dV_policy_88 : decode cV_policy 88 = .ok (.aload 5, 2) := by decide +kernel
theorem dV_policy_90 : decode cV_policy 90 = .ok (.getfield 52, 3) := by decide +kernel
theorem dV_policy_93 : decode cV_policy 93 = .ok (.iload_n 1, 1) := by decide +kernel
theorem dV_policy_94 : decode cV_policy 94 = .ok (.iload_n 2, 1) := by decide +kernel
theorem dV_policy_95 : decode cV_policy 95 = .ok (.iload_n 3, 1) := by decide +kernel
theorem dV_policy_96 : decode cV_policy 96 = .ok (.iload 4, 2) := by decide +kernel
theorem dV_policy_98 : decode cV_policy 98 = .ok (.invokevirtual 56, 3) := by decide +kernel
theorem dV_policy_101 : decode cV_policy 101 = .ok (.aload_n 0, 1) := by decide +kernel
theorem dV_policy_102 : decode cV_policy 102 = .ok (.aload 5, 2) := by decide +kernel
theorem dV_policy_104 : decode cV_policy 104 = .ok (.invokevirtual 60, 3) := by decide +kernel
theorem dV_policy_107 : decode cV_policy 107 = .ok (.ireturn, 1) := by decide +kernel
theorem dV_outcome_0 : decode cV_outcome 0 = .ok (.aload_n 0, 1) := by decide +kernel
theorem dV_outcome_1 : decode cV_outcome 1 = .ok (.iload_n 1, 1) := by decide +kernel
theorem dV_outcome_2 : decode cV_outcome 2 = .ok (.invokevirtual 64, 3) := by decide +kernel
theorem dV_outcome_5 : decode cV_outcome 5 = .ok (.astore_n 3, 1) := by decide +kernel
theorem dV_outcome_6 : decode cV_outcome 6 = .ok (.iload_n 2, 1) := by decide +kernel
theorem dV_outcome_7 : decode cV_outcome 7 = .ok (.invokestatic 68, 3) := by decide +kernel
theorem dV_outcome_10 : decode cV_outcome 10 = .ok (.aload_n 3, 1) := by decide +kernel
theorem dV_outcome_11 : decode cV_outcome 11 = .ok (.getfield 52, 3) := by decide +kernel
theorem dV_outcome_14 : decode cV_outcome 14 = .ok (.iload_n 2, 1) := by decide +kernel
theorem dV_outcome_15 : decode cV_outcome 15 = .ok (.laload, 1) := by decide +kernel
theorem dV_outcome_16 : decode cV_outcome 16 = .ok (.lreturn, 1) := by decide +kernel
theorem dV_image_0 : decode cV_image 0 = .ok (.aload_n 0, 1) := by decide +kernel
theorem dV_image_1 : decode cV_image 1 = .ok (.iload_n 1, 1) := by decide +kernel
theorem dV_image_2 : decode cV_image 2 = .ok (.invokevirtual 64, 3) := by decide +kernel
theorem dV_image_5 : decode cV_image 5 = .ok (.getfield 52, 3) := by decide +kernel
theorem dV_image_8 : decode cV_image 8 = .ok (.lload_n 2, 1) := by decide +kernel
theorem dV_image_9 : decode cV_image 9 = .ok (.invokestatic 72, 3) := by decide +kernel
theorem dV_image_12 : decode cV_image 12 = .ok (.lreturn, 1) := by decide +kernel
theorem dV_source_0 : decode cV_source 0 = .ok (.aload_n 0, 1) := by decide +kernel
theorem dV_source_1 : decode cV_source 1 = .ok (.iload_n 1, 1) := by decide +kernel
theorem dV_source_2 : decode cV_source 2 = .ok (.invokevirtual 64, 3) := by decide +kernel
theorem dV_source_5 : decode cV_source 5 = .ok (.getfield 52, 3) := by decide +kernel
theorem dV_source_8 : decode cV_source 8 = .ok (.astore 4, 2) := by decide +kernel
theorem dV_source_10 : decode cV_source 10 = .ok (.lconst 0, 1) := by decide +kernel
theorem dV_source_11 : decode cV_source 11 = .ok (.lstore 5, 2) := by decide +kernel
theorem dV_source_13 : decode cV_source 13 = .ok (.iconst 0, 1) := by decide +kernel
theorem dV_source_14 : decode cV_source 14 = .ok (.istore 7, 2) := by decide +kernel
theorem dV_source_16 : decode cV_source 16 = .ok (.iload 7, 2) := by decide +kernel
theorem dV_source_18 : decode cV_source 18 = .ok (.bipush 64, 2) := by decide +kernel
theorem dV_source_20 : decode cV_source 20 = .ok (.if_icmp .ge 31, 3) := by decide +kernel
theorem dV_source_23 : decode cV_source 23 = .ok (.aload 4, 2) := by decide +kernel
theorem dV_source_25 : decode cV_source 25 = .ok (.iload 7, 2) := by decide +kernel
theorem dV_source_27 : decode cV_source 27 = .ok (.laload, 1) := by decide +kernel
theorem dV_source_28 : decode cV_source 28 = .ok (.lload_n 2, 1) := by decide +kernel
theorem dV_source_29 : decode cV_source 29 = .ok (.land, 1) := by decide +kernel
theorem dV_source_30 : decode cV_source 30 = .ok (.lconst 0, 1) := by decide +kernel
theorem dV_source_31 : decode cV_source 31 = .ok (.lcmp, 1) := by decide +kernel
theorem dV_source_32 : decode cV_source 32 = .ok (.ifCond .eq 13, 3) := by decide +kernel
theorem dV_source_35 : decode cV_source 35 = .ok (.lload 5, 2) := by decide +kernel
theorem dV_source_37 : decode cV_source 37 = .ok (.iload 7, 2) := by decide +kernel
theorem dV_source_39 : decode cV_source 39 = .ok (.invokestatic 76, 3) := by decide +kernel
theorem dV_source_42 : decode cV_source 42 = .ok (.lor, 1) := by decide +kernel
theorem dV_source_43 : decode cV_source 43 = .ok (.lstore 5, 2) := by decide +kernel
theorem dV_source_45 : decode cV_source 45 = .ok (.iinc 7 1, 3) := by decide +kernel
theorem dV_source_48 : decode cV_source 48 = .ok (.goto (-32), 3) := by decide +kernel
theorem dV_source_51 : decode cV_source 51 = .ok (.lload 5, 2) := by decide +kernel
theorem dV_source_53 : decode cV_source 53 = .ok (.lreturn, 1) := by decide +kernel
theorem dV_filter_0 : decode cV_filter 0 = .ok (.aload_n 0, 1) := by decide +kernel
theorem dV_filter_1 : decode cV_filter 1 = .ok (.iload_n 1, 1) := by decide +kernel
theorem dV_filter_2 : decode cV_filter 2 = .ok (.invokevirtual 64, 3) := by decide +kernel
theorem dV_filter_5 : decode cV_filter 5 = .ok (.getfield 36, 3) := by decide +kernel
theorem dV_filter_8 : decode cV_filter 8 = .ok (.ifCond .eq 7, 3) := by decide +kernel
theorem dV_filter_11 : decode cV_filter 11 = .ok (.iconst 1, 1) := by decide +kernel
theorem dV_filter_12 : decode cV_filter 12 = .ok (.goto 4, 3) := by decide +kernel
theorem dV_filter_15 : decode cV_filter 15 = .ok (.iconst 0, 1) := by decide +kernel
theorem dV_filter_16 : decode cV_filter 16 = .ok (.ireturn, 1) := by decide +kernel
theorem dV_same_0 : decode cV_same 0 = .ok (.aload_n 0, 1) := by decide +kernel
theorem dV_same_1 : decode cV_same 1 = .ok (.iload_n 1, 1) := by decide +kernel
theorem dV_same_2 : decode cV_same 2 = .ok (.invokevirtual 64, 3) := by decide +kernel
theorem dV_same_5 : decode cV_same 5 = .ok (.getfield 52, 3) := by decide +kernel
theorem dV_same_8 : decode cV_same 8 = .ok (.aload_n 0, 1) := by decide +kernel
theorem dV_same_9 : decode cV_same 9 = .ok (.iload_n 2, 1) := by decide +kernel
theorem dV_same_10 : decode cV_same 10 = .ok (.invokevirtual 64, 3) := by decide +kernel
theorem dV_same_13 : decode cV_same 13 = .ok (.getfield 52, 3) := by decide +kernel
theorem dV_same_16 : decode cV_same 16 = .ok (.invokestatic 80, 3) := by decide +kernel
theorem dV_same_19 : decode cV_same 19 = .ok (.iconst (-1), 1) := by decide +kernel
theorem dV_same_20 : decode cV_same 20 = .ok (.if_icmp .ne 7, 3) := by decide +kernel
theorem dV_same_23 : decode cV_same 23 = .ok (.iconst 1, 1) := by decide +kernel
theorem dV_same_24 : decode cV_same 24 = .ok (.goto 4, 3) := by decide +kernel
theorem dV_same_27 : decode cV_same 27 = .ok (.iconst 0, 1) := by decide +kernel
theorem dV_same_28 : decode cV_same 28 = .ok (.ireturn, 1) := by decide +kernel
theorem dV_covers_0 : decode cV_covers 0 = .ok (.aload_n 0, 1) := by decide +kernel
theorem dV_covers_1 : decode cV_covers 1 = .ok (.iload_n 1, 1) := by decide +kernel
theorem dV_covers_2 : decode cV_covers 2 = .ok (.invokevirtual 64, 3) := by decide +kernel
theorem dV_covers_5 : decode cV_covers 5 = .ok (.getfield 52, 3) := by decide +kernel
theorem dV_covers_8 : decode cV_covers 8 = .ok (.astore_n 3, 1) := by decide +kernel
theorem dV_covers_9 : decode cV_covers 9 = .ok (.aload_n 0, 1) := by decide +kernel
theorem dV_covers_10 : decode cV_covers 10 = .ok (.iload_n 2, 1) := by decide +kernel
theorem dV_covers_11 : decode cV_covers 11 = .ok (.invokevirtual 64, 3) := by decide +kernel
theorem dV_covers_14 : decode cV_covers 14 = .ok (.getfield 52, 3) := by decide +kernel
theorem dV_covers_17 : decode cV_covers 17 = .ok (.astore 4, 2) := by decide +kernel
theorem dV_covers_19 : decode cV_covers 19 = .ok (.iconst 0, 1) := by decide +kernel
theorem dV_covers_20 : decode cV_covers 20 = .ok (.istore 5, 2) := by decide +kernel
theorem dV_covers_22 : decode cV_covers 22 = .ok (.iload 5, 2) := by decide +kernel
theorem dV_covers_24 : decode cV_covers 24 = .ok (.bipush 64, 2) := by decide +kernel
theorem dV_covers_26 : decode cV_covers 26 = .ok (.if_icmp .ge 30, 3) := by decide +kernel
theorem dV_covers_29 : decode cV_covers 29 = .ok (.aload 4, 2) := by decide +kernel
theorem dV_covers_31 : decode cV_covers 31 = .ok (.iload 5, 2) := by decide +kernel
theorem dV_covers_33 : decode cV_covers 33 = .ok (.laload, 1) := by decide +kernel
theorem dV_covers_34 : decode cV_covers 34 = .ok (.aload_n 3, 1) := by decide +kernel
theorem dV_covers_35 : decode cV_covers 35 = .ok (.iload 5, 2) := by decide +kernel
theorem dV_covers_37 : decode cV_covers 37 = .ok (.laload, 1) := by decide +kernel
theorem dV_covers_38 : decode cV_covers 38 = .ok (.ldc2_w 84, 3) := by decide +kernel
theorem dV_covers_41 : decode cV_covers 41 = .ok (.lxor, 1) := by decide +kernel
theorem dV_covers_42 : decode cV_covers 42 = .ok (.land, 1) := by decide +kernel
theorem dV_covers_43 : decode cV_covers 43 = .ok (.lconst 0, 1) := by decide +kernel
theorem dV_covers_44 : decode cV_covers 44 = .ok (.lcmp, 1) := by decide +kernel
theorem dV_covers_45 : decode cV_covers 45 = .ok (.ifCond .eq 5, 3) := by decide +kernel
theorem dV_covers_48 : decode cV_covers 48 = .ok (.iconst 0, 1) := by decide +kernel
theorem dV_covers_49 : decode cV_covers 49 = .ok (.ireturn, 1) := by decide +kernel
theorem dV_covers_50 : decode cV_covers 50 = .ok (.iinc 5 1, 3) := by decide +kernel
theorem dV_covers_53 : decode cV_covers 53 = .ok (.goto (-31), 3) := by decide +kernel
theorem dV_covers_56 : decode cV_covers 56 = .ok (.iconst 1, 1) := by decide +kernel
theorem dV_covers_57 : decode cV_covers 57 = .ok (.ireturn, 1) := by decide +kernel
theorem dV_differ_0 : decode cV_differ 0 = .ok (.aload_n 0, 1) := by decide +kernel
theorem dV_differ_1 : decode cV_differ 1 = .ok (.iload_n 1, 1) := by decide +kernel
theorem dV_differ_2 : decode cV_differ 2 = .ok (.invokevirtual 64, 3) := by decide +kernel
theorem dV_differ_5 : decode cV_differ 5 = .ok (.getfield 52, 3) := by decide +kernel
theorem dV_differ_8 : decode cV_differ 8 = .ok (.aload_n 0, 1) := by decide +kernel
theorem dV_differ_9 : decode cV_differ 9 = .ok (.iload_n 2, 1) := by decide +kernel
theorem dV_differ_10 : decode cV_differ 10 = .ok (.invokevirtual 64, 3) := by decide +kernel
theorem dV_differ_13 : decode cV_differ 13 = .ok (.getfield 52, 3) := by decide +kernel
theorem dV_differ_16 : decode cV_differ 16 = .ok (.invokestatic 80, 3) := by decide +kernel
theorem dV_differ_19 : decode cV_differ 19 = .ok (.istore_n 3, 1) := by decide +kernel
theorem dV_differ_20 : decode cV_differ 20 = .ok (.iload_n 3, 1) := by decide +kernel
theorem dV_differ_21 : decode cV_differ 21 = .ok (.iconst (-1), 1) := by decide +kernel
theorem dV_differ_22 : decode cV_differ 22 = .ok (.if_icmp .ne 11, 3) := by decide +kernel
theorem dV_differ_25 : decode cV_differ 25 = .ok (.new 40, 3) := by decide +kernel
theorem dV_differ_28 : decode cV_differ 28 = .ok (.dup, 1) := by decide +kernel
theorem dV_differ_29 : decode cV_differ 29 = .ok (.invokespecial 42, 3) := by decide +kernel
theorem dV_differ_32 : decode cV_differ 32 = .ok (.athrow, 1) := by decide +kernel
theorem dV_differ_33 : decode cV_differ 33 = .ok (.iload_n 3, 1) := by decide +kernel
theorem dV_differ_34 : decode cV_differ 34 = .ok (.ireturn, 1) := by decide +kernel
theorem dV_rules_0 : decode cV_rules 0 = .ok (.aload_n 0, 1) := by decide +kernel
theorem dV_rules_1 : decode cV_rules 1 = .ok (.aload_n 0, 1) := by decide +kernel
theorem dV_rules_2 : decode cV_rules 2 = .ok (.iload_n 1, 1) := by decide +kernel
theorem dV_rules_3 : decode cV_rules 3 = .ok (.invokevirtual 64, 3) := by decide +kernel
theorem dV_rules_6 : decode cV_rules 6 = .ok (.invokevirtual 86, 3) := by decide +kernel
theorem dV_rules_9 : decode cV_rules 9 = .ok (.getfield 90, 3) := by decide +kernel
theorem dV_rules_12 : decode cV_rules 12 = .ok (.ireturn, 1) := by decide +kernel
theorem dV_rule_0 : decode cV_rule 0 = .ok (.aload_n 0, 1) := by decide +kernel
theorem dV_rule_1 : decode cV_rule 1 = .ok (.iload_n 1, 1) := by decide +kernel
theorem dV_rule_2 : decode cV_rule 2 = .ok (.invokevirtual 64, 3) := by decide +kernel
theorem dV_rule_5 : decode cV_rule 5 = .ok (.astore 4, 2) := by decide +kernel
theorem dV_rule_7 : decode cV_rule 7 = .ok (.aload_n 0, 1) := by decide +kernel
theorem dV_rule_8 : decode cV_rule 8 = .ok (.aload 4, 2) := by decide +kernel
theorem dV_rule_10 : decode cV_rule 10 = .ok (.invokevirtual 86, 3) := by decide +kernel
theorem dV_rule_13 : decode cV_rule 13 = .ok (.astore 5, 2) := by decide +kernel
theorem dV_rule_15 : decode cV_rule 15 = .ok (.iload_n 2, 1) := by decide +kernel
theorem dV_rule_16 : decode cV_rule 16 = .ok (.ifCond .lt 12, 3) := by decide +kernel
theorem dV_rule_19 : decode cV_rule 19 = .ok (.iload_n 2, 1) := by decide +kernel
theorem dV_rule_20 : decode cV_rule 20 = .ok (.aload 5, 2) := by decide +kernel
theorem dV_rule_22 : decode cV_rule 22 = .ok (.getfield 90, 3) := by decide +kernel
theorem dV_rule_25 : decode cV_rule 25 = .ok (.if_icmp .lt 11, 3) := by decide +kernel
theorem dV_rule_28 : decode cV_rule 28 = .ok (.new 95, 3) := by decide +kernel
theorem dV_rule_31 : decode cV_rule 31 = .ok (.dup, 1) := by decide +kernel
theorem dV_rule_32 : decode cV_rule 32 = .ok (.invokespecial 97, 3) := by decide +kernel
theorem dV_rule_35 : decode cV_rule 35 = .ok (.athrow, 1) := by decide +kernel
theorem dV_rule_36 : decode cV_rule 36 = .ok (.iload_n 3, 1) := by decide +kernel
theorem dV_rule_37 : decode cV_rule 37 = .ok (.ifCond .lt 8, 3) := by decide +kernel
theorem dV_rule_40 : decode cV_rule 40 = .ok (.iload_n 3, 1) := by decide +kernel
theorem dV_rule_41 : decode cV_rule 41 = .ok (.iconst 3, 1) := by decide +kernel
theorem dV_rule_42 : decode cV_rule 42 = .ok (.if_icmp .le 11, 3) := by decide +kernel
theorem dV_rule_45 : decode cV_rule 45 = .ok (.new 33, 3) := by decide +kernel
theorem dV_rule_48 : decode cV_rule 48 = .ok (.dup, 1) := by decide +kernel
theorem dV_rule_49 : decode cV_rule 49 = .ok (.invokespecial 35, 3) := by decide +kernel
theorem dV_rule_52 : decode cV_rule 52 = .ok (.athrow, 1) := by decide +kernel
theorem dV_rule_53 : decode cV_rule 53 = .ok (.iload_n 3, 1) := by decide +kernel
theorem dV_rule_54 : decode cV_rule 54 = .ok (.iconst 3, 1) := by decide +kernel
theorem dV_rule_55 : decode cV_rule 55 = .ok (.if_icmp .ne 20, 3) := by decide +kernel
theorem dV_rule_58 : decode cV_rule 58 = .ok (.aload 4, 2) := by decide +kernel
theorem dV_rule_60 : decode cV_rule 60 = .ok (.getfield 52, 3) := by decide +kernel
theorem dV_rule_63 : decode cV_rule 63 = .ok (.aload 5, 2) := by decide +kernel
theorem dV_rule_65 : decode cV_rule 65 = .ok (.getfield 98, 3) := by decide +kernel
theorem dV_rule_68 : decode cV_rule 68 = .ok (.iload_n 2, 1) := by decide +kernel
theorem dV_rule_69 : decode cV_rule 69 = .ok (.iaload, 1) := by decide +kernel
theorem dV_rule_70 : decode cV_rule 70 = .ok (.laload, 1) := by decide +kernel
theorem dV_rule_71 : decode cV_rule 71 = .ok (.invokestatic 102, 3) := by decide +kernel
theorem dV_rule_74 : decode cV_rule 74 = .ok (.ireturn, 1) := by decide +kernel
theorem dV_rule_75 : decode cV_rule 75 = .ok (.iload_n 3, 1) := by decide +kernel
theorem dV_rule_76 : decode cV_rule 76 = .ok (.aload 5, 2) := by decide +kernel
theorem dV_rule_78 : decode cV_rule 78 = .ok (.getfield 108, 3) := by decide +kernel
theorem dV_rule_81 : decode cV_rule 81 = .ok (.iload_n 2, 1) := by decide +kernel
theorem dV_rule_82 : decode cV_rule 82 = .ok (.iaload, 1) := by decide +kernel
theorem dV_rule_83 : decode cV_rule 83 = .ok (.if_icmp .ge 17, 3) := by decide +kernel
theorem dV_rule_86 : decode cV_rule 86 = .ok (.aload 5, 2) := by decide +kernel
theorem dV_rule_88 : decode cV_rule 88 = .ok (.getfield 98, 3) := by decide +kernel
theorem dV_rule_91 : decode cV_rule 91 = .ok (.iload_n 2, 1) := by decide +kernel
theorem dV_rule_92 : decode cV_rule 92 = .ok (.iaload, 1) := by decide +kernel
theorem dV_rule_93 : decode cV_rule 93 = .ok (.iload_n 3, 1) := by decide +kernel
theorem dV_rule_94 : decode cV_rule 94 = .ok (.invokestatic 111, 3) := by decide +kernel
theorem dV_rule_97 : decode cV_rule 97 = .ok (.goto 4, 3) := by decide +kernel
theorem dV_rule_100 : decode cV_rule 100 = .ok (.iconst (-1), 1) := by decide +kernel
theorem dV_rule_101 : decode cV_rule 101 = .ok (.ireturn, 1) := by decide +kernel
theorem dV_match_0 : decode cV_match 0 = .ok (.aload_n 0, 1) := by decide +kernel
theorem dV_match_1 : decode cV_match 1 = .ok (.iload_n 1, 1) := by decide +kernel
theorem dV_match_2 : decode cV_match 2 = .ok (.invokevirtual 64, 3) := by decide +kernel
theorem dV_match_5 : decode cV_match 5 = .ok (.astore_n 3, 1) := by decide +kernel
theorem dV_match_6 : decode cV_match 6 = .ok (.iload_n 2, 1) := by decide +kernel
theorem dV_match_7 : decode cV_match 7 = .ok (.invokestatic 68, 3) := by decide +kernel
theorem dV_match_10 : decode cV_match 10 = .ok (.aload_n 0, 1) := by decide +kernel
theorem dV_match_11 : decode cV_match 11 = .ok (.aload_n 3, 1) := by decide +kernel
theorem dV_match_12 : decode cV_match 12 = .ok (.invokevirtual 86, 3) := by decide +kernel
theorem dV_match_15 : decode cV_match 15 = .ok (.getfield 115, 3) := by decide +kernel
theorem dV_match_18 : decode cV_match 18 = .ok (.iload_n 2, 1) := by decide +kernel
theorem dV_match_19 : decode cV_match 19 = .ok (.iaload, 1) := by decide +kernel
theorem dV_match_20 : decode cV_match 20 = .ok (.ireturn, 1) := by decide +kernel
theorem dV_hops_0 : decode cV_hops 0 = .ok (.aload_n 0, 1) := by decide +kernel
theorem dV_hops_1 : decode cV_hops 1 = .ok (.iload_n 1, 1) := by decide +kernel
theorem dV_hops_2 : decode cV_hops 2 = .ok (.invokevirtual 64, 3) := by decide +kernel
theorem dV_hops_5 : decode cV_hops 5 = .ok (.getfield 52, 3) := by decide +kernel
theorem dV_hops_8 : decode cV_hops 8 = .ok (.astore 5, 2) := by decide +kernel
theorem dV_hops_10 : decode cV_hops 10 = .ok (.iload_n 2, 1) := by decide +kernel
theorem dV_hops_11 : decode cV_hops 11 = .ok (.invokestatic 68, 3) := by decide +kernel
theorem dV_hops_14 : decode cV_hops 14 = .ok (.iload_n 2, 1) := by decide +kernel
theorem dV_hops_15 : decode cV_hops 15 = .ok (.invokestatic 76, 3) := by decide +kernel
theorem dV_hops_18 : decode cV_hops 18 = .ok (.lstore 6, 2) := by decide +kernel
theorem dV_hops_20 : decode cV_hops 20 = .ok (.iconst 0, 1) := by decide +kernel
theorem dV_hops_21 : decode cV_hops 21 = .ok (.istore 8, 2) := by decide +kernel
theorem dV_hops_23 : decode cV_hops 23 = .ok (.iload 8, 2) := by decide +kernel
theorem dV_hops_25 : decode cV_hops 25 = .ok (.bipush 64, 2) := by decide +kernel
theorem dV_hops_27 : decode cV_hops 27 = .ok (.if_icmp .ge 47, 3) := by decide +kernel
theorem dV_hops_30 : decode cV_hops 30 = .ok (.lload 6, 2) := by decide +kernel
theorem dV_hops_32 : decode cV_hops 32 = .ok (.lload_n 3, 1) := by decide +kernel
theorem dV_hops_33 : decode cV_hops 33 = .ok (.land, 1) := by decide +kernel
theorem dV_hops_34 : decode cV_hops 34 = .ok (.lconst 0, 1) := by decide +kernel
theorem dV_hops_35 : decode cV_hops 35 = .ok (.lcmp, 1) := by decide +kernel
theorem dV_hops_36 : decode cV_hops 36 = .ok (.ifCond .eq 6, 3) := by decide +kernel
theorem dV_hops_39 : decode cV_hops 39 = .ok (.iload 8, 2) := by decide +kernel
theorem dV_hops_41 : decode cV_hops 41 = .ok (.ireturn, 1) := by decide +kernel
theorem dV_hops_42 : decode cV_hops 42 = .ok (.lload 6, 2) := by decide +kernel
theorem dV_hops_44 : decode cV_hops 44 = .ok (.aload 5, 2) := by decide +kernel
theorem dV_hops_46 : decode cV_hops 46 = .ok (.lload 6, 2) := by decide +kernel
theorem dV_hops_48 : decode cV_hops 48 = .ok (.invokestatic 72, 3) := by decide +kernel
theorem dV_hops_51 : decode cV_hops 51 = .ok (.lor, 1) := by decide +kernel
theorem dV_hops_52 : decode cV_hops 52 = .ok (.lstore 9, 2) := by decide +kernel
theorem dV_hops_54 : decode cV_hops 54 = .ok (.lload 9, 2) := by decide +kernel
theorem dV_hops_56 : decode cV_hops 56 = .ok (.lload 6, 2) := by decide +kernel
theorem dV_hops_58 : decode cV_hops 58 = .ok (.lcmp, 1) := by decide +kernel
theorem dV_hops_59 : decode cV_hops 59 = .ok (.ifCond .ne 5, 3) := by decide +kernel
theorem dV_hops_62 : decode cV_hops 62 = .ok (.iconst (-1), 1) := by decide +kernel
theorem dV_hops_63 : decode cV_hops 63 = .ok (.ireturn, 1) := by decide +kernel
theorem dV_hops_64 : decode cV_hops 64 = .ok (.lload 9, 2) := by decide +kernel
theorem dV_hops_66 : decode cV_hops 66 = .ok (.lstore 6, 2) := by decide +kernel
theorem dV_hops_68 : decode cV_hops 68 = .ok (.iinc 8 1, 3) := by decide +kernel
theorem dV_hops_71 : decode cV_hops 71 = .ok (.goto (-48), 3) := by decide +kernel
theorem dV_hops_74 : decode cV_hops 74 = .ok (.iconst (-1), 1) := by decide +kernel
theorem dV_hops_75 : decode cV_hops 75 = .ok (.ireturn, 1) := by decide +kernel
theorem dV_count_0 : decode cV_count 0 = .ok (.iload_n 1, 1) := by decide +kernel
theorem dV_count_1 : decode cV_count 1 = .ok (.ifCond .eq 16, 3) := by decide +kernel
theorem dV_count_4 : decode cV_count 4 = .ok (.iload_n 1, 1) := by decide +kernel
theorem dV_count_5 : decode cV_count 5 = .ok (.iconst 1, 1) := by decide +kernel
theorem dV_count_6 : decode cV_count 6 = .ok (.if_icmp .eq 11, 3) := by decide +kernel
theorem dV_count_9 : decode cV_count 9 = .ok (.new 33, 3) := by decide +kernel
theorem dV_count_12 : decode cV_count 12 = .ok (.dup, 1) := by decide +kernel
theorem dV_count_13 : decode cV_count 13 = .ok (.invokespecial 35, 3) := by decide +kernel
theorem dV_count_16 : decode cV_count 16 = .ok (.athrow, 1) := by decide +kernel
theorem dV_count_17 : decode cV_count 17 = .ok (.iload_n 1, 1) := by decide +kernel
theorem dV_count_18 : decode cV_count 18 = .ok (.ifCond .ne 10, 3) := by decide +kernel
theorem dV_count_21 : decode cV_count 21 = .ok (.aload_n 0, 1) := by decide +kernel
theorem dV_count_22 : decode cV_count 22 = .ok (.getfield 22, 3) := by decide +kernel
theorem dV_count_25 : decode cV_count 25 = .ok (.goto 7, 3) := by decide +kernel
theorem dV_count_28 : decode cV_count 28 = .ok (.aload_n 0, 1) := by decide +kernel
theorem dV_count_29 : decode cV_count 29 = .ok (.getfield 26, 3) := by decide +kernel
theorem dV_count_32 : decode cV_count 32 = .ok (.ireturn, 1) := by decide +kernel
theorem dV_isWellFormed_0 : decode cV_isWellFormed 0 = .ok (.iload_n 1, 1) := by decide +kernel
theorem dV_isWellFormed_1 : decode cV_isWellFormed 1 = .ok (.tableswitch 136 0 8 #[51, 51, 53, 53, 77, 77, 99, 99, 105], 51) := by decide +kernel
theorem dV_isWellFormed_52 : decode cV_isWellFormed 52 = .ok (.iconst 1, 1) := by decide +kernel
theorem dV_isWellFormed_53 : decode cV_isWellFormed 53 = .ok (.ireturn, 1) := by decide +kernel
theorem dV_isWellFormed_54 : decode cV_isWellFormed 54 = .ok (.iload_n 2, 1) := by decide +kernel
theorem dV_isWellFormed_55 : decode cV_isWellFormed 55 = .ok (.ifCond .lt 21, 3) := by decide +kernel
theorem dV_isWellFormed_58 : decode cV_isWellFormed 58 = .ok (.iload_n 2, 1) := by decide +kernel
theorem dV_isWellFormed_59 : decode cV_isWellFormed 59 = .ok (.iconst 3, 1) := by decide +kernel
theorem dV_isWellFormed_60 : decode cV_isWellFormed 60 = .ok (.if_icmp .ge 16, 3) := by decide +kernel
theorem dV_isWellFormed_63 : decode cV_isWellFormed 63 = .ok (.iload_n 3, 1) := by decide +kernel
theorem dV_isWellFormed_64 : decode cV_isWellFormed 64 = .ok (.ifCond .lt 12, 3) := by decide +kernel
theorem dV_isWellFormed_67 : decode cV_isWellFormed 67 = .ok (.iload_n 3, 1) := by decide +kernel
theorem dV_isWellFormed_68 : decode cV_isWellFormed 68 = .ok (.iconst 4, 1) := by decide +kernel
theorem dV_isWellFormed_69 : decode cV_isWellFormed 69 = .ok (.if_icmp .ge 7, 3) := by decide +kernel
theorem dV_isWellFormed_72 : decode cV_isWellFormed 72 = .ok (.iconst 1, 1) := by decide +kernel
theorem dV_isWellFormed_73 : decode cV_isWellFormed 73 = .ok (.goto 4, 3) := by decide +kernel
theorem dV_isWellFormed_76 : decode cV_isWellFormed 76 = .ok (.iconst 0, 1) := by decide +kernel
theorem dV_isWellFormed_77 : decode cV_isWellFormed 77 = .ok (.ireturn, 1) := by decide +kernel
theorem dV_isWellFormed_78 : decode cV_isWellFormed 78 = .ok (.aload_n 0, 1) := by decide +kernel
theorem dV_isWellFormed_79 : decode cV_isWellFormed 79 = .ok (.iload_n 2, 1) := by decide +kernel
theorem dV_isWellFormed_80 : decode cV_isWellFormed 80 = .ok (.invokevirtual 118, 3) := by decide +kernel
theorem dV_isWellFormed_83 : decode cV_isWellFormed 83 = .ok (.ifCond .eq 15, 3) := by decide +kernel
theorem dV_isWellFormed_86 : decode cV_isWellFormed 86 = .ok (.aload_n 0, 1) := by decide +kernel
theorem dV_isWellFormed_87 : decode cV_isWellFormed 87 = .ok (.iload_n 3, 1) := by decide +kernel
theorem dV_isWellFormed_88 : decode cV_isWellFormed 88 = .ok (.invokevirtual 118, 3) := by decide +kernel
theorem dV_isWellFormed_91 : decode cV_isWellFormed 91 = .ok (.ifCond .eq 7, 3) := by decide +kernel
theorem dV_isWellFormed_94 : decode cV_isWellFormed 94 = .ok (.iconst 1, 1) := by decide +kernel
theorem dV_isWellFormed_95 : decode cV_isWellFormed 95 = .ok (.goto 4, 3) := by decide +kernel
theorem dV_isWellFormed_98 : decode cV_isWellFormed 98 = .ok (.iconst 0, 1) := by decide +kernel
theorem dV_isWellFormed_99 : decode cV_isWellFormed 99 = .ok (.ireturn, 1) := by decide +kernel
theorem dV_isWellFormed_100 : decode cV_isWellFormed 100 = .ok (.aload_n 0, 1) := by decide +kernel
theorem dV_isWellFormed_101 : decode cV_isWellFormed 101 = .ok (.iload_n 2, 1) := by decide +kernel
theorem dV_isWellFormed_102 : decode cV_isWellFormed 102 = .ok (.invokevirtual 118, 3) := by decide +kernel
theorem dV_isWellFormed_105 : decode cV_isWellFormed 105 = .ok (.ireturn, 1) := by decide +kernel
theorem dV_isWellFormed_106 : decode cV_isWellFormed 106 = .ok (.aload_n 0, 1) := by decide +kernel
theorem dV_isWellFormed_107 : decode cV_isWellFormed 107 = .ok (.iload_n 2, 1) := by decide +kernel
theorem dV_isWellFormed_108 : decode cV_isWellFormed 108 = .ok (.invokevirtual 118, 3) := by decide +kernel
theorem dV_isWellFormed_111 : decode cV_isWellFormed 111 = .ok (.ifCond .eq 24, 3) := by decide +kernel
theorem dV_isWellFormed_114 : decode cV_isWellFormed 114 = .ok (.aload_n 0, 1) := by decide +kernel
theorem dV_isWellFormed_115 : decode cV_isWellFormed 115 = .ok (.iload_n 3, 1) := by decide +kernel
theorem dV_isWellFormed_116 : decode cV_isWellFormed 116 = .ok (.invokevirtual 118, 3) := by decide +kernel
theorem dV_isWellFormed_119 : decode cV_isWellFormed 119 = .ok (.ifCond .eq 16, 3) := by decide +kernel
theorem dV_isWellFormed_122 : decode cV_isWellFormed 122 = .ok (.aload_n 0, 1) := by decide +kernel
theorem dV_isWellFormed_123 : decode cV_isWellFormed 123 = .ok (.iload 4, 2) := by decide +kernel
theorem dV_isWellFormed_125 : decode cV_isWellFormed 125 = .ok (.invokevirtual 118, 3) := by decide +kernel
theorem dV_isWellFormed_128 : decode cV_isWellFormed 128 = .ok (.ifCond .eq 7, 3) := by decide +kernel
theorem dV_isWellFormed_131 : decode cV_isWellFormed 131 = .ok (.iconst 1, 1) := by decide +kernel
theorem dV_isWellFormed_132 : decode cV_isWellFormed 132 = .ok (.goto 4, 3) := by decide +kernel
theorem dV_isWellFormed_135 : decode cV_isWellFormed 135 = .ok (.iconst 0, 1) := by decide +kernel
theorem dV_isWellFormed_136 : decode cV_isWellFormed 136 = .ok (.ireturn, 1) := by decide +kernel
theorem dV_isWellFormed_137 : decode cV_isWellFormed 137 = .ok (.iconst 0, 1) := by decide +kernel
theorem dV_isWellFormed_138 : decode cV_isWellFormed 138 = .ok (.ireturn, 1) := by decide +kernel
theorem dV_isMade_0 : decode cV_isMade 0 = .ok (.iload_n 1, 1) := by decide +kernel
theorem dV_isMade_1 : decode cV_isMade 1 = .ok (.ifCond .lt 15, 3) := by decide +kernel
theorem dV_isMade_4 : decode cV_isMade 4 = .ok (.iload_n 1, 1) := by decide +kernel
theorem dV_isMade_5 : decode cV_isMade 5 = .ok (.aload_n 0, 1) := by decide +kernel
theorem dV_isMade_6 : decode cV_isMade 6 = .ok (.getfield 22, 3) := by decide +kernel
theorem dV_isMade_9 : decode cV_isMade 9 = .ok (.if_icmp .ge 7, 3) := by decide +kernel
theorem dV_isMade_12 : decode cV_isMade 12 = .ok (.iconst 1, 1) := by decide +kernel
theorem dV_isMade_13 : decode cV_isMade 13 = .ok (.goto 4, 3) := by decide +kernel
theorem dV_isMade_16 : decode cV_isMade 16 = .ok (.iconst 0, 1) := by decide +kernel
theorem dV_isMade_17 : decode cV_isMade 17 = .ok (.ireturn, 1) := by decide +kernel
theorem dV_find_0 : decode cV_find 0 = .ok (.aload_n 0, 1) := by decide +kernel
theorem dV_find_1 : decode cV_find 1 = .ok (.iload_n 1, 1) := by decide +kernel
theorem dV_find_2 : decode cV_find 2 = .ok (.invokevirtual 118, 3) := by decide +kernel
theorem dV_find_5 : decode cV_find 5 = .ok (.ifCond .ne 11, 3) := by decide +kernel
theorem dV_find_8 : decode cV_find 8 = .ok (.new 95, 3) := by decide +kernel
theorem dV_find_11 : decode cV_find 11 = .ok (.dup, 1) := by decide +kernel
theorem dV_find_12 : decode cV_find 12 = .ok (.invokespecial 97, 3) := by decide +kernel
theorem dV_find_15 : decode cV_find 15 = .ok (.athrow, 1) := by decide +kernel
theorem dV_find_16 : decode cV_find 16 = .ok (.aload_n 0, 1) := by decide +kernel
theorem dV_find_17 : decode cV_find 17 = .ok (.getfield 11, 3) := by decide +kernel
theorem dV_find_20 : decode cV_find 20 = .ok (.iload_n 1, 1) := by decide +kernel
theorem dV_find_21 : decode cV_find 21 = .ok (.aaload, 1) := by decide +kernel
theorem dV_find_22 : decode cV_find 22 = .ok (.areturn, 1) := by decide +kernel
theorem dV_checkPacket_0 : decode cV_checkPacket 0 = .ok (.iload_n 0, 1) := by decide +kernel
theorem dV_checkPacket_1 : decode cV_checkPacket 1 = .ok (.ifCond .lt 9, 3) := by decide +kernel
theorem dV_checkPacket_4 : decode cV_checkPacket 4 = .ok (.iload_n 0, 1) := by decide +kernel
theorem dV_checkPacket_5 : decode cV_checkPacket 5 = .ok (.bipush 64, 2) := by decide +kernel
theorem dV_checkPacket_7 : decode cV_checkPacket 7 = .ok (.if_icmp .lt 11, 3) := by decide +kernel
theorem dV_checkPacket_10 : decode cV_checkPacket 10 = .ok (.new 33, 3) := by decide +kernel
theorem dV_checkPacket_13 : decode cV_checkPacket 13 = .ok (.dup, 1) := by decide +kernel
theorem dV_checkPacket_14 : decode cV_checkPacket 14 = .ok (.invokespecial 35, 3) := by decide +kernel
theorem dV_checkPacket_17 : decode cV_checkPacket 17 = .ok (.athrow, 1) := by decide +kernel
theorem dV_checkPacket_18 : decode cV_checkPacket 18 = .ok (.return_, 1) := by decide +kernel
theorem dV_isFilter_0 : decode cV_isFilter 0 = .ok (.iload_n 1, 1) := by decide +kernel
theorem dV_isFilter_1 : decode cV_isFilter 1 = .ok (.tableswitch 136 0 8 #[51, 51, 51, 136, 53, 53, 83, 51, 93], 51) := by decide +kernel
theorem dV_isFilter_52 : decode cV_isFilter 52 = .ok (.iconst 1, 1) := by decide +kernel
theorem dV_isFilter_53 : decode cV_isFilter 53 = .ok (.ireturn, 1) := by decide +kernel
theorem dV_isFilter_54 : decode cV_isFilter 54 = .ok (.aload_n 0, 1) := by decide +kernel
theorem dV_isFilter_55 : decode cV_isFilter 55 = .ok (.getfield 11, 3) := by decide +kernel
theorem dV_isFilter_58 : decode cV_isFilter 58 = .ok (.iload_n 2, 1) := by decide +kernel
theorem dV_isFilter_59 : decode cV_isFilter 59 = .ok (.aaload, 1) := by decide +kernel
theorem dV_isFilter_60 : decode cV_isFilter 60 = .ok (.getfield 36, 3) := by decide +kernel
theorem dV_isFilter_63 : decode cV_isFilter 63 = .ok (.ifCond .eq 19, 3) := by decide +kernel
theorem dV_isFilter_66 : decode cV_isFilter 66 = .ok (.aload_n 0, 1) := by decide +kernel
theorem dV_isFilter_67 : decode cV_isFilter 67 = .ok (.getfield 11, 3) := by decide +kernel
theorem dV_isFilter_70 : decode cV_isFilter 70 = .ok (.iload_n 3, 1) := by decide +kernel
theorem dV_isFilter_71 : decode cV_isFilter 71 = .ok (.aaload, 1) := by decide +kernel
theorem dV_isFilter_72 : decode cV_isFilter 72 = .ok (.getfield 36, 3) := by decide +kernel
theorem dV_isFilter_75 : decode cV_isFilter 75 = .ok (.ifCond .eq 7, 3) := by decide +kernel
theorem dV_isFilter_78 : decode cV_isFilter 78 = .ok (.iconst 1, 1) := by decide +kernel
theorem dV_isFilter_79 : decode cV_isFilter 79 = .ok (.goto 4, 3) := by decide +kernel
theorem dV_isFilter_82 : decode cV_isFilter 82 = .ok (.iconst 0, 1) := by decide +kernel
theorem dV_isFilter_83 : decode cV_isFilter 83 = .ok (.ireturn, 1) := by decide +kernel
theorem dV_isFilter_84 : decode cV_isFilter 84 = .ok (.aload_n 0, 1) := by decide +kernel
theorem dV_isFilter_85 : decode cV_isFilter 85 = .ok (.getfield 11, 3) := by decide +kernel
theorem dV_isFilter_88 : decode cV_isFilter 88 = .ok (.iload_n 2, 1) := by decide +kernel
theorem dV_isFilter_89 : decode cV_isFilter 89 = .ok (.aaload, 1) := by decide +kernel
theorem dV_isFilter_90 : decode cV_isFilter 90 = .ok (.getfield 36, 3) := by decide +kernel
theorem dV_isFilter_93 : decode cV_isFilter 93 = .ok (.ireturn, 1) := by decide +kernel
theorem dV_isFilter_94 : decode cV_isFilter 94 = .ok (.aload_n 0, 1) := by decide +kernel
theorem dV_isFilter_95 : decode cV_isFilter 95 = .ok (.getfield 11, 3) := by decide +kernel
theorem dV_isFilter_98 : decode cV_isFilter 98 = .ok (.iload_n 2, 1) := by decide +kernel
theorem dV_isFilter_99 : decode cV_isFilter 99 = .ok (.aaload, 1) := by decide +kernel
theorem dV_isFilter_100 : decode cV_isFilter 100 = .ok (.getfield 36, 3) := by decide +kernel
theorem dV_isFilter_103 : decode cV_isFilter 103 = .ok (.ifCond .eq 32, 3) := by decide +kernel
theorem dV_isFilter_106 : decode cV_isFilter 106 = .ok (.aload_n 0, 1) := by decide +kernel
theorem dV_isFilter_107 : decode cV_isFilter 107 = .ok (.getfield 11, 3) := by decide +kernel
theorem dV_isFilter_110 : decode cV_isFilter 110 = .ok (.iload_n 3, 1) := by decide +kernel
theorem dV_isFilter_111 : decode cV_isFilter 111 = .ok (.aaload, 1) := by decide +kernel
theorem dV_isFilter_112 : decode cV_isFilter 112 = .ok (.getfield 36, 3) := by decide +kernel
theorem dV_isFilter_115 : decode cV_isFilter 115 = .ok (.ifCond .eq 20, 3) := by decide +kernel
theorem dV_isFilter_118 : decode cV_isFilter 118 = .ok (.aload_n 0, 1) := by decide +kernel
theorem dV_isFilter_119 : decode cV_isFilter 119 = .ok (.getfield 11, 3) := by decide +kernel
theorem dV_isFilter_122 : decode cV_isFilter 122 = .ok (.iload 4, 2) := by decide +kernel
theorem dV_isFilter_124 : decode cV_isFilter 124 = .ok (.aaload, 1) := by decide +kernel
theorem dV_isFilter_125 : decode cV_isFilter 125 = .ok (.getfield 36, 3) := by decide +kernel
theorem dV_isFilter_128 : decode cV_isFilter 128 = .ok (.ifCond .eq 7, 3) := by decide +kernel
theorem dV_isFilter_131 : decode cV_isFilter 131 = .ok (.iconst 1, 1) := by decide +kernel
theorem dV_isFilter_132 : decode cV_isFilter 132 = .ok (.goto 4, 3) := by decide +kernel
theorem dV_isFilter_135 : decode cV_isFilter 135 = .ok (.iconst 0, 1) := by decide +kernel
theorem dV_isFilter_136 : decode cV_isFilter 136 = .ok (.ireturn, 1) := by decide +kernel
theorem dV_isFilter_137 : decode cV_isFilter 137 = .ok (.iconst 0, 1) := by decide +kernel
theorem dV_isFilter_138 : decode cV_isFilter 138 = .ok (.ireturn, 1) := by decide +kernel
theorem dV_fillOutcomes_0 : decode cV_fillOutcomes 0 = .ok (.iconst 0, 1) := by decide +kernel
theorem dV_fillOutcomes_1 : decode cV_fillOutcomes 1 = .ok (.istore 6, 2) := by decide +kernel
theorem dV_fillOutcomes_3 : decode cV_fillOutcomes 3 = .ok (.iload 6, 2) := by decide +kernel
theorem dV_fillOutcomes_5 : decode cV_fillOutcomes 5 = .ok (.bipush 64, 2) := by decide +kernel
theorem dV_fillOutcomes_7 : decode cV_fillOutcomes 7 = .ok (.if_icmp .ge 47, 3) := by decide +kernel
theorem dV_fillOutcomes_10 : decode cV_fillOutcomes 10 = .ok (.aload_n 1, 1) := by decide +kernel
theorem dV_fillOutcomes_11 : decode cV_fillOutcomes 11 = .ok (.iload 6, 2) := by decide +kernel
theorem dV_fillOutcomes_13 : decode cV_fillOutcomes 13 = .ok (.iload_n 2, 1) := by decide +kernel
theorem dV_fillOutcomes_14 : decode cV_fillOutcomes 14 = .ok (.iconst 2, 1) := by decide +kernel
theorem dV_fillOutcomes_15 : decode cV_fillOutcomes 15 = .ok (.if_icmp .eq 8, 3) := by decide +kernel
theorem dV_fillOutcomes_18 : decode cV_fillOutcomes 18 = .ok (.iload_n 2, 1) := by decide +kernel
theorem dV_fillOutcomes_19 : decode cV_fillOutcomes 19 = .ok (.iconst 3, 1) := by decide +kernel
theorem dV_fillOutcomes_20 : decode cV_fillOutcomes 20 = .ok (.if_icmp .ne 15, 3) := by decide +kernel
theorem dV_fillOutcomes_23 : decode cV_fillOutcomes 23 = .ok (.iload_n 2, 1) := by decide +kernel
theorem dV_fillOutcomes_24 : decode cV_fillOutcomes 24 = .ok (.iload_n 3, 1) := by decide +kernel
theorem dV_fillOutcomes_25 : decode cV_fillOutcomes 25 = .ok (.iload 4, 2) := by decide +kernel
theorem dV_fillOutcomes_27 : decode cV_fillOutcomes 27 = .ok (.iload 6, 2) := by decide +kernel
theorem dV_fillOutcomes_29 : decode cV_fillOutcomes 29 = .ok (.invokestatic 122, 3) := by decide +kernel
theorem dV_fillOutcomes_32 : decode cV_fillOutcomes 32 = .ok (.goto 15, 3) := by decide +kernel
theorem dV_fillOutcomes_35 : decode cV_fillOutcomes 35 = .ok (.aload_n 0, 1) := by decide +kernel
theorem dV_fillOutcomes_36 : decode cV_fillOutcomes 36 = .ok (.iload_n 2, 1) := by decide +kernel
theorem dV_fillOutcomes_37 : decode cV_fillOutcomes 37 = .ok (.iload_n 3, 1) := by decide +kernel
theorem dV_fillOutcomes_38 : decode cV_fillOutcomes 38 = .ok (.iload 4, 2) := by decide +kernel
theorem dV_fillOutcomes_40 : decode cV_fillOutcomes 40 = .ok (.iload 5, 2) := by decide +kernel
theorem dV_fillOutcomes_42 : decode cV_fillOutcomes 42 = .ok (.iload 6, 2) := by decide +kernel
theorem dV_fillOutcomes_44 : decode cV_fillOutcomes 44 = .ok (.invokevirtual 126, 3) := by decide +kernel
theorem dV_fillOutcomes_47 : decode cV_fillOutcomes 47 = .ok (.lastore, 1) := by decide +kernel
theorem dV_fillOutcomes_48 : decode cV_fillOutcomes 48 = .ok (.iinc 6 1, 3) := by decide +kernel
theorem dV_fillOutcomes_51 : decode cV_fillOutcomes 51 = .ok (.goto (-48), 3) := by decide +kernel
theorem dV_fillOutcomes_54 : decode cV_fillOutcomes 54 = .ok (.iload_n 2, 1) := by decide +kernel
theorem dV_fillOutcomes_55 : decode cV_fillOutcomes 55 = .ok (.bipush 6, 2) := by decide +kernel
theorem dV_fillOutcomes_57 : decode cV_fillOutcomes 57 = .ok (.if_icmp .ne 7, 3) := by decide +kernel
theorem dV_fillOutcomes_60 : decode cV_fillOutcomes 60 = .ok (.aload_n 1, 1) := by decide +kernel
theorem dV_fillOutcomes_61 : decode cV_fillOutcomes 61 = .ok (.invokestatic 130, 3) := by decide +kernel
theorem dV_fillOutcomes_64 : decode cV_fillOutcomes 64 = .ok (.return_, 1) := by decide +kernel
theorem dV_fieldOutcome_0 : decode cV_fieldOutcome 0 = .ok (.iload_n 3, 1) := by decide +kernel
theorem dV_fieldOutcome_1 : decode cV_fieldOutcome 1 = .ok (.iload_n 1, 1) := by decide +kernel
theorem dV_fieldOutcome_2 : decode cV_fieldOutcome 2 = .ok (.invokestatic 111, 3) := by decide +kernel
theorem dV_fieldOutcome_5 : decode cV_fieldOutcome 5 = .ok (.istore 4, 2) := by decide +kernel
theorem dV_fieldOutcome_7 : decode cV_fieldOutcome 7 = .ok (.iload_n 0, 1) := by decide +kernel
theorem dV_fieldOutcome_8 : decode cV_fieldOutcome 8 = .ok (.iconst 3, 1) := by decide +kernel
theorem dV_fieldOutcome_9 : decode cV_fieldOutcome 9 = .ok (.if_icmp .ne 18, 3) := by decide +kernel
theorem dV_fieldOutcome_12 : decode cV_fieldOutcome 12 = .ok (.iload_n 3, 1) := by decide +kernel
theorem dV_fieldOutcome_13 : decode cV_fieldOutcome 13 = .ok (.iload_n 2, 1) := by decide +kernel
theorem dV_fieldOutcome_14 : decode cV_fieldOutcome 14 = .ok (.iload 4, 2) := by decide +kernel
theorem dV_fieldOutcome_16 : decode cV_fieldOutcome 16 = .ok (.isub, 1) := by decide +kernel
theorem dV_fieldOutcome_17 : decode cV_fieldOutcome 17 = .ok (.iload_n 1, 1) := by decide +kernel
theorem dV_fieldOutcome_18 : decode cV_fieldOutcome 18 = .ok (.invokestatic 134, 3) := by decide +kernel
theorem dV_fieldOutcome_21 : decode cV_fieldOutcome 21 = .ok (.imul, 1) := by decide +kernel
theorem dV_fieldOutcome_22 : decode cV_fieldOutcome 22 = .ok (.iadd, 1) := by decide +kernel
theorem dV_fieldOutcome_23 : decode cV_fieldOutcome 23 = .ok (.invokestatic 76, 3) := by decide +kernel
theorem dV_fieldOutcome_26 : decode cV_fieldOutcome 26 = .ok (.lreturn, 1) := by decide +kernel
theorem dV_fieldOutcome_27 : decode cV_fieldOutcome 27 = .ok (.iload 4, 2) := by decide +kernel
theorem dV_fieldOutcome_29 : decode cV_fieldOutcome 29 = .ok (.iload_n 2, 1) := by decide +kernel
theorem dV_fieldOutcome_30 : decode cV_fieldOutcome 30 = .ok (.if_icmp .ne 10, 3) := by decide +kernel
theorem dV_fieldOutcome_33 : decode cV_fieldOutcome 33 = .ok (.iload_n 3, 1) := by decide +kernel
theorem dV_fieldOutcome_34 : decode cV_fieldOutcome 34 = .ok (.invokestatic 76, 3) := by decide +kernel
theorem dV_fieldOutcome_37 : decode cV_fieldOutcome 37 = .ok (.goto 4, 3) := by decide +kernel
theorem dV_fieldOutcome_40 : decode cV_fieldOutcome 40 = .ok (.lconst 0, 1) := by decide +kernel
theorem dV_fieldOutcome_41 : decode cV_fieldOutcome 41 = .ok (.lreturn, 1) := by decide +kernel
theorem dV_joinedOutcome_0 : decode cV_joinedOutcome 0 = .ok (.iload_n 1, 1) := by decide +kernel
theorem dV_joinedOutcome_1 : decode cV_joinedOutcome 1 = .ok (.tableswitch 156 1 8 #[47, 156, 156, 53, 69, 89, 103, 125], 47) := by decide +kernel
theorem dV_joinedOutcome_48 : decode cV_joinedOutcome 48 = .ok (.iload 5, 2) := by decide +kernel
theorem dV_joinedOutcome_50 : decode cV_joinedOutcome 50 = .ok (.invokestatic 76, 3) := by decide +kernel
theorem dV_joinedOutcome_53 : decode cV_joinedOutcome 53 = .ok (.lreturn, 1) := by decide +kernel
theorem dV_joinedOutcome_54 : decode cV_joinedOutcome 54 = .ok (.aload_n 0, 1) := by decide +kernel
theorem dV_joinedOutcome_55 : decode cV_joinedOutcome 55 = .ok (.iload_n 2, 1) := by decide +kernel
theorem dV_joinedOutcome_56 : decode cV_joinedOutcome 56 = .ok (.iload 5, 2) := by decide +kernel
theorem dV_joinedOutcome_58 : decode cV_joinedOutcome 58 = .ok (.invokevirtual 138, 3) := by decide +kernel
theorem dV_joinedOutcome_61 : decode cV_joinedOutcome 61 = .ok (.aload_n 0, 1) := by decide +kernel
theorem dV_joinedOutcome_62 : decode cV_joinedOutcome 62 = .ok (.iload_n 3, 1) := by decide +kernel
theorem dV_joinedOutcome_63 : decode cV_joinedOutcome 63 = .ok (.iload 5, 2) := by decide +kernel
theorem dV_joinedOutcome_65 : decode cV_joinedOutcome 65 = .ok (.invokevirtual 138, 3) := by decide +kernel
theorem dV_joinedOutcome_68 : decode cV_joinedOutcome 68 = .ok (.lor, 1) := by decide +kernel
theorem dV_joinedOutcome_69 : decode cV_joinedOutcome 69 = .ok (.lreturn, 1) := by decide +kernel
theorem dV_joinedOutcome_70 : decode cV_joinedOutcome 70 = .ok (.aload_n 0, 1) := by decide +kernel
theorem dV_joinedOutcome_71 : decode cV_joinedOutcome 71 = .ok (.getfield 11, 3) := by decide +kernel
theorem dV_joinedOutcome_74 : decode cV_joinedOutcome 74 = .ok (.iload_n 3, 1) := by decide +kernel
theorem dV_joinedOutcome_75 : decode cV_joinedOutcome 75 = .ok (.aaload, 1) := by decide +kernel
theorem dV_joinedOutcome_76 : decode cV_joinedOutcome 76 = .ok (.getfield 52, 3) := by decide +kernel
theorem dV_joinedOutcome_79 : decode cV_joinedOutcome 79 = .ok (.aload_n 0, 1) := by decide +kernel
theorem dV_joinedOutcome_80 : decode cV_joinedOutcome 80 = .ok (.iload_n 2, 1) := by decide +kernel
theorem dV_joinedOutcome_81 : decode cV_joinedOutcome 81 = .ok (.iload 5, 2) := by decide +kernel
theorem dV_joinedOutcome_83 : decode cV_joinedOutcome 83 = .ok (.invokevirtual 138, 3) := by decide +kernel
theorem dV_joinedOutcome_86 : decode cV_joinedOutcome 86 = .ok (.invokestatic 72, 3) := by decide +kernel
theorem dV_joinedOutcome_89 : decode cV_joinedOutcome 89 = .ok (.lreturn, 1) := by decide +kernel
theorem dV_joinedOutcome_90 : decode cV_joinedOutcome 90 = .ok (.iload 5, 2) := by decide +kernel
theorem dV_joinedOutcome_92 : decode cV_joinedOutcome 92 = .ok (.invokestatic 76, 3) := by decide +kernel
theorem dV_joinedOutcome_95 : decode cV_joinedOutcome 95 = .ok (.aload_n 0, 1) := by decide +kernel
theorem dV_joinedOutcome_96 : decode cV_joinedOutcome 96 = .ok (.iload_n 2, 1) := by decide +kernel
theorem dV_joinedOutcome_97 : decode cV_joinedOutcome 97 = .ok (.iload 5, 2) := by decide +kernel
theorem dV_joinedOutcome_99 : decode cV_joinedOutcome 99 = .ok (.invokevirtual 138, 3) := by decide +kernel
theorem dV_joinedOutcome_102 : decode cV_joinedOutcome 102 = .ok (.lor, 1) := by decide +kernel
theorem dV_joinedOutcome_103 : decode cV_joinedOutcome 103 = .ok (.lreturn, 1) := by decide +kernel
theorem dV_joinedOutcome_104 : decode cV_joinedOutcome 104 = .ok (.aload_n 0, 1) := by decide +kernel
theorem dV_joinedOutcome_105 : decode cV_joinedOutcome 105 = .ok (.iload_n 2, 1) := by decide +kernel
theorem dV_joinedOutcome_106 : decode cV_joinedOutcome 106 = .ok (.iload 5, 2) := by decide +kernel
theorem dV_joinedOutcome_108 : decode cV_joinedOutcome 108 = .ok (.invokevirtual 138, 3) := by decide +kernel
theorem dV_joinedOutcome_111 : decode cV_joinedOutcome 111 = .ok (.lconst 0, 1) := by decide +kernel
theorem dV_joinedOutcome_112 : decode cV_joinedOutcome 112 = .ok (.lcmp, 1) := by decide +kernel
theorem dV_joinedOutcome_113 : decode cV_joinedOutcome 113 = .ok (.ifCond .ne 11, 3) := by decide +kernel
theorem dV_joinedOutcome_116 : decode cV_joinedOutcome 116 = .ok (.iload 5, 2) := by decide +kernel
theorem dV_joinedOutcome_118 : decode cV_joinedOutcome 118 = .ok (.invokestatic 76, 3) := by decide +kernel
theorem dV_joinedOutcome_121 : decode cV_joinedOutcome 121 = .ok (.goto 4, 3) := by decide +kernel
theorem dV_joinedOutcome_124 : decode cV_joinedOutcome 124 = .ok (.lconst 0, 1) := by decide +kernel
theorem dV_joinedOutcome_125 : decode cV_joinedOutcome 125 = .ok (.lreturn, 1) := by decide +kernel
theorem dV_joinedOutcome_126 : decode cV_joinedOutcome 126 = .ok (.aload_n 0, 1) := by decide +kernel
theorem dV_joinedOutcome_127 : decode cV_joinedOutcome 127 = .ok (.iload_n 2, 1) := by decide +kernel
theorem dV_joinedOutcome_128 : decode cV_joinedOutcome 128 = .ok (.iload 5, 2) := by decide +kernel
theorem dV_joinedOutcome_130 : decode cV_joinedOutcome 130 = .ok (.invokevirtual 138, 3) := by decide +kernel
theorem dV_joinedOutcome_133 : decode cV_joinedOutcome 133 = .ok (.lconst 0, 1) := by decide +kernel
theorem dV_joinedOutcome_134 : decode cV_joinedOutcome 134 = .ok (.lcmp, 1) := by decide +kernel
theorem dV_joinedOutcome_135 : decode cV_joinedOutcome 135 = .ok (.ifCond .eq 13, 3) := by decide +kernel
theorem dV_joinedOutcome_138 : decode cV_joinedOutcome 138 = .ok (.aload_n 0, 1) := by decide +kernel
theorem dV_joinedOutcome_139 : decode cV_joinedOutcome 139 = .ok (.iload_n 3, 1) := by decide +kernel
theorem dV_joinedOutcome_140 : decode cV_joinedOutcome 140 = .ok (.iload 5, 2) := by decide +kernel
theorem dV_joinedOutcome_142 : decode cV_joinedOutcome 142 = .ok (.invokevirtual 138, 3) := by decide +kernel
theorem dV_joinedOutcome_145 : decode cV_joinedOutcome 145 = .ok (.goto 11, 3) := by decide +kernel
theorem dV_joinedOutcome_148 : decode cV_joinedOutcome 148 = .ok (.aload_n 0, 1) := by decide +kernel
theorem dV_joinedOutcome_149 : decode cV_joinedOutcome 149 = .ok (.iload 4, 2) := by decide +kernel
theorem dV_joinedOutcome_151 : decode cV_joinedOutcome 151 = .ok (.iload 5, 2) := by decide +kernel
theorem dV_joinedOutcome_153 : decode cV_joinedOutcome 153 = .ok (.invokevirtual 138, 3) := by decide +kernel
theorem dV_joinedOutcome_156 : decode cV_joinedOutcome 156 = .ok (.lreturn, 1) := by decide +kernel
theorem dV_joinedOutcome_157 : decode cV_joinedOutcome 157 = .ok (.lconst 0, 1) := by decide +kernel
theorem dV_joinedOutcome_158 : decode cV_joinedOutcome 158 = .ok (.lreturn, 1) := by decide +kernel
theorem dV_given_0 : decode cV_given 0 = .ok (.aload_n 0, 1) := by decide +kernel
theorem dV_given_1 : decode cV_given 1 = .ok (.getfield 11, 3) := by decide +kernel
theorem dV_given_4 : decode cV_given 4 = .ok (.iload_n 1, 1) := by decide +kernel
theorem dV_given_5 : decode cV_given 5 = .ok (.aaload, 1) := by decide +kernel
theorem dV_given_6 : decode cV_given 6 = .ok (.getfield 52, 3) := by decide +kernel
theorem dV_given_9 : decode cV_given 9 = .ok (.iload_n 2, 1) := by decide +kernel
theorem dV_given_10 : decode cV_given 10 = .ok (.laload, 1) := by decide +kernel
theorem dV_given_11 : decode cV_given 11 = .ok (.lreturn, 1) := by decide +kernel
theorem dV_closeOverSteps_0 : decode cV_closeOverSteps 0 = .ok (.iconst 0, 1) := by decide +kernel
theorem dV_closeOverSteps_1 : decode cV_closeOverSteps 1 = .ok (.istore_n 1, 1) := by decide +kernel
theorem dV_closeOverSteps_2 : decode cV_closeOverSteps 2 = .ok (.iload_n 1, 1) := by decide +kernel
theorem dV_closeOverSteps_3 : decode cV_closeOverSteps 3 = .ok (.bipush 64, 2) := by decide +kernel
theorem dV_closeOverSteps_5 : decode cV_closeOverSteps 5 = .ok (.if_icmp .ge 42, 3) := by decide +kernel
theorem dV_closeOverSteps_8 : decode cV_closeOverSteps 8 = .ok (.iconst 0, 1) := by decide +kernel
theorem dV_closeOverSteps_9 : decode cV_closeOverSteps 9 = .ok (.istore_n 2, 1) := by decide +kernel
theorem dV_closeOverSteps_10 : decode cV_closeOverSteps 10 = .ok (.iload_n 2, 1) := by decide +kernel
theorem dV_closeOverSteps_11 : decode cV_closeOverSteps 11 = .ok (.bipush 64, 2) := by decide +kernel
theorem dV_closeOverSteps_13 : decode cV_closeOverSteps 13 = .ok (.if_icmp .ge 28, 3) := by decide +kernel
theorem dV_closeOverSteps_16 : decode cV_closeOverSteps 16 = .ok (.aload_n 0, 1) := by decide +kernel
theorem dV_closeOverSteps_17 : decode cV_closeOverSteps 17 = .ok (.iload_n 2, 1) := by decide +kernel
theorem dV_closeOverSteps_18 : decode cV_closeOverSteps 18 = .ok (.laload, 1) := by decide +kernel
theorem dV_closeOverSteps_19 : decode cV_closeOverSteps 19 = .ok (.iload_n 1, 1) := by decide +kernel
theorem dV_closeOverSteps_20 : decode cV_closeOverSteps 20 = .ok (.invokestatic 142, 3) := by decide +kernel
theorem dV_closeOverSteps_23 : decode cV_closeOverSteps 23 = .ok (.ifCond .eq 12, 3) := by decide +kernel
theorem dV_closeOverSteps_26 : decode cV_closeOverSteps 26 = .ok (.aload_n 0, 1) := by decide +kernel
theorem dV_closeOverSteps_27 : decode cV_closeOverSteps 27 = .ok (.iload_n 2, 1) := by decide +kernel
theorem dV_closeOverSteps_28 : decode cV_closeOverSteps 28 = .ok (.dup2, 1) := by decide +kernel
theorem dV_closeOverSteps_29 : decode cV_closeOverSteps 29 = .ok (.laload, 1) := by decide +kernel
theorem dV_closeOverSteps_30 : decode cV_closeOverSteps 30 = .ok (.aload_n 0, 1) := by decide +kernel
theorem dV_closeOverSteps_31 : decode cV_closeOverSteps 31 = .ok (.iload_n 1, 1) := by decide +kernel
theorem dV_closeOverSteps_32 : decode cV_closeOverSteps 32 = .ok (.laload, 1) := by decide +kernel
theorem dV_closeOverSteps_33 : decode cV_closeOverSteps 33 = .ok (.lor, 1) := by decide +kernel
theorem dV_closeOverSteps_34 : decode cV_closeOverSteps 34 = .ok (.lastore, 1) := by decide +kernel
theorem dV_closeOverSteps_35 : decode cV_closeOverSteps 35 = .ok (.iinc 2 1, 3) := by decide +kernel
theorem dV_closeOverSteps_38 : decode cV_closeOverSteps 38 = .ok (.goto (-28), 3) := by decide +kernel
theorem dV_closeOverSteps_41 : decode cV_closeOverSteps 41 = .ok (.iinc 1 1, 3) := by decide +kernel
theorem dV_closeOverSteps_44 : decode cV_closeOverSteps 44 = .ok (.goto (-42), 3) := by decide +kernel
theorem dV_closeOverSteps_47 : decode cV_closeOverSteps 47 = .ok (.return_, 1) := by decide +kernel
theorem dV_keep_0 : decode cV_keep 0 = .ok (.aload_n 0, 1) := by decide +kernel
theorem dV_keep_1 : decode cV_keep 1 = .ok (.aload_n 1, 1) := by decide +kernel
theorem dV_keep_2 : decode cV_keep 2 = .ok (.getfield 52, 3) := by decide +kernel
theorem dV_keep_5 : decode cV_keep 5 = .ok (.invokevirtual 146, 3) := by decide +kernel
theorem dV_keep_8 : decode cV_keep 8 = .ok (.ifCond .eq 13, 3) := by decide +kernel
theorem dV_keep_11 : decode cV_keep 11 = .ok (.aload_n 0, 1) := by decide +kernel
theorem dV_keep_12 : decode cV_keep 12 = .ok (.dup, 1) := by decide +kernel
theorem dV_keep_13 : decode cV_keep 13 = .ok (.getfield 26, 3) := by decide +kernel
theorem dV_keep_16 : decode cV_keep 16 = .ok (.iconst 1, 1) := by decide +kernel
theorem dV_keep_17 : decode cV_keep 17 = .ok (.iadd, 1) := by decide +kernel
theorem dV_keep_18 : decode cV_keep 18 = .ok (.putfield 26, 3) := by decide +kernel
theorem dV_keep_21 : decode cV_keep 21 = .ok (.aload_n 0, 1) := by decide +kernel
theorem dV_keep_22 : decode cV_keep 22 = .ok (.getfield 22, 3) := by decide +kernel
theorem dV_keep_25 : decode cV_keep 25 = .ok (.istore_n 2, 1) := by decide +kernel
theorem dV_keep_26 : decode cV_keep 26 = .ok (.aload_n 0, 1) := by decide +kernel
theorem dV_keep_27 : decode cV_keep 27 = .ok (.getfield 11, 3) := by decide +kernel
theorem dV_keep_30 : decode cV_keep 30 = .ok (.iload_n 2, 1) := by decide +kernel
theorem dV_keep_31 : decode cV_keep 31 = .ok (.aload_n 1, 1) := by decide +kernel
theorem dV_keep_32 : decode cV_keep 32 = .ok (.aastore, 1) := by decide +kernel
theorem dV_keep_33 : decode cV_keep 33 = .ok (.aload_n 0, 1) := by decide +kernel
theorem dV_keep_34 : decode cV_keep 34 = .ok (.dup, 1) := by decide +kernel
theorem dV_keep_35 : decode cV_keep 35 = .ok (.getfield 22, 3) := by decide +kernel
theorem dV_keep_38 : decode cV_keep 38 = .ok (.iconst 1, 1) := by decide +kernel
theorem dV_keep_39 : decode cV_keep 39 = .ok (.iadd, 1) := by decide +kernel
theorem dV_keep_40 : decode cV_keep 40 = .ok (.putfield 22, 3) := by decide +kernel
theorem dV_keep_43 : decode cV_keep 43 = .ok (.iload_n 2, 1) := by decide +kernel
theorem dV_keep_44 : decode cV_keep 44 = .ok (.ireturn, 1) := by decide +kernel
theorem dV_isNew_0 : decode cV_isNew 0 = .ok (.iconst 0, 1) := by decide +kernel
theorem dV_isNew_1 : decode cV_isNew 1 = .ok (.istore_n 2, 1) := by decide +kernel
theorem dV_isNew_2 : decode cV_isNew 2 = .ok (.iload_n 2, 1) := by decide +kernel
theorem dV_isNew_3 : decode cV_isNew 3 = .ok (.aload_n 0, 1) := by decide +kernel
theorem dV_isNew_4 : decode cV_isNew 4 = .ok (.getfield 22, 3) := by decide +kernel
theorem dV_isNew_7 : decode cV_isNew 7 = .ok (.if_icmp .ge 28, 3) := by decide +kernel
theorem dV_isNew_10 : decode cV_isNew 10 = .ok (.aload_n 0, 1) := by decide +kernel
theorem dV_isNew_11 : decode cV_isNew 11 = .ok (.getfield 11, 3) := by decide +kernel
theorem dV_isNew_14 : decode cV_isNew 14 = .ok (.iload_n 2, 1) := by decide +kernel
theorem dV_isNew_15 : decode cV_isNew 15 = .ok (.aaload, 1) := by decide +kernel
theorem dV_isNew_16 : decode cV_isNew 16 = .ok (.getfield 52, 3) := by decide +kernel
theorem dV_isNew_19 : decode cV_isNew 19 = .ok (.aload_n 1, 1) := by decide +kernel
theorem dV_isNew_20 : decode cV_isNew 20 = .ok (.invokestatic 80, 3) := by decide +kernel
theorem dV_isNew_23 : decode cV_isNew 23 = .ok (.iconst (-1), 1) := by decide +kernel
theorem dV_isNew_24 : decode cV_isNew 24 = .ok (.if_icmp .ne 5, 3) := by decide +kernel
theorem dV_isNew_27 : decode cV_isNew 27 = .ok (.iconst 0, 1) := by decide +kernel
theorem dV_isNew_28 : decode cV_isNew 28 = .ok (.ireturn, 1) := by decide +kernel
theorem dV_isNew_29 : decode cV_isNew 29 = .ok (.iinc 2 1, 3) := by decide +kernel
theorem dV_isNew_32 : decode cV_isNew 32 = .ok (.goto (-30), 3) := by decide +kernel
theorem dV_isNew_35 : decode cV_isNew 35 = .ok (.iconst 1, 1) := by decide +kernel
theorem dV_isNew_36 : decode cV_isNew 36 = .ok (.ireturn, 1) := by decide +kernel
theorem dV_tableOf_0 : decode cV_tableOf 0 = .ok (.aload_n 1, 1) := by decide +kernel
theorem dV_tableOf_1 : decode cV_tableOf 1 = .ok (.getfield 150, 3) := by decide +kernel
theorem dV_tableOf_4 : decode cV_tableOf 4 = .ok (.ifnonnull 35, 3) := by decide +kernel
theorem dV_tableOf_7 : decode cV_tableOf 7 = .ok (.aload_n 0, 1) := by decide +kernel
theorem dV_tableOf_8 : decode cV_tableOf 8 = .ok (.getfield 18, 3) := by decide +kernel
theorem dV_tableOf_11 : decode cV_tableOf 11 = .ok (.aload_n 1, 1) := by decide +kernel
theorem dV_tableOf_12 : decode cV_tableOf 12 = .ok (.getfield 52, 3) := by decide +kernel
theorem dV_tableOf_15 : decode cV_tableOf 15 = .ok (.invokevirtual 154, 3) := by decide +kernel
theorem dV_tableOf_18 : decode cV_tableOf 18 = .ok (.new 91, 3) := by decide +kernel
theorem dV_tableOf_21 : decode cV_tableOf 21 = .ok (.dup, 1) := by decide +kernel
theorem dV_tableOf_22 : decode cV_tableOf 22 = .ok (.invokespecial 157, 3) := by decide +kernel
theorem dV_tableOf_25 : decode cV_tableOf 25 = .ok (.astore_n 2, 1) := by decide +kernel
theorem dV_tableOf_26 : decode cV_tableOf 26 = .ok (.aload_n 2, 1) := by decide +kernel
theorem dV_tableOf_27 : decode cV_tableOf 27 = .ok (.aload_n 0, 1) := by decide +kernel
theorem dV_tableOf_28 : decode cV_tableOf 28 = .ok (.getfield 18, 3) := by decide +kernel
theorem dV_tableOf_31 : decode cV_tableOf 31 = .ok (.invokevirtual 158, 3) := by decide +kernel
theorem dV_tableOf_34 : decode cV_tableOf 34 = .ok (.aload_n 1, 1) := by decide +kernel
theorem dV_tableOf_35 : decode cV_tableOf 35 = .ok (.aload_n 2, 1) := by decide +kernel
theorem dV_tableOf_36 : decode cV_tableOf 36 = .ok (.putfield 150, 3) := by decide +kernel
theorem dV_tableOf_39 : decode cV_tableOf 39 = .ok (.aload_n 1, 1) := by decide +kernel
theorem dV_tableOf_40 : decode cV_tableOf 40 = .ok (.getfield 150, 3) := by decide +kernel
theorem dV_tableOf_43 : decode cV_tableOf 43 = .ok (.areturn, 1) := by decide +kernel
theorem dV_givenFor_0 : decode cV_givenFor 0 = .ok (.lconst 0, 1) := by decide +kernel
theorem dV_givenFor_1 : decode cV_givenFor 1 = .ok (.lstore_n 3, 1) := by decide +kernel
theorem dV_givenFor_2 : decode cV_givenFor 2 = .ok (.iconst 0, 1) := by decide +kernel
theorem dV_givenFor_3 : decode cV_givenFor 3 = .ok (.istore 5, 2) := by decide +kernel
theorem dV_givenFor_5 : decode cV_givenFor 5 = .ok (.iload 5, 2) := by decide +kernel
theorem dV_givenFor_7 : decode cV_givenFor 7 = .ok (.bipush 64, 2) := by decide +kernel
theorem dV_givenFor_9 : decode cV_givenFor 9 = .ok (.if_icmp .ge 25, 3) := by decide +kernel
theorem dV_givenFor_12 : decode cV_givenFor 12 = .ok (.lload_n 1, 1) := by decide +kernel
theorem dV_givenFor_13 : decode cV_givenFor 13 = .ok (.iload 5, 2) := by decide +kernel
theorem dV_givenFor_15 : decode cV_givenFor 15 = .ok (.invokestatic 142, 3) := by decide +kernel
theorem dV_givenFor_18 : decode cV_givenFor 18 = .ok (.ifCond .eq 10, 3) := by decide +kernel
theorem dV_givenFor_21 : decode cV_givenFor 21 = .ok (.lload_n 3, 1) := by decide +kernel
theorem dV_givenFor_22 : decode cV_givenFor 22 = .ok (.aload_n 0, 1) := by decide +kernel
theorem dV_givenFor_23 : decode cV_givenFor 23 = .ok (.iload 5, 2) := by decide +kernel
theorem dV_givenFor_25 : decode cV_givenFor 25 = .ok (.laload, 1) := by decide +kernel
theorem dV_givenFor_26 : decode cV_givenFor 26 = .ok (.lor, 1) := by decide +kernel
theorem dV_givenFor_27 : decode cV_givenFor 27 = .ok (.lstore_n 3, 1) := by decide +kernel
theorem dV_givenFor_28 : decode cV_givenFor 28 = .ok (.iinc 5 1, 3) := by decide +kernel
theorem dV_givenFor_31 : decode cV_givenFor 31 = .ok (.goto (-26), 3) := by decide +kernel
theorem dV_givenFor_34 : decode cV_givenFor 34 = .ok (.lload_n 3, 1) := by decide +kernel
theorem dV_givenFor_35 : decode cV_givenFor 35 = .ok (.lreturn, 1) := by decide +kernel
theorem dV_leastDifference_0 : decode cV_leastDifference 0 = .ok (.iconst 0, 1) := by decide +kernel
theorem dV_leastDifference_1 : decode cV_leastDifference 1 = .ok (.istore_n 2, 1) := by decide +kernel
theorem dV_leastDifference_2 : decode cV_leastDifference 2 = .ok (.iload_n 2, 1) := by decide +kernel
theorem dV_leastDifference_3 : decode cV_leastDifference 3 = .ok (.bipush 64, 2) := by decide +kernel
theorem dV_leastDifference_5 : decode cV_leastDifference 5 = .ok (.if_icmp .ge 21, 3) := by decide +kernel
theorem dV_leastDifference_8 : decode cV_leastDifference 8 = .ok (.aload_n 0, 1) := by decide +kernel
theorem dV_leastDifference_9 : decode cV_leastDifference 9 = .ok (.iload_n 2, 1) := by decide +kernel
theorem dV_leastDifference_10 : decode cV_leastDifference 10 = .ok (.laload, 1) := by decide +kernel
theorem dV_leastDifference_11 : decode cV_leastDifference 11 = .ok (.aload_n 1, 1) := by decide +kernel
theorem dV_leastDifference_12 : decode cV_leastDifference 12 = .ok (.iload_n 2, 1) := by decide +kernel
theorem dV_leastDifference_13 : decode cV_leastDifference 13 = .ok (.laload, 1) := by decide +kernel
theorem dV_leastDifference_14 : decode cV_leastDifference 14 = .ok (.lcmp, 1) := by decide +kernel
theorem dV_leastDifference_15 : decode cV_leastDifference 15 = .ok (.ifCond .eq 5, 3) := by decide +kernel
theorem dV_leastDifference_18 : decode cV_leastDifference 18 = .ok (.iload_n 2, 1) := by decide +kernel
theorem dV_leastDifference_19 : decode cV_leastDifference 19 = .ok (.ireturn, 1) := by decide +kernel
theorem dV_leastDifference_20 : decode cV_leastDifference 20 = .ok (.iinc 2 1, 3) := by decide +kernel
theorem dV_leastDifference_23 : decode cV_leastDifference 23 = .ok (.goto (-21), 3) := by decide +kernel
theorem dV_leastDifference_26 : decode cV_leastDifference 26 = .ok (.iconst (-1), 1) := by decide +kernel
theorem dV_leastDifference_27 : decode cV_leastDifference 27 = .ok (.ireturn, 1) := by decide +kernel
theorem dV_only_0 : decode cV_only 0 = .ok (.lconst 1, 1) := by decide +kernel
theorem dV_only_1 : decode cV_only 1 = .ok (.iload_n 0, 1) := by decide +kernel
theorem dV_only_2 : decode cV_only 2 = .ok (.lshl, 1) := by decide +kernel
theorem dV_only_3 : decode cV_only 3 = .ok (.lreturn, 1) := by decide +kernel
theorem dV_has_0 : decode cV_has 0 = .ok (.lload_n 0, 1) := by decide +kernel
theorem dV_has_1 : decode cV_has 1 = .ok (.iload_n 2, 1) := by decide +kernel
theorem dV_has_2 : decode cV_has 2 = .ok (.lushr, 1) := by decide +kernel
theorem dV_has_3 : decode cV_has 3 = .ok (.lconst 1, 1) := by decide +kernel
theorem dV_has_4 : decode cV_has 4 = .ok (.land, 1) := by decide +kernel
theorem dV_has_5 : decode cV_has 5 = .ok (.lconst 0, 1) := by decide +kernel
theorem dV_has_6 : decode cV_has 6 = .ok (.lcmp, 1) := by decide +kernel
theorem dV_has_7 : decode cV_has 7 = .ok (.ifCond .eq 7, 3) := by decide +kernel
theorem dV_has_10 : decode cV_has 10 = .ok (.iconst 1, 1) := by decide +kernel
theorem dV_has_11 : decode cV_has 11 = .ok (.goto 4, 3) := by decide +kernel
theorem dV_has_14 : decode cV_has 14 = .ok (.iconst 0, 1) := by decide +kernel
theorem dV_has_15 : decode cV_has 15 = .ok (.ireturn, 1) := by decide +kernel
theorem dV_shiftOf_0 : decode cV_shiftOf 0 = .ok (.iconst 2, 1) := by decide +kernel
theorem dV_shiftOf_1 : decode cV_shiftOf 1 = .ok (.iconst 2, 1) := by decide +kernel
theorem dV_shiftOf_2 : decode cV_shiftOf 2 = .ok (.iload_n 0, 1) := by decide +kernel
theorem dV_shiftOf_3 : decode cV_shiftOf 3 = .ok (.isub, 1) := by decide +kernel
theorem dV_shiftOf_4 : decode cV_shiftOf 4 = .ok (.imul, 1) := by decide +kernel
theorem dV_shiftOf_5 : decode cV_shiftOf 5 = .ok (.ireturn, 1) := by decide +kernel
theorem dV_weightOf_0 : decode cV_weightOf 0 = .ok (.iconst 1, 1) := by decide +kernel
theorem dV_weightOf_1 : decode cV_weightOf 1 = .ok (.iload_n 0, 1) := by decide +kernel
theorem dV_weightOf_2 : decode cV_weightOf 2 = .ok (.invokestatic 162, 3) := by decide +kernel
theorem dV_weightOf_5 : decode cV_weightOf 5 = .ok (.ishl, 1) := by decide +kernel
theorem dV_weightOf_6 : decode cV_weightOf 6 = .ok (.ireturn, 1) := by decide +kernel
theorem dV_valueOf_0 : decode cV_valueOf 0 = .ok (.iload_n 0, 1) := by decide +kernel
theorem dV_valueOf_1 : decode cV_valueOf 1 = .ok (.iload_n 1, 1) := by decide +kernel
theorem dV_valueOf_2 : decode cV_valueOf 2 = .ok (.invokestatic 162, 3) := by decide +kernel
theorem dV_valueOf_5 : decode cV_valueOf 5 = .ok (.ishr, 1) := by decide +kernel
theorem dV_valueOf_6 : decode cV_valueOf 6 = .ok (.iconst 3, 1) := by decide +kernel
theorem dV_valueOf_7 : decode cV_valueOf 7 = .ok (.iand, 1) := by decide +kernel
theorem dV_valueOf_8 : decode cV_valueOf 8 = .ok (.ireturn, 1) := by decide +kernel
